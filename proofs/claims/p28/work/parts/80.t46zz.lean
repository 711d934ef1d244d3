

def v_capartB : List Cond := .code yX12_apart cX12_apart 2 (some .int) :: vA
abbrev rm_capartB : Room := { frames := 0, cells := 0, slots := 0, locals := 0 }
set_option maxHeartbeats 4000000 in
set_option maxRecDepth 100000 in
theorem q_capartB (l : Launch) (a0 : Int32) (a1 : Int32) (hh0 : -1000000 ≤ a0.toInt ∧ a0.toInt ≤ 1000000) (hh1 : -1000000 ≤ a1.toInt ∧ a1.toInt ≤ 1000000) : Met l yX12_apart v_capartB rm_capartB (va_Pc [.int a0, .int a1] (fun _ => True)) (va_Qi (S := Unit) (fun r _ => (r.toInt = ab (a0.toInt - a1.toInt))) (fun _ _ => True) (fun _ => False)) 0 0 (fun _ => False) := by
  refine Met.ofW (cc := cX12_apart) (maxL := 2) (ret := (some .int)) (by decide) rfl ?_
  intro p e s m args below meth c s₁ B hml hv
  obtain ⟨hargs, -⟩ := hv
  have hx := B.exec
  have hb := B.bytes
  have hr := B.returns
  have hts := atoms_spec (ws := v_capartB) B.pre
  have hown : s.vm.findClass RX12 = some m.cls := findClass_of_methodNamed B.named
  have hlocks := B.notSynchronized
  have hS : va_S (fun _ : Nat => False) s.heap s.heap [] := va_S.rf
  have hl := lv_entry ([.int a0, .int a1]) (n := 2) (Nat.le_of_ble_eq_true rfl)
  obtain ⟨Q, hQ⟩ : ∃ Q, Q = MQ below (va_Qi (S := Unit) (fun r _ => (r.toInt = ab (a0.toInt - a1.toInt))) (fun _ _ => True) (fun _ => False)) args s 0 0 (fun _ => False) := ⟨_, rfl⟩
  rw [← hQ, show entryFrame m args 2 = _ from (congrArg (fun z => entryFrame m z 2) hargs).trans (lg_entry_eq _ _ _)]
  generalize (lg_sl ([.int a0, .int a1]) ++ List.replicate (2 - (lg_sl ([.int a0, .int a1])).length) Slot.unset).toArray = ls at hl ⊢
  have hl : lv_has ls 2 [(0, .int a0), (1, .int a1)] := hl
  refine lv_iload_n hx hb dX12_apart_0 rfl (lv_at hl 0 rfl) ?_
  refine lv_iload_n hx hb dX12_apart_1 rfl (lv_at hl 1 rfl) ?_
  refine lv_icmp_le (tgt := 11) hx hb dX12_apart_2 (by decide) (fun c1 => ?_) (fun c1 => ?_)
  · --2 taken
    have t2 : a0.toInt ≤ a1.toInt := ti_le c1
    refine lv_iload_n hx hb dX12_apart_11 rfl (lv_at hl 1 rfl) ?_
    refine lv_iload_n hx hb dX12_apart_12 rfl (lv_at hl 0 rfl) ?_
    refine lv_isub hx hb dX12_apart_13 ?_
    refine lv_topi (fun y3 ey3 => ?_)
    obtain ⟨ty3, iy3⟩ := ti_sub (e := (-2000000)) (f := 2000000) hh1 hh0 ey3 (by decide)
    have ty3 : y3.toInt = a1.toInt - a0.toInt := ty3
    have iy3 : -2000000 ≤ y3.toInt ∧ y3.toInt ≤ 2000000 := iy3
    rw [hQ]
    exact W.iret (v := y3) hx hb hr (fun t ht hW => ⟨⟨y3, (), rfl, (by unfold ab; omega), trivial⟩, hS.F ht⟩) hS.2.2 dX12_apart_14
  · --2 not
    have t4 : a1.toInt < a0.toInt := ti_nle c1
    have i5 : -1000000 ≤ a1.toInt ∧ a1.toInt ≤ 999999 := iv_lt_l t4 hh1 hh0 (by decide)
    have i6 : -999999 ≤ a0.toInt ∧ a0.toInt ≤ 1000000 := iv_lt_r t4 hh1 hh0 (by decide)
    refine lv_iload_n hx hb dX12_apart_5 rfl (lv_at hl 0 rfl) ?_
    refine lv_iload_n hx hb dX12_apart_6 rfl (lv_at hl 1 rfl) ?_
    refine lv_isub hx hb dX12_apart_7 ?_
    refine lv_topi (fun y7 ey7 => ?_)
    obtain ⟨ty7, iy7⟩ := ti_sub (e := (-1999998)) (f := 2000000) i6 i5 ey7 (by decide)
    have ty7 : y7.toInt = a0.toInt - a1.toInt := ty7
    have iy7 : -1999998 ≤ y7.toInt ∧ y7.toInt ≤ 2000000 := iy7
    refine lv_goto (tgt := 14) hx hb dX12_apart_8 (by decide) ?_
    rw [hQ]
    exact W.iret (v := y7) hx hb hr (fun t ht hW => ⟨⟨y7, (), rfl, (by unfold ab; omega), trivial⟩, hS.F ht⟩) hS.2.2 dX12_apart_14
def v_fitOfX : List Cond := .code yX3_fitOf cX3_fitOf 8 (some .int) :: vA
abbrev rm_fitOfX : Room := { frames := 5, cells := 0, slots := 0, locals := 200 }
def w_fitOfX : Nat → Nat → Bool := wl [47, 48, 49, 51] []
set_option maxHeartbeats 4000000 in
set_option maxRecDepth 100000 in
theorem q_fitOfX (l : Launch) (dC : Nat → ClassId) (dI : Nat → Nat → Nat) (cT : Nat → ClassId) (cf : Nat → Nat) (hC : CF cf) (ad : Nat → Nat) (E : Nat → va_E) (sz : Nat) (a0 : Int32) (hI0 : IXL cT (shC cf) (spC cf) (LC cf) ad E) (hh0 : 0 ≤ a0.toInt ∧ a0.toInt ≤ 15) : Met l yX3_fitOf v_fitOfX rm_fitOfX (va_Pc [.ref (ad 6), .int a0] (HWL dC dI (TYC cT) cf ad E sz)) (va_Qi (S := Nat → va_E) (fun r u => IXL cT (shC cf) (spC cf) (LC cf) ad u ∧ Kp w_fitOfX E u ∧ ((-1 ≤ r.toInt ∧ r.toInt ≤ 2000) ∧ (FtR (ctO E a0.toNatClampNeg) (fun v9 r9 x9 => ∃ m9 : Int32, MdO E r9 a0.toNatClampNeg m9 ∧ x9 = tFt (xi (E 44) (16 * r9 + a0.toNatClampNeg)) m9 v9) (cf 2) r.toInt))) (HBL dC dI (LC cf) ad) (va_A (WL (LC cf) ad E) sz)) 0 0 (va_A (WL (LC cf) ad E) sz) := by
  obtain ⟨⟨hc0, hc1, hc2, hc3, hc4, hc5⟩, hcr⟩ := id hC
  refine Met.ofW (cc := cX3_fitOf) (maxL := 8) (ret := (some .int)) (by decide) rfl ?_
  intro p e s m args below meth c s₁ B hml hv
  obtain ⟨hargs, hsz, hP, hK, hD0, hEV⟩ := hv
  subst hsz
  have hx := B.exec
  have hb := B.bytes
  have hr := B.returns
  have hts := atoms_spec (ws := v_fitOfX) B.pre
  have hown : s.vm.findClass RX3 = some m.cls := findClass_of_methodNamed B.named
  have hlocks := B.notSynchronized
  have hinX3 : ∀ w ∈ u_ws RX3 TX3 18, w ∈ v_fitOfX := fun w h => vA_in _ w (in_X3 w h)
  generalize hAe : va_A (WL (LC cf) ad E) s.heap.size = A at hEV ⊢
  have hA : ∀ q : Nat, s.heap.size ≤ q → A q := fun q h => by rw [← hAe]; exact Or.inr h
  have hD : va_D A (WL (LC cf) ad E) := by rw [← hAe]; exact hD0.self
  have hS : va_S A s.heap s.heap [] := va_S.rf
  have hI := hI0
  have hKp : Kp w_fitOfX E E := Kp.rf
  have hl := lv_entry ([.ref (ad 6), .int a0]) (n := 8) (Nat.le_of_ble_eq_true rfl)
  obtain ⟨Q, hQ⟩ : ∃ Q, Q = MQ below (va_Qi (S := Nat → va_E) (fun r u => IXL cT (shC cf) (spC cf) (LC cf) ad u ∧ Kp w_fitOfX E u ∧ ((-1 ≤ r.toInt ∧ r.toInt ≤ 2000) ∧ (FtR (ctO E a0.toNatClampNeg) (fun v9 r9 x9 => ∃ m9 : Int32, MdO E r9 a0.toNatClampNeg m9 ∧ x9 = tFt (xi (E 44) (16 * r9 + a0.toNatClampNeg)) m9 v9) (cf 2) r.toInt))) (HBL dC dI (LC cf) ad) (A)) args s 0 0 (A) := ⟨_, rfl⟩
  rw [← hQ, show entryFrame m args 8 = _ from (congrArg (fun z => entryFrame m z 8) hargs).trans (lg_entry_eq _ _ _)]
  generalize (lg_sl ([.ref (ad 6), .int a0]) ++ List.replicate (8 - (lg_sl ([.ref (ad 6), .int a0])).length) Slot.unset).toArray = ls at hl ⊢
  have hl : lv_has ls 8 [(0, .ref (ad 6)), (1, .int a0)] := hl
  have z0z : (0 : Int32).toInt = 0 := rfl
  refine lv_aload_n hx hb dX3_fitOf_0 rfl (lv_at hl 0 rfl) ?_
  refine lv_iload_n hx hb dX3_fitOf_1 rfl (lv_at hl 1 rfl) ?_
  refine th_iL (va_runV (As := [.int a0]) (rest := []) ⟨hx, hb, hml, hown, hts⟩ (q_gatherX l dC dI cT cf hC ad E s.heap.size a0 hI hh0) (cwV 1 hts (gi_V (in_17 _ (List.mem_of_getElem? (i := 13) rfl)) (in_17 _ (List.mem_of_getElem? (i := 14) rfl)) (in_17 _ (List.mem_of_getElem? (i := 15) rfl)) (in_11 _ (List.mem_of_getElem? (i := 15) rfl)) (in_17 _ (List.mem_of_getElem? (i := 16) rfl))) rfl rfl rfl (by decide +kernel) ⟨Nat.le_of_ble_eq_true rfl, Nat.le_of_ble_eq_true rfl⟩) ⟨HWL_bl, va_recv hK hP (ci := 4) (q0 := posL 6 (LC cf)) rfl (hI.ob 6 (mF 6 rfl) rfl), (HWL_wi hP hK (WL_D hD) hS hA hEV)⟩ rfl rfl hl.1 rfl (lv_room (Nat.le_of_ble_eq_true rfl)) dX3_fitOf_2 ⟨Nat.le_of_ble_eq_true rfl, Nat.le_of_ble_eq_true rfl⟩) (WL_D hD) hS hA (fun r1 E2 H locs hw hP hS => ?_)
  obtain ⟨hI, kq3, hw⟩ := hw
  have hKb := hKp
  have hKp := hKp.tr kq3 (wl_sub rfl rfl)
  obtain ⟨f4, f5⟩ := hw
  obtain ⟨g6, hg6⟩ : ∃ g, xi (E2 47) = g := ⟨_, rfl⟩
  obtain ⟨g7, hg7⟩ : ∃ g, xi (E2 48) = g := ⟨_, rfl⟩
  obtain ⟨g8, hg8⟩ : ∃ g, xi (E2 49) = g := ⟨_, rfl⟩
  have k9 : GaG E a0.toNatClampNeg (cf 2) r1.toNatClampNeg g6 g7 := by have h9 := f5; rw [show xi (E2 47) = g6 from hg6, show xi (E2 48) = g7 from hg7] at h9; exact h9
  refine lv_istore_n (lv' := [(2, .int r1), (0, .ref (ad 6)), (1, .int a0)]) hx hb dX3_fitOf_5 rfl hl (by decide) rfl (fun ls hl => ?_)
  refine lv_iload_n hx hb dX3_fitOf_6 rfl (lv_at hl 0 rfl) ?_
  refine lv_if_ne (tgt := 12) hx hb dX3_fitOf_7 (by decide) (fun c10 => ?_) (fun c10 => ?_)
  · --7 taken
    have t11 : ¬ r1.toInt = 0 := ti_ne c10
    have i12 : 1 ≤ r1.toInt ∧ r1.toInt ≤ 20 := iv_ne_l t11 f4 (il_ 0)
    refine lv_iconst (v := 0) hx hb dX3_fitOf_12 (by decide) ?_
    refine lv_istore_n (lv' := [(3, .int 0), (2, .int r1), (0, .ref (ad 6)), (1, .int a0)]) hx hb dX3_fitOf_13 rfl hl (by decide) rfl (fun ls hl => ?_)
    have hL14 : ∀ d : Nat, ∀ (g14_49 : Nat → Int32) (v14_3 : Int32) (E14_ : Nat → va_E) (H : Heap) (locs : List Loc) (ls : Array Slot), 0 ≤ v14_3.toInt ∧ v14_3.toInt ≤ 20 → (∀ b9 : Nat, b9 < v14_3.toNatClampNeg → g14_49 b9 = xi (E 44) (16 * (g6 b9).toNatClampNeg + a0.toNatClampNeg)) → v14_3.toInt ≤ r1.toInt → 20 - v14_3.toInt < (d : Int) → IXL cT (shC cf) (spC cf) (LC cf) ad E14_ → Kp w_fitOfX E E14_ → xi (E14_ 47) = g6 → xi (E14_ 48) = g7 → xi (E14_ 49) = g14_49 → va_P (dC, dI) vwCl (WL (LC cf) ad E14_) H → va_S A s.heap H locs → lv_has ls 8 [(3, .int v14_3), (2, .int r1), (0, .ref (ad 6)), (1, .int a0)] → W p l e (headSpec v_fitOfX rm_fitOfX).room s m args below meth c H locs 0 0 Q (F0 m 14 ls []) := by
      intro d
      induction d with
      | zero =>
        intro g14_49 v14_3 E14_ H locs ls hv14_3 hx14_0 hx14_1 hx14_2 hI hKp hr14_47 hr14_48 hr14_49 hP hS hl
        exact absurd hx14_2 (by omega)
      | succ d ih14 =>
        intro g14_49 v14_3 E14_ H locs ls hv14_3 hx14_0 hx14_1 hx14_2 hI hKp hr14_47 hr14_48 hr14_49 hP hS hl
        refine lv_iload_n hx hb dX3_fitOf_14 rfl (lv_at hl 0 rfl) ?_
        refine lv_iload_n hx hb dX3_fitOf_15 rfl (lv_at hl 1 rfl) ?_
        refine lv_icmp_ge (tgt := 46) hx hb dX3_fitOf_16 (by decide) (fun c13 => ?_) (fun c13 => ?_)
        · --16 taken
          have t14 : r1.toInt ≤ v14_3.toInt := ti_le c13
          have i15 : 1 ≤ v14_3.toInt ∧ v14_3.toInt ≤ 20 := iv_le_r t14 i12 hv14_3 (by decide)
          refine lv_iconst (v := -1) hx hb dX3_fitOf_46 (by decide) ?_
          refine lv_istore_n (lv' := [(3, .int (-1)), (2, .int r1), (0, .ref (ad 6)), (1, .int a0)]) hx hb dX3_fitOf_47 rfl hl (by decide) rfl (fun ls hl => ?_)
          refine lv_ldc hx hb hown (hts _ (vA_in _ _ (in_13 _ (List.mem_of_getElem? (i := 7) rfl)))) dX3_fitOf_48 ?_
          refine lv_istore (lv' := [(4, .int 2147483647), (3, .int (-1)), (2, .int r1), (0, .ref (ad 6)), (1, .int a0)]) hx hb dX3_fitOf_50 hl (by decide) rfl (fun ls hl => ?_)
          refine lv_sipush (v := 500) hx hb dX3_fitOf_52 (by decide) ?_
          refine lv_istore (lv' := [(5, .int 500), (4, .int 2147483647), (3, .int (-1)), (2, .int r1), (0, .ref (ad 6)), (1, .int a0)]) hx hb dX3_fitOf_55 hl (by decide) rfl (fun ls hl => ?_)
          have hL57 : ∀ d : Nat, ∀ (v57_5 : Int32) (v57_4 : Int32) (v57_3 : Int32) (H : Heap) (locs : List Loc) (ls : Array Slot), 500 ≤ v57_5.toInt ∧ v57_5.toInt ≤ 2001 → 0 ≤ v57_4.toInt ∧ v57_4.toInt ≤ 2147483647 → -1 ≤ v57_3.toInt ∧ v57_3.toInt ≤ 2000 → FtI (fun v9 : Int => sumF (fun i9 => tFt (g14_49 i9) (g7 i9) v9) r1.toNatClampNeg) v57_5.toInt v57_4.toInt v57_3.toInt → (v57_5.toInt = 500 → v57_4.toInt = 2147483647) → 500 ≤ v57_5.toInt → 2001 - v57_5.toInt < (d : Int) → va_P (dC, dI) vwCl (WL (LC cf) ad E14_) H → va_S A s.heap H locs → lv_has ls 8 [(5, .int v57_5), (4, .int v57_4), (3, .int v57_3), (2, .int r1), (0, .ref (ad 6)), (1, .int a0)] → W p l e (headSpec v_fitOfX rm_fitOfX).room s m args below meth c H locs 0 0 Q (F0 m 57 ls []) := by
            intro d
            induction d with
            | zero =>
              intro v57_5 v57_4 v57_3 H locs ls hv57_5 hv57_4 hv57_3 hx57_0 hx57_1 hx57_2 hx57_3 hP hS hl
              exact absurd hx57_3 (by omega)
            | succ d ih57 =>
              intro v57_5 v57_4 v57_3 H locs ls hv57_5 hv57_4 hv57_3 hx57_0 hx57_1 hx57_2 hx57_3 hP hS hl
              refine lv_iload hx hb dX3_fitOf_57 (lv_at hl 0 rfl) ?_
              refine lv_sipush (v := 2000) hx hb dX3_fitOf_59 (by decide) ?_
              refine lv_icmp_gt (tgt := 139) hx hb dX3_fitOf_62 (by decide) (fun c16 => ?_) (fun c16 => ?_)
              · --62 taken
                have t17 : (2000 : Int) < v57_5.toInt := ti_lt c16
                have i18 : 2001 ≤ v57_5.toInt ∧ v57_5.toInt ≤ 2001 := iv_lt_r t17 (il_ 2000) hv57_5 (by decide)
                refine lv_iload_n hx hb dX3_fitOf_139 rfl (lv_at hl 2 rfl) ?_
                rw [hQ]
                exact W.iret (v := v57_3) hx hb hr (fun t ht hW => ⟨⟨v57_3, E14_, rfl, ⟨hI, hKp, ⟨hv57_3, (GaG.fit k9 (n := r1.toNatClampNeg) (fun i9 h9 => hx14_0 i9 (by rw [tn_] at h9 ⊢; omega)) (by rw [tn_]; omega) hx57_0 (by omega))⟩⟩, by show va_P (dC, dI) vwCl (WL (LC cf) ad E14_) t.heap; rw [ht]; exact hP⟩, hS.F ht⟩) hS.2.2 dX3_fitOf_140
              · --62 not
                have t19 : v57_5.toInt ≤ 2000 := ti_nlt c16
                have i20 : 500 ≤ v57_5.toInt ∧ v57_5.toInt ≤ 2000 := iv_le_l t19 hv57_5 (il_ 2000) (by decide)
                refine lv_iconst (v := 0) hx hb dX3_fitOf_65 (by decide) ?_
                refine lv_istore (lv' := [(6, .int 0), (5, .int v57_5), (4, .int v57_4), (3, .int v57_3), (2, .int r1), (0, .ref (ad 6)), (1, .int a0)]) hx hb dX3_fitOf_66 hl (by decide) rfl (fun ls hl => ?_)
                refine lv_iconst (v := 0) hx hb dX3_fitOf_68 (by decide) ?_
                refine lv_istore (lv' := [(7, .int 0), (6, .int 0), (5, .int v57_5), (4, .int v57_4), (3, .int v57_3), (2, .int r1), (0, .ref (ad 6)), (1, .int a0)]) hx hb dX3_fitOf_69 hl (by decide) rfl (fun ls hl => ?_)
                have hL71 : ∀ d : Nat, ∀ (v71_7 : Int32) (v71_6 : Int32) (H : Heap) (locs : List Loc) (ls : Array Slot), 0 ≤ v71_7.toInt ∧ v71_7.toInt ≤ 20 → 0 ≤ v71_6.toInt ∧ v71_6.toInt ≤ 16000000 → v71_6.toInt = sumF (fun i9 => tFt (g14_49 i9) (g7 i9) v57_5.toInt) v71_7.toNatClampNeg → v71_7.toInt ≤ r1.toInt → 0 ≤ v71_6.toInt ∧ v71_6.toInt ≤ 800000 * v71_7.toInt → 20 - v71_7.toInt < (d : Int) → va_P (dC, dI) vwCl (WL (LC cf) ad E14_) H → va_S A s.heap H locs → lv_has ls 8 [(7, .int v71_7), (6, .int v71_6), (5, .int v57_5), (4, .int v57_4), (3, .int v57_3), (2, .int r1), (0, .ref (ad 6)), (1, .int a0)] → W p l e (headSpec v_fitOfX rm_fitOfX).room s m args below meth c H locs 0 0 Q (F0 m 71 ls []) := by
                  intro d
                  induction d with
                  | zero =>
                    intro v71_7 v71_6 H locs ls hv71_7 hv71_6 hx71_0 hx71_1 hx71_2 hx71_3 hP hS hl
                    exact absurd hx71_3 (by omega)
                  | succ d ih71 =>
                    intro v71_7 v71_6 H locs ls hv71_7 hv71_6 hx71_0 hx71_1 hx71_2 hx71_3 hP hS hl
                    refine lv_iload hx hb dX3_fitOf_71 (lv_at hl 0 rfl) ?_
                    refine lv_iload_n hx hb dX3_fitOf_73 rfl (lv_at hl 5 rfl) ?_
                    refine lv_icmp_ge (tgt := 119) hx hb dX3_fitOf_74 (by decide) (fun c21 => ?_) (fun c21 => ?_)
                    · --74 taken
                      have t22 : r1.toInt ≤ v71_7.toInt := ti_le c21
                      have i23 : 1 ≤ v71_7.toInt ∧ v71_7.toInt ≤ 20 := iv_le_r t22 i12 hv71_7 (by decide)
                      refine lv_iload hx hb dX3_fitOf_119 (lv_at hl 1 rfl) ?_
                      refine lv_iload hx hb dX3_fitOf_121 (lv_at hl 3 rfl) ?_
                      refine lv_icmp_ge (tgt := 133) hx hb dX3_fitOf_123 (by decide) (fun c24 => ?_) (fun c24 => ?_)
                      · --123 taken
                        have t25 : v57_4.toInt ≤ v71_6.toInt := ti_le c24
                        have i26 : 0 ≤ v57_4.toInt ∧ v57_4.toInt ≤ 16000000 := iv_le_l t25 hv57_4 hv71_6 (by decide)
                        obtain ⟨y27, ey27⟩ : ∃ y : Int32, y = v57_5 + (1 : Int32) := ⟨_, rfl⟩
                        obtain ⟨ty27, iy27⟩ := ti_add (e := 501) (f := 2001) i20 ln_1 ey27 (by decide)
                        have ty27 : y27.toInt = v57_5.toInt + 1 := ty27
                        have iy27 : 501 ≤ y27.toInt ∧ y27.toInt ≤ 2001 := iy27
                        refine lv_iinc (v := y27) (lv' := [(5, .int y27), (7, .int v71_7), (6, .int v71_6), (4, .int v57_4), (3, .int v57_3), (2, .int r1), (0, .ref (ad 6)), (1, .int a0)]) hx hb dX3_fitOf_133 hl (k := 2) rfl (by rw [ey27]; rfl) (by decide) rfl (fun ls hl => ?_)
                        refine lv_goto (tgt := 57) hx hb dX3_fitOf_136 (by decide) ?_
                        exact ih57 y27 v57_4 v57_3 _ _ _ (iv_w iy27 (by decide)) (iv_w i26 (by decide)) hv57_3 (hx57_0.no hx57_2 (fun q9 => by have h8 := hx57_1 q9; omega) (Int.le_trans (show v57_4.toInt ≤ v71_6.toInt by omega) (show v71_6.toInt ≤ (fun v9 : Int => sumF (fun i9 => tFt (g14_49 i9) (g7 i9) v9) r1.toNatClampNeg) v57_5.toInt by rw [hx71_0]; have h9 := sumF_mo (f := fun i9 => tFt (g14_49 i9) (g7 i9) v57_5.toInt) (k := v71_7.toNatClampNeg) (r1.toNatClampNeg - v71_7.toNatClampNeg) (fun i9 _ => tFt_nn); rw [show v71_7.toNatClampNeg + (r1.toNatClampNeg - v71_7.toNatClampNeg) = r1.toNatClampNeg by rw [tn_, tn_]; omega] at h9; exact h9)) (by omega)) (fun q9 => by exfalso; omega) (by omega) (by omega) hP hS (lv_sub hl [0, 3, 4, 5, 6, 7] rfl)
                      · --123 not
                        have t28 : v71_6.toInt < v57_4.toInt := ti_nle c24
                        have i29 : 1 ≤ v57_4.toInt ∧ v57_4.toInt ≤ 2147483647 := iv_lt_r t28 hv71_6 hv57_4 (by decide)
                        refine lv_iload hx hb dX3_fitOf_126 (lv_at hl 1 rfl) ?_
                        refine lv_istore (lv' := [(4, .int v71_6), (7, .int v71_7), (6, .int v71_6), (5, .int v57_5), (3, .int v57_3), (2, .int r1), (0, .ref (ad 6)), (1, .int a0)]) hx hb dX3_fitOf_128 hl (by decide) rfl (fun ls hl => ?_)
                        refine lv_iload hx hb dX3_fitOf_130 (lv_at hl 3 rfl) ?_
                        refine lv_istore_n (lv' := [(3, .int v57_5), (4, .int v71_6), (7, .int v71_7), (6, .int v71_6), (5, .int v57_5), (2, .int r1), (0, .ref (ad 6)), (1, .int a0)]) hx hb dX3_fitOf_132 rfl hl (by decide) rfl (fun ls hl => ?_)
                        obtain ⟨y30, ey30⟩ : ∃ y : Int32, y = v57_5 + (1 : Int32) := ⟨_, rfl⟩
                        obtain ⟨ty30, iy30⟩ := ti_add (e := 501) (f := 2001) i20 ln_1 ey30 (by decide)
                        have ty30 : y30.toInt = v57_5.toInt + 1 := ty30
                        have iy30 : 501 ≤ y30.toInt ∧ y30.toInt ≤ 2001 := iy30
                        refine lv_iinc (v := y30) (lv' := [(5, .int y30), (3, .int v57_5), (4, .int v71_6), (7, .int v71_7), (6, .int v71_6), (2, .int r1), (0, .ref (ad 6)), (1, .int a0)]) hx hb dX3_fitOf_133 hl (k := 4) rfl (by rw [ey30]; rfl) (by decide) rfl (fun ls hl => ?_)
                        refine lv_goto (tgt := 57) hx hb dX3_fitOf_136 (by decide) ?_
                        exact ih57 y30 v71_6 v57_5 _ _ _ (iv_w iy30 (by decide)) (iv_w hv71_6 (by decide)) (iv_w i20 (by decide)) (hx57_0.yes hx57_2 (fun _ => Int.lt_of_le_of_lt (Int.le_of_eq (Eq.symm (show v71_6.toInt = (fun v9 : Int => sumF (fun i9 => tFt (g14_49 i9) (g7 i9) v9) r1.toNatClampNeg) v57_5.toInt by have h9 := hx71_0; rw [show v71_7.toNatClampNeg = r1.toNatClampNeg by rw [tn_, tn_]; omega] at h9; exact h9))) (by omega)) (show v71_6.toInt = (fun v9 : Int => sumF (fun i9 => tFt (g14_49 i9) (g7 i9) v9) r1.toNatClampNeg) v57_5.toInt by have h9 := hx71_0; rw [show v71_7.toNatClampNeg = r1.toNatClampNeg by rw [tn_, tn_]; omega] at h9; exact h9) (by omega)) (fun q9 => by exfalso; omega) (by omega) (by omega) hP hS (lv_sub hl [0, 2, 1, 5, 6, 7] rfl)
                    · --74 not
                      have t31 : v71_7.toInt < r1.toInt := ti_nle c21
                      have i32 : 0 ≤ v71_7.toInt ∧ v71_7.toInt ≤ 19 := iv_lt_l t31 hv71_7 i12 (by decide)
                      refine lv_iload hx hb dX3_fitOf_77 (lv_at hl 1 rfl) ?_
                      refine lv_iload hx hb dX3_fitOf_79 (lv_at hl 3 rfl) ?_
                      refine lv_icmp_ge (tgt := 119) hx hb dX3_fitOf_81 (by decide) (fun c33 => ?_) (fun c33 => ?_)
                      · --81 taken
                        have t34 : v57_4.toInt ≤ v71_6.toInt := ti_le c33
                        have i35 : 0 ≤ v57_4.toInt ∧ v57_4.toInt ≤ 16000000 := iv_le_l t34 hv57_4 hv71_6 (by decide)
                        refine lv_iload hx hb dX3_fitOf_119 (lv_at hl 1 rfl) ?_
                        refine lv_iload hx hb dX3_fitOf_121 (lv_at hl 3 rfl) ?_
                        refine lv_icmp_ge (tgt := 133) hx hb dX3_fitOf_123 (by decide) (fun c36 => ?_) (fun c36 => ?_)
                        · --123 taken
                          have t37 : v57_4.toInt ≤ v71_6.toInt := ti_le c36
                          obtain ⟨y38, ey38⟩ : ∃ y : Int32, y = v57_5 + (1 : Int32) := ⟨_, rfl⟩
                          obtain ⟨ty38, iy38⟩ := ti_add (e := 501) (f := 2001) i20 ln_1 ey38 (by decide)
                          have ty38 : y38.toInt = v57_5.toInt + 1 := ty38
                          have iy38 : 501 ≤ y38.toInt ∧ y38.toInt ≤ 2001 := iy38
                          refine lv_iinc (v := y38) (lv' := [(5, .int y38), (7, .int v71_7), (6, .int v71_6), (4, .int v57_4), (3, .int v57_3), (2, .int r1), (0, .ref (ad 6)), (1, .int a0)]) hx hb dX3_fitOf_133 hl (k := 2) rfl (by rw [ey38]; rfl) (by decide) rfl (fun ls hl => ?_)
                          refine lv_goto (tgt := 57) hx hb dX3_fitOf_136 (by decide) ?_
                          exact ih57 y38 v57_4 v57_3 _ _ _ (iv_w iy38 (by decide)) (iv_w i35 (by decide)) hv57_3 (hx57_0.no hx57_2 (fun q9 => by have h8 := hx57_1 q9; omega) (Int.le_trans (show v57_4.toInt ≤ v71_6.toInt by omega) (show v71_6.toInt ≤ (fun v9 : Int => sumF (fun i9 => tFt (g14_49 i9) (g7 i9) v9) r1.toNatClampNeg) v57_5.toInt by rw [hx71_0]; have h9 := sumF_mo (f := fun i9 => tFt (g14_49 i9) (g7 i9) v57_5.toInt) (k := v71_7.toNatClampNeg) (r1.toNatClampNeg - v71_7.toNatClampNeg) (fun i9 _ => tFt_nn); rw [show v71_7.toNatClampNeg + (r1.toNatClampNeg - v71_7.toNatClampNeg) = r1.toNatClampNeg by rw [tn_, tn_]; omega] at h9; exact h9)) (by omega)) (fun q9 => by exfalso; omega) (by omega) (by omega) hP hS (lv_sub hl [0, 3, 4, 5, 6, 7] rfl)
                        · --123 not
                          have t39 : v71_6.toInt < v57_4.toInt := ti_nle c36
                          have i40 : 0 ≤ v71_6.toInt ∧ v71_6.toInt ≤ 15999999 := iv_lt_l t39 hv71_6 i35 (by decide)
                          have i41 : 1 ≤ v57_4.toInt ∧ v57_4.toInt ≤ 16000000 := iv_lt_r t39 hv71_6 i35 (by decide)
                          refine lv_iload hx hb dX3_fitOf_126 (lv_at hl 1 rfl) ?_
                          refine lv_istore (lv' := [(4, .int v71_6), (7, .int v71_7), (6, .int v71_6), (5, .int v57_5), (3, .int v57_3), (2, .int r1), (0, .ref (ad 6)), (1, .int a0)]) hx hb dX3_fitOf_128 hl (by decide) rfl (fun ls hl => ?_)
                          refine lv_iload hx hb dX3_fitOf_130 (lv_at hl 3 rfl) ?_
                          refine lv_istore_n (lv' := [(3, .int v57_5), (4, .int v71_6), (7, .int v71_7), (6, .int v71_6), (5, .int v57_5), (2, .int r1), (0, .ref (ad 6)), (1, .int a0)]) hx hb dX3_fitOf_132 rfl hl (by decide) rfl (fun ls hl => ?_)
                          obtain ⟨y42, ey42⟩ : ∃ y : Int32, y = v57_5 + (1 : Int32) := ⟨_, rfl⟩
                          obtain ⟨ty42, iy42⟩ := ti_add (e := 501) (f := 2001) i20 ln_1 ey42 (by decide)
                          have ty42 : y42.toInt = v57_5.toInt + 1 := ty42
                          have iy42 : 501 ≤ y42.toInt ∧ y42.toInt ≤ 2001 := iy42
                          refine lv_iinc (v := y42) (lv' := [(5, .int y42), (3, .int v57_5), (4, .int v71_6), (7, .int v71_7), (6, .int v71_6), (2, .int r1), (0, .ref (ad 6)), (1, .int a0)]) hx hb dX3_fitOf_133 hl (k := 4) rfl (by rw [ey42]; rfl) (by decide) rfl (fun ls hl => ?_)
                          refine lv_goto (tgt := 57) hx hb dX3_fitOf_136 (by decide) ?_
                          exact ih57 y42 v71_6 v57_5 _ _ _ (iv_w iy42 (by decide)) (iv_w i40 (by decide)) (iv_w i20 (by decide)) (hx57_0.yes hx57_2 (fun _ => Int.lt_of_le_of_lt (Int.le_of_eq (Eq.symm (show v71_6.toInt = (fun v9 : Int => sumF (fun i9 => tFt (g14_49 i9) (g7 i9) v9) r1.toNatClampNeg) v57_5.toInt by have h9 := hx71_0; rw [show v71_7.toNatClampNeg = r1.toNatClampNeg by rw [tn_, tn_]; omega] at h9; exact h9))) (by omega)) (show v71_6.toInt = (fun v9 : Int => sumF (fun i9 => tFt (g14_49 i9) (g7 i9) v9) r1.toNatClampNeg) v57_5.toInt by have h9 := hx71_0; rw [show v71_7.toNatClampNeg = r1.toNatClampNeg by rw [tn_, tn_]; omega] at h9; exact h9) (by omega)) (fun q9 => by exfalso; omega) (by omega) (by omega) hP hS (lv_sub hl [0, 2, 1, 5, 6, 7] rfl)
                      · --81 not
                        have t43 : v71_6.toInt < v57_4.toInt := ti_nle c33
                        have i44 : 1 ≤ v57_4.toInt ∧ v57_4.toInt ≤ 2147483647 := iv_lt_r t43 hv71_6 hv57_4 (by decide)
                        have i45 : 0 ≤ v71_6.toInt ∧ v71_6.toInt ≤ 15200000 := by omega
                        refine lv_iload hx hb dX3_fitOf_84 (lv_at hl 1 rfl) ?_
                        refine lv_aload_n hx hb dX3_fitOf_86 rfl (lv_at hl 6 rfl) ?_
                        refine th_getL (ci := 4) (C := RX3) (T := TX3) (N := 18) (v := .ref (ad 49)) hx hb hts hinX3 hown hK hP hI 6 (mF 6 rfl) rfl rfl 8 (Nat.le_of_ble_eq_true rfl) (hts _ (vA_in _ _ (in_17 _ (List.mem_of_getElem? (i := 10) rfl)))) (fun _ h9 => h9) (hI.fr 6 (mF 6 rfl) rfl (Nat.le_of_ble_eq_true rfl) 49 rfl) dX3_fitOf_87 ?_
                        refine lv_iload hx hb dX3_fitOf_90 (lv_at hl 0 rfl) ?_
                        have n47 : vp_in v71_7 20 := (iv_in (n := 20) i32 (by decide))
                        refine th_ialdL hx hb hK hP hI 49 (mF 49 rfl) rfl rfl n47 dX3_fitOf_92 (fun y46 ey46 => ?_)
                        have iy46 : 0 ≤ y46.toInt ∧ y46.toInt ≤ 200000 := hI.el 49 (mF 49 rfl) rfl n47 (fun _ => rfl) ey46
                        have ey46 := ey46.trans (congrFun hr14_49 _)
                        refine lv_iload hx hb dX3_fitOf_93 (lv_at hl 2 rfl) ?_
                        refine lv_imul hx hb dX3_fitOf_95 ?_
                        refine lv_topi (fun y48 ey48 => ?_)
                        obtain ⟨ty48, iy48⟩ := ti_mul (e := 0) (f := 400000000) iy46 i20 ey48 (by decide)
                        have ty48 : y48.toInt = y46.toInt * v57_5.toInt := ty48
                        have iy48 : 0 ≤ y48.toInt ∧ y48.toInt ≤ 400000000 := iy48
                        refine lv_sipush (v := 1000) hx hb dX3_fitOf_96 (by decide) ?_
                        refine lv_idiv hx hb dX3_fitOf_99 (by decide) ?_
                        refine lv_topi (fun y49 ey49 => ?_)
                        obtain ⟨ty49, iy49⟩ := ti_div (e := 0) (f := 400000) iy48 ln_1000 ey49 (by decide)
                        have iy49 : 0 ≤ y49.toInt ∧ y49.toInt ≤ 400000 := iy49
                        refine lv_aload_n hx hb dX3_fitOf_100 rfl (lv_at hl 6 rfl) ?_
                        refine th_getL (ci := 4) (C := RX3) (T := TX3) (N := 18) (v := .ref (ad 48)) hx hb hts hinX3 hown hK hP hI 6 (mF 6 rfl) rfl rfl 7 (Nat.le_of_ble_eq_true rfl) (hts _ (vA_in _ _ (in_17 _ (List.mem_of_getElem? (i := 12) rfl)))) (fun _ h9 => h9) (hI.fr 6 (mF 6 rfl) rfl (Nat.le_of_ble_eq_true rfl) 48 rfl) dX3_fitOf_101 ?_
                        refine lv_iload hx hb dX3_fitOf_104 (lv_at hl 0 rfl) ?_
                        have n51 : vp_in v71_7 20 := (iv_in (n := 20) i32 (by decide))
                        refine th_ialdL hx hb hK hP hI 48 (mF 48 rfl) rfl rfl n51 dX3_fitOf_106 (fun y50 ey50 => ?_)
                        have iy50 : -100000 ≤ y50.toInt ∧ y50.toInt ≤ 400000 := hI.el 48 (mF 48 rfl) rfl n51 (fun _ => rfl) ey50
                        have ey50 := ey50.trans (congrFun hr14_48 _)
                        refine th_pi (va_runSN (As := [.int y49, .int y50]) (rest := [.int v71_6]) ⟨hx, hb, hml, hown, hts⟩ (q_capartB l y49 y50 (iv_w iy49 (by decide)) (iv_w iy50 (by decide))) ⟨va_cnB 2 hts (gi_0 (in_10 _ (List.mem_of_getElem? (i := 15) rfl))) rfl rfl rfl (hEV.1.1 _ (List.mem_of_getElem? (i := 6) rfl)) (hts _ (vA_in _ _ (in_4 _ (List.mem_of_getElem? (i := 23) rfl)))) (by decide +kernel) ⟨Nat.le_of_ble_eq_true rfl, Nat.le_of_ble_eq_true rfl⟩, (hts _ (vA_in _ _ (in_13 _ (List.mem_of_getElem? (i := 25) rfl)))), trivial⟩ ⟨fun _ _ _ _ q => q, fun _ _ _ => ⟨rfl, trivial⟩⟩ rfl rfl hl.1 rfl (lv_room (Nat.le_of_ble_eq_true rfl)) dX3_fitOf_107 ⟨Nat.le_of_ble_eq_true rfl, Nat.le_of_ble_eq_true rfl⟩) hS (fun r52 H1 locs1 hw hk1 hS => ?_)
                        have hP := ub_keep hP hk1
                        generalize H1 = H at hP hS ⊢
                        generalize locs1 = locs at hS ⊢
                        have f53 := hw
                        have k54 : r52.toInt = tFt (g14_49 v71_7.toNatClampNeg) (g7 v71_7.toNatClampNeg) v57_5.toInt := by rw [f53]; unfold tFt; rw [← ey46, ← ey50]; congr 1; have q7 := ty49; rw [show (1000 : Int32).toInt = 1000 from rfl] at q7; omega
                        have i55 : 0 ≤ r52.toInt ∧ r52.toInt ≤ 800000 := by have h9 := f53; unfold ab at h9; omega
                        refine lv_iadd hx hb dX3_fitOf_110 ?_
                        refine lv_topi (fun y56 ey56 => ?_)
                        obtain ⟨ty56, iy56⟩ := ti_add (e := 0) (f := 16000000) i45 i55 ey56 (by decide)
                        have ty56 : y56.toInt = v71_6.toInt + r52.toInt := ty56
                        have iy56 : 0 ≤ y56.toInt ∧ y56.toInt ≤ 16000000 := iy56
                        refine lv_istore (lv' := [(6, .int y56), (7, .int v71_7), (5, .int v57_5), (4, .int v57_4), (3, .int v57_3), (2, .int r1), (0, .ref (ad 6)), (1, .int a0)]) hx hb dX3_fitOf_111 hl (by decide) rfl (fun ls hl => ?_)
                        obtain ⟨y57, ey57⟩ : ∃ y : Int32, y = v71_7 + (1 : Int32) := ⟨_, rfl⟩
                        obtain ⟨ty57, iy57⟩ := ti_add (e := 1) (f := 20) i32 ln_1 ey57 (by decide)
                        have ty57 : y57.toInt = v71_7.toInt + 1 := ty57
                        have iy57 : 1 ≤ y57.toInt ∧ y57.toInt ≤ 20 := iy57
                        refine lv_iinc (v := y57) (lv' := [(7, .int y57), (6, .int y56), (5, .int v57_5), (4, .int v57_4), (3, .int v57_3), (2, .int r1), (0, .ref (ad 6)), (1, .int a0)]) hx hb dX3_fitOf_113 hl (k := 1) rfl (by rw [ey57]; rfl) (by decide) rfl (fun ls hl => ?_)
                        refine lv_goto (tgt := 71) hx hb dX3_fitOf_116 (by decide) ?_
                        exact ih71 y57 y56 _ _ _ (iv_w iy57 (by decide)) iy56 (by rw [show y57.toNatClampNeg = v71_7.toNatClampNeg + 1 by rw [tn_ y57, tn_ v71_7]; omega]; show y56.toInt = sumF (fun i9 => tFt (g14_49 i9) (g7 i9) v57_5.toInt) v71_7.toNatClampNeg + tFt (g14_49 v71_7.toNatClampNeg) (g7 v71_7.toNatClampNeg) v57_5.toInt; omega) (by omega) (by omega) (by omega) hP hS (lv_sub hl [0, 1, 2, 3, 4, 5, 6, 7] rfl)
                exact hL71 (21) (0 : Int32) (0 : Int32) _ _ _ (iv_w ln_0 (by decide)) (iv_w ln_0 (by decide)) (show (0 : Int32).toInt = 0 from rfl) (by have z9 := ln_0; omega) (by have z9 := ln_0; omega) (by have h9 := ln_0; omega) hP hS (lv_sub hl [0, 1, 2, 3, 4, 5, 6, 7] rfl)
          exact hL57 (1502) (500 : Int32) (2147483647 : Int32) (-1 : Int32) _ _ _ (iv_w ln_500 (by decide)) (iv_w ln_2147483647 (by decide)) (iv_w ln_m1 (by decide)) (FtI.start (by have z9 := ln_500; omega) (by have z9 := ln_m1; omega)) (fun _ => by have z9 := ln_2147483647; omega) (by have z9 := ln_500; omega) (by have h9 := ln_500; omega) hP hS (lv_sub hl [0, 1, 2, 3, 4, 5] rfl)
        · --16 not
          have t58 : v14_3.toInt < r1.toInt := ti_nle c13
          have i59 : 0 ≤ v14_3.toInt ∧ v14_3.toInt ≤ 19 := iv_lt_l t58 hv14_3 i12 (by decide)
          refine lv_aload_n hx hb dX3_fitOf_19 rfl (lv_at hl 2 rfl) ?_
          refine th_getL (ci := 4) (C := RX3) (T := TX3) (N := 18) (v := .ref (ad 49)) hx hb hts hinX3 hown hK hP hI 6 (mF 6 rfl) rfl rfl 8 (Nat.le_of_ble_eq_true rfl) (hts _ (vA_in _ _ (in_17 _ (List.mem_of_getElem? (i := 10) rfl)))) (fun _ h9 => h9) (hI.fr 6 (mF 6 rfl) rfl (Nat.le_of_ble_eq_true rfl) 49 rfl) dX3_fitOf_20 ?_
          refine lv_iload_n hx hb dX3_fitOf_23 rfl (lv_at hl 0 rfl) ?_
          refine lv_aload_n hx hb dX3_fitOf_24 rfl (lv_at hl 2 rfl) ?_
          refine th_getL (ci := 4) (C := RX3) (T := TX3) (N := 18) (v := .ref (ad 44)) hx hb hts hinX3 hown hK hP hI 6 (mF 6 rfl) rfl rfl 3 (Nat.le_of_ble_eq_true rfl) (hts _ (vA_in _ _ (in_11 _ (List.mem_of_getElem? (i := 28) rfl)))) (fun _ h9 => h9) (hI.fr 6 (mF 6 rfl) rfl (Nat.le_of_ble_eq_true rfl) 44 rfl) dX3_fitOf_25 ?_
          refine lv_aload_n hx hb dX3_fitOf_28 rfl (lv_at hl 2 rfl) ?_
          refine th_getL (ci := 4) (C := RX3) (T := TX3) (N := 18) (v := .ref (ad 47)) hx hb hts hinX3 hown hK hP hI 6 (mF 6 rfl) rfl rfl 6 (Nat.le_of_ble_eq_true rfl) (hts _ (vA_in _ _ (in_17 _ (List.mem_of_getElem? (i := 11) rfl)))) (fun _ h9 => h9) (hI.fr 6 (mF 6 rfl) rfl (Nat.le_of_ble_eq_true rfl) 47 rfl) dX3_fitOf_29 ?_
          refine lv_iload_n hx hb dX3_fitOf_32 rfl (lv_at hl 0 rfl) ?_
          have n61 : vp_in v14_3 20 := (iv_in (n := 20) i59 (by decide))
          refine th_ialdL hx hb hK hP hI 47 (mF 47 rfl) rfl rfl n61 dX3_fitOf_33 (fun y60 ey60 => ?_)
          have jy60 : 0 ≤ y60.toInt ∧ y60.toInt ≤ ((cf 2 - 1 : Nat) : Int) := hI.el 47 (mF 47 rfl) rfl n61 (fun _ => rfl) ey60
          have iy60 : 0 ≤ y60.toInt ∧ y60.toInt ≤ 19 := by omega
          have ey60 := ey60.trans (congrFun hr14_47 _)
          refine lv_iload_n hx hb dX3_fitOf_34 rfl (lv_at hl 3 rfl) ?_
          refine th_pi (va_runSN (As := [.int y60, .int a0]) (rest := [.ref (ad 44), .int v14_3, .ref (ad 49)]) ⟨hx, hb, hml, hown, hts⟩ (q_ccell l y60 a0 iy60 hh0) ⟨va_cnB 2 hts (gi_0 (in_10 _ (List.mem_of_getElem? (i := 20) rfl))) rfl rfl rfl (hEV.1.1 _ (List.mem_of_getElem? (i := 7) rfl)) (hts _ (vA_in _ _ (in_4 _ (List.mem_of_getElem? (i := 23) rfl)))) (by decide +kernel) ⟨Nat.le_of_ble_eq_true rfl, Nat.le_of_ble_eq_true rfl⟩, (hts _ (vA_in _ _ (in_13 _ (List.mem_of_getElem? (i := 1) rfl)))), trivial⟩ ⟨fun _ _ _ _ q => q, fun _ _ _ => ⟨rfl, trivial⟩⟩ rfl rfl hl.1 rfl (lv_room (Nat.le_of_ble_eq_true rfl)) dX3_fitOf_35 ⟨Nat.le_of_ble_eq_true rfl, Nat.le_of_ble_eq_true rfl⟩) hS (fun r62 H1 locs1 hw hk1 hS => ?_)
          have hP := ub_keep hP hk1
          generalize H1 = H at hP hS ⊢
          generalize locs1 = locs at hS ⊢
          obtain ⟨f63, f64⟩ := hw
          have n66 : vp_in r62 320 := (iv_in (n := 320) f63 (by decide))
          refine th_ialdL hx hb hK hP hI 44 (mF 44 rfl) rfl rfl n66 dX3_fitOf_38 (fun y65 ey65 => ?_)
          have iy65 : 0 ≤ y65.toInt ∧ y65.toInt ≤ 200000 := hI.el 44 (mF 44 rfl) rfl n66 (fun _ => rfl) ey65
          have ey65 := ey65.trans (hKp.ei 44 _ rfl)
          have n67 : vp_in v14_3 20 := (iv_in (n := 20) i59 (by decide))
          refine th_iastL hx hb hK hP (WL_D hD) hS hI 49 (mF 49 rfl) rfl rfl n67 (okI rfl iy65) dX3_fitOf_39 (fun H locs E68 pw69 hI hP hS => ?_)
          have hKp := hKp.pw pw69 rfl
          obtain ⟨g70, eg70⟩ : ∃ z : Nat → Int32, z = upd g14_49 v14_3.toNatClampNeg y65 := ⟨_, rfl⟩
          have hg70 : xi (E68 49) = g70 := by rw [pw69.eu, hr14_49, eg70]
          obtain ⟨y71, ey71⟩ : ∃ y : Int32, y = v14_3 + (1 : Int32) := ⟨_, rfl⟩
          obtain ⟨ty71, iy71⟩ := ti_add (e := 1) (f := 20) i59 ln_1 ey71 (by decide)
          have ty71 : y71.toInt = v14_3.toInt + 1 := ty71
          have iy71 : 1 ≤ y71.toInt ∧ y71.toInt ≤ 20 := iy71
          refine lv_iinc (v := y71) (lv' := [(3, .int y71), (2, .int r1), (0, .ref (ad 6)), (1, .int a0)]) hx hb dX3_fitOf_40 hl (k := 0) rfl (by rw [ey71]; rfl) (by decide) rfl (fun ls hl => ?_)
          refine lv_goto (tgt := 14) hx hb dX3_fitOf_43 (by decide) ?_
          exact ih14 g70 y71 E68 _ _ _ (iv_w iy71 (by decide)) (up_s (P := (fun b9 z9 => z9 = xi (E 44) (16 * (g6 b9).toNatClampNeg + a0.toNatClampNeg))) hx14_0 eg70 (by show y65 = xi (E 44) (16 * (g6 v14_3.toNatClampNeg).toNatClampNeg + a0.toNatClampNeg); rw [← ey60, ey65, show r62.toNatClampNeg = 16 * y60.toNatClampNeg + a0.toNatClampNeg by rw [tn_ r62, tn_ y60, tn_ a0]; omega]) (by omega) (by omega)) (by omega) (by omega) hI hKp ((pw69.ef 47 (Nat.ne_of_beq_eq_false rfl)).trans hr14_47) ((pw69.ef 48 (Nat.ne_of_beq_eq_false rfl)).trans hr14_48) hg70 hP hS (lv_sub hl [0, 1, 2, 3] rfl)
    exact hL14 (21) g8 (0 : Int32) E2 _ _ _ (iv_w ln_0 (by decide)) (fun b9 h9 => absurd h9 (Nat.not_lt_zero b9)) (by have z9 := ln_0; omega) (by have h9 := ln_0; omega) hI hKp hg6 hg7 hg8 hP hS (lv_sub hl [0, 1, 2, 3] rfl)
  · --7 not
    have t72 : r1.toInt = 0 := ti_eq c10
    have i73 : 0 ≤ r1.toInt ∧ r1.toInt ≤ 0 := iv_eqi t72 f4 (il_ 0) (by decide)
    refine lv_iconst (v := -1) hx hb dX3_fitOf_10 (by decide) ?_
    rw [hQ]
    exact W.iret (v := (-1)) hx hb hr (fun t ht hW => ⟨⟨(-1), E2, rfl, ⟨hI, hKp, ⟨(iv_w ln_m1 (by decide)), ⟨fun _ => rfl, fun q9 => by exfalso; obtain ⟨r9, h8, h9⟩ := q9; obtain ⟨i9, g8, -⟩ := k9.1.2.1 r9 h8 h9; rw [tn_] at g8; omega⟩⟩⟩, by show va_P (dC, dI) vwCl (WL (LC cf) ad E2) t.heap; rw [ht]; exact hP⟩, hS.F ht⟩) hS.2.2 dX3_fitOf_11
