

def v_runX : List Cond := .code yX7_run cX7_run 9 (some .int) :: vA
abbrev rm_runX : Room := { frames := 1, cells := 0, slots := 0, locals := 40 }
def w_runX : Nat → Nat → Bool := wl [20] []
set_option maxHeartbeats 4000000 in
set_option maxRecDepth 100000 in
theorem q_runX (l : Launch) (dC : Nat → ClassId) (dI : Nat → Nat → Nat) (cT : Nat → ClassId) (cf : Nat → Nat) (hC : CF cf) (ad : Nat → Nat) (E : Nat → va_E) (sz : Nat) (a0 : Int32) (a1 : Int32) (i : Nat) (hI0 : IXL cT (shC cf) (spC cf) (LC cf) ad E) (hh0 : i < cf 1) (hh1 : 0 ≤ a0.toInt ∧ a0.toInt ≤ 200) (hh2 : 0 ≤ a1.toInt ∧ a1.toInt ≤ 200) (hh3 : a1.toInt ≤ ((cf (9 + 2 * i) : Nat) : Int)) (hh4 : a0.toInt ≤ a1.toInt) (hh5 : ∀ p9, B7 (cL E p9)) (hh6 : ∀ j9, j9 < a1.toNatClampNeg → rSt E i j9 ≤ 16777215) : Met l yX7_run v_runX rm_runX (va_Pc [.ref (ad (64 * (i + 1) + 1)), .int a0, .int a1, .ref (ad 19), .ref (ad 20)] (HWL dC dI (TYC cT) cf ad E sz)) (va_Qi (S := Nat → va_E) (fun r u => IXL cT (shC cf) (spC cf) (LC cf) ad u ∧ Kp w_runX E u ∧ ((r = rT (X (cL E) (sg (rSt E i) a0.toNatClampNeg a1.toNatClampNeg) [])))) (HBL dC dI (LC cf) ad) (va_A (WL (LC cf) ad E) sz)) 0 0 (va_A (WL (LC cf) ad E) sz) := by
  obtain ⟨⟨hc0, hc1, hc2, hc3, hc4, hc5⟩, hcr⟩ := id hC
  refine Met.ofW (cc := cX7_run) (maxL := 9) (ret := (some .int)) (by decide) rfl ?_
  intro p e s m args below meth c s₁ B hml hv
  obtain ⟨hargs, hsz, hP, hK, hD0, hEV⟩ := hv
  subst hsz
  have hx := B.exec
  have hb := B.bytes
  have hr := B.returns
  have hts := atoms_spec (ws := v_runX) B.pre
  have hown : s.vm.findClass RX7 = some m.cls := findClass_of_methodNamed B.named
  have hlocks := B.notSynchronized
  have hinX7 : ∀ w ∈ u_ws RX7 TX7 6, w ∈ v_runX := fun w h => vA_in _ w (in_X7 w h)
  generalize hAe : va_A (WL (LC cf) ad E) s.heap.size = A at hEV ⊢
  have hA : ∀ q : Nat, s.heap.size ≤ q → A q := fun q h => by rw [← hAe]; exact Or.inr h
  have hD : va_D A (WL (LC cf) ad E) := by rw [← hAe]; exact hD0.self
  have hS : va_S A s.heap s.heap [] := va_S.rf
  have hI := hI0
  have hKp : Kp w_runX E E := Kp.rf
  have hl := lv_entry ([.ref (ad (64 * (i + 1) + 1)), .int a0, .int a1, .ref (ad 19), .ref (ad 20)]) (n := 9) (Nat.le_of_ble_eq_true rfl)
  obtain ⟨Q, hQ⟩ : ∃ Q, Q = MQ below (va_Qi (S := Nat → va_E) (fun r u => IXL cT (shC cf) (spC cf) (LC cf) ad u ∧ Kp w_runX E u ∧ ((r = rT (X (cL E) (sg (rSt E i) a0.toNatClampNeg a1.toNatClampNeg) [])))) (HBL dC dI (LC cf) ad) (A)) args s 0 0 (A) := ⟨_, rfl⟩
  rw [← hQ, show entryFrame m args 9 = _ from (congrArg (fun z => entryFrame m z 9) hargs).trans (lg_entry_eq _ _ _)]
  generalize (lg_sl ([.ref (ad (64 * (i + 1) + 1)), .int a0, .int a1, .ref (ad 19), .ref (ad 20)]) ++ List.replicate (9 - (lg_sl ([.ref (ad (64 * (i + 1) + 1)), .int a0, .int a1, .ref (ad 19), .ref (ad 20)])).length) Slot.unset).toArray = ls at hl ⊢
  have hl : lv_has ls 9 [(0, .ref (ad (64 * (i + 1) + 1))), (1, .int a0), (2, .int a1), (3, .ref (ad 19)), (4, .ref (ad 20))] := hl
  have z0z : (0 : Int32).toInt = 0 := rfl
  refine lv_iconst (v := 0) hx hb dX7_run_0 (by decide) ?_
  refine lv_istore (lv' := [(5, .int 0), (0, .ref (ad (64 * (i + 1) + 1))), (1, .int a0), (2, .int a1), (3, .ref (ad 19)), (4, .ref (ad 20))]) hx hb dX7_run_1 hl (by decide) rfl (fun ls hl => ?_)
  refine lv_iload_n hx hb dX7_run_3 rfl (lv_at hl 2 rfl) ?_
  refine lv_istore (lv' := [(6, .int a0), (5, .int 0), (0, .ref (ad (64 * (i + 1) + 1))), (1, .int a0), (2, .int a1), (3, .ref (ad 19)), (4, .ref (ad 20))]) hx hb dX7_run_4 hl (by decide) rfl (fun ls hl => ?_)
  have hL6 : ∀ d : Nat, ∀ (v6_6 : Int32) (v6_5 : Int32) (E6_ : Nat → va_E) (H : Heap) (locs : List Loc) (ls : Array Slot), 0 ≤ v6_6.toInt ∧ v6_6.toInt ≤ 200 → 0 ≤ v6_5.toInt ∧ v6_5.toInt ≤ 200 → RunI (cL E) (rSt E i) a0.toNatClampNeg E6_ v6_6.toNatClampNeg v6_5.toNatClampNeg → v6_6.toInt ≤ a1.toInt → a0.toInt ≤ v6_6.toInt → v6_5.toInt ≤ v6_6.toInt - a0.toInt → 200 - v6_6.toInt < (d : Int) → IXL cT (shC cf) (spC cf) (LC cf) ad E6_ → Kp w_runX E E6_ → va_P (dC, dI) vwCl (WL (LC cf) ad E6_) H → va_S A s.heap H locs → lv_has ls 9 [(6, .int v6_6), (5, .int v6_5), (0, .ref (ad (64 * (i + 1) + 1))), (1, .int a0), (2, .int a1), (3, .ref (ad 19)), (4, .ref (ad 20))] → W p l e (headSpec v_runX rm_runX).room s m args below meth c H locs 0 0 Q (F0 m 6 ls []) := by
    intro d
    induction d with
    | zero =>
      intro v6_6 v6_5 E6_ H locs ls hv6_6 hv6_5 hx6_0 hx6_1 hx6_2 hx6_3 hx6_4 hI hKp hP hS hl
      exact absurd hx6_4 (by first | exact ms_zu hv6_6.2 | omega)
    | succ d ih6 =>
      intro v6_6 v6_5 E6_ H locs ls hv6_6 hv6_5 hx6_0 hx6_1 hx6_2 hx6_3 hx6_4 hI hKp hP hS hl
      refine lv_iload hx hb dX7_run_6 (lv_at hl 0 rfl) ?_
      refine lv_iload_n hx hb dX7_run_8 rfl (lv_at hl 4 rfl) ?_
      refine lv_icmp_ge (tgt := 150) hx hb dX7_run_9 (by decide) (fun c1 => ?_) (fun c1 => ?_)
      · --9 taken
        have t2 : a1.toInt ≤ v6_6.toInt := ti_le c1
        refine lv_iload hx hb dX7_run_150 (lv_at hl 1 rfl) ?_
        refine lv_if_le (tgt := 165) hx hb dX7_run_152 (by decide) (fun c3 => ?_) (fun c3 => ?_)
        · --152 taken
          have t4 : v6_5.toInt ≤ 0 := ti_le c3
          have i5 : 0 ≤ v6_5.toInt ∧ v6_5.toInt ≤ 0 := iv_le_l t4 hv6_5 (il_ 0) (by decide)
          refine lv_iconst (v := 0) hx hb dX7_run_165 (by decide) ?_
          rw [hQ]
          exact W.iret (v := 0) hx hb hr (fun t ht hW => ⟨⟨0, E6_, rfl, ⟨hI, hKp, hx6_0.out0I (by omega) (by rw [tn_, tn_]; omega)⟩, by show va_P (dC, dI) vwCl (WL (LC cf) ad E6_) t.heap; rw [ht]; exact hP⟩, hS.F ht⟩) hS.2.2 dX7_run_166
        · --152 not
          have t6 : (0 : Int) < v6_5.toInt := ti_nle c3
          have i7 : 1 ≤ v6_5.toInt ∧ v6_5.toInt ≤ 200 := iv_lt_r t6 (il_ 0) hv6_5 (by decide)
          refine lv_aload hx hb dX7_run_155 (lv_at hl 6 rfl) ?_
          refine lv_iload hx hb dX7_run_157 (lv_at hl 1 rfl) ?_
          refine lv_iconst (v := 1) hx hb dX7_run_159 (by decide) ?_
          refine lv_isub hx hb dX7_run_160 ?_
          refine lv_topi (fun y8 ey8 => ?_)
          obtain ⟨ty8, iy8⟩ := ti_sub (e := 0) (f := 199) i7 ln_1 ey8 (by decide)
          have ty8 : y8.toInt = v6_5.toInt - 1 := ty8
          have iy8 : 0 ≤ y8.toInt ∧ y8.toInt ≤ 199 := iy8
          have n10 : vp_in y8 200 := (iv_in (n := 200) iy8 (by decide))
          refine th_ialdL hx hb hK hP hI 20 (mF 20 rfl) rfl rfl n10 dX7_run_161 (fun y9 ey9 => ?_)
          refine lv_goto (tgt := 166) hx hb dX7_run_162 (by decide) ?_
          rw [hQ]
          exact W.iret (v := y9) hx hb hr (fun t ht hW => ⟨⟨y9, E6_, rfl, ⟨hI, hKp, hx6_0.outI (by omega) (show y8.toInt = _ by omega) ey9 (by rw [tn_, tn_]; omega)⟩, by show va_P (dC, dI) vwCl (WL (LC cf) ad E6_) t.heap; rw [ht]; exact hP⟩, hS.F ht⟩) hS.2.2 dX7_run_166
      · --9 not
        have t11 : v6_6.toInt < a1.toInt := ti_nle c1
        have i12 : 0 ≤ v6_6.toInt ∧ v6_6.toInt ≤ 199 := iv_lt_l t11 hv6_6 hh2 (by decide)
        have i13 : 1 ≤ a1.toInt ∧ a1.toInt ≤ 200 := iv_lt_r t11 hv6_6 hh2 (by decide)
        refine lv_aload_n hx hb dX7_run_12 rfl (lv_at hl 2 rfl) ?_
        refine th_getL (ci := 8) (C := RX7) (T := TX7) (N := 6) (v := .ref (ad (64 * (i + 1) + 2))) hx hb hts hinX7 hown hK hP hI (64 * (i + 1) + 1) (mP 1 i (by decide) hh0 (kl_le hC 1 (by decide))) (shC_p 1 i (by decide)) rfl 2 (Nat.le_of_ble_eq_true rfl) (hts _ (vA_in _ _ (in_7 _ (zs4 (zs4 (zs1 (zs1 (zs1 (zs0))))))))) (fun _ h9 => h9) (hI.fr (64 * (i + 1) + 1) (mP 1 i (by decide) hh0 (kl_le hC 1 (by decide))) (shC_p 1 i (by decide)) (Nat.le_of_ble_eq_true rfl) (64 * (i + 1) + 2) (spC_p 1 i (by decide) 2)) dX7_run_13 ?_
        refine lv_iload hx hb dX7_run_16 (lv_at hl 0 rfl) ?_
        have n15 : vp_in v6_6 (cf (9 + 2 * i)) := (vp_in_iff.mpr ⟨by omega, by omega⟩)
        refine th_ialdL hx hb hK hP hI (64 * (i + 1) + 2) (mP 2 i (by decide) hh0 (kl_le hC 1 (by decide))) (shC_p 2 i (by decide)) rfl n15 dX7_run_18 (fun y14 ey14 => ?_)
        have ey14 := ey14.trans (hKp.ei (64 * (i + 1) + 2) _ (wl_p rfl rfl (by omega)))
        refine lv_istore (lv' := [(7, .int y14), (6, .int v6_6), (5, .int v6_5), (0, .ref (ad (64 * (i + 1) + 1))), (1, .int a0), (2, .int a1), (3, .ref (ad 19)), (4, .ref (ad 20))]) hx hb dX7_run_19 hl (by decide) rfl (fun ls hl => ?_)
        refine lv_iload hx hb dX7_run_21 (lv_at hl 0 rfl) ?_
        refine lv_iconst (v := 0) hx hb dX7_run_23 (by decide) ?_
        refine th_pi (va_runS (As := [.int 0]) (rest := [.int y14]) ⟨hx, hb, hml, hown, hts⟩ (q_casSign l (0 : Int32) (iv_w ln_0 (by decide))) (va_cwS 1 hts (gi_S (in_7 _ (zs4 (zs4 (zs4 (zs0))))) (in_7 _ (zs4 (zs4 (zs4 (zs1 (zs0)))))) (in_7 _ (zs1 (zs1 (zs0)))) (in_7 _ (zs4 (zs4 (zs4 (zs1 (zs1 (zs0)))))))) rfl rfl rfl hz_yX7_asSign_1 ⟨Nat.le_of_ble_eq_true rfl, Nat.le_of_ble_eq_true rfl⟩) ⟨fun _ _ _ _ q => q, fun _ _ _ => ⟨rfl, trivial⟩⟩ rfl rfl hl.1 rfl (lv_room (Nat.le_of_ble_eq_true rfl)) dX7_run_24 ⟨Nat.le_of_ble_eq_true rfl, Nat.le_of_ble_eq_true rfl⟩) hS (fun r16 H1 locs1 hw hk1 hS => ?_)
        have hP := ub_keep hP hk1
        generalize H1 = H at hP hS ⊢
        generalize locs1 = locs at hS ⊢
        obtain ⟨f17, f18⟩ := hw
        refine lv_icmp_gt (tgt := 110) hx hb dX7_run_27 (by decide) (fun c19 => ?_) (fun c19 => ?_)
        · --27 taken
          have t20 : r16.toInt < y14.toInt := ti_lt c19
          have i21 : -354 ≤ y14.toInt ∧ y14.toInt ≤ 2147483647 := iv_lt_r t20 f17 (iv_all _) (by decide)
          refine lv_iload hx hb dX7_run_110 (lv_at hl 2 rfl) ?_
          refine lv_aload hx hb dX7_run_112 (lv_at hl 7 rfl) ?_
          refine va_alen (v := 200) hx hb hK hP (posL 20 (LC cf)) 0 (hI.ar 20 (mF 20 rfl) rfl) rfl rfl dX7_run_114 ?_
          refine lv_icmp_ge (tgt := 144) hx hb dX7_run_115 (by decide) (fun c22 => ?_) (fun c22 => ?_)
          · --115 taken
            have t23 : (200 : Int) ≤ v6_5.toInt := ti_le c22
            have i24 : 200 ≤ v6_5.toInt ∧ v6_5.toInt ≤ 200 := iv_le_r t23 (il_ 200) hv6_5 (by decide)
            exfalso; omega
          · --115 not
            have t25 : v6_5.toInt < 200 := ti_nle c22
            have i26 : 0 ≤ v6_5.toInt ∧ v6_5.toInt ≤ 199 := iv_lt_l t25 hv6_5 (il_ 200) (by decide)
            refine lv_aload hx hb dX7_run_118 (lv_at hl 7 rfl) ?_
            refine lv_iload hx hb dX7_run_120 (lv_at hl 2 rfl) ?_
            refine lv_iload hx hb dX7_run_122 (lv_at hl 0 rfl) ?_
            refine lv_if_lt (tgt := 132) hx hb dX7_run_124 (by decide) (fun c27 => ?_) (fun c27 => ?_)
            · --124 taken
              have t28 : y14.toInt < 0 := ti_lt c27
              have i29 : -354 ≤ y14.toInt ∧ y14.toInt ≤ -1 := iv_lt_l t28 i21 (il_ 0) (by decide)
              refine lv_iconst (v := -1) hx hb dX7_run_132 (by decide) ?_
              refine lv_iload hx hb dX7_run_133 (lv_at hl 0 rfl) ?_
              refine lv_isub hx hb dX7_run_135 ?_
              refine lv_topi (fun y30 ey30 => ?_)
              obtain ⟨ty30, iy30⟩ := ti_sub (e := 0) (f := 353) ln_m1 i29 ey30 (by decide)
              have ty30 : y30.toInt = -1 - y14.toInt := ty30
              have iy30 : 0 ≤ y30.toInt ∧ y30.toInt ≤ 353 := iy30
              refine lv_aload_n hx hb dX7_run_136 rfl (lv_at hl 6 rfl) ?_
              refine th_riL (va_runS (As := [.int y30, .ref (ad 19)]) (rest := [.int v6_5, .ref (ad 20)]) ⟨hx, hb, hml, hown, hts⟩ (q_letterAtX l dC dI cT cf hC ad E6_ H.size y30 hI (iv_w iy30 (by decide))) (va_cwS 2 hts (gi_S (in_7 _ (zs16 (zs4 (zs1 (zs1 (zs0)))))) (in_7 _ (zs16 (zs4 (zs1 (zs1 (zs1 (zs0))))))) (in_7 _ (zs1 (zs1 (zs0)))) (in_7 _ (zs16 (zs4 (zs4 (zs0)))))) rfl rfl rfl hz_yX7_letterAt_2 ⟨Nat.le_of_ble_eq_true rfl, Nat.le_of_ble_eq_true rfl⟩) ⟨HWL_bl, (HWL_wi hP hK (WL_D hD) hS hA hEV)⟩ rfl rfl hl.1 rfl (lv_room (Nat.le_of_ble_eq_true rfl)) dX7_run_137 ⟨Nat.le_of_ble_eq_true rfl, Nat.le_of_ble_eq_true rfl⟩) hS hP (fun r31 H locs hw hP hS => ?_)
              have f32 := hw
              have k33 : r31 = cL E y30.toNatClampNeg := f32.trans (congrFun (cL_k (fun j9 => hKp.ei 19 j9 rfl)) _)
              have n34 : vp_in v6_5 200 := (iv_in (n := 200) i26 (by decide))
              refine th_iastL hx hb hK hP (WL_D hD) hS hI 20 (mF 20 rfl) rfl rfl n34 (okI rfl (iv_all _)) dX7_run_140 (fun H locs E35 pw36 hI hP hS => ?_)
              have hKp := hKp.pw pw36 rfl
              obtain ⟨y37, ey37⟩ : ∃ y : Int32, y = v6_5 + (1 : Int32) := ⟨_, rfl⟩
              obtain ⟨ty37, iy37⟩ := ti_add (e := 1) (f := 200) i26 ln_1 ey37 (by decide)
              have ty37 : y37.toInt = v6_5.toInt + 1 := ty37
              have iy37 : 1 ≤ y37.toInt ∧ y37.toInt ≤ 200 := iy37
              refine lv_iinc (v := y37) (lv' := [(5, .int y37), (7, .int y14), (6, .int v6_6), (0, .ref (ad (64 * (i + 1) + 1))), (1, .int a0), (2, .int a1), (3, .ref (ad 19)), (4, .ref (ad 20))]) hx hb dX7_run_141 hl (k := 2) rfl (by rw [ey37]; rfl) (by decide) rfl (fun ls hl => ?_)
              obtain ⟨y38, ey38⟩ : ∃ y : Int32, y = v6_6 + (1 : Int32) := ⟨_, rfl⟩
              obtain ⟨ty38, iy38⟩ := ti_add (e := 1) (f := 200) i12 ln_1 ey38 (by decide)
              have ty38 : y38.toInt = v6_6.toInt + 1 := ty38
              have iy38 : 1 ≤ y38.toInt ∧ y38.toInt ≤ 200 := iy38
              refine lv_iinc (v := y38) (lv' := [(6, .int y38), (5, .int y37), (7, .int y14), (0, .ref (ad (64 * (i + 1) + 1))), (1, .int a0), (2, .int a1), (3, .ref (ad 19)), (4, .ref (ad 20))]) hx hb dX7_run_144 hl (k := 2) rfl (by rw [ey38]; rfl) (by decide) rfl (fun ls hl => ?_)
              refine lv_goto (tgt := 6) hx hb dX7_run_147 (by decide) ?_
              exact ih6 y38 y37 E35 _ _ _ (iv_w iy38 (by decide)) (iv_w iy37 (by decide)) (hx6_0.pushI (v := r31) (y := y37) (by rw [(show rSt E i v6_6.toNatClampNeg = y14.toInt from (congrArg Int32.toInt ey14).symm)]; omega) (psh_l (by omega) (show rSt E i v6_6.toNatClampNeg = y14.toInt from (congrArg Int32.toInt ey14).symm) (show y30.toInt = _ by omega) k33) (by rw [k33]; exact hh5 _) pw36 (by omega) (by omega) (by rw [tn_, tn_]; omega)) (by omega) (by omega) (by omega) (by first | exact ms_su hx6_4 ty38 (by decide) | omega) hI hKp hP hS (lv_sub hl [0, 1, 3, 4, 5, 6, 7] rfl)
            · --124 not
              have t39 : (0 : Int) ≤ y14.toInt := ti_nlt c27
              have i40 : 0 ≤ y14.toInt ∧ y14.toInt ≤ 2147483647 := iv_le_r t39 (il_ 0) i21 (by decide)
              refine lv_iload hx hb dX7_run_127 (lv_at hl 0 rfl) ?_
              refine lv_goto (tgt := 140) hx hb dX7_run_129 (by decide) ?_
              have n41 : vp_in v6_5 200 := (iv_in (n := 200) i26 (by decide))
              refine th_iastL hx hb hK hP (WL_D hD) hS hI 20 (mF 20 rfl) rfl rfl n41 (okI rfl (iv_w i40 (by decide))) dX7_run_140 (fun H locs E42 pw43 hI hP hS => ?_)
              have hKp := hKp.pw pw43 rfl
              obtain ⟨y44, ey44⟩ : ∃ y : Int32, y = v6_5 + (1 : Int32) := ⟨_, rfl⟩
              obtain ⟨ty44, iy44⟩ := ti_add (e := 1) (f := 200) i26 ln_1 ey44 (by decide)
              have ty44 : y44.toInt = v6_5.toInt + 1 := ty44
              have iy44 : 1 ≤ y44.toInt ∧ y44.toInt ≤ 200 := iy44
              refine lv_iinc (v := y44) (lv' := [(5, .int y44), (7, .int y14), (6, .int v6_6), (0, .ref (ad (64 * (i + 1) + 1))), (1, .int a0), (2, .int a1), (3, .ref (ad 19)), (4, .ref (ad 20))]) hx hb dX7_run_141 hl (k := 2) rfl (by rw [ey44]; rfl) (by decide) rfl (fun ls hl => ?_)
              obtain ⟨y45, ey45⟩ : ∃ y : Int32, y = v6_6 + (1 : Int32) := ⟨_, rfl⟩
              obtain ⟨ty45, iy45⟩ := ti_add (e := 1) (f := 200) i12 ln_1 ey45 (by decide)
              have ty45 : y45.toInt = v6_6.toInt + 1 := ty45
              have iy45 : 1 ≤ y45.toInt ∧ y45.toInt ≤ 200 := iy45
              refine lv_iinc (v := y45) (lv' := [(6, .int y45), (5, .int y44), (7, .int y14), (0, .ref (ad (64 * (i + 1) + 1))), (1, .int a0), (2, .int a1), (3, .ref (ad 19)), (4, .ref (ad 20))]) hx hb dX7_run_144 hl (k := 2) rfl (by rw [ey45]; rfl) (by decide) rfl (fun ls hl => ?_)
              refine lv_goto (tgt := 6) hx hb dX7_run_147 (by decide) ?_
              exact ih6 y45 y44 E42 _ _ _ (iv_w iy45 (by decide)) (iv_w iy44 (by decide)) (hx6_0.pushI (v := y14) (y := y44) (by rw [(show rSt E i v6_6.toNatClampNeg = y14.toInt from (congrArg Int32.toInt ey14).symm)]; omega) (psh_n (by omega) (show rSt E i v6_6.toNatClampNeg = y14.toInt from (congrArg Int32.toInt ey14).symm)) ⟨by omega, by have h9 := hh6 v6_6.toNatClampNeg (by rw [tn_, tn_]; omega); rw [(show rSt E i v6_6.toNatClampNeg = y14.toInt from (congrArg Int32.toInt ey14).symm)] at h9; omega⟩ pw43 (by omega) (by omega) (by rw [tn_, tn_]; omega)) (by omega) (by omega) (by omega) (by first | exact ms_su hx6_4 ty45 (by decide) | omega) hI hKp hP hS (lv_sub hl [0, 1, 3, 4, 5, 6, 7] rfl)
        · --27 not
          have t46 : y14.toInt ≤ r16.toInt := ti_nlt c19
          have i47 : -2147483648 ≤ y14.toInt ∧ y14.toInt ≤ -100 := iv_le_l t46 (iv_all _) f17 (by decide)
          refine lv_bipush (v := -100) hx hb dX7_run_30 (by decide) ?_
          refine lv_iload hx hb dX7_run_32 (lv_at hl 0 rfl) ?_
          refine lv_isub hx hb dX7_run_34 ?_
          refine lv_topi (fun y48 ey48 => ?_)
          obtain ⟨ty48, iy48⟩ := ti_sub (e := 0) (f := 2147483548) ln_m100 i47 ey48 (by decide)
          have ty48 : y48.toInt = -100 - y14.toInt := ty48
          have iy48 : 0 ≤ y48.toInt ∧ y48.toInt ≤ 2147483548 := iy48
          refine lv_istore (lv' := [(8, .int y48), (7, .int y14), (6, .int v6_6), (5, .int v6_5), (0, .ref (ad (64 * (i + 1) + 1))), (1, .int a0), (2, .int a1), (3, .ref (ad 19)), (4, .ref (ad 20))]) hx hb dX7_run_35 hl (by decide) rfl (fun ls hl => ?_)
          refine lv_iload hx hb dX7_run_37 (lv_at hl 0 rfl) ?_
          refine lv_bipush (v := 33) hx hb dX7_run_39 (by decide) ?_
          refine lv_icmp_ne (tgt := 74) hx hb dX7_run_41 (by decide) (fun c49 => ?_) (fun c49 => ?_)
          · --41 taken
            have t50 : ¬ y48.toInt = 33 := ti_ne c49
            refine lv_iload hx hb dX7_run_74 (lv_at hl 3 rfl) ?_
            refine lv_iconst (v := 1) hx hb dX7_run_76 (by decide) ?_
            refine lv_icmp_le (tgt := 107) hx hb dX7_run_77 (by decide) (fun c51 => ?_) (fun c51 => ?_)
            · --77 taken
              have t52 : v6_5.toInt ≤ 1 := ti_le c51
              have i53 : 0 ≤ v6_5.toInt ∧ v6_5.toInt ≤ 1 := iv_le_l t52 hv6_5 (il_ 1) (by decide)
              refine lv_goto (tgt := 144) hx hb dX7_run_107 (by decide) ?_
              obtain ⟨y54, ey54⟩ : ∃ y : Int32, y = v6_6 + (1 : Int32) := ⟨_, rfl⟩
              obtain ⟨ty54, iy54⟩ := ti_add (e := 1) (f := 200) i12 ln_1 ey54 (by decide)
              have ty54 : y54.toInt = v6_6.toInt + 1 := ty54
              have iy54 : 1 ≤ y54.toInt ∧ y54.toInt ≤ 200 := iy54
              refine lv_iinc (v := y54) (lv' := [(6, .int y54), (8, .int y48), (7, .int y14), (5, .int v6_5), (0, .ref (ad (64 * (i + 1) + 1))), (1, .int a0), (2, .int a1), (3, .ref (ad 19)), (4, .ref (ad 20))]) hx hb dX7_run_144 hl (k := 2) rfl (by rw [ey54]; rfl) (by decide) rfl (fun ls hl => ?_)
              refine lv_goto (tgt := 6) hx hb dX7_run_147 (by decide) ?_
              exact ih6 y54 v6_5 E6_ _ _ _ (iv_w iy54 (by decide)) (iv_w i53 (by decide)) (hx6_0.join0I (by rw [(show rSt E i v6_6.toNatClampNeg = y14.toInt from (congrArg Int32.toInt ey14).symm)]; omega) (by rw [(show rSt E i v6_6.toNatClampNeg = y14.toInt from (congrArg Int32.toInt ey14).symm)]; omega) (by omega) (by rw [tn_, tn_]; omega)) (by omega) (by omega) (by omega) (by first | exact ms_su hx6_4 ty54 (by decide) | omega) hI hKp hP hS (lv_sub hl [0, 3, 4, 5, 6, 7, 8] rfl)
            · --77 not
              have t55 : (1 : Int) < v6_5.toInt := ti_nle c51
              have i56 : 2 ≤ v6_5.toInt ∧ v6_5.toInt ≤ 200 := iv_lt_r t55 (il_ 1) hv6_5 (by decide)
              obtain ⟨y57, ey57⟩ : ∃ y : Int32, y = v6_5 + (-1 : Int32) := ⟨_, rfl⟩
              obtain ⟨ty57, iy57⟩ := ti_add (e := 1) (f := 199) i56 ln_m1 ey57 (by decide)
              have ty57 : y57.toInt = v6_5.toInt + (-1) := ty57
              have iy57 : 1 ≤ y57.toInt ∧ y57.toInt ≤ 199 := iy57
              refine lv_iinc (v := y57) (lv' := [(5, .int y57), (8, .int y48), (7, .int y14), (6, .int v6_6), (0, .ref (ad (64 * (i + 1) + 1))), (1, .int a0), (2, .int a1), (3, .ref (ad 19)), (4, .ref (ad 20))]) hx hb dX7_run_80 hl (k := 3) rfl (by rw [ey57]; rfl) (by decide) rfl (fun ls hl => ?_)
              refine lv_aload hx hb dX7_run_83 (lv_at hl 8 rfl) ?_
              refine lv_iload hx hb dX7_run_85 (lv_at hl 0 rfl) ?_
              refine lv_iconst (v := 1) hx hb dX7_run_87 (by decide) ?_
              refine lv_isub hx hb dX7_run_88 ?_
              refine lv_topi (fun y58 ey58 => ?_)
              obtain ⟨ty58, iy58⟩ := ti_sub (e := 0) (f := 198) iy57 ln_1 ey58 (by decide)
              have ty58 : y58.toInt = y57.toInt - 1 := ty58
              have iy58 : 0 ≤ y58.toInt ∧ y58.toInt ≤ 198 := iy58
              refine lv_iload hx hb dX7_run_89 (lv_at hl 1 rfl) ?_
              refine lv_aload hx hb dX7_run_91 (lv_at hl 8 rfl) ?_
              refine lv_iload hx hb dX7_run_93 (lv_at hl 0 rfl) ?_
              refine lv_iconst (v := 1) hx hb dX7_run_95 (by decide) ?_
              refine lv_isub hx hb dX7_run_96 ?_
              refine lv_topi (fun y59 ey59 => ?_)
              obtain ⟨ty59, iy59⟩ := ti_sub (e := 0) (f := 198) iy57 ln_1 ey59 (by decide)
              have ty59 : y59.toInt = y57.toInt - 1 := ty59
              have iy59 : 0 ≤ y59.toInt ∧ y59.toInt ≤ 198 := iy59
              have n61 : vp_in y59 200 := (iv_in (n := 200) iy59 (by decide))
              refine th_ialdL hx hb hK hP hI 20 (mF 20 rfl) rfl rfl n61 dX7_run_97 (fun y60 ey60 => ?_)
              refine lv_aload hx hb dX7_run_98 (lv_at hl 8 rfl) ?_
              refine lv_iload hx hb dX7_run_100 (lv_at hl 0 rfl) ?_
              have n63 : vp_in y57 200 := (iv_in (n := 200) iy57 (by decide))
              refine th_ialdL hx hb hK hP hI 20 (mF 20 rfl) rfl rfl n63 dX7_run_102 (fun y62 ey62 => ?_)
              have kby60 : B7 y60 := hx6_0.b7 (show 0 ≤ y59.toInt by omega) (by omega) ey60
              have kcy60 : -16777216 ≤ y60.toInt ∧ y60.toInt ≤ 16777215 := kby60
              refine th_pi (va_runS (As := [.int y48, .int y60, .int y62]) (rest := [.int y58, .ref (ad 20)]) ⟨hx, hb, hml, hown, hts⟩ (q_joinX l y48 y60 y62 kcy60) (va_cwS 3 hts (gi_S (in_7 _ (zs4 (zs4 (zs4 (zs1 (zs1 (zs1 (zs0)))))))) (in_7 _ (zs16 (zs0))) (in_7 _ (zs1 (zs1 (zs0)))) (in_7 _ (zs16 (zs1 (zs0))))) rfl rfl rfl hz_yX7_join_3 ⟨Nat.le_of_ble_eq_true rfl, Nat.le_of_ble_eq_true rfl⟩) ⟨fun _ _ _ _ q => q, fun _ _ _ => ⟨rfl, trivial⟩⟩ rfl rfl hl.1 rfl (lv_room (Nat.le_of_ble_eq_true rfl)) dX7_run_103 ⟨Nat.le_of_ble_eq_true rfl, Nat.le_of_ble_eq_true rfl⟩) hS (fun r64 H1 locs1 hw hk1 hS => ?_)
              have hP := ub_keep hP hk1
              generalize H1 = H at hP hS ⊢
              generalize locs1 = locs at hS ⊢
              have f65 := hw
              have n66 : vp_in y58 200 := (iv_in (n := 200) iy58 (by decide))
              refine th_iastL hx hb hK hP (WL_D hD) hS hI 20 (mF 20 rfl) rfl rfl n66 (okI rfl (iv_all _)) dX7_run_106 (fun H locs E67 pw68 hI hP hS => ?_)
              have hKp := hKp.pw pw68 rfl
              refine lv_goto (tgt := 144) hx hb dX7_run_107 (by decide) ?_
              obtain ⟨y69, ey69⟩ : ∃ y : Int32, y = v6_6 + (1 : Int32) := ⟨_, rfl⟩
              obtain ⟨ty69, iy69⟩ := ti_add (e := 1) (f := 200) i12 ln_1 ey69 (by decide)
              have ty69 : y69.toInt = v6_6.toInt + 1 := ty69
              have iy69 : 1 ≤ y69.toInt ∧ y69.toInt ≤ 200 := iy69
              refine lv_iinc (v := y69) (lv' := [(6, .int y69), (5, .int y57), (8, .int y48), (7, .int y14), (0, .ref (ad (64 * (i + 1) + 1))), (1, .int a0), (2, .int a1), (3, .ref (ad 19)), (4, .ref (ad 20))]) hx hb dX7_run_144 hl (k := 3) rfl (by rw [ey69]; rfl) (by decide) rfl (fun ls hl => ?_)
              refine lv_goto (tgt := 6) hx hb dX7_run_147 (by decide) ?_
              exact ih6 y69 y57 E67 _ _ _ (iv_w iy69 (by decide)) (iv_w iy57 (by decide)) (hx6_0.joinI (xh := y57) (y := y58) (z := y59) (b1 := y60) (b2 := y62) (by rw [(show rSt E i v6_6.toNatClampNeg = y14.toInt from (congrArg Int32.toInt ey14).symm)]; omega) (by rw [(show rSt E i v6_6.toNatClampNeg = y14.toInt from (congrArg Int32.toInt ey14).symm)]; omega) (by omega) (by omega) (by omega) (by omega) ey60 ey62 (by rw [(show rSt E i v6_6.toNatClampNeg = y14.toInt from (congrArg Int32.toInt ey14).symm), show -100 - y14.toInt = y48.toInt by omega]; exact f65) pw68 (by rw [tn_, tn_]; omega)) (by omega) (by omega) (by omega) (by first | exact ms_su hx6_4 ty69 (by decide) | omega) hI hKp hP hS (lv_sub hl [0, 1, 4, 5, 6, 7, 8] rfl)
          · --41 not
            have t70 : y48.toInt = 33 := ti_eq c49
            have i71 : 33 ≤ y48.toInt ∧ y48.toInt ≤ 33 := iv_eqi t70 iy48 (il_ 33) (by decide)
            refine lv_iload hx hb dX7_run_44 (lv_at hl 3 rfl) ?_
            refine lv_if_le (tgt := 107) hx hb dX7_run_46 (by decide) (fun c72 => ?_) (fun c72 => ?_)
            · --46 taken
              have t73 : v6_5.toInt ≤ 0 := ti_le c72
              have i74 : 0 ≤ v6_5.toInt ∧ v6_5.toInt ≤ 0 := iv_le_l t73 hv6_5 (il_ 0) (by decide)
              refine lv_goto (tgt := 144) hx hb dX7_run_107 (by decide) ?_
              obtain ⟨y75, ey75⟩ : ∃ y : Int32, y = v6_6 + (1 : Int32) := ⟨_, rfl⟩
              obtain ⟨ty75, iy75⟩ := ti_add (e := 1) (f := 200) i12 ln_1 ey75 (by decide)
              have ty75 : y75.toInt = v6_6.toInt + 1 := ty75
              have iy75 : 1 ≤ y75.toInt ∧ y75.toInt ≤ 200 := iy75
              refine lv_iinc (v := y75) (lv' := [(6, .int y75), (8, .int y48), (7, .int y14), (5, .int v6_5), (0, .ref (ad (64 * (i + 1) + 1))), (1, .int a0), (2, .int a1), (3, .ref (ad 19)), (4, .ref (ad 20))]) hx hb dX7_run_144 hl (k := 2) rfl (by rw [ey75]; rfl) (by decide) rfl (fun ls hl => ?_)
              refine lv_goto (tgt := 6) hx hb dX7_run_147 (by decide) ?_
              exact ih6 y75 v6_5 E6_ _ _ _ (iv_w iy75 (by decide)) (iv_w i74 (by decide)) (hx6_0.not0I (by rw [(show rSt E i v6_6.toNatClampNeg = y14.toInt from (congrArg Int32.toInt ey14).symm)]; omega) (by omega) (by rw [tn_, tn_]; omega)) (by omega) (by omega) (by omega) (by first | exact ms_su hx6_4 ty75 (by decide) | omega) hI hKp hP hS (lv_sub hl [0, 3, 4, 5, 6, 7, 8] rfl)
            · --46 not
              have t76 : (0 : Int) < v6_5.toInt := ti_nle c72
              have i77 : 1 ≤ v6_5.toInt ∧ v6_5.toInt ≤ 200 := iv_lt_r t76 (il_ 0) hv6_5 (by decide)
              refine lv_aload hx hb dX7_run_49 (lv_at hl 8 rfl) ?_
              refine lv_iload hx hb dX7_run_51 (lv_at hl 3 rfl) ?_
              refine lv_iconst (v := 1) hx hb dX7_run_53 (by decide) ?_
              refine lv_isub hx hb dX7_run_54 ?_
              refine lv_topi (fun y78 ey78 => ?_)
              obtain ⟨ty78, iy78⟩ := ti_sub (e := 0) (f := 199) i77 ln_1 ey78 (by decide)
              have ty78 : y78.toInt = v6_5.toInt - 1 := ty78
              have iy78 : 0 ≤ y78.toInt ∧ y78.toInt ≤ 199 := iy78
              refine lv_aload hx hb dX7_run_55 (lv_at hl 8 rfl) ?_
              refine lv_iload hx hb dX7_run_57 (lv_at hl 3 rfl) ?_
              refine lv_iconst (v := 1) hx hb dX7_run_59 (by decide) ?_
              refine lv_isub hx hb dX7_run_60 ?_
              refine lv_topi (fun y79 ey79 => ?_)
              obtain ⟨ty79, iy79⟩ := ti_sub (e := 0) (f := 199) i77 ln_1 ey79 (by decide)
              have ty79 : y79.toInt = v6_5.toInt - 1 := ty79
              have iy79 : 0 ≤ y79.toInt ∧ y79.toInt ≤ 199 := iy79
              have n81 : vp_in y79 200 := (iv_in (n := 200) iy79 (by decide))
              refine th_ialdL hx hb hK hP hI 20 (mF 20 rfl) rfl rfl n81 dX7_run_61 (fun y80 ey80 => ?_)
              refine lv_if_ne (tgt := 69) hx hb dX7_run_62 (by decide) (fun c82 => ?_) (fun c82 => ?_)
              · --62 taken
                have t83 : ¬ y80.toInt = 0 := ti_ne c82
                refine lv_iconst (v := 0) hx hb dX7_run_69 (by decide) ?_
                have n84 : vp_in y78 200 := (iv_in (n := 200) iy78 (by decide))
                refine th_iastL hx hb hK hP (WL_D hD) hS hI 20 (mF 20 rfl) rfl rfl n84 (okI rfl (iv_w ln_0 (by decide))) dX7_run_70 (fun H locs E85 pw86 hI hP hS => ?_)
                have hKp := hKp.pw pw86 rfl
                refine lv_goto (tgt := 107) hx hb dX7_run_71 (by decide) ?_
                refine lv_goto (tgt := 144) hx hb dX7_run_107 (by decide) ?_
                obtain ⟨y87, ey87⟩ : ∃ y : Int32, y = v6_6 + (1 : Int32) := ⟨_, rfl⟩
                obtain ⟨ty87, iy87⟩ := ti_add (e := 1) (f := 200) i12 ln_1 ey87 (by decide)
                have ty87 : y87.toInt = v6_6.toInt + 1 := ty87
                have iy87 : 1 ≤ y87.toInt ∧ y87.toInt ≤ 200 := iy87
                refine lv_iinc (v := y87) (lv' := [(6, .int y87), (8, .int y48), (7, .int y14), (5, .int v6_5), (0, .ref (ad (64 * (i + 1) + 1))), (1, .int a0), (2, .int a1), (3, .ref (ad 19)), (4, .ref (ad 20))]) hx hb dX7_run_144 hl (k := 2) rfl (by rw [ey87]; rfl) (by decide) rfl (fun ls hl => ?_)
                refine lv_goto (tgt := 6) hx hb dX7_run_147 (by decide) ?_
                exact ih6 y87 v6_5 E85 _ _ _ (iv_w iy87 (by decide)) (iv_w i77 (by decide)) (hx6_0.notI (b := y80) (v := 0) (by rw [(show rSt E i v6_6.toNatClampNeg = y14.toInt from (congrArg Int32.toInt ey14).symm)]; omega) (by omega) (show y78.toInt = _ by omega) (show y79.toInt = _ by omega) ey80 ((if_neg (fun q9 => by have q8 := congrArg Int32.toInt q9; have z9 : (0 : Int32).toInt = 0 := rfl; omega)).symm) pw86 (by rw [tn_, tn_]; omega)) (by omega) (by omega) (by omega) (by first | exact ms_su hx6_4 ty87 (by decide) | omega) hI hKp hP hS (lv_sub hl [0, 3, 4, 5, 6, 7, 8] rfl)
              · --62 not
                have t88 : y80.toInt = 0 := ti_eq c82
                have i89 : 0 ≤ y80.toInt ∧ y80.toInt ≤ 0 := iv_eqi t88 (iv_all _) (il_ 0) (by decide)
                refine lv_iconst (v := 1) hx hb dX7_run_65 (by decide) ?_
                refine lv_goto (tgt := 70) hx hb dX7_run_66 (by decide) ?_
                have n90 : vp_in y78 200 := (iv_in (n := 200) iy78 (by decide))
                refine th_iastL hx hb hK hP (WL_D hD) hS hI 20 (mF 20 rfl) rfl rfl n90 (okI rfl (iv_w ln_1 (by decide))) dX7_run_70 (fun H locs E91 pw92 hI hP hS => ?_)
                have hKp := hKp.pw pw92 rfl
                refine lv_goto (tgt := 107) hx hb dX7_run_71 (by decide) ?_
                refine lv_goto (tgt := 144) hx hb dX7_run_107 (by decide) ?_
                obtain ⟨y93, ey93⟩ : ∃ y : Int32, y = v6_6 + (1 : Int32) := ⟨_, rfl⟩
                obtain ⟨ty93, iy93⟩ := ti_add (e := 1) (f := 200) i12 ln_1 ey93 (by decide)
                have ty93 : y93.toInt = v6_6.toInt + 1 := ty93
                have iy93 : 1 ≤ y93.toInt ∧ y93.toInt ≤ 200 := iy93
                refine lv_iinc (v := y93) (lv' := [(6, .int y93), (8, .int y48), (7, .int y14), (5, .int v6_5), (0, .ref (ad (64 * (i + 1) + 1))), (1, .int a0), (2, .int a1), (3, .ref (ad 19)), (4, .ref (ad 20))]) hx hb dX7_run_144 hl (k := 2) rfl (by rw [ey93]; rfl) (by decide) rfl (fun ls hl => ?_)
                refine lv_goto (tgt := 6) hx hb dX7_run_147 (by decide) ?_
                exact ih6 y93 v6_5 E91 _ _ _ (iv_w iy93 (by decide)) (iv_w i77 (by decide)) (hx6_0.notI (b := y80) (v := 1) (by rw [(show rSt E i v6_6.toNatClampNeg = y14.toInt from (congrArg Int32.toInt ey14).symm)]; omega) (by omega) (show y78.toInt = _ by omega) (show y79.toInt = _ by omega) ey80 ((if_pos (Int32.toInt_inj.mp (by have z9 : (0 : Int32).toInt = 0 := rfl; omega))).symm) pw92 (by rw [tn_, tn_]; omega)) (by omega) (by omega) (by omega) (by first | exact ms_su hx6_4 ty93 (by decide) | omega) hI hKp hP hS (lv_sub hl [0, 3, 4, 5, 6, 7, 8] rfl)
  exact hL6 (201) a0 (0 : Int32) E _ _ _ hh1 (iv_w ln_0 (by decide)) RunI.start (by omega) (by omega) (by have z9 : (0 : Int32).toInt = 0 := rfl; omega) (by have h9 := hh1; first | exact ms_bu h9.1 (by decide) | omega) hI hKp hP hS (lv_sub hl [0, 1, 2, 3, 4, 5, 6] rfl)
def v_worthOfX : List Cond := .code yX7_worthOf cX7_worthOf 6 (some .int) :: vA
abbrev rm_worthOfX : Room := { frames := 2, cells := 0, slots := 0, locals := 80 }
def w_worthOfX : Nat → Nat → Bool := wl [20] []
set_option maxHeartbeats 4000000 in
set_option maxRecDepth 100000 in
theorem q_worthOfX (l : Launch) (dC : Nat → ClassId) (dI : Nat → Nat → Nat) (cT : Nat → ClassId) (cf : Nat → Nat) (hC : CF cf) (ad : Nat → Nat) (E : Nat → va_E) (sz : Nat) (a0 : Int32) (i : Nat) (hI0 : IXL cT (shC cf) (spC cf) (LC cf) ad E) (hh0 : i < cf 1) (hh1 : RulOk E i (cf (8 + 2 * i)) (cf (9 + 2 * i))) (hh2 : ∀ p9, B7 (cL E p9)) (hh3 : 0 ≤ a0.toInt ∧ a0.toInt ≤ 127) : Met l yX7_worthOf v_worthOfX rm_worthOfX (va_Pc [.ref (ad (64 * (i + 1) + 1)), .int a0, .ref (ad 19), .ref (ad 20)] (HWL dC dI (TYC cT) cf ad E sz)) (va_Qi (S := Nat → va_E) (fun r u => IXL cT (shC cf) (spC cf) (LC cf) ad u ∧ Kp w_worthOfX E u ∧ ((r = wo (cL E) a0.toInt (clE E i (cf (8 + 2 * i)))))) (HBL dC dI (LC cf) ad) (va_A (WL (LC cf) ad E) sz)) 0 0 (va_A (WL (LC cf) ad E) sz) := by
  obtain ⟨⟨hc0, hc1, hc2, hc3, hc4, hc5⟩, hcr⟩ := id hC
  refine Met.ofW (cc := cX7_worthOf) (maxL := 6) (ret := (some .int)) (by decide) rfl ?_
  intro p e s m args below meth c s₁ B hml hv
  obtain ⟨hargs, hsz, hP, hK, hD0, hEV⟩ := hv
  subst hsz
  have hx := B.exec
  have hb := B.bytes
  have hr := B.returns
  have hts := atoms_spec (ws := v_worthOfX) B.pre
  have hown : s.vm.findClass RX7 = some m.cls := findClass_of_methodNamed B.named
  have hlocks := B.notSynchronized
  have hinX7 : ∀ w ∈ u_ws RX7 TX7 6, w ∈ v_worthOfX := fun w h => vA_in _ w (in_X7 w h)
  generalize hAe : va_A (WL (LC cf) ad E) s.heap.size = A at hEV ⊢
  have hA : ∀ q : Nat, s.heap.size ≤ q → A q := fun q h => by rw [← hAe]; exact Or.inr h
  have hD : va_D A (WL (LC cf) ad E) := by rw [← hAe]; exact hD0.self
  have hS : va_S A s.heap s.heap [] := va_S.rf
  have hI := hI0
  have hKp : Kp w_worthOfX E E := Kp.rf
  have hl := lv_entry ([.ref (ad (64 * (i + 1) + 1)), .int a0, .ref (ad 19), .ref (ad 20)]) (n := 6) (Nat.le_of_ble_eq_true rfl)
  obtain ⟨Q, hQ⟩ : ∃ Q, Q = MQ below (va_Qi (S := Nat → va_E) (fun r u => IXL cT (shC cf) (spC cf) (LC cf) ad u ∧ Kp w_worthOfX E u ∧ ((r = wo (cL E) a0.toInt (clE E i (cf (8 + 2 * i)))))) (HBL dC dI (LC cf) ad) (A)) args s 0 0 (A) := ⟨_, rfl⟩
  rw [← hQ, show entryFrame m args 6 = _ from (congrArg (fun z => entryFrame m z 6) hargs).trans (lg_entry_eq _ _ _)]
  generalize (lg_sl ([.ref (ad (64 * (i + 1) + 1)), .int a0, .ref (ad 19), .ref (ad 20)]) ++ List.replicate (6 - (lg_sl ([.ref (ad (64 * (i + 1) + 1)), .int a0, .ref (ad 19), .ref (ad 20)])).length) Slot.unset).toArray = ls at hl ⊢
  have hl : lv_has ls 6 [(0, .ref (ad (64 * (i + 1) + 1))), (1, .int a0), (2, .ref (ad 19)), (3, .ref (ad 20))] := hl
  have z0z : (0 : Int32).toInt = 0 := rfl
  refine lv_iconst (v := 0) hx hb dX7_worthOf_0 (by decide) ?_
  refine lv_istore (lv' := [(4, .int 0), (0, .ref (ad (64 * (i + 1) + 1))), (1, .int a0), (2, .ref (ad 19)), (3, .ref (ad 20))]) hx hb dX7_worthOf_1 hl (by decide) rfl (fun ls hl => ?_)
  have hL3 : ∀ d : Nat, ∀ (v3_4 : Int32) (E3_ : Nat → va_E) (H : Heap) (locs : List Loc) (ls : Array Slot), 0 ≤ v3_4.toInt ∧ v3_4.toInt ≤ 200 → WoI (cL E) a0.toInt (clA (rSt E i) (rLa E i) (rBe E i) (rSu E i)) (cf (8 + 2 * i)) v3_4.toNatClampNeg → v3_4.toInt ≤ ((cf (8 + 2 * i) : Nat) : Int) → 200 - v3_4.toInt < (d : Int) → IXL cT (shC cf) (spC cf) (LC cf) ad E3_ → Kp w_worthOfX E E3_ → va_P (dC, dI) vwCl (WL (LC cf) ad E3_) H → va_S A s.heap H locs → lv_has ls 6 [(4, .int v3_4), (0, .ref (ad (64 * (i + 1) + 1))), (1, .int a0), (2, .ref (ad 19)), (3, .ref (ad 20))] → W p l e (headSpec v_worthOfX rm_worthOfX).room s m args below meth c H locs 0 0 Q (F0 m 3 ls []) := by
    intro d
    induction d with
    | zero =>
      intro v3_4 E3_ H locs ls hv3_4 hx3_0 hx3_1 hx3_2 hI hKp hP hS hl
      exact absurd hx3_2 (by first | exact ms_zu hv3_4.2 | omega)
    | succ d ih3 =>
      intro v3_4 E3_ H locs ls hv3_4 hx3_0 hx3_1 hx3_2 hI hKp hP hS hl
      refine lv_iload hx hb dX7_worthOf_3 (lv_at hl 0 rfl) ?_
      refine lv_aload_n hx hb dX7_worthOf_5 rfl (lv_at hl 1 rfl) ?_
      refine th_getL (ci := 8) (C := RX7) (T := TX7) (N := 6) (v := .ref (ad (64 * (i + 1) + 3))) hx hb hts hinX7 hown hK hP hI (64 * (i + 1) + 1) (mP 1 i (by decide) hh0 (kl_le hC 1 (by decide))) (shC_p 1 i (by decide)) rfl 3 (Nat.le_of_ble_eq_true rfl) (hts _ (vA_in _ _ (in_7 _ (zs4 (zs0))))) (fun _ h9 => h9) (hI.fr (64 * (i + 1) + 1) (mP 1 i (by decide) hh0 (kl_le hC 1 (by decide))) (shC_p 1 i (by decide)) (Nat.le_of_ble_eq_true rfl) (64 * (i + 1) + 3) (spC_p 1 i (by decide) 3)) dX7_worthOf_6 ?_
      refine va_alen (v := nI (cf (8 + 2 * i))) hx hb hK hP (posL (64 * (i + 1) + 3) (LC cf)) 0 (hI.ar (64 * (i + 1) + 3) (mP 3 i (by decide) hh0 (kl_le hC 1 (by decide))) (shC_p 3 i (by decide))) rfl rfl dX7_worthOf_9 ?_
      refine lv_topi (fun y1 ey1 => ?_)
      have ty1 : y1.toInt = ((cf (8 + 2 * i) : Nat) : Int) := by rw [ey1]; exact nI_toInt (by have h9 := hcr i; omega)
      have iy1 : 0 ≤ y1.toInt ∧ y1.toInt ≤ 200 := by have h9 := hcr i; omega
      refine lv_icmp_ge (tgt := 108) hx hb dX7_worthOf_10 (by decide) (fun c2 => ?_) (fun c2 => ?_)
      · --10 taken
        have t3 : y1.toInt ≤ v3_4.toInt := ti_le c2
        refine lv_iload_n hx hb dX7_worthOf_108 rfl (lv_at hl 2 rfl) ?_
        refine lv_bipush (v := 110) hx hb dX7_worthOf_109 (by decide) ?_
        refine lv_icmp_ne (tgt := 120) hx hb dX7_worthOf_111 (by decide) (fun c4 => ?_) (fun c4 => ?_)
        · --111 taken
          have t5 : ¬ a0.toInt = 110 := ti_ne c4
          refine lv_iconst (v := 0) hx hb dX7_worthOf_120 (by decide) ?_
          rw [hQ]
          exact W.iret (v := 0) hx hb hr (fun t ht hW => ⟨⟨0, E3_, rfl, ⟨hI, hKp, hx3_0.none (by rw [tn_]; omega) ((if_neg (by omega)).symm)⟩, by show va_P (dC, dI) vwCl (WL (LC cf) ad E3_) t.heap; rw [ht]; exact hP⟩, hS.F ht⟩) hS.2.2 dX7_worthOf_121
        · --111 not
          have t6 : a0.toInt = 110 := ti_eq c4
          have i7 : 110 ≤ a0.toInt ∧ a0.toInt ≤ 110 := iv_eqi t6 hh3 (il_ 110) (by decide)
          refine lv_sipush (v := 1000) hx hb dX7_worthOf_114 (by decide) ?_
          refine lv_goto (tgt := 121) hx hb dX7_worthOf_117 (by decide) ?_
          rw [hQ]
          exact W.iret (v := 1000) hx hb hr (fun t ht hW => ⟨⟨1000, E3_, rfl, ⟨hI, hKp, hx3_0.none (by rw [tn_]; omega) ((if_pos (by omega)).symm)⟩, by show va_P (dC, dI) vwCl (WL (LC cf) ad E3_) t.heap; rw [ht]; exact hP⟩, hS.F ht⟩) hS.2.2 dX7_worthOf_121
      · --10 not
        have t8 : v3_4.toInt < y1.toInt := ti_nle c2
        have i9 : 0 ≤ v3_4.toInt ∧ v3_4.toInt ≤ 199 := iv_lt_l t8 hv3_4 iy1 (by decide)
        have i10 : 1 ≤ y1.toInt ∧ y1.toInt ≤ 200 := iv_lt_r t8 hv3_4 iy1 (by decide)
        refine lv_aload_n hx hb dX7_worthOf_13 rfl (lv_at hl 1 rfl) ?_
        refine th_getL (ci := 8) (C := RX7) (T := TX7) (N := 6) (v := .ref (ad (64 * (i + 1) + 3))) hx hb hts hinX7 hown hK hP hI (64 * (i + 1) + 1) (mP 1 i (by decide) hh0 (kl_le hC 1 (by decide))) (shC_p 1 i (by decide)) rfl 3 (Nat.le_of_ble_eq_true rfl) (hts _ (vA_in _ _ (in_7 _ (zs4 (zs0))))) (fun _ h9 => h9) (hI.fr (64 * (i + 1) + 1) (mP 1 i (by decide) hh0 (kl_le hC 1 (by decide))) (shC_p 1 i (by decide)) (Nat.le_of_ble_eq_true rfl) (64 * (i + 1) + 3) (spC_p 1 i (by decide) 3)) dX7_worthOf_14 ?_
        refine lv_iload hx hb dX7_worthOf_17 (lv_at hl 0 rfl) ?_
        have n12 : vp_in v3_4 (cf (8 + 2 * i)) := (vp_in_iff.mpr ⟨by omega, by omega⟩)
        refine th_ialdL hx hb hK hP hI (64 * (i + 1) + 3) (mP 3 i (by decide) hh0 (kl_le hC 1 (by decide))) (shC_p 3 i (by decide)) rfl n12 dX7_worthOf_19 (fun y11 ey11 => ?_)
        have iy11 : 0 ≤ y11.toInt ∧ y11.toInt ≤ 255 := hI.el (64 * (i + 1) + 3) (mP 3 i (by decide) hh0 (kl_le hC 1 (by decide))) (shC_p 3 i (by decide)) n12 (fun j9 => spC_p 3 i (by decide) j9) ey11
        have ey11 := ey11.trans (hKp.ei (64 * (i + 1) + 3) _ (wl_p rfl rfl (by omega)))
        refine lv_iload_n hx hb dX7_worthOf_20 rfl (lv_at hl 2 rfl) ?_
        refine lv_icmp_eq (tgt := 27) hx hb dX7_worthOf_21 (by decide) (fun c13 => ?_) (fun c13 => ?_)
        · --21 taken
          have t14 : y11.toInt = a0.toInt := ti_eq c13
          have i15 : 0 ≤ y11.toInt ∧ y11.toInt ≤ 127 := iv_eqi t14 iy11 hh3 (by decide)
          refine lv_aload_n hx hb dX7_worthOf_27 rfl (lv_at hl 1 rfl) ?_
          refine th_getL (ci := 8) (C := RX7) (T := TX7) (N := 6) (v := .ref (ad (64 * (i + 1) + 5))) hx hb hts hinX7 hown hK hP hI (64 * (i + 1) + 1) (mP 1 i (by decide) hh0 (kl_le hC 1 (by decide))) (shC_p 1 i (by decide)) rfl 5 (Nat.le_of_ble_eq_true rfl) (hts _ (vA_in _ _ (in_7 _ (zs4 (zs1 (zs0)))))) (fun _ h9 => h9) (hI.fr (64 * (i + 1) + 1) (mP 1 i (by decide) hh0 (kl_le hC 1 (by decide))) (shC_p 1 i (by decide)) (Nat.le_of_ble_eq_true rfl) (64 * (i + 1) + 5) (spC_p 1 i (by decide) 5)) dX7_worthOf_28 ?_
          refine lv_iload hx hb dX7_worthOf_31 (lv_at hl 0 rfl) ?_
          have n17 : vp_in v3_4 (cf (8 + 2 * i)) := (vp_in_iff.mpr ⟨by omega, by omega⟩)
          refine th_ialdL hx hb hK hP hI (64 * (i + 1) + 5) (mP 5 i (by decide) hh0 (kl_le hC 1 (by decide))) (shC_p 5 i (by decide)) rfl n17 dX7_worthOf_33 (fun y16 ey16 => ?_)
          have jy16 : 0 ≤ y16.toInt ∧ y16.toInt ≤ ((cf (9 + 2 * i) : Nat) : Int) := hI.el (64 * (i + 1) + 5) (mP 5 i (by decide) hh0 (kl_le hC 1 (by decide))) (shC_p 5 i (by decide)) n17 (fun j9 => spC_p 5 i (by decide) j9) ey16
          have iy16 : 0 ≤ y16.toInt ∧ y16.toInt ≤ 200 := by have h9 := hcr i; omega
          have ey16 := ey16.trans (hKp.ei (64 * (i + 1) + 5) _ (wl_p rfl rfl (by omega)))
          refine lv_aload_n hx hb dX7_worthOf_34 rfl (lv_at hl 1 rfl) ?_
          refine th_getL (ci := 8) (C := RX7) (T := TX7) (N := 6) (v := .ref (ad (64 * (i + 1) + 4))) hx hb hts hinX7 hown hK hP hI (64 * (i + 1) + 1) (mP 1 i (by decide) hh0 (kl_le hC 1 (by decide))) (shC_p 1 i (by decide)) rfl 4 (Nat.le_of_ble_eq_true rfl) (hts _ (vA_in _ _ (in_7 _ (zs4 (zs1 (zs1 (zs0))))))) (fun _ h9 => h9) (hI.fr (64 * (i + 1) + 1) (mP 1 i (by decide) hh0 (kl_le hC 1 (by decide))) (shC_p 1 i (by decide)) (Nat.le_of_ble_eq_true rfl) (64 * (i + 1) + 4) (spC_p 1 i (by decide) 4)) dX7_worthOf_35 ?_
          refine lv_iload hx hb dX7_worthOf_38 (lv_at hl 0 rfl) ?_
          have n19 : vp_in v3_4 (cf (8 + 2 * i) + 1) := (vp_in_iff.mpr ⟨by omega, by omega⟩)
          refine th_ialdL hx hb hK hP hI (64 * (i + 1) + 4) (mP 4 i (by decide) hh0 (kl_le hC 1 (by decide))) (shC_p 4 i (by decide)) rfl n19 dX7_worthOf_40 (fun y18 ey18 => ?_)
          have jy18 : 0 ≤ y18.toInt ∧ y18.toInt ≤ ((cf (9 + 2 * i) : Nat) : Int) := hI.el (64 * (i + 1) + 4) (mP 4 i (by decide) hh0 (kl_le hC 1 (by decide))) (shC_p 4 i (by decide)) n19 (fun j9 => spC_p 4 i (by decide) j9) ey18
          have iy18 : 0 ≤ y18.toInt ∧ y18.toInt ≤ 200 := by have h9 := hcr i; omega
          have ey18 := ey18.trans (hKp.ei (64 * (i + 1) + 4) _ (wl_p rfl rfl (by omega)))
          refine lv_icmp_eq (tgt := 67) hx hb dX7_worthOf_41 (by decide) (fun c20 => ?_) (fun c20 => ?_)
          · --41 taken
            have t21 : y16.toInt = y18.toInt := ti_eq c20
            have k22 : (clA (rSt E i) (rLa E i) (rBe E i) (rSu E i) v3_4.toNatClampNeg).2.1 = [] ∨ ¬ rT (X (cL E) (clA (rSt E i) (rLa E i) (rBe E i) (rSu E i) v3_4.toNatClampNeg).2.1 []) = 0 := Or.inl (sg_nil (by rw [show rSu E i v3_4.toNatClampNeg = y16.toInt from (congrArg Int32.toInt ey16).symm, show rBe E i v3_4.toNatClampNeg = y18.toInt from (congrArg Int32.toInt ey18).symm]; omega))
            refine lv_iconst (v := 1) hx hb dX7_worthOf_67 (by decide) ?_
            refine lv_goto (tgt := 72) hx hb dX7_worthOf_68 (by decide) ?_
            refine lv_istore (lv' := [(5, .int 1), (4, .int v3_4), (0, .ref (ad (64 * (i + 1) + 1))), (1, .int a0), (2, .ref (ad 19)), (3, .ref (ad 20))]) hx hb dX7_worthOf_72 hl (by decide) rfl (fun ls hl => ?_)
            refine lv_iload hx hb dX7_worthOf_74 (lv_at hl 0 rfl) ?_
            refine lv_if_eq (tgt := 102) hx hb dX7_worthOf_76 (by decide) (fun c23 => ?_) (fun c23 => ?_)
            · --76 taken
              exact absurd c23 (by decide)
            · --76 not
              refine lv_aload_n hx hb dX7_worthOf_79 rfl (lv_at hl 2 rfl) ?_
              refine lv_aload_n hx hb dX7_worthOf_80 rfl (lv_at hl 2 rfl) ?_
              refine th_getL (ci := 8) (C := RX7) (T := TX7) (N := 6) (v := .ref (ad (64 * (i + 1) + 5))) hx hb hts hinX7 hown hK hP hI (64 * (i + 1) + 1) (mP 1 i (by decide) hh0 (kl_le hC 1 (by decide))) (shC_p 1 i (by decide)) rfl 5 (Nat.le_of_ble_eq_true rfl) (hts _ (vA_in _ _ (in_7 _ (zs4 (zs1 (zs0)))))) (fun _ h9 => h9) (hI.fr (64 * (i + 1) + 1) (mP 1 i (by decide) hh0 (kl_le hC 1 (by decide))) (shC_p 1 i (by decide)) (Nat.le_of_ble_eq_true rfl) (64 * (i + 1) + 5) (spC_p 1 i (by decide) 5)) dX7_worthOf_81 ?_
              refine lv_iload hx hb dX7_worthOf_84 (lv_at hl 1 rfl) ?_
              have n25 : vp_in v3_4 (cf (8 + 2 * i)) := (vp_in_iff.mpr ⟨by omega, by omega⟩)
              refine th_ialdL hx hb hK hP hI (64 * (i + 1) + 5) (mP 5 i (by decide) hh0 (kl_le hC 1 (by decide))) (shC_p 5 i (by decide)) rfl n25 dX7_worthOf_86 (fun y24 ey24 => ?_)
              have jy24 : 0 ≤ y24.toInt ∧ y24.toInt ≤ ((cf (9 + 2 * i) : Nat) : Int) := hI.el (64 * (i + 1) + 5) (mP 5 i (by decide) hh0 (kl_le hC 1 (by decide))) (shC_p 5 i (by decide)) n25 (fun j9 => spC_p 5 i (by decide) j9) ey24
              have iy24 : 0 ≤ y24.toInt ∧ y24.toInt ≤ 200 := by have h9 := hcr i; omega
              have ey24 := ey24.trans (hKp.ei (64 * (i + 1) + 5) _ (wl_p rfl rfl (by omega)))
              refine lv_aload_n hx hb dX7_worthOf_87 rfl (lv_at hl 2 rfl) ?_
              refine th_getL (ci := 8) (C := RX7) (T := TX7) (N := 6) (v := .ref (ad (64 * (i + 1) + 4))) hx hb hts hinX7 hown hK hP hI (64 * (i + 1) + 1) (mP 1 i (by decide) hh0 (kl_le hC 1 (by decide))) (shC_p 1 i (by decide)) rfl 4 (Nat.le_of_ble_eq_true rfl) (hts _ (vA_in _ _ (in_7 _ (zs4 (zs1 (zs1 (zs0))))))) (fun _ h9 => h9) (hI.fr (64 * (i + 1) + 1) (mP 1 i (by decide) hh0 (kl_le hC 1 (by decide))) (shC_p 1 i (by decide)) (Nat.le_of_ble_eq_true rfl) (64 * (i + 1) + 4) (spC_p 1 i (by decide) 4)) dX7_worthOf_88 ?_
              refine lv_iload hx hb dX7_worthOf_91 (lv_at hl 1 rfl) ?_
              refine lv_iconst (v := 1) hx hb dX7_worthOf_93 (by decide) ?_
              refine lv_iadd hx hb dX7_worthOf_94 ?_
              refine lv_topi (fun y26 ey26 => ?_)
              obtain ⟨ty26, iy26⟩ := ti_add (e := 1) (f := 200) i9 ln_1 ey26 (by decide)
              have ty26 : y26.toInt = v3_4.toInt + 1 := ty26
              have iy26 : 1 ≤ y26.toInt ∧ y26.toInt ≤ 200 := iy26
              have n28 : vp_in y26 (cf (8 + 2 * i) + 1) := (vp_in_iff.mpr ⟨by omega, by omega⟩)
              refine th_ialdL hx hb hK hP hI (64 * (i + 1) + 4) (mP 4 i (by decide) hh0 (kl_le hC 1 (by decide))) (shC_p 4 i (by decide)) rfl n28 dX7_worthOf_95 (fun y27 ey27 => ?_)
              have jy27 : 0 ≤ y27.toInt ∧ y27.toInt ≤ ((cf (9 + 2 * i) : Nat) : Int) := hI.el (64 * (i + 1) + 4) (mP 4 i (by decide) hh0 (kl_le hC 1 (by decide))) (shC_p 4 i (by decide)) n28 (fun j9 => spC_p 4 i (by decide) j9) ey27
              have iy27 : 0 ≤ y27.toInt ∧ y27.toInt ≤ 200 := by have h9 := hcr i; omega
              have ey27 := ey27.trans (hKp.ei (64 * (i + 1) + 4) _ (wl_p rfl rfl (by omega)))
              refine lv_aload_n hx hb dX7_worthOf_96 rfl (lv_at hl 4 rfl) ?_
              refine lv_aload_n hx hb dX7_worthOf_97 rfl (lv_at hl 5 rfl) ?_
              have kr0 := hh1.1 v3_4.toNatClampNeg (by rw [tn_]; omega)
              have kr1 : rSu E i v3_4.toNatClampNeg = y24.toInt := (congrArg Int32.toInt ey24).symm
              have kr2 : rBe E i (v3_4.toNatClampNeg + 1) = y27.toInt := by have q9 := (congrArg Int32.toInt ey27).symm; rw [show y26.toNatClampNeg = v3_4.toNatClampNeg + 1 by rw [tn_, tn_]; omega] at q9; exact q9
              refine th_iL (va_runV (As := [.int y24, .int y27, .ref (ad 19), .ref (ad 20)]) (rest := []) ⟨hx, hb, hml, hown, hts⟩ (q_runX l dC dI cT cf hC ad E3_ H.size y24 y27 i hI (by omega) iy24 iy27 (by omega) (by omega) (by intro p9; rw [cL_k (E := E) (fun j9 => hKp.ei 19 j9 rfl)]; exact hh2 p9) (by intro j9 hj9; have q9 := hh1.2 j9 (by rw [tn_] at hj9; omega); rw [show rSt E3_ i = rSt E i from funext (fun j9 => congrArg Int32.toInt (hKp.ei _ j9 (wl_p rfl rfl (by omega))))]; exact q9)) (cwV 4 hts (gi_V (in_7 _ (zs4 (zs1 (zs1 (zs1 (zs0)))))) (in_7 _ (zs4 (zs4 (zs0)))) (in_7 _ (zs4 (zs4 (zs1 (zs0))))) (in_7 _ (zs1 (zs1 (zs0)))) (in_7 _ (zs4 (zs4 (zs1 (zs1 (zs0))))))) rfl rfl rfl ⟨rfl, hz_yX7_run_4⟩ ⟨Nat.le_of_ble_eq_true rfl, Nat.le_of_ble_eq_true rfl⟩) ⟨HWL_bl, va_recv hK hP (ci := 8) (q0 := posL (64 * (i + 1) + 1) (LC cf)) rfl (hI.ob (64 * (i + 1) + 1) (mP 1 i (by decide) hh0 (kl_le hC 1 (by decide))) (shC_p 1 i (by decide))), (HWL_wi hP hK (WL_D hD) hS hA hEV)⟩ rfl rfl hl.1 rfl (lv_room (Nat.le_of_ble_eq_true rfl)) dX7_worthOf_98 ⟨Nat.le_of_ble_eq_true rfl, Nat.le_of_ble_eq_true rfl⟩) (WL_D hD) hS hA (fun r29 E30 H locs hw hP hS => ?_)
              obtain ⟨hI, kq31, hw⟩ := hw
              have hKb := hKp
              have hKp := hKp.tr kq31 (wl_sub rfl rfl)
              have f32 := hw
              rw [hQ]
              exact W.iret (v := r29) hx hb hr (fun t ht hW => ⟨⟨r29, E30, rfl, ⟨hI, hKp, hx3_0.found (by rw [tn_]; omega) (show rLa E i v3_4.toNatClampNeg = a0.toInt by have q7 : y11.toInt = rLa E i v3_4.toNatClampNeg := congrArg Int32.toInt ey11; omega) k22 (f32.trans (by rw [cL_k (E := E) (fun j9 => hKb.ei 19 j9 rfl), show rSt E3_ i = rSt E i from funext (fun j9 => congrArg Int32.toInt (hKb.ei _ j9 (wl_p rfl rfl (by omega))))]; show rT (X (cL E) (sg (rSt E i) y24.toInt.toNat y27.toInt.toNat) []) = rT (X (cL E) (sg (rSt E i) (rSu E i v3_4.toNatClampNeg).toNat (rBe E i (v3_4.toNatClampNeg + 1)).toNat) []); rw [kr1, kr2]))⟩, by show va_P (dC, dI) vwCl (WL (LC cf) ad E30) t.heap; rw [ht]; exact hP⟩, hS.F ht⟩) hS.2.2 dX7_worthOf_101
          · --41 not
            have t33 : ¬ y16.toInt = y18.toInt := ti_ne c20
            refine lv_aload_n hx hb dX7_worthOf_44 rfl (lv_at hl 1 rfl) ?_
            refine lv_aload_n hx hb dX7_worthOf_45 rfl (lv_at hl 1 rfl) ?_
            refine th_getL (ci := 8) (C := RX7) (T := TX7) (N := 6) (v := .ref (ad (64 * (i + 1) + 4))) hx hb hts hinX7 hown hK hP hI (64 * (i + 1) + 1) (mP 1 i (by decide) hh0 (kl_le hC 1 (by decide))) (shC_p 1 i (by decide)) rfl 4 (Nat.le_of_ble_eq_true rfl) (hts _ (vA_in _ _ (in_7 _ (zs4 (zs1 (zs1 (zs0))))))) (fun _ h9 => h9) (hI.fr (64 * (i + 1) + 1) (mP 1 i (by decide) hh0 (kl_le hC 1 (by decide))) (shC_p 1 i (by decide)) (Nat.le_of_ble_eq_true rfl) (64 * (i + 1) + 4) (spC_p 1 i (by decide) 4)) dX7_worthOf_46 ?_
            refine lv_iload hx hb dX7_worthOf_49 (lv_at hl 0 rfl) ?_
            have n35 : vp_in v3_4 (cf (8 + 2 * i) + 1) := (vp_in_iff.mpr ⟨by omega, by omega⟩)
            refine th_ialdL hx hb hK hP hI (64 * (i + 1) + 4) (mP 4 i (by decide) hh0 (kl_le hC 1 (by decide))) (shC_p 4 i (by decide)) rfl n35 dX7_worthOf_51 (fun y34 ey34 => ?_)
            have jy34 : 0 ≤ y34.toInt ∧ y34.toInt ≤ ((cf (9 + 2 * i) : Nat) : Int) := hI.el (64 * (i + 1) + 4) (mP 4 i (by decide) hh0 (kl_le hC 1 (by decide))) (shC_p 4 i (by decide)) n35 (fun j9 => spC_p 4 i (by decide) j9) ey34
            have iy34 : 0 ≤ y34.toInt ∧ y34.toInt ≤ 200 := by have h9 := hcr i; omega
            have ey34 := ey34.trans (hKp.ei (64 * (i + 1) + 4) _ (wl_p rfl rfl (by omega)))
            refine lv_aload_n hx hb dX7_worthOf_52 rfl (lv_at hl 1 rfl) ?_
            refine th_getL (ci := 8) (C := RX7) (T := TX7) (N := 6) (v := .ref (ad (64 * (i + 1) + 5))) hx hb hts hinX7 hown hK hP hI (64 * (i + 1) + 1) (mP 1 i (by decide) hh0 (kl_le hC 1 (by decide))) (shC_p 1 i (by decide)) rfl 5 (Nat.le_of_ble_eq_true rfl) (hts _ (vA_in _ _ (in_7 _ (zs4 (zs1 (zs0)))))) (fun _ h9 => h9) (hI.fr (64 * (i + 1) + 1) (mP 1 i (by decide) hh0 (kl_le hC 1 (by decide))) (shC_p 1 i (by decide)) (Nat.le_of_ble_eq_true rfl) (64 * (i + 1) + 5) (spC_p 1 i (by decide) 5)) dX7_worthOf_53 ?_
            refine lv_iload hx hb dX7_worthOf_56 (lv_at hl 0 rfl) ?_
            have n37 : vp_in v3_4 (cf (8 + 2 * i)) := (vp_in_iff.mpr ⟨by omega, by omega⟩)
            refine th_ialdL hx hb hK hP hI (64 * (i + 1) + 5) (mP 5 i (by decide) hh0 (kl_le hC 1 (by decide))) (shC_p 5 i (by decide)) rfl n37 dX7_worthOf_58 (fun y36 ey36 => ?_)
            have jy36 : 0 ≤ y36.toInt ∧ y36.toInt ≤ ((cf (9 + 2 * i) : Nat) : Int) := hI.el (64 * (i + 1) + 5) (mP 5 i (by decide) hh0 (kl_le hC 1 (by decide))) (shC_p 5 i (by decide)) n37 (fun j9 => spC_p 5 i (by decide) j9) ey36
            have iy36 : 0 ≤ y36.toInt ∧ y36.toInt ≤ 200 := by have h9 := hcr i; omega
            have ey36 := ey36.trans (hKp.ei (64 * (i + 1) + 5) _ (wl_p rfl rfl (by omega)))
            refine lv_aload_n hx hb dX7_worthOf_59 rfl (lv_at hl 3 rfl) ?_
            refine lv_aload_n hx hb dX7_worthOf_60 rfl (lv_at hl 4 rfl) ?_
            have kq0 := hh1.1 v3_4.toNatClampNeg (by rw [tn_]; omega)
            have kq1 : rBe E i v3_4.toNatClampNeg = y34.toInt := (congrArg Int32.toInt ey34).symm
            have kq2 : rSu E i v3_4.toNatClampNeg = y36.toInt := (congrArg Int32.toInt ey36).symm
            have kq3 : rSu E i v3_4.toNatClampNeg = y16.toInt := (congrArg Int32.toInt ey16).symm
            have kq4 : rBe E i v3_4.toNatClampNeg = y18.toInt := (congrArg Int32.toInt ey18).symm
            refine th_iL (va_runV (As := [.int y34, .int y36, .ref (ad 19), .ref (ad 20)]) (rest := []) ⟨hx, hb, hml, hown, hts⟩ (q_runX l dC dI cT cf hC ad E3_ H.size y34 y36 i hI (by omega) iy34 iy36 (by omega) (by omega) (by intro p9; rw [cL_k (E := E) (fun j9 => hKp.ei 19 j9 rfl)]; exact hh2 p9) (by intro j9 hj9; have q9 := hh1.2 j9 (by rw [tn_] at hj9; omega); rw [show rSt E3_ i = rSt E i from funext (fun j9 => congrArg Int32.toInt (hKp.ei _ j9 (wl_p rfl rfl (by omega))))]; exact q9)) (cwV 4 hts (gi_V (in_7 _ (zs4 (zs1 (zs1 (zs1 (zs0)))))) (in_7 _ (zs4 (zs4 (zs0)))) (in_7 _ (zs4 (zs4 (zs1 (zs0))))) (in_7 _ (zs1 (zs1 (zs0)))) (in_7 _ (zs4 (zs4 (zs1 (zs1 (zs0))))))) rfl rfl rfl ⟨rfl, hz_yX7_run_4⟩ ⟨Nat.le_of_ble_eq_true rfl, Nat.le_of_ble_eq_true rfl⟩) ⟨HWL_bl, va_recv hK hP (ci := 8) (q0 := posL (64 * (i + 1) + 1) (LC cf)) rfl (hI.ob (64 * (i + 1) + 1) (mP 1 i (by decide) hh0 (kl_le hC 1 (by decide))) (shC_p 1 i (by decide))), (HWL_wi hP hK (WL_D hD) hS hA hEV)⟩ rfl rfl hl.1 rfl (lv_room (Nat.le_of_ble_eq_true rfl)) dX7_worthOf_61 ⟨Nat.le_of_ble_eq_true rfl, Nat.le_of_ble_eq_true rfl⟩) (WL_D hD) hS hA (fun r38 E39 H locs hw hP hS => ?_)
            obtain ⟨hI, kq40, hw⟩ := hw
            have hKb := hKp
            have hKp := hKp.tr kq40 (wl_sub rfl rfl)
            have f41 := hw
            have k42 : r38 = rT (X (cL E) (clA (rSt E i) (rLa E i) (rBe E i) (rSu E i) v3_4.toNatClampNeg).2.1 []) := f41.trans (by rw [cL_k (E := E) (fun j9 => hKb.ei 19 j9 rfl), show rSt E3_ i = rSt E i from funext (fun j9 => congrArg Int32.toInt (hKb.ei _ j9 (wl_p rfl rfl (by omega))))]; show rT (X (cL E) (sg (rSt E i) y34.toInt.toNat y36.toInt.toNat) []) = rT (X (cL E) (sg (rSt E i) (rBe E i v3_4.toNatClampNeg).toNat (rSu E i v3_4.toNatClampNeg).toNat) []); rw [kq1, kq2])
            refine lv_if_eq (tgt := 71) hx hb dX7_worthOf_64 (by decide) (fun c43 => ?_) (fun c43 => ?_)
            · --64 taken
              have t44 : r38.toInt = 0 := ti_eq c43
              have i45 : 0 ≤ r38.toInt ∧ r38.toInt ≤ 0 := iv_eqi t44 (iv_all _) (il_ 0) (by decide)
              have k46 : rT (X (cL E) (clA (rSt E i) (rLa E i) (rBe E i) (rSu E i) v3_4.toNatClampNeg).2.1 []) = 0 := k42.symm.trans (Int32.toInt_inj.mp (by have z9 : (0 : Int32).toInt = 0 := rfl; omega))
              have k47 : ¬ (clA (rSt E i) (rLa E i) (rBe E i) (rSu E i) v3_4.toNatClampNeg).2.1 = [] := sg_ne (by omega)
              refine lv_iconst (v := 0) hx hb dX7_worthOf_71 (by decide) ?_
              refine lv_istore (lv' := [(5, .int 0), (4, .int v3_4), (0, .ref (ad (64 * (i + 1) + 1))), (1, .int a0), (2, .ref (ad 19)), (3, .ref (ad 20))]) hx hb dX7_worthOf_72 hl (by decide) rfl (fun ls hl => ?_)
              refine lv_iload hx hb dX7_worthOf_74 (lv_at hl 0 rfl) ?_
              refine lv_if_eq (tgt := 102) hx hb dX7_worthOf_76 (by decide) (fun c48 => ?_) (fun c48 => ?_)
              · --76 taken
                obtain ⟨y49, ey49⟩ : ∃ y : Int32, y = v3_4 + (1 : Int32) := ⟨_, rfl⟩
                obtain ⟨ty49, iy49⟩ := ti_add (e := 1) (f := 200) i9 ln_1 ey49 (by decide)
                have ty49 : y49.toInt = v3_4.toInt + 1 := ty49
                have iy49 : 1 ≤ y49.toInt ∧ y49.toInt ≤ 200 := iy49
                refine lv_iinc (v := y49) (lv' := [(4, .int y49), (5, .int 0), (0, .ref (ad (64 * (i + 1) + 1))), (1, .int a0), (2, .ref (ad 19)), (3, .ref (ad 20))]) hx hb dX7_worthOf_102 hl (k := 1) rfl (by rw [ey49]; rfl) (by decide) rfl (fun ls hl => ?_)
                refine lv_goto (tgt := 3) hx hb dX7_worthOf_105 (by decide) ?_
                exact ih3 y49 E39 _ _ _ (iv_w iy49 (by decide)) (hx3_0.step (by rw [tn_]; omega) (fun q9 => q9.2.elim (fun q8 => absurd q8 k47) (fun q8 => q8 k46)) (by rw [tn_, tn_]; omega)) (by omega) (by first | exact ms_su hx3_2 ty49 (by decide) | omega) hI hKp hP hS (lv_sub hl [0, 2, 3, 4, 5] rfl)
              · --76 not
                exact absurd c48 (by decide)
            · --64 not
              have t50 : ¬ r38.toInt = 0 := ti_ne c43
              have k51 : (clA (rSt E i) (rLa E i) (rBe E i) (rSu E i) v3_4.toNatClampNeg).2.1 = [] ∨ ¬ rT (X (cL E) (clA (rSt E i) (rLa E i) (rBe E i) (rSu E i) v3_4.toNatClampNeg).2.1 []) = 0 := Or.inr (fun q9 => by have q8 := congrArg Int32.toInt (k42.trans q9); have z9 : (0 : Int32).toInt = 0 := rfl; omega)
              refine lv_iconst (v := 1) hx hb dX7_worthOf_67 (by decide) ?_
              refine lv_goto (tgt := 72) hx hb dX7_worthOf_68 (by decide) ?_
              refine lv_istore (lv' := [(5, .int 1), (4, .int v3_4), (0, .ref (ad (64 * (i + 1) + 1))), (1, .int a0), (2, .ref (ad 19)), (3, .ref (ad 20))]) hx hb dX7_worthOf_72 hl (by decide) rfl (fun ls hl => ?_)
              refine lv_iload hx hb dX7_worthOf_74 (lv_at hl 0 rfl) ?_
              refine lv_if_eq (tgt := 102) hx hb dX7_worthOf_76 (by decide) (fun c52 => ?_) (fun c52 => ?_)
              · --76 taken
                exact absurd c52 (by decide)
              · --76 not
                refine lv_aload_n hx hb dX7_worthOf_79 rfl (lv_at hl 2 rfl) ?_
                refine lv_aload_n hx hb dX7_worthOf_80 rfl (lv_at hl 2 rfl) ?_
                refine th_getL (ci := 8) (C := RX7) (T := TX7) (N := 6) (v := .ref (ad (64 * (i + 1) + 5))) hx hb hts hinX7 hown hK hP hI (64 * (i + 1) + 1) (mP 1 i (by decide) hh0 (kl_le hC 1 (by decide))) (shC_p 1 i (by decide)) rfl 5 (Nat.le_of_ble_eq_true rfl) (hts _ (vA_in _ _ (in_7 _ (zs4 (zs1 (zs0)))))) (fun _ h9 => h9) (hI.fr (64 * (i + 1) + 1) (mP 1 i (by decide) hh0 (kl_le hC 1 (by decide))) (shC_p 1 i (by decide)) (Nat.le_of_ble_eq_true rfl) (64 * (i + 1) + 5) (spC_p 1 i (by decide) 5)) dX7_worthOf_81 ?_
                refine lv_iload hx hb dX7_worthOf_84 (lv_at hl 1 rfl) ?_
                have n54 : vp_in v3_4 (cf (8 + 2 * i)) := (vp_in_iff.mpr ⟨by omega, by omega⟩)
                refine th_ialdL hx hb hK hP hI (64 * (i + 1) + 5) (mP 5 i (by decide) hh0 (kl_le hC 1 (by decide))) (shC_p 5 i (by decide)) rfl n54 dX7_worthOf_86 (fun y53 ey53 => ?_)
                have jy53 : 0 ≤ y53.toInt ∧ y53.toInt ≤ ((cf (9 + 2 * i) : Nat) : Int) := hI.el (64 * (i + 1) + 5) (mP 5 i (by decide) hh0 (kl_le hC 1 (by decide))) (shC_p 5 i (by decide)) n54 (fun j9 => spC_p 5 i (by decide) j9) ey53
                have iy53 : 0 ≤ y53.toInt ∧ y53.toInt ≤ 200 := by have h9 := hcr i; omega
                have ey53 := ey53.trans (hKp.ei (64 * (i + 1) + 5) _ (wl_p rfl rfl (by omega)))
                refine lv_aload_n hx hb dX7_worthOf_87 rfl (lv_at hl 2 rfl) ?_
                refine th_getL (ci := 8) (C := RX7) (T := TX7) (N := 6) (v := .ref (ad (64 * (i + 1) + 4))) hx hb hts hinX7 hown hK hP hI (64 * (i + 1) + 1) (mP 1 i (by decide) hh0 (kl_le hC 1 (by decide))) (shC_p 1 i (by decide)) rfl 4 (Nat.le_of_ble_eq_true rfl) (hts _ (vA_in _ _ (in_7 _ (zs4 (zs1 (zs1 (zs0))))))) (fun _ h9 => h9) (hI.fr (64 * (i + 1) + 1) (mP 1 i (by decide) hh0 (kl_le hC 1 (by decide))) (shC_p 1 i (by decide)) (Nat.le_of_ble_eq_true rfl) (64 * (i + 1) + 4) (spC_p 1 i (by decide) 4)) dX7_worthOf_88 ?_
                refine lv_iload hx hb dX7_worthOf_91 (lv_at hl 1 rfl) ?_
                refine lv_iconst (v := 1) hx hb dX7_worthOf_93 (by decide) ?_
                refine lv_iadd hx hb dX7_worthOf_94 ?_
                refine lv_topi (fun y55 ey55 => ?_)
                obtain ⟨ty55, iy55⟩ := ti_add (e := 1) (f := 200) i9 ln_1 ey55 (by decide)
                have ty55 : y55.toInt = v3_4.toInt + 1 := ty55
                have iy55 : 1 ≤ y55.toInt ∧ y55.toInt ≤ 200 := iy55
                have n57 : vp_in y55 (cf (8 + 2 * i) + 1) := (vp_in_iff.mpr ⟨by omega, by omega⟩)
                refine th_ialdL hx hb hK hP hI (64 * (i + 1) + 4) (mP 4 i (by decide) hh0 (kl_le hC 1 (by decide))) (shC_p 4 i (by decide)) rfl n57 dX7_worthOf_95 (fun y56 ey56 => ?_)
                have jy56 : 0 ≤ y56.toInt ∧ y56.toInt ≤ ((cf (9 + 2 * i) : Nat) : Int) := hI.el (64 * (i + 1) + 4) (mP 4 i (by decide) hh0 (kl_le hC 1 (by decide))) (shC_p 4 i (by decide)) n57 (fun j9 => spC_p 4 i (by decide) j9) ey56
                have iy56 : 0 ≤ y56.toInt ∧ y56.toInt ≤ 200 := by have h9 := hcr i; omega
                have ey56 := ey56.trans (hKp.ei (64 * (i + 1) + 4) _ (wl_p rfl rfl (by omega)))
                refine lv_aload_n hx hb dX7_worthOf_96 rfl (lv_at hl 4 rfl) ?_
                refine lv_aload_n hx hb dX7_worthOf_97 rfl (lv_at hl 5 rfl) ?_
                have kr0 := hh1.1 v3_4.toNatClampNeg (by rw [tn_]; omega)
                have kr1 : rSu E i v3_4.toNatClampNeg = y53.toInt := (congrArg Int32.toInt ey53).symm
                have kr2 : rBe E i (v3_4.toNatClampNeg + 1) = y56.toInt := by have q9 := (congrArg Int32.toInt ey56).symm; rw [show y55.toNatClampNeg = v3_4.toNatClampNeg + 1 by rw [tn_, tn_]; omega] at q9; exact q9
                refine th_iL (va_runV (As := [.int y53, .int y56, .ref (ad 19), .ref (ad 20)]) (rest := []) ⟨hx, hb, hml, hown, hts⟩ (q_runX l dC dI cT cf hC ad E39 H.size y53 y56 i hI (by omega) iy53 iy56 (by omega) (by omega) (by intro p9; rw [cL_k (E := E) (fun j9 => hKp.ei 19 j9 rfl)]; exact hh2 p9) (by intro j9 hj9; have q9 := hh1.2 j9 (by rw [tn_] at hj9; omega); rw [show rSt E39 i = rSt E i from funext (fun j9 => congrArg Int32.toInt (hKp.ei _ j9 (wl_p rfl rfl (by omega))))]; exact q9)) (cwV 4 hts (gi_V (in_7 _ (zs4 (zs1 (zs1 (zs1 (zs0)))))) (in_7 _ (zs4 (zs4 (zs0)))) (in_7 _ (zs4 (zs4 (zs1 (zs0))))) (in_7 _ (zs1 (zs1 (zs0)))) (in_7 _ (zs4 (zs4 (zs1 (zs1 (zs0))))))) rfl rfl rfl ⟨rfl, hz_yX7_run_4⟩ ⟨Nat.le_of_ble_eq_true rfl, Nat.le_of_ble_eq_true rfl⟩) ⟨HWL_bl, va_recv hK hP (ci := 8) (q0 := posL (64 * (i + 1) + 1) (LC cf)) rfl (hI.ob (64 * (i + 1) + 1) (mP 1 i (by decide) hh0 (kl_le hC 1 (by decide))) (shC_p 1 i (by decide))), (HWL_wi hP hK (WL_D hD) hS hA hEV)⟩ rfl rfl hl.1 rfl (lv_room (Nat.le_of_ble_eq_true rfl)) dX7_worthOf_98 ⟨Nat.le_of_ble_eq_true rfl, Nat.le_of_ble_eq_true rfl⟩) (WL_D hD) hS hA (fun r58 E59 H locs hw hP hS => ?_)
                obtain ⟨hI, kq60, hw⟩ := hw
                have hKb := hKp
                have hKp := hKp.tr kq60 (wl_sub rfl rfl)
                have f61 := hw
                rw [hQ]
                exact W.iret (v := r58) hx hb hr (fun t ht hW => ⟨⟨r58, E59, rfl, ⟨hI, hKp, hx3_0.found (by rw [tn_]; omega) (show rLa E i v3_4.toNatClampNeg = a0.toInt by have q7 : y11.toInt = rLa E i v3_4.toNatClampNeg := congrArg Int32.toInt ey11; omega) k51 (f61.trans (by rw [cL_k (E := E) (fun j9 => hKb.ei 19 j9 rfl), show rSt E39 i = rSt E i from funext (fun j9 => congrArg Int32.toInt (hKb.ei _ j9 (wl_p rfl rfl (by omega))))]; show rT (X (cL E) (sg (rSt E i) y53.toInt.toNat y56.toInt.toNat) []) = rT (X (cL E) (sg (rSt E i) (rSu E i v3_4.toNatClampNeg).toNat (rBe E i (v3_4.toNatClampNeg + 1)).toNat) []); rw [kr1, kr2]))⟩, by show va_P (dC, dI) vwCl (WL (LC cf) ad E59) t.heap; rw [ht]; exact hP⟩, hS.F ht⟩) hS.2.2 dX7_worthOf_101
        · --21 not
          have t62 : ¬ y11.toInt = a0.toInt := ti_ne c13
          refine lv_goto (tgt := 102) hx hb dX7_worthOf_24 (by decide) ?_
          obtain ⟨y63, ey63⟩ : ∃ y : Int32, y = v3_4 + (1 : Int32) := ⟨_, rfl⟩
          obtain ⟨ty63, iy63⟩ := ti_add (e := 1) (f := 200) i9 ln_1 ey63 (by decide)
          have ty63 : y63.toInt = v3_4.toInt + 1 := ty63
          have iy63 : 1 ≤ y63.toInt ∧ y63.toInt ≤ 200 := iy63
          refine lv_iinc (v := y63) (lv' := [(4, .int y63), (0, .ref (ad (64 * (i + 1) + 1))), (1, .int a0), (2, .ref (ad 19)), (3, .ref (ad 20))]) hx hb dX7_worthOf_102 hl (k := 0) rfl (by rw [ey63]; rfl) (by decide) rfl (fun ls hl => ?_)
          refine lv_goto (tgt := 3) hx hb dX7_worthOf_105 (by decide) ?_
          exact ih3 y63 E3_ _ _ _ (iv_w iy63 (by decide)) (hx3_0.step (by rw [tn_]; omega) (fun q9 => by have q8 : rLa E i v3_4.toNatClampNeg = a0.toInt := q9.1; have q7 : y11.toInt = rLa E i v3_4.toNatClampNeg := congrArg Int32.toInt ey11; omega) (by rw [tn_, tn_]; omega)) (by omega) (by first | exact ms_su hx3_2 ty63 (by decide) | omega) hI hKp hP hS (lv_sub hl [0, 1, 2, 3, 4] rfl)
  exact hL3 (201) (0 : Int32) E _ _ _ (iv_w ln_0 (by decide)) WoI.start (by have z9 : (0 : Int32).toInt = 0 := rfl; omega) (by have h9 := ln_0; first | exact ms_bu h9.1 (by decide) | omega) hI hKp hP hS (lv_sub hl [0, 1, 2, 3, 4] rfl)
