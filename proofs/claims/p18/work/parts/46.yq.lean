set_option maxRecDepth 100000 in
theorem zh_dX12_rules_0_0 : zc cX12_rules 0 [27, 184, 0, 70, 153, 0, 18, 42, 180, 0, 10, 180, 0, 113, 182, 0] = true := by decide +kernel
set_option maxRecDepth 100000 in
theorem zh_dX12_rules_14_16 : zc cX12_rules 16 [77, 16, 16, 161, 0, 5, 2, 172, 42, 180, 0, 19, 182, 0, 110, 2] = true := by decide +kernel
set_option maxRecDepth 100000 in
theorem zh_dX12_rules_32_32 : zc cX12_rules 32 [159, 0, 5, 2, 172, 42, 180, 0, 10, 180, 0, 113, 42, 180, 0, 19] = true := by decide +kernel
set_option maxRecDepth 100000 in
theorem zh_dX12_rules_48_48 : zc cX12_rules 48 [27, 42, 180, 0, 10, 180, 0, 55, 182, 0, 116, 182, 0, 88, 87, 42] = true := by decide +kernel
set_option maxRecDepth 100000 in
theorem zh_dX12_rules_64_64 : zc cX12_rules 64 [180, 0, 19, 3, 181, 0, 103, 42, 180, 0, 10, 180, 0, 113, 182, 0] = true := by decide +kernel
set_option maxRecDepth 100000 in
theorem zh_dX12_rules_78_80 : zc cX12_rules 80 [77, 4, 100, 172] = true := by decide +kernel
theorem dX12_rules_0 : decode cX12_rules 0 = .ok (.iload_n 1, 1) := zo_27 (zi_at zh_dX12_rules_0_0 0 rfl)
theorem dX12_rules_1 : decode cX12_rules 1 = .ok (.invokestatic 70, 3) := zo_184 (zi_at zh_dX12_rules_0_0 1 rfl) (zi_at zh_dX12_rules_0_0 2 rfl) (zi_at zh_dX12_rules_0_0 3 rfl) rfl
theorem dX12_rules_4 : decode cX12_rules 4 = .ok (.ifCond .eq 18, 3) := zo_153 (zi_at zh_dX12_rules_0_0 4 rfl) (zi_at zh_dX12_rules_0_0 5 rfl) (zi_at zh_dX12_rules_0_0 6 rfl) rfl
theorem dX12_rules_7 : decode cX12_rules 7 = .ok (.aload_n 0, 1) := zo_42 (zi_at zh_dX12_rules_0_0 7 rfl)
theorem dX12_rules_8 : decode cX12_rules 8 = .ok (.getfield 10, 3) := zo_180 (zi_at zh_dX12_rules_0_0 8 rfl) (zi_at zh_dX12_rules_0_0 9 rfl) (zi_at zh_dX12_rules_0_0 10 rfl) rfl
theorem dX12_rules_11 : decode cX12_rules 11 = .ok (.getfield 113, 3) := zo_180 (zi_at zh_dX12_rules_0_0 11 rfl) (zi_at zh_dX12_rules_0_0 12 rfl) (zi_at zh_dX12_rules_0_0 13 rfl) rfl
theorem dX12_rules_14 : decode cX12_rules 14 = .ok (.invokevirtual 77, 3) := zo_182 (zi_at zh_dX12_rules_0_0 14 rfl) (zi_at zh_dX12_rules_0_0 15 rfl) (zi_at zh_dX12_rules_14_16 0 rfl) rfl
theorem dX12_rules_17 : decode cX12_rules 17 = .ok (.bipush 16, 2) := zo_16 (zi_at zh_dX12_rules_14_16 1 rfl) (zi_at zh_dX12_rules_14_16 2 rfl) rfl
theorem dX12_rules_19 : decode cX12_rules 19 = .ok (.if_icmp .lt 5, 3) := zo_161 (zi_at zh_dX12_rules_14_16 3 rfl) (zi_at zh_dX12_rules_14_16 4 rfl) (zi_at zh_dX12_rules_14_16 5 rfl) rfl
theorem dX12_rules_22 : decode cX12_rules 22 = .ok (.iconst (-1), 1) := zo_2 (zi_at zh_dX12_rules_14_16 6 rfl)
theorem dX12_rules_23 : decode cX12_rules 23 = .ok (.ireturn, 1) := zo_172 (zi_at zh_dX12_rules_14_16 7 rfl)
theorem dX12_rules_24 : decode cX12_rules 24 = .ok (.aload_n 0, 1) := zo_42 (zi_at zh_dX12_rules_14_16 8 rfl)
theorem dX12_rules_25 : decode cX12_rules 25 = .ok (.getfield 19, 3) := zo_180 (zi_at zh_dX12_rules_14_16 9 rfl) (zi_at zh_dX12_rules_14_16 10 rfl) (zi_at zh_dX12_rules_14_16 11 rfl) rfl
theorem dX12_rules_28 : decode cX12_rules 28 = .ok (.invokevirtual 110, 3) := zo_182 (zi_at zh_dX12_rules_14_16 12 rfl) (zi_at zh_dX12_rules_14_16 13 rfl) (zi_at zh_dX12_rules_14_16 14 rfl) rfl
theorem dX12_rules_31 : decode cX12_rules 31 = .ok (.iconst (-1), 1) := zo_2 (zi_at zh_dX12_rules_14_16 15 rfl)
theorem dX12_rules_32 : decode cX12_rules 32 = .ok (.if_icmp .eq 5, 3) := zo_159 (zi_at zh_dX12_rules_32_32 0 rfl) (zi_at zh_dX12_rules_32_32 1 rfl) (zi_at zh_dX12_rules_32_32 2 rfl) rfl
theorem dX12_rules_35 : decode cX12_rules 35 = .ok (.iconst (-1), 1) := zo_2 (zi_at zh_dX12_rules_32_32 3 rfl)
theorem dX12_rules_36 : decode cX12_rules 36 = .ok (.ireturn, 1) := zo_172 (zi_at zh_dX12_rules_32_32 4 rfl)
theorem dX12_rules_37 : decode cX12_rules 37 = .ok (.aload_n 0, 1) := zo_42 (zi_at zh_dX12_rules_32_32 5 rfl)
theorem dX12_rules_38 : decode cX12_rules 38 = .ok (.getfield 10, 3) := zo_180 (zi_at zh_dX12_rules_32_32 6 rfl) (zi_at zh_dX12_rules_32_32 7 rfl) (zi_at zh_dX12_rules_32_32 8 rfl) rfl
theorem dX12_rules_41 : decode cX12_rules 41 = .ok (.getfield 113, 3) := zo_180 (zi_at zh_dX12_rules_32_32 9 rfl) (zi_at zh_dX12_rules_32_32 10 rfl) (zi_at zh_dX12_rules_32_32 11 rfl) rfl
theorem dX12_rules_44 : decode cX12_rules 44 = .ok (.aload_n 0, 1) := zo_42 (zi_at zh_dX12_rules_32_32 12 rfl)
theorem dX12_rules_45 : decode cX12_rules 45 = .ok (.getfield 19, 3) := zo_180 (zi_at zh_dX12_rules_32_32 13 rfl) (zi_at zh_dX12_rules_32_32 14 rfl) (zi_at zh_dX12_rules_32_32 15 rfl) rfl
theorem dX12_rules_48 : decode cX12_rules 48 = .ok (.iload_n 1, 1) := zo_27 (zi_at zh_dX12_rules_48_48 0 rfl)
theorem dX12_rules_49 : decode cX12_rules 49 = .ok (.aload_n 0, 1) := zo_42 (zi_at zh_dX12_rules_48_48 1 rfl)
theorem dX12_rules_50 : decode cX12_rules 50 = .ok (.getfield 10, 3) := zo_180 (zi_at zh_dX12_rules_48_48 2 rfl) (zi_at zh_dX12_rules_48_48 3 rfl) (zi_at zh_dX12_rules_48_48 4 rfl) rfl
theorem dX12_rules_53 : decode cX12_rules 53 = .ok (.getfield 55, 3) := zo_180 (zi_at zh_dX12_rules_48_48 5 rfl) (zi_at zh_dX12_rules_48_48 6 rfl) (zi_at zh_dX12_rules_48_48 7 rfl) rfl
theorem dX12_rules_56 : decode cX12_rules 56 = .ok (.invokevirtual 116, 3) := zo_182 (zi_at zh_dX12_rules_48_48 8 rfl) (zi_at zh_dX12_rules_48_48 9 rfl) (zi_at zh_dX12_rules_48_48 10 rfl) rfl
theorem dX12_rules_59 : decode cX12_rules 59 = .ok (.invokevirtual 88, 3) := zo_182 (zi_at zh_dX12_rules_48_48 11 rfl) (zi_at zh_dX12_rules_48_48 12 rfl) (zi_at zh_dX12_rules_48_48 13 rfl) rfl
theorem dX12_rules_62 : decode cX12_rules 62 = .ok (.pop, 1) := zo_87 (zi_at zh_dX12_rules_48_48 14 rfl)
theorem dX12_rules_63 : decode cX12_rules 63 = .ok (.aload_n 0, 1) := zo_42 (zi_at zh_dX12_rules_48_48 15 rfl)
theorem dX12_rules_64 : decode cX12_rules 64 = .ok (.getfield 19, 3) := zo_180 (zi_at zh_dX12_rules_64_64 0 rfl) (zi_at zh_dX12_rules_64_64 1 rfl) (zi_at zh_dX12_rules_64_64 2 rfl) rfl
theorem dX12_rules_67 : decode cX12_rules 67 = .ok (.iconst 0, 1) := zo_3 (zi_at zh_dX12_rules_64_64 3 rfl)
theorem dX12_rules_68 : decode cX12_rules 68 = .ok (.putfield 103, 3) := zo_181 (zi_at zh_dX12_rules_64_64 4 rfl) (zi_at zh_dX12_rules_64_64 5 rfl) (zi_at zh_dX12_rules_64_64 6 rfl) rfl
theorem dX12_rules_71 : decode cX12_rules 71 = .ok (.aload_n 0, 1) := zo_42 (zi_at zh_dX12_rules_64_64 7 rfl)
theorem dX12_rules_72 : decode cX12_rules 72 = .ok (.getfield 10, 3) := zo_180 (zi_at zh_dX12_rules_64_64 8 rfl) (zi_at zh_dX12_rules_64_64 9 rfl) (zi_at zh_dX12_rules_64_64 10 rfl) rfl
theorem dX12_rules_75 : decode cX12_rules 75 = .ok (.getfield 113, 3) := zo_180 (zi_at zh_dX12_rules_64_64 11 rfl) (zi_at zh_dX12_rules_64_64 12 rfl) (zi_at zh_dX12_rules_64_64 13 rfl) rfl
theorem dX12_rules_78 : decode cX12_rules 78 = .ok (.invokevirtual 77, 3) := zo_182 (zi_at zh_dX12_rules_64_64 14 rfl) (zi_at zh_dX12_rules_64_64 15 rfl) (zi_at zh_dX12_rules_78_80 0 rfl) rfl
theorem dX12_rules_81 : decode cX12_rules 81 = .ok (.iconst 1, 1) := zo_4 (zi_at zh_dX12_rules_78_80 1 rfl)
theorem dX12_rules_82 : decode cX12_rules 82 = .ok (.isub, 1) := zo_100 (zi_at zh_dX12_rules_78_80 2 rfl)
theorem dX12_rules_83 : decode cX12_rules 83 = .ok (.ireturn, 1) := zo_172 (zi_at zh_dX12_rules_78_80 3 rfl)

def v_u_rulesV : List Cond := .code yX12_rules cX12_rules 2 (some .int) :: vA
abbrev rm_u_rulesV : Room := { frames := 72, cells := 6, slots := 3206, locals := 2880 }
def w_u_rulesV : Nat → Nat → Bool := wl [22, 23, 24, 25] [(2, 1), (2, 2), (2, 3), (2, 5), (2, 9)]
set_option maxHeartbeats 4000000 in
set_option maxRecDepth 100000 in
theorem q_u_rulesV (l : Launch) (dC : Nat → ClassId) (dI : Nat → Nat → Nat) (cT : Nat → ClassId) (cf : Nat → Nat) (hC : CF cf) (ad : Nat → Nat) (E : Nat → va_E) (sz : Nat) (a0 : Int32) (hI0 : IXL cT (shC cf) (spC cf) (LC cf) ad E)  : Met l yX12_rules v_u_rulesV rm_u_rulesV (va_Pc [.ref (ad 0), .int a0] (fun U => (HWL dC dI (TYC cT) cf ad E sz) U ∧ va_Nw (.castable "[I" "java/lang/Cloneable") U)) (va_Qi (S := (Nat → Nat) × (Nat → Nat) × (Nat → va_E)) (fun r u => MadeX 1 cT cf ad w_u_rulesV E u (r = -1 ∧ ¬ ((0 ≤ a0.toInt ∧ a0.toInt ≤ 400) ∧ cf 1 < 16 ∧ (textS false (tT E) (tN E)).flt = -1) ∧ TS E u.2.2) (fun _ => r.toInt = ((cf 1 : Nat) : Int) ∧ ((0 ≤ a0.toInt ∧ a0.toInt ≤ 400) ∧ cf 1 < 16 ∧ (textS false (tT E) (tN E)).flt = -1) ∧ xi (u.2.2 (64 * (cf 1 + 1) + 1)) 0 = a0 ∧ xi (u.2.2 (64 * (cf 1 + 1) + 1)) 1 = xi (E 1) 0 ∧ xi (u.2.2 2) 1 = 0 ∧ RuNew E cf u.1 u.2.2)) (fun u t => va_P (dC, dI) vwCl (WL (LC u.1) u.2.1 u.2.2) t.heap ∧ va_D (va_A (WL (LC cf) ad E) sz) (WL (LC u.1) u.2.1 u.2.2)) (va_A (WL (LC cf) ad E) sz)) 6 3206 (va_A (WL (LC cf) ad E) sz) := by
  obtain ⟨⟨hc0, hc1, hc2, hc3, hc4, hc5⟩, hcr⟩ := id hC
  refine Met.ofW (cc := cX12_rules) (maxL := 2) (ret := (some .int)) (by decide) rfl ?_
  intro p e s m args below meth c s₁ B hml hv
  obtain ⟨hargs, ⟨hsz, hP, hK, hD0, hEV⟩, hCL⟩ := hv
  subst hsz
  have hx := B.exec
  have hb := B.bytes
  have hr := B.returns
  have hts := atoms_spec (ws := v_u_rulesV) B.pre
  have hown : s.vm.findClass RX12 = some m.cls := findClass_of_methodNamed B.named
  have hlocks := B.notSynchronized
  have hinX0 : ∀ w ∈ u_ws RX0 TX0 11, w ∈ v_u_rulesV := fun w h => vA_in _ w (in_X0 w h)
  have hinX10 : ∀ w ∈ u_ws RX10 TX10 10, w ∈ v_u_rulesV := fun w h => vA_in _ w (in_X10 w h)
  have hinX12 : ∀ w ∈ u_ws RX12 TX12 6, w ∈ v_u_rulesV := fun w h => vA_in _ w (in_X12 w h)
  generalize hAe : va_A (WL (LC cf) ad E) s.heap.size = A at hEV ⊢
  have hA : ∀ q : Nat, s.heap.size ≤ q → A q := fun q h => by rw [← hAe]; exact Or.inr h
  have hD : va_D A (WL (LC cf) ad E) := by rw [← hAe]; exact hD0.self
  have hS : va_S A s.heap s.heap [] := va_S.rf
  have hI := hI0
  have hKp : Kp w_u_rulesV E E := Kp.rf
  have hl := lv_entry ([.ref (ad 0), .int a0]) (n := 2) (Nat.le_of_ble_eq_true rfl)
  obtain ⟨Q, hQ⟩ : ∃ Q, Q = MQ below (va_Qi (S := (Nat → Nat) × (Nat → Nat) × (Nat → va_E)) (fun r u => MadeX 1 cT cf ad w_u_rulesV E u (r = -1 ∧ ¬ ((0 ≤ a0.toInt ∧ a0.toInt ≤ 400) ∧ cf 1 < 16 ∧ (textS false (tT E) (tN E)).flt = -1) ∧ TS E u.2.2) (fun _ => r.toInt = ((cf 1 : Nat) : Int) ∧ ((0 ≤ a0.toInt ∧ a0.toInt ≤ 400) ∧ cf 1 < 16 ∧ (textS false (tT E) (tN E)).flt = -1) ∧ xi (u.2.2 (64 * (cf 1 + 1) + 1)) 0 = a0 ∧ xi (u.2.2 (64 * (cf 1 + 1) + 1)) 1 = xi (E 1) 0 ∧ xi (u.2.2 2) 1 = 0 ∧ RuNew E cf u.1 u.2.2)) (fun u t => va_P (dC, dI) vwCl (WL (LC u.1) u.2.1 u.2.2) t.heap ∧ va_D A (WL (LC u.1) u.2.1 u.2.2)) (A)) args s 6 3206 (A) := ⟨_, rfl⟩
  rw [← hQ, show entryFrame m args 2 = _ from (congrArg (fun z => entryFrame m z 2) hargs).trans (lg_entry_eq _ _ _)]
  generalize (lg_sl ([.ref (ad 0), .int a0]) ++ List.replicate (2 - (lg_sl ([.ref (ad 0), .int a0])).length) Slot.unset).toArray = ls at hl ⊢
  have hl : lv_has ls 2 [(0, .ref (ad 0)), (1, .int a0)] := hl
  refine lv_iload_n hx hb dX12_rules_0 rfl (lv_at hl 1 rfl) ?_
  refine th_pi (va_runS (As := [.int a0]) (rest := []) ⟨hx, hb, hml, hown, hts⟩ (q_cisDay l a0) (va_cwS 1 hts (gi_S (in_10 _ (zs16 (zs4 (zs4 (zs4 (zs0)))))) (in_10 _ (zs16 (zs4 (zs4 (zs4 (zs1 (zs0))))))) (in_4 _ (zs16 (zs4 (zs1 (zs1 (zs1 (zs0))))))) (in_10 _ (zs16 (zs4 (zs4 (zs4 (zs1 (zs1 (zs0))))))))) rfl rfl rfl (by decide +kernel) ⟨Nat.le_of_ble_eq_true rfl, Nat.le_of_ble_eq_true rfl⟩) ⟨fun _ _ _ _ q => q, fun _ _ _ => ⟨rfl, trivial⟩⟩ rfl rfl hl.1 rfl (lv_room (Nat.le_of_ble_eq_true rfl)) dX12_rules_1 ⟨Nat.le_of_ble_eq_true rfl, Nat.le_of_ble_eq_true rfl⟩) hS (fun r1 H1 locs1 hw hk1 hS => ?_)
  have hP := ub_keep hP hk1
  generalize H1 = H at hP hS ⊢
  generalize locs1 = locs at hS ⊢
  rcases hw with hw | hw
  · -- cisDay, case 0
    obtain ⟨rfl, f2⟩ := hw
    have t3 : (0 : Int) ≤ a0.toInt := f2.1
    have t4 : a0.toInt ≤ 400 := f2.2
    have i5 : 0 ≤ a0.toInt ∧ a0.toInt ≤ 2147483647 := iv_le_r t3 (il_ 0) (iv_all _) (by decide)
    have i6 : 0 ≤ a0.toInt ∧ a0.toInt ≤ 400 := iv_le_l t4 i5 (il_ 400) (by decide)
    refine lv_if_eq (tgt := 22) hx hb dX12_rules_4 (by decide) (fun c7 => ?_) (fun c7 => ?_)
    · --4 taken
      exact absurd c7 (by decide)
    · --4 not
      refine lv_aload_n hx hb dX12_rules_7 rfl (lv_at hl 0 rfl) ?_
      refine th_getL (ci := 13) (C := RX12) (T := TX12) (N := 6) (v := .ref (ad 1)) hx hb hts hinX12 hown hK hP hI 0 (mF 0 rfl) rfl rfl 0 (Nat.le_of_ble_eq_true rfl) (hts _ (vA_in _ _ (in_10 _ (zs16 (zs1 (zs0)))))) (fun _ h9 => h9) (hI.fr 0 (mF 0 rfl) rfl (Nat.le_of_ble_eq_true rfl) 1 rfl) dX12_rules_8 ?_
      refine th_getL (ci := 1) (C := RX0) (T := TX0) (N := 11) (v := .ref (ad 8)) hx hb hts hinX0 hown hK hP hI 1 (mF 1 rfl) rfl rfl 4 (Nat.le_of_ble_eq_true rfl) (hts _ (vA_in _ _ (in_14 _ (zs4 (zs1 (zs1 (zs0))))))) (fun _ h9 => h9) (hI.fr 1 (mF 1 rfl) rfl (Nat.le_of_ble_eq_true rfl) 8 rfl) dX12_rules_11 ?_
      refine th_riL (va_runV (As := []) (rest := []) ⟨hx, hb, hml, hown, hts⟩ (q_size1 l dC dI cT cf hC ad E H.size hI) (cwV 0 hts (gi_V (in_10 _ (zs16 (zs16 (zs0)))) (in_4 _ (zs16 (zs16 (zs1 (zs1 (zs1 (zs0))))))) (in_4 _ (zs16 (zs16 (zs4 (zs0))))) (in_3 _ (zs16 (zs1 (zs1 (zs0))))) (in_4 _ (zs16 (zs1 (zs1 (zs1 (zs0))))))) rfl rfl rfl (by decide +kernel) ⟨Nat.le_of_ble_eq_true rfl, Nat.le_of_ble_eq_true rfl⟩) ⟨HWL_bl, va_recv hK hP (ci := 0) (q0 := posL 8 (LC cf)) rfl (hI.ob 8 (mF 8 rfl) rfl), (HWL_wi hP hK (WL_D hD) hS hA hEV)⟩ rfl rfl hl.1 rfl (lv_room (Nat.le_of_ble_eq_true rfl)) dX12_rules_14 ⟨Nat.le_of_ble_eq_true rfl, Nat.le_of_ble_eq_true rfl⟩) hS hP (fun r8 H locs hw hP hS => ?_)
      obtain ⟨f9, f10⟩ := hw
      refine lv_bipush (v := 16) hx hb dX12_rules_17 (by decide) ?_
      refine lv_icmp_lt (tgt := 24) hx hb dX12_rules_19 (by decide) (fun c11 => ?_) (fun c11 => ?_)
      · --19 taken
        have t12 : r8.toInt < 16 := ti_lt c11
        have i13 : 0 ≤ r8.toInt ∧ r8.toInt ≤ 15 := iv_lt_l t12 f9 (il_ 16) (by decide)
        refine lv_aload_n hx hb dX12_rules_24 rfl (lv_at hl 0 rfl) ?_
        refine th_getL (ci := 13) (C := RX12) (T := TX12) (N := 6) (v := .ref (ad 2)) hx hb hts hinX12 hown hK hP hI 0 (mF 0 rfl) rfl rfl 1 (Nat.le_of_ble_eq_true rfl) (hts _ (vA_in _ _ (in_14 _ (zs4 (zs4 (zs1 (zs1 (zs1 (zs0))))))))) (fun _ h9 => h9) (hI.fr 0 (mF 0 rfl) rfl (Nat.le_of_ble_eq_true rfl) 2 rfl) dX12_rules_25 ?_
        refine th_iL (va_runV (As := []) (rest := []) ⟨hx, hb, hml, hown, hts⟩ (q_readV l dC dI cT cf hC ad E H.size hI) (cwV 0 hts (gi_V (in_18 _ (zs4 (zs1 (zs1 (zs1 (zs0)))))) (in_18 _ (zs4 (zs4 (zs0)))) (in_18 _ (zs4 (zs4 (zs1 (zs0))))) (in_8 _ (zs4 (zs4 (zs4 (zs1 (zs1 (zs0))))))) (in_8 _ (zs16 (zs4 (zs1 (zs1 (zs0))))))) rfl rfl rfl (by decide +kernel) ⟨Nat.le_of_ble_eq_true rfl, Nat.le_of_ble_eq_true rfl⟩) ⟨HWL_bl, va_recv hK hP (ci := 11) (q0 := posL 2 (LC cf)) rfl (hI.ob 2 (mF 2 rfl) rfl), (HWL_wi hP hK (WL_D hD) hS hA hEV)⟩ rfl rfl hl.1 rfl (lv_room (Nat.le_of_ble_eq_true rfl)) dX12_rules_28 ⟨Nat.le_of_ble_eq_true rfl, Nat.le_of_ble_eq_true rfl⟩) (WL_D hD) hS hA (fun r14 E15 H locs hw hP hS => ?_)
        obtain ⟨hI, kq16, hw⟩ := hw
        have hKb := hKp
        have hKp := hKp.tr kq16 (wl_sub rfl rfl)
        obtain ⟨f17, f18, f19, f20, f21⟩ := hw
        refine lv_iconst (v := -1) hx hb dX12_rules_31 (by decide) ?_
        refine lv_icmp_eq (tgt := 37) hx hb dX12_rules_32 (by decide) (fun c22 => ?_) (fun c22 => ?_)
        · --32 taken
          have t23 : r14.toInt = -1 := ti_eq c22
          have i24 : -1 ≤ r14.toInt ∧ r14.toInt ≤ -1 := iv_eqi t23 f17 (il_ (-1)) (by decide)
          refine lv_aload_n hx hb dX12_rules_37 rfl (lv_at hl 0 rfl) ?_
          refine th_getL (ci := 13) (C := RX12) (T := TX12) (N := 6) (v := .ref (ad 1)) hx hb hts hinX12 hown hK hP hI 0 (mF 0 rfl) rfl rfl 0 (Nat.le_of_ble_eq_true rfl) (hts _ (vA_in _ _ (in_10 _ (zs16 (zs1 (zs0)))))) (fun _ h9 => h9) (hI.fr 0 (mF 0 rfl) rfl (Nat.le_of_ble_eq_true rfl) 1 rfl) dX12_rules_38 ?_
          refine th_getL (ci := 1) (C := RX0) (T := TX0) (N := 11) (v := .ref (ad 8)) hx hb hts hinX0 hown hK hP hI 1 (mF 1 rfl) rfl rfl 4 (Nat.le_of_ble_eq_true rfl) (hts _ (vA_in _ _ (in_14 _ (zs4 (zs1 (zs1 (zs0))))))) (fun _ h9 => h9) (hI.fr 1 (mF 1 rfl) rfl (Nat.le_of_ble_eq_true rfl) 8 rfl) dX12_rules_41 ?_
          refine lv_aload_n hx hb dX12_rules_44 rfl (lv_at hl 0 rfl) ?_
          refine th_getL (ci := 13) (C := RX12) (T := TX12) (N := 6) (v := .ref (ad 2)) hx hb hts hinX12 hown hK hP hI 0 (mF 0 rfl) rfl rfl 1 (Nat.le_of_ble_eq_true rfl) (hts _ (vA_in _ _ (in_14 _ (zs4 (zs4 (zs1 (zs1 (zs1 (zs0))))))))) (fun _ h9 => h9) (hI.fr 0 (mF 0 rfl) rfl (Nat.le_of_ble_eq_true rfl) 2 rfl) dX12_rules_45 ?_
          refine lv_iload_n hx hb dX12_rules_48 rfl (lv_at hl 1 rfl) ?_
          refine lv_aload_n hx hb dX12_rules_49 rfl (lv_at hl 0 rfl) ?_
          refine th_getL (ci := 13) (C := RX12) (T := TX12) (N := 6) (v := .ref (ad 1)) hx hb hts hinX12 hown hK hP hI 0 (mF 0 rfl) rfl rfl 0 (Nat.le_of_ble_eq_true rfl) (hts _ (vA_in _ _ (in_10 _ (zs16 (zs1 (zs0)))))) (fun _ h9 => h9) (hI.fr 0 (mF 0 rfl) rfl (Nat.le_of_ble_eq_true rfl) 1 rfl) dX12_rules_50 ?_
          have i25 : 0 ≤ (xi (E 1) 0).toInt ∧ (xi (E 1) 0).toInt ≤ 400 := hI0.iv 1 (mF 1 rfl) rfl (Nat.le_of_ble_eq_true rfl) rfl
          refine th_getL (ci := 1) (C := RX0) (T := TX0) (N := 11) (v := .int (xi (E 1) 0)) hx hb hts hinX0 hown hK hP hI 1 (mF 1 rfl) rfl rfl 0 (Nat.le_of_ble_eq_true rfl) (hts _ (vA_in _ _ (in_10 _ (zs16 (zs4 (zs4 (zs1 (zs1 (zs0))))))))) (fun _ h9 => h9) (th_v0L hKp hI0 1 (mF 1 rfl) rfl (Nat.le_of_ble_eq_true rfl) rfl rfl) dX12_rules_53 ?_
          have hFW : ∀ z, va_A (WL (LC cf) ad E15) H.size z → A z := all_free (WL_D hD) hS hA
          have htp : TPok (xi (E15 24)) (xi (E15 25)) (xi (E15 2) 9) (xi (E15 2) 5) ∧ (xi (E15 24) (xi (E15 2) 9).toNatClampNeg).toInt ≤ (xi (E15 2) 5).toInt := by assumption
          have ins : 0 ≤ (xi (E15 2) 5).toInt ∧ (xi (E15 2) 5).toInt ≤ 200 := hI.iv 2 (mF 2 rfl) rfl (Nat.le_of_ble_eq_true rfl) rfl
          obtain ⟨ns, hnse⟩ : ∃ n : Nat, n = (xi (E15 2) 5).toNatClampNeg := ⟨_, rfl⟩
          have hnsi : (xi (E15 2) 5).toInt = ((ns : Nat) : Int) := by rw [hnse, tn_]; omega
          have hnsb : ns ≤ 200 := by omega
          have inc : 0 ≤ (xi (E15 2) 9).toInt ∧ (xi (E15 2) 9).toInt ≤ 51 := hI.iv 2 (mF 2 rfl) rfl (Nat.le_of_ble_eq_true rfl) rfl
          obtain ⟨nc, hnce⟩ : ∃ n : Nat, n = (xi (E15 2) 9).toNatClampNeg := ⟨_, rfl⟩
          have hnci : (xi (E15 2) 9).toInt = ((nc : Nat) : Int) := by rw [hnce, tn_]; omega
          have hncb : nc ≤ 51 := by omega
          refine va_callr (va_runV (As := [.int a0, .int (xi (E 1) 0)]) (rest := [.ref (ad 8)]) ⟨hx, hb, hml, hown, hts⟩ (q_u_asRules l dC dI cT cf hC ad E15 H.size a0 (xi (E 1) 0) hI) (cwV 2 hts (gi_V (in_22 _ (zs16 (zs16 (zs4 (zs0))))) (in_22 _ (zs16 (zs16 (zs4 (zs1 (zs0)))))) (in_22 _ (zs16 (zs16 (zs4 (zs1 (zs1 (zs0))))))) (in_8 _ (zs4 (zs4 (zs4 (zs1 (zs1 (zs0))))))) (in_7 _ (zs16 (zs16 (zs0))))) rfl rfl rfl (by decide +kernel) ⟨Nat.le_of_ble_eq_true rfl, Nat.le_of_ble_eq_true rfl⟩) ⟨fun a U g mk q => by obtain ⟨e0, ⟨e1, qP, qK, qD, qE⟩, qC⟩ := q; exact ⟨e0, ⟨e1, qP, va_K.moved (u := U) (U := U.calling g mk a) (Vm.Alike.refl U.vm) qK, qD, EVC_c qE⟩, va_Nw.same (u := U) (U := U.calling g mk a) rfl rfl qC⟩, va_recv hK hP (ci := 11) (q0 := posL 2 (LC cf)) rfl (hI.ob 2 (mF 2 rfl) rfl), fun U hU hW => ⟨rfl, ⟨by rw [hU], by rw [hU]; exact hP, va_K.moved hW.alike hK, (WL_D hD).weaken (fun _ _ _ _ => trivial), EVC_w hU hW hS hFW hEV⟩, va_Nw.warmC hW hCL⟩⟩ rfl rfl hl.1 rfl (lv_room (Nat.le_of_ble_eq_true rfl)) dX12_rules_56 ⟨Nat.le_of_ble_eq_true rfl, Nat.le_of_ble_eq_true rfl⟩) hS (fun z _ h => hFW z h) hFW (fun u9 qn t H1 locs ht hvm hw hB hz1 hk1 hS => ?_)
          obtain ⟨y0, y1, y2, y3, f0, f1, f2, f3⟩ := u9
          obtain ⟨hP1, hD1⟩ := hB
          obtain ⟨hf0, hf1, hf2, hf3⟩ := hw
          rw [ht] at hP1
          dsimp only at hP1 hD1 hf0 hf1 hf2 hf3
          rw [← hnse, ← hnce] at hP1 hD1
          rw [← hnce] at hf1 hf2 hf3
          have hP2 : va_P (dC, dI) vwCl ([(qn, .inr (8, [.int a0, .int (xi (E 1) 0), .ref y0, .ref y1, .ref y2, .ref y3])), (y3, .inl (cT 0, nc, .inl f3)), (y2, .inl (cT 0, nc + 1, .inl f2)), (y1, .inl (cT 0, nc, .inl f1)), (y0, .inl (cT 0, ns, .inl f0))] ++ WL (LC cf) ad E15) H1 := hP1
          have hD2 : va_D A ([(qn, .inr (8, [.int a0, .int (xi (E 1) 0), .ref y0, .ref y1, .ref y2, .ref y3])), (y3, .inl (cT 0, nc, .inl f3)), (y2, .inl (cT 0, nc + 1, .inl f2)), (y1, .inl (cT 0, nc, .inl f1)), (y0, .inl (cT 0, ns, .inl f0))] ++ WL (LC cf) ad E15) := hD1.weaken (fun _ _ _ h => hFW _ h)
          generalize H1 = H at hP2 hS ⊢
          have hP : va_P (dC, dI) vwCl (WL (LC cf) ad E15) H := va_P_sub hP2 (fun x hx => List.mem_append_right _ hx)
          obtain ⟨ad1, had1⟩ : ∃ z, z = va_up (va_up (va_up (va_up (va_up ad (64 * (cf 1 + 1) + 1) qn) (64 * (cf 1 + 1) + 5) y3) (64 * (cf 1 + 1) + 4) y2) (64 * (cf 1 + 1) + 3) y1) (64 * (cf 1 + 1) + 2) y0 := ⟨_, rfl⟩
          obtain ⟨E1, hE1⟩ : ∃ z : Nat → va_E, z = va_up (va_up (va_up (va_up (va_up E15 (64 * (cf 1 + 1) + 1) (.inr (8, [.int a0, .int (xi (E 1) 0), .ref y0, .ref y1, .ref y2, .ref y3]))) (64 * (cf 1 + 1) + 5) (.inl (cT 0, nc, .inl f3))) (64 * (cf 1 + 1) + 4) (.inl (cT 0, nc + 1, .inl f2))) (64 * (cf 1 + 1) + 3) (.inl (cT 0, nc, .inl f1))) (64 * (cf 1 + 1) + 2) (.inl (cT 0, ns, .inl f0)) := ⟨_, rfl⟩
          have hKM := kmRules (n := cf 1)
          have hko : ∀ x, x ∈ [64 * (cf 1 + 1) + 1, 64 * (cf 1 + 1) + 5, 64 * (cf 1 + 1) + 4, 64 * (cf 1 + 1) + 3, 64 * (cf 1 + 1) + 2] → x ∉ LC cf := K_out (J := 1) (by decide) hKM
          have hko0 : (64 * (cf 1 + 1) + 1) ∉ LC cf := hko _ (by simp)
          have hko1 : (64 * (cf 1 + 1) + 5) ∉ LC cf := hko _ (by simp)
          have hko2 : (64 * (cf 1 + 1) + 4) ∉ LC cf := hko _ (by simp)
          have hko3 : (64 * (cf 1 + 1) + 3) ∉ LC cf := hko _ (by simp)
          have hko4 : (64 * (cf 1 + 1) + 2) ∉ LC cf := hko _ (by simp)
          have haa : ∀ o, o ∈ LC cf → ad1 o = ad o := fun o h => by have n0 : o ≠ (64 * (cf 1 + 1) + 1) := fun e => hko0 (e ▸ h); have n1 : o ≠ (64 * (cf 1 + 1) + 5) := fun e => hko1 (e ▸ h); have n2 : o ≠ (64 * (cf 1 + 1) + 4) := fun e => hko2 (e ▸ h); have n3 : o ≠ (64 * (cf 1 + 1) + 3) := fun e => hko3 (e ▸ h); have n4 : o ≠ (64 * (cf 1 + 1) + 2) := fun e => hko4 (e ▸ h); rw [had1, va_up_ne _ _ n4, va_up_ne _ _ n3, va_up_ne _ _ n2, va_up_ne _ _ n1, va_up_ne _ _ n0]
          have hee : ∀ o, o ∈ LC cf → E1 o = E15 o := fun o h => by have n0 : o ≠ (64 * (cf 1 + 1) + 1) := fun e => hko0 (e ▸ h); have n1 : o ≠ (64 * (cf 1 + 1) + 5) := fun e => hko1 (e ▸ h); have n2 : o ≠ (64 * (cf 1 + 1) + 4) := fun e => hko2 (e ▸ h); have n3 : o ≠ (64 * (cf 1 + 1) + 3) := fun e => hko3 (e ▸ h); have n4 : o ≠ (64 * (cf 1 + 1) + 2) := fun e => hko4 (e ▸ h); rw [hE1, va_up_ne _ _ n4, va_up_ne _ _ n3, va_up_ne _ _ n2, va_up_ne _ _ n1, va_up_ne _ _ n0]
          have aq0 : ad1 (64 * (cf 1 + 1) + 1) = qn := by rw [had1, va_up_ne _ _ (show (64 * (cf 1 + 1) + 1) ≠ (64 * (cf 1 + 1) + 2) by omega), va_up_ne _ _ (show (64 * (cf 1 + 1) + 1) ≠ (64 * (cf 1 + 1) + 3) by omega), va_up_ne _ _ (show (64 * (cf 1 + 1) + 1) ≠ (64 * (cf 1 + 1) + 4) by omega), va_up_ne _ _ (show (64 * (cf 1 + 1) + 1) ≠ (64 * (cf 1 + 1) + 5) by omega), va_up_self]
          have eq0 : E1 (64 * (cf 1 + 1) + 1) = .inr (8, [.int a0, .int (xi (E 1) 0), .ref y0, .ref y1, .ref y2, .ref y3]) := by rw [hE1, va_up_ne _ _ (show (64 * (cf 1 + 1) + 1) ≠ (64 * (cf 1 + 1) + 2) by omega), va_up_ne _ _ (show (64 * (cf 1 + 1) + 1) ≠ (64 * (cf 1 + 1) + 3) by omega), va_up_ne _ _ (show (64 * (cf 1 + 1) + 1) ≠ (64 * (cf 1 + 1) + 4) by omega), va_up_ne _ _ (show (64 * (cf 1 + 1) + 1) ≠ (64 * (cf 1 + 1) + 5) by omega), va_up_self]
          have aq1 : ad1 (64 * (cf 1 + 1) + 5) = y3 := by rw [had1, va_up_ne _ _ (show (64 * (cf 1 + 1) + 5) ≠ (64 * (cf 1 + 1) + 2) by omega), va_up_ne _ _ (show (64 * (cf 1 + 1) + 5) ≠ (64 * (cf 1 + 1) + 3) by omega), va_up_ne _ _ (show (64 * (cf 1 + 1) + 5) ≠ (64 * (cf 1 + 1) + 4) by omega), va_up_self]
          have eq1 : E1 (64 * (cf 1 + 1) + 5) = .inl (cT 0, nc, .inl f3) := by rw [hE1, va_up_ne _ _ (show (64 * (cf 1 + 1) + 5) ≠ (64 * (cf 1 + 1) + 2) by omega), va_up_ne _ _ (show (64 * (cf 1 + 1) + 5) ≠ (64 * (cf 1 + 1) + 3) by omega), va_up_ne _ _ (show (64 * (cf 1 + 1) + 5) ≠ (64 * (cf 1 + 1) + 4) by omega), va_up_self]
          have aq2 : ad1 (64 * (cf 1 + 1) + 4) = y2 := by rw [had1, va_up_ne _ _ (show (64 * (cf 1 + 1) + 4) ≠ (64 * (cf 1 + 1) + 2) by omega), va_up_ne _ _ (show (64 * (cf 1 + 1) + 4) ≠ (64 * (cf 1 + 1) + 3) by omega), va_up_self]
          have eq2 : E1 (64 * (cf 1 + 1) + 4) = .inl (cT 0, nc + 1, .inl f2) := by rw [hE1, va_up_ne _ _ (show (64 * (cf 1 + 1) + 4) ≠ (64 * (cf 1 + 1) + 2) by omega), va_up_ne _ _ (show (64 * (cf 1 + 1) + 4) ≠ (64 * (cf 1 + 1) + 3) by omega), va_up_self]
          have aq3 : ad1 (64 * (cf 1 + 1) + 3) = y1 := by rw [had1, va_up_ne _ _ (show (64 * (cf 1 + 1) + 3) ≠ (64 * (cf 1 + 1) + 2) by omega), va_up_self]
          have eq3 : E1 (64 * (cf 1 + 1) + 3) = .inl (cT 0, nc, .inl f1) := by rw [hE1, va_up_ne _ _ (show (64 * (cf 1 + 1) + 3) ≠ (64 * (cf 1 + 1) + 2) by omega), va_up_self]
          have aq4 : ad1 (64 * (cf 1 + 1) + 2) = y0 := by rw [had1, va_up_self]
          have eq4 : E1 (64 * (cf 1 + 1) + 2) = .inl (cT 0, ns, .inl f0) := by rw [hE1, va_up_self]
          have hw9 : WL ([64 * (cf 1 + 1) + 1, 64 * (cf 1 + 1) + 5, 64 * (cf 1 + 1) + 4, 64 * (cf 1 + 1) + 3, 64 * (cf 1 + 1) + 2] ++ LC cf) ad1 E1 = [(qn, .inr (8, [.int a0, .int (xi (E 1) 0), .ref y0, .ref y1, .ref y2, .ref y3])), (y3, .inl (cT 0, nc, .inl f3)), (y2, .inl (cT 0, nc + 1, .inl f2)), (y1, .inl (cT 0, nc, .inl f1)), (y0, .inl (cT 0, ns, .inl f0))] ++ WL (LC cf) ad E15 := by
            show (ad1 (64 * (cf 1 + 1) + 1), E1 (64 * (cf 1 + 1) + 1)) :: (ad1 (64 * (cf 1 + 1) + 5), E1 (64 * (cf 1 + 1) + 5)) :: (ad1 (64 * (cf 1 + 1) + 4), E1 (64 * (cf 1 + 1) + 4)) :: (ad1 (64 * (cf 1 + 1) + 3), E1 (64 * (cf 1 + 1) + 3)) :: (ad1 (64 * (cf 1 + 1) + 2), E1 (64 * (cf 1 + 1) + 2)) :: WL (LC cf) ad1 E1 = _
            rw [aq0, eq0, aq1, eq1, aq2, eq2, aq3, eq3, aq4, eq4, WL_congr (ad' := ad) (E' := E15) fun o h => ⟨haa o h, hee o h⟩]
            rfl
          rw [← hw9] at hP2 hD2
          have hI1 := IX_ad hI hC haa hee
          have hlt : cf 1 < 16 := by omega
          obtain ⟨hG, hCn⟩ := cfR_up hC hlt hncb hnsb
          have z0 := ln_0
          have hnowi : 0 ≤ (xi (E 1) 0).toInt ∧ (xi (E 1) 0).toInt ≤ 400 := i25
          have hfrm : 0 ≤ a0.toInt ∧ a0.toInt ≤ 400 := i6
          have ec : cfR cf nc ns (8 + 2 * cf 1) = nc := cfR_c
          have es : cfR cf nc ns (9 + 2 * cf 1) = ns := cfR_s
          have hb1 : ∀ j : Nat, j < nc → 0 ≤ (xi (E15 23) j).toInt ∧ (xi (E15 23) j).toInt ≤ 255 := fun j hj => hI.iv 23 (mF 23 rfl) rfl (show j < 51 by omega) rfl
          have hb2 : ∀ j : Nat, j < nc + 1 → 0 ≤ (xi (E15 24) j).toInt ∧ (xi (E15 24) j).toInt ≤ 200 := fun j hj => hI.iv 24 (mF 24 rfl) rfl (show j < 52 by omega) rfl
          have hb3 : ∀ j : Nat, j < nc → 0 ≤ (xi (E15 25) j).toInt ∧ (xi (E15 25) j).toInt ≤ 200 := fun j hj => hI.iv 25 (mF 25 rfl) rfl (show j < 51 by omega) rfl
          have hnew : ∀ t', t' < 15 → kl t' = 1 → okS cT (shP (cfR cf nc ns) t' (cf 1)) (E1 (64 * (cf 1 + 1) + t')) ∧ ∀ j, j < (shP (cfR cf nc ns) t' (cf 1)).2.2 → okV ad1 (spP (cfR cf nc ns) t' (cf 1) j) (xv (E1 (64 * (cf 1 + 1) + t')) j) := by
            intro t' h1 h2
            have h3 : ∀ t, t < 15 → kl t = 1 → 1 ≤ t ∧ t ≤ 5 := by decide
            have h3 := h3 t' h1 h2
            rcases (show t' = 1 ∨ t' = 2 ∨ t' = 3 ∨ t' = 4 ∨ t' = 5 by omega) with rfl | rfl | rfl | rfl | rfl
            · rw [eq0]
              refine ⟨rfl, fun j hj => ?_⟩
              have hj : j < 6 := hj
              rcases (show j = 0 ∨ j = 1 ∨ j = 2 ∨ j = 3 ∨ j = 4 ∨ j = 5 by omega) with rfl | rfl | rfl | rfl | rfl | rfl
              · exact okI rfl hfrm
              · exact okI rfl hnowi
              · exact congrArg Value.ref aq4.symm
              · exact congrArg Value.ref aq3.symm
              · exact congrArg Value.ref aq2.symm
              · exact congrArg Value.ref aq1.symm
            · rw [eq4]
              refine ⟨by show _ = Sum.inl (cT 0, cfR cf nc ns (9 + 2 * cf 1), _); rw [es]; rfl, fun j hj => ?_⟩
              exact okI (x := f0 j) rfl (iv_all _)
            · rw [eq3]
              refine ⟨by show _ = Sum.inl (cT 0, cfR cf nc ns (8 + 2 * cf 1), _); rw [ec]; rfl, fun j hj => ?_⟩
              have hj : j < cfR cf nc ns (8 + 2 * cf 1) := hj
              rw [ec] at hj
              exact okI (x := f1 j) rfl (by rw [hf1 j hj]; exact hb1 j hj)
            · rw [eq2]
              refine ⟨by show _ = Sum.inl (cT 0, cfR cf nc ns (8 + 2 * cf 1) + 1, _); rw [ec]; rfl, fun j hj => ?_⟩
              have hj : j < cfR cf nc ns (8 + 2 * cf 1) + 1 := hj
              rw [ec] at hj
              refine okI (x := f2 j) (lo := 0) (hi := ((cfR cf nc ns (9 + 2 * cf 1) : Nat) : Int)) rfl ?_
              rw [es, hf2 j hj]
              have h7 := hb2 j hj
              by_cases e7 : j < nc
              · have h8 := (htp.1 j (by omega)).1
                omega
              · obtain rfl : j = nc := by omega
                have h8 := htp.2
                rw [← hnce] at h8
                omega
            · rw [eq1]
              refine ⟨by show _ = Sum.inl (cT 0, cfR cf nc ns (8 + 2 * cf 1), _); rw [ec]; rfl, fun j hj => ?_⟩
              have hj : j < cfR cf nc ns (8 + 2 * cf 1) := hj
              rw [ec] at hj
              refine okI (x := f3 j) (lo := 0) (hi := ((cfR cf nc ns (9 + 2 * cf 1) : Nat) : Int)) rfl ?_
              rw [es, hf3 j hj]
              have h7 := hb3 j hj
              have h8 := (htp.1 j (by omega)).2
              omega
          have hM := k_addW l dC dI cT cf hC ad1 E1 (cfR cf nc ns) 1 (by decide) hG (by omega) [64 * (cf 1 + 1) + 1, 64 * (cf 1 + 1) + 5, 64 * (cf 1 + 1) + 4, 64 * (cf 1 + 1) + 3, 64 * (cf 1 + 1) + 2] ndRules hKM 8 RX7 TX7 6 _ rfl (fun _ => rfl) (List.mem_of_getElem? (i := 1) rfl) eq0 H.size hI1 hnew
          rw [show ad1 (7 + 1) = ad 8 from haa _ (mF _ rfl), show ad1 (64 * (cf 1 + 1) + lkd 1) = qn from aq0] at hM
          have hFA := all_free hD2 hS hA
          refine va_calli (va_runV (As := [.ref qn]) (rest := []) ⟨hx, hb, hml, hown, hts⟩ hM (cwV 1 hts (gi_V (in_11 _ (zs1 (zs1 (zs1 (zs0))))) (in_11 _ (zs4 (zs0))) (in_11 _ (zs4 (zs1 (zs0)))) (in_3 _ (zs16 (zs1 (zs1 (zs0))))) (in_3 _ (zs16 (zs16 (zs0))))) rfl rfl rfl (by decide +kernel) ⟨Nat.le_of_ble_eq_true rfl, Nat.le_of_ble_eq_true rfl⟩) ⟨fun a U g mk q => by obtain ⟨e0, e1, qP, qK, qD, qE⟩ := q; exact ⟨e0, e1, qP, va_K.moved (u := U) (U := U.calling g mk a) (Vm.Alike.refl U.vm) qK, qD, EVC_c qE⟩, va_recv hK hP (ci := 0) (q0 := posL 8 (LC cf)) rfl (hI.ob 8 (mF 8 rfl) rfl), fun U hU hW => ⟨rfl, by rw [hU], by rw [hU]; exact hP2, va_K.moved hW.alike hK, hD2.weaken (fun _ _ _ _ => trivial), EVC_w hU hW hS hFA hEV⟩⟩ rfl rfl hl.1 rfl (lv_room (Nat.le_of_ble_eq_true rfl)) dX12_rules_59 ⟨Nat.le_of_ble_eq_true rfl, Nat.le_of_ble_eq_true rfl⟩) hS (fun z _ h => hFA z h) hFA (fun r9 u9 t H1 locs ht hvm hw hB hz1 hk1 hS => ?_)
          obtain ⟨rfl, hI9, a9, e9⟩ := hw
          obtain ⟨hP9, hD9⟩ := hB
          rw [ht] at hP9
          have hD9 := hD9.weaken (B := A) (fun _ _ _ h => hFA _ h)
          generalize H1 = H at hP9 hS ⊢
          obtain ⟨ad9, E9⟩ := u9
          dsimp only at hI9 a9 e9 hP9 hD9
          have had9 : ∀ o, o ≠ 13 + 1 → (∀ t, t < 15 → kl t = 1 → o ≠ 64 * (cf 1 + 1) + t) → ad9 o = ad o := fun o h1 h2 => (a9 o h1).trans (by rw [had1, va_up_ne _ _ (h2 2 (by decide) rfl), va_up_ne _ _ (h2 3 (by decide) rfl), va_up_ne _ _ (h2 4 (by decide) rfl), va_up_ne _ _ (h2 5 (by decide) rfl), va_up_ne _ _ (h2 1 (by decide) rfl)])
          have hkg : KpG 1 cf w_u_rulesV E E9 := fun o j h1 h2 h3 h4 => by have h5 := hKp o j h4; rw [← h5]; rw [e9 o h1 h2, hE1, va_up_ne _ _ (h3 2 (by decide) rfl), va_up_ne _ _ (h3 3 (by decide) rfl), va_up_ne _ _ (h3 4 (by decide) rfl), va_up_ne _ _ (h3 5 (by decide) rfl), va_up_ne _ _ (h3 1 (by decide) rfl)]
          have ob0 : E9 (64 * (cf 1 + 1) + 1) = .inr (8, [.int a0, .int (xi (E 1) 0), .ref y0, .ref y1, .ref y2, .ref y3]) := (e9 _ (by omega) (by omega)).trans eq0
          have ob1 : E9 (64 * (cf 1 + 1) + 5) = .inl (cT 0, nc, .inl f3) := (e9 _ (by omega) (by omega)).trans eq1
          have ob2 : E9 (64 * (cf 1 + 1) + 4) = .inl (cT 0, nc + 1, .inl f2) := (e9 _ (by omega) (by omega)).trans eq2
          have ob3 : E9 (64 * (cf 1 + 1) + 3) = .inl (cT 0, nc, .inl f1) := (e9 _ (by omega) (by omega)).trans eq3
          have ob4 : E9 (64 * (cf 1 + 1) + 2) = .inl (cT 0, ns, .inl f0) := (e9 _ (by omega) (by omega)).trans eq4
          refine lv_pop hx hb dX12_rules_62 rfl ?_
          refine lv_aload_n hx hb dX12_rules_63 rfl (lv_at hl 0 rfl) ?_
          rw [show ad 0 = ad9 0 from (had9 0 (by decide) (fun t h1 h2 => by omega)).symm]
          refine th_getL (ci := 13) (C := RX12) (T := TX12) (N := 6) (v := .ref (ad9 2)) hx hb hts hinX12 hown hK hP9 hI9 0 (mF 0 rfl) rfl rfl 1 (Nat.le_of_ble_eq_true rfl) (hts _ (vA_in _ _ (in_14 _ (zs4 (zs4 (zs1 (zs1 (zs1 (zs0))))))))) (fun _ h9 => h9) (hI9.fr 0 (mF 0 rfl) rfl (Nat.le_of_ble_eq_true rfl) 2 rfl) dX12_rules_64 ?_
          refine lv_iconst (v := 0) hx hb dX12_rules_67 (by decide) ?_
          refine th_putL (ci := 11) (C := RX10) (T := TX10) (N := 10) (v := .int 0) (ty := .int) hx hb hts hinX10 tyX10 tyX10_ok nmX10 hown hK hP9 hD9 hS hI9 2 (mF 2 rfl) rfl rfl 1 (Nat.le_of_ble_eq_true rfl) (hts _ (vA_in _ _ (in_14 _ (zs4 (zs4 (zs4 (zs0))))))) (fun _ h9 => h9) rfl (by decide +kernel) rfl rfl (okI rfl (iv_w ln_0 (by decide))) dX12_rules_68 (fun H locs E10 pw10 hI9 hP9 hS => ?_)
          have hD9 : va_D A (WL (LC (cfR cf nc ns)) ad9 E10) := WL_D hD9
          have hkg := hkg.pw pw10 rfl
          refine lv_aload_n hx hb dX12_rules_71 rfl (lv_at hl 0 rfl) ?_
          rw [show ad 0 = ad9 0 from (had9 0 (by decide) (fun t h1 h2 => by omega)).symm]
          refine th_getL (ci := 13) (C := RX12) (T := TX12) (N := 6) (v := .ref (ad9 1)) hx hb hts hinX12 hown hK hP9 hI9 0 (mF 0 rfl) rfl rfl 0 (Nat.le_of_ble_eq_true rfl) (hts _ (vA_in _ _ (in_10 _ (zs16 (zs1 (zs0)))))) (fun _ h9 => h9) (hI9.fr 0 (mF 0 rfl) rfl (Nat.le_of_ble_eq_true rfl) 1 rfl) dX12_rules_72 ?_
          refine th_getL (ci := 1) (C := RX0) (T := TX0) (N := 11) (v := .ref (ad9 8)) hx hb hts hinX0 hown hK hP9 hI9 1 (mF 1 rfl) rfl rfl 4 (Nat.le_of_ble_eq_true rfl) (hts _ (vA_in _ _ (in_14 _ (zs4 (zs1 (zs1 (zs0))))))) (fun _ h9 => h9) (hI9.fr 1 (mF 1 rfl) rfl (Nat.le_of_ble_eq_true rfl) 8 rfl) dX12_rules_75 ?_
          refine th_riL (va_runV (As := []) (rest := []) ⟨hx, hb, hml, hown, hts⟩ (q_size1 l dC dI cT ((cfR cf nc ns)) hCn ad9 E10 H.size hI9) (cwV 0 hts (gi_V (in_10 _ (zs16 (zs16 (zs0)))) (in_4 _ (zs16 (zs16 (zs1 (zs1 (zs1 (zs0))))))) (in_4 _ (zs16 (zs16 (zs4 (zs0))))) (in_3 _ (zs16 (zs1 (zs1 (zs0))))) (in_4 _ (zs16 (zs1 (zs1 (zs1 (zs0))))))) rfl rfl rfl (by decide +kernel) ⟨Nat.le_of_ble_eq_true rfl, Nat.le_of_ble_eq_true rfl⟩) ⟨HWL_bl, va_recv hK hP9 (ci := 0) (q0 := posL 8 (LC (cfR cf nc ns))) rfl (hI9.ob 8 (mF 8 rfl) rfl), HWL_wi hP9 hK hD9 hS hA (by rw [show ((cfR cf nc ns)) 6 = cf 6 from hG.2.2.1]; exact hEV)⟩ rfl rfl hl.1 rfl (lv_room (Nat.le_of_ble_eq_true rfl)) dX12_rules_78 ⟨Nat.le_of_ble_eq_true rfl, Nat.le_of_ble_eq_true rfl⟩) hS hP9 (fun r8 H locs hw8 hP9 hS => ?_)
          obtain ⟨i8, t8⟩ := hw8
          rw [show ((cfR cf nc ns)) 1 = cf 1 + 1 from hG.1] at t8
          refine lv_iconst (v := 1) hx hb dX12_rules_81 (by decide) ?_
          refine lv_isub hx hb dX12_rules_82 ?_
          refine lv_topi (fun y8 e8 => ?_)
          obtain ⟨ty8, iy8⟩ := ti_sub (e := -1) (f := 300) i8 ln_1 e8 (by decide)
          have l1 : (1 : Int32).toInt = 1 := rfl
          rw [hQ]
          refine W.widen (k := 6) (n := 3206) (by omega) (by omega) ?_
          exact W.iret (v := y8) hx hb hr (fun t ht hW => ⟨⟨y8, ((cfR cf nc ns), ad9, E10), rfl, ⟨hCn, hI9, Or.inr ⟨hG, had9, hkg, (by omega), ⟨hfrm, hlt, (by have b1 := f19.2; have b2 := f20; omega)⟩, ((congrArg vi (pw10.2 (64 * (cf 1 + 1) + 1) 0 (by omega))).trans (by rw [ob0]; rfl)), ((congrArg vi (pw10.2 (64 * (cf 1 + 1) + 1) 1 (by omega))).trans (by rw [ob0]; rfl)), (vi_e pw10.1), (RuNew.of f21 (by have b2 := f20; omega) hnse hnce hf0 hf1 hf2 hf3 (fun j9 => by rw [ob4]; rfl) (fun j9 => by rw [ob3]; rfl) (fun j9 => by rw [ob2]; rfl) (fun j9 => by rw [ob1]; rfl) pw10)⟩⟩, by rw [ht]; exact hP9, hD9⟩, hS.F ht⟩) hS.2.2 dX12_rules_83
        · --32 not
          have t26 : ¬ r14.toInt = -1 := ti_ne c22
          have i27 : 0 ≤ r14.toInt ∧ r14.toInt ≤ 200 := iv_ne_l t26 f17 (il_ (-1))
          refine lv_iconst (v := -1) hx hb dX12_rules_35 (by decide) ?_
          rw [hQ]
          refine W.widen (k := 6) (n := 3206) (by omega) (by omega) ?_
          exact W.iret (v := (-1)) hx hb hr (fun t ht hW => ⟨⟨(-1), (cf, ad, E15), rfl, ⟨hC, hI, Or.inl ⟨rfl, rfl, hKp, ⟨rfl, (fun g9 => by obtain ⟨q1, q2, q3⟩ := g9; have b1 := f19.2; have b2 := f20; omega), f19.1⟩⟩⟩, by rw [ht]; exact hP, (WL_D hD)⟩, hS.F ht⟩) hS.2.2 dX12_rules_36
      · --19 not
        have t28 : (16 : Int) ≤ r8.toInt := ti_nlt c11
        have i29 : 16 ≤ r8.toInt ∧ r8.toInt ≤ 16 := iv_le_r t28 (il_ 16) f9 (by decide)
        refine lv_iconst (v := -1) hx hb dX12_rules_22 (by decide) ?_
        rw [hQ]
        refine W.widen (k := 6) (n := 3206) (by omega) (by omega) ?_
        exact W.iret (v := (-1)) hx hb hr (fun t ht hW => ⟨⟨(-1), (cf, ad, E), rfl, ⟨hC, hI, Or.inl ⟨rfl, rfl, hKp, ⟨rfl, (fun g9 => by obtain ⟨q1, q2, q3⟩ := g9; omega), TS.rf⟩⟩⟩, by rw [ht]; exact hP, (WL_D hD)⟩, hS.F ht⟩) hS.2.2 dX12_rules_23
  · -- cisDay, case 1
    obtain ⟨rfl, f30⟩ := hw
    have t31 : ¬ ((0 : Int) ≤ a0.toInt ∧ a0.toInt ≤ 400) := f30
    refine lv_if_eq (tgt := 22) hx hb dX12_rules_4 (by decide) (fun c32 => ?_) (fun c32 => ?_)
    · --4 taken
      refine lv_iconst (v := -1) hx hb dX12_rules_22 (by decide) ?_
      rw [hQ]
      refine W.widen (k := 6) (n := 3206) (by omega) (by omega) ?_
      exact W.iret (v := (-1)) hx hb hr (fun t ht hW => ⟨⟨(-1), (cf, ad, E), rfl, ⟨hC, hI, Or.inl ⟨rfl, rfl, hKp, ⟨rfl, (fun g9 => by obtain ⟨q1, q2, q3⟩ := g9; omega), TS.rf⟩⟩⟩, by rw [ht]; exact hP, (WL_D hD)⟩, hS.F ht⟩) hS.2.2 dX12_rules_23
    · --4 not
      exact absurd c32 (by decide)
