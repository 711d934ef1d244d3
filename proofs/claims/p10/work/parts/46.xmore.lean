theorem dX13_rules_0 : decode cX13_rules 0 = .ok (.aload_n 0, 1) := by decide +kernel
theorem dX13_rules_1 : decode cX13_rules 1 = .ok (.iconst 0, 1) := by decide +kernel
theorem dX13_rules_2 : decode cX13_rules 2 = .ok (.putfield 228, 3) := by decide +kernel
theorem dX13_rules_5 : decode cX13_rules 5 = .ok (.aload_n 0, 1) := by decide +kernel
theorem dX13_rules_6 : decode cX13_rules 6 = .ok (.aload_n 0, 1) := by decide +kernel
theorem dX13_rules_7 : decode cX13_rules 7 = .ok (.getfield 28, 3) := by decide +kernel
theorem dX13_rules_10 : decode cX13_rules 10 = .ok (.iconst 0, 1) := by decide +kernel
theorem dX13_rules_11 : decode cX13_rules 11 = .ok (.aload_n 0, 1) := by decide +kernel
theorem dX13_rules_12 : decode cX13_rules 12 = .ok (.getfield 259, 3) := by decide +kernel
theorem dX13_rules_15 : decode cX13_rules 15 = .ok (.iconst 0, 1) := by decide +kernel
theorem dX13_rules_16 : decode cX13_rules 16 = .ok (.invokevirtual 366, 3) := by decide +kernel
theorem dX13_rules_19 : decode cX13_rules 19 = .ok (.aload_n 0, 1) := by decide +kernel
theorem dX13_rules_20 : decode cX13_rules 20 = .ok (.getfield 279, 3) := by decide +kernel
theorem dX13_rules_23 : decode cX13_rules 23 = .ok (.iconst (-1), 1) := by decide +kernel
theorem dX13_rules_24 : decode cX13_rules 24 = .ok (.if_icmp .ne 19, 3) := by decide +kernel
theorem dX13_rules_27 : decode cX13_rules 27 = .ok (.iload_n 1, 1) := by decide +kernel
theorem dX13_rules_28 : decode cX13_rules 28 = .ok (.invokestatic 249, 3) := by decide +kernel
theorem dX13_rules_31 : decode cX13_rules 31 = .ok (.ifCond .eq 12, 3) := by decide +kernel
theorem dX13_rules_34 : decode cX13_rules 34 = .ok (.aload_n 0, 1) := by decide +kernel
theorem dX13_rules_35 : decode cX13_rules 35 = .ok (.getfield 370, 3) := by decide +kernel
theorem dX13_rules_38 : decode cX13_rules 38 = .ok (.bipush 16, 2) := by decide +kernel
theorem dX13_rules_40 : decode cX13_rules 40 = .ok (.if_icmp .ne 5, 3) := by decide +kernel
theorem dX13_rules_43 : decode cX13_rules 43 = .ok (.iconst (-1), 1) := by decide +kernel
theorem dX13_rules_44 : decode cX13_rules 44 = .ok (.ireturn, 1) := by decide +kernel
theorem dX13_rules_45 : decode cX13_rules 45 = .ok (.iconst 0, 1) := by decide +kernel
theorem dX13_rules_46 : decode cX13_rules 46 = .ok (.istore_n 2, 1) := by decide +kernel
theorem dX13_rules_47 : decode cX13_rules 47 = .ok (.iload_n 2, 1) := by decide +kernel
theorem dX13_rules_48 : decode cX13_rules 48 = .ok (.aload_n 0, 1) := by decide +kernel
theorem dX13_rules_49 : decode cX13_rules 49 = .ok (.getfield 259, 3) := by decide +kernel
theorem dX13_rules_52 : decode cX13_rules 52 = .ok (.if_icmp .ge 30, 3) := by decide +kernel
theorem dX13_rules_55 : decode cX13_rules 55 = .ok (.aload_n 0, 1) := by decide +kernel
theorem dX13_rules_56 : decode cX13_rules 56 = .ok (.getfield 32, 3) := by decide +kernel
theorem dX13_rules_59 : decode cX13_rules 59 = .ok (.sipush 200, 3) := by decide +kernel
theorem dX13_rules_62 : decode cX13_rules 62 = .ok (.aload_n 0, 1) := by decide +kernel
theorem dX13_rules_63 : decode cX13_rules 63 = .ok (.getfield 370, 3) := by decide +kernel
theorem dX13_rules_66 : decode cX13_rules 66 = .ok (.imul, 1) := by decide +kernel
theorem dX13_rules_67 : decode cX13_rules 67 = .ok (.iload_n 2, 1) := by decide +kernel
theorem dX13_rules_68 : decode cX13_rules 68 = .ok (.iadd, 1) := by decide +kernel
theorem dX13_rules_69 : decode cX13_rules 69 = .ok (.aload_n 0, 1) := by decide +kernel
theorem dX13_rules_70 : decode cX13_rules 70 = .ok (.getfield 28, 3) := by decide +kernel
theorem dX13_rules_73 : decode cX13_rules 73 = .ok (.iload_n 2, 1) := by decide +kernel
theorem dX13_rules_74 : decode cX13_rules 74 = .ok (.baload, 1) := by decide +kernel
theorem dX13_rules_75 : decode cX13_rules 75 = .ok (.bastore, 1) := by decide +kernel
theorem dX13_rules_76 : decode cX13_rules 76 = .ok (.iinc 2 1, 3) := by decide +kernel
theorem dX13_rules_79 : decode cX13_rules 79 = .ok (.goto (-32), 3) := by decide +kernel
theorem dX13_rules_82 : decode cX13_rules 82 = .ok (.aload_n 0, 1) := by decide +kernel
theorem dX13_rules_83 : decode cX13_rules 83 = .ok (.getfield 35, 3) := by decide +kernel
theorem dX13_rules_86 : decode cX13_rules 86 = .ok (.aload_n 0, 1) := by decide +kernel
theorem dX13_rules_87 : decode cX13_rules 87 = .ok (.getfield 370, 3) := by decide +kernel
theorem dX13_rules_90 : decode cX13_rules 90 = .ok (.aload_n 0, 1) := by decide +kernel
theorem dX13_rules_91 : decode cX13_rules 91 = .ok (.getfield 259, 3) := by decide +kernel
theorem dX13_rules_94 : decode cX13_rules 94 = .ok (.iastore, 1) := by decide +kernel
theorem dX13_rules_95 : decode cX13_rules 95 = .ok (.aload_n 0, 1) := by decide +kernel
theorem dX13_rules_96 : decode cX13_rules 96 = .ok (.getfield 38, 3) := by decide +kernel
theorem dX13_rules_99 : decode cX13_rules 99 = .ok (.aload_n 0, 1) := by decide +kernel
theorem dX13_rules_100 : decode cX13_rules 100 = .ok (.getfield 370, 3) := by decide +kernel
theorem dX13_rules_103 : decode cX13_rules 103 = .ok (.iload_n 1, 1) := by decide +kernel
theorem dX13_rules_104 : decode cX13_rules 104 = .ok (.iastore, 1) := by decide +kernel
theorem dX13_rules_105 : decode cX13_rules 105 = .ok (.aload_n 0, 1) := by decide +kernel
theorem dX13_rules_106 : decode cX13_rules 106 = .ok (.getfield 41, 3) := by decide +kernel
theorem dX13_rules_109 : decode cX13_rules 109 = .ok (.aload_n 0, 1) := by decide +kernel
theorem dX13_rules_110 : decode cX13_rules 110 = .ok (.getfield 370, 3) := by decide +kernel
theorem dX13_rules_113 : decode cX13_rules 113 = .ok (.aload_n 0, 1) := by decide +kernel
theorem dX13_rules_114 : decode cX13_rules 114 = .ok (.getfield 232, 3) := by decide +kernel
theorem dX13_rules_117 : decode cX13_rules 117 = .ok (.iastore, 1) := by decide +kernel
theorem dX13_rules_118 : decode cX13_rules 118 = .ok (.aload_n 0, 1) := by decide +kernel
theorem dX13_rules_119 : decode cX13_rules 119 = .ok (.dup, 1) := by decide +kernel
theorem dX13_rules_120 : decode cX13_rules 120 = .ok (.getfield 370, 3) := by decide +kernel
theorem dX13_rules_123 : decode cX13_rules 123 = .ok (.iconst 1, 1) := by decide +kernel
theorem dX13_rules_124 : decode cX13_rules 124 = .ok (.iadd, 1) := by decide +kernel
theorem dX13_rules_125 : decode cX13_rules 125 = .ok (.putfield 370, 3) := by decide +kernel
theorem dX13_rules_128 : decode cX13_rules 128 = .ok (.aload_n 0, 1) := by decide +kernel
theorem dX13_rules_129 : decode cX13_rules 129 = .ok (.iconst 0, 1) := by decide +kernel
theorem dX13_rules_130 : decode cX13_rules 130 = .ok (.putfield 259, 3) := by decide +kernel
theorem dX13_rules_133 : decode cX13_rules 133 = .ok (.aload_n 0, 1) := by decide +kernel
theorem dX13_rules_134 : decode cX13_rules 134 = .ok (.getfield 370, 3) := by decide +kernel
theorem dX13_rules_137 : decode cX13_rules 137 = .ok (.iconst 1, 1) := by decide +kernel
theorem dX13_rules_138 : decode cX13_rules 138 = .ok (.isub, 1) := by decide +kernel
theorem dX13_rules_139 : decode cX13_rules 139 = .ok (.ireturn, 1) := by decide +kernel
theorem dX13_force_0 : decode cX13_force 0 = .ok (.aload_n 0, 1) := by decide +kernel
theorem dX13_force_1 : decode cX13_force 1 = .ok (.iconst 0, 1) := by decide +kernel
theorem dX13_force_2 : decode cX13_force 2 = .ok (.putfield 228, 3) := by decide +kernel
theorem dX13_force_5 : decode cX13_force 5 = .ok (.iload_n 1, 1) := by decide +kernel
theorem dX13_force_6 : decode cX13_force 6 = .ok (.invokestatic 249, 3) := by decide +kernel
theorem dX13_force_9 : decode cX13_force 9 = .ok (.ifCond .eq 20, 3) := by decide +kernel
theorem dX13_force_12 : decode cX13_force 12 = .ok (.aload_n 0, 1) := by decide +kernel
theorem dX13_force_13 : decode cX13_force 13 = .ok (.iload_n 2, 1) := by decide +kernel
theorem dX13_force_14 : decode cX13_force 14 = .ok (.invokevirtual 252, 3) := by decide +kernel
theorem dX13_force_17 : decode cX13_force 17 = .ok (.ifCond .eq 12, 3) := by decide +kernel
theorem dX13_force_20 : decode cX13_force 20 = .ok (.aload_n 0, 1) := by decide +kernel
theorem dX13_force_21 : decode cX13_force 21 = .ok (.iload_n 1, 1) := by decide +kernel
theorem dX13_force_22 : decode cX13_force 22 = .ok (.iload_n 2, 1) := by decide +kernel
theorem dX13_force_23 : decode cX13_force 23 = .ok (.invokevirtual 373, 3) := by decide +kernel
theorem dX13_force_26 : decode cX13_force 26 = .ok (.goto 4, 3) := by decide +kernel
theorem dX13_force_29 : decode cX13_force 29 = .ok (.iconst (-1), 1) := by decide +kernel
theorem dX13_force_30 : decode cX13_force 30 = .ok (.ireturn, 1) := by decide +kernel

def v_rulesOnMX : List Cond := .code yX13_rulesOn cX13_rulesOn 5 (some .int) :: vA
abbrev rm_rulesOnMX : Room := { frames := 0, cells := 0, slots := 0, locals := 0 }
set_option maxHeartbeats 4000000 in
set_option maxRecDepth 100000 in
theorem q_rulesOnMX (l : Launch) (dC : Nat → ClassId) (dI : Nat → Nat → Nat) (cT : Nat → ClassId) (ad : Nat → Nat) (E : Nat → va_E) (sz : Nat) (a0 : Int32) (a1 : Int32) (hI0 : IX cT shM spM 72 ad E)  : Met l yX13_rulesOn v_rulesOnMX rm_rulesOnMX (va_Pc [.ref (ad 0), .int a0, .int a1] (HW dC dI (TYM cT) 72 ad E sz)) (va_Qi (S := Unit) (fun r _ => (-1 ≤ r.toInt ∧ r.toInt ≤ 15) ∧ (r = cO (fun _ => 0) (xi (E 10)) (xi (E 11)) 0 a0 a1 (xi (E 0) 17).toNatClampNeg)) (fun _ _ => True) (fun _ => False)) 0 0 (fun _ => False) := by
  refine Met.ofW (cc := cX13_rulesOn) (maxL := 5) (ret := (some .int)) (by decide) rfl ?_
  intro p e s m args below meth c s₁ B hml hv
  obtain ⟨hargs, hsz, hP, hK, hD0, hEV⟩ := hv
  subst hsz
  have hx := B.exec
  have hb := B.bytes
  have hr := B.returns
  have hts := atoms_spec (ws := v_rulesOnMX) B.pre
  have hown : s.vm.findClass RX13 = some m.cls := findClass_of_methodNamed B.named
  have hlocks := B.notSynchronized
  have hinX13 : ∀ w ∈ u_ws RX13 TX13 97, w ∈ v_rulesOnMX := fun w h => vA_in _ w (in_X13 w h)
  have hS : va_S (fun _ : Nat => False) s.heap s.heap [] := va_S.rf
  have hD := hD0
  have hI := hI0
  have hKp : Kp (wl [] []) E E := Kp.rf
  have hl := lv_entry ([.ref (ad 0), .int a0, .int a1]) (n := 5) (Nat.le_of_ble_eq_true rfl)
  obtain ⟨Q, hQ⟩ : ∃ Q, Q = MQ below (va_Qi (S := Unit) (fun r _ => (-1 ≤ r.toInt ∧ r.toInt ≤ 15) ∧ (r = cO (fun _ => 0) (xi (E 10)) (xi (E 11)) 0 a0 a1 (xi (E 0) 17).toNatClampNeg)) (fun _ _ => True) (fun _ => False)) args s 0 0 (fun _ => False) := ⟨_, rfl⟩
  rw [← hQ, show entryFrame m args 5 = _ from (congrArg (fun z => entryFrame m z 5) hargs).trans (lg_entry_eq _ _ _)]
  generalize (lg_sl ([.ref (ad 0), .int a0, .int a1]) ++ List.replicate (5 - (lg_sl ([.ref (ad 0), .int a0, .int a1])).length) Slot.unset).toArray = ls at hl ⊢
  have hl : lv_has ls 5 [(0, .ref (ad 0)), (1, .int a0), (2, .int a1)] := hl
  refine lv_iconst (v := -1) hx hb dX13_rulesOn_0 (by decide) ?_
  refine lv_istore_n (lv' := [(3, .int (-1)), (0, .ref (ad 0)), (1, .int a0), (2, .int a1)]) hx hb dX13_rulesOn_1 rfl hl (by decide) rfl (fun ls hl => ?_)
  refine lv_iconst (v := 0) hx hb dX13_rulesOn_2 (by decide) ?_
  refine lv_istore (lv' := [(4, .int 0), (3, .int (-1)), (0, .ref (ad 0)), (1, .int a0), (2, .int a1)]) hx hb dX13_rulesOn_3 hl (by decide) rfl (fun ls hl => ?_)
  have hL5 : ∀ d : Nat, ∀ (v5_4 : Int32) (v5_3 : Int32) (H : Heap) (locs : List Loc) (ls : Array Slot), 0 ≤ v5_4.toInt ∧ v5_4.toInt ≤ 16 → -1 ≤ v5_3.toInt ∧ v5_3.toInt ≤ 15 → v5_3 = cO (fun _ => 0) (xi (E 10)) (xi (E 11)) 0 a0 a1 v5_4.toNatClampNeg → v5_4.toInt ≤ (xi (E 0) 17).toInt → 16 - v5_4.toInt < (d : Int) → va_P (dC, dI) vwCl (WX 72 ad E) H → va_S (fun _ : Nat => False) s.heap H locs → lv_has ls 5 [(4, .int v5_4), (3, .int v5_3), (0, .ref (ad 0)), (1, .int a0), (2, .int a1)] → W p l e (headSpec v_rulesOnMX rm_rulesOnMX).room s m args below meth c H locs 0 0 Q (F0 m 5 ls []) := by
    intro d
    induction d with
    | zero =>
      intro v5_4 v5_3 H locs ls hv5_4 hv5_3 hx5_0 hx5_1 hx5_2 hP hS hl
      exact absurd hx5_2 (by omega)
    | succ d ih5 =>
      intro v5_4 v5_3 H locs ls hv5_4 hv5_3 hx5_0 hx5_1 hx5_2 hP hS hl
      refine lv_iload hx hb dX13_rulesOn_5 (lv_at hl 0 rfl) ?_
      refine lv_aload_n hx hb dX13_rulesOn_7 rfl (lv_at hl 2 rfl) ?_
      have i1 : 0 ≤ (xi (E 0) 17).toInt ∧ (xi (E 0) 17).toInt ≤ 16 := hI0.iv 0 (Nat.le_of_ble_eq_true rfl) rfl (Nat.le_of_ble_eq_true rfl) rfl
      refine th_get (ci := 14) (C := RX13) (T := TX13) (N := 97) (v := .int (xi (E 0) 17)) hx hb hts hinX13 hown hK hP hI 0 (Nat.le_of_ble_eq_true rfl) rfl rfl 17 (Nat.le_of_ble_eq_true rfl) (hts _ (vA_in _ _ (in_29 _ (List.mem_of_getElem? (i := 5) rfl)))) (fun _ h9 => h9) (th_v0 hKp hI0 0 (Nat.le_of_ble_eq_true rfl) rfl (Nat.le_of_ble_eq_true rfl) rfl rfl) dX13_rulesOn_8 ?_
      refine lv_icmp_ge (tgt := 66) hx hb dX13_rulesOn_11 (by decide) (fun c2 => ?_) (fun c2 => ?_)
      · --11 taken
        have t3 : (xi (E 0) 17).toInt ≤ v5_4.toInt := ti_le c2
        refine lv_iload_n hx hb dX13_rulesOn_66 rfl (lv_at hl 1 rfl) ?_
        rw [hQ]
        exact W.iret (v := v5_3) hx hb hr (fun t ht hW => ⟨⟨v5_3, (), rfl, ⟨hv5_3, by have h9 := hx5_0; rw [tn_ge (x := v5_4) (y := xi (E 0) 17) (by omega) (by omega)] at h9; exact h9⟩, trivial⟩, hS.F ht⟩) hS.2.2 dX13_rulesOn_67
      · --11 not
        have t4 : v5_4.toInt < (xi (E 0) 17).toInt := ti_nle c2
        have i5 : 0 ≤ v5_4.toInt ∧ v5_4.toInt ≤ 15 := iv_lt_l t4 hv5_4 i1 (by decide)
        have i6 : 1 ≤ (xi (E 0) 17).toInt ∧ (xi (E 0) 17).toInt ≤ 16 := iv_lt_r t4 hv5_4 i1 (by decide)
        refine lv_aload_n hx hb dX13_rulesOn_14 rfl (lv_at hl 2 rfl) ?_
        refine th_get (ci := 14) (C := RX13) (T := TX13) (N := 97) (v := .ref (ad 11)) hx hb hts hinX13 hown hK hP hI 0 (Nat.le_of_ble_eq_true rfl) rfl rfl 14 (Nat.le_of_ble_eq_true rfl) (hts _ (vA_in _ _ (in_29 _ (List.mem_of_getElem? (i := 6) rfl)))) (fun _ h9 => h9) (hI.fr 0 (Nat.le_of_ble_eq_true rfl) rfl (Nat.le_of_ble_eq_true rfl) 11 rfl) dX13_rulesOn_15 ?_
        refine lv_iload hx hb dX13_rulesOn_18 (lv_at hl 0 rfl) ?_
        have n8 : vp_in v5_4 16 := (iv_in (n := 16) i5 (by decide))
        refine th_iald hx hb hK hP hI 11 (Nat.le_of_ble_eq_true rfl) rfl rfl n8 dX13_rulesOn_20 (fun y7 ey7 => ?_)
        have iy7 : 0 ≤ y7.toInt ∧ y7.toInt ≤ 400 := hI.el 11 (Nat.le_of_ble_eq_true rfl) rfl n8 (fun _ => rfl) ey7
        have ey7 := ey7.trans (hKp.ei 11 _ rfl)
        refine lv_iload_n hx hb dX13_rulesOn_21 rfl (lv_at hl 4 rfl) ?_
        refine lv_icmp_gt (tgt := 60) hx hb dX13_rulesOn_22 (by decide) (fun c9 => ?_) (fun c9 => ?_)
        · --22 taken
          have t10 : a1.toInt < y7.toInt := ti_lt c9
          have i11 : -2147483648 ≤ a1.toInt ∧ a1.toInt ≤ 399 := iv_lt_l t10 (iv_all _) iy7 (by decide)
          obtain ⟨y12, ey12⟩ : ∃ y : Int32, y = v5_4 + (1 : Int32) := ⟨_, rfl⟩
          obtain ⟨ty12, iy12⟩ := ti_add (e := 1) (f := 16) i5 ln_1 ey12 (by decide)
          have ty12 : y12.toInt = v5_4.toInt + 1 := ty12
          have iy12 : 1 ≤ y12.toInt ∧ y12.toInt ≤ 16 := iy12
          refine lv_iinc (v := y12) (lv' := [(4, .int y12), (3, .int v5_3), (0, .ref (ad 0)), (1, .int a0), (2, .int a1)]) hx hb dX13_rulesOn_60 hl (k := 0) rfl (by rw [ey12]; rfl) (by decide) rfl (fun ls hl => ?_)
          refine lv_goto (tgt := 5) hx hb dX13_rulesOn_63 (by decide) ?_
          exact ih5 y12 v5_3 _ _ _ (iv_w iy12 (by decide)) hv5_3 (cO_skip (gB := fun _ => 0) (gF := xi (E 10)) (gT := xi (E 11)) hx5_0 ty12 hv5_4 (by decide) (fun hh => ub_nle c9 (by rw [ey7]; exact hh.2.1))) (by have h9 := iy12; have h8 := i6; omega) (by omega) hP hS (lv_sub hl [0, 1, 2, 3, 4] rfl)
        · --22 not
          have t13 : y7.toInt ≤ a1.toInt := ti_nlt c9
          have i14 : 0 ≤ a1.toInt ∧ a1.toInt ≤ 2147483647 := iv_le_r t13 iy7 (iv_all _) (by decide)
          refine lv_aload_n hx hb dX13_rulesOn_25 rfl (lv_at hl 2 rfl) ?_
          refine th_get (ci := 14) (C := RX13) (T := TX13) (N := 97) (v := .ref (ad 10)) hx hb hts hinX13 hown hK hP hI 0 (Nat.le_of_ble_eq_true rfl) rfl rfl 13 (Nat.le_of_ble_eq_true rfl) (hts _ (vA_in _ _ (in_29 _ (List.mem_of_getElem? (i := 7) rfl)))) (fun _ h9 => h9) (hI.fr 0 (Nat.le_of_ble_eq_true rfl) rfl (Nat.le_of_ble_eq_true rfl) 10 rfl) dX13_rulesOn_26 ?_
          refine lv_iload hx hb dX13_rulesOn_29 (lv_at hl 0 rfl) ?_
          have n16 : vp_in v5_4 16 := (iv_in (n := 16) i5 (by decide))
          refine th_iald hx hb hK hP hI 10 (Nat.le_of_ble_eq_true rfl) rfl rfl n16 dX13_rulesOn_31 (fun y15 ey15 => ?_)
          have iy15 : 0 ≤ y15.toInt ∧ y15.toInt ≤ 400 := hI.el 10 (Nat.le_of_ble_eq_true rfl) rfl n16 (fun _ => rfl) ey15
          have ey15 := ey15.trans (hKp.ei 10 _ rfl)
          refine lv_iload_n hx hb dX13_rulesOn_32 rfl (lv_at hl 3 rfl) ?_
          refine lv_icmp_gt (tgt := 60) hx hb dX13_rulesOn_33 (by decide) (fun c17 => ?_) (fun c17 => ?_)
          · --33 taken
            have t18 : a0.toInt < y15.toInt := ti_lt c17
            have i19 : -2147483648 ≤ a0.toInt ∧ a0.toInt ≤ 399 := iv_lt_l t18 (iv_all _) iy15 (by decide)
            obtain ⟨y20, ey20⟩ : ∃ y : Int32, y = v5_4 + (1 : Int32) := ⟨_, rfl⟩
            obtain ⟨ty20, iy20⟩ := ti_add (e := 1) (f := 16) i5 ln_1 ey20 (by decide)
            have ty20 : y20.toInt = v5_4.toInt + 1 := ty20
            have iy20 : 1 ≤ y20.toInt ∧ y20.toInt ≤ 16 := iy20
            refine lv_iinc (v := y20) (lv' := [(4, .int y20), (3, .int v5_3), (0, .ref (ad 0)), (1, .int a0), (2, .int a1)]) hx hb dX13_rulesOn_60 hl (k := 0) rfl (by rw [ey20]; rfl) (by decide) rfl (fun ls hl => ?_)
            refine lv_goto (tgt := 5) hx hb dX13_rulesOn_63 (by decide) ?_
            exact ih5 y20 v5_3 _ _ _ (iv_w iy20 (by decide)) hv5_3 (cO_skip (gB := fun _ => 0) (gF := xi (E 10)) (gT := xi (E 11)) hx5_0 ty20 hv5_4 (by decide) (fun hh => ub_nle c17 (by rw [ey15]; exact hh.2.2.1))) (by have h9 := iy20; have h8 := i6; omega) (by omega) hP hS (lv_sub hl [0, 1, 2, 3, 4] rfl)
          · --33 not
            have t21 : y15.toInt ≤ a0.toInt := ti_nlt c17
            have i22 : 0 ≤ a0.toInt ∧ a0.toInt ≤ 2147483647 := iv_le_r t21 iy15 (iv_all _) (by decide)
            refine lv_iload_n hx hb dX13_rulesOn_36 rfl (lv_at hl 1 rfl) ?_
            refine lv_iconst (v := -1) hx hb dX13_rulesOn_37 (by decide) ?_
            refine lv_icmp_eq (tgt := 57) hx hb dX13_rulesOn_38 (by decide) (fun c23 => ?_) (fun c23 => ?_)
            · --38 taken
              have t24 : v5_3.toInt = -1 := ti_eq c23
              have i25 : -1 ≤ v5_3.toInt ∧ v5_3.toInt ≤ -1 := iv_eqi t24 hv5_3 (il_ (-1)) (by decide)
              refine lv_iload hx hb dX13_rulesOn_57 (lv_at hl 0 rfl) ?_
              refine lv_istore_n (lv' := [(3, .int v5_4), (4, .int v5_4), (0, .ref (ad 0)), (1, .int a0), (2, .int a1)]) hx hb dX13_rulesOn_59 rfl hl (by decide) rfl (fun ls hl => ?_)
              obtain ⟨y26, ey26⟩ : ∃ y : Int32, y = v5_4 + (1 : Int32) := ⟨_, rfl⟩
              obtain ⟨ty26, iy26⟩ := ti_add (e := 1) (f := 16) i5 ln_1 ey26 (by decide)
              have ty26 : y26.toInt = v5_4.toInt + 1 := ty26
              have iy26 : 1 ≤ y26.toInt ∧ y26.toInt ≤ 16 := iy26
              refine lv_iinc (v := y26) (lv' := [(4, .int y26), (3, .int v5_4), (0, .ref (ad 0)), (1, .int a0), (2, .int a1)]) hx hb dX13_rulesOn_60 hl (k := 1) rfl (by rw [ey26]; rfl) (by decide) rfl (fun ls hl => ?_)
              refine lv_goto (tgt := 5) hx hb dX13_rulesOn_63 (by decide) ?_
              exact ih5 y26 v5_4 _ _ _ (iv_w iy26 (by decide)) (iv_w i5 (by decide)) (cO_take (gB := fun _ => 0) (gF := xi (E 10)) (gT := xi (E 11)) hx5_0 ty26 hv5_4 (by decide) ⟨rfl, (by rw [← ey7]; exact ub_le c9), (by rw [← ey15]; exact ub_le c17), Or.inl c23⟩) (by have h9 := iy26; have h8 := i6; omega) (by omega) hP hS (lv_sub hl [0, 1, 2, 3, 4] rfl)
            · --38 not
              have t27 : ¬ v5_3.toInt = -1 := ti_ne c23
              have i28 : 0 ≤ v5_3.toInt ∧ v5_3.toInt ≤ 15 := iv_ne_l t27 hv5_3 (il_ (-1))
              refine lv_aload_n hx hb dX13_rulesOn_41 rfl (lv_at hl 2 rfl) ?_
              refine th_get (ci := 14) (C := RX13) (T := TX13) (N := 97) (v := .ref (ad 10)) hx hb hts hinX13 hown hK hP hI 0 (Nat.le_of_ble_eq_true rfl) rfl rfl 13 (Nat.le_of_ble_eq_true rfl) (hts _ (vA_in _ _ (in_29 _ (List.mem_of_getElem? (i := 7) rfl)))) (fun _ h9 => h9) (hI.fr 0 (Nat.le_of_ble_eq_true rfl) rfl (Nat.le_of_ble_eq_true rfl) 10 rfl) dX13_rulesOn_42 ?_
              refine lv_iload hx hb dX13_rulesOn_45 (lv_at hl 0 rfl) ?_
              have n30 : vp_in v5_4 16 := (iv_in (n := 16) i5 (by decide))
              refine th_iald hx hb hK hP hI 10 (Nat.le_of_ble_eq_true rfl) rfl rfl n30 dX13_rulesOn_47 (fun y29 ey29 => ?_)
              have iy29 : 0 ≤ y29.toInt ∧ y29.toInt ≤ 400 := hI.el 10 (Nat.le_of_ble_eq_true rfl) rfl n30 (fun _ => rfl) ey29
              have ey29 := ey29.trans (hKp.ei 10 _ rfl)
              refine lv_aload_n hx hb dX13_rulesOn_48 rfl (lv_at hl 2 rfl) ?_
              refine th_get (ci := 14) (C := RX13) (T := TX13) (N := 97) (v := .ref (ad 10)) hx hb hts hinX13 hown hK hP hI 0 (Nat.le_of_ble_eq_true rfl) rfl rfl 13 (Nat.le_of_ble_eq_true rfl) (hts _ (vA_in _ _ (in_29 _ (List.mem_of_getElem? (i := 7) rfl)))) (fun _ h9 => h9) (hI.fr 0 (Nat.le_of_ble_eq_true rfl) rfl (Nat.le_of_ble_eq_true rfl) 10 rfl) dX13_rulesOn_49 ?_
              refine lv_iload_n hx hb dX13_rulesOn_52 rfl (lv_at hl 1 rfl) ?_
              have n32 : vp_in v5_3 16 := (iv_in (n := 16) i28 (by decide))
              refine th_iald hx hb hK hP hI 10 (Nat.le_of_ble_eq_true rfl) rfl rfl n32 dX13_rulesOn_53 (fun y31 ey31 => ?_)
              have iy31 : 0 ≤ y31.toInt ∧ y31.toInt ≤ 400 := hI.el 10 (Nat.le_of_ble_eq_true rfl) rfl n32 (fun _ => rfl) ey31
              have ey31 := ey31.trans (hKp.ei 10 _ rfl)
              refine lv_icmp_lt (tgt := 60) hx hb dX13_rulesOn_54 (by decide) (fun c33 => ?_) (fun c33 => ?_)
              · --54 taken
                have t34 : y29.toInt < y31.toInt := ti_lt c33
                have i35 : 0 ≤ y29.toInt ∧ y29.toInt ≤ 399 := iv_lt_l t34 iy29 iy31 (by decide)
                have i36 : 1 ≤ y31.toInt ∧ y31.toInt ≤ 400 := iv_lt_r t34 iy29 iy31 (by decide)
                obtain ⟨y37, ey37⟩ : ∃ y : Int32, y = v5_4 + (1 : Int32) := ⟨_, rfl⟩
                obtain ⟨ty37, iy37⟩ := ti_add (e := 1) (f := 16) i5 ln_1 ey37 (by decide)
                have ty37 : y37.toInt = v5_4.toInt + 1 := ty37
                have iy37 : 1 ≤ y37.toInt ∧ y37.toInt ≤ 16 := iy37
                refine lv_iinc (v := y37) (lv' := [(4, .int y37), (3, .int v5_3), (0, .ref (ad 0)), (1, .int a0), (2, .int a1)]) hx hb dX13_rulesOn_60 hl (k := 0) rfl (by rw [ey37]; rfl) (by decide) rfl (fun ls hl => ?_)
                refine lv_goto (tgt := 5) hx hb dX13_rulesOn_63 (by decide) ?_
                exact ih5 y37 v5_3 _ _ _ (iv_w iy37 (by decide)) (iv_w i28 (by decide)) (cO_skip (gB := fun _ => 0) (gF := xi (E 10)) (gT := xi (E 11)) hx5_0 ty37 hv5_4 (by decide) (fun hh => hh.2.2.2.elim (fun h9 => c23 h9) (fun h9 => ub_nle c33 (by rw [ey31, ey29]; exact h9)))) (by have h9 := iy37; have h8 := i6; omega) (by omega) hP hS (lv_sub hl [0, 1, 2, 3, 4] rfl)
              · --54 not
                have t38 : y31.toInt ≤ y29.toInt := ti_nlt c33
                refine lv_iload hx hb dX13_rulesOn_57 (lv_at hl 0 rfl) ?_
                refine lv_istore_n (lv' := [(3, .int v5_4), (4, .int v5_4), (0, .ref (ad 0)), (1, .int a0), (2, .int a1)]) hx hb dX13_rulesOn_59 rfl hl (by decide) rfl (fun ls hl => ?_)
                obtain ⟨y39, ey39⟩ : ∃ y : Int32, y = v5_4 + (1 : Int32) := ⟨_, rfl⟩
                obtain ⟨ty39, iy39⟩ := ti_add (e := 1) (f := 16) i5 ln_1 ey39 (by decide)
                have ty39 : y39.toInt = v5_4.toInt + 1 := ty39
                have iy39 : 1 ≤ y39.toInt ∧ y39.toInt ≤ 16 := iy39
                refine lv_iinc (v := y39) (lv' := [(4, .int y39), (3, .int v5_4), (0, .ref (ad 0)), (1, .int a0), (2, .int a1)]) hx hb dX13_rulesOn_60 hl (k := 1) rfl (by rw [ey39]; rfl) (by decide) rfl (fun ls hl => ?_)
                refine lv_goto (tgt := 5) hx hb dX13_rulesOn_63 (by decide) ?_
                exact ih5 y39 v5_4 _ _ _ (iv_w iy39 (by decide)) (iv_w i5 (by decide)) (cO_take (gB := fun _ => 0) (gF := xi (E 10)) (gT := xi (E 11)) hx5_0 ty39 hv5_4 (by decide) ⟨rfl, (by rw [← ey7]; exact ub_le c9), (by rw [← ey15]; exact ub_le c17), Or.inr (by rw [← ey31, ← ey29]; exact ub_le c33)⟩) (by have h9 := iy39; have h8 := i6; omega) (by omega) hP hS (lv_sub hl [0, 1, 2, 3, 4] rfl)
  exact hL5 (17) (0 : Int32) (-1 : Int32) _ _ _ (iv_w ln_0 (by decide)) (iv_w ln_m1 (by decide)) rfl (by have h9 := ln_0; have h8 := (show 0 ≤ (xi (E 0) 17).toInt ∧ (xi (E 0) 17).toInt ≤ 16 from hI0.iv 0 (Nat.le_of_ble_eq_true rfl) rfl (Nat.le_of_ble_eq_true rfl) rfl); omega) (by have h9 := ln_0; omega) hP hS (lv_sub hl [0, 1, 2, 3, 4] rfl)
def v_forceX : List Cond := .code yX13_force cX13_force 3 (some .int) :: vA
abbrev rm_forceX : Room := { frames := 2, cells := 0, slots := 0, locals := 80 }
def w_forceX : Nat → Nat → Bool := wl [] [(0, 0)]
set_option maxHeartbeats 4000000 in
set_option maxRecDepth 100000 in
theorem q_forceX (l : Launch) (dC : Nat → ClassId) (dI : Nat → Nat → Nat) (cT : Nat → ClassId) (ad : Nat → Nat) (E : Nat → va_E) (sz : Nat) (a0 : Int32) (a1 : Int32) (hI0 : IX cT shM spM 72 ad E)  : Met l yX13_force v_forceX rm_forceX (va_Pc [.ref (ad 0), .int a0, .int a1] (HW dC dI (TYM cT) 72 ad E sz)) (va_Qi (S := Nat → va_E) (fun r u => IX cT shM spM 72 ad u ∧ Kp w_forceX E u ∧ ((((((0 ≤ a0.toInt ∧ a0.toInt ≤ 400) ∧ (0 ≤ a1.toInt ∧ a1.toInt ≤ (xi (E 0) 1).toInt)) → (r.toInt = (cO (fun _ => 0) (xi (E 10)) (xi (E 11)) 0 a0 a1 (xi (E 0) 17).toNatClampNeg).toInt)) ∧ (¬ ((0 ≤ a0.toInt ∧ a0.toInt ≤ 400) ∧ (0 ≤ a1.toInt ∧ a1.toInt ≤ (xi (E 0) 1).toInt)) → (r.toInt = -1)))))) (HB dC dI 72 ad) (va_A (WX 72 ad E) sz)) 0 0 (va_A (WX 72 ad E) sz) := by
  refine Met.ofW (cc := cX13_force) (maxL := 3) (ret := (some .int)) (by decide) rfl ?_
  intro p e s m args below meth c s₁ B hml hv
  obtain ⟨hargs, hsz, hP, hK, hD0, hEV⟩ := hv
  subst hsz
  have hx := B.exec
  have hb := B.bytes
  have hr := B.returns
  have hts := atoms_spec (ws := v_forceX) B.pre
  have hown : s.vm.findClass RX13 = some m.cls := findClass_of_methodNamed B.named
  have hlocks := B.notSynchronized
  have hinX13 : ∀ w ∈ u_ws RX13 TX13 97, w ∈ v_forceX := fun w h => vA_in _ w (in_X13 w h)
  generalize hAe : va_A (WX 72 ad E) s.heap.size = A at hEV ⊢
  have hA : ∀ q : Nat, s.heap.size ≤ q → A q := fun q h => by rw [← hAe]; exact Or.inr h
  have hD : va_D A (WX 72 ad E) := by rw [← hAe]; exact hD0.self
  have hS : va_S A s.heap s.heap [] := va_S.rf
  have hI := hI0
  have hKp : Kp w_forceX E E := Kp.rf
  have hl := lv_entry ([.ref (ad 0), .int a0, .int a1]) (n := 3) (Nat.le_of_ble_eq_true rfl)
  obtain ⟨Q, hQ⟩ : ∃ Q, Q = MQ below (va_Qi (S := Nat → va_E) (fun r u => IX cT shM spM 72 ad u ∧ Kp w_forceX E u ∧ ((((((0 ≤ a0.toInt ∧ a0.toInt ≤ 400) ∧ (0 ≤ a1.toInt ∧ a1.toInt ≤ (xi (E 0) 1).toInt)) → (r.toInt = (cO (fun _ => 0) (xi (E 10)) (xi (E 11)) 0 a0 a1 (xi (E 0) 17).toNatClampNeg).toInt)) ∧ (¬ ((0 ≤ a0.toInt ∧ a0.toInt ≤ 400) ∧ (0 ≤ a1.toInt ∧ a1.toInt ≤ (xi (E 0) 1).toInt)) → (r.toInt = -1)))))) (HB dC dI 72 ad) (A)) args s 0 0 (A) := ⟨_, rfl⟩
  rw [← hQ, show entryFrame m args 3 = _ from (congrArg (fun z => entryFrame m z 3) hargs).trans (lg_entry_eq _ _ _)]
  generalize (lg_sl ([.ref (ad 0), .int a0, .int a1]) ++ List.replicate (3 - (lg_sl ([.ref (ad 0), .int a0, .int a1])).length) Slot.unset).toArray = ls at hl ⊢
  have hl : lv_has ls 3 [(0, .ref (ad 0)), (1, .int a0), (2, .int a1)] := hl
  refine lv_aload_n hx hb dX13_force_0 rfl (lv_at hl 0 rfl) ?_
  refine lv_iconst (v := 0) hx hb dX13_force_1 (by decide) ?_
  refine th_put (ci := 14) (C := RX13) (T := TX13) (N := 97) (v := .int 0) (ty := .int) hx hb hts hinX13 tyX13 tyX13_ok nmX13 hown hK hP (WX_D hD) hS hI 0 (Nat.le_of_ble_eq_true rfl) rfl rfl 0 (Nat.le_of_ble_eq_true rfl) (hts _ (vA_in _ _ (in_24 _ (List.mem_of_getElem? (i := 10) rfl)))) (fun _ h9 => h9) rfl (by decide +kernel) rfl rfl (okI rfl (iv_w ln_0 (by decide))) dX13_force_2 (fun H locs E1 pw2 hI hP hS => ?_)
  have hKp := hKp.pw pw2 rfl
  refine lv_iload_n hx hb dX13_force_5 rfl (lv_at hl 1 rfl) ?_
  refine th_pi (va_runS (As := [.int a0]) (rest := []) ⟨hx, hb, hml, hown, hts⟩ (q_isDay l a0) (va_cwS 1 hts (gi_S (in_27 _ (List.mem_of_getElem? (i := 17) rfl)) (in_27 _ (List.mem_of_getElem? (i := 18) rfl)) (in_24 _ (List.mem_of_getElem? (i := 15) rfl)) (in_27 _ (List.mem_of_getElem? (i := 19) rfl))) rfl rfl rfl (by decide +kernel) ⟨Nat.le_of_ble_eq_true rfl, Nat.le_of_ble_eq_true rfl⟩) ⟨fun _ _ _ _ q => q, fun _ _ _ => ⟨rfl, trivial⟩⟩ rfl rfl hl.1 rfl (lv_room (Nat.le_of_ble_eq_true rfl)) dX13_force_6 ⟨Nat.le_of_ble_eq_true rfl, Nat.le_of_ble_eq_true rfl⟩) hS (fun r3 H1 locs1 hw hk1 hS => ?_)
  have hP := ub_keep hP hk1
  generalize H1 = H at hP hS ⊢
  generalize locs1 = locs at hS ⊢
  rcases hw with hw | hw
  · -- isDay, case 0
    obtain ⟨rfl, f4⟩ := hw
    have t5 : (0 : Int) ≤ a0.toInt := f4.1
    have t6 : a0.toInt ≤ 400 := f4.2
    have i7 : 0 ≤ a0.toInt ∧ a0.toInt ≤ 2147483647 := iv_le_r t5 (il_ 0) (iv_all _) (by decide)
    have i8 : 0 ≤ a0.toInt ∧ a0.toInt ≤ 400 := iv_le_l t6 i7 (il_ 400) (by decide)
    refine lv_if_eq (tgt := 29) hx hb dX13_force_9 (by decide) (fun c9 => ?_) (fun c9 => ?_)
    · --9 taken
      exact absurd c9 (by decide)
    · --9 not
      refine lv_aload_n hx hb dX13_force_12 rfl (lv_at hl 0 rfl) ?_
      refine lv_iload_n hx hb dX13_force_13 rfl (lv_at hl 2 rfl) ?_
      refine th_ri (va_runV (As := [.int a1]) (rest := []) ⟨hx, hb, hml, hown, hts⟩ (q_isKnown l dC dI cT ad E1 H.size a1 hI) (cwV 1 hts (gi_V (in_24 _ (List.mem_of_getElem? (i := 23) rfl)) (in_24 _ (List.mem_of_getElem? (i := 24) rfl)) (in_24 _ (List.mem_of_getElem? (i := 25) rfl)) (in_24 _ (List.mem_of_getElem? (i := 15) rfl)) (in_24 _ (List.mem_of_getElem? (i := 26) rfl))) rfl rfl rfl (by decide +kernel) ⟨Nat.le_of_ble_eq_true rfl, Nat.le_of_ble_eq_true rfl⟩) ⟨HW_bl, va_recv hK hP (ci := 14) (q0 := 0) rfl (hI.ob 0 (Nat.le_of_ble_eq_true rfl) rfl), (HW_wi hP hK (WX_D hD) hS hA hEV)⟩ rfl rfl hl.1 rfl (lv_room (Nat.le_of_ble_eq_true rfl)) dX13_force_14 ⟨Nat.le_of_ble_eq_true rfl, Nat.le_of_ble_eq_true rfl⟩) hS hP (fun r10 H locs hw hP hS => ?_)
      rcases hw with hw | hw
      · -- isKnown, case 0
        obtain ⟨rfl, f11⟩ := hw
        have i12 : 0 ≤ (xi (E 0) 1).toInt ∧ (xi (E 0) 1).toInt ≤ 400 := (show 0 ≤ (xi (E 0) 1).toInt ∧ (xi (E 0) 1).toInt ≤ 400 from hI0.iv 0 (Nat.le_of_ble_eq_true rfl) rfl (Nat.le_of_ble_eq_true rfl) rfl)
        try rw [hKp.ei 0 1 rfl] at f11
        have t13 : (0 : Int) ≤ a1.toInt := f11.1
        have t14 : a1.toInt ≤ (xi (E 0) 1).toInt := f11.2
        have i15 : 0 ≤ a1.toInt ∧ a1.toInt ≤ 2147483647 := iv_le_r t13 (il_ 0) (iv_all _) (by decide)
        have i16 : 0 ≤ a1.toInt ∧ a1.toInt ≤ 400 := iv_le_l t14 i15 i12 (by decide)
        refine lv_if_eq (tgt := 29) hx hb dX13_force_17 (by decide) (fun c17 => ?_) (fun c17 => ?_)
        · --17 taken
          exact absurd c17 (by decide)
        · --17 not
          refine lv_aload_n hx hb dX13_force_20 rfl (lv_at hl 0 rfl) ?_
          refine lv_iload_n hx hb dX13_force_21 rfl (lv_at hl 1 rfl) ?_
          refine lv_iload_n hx hb dX13_force_22 rfl (lv_at hl 2 rfl) ?_
          refine th_ri (va_runV (As := [.int a0, .int a1]) (rest := []) ⟨hx, hb, hml, hown, hts⟩ (q_rulesOnMX l dC dI cT ad E1 H.size a0 a1 hI) (cwV 2 hts (gi_V (in_29 _ (List.mem_of_getElem? (i := 1) rfl)) (in_29 _ (List.mem_of_getElem? (i := 2) rfl)) (in_29 _ (List.mem_of_getElem? (i := 3) rfl)) (in_24 _ (List.mem_of_getElem? (i := 15) rfl)) (in_29 _ (List.mem_of_getElem? (i := 4) rfl))) rfl rfl rfl (by decide +kernel) ⟨Nat.le_of_ble_eq_true rfl, Nat.le_of_ble_eq_true rfl⟩) ⟨HW_bl, va_recv hK hP (ci := 14) (q0 := 0) rfl (hI.ob 0 (Nat.le_of_ble_eq_true rfl) rfl), (HW_wi hP hK (WX_D hD) hS hA hEV)⟩ rfl rfl hl.1 rfl (lv_room (Nat.le_of_ble_eq_true rfl)) dX13_force_23 ⟨Nat.le_of_ble_eq_true rfl, Nat.le_of_ble_eq_true rfl⟩) hS hP (fun r18 H locs hw hP hS => ?_)
          obtain ⟨f19, f20⟩ := hw
          have i21 : 0 ≤ (xi (E 0) 17).toInt ∧ (xi (E 0) 17).toInt ≤ 16 := (show 0 ≤ (xi (E 0) 17).toInt ∧ (xi (E 0) 17).toInt ≤ 16 from hI0.iv 0 (Nat.le_of_ble_eq_true rfl) rfl (Nat.le_of_ble_eq_true rfl) rfl)
          try rw [hKp.ei 0 17 rfl] at f20
          try rw [hKp.ef 10 (fun _ => rfl)] at f20
          try rw [hKp.ef 11 (fun _ => rfl)] at f20
          refine lv_goto (tgt := 30) hx hb dX13_force_26 (by decide) ?_
          rw [hQ]
          exact W.iret (v := r18) hx hb hr (fun t ht hW => ⟨⟨r18, E1, rfl, ⟨hI, hKp, (by have h9 := congrArg Int32.toInt f20; all_goals omega)⟩, by show va_P (dC, dI) vwCl (WX 72 ad E1) t.heap; rw [ht]; exact hP⟩, hS.F ht⟩) hS.2.2 dX13_force_30
      · -- isKnown, case 1
        obtain ⟨rfl, f22⟩ := hw
        have i23 : 0 ≤ (xi (E 0) 1).toInt ∧ (xi (E 0) 1).toInt ≤ 400 := (show 0 ≤ (xi (E 0) 1).toInt ∧ (xi (E 0) 1).toInt ≤ 400 from hI0.iv 0 (Nat.le_of_ble_eq_true rfl) rfl (Nat.le_of_ble_eq_true rfl) rfl)
        try rw [hKp.ei 0 1 rfl] at f22
        have t24 : ¬ ((0 : Int) ≤ a1.toInt ∧ a1.toInt ≤ (xi (E 0) 1).toInt) := f22
        refine lv_if_eq (tgt := 29) hx hb dX13_force_17 (by decide) (fun c25 => ?_) (fun c25 => ?_)
        · --17 taken
          refine lv_iconst (v := -1) hx hb dX13_force_29 (by decide) ?_
          rw [hQ]
          exact W.iret (v := (-1)) hx hb hr (fun t ht hW => ⟨⟨(-1), E1, rfl, ⟨hI, hKp, (by have h8 := ln_m1; all_goals omega)⟩, by show va_P (dC, dI) vwCl (WX 72 ad E1) t.heap; rw [ht]; exact hP⟩, hS.F ht⟩) hS.2.2 dX13_force_30
        · --17 not
          exact absurd c25 (by decide)
  · -- isDay, case 1
    obtain ⟨rfl, f26⟩ := hw
    have t27 : ¬ ((0 : Int) ≤ a0.toInt ∧ a0.toInt ≤ 400) := f26
    refine lv_if_eq (tgt := 29) hx hb dX13_force_9 (by decide) (fun c28 => ?_) (fun c28 => ?_)
    · --9 taken
      refine lv_iconst (v := -1) hx hb dX13_force_29 (by decide) ?_
      rw [hQ]
      exact W.iret (v := (-1)) hx hb hr (fun t ht hW => ⟨⟨(-1), E1, rfl, ⟨hI, hKp, (by have h8 := ln_m1; all_goals omega)⟩, by show va_P (dC, dI) vwCl (WX 72 ad E1) t.heap; rw [ht]; exact hP⟩, hS.F ht⟩) hS.2.2 dX13_force_30
    · --9 not
      exact absurd c28 (by decide)
def v_rulesX : List Cond := .code yX13_rules cX13_rules 3 (some .int) :: vA
abbrev rm_rulesX : Room := { frames := 70, cells := 0, slots := 0, locals := 2800 }
def w_rulesX : Nat → Nat → Bool := wl [10, 11, 8, 9] [(0, 0), (0, 16), (0, 17), (0, 18), (0, 19), (0, 20), (0, 21), (0, 22), (0, 23), (0, 24), (0, 25), (0, 26)]
set_option maxHeartbeats 4000000 in
set_option maxRecDepth 100000 in
theorem q_rulesX (l : Launch) (dC : Nat → ClassId) (dI : Nat → Nat → Nat) (cT : Nat → ClassId) (ad : Nat → Nat) (E : Nat → va_E) (sz : Nat) (a0 : Int32) (hI0 : IX cT shM spM 72 ad E)  : Met l yX13_rules v_rulesX rm_rulesX (va_Pc [.ref (ad 0), .int a0] (HW dC dI (TYM cT) 72 ad E sz)) (va_Qi (S := Nat → va_E) (fun r u => IX cT shM spM 72 ad u ∧ Kp w_rulesX E u ∧ ((r = -1 ∧ (¬ ((textS true (mB (xi (E 7)) (0 : Int32)) (xi (E 0) 16).toNatClampNeg).flt = -1 ∧ (0 ≤ a0.toInt ∧ a0.toInt ≤ 400) ∧ (xi (E 0) 17).toInt < 16)) ∧ ((xi (u 0) 17).toInt = (xi (E 0) 17).toInt) ∧ ((xi (u 0) 16).toInt = (xi (E 0) 16).toInt) ∧ (xi (u 10) = xi (E 10) ∧ xi (u 11) = xi (E 11)) ∧ (xi (u 7) = xi (E 7))) ∨ ((0 ≤ r.toInt ∧ r.toInt ≤ 15) ∧ (((textS true (mB (xi (E 7)) (0 : Int32)) (xi (E 0) 16).toNatClampNeg).flt = -1 ∧ (0 ≤ a0.toInt ∧ a0.toInt ≤ 400) ∧ (xi (E 0) 17).toInt < 16)) ∧ (r.toInt = (xi (E 0) 17).toInt) ∧ ((xi (u 0) 17).toInt = (xi (E 0) 17).toInt + 1) ∧ ((xi (u 0) 16).toInt = 0) ∧ (xi (u 10) = upd (xi (E 10)) (xi (E 0) 17).toNatClampNeg a0 ∧ xi (u 11) = upd (xi (E 11)) (xi (E 0) 17).toNatClampNeg (xi (E 0) 1))))) (HB dC dI 72 ad) (va_A (WX 72 ad E) sz)) 0 0 (va_A (WX 72 ad E) sz) := by
  refine Met.ofW (cc := cX13_rules) (maxL := 3) (ret := (some .int)) (by decide) rfl ?_
  intro p e s m args below meth c s₁ B hml hv
  obtain ⟨hargs, hsz, hP, hK, hD0, hEV⟩ := hv
  subst hsz
  have hx := B.exec
  have hb := B.bytes
  have hr := B.returns
  have hts := atoms_spec (ws := v_rulesX) B.pre
  have hown : s.vm.findClass RX13 = some m.cls := findClass_of_methodNamed B.named
  have hlocks := B.notSynchronized
  have hinX13 : ∀ w ∈ u_ws RX13 TX13 97, w ∈ v_rulesX := fun w h => vA_in _ w (in_X13 w h)
  generalize hAe : va_A (WX 72 ad E) s.heap.size = A at hEV ⊢
  have hA : ∀ q : Nat, s.heap.size ≤ q → A q := fun q h => by rw [← hAe]; exact Or.inr h
  have hD : va_D A (WX 72 ad E) := by rw [← hAe]; exact hD0.self
  have hS : va_S A s.heap s.heap [] := va_S.rf
  have hI := hI0
  have hKp : Kp w_rulesX E E := Kp.rf
  have hl := lv_entry ([.ref (ad 0), .int a0]) (n := 3) (Nat.le_of_ble_eq_true rfl)
  obtain ⟨Q, hQ⟩ : ∃ Q, Q = MQ below (va_Qi (S := Nat → va_E) (fun r u => IX cT shM spM 72 ad u ∧ Kp w_rulesX E u ∧ ((r = -1 ∧ (¬ ((textS true (mB (xi (E 7)) (0 : Int32)) (xi (E 0) 16).toNatClampNeg).flt = -1 ∧ (0 ≤ a0.toInt ∧ a0.toInt ≤ 400) ∧ (xi (E 0) 17).toInt < 16)) ∧ ((xi (u 0) 17).toInt = (xi (E 0) 17).toInt) ∧ ((xi (u 0) 16).toInt = (xi (E 0) 16).toInt) ∧ (xi (u 10) = xi (E 10) ∧ xi (u 11) = xi (E 11)) ∧ (xi (u 7) = xi (E 7))) ∨ ((0 ≤ r.toInt ∧ r.toInt ≤ 15) ∧ (((textS true (mB (xi (E 7)) (0 : Int32)) (xi (E 0) 16).toNatClampNeg).flt = -1 ∧ (0 ≤ a0.toInt ∧ a0.toInt ≤ 400) ∧ (xi (E 0) 17).toInt < 16)) ∧ (r.toInt = (xi (E 0) 17).toInt) ∧ ((xi (u 0) 17).toInt = (xi (E 0) 17).toInt + 1) ∧ ((xi (u 0) 16).toInt = 0) ∧ (xi (u 10) = upd (xi (E 10)) (xi (E 0) 17).toNatClampNeg a0 ∧ xi (u 11) = upd (xi (E 11)) (xi (E 0) 17).toNatClampNeg (xi (E 0) 1))))) (HB dC dI 72 ad) (A)) args s 0 0 (A) := ⟨_, rfl⟩
  rw [← hQ, show entryFrame m args 3 = _ from (congrArg (fun z => entryFrame m z 3) hargs).trans (lg_entry_eq _ _ _)]
  generalize (lg_sl ([.ref (ad 0), .int a0]) ++ List.replicate (3 - (lg_sl ([.ref (ad 0), .int a0])).length) Slot.unset).toArray = ls at hl ⊢
  have hl : lv_has ls 3 [(0, .ref (ad 0)), (1, .int a0)] := hl
  obtain ⟨y1, ey1⟩ : ∃ y, xi (E 0) 17 = y := ⟨_, rfl⟩
  have fy1 : xv (E 0) 17 = .int y1 := (hI.fi 0 (Nat.le_of_ble_eq_true rfl) rfl (Nat.le_of_ble_eq_true rfl) rfl).trans (congrArg Value.int ey1)
  have iy1 : 0 ≤ y1.toInt ∧ y1.toInt ≤ 16 := by rw [← ey1]; exact hI.iv 0 (Nat.le_of_ble_eq_true rfl) rfl (Nat.le_of_ble_eq_true rfl) rfl
  obtain ⟨y2, ey2⟩ : ∃ y, xi (E 0) 16 = y := ⟨_, rfl⟩
  have fy2 : xv (E 0) 16 = .int y2 := (hI.fi 0 (Nat.le_of_ble_eq_true rfl) rfl (Nat.le_of_ble_eq_true rfl) rfl).trans (congrArg Value.int ey2)
  have iy2 : 0 ≤ y2.toInt ∧ y2.toInt ≤ 200 := by rw [← ey2]; exact hI.iv 0 (Nat.le_of_ble_eq_true rfl) rfl (Nat.le_of_ble_eq_true rfl) rfl
  obtain ⟨g3, hg3⟩ : ∃ g, xi (E 10) = g := ⟨_, rfl⟩
  obtain ⟨g4, hg4⟩ : ∃ g, xi (E 11) = g := ⟨_, rfl⟩
  refine lv_aload_n hx hb dX13_rules_0 rfl (lv_at hl 0 rfl) ?_
  refine lv_iconst (v := 0) hx hb dX13_rules_1 (by decide) ?_
  refine th_put (ci := 14) (C := RX13) (T := TX13) (N := 97) (v := .int 0) (ty := .int) hx hb hts hinX13 tyX13 tyX13_ok nmX13 hown hK hP (WX_D hD) hS hI 0 (Nat.le_of_ble_eq_true rfl) rfl rfl 0 (Nat.le_of_ble_eq_true rfl) (hts _ (vA_in _ _ (in_24 _ (List.mem_of_getElem? (i := 10) rfl)))) (fun _ h9 => h9) rfl (by decide +kernel) rfl rfl (okI rfl (iv_w ln_0 (by decide))) dX13_rules_2 (fun H locs E5 pw6 hI hP hS => ?_)
  have hKp := hKp.pw pw6 rfl
  refine lv_aload_n hx hb dX13_rules_5 rfl (lv_at hl 0 rfl) ?_
  refine lv_aload_n hx hb dX13_rules_6 rfl (lv_at hl 0 rfl) ?_
  refine th_get (ci := 14) (C := RX13) (T := TX13) (N := 97) (v := .ref (ad 7)) hx hb hts hinX13 hown hK hP hI 0 (Nat.le_of_ble_eq_true rfl) rfl rfl 10 (Nat.le_of_ble_eq_true rfl) (hts _ (vA_in _ _ (in_31 _ (List.mem_of_getElem? (i := 29) rfl)))) (fun _ h9 => h9) (hI.fr 0 (Nat.le_of_ble_eq_true rfl) rfl (Nat.le_of_ble_eq_true rfl) 7 rfl) dX13_rules_7 ?_
  refine lv_iconst (v := 0) hx hb dX13_rules_10 (by decide) ?_
  refine lv_aload_n hx hb dX13_rules_11 rfl (lv_at hl 0 rfl) ?_
  refine th_get (ci := 14) (C := RX13) (T := TX13) (N := 97) (v := .int y2) hx hb hts hinX13 hown hK hP hI 0 (Nat.le_of_ble_eq_true rfl) rfl rfl 16 (Nat.le_of_ble_eq_true rfl) (hts _ (vA_in _ _ (in_30 _ (List.mem_of_getElem? (i := 20) rfl)))) (fun _ h9 => h9) ((pw6.2 0 16 (fun q9 => absurd q9.2 (Nat.ne_of_beq_eq_false rfl))).trans fy2) dX13_rules_12 ?_
  refine lv_iconst (v := 0) hx hb dX13_rules_15 (by decide) ?_
  refine th_v (va_runV (As := [.ref (ad 7), .int 0, .int y2, .int 0]) (rest := []) ⟨hx, hb, hml, hown, hts⟩ (q_goThroughTX l dC dI cT ad E5 H.size y2 (0 : Int32) hI iy2 (iv_w ln_0 (by decide))) (cwV 4 hts (gi_V (in_29 _ (List.mem_of_getElem? (i := 8) rfl)) (in_29 _ (List.mem_of_getElem? (i := 9) rfl)) (in_29 _ (List.mem_of_getElem? (i := 10) rfl)) (in_24 _ (List.mem_of_getElem? (i := 15) rfl)) (in_29 _ (List.mem_of_getElem? (i := 11) rfl))) rfl rfl rfl (by decide +kernel) ⟨Nat.le_of_ble_eq_true rfl, Nat.le_of_ble_eq_true rfl⟩) ⟨HW_bl, va_recv hK hP (ci := 14) (q0 := 0) rfl (hI.ob 0 (Nat.le_of_ble_eq_true rfl) rfl), (HW_wi hP hK (WX_D hD) hS hA hEV)⟩ rfl rfl hl.1 rfl (lv_room (Nat.le_of_ble_eq_true rfl)) dX13_rules_16 ⟨Nat.le_of_ble_eq_true rfl, Nat.le_of_ble_eq_true rfl⟩) (WX_D hD) hS hA (fun E8 H locs hw hP hS => ?_)
  obtain ⟨hI, kq9, hw⟩ := hw
  have hKb := hKp
  have hKp := hKp.tr kq9 (wl_sub rfl rfl)
  obtain ⟨y10, ey10⟩ : ∃ y, xi (E8 0) 22 = y := ⟨_, rfl⟩
  have fy10 : xv (E8 0) 22 = .int y10 := (hI.fi 0 (Nat.le_of_ble_eq_true rfl) rfl (Nat.le_of_ble_eq_true rfl) rfl).trans (congrArg Value.int ey10)
  have iy10 : -1 ≤ y10.toInt ∧ y10.toInt ≤ 201 := by rw [← ey10]; exact hI.iv 0 (Nat.le_of_ble_eq_true rfl) rfl (Nat.le_of_ble_eq_true rfl) rfl
  have f11 := hw
  try rw [hKb.ef 7 (fun _ => rfl)] at f11
  try rw [(show xi (E8 0) 22 = y10 from vi_e fy10)] at f11
  have k12 : y10.toInt = (textS true (mB (xi (E 7)) (0 : Int32)) (xi (E 0) 16).toNatClampNeg).flt := (show y10.toInt = mFa E8 by show _ = (xi (E8 0) 22).toInt; rw [show xi (E8 0) 22 = y10 from vi_e fy10]).trans (by rw [ey2]; exact f11)
  refine lv_aload_n hx hb dX13_rules_19 rfl (lv_at hl 0 rfl) ?_
  refine th_get (ci := 14) (C := RX13) (T := TX13) (N := 97) (v := .int y10) hx hb hts hinX13 hown hK hP hI 0 (Nat.le_of_ble_eq_true rfl) rfl rfl 22 (Nat.le_of_ble_eq_true rfl) (hts _ (vA_in _ _ (in_25 _ (List.mem_of_getElem? (i := 39) rfl)))) (fun _ h9 => h9) fy10 dX13_rules_20 ?_
  refine lv_iconst (v := -1) hx hb dX13_rules_23 (by decide) ?_
  refine lv_icmp_ne (tgt := 43) hx hb dX13_rules_24 (by decide) (fun c13 => ?_) (fun c13 => ?_)
  · --24 taken
    have t14 : ¬ y10.toInt = -1 := ti_ne c13
    have i15 : 0 ≤ y10.toInt ∧ y10.toInt ≤ 201 := iv_ne_l t14 iy10 (il_ (-1))
    refine lv_iconst (v := -1) hx hb dX13_rules_43 (by decide) ?_
    rw [hQ]
    exact W.iret (v := (-1)) hx hb hr (fun t ht hW => ⟨⟨(-1), E8, rfl, ⟨hI, hKp, Or.inl ⟨rfl, by have b1 := k12; have gy1 := congrArg Int32.toInt ey1; have gy2 := congrArg Int32.toInt ey2; all_goals omega, by have h8 := ln_m1; (try rw [(show xi (E8 0) 17 = y1 from vi_e ((kq9 0 17 rfl).trans ((pw6.2 0 17 (fun q9 => absurd q9.2 (Nat.ne_of_beq_eq_false rfl))).trans fy1)))]); (try rw [(show xi (E8 0) 16 = y2 from vi_e ((kq9 0 16 rfl).trans ((pw6.2 0 16 (fun q9 => absurd q9.2 (Nat.ne_of_beq_eq_false rfl))).trans fy2)))]); (try rw [ey1]); (try rw [ey2]); all_goals omega, by have h8 := ln_m1; (try rw [(show xi (E8 0) 17 = y1 from vi_e ((kq9 0 17 rfl).trans ((pw6.2 0 17 (fun q9 => absurd q9.2 (Nat.ne_of_beq_eq_false rfl))).trans fy1)))]); (try rw [(show xi (E8 0) 16 = y2 from vi_e ((kq9 0 16 rfl).trans ((pw6.2 0 16 (fun q9 => absurd q9.2 (Nat.ne_of_beq_eq_false rfl))).trans fy2)))]); (try rw [ey1]); (try rw [ey2]); all_goals omega, ⟨(show xi (E8 10) = g3 from ((kq9.ef 10 (fun _ => rfl)).trans ((pw6.ef 10 (Nat.ne_of_beq_eq_false rfl)).trans hg3))).trans (show xi (E 10) = g3 from hg3).symm, (show xi (E8 11) = g4 from ((kq9.ef 11 (fun _ => rfl)).trans ((pw6.ef 11 (Nat.ne_of_beq_eq_false rfl)).trans hg4))).trans (show xi (E 11) = g4 from hg4).symm⟩, hKp.ef 7 (fun _ => rfl)⟩⟩, by show va_P (dC, dI) vwCl (WX 72 ad E8) t.heap; rw [ht]; exact hP⟩, hS.F ht⟩) hS.2.2 dX13_rules_44
  · --24 not
    have t16 : y10.toInt = -1 := ti_eq c13
    have i17 : -1 ≤ y10.toInt ∧ y10.toInt ≤ -1 := iv_eqi t16 iy10 (il_ (-1)) (by decide)
    refine lv_iload_n hx hb dX13_rules_27 rfl (lv_at hl 1 rfl) ?_
    refine th_pi (va_runS (As := [.int a0]) (rest := []) ⟨hx, hb, hml, hown, hts⟩ (q_isDay l a0) (va_cwS 1 hts (gi_S (in_27 _ (List.mem_of_getElem? (i := 17) rfl)) (in_27 _ (List.mem_of_getElem? (i := 18) rfl)) (in_24 _ (List.mem_of_getElem? (i := 15) rfl)) (in_27 _ (List.mem_of_getElem? (i := 19) rfl))) rfl rfl rfl (by decide +kernel) ⟨Nat.le_of_ble_eq_true rfl, Nat.le_of_ble_eq_true rfl⟩) ⟨fun _ _ _ _ q => q, fun _ _ _ => ⟨rfl, trivial⟩⟩ rfl rfl hl.1 rfl (lv_room (Nat.le_of_ble_eq_true rfl)) dX13_rules_28 ⟨Nat.le_of_ble_eq_true rfl, Nat.le_of_ble_eq_true rfl⟩) hS (fun r18 H1 locs1 hw hk1 hS => ?_)
    have hP := ub_keep hP hk1
    generalize H1 = H at hP hS ⊢
    generalize locs1 = locs at hS ⊢
    rcases hw with hw | hw
    · -- isDay, case 0
      obtain ⟨rfl, f19⟩ := hw
      have t20 : (0 : Int) ≤ a0.toInt := f19.1
      have t21 : a0.toInt ≤ 400 := f19.2
      have i22 : 0 ≤ a0.toInt ∧ a0.toInt ≤ 2147483647 := iv_le_r t20 (il_ 0) (iv_all _) (by decide)
      have i23 : 0 ≤ a0.toInt ∧ a0.toInt ≤ 400 := iv_le_l t21 i22 (il_ 400) (by decide)
      refine lv_if_eq (tgt := 43) hx hb dX13_rules_31 (by decide) (fun c24 => ?_) (fun c24 => ?_)
      · --31 taken
        exact absurd c24 (by decide)
      · --31 not
        refine lv_aload_n hx hb dX13_rules_34 rfl (lv_at hl 0 rfl) ?_
        refine th_get (ci := 14) (C := RX13) (T := TX13) (N := 97) (v := .int y1) hx hb hts hinX13 hown hK hP hI 0 (Nat.le_of_ble_eq_true rfl) rfl rfl 17 (Nat.le_of_ble_eq_true rfl) (hts _ (vA_in _ _ (in_29 _ (List.mem_of_getElem? (i := 5) rfl)))) (fun _ h9 => h9) ((kq9 0 17 rfl).trans ((pw6.2 0 17 (fun q9 => absurd q9.2 (Nat.ne_of_beq_eq_false rfl))).trans fy1)) dX13_rules_35 ?_
        refine lv_bipush (v := 16) hx hb dX13_rules_38 (by decide) ?_
        refine lv_icmp_ne (tgt := 45) hx hb dX13_rules_40 (by decide) (fun c25 => ?_) (fun c25 => ?_)
        · --40 taken
          have t26 : ¬ y1.toInt = 16 := ti_ne c25
          have i27 : 0 ≤ y1.toInt ∧ y1.toInt ≤ 15 := iv_ne_r t26 iy1 (il_ 16)
          refine lv_iconst (v := 0) hx hb dX13_rules_45 (by decide) ?_
          refine lv_istore_n (lv' := [(2, .int 0), (0, .ref (ad 0)), (1, .int a0)]) hx hb dX13_rules_46 rfl hl (by decide) rfl (fun ls hl => ?_)
          have hL47 : ∀ d : Nat, ∀ (v47_2 : Int32) (E47_ : Nat → va_E) (H : Heap) (locs : List Loc) (ls : Array Slot), 0 ≤ v47_2.toInt ∧ v47_2.toInt ≤ 200 → 200 - v47_2.toInt < (d : Int) → IX cT shM spM 72 ad E47_ → Kp w_rulesX E E47_ → xv (E47_ 0) 17 = .int y1 → xv (E47_ 0) 16 = .int y2 → xv (E47_ 0) 0 = .int 0 → xv (E47_ 0) 22 = .int y10 → xi (E47_ 10) = g3 → xi (E47_ 11) = g4 → va_P (dC, dI) vwCl (WX 72 ad E47_) H → va_S A s.heap H locs → lv_has ls 3 [(2, .int v47_2), (0, .ref (ad 0)), (1, .int a0)] → W p l e (headSpec v_rulesX rm_rulesX).room s m args below meth c H locs 0 0 Q (F0 m 47 ls []) := by
            intro d
            induction d with
            | zero =>
              intro v47_2 E47_ H locs ls hv47_2 hx47_0 hI hKp hs47_0_17 hs47_0_16 hs47_0_0 hs47_0_22 hr47_10 hr47_11 hP hS hl
              exact absurd hx47_0 (by omega)
            | succ d ih47 =>
              intro v47_2 E47_ H locs ls hv47_2 hx47_0 hI hKp hs47_0_17 hs47_0_16 hs47_0_0 hs47_0_22 hr47_10 hr47_11 hP hS hl
              refine lv_iload_n hx hb dX13_rules_47 rfl (lv_at hl 0 rfl) ?_
              refine lv_aload_n hx hb dX13_rules_48 rfl (lv_at hl 1 rfl) ?_
              refine th_get (ci := 14) (C := RX13) (T := TX13) (N := 97) (v := .int y2) hx hb hts hinX13 hown hK hP hI 0 (Nat.le_of_ble_eq_true rfl) rfl rfl 16 (Nat.le_of_ble_eq_true rfl) (hts _ (vA_in _ _ (in_30 _ (List.mem_of_getElem? (i := 20) rfl)))) (fun _ h9 => h9) hs47_0_16 dX13_rules_49 ?_
              refine lv_icmp_ge (tgt := 82) hx hb dX13_rules_52 (by decide) (fun c28 => ?_) (fun c28 => ?_)
              · --52 taken
                have t29 : y2.toInt ≤ v47_2.toInt := ti_le c28
                refine lv_aload_n hx hb dX13_rules_82 rfl (lv_at hl 1 rfl) ?_
                refine th_get (ci := 14) (C := RX13) (T := TX13) (N := 97) (v := .ref (ad 9)) hx hb hts hinX13 hown hK hP hI 0 (Nat.le_of_ble_eq_true rfl) rfl rfl 12 (Nat.le_of_ble_eq_true rfl) (hts _ (vA_in _ _ (in_28 _ (List.mem_of_getElem? (i := 39) rfl)))) (fun _ h9 => h9) (hI.fr 0 (Nat.le_of_ble_eq_true rfl) rfl (Nat.le_of_ble_eq_true rfl) 9 rfl) dX13_rules_83 ?_
                refine lv_aload_n hx hb dX13_rules_86 rfl (lv_at hl 1 rfl) ?_
                refine th_get (ci := 14) (C := RX13) (T := TX13) (N := 97) (v := .int y1) hx hb hts hinX13 hown hK hP hI 0 (Nat.le_of_ble_eq_true rfl) rfl rfl 17 (Nat.le_of_ble_eq_true rfl) (hts _ (vA_in _ _ (in_29 _ (List.mem_of_getElem? (i := 5) rfl)))) (fun _ h9 => h9) hs47_0_17 dX13_rules_87 ?_
                refine lv_aload_n hx hb dX13_rules_90 rfl (lv_at hl 1 rfl) ?_
                refine th_get (ci := 14) (C := RX13) (T := TX13) (N := 97) (v := .int y2) hx hb hts hinX13 hown hK hP hI 0 (Nat.le_of_ble_eq_true rfl) rfl rfl 16 (Nat.le_of_ble_eq_true rfl) (hts _ (vA_in _ _ (in_30 _ (List.mem_of_getElem? (i := 20) rfl)))) (fun _ h9 => h9) hs47_0_16 dX13_rules_91 ?_
                have n30 : vp_in y1 16 := (iv_in (n := 16) i27 (by decide))
                refine th_iast hx hb hK hP (WX_D hD) hS hI 9 (Nat.le_of_ble_eq_true rfl) rfl rfl n30 (okI rfl iy2) dX13_rules_94 (fun H locs E31 pw32 hI hP hS => ?_)
                have hKp := hKp.pw pw32 rfl
                refine lv_aload_n hx hb dX13_rules_95 rfl (lv_at hl 1 rfl) ?_
                refine th_get (ci := 14) (C := RX13) (T := TX13) (N := 97) (v := .ref (ad 10)) hx hb hts hinX13 hown hK hP hI 0 (Nat.le_of_ble_eq_true rfl) rfl rfl 13 (Nat.le_of_ble_eq_true rfl) (hts _ (vA_in _ _ (in_29 _ (List.mem_of_getElem? (i := 7) rfl)))) (fun _ h9 => h9) (hI.fr 0 (Nat.le_of_ble_eq_true rfl) rfl (Nat.le_of_ble_eq_true rfl) 10 rfl) dX13_rules_96 ?_
                refine lv_aload_n hx hb dX13_rules_99 rfl (lv_at hl 1 rfl) ?_
                refine th_get (ci := 14) (C := RX13) (T := TX13) (N := 97) (v := .int y1) hx hb hts hinX13 hown hK hP hI 0 (Nat.le_of_ble_eq_true rfl) rfl rfl 17 (Nat.le_of_ble_eq_true rfl) (hts _ (vA_in _ _ (in_29 _ (List.mem_of_getElem? (i := 5) rfl)))) (fun _ h9 => h9) ((pw32.2 0 17 (fun q9 => absurd q9.1 (Nat.ne_of_beq_eq_false rfl))).trans hs47_0_17) dX13_rules_100 ?_
                refine lv_iload_n hx hb dX13_rules_103 rfl (lv_at hl 2 rfl) ?_
                have n33 : vp_in y1 16 := (iv_in (n := 16) i27 (by decide))
                refine th_iast hx hb hK hP (WX_D hD) hS hI 10 (Nat.le_of_ble_eq_true rfl) rfl rfl n33 (okI rfl i23) dX13_rules_104 (fun H locs E34 pw35 hI hP hS => ?_)
                have hKp := hKp.pw pw35 rfl
                obtain ⟨g36, eg36⟩ : ∃ z : Nat → Int32, z = upd g3 y1.toNatClampNeg a0 := ⟨_, rfl⟩
                have hg36 : xi (E34 10) = g36 := by rw [pw35.eu, ((pw32.ef 10 (Nat.ne_of_beq_eq_false rfl)).trans hr47_10), eg36]
                refine lv_aload_n hx hb dX13_rules_105 rfl (lv_at hl 1 rfl) ?_
                refine th_get (ci := 14) (C := RX13) (T := TX13) (N := 97) (v := .ref (ad 11)) hx hb hts hinX13 hown hK hP hI 0 (Nat.le_of_ble_eq_true rfl) rfl rfl 14 (Nat.le_of_ble_eq_true rfl) (hts _ (vA_in _ _ (in_29 _ (List.mem_of_getElem? (i := 6) rfl)))) (fun _ h9 => h9) (hI.fr 0 (Nat.le_of_ble_eq_true rfl) rfl (Nat.le_of_ble_eq_true rfl) 11 rfl) dX13_rules_106 ?_
                refine lv_aload_n hx hb dX13_rules_109 rfl (lv_at hl 1 rfl) ?_
                refine th_get (ci := 14) (C := RX13) (T := TX13) (N := 97) (v := .int y1) hx hb hts hinX13 hown hK hP hI 0 (Nat.le_of_ble_eq_true rfl) rfl rfl 17 (Nat.le_of_ble_eq_true rfl) (hts _ (vA_in _ _ (in_29 _ (List.mem_of_getElem? (i := 5) rfl)))) (fun _ h9 => h9) ((pw35.2 0 17 (fun q9 => absurd q9.1 (Nat.ne_of_beq_eq_false rfl))).trans ((pw32.2 0 17 (fun q9 => absurd q9.1 (Nat.ne_of_beq_eq_false rfl))).trans hs47_0_17)) dX13_rules_110 ?_
                refine lv_aload_n hx hb dX13_rules_113 rfl (lv_at hl 1 rfl) ?_
                have i37 : 0 ≤ (xi (E 0) 1).toInt ∧ (xi (E 0) 1).toInt ≤ 400 := hI0.iv 0 (Nat.le_of_ble_eq_true rfl) rfl (Nat.le_of_ble_eq_true rfl) rfl
                refine th_get (ci := 14) (C := RX13) (T := TX13) (N := 97) (v := .int (xi (E 0) 1)) hx hb hts hinX13 hown hK hP hI 0 (Nat.le_of_ble_eq_true rfl) rfl rfl 1 (Nat.le_of_ble_eq_true rfl) (hts _ (vA_in _ _ (in_24 _ (List.mem_of_getElem? (i := 27) rfl)))) (fun _ h9 => h9) (th_v0 hKp hI0 0 (Nat.le_of_ble_eq_true rfl) rfl (Nat.le_of_ble_eq_true rfl) rfl rfl) dX13_rules_114 ?_
                have n38 : vp_in y1 16 := (iv_in (n := 16) i27 (by decide))
                refine th_iast hx hb hK hP (WX_D hD) hS hI 11 (Nat.le_of_ble_eq_true rfl) rfl rfl n38 (okI rfl i37) dX13_rules_117 (fun H locs E39 pw40 hI hP hS => ?_)
                have hKp := hKp.pw pw40 rfl
                obtain ⟨g41, eg41⟩ : ∃ z : Nat → Int32, z = upd g4 y1.toNatClampNeg (xi (E 0) 1) := ⟨_, rfl⟩
                have hg41 : xi (E39 11) = g41 := by rw [pw40.eu, ((pw35.ef 11 (Nat.ne_of_beq_eq_false rfl)).trans ((pw32.ef 11 (Nat.ne_of_beq_eq_false rfl)).trans hr47_11)), eg41]
                refine lv_aload_n hx hb dX13_rules_118 rfl (lv_at hl 1 rfl) ?_
                refine lv_dup hx hb dX13_rules_119 rfl ?_
                refine th_get (ci := 14) (C := RX13) (T := TX13) (N := 97) (v := .int y1) hx hb hts hinX13 hown hK hP hI 0 (Nat.le_of_ble_eq_true rfl) rfl rfl 17 (Nat.le_of_ble_eq_true rfl) (hts _ (vA_in _ _ (in_29 _ (List.mem_of_getElem? (i := 5) rfl)))) (fun _ h9 => h9) ((pw40.2 0 17 (fun q9 => absurd q9.1 (Nat.ne_of_beq_eq_false rfl))).trans ((pw35.2 0 17 (fun q9 => absurd q9.1 (Nat.ne_of_beq_eq_false rfl))).trans ((pw32.2 0 17 (fun q9 => absurd q9.1 (Nat.ne_of_beq_eq_false rfl))).trans hs47_0_17))) dX13_rules_120 ?_
                refine lv_iconst (v := 1) hx hb dX13_rules_123 (by decide) ?_
                refine lv_iadd hx hb dX13_rules_124 ?_
                refine lv_topi (fun y42 ey42 => ?_)
                obtain ⟨ty42, iy42⟩ := ti_add (e := 1) (f := 16) i27 ln_1 ey42 (by decide)
                have ty42 : y42.toInt = y1.toInt + 1 := ty42
                have iy42 : 1 ≤ y42.toInt ∧ y42.toInt ≤ 16 := iy42
                refine th_put (ci := 14) (C := RX13) (T := TX13) (N := 97) (v := .int y42) (ty := .int) hx hb hts hinX13 tyX13 tyX13_ok nmX13 hown hK hP (WX_D hD) hS hI 0 (Nat.le_of_ble_eq_true rfl) rfl rfl 17 (Nat.le_of_ble_eq_true rfl) (hts _ (vA_in _ _ (in_29 _ (List.mem_of_getElem? (i := 5) rfl)))) (fun _ h9 => h9) rfl (by decide +kernel) rfl rfl (okI rfl (iv_w iy42 (by decide))) dX13_rules_125 (fun H locs E43 pw44 hI hP hS => ?_)
                have hKp := hKp.pw pw44 rfl
                refine lv_aload_n hx hb dX13_rules_128 rfl (lv_at hl 1 rfl) ?_
                refine lv_iconst (v := 0) hx hb dX13_rules_129 (by decide) ?_
                refine th_put (ci := 14) (C := RX13) (T := TX13) (N := 97) (v := .int 0) (ty := .int) hx hb hts hinX13 tyX13 tyX13_ok nmX13 hown hK hP (WX_D hD) hS hI 0 (Nat.le_of_ble_eq_true rfl) rfl rfl 16 (Nat.le_of_ble_eq_true rfl) (hts _ (vA_in _ _ (in_30 _ (List.mem_of_getElem? (i := 20) rfl)))) (fun _ h9 => h9) rfl (by decide +kernel) rfl rfl (okI rfl (iv_w ln_0 (by decide))) dX13_rules_130 (fun H locs E45 pw46 hI hP hS => ?_)
                have hKp := hKp.pw pw46 rfl
                refine lv_aload_n hx hb dX13_rules_133 rfl (lv_at hl 1 rfl) ?_
                refine th_get (ci := 14) (C := RX13) (T := TX13) (N := 97) (v := .int y42) hx hb hts hinX13 hown hK hP hI 0 (Nat.le_of_ble_eq_true rfl) rfl rfl 17 (Nat.le_of_ble_eq_true rfl) (hts _ (vA_in _ _ (in_29 _ (List.mem_of_getElem? (i := 5) rfl)))) (fun _ h9 => h9) ((pw46.2 0 17 (fun q9 => absurd q9.2 (Nat.ne_of_beq_eq_false rfl))).trans pw44.1) dX13_rules_134 ?_
                refine lv_iconst (v := 1) hx hb dX13_rules_137 (by decide) ?_
                refine lv_isub hx hb dX13_rules_138 ?_
                refine lv_topi (fun y47 ey47 => ?_)
                obtain ⟨ty47, iy47⟩ := ti_sub (e := 0) (f := 15) iy42 ln_1 ey47 (by decide)
                have ty47 : y47.toInt = y42.toInt - 1 := ty47
                have iy47 : 0 ≤ y47.toInt ∧ y47.toInt ≤ 15 := iy47
                have z0 := ln_0
                rw [hQ]
                exact W.iret (v := y47) hx hb hr (fun t ht hW => ⟨⟨y47, E45, rfl, ⟨hI, hKp, Or.inr (⟨iy47, by have b1 := k12; have gy1 := congrArg Int32.toInt ey1; have gy2 := congrArg Int32.toInt ey2; all_goals omega, by (try rw [(show xi (E45 0) 17 = y42 from vi_e ((pw46.2 0 17 (fun q9 => absurd q9.2 (Nat.ne_of_beq_eq_false rfl))).trans pw44.1))]); (try rw [(show xi (E45 0) 16 = (0 : Int32) from vi_e pw46.1)]); (try rw [ey1]); (try rw [ey2]); all_goals omega, by (try rw [(show xi (E45 0) 17 = y42 from vi_e ((pw46.2 0 17 (fun q9 => absurd q9.2 (Nat.ne_of_beq_eq_false rfl))).trans pw44.1))]); (try rw [(show xi (E45 0) 16 = (0 : Int32) from vi_e pw46.1)]); (try rw [ey1]); (try rw [ey2]); all_goals omega, by (try rw [(show xi (E45 0) 17 = y42 from vi_e ((pw46.2 0 17 (fun q9 => absurd q9.2 (Nat.ne_of_beq_eq_false rfl))).trans pw44.1))]); (try rw [(show xi (E45 0) 16 = (0 : Int32) from vi_e pw46.1)]); (try rw [ey1]); (try rw [ey2]); all_goals omega, ⟨(show xi (E45 10) = g36 from ((pw46.ef 10 (Nat.ne_of_beq_eq_false rfl)).trans ((pw44.ef 10 (Nat.ne_of_beq_eq_false rfl)).trans ((pw40.ef 10 (Nat.ne_of_beq_eq_false rfl)).trans hg36)))).trans (by rw [eg36, show xi (E 10) = g3 from hg3, ey1]), (show xi (E45 11) = g41 from ((pw46.ef 11 (Nat.ne_of_beq_eq_false rfl)).trans ((pw44.ef 11 (Nat.ne_of_beq_eq_false rfl)).trans hg41))).trans (by rw [eg41, show xi (E 11) = g4 from hg4, ey1])⟩⟩)⟩, by show va_P (dC, dI) vwCl (WX 72 ad E45) t.heap; rw [ht]; exact hP⟩, hS.F ht⟩) hS.2.2 dX13_rules_139
              · --52 not
                have t48 : v47_2.toInt < y2.toInt := ti_nle c28
                have i49 : 0 ≤ v47_2.toInt ∧ v47_2.toInt ≤ 199 := iv_lt_l t48 hv47_2 iy2 (by decide)
                have i50 : 1 ≤ y2.toInt ∧ y2.toInt ≤ 200 := iv_lt_r t48 hv47_2 iy2 (by decide)
                refine lv_aload_n hx hb dX13_rules_55 rfl (lv_at hl 1 rfl) ?_
                refine th_get (ci := 14) (C := RX13) (T := TX13) (N := 97) (v := .ref (ad 8)) hx hb hts hinX13 hown hK hP hI 0 (Nat.le_of_ble_eq_true rfl) rfl rfl 11 (Nat.le_of_ble_eq_true rfl) (hts _ (vA_in _ _ (in_28 _ (List.mem_of_getElem? (i := 38) rfl)))) (fun _ h9 => h9) (hI.fr 0 (Nat.le_of_ble_eq_true rfl) rfl (Nat.le_of_ble_eq_true rfl) 8 rfl) dX13_rules_56 ?_
                refine lv_sipush (v := 200) hx hb dX13_rules_59 (by decide) ?_
                refine lv_aload_n hx hb dX13_rules_62 rfl (lv_at hl 1 rfl) ?_
                refine th_get (ci := 14) (C := RX13) (T := TX13) (N := 97) (v := .int y1) hx hb hts hinX13 hown hK hP hI 0 (Nat.le_of_ble_eq_true rfl) rfl rfl 17 (Nat.le_of_ble_eq_true rfl) (hts _ (vA_in _ _ (in_29 _ (List.mem_of_getElem? (i := 5) rfl)))) (fun _ h9 => h9) hs47_0_17 dX13_rules_63 ?_
                refine lv_imul hx hb dX13_rules_66 ?_
                refine lv_topi (fun y51 ey51 => ?_)
                obtain ⟨ty51, iy51⟩ := ti_mul (e := 0) (f := 3000) ln_200 i27 ey51 (by decide)
                have ty51 : y51.toInt = 200 * y1.toInt := ty51
                have iy51 : 0 ≤ y51.toInt ∧ y51.toInt ≤ 3000 := iy51
                refine lv_iload_n hx hb dX13_rules_67 rfl (lv_at hl 0 rfl) ?_
                refine lv_iadd hx hb dX13_rules_68 ?_
                refine lv_topi (fun y52 ey52 => ?_)
                obtain ⟨ty52, iy52⟩ := ti_add (e := 0) (f := 3199) iy51 i49 ey52 (by decide)
                have ty52 : y52.toInt = y51.toInt + v47_2.toInt := ty52
                have iy52 : 0 ≤ y52.toInt ∧ y52.toInt ≤ 3199 := iy52
                refine lv_aload_n hx hb dX13_rules_69 rfl (lv_at hl 1 rfl) ?_
                refine th_get (ci := 14) (C := RX13) (T := TX13) (N := 97) (v := .ref (ad 7)) hx hb hts hinX13 hown hK hP hI 0 (Nat.le_of_ble_eq_true rfl) rfl rfl 10 (Nat.le_of_ble_eq_true rfl) (hts _ (vA_in _ _ (in_31 _ (List.mem_of_getElem? (i := 29) rfl)))) (fun _ h9 => h9) (hI.fr 0 (Nat.le_of_ble_eq_true rfl) rfl (Nat.le_of_ble_eq_true rfl) 7 rfl) dX13_rules_70 ?_
                refine lv_iload_n hx hb dX13_rules_73 rfl (lv_at hl 0 rfl) ?_
                have n54 : vp_in v47_2 200 := (iv_in (n := 200) i49 (by decide))
                refine th_bald hx hb hK hP hI 7 (Nat.le_of_ble_eq_true rfl) rfl rfl n54 dX13_rules_74 (fun y53 ey53 => ?_)
                have iy53 : -128 ≤ y53.toInt ∧ y53.toInt ≤ 127 := hI.el 7 (Nat.le_of_ble_eq_true rfl) rfl n54 (fun _ => rfl) ey53
                have ey53 := ey53.trans (hKp.ei 7 _ rfl)
                have n55 : vp_in y52 3200 := (iv_in (n := 3200) iy52 (by decide))
                refine th_bast hx hb hK hP (WX_D hD) hS hI 8 (Nat.le_of_ble_eq_true rfl) rfl rfl n55 (okI rfl (iv_nb _)) dX13_rules_75 (fun H locs E56 pw57 hI hP hS => ?_)
                have hKp := hKp.pw pw57 rfl
                obtain ⟨y58, ey58⟩ : ∃ y : Int32, y = v47_2 + (1 : Int32) := ⟨_, rfl⟩
                obtain ⟨ty58, iy58⟩ := ti_add (e := 1) (f := 200) i49 ln_1 ey58 (by decide)
                have ty58 : y58.toInt = v47_2.toInt + 1 := ty58
                have iy58 : 1 ≤ y58.toInt ∧ y58.toInt ≤ 200 := iy58
                refine lv_iinc (v := y58) (lv' := [(2, .int y58), (0, .ref (ad 0)), (1, .int a0)]) hx hb dX13_rules_76 hl (k := 0) rfl (by rw [ey58]; rfl) (by decide) rfl (fun ls hl => ?_)
                refine lv_goto (tgt := 47) hx hb dX13_rules_79 (by decide) ?_
                exact ih47 y58 E56 _ _ _ (iv_w iy58 (by decide)) (by omega) hI hKp ((pw57.2 0 17 (fun q9 => absurd q9.1 (Nat.ne_of_beq_eq_false rfl))).trans hs47_0_17) ((pw57.2 0 16 (fun q9 => absurd q9.1 (Nat.ne_of_beq_eq_false rfl))).trans hs47_0_16) ((pw57.2 0 0 (fun q9 => absurd q9.1 (Nat.ne_of_beq_eq_false rfl))).trans hs47_0_0) ((pw57.2 0 22 (fun q9 => absurd q9.1 (Nat.ne_of_beq_eq_false rfl))).trans hs47_0_22) ((pw57.ef 10 (Nat.ne_of_beq_eq_false rfl)).trans hr47_10) ((pw57.ef 11 (Nat.ne_of_beq_eq_false rfl)).trans hr47_11) hP hS (lv_sub hl [0, 1, 2] rfl)
          exact hL47 (201) (0 : Int32) E8 _ _ _ (iv_w ln_0 (by decide)) (by have h9 := ln_0; omega) hI hKp ((kq9 0 17 rfl).trans ((pw6.2 0 17 (fun q9 => absurd q9.2 (Nat.ne_of_beq_eq_false rfl))).trans fy1)) ((kq9 0 16 rfl).trans ((pw6.2 0 16 (fun q9 => absurd q9.2 (Nat.ne_of_beq_eq_false rfl))).trans fy2)) ((kq9 0 0 rfl).trans pw6.1) fy10 ((kq9.ef 10 (fun _ => rfl)).trans ((pw6.ef 10 (Nat.ne_of_beq_eq_false rfl)).trans hg3)) ((kq9.ef 11 (fun _ => rfl)).trans ((pw6.ef 11 (Nat.ne_of_beq_eq_false rfl)).trans hg4)) hP hS (lv_sub hl [0, 1, 2] rfl)
        · --40 not
          have t59 : y1.toInt = 16 := ti_eq c25
          have i60 : 16 ≤ y1.toInt ∧ y1.toInt ≤ 16 := iv_eqi t59 iy1 (il_ 16) (by decide)
          refine lv_iconst (v := -1) hx hb dX13_rules_43 (by decide) ?_
          rw [hQ]
          exact W.iret (v := (-1)) hx hb hr (fun t ht hW => ⟨⟨(-1), E8, rfl, ⟨hI, hKp, Or.inl ⟨rfl, by have b1 := k12; have gy1 := congrArg Int32.toInt ey1; have gy2 := congrArg Int32.toInt ey2; all_goals omega, by have h8 := ln_m1; (try rw [(show xi (E8 0) 17 = y1 from vi_e ((kq9 0 17 rfl).trans ((pw6.2 0 17 (fun q9 => absurd q9.2 (Nat.ne_of_beq_eq_false rfl))).trans fy1)))]); (try rw [(show xi (E8 0) 16 = y2 from vi_e ((kq9 0 16 rfl).trans ((pw6.2 0 16 (fun q9 => absurd q9.2 (Nat.ne_of_beq_eq_false rfl))).trans fy2)))]); (try rw [ey1]); (try rw [ey2]); all_goals omega, by have h8 := ln_m1; (try rw [(show xi (E8 0) 17 = y1 from vi_e ((kq9 0 17 rfl).trans ((pw6.2 0 17 (fun q9 => absurd q9.2 (Nat.ne_of_beq_eq_false rfl))).trans fy1)))]); (try rw [(show xi (E8 0) 16 = y2 from vi_e ((kq9 0 16 rfl).trans ((pw6.2 0 16 (fun q9 => absurd q9.2 (Nat.ne_of_beq_eq_false rfl))).trans fy2)))]); (try rw [ey1]); (try rw [ey2]); all_goals omega, ⟨(show xi (E8 10) = g3 from ((kq9.ef 10 (fun _ => rfl)).trans ((pw6.ef 10 (Nat.ne_of_beq_eq_false rfl)).trans hg3))).trans (show xi (E 10) = g3 from hg3).symm, (show xi (E8 11) = g4 from ((kq9.ef 11 (fun _ => rfl)).trans ((pw6.ef 11 (Nat.ne_of_beq_eq_false rfl)).trans hg4))).trans (show xi (E 11) = g4 from hg4).symm⟩, hKp.ef 7 (fun _ => rfl)⟩⟩, by show va_P (dC, dI) vwCl (WX 72 ad E8) t.heap; rw [ht]; exact hP⟩, hS.F ht⟩) hS.2.2 dX13_rules_44
    · -- isDay, case 1
      obtain ⟨rfl, f61⟩ := hw
      have t62 : ¬ ((0 : Int) ≤ a0.toInt ∧ a0.toInt ≤ 400) := f61
      refine lv_if_eq (tgt := 43) hx hb dX13_rules_31 (by decide) (fun c63 => ?_) (fun c63 => ?_)
      · --31 taken
        refine lv_iconst (v := -1) hx hb dX13_rules_43 (by decide) ?_
        rw [hQ]
        exact W.iret (v := (-1)) hx hb hr (fun t ht hW => ⟨⟨(-1), E8, rfl, ⟨hI, hKp, Or.inl ⟨rfl, by have b1 := k12; have gy1 := congrArg Int32.toInt ey1; have gy2 := congrArg Int32.toInt ey2; all_goals omega, by have h8 := ln_m1; (try rw [(show xi (E8 0) 17 = y1 from vi_e ((kq9 0 17 rfl).trans ((pw6.2 0 17 (fun q9 => absurd q9.2 (Nat.ne_of_beq_eq_false rfl))).trans fy1)))]); (try rw [(show xi (E8 0) 16 = y2 from vi_e ((kq9 0 16 rfl).trans ((pw6.2 0 16 (fun q9 => absurd q9.2 (Nat.ne_of_beq_eq_false rfl))).trans fy2)))]); (try rw [ey1]); (try rw [ey2]); all_goals omega, by have h8 := ln_m1; (try rw [(show xi (E8 0) 17 = y1 from vi_e ((kq9 0 17 rfl).trans ((pw6.2 0 17 (fun q9 => absurd q9.2 (Nat.ne_of_beq_eq_false rfl))).trans fy1)))]); (try rw [(show xi (E8 0) 16 = y2 from vi_e ((kq9 0 16 rfl).trans ((pw6.2 0 16 (fun q9 => absurd q9.2 (Nat.ne_of_beq_eq_false rfl))).trans fy2)))]); (try rw [ey1]); (try rw [ey2]); all_goals omega, ⟨(show xi (E8 10) = g3 from ((kq9.ef 10 (fun _ => rfl)).trans ((pw6.ef 10 (Nat.ne_of_beq_eq_false rfl)).trans hg3))).trans (show xi (E 10) = g3 from hg3).symm, (show xi (E8 11) = g4 from ((kq9.ef 11 (fun _ => rfl)).trans ((pw6.ef 11 (Nat.ne_of_beq_eq_false rfl)).trans hg4))).trans (show xi (E 11) = g4 from hg4).symm⟩, hKp.ef 7 (fun _ => rfl)⟩⟩, by show va_P (dC, dI) vwCl (WX 72 ad E8) t.heap; rw [ht]; exact hP⟩, hS.F ht⟩) hS.2.2 dX13_rules_44
      · --31 not
        exact absurd c63 (by decide)
