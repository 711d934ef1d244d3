theorem dX13_fitOf_0 : decode cX13_fitOf 0 = .ok (.iconst 0, 1) := by decide +kernel
theorem dX13_fitOf_1 : decode cX13_fitOf 1 = .ok (.istore_n 2, 1) := by decide +kernel
theorem dX13_fitOf_2 : decode cX13_fitOf 2 = .ok (.iconst 0, 1) := by decide +kernel
theorem dX13_fitOf_3 : decode cX13_fitOf 3 = .ok (.istore_n 3, 1) := by decide +kernel
theorem dX13_fitOf_4 : decode cX13_fitOf 4 = .ok (.iload_n 3, 1) := by decide +kernel
theorem dX13_fitOf_5 : decode cX13_fitOf 5 = .ok (.aload_n 0, 1) := by decide +kernel
theorem dX13_fitOf_6 : decode cX13_fitOf 6 = .ok (.getfield 390, 3) := by decide +kernel
theorem dX13_fitOf_9 : decode cX13_fitOf 9 = .ok (.if_icmp .ge 55, 3) := by decide +kernel
theorem dX13_fitOf_12 : decode cX13_fitOf 12 = .ok (.aload_n 0, 1) := by decide +kernel
theorem dX13_fitOf_13 : decode cX13_fitOf 13 = .ok (.iload_n 3, 1) := by decide +kernel
theorem dX13_fitOf_14 : decode cX13_fitOf 14 = .ok (.iload_n 1, 1) := by decide +kernel
theorem dX13_fitOf_15 : decode cX13_fitOf 15 = .ok (.invokevirtual 528, 3) := by decide +kernel
theorem dX13_fitOf_18 : decode cX13_fitOf 18 = .ok (.istore 4, 2) := by decide +kernel
theorem dX13_fitOf_20 : decode cX13_fitOf 20 = .ok (.iload 4, 2) := by decide +kernel
theorem dX13_fitOf_22 : decode cX13_fitOf 22 = .ok (.ldc_w 431, 3) := by decide +kernel
theorem dX13_fitOf_25 : decode cX13_fitOf 25 = .ok (.if_icmp .ne 6, 3) := by decide +kernel
theorem dX13_fitOf_28 : decode cX13_fitOf 28 = .ok (.goto 30, 3) := by decide +kernel
theorem dX13_fitOf_31 : decode cX13_fitOf 31 = .ok (.aload_n 0, 1) := by decide +kernel
theorem dX13_fitOf_32 : decode cX13_fitOf 32 = .ok (.getfield 213, 3) := by decide +kernel
theorem dX13_fitOf_35 : decode cX13_fitOf 35 = .ok (.iload_n 2, 1) := by decide +kernel
theorem dX13_fitOf_36 : decode cX13_fitOf 36 = .ok (.aload_n 0, 1) := by decide +kernel
theorem dX13_fitOf_37 : decode cX13_fitOf 37 = .ok (.iload_n 3, 1) := by decide +kernel
theorem dX13_fitOf_38 : decode cX13_fitOf 38 = .ok (.iload_n 1, 1) := by decide +kernel
theorem dX13_fitOf_39 : decode cX13_fitOf 39 = .ok (.aload_n 0, 1) := by decide +kernel
theorem dX13_fitOf_40 : decode cX13_fitOf 40 = .ok (.getfield 232, 3) := by decide +kernel
theorem dX13_fitOf_43 : decode cX13_fitOf 43 = .ok (.invokevirtual 422, 3) := by decide +kernel
theorem dX13_fitOf_46 : decode cX13_fitOf 46 = .ok (.iastore, 1) := by decide +kernel
theorem dX13_fitOf_47 : decode cX13_fitOf 47 = .ok (.aload_n 0, 1) := by decide +kernel
theorem dX13_fitOf_48 : decode cX13_fitOf 48 = .ok (.getfield 216, 3) := by decide +kernel
theorem dX13_fitOf_51 : decode cX13_fitOf 51 = .ok (.iload_n 2, 1) := by decide +kernel
theorem dX13_fitOf_52 : decode cX13_fitOf 52 = .ok (.iload 4, 2) := by decide +kernel
theorem dX13_fitOf_54 : decode cX13_fitOf 54 = .ok (.iastore, 1) := by decide +kernel
theorem dX13_fitOf_55 : decode cX13_fitOf 55 = .ok (.iinc 2 1, 3) := by decide +kernel
theorem dX13_fitOf_58 : decode cX13_fitOf 58 = .ok (.iinc 3 1, 3) := by decide +kernel
theorem dX13_fitOf_61 : decode cX13_fitOf 61 = .ok (.goto (-57), 3) := by decide +kernel
theorem dX13_fitOf_64 : decode cX13_fitOf 64 = .ok (.iload_n 2, 1) := by decide +kernel
theorem dX13_fitOf_65 : decode cX13_fitOf 65 = .ok (.ifCond .ne 5, 3) := by decide +kernel
theorem dX13_fitOf_68 : decode cX13_fitOf 68 = .ok (.iconst (-1), 1) := by decide +kernel
theorem dX13_fitOf_69 : decode cX13_fitOf 69 = .ok (.ireturn, 1) := by decide +kernel
theorem dX13_fitOf_70 : decode cX13_fitOf 70 = .ok (.iconst (-1), 1) := by decide +kernel
theorem dX13_fitOf_71 : decode cX13_fitOf 71 = .ok (.istore_n 3, 1) := by decide +kernel
theorem dX13_fitOf_72 : decode cX13_fitOf 72 = .ok (.iconst 0, 1) := by decide +kernel
theorem dX13_fitOf_73 : decode cX13_fitOf 73 = .ok (.istore 4, 2) := by decide +kernel
theorem dX13_fitOf_75 : decode cX13_fitOf 75 = .ok (.sipush 500, 3) := by decide +kernel
theorem dX13_fitOf_78 : decode cX13_fitOf 78 = .ok (.istore 5, 2) := by decide +kernel
theorem dX13_fitOf_80 : decode cX13_fitOf 80 = .ok (.iload 5, 2) := by decide +kernel
theorem dX13_fitOf_82 : decode cX13_fitOf 82 = .ok (.sipush 2000, 3) := by decide +kernel
theorem dX13_fitOf_85 : decode cX13_fitOf 85 = .ok (.if_icmp .gt 79, 3) := by decide +kernel
theorem dX13_fitOf_88 : decode cX13_fitOf 88 = .ok (.iconst 0, 1) := by decide +kernel
theorem dX13_fitOf_89 : decode cX13_fitOf 89 = .ok (.istore 6, 2) := by decide +kernel
theorem dX13_fitOf_91 : decode cX13_fitOf 91 = .ok (.iconst 0, 1) := by decide +kernel
theorem dX13_fitOf_92 : decode cX13_fitOf 92 = .ok (.istore 7, 2) := by decide +kernel
theorem dX13_fitOf_94 : decode cX13_fitOf 94 = .ok (.iload 7, 2) := by decide +kernel
theorem dX13_fitOf_96 : decode cX13_fitOf 96 = .ok (.iload_n 2, 1) := by decide +kernel
theorem dX13_fitOf_97 : decode cX13_fitOf 97 = .ok (.if_icmp .ge 39, 3) := by decide +kernel
theorem dX13_fitOf_100 : decode cX13_fitOf 100 = .ok (.iload 6, 2) := by decide +kernel
theorem dX13_fitOf_102 : decode cX13_fitOf 102 = .ok (.aload_n 0, 1) := by decide +kernel
theorem dX13_fitOf_103 : decode cX13_fitOf 103 = .ok (.getfield 213, 3) := by decide +kernel
theorem dX13_fitOf_106 : decode cX13_fitOf 106 = .ok (.iload 7, 2) := by decide +kernel
theorem dX13_fitOf_108 : decode cX13_fitOf 108 = .ok (.iaload, 1) := by decide +kernel
theorem dX13_fitOf_109 : decode cX13_fitOf 109 = .ok (.iload 5, 2) := by decide +kernel
theorem dX13_fitOf_111 : decode cX13_fitOf 111 = .ok (.imul, 1) := by decide +kernel
theorem dX13_fitOf_112 : decode cX13_fitOf 112 = .ok (.sipush 1000, 3) := by decide +kernel
theorem dX13_fitOf_115 : decode cX13_fitOf 115 = .ok (.idiv, 1) := by decide +kernel
theorem dX13_fitOf_116 : decode cX13_fitOf 116 = .ok (.aload_n 0, 1) := by decide +kernel
theorem dX13_fitOf_117 : decode cX13_fitOf 117 = .ok (.getfield 216, 3) := by decide +kernel
theorem dX13_fitOf_120 : decode cX13_fitOf 120 = .ok (.iload 7, 2) := by decide +kernel
theorem dX13_fitOf_122 : decode cX13_fitOf 122 = .ok (.iaload, 1) := by decide +kernel
theorem dX13_fitOf_123 : decode cX13_fitOf 123 = .ok (.isub, 1) := by decide +kernel
theorem dX13_fitOf_124 : decode cX13_fitOf 124 = .ok (.invokestatic 474, 3) := by decide +kernel
theorem dX13_fitOf_127 : decode cX13_fitOf 127 = .ok (.iadd, 1) := by decide +kernel
theorem dX13_fitOf_128 : decode cX13_fitOf 128 = .ok (.istore 6, 2) := by decide +kernel
theorem dX13_fitOf_130 : decode cX13_fitOf 130 = .ok (.iinc 7 1, 3) := by decide +kernel
theorem dX13_fitOf_133 : decode cX13_fitOf 133 = .ok (.goto (-39), 3) := by decide +kernel
theorem dX13_fitOf_136 : decode cX13_fitOf 136 = .ok (.iload_n 3, 1) := by decide +kernel
theorem dX13_fitOf_137 : decode cX13_fitOf 137 = .ok (.iconst (-1), 1) := by decide +kernel
theorem dX13_fitOf_138 : decode cX13_fitOf 138 = .ok (.if_icmp .eq 13, 3) := by decide +kernel
theorem dX13_fitOf_141 : decode cX13_fitOf 141 = .ok (.iload 6, 2) := by decide +kernel
theorem dX13_fitOf_143 : decode cX13_fitOf 143 = .ok (.iload 4, 2) := by decide +kernel
theorem dX13_fitOf_145 : decode cX13_fitOf 145 = .ok (.if_icmp .lt 6, 3) := by decide +kernel
theorem dX13_fitOf_148 : decode cX13_fitOf 148 = .ok (.goto 10, 3) := by decide +kernel
theorem dX13_fitOf_151 : decode cX13_fitOf 151 = .ok (.iload 5, 2) := by decide +kernel
theorem dX13_fitOf_153 : decode cX13_fitOf 153 = .ok (.istore_n 3, 1) := by decide +kernel
theorem dX13_fitOf_154 : decode cX13_fitOf 154 = .ok (.iload 6, 2) := by decide +kernel
theorem dX13_fitOf_156 : decode cX13_fitOf 156 = .ok (.istore 4, 2) := by decide +kernel
theorem dX13_fitOf_158 : decode cX13_fitOf 158 = .ok (.iinc 5 1, 3) := by decide +kernel
theorem dX13_fitOf_161 : decode cX13_fitOf 161 = .ok (.goto (-81), 3) := by decide +kernel
theorem dX13_fitOf_164 : decode cX13_fitOf 164 = .ok (.iload_n 3, 1) := by decide +kernel
theorem dX13_fitOf_165 : decode cX13_fitOf 165 = .ok (.ireturn, 1) := by decide +kernel
def v_fitOf : List Cond := .code yX13_fitOf cX13_fitOf 8 (some .int) :: vA
abbrev rm_fitOf : Room := { frames := 74, cells := 0, slots := 0, locals := 2960 }
def w_fitOf : Nat → Nat → Bool := wl [12, 66, 67, 68] [(0, 18), (0, 19), (0, 20), (0, 21), (0, 22), (0, 23), (0, 24), (0, 25), (0, 26)]
set_option maxHeartbeats 4000000 in
set_option maxRecDepth 100000 in
theorem q_fitOf (l : Launch) (dC : Nat → ClassId) (dI : Nat → Nat → Nat) (cT : Nat → ClassId) (ad : Nat → Nat) (E : Nat → va_E) (sz : Nat) (a0 : Int32) (hI0 : IX cT shM spM 72 ad E) (hh0 : 0 ≤ a0.toInt ∧ a0.toInt ≤ 15) : Met l yX13_fitOf v_fitOf rm_fitOf (va_Pc [.ref (ad 0), .int a0] (HW dC dI (TYM cT) 72 ad E sz)) (va_Qi (S := Nat → va_E) (fun r u => IX cT shM spM 72 ad u ∧ Kp w_fitOf E u ∧ ((-1 ≤ r.toInt ∧ r.toInt ≤ 2000))) (HB dC dI 72 ad) (va_A (WX 72 ad E) sz)) 0 0 (va_A (WX 72 ad E) sz) := by
  refine Met.ofW (cc := cX13_fitOf) (maxL := 8) (ret := (some .int)) (by decide) rfl ?_
  intro p e s m args below meth c s₁ B hml hv
  obtain ⟨hargs, hsz, hP, hK, hD0, hEV⟩ := hv
  subst hsz
  have hx := B.exec
  have hb := B.bytes
  have hr := B.returns
  have hts := atoms_spec (ws := v_fitOf) B.pre
  have hown : s.vm.findClass RX13 = some m.cls := findClass_of_methodNamed B.named
  have hlocks := B.notSynchronized
  have hinX13 : ∀ w ∈ u_ws RX13 TX13 97, w ∈ v_fitOf := fun w h => vA_in _ w (in_X13 w h)
  generalize hAe : va_A (WX 72 ad E) s.heap.size = A at hEV ⊢
  have hA : ∀ q : Nat, s.heap.size ≤ q → A q := fun q h => by rw [← hAe]; exact Or.inr h
  have hD : va_D A (WX 72 ad E) := by rw [← hAe]; exact hD0.self
  have hS : va_S A s.heap s.heap [] := va_S.rf
  have hI := hI0
  have hKp : Kp w_fitOf E E := Kp.rf
  have hl := lv_entry ([.ref (ad 0), .int a0]) (n := 8) (Nat.le_of_ble_eq_true rfl)
  obtain ⟨Q, hQ⟩ : ∃ Q, Q = MQ below (va_Qi (S := Nat → va_E) (fun r u => IX cT shM spM 72 ad u ∧ Kp w_fitOf E u ∧ ((-1 ≤ r.toInt ∧ r.toInt ≤ 2000))) (HB dC dI 72 ad) (A)) args s 0 0 (A) := ⟨_, rfl⟩
  rw [← hQ, show entryFrame m args 8 = _ from (congrArg (fun z => entryFrame m z 8) hargs).trans (lg_entry_eq _ _ _)]
  generalize (lg_sl ([.ref (ad 0), .int a0]) ++ List.replicate (8 - (lg_sl ([.ref (ad 0), .int a0])).length) Slot.unset).toArray = ls at hl ⊢
  have hl : lv_has ls 8 [(0, .ref (ad 0)), (1, .int a0)] := hl
  refine lv_iconst (v := 0) hx hb dX13_fitOf_0 (by decide) ?_
  refine lv_istore_n (lv' := [(2, .int 0), (0, .ref (ad 0)), (1, .int a0)]) hx hb dX13_fitOf_1 rfl hl (by decide) rfl (fun ls hl => ?_)
  refine lv_iconst (v := 0) hx hb dX13_fitOf_2 (by decide) ?_
  refine lv_istore_n (lv' := [(3, .int 0), (2, .int 0), (0, .ref (ad 0)), (1, .int a0)]) hx hb dX13_fitOf_3 rfl hl (by decide) rfl (fun ls hl => ?_)
  have hL4 : ∀ d : Nat, ∀ (v4_3 : Int32) (v4_2 : Int32) (E4_ : Nat → va_E) (H : Heap) (locs : List Loc) (ls : Array Slot), 0 ≤ v4_3.toInt ∧ v4_3.toInt ≤ 20 → 0 ≤ v4_2.toInt ∧ v4_2.toInt ≤ 20 → v4_2.toInt ≤ v4_3.toInt → 20 - v4_3.toInt < (d : Int) → IX cT shM spM 72 ad E4_ → Kp w_fitOf E E4_ → va_P (dC, dI) vwCl (WX 72 ad E4_) H → va_S A s.heap H locs → lv_has ls 8 [(3, .int v4_3), (2, .int v4_2), (0, .ref (ad 0)), (1, .int a0)] → W p l e (headSpec v_fitOf rm_fitOf).room s m args below meth c H locs 0 0 Q (F0 m 4 ls []) := by
    intro d
    induction d with
    | zero =>
      intro v4_3 v4_2 E4_ H locs ls hv4_3 hv4_2 hx4_0 hx4_1 hI hKp hP hS hl
      exact absurd hx4_1 (by omega)
    | succ d ih4 =>
      intro v4_3 v4_2 E4_ H locs ls hv4_3 hv4_2 hx4_0 hx4_1 hI hKp hP hS hl
      refine lv_iload_n hx hb dX13_fitOf_4 rfl (lv_at hl 0 rfl) ?_
      refine lv_aload_n hx hb dX13_fitOf_5 rfl (lv_at hl 2 rfl) ?_
      have i1 : 0 ≤ (xi (E 0) 46).toInt ∧ (xi (E 0) 46).toInt ≤ 20 := hI0.iv 0 (Nat.le_of_ble_eq_true rfl) rfl (Nat.le_of_ble_eq_true rfl) rfl
      refine th_get (ci := 14) (C := RX13) (T := TX13) (N := 97) (v := .int (xi (E 0) 46)) hx hb hts hinX13 hown hK hP hI 0 (Nat.le_of_ble_eq_true rfl) rfl rfl 46 (Nat.le_of_ble_eq_true rfl) (hts _ (vA_in _ _ (in_24 _ (List.mem_of_getElem? (i := 17) rfl)))) (fun _ h9 => h9) (th_v0 hKp hI0 0 (Nat.le_of_ble_eq_true rfl) rfl (Nat.le_of_ble_eq_true rfl) rfl rfl) dX13_fitOf_6 ?_
      refine lv_icmp_ge (tgt := 64) hx hb dX13_fitOf_9 (by decide) (fun c2 => ?_) (fun c2 => ?_)
      · --9 taken
        have t3 : (xi (E 0) 46).toInt ≤ v4_3.toInt := ti_le c2
        refine lv_iload_n hx hb dX13_fitOf_64 rfl (lv_at hl 1 rfl) ?_
        refine lv_if_ne (tgt := 70) hx hb dX13_fitOf_65 (by decide) (fun c4 => ?_) (fun c4 => ?_)
        · --65 taken
          have t5 : ¬ v4_2.toInt = 0 := ti_ne c4
          have i6 : 1 ≤ v4_2.toInt ∧ v4_2.toInt ≤ 20 := iv_ne_l t5 hv4_2 (il_ 0)
          refine lv_iconst (v := -1) hx hb dX13_fitOf_70 (by decide) ?_
          refine lv_istore_n (lv' := [(3, .int (-1)), (2, .int v4_2), (0, .ref (ad 0)), (1, .int a0)]) hx hb dX13_fitOf_71 rfl hl (by decide) rfl (fun ls hl => ?_)
          refine lv_iconst (v := 0) hx hb dX13_fitOf_72 (by decide) ?_
          refine lv_istore (lv' := [(4, .int 0), (3, .int (-1)), (2, .int v4_2), (0, .ref (ad 0)), (1, .int a0)]) hx hb dX13_fitOf_73 hl (by decide) rfl (fun ls hl => ?_)
          refine lv_sipush (v := 500) hx hb dX13_fitOf_75 (by decide) ?_
          refine lv_istore (lv' := [(5, .int 500), (4, .int 0), (3, .int (-1)), (2, .int v4_2), (0, .ref (ad 0)), (1, .int a0)]) hx hb dX13_fitOf_78 hl (by decide) rfl (fun ls hl => ?_)
          have hL80 : ∀ d : Nat, ∀ (v80_5 : Int32) (v80_4 : Int32) (v80_3 : Int32) (H : Heap) (locs : List Loc) (ls : Array Slot), 500 ≤ v80_5.toInt ∧ v80_5.toInt ≤ 2001 → -1 ≤ v80_3.toInt ∧ v80_3.toInt ≤ 2000 → 2001 - v80_5.toInt < (d : Int) → va_P (dC, dI) vwCl (WX 72 ad E4_) H → va_S A s.heap H locs → lv_has ls 8 [(5, .int v80_5), (4, .int v80_4), (3, .int v80_3), (2, .int v4_2), (0, .ref (ad 0)), (1, .int a0)] → W p l e (headSpec v_fitOf rm_fitOf).room s m args below meth c H locs 0 0 Q (F0 m 80 ls []) := by
            intro d
            induction d with
            | zero =>
              intro v80_5 v80_4 v80_3 H locs ls hv80_5 hv80_3 hx80_0 hP hS hl
              exact absurd hx80_0 (by omega)
            | succ d ih80 =>
              intro v80_5 v80_4 v80_3 H locs ls hv80_5 hv80_3 hx80_0 hP hS hl
              refine lv_iload hx hb dX13_fitOf_80 (lv_at hl 0 rfl) ?_
              refine lv_sipush (v := 2000) hx hb dX13_fitOf_82 (by decide) ?_
              refine lv_icmp_gt (tgt := 164) hx hb dX13_fitOf_85 (by decide) (fun c7 => ?_) (fun c7 => ?_)
              · --85 taken
                have t8 : (2000 : Int) < v80_5.toInt := ti_lt c7
                have i9 : 2001 ≤ v80_5.toInt ∧ v80_5.toInt ≤ 2001 := iv_lt_r t8 (il_ 2000) hv80_5 (by decide)
                refine lv_iload_n hx hb dX13_fitOf_164 rfl (lv_at hl 2 rfl) ?_
                rw [hQ]
                exact W.iret (v := v80_3) hx hb hr (fun t ht hW => ⟨⟨v80_3, E4_, rfl, ⟨hI, hKp, hv80_3⟩, by show va_P (dC, dI) vwCl (WX 72 ad E4_) t.heap; rw [ht]; exact hP⟩, hS.F ht⟩) hS.2.2 dX13_fitOf_165
              · --85 not
                have t10 : v80_5.toInt ≤ 2000 := ti_nlt c7
                have i11 : 500 ≤ v80_5.toInt ∧ v80_5.toInt ≤ 2000 := iv_le_l t10 hv80_5 (il_ 2000) (by decide)
                refine lv_iconst (v := 0) hx hb dX13_fitOf_88 (by decide) ?_
                refine lv_istore (lv' := [(6, .int 0), (5, .int v80_5), (4, .int v80_4), (3, .int v80_3), (2, .int v4_2), (0, .ref (ad 0)), (1, .int a0)]) hx hb dX13_fitOf_89 hl (by decide) rfl (fun ls hl => ?_)
                refine lv_iconst (v := 0) hx hb dX13_fitOf_91 (by decide) ?_
                refine lv_istore (lv' := [(7, .int 0), (6, .int 0), (5, .int v80_5), (4, .int v80_4), (3, .int v80_3), (2, .int v4_2), (0, .ref (ad 0)), (1, .int a0)]) hx hb dX13_fitOf_92 hl (by decide) rfl (fun ls hl => ?_)
                have hL94 : ∀ d : Nat, ∀ (v94_7 : Int32) (v94_6 : Int32) (H : Heap) (locs : List Loc) (ls : Array Slot), 0 ≤ v94_7.toInt ∧ v94_7.toInt ≤ 20 → v94_7.toInt ≤ v4_2.toInt → 20 - v94_7.toInt < (d : Int) → va_P (dC, dI) vwCl (WX 72 ad E4_) H → va_S A s.heap H locs → lv_has ls 8 [(7, .int v94_7), (6, .int v94_6), (5, .int v80_5), (4, .int v80_4), (3, .int v80_3), (2, .int v4_2), (0, .ref (ad 0)), (1, .int a0)] → W p l e (headSpec v_fitOf rm_fitOf).room s m args below meth c H locs 0 0 Q (F0 m 94 ls []) := by
                  intro d
                  induction d with
                  | zero =>
                    intro v94_7 v94_6 H locs ls hv94_7 hx94_0 hx94_1 hP hS hl
                    exact absurd hx94_1 (by omega)
                  | succ d ih94 =>
                    intro v94_7 v94_6 H locs ls hv94_7 hx94_0 hx94_1 hP hS hl
                    refine lv_iload hx hb dX13_fitOf_94 (lv_at hl 0 rfl) ?_
                    refine lv_iload_n hx hb dX13_fitOf_96 rfl (lv_at hl 5 rfl) ?_
                    refine lv_icmp_ge (tgt := 136) hx hb dX13_fitOf_97 (by decide) (fun c12 => ?_) (fun c12 => ?_)
                    · --97 taken
                      have t13 : v4_2.toInt ≤ v94_7.toInt := ti_le c12
                      have i14 : 1 ≤ v94_7.toInt ∧ v94_7.toInt ≤ 20 := iv_le_r t13 i6 hv94_7 (by decide)
                      refine lv_iload_n hx hb dX13_fitOf_136 rfl (lv_at hl 4 rfl) ?_
                      refine lv_iconst (v := -1) hx hb dX13_fitOf_137 (by decide) ?_
                      refine lv_icmp_eq (tgt := 151) hx hb dX13_fitOf_138 (by decide) (fun c15 => ?_) (fun c15 => ?_)
                      · --138 taken
                        have t16 : v80_3.toInt = -1 := ti_eq c15
                        have i17 : -1 ≤ v80_3.toInt ∧ v80_3.toInt ≤ -1 := iv_eqi t16 hv80_3 (il_ (-1)) (by decide)
                        refine lv_iload hx hb dX13_fitOf_151 (lv_at hl 2 rfl) ?_
                        refine lv_istore_n (lv' := [(3, .int v80_5), (7, .int v94_7), (6, .int v94_6), (5, .int v80_5), (4, .int v80_4), (2, .int v4_2), (0, .ref (ad 0)), (1, .int a0)]) hx hb dX13_fitOf_153 rfl hl (by decide) rfl (fun ls hl => ?_)
                        refine lv_iload hx hb dX13_fitOf_154 (lv_at hl 2 rfl) ?_
                        refine lv_istore (lv' := [(4, .int v94_6), (3, .int v80_5), (7, .int v94_7), (6, .int v94_6), (5, .int v80_5), (2, .int v4_2), (0, .ref (ad 0)), (1, .int a0)]) hx hb dX13_fitOf_156 hl (by decide) rfl (fun ls hl => ?_)
                        obtain ⟨y18, ey18⟩ : ∃ y : Int32, y = v80_5 + (1 : Int32) := ⟨_, rfl⟩
                        obtain ⟨ty18, iy18⟩ := ti_add (e := 501) (f := 2001) i11 ln_1 ey18 (by decide)
                        have ty18 : y18.toInt = v80_5.toInt + 1 := ty18
                        have iy18 : 501 ≤ y18.toInt ∧ y18.toInt ≤ 2001 := iy18
                        refine lv_iinc (v := y18) (lv' := [(5, .int y18), (4, .int v94_6), (3, .int v80_5), (7, .int v94_7), (6, .int v94_6), (2, .int v4_2), (0, .ref (ad 0)), (1, .int a0)]) hx hb dX13_fitOf_158 hl (k := 4) rfl (by rw [ey18]; rfl) (by decide) rfl (fun ls hl => ?_)
                        refine lv_goto (tgt := 80) hx hb dX13_fitOf_161 (by decide) ?_
                        exact ih80 y18 v94_6 v80_5 _ _ _ (iv_w iy18 (by decide)) (iv_w i11 (by decide)) (by omega) hP hS (lv_sub hl [0, 1, 2, 5, 6, 7] rfl)
                      · --138 not
                        have t19 : ¬ v80_3.toInt = -1 := ti_ne c15
                        have i20 : 0 ≤ v80_3.toInt ∧ v80_3.toInt ≤ 2000 := iv_ne_l t19 hv80_3 (il_ (-1))
                        refine lv_iload hx hb dX13_fitOf_141 (lv_at hl 1 rfl) ?_
                        refine lv_iload hx hb dX13_fitOf_143 (lv_at hl 3 rfl) ?_
                        refine lv_icmp_lt (tgt := 151) hx hb dX13_fitOf_145 (by decide) (fun c21 => ?_) (fun c21 => ?_)
                        · --145 taken
                          have t22 : v94_6.toInt < v80_4.toInt := ti_lt c21
                          have i23 : -2147483648 ≤ v94_6.toInt ∧ v94_6.toInt ≤ 2147483646 := iv_lt_l t22 (iv_all _) (iv_all _) (by decide)
                          have i24 : -2147483647 ≤ v80_4.toInt ∧ v80_4.toInt ≤ 2147483647 := iv_lt_r t22 (iv_all _) (iv_all _) (by decide)
                          refine lv_iload hx hb dX13_fitOf_151 (lv_at hl 2 rfl) ?_
                          refine lv_istore_n (lv' := [(3, .int v80_5), (7, .int v94_7), (6, .int v94_6), (5, .int v80_5), (4, .int v80_4), (2, .int v4_2), (0, .ref (ad 0)), (1, .int a0)]) hx hb dX13_fitOf_153 rfl hl (by decide) rfl (fun ls hl => ?_)
                          refine lv_iload hx hb dX13_fitOf_154 (lv_at hl 2 rfl) ?_
                          refine lv_istore (lv' := [(4, .int v94_6), (3, .int v80_5), (7, .int v94_7), (6, .int v94_6), (5, .int v80_5), (2, .int v4_2), (0, .ref (ad 0)), (1, .int a0)]) hx hb dX13_fitOf_156 hl (by decide) rfl (fun ls hl => ?_)
                          obtain ⟨y25, ey25⟩ : ∃ y : Int32, y = v80_5 + (1 : Int32) := ⟨_, rfl⟩
                          obtain ⟨ty25, iy25⟩ := ti_add (e := 501) (f := 2001) i11 ln_1 ey25 (by decide)
                          have ty25 : y25.toInt = v80_5.toInt + 1 := ty25
                          have iy25 : 501 ≤ y25.toInt ∧ y25.toInt ≤ 2001 := iy25
                          refine lv_iinc (v := y25) (lv' := [(5, .int y25), (4, .int v94_6), (3, .int v80_5), (7, .int v94_7), (6, .int v94_6), (2, .int v4_2), (0, .ref (ad 0)), (1, .int a0)]) hx hb dX13_fitOf_158 hl (k := 4) rfl (by rw [ey25]; rfl) (by decide) rfl (fun ls hl => ?_)
                          refine lv_goto (tgt := 80) hx hb dX13_fitOf_161 (by decide) ?_
                          exact ih80 y25 v94_6 v80_5 _ _ _ (iv_w iy25 (by decide)) (iv_w i11 (by decide)) (by omega) hP hS (lv_sub hl [0, 1, 2, 5, 6, 7] rfl)
                        · --145 not
                          have t26 : v80_4.toInt ≤ v94_6.toInt := ti_nlt c21
                          refine lv_goto (tgt := 158) hx hb dX13_fitOf_148 (by decide) ?_
                          obtain ⟨y27, ey27⟩ : ∃ y : Int32, y = v80_5 + (1 : Int32) := ⟨_, rfl⟩
                          obtain ⟨ty27, iy27⟩ := ti_add (e := 501) (f := 2001) i11 ln_1 ey27 (by decide)
                          have ty27 : y27.toInt = v80_5.toInt + 1 := ty27
                          have iy27 : 501 ≤ y27.toInt ∧ y27.toInt ≤ 2001 := iy27
                          refine lv_iinc (v := y27) (lv' := [(5, .int y27), (7, .int v94_7), (6, .int v94_6), (4, .int v80_4), (3, .int v80_3), (2, .int v4_2), (0, .ref (ad 0)), (1, .int a0)]) hx hb dX13_fitOf_158 hl (k := 2) rfl (by rw [ey27]; rfl) (by decide) rfl (fun ls hl => ?_)
                          refine lv_goto (tgt := 80) hx hb dX13_fitOf_161 (by decide) ?_
                          exact ih80 y27 v80_4 v80_3 _ _ _ (iv_w iy27 (by decide)) (iv_w i20 (by decide)) (by omega) hP hS (lv_sub hl [0, 3, 4, 5, 6, 7] rfl)
                    · --97 not
                      have t28 : v94_7.toInt < v4_2.toInt := ti_nle c12
                      have i29 : 0 ≤ v94_7.toInt ∧ v94_7.toInt ≤ 19 := iv_lt_l t28 hv94_7 i6 (by decide)
                      refine lv_iload hx hb dX13_fitOf_100 (lv_at hl 1 rfl) ?_
                      refine lv_aload_n hx hb dX13_fitOf_102 rfl (lv_at hl 6 rfl) ?_
                      refine th_get (ci := 14) (C := RX13) (T := TX13) (N := 97) (v := .ref (ad 67)) hx hb hts hinX13 hown hK hP hI 0 (Nat.le_of_ble_eq_true rfl) rfl rfl 91 (Nat.le_of_ble_eq_true rfl) (hts _ (vA_in _ _ (in_31 _ (List.mem_of_getElem? (i := 18) rfl)))) (fun _ h9 => h9) (hI.fr 0 (Nat.le_of_ble_eq_true rfl) rfl (Nat.le_of_ble_eq_true rfl) 67 rfl) dX13_fitOf_103 ?_
                      refine lv_iload hx hb dX13_fitOf_106 (lv_at hl 0 rfl) ?_
                      have n31 : vp_in v94_7 20 := (iv_in (n := 20) i29 (by decide))
                      refine th_iald hx hb hK hP hI 67 (Nat.le_of_ble_eq_true rfl) rfl rfl n31 dX13_fitOf_108 (fun y30 ey30 => ?_)
                      have iy30 : 0 ≤ y30.toInt ∧ y30.toInt ≤ 200000 := hI.el 67 (Nat.le_of_ble_eq_true rfl) rfl n31 (fun _ => rfl) ey30
                      refine lv_iload hx hb dX13_fitOf_109 (lv_at hl 2 rfl) ?_
                      refine lv_imul hx hb dX13_fitOf_111 ?_
                      refine lv_topi (fun y32 ey32 => ?_)
                      obtain ⟨ty32, iy32⟩ := ti_mul (e := 0) (f := 400000000) iy30 i11 ey32 (by decide)
                      have ty32 : y32.toInt = y30.toInt * v80_5.toInt := ty32
                      have iy32 : 0 ≤ y32.toInt ∧ y32.toInt ≤ 400000000 := iy32
                      refine lv_sipush (v := 1000) hx hb dX13_fitOf_112 (by decide) ?_
                      refine lv_idiv hx hb dX13_fitOf_115 (by decide) ?_
                      refine lv_topi (fun y33 ey33 => ?_)
                      obtain ⟨ty33, iy33⟩ := ti_div (e := 0) (f := 400000) iy32 ln_1000 ey33 (by decide)
                      have iy33 : 0 ≤ y33.toInt ∧ y33.toInt ≤ 400000 := iy33
                      refine lv_aload_n hx hb dX13_fitOf_116 rfl (lv_at hl 6 rfl) ?_
                      refine th_get (ci := 14) (C := RX13) (T := TX13) (N := 97) (v := .ref (ad 68)) hx hb hts hinX13 hown hK hP hI 0 (Nat.le_of_ble_eq_true rfl) rfl rfl 92 (Nat.le_of_ble_eq_true rfl) (hts _ (vA_in _ _ (in_31 _ (List.mem_of_getElem? (i := 19) rfl)))) (fun _ h9 => h9) (hI.fr 0 (Nat.le_of_ble_eq_true rfl) rfl (Nat.le_of_ble_eq_true rfl) 68 rfl) dX13_fitOf_117 ?_
                      refine lv_iload hx hb dX13_fitOf_120 (lv_at hl 0 rfl) ?_
                      have n35 : vp_in v94_7 20 := (iv_in (n := 20) i29 (by decide))
                      refine th_iald hx hb hK hP hI 68 (Nat.le_of_ble_eq_true rfl) rfl rfl n35 dX13_fitOf_122 (fun y34 ey34 => ?_)
                      refine lv_isub hx hb dX13_fitOf_123 ?_
                      refine lv_topi (fun y36 ey36 => ?_)
                      refine va_mabs hx hb (by rw [hml]; exact hl.1.symm) hown (hts _ (vA_in _ _ (in_25 _ (List.mem_of_getElem? (i := 34) rfl)))) (hts _ (vA_in _ _ (in_23 _ (List.mem_of_getElem? (i := 10) rfl)))) (hts _ (vA_in _ _ (in_0 _ (List.mem_of_getElem? (i := 33) rfl)))) (hts _ (vA_in _ _ (in_23 _ (List.mem_of_getElem? (i := 11) rfl)))) (Nat.le_of_ble_eq_true rfl) (Nat.le_of_ble_eq_true rfl) (Nat.le_of_ble_eq_true rfl) (Nat.le_of_ble_eq_true rfl) dX13_fitOf_124 ?_
                      refine lv_topi (fun y37 ey37 => ?_)
                      refine lv_iadd hx hb dX13_fitOf_127 ?_
                      refine lv_topi (fun y38 ey38 => ?_)
                      refine lv_istore (lv' := [(6, .int y38), (7, .int v94_7), (5, .int v80_5), (4, .int v80_4), (3, .int v80_3), (2, .int v4_2), (0, .ref (ad 0)), (1, .int a0)]) hx hb dX13_fitOf_128 hl (by decide) rfl (fun ls hl => ?_)
                      obtain ⟨y39, ey39⟩ : ∃ y : Int32, y = v94_7 + (1 : Int32) := ⟨_, rfl⟩
                      obtain ⟨ty39, iy39⟩ := ti_add (e := 1) (f := 20) i29 ln_1 ey39 (by decide)
                      have ty39 : y39.toInt = v94_7.toInt + 1 := ty39
                      have iy39 : 1 ≤ y39.toInt ∧ y39.toInt ≤ 20 := iy39
                      refine lv_iinc (v := y39) (lv' := [(7, .int y39), (6, .int y38), (5, .int v80_5), (4, .int v80_4), (3, .int v80_3), (2, .int v4_2), (0, .ref (ad 0)), (1, .int a0)]) hx hb dX13_fitOf_130 hl (k := 1) rfl (by rw [ey39]; rfl) (by decide) rfl (fun ls hl => ?_)
                      refine lv_goto (tgt := 94) hx hb dX13_fitOf_133 (by decide) ?_
                      exact ih94 y39 y38 _ _ _ (iv_w iy39 (by decide)) (by have h9 := iy39; omega) (by omega) hP hS (lv_sub hl [0, 1, 2, 3, 4, 5, 6, 7] rfl)
                exact hL94 (21) (0 : Int32) (0 : Int32) _ _ _ (iv_w ln_0 (by decide)) (by have h9 := ln_0; omega) (by have h9 := ln_0; omega) hP hS (lv_sub hl [0, 1, 2, 3, 4, 5, 6, 7] rfl)
          exact hL80 (1502) (500 : Int32) (0 : Int32) (-1 : Int32) _ _ _ (iv_w ln_500 (by decide)) (iv_w ln_m1 (by decide)) (by have h9 := ln_500; omega) hP hS (lv_sub hl [0, 1, 2, 3, 4, 5] rfl)
        · --65 not
          have t40 : v4_2.toInt = 0 := ti_eq c4
          have i41 : 0 ≤ v4_2.toInt ∧ v4_2.toInt ≤ 0 := iv_eqi t40 hv4_2 (il_ 0) (by decide)
          refine lv_iconst (v := -1) hx hb dX13_fitOf_68 (by decide) ?_
          rw [hQ]
          exact W.iret (v := (-1)) hx hb hr (fun t ht hW => ⟨⟨(-1), E4_, rfl, ⟨hI, hKp, (iv_w ln_m1 (by decide))⟩, by show va_P (dC, dI) vwCl (WX 72 ad E4_) t.heap; rw [ht]; exact hP⟩, hS.F ht⟩) hS.2.2 dX13_fitOf_69
      · --9 not
        have t42 : v4_3.toInt < (xi (E 0) 46).toInt := ti_nle c2
        have i43 : 0 ≤ v4_3.toInt ∧ v4_3.toInt ≤ 19 := iv_lt_l t42 hv4_3 i1 (by decide)
        have i44 : 1 ≤ (xi (E 0) 46).toInt ∧ (xi (E 0) 46).toInt ≤ 20 := iv_lt_r t42 hv4_3 i1 (by decide)
        refine lv_aload_n hx hb dX13_fitOf_12 rfl (lv_at hl 2 rfl) ?_
        refine lv_iload_n hx hb dX13_fitOf_13 rfl (lv_at hl 0 rfl) ?_
        refine lv_iload_n hx hb dX13_fitOf_14 rfl (lv_at hl 3 rfl) ?_
        refine th_i (va_runV (As := [.int v4_3, .int a0]) (rest := []) ⟨hx, hb, hml, hown, hts⟩ (q_middleOf l dC dI cT ad E4_ H.size v4_3 a0 hI i43 hh0) (cwV 2 hts (gi_V (in_31 _ (List.mem_of_getElem? (i := 20) rfl)) (in_31 _ (List.mem_of_getElem? (i := 21) rfl)) (in_31 _ (List.mem_of_getElem? (i := 22) rfl)) (in_24 _ (List.mem_of_getElem? (i := 15) rfl)) (in_31 _ (List.mem_of_getElem? (i := 23) rfl))) rfl rfl rfl (by decide +kernel) ⟨Nat.le_of_ble_eq_true rfl, Nat.le_of_ble_eq_true rfl⟩) ⟨HW_bl, va_recv hK hP (ci := 14) (q0 := 0) rfl (hI.ob 0 (Nat.le_of_ble_eq_true rfl) rfl), (HW_wi hP hK (WX_D hD) hS hA hEV)⟩ rfl rfl hl.1 rfl (lv_room (Nat.le_of_ble_eq_true rfl)) dX13_fitOf_15 ⟨Nat.le_of_ble_eq_true rfl, Nat.le_of_ble_eq_true rfl⟩) (WX_D hD) hS hA (fun r45 E46 H locs hw hP hS => ?_)
        obtain ⟨hI, kq47, hw⟩ := hw
        have hKb := hKp
        have hKp := hKp.tr kq47 (wl_sub rfl rfl)
        have f48 := hw
        have i49 : 0 ≤ (xi (E 0) 47).toInt ∧ (xi (E 0) 47).toInt ≤ 300 := (show 0 ≤ (xi (E 0) 47).toInt ∧ (xi (E 0) 47).toInt ≤ 300 from hI0.iv 0 (Nat.le_of_ble_eq_true rfl) rfl (Nat.le_of_ble_eq_true rfl) rfl)
        have i50 : 0 ≤ (xi (E 0) 1).toInt ∧ (xi (E 0) 1).toInt ≤ 400 := (show 0 ≤ (xi (E 0) 1).toInt ∧ (xi (E 0) 1).toInt ≤ 400 from hI0.iv 0 (Nat.le_of_ble_eq_true rfl) rfl (Nat.le_of_ble_eq_true rfl) rfl)
        try rw [hKb.ei 0 47 rfl] at f48
        try rw [hKb.ef 24 (fun _ => rfl)] at f48
        try rw [hKb.ef 25 (fun _ => rfl)] at f48
        try rw [hKb.ef 28 (fun _ => rfl)] at f48
        try rw [hKb.ei 0 1 rfl] at f48
        refine lv_istore (lv' := [(4, .int r45), (3, .int v4_3), (2, .int v4_2), (0, .ref (ad 0)), (1, .int a0)]) hx hb dX13_fitOf_18 hl (by decide) rfl (fun ls hl => ?_)
        refine lv_iload hx hb dX13_fitOf_20 (lv_at hl 0 rfl) ?_
        refine lv_ldcw hx hb hown (hts _ (vA_in _ _ (in_27 _ (List.mem_of_getElem? (i := 21) rfl)))) dX13_fitOf_22 ?_
        refine lv_icmp_ne (tgt := 31) hx hb dX13_fitOf_25 (by decide) (fun c51 => ?_) (fun c51 => ?_)
        · --25 taken
          have t52 : ¬ r45.toInt = -1000000000 := ti_ne c51
          have i53 : 0 ≤ v4_2.toInt ∧ v4_2.toInt ≤ 19 := by omega
          refine lv_aload_n hx hb dX13_fitOf_31 rfl (lv_at hl 3 rfl) ?_
          refine th_get (ci := 14) (C := RX13) (T := TX13) (N := 97) (v := .ref (ad 67)) hx hb hts hinX13 hown hK hP hI 0 (Nat.le_of_ble_eq_true rfl) rfl rfl 91 (Nat.le_of_ble_eq_true rfl) (hts _ (vA_in _ _ (in_31 _ (List.mem_of_getElem? (i := 18) rfl)))) (fun _ h9 => h9) (hI.fr 0 (Nat.le_of_ble_eq_true rfl) rfl (Nat.le_of_ble_eq_true rfl) 67 rfl) dX13_fitOf_32 ?_
          refine lv_iload_n hx hb dX13_fitOf_35 rfl (lv_at hl 2 rfl) ?_
          refine lv_aload_n hx hb dX13_fitOf_36 rfl (lv_at hl 3 rfl) ?_
          refine lv_iload_n hx hb dX13_fitOf_37 rfl (lv_at hl 1 rfl) ?_
          refine lv_iload_n hx hb dX13_fitOf_38 rfl (lv_at hl 4 rfl) ?_
          refine lv_aload_n hx hb dX13_fitOf_39 rfl (lv_at hl 3 rfl) ?_
          refine th_get (ci := 14) (C := RX13) (T := TX13) (N := 97) (v := .int (xi (E 0) 1)) hx hb hts hinX13 hown hK hP hI 0 (Nat.le_of_ble_eq_true rfl) rfl rfl 1 (Nat.le_of_ble_eq_true rfl) (hts _ (vA_in _ _ (in_24 _ (List.mem_of_getElem? (i := 27) rfl)))) (fun _ h9 => h9) (th_v0 hKp hI0 0 (Nat.le_of_ble_eq_true rfl) rfl (Nat.le_of_ble_eq_true rfl) rfl rfl) dX13_fitOf_40 ?_
          refine th_ri (va_runV (As := [.int v4_3, .int a0, .int (xi (E 0) 1)]) (rest := [.int v4_2, .ref (ad 67)]) ⟨hx, hb, hml, hown, hts⟩ (q_secondsOf l dC dI cT ad E46 H.size v4_3 a0 (xi (E 0) 1) hI (by (try rw [hKp.ei 0 47 rfl]); (try rw [hKp.ef 24 (fun _ => rfl)]); (try rw [hKp.ef 25 (fun _ => rfl)]); (try rw [hKp.ef 28 (fun _ => rfl)]); exact f48 t52)) (cwV 3 hts (gi_V (in_28 _ (List.mem_of_getElem? (i := 17) rfl)) (in_28 _ (List.mem_of_getElem? (i := 18) rfl)) (in_28 _ (List.mem_of_getElem? (i := 19) rfl)) (in_24 _ (List.mem_of_getElem? (i := 15) rfl)) (in_28 _ (List.mem_of_getElem? (i := 20) rfl))) rfl rfl rfl (by decide +kernel) ⟨Nat.le_of_ble_eq_true rfl, Nat.le_of_ble_eq_true rfl⟩) ⟨HW_bl, va_recv hK hP (ci := 14) (q0 := 0) rfl (hI.ob 0 (Nat.le_of_ble_eq_true rfl) rfl), (HW_wi hP hK (WX_D hD) hS hA hEV)⟩ rfl rfl hl.1 rfl (lv_room (Nat.le_of_ble_eq_true rfl)) dX13_fitOf_43 ⟨Nat.le_of_ble_eq_true rfl, Nat.le_of_ble_eq_true rfl⟩) hS hP (fun r54 H locs hw hP hS => ?_)
          have f55 := hw
          have n56 : vp_in v4_2 20 := (iv_in (n := 20) i53 (by decide))
          refine th_iast hx hb hK hP (WX_D hD) hS hI 67 (Nat.le_of_ble_eq_true rfl) rfl rfl n56 (okI rfl f55) dX13_fitOf_46 (fun H locs E57 pw58 hI hP hS => ?_)
          have hKp := hKp.pw pw58 rfl
          refine lv_aload_n hx hb dX13_fitOf_47 rfl (lv_at hl 3 rfl) ?_
          refine th_get (ci := 14) (C := RX13) (T := TX13) (N := 97) (v := .ref (ad 68)) hx hb hts hinX13 hown hK hP hI 0 (Nat.le_of_ble_eq_true rfl) rfl rfl 92 (Nat.le_of_ble_eq_true rfl) (hts _ (vA_in _ _ (in_31 _ (List.mem_of_getElem? (i := 19) rfl)))) (fun _ h9 => h9) (hI.fr 0 (Nat.le_of_ble_eq_true rfl) rfl (Nat.le_of_ble_eq_true rfl) 68 rfl) dX13_fitOf_48 ?_
          refine lv_iload_n hx hb dX13_fitOf_51 rfl (lv_at hl 2 rfl) ?_
          refine lv_iload hx hb dX13_fitOf_52 (lv_at hl 0 rfl) ?_
          have n59 : vp_in v4_2 20 := (iv_in (n := 20) i53 (by decide))
          refine th_iast hx hb hK hP (WX_D hD) hS hI 68 (Nat.le_of_ble_eq_true rfl) rfl rfl n59 (okI rfl (iv_all _)) dX13_fitOf_54 (fun H locs E60 pw61 hI hP hS => ?_)
          have hKp := hKp.pw pw61 rfl
          obtain ⟨y62, ey62⟩ : ∃ y : Int32, y = v4_2 + (1 : Int32) := ⟨_, rfl⟩
          obtain ⟨ty62, iy62⟩ := ti_add (e := 1) (f := 20) i53 ln_1 ey62 (by decide)
          have ty62 : y62.toInt = v4_2.toInt + 1 := ty62
          have iy62 : 1 ≤ y62.toInt ∧ y62.toInt ≤ 20 := iy62
          refine lv_iinc (v := y62) (lv' := [(2, .int y62), (4, .int r45), (3, .int v4_3), (0, .ref (ad 0)), (1, .int a0)]) hx hb dX13_fitOf_55 hl (k := 2) rfl (by rw [ey62]; rfl) (by decide) rfl (fun ls hl => ?_)
          obtain ⟨y63, ey63⟩ : ∃ y : Int32, y = v4_3 + (1 : Int32) := ⟨_, rfl⟩
          obtain ⟨ty63, iy63⟩ := ti_add (e := 1) (f := 20) i43 ln_1 ey63 (by decide)
          have ty63 : y63.toInt = v4_3.toInt + 1 := ty63
          have iy63 : 1 ≤ y63.toInt ∧ y63.toInt ≤ 20 := iy63
          refine lv_iinc (v := y63) (lv' := [(3, .int y63), (2, .int y62), (4, .int r45), (0, .ref (ad 0)), (1, .int a0)]) hx hb dX13_fitOf_58 hl (k := 2) rfl (by rw [ey63]; rfl) (by decide) rfl (fun ls hl => ?_)
          refine lv_goto (tgt := 4) hx hb dX13_fitOf_61 (by decide) ?_
          exact ih4 y63 y62 E60 _ _ _ (iv_w iy63 (by decide)) (iv_w iy62 (by decide)) (by have h9 := iy62; have h8 := iy63; omega) (by omega) hI hKp hP hS (lv_sub hl [0, 1, 3, 4] rfl)
        · --25 not
          have t64 : r45.toInt = -1000000000 := ti_eq c51
          have i65 : -1000000000 ≤ r45.toInt ∧ r45.toInt ≤ -1000000000 := iv_eqi t64 (iv_all _) (il_ (-1000000000)) (by decide)
          refine lv_goto (tgt := 58) hx hb dX13_fitOf_28 (by decide) ?_
          obtain ⟨y66, ey66⟩ : ∃ y : Int32, y = v4_3 + (1 : Int32) := ⟨_, rfl⟩
          obtain ⟨ty66, iy66⟩ := ti_add (e := 1) (f := 20) i43 ln_1 ey66 (by decide)
          have ty66 : y66.toInt = v4_3.toInt + 1 := ty66
          have iy66 : 1 ≤ y66.toInt ∧ y66.toInt ≤ 20 := iy66
          refine lv_iinc (v := y66) (lv' := [(3, .int y66), (4, .int r45), (2, .int v4_2), (0, .ref (ad 0)), (1, .int a0)]) hx hb dX13_fitOf_58 hl (k := 1) rfl (by rw [ey66]; rfl) (by decide) rfl (fun ls hl => ?_)
          refine lv_goto (tgt := 4) hx hb dX13_fitOf_61 (by decide) ?_
          exact ih4 y66 v4_2 E46 _ _ _ (iv_w iy66 (by decide)) hv4_2 (by have h9 := hv4_2; have h8 := iy66; omega) (by omega) hI hKp hP hS (lv_sub hl [0, 2, 3, 4] rfl)
  exact hL4 (21) (0 : Int32) (0 : Int32) E _ _ _ (iv_w ln_0 (by decide)) (iv_w ln_0 (by decide)) (by have h9 := ln_0; have h8 := ln_0; omega) (by have h9 := ln_0; omega) hI hKp hP hS (lv_sub hl [0, 1, 2, 3] rfl)
