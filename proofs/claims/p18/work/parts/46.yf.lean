

def v_joinX : List Cond := .code yX7_join cX7_join 5 (some .int) :: vA
abbrev rm_joinX : Room := { frames := 0, cells := 0, slots := 0, locals := 0 }
set_option maxHeartbeats 4000000 in
set_option maxRecDepth 100000 in
theorem q_joinX (l : Launch) (a0 : Int32) (a1 : Int32) (a2 : Int32) (hh0 : -16777216 ≤ a1.toInt ∧ a1.toInt ≤ 16777215) : Met l yX7_join v_joinX rm_joinX (va_Pc [.int a0, .int a1, .int a2] (fun _ => True)) (va_Qi (S := Unit) (fun r _ => (r = jn a0.toInt a1 a2)) (fun _ _ => True) (fun _ => False)) 0 0 (fun _ => False) := by
  refine Met.ofW (cc := cX7_join) (maxL := 5) (ret := (some .int)) (by decide) rfl ?_
  intro p e s m args below meth c s₁ B hml hv
  obtain ⟨hargs, -⟩ := hv
  have hx := B.exec
  have hb := B.bytes
  have hr := B.returns
  have hts := atoms_spec (ws := v_joinX) B.pre
  have hown : s.vm.findClass RX7 = some m.cls := findClass_of_methodNamed B.named
  have hlocks := B.notSynchronized
  have hS : va_S (fun _ : Nat => False) s.heap s.heap [] := va_S.rf
  have hl := lv_entry ([.int a0, .int a1, .int a2]) (n := 5) (Nat.le_of_ble_eq_true rfl)
  obtain ⟨Q, hQ⟩ : ∃ Q, Q = MQ below (va_Qi (S := Unit) (fun r _ => (r = jn a0.toInt a1 a2)) (fun _ _ => True) (fun _ => False)) args s 0 0 (fun _ => False) := ⟨_, rfl⟩
  rw [← hQ, show entryFrame m args 5 = _ from (congrArg (fun z => entryFrame m z 5) hargs).trans (lg_entry_eq _ _ _)]
  generalize (lg_sl ([.int a0, .int a1, .int a2]) ++ List.replicate (5 - (lg_sl ([.int a0, .int a1, .int a2])).length) Slot.unset).toArray = ls at hl ⊢
  have hl : lv_has ls 5 [(0, .int a0), (1, .int a1), (2, .int a2)] := hl
  refine lv_iload_n hx hb dX7_join_0 rfl (lv_at hl 0 rfl) ?_
  rcases (show (a0.toInt < 38 ∨ 62 < a0.toInt) ∨ a0.toInt = 38 ∨ a0.toInt = 39 ∨ a0.toInt = 40 ∨ a0.toInt = 41 ∨ a0.toInt = 42 ∨ a0.toInt = 43 ∨ a0.toInt = 44 ∨ a0.toInt = 45 ∨ a0.toInt = 46 ∨ a0.toInt = 47 ∨ a0.toInt = 48 ∨ a0.toInt = 49 ∨ a0.toInt = 50 ∨ a0.toInt = 51 ∨ a0.toInt = 52 ∨ a0.toInt = 53 ∨ a0.toInt = 54 ∨ a0.toInt = 55 ∨ a0.toInt = 56 ∨ a0.toInt = 57 ∨ a0.toInt = 58 ∨ a0.toInt = 59 ∨ a0.toInt = 60 ∨ a0.toInt = 61 ∨ a0.toInt = 62 by omega) with c1 | c1 | c1 | c1 | c1 | c1 | c1 | c1 | c1 | c1 | c1 | c1 | c1 | c1 | c1 | c1 | c1 | c1 | c1 | c1 | c1 | c1 | c1 | c1 | c1 | c1
  · --None
    refine lv_tableOut (tgt := 196) hx hb dX7_join_1 c1 (by decide) ?_
    refine lv_iload_n hx hb dX7_join_196 rfl (lv_at hl 1 rfl) ?_
    refine lv_iload_n hx hb dX7_join_197 rfl (lv_at hl 2 rfl) ?_
    refine lv_ior hx hb dX7_join_198 ?_
    refine lv_topi (fun y2 ey2 => ?_)
    rw [hQ]
    exact W.iret (v := y2) hx hb hr (fun t ht hW => ⟨⟨y2, (), rfl, jn_o (by omega) (by omega) (by omega) (by omega) (by omega) (by omega) (by omega) (by omega) ey2, trivial⟩, hS.F ht⟩) hS.2.2 dX7_join_199
  · --38
    refine lv_tableIn (off := 191) (tgt := 192) hx hb dX7_join_1 (by omega) (by omega) (by rw [c1]; rfl) (by decide) ?_
    refine lv_iload_n hx hb dX7_join_192 rfl (lv_at hl 1 rfl) ?_
    refine lv_iload_n hx hb dX7_join_193 rfl (lv_at hl 2 rfl) ?_
    refine lv_iand hx hb dX7_join_194 ?_
    refine lv_topi (fun y3 ey3 => ?_)
    rw [hQ]
    exact W.iret (v := y3) hx hb hr (fun t ht hW => ⟨⟨y3, (), rfl, (by rw [show a0.toInt = 38 by omega]; exact ey3), trivial⟩, hS.F ht⟩) hS.2.2 dX7_join_195
  · --39
    refine lv_tableIn (off := 195) (tgt := 196) hx hb dX7_join_1 (by omega) (by omega) (by rw [c1]; rfl) (by decide) ?_
    refine lv_iload_n hx hb dX7_join_196 rfl (lv_at hl 1 rfl) ?_
    refine lv_iload_n hx hb dX7_join_197 rfl (lv_at hl 2 rfl) ?_
    refine lv_ior hx hb dX7_join_198 ?_
    refine lv_topi (fun y4 ey4 => ?_)
    rw [hQ]
    exact W.iret (v := y4) hx hb hr (fun t ht hW => ⟨⟨y4, (), rfl, jn_o (by omega) (by omega) (by omega) (by omega) (by omega) (by omega) (by omega) (by omega) ey4, trivial⟩, hS.F ht⟩) hS.2.2 dX7_join_199
  · --40
    refine lv_tableIn (off := 195) (tgt := 196) hx hb dX7_join_1 (by omega) (by omega) (by rw [c1]; rfl) (by decide) ?_
    refine lv_iload_n hx hb dX7_join_196 rfl (lv_at hl 1 rfl) ?_
    refine lv_iload_n hx hb dX7_join_197 rfl (lv_at hl 2 rfl) ?_
    refine lv_ior hx hb dX7_join_198 ?_
    refine lv_topi (fun y5 ey5 => ?_)
    rw [hQ]
    exact W.iret (v := y5) hx hb hr (fun t ht hW => ⟨⟨y5, (), rfl, jn_o (by omega) (by omega) (by omega) (by omega) (by omega) (by omega) (by omega) (by omega) ey5, trivial⟩, hS.F ht⟩) hS.2.2 dX7_join_199
  · --41
    refine lv_tableIn (off := 195) (tgt := 196) hx hb dX7_join_1 (by omega) (by omega) (by rw [c1]; rfl) (by decide) ?_
    refine lv_iload_n hx hb dX7_join_196 rfl (lv_at hl 1 rfl) ?_
    refine lv_iload_n hx hb dX7_join_197 rfl (lv_at hl 2 rfl) ?_
    refine lv_ior hx hb dX7_join_198 ?_
    refine lv_topi (fun y6 ey6 => ?_)
    rw [hQ]
    exact W.iret (v := y6) hx hb hr (fun t ht hW => ⟨⟨y6, (), rfl, jn_o (by omega) (by omega) (by omega) (by omega) (by omega) (by omega) (by omega) (by omega) ey6, trivial⟩, hS.F ht⟩) hS.2.2 dX7_join_199
  · --42
    refine lv_tableIn (off := 133) (tgt := 134) hx hb dX7_join_1 (by omega) (by omega) (by rw [c1]; rfl) (by decide) ?_
    refine lv_iload_n hx hb dX7_join_134 rfl (lv_at hl 1 rfl) ?_
    refine lv_i2l hx hb dX7_join_135 rfl ?_
    refine lv_topl (fun y7 ey7 => ?_)
    refine lv_iload_n hx hb dX7_join_136 rfl (lv_at hl 2 rfl) ?_
    refine lv_i2l hx hb dX7_join_137 rfl ?_
    refine lv_topl (fun y8 ey8 => ?_)
    refine lv_lmul hx hb dX7_join_138 ?_
    refine lv_topl (fun y9 ey9 => ?_)
    refine lv_lstore_n (lv' := [(3, .long y9), (0, .int a0), (1, .int a1), (2, .int a2)]) hx hb dX7_join_139 rfl hl (by decide) rfl (fun ls hl => ?_)
    refine lv_goto (tgt := 200) hx hb dX7_join_140 (by decide) ?_
    refine lv_lload_n hx hb dX7_join_200 rfl (lv_at hl 0 rfl) ?_
    refine lv_ldc2 hx hb hown (hts _ (vA_in _ _ (in_7 _ (zs16 (zs1 (zs1 (zs0))))))) dX7_join_201 ?_
    refine lv_topl (fun y10 ey10 => ?_)
    refine W.lcmp hx hb dX7_join_204 ?_
    refine lv_topi (fun y11 ey11 => ?_)
    refine lv_if_le (tgt := 213) hx hb dX7_join_205 (by decide) (fun c12 => ?_) (fun c12 => ?_)
    · --205 taken
      have t13 : y11.toInt ≤ 0 := ti_le c12
      have i14 : -2147483648 ≤ y11.toInt ∧ y11.toInt ≤ 0 := iv_le_l t13 (iv_all _) (il_ 0) (by decide)
      refine lv_lload_n hx hb dX7_join_213 rfl (lv_at hl 0 rfl) ?_
      refine lv_ldc2 hx hb hown (hts _ (vA_in _ _ (in_7 _ (zs16 (zs4 (zs0)))))) dX7_join_214 ?_
      refine lv_topl (fun y15 ey15 => ?_)
      refine W.lcmp hx hb dX7_join_217 ?_
      refine lv_topi (fun y16 ey16 => ?_)
      refine lv_if_ge (tgt := 226) hx hb dX7_join_218 (by decide) (fun c17 => ?_) (fun c17 => ?_)
      · --218 taken
        have t18 : (0 : Int) ≤ y16.toInt := ti_le c17
        have i19 : 0 ≤ y16.toInt ∧ y16.toInt ≤ 2147483647 := iv_le_r t18 (il_ 0) (iv_all _) (by decide)
        refine lv_lload_n hx hb dX7_join_226 rfl (lv_at hl 0 rfl) ?_
        refine lv_l2i hx hb dX7_join_227 rfl ?_
        refine lv_topi (fun y20 ey20 => ?_)
        rw [hQ]
        exact W.iret (v := y20) hx hb hr (fun t ht hW => ⟨⟨y20, (), rfl, (by have jx : y9.toInt = a1.toInt * a2.toInt := tl_mul (ey9.trans (by rw [ey7, ey8])); have l1 : y10.toInt = 10000000 := (by rw [ey10]; decide); have c1 := lgc ey11; have l2 : y15.toInt = -10000000 := (by rw [ey15]; decide); have c2 := lgc ey16; rw [show a0.toInt = 42 by omega]; exact cl_mid jx (by omega) (by omega) ey20), trivial⟩, hS.F ht⟩) hS.2.2 dX7_join_228
      · --218 not
        have t21 : y16.toInt < 0 := ti_nle c17
        have i22 : -2147483648 ≤ y16.toInt ∧ y16.toInt ≤ -1 := iv_lt_l t21 (iv_all _) (il_ 0) (by decide)
        refine lv_ldc hx hb hown (hts _ (vA_in _ _ (in_7 _ (zs16 (zs4 (zs1 (zs0))))))) dX7_join_221 ?_
        refine lv_goto (tgt := 228) hx hb dX7_join_223 (by decide) ?_
        rw [hQ]
        exact W.iret (v := (-10000000)) hx hb hr (fun t ht hW => ⟨⟨(-10000000), (), rfl, (by have jx : y9.toInt = a1.toInt * a2.toInt := tl_mul (ey9.trans (by rw [ey7, ey8])); have l1 : y10.toInt = 10000000 := (by rw [ey10]; decide); have c1 := lgc ey11; have l2 : y15.toInt = -10000000 := (by rw [ey15]; decide); have c2 := lgc ey16; rw [show a0.toInt = 42 by omega]; exact cl_lo (by omega)), trivial⟩, hS.F ht⟩) hS.2.2 dX7_join_228
    · --205 not
      have t23 : (0 : Int) < y11.toInt := ti_nle c12
      have i24 : 1 ≤ y11.toInt ∧ y11.toInt ≤ 2147483647 := iv_lt_r t23 (il_ 0) (iv_all _) (by decide)
      refine lv_ldc hx hb hown (hts _ (vA_in _ _ (in_7 _ (zs16 (zs1 (zs1 (zs1 (zs0)))))))) dX7_join_208 ?_
      refine lv_goto (tgt := 228) hx hb dX7_join_210 (by decide) ?_
      rw [hQ]
      exact W.iret (v := 10000000) hx hb hr (fun t ht hW => ⟨⟨10000000, (), rfl, (by have jx : y9.toInt = a1.toInt * a2.toInt := tl_mul (ey9.trans (by rw [ey7, ey8])); have l1 : y10.toInt = 10000000 := (by rw [ey10]; decide); have c1 := lgc ey11; rw [show a0.toInt = 42 by omega]; exact cl_hi (by omega)), trivial⟩, hS.F ht⟩) hS.2.2 dX7_join_228
  · --43
    refine lv_tableIn (off := 115) (tgt := 116) hx hb dX7_join_1 (by omega) (by omega) (by rw [c1]; rfl) (by decide) ?_
    refine lv_iload_n hx hb dX7_join_116 rfl (lv_at hl 1 rfl) ?_
    refine lv_i2l hx hb dX7_join_117 rfl ?_
    refine lv_topl (fun y25 ey25 => ?_)
    refine lv_iload_n hx hb dX7_join_118 rfl (lv_at hl 2 rfl) ?_
    refine lv_i2l hx hb dX7_join_119 rfl ?_
    refine lv_topl (fun y26 ey26 => ?_)
    refine lv_ladd hx hb dX7_join_120 ?_
    refine lv_topl (fun y27 ey27 => ?_)
    refine lv_lstore_n (lv' := [(3, .long y27), (0, .int a0), (1, .int a1), (2, .int a2)]) hx hb dX7_join_121 rfl hl (by decide) rfl (fun ls hl => ?_)
    refine lv_goto (tgt := 200) hx hb dX7_join_122 (by decide) ?_
    refine lv_lload_n hx hb dX7_join_200 rfl (lv_at hl 0 rfl) ?_
    refine lv_ldc2 hx hb hown (hts _ (vA_in _ _ (in_7 _ (zs16 (zs1 (zs1 (zs0))))))) dX7_join_201 ?_
    refine lv_topl (fun y28 ey28 => ?_)
    refine W.lcmp hx hb dX7_join_204 ?_
    refine lv_topi (fun y29 ey29 => ?_)
    refine lv_if_le (tgt := 213) hx hb dX7_join_205 (by decide) (fun c30 => ?_) (fun c30 => ?_)
    · --205 taken
      have t31 : y29.toInt ≤ 0 := ti_le c30
      have i32 : -2147483648 ≤ y29.toInt ∧ y29.toInt ≤ 0 := iv_le_l t31 (iv_all _) (il_ 0) (by decide)
      refine lv_lload_n hx hb dX7_join_213 rfl (lv_at hl 0 rfl) ?_
      refine lv_ldc2 hx hb hown (hts _ (vA_in _ _ (in_7 _ (zs16 (zs4 (zs0)))))) dX7_join_214 ?_
      refine lv_topl (fun y33 ey33 => ?_)
      refine W.lcmp hx hb dX7_join_217 ?_
      refine lv_topi (fun y34 ey34 => ?_)
      refine lv_if_ge (tgt := 226) hx hb dX7_join_218 (by decide) (fun c35 => ?_) (fun c35 => ?_)
      · --218 taken
        have t36 : (0 : Int) ≤ y34.toInt := ti_le c35
        have i37 : 0 ≤ y34.toInt ∧ y34.toInt ≤ 2147483647 := iv_le_r t36 (il_ 0) (iv_all _) (by decide)
        refine lv_lload_n hx hb dX7_join_226 rfl (lv_at hl 0 rfl) ?_
        refine lv_l2i hx hb dX7_join_227 rfl ?_
        refine lv_topi (fun y38 ey38 => ?_)
        rw [hQ]
        exact W.iret (v := y38) hx hb hr (fun t ht hW => ⟨⟨y38, (), rfl, (by have jx : y27.toInt = a1.toInt + a2.toInt := tl_add (ey27.trans (by rw [ey25, ey26])); have l1 : y28.toInt = 10000000 := (by rw [ey28]; decide); have c1 := lgc ey29; have l2 : y33.toInt = -10000000 := (by rw [ey33]; decide); have c2 := lgc ey34; rw [show a0.toInt = 43 by omega]; exact cl_mid jx (by omega) (by omega) ey38), trivial⟩, hS.F ht⟩) hS.2.2 dX7_join_228
      · --218 not
        have t39 : y34.toInt < 0 := ti_nle c35
        have i40 : -2147483648 ≤ y34.toInt ∧ y34.toInt ≤ -1 := iv_lt_l t39 (iv_all _) (il_ 0) (by decide)
        refine lv_ldc hx hb hown (hts _ (vA_in _ _ (in_7 _ (zs16 (zs4 (zs1 (zs0))))))) dX7_join_221 ?_
        refine lv_goto (tgt := 228) hx hb dX7_join_223 (by decide) ?_
        rw [hQ]
        exact W.iret (v := (-10000000)) hx hb hr (fun t ht hW => ⟨⟨(-10000000), (), rfl, (by have jx : y27.toInt = a1.toInt + a2.toInt := tl_add (ey27.trans (by rw [ey25, ey26])); have l1 : y28.toInt = 10000000 := (by rw [ey28]; decide); have c1 := lgc ey29; have l2 : y33.toInt = -10000000 := (by rw [ey33]; decide); have c2 := lgc ey34; rw [show a0.toInt = 43 by omega]; exact cl_lo (by omega)), trivial⟩, hS.F ht⟩) hS.2.2 dX7_join_228
    · --205 not
      have t41 : (0 : Int) < y29.toInt := ti_nle c30
      have i42 : 1 ≤ y29.toInt ∧ y29.toInt ≤ 2147483647 := iv_lt_r t41 (il_ 0) (iv_all _) (by decide)
      refine lv_ldc hx hb hown (hts _ (vA_in _ _ (in_7 _ (zs16 (zs1 (zs1 (zs1 (zs0)))))))) dX7_join_208 ?_
      refine lv_goto (tgt := 228) hx hb dX7_join_210 (by decide) ?_
      rw [hQ]
      exact W.iret (v := 10000000) hx hb hr (fun t ht hW => ⟨⟨10000000, (), rfl, (by have jx : y27.toInt = a1.toInt + a2.toInt := tl_add (ey27.trans (by rw [ey25, ey26])); have l1 : y28.toInt = 10000000 := (by rw [ey28]; decide); have c1 := lgc ey29; rw [show a0.toInt = 43 by omega]; exact cl_hi (by omega)), trivial⟩, hS.F ht⟩) hS.2.2 dX7_join_228
  · --44
    refine lv_tableIn (off := 195) (tgt := 196) hx hb dX7_join_1 (by omega) (by omega) (by rw [c1]; rfl) (by decide) ?_
    refine lv_iload_n hx hb dX7_join_196 rfl (lv_at hl 1 rfl) ?_
    refine lv_iload_n hx hb dX7_join_197 rfl (lv_at hl 2 rfl) ?_
    refine lv_ior hx hb dX7_join_198 ?_
    refine lv_topi (fun y43 ey43 => ?_)
    rw [hQ]
    exact W.iret (v := y43) hx hb hr (fun t ht hW => ⟨⟨y43, (), rfl, jn_o (by omega) (by omega) (by omega) (by omega) (by omega) (by omega) (by omega) (by omega) ey43, trivial⟩, hS.F ht⟩) hS.2.2 dX7_join_199
  · --45
    refine lv_tableIn (off := 124) (tgt := 125) hx hb dX7_join_1 (by omega) (by omega) (by rw [c1]; rfl) (by decide) ?_
    refine lv_iload_n hx hb dX7_join_125 rfl (lv_at hl 1 rfl) ?_
    refine lv_i2l hx hb dX7_join_126 rfl ?_
    refine lv_topl (fun y44 ey44 => ?_)
    refine lv_iload_n hx hb dX7_join_127 rfl (lv_at hl 2 rfl) ?_
    refine lv_i2l hx hb dX7_join_128 rfl ?_
    refine lv_topl (fun y45 ey45 => ?_)
    refine lv_lsub hx hb dX7_join_129 ?_
    refine lv_topl (fun y46 ey46 => ?_)
    refine lv_lstore_n (lv' := [(3, .long y46), (0, .int a0), (1, .int a1), (2, .int a2)]) hx hb dX7_join_130 rfl hl (by decide) rfl (fun ls hl => ?_)
    refine lv_goto (tgt := 200) hx hb dX7_join_131 (by decide) ?_
    refine lv_lload_n hx hb dX7_join_200 rfl (lv_at hl 0 rfl) ?_
    refine lv_ldc2 hx hb hown (hts _ (vA_in _ _ (in_7 _ (zs16 (zs1 (zs1 (zs0))))))) dX7_join_201 ?_
    refine lv_topl (fun y47 ey47 => ?_)
    refine W.lcmp hx hb dX7_join_204 ?_
    refine lv_topi (fun y48 ey48 => ?_)
    refine lv_if_le (tgt := 213) hx hb dX7_join_205 (by decide) (fun c49 => ?_) (fun c49 => ?_)
    · --205 taken
      have t50 : y48.toInt ≤ 0 := ti_le c49
      have i51 : -2147483648 ≤ y48.toInt ∧ y48.toInt ≤ 0 := iv_le_l t50 (iv_all _) (il_ 0) (by decide)
      refine lv_lload_n hx hb dX7_join_213 rfl (lv_at hl 0 rfl) ?_
      refine lv_ldc2 hx hb hown (hts _ (vA_in _ _ (in_7 _ (zs16 (zs4 (zs0)))))) dX7_join_214 ?_
      refine lv_topl (fun y52 ey52 => ?_)
      refine W.lcmp hx hb dX7_join_217 ?_
      refine lv_topi (fun y53 ey53 => ?_)
      refine lv_if_ge (tgt := 226) hx hb dX7_join_218 (by decide) (fun c54 => ?_) (fun c54 => ?_)
      · --218 taken
        have t55 : (0 : Int) ≤ y53.toInt := ti_le c54
        have i56 : 0 ≤ y53.toInt ∧ y53.toInt ≤ 2147483647 := iv_le_r t55 (il_ 0) (iv_all _) (by decide)
        refine lv_lload_n hx hb dX7_join_226 rfl (lv_at hl 0 rfl) ?_
        refine lv_l2i hx hb dX7_join_227 rfl ?_
        refine lv_topi (fun y57 ey57 => ?_)
        rw [hQ]
        exact W.iret (v := y57) hx hb hr (fun t ht hW => ⟨⟨y57, (), rfl, (by have jx : y46.toInt = a1.toInt - a2.toInt := tl_sub (ey46.trans (by rw [ey44, ey45])); have l1 : y47.toInt = 10000000 := (by rw [ey47]; decide); have c1 := lgc ey48; have l2 : y52.toInt = -10000000 := (by rw [ey52]; decide); have c2 := lgc ey53; rw [show a0.toInt = 45 by omega]; exact cl_mid jx (by omega) (by omega) ey57), trivial⟩, hS.F ht⟩) hS.2.2 dX7_join_228
      · --218 not
        have t58 : y53.toInt < 0 := ti_nle c54
        have i59 : -2147483648 ≤ y53.toInt ∧ y53.toInt ≤ -1 := iv_lt_l t58 (iv_all _) (il_ 0) (by decide)
        refine lv_ldc hx hb hown (hts _ (vA_in _ _ (in_7 _ (zs16 (zs4 (zs1 (zs0))))))) dX7_join_221 ?_
        refine lv_goto (tgt := 228) hx hb dX7_join_223 (by decide) ?_
        rw [hQ]
        exact W.iret (v := (-10000000)) hx hb hr (fun t ht hW => ⟨⟨(-10000000), (), rfl, (by have jx : y46.toInt = a1.toInt - a2.toInt := tl_sub (ey46.trans (by rw [ey44, ey45])); have l1 : y47.toInt = 10000000 := (by rw [ey47]; decide); have c1 := lgc ey48; have l2 : y52.toInt = -10000000 := (by rw [ey52]; decide); have c2 := lgc ey53; rw [show a0.toInt = 45 by omega]; exact cl_lo (by omega)), trivial⟩, hS.F ht⟩) hS.2.2 dX7_join_228
    · --205 not
      have t60 : (0 : Int) < y48.toInt := ti_nle c49
      have i61 : 1 ≤ y48.toInt ∧ y48.toInt ≤ 2147483647 := iv_lt_r t60 (il_ 0) (iv_all _) (by decide)
      refine lv_ldc hx hb hown (hts _ (vA_in _ _ (in_7 _ (zs16 (zs1 (zs1 (zs1 (zs0)))))))) dX7_join_208 ?_
      refine lv_goto (tgt := 228) hx hb dX7_join_210 (by decide) ?_
      rw [hQ]
      exact W.iret (v := 10000000) hx hb hr (fun t ht hW => ⟨⟨10000000, (), rfl, (by have jx : y46.toInt = a1.toInt - a2.toInt := tl_sub (ey46.trans (by rw [ey44, ey45])); have l1 : y47.toInt = 10000000 := (by rw [ey47]; decide); have c1 := lgc ey48; rw [show a0.toInt = 45 by omega]; exact cl_hi (by omega)), trivial⟩, hS.F ht⟩) hS.2.2 dX7_join_228
  · --46
    refine lv_tableIn (off := 195) (tgt := 196) hx hb dX7_join_1 (by omega) (by omega) (by rw [c1]; rfl) (by decide) ?_
    refine lv_iload_n hx hb dX7_join_196 rfl (lv_at hl 1 rfl) ?_
    refine lv_iload_n hx hb dX7_join_197 rfl (lv_at hl 2 rfl) ?_
    refine lv_ior hx hb dX7_join_198 ?_
    refine lv_topi (fun y62 ey62 => ?_)
    rw [hQ]
    exact W.iret (v := y62) hx hb hr (fun t ht hW => ⟨⟨y62, (), rfl, jn_o (by omega) (by omega) (by omega) (by omega) (by omega) (by omega) (by omega) (by omega) ey62, trivial⟩, hS.F ht⟩) hS.2.2 dX7_join_199
  · --47
    refine lv_tableIn (off := 142) (tgt := 143) hx hb dX7_join_1 (by omega) (by omega) (by rw [c1]; rfl) (by decide) ?_
    refine lv_iload_n hx hb dX7_join_143 rfl (lv_at hl 2 rfl) ?_
    refine lv_if_ne (tgt := 151) hx hb dX7_join_144 (by decide) (fun c63 => ?_) (fun c63 => ?_)
    · --144 taken
      have t64 : ¬ a2.toInt = 0 := ti_ne c63
      refine lv_iload_n hx hb dX7_join_151 rfl (lv_at hl 1 rfl) ?_
      refine lv_iload_n hx hb dX7_join_152 rfl (lv_at hl 2 rfl) ?_
      refine lv_idiv hx hb dX7_join_153 (fun h9 => t64 (by rw [h9]; rfl)) ?_
      refine lv_topi (fun y65 ey65 => ?_)
      refine lv_i2l hx hb dX7_join_154 rfl ?_
      refine lv_topl (fun y66 ey66 => ?_)
      refine lv_lstore_n (lv' := [(3, .long y66), (0, .int a0), (1, .int a1), (2, .int a2)]) hx hb dX7_join_155 rfl hl (by decide) rfl (fun ls hl => ?_)
      refine lv_goto (tgt := 200) hx hb dX7_join_156 (by decide) ?_
      refine lv_lload_n hx hb dX7_join_200 rfl (lv_at hl 0 rfl) ?_
      refine lv_ldc2 hx hb hown (hts _ (vA_in _ _ (in_7 _ (zs16 (zs1 (zs1 (zs0))))))) dX7_join_201 ?_
      refine lv_topl (fun y67 ey67 => ?_)
      refine W.lcmp hx hb dX7_join_204 ?_
      refine lv_topi (fun y68 ey68 => ?_)
      refine lv_if_le (tgt := 213) hx hb dX7_join_205 (by decide) (fun c69 => ?_) (fun c69 => ?_)
      · --205 taken
        have t70 : y68.toInt ≤ 0 := ti_le c69
        have i71 : -2147483648 ≤ y68.toInt ∧ y68.toInt ≤ 0 := iv_le_l t70 (iv_all _) (il_ 0) (by decide)
        refine lv_lload_n hx hb dX7_join_213 rfl (lv_at hl 0 rfl) ?_
        refine lv_ldc2 hx hb hown (hts _ (vA_in _ _ (in_7 _ (zs16 (zs4 (zs0)))))) dX7_join_214 ?_
        refine lv_topl (fun y72 ey72 => ?_)
        refine W.lcmp hx hb dX7_join_217 ?_
        refine lv_topi (fun y73 ey73 => ?_)
        refine lv_if_ge (tgt := 226) hx hb dX7_join_218 (by decide) (fun c74 => ?_) (fun c74 => ?_)
        · --218 taken
          have t75 : (0 : Int) ≤ y73.toInt := ti_le c74
          have i76 : 0 ≤ y73.toInt ∧ y73.toInt ≤ 2147483647 := iv_le_r t75 (il_ 0) (iv_all _) (by decide)
          refine lv_lload_n hx hb dX7_join_226 rfl (lv_at hl 0 rfl) ?_
          refine lv_l2i hx hb dX7_join_227 rfl ?_
          refine lv_topi (fun y77 ey77 => ?_)
          rw [hQ]
          exact W.iret (v := y77) hx hb hr (fun t ht hW => ⟨⟨y77, (), rfl, (by have jx : y66.toInt = a1.toInt.tdiv a2.toInt := (congrArg Int64.toInt ey66).trans ((Int32.toInt_toInt64 _).trans (ti_dvq ⟨by omega, by omega⟩ ey65)); have l1 : y67.toInt = 10000000 := (by rw [ey67]; decide); have c1 := lgc ey68; have l2 : y72.toInt = -10000000 := (by rw [ey72]; decide); have c2 := lgc ey73; rw [show a0.toInt = 47 by omega]; exact (cl_mid jx (by omega) (by omega) ey77).trans (if_neg (fun q9 => absurd (congrArg Int32.toInt q9) (show ¬ a2.toInt = 0 by omega))).symm), trivial⟩, hS.F ht⟩) hS.2.2 dX7_join_228
        · --218 not
          have t78 : y73.toInt < 0 := ti_nle c74
          have i79 : -2147483648 ≤ y73.toInt ∧ y73.toInt ≤ -1 := iv_lt_l t78 (iv_all _) (il_ 0) (by decide)
          refine lv_ldc hx hb hown (hts _ (vA_in _ _ (in_7 _ (zs16 (zs4 (zs1 (zs0))))))) dX7_join_221 ?_
          refine lv_goto (tgt := 228) hx hb dX7_join_223 (by decide) ?_
          rw [hQ]
          exact W.iret (v := (-10000000)) hx hb hr (fun t ht hW => ⟨⟨(-10000000), (), rfl, (by have jx : y66.toInt = a1.toInt.tdiv a2.toInt := (congrArg Int64.toInt ey66).trans ((Int32.toInt_toInt64 _).trans (ti_dvq ⟨by omega, by omega⟩ ey65)); have l1 : y67.toInt = 10000000 := (by rw [ey67]; decide); have c1 := lgc ey68; have l2 : y72.toInt = -10000000 := (by rw [ey72]; decide); have c2 := lgc ey73; rw [show a0.toInt = 47 by omega]; exact (cl_lo (by omega)).trans (if_neg (fun q9 => absurd (congrArg Int32.toInt q9) (show ¬ a2.toInt = 0 by omega))).symm), trivial⟩, hS.F ht⟩) hS.2.2 dX7_join_228
      · --205 not
        have t80 : (0 : Int) < y68.toInt := ti_nle c69
        have i81 : 1 ≤ y68.toInt ∧ y68.toInt ≤ 2147483647 := iv_lt_r t80 (il_ 0) (iv_all _) (by decide)
        refine lv_ldc hx hb hown (hts _ (vA_in _ _ (in_7 _ (zs16 (zs1 (zs1 (zs1 (zs0)))))))) dX7_join_208 ?_
        refine lv_goto (tgt := 228) hx hb dX7_join_210 (by decide) ?_
        rw [hQ]
        exact W.iret (v := 10000000) hx hb hr (fun t ht hW => ⟨⟨10000000, (), rfl, (by have jx : y66.toInt = a1.toInt.tdiv a2.toInt := (congrArg Int64.toInt ey66).trans ((Int32.toInt_toInt64 _).trans (ti_dvq ⟨by omega, by omega⟩ ey65)); have l1 : y67.toInt = 10000000 := (by rw [ey67]; decide); have c1 := lgc ey68; rw [show a0.toInt = 47 by omega]; exact (cl_hi (by omega)).trans (if_neg (fun q9 => absurd (congrArg Int32.toInt q9) (show ¬ a2.toInt = 0 by omega))).symm), trivial⟩, hS.F ht⟩) hS.2.2 dX7_join_228
    · --144 not
      have t82 : a2.toInt = 0 := ti_eq c63
      have i83 : 0 ≤ a2.toInt ∧ a2.toInt ≤ 0 := iv_eqi t82 (iv_all _) (il_ 0) (by decide)
      refine lv_lconst hx hb dX7_join_147 rfl ?_
      refine lv_topl (fun y84 ey84 => ?_)
      refine lv_goto (tgt := 155) hx hb dX7_join_148 (by decide) ?_
      refine lv_lstore_n (lv' := [(3, .long y84), (0, .int a0), (1, .int a1), (2, .int a2)]) hx hb dX7_join_155 rfl hl (by decide) rfl (fun ls hl => ?_)
      refine lv_goto (tgt := 200) hx hb dX7_join_156 (by decide) ?_
      refine lv_lload_n hx hb dX7_join_200 rfl (lv_at hl 0 rfl) ?_
      refine lv_ldc2 hx hb hown (hts _ (vA_in _ _ (in_7 _ (zs16 (zs1 (zs1 (zs0))))))) dX7_join_201 ?_
      refine lv_topl (fun y85 ey85 => ?_)
      refine W.lcmp hx hb dX7_join_204 ?_
      refine lv_topi (fun y86 ey86 => ?_)
      refine lv_if_le (tgt := 213) hx hb dX7_join_205 (by decide) (fun c87 => ?_) (fun c87 => ?_)
      · --205 taken
        have t88 : y86.toInt ≤ 0 := ti_le c87
        have i89 : -2147483648 ≤ y86.toInt ∧ y86.toInt ≤ 0 := iv_le_l t88 (iv_all _) (il_ 0) (by decide)
        refine lv_lload_n hx hb dX7_join_213 rfl (lv_at hl 0 rfl) ?_
        refine lv_ldc2 hx hb hown (hts _ (vA_in _ _ (in_7 _ (zs16 (zs4 (zs0)))))) dX7_join_214 ?_
        refine lv_topl (fun y90 ey90 => ?_)
        refine W.lcmp hx hb dX7_join_217 ?_
        refine lv_topi (fun y91 ey91 => ?_)
        refine lv_if_ge (tgt := 226) hx hb dX7_join_218 (by decide) (fun c92 => ?_) (fun c92 => ?_)
        · --218 taken
          have t93 : (0 : Int) ≤ y91.toInt := ti_le c92
          have i94 : 0 ≤ y91.toInt ∧ y91.toInt ≤ 2147483647 := iv_le_r t93 (il_ 0) (iv_all _) (by decide)
          refine lv_lload_n hx hb dX7_join_226 rfl (lv_at hl 0 rfl) ?_
          refine lv_l2i hx hb dX7_join_227 rfl ?_
          refine lv_topi (fun y95 ey95 => ?_)
          rw [hQ]
          exact W.iret (v := y95) hx hb hr (fun t ht hW => ⟨⟨y95, (), rfl, (by have jx : y84.toInt = 0 := congrArg Int64.toInt ey84; have l1 : y85.toInt = 10000000 := (by rw [ey85]; decide); have c1 := lgc ey86; have l2 : y90.toInt = -10000000 := (by rw [ey90]; decide); have c2 := lgc ey91; first | (exfalso; omega) | (rw [show a0.toInt = 47 by omega]; exact (show cl 0 = jn 47 a1 a2 from (show cl 0 = 0 by decide).trans (if_pos (Int32.toInt_inj.mp (show a2.toInt = 0 by omega))).symm) ▸ (cl_mid jx (by omega) (by omega) ey95))), trivial⟩, hS.F ht⟩) hS.2.2 dX7_join_228
        · --218 not
          have t96 : y91.toInt < 0 := ti_nle c92
          have i97 : -2147483648 ≤ y91.toInt ∧ y91.toInt ≤ -1 := iv_lt_l t96 (iv_all _) (il_ 0) (by decide)
          refine lv_ldc hx hb hown (hts _ (vA_in _ _ (in_7 _ (zs16 (zs4 (zs1 (zs0))))))) dX7_join_221 ?_
          refine lv_goto (tgt := 228) hx hb dX7_join_223 (by decide) ?_
          rw [hQ]
          exact W.iret (v := (-10000000)) hx hb hr (fun t ht hW => ⟨⟨(-10000000), (), rfl, (by have jx : y84.toInt = 0 := congrArg Int64.toInt ey84; have l1 : y85.toInt = 10000000 := (by rw [ey85]; decide); have c1 := lgc ey86; have l2 : y90.toInt = -10000000 := (by rw [ey90]; decide); have c2 := lgc ey91; first | (exfalso; omega) | (rw [show a0.toInt = 47 by omega]; exact (show cl 0 = jn 47 a1 a2 from (show cl 0 = 0 by decide).trans (if_pos (Int32.toInt_inj.mp (show a2.toInt = 0 by omega))).symm) ▸ (cl_lo (by omega)))), trivial⟩, hS.F ht⟩) hS.2.2 dX7_join_228
      · --205 not
        have t98 : (0 : Int) < y86.toInt := ti_nle c87
        have i99 : 1 ≤ y86.toInt ∧ y86.toInt ≤ 2147483647 := iv_lt_r t98 (il_ 0) (iv_all _) (by decide)
        refine lv_ldc hx hb hown (hts _ (vA_in _ _ (in_7 _ (zs16 (zs1 (zs1 (zs1 (zs0)))))))) dX7_join_208 ?_
        refine lv_goto (tgt := 228) hx hb dX7_join_210 (by decide) ?_
        rw [hQ]
        exact W.iret (v := 10000000) hx hb hr (fun t ht hW => ⟨⟨10000000, (), rfl, (by have jx : y84.toInt = 0 := congrArg Int64.toInt ey84; have l1 : y85.toInt = 10000000 := (by rw [ey85]; decide); have c1 := lgc ey86; first | (exfalso; omega) | (rw [show a0.toInt = 47 by omega]; exact (show cl 0 = jn 47 a1 a2 from (show cl 0 = 0 by decide).trans (if_pos (Int32.toInt_inj.mp (show a2.toInt = 0 by omega))).symm) ▸ (cl_hi (by omega)))), trivial⟩, hS.F ht⟩) hS.2.2 dX7_join_228
  · --48
    refine lv_tableIn (off := 195) (tgt := 196) hx hb dX7_join_1 (by omega) (by omega) (by rw [c1]; rfl) (by decide) ?_
    refine lv_iload_n hx hb dX7_join_196 rfl (lv_at hl 1 rfl) ?_
    refine lv_iload_n hx hb dX7_join_197 rfl (lv_at hl 2 rfl) ?_
    refine lv_ior hx hb dX7_join_198 ?_
    refine lv_topi (fun y100 ey100 => ?_)
    rw [hQ]
    exact W.iret (v := y100) hx hb hr (fun t ht hW => ⟨⟨y100, (), rfl, jn_o (by omega) (by omega) (by omega) (by omega) (by omega) (by omega) (by omega) (by omega) ey100, trivial⟩, hS.F ht⟩) hS.2.2 dX7_join_199
  · --49
    refine lv_tableIn (off := 195) (tgt := 196) hx hb dX7_join_1 (by omega) (by omega) (by rw [c1]; rfl) (by decide) ?_
    refine lv_iload_n hx hb dX7_join_196 rfl (lv_at hl 1 rfl) ?_
    refine lv_iload_n hx hb dX7_join_197 rfl (lv_at hl 2 rfl) ?_
    refine lv_ior hx hb dX7_join_198 ?_
    refine lv_topi (fun y101 ey101 => ?_)
    rw [hQ]
    exact W.iret (v := y101) hx hb hr (fun t ht hW => ⟨⟨y101, (), rfl, jn_o (by omega) (by omega) (by omega) (by omega) (by omega) (by omega) (by omega) (by omega) ey101, trivial⟩, hS.F ht⟩) hS.2.2 dX7_join_199
  · --50
    refine lv_tableIn (off := 195) (tgt := 196) hx hb dX7_join_1 (by omega) (by omega) (by rw [c1]; rfl) (by decide) ?_
    refine lv_iload_n hx hb dX7_join_196 rfl (lv_at hl 1 rfl) ?_
    refine lv_iload_n hx hb dX7_join_197 rfl (lv_at hl 2 rfl) ?_
    refine lv_ior hx hb dX7_join_198 ?_
    refine lv_topi (fun y102 ey102 => ?_)
    rw [hQ]
    exact W.iret (v := y102) hx hb hr (fun t ht hW => ⟨⟨y102, (), rfl, jn_o (by omega) (by omega) (by omega) (by omega) (by omega) (by omega) (by omega) (by omega) ey102, trivial⟩, hS.F ht⟩) hS.2.2 dX7_join_199
  · --51
    refine lv_tableIn (off := 195) (tgt := 196) hx hb dX7_join_1 (by omega) (by omega) (by rw [c1]; rfl) (by decide) ?_
    refine lv_iload_n hx hb dX7_join_196 rfl (lv_at hl 1 rfl) ?_
    refine lv_iload_n hx hb dX7_join_197 rfl (lv_at hl 2 rfl) ?_
    refine lv_ior hx hb dX7_join_198 ?_
    refine lv_topi (fun y103 ey103 => ?_)
    rw [hQ]
    exact W.iret (v := y103) hx hb hr (fun t ht hW => ⟨⟨y103, (), rfl, jn_o (by omega) (by omega) (by omega) (by omega) (by omega) (by omega) (by omega) (by omega) ey103, trivial⟩, hS.F ht⟩) hS.2.2 dX7_join_199
  · --52
    refine lv_tableIn (off := 195) (tgt := 196) hx hb dX7_join_1 (by omega) (by omega) (by rw [c1]; rfl) (by decide) ?_
    refine lv_iload_n hx hb dX7_join_196 rfl (lv_at hl 1 rfl) ?_
    refine lv_iload_n hx hb dX7_join_197 rfl (lv_at hl 2 rfl) ?_
    refine lv_ior hx hb dX7_join_198 ?_
    refine lv_topi (fun y104 ey104 => ?_)
    rw [hQ]
    exact W.iret (v := y104) hx hb hr (fun t ht hW => ⟨⟨y104, (), rfl, jn_o (by omega) (by omega) (by omega) (by omega) (by omega) (by omega) (by omega) (by omega) ey104, trivial⟩, hS.F ht⟩) hS.2.2 dX7_join_199
  · --53
    refine lv_tableIn (off := 195) (tgt := 196) hx hb dX7_join_1 (by omega) (by omega) (by rw [c1]; rfl) (by decide) ?_
    refine lv_iload_n hx hb dX7_join_196 rfl (lv_at hl 1 rfl) ?_
    refine lv_iload_n hx hb dX7_join_197 rfl (lv_at hl 2 rfl) ?_
    refine lv_ior hx hb dX7_join_198 ?_
    refine lv_topi (fun y105 ey105 => ?_)
    rw [hQ]
    exact W.iret (v := y105) hx hb hr (fun t ht hW => ⟨⟨y105, (), rfl, jn_o (by omega) (by omega) (by omega) (by omega) (by omega) (by omega) (by omega) (by omega) ey105, trivial⟩, hS.F ht⟩) hS.2.2 dX7_join_199
  · --54
    refine lv_tableIn (off := 195) (tgt := 196) hx hb dX7_join_1 (by omega) (by omega) (by rw [c1]; rfl) (by decide) ?_
    refine lv_iload_n hx hb dX7_join_196 rfl (lv_at hl 1 rfl) ?_
    refine lv_iload_n hx hb dX7_join_197 rfl (lv_at hl 2 rfl) ?_
    refine lv_ior hx hb dX7_join_198 ?_
    refine lv_topi (fun y106 ey106 => ?_)
    rw [hQ]
    exact W.iret (v := y106) hx hb hr (fun t ht hW => ⟨⟨y106, (), rfl, jn_o (by omega) (by omega) (by omega) (by omega) (by omega) (by omega) (by omega) (by omega) ey106, trivial⟩, hS.F ht⟩) hS.2.2 dX7_join_199
  · --55
    refine lv_tableIn (off := 195) (tgt := 196) hx hb dX7_join_1 (by omega) (by omega) (by rw [c1]; rfl) (by decide) ?_
    refine lv_iload_n hx hb dX7_join_196 rfl (lv_at hl 1 rfl) ?_
    refine lv_iload_n hx hb dX7_join_197 rfl (lv_at hl 2 rfl) ?_
    refine lv_ior hx hb dX7_join_198 ?_
    refine lv_topi (fun y107 ey107 => ?_)
    rw [hQ]
    exact W.iret (v := y107) hx hb hr (fun t ht hW => ⟨⟨y107, (), rfl, jn_o (by omega) (by omega) (by omega) (by omega) (by omega) (by omega) (by omega) (by omega) ey107, trivial⟩, hS.F ht⟩) hS.2.2 dX7_join_199
  · --56
    refine lv_tableIn (off := 195) (tgt := 196) hx hb dX7_join_1 (by omega) (by omega) (by rw [c1]; rfl) (by decide) ?_
    refine lv_iload_n hx hb dX7_join_196 rfl (lv_at hl 1 rfl) ?_
    refine lv_iload_n hx hb dX7_join_197 rfl (lv_at hl 2 rfl) ?_
    refine lv_ior hx hb dX7_join_198 ?_
    refine lv_topi (fun y108 ey108 => ?_)
    rw [hQ]
    exact W.iret (v := y108) hx hb hr (fun t ht hW => ⟨⟨y108, (), rfl, jn_o (by omega) (by omega) (by omega) (by omega) (by omega) (by omega) (by omega) (by omega) ey108, trivial⟩, hS.F ht⟩) hS.2.2 dX7_join_199
  · --57
    refine lv_tableIn (off := 195) (tgt := 196) hx hb dX7_join_1 (by omega) (by omega) (by rw [c1]; rfl) (by decide) ?_
    refine lv_iload_n hx hb dX7_join_196 rfl (lv_at hl 1 rfl) ?_
    refine lv_iload_n hx hb dX7_join_197 rfl (lv_at hl 2 rfl) ?_
    refine lv_ior hx hb dX7_join_198 ?_
    refine lv_topi (fun y109 ey109 => ?_)
    rw [hQ]
    exact W.iret (v := y109) hx hb hr (fun t ht hW => ⟨⟨y109, (), rfl, jn_o (by omega) (by omega) (by omega) (by omega) (by omega) (by omega) (by omega) (by omega) ey109, trivial⟩, hS.F ht⟩) hS.2.2 dX7_join_199
  · --58
    refine lv_tableIn (off := 195) (tgt := 196) hx hb dX7_join_1 (by omega) (by omega) (by rw [c1]; rfl) (by decide) ?_
    refine lv_iload_n hx hb dX7_join_196 rfl (lv_at hl 1 rfl) ?_
    refine lv_iload_n hx hb dX7_join_197 rfl (lv_at hl 2 rfl) ?_
    refine lv_ior hx hb dX7_join_198 ?_
    refine lv_topi (fun y110 ey110 => ?_)
    rw [hQ]
    exact W.iret (v := y110) hx hb hr (fun t ht hW => ⟨⟨y110, (), rfl, jn_o (by omega) (by omega) (by omega) (by omega) (by omega) (by omega) (by omega) (by omega) ey110, trivial⟩, hS.F ht⟩) hS.2.2 dX7_join_199
  · --59
    refine lv_tableIn (off := 195) (tgt := 196) hx hb dX7_join_1 (by omega) (by omega) (by rw [c1]; rfl) (by decide) ?_
    refine lv_iload_n hx hb dX7_join_196 rfl (lv_at hl 1 rfl) ?_
    refine lv_iload_n hx hb dX7_join_197 rfl (lv_at hl 2 rfl) ?_
    refine lv_ior hx hb dX7_join_198 ?_
    refine lv_topi (fun y111 ey111 => ?_)
    rw [hQ]
    exact W.iret (v := y111) hx hb hr (fun t ht hW => ⟨⟨y111, (), rfl, jn_o (by omega) (by omega) (by omega) (by omega) (by omega) (by omega) (by omega) (by omega) ey111, trivial⟩, hS.F ht⟩) hS.2.2 dX7_join_199
  · --60
    refine lv_tableIn (off := 169) (tgt := 170) hx hb dX7_join_1 (by omega) (by omega) (by rw [c1]; rfl) (by decide) ?_
    refine lv_iload_n hx hb dX7_join_170 rfl (lv_at hl 1 rfl) ?_
    refine lv_iload_n hx hb dX7_join_171 rfl (lv_at hl 2 rfl) ?_
    refine lv_icmp_ge (tgt := 179) hx hb dX7_join_172 (by decide) (fun c112 => ?_) (fun c112 => ?_)
    · --172 taken
      have t113 : a2.toInt ≤ a1.toInt := ti_le c112
      have i114 : -2147483648 ≤ a2.toInt ∧ a2.toInt ≤ 16777215 := iv_le_l t113 (iv_all _) hh0 (by decide)
      refine lv_iconst (v := 0) hx hb dX7_join_179 (by decide) ?_
      rw [hQ]
      exact W.iret (v := 0) hx hb hr (fun t ht hW => ⟨⟨0, (), rfl, (by rw [show a0.toInt = 60 by omega]; exact jn_lt0 (by omega)), trivial⟩, hS.F ht⟩) hS.2.2 dX7_join_180
    · --172 not
      have t115 : a1.toInt < a2.toInt := ti_nle c112
      have i116 : -16777215 ≤ a2.toInt ∧ a2.toInt ≤ 2147483647 := iv_lt_r t115 hh0 (iv_all _) (by decide)
      refine lv_iconst (v := 1) hx hb dX7_join_175 (by decide) ?_
      refine lv_goto (tgt := 180) hx hb dX7_join_176 (by decide) ?_
      rw [hQ]
      exact W.iret (v := 1) hx hb hr (fun t ht hW => ⟨⟨1, (), rfl, (by rw [show a0.toInt = 60 by omega]; exact jn_lt1 (by omega)), trivial⟩, hS.F ht⟩) hS.2.2 dX7_join_180
  · --61
    refine lv_tableIn (off := 158) (tgt := 159) hx hb dX7_join_1 (by omega) (by omega) (by rw [c1]; rfl) (by decide) ?_
    refine lv_iload_n hx hb dX7_join_159 rfl (lv_at hl 1 rfl) ?_
    refine lv_iload_n hx hb dX7_join_160 rfl (lv_at hl 2 rfl) ?_
    refine lv_icmp_ne (tgt := 168) hx hb dX7_join_161 (by decide) (fun c117 => ?_) (fun c117 => ?_)
    · --161 taken
      have t118 : ¬ a1.toInt = a2.toInt := ti_ne c117
      refine lv_iconst (v := 0) hx hb dX7_join_168 (by decide) ?_
      rw [hQ]
      exact W.iret (v := 0) hx hb hr (fun t ht hW => ⟨⟨0, (), rfl, (by rw [show a0.toInt = 61 by omega]; exact jn_eq0 (by omega)), trivial⟩, hS.F ht⟩) hS.2.2 dX7_join_169
    · --161 not
      have t119 : a1.toInt = a2.toInt := ti_eq c117
      have i120 : -16777216 ≤ a2.toInt ∧ a2.toInt ≤ 16777215 := iv_eqi t119.symm (iv_all _) hh0 (by decide)
      refine lv_iconst (v := 1) hx hb dX7_join_164 (by decide) ?_
      refine lv_goto (tgt := 169) hx hb dX7_join_165 (by decide) ?_
      rw [hQ]
      exact W.iret (v := 1) hx hb hr (fun t ht hW => ⟨⟨1, (), rfl, (by rw [show a0.toInt = 61 by omega]; exact jn_eq1 (by omega)), trivial⟩, hS.F ht⟩) hS.2.2 dX7_join_169
  · --62
    refine lv_tableIn (off := 180) (tgt := 181) hx hb dX7_join_1 (by omega) (by omega) (by rw [c1]; rfl) (by decide) ?_
    refine lv_iload_n hx hb dX7_join_181 rfl (lv_at hl 1 rfl) ?_
    refine lv_iload_n hx hb dX7_join_182 rfl (lv_at hl 2 rfl) ?_
    refine lv_icmp_le (tgt := 190) hx hb dX7_join_183 (by decide) (fun c121 => ?_) (fun c121 => ?_)
    · --183 taken
      have t122 : a1.toInt ≤ a2.toInt := ti_le c121
      have i123 : -16777216 ≤ a2.toInt ∧ a2.toInt ≤ 2147483647 := iv_le_r t122 hh0 (iv_all _) (by decide)
      refine lv_iconst (v := 0) hx hb dX7_join_190 (by decide) ?_
      rw [hQ]
      exact W.iret (v := 0) hx hb hr (fun t ht hW => ⟨⟨0, (), rfl, (by rw [show a0.toInt = 62 by omega]; exact jn_gt0 (by omega)), trivial⟩, hS.F ht⟩) hS.2.2 dX7_join_191
    · --183 not
      have t124 : a2.toInt < a1.toInt := ti_nle c121
      have i125 : -2147483648 ≤ a2.toInt ∧ a2.toInt ≤ 16777214 := iv_lt_l t124 (iv_all _) hh0 (by decide)
      refine lv_iconst (v := 1) hx hb dX7_join_186 (by decide) ?_
      refine lv_goto (tgt := 191) hx hb dX7_join_187 (by decide) ?_
      rw [hQ]
      exact W.iret (v := 1) hx hb hr (fun t ht hW => ⟨⟨1, (), rfl, (by rw [show a0.toInt = 62 by omega]; exact jn_gt1 (by omega)), trivial⟩, hS.F ht⟩) hS.2.2 dX7_join_191
def v_letterAtX : List Cond := .code yX7_letterAt cX7_letterAt 2 (some .int) :: vA
abbrev rm_letterAtX : Room := { frames := 0, cells := 0, slots := 0, locals := 0 }
set_option maxHeartbeats 4000000 in
set_option maxRecDepth 100000 in
theorem q_letterAtX (l : Launch) (dC : Nat → ClassId) (dI : Nat → Nat → Nat) (cT : Nat → ClassId) (cf : Nat → Nat) (hC : CF cf) (ad : Nat → Nat) (E : Nat → va_E) (sz : Nat) (a0 : Int32) (hI0 : IXL cT (shC cf) (spC cf) (LC cf) ad E) (hh0 : 0 ≤ a0.toInt ∧ a0.toInt ≤ 2147483647) : Met l yX7_letterAt v_letterAtX rm_letterAtX (va_Pc [.int a0, .ref (ad 19)] (HWL dC dI (TYC cT) cf ad E sz)) (va_Qi (S := Unit) (fun r _ => (r = cL E a0.toNatClampNeg)) (fun _ _ => True) (fun _ => False)) 0 0 (fun _ => False) := by
  obtain ⟨⟨hc0, hc1, hc2, hc3, hc4, hc5⟩, hcr⟩ := id hC
  refine Met.ofW (cc := cX7_letterAt) (maxL := 2) (ret := (some .int)) (by decide) rfl ?_
  intro p e s m args below meth c s₁ B hml hv
  obtain ⟨hargs, hsz, hP, hK, hD0, hEV⟩ := hv
  subst hsz
  have hx := B.exec
  have hb := B.bytes
  have hr := B.returns
  have hts := atoms_spec (ws := v_letterAtX) B.pre
  have hown : s.vm.findClass RX7 = some m.cls := findClass_of_methodNamed B.named
  have hlocks := B.notSynchronized
  have hS : va_S (fun _ : Nat => False) s.heap s.heap [] := va_S.rf
  have hD := hD0
  have hI := hI0
  have hKp : Kp (wl [] []) E E := Kp.rf
  have hl := lv_entry ([.int a0, .ref (ad 19)]) (n := 2) (Nat.le_of_ble_eq_true rfl)
  obtain ⟨Q, hQ⟩ : ∃ Q, Q = MQ below (va_Qi (S := Unit) (fun r _ => (r = cL E a0.toNatClampNeg)) (fun _ _ => True) (fun _ => False)) args s 0 0 (fun _ => False) := ⟨_, rfl⟩
  rw [← hQ, show entryFrame m args 2 = _ from (congrArg (fun z => entryFrame m z 2) hargs).trans (lg_entry_eq _ _ _)]
  generalize (lg_sl ([.int a0, .ref (ad 19)]) ++ List.replicate (2 - (lg_sl ([.int a0, .ref (ad 19)])).length) Slot.unset).toArray = ls at hl ⊢
  have hl : lv_has ls 2 [(0, .int a0), (1, .ref (ad 19))] := hl
  refine lv_iload_n hx hb dX7_letterAt_0 rfl (lv_at hl 0 rfl) ?_
  refine lv_aload_n hx hb dX7_letterAt_1 rfl (lv_at hl 1 rfl) ?_
  refine va_alen (v := 14) hx hb hK hP (posL 19 (LC cf)) 0 (hI.ar 19 (mF 19 rfl) rfl) rfl rfl dX7_letterAt_2 ?_
  refine lv_icmp_ge (tgt := 12) hx hb dX7_letterAt_3 (by decide) (fun c1 => ?_) (fun c1 => ?_)
  · --3 taken
    have t2 : (14 : Int) ≤ a0.toInt := ti_le c1
    have i3 : 14 ≤ a0.toInt ∧ a0.toInt ≤ 2147483647 := iv_le_r t2 (il_ 14) hh0 (by decide)
    refine lv_iconst (v := 0) hx hb dX7_letterAt_12 (by decide) ?_
    rw [hQ]
    exact W.iret (v := 0) hx hb hr (fun t ht hW => ⟨⟨0, (), rfl, (if_neg (show ¬ a0.toNatClampNeg < 14 by rw [tn_]; omega)).symm, trivial⟩, hS.F ht⟩) hS.2.2 dX7_letterAt_13
  · --3 not
    have t4 : a0.toInt < 14 := ti_nle c1
    have i5 : 0 ≤ a0.toInt ∧ a0.toInt ≤ 13 := iv_lt_l t4 hh0 (il_ 14) (by decide)
    refine lv_aload_n hx hb dX7_letterAt_6 rfl (lv_at hl 1 rfl) ?_
    refine lv_iload_n hx hb dX7_letterAt_7 rfl (lv_at hl 0 rfl) ?_
    have n7 : vp_in a0 14 := (iv_in (n := 14) i5 (by decide))
    refine th_ialdL hx hb hK hP hI 19 (mF 19 rfl) rfl rfl n7 dX7_letterAt_8 (fun y6 ey6 => ?_)
    have ey6 := ey6.trans (hKp.ei 19 _ rfl)
    refine lv_goto (tgt := 13) hx hb dX7_letterAt_9 (by decide) ?_
    rw [hQ]
    exact W.iret (v := y6) hx hb hr (fun t ht hW => ⟨⟨y6, (), rfl, ey6.trans (if_pos (show a0.toNatClampNeg < 14 by rw [tn_]; omega)).symm, trivial⟩, hS.F ht⟩) hS.2.2 dX7_letterAt_13
