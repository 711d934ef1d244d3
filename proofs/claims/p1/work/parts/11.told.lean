abbrev cX12_told : ByteArray := prog_1_method_38_code
def yX12_told : MethodName := ⟨RX12, "told", "(II)I"⟩
def RL : String := "UnlikeBoatsLaw"
abbrev cL_told : ByteArray := method_3_code
def yL_told : MethodName := ⟨RL, "told", "(LUnlikeBoats;II[J)I"⟩
theorem dX12_told_0 : decode cX12_told 0 = .ok (.aload_n 0, 1) := by decide +kernel
theorem dX12_told_1 : decode cX12_told 1 = .ok (.getfield 10, 3) := by decide +kernel
theorem dX12_told_4 : decode cX12_told 4 = .ok (.iload_n 1, 1) := by decide +kernel
theorem dX12_told_5 : decode cX12_told 5 = .ok (.invokevirtual 135, 3) := by decide +kernel
theorem dX12_told_8 : decode cX12_told 8 = .ok (.ifCond .ne 14, 3) := by decide +kernel
theorem dX12_told_11 : decode cX12_told 11 = .ok (.new 292, 3) := by decide +kernel
theorem dX12_told_14 : decode cX12_told 14 = .ok (.dup, 1) := by decide +kernel
theorem dX12_told_15 : decode cX12_told 15 = .ok (.ldc_w 294, 3) := by decide +kernel
theorem dX12_told_18 : decode cX12_told 18 = .ok (.invokespecial 296, 3) := by decide +kernel
theorem dX12_told_21 : decode cX12_told 21 = .ok (.athrow, 1) := by decide +kernel
theorem dL_told_0 : decode cL_told 0 = .ok (.aload_n 3, 1) := by decide +kernel
theorem dL_told_1 : decode cL_told 1 = .ok (.iconst 0, 1) := by decide +kernel
theorem dL_told_2 : decode cL_told 2 = .ok (.aload_n 0, 1) := by decide +kernel
theorem dL_told_3 : decode cL_told 3 = .ok (.iload_n 1, 1) := by decide +kernel
theorem dL_told_4 : decode cL_told 4 = .ok (.iload_n 2, 1) := by decide +kernel
theorem dL_told_5 : decode cL_told 5 = .ok (.invokevirtual 7, 3) := by decide +kernel
theorem dL_told_13 : decode cL_told 13 = .ok (.astore 4, 2) := by decide +kernel
theorem dL_told_15 : decode cL_told 15 = .ok (.iconst 1, 1) := by decide +kernel
theorem dL_told_16 : decode cL_told 16 = .ok (.ireturn, 1) := by decide +kernel
abbrev wsXW0 : List Cond := (vx_atS RX12 296 "java/util/NoSuchElementException" ["java/lang/RuntimeException", "java/lang/Exception"]).filter goodWord
theorem gw_XW : List.all wsXW0 goodWord = true := List.all_eq_true.mpr (fun _ h => (List.mem_filter.mp h).2)
def ub_EX (A : Nat → Prop) (U : State) (H : Heap) : Prop := vx_Zq Bundle.tN "UNASSIGNED_STACK" Bundle.steD A U H ∧ vx_Zq Bundle.tN "SUPPRESSED_SENTINEL" Bundle.listD A U H ∧ (∃ q : Nat, vk_R RX12 294 "no such race" q U) ∧ va_Nw (.castable "java/util/NoSuchElementException" "java/util/NoSuchElementException") U ∧ va_Nw (.declares ⟨"java/lang/RuntimeException", "<init>", "(Ljava/lang/String;)V"⟩) U ∧ va_Nw (.declares ⟨"java/lang/Exception", "<init>", "(Ljava/lang/String;)V"⟩) U ∧ va_Nw (.declares ⟨"java/lang/Throwable", "<init>", "(Ljava/lang/String;)V"⟩) U
theorem ub_EX_c {A : Nat → Prop} {U : State} {a : Array Value} {g : JFrame} {mk : MethodId} (h : ub_EX A U U.heap) : ub_EX A (U.calling g mk a) (U.calling g mk a).heap := by
  obtain ⟨h1, h2, ⟨q, h3⟩, h4, h5, h6, h7⟩ := h
  exact ⟨vx_Zq.moved (U := U.calling g mk a) (Vm.Alike.refl U.vm) h1, vx_Zq.moved (U := U.calling g mk a) (Vm.Alike.refl U.vm) h2, ⟨q, vk_R.same rfl h3⟩, va_Nw.same rfl rfl h4, va_Nw.same rfl rfl h5, va_Nw.same rfl rfl h6, va_Nw.same rfl rfl h7⟩
theorem ub_EX_w {s U : State} {H : Heap} {locs : List Loc} {A A1 : Nat → Prop} (hU : U.heap = H) (hW : s.WarmedH U.vm) (hS : va_S A s.heap H locs) (hF : ∀ q, A1 q → A q) (h : ub_EX A s s.heap) : ub_EX A1 U U.heap := by
  obtain ⟨h1, h2, ⟨q, h3⟩, h4, h5, h6, h7⟩ := h
  rw [hU]
  exact ⟨vx_Zq.moved hW.alike ((h1.kept hS.2.1).narrow hF), vx_Zq.moved hW.alike ((h2.kept hS.2.1).narrow hF), ⟨q, vk_R.warm hW h3⟩, va_Nw.warmC hW h4, va_Nw.warmD hW h5, va_Nw.warmD hW h6, va_Nw.warmD hW h7⟩
def A_c_told : List Cond := [.fieldLink RX12 10 "UnlikeBoats" "book" "LUnlikeBoats$Book;", .methodLink RX12 135 yX0_isRace, .instanceMethod yX0_isRace, .selects RX0 yX0_isRace yX0_isRace, .initialized RX0, .classLink RX12 292 "java/util/NoSuchElementException", .initialized "java/util/NoSuchElementException", .code yX0_isRace cX0_isRace 2 (some .boolean), .fieldLink RX0 21 "UnlikeBoats$Book" "races" "Ljava/util/ArrayList;", .methodLink RX0 56 yJx4a65c_size_8abf5, .instanceMethod yJx4a65c_size_8abf5, .selects RJx4a65c yJx4a65c_size_8abf5 yJx4a65c_size_8abf5, .initialized RJx4a65c, .initialized RX12, .static yX12_within, .code yJx4a65c_size_8abf5 cJx4a65c_size_8abf5 1 (some .int), .fieldLink RJx4a65c 48 "java/util/ArrayList" "size" "I", .code yX12_within cX12_within 3 (some .boolean)]
def v_c_told : List Cond := .code yX12_told cX12_told 4 (some .int) :: (A_c_told ++ wsX120 ++ wsX00 ++ wsJx4a65c0 ++ wsXW0)
theorem iw_c_told_X12 : ∀ w ∈ wsX120, w ∈ v_c_told := fun _ h => List.mem_cons_of_mem _ (List.mem_append_left _ (List.mem_append_left _ (List.mem_append_left _ (List.mem_append_right _ (h)))))
theorem iw_c_told_X0 : ∀ w ∈ wsX00, w ∈ v_c_told := fun _ h => List.mem_cons_of_mem _ (List.mem_append_left _ (List.mem_append_left _ (List.mem_append_right _ (h))))
theorem iw_c_told_Jx4a65c : ∀ w ∈ wsJx4a65c0, w ∈ v_c_told := fun _ h => List.mem_cons_of_mem _ (List.mem_append_left _ (List.mem_append_right _ (h)))
theorem iw_c_told_XW : ∀ w ∈ wsXW0, w ∈ v_c_told := fun _ h => List.mem_cons_of_mem _ (List.mem_append_right _ (h))
theorem gb_c_told_c_isRace00 : GoodIn v_c_told (.code yX0_isRace cX0_isRace 2 (some .boolean) :: A_c_isRace0) := (List.forall_mem_cons.mpr ⟨⟨List.mem_of_getElem? (i := 8) rfl, good_of_word rfl⟩, (List.forall_mem_cons.mpr ⟨⟨List.mem_of_getElem? (i := 9) rfl, good_of_word rfl⟩, (List.forall_mem_cons.mpr ⟨⟨List.mem_of_getElem? (i := 10) rfl, good_of_word rfl⟩, (List.forall_mem_cons.mpr ⟨⟨List.mem_of_getElem? (i := 11) rfl, good_of_word rfl⟩, (List.forall_mem_cons.mpr ⟨⟨List.mem_of_getElem? (i := 12) rfl, good_of_word rfl⟩, (List.forall_mem_cons.mpr ⟨⟨List.mem_of_getElem? (i := 13) rfl, good_of_word rfl⟩, (List.forall_mem_cons.mpr ⟨⟨List.mem_of_getElem? (i := 14) rfl, good_of_word rfl⟩, (List.forall_mem_cons.mpr ⟨⟨List.mem_of_getElem? (i := 15) rfl, good_of_word rfl⟩, (List.forall_mem_cons.mpr ⟨⟨List.mem_of_getElem? (i := 16) rfl, good_of_word rfl⟩, (List.forall_mem_cons.mpr ⟨⟨List.mem_of_getElem? (i := 17) rfl, good_of_word rfl⟩, (List.forall_mem_cons.mpr ⟨⟨List.mem_of_getElem? (i := 18) rfl, good_of_word rfl⟩, (fun _ h => nomatch h)⟩)⟩)⟩)⟩)⟩)⟩)⟩)⟩)⟩)⟩)⟩)
theorem gb_c_told_c_isRace0 : GoodIn v_c_told v_c_isRace0 := (goodIn_ca (goodIn_ca gb_c_told_c_isRace00 (goodIn_sub iw_c_told_X0 gw_X0)) (goodIn_sub iw_c_told_Jx4a65c gw_Jx4a65c))
theorem g_c_told_c_isRace0_135 : GoodIn v_c_told (wsV RX12 135 RX0 yX0_isRace v_c_isRace0) := goodIn_app (List.forall_mem_cons.mpr ⟨⟨List.mem_of_getElem? (i := 2) rfl, good_of_word rfl⟩, (List.forall_mem_cons.mpr ⟨⟨List.mem_of_getElem? (i := 3) rfl, good_of_word rfl⟩, (List.forall_mem_cons.mpr ⟨⟨List.mem_of_getElem? (i := 4) rfl, good_of_word rfl⟩, (List.forall_mem_cons.mpr ⟨⟨List.mem_of_getElem? (i := 5) rfl, good_of_word rfl⟩, (fun _ h => nomatch h)⟩)⟩)⟩)⟩) gb_c_told_c_isRace0
set_option maxHeartbeats 4000000 in
set_option maxRecDepth 100000 in
theorem c_told (l : Launch) (hfl : l.stackTraces = false) (dC : Nat → ClassId) (dI : Nat → Nat → Nat) (x : Nat) (bk : Nat) (tp : Nat) (sh : Nat) (sc : Nat) (he : Nat) (of : Nat) (lc : Nat) (lr : Nat) (la : Nat) (le : Nat) (lw : Nat) (lp : Nat) (ltr : Nat) (stk : Nat) (ed : Nat) (a0 : Int32) (a1 : Int32) : vx_Met l yX12_told v_c_told ({ frames := 8, cells := 1, slots := 6, locals := 320 }) (va_Pc [.ref x, .int a0, .int a1] (fun U => va_P (dC, dI) vwCl [(x, .inr (13, [.ref bk, .ref tp, .ref sh, .ref sc, .ref he, .ref of])), (bk, .inr (1, [.int 0, .int 0, .int 0, .ref lc, .ref lr, .ref la, .ref le, .ref lw, .ref lp, .ref ltr, .ref stk])), (la, .inr (0, [.int 0, .ref ed, .int 0]))] U.heap ∧ va_K (dC, dI) vwCl [] U ∧ ub_NX U ∧ ub_EX (fun _ => False) U U.heap)) (va_Qi (S := Unit) (fun _ _ => False) (fun _ _ => True) (fun _ => False)) (vx_X (S := Unit) (fun _ => True) (fun E _ _ => E = "java/util/NoSuchElementException") (fun _ => False)) 1 6 (fun _ => False) := by
  refine vx_ofW (cc := cX12_told) (maxL := 4) (ret := some .int) (by decide) rfl ?_
  intro p e s m args below meth c s₁ B hml hexn hv
  obtain ⟨rfl, hP, hK, hN, hEX⟩ := hv
  have hx := B.exec
  have hb := B.bytes
  have hr := B.returns
  have hts := atoms_spec (ws := v_c_told) B.pre
  have hown : s.vm.findClass RX12 = some m.cls := findClass_of_methodNamed B.named
  have hlocks := B.notSynchronized
  have hS : va_S (fun _ : Nat => False) s.heap s.heap [] := va_S.rf
  have hl := lv_entry ([.ref x, .int a0, .int a1]) (n := 4) (Nat.le_of_ble_eq_true rfl)
  rw [lg_entry_eq]
  generalize (lg_sl ([.ref x, .int a0, .int a1]) ++ List.replicate (4 - (lg_sl ([.ref x, .int a0, .int a1])).length) Slot.unset).toArray = ls at hl ⊢
  have hl : lv_has ls 4 [(0, .ref x), (1, .int a0), (2, .int a1)] := hl
  refine lv_aload_n hx hb dX12_told_0 rfl (lv_at hl 0 rfl) ?_
  refine va_get (D := (dC, dI)) (ci := 13) (v := .ref bk) (C := RX12) (T := TX12) (N := 6) hx hb hts iw_c_told_X12 hown hK hP 0 rfl rfl 0 (by decide) (hts (.fieldLink RX12 10 "UnlikeBoats" "book" "LUnlikeBoats$Book;") (List.mem_of_getElem? (i := 1) rfl)) (fun _ h9 => h9) rfl dX12_told_1 ?_
  refine lv_iload_n hx hb dX12_told_4 rfl (lv_at hl 1 rfl) ?_
  have hPc := hP.sub (ws' := [(bk, .inr (1, [.int 0, .int 0, .int 0, .ref lc, .ref lr, .ref la, .ref le, .ref lw, .ref lp, .ref ltr, .ref stk])), (la, .inr (0, [.int 0, .ref ed, .int 0]))]) [1, 2] rfl
  have hKc := hK.sub (tys' := []) [] rfl
  refine va_calli (va_runV (As := [.int a0]) (rest := []) ⟨hx, hb, hml, hown, hts⟩ (c_isRace0 l dC dI bk lc lr la le lw lp ltr stk ed a0) (cwV 1 hts g_c_told_c_isRace0_135 rfl rfl rfl (by decide +kernel) ⟨Nat.le_of_ble_eq_true rfl, Nat.le_of_ble_eq_true rfl⟩) ⟨fun a U g mk q => by obtain ⟨e0, qP, qK, qN⟩ := q; exact ⟨e0, qP, va_K.moved (u := U) (U := U.calling g mk a) (Vm.Alike.refl U.vm) qK, ub_NX_c qN⟩, va_recv hK hP (ci := 1) (q0 := 1) rfl rfl, fun U hU hW => ⟨rfl, by rw [hU]; exact hPc, va_K.moved hW.alike hKc, ub_NX_w hW hN⟩⟩ rfl rfl hl.1 rfl (lv_room (Nat.le_of_ble_eq_true rfl)) dX12_told_5 ⟨Nat.le_of_ble_eq_true rfl, Nat.le_of_ble_eq_true rfl⟩) hS (fun _ _ h => h.elim) (fun _ h => h.elim) (fun r1 u2 t H1 locs ht hvm hw hB hz1 hk1 hS => ?_)
  have hP := ub_keep hP hk1
  generalize H1 = H at hP hS ⊢
  obtain rfl : (0 : Int32) = r1 := hw.symm
  refine lv_if_ne (tgt := 22) hx hb dX12_told_8 (by decide) (fun c3 => by first | exact absurd c3 (by decide) | exact absurd (by decide) c3) (fun c3 => ?_)
  obtain ⟨hU, hNn, ⟨sa, hstr⟩, hca, hd1, hd2, hd3⟩ := hEX
  exact vx_throwSW (own := RX12) (cls := "java/util/NoSuchElementException") (text := "no such race") (names := ["java/lang/RuntimeException", "java/lang/Exception"]) (ik := 292) (is := 294) (ic := 296) (sa := sa) (A := fun _ : Nat => False) hx hb hfl hown (by decide +kernel) (by decide +kernel) (hts (.classLink RX12 292 "java/util/NoSuchElementException") (List.mem_of_getElem? (i := 6) rfl)) (hts (.initialized "java/util/NoSuchElementException") (List.mem_of_getElem? (i := 7) rfl)) hstr (vx_hat (B := [.castable "java/util/NoSuchElementException" "java/util/NoSuchElementException", .declares ⟨"java/lang/RuntimeException", "<init>", "(Ljava/lang/String;)V"⟩, .declares ⟨"java/lang/Exception", "<init>", "(Ljava/lang/String;)V"⟩, .declares ⟨"java/lang/Throwable", "<init>", "(Ljava/lang/String;)V"⟩]) (fun w h => hts w (iw_c_told_XW w h)) (by decide +kernel) (vx_c (va_Nw.use rfl hca) (vx_c (va_Nw.use rfl hd1) (vx_c (va_Nw.use rfl hd2) (vx_c (va_Nw.use rfl hd3) vx_n))))) (by decide +kernel) hU hNn hS (by rw [hml]; exact hl.1) dX12_told_11 dX12_told_14 dX12_told_15 dX12_told_18 dX12_told_21 (fun x hx9 => (hexn x hx9).elim) (by decide) (Nat.le_of_ble_eq_true rfl) (Nat.le_of_ble_eq_true rfl) (Nat.le_of_ble_eq_true rfl) hlocks (fun t h1 h2 h3 => ⟨(), trivial, rfl, Nat.le_trans hS.1 h2, fun q q1 _ => by rw [h3 q (Nat.lt_of_lt_of_le q1 hS.1)]; exact hS.2.1 q q1 (fun hh => hh)⟩) hS.2.2 (Nat.le_refl _) (Nat.le_refl _)
def A_l_told : List Cond := [.methodLink RL 7 yX12_told, .instanceMethod yX12_told, .selects RX12 yX12_told yX12_told, .initialized RX12, .classLink RL 13 "java/util/NoSuchElementException", .code yX12_told cX12_told 4 (some .int), .fieldLink RX12 10 "UnlikeBoats" "book" "LUnlikeBoats$Book;", .methodLink RX12 135 yX0_isRace, .instanceMethod yX0_isRace, .selects RX0 yX0_isRace yX0_isRace, .initialized RX0, .classLink RX12 292 "java/util/NoSuchElementException", .initialized "java/util/NoSuchElementException", .code yX0_isRace cX0_isRace 2 (some .boolean), .fieldLink RX0 21 "UnlikeBoats$Book" "races" "Ljava/util/ArrayList;", .methodLink RX0 56 yJx4a65c_size_8abf5, .instanceMethod yJx4a65c_size_8abf5, .selects RJx4a65c yJx4a65c_size_8abf5 yJx4a65c_size_8abf5, .initialized RJx4a65c, .static yX12_within, .code yJx4a65c_size_8abf5 cJx4a65c_size_8abf5 1 (some .int), .fieldLink RJx4a65c 48 "java/util/ArrayList" "size" "I", .code yX12_within cX12_within 3 (some .boolean)]
def v_l_told : List Cond := .codeWith yL_told cL_told 5 (some .int) [(0, 10, 13, 13)] :: (A_l_told ++ wsX120 ++ wsX00 ++ wsJx4a65c0 ++ wsXW0)
theorem iw_l_told_X12 : ∀ w ∈ wsX120, w ∈ v_l_told := fun _ h => List.mem_cons_of_mem _ (List.mem_append_left _ (List.mem_append_left _ (List.mem_append_left _ (List.mem_append_right _ (h)))))
theorem iw_l_told_X0 : ∀ w ∈ wsX00, w ∈ v_l_told := fun _ h => List.mem_cons_of_mem _ (List.mem_append_left _ (List.mem_append_left _ (List.mem_append_right _ (h))))
theorem iw_l_told_Jx4a65c : ∀ w ∈ wsJx4a65c0, w ∈ v_l_told := fun _ h => List.mem_cons_of_mem _ (List.mem_append_left _ (List.mem_append_right _ (h)))
theorem iw_l_told_XW : ∀ w ∈ wsXW0, w ∈ v_l_told := fun _ h => List.mem_cons_of_mem _ (List.mem_append_right _ (h))
theorem gb_l_told_c_told0 : GoodIn v_l_told (.code yX12_told cX12_told 4 (some .int) :: A_c_told) := (List.forall_mem_cons.mpr ⟨⟨List.mem_of_getElem? (i := 6) rfl, good_of_word rfl⟩, (List.forall_mem_cons.mpr ⟨⟨List.mem_of_getElem? (i := 7) rfl, good_of_word rfl⟩, (List.forall_mem_cons.mpr ⟨⟨List.mem_of_getElem? (i := 8) rfl, good_of_word rfl⟩, (List.forall_mem_cons.mpr ⟨⟨List.mem_of_getElem? (i := 9) rfl, good_of_word rfl⟩, (List.forall_mem_cons.mpr ⟨⟨List.mem_of_getElem? (i := 10) rfl, good_of_word rfl⟩, (List.forall_mem_cons.mpr ⟨⟨List.mem_of_getElem? (i := 11) rfl, good_of_word rfl⟩, (List.forall_mem_cons.mpr ⟨⟨List.mem_of_getElem? (i := 12) rfl, good_of_word rfl⟩, (List.forall_mem_cons.mpr ⟨⟨List.mem_of_getElem? (i := 13) rfl, good_of_word rfl⟩, (List.forall_mem_cons.mpr ⟨⟨List.mem_of_getElem? (i := 14) rfl, good_of_word rfl⟩, (List.forall_mem_cons.mpr ⟨⟨List.mem_of_getElem? (i := 15) rfl, good_of_word rfl⟩, (List.forall_mem_cons.mpr ⟨⟨List.mem_of_getElem? (i := 16) rfl, good_of_word rfl⟩, (List.forall_mem_cons.mpr ⟨⟨List.mem_of_getElem? (i := 17) rfl, good_of_word rfl⟩, (List.forall_mem_cons.mpr ⟨⟨List.mem_of_getElem? (i := 18) rfl, good_of_word rfl⟩, (List.forall_mem_cons.mpr ⟨⟨List.mem_of_getElem? (i := 19) rfl, good_of_word rfl⟩, (List.forall_mem_cons.mpr ⟨⟨List.mem_of_getElem? (i := 4) rfl, good_of_word rfl⟩, (List.forall_mem_cons.mpr ⟨⟨List.mem_of_getElem? (i := 20) rfl, good_of_word rfl⟩, (List.forall_mem_cons.mpr ⟨⟨List.mem_of_getElem? (i := 21) rfl, good_of_word rfl⟩, (List.forall_mem_cons.mpr ⟨⟨List.mem_of_getElem? (i := 22) rfl, good_of_word rfl⟩, (List.forall_mem_cons.mpr ⟨⟨List.mem_of_getElem? (i := 23) rfl, good_of_word rfl⟩, (fun _ h => nomatch h)⟩)⟩)⟩)⟩)⟩)⟩)⟩)⟩)⟩)⟩)⟩)⟩)⟩)⟩)⟩)⟩)⟩)⟩)⟩)
theorem gb_l_told_c_told : GoodIn v_l_told v_c_told := (goodIn_ca (goodIn_ca (goodIn_ca (goodIn_ca gb_l_told_c_told0 (goodIn_sub iw_l_told_X12 gw_X12)) (goodIn_sub iw_l_told_X0 gw_X0)) (goodIn_sub iw_l_told_Jx4a65c gw_Jx4a65c)) (goodIn_sub iw_l_told_XW gw_XW))
theorem g_l_told_c_told_7 : GoodIn v_l_told (wsV RL 7 RX12 yX12_told v_c_told) := goodIn_app (List.forall_mem_cons.mpr ⟨⟨List.mem_of_getElem? (i := 1) rfl, good_of_word rfl⟩, (List.forall_mem_cons.mpr ⟨⟨List.mem_of_getElem? (i := 2) rfl, good_of_word rfl⟩, (List.forall_mem_cons.mpr ⟨⟨List.mem_of_getElem? (i := 3) rfl, good_of_word rfl⟩, (List.forall_mem_cons.mpr ⟨⟨List.mem_of_getElem? (i := 4) rfl, good_of_word rfl⟩, (fun _ h => nomatch h)⟩)⟩)⟩)⟩) gb_l_told_c_told
set_option maxHeartbeats 4000000 in
set_option maxRecDepth 100000 in
theorem l_told (l : Launch) (hfl : l.stackTraces = false) (dC : Nat → ClassId) (dI : Nat → Nat → Nat) (x : Nat) (bk : Nat) (tp : Nat) (sh : Nat) (sc : Nat) (he : Nat) (of : Nat) (lc : Nat) (lr : Nat) (la : Nat) (le : Nat) (lw : Nat) (lp : Nat) (ltr : Nat) (stk : Nat) (ed : Nat) (a0 : Int32) (a1 : Int32) (ou : Nat) : Met l yL_told v_l_told ({ frames := 9, cells := 1, slots := 6, locals := 400 }) (va_Pc [.ref x, .int a0, .int a1, .ref ou] (fun U => va_P (dC, dI) vwCl [(x, .inr (13, [.ref bk, .ref tp, .ref sh, .ref sc, .ref he, .ref of])), (bk, .inr (1, [.int 0, .int 0, .int 0, .ref lc, .ref lr, .ref la, .ref le, .ref lw, .ref lp, .ref ltr, .ref stk])), (la, .inr (0, [.int 0, .ref ed, .int 0]))] U.heap ∧ va_K (dC, dI) vwCl [] U ∧ ub_NX U ∧ ub_EX (fun _ => False) U U.heap)) (va_Qi (S := Unit) (fun r _ => r = 1) (fun _ _ => True) (fun _ => False)) 1 6 (fun _ => False) := by
  refine va_MetW (cc := cL_told) (maxL := 5) (ret := some .int) (hh := [(0, 10, 13, 13)]) (by decide) rfl ?_
  intro p e s m args below meth c s₁ B hml hv
  obtain ⟨rfl, hP, hK, hN, hEX⟩ := hv
  have hx := B.exec
  have hb := B.bytes
  have hr := B.returns
  have hts := atoms_spec (ws := v_l_told) B.pre
  have hown : s.vm.findClass RL = some m.cls := findClass_of_methodNamed B.named
  have hlocks := B.notSynchronized
  have hS : va_S (fun _ : Nat => False) s.heap s.heap [] := va_S.rf
  have hl := lv_entry ([.ref x, .int a0, .int a1, .ref ou]) (n := 5) (Nat.le_of_ble_eq_true rfl)
  rw [lg_entry_eq]
  generalize (lg_sl ([.ref x, .int a0, .int a1, .ref ou]) ++ List.replicate (5 - (lg_sl ([.ref x, .int a0, .int a1, .ref ou])).length) Slot.unset).toArray = ls at hl ⊢
  have hct : c.exceptionTable.toList = [⟨0, 10, 13, 13⟩] := vx_table (x := yL_told) B (hts _ List.mem_cons_self)
  have hl : lv_has ls 5 [(0, .ref x), (1, .int a0), (2, .int a1), (3, .ref ou)] := hl
  refine lv_aload_n hx hb dL_told_0 rfl (lv_at hl 3 rfl) ?_
  refine lv_iconst (v := 0) hx hb dL_told_1 (by decide) ?_
  refine lv_aload_n hx hb dL_told_2 rfl (lv_at hl 0 rfl) ?_
  refine lv_iload_n hx hb dL_told_3 rfl (lv_at hl 1 rfl) ?_
  refine lv_iload_n hx hb dL_told_4 rfl (lv_at hl 2 rfl) ?_
  have hPc := hP.sub (ws' := [(x, .inr (13, [.ref bk, .ref tp, .ref sh, .ref sc, .ref he, .ref of])), (bk, .inr (1, [.int 0, .int 0, .int 0, .ref lc, .ref lr, .ref la, .ref le, .ref lw, .ref lp, .ref ltr, .ref stk])), (la, .inr (0, [.int 0, .ref ed, .int 0]))]) [0, 1, 2] rfl
  have hKc := hK.sub (tys' := []) [] rfl
  have hca := hEX.2.2.2.1
  refine vx_calli (vx_runV (As := [.int a0, .int a1]) (rest := [.int 0, .ref ou]) ⟨hx, hb, hml, hown, hts⟩ (c_told l hfl dC dI x bk tp sh sc he of lc lr la le lw lp ltr stk ed a0 a1) (cwV 2 hts g_l_told_c_told_7 rfl rfl rfl (by decide +kernel) ⟨Nat.le_of_ble_eq_true rfl, Nat.le_of_ble_eq_true rfl⟩) ⟨fun a U g mk q => by obtain ⟨e0, qP, qK, qN, qE⟩ := q; exact ⟨e0, qP, va_K.moved (u := U) (U := U.calling g mk a) (Vm.Alike.refl U.vm) qK, ub_NX_c qN, ub_EX_c qE⟩, va_recv hK hP (ci := 13) (q0 := 0) rfl rfl, fun U hU hW => ⟨rfl, by rw [hU]; exact hPc, va_K.moved hW.alike hKc, ub_NX_w hW hN, ub_EX_w hU hW hS (fun _ hh => hh) hEX⟩⟩ rfl rfl hl.1 rfl (lv_room (Nat.le_of_ble_eq_true rfl)) dL_told_5 ⟨Nat.le_of_ble_eq_true rfl, Nat.le_of_ble_eq_true rfl⟩) hS (fun _ _ h => h.elim) (fun _ h => h.elim) (fun _ _ h => h.elim) (fun E ce q9 u t H1 locs hth hvm hpx hBX hz1 hk1 hS hce hcv hcl => ?_) (fun r u t H1 locs hth hvm hw hB hz1 hk1 hS => hw.elim)
  obtain rfl : "java/util/NoSuchElementException" = E := hBX.symm
  refine vx_catch (name := "java/util/NoSuchElementException") hown [] ⟨0, 10, 13, 13⟩ [] hct (fun _ hh => nomatch hh) (by decide) (by decide) (hts (.classLink RL 13 "java/util/NoSuchElementException") (List.mem_of_getElem? (i := 5) rfl)) (va_Nw.use rfl hca) hce hcv hcl ?_
  generalize H1 = H at hS ⊢
  refine W.widen (k := 1) (n := 6) (by omega) (by omega) ?_
  refine lv_astore (lv' := [(4, .ref q9), (0, .ref x), (1, .int a0), (2, .int a1), (3, .ref ou)]) hx hb dL_told_13 hl (by decide) rfl (fun ls hl => ?_)
  refine lv_iconst (v := 1) hx hb dL_told_15 (by decide) ?_
  exact W.iret (v := (1)) hx hb hr (fun t ht hW => ⟨⟨(1), (), rfl, rfl, trivial⟩, hS.F ht⟩) hS.2.2 dL_told_16
