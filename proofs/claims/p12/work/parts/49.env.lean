

theorem sk_RX10_64 {s : State} {b : Nat} {A : Nat → Prop} (hgv : (Jvm.Cond.and given_1 narrow_1).before #[Value.ref b] s = true) (hts0 : ∀ w ∈ lw_tbl, w.before #[Value.ref b] s = true) (hAn : ∀ a : Nat, a < s.heap.size → ¬ A a) : SK RX10 64 "nptab" tLAB A s s.heap := by
  have hn := flat_of_before _ hgv
  obtain ⟨q, _, _, _, hq, -⟩ := Cond.exactly_spec (args := #[Value.ref b]) (first := s) (o := none) (s := s) (idx := []) (t := .string "UnlikeBoats$Tape" 64) (cls := "java/lang/String") (hn (.exactly (.string "UnlikeBoats$Tape" 64) "java/lang/String") (by decide +kernel))
  obtain ⟨vs, hv1, hv2⟩ := va_Tof (args := #[Value.ref b]) (s := s) (tm := (.field (.string "UnlikeBoats$Tape" 64) "java/lang/String" "value" "[B")) (ty := .byte) (N := 5) (f := fun j => .int (tLAB.getD j 0)) (A := A) (by decide) (hn _ (by decide +kernel)) (va_eqt (hn _ (by decide +kernel))) (fun j hj => by
    rcases (show j = 0 ∨ j = 1 ∨ j = 2 ∨ j = 3 ∨ j = 4 by omega) with rfl | rfl | rfl | rfl | rfl
    · exact va_eqt (z := 110) (hn (.eq (.elem (.field (.string "UnlikeBoats$Tape" 64) "java/lang/String" "value" "[B") (.int 0)) (.int 110)) (by decide +kernel))
    · exact va_eqt (z := 112) (hn (.eq (.elem (.field (.string "UnlikeBoats$Tape" 64) "java/lang/String" "value" "[B") (.int 1)) (.int 112)) (by decide +kernel))
    · exact va_eqt (z := 116) (hn (.eq (.elem (.field (.string "UnlikeBoats$Tape" 64) "java/lang/String" "value" "[B") (.int 2)) (.int 116)) (by decide +kernel))
    · exact va_eqt (z := 97) (hn (.eq (.elem (.field (.string "UnlikeBoats$Tape" 64) "java/lang/String" "value" "[B") (.int 3)) (.int 97)) (by decide +kernel))
    · exact va_eqt (z := 98) (hn (.eq (.elem (.field (.string "UnlikeBoats$Tape" 64) "java/lang/String" "value" "[B") (.int 4)) (.int 98)) (by decide +kernel))) hAn
  exact ⟨q, vs, vk_R.of (hts0 (.stringRef "UnlikeBoats$Tape" 64 "nptab") (tq_3 _ (List.mem_of_getElem? (i := 80) rfl))) hq, va_Oof (hn _ (by decide +kernel)) hq hAn, vk_OFof hq (va_eqt (hn _ (by decide +kernel))) hAn, vk_OFof hq hv1 hAn, hv2, va_Zof (hts0 (.laysStatic "java/lang/String" "COMPACT_STRINGS" "Z") (tq_1 _ (List.mem_of_getElem? (i := 83) rfl))) (hts0 (.initialized "java/lang/String") (tq_1 _ (List.mem_of_getElem? (i := 6) rfl))) (va_eqt (hn _ (by decide +kernel))) hAn⟩
theorem sk_RX10_74 {s : State} {b : Nat} {A : Nat → Prop} (hgv : (Jvm.Cond.and given_1 narrow_1).before #[Value.ref b] s = true) (hts0 : ∀ w ∈ lw_tbl, w.before #[Value.ref b] s = true) (hAn : ∀ a : Nat, a < s.heap.size → ¬ A a) : SK RX10 74 "!(" tCON A s s.heap := by
  have hn := flat_of_before _ hgv
  obtain ⟨q, _, _, _, hq, -⟩ := Cond.exactly_spec (args := #[Value.ref b]) (first := s) (o := none) (s := s) (idx := []) (t := .string "UnlikeBoats$Tape" 74) (cls := "java/lang/String") (hn (.exactly (.string "UnlikeBoats$Tape" 74) "java/lang/String") (by decide +kernel))
  obtain ⟨vs, hv1, hv2⟩ := va_Tof (args := #[Value.ref b]) (s := s) (tm := (.field (.string "UnlikeBoats$Tape" 74) "java/lang/String" "value" "[B")) (ty := .byte) (N := 2) (f := fun j => .int (tCON.getD j 0)) (A := A) (by decide) (hn _ (by decide +kernel)) (va_eqt (hn _ (by decide +kernel))) (fun j hj => by
    rcases (show j = 0 ∨ j = 1 by omega) with rfl | rfl
    · exact va_eqt (z := 33) (hn (.eq (.elem (.field (.string "UnlikeBoats$Tape" 74) "java/lang/String" "value" "[B") (.int 0)) (.int 33)) (by decide +kernel))
    · exact va_eqt (z := 40) (hn (.eq (.elem (.field (.string "UnlikeBoats$Tape" 74) "java/lang/String" "value" "[B") (.int 1)) (.int 40)) (by decide +kernel))) hAn
  exact ⟨q, vs, vk_R.of (hts0 (.stringRef "UnlikeBoats$Tape" 74 "!(") (tq_3 _ (List.mem_of_getElem? (i := 165) rfl))) hq, va_Oof (hn _ (by decide +kernel)) hq hAn, vk_OFof hq (va_eqt (hn _ (by decide +kernel))) hAn, vk_OFof hq hv1 hAn, hv2, va_Zof (hts0 (.laysStatic "java/lang/String" "COMPACT_STRINGS" "Z") (tq_1 _ (List.mem_of_getElem? (i := 83) rfl))) (hts0 (.initialized "java/lang/String") (tq_1 _ (List.mem_of_getElem? (i := 6) rfl))) (va_eqt (hn _ (by decide +kernel))) hAn⟩
theorem sk_RX10_79 {s : State} {b : Nat} {A : Nat → Prop} (hgv : (Jvm.Cond.and given_1 narrow_1).before #[Value.ref b] s = true) (hts0 : ∀ w ∈ lw_tbl, w.before #[Value.ref b] s = true) (hAn : ∀ a : Nat, a < s.heap.size → ¬ A a) : SK RX10 79 "=<>" tCMP A s s.heap := by
  have hn := flat_of_before _ hgv
  obtain ⟨q, _, _, _, hq, -⟩ := Cond.exactly_spec (args := #[Value.ref b]) (first := s) (o := none) (s := s) (idx := []) (t := .string "UnlikeBoats$Tape" 79) (cls := "java/lang/String") (hn (.exactly (.string "UnlikeBoats$Tape" 79) "java/lang/String") (by decide +kernel))
  obtain ⟨vs, hv1, hv2⟩ := va_Tof (args := #[Value.ref b]) (s := s) (tm := (.field (.string "UnlikeBoats$Tape" 79) "java/lang/String" "value" "[B")) (ty := .byte) (N := 3) (f := fun j => .int (tCMP.getD j 0)) (A := A) (by decide) (hn _ (by decide +kernel)) (va_eqt (hn _ (by decide +kernel))) (fun j hj => by
    rcases (show j = 0 ∨ j = 1 ∨ j = 2 by omega) with rfl | rfl | rfl
    · exact va_eqt (z := 61) (hn (.eq (.elem (.field (.string "UnlikeBoats$Tape" 79) "java/lang/String" "value" "[B") (.int 0)) (.int 61)) (by decide +kernel))
    · exact va_eqt (z := 60) (hn (.eq (.elem (.field (.string "UnlikeBoats$Tape" 79) "java/lang/String" "value" "[B") (.int 1)) (.int 60)) (by decide +kernel))
    · exact va_eqt (z := 62) (hn (.eq (.elem (.field (.string "UnlikeBoats$Tape" 79) "java/lang/String" "value" "[B") (.int 2)) (.int 62)) (by decide +kernel))) hAn
  exact ⟨q, vs, vk_R.of (hts0 (.stringRef "UnlikeBoats$Tape" 79 "=<>") (tq_3 _ (List.mem_of_getElem? (i := 203) rfl))) hq, va_Oof (hn _ (by decide +kernel)) hq hAn, vk_OFof hq (va_eqt (hn _ (by decide +kernel))) hAn, vk_OFof hq hv1 hAn, hv2, va_Zof (hts0 (.laysStatic "java/lang/String" "COMPACT_STRINGS" "Z") (tq_1 _ (List.mem_of_getElem? (i := 83) rfl))) (hts0 (.initialized "java/lang/String") (tq_1 _ (List.mem_of_getElem? (i := 6) rfl))) (va_eqt (hn _ (by decide +kernel))) hAn⟩
theorem sk_RX10_108 {s : State} {b : Nat} {A : Nat → Prop} (hgv : (Jvm.Cond.and given_1 narrow_1).before #[Value.ref b] s = true) (hts0 : ∀ w ∈ lw_tbl, w.before #[Value.ref b] s = true) (hAn : ∀ a : Nat, a < s.heap.size → ¬ A a) : SK RX10 108 "+-" tADD A s s.heap := by
  have hn := flat_of_before _ hgv
  obtain ⟨q, _, _, _, hq, -⟩ := Cond.exactly_spec (args := #[Value.ref b]) (first := s) (o := none) (s := s) (idx := []) (t := .string "UnlikeBoats$Tape" 108) (cls := "java/lang/String") (hn (.exactly (.string "UnlikeBoats$Tape" 108) "java/lang/String") (by decide +kernel))
  obtain ⟨vs, hv1, hv2⟩ := va_Tof (args := #[Value.ref b]) (s := s) (tm := (.field (.string "UnlikeBoats$Tape" 108) "java/lang/String" "value" "[B")) (ty := .byte) (N := 2) (f := fun j => .int (tADD.getD j 0)) (A := A) (by decide) (hn _ (by decide +kernel)) (va_eqt (hn _ (by decide +kernel))) (fun j hj => by
    rcases (show j = 0 ∨ j = 1 by omega) with rfl | rfl
    · exact va_eqt (z := 43) (hn (.eq (.elem (.field (.string "UnlikeBoats$Tape" 108) "java/lang/String" "value" "[B") (.int 0)) (.int 43)) (by decide +kernel))
    · exact va_eqt (z := 45) (hn (.eq (.elem (.field (.string "UnlikeBoats$Tape" 108) "java/lang/String" "value" "[B") (.int 1)) (.int 45)) (by decide +kernel))) hAn
  exact ⟨q, vs, vk_R.of (hts0 (.stringRef "UnlikeBoats$Tape" 108 "+-") (tq_3 _ (List.mem_of_getElem? (i := 202) rfl))) hq, va_Oof (hn _ (by decide +kernel)) hq hAn, vk_OFof hq (va_eqt (hn _ (by decide +kernel))) hAn, vk_OFof hq hv1 hAn, hv2, va_Zof (hts0 (.laysStatic "java/lang/String" "COMPACT_STRINGS" "Z") (tq_1 _ (List.mem_of_getElem? (i := 83) rfl))) (hts0 (.initialized "java/lang/String") (tq_1 _ (List.mem_of_getElem? (i := 6) rfl))) (va_eqt (hn _ (by decide +kernel))) hAn⟩
theorem sk_RX10_113 {s : State} {b : Nat} {A : Nat → Prop} (hgv : (Jvm.Cond.and given_1 narrow_1).before #[Value.ref b] s = true) (hts0 : ∀ w ∈ lw_tbl, w.before #[Value.ref b] s = true) (hAn : ∀ a : Nat, a < s.heap.size → ¬ A a) : SK RX10 113 "*/" tMUL A s s.heap := by
  have hn := flat_of_before _ hgv
  obtain ⟨q, _, _, _, hq, -⟩ := Cond.exactly_spec (args := #[Value.ref b]) (first := s) (o := none) (s := s) (idx := []) (t := .string "UnlikeBoats$Tape" 113) (cls := "java/lang/String") (hn (.exactly (.string "UnlikeBoats$Tape" 113) "java/lang/String") (by decide +kernel))
  obtain ⟨vs, hv1, hv2⟩ := va_Tof (args := #[Value.ref b]) (s := s) (tm := (.field (.string "UnlikeBoats$Tape" 113) "java/lang/String" "value" "[B")) (ty := .byte) (N := 2) (f := fun j => .int (tMUL.getD j 0)) (A := A) (by decide) (hn _ (by decide +kernel)) (va_eqt (hn _ (by decide +kernel))) (fun j hj => by
    rcases (show j = 0 ∨ j = 1 by omega) with rfl | rfl
    · exact va_eqt (z := 42) (hn (.eq (.elem (.field (.string "UnlikeBoats$Tape" 113) "java/lang/String" "value" "[B") (.int 0)) (.int 42)) (by decide +kernel))
    · exact va_eqt (z := 47) (hn (.eq (.elem (.field (.string "UnlikeBoats$Tape" 113) "java/lang/String" "value" "[B") (.int 1)) (.int 47)) (by decide +kernel))) hAn
  exact ⟨q, vs, vk_R.of (hts0 (.stringRef "UnlikeBoats$Tape" 113 "*/") (tq_3 _ (List.mem_of_getElem? (i := 198) rfl))) hq, va_Oof (hn _ (by decide +kernel)) hq hAn, vk_OFof hq (va_eqt (hn _ (by decide +kernel))) hAn, vk_OFof hq hv1 hAn, hv2, va_Zof (hts0 (.laysStatic "java/lang/String" "COMPACT_STRINGS" "Z") (tq_1 _ (List.mem_of_getElem? (i := 83) rfl))) (hts0 (.initialized "java/lang/String") (tq_1 _ (List.mem_of_getElem? (i := 6) rfl))) (va_eqt (hn _ (by decide +kernel))) hAn⟩
theorem sk_RX10_121 {s : State} {b : Nat} {A : Nat → Prop} (hgv : (Jvm.Cond.and given_1 narrow_1).before #[Value.ref b] s = true) (hts0 : ∀ w ∈ lw_tbl, w.before #[Value.ref b] s = true) (hAn : ∀ a : Nat, a < s.heap.size → ¬ A a) : SK RX10 121 "lswkrefcdghumo" tLET A s s.heap := by
  have hn := flat_of_before _ hgv
  obtain ⟨q, _, _, _, hq, -⟩ := Cond.exactly_spec (args := #[Value.ref b]) (first := s) (o := none) (s := s) (idx := []) (t := .string "UnlikeBoats$Tape" 121) (cls := "java/lang/String") (hn (.exactly (.string "UnlikeBoats$Tape" 121) "java/lang/String") (by decide +kernel))
  obtain ⟨vs, hv1, hv2⟩ := va_Tof (args := #[Value.ref b]) (s := s) (tm := (.field (.string "UnlikeBoats$Tape" 121) "java/lang/String" "value" "[B")) (ty := .byte) (N := 14) (f := fun j => .int (tLET.getD j 0)) (A := A) (by decide) (hn _ (by decide +kernel)) (va_eqt (hn _ (by decide +kernel))) (fun j hj => by
    rcases (show j = 0 ∨ j = 1 ∨ j = 2 ∨ j = 3 ∨ j = 4 ∨ j = 5 ∨ j = 6 ∨ j = 7 ∨ j = 8 ∨ j = 9 ∨ j = 10 ∨ j = 11 ∨ j = 12 ∨ j = 13 by omega) with rfl | rfl | rfl | rfl | rfl | rfl | rfl | rfl | rfl | rfl | rfl | rfl | rfl | rfl
    · exact va_eqt (z := 108) (hn (.eq (.elem (.field (.string "UnlikeBoats$Tape" 121) "java/lang/String" "value" "[B") (.int 0)) (.int 108)) (by decide +kernel))
    · exact va_eqt (z := 115) (hn (.eq (.elem (.field (.string "UnlikeBoats$Tape" 121) "java/lang/String" "value" "[B") (.int 1)) (.int 115)) (by decide +kernel))
    · exact va_eqt (z := 119) (hn (.eq (.elem (.field (.string "UnlikeBoats$Tape" 121) "java/lang/String" "value" "[B") (.int 2)) (.int 119)) (by decide +kernel))
    · exact va_eqt (z := 107) (hn (.eq (.elem (.field (.string "UnlikeBoats$Tape" 121) "java/lang/String" "value" "[B") (.int 3)) (.int 107)) (by decide +kernel))
    · exact va_eqt (z := 114) (hn (.eq (.elem (.field (.string "UnlikeBoats$Tape" 121) "java/lang/String" "value" "[B") (.int 4)) (.int 114)) (by decide +kernel))
    · exact va_eqt (z := 101) (hn (.eq (.elem (.field (.string "UnlikeBoats$Tape" 121) "java/lang/String" "value" "[B") (.int 5)) (.int 101)) (by decide +kernel))
    · exact va_eqt (z := 102) (hn (.eq (.elem (.field (.string "UnlikeBoats$Tape" 121) "java/lang/String" "value" "[B") (.int 6)) (.int 102)) (by decide +kernel))
    · exact va_eqt (z := 99) (hn (.eq (.elem (.field (.string "UnlikeBoats$Tape" 121) "java/lang/String" "value" "[B") (.int 7)) (.int 99)) (by decide +kernel))
    · exact va_eqt (z := 100) (hn (.eq (.elem (.field (.string "UnlikeBoats$Tape" 121) "java/lang/String" "value" "[B") (.int 8)) (.int 100)) (by decide +kernel))
    · exact va_eqt (z := 103) (hn (.eq (.elem (.field (.string "UnlikeBoats$Tape" 121) "java/lang/String" "value" "[B") (.int 9)) (.int 103)) (by decide +kernel))
    · exact va_eqt (z := 104) (hn (.eq (.elem (.field (.string "UnlikeBoats$Tape" 121) "java/lang/String" "value" "[B") (.int 10)) (.int 104)) (by decide +kernel))
    · exact va_eqt (z := 117) (hn (.eq (.elem (.field (.string "UnlikeBoats$Tape" 121) "java/lang/String" "value" "[B") (.int 11)) (.int 117)) (by decide +kernel))
    · exact va_eqt (z := 109) (hn (.eq (.elem (.field (.string "UnlikeBoats$Tape" 121) "java/lang/String" "value" "[B") (.int 12)) (.int 109)) (by decide +kernel))
    · exact va_eqt (z := 111) (hn (.eq (.elem (.field (.string "UnlikeBoats$Tape" 121) "java/lang/String" "value" "[B") (.int 13)) (.int 111)) (by decide +kernel))) hAn
  exact ⟨q, vs, vk_R.of (hts0 (.stringRef "UnlikeBoats$Tape" 121 "lswkrefcdghumo") (tq_3 _ (List.mem_of_getElem? (i := 189) rfl))) hq, va_Oof (hn _ (by decide +kernel)) hq hAn, vk_OFof hq (va_eqt (hn _ (by decide +kernel))) hAn, vk_OFof hq hv1 hAn, hv2, va_Zof (hts0 (.laysStatic "java/lang/String" "COMPACT_STRINGS" "Z") (tq_1 _ (List.mem_of_getElem? (i := 83) rfl))) (hts0 (.initialized "java/lang/String") (tq_1 _ (List.mem_of_getElem? (i := 6) rfl))) (va_eqt (hn _ (by decide +kernel))) hAn⟩
theorem sk_RX13_306 {s : State} {b : Nat} {A : Nat → Prop} (hgv : (Jvm.Cond.and given_1 narrow_1).before #[Value.ref b] s = true) (hts0 : ∀ w ∈ lw_tbl, w.before #[Value.ref b] s = true) (hAn : ∀ a : Nat, a < s.heap.size → ¬ A a) : SK RX13 306 "lswkrefcdghumo" tLET A s s.heap := by
  have hn := flat_of_before _ hgv
  obtain ⟨q, _, _, _, hq, -⟩ := Cond.exactly_spec (args := #[Value.ref b]) (first := s) (o := none) (s := s) (idx := []) (t := .string "UnlikeBoatsModel" 306) (cls := "java/lang/String") (hn (.exactly (.string "UnlikeBoatsModel" 306) "java/lang/String") (by decide +kernel))
  obtain ⟨vs, hv1, hv2⟩ := va_Tof (args := #[Value.ref b]) (s := s) (tm := (.field (.string "UnlikeBoatsModel" 306) "java/lang/String" "value" "[B")) (ty := .byte) (N := 14) (f := fun j => .int (tLET.getD j 0)) (A := A) (by decide) (hn _ (by decide +kernel)) (va_eqt (hn _ (by decide +kernel))) (fun j hj => by
    rcases (show j = 0 ∨ j = 1 ∨ j = 2 ∨ j = 3 ∨ j = 4 ∨ j = 5 ∨ j = 6 ∨ j = 7 ∨ j = 8 ∨ j = 9 ∨ j = 10 ∨ j = 11 ∨ j = 12 ∨ j = 13 by omega) with rfl | rfl | rfl | rfl | rfl | rfl | rfl | rfl | rfl | rfl | rfl | rfl | rfl | rfl
    · exact va_eqt (z := 108) (hn (.eq (.elem (.field (.string "UnlikeBoatsModel" 306) "java/lang/String" "value" "[B") (.int 0)) (.int 108)) (by decide +kernel))
    · exact va_eqt (z := 115) (hn (.eq (.elem (.field (.string "UnlikeBoatsModel" 306) "java/lang/String" "value" "[B") (.int 1)) (.int 115)) (by decide +kernel))
    · exact va_eqt (z := 119) (hn (.eq (.elem (.field (.string "UnlikeBoatsModel" 306) "java/lang/String" "value" "[B") (.int 2)) (.int 119)) (by decide +kernel))
    · exact va_eqt (z := 107) (hn (.eq (.elem (.field (.string "UnlikeBoatsModel" 306) "java/lang/String" "value" "[B") (.int 3)) (.int 107)) (by decide +kernel))
    · exact va_eqt (z := 114) (hn (.eq (.elem (.field (.string "UnlikeBoatsModel" 306) "java/lang/String" "value" "[B") (.int 4)) (.int 114)) (by decide +kernel))
    · exact va_eqt (z := 101) (hn (.eq (.elem (.field (.string "UnlikeBoatsModel" 306) "java/lang/String" "value" "[B") (.int 5)) (.int 101)) (by decide +kernel))
    · exact va_eqt (z := 102) (hn (.eq (.elem (.field (.string "UnlikeBoatsModel" 306) "java/lang/String" "value" "[B") (.int 6)) (.int 102)) (by decide +kernel))
    · exact va_eqt (z := 99) (hn (.eq (.elem (.field (.string "UnlikeBoatsModel" 306) "java/lang/String" "value" "[B") (.int 7)) (.int 99)) (by decide +kernel))
    · exact va_eqt (z := 100) (hn (.eq (.elem (.field (.string "UnlikeBoatsModel" 306) "java/lang/String" "value" "[B") (.int 8)) (.int 100)) (by decide +kernel))
    · exact va_eqt (z := 103) (hn (.eq (.elem (.field (.string "UnlikeBoatsModel" 306) "java/lang/String" "value" "[B") (.int 9)) (.int 103)) (by decide +kernel))
    · exact va_eqt (z := 104) (hn (.eq (.elem (.field (.string "UnlikeBoatsModel" 306) "java/lang/String" "value" "[B") (.int 10)) (.int 104)) (by decide +kernel))
    · exact va_eqt (z := 117) (hn (.eq (.elem (.field (.string "UnlikeBoatsModel" 306) "java/lang/String" "value" "[B") (.int 11)) (.int 117)) (by decide +kernel))
    · exact va_eqt (z := 109) (hn (.eq (.elem (.field (.string "UnlikeBoatsModel" 306) "java/lang/String" "value" "[B") (.int 12)) (.int 109)) (by decide +kernel))
    · exact va_eqt (z := 111) (hn (.eq (.elem (.field (.string "UnlikeBoatsModel" 306) "java/lang/String" "value" "[B") (.int 13)) (.int 111)) (by decide +kernel))) hAn
  exact ⟨q, vs, vk_R.of (hts0 (.stringRef "UnlikeBoatsModel" 306 "lswkrefcdghumo") (tq_8 _ (List.mem_of_getElem? (i := 179) rfl))) hq, va_Oof (hn _ (by decide +kernel)) hq hAn, vk_OFof hq (va_eqt (hn _ (by decide +kernel))) hAn, vk_OFof hq hv1 hAn, hv2, va_Zof (hts0 (.laysStatic "java/lang/String" "COMPACT_STRINGS" "Z") (tq_1 _ (List.mem_of_getElem? (i := 83) rfl))) (hts0 (.initialized "java/lang/String") (tq_1 _ (List.mem_of_getElem? (i := 6) rfl))) (va_eqt (hn _ (by decide +kernel))) hAn⟩
theorem sk_RX13_351 {s : State} {b : Nat} {A : Nat → Prop} (hgv : (Jvm.Cond.and given_1 narrow_1).before #[Value.ref b] s = true) (hts0 : ∀ w ∈ lw_tbl, w.before #[Value.ref b] s = true) (hAn : ∀ a : Nat, a < s.heap.size → ¬ A a) : SK RX13 351 "nptab" tLAB A s s.heap := by
  have hn := flat_of_before _ hgv
  obtain ⟨q, _, _, _, hq, -⟩ := Cond.exactly_spec (args := #[Value.ref b]) (first := s) (o := none) (s := s) (idx := []) (t := .string "UnlikeBoatsModel" 351) (cls := "java/lang/String") (hn (.exactly (.string "UnlikeBoatsModel" 351) "java/lang/String") (by decide +kernel))
  obtain ⟨vs, hv1, hv2⟩ := va_Tof (args := #[Value.ref b]) (s := s) (tm := (.field (.string "UnlikeBoatsModel" 351) "java/lang/String" "value" "[B")) (ty := .byte) (N := 5) (f := fun j => .int (tLAB.getD j 0)) (A := A) (by decide) (hn _ (by decide +kernel)) (va_eqt (hn _ (by decide +kernel))) (fun j hj => by
    rcases (show j = 0 ∨ j = 1 ∨ j = 2 ∨ j = 3 ∨ j = 4 by omega) with rfl | rfl | rfl | rfl | rfl
    · exact va_eqt (z := 110) (hn (.eq (.elem (.field (.string "UnlikeBoatsModel" 351) "java/lang/String" "value" "[B") (.int 0)) (.int 110)) (by decide +kernel))
    · exact va_eqt (z := 112) (hn (.eq (.elem (.field (.string "UnlikeBoatsModel" 351) "java/lang/String" "value" "[B") (.int 1)) (.int 112)) (by decide +kernel))
    · exact va_eqt (z := 116) (hn (.eq (.elem (.field (.string "UnlikeBoatsModel" 351) "java/lang/String" "value" "[B") (.int 2)) (.int 116)) (by decide +kernel))
    · exact va_eqt (z := 97) (hn (.eq (.elem (.field (.string "UnlikeBoatsModel" 351) "java/lang/String" "value" "[B") (.int 3)) (.int 97)) (by decide +kernel))
    · exact va_eqt (z := 98) (hn (.eq (.elem (.field (.string "UnlikeBoatsModel" 351) "java/lang/String" "value" "[B") (.int 4)) (.int 98)) (by decide +kernel))) hAn
  exact ⟨q, vs, vk_R.of (hts0 (.stringRef "UnlikeBoatsModel" 351 "nptab") (tq_8 _ (List.mem_of_getElem? (i := 145) rfl))) hq, va_Oof (hn _ (by decide +kernel)) hq hAn, vk_OFof hq (va_eqt (hn _ (by decide +kernel))) hAn, vk_OFof hq hv1 hAn, hv2, va_Zof (hts0 (.laysStatic "java/lang/String" "COMPACT_STRINGS" "Z") (tq_1 _ (List.mem_of_getElem? (i := 83) rfl))) (hts0 (.initialized "java/lang/String") (tq_1 _ (List.mem_of_getElem? (i := 6) rfl))) (va_eqt (hn _ (by decide +kernel))) hAn⟩
theorem sk_RX0_33 {s : State} {b : Nat} {A : Nat → Prop} (hgv : (Jvm.Cond.and given_1 narrow_1).before #[Value.ref b] s = true) (hts0 : ∀ w ∈ lw_tbl, w.before #[Value.ref b] s = true) (hAn : ∀ a : Nat, a < s.heap.size → ¬ A a) : SK RX0 33 "lswkrefcdghumo" tLET A s s.heap := by
  have hn := flat_of_before _ hgv
  obtain ⟨q, _, _, _, hq, -⟩ := Cond.exactly_spec (args := #[Value.ref b]) (first := s) (o := none) (s := s) (idx := []) (t := .string "UnlikeBoats$Book" 33) (cls := "java/lang/String") (hn (.exactly (.string "UnlikeBoats$Book" 33) "java/lang/String") (by decide +kernel))
  obtain ⟨vs, hv1, hv2⟩ := va_Tof (args := #[Value.ref b]) (s := s) (tm := (.field (.string "UnlikeBoats$Book" 33) "java/lang/String" "value" "[B")) (ty := .byte) (N := 14) (f := fun j => .int (tLET.getD j 0)) (A := A) (by decide) (hn _ (by decide +kernel)) (va_eqt (hn _ (by decide +kernel))) (fun j hj => by
    rcases (show j = 0 ∨ j = 1 ∨ j = 2 ∨ j = 3 ∨ j = 4 ∨ j = 5 ∨ j = 6 ∨ j = 7 ∨ j = 8 ∨ j = 9 ∨ j = 10 ∨ j = 11 ∨ j = 12 ∨ j = 13 by omega) with rfl | rfl | rfl | rfl | rfl | rfl | rfl | rfl | rfl | rfl | rfl | rfl | rfl | rfl
    · exact va_eqt (z := 108) (hn (.eq (.elem (.field (.string "UnlikeBoats$Book" 33) "java/lang/String" "value" "[B") (.int 0)) (.int 108)) (by decide +kernel))
    · exact va_eqt (z := 115) (hn (.eq (.elem (.field (.string "UnlikeBoats$Book" 33) "java/lang/String" "value" "[B") (.int 1)) (.int 115)) (by decide +kernel))
    · exact va_eqt (z := 119) (hn (.eq (.elem (.field (.string "UnlikeBoats$Book" 33) "java/lang/String" "value" "[B") (.int 2)) (.int 119)) (by decide +kernel))
    · exact va_eqt (z := 107) (hn (.eq (.elem (.field (.string "UnlikeBoats$Book" 33) "java/lang/String" "value" "[B") (.int 3)) (.int 107)) (by decide +kernel))
    · exact va_eqt (z := 114) (hn (.eq (.elem (.field (.string "UnlikeBoats$Book" 33) "java/lang/String" "value" "[B") (.int 4)) (.int 114)) (by decide +kernel))
    · exact va_eqt (z := 101) (hn (.eq (.elem (.field (.string "UnlikeBoats$Book" 33) "java/lang/String" "value" "[B") (.int 5)) (.int 101)) (by decide +kernel))
    · exact va_eqt (z := 102) (hn (.eq (.elem (.field (.string "UnlikeBoats$Book" 33) "java/lang/String" "value" "[B") (.int 6)) (.int 102)) (by decide +kernel))
    · exact va_eqt (z := 99) (hn (.eq (.elem (.field (.string "UnlikeBoats$Book" 33) "java/lang/String" "value" "[B") (.int 7)) (.int 99)) (by decide +kernel))
    · exact va_eqt (z := 100) (hn (.eq (.elem (.field (.string "UnlikeBoats$Book" 33) "java/lang/String" "value" "[B") (.int 8)) (.int 100)) (by decide +kernel))
    · exact va_eqt (z := 103) (hn (.eq (.elem (.field (.string "UnlikeBoats$Book" 33) "java/lang/String" "value" "[B") (.int 9)) (.int 103)) (by decide +kernel))
    · exact va_eqt (z := 104) (hn (.eq (.elem (.field (.string "UnlikeBoats$Book" 33) "java/lang/String" "value" "[B") (.int 10)) (.int 104)) (by decide +kernel))
    · exact va_eqt (z := 117) (hn (.eq (.elem (.field (.string "UnlikeBoats$Book" 33) "java/lang/String" "value" "[B") (.int 11)) (.int 117)) (by decide +kernel))
    · exact va_eqt (z := 109) (hn (.eq (.elem (.field (.string "UnlikeBoats$Book" 33) "java/lang/String" "value" "[B") (.int 12)) (.int 109)) (by decide +kernel))
    · exact va_eqt (z := 111) (hn (.eq (.elem (.field (.string "UnlikeBoats$Book" 33) "java/lang/String" "value" "[B") (.int 13)) (.int 111)) (by decide +kernel))) hAn
  exact ⟨q, vs, vk_R.of (hts0 (.stringRef "UnlikeBoats$Book" 33 "lswkrefcdghumo") (tq_1 _ (List.mem_of_getElem? (i := 73) rfl))) hq, va_Oof (hn _ (by decide +kernel)) hq hAn, vk_OFof hq (va_eqt (hn _ (by decide +kernel))) hAn, vk_OFof hq hv1 hAn, hv2, va_Zof (hts0 (.laysStatic "java/lang/String" "COMPACT_STRINGS" "Z") (tq_1 _ (List.mem_of_getElem? (i := 83) rfl))) (hts0 (.initialized "java/lang/String") (tq_1 _ (List.mem_of_getElem? (i := 6) rfl))) (va_eqt (hn _ (by decide +kernel))) hAn⟩
theorem st_STEP_X {s : State} {b : Nat} {A : Nat → Prop} (hgv : (Jvm.Cond.and given_1 narrow_1).before #[Value.ref b] s = true) (hts0 : ∀ w ∈ lw_tbl, w.before #[Value.ref b] s = true) (hAn : ∀ a : Nat, a < s.heap.size → ¬ A a) : STx "STEP_X" tSX A s s.heap := by
  have hn := flat_of_before _ hgv
  obtain ⟨q, hv1, hv2⟩ := va_Tof (args := #[Value.ref b]) (s := s) (tm := (.static "UnlikeBoats" "STEP_X" "[I")) (ty := .int) (N := 8) (f := fun j => .int (tSX.getD j 0)) (A := A) (by decide) (hn _ (by decide +kernel)) (va_eqt (hn _ (by decide +kernel))) (fun j hj => by
    rcases (show j = 0 ∨ j = 1 ∨ j = 2 ∨ j = 3 ∨ j = 4 ∨ j = 5 ∨ j = 6 ∨ j = 7 by omega) with rfl | rfl | rfl | rfl | rfl | rfl | rfl | rfl
    · exact va_eqt (z := 0) (hn (.eq (.elem (.static "UnlikeBoats" "STEP_X" "[I") (.int 0)) (.int 0)) (by decide +kernel))
    · exact va_eqt (z := 1) (hn (.eq (.elem (.static "UnlikeBoats" "STEP_X" "[I") (.int 1)) (.int 1)) (by decide +kernel))
    · exact va_eqt (z := 1) (hn (.eq (.elem (.static "UnlikeBoats" "STEP_X" "[I") (.int 2)) (.int 1)) (by decide +kernel))
    · exact va_eqt (z := 1) (hn (.eq (.elem (.static "UnlikeBoats" "STEP_X" "[I") (.int 3)) (.int 1)) (by decide +kernel))
    · exact va_eqt (z := 0) (hn (.eq (.elem (.static "UnlikeBoats" "STEP_X" "[I") (.int 4)) (.int 0)) (by decide +kernel))
    · exact va_eqt (z := (-1)) (hn (.eq (.elem (.static "UnlikeBoats" "STEP_X" "[I") (.int 5)) (.int (-1))) (by decide +kernel))
    · exact va_eqt (z := (-1)) (hn (.eq (.elem (.static "UnlikeBoats" "STEP_X" "[I") (.int 6)) (.int (-1))) (by decide +kernel))
    · exact va_eqt (z := (-1)) (hn (.eq (.elem (.static "UnlikeBoats" "STEP_X" "[I") (.int 7)) (.int (-1))) (by decide +kernel))) hAn
  exact ⟨q, va_Zref (hts0 (.laysStatic "UnlikeBoats" "STEP_X" "[I") (tq_6 _ (List.mem_of_getElem? (i := 17) rfl))) (hts0 (.initialized "UnlikeBoats") (tq_1 _ (List.mem_of_getElem? (i := 1) rfl))) hv1 hAn, hv2⟩
theorem st_STEP_Y {s : State} {b : Nat} {A : Nat → Prop} (hgv : (Jvm.Cond.and given_1 narrow_1).before #[Value.ref b] s = true) (hts0 : ∀ w ∈ lw_tbl, w.before #[Value.ref b] s = true) (hAn : ∀ a : Nat, a < s.heap.size → ¬ A a) : STx "STEP_Y" tSY A s s.heap := by
  have hn := flat_of_before _ hgv
  obtain ⟨q, hv1, hv2⟩ := va_Tof (args := #[Value.ref b]) (s := s) (tm := (.static "UnlikeBoats" "STEP_Y" "[I")) (ty := .int) (N := 8) (f := fun j => .int (tSY.getD j 0)) (A := A) (by decide) (hn _ (by decide +kernel)) (va_eqt (hn _ (by decide +kernel))) (fun j hj => by
    rcases (show j = 0 ∨ j = 1 ∨ j = 2 ∨ j = 3 ∨ j = 4 ∨ j = 5 ∨ j = 6 ∨ j = 7 by omega) with rfl | rfl | rfl | rfl | rfl | rfl | rfl | rfl
    · exact va_eqt (z := (-1)) (hn (.eq (.elem (.static "UnlikeBoats" "STEP_Y" "[I") (.int 0)) (.int (-1))) (by decide +kernel))
    · exact va_eqt (z := (-1)) (hn (.eq (.elem (.static "UnlikeBoats" "STEP_Y" "[I") (.int 1)) (.int (-1))) (by decide +kernel))
    · exact va_eqt (z := 0) (hn (.eq (.elem (.static "UnlikeBoats" "STEP_Y" "[I") (.int 2)) (.int 0)) (by decide +kernel))
    · exact va_eqt (z := 1) (hn (.eq (.elem (.static "UnlikeBoats" "STEP_Y" "[I") (.int 3)) (.int 1)) (by decide +kernel))
    · exact va_eqt (z := 1) (hn (.eq (.elem (.static "UnlikeBoats" "STEP_Y" "[I") (.int 4)) (.int 1)) (by decide +kernel))
    · exact va_eqt (z := 1) (hn (.eq (.elem (.static "UnlikeBoats" "STEP_Y" "[I") (.int 5)) (.int 1)) (by decide +kernel))
    · exact va_eqt (z := 0) (hn (.eq (.elem (.static "UnlikeBoats" "STEP_Y" "[I") (.int 6)) (.int 0)) (by decide +kernel))
    · exact va_eqt (z := (-1)) (hn (.eq (.elem (.static "UnlikeBoats" "STEP_Y" "[I") (.int 7)) (.int (-1))) (by decide +kernel))) hAn
  exact ⟨q, va_Zref (hts0 (.laysStatic "UnlikeBoats" "STEP_Y" "[I") (tq_6 _ (List.mem_of_getElem? (i := 19) rfl))) (hts0 (.initialized "UnlikeBoats") (tq_1 _ (List.mem_of_getElem? (i := 1) rfl))) hv1 hAn, hv2⟩
theorem nx_all {s : State} {b : Nat} (hgv : (Jvm.Cond.and given_1 narrow_1).before #[Value.ref b] s = true) (hts0 : ∀ w ∈ lw_tbl, w.before #[Value.ref b] s = true) : NXc s := by
  have hn := flat_of_before _ hgv
  exact ⟨List.forall_mem_cons.mpr ⟨(va_Nw.of rfl (hts0 (.methodLinkNest RX12 18 yX10_init "UnlikeBoats") (tq_1 _ (List.mem_of_getElem? (i := 142) rfl)))), List.forall_mem_cons.mpr ⟨(va_Nw.of rfl (hts0 (.methodLinkNest RX12 9 yX0_init "UnlikeBoats") (tq_1 _ (List.mem_of_getElem? (i := 43) rfl)))), List.forall_mem_cons.mpr ⟨(va_Nw.of rfl (hts0 (.methodLinkNest RX0 131 yX12_held "UnlikeBoats") (tq_4 _ (List.mem_of_getElem? (i := 70) rfl)))), List.forall_mem_cons.mpr ⟨(va_Nw.of rfl (hts0 (.methodLinkNest RX0 52 yX12_within "UnlikeBoats") (tq_2 _ (List.mem_of_getElem? (i := 158) rfl)))), List.forall_mem_cons.mpr ⟨(va_Nw.of rfl (hts0 (.methodLinkNest RX2 81 yX12_apart "UnlikeBoats") (tq_5 _ (List.mem_of_getElem? (i := 218) rfl)))), List.forall_mem_cons.mpr ⟨(va_Nw.of rfl (hts0 (.methodLinkNest RX3 109 yX12_sortIn "UnlikeBoats") (tq_6 _ (List.mem_of_getElem? (i := 103) rfl)))), List.forall_mem_cons.mpr ⟨(va_Nw.of rfl (hts0 (.methodLinkNest RX3 126 yX12_apart "UnlikeBoats") (tq_6 _ (List.mem_of_getElem? (i := 79) rfl)))), List.forall_mem_cons.mpr ⟨(va_Nw.of rfl (hts0 (.methodLinkNest RX3 89 yX12_cell "UnlikeBoats") (tq_6 _ (List.mem_of_getElem? (i := 63) rfl)))), List.forall_mem_cons.mpr ⟨(va_Nw.of rfl (hts0 (.methodLinkNest RX8 114 yX12_held "UnlikeBoats") (tq_5 _ (List.mem_of_getElem? (i := 67) rfl)))), List.forall_mem_cons.mpr ⟨(va_Nw.of rfl (hts0 (.methodLinkNest RX8 127 yX12_sortIn "UnlikeBoats") (tq_5 _ (List.mem_of_getElem? (i := 97) rfl)))), List.forall_mem_cons.mpr ⟨(va_Nw.of rfl (hts0 (.methodLinkNest RX8 76 yX12_cell "UnlikeBoats") (tq_5 _ (List.mem_of_getElem? (i := 44) rfl)))), List.forall_mem_cons.mpr ⟨(va_Nw.of rfl (hts0 (.methodLinkNest RX9 123 yX12_held "UnlikeBoats") (tq_5 _ (List.mem_of_getElem? (i := 39) rfl)))), List.forall_mem_cons.mpr ⟨(va_Nw.of rfl (hts0 (.methodLinkNest RX10 66 yX12_isOneOf "UnlikeBoats") (tq_3 _ (List.mem_of_getElem? (i := 81) rfl)))), fun _ h9 => nomatch h9⟩⟩⟩⟩⟩⟩⟩⟩⟩⟩⟩⟩⟩, ⟨(va_Nw.of rfl (hts0 (.fieldLinkNest RX2 151 "UnlikeBoats" "STEP_X" "[I" "UnlikeBoats") (tq_6 _ (List.mem_of_getElem? (i := 16) rfl)))), (va_Nw.of rfl (hts0 (.fieldLinkNest RX2 154 "UnlikeBoats" "STEP_Y" "[I" "UnlikeBoats") (tq_6 _ (List.mem_of_getElem? (i := 18) rfl))))⟩, List.forall_mem_cons.mpr ⟨(va_Nw.of rfl (hts0 (.castable RX1 "java/lang/Object") (tq_10 _ (List.mem_of_getElem? (i := 17) rfl)))), List.forall_mem_cons.mpr ⟨(va_Nw.of rfl (hts0 (.castable RX7 "java/lang/Object") (tq_10 _ (List.mem_of_getElem? (i := 18) rfl)))), List.forall_mem_cons.mpr ⟨(va_Nw.of rfl (hts0 (.castable RX5 "java/lang/Object") (tq_10 _ (List.mem_of_getElem? (i := 19) rfl)))), List.forall_mem_cons.mpr ⟨(va_Nw.of rfl (hts0 (.castable RX6 "java/lang/Object") (tq_10 _ (List.mem_of_getElem? (i := 20) rfl)))), List.forall_mem_cons.mpr ⟨(va_Nw.of rfl (hts0 (.castable RX11 "java/lang/Object") (tq_10 _ (List.mem_of_getElem? (i := 21) rfl)))), List.forall_mem_cons.mpr ⟨(va_Nw.of rfl (hts0 (.castable RX4 "java/lang/Object") (tq_10 _ (List.mem_of_getElem? (i := 22) rfl)))), fun _ h9 => nomatch h9⟩⟩⟩⟩⟩⟩, va_AO.of (hts0 (.arrayOver (.object "java/lang/Object")) (tq_3 _ (List.mem_of_getElem? (i := 11) rfl))), va_Mi.of (hn (.isRef (.mirror "[Ljava/lang/Object;")) (by decide +kernel)), va_Dc.of (hts0 (.declares ⟨"java/lang/Object", "getClass", "()Ljava/lang/Class;"⟩) (tq_10 _ (List.mem_of_getElem? (i := 28) rfl)))⟩
theorem K_obj {D : va_G} {cl : List vw_C} {s : State} (h : va_AO "java/lang/Object" s) (hK : va_K D cl [] s) : ∃ cO : ClassId, va_K D cl [(cO, .object "java/lang/Object")] s := by
  obtain ⟨comp, c, k, h1, -, h3, h4, h5⟩ := Cond.arrayOver_spec (args := #[]) (first := s) (o := none) (s := s) (idx := []) (n := "java/lang/Object") h
  refine ⟨c, hK.1, fun i q hq => ?_⟩
  match i, hq with
  | 0, hq => cases hq; exact ⟨fun N z => ⟨(fun k h => by cases h), k, h3, comp, h4⟩, k, comp, h3, h4, h1, h5⟩
  | i + 1, hq => simp at hq

theorem k_all {s : State} {b : Nat} (hts0 : ∀ w ∈ lw_tbl, w.before #[Value.ref b] s = true) : ∃ (dC : Nat → ClassId) (dI : Nat → Nat → Nat), va_K (dC, dI) vwCl [] s := by
  obtain ⟨c0, iS0, hKn0⟩ := u_known (ws := lw_tbl) (C := RJx4a65c) (T := TJx4a65c) (N := 3) (n := 3) hts0 lc_Jx4a65c (hts0 (.instantiable RJx4a65c 3) (tq_1 _ (List.mem_of_getElem? (i := 48) rfl)))
  obtain ⟨c1, iS1, hKn1⟩ := u_known (ws := lw_tbl) (C := RX0) (T := TX0) (N := 11) (n := 11) hts0 lc_X0 (hts0 (.instantiable RX0 11) (tq_1 _ (List.mem_of_getElem? (i := 42) rfl)))
  obtain ⟨c2, iS2, hKn2⟩ := u_known (ws := lw_tbl) (C := RX1) (T := TX1) (N := 6) (n := 6) hts0 lc_X1 (hts0 (.instantiable RX1 6) (tq_2 _ (List.mem_of_getElem? (i := 167) rfl)))
  obtain ⟨c3, iS3, hKn3⟩ := u_known (ws := lw_tbl) (C := RX2) (T := TX2) (N := 10) (n := 10) hts0 lc_X2 (hts0 (.instantiable RX2 10) (tq_2 _ (List.mem_of_getElem? (i := 22) rfl)))
  obtain ⟨c4, iS4, hKn4⟩ := u_known (ws := lw_tbl) (C := RX3) (T := TX3) (N := 18) (n := 18) hts0 lc_X3 (hts0 (.instantiable RX3 18) (tq_2 _ (List.mem_of_getElem? (i := 59) rfl)))
  obtain ⟨c5, iS5, hKn5⟩ := u_known (ws := lw_tbl) (C := RX4) (T := TX4) (N := 10) (n := 10) hts0 lc_X4 (hts0 (.instantiable RX4 10) (tq_5 _ (List.mem_of_getElem? (i := 153) rfl)))
  obtain ⟨c6, iS6, hKn6⟩ := u_known (ws := lw_tbl) (C := RX5) (T := TX5) (N := 12) (n := 12) hts0 lc_X5 (hts0 (.instantiable RX5 12) (tq_4 _ (List.mem_of_getElem? (i := 78) rfl)))
  obtain ⟨c7, iS7, hKn7⟩ := u_known (ws := lw_tbl) (C := RX6) (T := TX6) (N := 5) (n := 5) hts0 lc_X6 (hts0 (.instantiable RX6 5) (tq_4 _ (List.mem_of_getElem? (i := 173) rfl)))
  obtain ⟨c8, iS8, hKn8⟩ := u_known (ws := lw_tbl) (C := RX7) (T := TX7) (N := 6) (n := 6) hts0 lc_X7 (hts0 (.instantiable RX7 6) (tq_3 _ (List.mem_of_getElem? (i := 229) rfl)))
  obtain ⟨c9, iS9, hKn9⟩ := u_known (ws := lw_tbl) (C := RX8) (T := TX8) (N := 10) (n := 10) hts0 lc_X8 (hts0 (.instantiable RX8 10) (tq_1 _ (List.mem_of_getElem? (i := 221) rfl)))
  obtain ⟨c10, iS10, hKn10⟩ := u_known (ws := lw_tbl) (C := RX9) (T := TX9) (N := 9) (n := 9) hts0 lc_X9 (hts0 (.instantiable RX9 9) (tq_1 _ (List.mem_of_getElem? (i := 179) rfl)))
  obtain ⟨c11, iS11, hKn11⟩ := u_known (ws := lw_tbl) (C := RX10) (T := TX10) (N := 10) (n := 10) hts0 lc_X10 (hts0 (.instantiable RX10 10) (tq_1 _ (List.mem_of_getElem? (i := 141) rfl)))
  obtain ⟨c12, iS12, hKn12⟩ := u_known (ws := lw_tbl) (C := RX11) (T := TX11) (N := 8) (n := 8) hts0 lc_X11 (hts0 (.instantiable RX11 8) (tq_5 _ (List.mem_of_getElem? (i := 106) rfl)))
  obtain ⟨c13, iS13, hKn13⟩ := u_known (ws := lw_tbl) (C := RX12) (T := TX12) (N := 6) (n := 6) hts0 lc_X12 (hts0 (.instantiable RX12 6) (tq_1 _ (List.mem_of_getElem? (i := 34) rfl)))
  obtain ⟨c14, iS14, hKn14⟩ := u_known (ws := lw_tbl) (C := RX13) (T := TX13) (N := 97) (n := 97) hts0 lc_X13 (hts0 (.instantiable RX13 97) (tq_7 _ (List.mem_of_getElem? (i := 23) rfl)))
  refine ⟨fun k => if k = 0 then c0 else if k = 1 then c1 else if k = 2 then c2 else if k = 3 then c3 else if k = 4 then c4 else if k = 5 then c5 else if k = 6 then c6 else if k = 7 then c7 else if k = 8 then c8 else if k = 9 then c9 else if k = 10 then c10 else if k = 11 then c11 else if k = 12 then c12 else if k = 13 then c13 else c14, fun k => if k = 0 then iS0 else if k = 1 then iS1 else if k = 2 then iS2 else if k = 3 then iS3 else if k = 4 then iS4 else if k = 5 then iS5 else if k = 6 then iS6 else if k = 7 then iS7 else if k = 8 then iS8 else if k = 9 then iS9 else if k = 10 then iS10 else if k = 11 then iS11 else if k = 12 then iS12 else if k = 13 then iS13 else iS14, ?_, fun k q h => by simp at h⟩
  intro k q hq
  match k, hq with
  | 0, hq => cases hq; exact hKn0
  | 1, hq => cases hq; exact hKn1
  | 2, hq => cases hq; exact hKn2
  | 3, hq => cases hq; exact hKn3
  | 4, hq => cases hq; exact hKn4
  | 5, hq => cases hq; exact hKn5
  | 6, hq => cases hq; exact hKn6
  | 7, hq => cases hq; exact hKn7
  | 8, hq => cases hq; exact hKn8
  | 9, hq => cases hq; exact hKn9
  | 10, hq => cases hq; exact hKn10
  | 11, hq => cases hq; exact hKn11
  | 12, hq => cases hq; exact hKn12
  | 13, hq => cases hq; exact hKn13
  | 14, hq => cases hq; exact hKn14
  | k + 15, hq => simp [vwCl] at hq
theorem law_env {p : Program} {s : State} {m : MethodId} {meth : Method} {c : Code} (l : Launch) (hflags : l.flags = flags0) {b L : Nat} {xs : Nat → Int32} (C0 : lw_At p s m meth c b L xs) {A : Nat → Prop} (hAn : ∀ a : Nat, a < s.heap.size → ¬ A a) : l.stackTraces = false ∧ ∃ ed : Nat, ub_NX s ∧ ub_ZE ed A s s.heap ∧ ub_SL A s s.heap ∧ EVC ed A s s.heap ∧ EV A s s.heap ∧ ub_EX A s s.heap ∧ va_Nw (.castable "[I" "java/lang/Cloneable") s ∧ ∃ (dC : Nat → ClassId) (dI : Nat → Nat → Nat) (cO : ClassId), va_K (dC, dI) vwCl [(cO, .object "java/lang/Object")] s := by
  obtain ⟨hx, hb, hr, hml, hown, hts0, hX, hbl, hlocks, hgv⟩ := C0
  have hn := flat_of_before _ hgv
  refine ⟨by unfold Launch.stackTraces; rw [hflags]; decide +kernel, ?_⟩
  obtain ⟨ed, he1, he2⟩ := va_Tof (args := #[Value.ref b]) (s := s) (tm := .static "java/util/ArrayList" "DEFAULTCAPACITY_EMPTY_ELEMENTDATA" "[Ljava/lang/Object;") (ty := .object "java/lang/Object") (N := 0) (f := fun _ => .null) (A := A) (by decide) (hn _ (by decide +kernel)) (va_eqt (hn _ (by decide +kernel))) (fun j hj => absurd hj (Nat.not_lt_zero _)) hAn
  have hZE : ub_ZE ed A s s.heap := ⟨va_Zref (hts0 (.laysStatic "java/util/ArrayList" "DEFAULTCAPACITY_EMPTY_ELEMENTDATA" "[Ljava/lang/Object;") (tq_1 _ (List.mem_of_getElem? (i := 60) rfl))) (hts0 (.initialized "java/util/ArrayList") (tq_1 _ (List.mem_of_getElem? (i := 5) rfl))) he1 hAn, he2⟩
  have hNX : ub_NX s := ⟨(va_Nw.of rfl (hts0 (.methodLinkNest RX12 18 yX10_init "UnlikeBoats") (tq_1 _ (List.mem_of_getElem? (i := 142) rfl)))), (va_Nw.of rfl (hts0 (.methodLinkNest RX12 9 yX0_init "UnlikeBoats") (tq_1 _ (List.mem_of_getElem? (i := 43) rfl)))), (va_Nw.of rfl (hts0 (.methodLinkNest RX0 52 yX12_within "UnlikeBoats") (tq_2 _ (List.mem_of_getElem? (i := 158) rfl)))), (va_Nw.of rfl (hts0 (.methodLinkNest RX8 114 yX12_held "UnlikeBoats") (tq_5 _ (List.mem_of_getElem? (i := 67) rfl)))), (va_Nw.of rfl (hts0 (.methodLinkNest RX10 66 yX12_isOneOf "UnlikeBoats") (tq_3 _ (List.mem_of_getElem? (i := 81) rfl))))⟩
  have hNc := nx_all hgv hts0
  have hS33 := sk_RX0_33 hgv hts0 hAn
  obtain ⟨dC, dI, hK0⟩ := k_all hts0
  obtain ⟨cO, hKO⟩ := K_obj hNc.2.2.2.1 hK0
  obtain ⟨s294, _, _, _, q294, -⟩ := Cond.exactly_spec (args := #[Value.ref b]) (first := s) (o := none) (s := s) (idx := []) (t := .string "UnlikeBoats" 294) (cls := "java/lang/String") (hn (.exactly (.string "UnlikeBoats" 294) "java/lang/String") (by decide +kernel))
  obtain ⟨s326, _, _, _, q326, -⟩ := Cond.exactly_spec (args := #[Value.ref b]) (first := s) (o := none) (s := s) (idx := []) (t := .string "UnlikeBoats" 326) (cls := "java/lang/String") (hn (.exactly (.string "UnlikeBoats" 326) "java/lang/String") (by decide +kernel))
  refine ⟨ed, hNX, hZE, ?_, ⟨hNc, ⟨sk_RX10_64 hgv hts0 hAn, sk_RX10_74 hgv hts0 hAn, sk_RX10_79 hgv hts0 hAn, sk_RX10_108 hgv hts0 hAn, sk_RX10_113 hgv hts0 hAn, sk_RX10_121 hgv hts0 hAn⟩, ⟨st_STEP_X hgv hts0 hAn, st_STEP_Y hgv hts0 hAn⟩, hZE⟩, ⟨hNX, sk_RX13_306 hgv hts0 hAn, sk_RX13_351 hgv hts0 hAn⟩, ?_, (va_Nw.of rfl (hts0 (.castable "[I" "java/lang/Cloneable") (tq_3 _ (List.mem_of_getElem? (i := 238) rfl)))), dC, dI, cO, hKO⟩
  · obtain ⟨qs, vs, h1, h2, h3, h4, h5, h6⟩ := hS33
    exact ⟨qs, h1, h2, h3, ⟨vs, h4, _, h5⟩, h6⟩
  · exact ⟨vx_Zqof (hts0 (.laysStatic "java/lang/Throwable" "UNASSIGNED_STACK" "[Ljava/lang/StackTraceElement;") (tq_6 _ (List.mem_of_getElem? (i := 221) rfl))) (hts0 (.initialized "java/lang/Throwable") (tq_1 _ (List.mem_of_getElem? (i := 29) rfl))) (hn _ (by decide +kernel)) hAn, vx_Zqof (hts0 (.laysStatic "java/lang/Throwable" "SUPPRESSED_SENTINEL" "Ljava/util/List;") (tq_6 _ (List.mem_of_getElem? (i := 223) rfl))) (hts0 (.initialized "java/lang/Throwable") (tq_1 _ (List.mem_of_getElem? (i := 29) rfl))) (hn _ (by decide +kernel)) hAn, ⟨⟨s294, vk_R.of (hts0 (.stringRef "UnlikeBoats" 294 "no such race") (tq_6 _ (List.mem_of_getElem? (i := 233) rfl))) q294⟩, ⟨s326, vk_R.of (hts0 (.stringRef "UnlikeBoats" 326 "no such thing of a race") (tq_7 _ (List.mem_of_getElem? (i := 21) rfl))) q326⟩⟩, (va_Nw.of rfl (hts0 (.castable "java/util/NoSuchElementException" "java/util/NoSuchElementException") (tq_6 _ (List.mem_of_getElem? (i := 196) rfl)))), (va_Nw.of rfl (hts0 (.declares ⟨"java/lang/RuntimeException", "<init>", "(Ljava/lang/String;)V"⟩) (tq_6 _ (List.mem_of_getElem? (i := 198) rfl)))), (va_Nw.of rfl (hts0 (.declares ⟨"java/lang/Exception", "<init>", "(Ljava/lang/String;)V"⟩) (tq_6 _ (List.mem_of_getElem? (i := 200) rfl)))), (va_Nw.of rfl (hts0 (.declares ⟨"java/lang/Throwable", "<init>", "(Ljava/lang/String;)V"⟩) (tq_6 _ (List.mem_of_getElem? (i := 202) rfl))))⟩
theorem gen_join {A : Nat → Prop} {D : va_G} {cl : List vw_C} {W1 W2 W1' : va_W} {H H1 : Heap} (hP : va_P D cl (W1 ++ W2) H) (hD : va_D A (W1 ++ W2)) (hk : ∀ q : Nat, q < H.size → ¬ va_A W1 H.size q → H1[q]? = H[q]?) (hF : ∀ q, va_A W1 H.size q → A q) (hP1 : va_P D cl W1' H1) (hD1 : va_D (va_A W1 H.size) W1') : va_P D cl (W1' ++ W2) H1 ∧ va_D A (W1' ++ W2) := by
  have hlt : ∀ z ∈ W2, z.1 < H.size := fun z hz => by
    obtain ⟨i, hi⟩ := List.getElem?_of_mem (List.mem_append_right W1 hz)
    exact (hP i z hi).lt
  have hout : ∀ z ∈ W2, ¬ va_A W1 H.size z.1 := fun z hz h => by
    rcases h with ⟨k, e, h3⟩ | h3
    · exact va_D_out hD (z.1, e) (List.mem_of_getElem? h3) z hz rfl
    · have := hlt z hz
      omega
  have hPn : ∀ z ∈ W2, va_P D cl [z] H1 := fun z hz => va_P.kept (one_P hP (List.mem_append_right _ hz)) fun k q hq => by
    have h5 : q = z := List.mem_singleton.mp (List.mem_of_getElem? hq)
    subst h5
    exact hk q.1 (hlt q hz) (hout q hz)
  refine ⟨fun k q hq => ?_, ?_⟩
  · rcases List.mem_append.mp (List.mem_of_getElem? hq) with h | h
    · obtain ⟨i, hi⟩ := List.getElem?_of_mem h
      exact hP1 i q hi
    · exact hPn q h 0 q rfl
  · rw [va_D_iff] at hD1 ⊢
    have hD2 := va_D_iff.mp (va_D_right hD)
    refine ⟨?_, fun q hq => ?_⟩
    · rw [List.map_append]
      refine List.nodup_append.mpr ⟨hD1.1, hD2.1, fun x hx y hy e => ?_⟩
      obtain ⟨z1, h1, e1⟩ := List.mem_map.mp hx
      obtain ⟨z2, h2, e2⟩ := List.mem_map.mp hy
      refine hout z2 h2 ?_
      rw [e2, ← e, ← e1]
      exact hD1.2 z1 h1
    · rcases List.mem_append.mp hq with h | h
      · exact hF _ (hD1.2 q h)
      · exact hD2.2 q h
theorem free_of {A : Nat → Prop} {W1 W2 : va_W} {H0 H : Heap} {locs : List Loc} (hD : va_D A (W1 ++ W2)) (hS : va_S A H0 H locs) (hA : ∀ q, H0.size ≤ q → A q) : ∀ q, va_A W1 H.size q → A q := all_free (va_D_left hD) hS hA
section LAWS
variable {p : Program} {l : Launch} {e : Env} {R : Room} {s : State} {m : MethodId} {args : Array Value} {below : List Frame} {meth : Method} {c : Code} {H : Heap} {locs : List Loc} {cells slots mc ms : Nat} {Q : State → Prop}
variable {pc : Nat} {ls : Array Slot} {rest st0 : List Value} {dC : Nat → ClassId} {dI : Nat → Nat → Nat} {A : Nat → Prop}
theorem lcall {S : Type} {W1 W2 : va_W} {post : Int32 → S → Prop} {B : S → State → Prop} {a : Array Value} (Wf : S → va_W) (hBf : ∀ u t, B u t → va_P (dC, dI) vwCl (Wf u) t.heap ∧ va_D (va_A W1 H.size) (Wf u)) (hr : va_Run p l e R s m args below meth c H locs cells slots mc ms (F0 m pc ls st0) rest (va_Qi post B (va_A W1 H.size) a) (va_A W1 H.size)) (hS : va_S A s.heap H locs) (hA : ∀ q, s.heap.size ≤ q → A q) (hP : va_P (dC, dI) vwCl (W1 ++ W2) H) (hD : va_D A (W1 ++ W2))
    (kk : ∀ (r : Int32) (u : S) (H1 : Heap) (locs1 : List Loc), post r u → va_P (dC, dI) vwCl (Wf u ++ W2) H1 → va_D A (Wf u ++ W2) → va_S A s.heap H1 locs1 → W p l e R s m args below meth c H1 locs1 (cells + mc) (slots + ms) Q (F0 m (pc + 3) ls (.int r :: rest))) : W p l e R s m args below meth c H locs cells slots Q (F0 m pc ls st0) :=
  va_calli hr hS (fun q _ h => free_of hD hS hA q h) (free_of hD hS hA) (fun r u t H1 locs1 ht _ hw hB _ hk hS1 => by
    obtain ⟨h1, h2⟩ := hBf u t hB
    rw [ht] at h1
    obtain ⟨h3, h4⟩ := gen_join hP hD hk (free_of hD hS hA) h1 h2
    exact kk r u H1 locs1 hw h3 h4 hS1)
end LAWS
def FX (l : Launch) (s : State) (A : Nat → Prop) (ed : Nat) (dC : Nat → ClassId) (dI : Nat → Nat → Nat) (cT : Nat → ClassId) (cL : ClassId) : Prop := (l.stackTraces = false) ∧ (∀ q : Nat, s.heap.size ≤ q → A q) ∧ (∀ q : Nat, q < s.heap.size → ¬ A q) ∧ (∀ q : Nat, A q → s.heap.size ≤ q) ∧ (va_K (dC, dI) vwCl ((cL, .long) :: TYC cT) s) ∧ (EVC ed A s s.heap) ∧ (EV A s s.heap) ∧ (ub_EX A s s.heap) ∧ (va_Nw (.castable "[I" "java/lang/Cloneable") s)
theorem FX.hfl {l : Launch} {s : State} {A : Nat → Prop} {ed : Nat} {dC : Nat → ClassId} {dI : Nat → Nat → Nat} {cT : Nat → ClassId} {cL : ClassId} (h : FX l s A ed dC dI cT cL) : l.stackTraces = false := h.1
theorem FX.hA {l : Launch} {s : State} {A : Nat → Prop} {ed : Nat} {dC : Nat → ClassId} {dI : Nat → Nat → Nat} {cT : Nat → ClassId} {cL : ClassId} (h : FX l s A ed dC dI cT cL) : ∀ q : Nat, s.heap.size ≤ q → A q := h.2.1
theorem FX.hnA {l : Launch} {s : State} {A : Nat → Prop} {ed : Nat} {dC : Nat → ClassId} {dI : Nat → Nat → Nat} {cT : Nat → ClassId} {cL : ClassId} (h : FX l s A ed dC dI cT cL) : ∀ q : Nat, q < s.heap.size → ¬ A q := h.2.2.1
theorem FX.hAl {l : Launch} {s : State} {A : Nat → Prop} {ed : Nat} {dC : Nat → ClassId} {dI : Nat → Nat → Nat} {cT : Nat → ClassId} {cL : ClassId} (h : FX l s A ed dC dI cT cL) : ∀ q : Nat, A q → s.heap.size ≤ q := h.2.2.2.1
theorem FX.hK {l : Launch} {s : State} {A : Nat → Prop} {ed : Nat} {dC : Nat → ClassId} {dI : Nat → Nat → Nat} {cT : Nat → ClassId} {cL : ClassId} (h : FX l s A ed dC dI cT cL) : va_K (dC, dI) vwCl ((cL, .long) :: TYC cT) s := h.2.2.2.2.1
theorem FX.hEC {l : Launch} {s : State} {A : Nat → Prop} {ed : Nat} {dC : Nat → ClassId} {dI : Nat → Nat → Nat} {cT : Nat → ClassId} {cL : ClassId} (h : FX l s A ed dC dI cT cL) : EVC ed A s s.heap := h.2.2.2.2.2.1
theorem FX.hEV {l : Launch} {s : State} {A : Nat → Prop} {ed : Nat} {dC : Nat → ClassId} {dI : Nat → Nat → Nat} {cT : Nat → ClassId} {cL : ClassId} (h : FX l s A ed dC dI cT cL) : EV A s s.heap := h.2.2.2.2.2.2.1
theorem FX.hEX {l : Launch} {s : State} {A : Nat → Prop} {ed : Nat} {dC : Nat → ClassId} {dI : Nat → Nat → Nat} {cT : Nat → ClassId} {cL : ClassId} (h : FX l s A ed dC dI cT cL) : ub_EX A s s.heap := h.2.2.2.2.2.2.2.1
theorem FX.hCl {l : Launch} {s : State} {A : Nat → Prop} {ed : Nat} {dC : Nat → ClassId} {dI : Nat → Nat → Nat} {cT : Nat → ClassId} {cL : ClassId} (h : FX l s A ed dC dI cT cL) : va_Nw (.castable "[I" "java/lang/Cloneable") s := h.2.2.2.2.2.2.2.2
abbrev WWd (ou : Nat) (cL : ClassId) (cf ad am : Nat → Nat) (E EM : Nat → va_E) (f : Nat → Int64) : va_W := WL (LC cf) ad E ++ (WX 72 am EM ++ [(ou, .inl (cL, 1, .inr (.inl f)))])
def INV (s : State) (A : Nat → Prop) (ed : Nat) (dC : Nat → ClassId) (dI : Nat → Nat → Nat) (cT : Nat → ClassId) (cL : ClassId) (x ou : Nat) (am : Nat → Nat) (cf ad : Nat → Nat) (E EM : Nat → va_E) (f : Nat → Int64) (H : Heap) (locs : List Loc) : Prop := (cf 6 = ed) ∧ (CF cf) ∧ (IXL cT (shC cf) (spC cf) (LC cf) ad E) ∧ (IX cT shM spM 72 am EM) ∧ (DIr (xi (EM 55)) (xi (EM 54))) ∧ (va_P (dC, dI) vwCl (WWd ou cL cf ad am E EM f) H) ∧ (va_D A (WWd ou cL cf ad am E EM f)) ∧ (va_S A s.heap H locs) ∧ (ad 0 = x)
theorem INV.hed {s : State} {A : Nat → Prop} {ed : Nat} {dC : Nat → ClassId} {dI : Nat → Nat → Nat} {cT : Nat → ClassId} {cL : ClassId} {x ou : Nat} {am : Nat → Nat} {cf ad : Nat → Nat} {E EM : Nat → va_E} {f : Nat → Int64} {H : Heap} {locs : List Loc} (h : INV s A ed dC dI cT cL x ou am cf ad E EM f H locs) : cf 6 = ed := h.1
theorem INV.hC {s : State} {A : Nat → Prop} {ed : Nat} {dC : Nat → ClassId} {dI : Nat → Nat → Nat} {cT : Nat → ClassId} {cL : ClassId} {x ou : Nat} {am : Nat → Nat} {cf ad : Nat → Nat} {E EM : Nat → va_E} {f : Nat → Int64} {H : Heap} {locs : List Loc} (h : INV s A ed dC dI cT cL x ou am cf ad E EM f H locs) : CF cf := h.2.1
theorem INV.hI {s : State} {A : Nat → Prop} {ed : Nat} {dC : Nat → ClassId} {dI : Nat → Nat → Nat} {cT : Nat → ClassId} {cL : ClassId} {x ou : Nat} {am : Nat → Nat} {cf ad : Nat → Nat} {E EM : Nat → va_E} {f : Nat → Int64} {H : Heap} {locs : List Loc} (h : INV s A ed dC dI cT cL x ou am cf ad E EM f H locs) : IXL cT (shC cf) (spC cf) (LC cf) ad E := h.2.2.1
theorem INV.hM {s : State} {A : Nat → Prop} {ed : Nat} {dC : Nat → ClassId} {dI : Nat → Nat → Nat} {cT : Nat → ClassId} {cL : ClassId} {x ou : Nat} {am : Nat → Nat} {cf ad : Nat → Nat} {E EM : Nat → va_E} {f : Nat → Int64} {H : Heap} {locs : List Loc} (h : INV s A ed dC dI cT cL x ou am cf ad E EM f H locs) : IX cT shM spM 72 am EM := h.2.2.2.1
theorem INV.hDI {s : State} {A : Nat → Prop} {ed : Nat} {dC : Nat → ClassId} {dI : Nat → Nat → Nat} {cT : Nat → ClassId} {cL : ClassId} {x ou : Nat} {am : Nat → Nat} {cf ad : Nat → Nat} {E EM : Nat → va_E} {f : Nat → Int64} {H : Heap} {locs : List Loc} (h : INV s A ed dC dI cT cL x ou am cf ad E EM f H locs) : DIr (xi (EM 55)) (xi (EM 54)) := h.2.2.2.2.1
theorem INV.hP {s : State} {A : Nat → Prop} {ed : Nat} {dC : Nat → ClassId} {dI : Nat → Nat → Nat} {cT : Nat → ClassId} {cL : ClassId} {x ou : Nat} {am : Nat → Nat} {cf ad : Nat → Nat} {E EM : Nat → va_E} {f : Nat → Int64} {H : Heap} {locs : List Loc} (h : INV s A ed dC dI cT cL x ou am cf ad E EM f H locs) : va_P (dC, dI) vwCl (WWd ou cL cf ad am E EM f) H := h.2.2.2.2.2.1
theorem INV.hD {s : State} {A : Nat → Prop} {ed : Nat} {dC : Nat → ClassId} {dI : Nat → Nat → Nat} {cT : Nat → ClassId} {cL : ClassId} {x ou : Nat} {am : Nat → Nat} {cf ad : Nat → Nat} {E EM : Nat → va_E} {f : Nat → Int64} {H : Heap} {locs : List Loc} (h : INV s A ed dC dI cT cL x ou am cf ad E EM f H locs) : va_D A (WWd ou cL cf ad am E EM f) := h.2.2.2.2.2.2.1
theorem INV.hS {s : State} {A : Nat → Prop} {ed : Nat} {dC : Nat → ClassId} {dI : Nat → Nat → Nat} {cT : Nat → ClassId} {cL : ClassId} {x ou : Nat} {am : Nat → Nat} {cf ad : Nat → Nat} {E EM : Nat → va_E} {f : Nat → Int64} {H : Heap} {locs : List Loc} (h : INV s A ed dC dI cT cL x ou am cf ad E EM f H locs) : va_S A s.heap H locs := h.2.2.2.2.2.2.2.1
theorem INV.hx {s : State} {A : Nat → Prop} {ed : Nat} {dC : Nat → ClassId} {dI : Nat → Nat → Nat} {cT : Nat → ClassId} {cL : ClassId} {x ou : Nat} {am : Nat → Nat} {cf ad : Nat → Nat} {E EM : Nat → va_E} {f : Nat → Int64} {H : Heap} {locs : List Loc} (h : INV s A ed dC dI cT cL x ou am cf ad E EM f H locs) : ad 0 = x := h.2.2.2.2.2.2.2.2
section INVS
variable {p : Program} {l : Launch} {e : Env} {R : Room} {s : State} {m : MethodId} {args : Array Value} {below : List Frame} {meth : Method} {c : Code} {H : Heap} {locs : List Loc} {cells slots mc ms : Nat} {Q : State → Prop}
variable {pc : Nat} {ls : Array Slot} {rest st0 : List Value} {dC : Nat → ClassId} {dI : Nat → Nat → Nat} {A : Nat → Prop} {ed : Nat} {cT : Nat → ClassId} {cL : ClassId} {x ou : Nat} {am cf ad : Nat → Nat} {E EM : Nat → va_E} {f : Nat → Int64}
theorem FX.kc (F : FX l s A ed dC dI cT cL) : va_K (dC, dI) vwCl (TYC cT) s := F.hK.sub (tys' := TYC cT) [1, 2, 3, 4] rfl
theorem FX.km (F : FX l s A ed dC dI cT cL) : va_K (dC, dI) vwCl (TYM cT) s := F.hK.sub (tys' := TYM cT) [1, 2, 3] rfl
theorem INV.cp (V : INV s A ed dC dI cT cL x ou am cf ad E EM f H locs) : va_P (dC, dI) vwCl (WL (LC cf) ad E) H := va_P_sub V.hP fun _ h => List.mem_append_left _ h
theorem INV.pm (V : INV s A ed dC dI cT cL x ou am cf ad E EM f H locs) : va_P (dC, dI) vwCl (WX 72 am EM) H := va_P_sub V.hP fun _ h => List.mem_append_right _ (List.mem_append_left _ h)
theorem INV.dc (V : INV s A ed dC dI cT cL x ou am cf ad E EM f H locs) : va_D A (WL (LC cf) ad E) := va_D_left V.hD
theorem INV.dm (V : INV s A ed dC dI cT cL x ou am cf ad E EM f H locs) : va_D A (WX 72 am EM) := va_D_left (va_D_right V.hD)
theorem INV.ec (V : INV s A ed dC dI cT cL x ou am cf ad E EM f H locs) (F : FX l s A ed dC dI cT cL) : EVC (cf 6) A s s.heap := by rw [V.hed]; exact F.hEC
theorem WL_same {L : List Nat} {ad : Nat → Nat} {E E' : Nat → va_E} {A A' : Nat → Prop} (h : va_D A (WL L ad E)) (hA : ∀ q ∈ WL L ad E', A' q.1) : va_D A' (WL L ad E') := by
  rw [va_D_iff] at h ⊢
  refine ⟨?_, hA⟩
  have e : (WL L ad E').map (fun q => q.1) = (WL L ad E).map (fun q => q.1) := by unfold WL; rw [List.map_map, List.map_map] <;> rfl
  rw [e]
  exact h.1
theorem WL_self {L : List Nat} {ad : Nat → Nat} {E E' : Nat → va_E} {n : Nat} : ∀ q ∈ WL L ad E', va_A (WL L ad E) n q.1 := by
  intro q hq
  obtain ⟨k, hk, rfl⟩ := List.mem_map.mp hq
  obtain ⟨i, hi⟩ := List.getElem?_of_mem (show (ad k, E k) ∈ WL L ad E from List.mem_map.mpr ⟨k, hk, rfl⟩)
  exact Or.inl ⟨i, E k, hi⟩
theorem WX_same {n : Nat} {ad : Nat → Nat} {E E' : Nat → va_E} {A A' : Nat → Prop} (h : va_D A (WX n ad E)) (hA : ∀ q ∈ WX n ad E', A' q.1) : va_D A' (WX n ad E') := WL_same (L := List.range n) h hA
theorem WX_self {n k : Nat} {ad : Nat → Nat} {E E' : Nat → va_E} : ∀ q ∈ WX n ad E', va_A (WX n ad E) k q.1 := WL_self (L := List.range n)
theorem WX_WL {n : Nat} {ad : Nat → Nat} {E : Nat → va_E} : WX n ad E = WL (List.range n) ad E := rfl
/-- a call of the class that makes nothing -/
theorem lC {post : Int32 → (Nat → va_E) → Prop} {a : Array Value} (F : FX l s A ed dC dI cT cL) (V : INV s A ed dC dI cT cL x ou am cf ad E EM f H locs) (hpost : ∀ r u, post r u → IXL cT (shC cf) (spC cf) (LC cf) ad u) (hr : va_Run p l e R s m args below meth c H locs cells slots 0 0 (F0 m pc ls st0) rest (va_Qi (S := Nat → va_E) post (HBL dC dI (LC cf) ad) (va_A (WL (LC cf) ad E) H.size) a) (va_A (WL (LC cf) ad E) H.size))
    (kk : ∀ (r : Int32) (u : Nat → va_E) (H1 : Heap) (locs1 : List Loc), post r u → INV s A ed dC dI cT cL x ou am cf ad u EM f H1 locs1 → W p l e R s m args below meth c H1 locs1 cells slots Q (F0 m (pc + 3) ls (.int r :: rest))) : W p l e R s m args below meth c H locs cells slots Q (F0 m pc ls st0) :=
  lcall (fun u => WL (LC cf) ad u) (fun u t h => ⟨h, WL_same V.dc WL_self⟩) hr V.hS F.hA V.hP V.hD (fun r u H1 locs1 hw hP hD hS => kk r u H1 locs1 hw ⟨V.hed, V.hC, hpost r u hw, V.hM, V.hDI, hP, hD, hS, V.hx⟩)
set_option maxRecDepth 100000 in
/-- a call of the class that makes cells -/
theorem lCm {post : Int32 → (Nat → Nat) × (Nat → Nat) × (Nat → va_E) → Prop} {a : Array Value} (F : FX l s A ed dC dI cT cL) (V : INV s A ed dC dI cT cL x ou am cf ad E EM f H locs) (hpost : ∀ r u, post r u → CF u.1 ∧ IXL cT (shC u.1) (spC u.1) (LC u.1) u.2.1 u.2.2 ∧ u.1 6 = cf 6 ∧ u.2.1 0 = ad 0) (hr : va_Run p l e R s m args below meth c H locs cells slots mc ms (F0 m pc ls st0) rest (va_Qi (S := (Nat → Nat) × (Nat → Nat) × (Nat → va_E)) post (fun u t => va_P (dC, dI) vwCl (WL (LC u.1) u.2.1 u.2.2) t.heap ∧ va_D (va_A (WL (LC cf) ad E) H.size) (WL (LC u.1) u.2.1 u.2.2)) (va_A (WL (LC cf) ad E) H.size) a) (va_A (WL (LC cf) ad E) H.size))
    (kk : ∀ (r : Int32) (cf' ad' : Nat → Nat) (u : Nat → va_E) (H1 : Heap) (locs1 : List Loc), post r (cf', ad', u) → INV s A ed dC dI cT cL x ou am cf' ad' u EM f H1 locs1 → W p l e R s m args below meth c H1 locs1 (cells + mc) (slots + ms) Q (F0 m (pc + 3) ls (.int r :: rest))) : W p l e R s m args below meth c H locs cells slots Q (F0 m pc ls st0) :=
  lcall (S := (Nat → Nat) × (Nat → Nat) × (Nat → va_E)) (W1 := WL (LC cf) ad E) (W2 := WX 72 am EM ++ [(ou, .inl (cL, 1, .inr (.inl f)))]) (fun (u : (Nat → Nat) × (Nat → Nat) × (Nat → va_E)) => WL (LC u.1) u.2.1 u.2.2) (fun (u : (Nat → Nat) × (Nat → Nat) × (Nat → va_E)) t h => (h : va_P (dC, dI) vwCl (WL (LC u.1) u.2.1 u.2.2) t.heap ∧ va_D (va_A (WL (LC cf) ad E) H.size) (WL (LC u.1) u.2.1 u.2.2))) hr V.hS F.hA V.hP V.hD (fun r u H1 locs1 hw hP hD hS => kk r u.1 u.2.1 u.2.2 H1 locs1 hw ⟨(hpost r u hw).2.2.1.trans V.hed, (hpost r u hw).1, (hpost r u hw).2.1, V.hM, V.hDI, hP, hD, hS, (hpost r u hw).2.2.2.trans V.hx⟩)
theorem pcons {x : Nat × va_E} {Y X : va_W} : ((x :: Y) ++ X).Perm (Y ++ (X ++ [x])) := by
  have h : ((x :: Y) ++ X) = [x] ++ (Y ++ X) := rfl
  rw [h, ← List.append_assoc Y X [x]]
  exact List.perm_append_comm
theorem pmid {X Y Z : va_W} : (Y ++ (X ++ Z)).Perm (X ++ (Y ++ Z)) := by
  rw [← List.append_assoc, ← List.append_assoc]
  exact List.Perm.append_right Z List.perm_append_comm
theorem WWd_m {ou : Nat} {cL : ClassId} {cf ad am : Nat → Nat} {E : Nat → va_E} {f : Nat → Int64} (u : Nat → va_E) : (WWd ou cL cf ad am E u f).Perm (WX 72 am u ++ (WL (LC cf) ad E ++ [(ou, .inl (cL, 1, .inr (.inl f)))])) := by
  unfold WWd
  exact pmid
theorem WWd_t {ou : Nat} {cL : ClassId} {cf ad am : Nat → Nat} {E EM : Nat → va_E} (f : Nat → Int64) : (((ou, (.inl (cL, 1, .inr (.inl f)) : va_E)) :: WL (LC cf) ad E) ++ WX 72 am EM).Perm (WWd ou cL cf ad am E EM f) := by
  unfold WWd
  exact pcons
set_option maxRecDepth 100000 in
/-- a call of the reference -/
theorem lM {post : Int32 → (Nat → va_E) → Prop} {a : Array Value} (F : FX l s A ed dC dI cT cL) (V : INV s A ed dC dI cT cL x ou am cf ad E EM f H locs) (hpost : ∀ r u, post r u → IX cT shM spM 72 am u ∧ DIr (xi (u 55)) (xi (u 54))) (hr : va_Run p l e R s m args below meth c H locs cells slots 0 0 (F0 m pc ls st0) rest (va_Qi (S := Nat → va_E) post (HB dC dI 72 am) (va_A (WX 72 am EM) H.size) a) (va_A (WX 72 am EM) H.size))
    (kk : ∀ (r : Int32) (u : Nat → va_E) (H1 : Heap) (locs1 : List Loc), post r u → INV s A ed dC dI cT cL x ou am cf ad E u f H1 locs1 → W p l e R s m args below meth c H1 locs1 cells slots Q (F0 m (pc + 3) ls (.int r :: rest))) : W p l e R s m args below meth c H locs cells slots Q (F0 m pc ls st0) :=
  lcall (W1 := WX 72 am EM) (W2 := WL (LC cf) ad E ++ [(ou, .inl (cL, 1, .inr (.inl f)))]) (fun u => WX 72 am u) (fun u t h => ⟨h, WX_same V.dm WX_self⟩) hr V.hS F.hA (va_P_perm V.hP (WWd_m EM).symm) (va_D_perm V.hD (WWd_m EM).symm) (fun r u H1 locs1 hw hP hD hS => kk r u H1 locs1 hw ⟨V.hed, V.hC, V.hI, (hpost r u hw).1, (hpost r u hw).2, va_P_perm hP (WWd_m u), va_D_perm hD (WWd_m u), hS, V.hx⟩)
set_option maxRecDepth 100000 in
/-- the law's own told -/
theorem lT {post : Int32 → (Nat → Int64) → Prop} {a : Array Value} (F : FX l s A ed dC dI cT cL) (V : INV s A ed dC dI cT cL x ou am cf ad E EM f H locs) (hr : va_Run p l e R s m args below meth c H locs cells slots mc ms (F0 m pc ls st0) rest (va_Qi (S := Nat → Int64) post (fun f' t => va_P (dC, dI) vwCl ((ou, .inl (cL, 1, .inr (.inl f'))) :: WL (LC cf) ad E) t.heap ∧ va_D (va_A ((ou, .inl (cL, 1, .inr (.inl f))) :: WL (LC cf) ad E) H.size) ((ou, .inl (cL, 1, .inr (.inl f'))) :: WL (LC cf) ad E)) (va_A ((ou, .inl (cL, 1, .inr (.inl f))) :: WL (LC cf) ad E) H.size) a) (va_A ((ou, .inl (cL, 1, .inr (.inl f))) :: WL (LC cf) ad E) H.size))
    (kk : ∀ (r : Int32) (f' : Nat → Int64) (H1 : Heap) (locs1 : List Loc), post r f' → INV s A ed dC dI cT cL x ou am cf ad E EM f' H1 locs1 → W p l e R s m args below meth c H1 locs1 (cells + mc) (slots + ms) Q (F0 m (pc + 3) ls (.int r :: rest))) : W p l e R s m args below meth c H locs cells slots Q (F0 m pc ls st0) := by
  exact lcall (W1 := (ou, .inl (cL, 1, .inr (.inl f))) :: WL (LC cf) ad E) (W2 := WX 72 am EM) (fun f' => (ou, .inl (cL, 1, .inr (.inl f'))) :: WL (LC cf) ad E) (fun u t h => h) hr V.hS F.hA (va_P_perm V.hP (WWd_t f)) (va_D_perm V.hD (WWd_t f)) (fun r f' H1 locs1 hw hP hD hS => kk r f' H1 locs1 hw ⟨V.hed, V.hC, V.hI, V.hM, V.hDI, va_P_perm hP (WWd_t f').symm, va_D_perm hD (WWd_t f').symm, hS, V.hx⟩)
theorem INV.pt (V : INV s A ed dC dI cT cL x ou am cf ad E EM f H locs) : va_P (dC, dI) vwCl ((ou, .inl (cL, 1, .inr (.inl f))) :: WL (LC cf) ad E) H := va_P_sub V.hP fun z h => by
  rcases List.mem_cons.mp h with rfl | h
  · exact List.mem_append_right _ (List.mem_append_right _ (List.mem_singleton.mpr rfl))
  · exact List.mem_append_left _ h
theorem INV.dt (V : INV s A ed dC dI cT cL x ou am cf ad E EM f H locs) : va_D A ((ou, .inl (cL, 1, .inr (.inl f))) :: WL (LC cf) ad E) := va_D_left (va_D_perm V.hD (WWd_t f))
end INVS
/-- what the two hold alike -/
def CNT (cf : Nat → Nat) (EM : Nat → va_E) : Prop := (xi (EM 0) 9).toInt = ((cf 0 : Nat) : Int) ∧ (xi (EM 0) 46).toInt = ((cf 2 : Nat) : Int) ∧ (xi (EM 0) 47).toInt = ((cf 3 : Nat) : Int) ∧ (xi (EM 0) 74).toInt = ((cf 4 : Nat) : Int) ∧ (xi (EM 0) 75).toInt = ((cf 5 : Nat) : Int)
def EN (cf : Nat → Nat) (E EM : Nat → va_E) : Prop := ∀ i b : Nat, i < cf 2 → b < 16 → (xi (E (64 * (i + 1) + 7)) b = -1 ∧ xi (EM 21) (16 * i + b) = 1000) ∨ xi (E (64 * (i + 1) + 7)) b = xi (EM 21) (16 * i + b)
def REL (cf : Nat → Nat) (E EM : Nat → va_E) : Prop := xi (E 1) 0 = xi (EM 0) 1 ∧ xi (E 1) 1 = xi (EM 0) 8 ∧ CNT cf EM ∧ EN cf E EM
theorem EN.k {cf cf' : Nat → Nat} {E E' EM : Nat → va_E} (h : EN cf E EM) (hc : cf' 2 = cf 2) (hk : ∀ i j, i < cf 2 → xi (E' (64 * (i + 1) + 7)) j = xi (E (64 * (i + 1) + 7)) j) : EN cf' E' EM := fun i b hi hb => by
  rw [hc] at hi
  rw [hk i b hi]
  exact h i b hi hb
theorem EN.m {cf : Nat → Nat} {E EM EM' : Nat → va_E} (h : EN cf E EM) (hk : ∀ j, xi (EM' 21) j = xi (EM 21) j) : EN cf E EM' := fun i b hi hb => by
  rw [hk]
  exact h i b hi hb
theorem CNT.k {cf cf' : Nat → Nat} {EM : Nat → va_E} (h : CNT cf EM) (h0 : cf' 0 = cf 0) (h2 : cf' 2 = cf 2) (h3 : cf' 3 = cf 3) (h4 : cf' 4 = cf 4) (h5 : cf' 5 = cf 5) : CNT cf' EM := by
  unfold CNT
  rw [h0, h2, h3, h4, h5]
  exact h
theorem xik {w : Nat → Nat → Bool} {E E' : Nat → va_E} (hk : Kp w E E') {o j : Nat} (h : w o j = false) : xi (E' o) j = xi (E o) j := congrArg vi (hk o j h)
theorem CNT.m {cf : Nat → Nat} {EM EM' : Nat → va_E} {w : Nat → Nat → Bool} (h : CNT cf EM) (hk : Kp w EM EM') (hs : ∀ j ∈ [9, 46, 47, 74, 75], w 0 j = false) : CNT cf EM' := by
  unfold CNT
  rw [xik hk (hs 9 (by decide)), xik hk (hs 46 (by decide)), xik hk (hs 47 (by decide)), xik hk (hs 74 (by decide)), xik hk (hs 75 (by decide))]
  exact h
theorem REL.c {cf : Nat → Nat} {E E' EM : Nat → va_E} {w : Nat → Nat → Bool} (h : REL cf E EM) (hk : Kp w E E') (h0 : w 1 0 = false) (h1 : w 1 1 = false) (hE : ∀ i j, w (64 * (i + 1) + 7) j = false) : REL cf E' EM := ⟨(xik hk h0).trans h.1, (xik hk h1).trans h.2.1, h.2.2.1, h.2.2.2.k rfl (fun i j _ => xik hk (hE i j))⟩
theorem REL.m {cf : Nat → Nat} {E EM EM' : Nat → va_E} {w : Nat → Nat → Bool} (h : REL cf E EM) (hk : Kp w EM EM') (hs : ∀ j ∈ [1, 8, 9, 46, 47, 74, 75], w 0 j = false) (hE : ∀ j, w 21 j = false) : REL cf E EM' := ⟨h.1.trans (xik hk (hs 1 (by decide))).symm, h.2.1.trans (xik hk (hs 8 (by decide))).symm, h.2.2.1.m hk (fun j hj => hs j (by simp only [List.mem_cons, List.not_mem_nil, or_false] at hj ⊢; omega)), h.2.2.2.m (fun j => xik hk (hE j))⟩
theorem grown_at {J : Nat} {cf cf' : Nat → Nat} (h : Grown J cf cf') : ∀ j, j < 6 → j ≠ J → cf' j = cf j := h.2.1
theorem made_c {J : Nat} {cT : Nat → ClassId} {cf ad : Nat → Nat} {w : Nat → Nat → Bool} {E : Nat → va_E} {u : (Nat → Nat) × (Nat → Nat) × (Nat → va_E)} {No : Prop} {Yes : va_E → Prop} (h : Made J cT cf ad w E u No Yes) : ∀ j, j < 6 → j ≠ J → u.1 j = cf j := by
  obtain ⟨h1, h2, ⟨h3, h4, h5, -⟩ | ⟨h3, h4, h5, -⟩⟩ := h
  · exact fun j _ _ => congrFun h3 j
  · exact fun j hj hn => h3.2.1 j hj hn
theorem madeX_c {J : Nat} {cT : Nat → ClassId} {cf ad : Nat → Nat} {w : Nat → Nat → Bool} {E : Nat → va_E} {u : (Nat → Nat) × (Nat → Nat) × (Nat → va_E)} {No : Prop} {Yes : (Nat → Nat) × (Nat → Nat) × (Nat → va_E) → Prop} (h : MadeX J cT cf ad w E u No Yes) : ∀ j, j < 6 → j ≠ J → u.1 j = cf j := by
  obtain ⟨h1, h2, ⟨h3, h4, h5, -⟩ | ⟨h3, h4, h5, -⟩⟩ := h
  · exact fun j _ _ => congrFun h3 j
  · exact fun j hj hn => h3.2.1 j hj hn
theorem row7 {J t i n : Nat} (hJ : J < 6) (ht : t < 15) (hk : kl t = J) (h : J = 2 → i < n) : 64 * (i + 1) + 7 ≠ 64 * (n + 1) + t := by
  by_cases e : t = 7
  · subst e
    have h2 : kl 7 = 2 := by decide
    have := h (hk.symm.trans h2)
    omega
  · omega
theorem made_k {J : Nat} {cT : Nat → ClassId} {cf ad : Nat → Nat} {w : Nat → Nat → Bool} {E : Nat → va_E} {u : (Nat → Nat) × (Nat → Nat) × (Nat → va_E)} {No : Prop} {Yes : va_E → Prop} (h : Made J cT cf ad w E u No Yes) (hJ : J < 6) (hE : ∀ i j, w (64 * (i + 1) + 7) j = false) : ∀ i j, i < cf 2 → xi (u.2.2 (64 * (i + 1) + 7)) j = xi (E (64 * (i + 1) + 7)) j := by
  obtain ⟨h1, h2, ⟨h3, h4, h5, -⟩ | ⟨h3, h4, h5, -⟩⟩ := h
  · exact fun i j _ => congrArg vi (h5 _ j (hE i j))
  · exact fun i j hi => congrArg vi (h5 _ j (by omega) (by omega) (fun t ht hk => row7 hJ ht hk (fun e => by subst e; exact hi)) (hE i j))
theorem madeX_k {J : Nat} {cT : Nat → ClassId} {cf ad : Nat → Nat} {w : Nat → Nat → Bool} {E : Nat → va_E} {u : (Nat → Nat) × (Nat → Nat) × (Nat → va_E)} {No : Prop} {Yes : (Nat → Nat) × (Nat → Nat) × (Nat → va_E) → Prop} (h : MadeX J cT cf ad w E u No Yes) (hJ : J < 6) (hE : ∀ i j, w (64 * (i + 1) + 7) j = false) : ∀ i j, i < cf 2 → xi (u.2.2 (64 * (i + 1) + 7)) j = xi (E (64 * (i + 1) + 7)) j := by
  obtain ⟨h1, h2, ⟨h3, h4, h5, -⟩ | ⟨h3, h4, h5, -⟩⟩ := h
  · exact fun i j _ => congrArg vi (h5 _ j (hE i j))
  · exact fun i j hi => congrArg vi (h5 _ j (by omega) (by omega) (fun t ht hk => row7 hJ ht hk (fun e => by subst e; exact hi)) (hE i j))
/-- who is entered, on both sides -/
theorem pen {cT : Nat → ClassId} {cf am : Nat → Nat} {E EM : Nat → va_E} {n : Int} (h : EN cf E EM) (hM : IX cT shM spM 72 am EM) (hn : 0 ≤ n ∧ n ≤ 400) (hc : cf 2 ≤ 20) (a b : Int32) (ha : 0 ≤ a.toInt ∧ a.toInt < ((cf 2 : Nat) : Int)) (hb : 0 ≤ b.toInt ∧ b.toInt < 16) : (¬ (xi (E (64 * (a.toNatClampNeg + 1) + 7)) b.toNatClampNeg).toInt = -1 ∧ (xi (E (64 * (a.toNatClampNeg + 1) + 7)) b.toNatClampNeg).toInt ≤ n) ↔ (xi (EM 21) (16 * a.toInt + b.toInt).toNat).toInt ≤ n := by
  have h1 := h a.toNatClampNeg b.toNatClampNeg (by rw [tn_]; omega) (by rw [tn_]; omega)
  have e2 : 16 * a.toNatClampNeg + b.toNatClampNeg = (16 * a.toInt + b.toInt).toNat := by rw [tn_, tn_]; omega
  rw [e2] at h1
  have hf : (0 : Int) ≤ (xi (EM 21) (16 * a.toInt + b.toInt).toNat).toInt ∧ (xi (EM 21) (16 * a.toInt + b.toInt).toNat).toInt ≤ 1000 := hM.iv 21 (Nat.le_of_ble_eq_true rfl) (t := 1) (c := 0) (nf := 320) rfl (show (16 * a.toInt + b.toInt).toNat < 320 by omega) rfl
  rcases h1 with ⟨h1, h2⟩ | h1
  · rw [h1, h2]
    have l1 : (-1 : Int32).toInt = -1 := rfl
    have l2 : (1000 : Int32).toInt = 1000 := rfl
    constructor
    · intro h3; exact absurd l1 h3.1
    · intro h3; omega
  · rw [h1]
    constructor
    · intro h3; exact h3.2
    · intro h3; exact ⟨by omega, h3⟩
/-- an entry told on both sides -/
theorem EN.up {cf : Nat → Nat} {E E' EM EM' : Nat → va_E} {a b x y : Int32} (h : EN cf E EM) (hxy : x = y) (ha : 0 ≤ a.toInt) (hb : 0 ≤ b.toInt ∧ b.toInt < 16) (hk : ∀ i j, i ≠ a.toNatClampNeg → xv (E' (64 * (i + 1) + 7)) j = xv (E (64 * (i + 1) + 7)) j) (h1 : xi (E' (64 * (a.toNatClampNeg + 1) + 7)) = upd (xi (E (64 * (a.toNatClampNeg + 1) + 7))) b.toNatClampNeg x) (h2 : xi (EM' 21) = upd (xi (EM 21)) (16 * a.toInt + b.toInt).toNat y) : EN cf E' EM' := fun i j hi hj => by
  have hne : ∀ (g : Nat → Int32) (k q : Nat) (v : Int32), q ≠ k → upd g k v q = g q := fun g k q v hq => if_neg hq
  by_cases hi2 : i = a.toNatClampNeg
  · by_cases hj2 : j = b.toNatClampNeg
    · subst hi2; subst hj2
      have e2 : 16 * a.toNatClampNeg + b.toNatClampNeg = (16 * a.toInt + b.toInt).toNat := by rw [tn_, tn_]; omega
      refine Or.inr ?_
      rw [h1, h2, e2, pk_us, pk_us]
      exact hxy
    · subst hi2
      have e2 : 16 * a.toNatClampNeg + j ≠ (16 * a.toInt + b.toInt).toNat := by rw [tn_] at hj2 ⊢; omega
      rw [h1, h2, hne _ _ _ _ hj2, hne _ _ _ _ e2]
      exact h _ j hi hj
  · have e1 : xi (E' (64 * (i + 1) + 7)) j = xi (E (64 * (i + 1) + 7)) j := congrArg vi (hk i j hi2)
    have e2 : 16 * i + j ≠ (16 * a.toInt + b.toInt).toNat := by rw [tn_] at hi2; omega
    rw [e1, h2, hne _ _ _ _ e2]
    exact h i j hi hj
theorem DIr_kp {w : Nat → Nat → Bool} {E E' : Nat → va_E} (hk : Kp w E E') (h4 : ∀ j, w 54 j = false) (h5 : ∀ j, w 55 j = false) (h : DIr (xi (E 55)) (xi (E 54))) : DIr (xi (E' 55)) (xi (E' 54)) := by
  rw [hk.ef 54 h4, hk.ef 55 h5]
  exact h
theorem made_o {J : Nat} {cT : Nat → ClassId} {cf ad : Nat → Nat} {w : Nat → Nat → Bool} {E : Nat → va_E} {u : (Nat → Nat) × (Nat → Nat) × (Nat → va_E)} {No : Prop} {Yes : va_E → Prop} (h : Made J cT cf ad w E u No Yes) : (CF u.1 ∧ IXL cT (shC u.1) (spC u.1) (LC u.1) u.2.1 u.2.2 ∧ u.1 6 = cf 6 ∧ u.2.1 0 = ad 0) ∧ ∀ j, w 1 j = false → xv (u.2.2 1) j = xv (E 1) j := by
  obtain ⟨h1, h2, ⟨h3, h4, h5, -⟩ | ⟨h3, h4, h5, -⟩⟩ := h
  · exact ⟨⟨h1, h2, by rw [h3], by rw [h4]⟩, fun j hj => h5 1 j hj⟩
  · exact ⟨⟨h1, h2, h3.2.2.1, h4 0 (by omega) (fun t _ _ => by omega)⟩, fun j hj => h5 1 j (by omega) (by omega) (fun t _ _ => by omega) hj⟩
theorem madeX_o {J : Nat} {cT : Nat → ClassId} {cf ad : Nat → Nat} {w : Nat → Nat → Bool} {E : Nat → va_E} {u : (Nat → Nat) × (Nat → Nat) × (Nat → va_E)} {No : Prop} {Yes : (Nat → Nat) × (Nat → Nat) × (Nat → va_E) → Prop} (h : MadeX J cT cf ad w E u No Yes) : (CF u.1 ∧ IXL cT (shC u.1) (spC u.1) (LC u.1) u.2.1 u.2.2 ∧ u.1 6 = cf 6 ∧ u.2.1 0 = ad 0) ∧ ∀ j, w 1 j = false → xv (u.2.2 1) j = xv (E 1) j := by
  obtain ⟨h1, h2, ⟨h3, h4, h5, -⟩ | ⟨h3, h4, h5, -⟩⟩ := h
  · exact ⟨⟨h1, h2, by rw [h3], by rw [h4]⟩, fun j hj => h5 1 j hj⟩
  · exact ⟨⟨h1, h2, h3.2.2.1, h4 0 (by omega) (fun t _ _ => by omega)⟩, fun j hj => h5 1 j (by omega) (by omega) (fun t _ _ => by omega) hj⟩
theorem law_in {i k w : Int32} {L : Nat} (hi0 : 0 ≤ i.toInt) (hi8 : i.toInt + 8 ≤ (L : Int)) (hL : L ≤ 4096) (hk : 0 ≤ k.toInt ∧ k.toInt ≤ 7) (e : w = i + k) : vp_in w L := by
  obtain ⟨t, -⟩ := ti_add (a := 0) (b := 4096) (c := 0) (d := 7) (e := 0) (f := 5000) ⟨hi0, by omega⟩ hk e (by decide)
  exact vp_in_iff.mpr ⟨by omega, by omega⟩
theorem law_in0 {i : Int32} {L : Nat} (hi0 : 0 ≤ i.toInt) (hi8 : i.toInt + 8 ≤ (L : Int)) : vp_in i L := vp_in_iff.mpr ⟨hi0, by omega⟩

