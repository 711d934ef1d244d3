

theorem sk_RX10_64 {s : State} {b : Nat} {A : Nat → Prop} (hgv : (Jvm.Cond.and given_1 narrow_1).before #[Value.ref b] s = true) (hts0 : ∀ w ∈ lw_tbl, w.before #[Value.ref b] s = true) (hAn : ∀ a : Nat, a < s.heap.size → ¬ A a) : SK RX10 64 "nptab" tLAB A s s.heap := by
  have hn := flat_of_before _ hgv
  obtain ⟨q, _, _, _, hq, -⟩ := Cond.exactly_spec (args := #[Value.ref b]) (first := s) (o := none) (s := s) (idx := []) (t := .string "UnlikeBoats$Tape" 64) (cls := "java/lang/String") (hn (.exactly (.string "UnlikeBoats$Tape" 64) "java/lang/String") (fl_b (fl_a (fl_b (fl_a (fl_a (fl_b (fl_a (fl_a (fl_a (fl_0 rfl)))))))))))
  obtain ⟨vs, hv1, hv2⟩ := va_Tof (args := #[Value.ref b]) (s := s) (tm := (.field (.string "UnlikeBoats$Tape" 64) "java/lang/String" "value" "[B")) (ty := .byte) (N := 5) (f := fun j => .int (tLAB.getD j 0)) (A := A) (by decide) (hn _ (by decide +kernel)) (va_eqt (hn _ (by decide +kernel))) (fun j hj => by
    rcases (show j = 0 ∨ j = 1 ∨ j = 2 ∨ j = 3 ∨ j = 4 by omega) with rfl | rfl | rfl | rfl | rfl
    · exact va_eqt (z := 110) (hn (.eq (.elem (.field (.string "UnlikeBoats$Tape" 64) "java/lang/String" "value" "[B") (.int 0)) (.int 110)) (fl_b (fl_a (fl_b (fl_a (fl_a (fl_b (fl_b (fl_a (fl_a (fl_0 rfl)))))))))))
    · exact va_eqt (z := 112) (hn (.eq (.elem (.field (.string "UnlikeBoats$Tape" 64) "java/lang/String" "value" "[B") (.int 1)) (.int 112)) (fl_b (fl_a (fl_b (fl_a (fl_a (fl_b (fl_b (fl_a (fl_b (fl_0 rfl)))))))))))
    · exact va_eqt (z := 116) (hn (.eq (.elem (.field (.string "UnlikeBoats$Tape" 64) "java/lang/String" "value" "[B") (.int 2)) (.int 116)) (fl_b (fl_a (fl_b (fl_a (fl_a (fl_b (fl_b (fl_b (fl_a (fl_0 rfl)))))))))))
    · exact va_eqt (z := 97) (hn (.eq (.elem (.field (.string "UnlikeBoats$Tape" 64) "java/lang/String" "value" "[B") (.int 3)) (.int 97)) (fl_b (fl_a (fl_b (fl_a (fl_a (fl_b (fl_b (fl_b (fl_b (fl_0 rfl)))))))))))
    · exact va_eqt (z := 98) (hn (.eq (.elem (.field (.string "UnlikeBoats$Tape" 64) "java/lang/String" "value" "[B") (.int 4)) (.int 98)) (fl_b (fl_a (fl_b (fl_a (fl_b (fl_a (fl_a (fl_a (fl_a (fl_0 rfl)))))))))))) hAn
  exact ⟨q, vs, vk_R.of (hts0 (.stringRef "UnlikeBoats$Tape" 64 "nptab") (tq_3 _ (zs64 (zs16 (zs0))))) hq, va_Oof (hn _ (by decide +kernel)) hq hAn, vk_OFof hq (va_eqt (hn _ (by decide +kernel))) hAn, vk_OFof hq hv1 hAn, hv2, va_Zof (hts0 (.laysStatic "java/lang/String" "COMPACT_STRINGS" "Z") (tq_1 _ (zs64 (zs16 (zs1 (zs1 (zs1 (zs0)))))))) (hts0 (.initialized "java/lang/String") (tq_1 _ (zs4 (zs1 (zs1 (zs0)))))) (va_eqt (hn _ (by decide +kernel))) hAn⟩
theorem sk_RX10_74 {s : State} {b : Nat} {A : Nat → Prop} (hgv : (Jvm.Cond.and given_1 narrow_1).before #[Value.ref b] s = true) (hts0 : ∀ w ∈ lw_tbl, w.before #[Value.ref b] s = true) (hAn : ∀ a : Nat, a < s.heap.size → ¬ A a) : SK RX10 74 "!(" tCON A s s.heap := by
  have hn := flat_of_before _ hgv
  obtain ⟨q, _, _, _, hq, -⟩ := Cond.exactly_spec (args := #[Value.ref b]) (first := s) (o := none) (s := s) (idx := []) (t := .string "UnlikeBoats$Tape" 74) (cls := "java/lang/String") (hn (.exactly (.string "UnlikeBoats$Tape" 74) "java/lang/String") (fl_b (fl_a (fl_b (fl_a (fl_b (fl_a (fl_a (fl_b (fl_a (fl_0 rfl)))))))))))
  obtain ⟨vs, hv1, hv2⟩ := va_Tof (args := #[Value.ref b]) (s := s) (tm := (.field (.string "UnlikeBoats$Tape" 74) "java/lang/String" "value" "[B")) (ty := .byte) (N := 2) (f := fun j => .int (tCON.getD j 0)) (A := A) (by decide) (hn _ (by decide +kernel)) (va_eqt (hn _ (by decide +kernel))) (fun j hj => by
    rcases (show j = 0 ∨ j = 1 by omega) with rfl | rfl
    · exact va_eqt (z := 33) (hn (.eq (.elem (.field (.string "UnlikeBoats$Tape" 74) "java/lang/String" "value" "[B") (.int 0)) (.int 33)) (fl_b (fl_a (fl_b (fl_a (fl_b (fl_a (fl_b (fl_b (fl_a (fl_0 rfl)))))))))))
    · exact va_eqt (z := 40) (hn (.eq (.elem (.field (.string "UnlikeBoats$Tape" 74) "java/lang/String" "value" "[B") (.int 1)) (.int 40)) (fl_b (fl_a (fl_b (fl_a (fl_b (fl_a (fl_b (fl_b (fl_b (fl_0 rfl)))))))))))) hAn
  exact ⟨q, vs, vk_R.of (hts0 (.stringRef "UnlikeBoats$Tape" 74 "!(") (tq_3 _ (zs64 (zs64 (zs16 (zs16 (zs4 (zs1 (zs0))))))))) hq, va_Oof (hn _ (by decide +kernel)) hq hAn, vk_OFof hq (va_eqt (hn _ (by decide +kernel))) hAn, vk_OFof hq hv1 hAn, hv2, va_Zof (hts0 (.laysStatic "java/lang/String" "COMPACT_STRINGS" "Z") (tq_1 _ (zs64 (zs16 (zs1 (zs1 (zs1 (zs0)))))))) (hts0 (.initialized "java/lang/String") (tq_1 _ (zs4 (zs1 (zs1 (zs0)))))) (va_eqt (hn _ (by decide +kernel))) hAn⟩
theorem sk_RX10_79 {s : State} {b : Nat} {A : Nat → Prop} (hgv : (Jvm.Cond.and given_1 narrow_1).before #[Value.ref b] s = true) (hts0 : ∀ w ∈ lw_tbl, w.before #[Value.ref b] s = true) (hAn : ∀ a : Nat, a < s.heap.size → ¬ A a) : SK RX10 79 "=<>" tCMP A s s.heap := by
  have hn := flat_of_before _ hgv
  obtain ⟨q, _, _, _, hq, -⟩ := Cond.exactly_spec (args := #[Value.ref b]) (first := s) (o := none) (s := s) (idx := []) (t := .string "UnlikeBoats$Tape" 79) (cls := "java/lang/String") (hn (.exactly (.string "UnlikeBoats$Tape" 79) "java/lang/String") (fl_b (fl_b (fl_a (fl_a (fl_a (fl_a (fl_b (fl_a (fl_b (fl_0 rfl)))))))))))
  obtain ⟨vs, hv1, hv2⟩ := va_Tof (args := #[Value.ref b]) (s := s) (tm := (.field (.string "UnlikeBoats$Tape" 79) "java/lang/String" "value" "[B")) (ty := .byte) (N := 3) (f := fun j => .int (tCMP.getD j 0)) (A := A) (by decide) (hn _ (by decide +kernel)) (va_eqt (hn _ (by decide +kernel))) (fun j hj => by
    rcases (show j = 0 ∨ j = 1 ∨ j = 2 by omega) with rfl | rfl | rfl
    · exact va_eqt (z := 61) (hn (.eq (.elem (.field (.string "UnlikeBoats$Tape" 79) "java/lang/String" "value" "[B") (.int 0)) (.int 61)) (fl_b (fl_b (fl_a (fl_a (fl_a (fl_b (fl_a (fl_a (fl_b (fl_0 rfl)))))))))))
    · exact va_eqt (z := 60) (hn (.eq (.elem (.field (.string "UnlikeBoats$Tape" 79) "java/lang/String" "value" "[B") (.int 1)) (.int 60)) (fl_b (fl_b (fl_a (fl_a (fl_a (fl_b (fl_a (fl_b (fl_a (fl_0 rfl)))))))))))
    · exact va_eqt (z := 62) (hn (.eq (.elem (.field (.string "UnlikeBoats$Tape" 79) "java/lang/String" "value" "[B") (.int 2)) (.int 62)) (fl_b (fl_b (fl_a (fl_a (fl_a (fl_b (fl_a (fl_b (fl_b (fl_0 rfl)))))))))))) hAn
  exact ⟨q, vs, vk_R.of (hts0 (.stringRef "UnlikeBoats$Tape" 79 "=<>") (tq_3 _ (zs64 (zs64 (zs64 (zs4 (zs4 (zs1 (zs1 (zs1 (zs0))))))))))) hq, va_Oof (hn _ (by decide +kernel)) hq hAn, vk_OFof hq (va_eqt (hn _ (by decide +kernel))) hAn, vk_OFof hq hv1 hAn, hv2, va_Zof (hts0 (.laysStatic "java/lang/String" "COMPACT_STRINGS" "Z") (tq_1 _ (zs64 (zs16 (zs1 (zs1 (zs1 (zs0)))))))) (hts0 (.initialized "java/lang/String") (tq_1 _ (zs4 (zs1 (zs1 (zs0)))))) (va_eqt (hn _ (by decide +kernel))) hAn⟩
theorem sk_RX10_108 {s : State} {b : Nat} {A : Nat → Prop} (hgv : (Jvm.Cond.and given_1 narrow_1).before #[Value.ref b] s = true) (hts0 : ∀ w ∈ lw_tbl, w.before #[Value.ref b] s = true) (hAn : ∀ a : Nat, a < s.heap.size → ¬ A a) : SK RX10 108 "+-" tADD A s s.heap := by
  have hn := flat_of_before _ hgv
  obtain ⟨q, _, _, _, hq, -⟩ := Cond.exactly_spec (args := #[Value.ref b]) (first := s) (o := none) (s := s) (idx := []) (t := .string "UnlikeBoats$Tape" 108) (cls := "java/lang/String") (hn (.exactly (.string "UnlikeBoats$Tape" 108) "java/lang/String") (fl_b (fl_a (fl_b (fl_b (fl_b (fl_b (fl_a (fl_a (fl_b (fl_0 rfl)))))))))))
  obtain ⟨vs, hv1, hv2⟩ := va_Tof (args := #[Value.ref b]) (s := s) (tm := (.field (.string "UnlikeBoats$Tape" 108) "java/lang/String" "value" "[B")) (ty := .byte) (N := 2) (f := fun j => .int (tADD.getD j 0)) (A := A) (by decide) (hn _ (by decide +kernel)) (va_eqt (hn _ (by decide +kernel))) (fun j hj => by
    rcases (show j = 0 ∨ j = 1 by omega) with rfl | rfl
    · exact va_eqt (z := 43) (hn (.eq (.elem (.field (.string "UnlikeBoats$Tape" 108) "java/lang/String" "value" "[B") (.int 0)) (.int 43)) (fl_b (fl_a (fl_b (fl_b (fl_b (fl_b (fl_b (fl_a (fl_b (fl_0 rfl)))))))))))
    · exact va_eqt (z := 45) (hn (.eq (.elem (.field (.string "UnlikeBoats$Tape" 108) "java/lang/String" "value" "[B") (.int 1)) (.int 45)) (fl_b (fl_a (fl_b (fl_b (fl_b (fl_b (fl_b (fl_b (fl_a (fl_0 rfl)))))))))))) hAn
  exact ⟨q, vs, vk_R.of (hts0 (.stringRef "UnlikeBoats$Tape" 108 "+-") (tq_3 _ (zs64 (zs64 (zs64 (zs4 (zs4 (zs1 (zs1 (zs0)))))))))) hq, va_Oof (hn _ (by decide +kernel)) hq hAn, vk_OFof hq (va_eqt (hn _ (by decide +kernel))) hAn, vk_OFof hq hv1 hAn, hv2, va_Zof (hts0 (.laysStatic "java/lang/String" "COMPACT_STRINGS" "Z") (tq_1 _ (zs64 (zs16 (zs1 (zs1 (zs1 (zs0)))))))) (hts0 (.initialized "java/lang/String") (tq_1 _ (zs4 (zs1 (zs1 (zs0)))))) (va_eqt (hn _ (by decide +kernel))) hAn⟩
theorem sk_RX10_113 {s : State} {b : Nat} {A : Nat → Prop} (hgv : (Jvm.Cond.and given_1 narrow_1).before #[Value.ref b] s = true) (hts0 : ∀ w ∈ lw_tbl, w.before #[Value.ref b] s = true) (hAn : ∀ a : Nat, a < s.heap.size → ¬ A a) : SK RX10 113 "*/" tMUL A s s.heap := by
  have hn := flat_of_before _ hgv
  obtain ⟨q, _, _, _, hq, -⟩ := Cond.exactly_spec (args := #[Value.ref b]) (first := s) (o := none) (s := s) (idx := []) (t := .string "UnlikeBoats$Tape" 113) (cls := "java/lang/String") (hn (.exactly (.string "UnlikeBoats$Tape" 113) "java/lang/String") (fl_b (fl_a (fl_b (fl_b (fl_a (fl_b (fl_b (fl_b (fl_b (fl_0 rfl)))))))))))
  obtain ⟨vs, hv1, hv2⟩ := va_Tof (args := #[Value.ref b]) (s := s) (tm := (.field (.string "UnlikeBoats$Tape" 113) "java/lang/String" "value" "[B")) (ty := .byte) (N := 2) (f := fun j => .int (tMUL.getD j 0)) (A := A) (by decide) (hn _ (by decide +kernel)) (va_eqt (hn _ (by decide +kernel))) (fun j hj => by
    rcases (show j = 0 ∨ j = 1 by omega) with rfl | rfl
    · exact va_eqt (z := 42) (hn (.eq (.elem (.field (.string "UnlikeBoats$Tape" 113) "java/lang/String" "value" "[B") (.int 0)) (.int 42)) (fl_b (fl_a (fl_b (fl_b (fl_b (fl_a (fl_a (fl_b (fl_b (fl_0 rfl)))))))))))
    · exact va_eqt (z := 47) (hn (.eq (.elem (.field (.string "UnlikeBoats$Tape" 113) "java/lang/String" "value" "[B") (.int 1)) (.int 47)) (fl_b (fl_a (fl_b (fl_b (fl_b (fl_a (fl_b (fl_a (fl_a (fl_0 rfl)))))))))))) hAn
  exact ⟨q, vs, vk_R.of (hts0 (.stringRef "UnlikeBoats$Tape" 113 "*/") (tq_3 _ (zs64 (zs64 (zs64 (zs4 (zs1 (zs1 (zs0))))))))) hq, va_Oof (hn _ (by decide +kernel)) hq hAn, vk_OFof hq (va_eqt (hn _ (by decide +kernel))) hAn, vk_OFof hq hv1 hAn, hv2, va_Zof (hts0 (.laysStatic "java/lang/String" "COMPACT_STRINGS" "Z") (tq_1 _ (zs64 (zs16 (zs1 (zs1 (zs1 (zs0)))))))) (hts0 (.initialized "java/lang/String") (tq_1 _ (zs4 (zs1 (zs1 (zs0)))))) (va_eqt (hn _ (by decide +kernel))) hAn⟩
theorem sk_RX10_121 {s : State} {b : Nat} {A : Nat → Prop} (hgv : (Jvm.Cond.and given_1 narrow_1).before #[Value.ref b] s = true) (hts0 : ∀ w ∈ lw_tbl, w.before #[Value.ref b] s = true) (hAn : ∀ a : Nat, a < s.heap.size → ¬ A a) : SK RX10 121 "lswkrefcdghumo" tLET A s s.heap := by
  have hn := flat_of_before _ hgv
  obtain ⟨q, _, _, _, hq, -⟩ := Cond.exactly_spec (args := #[Value.ref b]) (first := s) (o := none) (s := s) (idx := []) (t := .string "UnlikeBoats$Tape" 121) (cls := "java/lang/String") (hn (.exactly (.string "UnlikeBoats$Tape" 121) "java/lang/String") (fl_b (fl_a (fl_b (fl_a (fl_b (fl_b (fl_a (fl_b (fl_a (fl_0 rfl)))))))))))
  obtain ⟨vs, hv1, hv2⟩ := va_Tof (args := #[Value.ref b]) (s := s) (tm := (.field (.string "UnlikeBoats$Tape" 121) "java/lang/String" "value" "[B")) (ty := .byte) (N := 14) (f := fun j => .int (tLET.getD j 0)) (A := A) (by decide) (hn _ (by decide +kernel)) (va_eqt (hn _ (by decide +kernel))) (fun j hj => by
    rcases (show j = 0 ∨ j = 1 ∨ j = 2 ∨ j = 3 ∨ j = 4 ∨ j = 5 ∨ j = 6 ∨ j = 7 ∨ j = 8 ∨ j = 9 ∨ j = 10 ∨ j = 11 ∨ j = 12 ∨ j = 13 by omega) with rfl | rfl | rfl | rfl | rfl | rfl | rfl | rfl | rfl | rfl | rfl | rfl | rfl | rfl
    · exact va_eqt (z := 108) (hn (.eq (.elem (.field (.string "UnlikeBoats$Tape" 121) "java/lang/String" "value" "[B") (.int 0)) (.int 108)) (fl_b (fl_a (fl_b (fl_a (fl_b (fl_b (fl_b (fl_b (fl_a (fl_0 rfl)))))))))))
    · exact va_eqt (z := 115) (hn (.eq (.elem (.field (.string "UnlikeBoats$Tape" 121) "java/lang/String" "value" "[B") (.int 1)) (.int 115)) (fl_b (fl_a (fl_b (fl_a (fl_b (fl_b (fl_b (fl_b (fl_b (fl_0 rfl)))))))))))
    · exact va_eqt (z := 119) (hn (.eq (.elem (.field (.string "UnlikeBoats$Tape" 121) "java/lang/String" "value" "[B") (.int 2)) (.int 119)) (fl_b (fl_a (fl_b (fl_b (fl_a (fl_a (fl_a (fl_a (fl_a (fl_0 rfl)))))))))))
    · exact va_eqt (z := 107) (hn (.eq (.elem (.field (.string "UnlikeBoats$Tape" 121) "java/lang/String" "value" "[B") (.int 3)) (.int 107)) (fl_b (fl_a (fl_b (fl_b (fl_a (fl_a (fl_a (fl_a (fl_b (fl_0 rfl)))))))))))
    · exact va_eqt (z := 114) (hn (.eq (.elem (.field (.string "UnlikeBoats$Tape" 121) "java/lang/String" "value" "[B") (.int 4)) (.int 114)) (fl_b (fl_a (fl_b (fl_b (fl_a (fl_a (fl_a (fl_b (fl_a (fl_0 rfl)))))))))))
    · exact va_eqt (z := 101) (hn (.eq (.elem (.field (.string "UnlikeBoats$Tape" 121) "java/lang/String" "value" "[B") (.int 5)) (.int 101)) (fl_b (fl_a (fl_b (fl_b (fl_a (fl_a (fl_a (fl_b (fl_b (fl_0 rfl)))))))))))
    · exact va_eqt (z := 102) (hn (.eq (.elem (.field (.string "UnlikeBoats$Tape" 121) "java/lang/String" "value" "[B") (.int 6)) (.int 102)) (fl_b (fl_a (fl_b (fl_b (fl_a (fl_a (fl_b (fl_a (fl_a (fl_0 rfl)))))))))))
    · exact va_eqt (z := 99) (hn (.eq (.elem (.field (.string "UnlikeBoats$Tape" 121) "java/lang/String" "value" "[B") (.int 7)) (.int 99)) (fl_b (fl_a (fl_b (fl_b (fl_a (fl_a (fl_b (fl_a (fl_b (fl_0 rfl)))))))))))
    · exact va_eqt (z := 100) (hn (.eq (.elem (.field (.string "UnlikeBoats$Tape" 121) "java/lang/String" "value" "[B") (.int 8)) (.int 100)) (fl_b (fl_a (fl_b (fl_b (fl_a (fl_a (fl_b (fl_b (fl_a (fl_0 rfl)))))))))))
    · exact va_eqt (z := 103) (hn (.eq (.elem (.field (.string "UnlikeBoats$Tape" 121) "java/lang/String" "value" "[B") (.int 9)) (.int 103)) (fl_b (fl_a (fl_b (fl_b (fl_a (fl_a (fl_b (fl_b (fl_b (fl_0 rfl)))))))))))
    · exact va_eqt (z := 104) (hn (.eq (.elem (.field (.string "UnlikeBoats$Tape" 121) "java/lang/String" "value" "[B") (.int 10)) (.int 104)) (fl_b (fl_a (fl_b (fl_b (fl_a (fl_b (fl_a (fl_a (fl_a (fl_0 rfl)))))))))))
    · exact va_eqt (z := 117) (hn (.eq (.elem (.field (.string "UnlikeBoats$Tape" 121) "java/lang/String" "value" "[B") (.int 11)) (.int 117)) (fl_b (fl_a (fl_b (fl_b (fl_a (fl_b (fl_a (fl_a (fl_b (fl_0 rfl)))))))))))
    · exact va_eqt (z := 109) (hn (.eq (.elem (.field (.string "UnlikeBoats$Tape" 121) "java/lang/String" "value" "[B") (.int 12)) (.int 109)) (fl_b (fl_a (fl_b (fl_b (fl_a (fl_b (fl_a (fl_b (fl_a (fl_0 rfl)))))))))))
    · exact va_eqt (z := 111) (hn (.eq (.elem (.field (.string "UnlikeBoats$Tape" 121) "java/lang/String" "value" "[B") (.int 13)) (.int 111)) (fl_b (fl_a (fl_b (fl_b (fl_a (fl_b (fl_a (fl_b (fl_b (fl_0 rfl)))))))))))) hAn
  exact ⟨q, vs, vk_R.of (hts0 (.stringRef "UnlikeBoats$Tape" 121 "lswkrefcdghumo") (tq_3 _ (zs64 (zs64 (zs16 (zs16 (zs16 (zs4 (zs4 (zs4 (zs1 (zs0)))))))))))) hq, va_Oof (hn _ (by decide +kernel)) hq hAn, vk_OFof hq (va_eqt (hn _ (by decide +kernel))) hAn, vk_OFof hq hv1 hAn, hv2, va_Zof (hts0 (.laysStatic "java/lang/String" "COMPACT_STRINGS" "Z") (tq_1 _ (zs64 (zs16 (zs1 (zs1 (zs1 (zs0)))))))) (hts0 (.initialized "java/lang/String") (tq_1 _ (zs4 (zs1 (zs1 (zs0)))))) (va_eqt (hn _ (by decide +kernel))) hAn⟩
theorem sk_RX13_306 {s : State} {b : Nat} {A : Nat → Prop} (hgv : (Jvm.Cond.and given_1 narrow_1).before #[Value.ref b] s = true) (hts0 : ∀ w ∈ lw_tbl, w.before #[Value.ref b] s = true) (hAn : ∀ a : Nat, a < s.heap.size → ¬ A a) : SK RX13 306 "lswkrefcdghumo" tLET A s s.heap := by
  have hn := flat_of_before _ hgv
  obtain ⟨q, _, _, _, hq, -⟩ := Cond.exactly_spec (args := #[Value.ref b]) (first := s) (o := none) (s := s) (idx := []) (t := .string "UnlikeBoatsModel" 306) (cls := "java/lang/String") (hn (.exactly (.string "UnlikeBoatsModel" 306) "java/lang/String") (fl_b (fl_b (fl_b (fl_b (fl_a (fl_a (fl_a (fl_a (fl_a (fl_0 rfl)))))))))))
  obtain ⟨vs, hv1, hv2⟩ := va_Tof (args := #[Value.ref b]) (s := s) (tm := (.field (.string "UnlikeBoatsModel" 306) "java/lang/String" "value" "[B")) (ty := .byte) (N := 14) (f := fun j => .int (tLET.getD j 0)) (A := A) (by decide) (hn _ (by decide +kernel)) (va_eqt (hn _ (by decide +kernel))) (fun j hj => by
    rcases (show j = 0 ∨ j = 1 ∨ j = 2 ∨ j = 3 ∨ j = 4 ∨ j = 5 ∨ j = 6 ∨ j = 7 ∨ j = 8 ∨ j = 9 ∨ j = 10 ∨ j = 11 ∨ j = 12 ∨ j = 13 by omega) with rfl | rfl | rfl | rfl | rfl | rfl | rfl | rfl | rfl | rfl | rfl | rfl | rfl | rfl
    · exact va_eqt (z := 108) (hn (.eq (.elem (.field (.string "UnlikeBoatsModel" 306) "java/lang/String" "value" "[B") (.int 0)) (.int 108)) (fl_b (fl_b (fl_b (fl_b (fl_a (fl_a (fl_b (fl_a (fl_a (fl_0 rfl)))))))))))
    · exact va_eqt (z := 115) (hn (.eq (.elem (.field (.string "UnlikeBoatsModel" 306) "java/lang/String" "value" "[B") (.int 1)) (.int 115)) (fl_b (fl_b (fl_b (fl_b (fl_a (fl_a (fl_b (fl_a (fl_b (fl_0 rfl)))))))))))
    · exact va_eqt (z := 119) (hn (.eq (.elem (.field (.string "UnlikeBoatsModel" 306) "java/lang/String" "value" "[B") (.int 2)) (.int 119)) (fl_b (fl_b (fl_b (fl_b (fl_a (fl_a (fl_b (fl_b (fl_a (fl_0 rfl)))))))))))
    · exact va_eqt (z := 107) (hn (.eq (.elem (.field (.string "UnlikeBoatsModel" 306) "java/lang/String" "value" "[B") (.int 3)) (.int 107)) (fl_b (fl_b (fl_b (fl_b (fl_a (fl_a (fl_b (fl_b (fl_b (fl_0 rfl)))))))))))
    · exact va_eqt (z := 114) (hn (.eq (.elem (.field (.string "UnlikeBoatsModel" 306) "java/lang/String" "value" "[B") (.int 4)) (.int 114)) (fl_b (fl_b (fl_b (fl_b (fl_a (fl_b (fl_a (fl_a (fl_a (fl_0 rfl)))))))))))
    · exact va_eqt (z := 101) (hn (.eq (.elem (.field (.string "UnlikeBoatsModel" 306) "java/lang/String" "value" "[B") (.int 5)) (.int 101)) (fl_b (fl_b (fl_b (fl_b (fl_a (fl_b (fl_a (fl_a (fl_b (fl_0 rfl)))))))))))
    · exact va_eqt (z := 102) (hn (.eq (.elem (.field (.string "UnlikeBoatsModel" 306) "java/lang/String" "value" "[B") (.int 6)) (.int 102)) (fl_b (fl_b (fl_b (fl_b (fl_a (fl_b (fl_a (fl_b (fl_a (fl_0 rfl)))))))))))
    · exact va_eqt (z := 99) (hn (.eq (.elem (.field (.string "UnlikeBoatsModel" 306) "java/lang/String" "value" "[B") (.int 7)) (.int 99)) (fl_b (fl_b (fl_b (fl_b (fl_a (fl_b (fl_a (fl_b (fl_b (fl_0 rfl)))))))))))
    · exact va_eqt (z := 100) (hn (.eq (.elem (.field (.string "UnlikeBoatsModel" 306) "java/lang/String" "value" "[B") (.int 8)) (.int 100)) (fl_b (fl_b (fl_b (fl_b (fl_a (fl_b (fl_b (fl_a (fl_a (fl_0 rfl)))))))))))
    · exact va_eqt (z := 103) (hn (.eq (.elem (.field (.string "UnlikeBoatsModel" 306) "java/lang/String" "value" "[B") (.int 9)) (.int 103)) (fl_b (fl_b (fl_b (fl_b (fl_a (fl_b (fl_b (fl_a (fl_b (fl_0 rfl)))))))))))
    · exact va_eqt (z := 104) (hn (.eq (.elem (.field (.string "UnlikeBoatsModel" 306) "java/lang/String" "value" "[B") (.int 10)) (.int 104)) (fl_b (fl_b (fl_b (fl_b (fl_a (fl_b (fl_b (fl_b (fl_a (fl_0 rfl)))))))))))
    · exact va_eqt (z := 117) (hn (.eq (.elem (.field (.string "UnlikeBoatsModel" 306) "java/lang/String" "value" "[B") (.int 11)) (.int 117)) (fl_b (fl_b (fl_b (fl_b (fl_a (fl_b (fl_b (fl_b (fl_b (fl_0 rfl)))))))))))
    · exact va_eqt (z := 109) (hn (.eq (.elem (.field (.string "UnlikeBoatsModel" 306) "java/lang/String" "value" "[B") (.int 12)) (.int 109)) (fl_b (fl_b (fl_b (fl_b (fl_b (fl_a (fl_a (fl_a (fl_a (fl_0 rfl)))))))))))
    · exact va_eqt (z := 111) (hn (.eq (.elem (.field (.string "UnlikeBoatsModel" 306) "java/lang/String" "value" "[B") (.int 13)) (.int 111)) (fl_b (fl_b (fl_b (fl_b (fl_b (fl_a (fl_a (fl_a (fl_b (fl_0 rfl)))))))))))) hAn
  exact ⟨q, vs, vk_R.of (hts0 (.stringRef "UnlikeBoatsModel" 306 "lswkrefcdghumo") (tq_8 _ (zs64 (zs64 (zs16 (zs16 (zs16 (zs1 (zs1 (zs1 (zs0))))))))))) hq, va_Oof (hn _ (by decide +kernel)) hq hAn, vk_OFof hq (va_eqt (hn _ (by decide +kernel))) hAn, vk_OFof hq hv1 hAn, hv2, va_Zof (hts0 (.laysStatic "java/lang/String" "COMPACT_STRINGS" "Z") (tq_1 _ (zs64 (zs16 (zs1 (zs1 (zs1 (zs0)))))))) (hts0 (.initialized "java/lang/String") (tq_1 _ (zs4 (zs1 (zs1 (zs0)))))) (va_eqt (hn _ (by decide +kernel))) hAn⟩
theorem sk_RX13_351 {s : State} {b : Nat} {A : Nat → Prop} (hgv : (Jvm.Cond.and given_1 narrow_1).before #[Value.ref b] s = true) (hts0 : ∀ w ∈ lw_tbl, w.before #[Value.ref b] s = true) (hAn : ∀ a : Nat, a < s.heap.size → ¬ A a) : SK RX13 351 "nptab" tLAB A s s.heap := by
  have hn := flat_of_before _ hgv
  obtain ⟨q, _, _, _, hq, -⟩ := Cond.exactly_spec (args := #[Value.ref b]) (first := s) (o := none) (s := s) (idx := []) (t := .string "UnlikeBoatsModel" 351) (cls := "java/lang/String") (hn (.exactly (.string "UnlikeBoatsModel" 351) "java/lang/String") (fl_b (fl_b (fl_b (fl_a (fl_a (fl_b (fl_b (fl_b (fl_a (fl_0 rfl)))))))))))
  obtain ⟨vs, hv1, hv2⟩ := va_Tof (args := #[Value.ref b]) (s := s) (tm := (.field (.string "UnlikeBoatsModel" 351) "java/lang/String" "value" "[B")) (ty := .byte) (N := 5) (f := fun j => .int (tLAB.getD j 0)) (A := A) (by decide) (hn _ (by decide +kernel)) (va_eqt (hn _ (by decide +kernel))) (fun j hj => by
    rcases (show j = 0 ∨ j = 1 ∨ j = 2 ∨ j = 3 ∨ j = 4 by omega) with rfl | rfl | rfl | rfl | rfl
    · exact va_eqt (z := 110) (hn (.eq (.elem (.field (.string "UnlikeBoatsModel" 351) "java/lang/String" "value" "[B") (.int 0)) (.int 110)) (fl_b (fl_b (fl_b (fl_a (fl_b (fl_a (fl_a (fl_b (fl_a (fl_0 rfl)))))))))))
    · exact va_eqt (z := 112) (hn (.eq (.elem (.field (.string "UnlikeBoatsModel" 351) "java/lang/String" "value" "[B") (.int 1)) (.int 112)) (fl_b (fl_b (fl_b (fl_a (fl_b (fl_a (fl_a (fl_b (fl_b (fl_0 rfl)))))))))))
    · exact va_eqt (z := 116) (hn (.eq (.elem (.field (.string "UnlikeBoatsModel" 351) "java/lang/String" "value" "[B") (.int 2)) (.int 116)) (fl_b (fl_b (fl_b (fl_a (fl_b (fl_a (fl_b (fl_a (fl_a (fl_0 rfl)))))))))))
    · exact va_eqt (z := 97) (hn (.eq (.elem (.field (.string "UnlikeBoatsModel" 351) "java/lang/String" "value" "[B") (.int 3)) (.int 97)) (fl_b (fl_b (fl_b (fl_a (fl_b (fl_a (fl_b (fl_a (fl_b (fl_0 rfl)))))))))))
    · exact va_eqt (z := 98) (hn (.eq (.elem (.field (.string "UnlikeBoatsModel" 351) "java/lang/String" "value" "[B") (.int 4)) (.int 98)) (fl_b (fl_b (fl_b (fl_a (fl_b (fl_a (fl_b (fl_b (fl_a (fl_0 rfl)))))))))))) hAn
  exact ⟨q, vs, vk_R.of (hts0 (.stringRef "UnlikeBoatsModel" 351 "nptab") (tq_8 _ (zs64 (zs64 (zs16 (zs1 (zs0))))))) hq, va_Oof (hn _ (by decide +kernel)) hq hAn, vk_OFof hq (va_eqt (hn _ (by decide +kernel))) hAn, vk_OFof hq hv1 hAn, hv2, va_Zof (hts0 (.laysStatic "java/lang/String" "COMPACT_STRINGS" "Z") (tq_1 _ (zs64 (zs16 (zs1 (zs1 (zs1 (zs0)))))))) (hts0 (.initialized "java/lang/String") (tq_1 _ (zs4 (zs1 (zs1 (zs0)))))) (va_eqt (hn _ (by decide +kernel))) hAn⟩
theorem sk_RX0_33 {s : State} {b : Nat} {A : Nat → Prop} (hgv : (Jvm.Cond.and given_1 narrow_1).before #[Value.ref b] s = true) (hts0 : ∀ w ∈ lw_tbl, w.before #[Value.ref b] s = true) (hAn : ∀ a : Nat, a < s.heap.size → ¬ A a) : SK RX0 33 "lswkrefcdghumo" tLET A s s.heap := by
  have hn := flat_of_before _ hgv
  obtain ⟨q, _, _, _, hq, -⟩ := Cond.exactly_spec (args := #[Value.ref b]) (first := s) (o := none) (s := s) (idx := []) (t := .string "UnlikeBoats$Book" 33) (cls := "java/lang/String") (hn (.exactly (.string "UnlikeBoats$Book" 33) "java/lang/String") (fl_b (fl_a (fl_a (fl_b (fl_b (fl_a (fl_b (fl_a (fl_b (fl_0 rfl)))))))))))
  obtain ⟨vs, hv1, hv2⟩ := va_Tof (args := #[Value.ref b]) (s := s) (tm := (.field (.string "UnlikeBoats$Book" 33) "java/lang/String" "value" "[B")) (ty := .byte) (N := 14) (f := fun j => .int (tLET.getD j 0)) (A := A) (by decide) (hn _ (by decide +kernel)) (va_eqt (hn _ (by decide +kernel))) (fun j hj => by
    rcases (show j = 0 ∨ j = 1 ∨ j = 2 ∨ j = 3 ∨ j = 4 ∨ j = 5 ∨ j = 6 ∨ j = 7 ∨ j = 8 ∨ j = 9 ∨ j = 10 ∨ j = 11 ∨ j = 12 ∨ j = 13 by omega) with rfl | rfl | rfl | rfl | rfl | rfl | rfl | rfl | rfl | rfl | rfl | rfl | rfl | rfl
    · exact va_eqt (z := 108) (hn (.eq (.elem (.field (.string "UnlikeBoats$Book" 33) "java/lang/String" "value" "[B") (.int 0)) (.int 108)) (fl_b (fl_a (fl_a (fl_b (fl_b (fl_b (fl_a (fl_a (fl_b (fl_0 rfl)))))))))))
    · exact va_eqt (z := 115) (hn (.eq (.elem (.field (.string "UnlikeBoats$Book" 33) "java/lang/String" "value" "[B") (.int 1)) (.int 115)) (fl_b (fl_a (fl_a (fl_b (fl_b (fl_b (fl_a (fl_b (fl_a (fl_0 rfl)))))))))))
    · exact va_eqt (z := 119) (hn (.eq (.elem (.field (.string "UnlikeBoats$Book" 33) "java/lang/String" "value" "[B") (.int 2)) (.int 119)) (fl_b (fl_a (fl_a (fl_b (fl_b (fl_b (fl_a (fl_b (fl_b (fl_0 rfl)))))))))))
    · exact va_eqt (z := 107) (hn (.eq (.elem (.field (.string "UnlikeBoats$Book" 33) "java/lang/String" "value" "[B") (.int 3)) (.int 107)) (fl_b (fl_a (fl_a (fl_b (fl_b (fl_b (fl_b (fl_a (fl_a (fl_0 rfl)))))))))))
    · exact va_eqt (z := 114) (hn (.eq (.elem (.field (.string "UnlikeBoats$Book" 33) "java/lang/String" "value" "[B") (.int 4)) (.int 114)) (fl_b (fl_a (fl_a (fl_b (fl_b (fl_b (fl_b (fl_a (fl_b (fl_0 rfl)))))))))))
    · exact va_eqt (z := 101) (hn (.eq (.elem (.field (.string "UnlikeBoats$Book" 33) "java/lang/String" "value" "[B") (.int 5)) (.int 101)) (fl_b (fl_a (fl_a (fl_b (fl_b (fl_b (fl_b (fl_b (fl_a (fl_0 rfl)))))))))))
    · exact va_eqt (z := 102) (hn (.eq (.elem (.field (.string "UnlikeBoats$Book" 33) "java/lang/String" "value" "[B") (.int 6)) (.int 102)) (fl_b (fl_a (fl_a (fl_b (fl_b (fl_b (fl_b (fl_b (fl_b (fl_0 rfl)))))))))))
    · exact va_eqt (z := 99) (hn (.eq (.elem (.field (.string "UnlikeBoats$Book" 33) "java/lang/String" "value" "[B") (.int 7)) (.int 99)) (fl_b (fl_a (fl_b (fl_a (fl_a (fl_a (fl_a (fl_a (fl_0 rfl))))))))))
    · exact va_eqt (z := 100) (hn (.eq (.elem (.field (.string "UnlikeBoats$Book" 33) "java/lang/String" "value" "[B") (.int 8)) (.int 100)) (fl_b (fl_a (fl_b (fl_a (fl_a (fl_a (fl_a (fl_b (fl_a (fl_0 rfl)))))))))))
    · exact va_eqt (z := 103) (hn (.eq (.elem (.field (.string "UnlikeBoats$Book" 33) "java/lang/String" "value" "[B") (.int 9)) (.int 103)) (fl_b (fl_a (fl_b (fl_a (fl_a (fl_a (fl_a (fl_b (fl_b (fl_0 rfl)))))))))))
    · exact va_eqt (z := 104) (hn (.eq (.elem (.field (.string "UnlikeBoats$Book" 33) "java/lang/String" "value" "[B") (.int 10)) (.int 104)) (fl_b (fl_a (fl_b (fl_a (fl_a (fl_a (fl_b (fl_a (fl_a (fl_0 rfl)))))))))))
    · exact va_eqt (z := 117) (hn (.eq (.elem (.field (.string "UnlikeBoats$Book" 33) "java/lang/String" "value" "[B") (.int 11)) (.int 117)) (fl_b (fl_a (fl_b (fl_a (fl_a (fl_a (fl_b (fl_a (fl_b (fl_0 rfl)))))))))))
    · exact va_eqt (z := 109) (hn (.eq (.elem (.field (.string "UnlikeBoats$Book" 33) "java/lang/String" "value" "[B") (.int 12)) (.int 109)) (fl_b (fl_a (fl_b (fl_a (fl_a (fl_a (fl_b (fl_b (fl_a (fl_0 rfl)))))))))))
    · exact va_eqt (z := 111) (hn (.eq (.elem (.field (.string "UnlikeBoats$Book" 33) "java/lang/String" "value" "[B") (.int 13)) (.int 111)) (fl_b (fl_a (fl_b (fl_a (fl_a (fl_a (fl_b (fl_b (fl_b (fl_0 rfl)))))))))))) hAn
  exact ⟨q, vs, vk_R.of (hts0 (.stringRef "UnlikeBoats$Book" 33 "lswkrefcdghumo") (tq_1 _ (zs64 (zs4 (zs4 (zs1 (zs0))))))) hq, va_Oof (hn _ (by decide +kernel)) hq hAn, vk_OFof hq (va_eqt (hn _ (by decide +kernel))) hAn, vk_OFof hq hv1 hAn, hv2, va_Zof (hts0 (.laysStatic "java/lang/String" "COMPACT_STRINGS" "Z") (tq_1 _ (zs64 (zs16 (zs1 (zs1 (zs1 (zs0)))))))) (hts0 (.initialized "java/lang/String") (tq_1 _ (zs4 (zs1 (zs1 (zs0)))))) (va_eqt (hn _ (by decide +kernel))) hAn⟩
theorem st_STEP_X {s : State} {b : Nat} {A : Nat → Prop} (hgv : (Jvm.Cond.and given_1 narrow_1).before #[Value.ref b] s = true) (hts0 : ∀ w ∈ lw_tbl, w.before #[Value.ref b] s = true) (hAn : ∀ a : Nat, a < s.heap.size → ¬ A a) : STx "STEP_X" tSX A s s.heap := by
  have hn := flat_of_before _ hgv
  obtain ⟨q, hv1, hv2⟩ := va_Tof (args := #[Value.ref b]) (s := s) (tm := (.static "UnlikeBoats" "STEP_X" "[I")) (ty := .int) (N := 8) (f := fun j => .int (tSX.getD j 0)) (A := A) (by decide) (hn _ (by decide +kernel)) (va_eqt (hn _ (by decide +kernel))) (fun j hj => by
    rcases (show j = 0 ∨ j = 1 ∨ j = 2 ∨ j = 3 ∨ j = 4 ∨ j = 5 ∨ j = 6 ∨ j = 7 by omega) with rfl | rfl | rfl | rfl | rfl | rfl | rfl | rfl
    · exact va_eqt (z := 0) (hn (.eq (.elem (.static "UnlikeBoats" "STEP_X" "[I") (.int 0)) (.int 0)) (fl_b (fl_a (fl_a (fl_a (fl_a (fl_b (fl_b (fl_b (fl_b (fl_0 rfl)))))))))))
    · exact va_eqt (z := 1) (hn (.eq (.elem (.static "UnlikeBoats" "STEP_X" "[I") (.int 1)) (.int 1)) (fl_b (fl_a (fl_a (fl_a (fl_b (fl_a (fl_a (fl_a (fl_a (fl_0 rfl)))))))))))
    · exact va_eqt (z := 1) (hn (.eq (.elem (.static "UnlikeBoats" "STEP_X" "[I") (.int 2)) (.int 1)) (fl_b (fl_a (fl_a (fl_a (fl_b (fl_a (fl_a (fl_a (fl_b (fl_0 rfl)))))))))))
    · exact va_eqt (z := 1) (hn (.eq (.elem (.static "UnlikeBoats" "STEP_X" "[I") (.int 3)) (.int 1)) (fl_b (fl_a (fl_a (fl_a (fl_b (fl_a (fl_a (fl_b (fl_a (fl_0 rfl)))))))))))
    · exact va_eqt (z := 0) (hn (.eq (.elem (.static "UnlikeBoats" "STEP_X" "[I") (.int 4)) (.int 0)) (fl_b (fl_a (fl_a (fl_a (fl_b (fl_a (fl_a (fl_b (fl_b (fl_0 rfl)))))))))))
    · exact va_eqt (z := (-1)) (hn (.eq (.elem (.static "UnlikeBoats" "STEP_X" "[I") (.int 5)) (.int (-1))) (fl_b (fl_a (fl_a (fl_a (fl_b (fl_a (fl_b (fl_a (fl_a (fl_0 rfl)))))))))))
    · exact va_eqt (z := (-1)) (hn (.eq (.elem (.static "UnlikeBoats" "STEP_X" "[I") (.int 6)) (.int (-1))) (fl_b (fl_a (fl_a (fl_a (fl_b (fl_a (fl_b (fl_a (fl_b (fl_0 rfl)))))))))))
    · exact va_eqt (z := (-1)) (hn (.eq (.elem (.static "UnlikeBoats" "STEP_X" "[I") (.int 7)) (.int (-1))) (fl_b (fl_a (fl_a (fl_a (fl_b (fl_a (fl_b (fl_b (fl_a (fl_0 rfl)))))))))))) hAn
  exact ⟨q, va_Zref (hts0 (.laysStatic "UnlikeBoats" "STEP_X" "[I") (tq_6 _ (zs16 (zs1 (zs0))))) (hts0 (.initialized "UnlikeBoats") (tq_1 _ (zs1 (zs0)))) hv1 hAn, hv2⟩
theorem st_STEP_Y {s : State} {b : Nat} {A : Nat → Prop} (hgv : (Jvm.Cond.and given_1 narrow_1).before #[Value.ref b] s = true) (hts0 : ∀ w ∈ lw_tbl, w.before #[Value.ref b] s = true) (hAn : ∀ a : Nat, a < s.heap.size → ¬ A a) : STx "STEP_Y" tSY A s s.heap := by
  have hn := flat_of_before _ hgv
  obtain ⟨q, hv1, hv2⟩ := va_Tof (args := #[Value.ref b]) (s := s) (tm := (.static "UnlikeBoats" "STEP_Y" "[I")) (ty := .int) (N := 8) (f := fun j => .int (tSY.getD j 0)) (A := A) (by decide) (hn _ (by decide +kernel)) (va_eqt (hn _ (by decide +kernel))) (fun j hj => by
    rcases (show j = 0 ∨ j = 1 ∨ j = 2 ∨ j = 3 ∨ j = 4 ∨ j = 5 ∨ j = 6 ∨ j = 7 by omega) with rfl | rfl | rfl | rfl | rfl | rfl | rfl | rfl
    · exact va_eqt (z := (-1)) (hn (.eq (.elem (.static "UnlikeBoats" "STEP_Y" "[I") (.int 0)) (.int (-1))) (fl_b (fl_a (fl_a (fl_a (fl_b (fl_b (fl_a (fl_b (fl_a (fl_0 rfl)))))))))))
    · exact va_eqt (z := (-1)) (hn (.eq (.elem (.static "UnlikeBoats" "STEP_Y" "[I") (.int 1)) (.int (-1))) (fl_b (fl_a (fl_a (fl_a (fl_b (fl_b (fl_a (fl_b (fl_b (fl_0 rfl)))))))))))
    · exact va_eqt (z := 0) (hn (.eq (.elem (.static "UnlikeBoats" "STEP_Y" "[I") (.int 2)) (.int 0)) (fl_b (fl_a (fl_a (fl_a (fl_b (fl_b (fl_b (fl_a (fl_a (fl_0 rfl)))))))))))
    · exact va_eqt (z := 1) (hn (.eq (.elem (.static "UnlikeBoats" "STEP_Y" "[I") (.int 3)) (.int 1)) (fl_b (fl_a (fl_a (fl_a (fl_b (fl_b (fl_b (fl_a (fl_b (fl_0 rfl)))))))))))
    · exact va_eqt (z := 1) (hn (.eq (.elem (.static "UnlikeBoats" "STEP_Y" "[I") (.int 4)) (.int 1)) (fl_b (fl_a (fl_a (fl_a (fl_b (fl_b (fl_b (fl_b (fl_a (fl_0 rfl)))))))))))
    · exact va_eqt (z := 1) (hn (.eq (.elem (.static "UnlikeBoats" "STEP_Y" "[I") (.int 5)) (.int 1)) (fl_b (fl_a (fl_a (fl_a (fl_b (fl_b (fl_b (fl_b (fl_b (fl_0 rfl)))))))))))
    · exact va_eqt (z := 0) (hn (.eq (.elem (.static "UnlikeBoats" "STEP_Y" "[I") (.int 6)) (.int 0)) (fl_b (fl_a (fl_a (fl_b (fl_a (fl_a (fl_a (fl_a (fl_0 rfl))))))))))
    · exact va_eqt (z := (-1)) (hn (.eq (.elem (.static "UnlikeBoats" "STEP_Y" "[I") (.int 7)) (.int (-1))) (fl_b (fl_a (fl_a (fl_b (fl_a (fl_a (fl_a (fl_b (fl_a (fl_0 rfl)))))))))))) hAn
  exact ⟨q, va_Zref (hts0 (.laysStatic "UnlikeBoats" "STEP_Y" "[I") (tq_6 _ (zs16 (zs1 (zs1 (zs1 (zs0))))))) (hts0 (.initialized "UnlikeBoats") (tq_1 _ (zs1 (zs0)))) hv1 hAn, hv2⟩
theorem nx_all {s : State} {b : Nat} (hgv : (Jvm.Cond.and given_1 narrow_1).before #[Value.ref b] s = true) (hts0 : ∀ w ∈ lw_tbl, w.before #[Value.ref b] s = true) : NXc s := by
  have hn := flat_of_before _ hgv
  exact ⟨List.forall_mem_cons.mpr ⟨(va_Nw.of rfl (hts0 (.methodLinkNest RX12 18 yX10_init "UnlikeBoats") (tq_1 _ (zs64 (zs64 (zs4 (zs4 (zs4 (zs1 (zs1 (zs0))))))))))), List.forall_mem_cons.mpr ⟨(va_Nw.of rfl (hts0 (.methodLinkNest RX12 9 yX0_init "UnlikeBoats") (tq_1 _ (zs16 (zs16 (zs4 (zs4 (zs1 (zs1 (zs1 (zs0))))))))))), List.forall_mem_cons.mpr ⟨(va_Nw.of rfl (hts0 (.methodLinkNest RX0 131 yX12_held "UnlikeBoats") (tq_4 _ (zs64 (zs4 (zs1 (zs1 (zs0)))))))), List.forall_mem_cons.mpr ⟨(va_Nw.of rfl (hts0 (.methodLinkNest RX0 52 yX12_within "UnlikeBoats") (tq_2 _ (zs64 (zs64 (zs16 (zs4 (zs4 (zs4 (zs1 (zs1 (zs0)))))))))))), List.forall_mem_cons.mpr ⟨(va_Nw.of rfl (hts0 (.methodLinkNest RX2 81 yX12_apart "UnlikeBoats") (tq_5 _ (zs64 (zs64 (zs64 (zs16 (zs4 (zs4 (zs1 (zs1 (zs0)))))))))))), List.forall_mem_cons.mpr ⟨(va_Nw.of rfl (hts0 (.methodLinkNest RX3 109 yX12_sortIn "UnlikeBoats") (tq_6 _ (zs64 (zs16 (zs16 (zs4 (zs1 (zs1 (zs1 (zs0))))))))))), List.forall_mem_cons.mpr ⟨(va_Nw.of rfl (hts0 (.methodLinkNest RX3 126 yX12_apart "UnlikeBoats") (tq_6 _ (zs64 (zs4 (zs4 (zs4 (zs1 (zs1 (zs1 (zs0))))))))))), List.forall_mem_cons.mpr ⟨(va_Nw.of rfl (hts0 (.methodLinkNest RX3 89 yX12_cell "UnlikeBoats") (tq_6 _ (zs16 (zs16 (zs16 (zs4 (zs4 (zs4 (zs1 (zs1 (zs1 (zs0))))))))))))), List.forall_mem_cons.mpr ⟨(va_Nw.of rfl (hts0 (.methodLinkNest RX8 114 yX12_held "UnlikeBoats") (tq_5 _ (zs64 (zs1 (zs1 (zs1 (zs0)))))))), List.forall_mem_cons.mpr ⟨(va_Nw.of rfl (hts0 (.methodLinkNest RX8 127 yX12_sortIn "UnlikeBoats") (tq_5 _ (zs64 (zs16 (zs16 (zs1 (zs0)))))))), List.forall_mem_cons.mpr ⟨(va_Nw.of rfl (hts0 (.methodLinkNest RX8 76 yX12_cell "UnlikeBoats") (tq_5 _ (zs16 (zs16 (zs4 (zs4 (zs4 (zs0))))))))), List.forall_mem_cons.mpr ⟨(va_Nw.of rfl (hts0 (.methodLinkNest RX9 123 yX12_held "UnlikeBoats") (tq_5 _ (zs16 (zs16 (zs4 (zs1 (zs1 (zs1 (zs0)))))))))), List.forall_mem_cons.mpr ⟨(va_Nw.of rfl (hts0 (.methodLinkNest RX10 66 yX12_isOneOf "UnlikeBoats") (tq_3 _ (zs64 (zs16 (zs1 (zs0))))))), fun _ h9 => nomatch h9⟩⟩⟩⟩⟩⟩⟩⟩⟩⟩⟩⟩⟩, ⟨(va_Nw.of rfl (hts0 (.fieldLinkNest RX2 151 "UnlikeBoats" "STEP_X" "[I" "UnlikeBoats") (tq_6 _ (zs16 (zs0))))), (va_Nw.of rfl (hts0 (.fieldLinkNest RX2 154 "UnlikeBoats" "STEP_Y" "[I" "UnlikeBoats") (tq_6 _ (zs16 (zs1 (zs1 (zs0)))))))⟩, List.forall_mem_cons.mpr ⟨(va_Nw.of rfl (hts0 (.castable RX1 "java/lang/Object") (tq_10 _ (zs16 (zs1 (zs0)))))), List.forall_mem_cons.mpr ⟨(va_Nw.of rfl (hts0 (.castable RX7 "java/lang/Object") (tq_10 _ (zs16 (zs1 (zs1 (zs0))))))), List.forall_mem_cons.mpr ⟨(va_Nw.of rfl (hts0 (.castable RX5 "java/lang/Object") (tq_10 _ (zs16 (zs1 (zs1 (zs1 (zs0)))))))), List.forall_mem_cons.mpr ⟨(va_Nw.of rfl (hts0 (.castable RX6 "java/lang/Object") (tq_10 _ (zs16 (zs4 (zs0)))))), List.forall_mem_cons.mpr ⟨(va_Nw.of rfl (hts0 (.castable RX11 "java/lang/Object") (tq_10 _ (zs16 (zs4 (zs1 (zs0))))))), List.forall_mem_cons.mpr ⟨(va_Nw.of rfl (hts0 (.castable RX4 "java/lang/Object") (tq_10 _ (zs16 (zs4 (zs1 (zs1 (zs0)))))))), fun _ h9 => nomatch h9⟩⟩⟩⟩⟩⟩, va_AO.of (hts0 (.arrayOver (.object "java/lang/Object")) (tq_3 _ (zs4 (zs4 (zs1 (zs1 (zs1 (zs0)))))))), va_Mi.of (hn (.isRef (.mirror "[Ljava/lang/Object;")) (fl_b (fl_a (fl_a (fl_b (fl_b (fl_a (fl_b (fl_a (fl_a (fl_0 rfl))))))))))), va_Dc.of (hts0 (.declares ⟨"java/lang/Object", "getClass", "()Ljava/lang/Class;"⟩) (tq_10 _ (zs16 (zs4 (zs4 (zs4 (zs0)))))))⟩
theorem K_obj {D : va_G} {cl : List vw_C} {s : State} (h : va_AO "java/lang/Object" s) (hK : va_K D cl [] s) : ∃ cO : ClassId, va_K D cl [(cO, .object "java/lang/Object")] s := by
  obtain ⟨comp, c, k, h1, -, h3, h4, h5⟩ := Cond.arrayOver_spec (args := #[]) (first := s) (o := none) (s := s) (idx := []) (n := "java/lang/Object") h
  refine ⟨c, hK.1, fun i q hq => ?_⟩
  match i, hq with
  | 0, hq => cases hq; exact ⟨fun N z => ⟨(fun k h => by cases h), k, h3, comp, h4⟩, k, comp, h3, h4, h1, h5⟩
  | i + 1, hq => simp at hq

theorem k_all {s : State} {b : Nat} (hts0 : ∀ w ∈ lw_tbl, w.before #[Value.ref b] s = true) : ∃ (dC : Nat → ClassId) (dI : Nat → Nat → Nat), va_K (dC, dI) vwCl [] s := by
  obtain ⟨c0, iS0, hKn0⟩ := u_known (ws := lw_tbl) (C := RJx4a65c) (T := TJx4a65c) (N := 3) (n := 3) hts0 lc_Jx4a65c (hts0 (.instantiable RJx4a65c 3) (tq_1 _ (zs16 (zs16 (zs16 (zs0))))))
  obtain ⟨c1, iS1, hKn1⟩ := u_known (ws := lw_tbl) (C := RX0) (T := TX0) (N := 11) (n := 11) hts0 lc_X0 (hts0 (.instantiable RX0 11) (tq_1 _ (zs16 (zs16 (zs4 (zs4 (zs1 (zs1 (zs0)))))))))
  obtain ⟨c2, iS2, hKn2⟩ := u_known (ws := lw_tbl) (C := RX1) (T := TX1) (N := 6) (n := 6) hts0 lc_X1 (hts0 (.instantiable RX1 6) (tq_2 _ (zs64 (zs64 (zs16 (zs16 (zs4 (zs1 (zs1 (zs1 (zs0)))))))))))
  obtain ⟨c3, iS3, hKn3⟩ := u_known (ws := lw_tbl) (C := RX2) (T := TX2) (N := 10) (n := 10) hts0 lc_X2 (hts0 (.instantiable RX2 10) (tq_2 _ (zs16 (zs4 (zs1 (zs1 (zs0)))))))
  obtain ⟨c4, iS4, hKn4⟩ := u_known (ws := lw_tbl) (C := RX3) (T := TX3) (N := 18) (n := 18) hts0 lc_X3 (hts0 (.instantiable RX3 18) (tq_2 _ (zs16 (zs16 (zs16 (zs4 (zs4 (zs1 (zs1 (zs1 (zs0)))))))))))
  obtain ⟨c5, iS5, hKn5⟩ := u_known (ws := lw_tbl) (C := RX4) (T := TX4) (N := 10) (n := 10) hts0 lc_X4 (hts0 (.instantiable RX4 10) (tq_5 _ (zs64 (zs64 (zs16 (zs4 (zs4 (zs1 (zs0)))))))))
  obtain ⟨c6, iS6, hKn6⟩ := u_known (ws := lw_tbl) (C := RX5) (T := TX5) (N := 12) (n := 12) hts0 lc_X5 (hts0 (.instantiable RX5 12) (tq_4 _ (zs64 (zs4 (zs4 (zs4 (zs1 (zs1 (zs0)))))))))
  obtain ⟨c7, iS7, hKn7⟩ := u_known (ws := lw_tbl) (C := RX6) (T := TX6) (N := 5) (n := 5) hts0 lc_X6 (hts0 (.instantiable RX6 5) (tq_4 _ (zs64 (zs64 (zs16 (zs16 (zs4 (zs4 (zs4 (zs1 (zs0)))))))))))
  obtain ⟨c8, iS8, hKn8⟩ := u_known (ws := lw_tbl) (C := RX7) (T := TX7) (N := 6) (n := 6) hts0 lc_X7 (hts0 (.instantiable RX7 6) (tq_3 _ (zs64 (zs64 (zs64 (zs16 (zs16 (zs4 (zs1 (zs0))))))))))
  obtain ⟨c9, iS9, hKn9⟩ := u_known (ws := lw_tbl) (C := RX8) (T := TX8) (N := 10) (n := 10) hts0 lc_X8 (hts0 (.instantiable RX8 10) (tq_1 _ (zs64 (zs64 (zs64 (zs16 (zs4 (zs4 (zs4 (zs1 (zs0)))))))))))
  obtain ⟨c10, iS10, hKn10⟩ := u_known (ws := lw_tbl) (C := RX9) (T := TX9) (N := 9) (n := 9) hts0 lc_X9 (hts0 (.instantiable RX9 9) (tq_1 _ (zs64 (zs64 (zs16 (zs16 (zs16 (zs1 (zs1 (zs1 (zs0)))))))))))
  obtain ⟨c11, iS11, hKn11⟩ := u_known (ws := lw_tbl) (C := RX10) (T := TX10) (N := 10) (n := 10) hts0 lc_X10 (hts0 (.instantiable RX10 10) (tq_1 _ (zs64 (zs64 (zs4 (zs4 (zs4 (zs1 (zs0)))))))))
  obtain ⟨c12, iS12, hKn12⟩ := u_known (ws := lw_tbl) (C := RX11) (T := TX11) (N := 8) (n := 8) hts0 lc_X11 (hts0 (.instantiable RX11 8) (tq_5 _ (zs64 (zs16 (zs16 (zs4 (zs4 (zs1 (zs1 (zs0))))))))))
  obtain ⟨c13, iS13, hKn13⟩ := u_known (ws := lw_tbl) (C := RX12) (T := TX12) (N := 6) (n := 6) hts0 lc_X12 (hts0 (.instantiable RX12 6) (tq_1 _ (zs16 (zs16 (zs1 (zs1 (zs0)))))))
  obtain ⟨c14, iS14, hKn14⟩ := u_known (ws := lw_tbl) (C := RX13) (T := TX13) (N := 97) (n := 97) hts0 lc_X13 (hts0 (.instantiable RX13 97) (tq_7 _ (zs16 (zs4 (zs1 (zs1 (zs1 (zs0))))))))
  refine ⟨fun k => if k = 0 then c0 else if k = 1 then c1 else if k = 2 then c2 else if k = 3 then c3 else if k = 4 then c4 else if k = 5 then c5 else if k = 6 then c6 else if k = 7 then c7 else if k = 8 then c8 else if k = 9 then c9 else if k = 10 then c10 else if k = 11 then c11 else if k = 12 then c12 else if k = 13 then c13 else c14, fun k => if k = 0 then iS0 else if k = 1 then iS1 else if k = 2 then iS2 else if k = 3 then iS3 else if k = 4 then iS4 else if k = 5 then iS5 else if k = 6 then iS6 else if k = 7 then iS7 else if k = 8 then iS8 else if k = 9 then iS9 else if k = 10 then iS10 else if k = 11 then iS11 else if k = 12 then iS12 else if k = 13 then iS13 else iS14, ?_, fun k q h => by simp at h⟩
  intro k q hq
  match k, hq with
  | 0, hq => cases hq; exact hKn0
  | 1, hq => cases hq; exact hKn1
  | 2, hq => cases hq; exact hKn2
  | 3, hq => cases hq; exact hKn3
  | 4, hq => cases hq; exact hKn4
  | 5, hq => cases hq; exact hKn5
  | 6, hq => cases hq; exact hKn6
  | 7, hq => cases hq; exact hKn7
  | 8, hq => cases hq; exact hKn8
  | 9, hq => cases hq; exact hKn9
  | 10, hq => cases hq; exact hKn10
  | 11, hq => cases hq; exact hKn11
  | 12, hq => cases hq; exact hKn12
  | 13, hq => cases hq; exact hKn13
  | 14, hq => cases hq; exact hKn14
  | k + 15, hq => simp [vwCl] at hq
theorem law_env {p : Program} {s : State} {m : MethodId} {meth : Method} {c : Code} (l : Launch) (hflags : l.flags = flags0) {b L : Nat} {xs : Nat → Int32} (C0 : lw_At p s m meth c b L xs) {A : Nat → Prop} (hAn : ∀ a : Nat, a < s.heap.size → ¬ A a) : l.stackTraces = false ∧ ∃ ed : Nat, ub_NX s ∧ ub_ZE ed A s s.heap ∧ ub_SL A s s.heap ∧ EVC ed A s s.heap ∧ EV A s s.heap ∧ ub_EX A s s.heap ∧ va_Nw (.castable "[I" "java/lang/Cloneable") s ∧ ∃ (dC : Nat → ClassId) (dI : Nat → Nat → Nat) (cO : ClassId), va_K (dC, dI) vwCl [(cO, .object "java/lang/Object")] s := by
  obtain ⟨hx, hb, hr, hml, hown, hts0, hX, hbl, hlocks, hgv⟩ := C0
  have hn := flat_of_before _ hgv
  refine ⟨by unfold Launch.stackTraces; rw [hflags]; decide +kernel, ?_⟩
  obtain ⟨ed, he1, he2⟩ := va_Tof (args := #[Value.ref b]) (s := s) (tm := .static "java/util/ArrayList" "DEFAULTCAPACITY_EMPTY_ELEMENTDATA" "[Ljava/lang/Object;") (ty := .object "java/lang/Object") (N := 0) (f := fun _ => .null) (A := A) (by decide) (hn _ (by decide +kernel)) (va_eqt (hn _ (by decide +kernel))) (fun j hj => absurd hj (Nat.not_lt_zero _)) hAn
  have hZE : ub_ZE ed A s s.heap := ⟨va_Zref (hts0 (.laysStatic "java/util/ArrayList" "DEFAULTCAPACITY_EMPTY_ELEMENTDATA" "[Ljava/lang/Object;") (tq_1 _ (zs16 (zs16 (zs16 (zs4 (zs4 (zs4 (zs0))))))))) (hts0 (.initialized "java/util/ArrayList") (tq_1 _ (zs4 (zs1 (zs0))))) he1 hAn, he2⟩
  have hNX : ub_NX s := ⟨(va_Nw.of rfl (hts0 (.methodLinkNest RX12 18 yX10_init "UnlikeBoats") (tq_1 _ (zs64 (zs64 (zs4 (zs4 (zs4 (zs1 (zs1 (zs0))))))))))), (va_Nw.of rfl (hts0 (.methodLinkNest RX12 9 yX0_init "UnlikeBoats") (tq_1 _ (zs16 (zs16 (zs4 (zs4 (zs1 (zs1 (zs1 (zs0))))))))))), (va_Nw.of rfl (hts0 (.methodLinkNest RX0 52 yX12_within "UnlikeBoats") (tq_2 _ (zs64 (zs64 (zs16 (zs4 (zs4 (zs4 (zs1 (zs1 (zs0)))))))))))), (va_Nw.of rfl (hts0 (.methodLinkNest RX8 114 yX12_held "UnlikeBoats") (tq_5 _ (zs64 (zs1 (zs1 (zs1 (zs0)))))))), (va_Nw.of rfl (hts0 (.methodLinkNest RX10 66 yX12_isOneOf "UnlikeBoats") (tq_3 _ (zs64 (zs16 (zs1 (zs0)))))))⟩
  have hNc := nx_all hgv hts0
  have hS33 := sk_RX0_33 hgv hts0 hAn
  obtain ⟨dC, dI, hK0⟩ := k_all hts0
  obtain ⟨cO, hKO⟩ := K_obj hNc.2.2.2.1 hK0
  obtain ⟨s294, _, _, _, q294, -⟩ := Cond.exactly_spec (args := #[Value.ref b]) (first := s) (o := none) (s := s) (idx := []) (t := .string "UnlikeBoats" 294) (cls := "java/lang/String") (hn (.exactly (.string "UnlikeBoats" 294) "java/lang/String") (fl_b (fl_b (fl_a (fl_a (fl_b (fl_a (fl_a (fl_b (fl_a (fl_0 rfl)))))))))))
  obtain ⟨s326, _, _, _, q326, -⟩ := Cond.exactly_spec (args := #[Value.ref b]) (first := s) (o := none) (s := s) (idx := []) (t := .string "UnlikeBoats" 326) (cls := "java/lang/String") (hn (.exactly (.string "UnlikeBoats" 326) "java/lang/String") (fl_b (fl_b (fl_a (fl_b (fl_a (fl_b (fl_a (fl_b (fl_a (fl_0 rfl)))))))))))
  refine ⟨ed, hNX, hZE, ?_, ⟨hNc, ⟨sk_RX10_64 hgv hts0 hAn, sk_RX10_74 hgv hts0 hAn, sk_RX10_79 hgv hts0 hAn, sk_RX10_108 hgv hts0 hAn, sk_RX10_113 hgv hts0 hAn, sk_RX10_121 hgv hts0 hAn⟩, ⟨st_STEP_X hgv hts0 hAn, st_STEP_Y hgv hts0 hAn⟩, hZE⟩, ⟨hNX, sk_RX13_306 hgv hts0 hAn, sk_RX13_351 hgv hts0 hAn⟩, ?_, (va_Nw.of rfl (hts0 (.castable "[I" "java/lang/Cloneable") (tq_3 _ (zs64 (zs64 (zs64 (zs16 (zs16 (zs4 (zs4 (zs4 (zs1 (zs1 (zs0)))))))))))))), dC, dI, cO, hKO⟩
  · obtain ⟨qs, vs, h1, h2, h3, h4, h5, h6⟩ := hS33
    exact ⟨qs, h1, h2, h3, ⟨vs, h4, _, h5⟩, h6⟩
  · exact ⟨vx_Zqof (hts0 (.laysStatic "java/lang/Throwable" "UNASSIGNED_STACK" "[Ljava/lang/StackTraceElement;") (tq_6 _ (zs64 (zs64 (zs64 (zs16 (zs4 (zs4 (zs4 (zs1 (zs0))))))))))) (hts0 (.initialized "java/lang/Throwable") (tq_1 _ (zs16 (zs4 (zs4 (zs4 (zs1 (zs0)))))))) (hn _ (by decide +kernel)) hAn, vx_Zqof (hts0 (.laysStatic "java/lang/Throwable" "SUPPRESSED_SENTINEL" "Ljava/util/List;") (tq_6 _ (zs64 (zs64 (zs64 (zs16 (zs4 (zs4 (zs4 (zs1 (zs1 (zs1 (zs0))))))))))))) (hts0 (.initialized "java/lang/Throwable") (tq_1 _ (zs16 (zs4 (zs4 (zs4 (zs1 (zs0)))))))) (hn _ (by decide +kernel)) hAn, ⟨⟨s294, vk_R.of (hts0 (.stringRef "UnlikeBoats" 294 "no such race") (tq_6 _ (zs64 (zs64 (zs64 (zs16 (zs16 (zs4 (zs4 (zs1 (zs0))))))))))) q294⟩, ⟨s326, vk_R.of (hts0 (.stringRef "UnlikeBoats" 326 "no such thing of a race") (tq_7 _ (zs16 (zs4 (zs1 (zs0)))))) q326⟩⟩, (va_Nw.of rfl (hts0 (.castable "java/util/NoSuchElementException" "java/util/NoSuchElementException") (tq_6 _ (zs64 (zs64 (zs64 (zs4 (zs0)))))))), (va_Nw.of rfl (hts0 (.declares ⟨"java/lang/RuntimeException", "<init>", "(Ljava/lang/String;)V"⟩) (tq_6 _ (zs64 (zs64 (zs64 (zs4 (zs1 (zs1 (zs0)))))))))), (va_Nw.of rfl (hts0 (.declares ⟨"java/lang/Exception", "<init>", "(Ljava/lang/String;)V"⟩) (tq_6 _ (zs64 (zs64 (zs64 (zs4 (zs4 (zs0))))))))), (va_Nw.of rfl (hts0 (.declares ⟨"java/lang/Throwable", "<init>", "(Ljava/lang/String;)V"⟩) (tq_6 _ (zs64 (zs64 (zs64 (zs4 (zs4 (zs1 (zs1 (zs0)))))))))))⟩
theorem gen_join {A : Nat → Prop} {D : va_G} {cl : List vw_C} {W1 W2 W1' : va_W} {H H1 : Heap} (hP : va_P D cl (W1 ++ W2) H) (hD : va_D A (W1 ++ W2)) (hk : ∀ q : Nat, q < H.size → ¬ va_A W1 H.size q → H1[q]? = H[q]?) (hF : ∀ q, va_A W1 H.size q → A q) (hP1 : va_P D cl W1' H1) (hD1 : va_D (va_A W1 H.size) W1') : va_P D cl (W1' ++ W2) H1 ∧ va_D A (W1' ++ W2) := by
  have hlt : ∀ z ∈ W2, z.1 < H.size := fun z hz => by
    obtain ⟨i, hi⟩ := List.getElem?_of_mem (List.mem_append_right W1 hz)
    exact (hP i z hi).lt
  have hout : ∀ z ∈ W2, ¬ va_A W1 H.size z.1 := fun z hz h => by
    rcases h with ⟨k, e, h3⟩ | h3
    · exact va_D_out hD (z.1, e) (List.mem_of_getElem? h3) z hz rfl
    · have := hlt z hz
      omega
  have hPn : ∀ z ∈ W2, va_P D cl [z] H1 := fun z hz => va_P.kept (one_P hP (List.mem_append_right _ hz)) fun k q hq => by
    have h5 : q = z := List.mem_singleton.mp (List.mem_of_getElem? hq)
    subst h5
    exact hk q.1 (hlt q hz) (hout q hz)
  refine ⟨fun k q hq => ?_, ?_⟩
  · rcases List.mem_append.mp (List.mem_of_getElem? hq) with h | h
    · obtain ⟨i, hi⟩ := List.getElem?_of_mem h
      exact hP1 i q hi
    · exact hPn q h 0 q rfl
  · rw [va_D_iff] at hD1 ⊢
    have hD2 := va_D_iff.mp (va_D_right hD)
    refine ⟨?_, fun q hq => ?_⟩
    · rw [List.map_append]
      refine List.nodup_append.mpr ⟨hD1.1, hD2.1, fun x hx y hy e => ?_⟩
      obtain ⟨z1, h1, e1⟩ := List.mem_map.mp hx
      obtain ⟨z2, h2, e2⟩ := List.mem_map.mp hy
      refine hout z2 h2 ?_
      rw [e2, ← e, ← e1]
      exact hD1.2 z1 h1
    · rcases List.mem_append.mp hq with h | h
      · exact hF _ (hD1.2 q h)
      · exact hD2.2 q h
theorem free_of {A : Nat → Prop} {W1 W2 : va_W} {H0 H : Heap} {locs : List Loc} (hD : va_D A (W1 ++ W2)) (hS : va_S A H0 H locs) (hA : ∀ q, H0.size ≤ q → A q) : ∀ q, va_A W1 H.size q → A q := all_free (va_D_left hD) hS hA
section LAWS
variable {p : Program} {l : Launch} {e : Env} {R : Room} {s : State} {m : MethodId} {args : Array Value} {below : List Frame} {meth : Method} {c : Code} {H : Heap} {locs : List Loc} {cells slots mc ms : Nat} {Q : State → Prop}
variable {pc : Nat} {ls : Array Slot} {rest st0 : List Value} {dC : Nat → ClassId} {dI : Nat → Nat → Nat} {A : Nat → Prop}
theorem lcall {S : Type} {W1 W2 : va_W} {post : Int32 → S → Prop} {B : S → State → Prop} {a : Array Value} (Wf : S → va_W) (hBf : ∀ u t, B u t → va_P (dC, dI) vwCl (Wf u) t.heap ∧ va_D (va_A W1 H.size) (Wf u)) (hr : va_Run p l e R s m args below meth c H locs cells slots mc ms (F0 m pc ls st0) rest (va_Qi post B (va_A W1 H.size) a) (va_A W1 H.size)) (hS : va_S A s.heap H locs) (hA : ∀ q, s.heap.size ≤ q → A q) (hP : va_P (dC, dI) vwCl (W1 ++ W2) H) (hD : va_D A (W1 ++ W2))
    (kk : ∀ (r : Int32) (u : S) (H1 : Heap) (locs1 : List Loc), post r u → va_P (dC, dI) vwCl (Wf u ++ W2) H1 → va_D A (Wf u ++ W2) → va_S A s.heap H1 locs1 → W p l e R s m args below meth c H1 locs1 (cells + mc) (slots + ms) Q (F0 m (pc + 3) ls (.int r :: rest))) : W p l e R s m args below meth c H locs cells slots Q (F0 m pc ls st0) :=
  va_calli hr hS (fun q _ h => free_of hD hS hA q h) (free_of hD hS hA) (fun r u t H1 locs1 ht _ hw hB _ hk hS1 => by
    obtain ⟨h1, h2⟩ := hBf u t hB
    rw [ht] at h1
    obtain ⟨h3, h4⟩ := gen_join hP hD hk (free_of hD hS hA) h1 h2
    exact kk r u H1 locs1 hw h3 h4 hS1)
end LAWS
def FX (l : Launch) (s : State) (A : Nat → Prop) (ed : Nat) (dC : Nat → ClassId) (dI : Nat → Nat → Nat) (cT : Nat → ClassId) (cL : ClassId) : Prop := (l.stackTraces = false) ∧ (∀ q : Nat, s.heap.size ≤ q → A q) ∧ (∀ q : Nat, q < s.heap.size → ¬ A q) ∧ (∀ q : Nat, A q → s.heap.size ≤ q) ∧ (va_K (dC, dI) vwCl ((cL, .long) :: TYC cT) s) ∧ (EVC ed A s s.heap) ∧ (EV A s s.heap) ∧ (ub_EX A s s.heap) ∧ (va_Nw (.castable "[I" "java/lang/Cloneable") s)
theorem FX.hfl {l : Launch} {s : State} {A : Nat → Prop} {ed : Nat} {dC : Nat → ClassId} {dI : Nat → Nat → Nat} {cT : Nat → ClassId} {cL : ClassId} (h : FX l s A ed dC dI cT cL) : l.stackTraces = false := h.1
theorem FX.hA {l : Launch} {s : State} {A : Nat → Prop} {ed : Nat} {dC : Nat → ClassId} {dI : Nat → Nat → Nat} {cT : Nat → ClassId} {cL : ClassId} (h : FX l s A ed dC dI cT cL) : ∀ q : Nat, s.heap.size ≤ q → A q := h.2.1
theorem FX.hnA {l : Launch} {s : State} {A : Nat → Prop} {ed : Nat} {dC : Nat → ClassId} {dI : Nat → Nat → Nat} {cT : Nat → ClassId} {cL : ClassId} (h : FX l s A ed dC dI cT cL) : ∀ q : Nat, q < s.heap.size → ¬ A q := h.2.2.1
theorem FX.hAl {l : Launch} {s : State} {A : Nat → Prop} {ed : Nat} {dC : Nat → ClassId} {dI : Nat → Nat → Nat} {cT : Nat → ClassId} {cL : ClassId} (h : FX l s A ed dC dI cT cL) : ∀ q : Nat, A q → s.heap.size ≤ q := h.2.2.2.1
theorem FX.hK {l : Launch} {s : State} {A : Nat → Prop} {ed : Nat} {dC : Nat → ClassId} {dI : Nat → Nat → Nat} {cT : Nat → ClassId} {cL : ClassId} (h : FX l s A ed dC dI cT cL) : va_K (dC, dI) vwCl ((cL, .long) :: TYC cT) s := h.2.2.2.2.1
theorem FX.hEC {l : Launch} {s : State} {A : Nat → Prop} {ed : Nat} {dC : Nat → ClassId} {dI : Nat → Nat → Nat} {cT : Nat → ClassId} {cL : ClassId} (h : FX l s A ed dC dI cT cL) : EVC ed A s s.heap := h.2.2.2.2.2.1
theorem FX.hEV {l : Launch} {s : State} {A : Nat → Prop} {ed : Nat} {dC : Nat → ClassId} {dI : Nat → Nat → Nat} {cT : Nat → ClassId} {cL : ClassId} (h : FX l s A ed dC dI cT cL) : EV A s s.heap := h.2.2.2.2.2.2.1
theorem FX.hEX {l : Launch} {s : State} {A : Nat → Prop} {ed : Nat} {dC : Nat → ClassId} {dI : Nat → Nat → Nat} {cT : Nat → ClassId} {cL : ClassId} (h : FX l s A ed dC dI cT cL) : ub_EX A s s.heap := h.2.2.2.2.2.2.2.1
theorem FX.hCl {l : Launch} {s : State} {A : Nat → Prop} {ed : Nat} {dC : Nat → ClassId} {dI : Nat → Nat → Nat} {cT : Nat → ClassId} {cL : ClassId} (h : FX l s A ed dC dI cT cL) : va_Nw (.castable "[I" "java/lang/Cloneable") s := h.2.2.2.2.2.2.2.2
abbrev WWd (ou : Nat) (cL : ClassId) (cf ad am : Nat → Nat) (E EM : Nat → va_E) (f : Nat → Int64) : va_W := WL (LC cf) ad E ++ (WX 72 am EM ++ [(ou, .inl (cL, 1, .inr (.inl f)))])
def INV (s : State) (A : Nat → Prop) (ed : Nat) (dC : Nat → ClassId) (dI : Nat → Nat → Nat) (cT : Nat → ClassId) (cL : ClassId) (x ou : Nat) (am : Nat → Nat) (cf ad : Nat → Nat) (E EM : Nat → va_E) (f : Nat → Int64) (H : Heap) (locs : List Loc) : Prop := (cf 6 = ed) ∧ (CF cf) ∧ (IXL cT (shC cf) (spC cf) (LC cf) ad E) ∧ (IX cT shM spM 72 am EM) ∧ (DIr (xi (EM 55)) (xi (EM 54))) ∧ (va_P (dC, dI) vwCl (WWd ou cL cf ad am E EM f) H) ∧ (va_D A (WWd ou cL cf ad am E EM f)) ∧ (va_S A s.heap H locs) ∧ (ad 0 = x)
theorem INV.hed {s : State} {A : Nat → Prop} {ed : Nat} {dC : Nat → ClassId} {dI : Nat → Nat → Nat} {cT : Nat → ClassId} {cL : ClassId} {x ou : Nat} {am : Nat → Nat} {cf ad : Nat → Nat} {E EM : Nat → va_E} {f : Nat → Int64} {H : Heap} {locs : List Loc} (h : INV s A ed dC dI cT cL x ou am cf ad E EM f H locs) : cf 6 = ed := h.1
theorem INV.hC {s : State} {A : Nat → Prop} {ed : Nat} {dC : Nat → ClassId} {dI : Nat → Nat → Nat} {cT : Nat → ClassId} {cL : ClassId} {x ou : Nat} {am : Nat → Nat} {cf ad : Nat → Nat} {E EM : Nat → va_E} {f : Nat → Int64} {H : Heap} {locs : List Loc} (h : INV s A ed dC dI cT cL x ou am cf ad E EM f H locs) : CF cf := h.2.1
theorem INV.hI {s : State} {A : Nat → Prop} {ed : Nat} {dC : Nat → ClassId} {dI : Nat → Nat → Nat} {cT : Nat → ClassId} {cL : ClassId} {x ou : Nat} {am : Nat → Nat} {cf ad : Nat → Nat} {E EM : Nat → va_E} {f : Nat → Int64} {H : Heap} {locs : List Loc} (h : INV s A ed dC dI cT cL x ou am cf ad E EM f H locs) : IXL cT (shC cf) (spC cf) (LC cf) ad E := h.2.2.1
theorem INV.hM {s : State} {A : Nat → Prop} {ed : Nat} {dC : Nat → ClassId} {dI : Nat → Nat → Nat} {cT : Nat → ClassId} {cL : ClassId} {x ou : Nat} {am : Nat → Nat} {cf ad : Nat → Nat} {E EM : Nat → va_E} {f : Nat → Int64} {H : Heap} {locs : List Loc} (h : INV s A ed dC dI cT cL x ou am cf ad E EM f H locs) : IX cT shM spM 72 am EM := h.2.2.2.1
theorem INV.hDI {s : State} {A : Nat → Prop} {ed : Nat} {dC : Nat → ClassId} {dI : Nat → Nat → Nat} {cT : Nat → ClassId} {cL : ClassId} {x ou : Nat} {am : Nat → Nat} {cf ad : Nat → Nat} {E EM : Nat → va_E} {f : Nat → Int64} {H : Heap} {locs : List Loc} (h : INV s A ed dC dI cT cL x ou am cf ad E EM f H locs) : DIr (xi (EM 55)) (xi (EM 54)) := h.2.2.2.2.1
theorem INV.hP {s : State} {A : Nat → Prop} {ed : Nat} {dC : Nat → ClassId} {dI : Nat → Nat → Nat} {cT : Nat → ClassId} {cL : ClassId} {x ou : Nat} {am : Nat → Nat} {cf ad : Nat → Nat} {E EM : Nat → va_E} {f : Nat → Int64} {H : Heap} {locs : List Loc} (h : INV s A ed dC dI cT cL x ou am cf ad E EM f H locs) : va_P (dC, dI) vwCl (WWd ou cL cf ad am E EM f) H := h.2.2.2.2.2.1
theorem INV.hD {s : State} {A : Nat → Prop} {ed : Nat} {dC : Nat → ClassId} {dI : Nat → Nat → Nat} {cT : Nat → ClassId} {cL : ClassId} {x ou : Nat} {am : Nat → Nat} {cf ad : Nat → Nat} {E EM : Nat → va_E} {f : Nat → Int64} {H : Heap} {locs : List Loc} (h : INV s A ed dC dI cT cL x ou am cf ad E EM f H locs) : va_D A (WWd ou cL cf ad am E EM f) := h.2.2.2.2.2.2.1
theorem INV.hS {s : State} {A : Nat → Prop} {ed : Nat} {dC : Nat → ClassId} {dI : Nat → Nat → Nat} {cT : Nat → ClassId} {cL : ClassId} {x ou : Nat} {am : Nat → Nat} {cf ad : Nat → Nat} {E EM : Nat → va_E} {f : Nat → Int64} {H : Heap} {locs : List Loc} (h : INV s A ed dC dI cT cL x ou am cf ad E EM f H locs) : va_S A s.heap H locs := h.2.2.2.2.2.2.2.1
theorem INV.hx {s : State} {A : Nat → Prop} {ed : Nat} {dC : Nat → ClassId} {dI : Nat → Nat → Nat} {cT : Nat → ClassId} {cL : ClassId} {x ou : Nat} {am : Nat → Nat} {cf ad : Nat → Nat} {E EM : Nat → va_E} {f : Nat → Int64} {H : Heap} {locs : List Loc} (h : INV s A ed dC dI cT cL x ou am cf ad E EM f H locs) : ad 0 = x := h.2.2.2.2.2.2.2.2
section INVS
variable {p : Program} {l : Launch} {e : Env} {R : Room} {s : State} {m : MethodId} {args : Array Value} {below : List Frame} {meth : Method} {c : Code} {H : Heap} {locs : List Loc} {cells slots mc ms : Nat} {Q : State → Prop}
variable {pc : Nat} {ls : Array Slot} {rest st0 : List Value} {dC : Nat → ClassId} {dI : Nat → Nat → Nat} {A : Nat → Prop} {ed : Nat} {cT : Nat → ClassId} {cL : ClassId} {x ou : Nat} {am cf ad : Nat → Nat} {E EM : Nat → va_E} {f : Nat → Int64}
theorem FX.kc (F : FX l s A ed dC dI cT cL) : va_K (dC, dI) vwCl (TYC cT) s := F.hK.sub (tys' := TYC cT) [1, 2, 3, 4] rfl
theorem FX.km (F : FX l s A ed dC dI cT cL) : va_K (dC, dI) vwCl (TYM cT) s := F.hK.sub (tys' := TYM cT) [1, 2, 3] rfl
theorem INV.cp (V : INV s A ed dC dI cT cL x ou am cf ad E EM f H locs) : va_P (dC, dI) vwCl (WL (LC cf) ad E) H := va_P_sub V.hP fun _ h => List.mem_append_left _ h
theorem INV.pm (V : INV s A ed dC dI cT cL x ou am cf ad E EM f H locs) : va_P (dC, dI) vwCl (WX 72 am EM) H := va_P_sub V.hP fun _ h => List.mem_append_right _ (List.mem_append_left _ h)
theorem INV.dc (V : INV s A ed dC dI cT cL x ou am cf ad E EM f H locs) : va_D A (WL (LC cf) ad E) := va_D_left V.hD
theorem INV.dm (V : INV s A ed dC dI cT cL x ou am cf ad E EM f H locs) : va_D A (WX 72 am EM) := va_D_left (va_D_right V.hD)
theorem INV.ec (V : INV s A ed dC dI cT cL x ou am cf ad E EM f H locs) (F : FX l s A ed dC dI cT cL) : EVC (cf 6) A s s.heap := by rw [V.hed]; exact F.hEC
theorem WL_same {L : List Nat} {ad : Nat → Nat} {E E' : Nat → va_E} {A A' : Nat → Prop} (h : va_D A (WL L ad E)) (hA : ∀ q ∈ WL L ad E', A' q.1) : va_D A' (WL L ad E') := by
  rw [va_D_iff] at h ⊢
  refine ⟨?_, hA⟩
  have e : (WL L ad E').map (fun q => q.1) = (WL L ad E).map (fun q => q.1) := by unfold WL; rw [List.map_map, List.map_map] <;> rfl
  rw [e]
  exact h.1
theorem WL_self {L : List Nat} {ad : Nat → Nat} {E E' : Nat → va_E} {n : Nat} : ∀ q ∈ WL L ad E', va_A (WL L ad E) n q.1 := by
  intro q hq
  obtain ⟨k, hk, rfl⟩ := List.mem_map.mp hq
  obtain ⟨i, hi⟩ := List.getElem?_of_mem (show (ad k, E k) ∈ WL L ad E from List.mem_map.mpr ⟨k, hk, rfl⟩)
  exact Or.inl ⟨i, E k, hi⟩
theorem WX_same {n : Nat} {ad : Nat → Nat} {E E' : Nat → va_E} {A A' : Nat → Prop} (h : va_D A (WX n ad E)) (hA : ∀ q ∈ WX n ad E', A' q.1) : va_D A' (WX n ad E') := WL_same (L := List.range n) h hA
theorem WX_self {n k : Nat} {ad : Nat → Nat} {E E' : Nat → va_E} : ∀ q ∈ WX n ad E', va_A (WX n ad E) k q.1 := WL_self (L := List.range n)
/-- a call of the class that makes nothing -/
theorem lC {post : Int32 → (Nat → va_E) → Prop} {a : Array Value} (F : FX l s A ed dC dI cT cL) (V : INV s A ed dC dI cT cL x ou am cf ad E EM f H locs) (hpost : ∀ r u, post r u → IXL cT (shC cf) (spC cf) (LC cf) ad u) (hr : va_Run p l e R s m args below meth c H locs cells slots 0 0 (F0 m pc ls st0) rest (va_Qi (S := Nat → va_E) post (HBL dC dI (LC cf) ad) (va_A (WL (LC cf) ad E) H.size) a) (va_A (WL (LC cf) ad E) H.size))
    (kk : ∀ (r : Int32) (u : Nat → va_E) (H1 : Heap) (locs1 : List Loc), post r u → INV s A ed dC dI cT cL x ou am cf ad u EM f H1 locs1 → W p l e R s m args below meth c H1 locs1 cells slots Q (F0 m (pc + 3) ls (.int r :: rest))) : W p l e R s m args below meth c H locs cells slots Q (F0 m pc ls st0) :=
  lcall (fun u => WL (LC cf) ad u) (fun u t h => ⟨h, WL_same V.dc WL_self⟩) hr V.hS F.hA V.hP V.hD (fun r u H1 locs1 hw hP hD hS => kk r u H1 locs1 hw ⟨V.hed, V.hC, hpost r u hw, V.hM, V.hDI, hP, hD, hS, V.hx⟩)
set_option maxRecDepth 100000 in
/-- a call of the class that makes cells -/
theorem lCm {post : Int32 → (Nat → Nat) × (Nat → Nat) × (Nat → va_E) → Prop} {a : Array Value} (F : FX l s A ed dC dI cT cL) (V : INV s A ed dC dI cT cL x ou am cf ad E EM f H locs) (hpost : ∀ r u, post r u → CF u.1 ∧ IXL cT (shC u.1) (spC u.1) (LC u.1) u.2.1 u.2.2 ∧ u.1 6 = cf 6 ∧ u.2.1 0 = ad 0) (hr : va_Run p l e R s m args below meth c H locs cells slots mc ms (F0 m pc ls st0) rest (va_Qi (S := (Nat → Nat) × (Nat → Nat) × (Nat → va_E)) post (fun u t => va_P (dC, dI) vwCl (WL (LC u.1) u.2.1 u.2.2) t.heap ∧ va_D (va_A (WL (LC cf) ad E) H.size) (WL (LC u.1) u.2.1 u.2.2)) (va_A (WL (LC cf) ad E) H.size) a) (va_A (WL (LC cf) ad E) H.size))
    (kk : ∀ (r : Int32) (cf' ad' : Nat → Nat) (u : Nat → va_E) (H1 : Heap) (locs1 : List Loc), post r (cf', ad', u) → INV s A ed dC dI cT cL x ou am cf' ad' u EM f H1 locs1 → W p l e R s m args below meth c H1 locs1 (cells + mc) (slots + ms) Q (F0 m (pc + 3) ls (.int r :: rest))) : W p l e R s m args below meth c H locs cells slots Q (F0 m pc ls st0) :=
  lcall (S := (Nat → Nat) × (Nat → Nat) × (Nat → va_E)) (W1 := WL (LC cf) ad E) (W2 := WX 72 am EM ++ [(ou, .inl (cL, 1, .inr (.inl f)))]) (fun (u : (Nat → Nat) × (Nat → Nat) × (Nat → va_E)) => WL (LC u.1) u.2.1 u.2.2) (fun (u : (Nat → Nat) × (Nat → Nat) × (Nat → va_E)) t h => (h : va_P (dC, dI) vwCl (WL (LC u.1) u.2.1 u.2.2) t.heap ∧ va_D (va_A (WL (LC cf) ad E) H.size) (WL (LC u.1) u.2.1 u.2.2))) hr V.hS F.hA V.hP V.hD (fun r u H1 locs1 hw hP hD hS => kk r u.1 u.2.1 u.2.2 H1 locs1 hw ⟨(hpost r u hw).2.2.1.trans V.hed, (hpost r u hw).1, (hpost r u hw).2.1, V.hM, V.hDI, hP, hD, hS, (hpost r u hw).2.2.2.trans V.hx⟩)
theorem pcons {x : Nat × va_E} {Y X : va_W} : ((x :: Y) ++ X).Perm (Y ++ (X ++ [x])) := by
  have h : ((x :: Y) ++ X) = [x] ++ (Y ++ X) := rfl
  rw [h, ← List.append_assoc Y X [x]]
  exact List.perm_append_comm
theorem pmid {X Y Z : va_W} : (Y ++ (X ++ Z)).Perm (X ++ (Y ++ Z)) := by
  rw [← List.append_assoc, ← List.append_assoc]
  exact List.Perm.append_right Z List.perm_append_comm
theorem WWd_m {ou : Nat} {cL : ClassId} {cf ad am : Nat → Nat} {E : Nat → va_E} {f : Nat → Int64} (u : Nat → va_E) : (WWd ou cL cf ad am E u f).Perm (WX 72 am u ++ (WL (LC cf) ad E ++ [(ou, .inl (cL, 1, .inr (.inl f)))])) := by
  unfold WWd
  exact pmid
theorem WWd_t {ou : Nat} {cL : ClassId} {cf ad am : Nat → Nat} {E EM : Nat → va_E} (f : Nat → Int64) : (((ou, (.inl (cL, 1, .inr (.inl f)) : va_E)) :: WL (LC cf) ad E) ++ WX 72 am EM).Perm (WWd ou cL cf ad am E EM f) := by
  unfold WWd
  exact pcons
set_option maxRecDepth 100000 in
/-- a call of the reference -/
theorem lM {post : Int32 → (Nat → va_E) → Prop} {a : Array Value} (F : FX l s A ed dC dI cT cL) (V : INV s A ed dC dI cT cL x ou am cf ad E EM f H locs) (hpost : ∀ r u, post r u → IX cT shM spM 72 am u ∧ DIr (xi (u 55)) (xi (u 54))) (hr : va_Run p l e R s m args below meth c H locs cells slots 0 0 (F0 m pc ls st0) rest (va_Qi (S := Nat → va_E) post (HB dC dI 72 am) (va_A (WX 72 am EM) H.size) a) (va_A (WX 72 am EM) H.size))
    (kk : ∀ (r : Int32) (u : Nat → va_E) (H1 : Heap) (locs1 : List Loc), post r u → INV s A ed dC dI cT cL x ou am cf ad E u f H1 locs1 → W p l e R s m args below meth c H1 locs1 cells slots Q (F0 m (pc + 3) ls (.int r :: rest))) : W p l e R s m args below meth c H locs cells slots Q (F0 m pc ls st0) :=
  lcall (W1 := WX 72 am EM) (W2 := WL (LC cf) ad E ++ [(ou, .inl (cL, 1, .inr (.inl f)))]) (fun u => WX 72 am u) (fun u t h => ⟨h, WX_same V.dm WX_self⟩) hr V.hS F.hA (va_P_perm V.hP (WWd_m EM).symm) (va_D_perm V.hD (WWd_m EM).symm) (fun r u H1 locs1 hw hP hD hS => kk r u H1 locs1 hw ⟨V.hed, V.hC, V.hI, (hpost r u hw).1, (hpost r u hw).2, va_P_perm hP (WWd_m u), va_D_perm hD (WWd_m u), hS, V.hx⟩)
set_option maxRecDepth 100000 in
/-- the law's own told -/
theorem lT {post : Int32 → (Nat → Int64) → Prop} {a : Array Value} (F : FX l s A ed dC dI cT cL) (V : INV s A ed dC dI cT cL x ou am cf ad E EM f H locs) (hr : va_Run p l e R s m args below meth c H locs cells slots mc ms (F0 m pc ls st0) rest (va_Qi (S := Nat → Int64) post (fun f' t => va_P (dC, dI) vwCl ((ou, .inl (cL, 1, .inr (.inl f'))) :: WL (LC cf) ad E) t.heap ∧ va_D (va_A ((ou, .inl (cL, 1, .inr (.inl f))) :: WL (LC cf) ad E) H.size) ((ou, .inl (cL, 1, .inr (.inl f'))) :: WL (LC cf) ad E)) (va_A ((ou, .inl (cL, 1, .inr (.inl f))) :: WL (LC cf) ad E) H.size) a) (va_A ((ou, .inl (cL, 1, .inr (.inl f))) :: WL (LC cf) ad E) H.size))
    (kk : ∀ (r : Int32) (f' : Nat → Int64) (H1 : Heap) (locs1 : List Loc), post r f' → INV s A ed dC dI cT cL x ou am cf ad E EM f' H1 locs1 → W p l e R s m args below meth c H1 locs1 (cells + mc) (slots + ms) Q (F0 m (pc + 3) ls (.int r :: rest))) : W p l e R s m args below meth c H locs cells slots Q (F0 m pc ls st0) := by
  exact lcall (W1 := (ou, .inl (cL, 1, .inr (.inl f))) :: WL (LC cf) ad E) (W2 := WX 72 am EM) (fun f' => (ou, .inl (cL, 1, .inr (.inl f'))) :: WL (LC cf) ad E) (fun u t h => h) hr V.hS F.hA (va_P_perm V.hP (WWd_t f)) (va_D_perm V.hD (WWd_t f)) (fun r f' H1 locs1 hw hP hD hS => kk r f' H1 locs1 hw ⟨V.hed, V.hC, V.hI, V.hM, V.hDI, va_P_perm hP (WWd_t f').symm, va_D_perm hD (WWd_t f').symm, hS, V.hx⟩)
theorem INV.pt (V : INV s A ed dC dI cT cL x ou am cf ad E EM f H locs) : va_P (dC, dI) vwCl ((ou, .inl (cL, 1, .inr (.inl f))) :: WL (LC cf) ad E) H := va_P_sub V.hP fun z h => by
  rcases List.mem_cons.mp h with rfl | h
  · exact List.mem_append_right _ (List.mem_append_right _ (List.mem_singleton.mpr rfl))
  · exact List.mem_append_left _ h
theorem INV.dt (V : INV s A ed dC dI cT cL x ou am cf ad E EM f H locs) : va_D A ((ou, .inl (cL, 1, .inr (.inl f))) :: WL (LC cf) ad E) := va_D_left (va_D_perm V.hD (WWd_t f))
end INVS
/-- what the two hold alike -/
def CNT (cf : Nat → Nat) (EM : Nat → va_E) : Prop := (xi (EM 0) 9).toInt = ((cf 0 : Nat) : Int) ∧ (xi (EM 0) 46).toInt = ((cf 2 : Nat) : Int) ∧ (xi (EM 0) 47).toInt = ((cf 3 : Nat) : Int) ∧ (xi (EM 0) 74).toInt = ((cf 4 : Nat) : Int) ∧ (xi (EM 0) 75).toInt = ((cf 5 : Nat) : Int)
def EN (cf : Nat → Nat) (E EM : Nat → va_E) : Prop := ∀ i b : Nat, i < cf 2 → b < 16 → (xi (E (64 * (i + 1) + 7)) b = -1 ∧ xi (EM 21) (16 * i + b) = 1000) ∨ xi (E (64 * (i + 1) + 7)) b = xi (EM 21) (16 * i + b)
theorem EN.k {cf cf' : Nat → Nat} {E E' EM : Nat → va_E} (h : EN cf E EM) (hc : cf' 2 = cf 2) (hk : ∀ i j, i < cf 2 → xi (E' (64 * (i + 1) + 7)) j = xi (E (64 * (i + 1) + 7)) j) : EN cf' E' EM := fun i b hi hb => by
  rw [hc] at hi
  rw [hk i b hi]
  exact h i b hi hb
theorem EN.m {cf : Nat → Nat} {E EM EM' : Nat → va_E} (h : EN cf E EM) (hk : ∀ j, xi (EM' 21) j = xi (EM 21) j) : EN cf E EM' := fun i b hi hb => by
  rw [hk]
  exact h i b hi hb
theorem CNT.k {cf cf' : Nat → Nat} {EM : Nat → va_E} (h : CNT cf EM) (h0 : cf' 0 = cf 0) (h2 : cf' 2 = cf 2) (h3 : cf' 3 = cf 3) (h4 : cf' 4 = cf 4) (h5 : cf' 5 = cf 5) : CNT cf' EM := by
  unfold CNT
  rw [h0, h2, h3, h4, h5]
  exact h
theorem xik {w : Nat → Nat → Bool} {E E' : Nat → va_E} (hk : Kp w E E') {o j : Nat} (h : w o j = false) : xi (E' o) j = xi (E o) j := congrArg vi (hk o j h)
theorem CNT.m {cf : Nat → Nat} {EM EM' : Nat → va_E} {w : Nat → Nat → Bool} (h : CNT cf EM) (hk : Kp w EM EM') (hs : ∀ j ∈ [9, 46, 47, 74, 75], w 0 j = false) : CNT cf EM' := by
  unfold CNT
  rw [xik hk (hs 9 (by decide)), xik hk (hs 46 (by decide)), xik hk (hs 47 (by decide)), xik hk (hs 74 (by decide)), xik hk (hs 75 (by decide))]
  exact h
theorem made_c {J : Nat} {cT : Nat → ClassId} {cf ad : Nat → Nat} {w : Nat → Nat → Bool} {E : Nat → va_E} {u : (Nat → Nat) × (Nat → Nat) × (Nat → va_E)} {No : Prop} {Yes : va_E → Prop} (h : Made J cT cf ad w E u No Yes) : ∀ j, j < 6 → j ≠ J → u.1 j = cf j := by
  obtain ⟨h1, h2, ⟨h3, h4, h5, -⟩ | ⟨h3, h4, h5, -⟩⟩ := h
  · exact fun j _ _ => congrFun h3 j
  · exact fun j hj hn => h3.2.1 j hj hn
theorem madeX_c {J : Nat} {cT : Nat → ClassId} {cf ad : Nat → Nat} {w : Nat → Nat → Bool} {E : Nat → va_E} {u : (Nat → Nat) × (Nat → Nat) × (Nat → va_E)} {No : Prop} {Yes : (Nat → Nat) × (Nat → Nat) × (Nat → va_E) → Prop} (h : MadeX J cT cf ad w E u No Yes) : ∀ j, j < 6 → j ≠ J → u.1 j = cf j := by
  obtain ⟨h1, h2, ⟨h3, h4, h5, -⟩ | ⟨h3, h4, h5, -⟩⟩ := h
  · exact fun j _ _ => congrFun h3 j
  · exact fun j hj hn => h3.2.1 j hj hn
/-- who is entered, on both sides -/
theorem pen {cT : Nat → ClassId} {cf am : Nat → Nat} {E EM : Nat → va_E} {n : Int} (h : EN cf E EM) (hM : IX cT shM spM 72 am EM) (hn : 0 ≤ n ∧ n ≤ 400) (hc : cf 2 ≤ 20) (a b : Int32) (ha : 0 ≤ a.toInt ∧ a.toInt < ((cf 2 : Nat) : Int)) (hb : 0 ≤ b.toInt ∧ b.toInt < 16) : (¬ (xi (E (64 * (a.toNatClampNeg + 1) + 7)) b.toNatClampNeg).toInt = -1 ∧ (xi (E (64 * (a.toNatClampNeg + 1) + 7)) b.toNatClampNeg).toInt ≤ n) ↔ (xi (EM 21) (16 * a.toInt + b.toInt).toNat).toInt ≤ n := by
  have h1 := h a.toNatClampNeg b.toNatClampNeg (by rw [tn_]; omega) (by rw [tn_]; omega)
  have e2 : 16 * a.toNatClampNeg + b.toNatClampNeg = (16 * a.toInt + b.toInt).toNat := by rw [tn_, tn_]; omega
  rw [e2] at h1
  have hf : (0 : Int) ≤ (xi (EM 21) (16 * a.toInt + b.toInt).toNat).toInt ∧ (xi (EM 21) (16 * a.toInt + b.toInt).toNat).toInt ≤ 1000 := hM.iv 21 (Nat.le_of_ble_eq_true rfl) (t := 1) (c := 0) (nf := 320) rfl (show (16 * a.toInt + b.toInt).toNat < 320 by omega) rfl
  rcases h1 with ⟨h1, h2⟩ | h1
  · rw [h1, h2]
    have l1 : (-1 : Int32).toInt = -1 := rfl
    have l2 : (1000 : Int32).toInt = 1000 := rfl
    constructor
    · intro h3; exact absurd l1 h3.1
    · intro h3; omega
  · rw [h1]
    constructor
    · intro h3; exact h3.2
    · intro h3; exact ⟨by omega, h3⟩
/-- an entry told on both sides -/
theorem EN.up {cf : Nat → Nat} {E E' EM EM' : Nat → va_E} {a b x y : Int32} (h : EN cf E EM) (hxy : x = y) (ha : 0 ≤ a.toInt) (hb : 0 ≤ b.toInt ∧ b.toInt < 16) (hk : ∀ i j, i ≠ a.toNatClampNeg → xv (E' (64 * (i + 1) + 7)) j = xv (E (64 * (i + 1) + 7)) j) (h1 : xi (E' (64 * (a.toNatClampNeg + 1) + 7)) = upd (xi (E (64 * (a.toNatClampNeg + 1) + 7))) b.toNatClampNeg x) (h2 : xi (EM' 21) = upd (xi (EM 21)) (16 * a.toInt + b.toInt).toNat y) : EN cf E' EM' := fun i j hi hj => by
  have hne : ∀ (g : Nat → Int32) (k q : Nat) (v : Int32), q ≠ k → upd g k v q = g q := fun g k q v hq => if_neg hq
  by_cases hi2 : i = a.toNatClampNeg
  · by_cases hj2 : j = b.toNatClampNeg
    · subst hi2; subst hj2
      have e2 : 16 * a.toNatClampNeg + b.toNatClampNeg = (16 * a.toInt + b.toInt).toNat := by rw [tn_, tn_]; omega
      refine Or.inr ?_
      rw [h1, h2, e2, pk_us, pk_us]
      exact hxy
    · subst hi2
      have e2 : 16 * a.toNatClampNeg + j ≠ (16 * a.toInt + b.toInt).toNat := by rw [tn_] at hj2 ⊢; omega
      rw [h1, h2, hne _ _ _ _ hj2, hne _ _ _ _ e2]
      exact h _ j hi hj
  · have e1 : xi (E' (64 * (i + 1) + 7)) j = xi (E (64 * (i + 1) + 7)) j := congrArg vi (hk i j hi2)
    have e2 : 16 * i + j ≠ (16 * a.toInt + b.toInt).toNat := by rw [tn_] at hi2; omega
    rw [e1, h2, hne _ _ _ _ e2]
    exact h i j hi hj
theorem DIr_kp {w : Nat → Nat → Bool} {E E' : Nat → va_E} (hk : Kp w E E') (h4 : ∀ j, w 54 j = false) (h5 : ∀ j, w 55 j = false) (h : DIr (xi (E 55)) (xi (E 54))) : DIr (xi (E' 55)) (xi (E' 54)) := by
  rw [hk.ef 54 h4, hk.ef 55 h5]
  exact h
theorem made_o {J : Nat} {cT : Nat → ClassId} {cf ad : Nat → Nat} {w : Nat → Nat → Bool} {E : Nat → va_E} {u : (Nat → Nat) × (Nat → Nat) × (Nat → va_E)} {No : Prop} {Yes : va_E → Prop} (h : Made J cT cf ad w E u No Yes) : (CF u.1 ∧ IXL cT (shC u.1) (spC u.1) (LC u.1) u.2.1 u.2.2 ∧ u.1 6 = cf 6 ∧ u.2.1 0 = ad 0) ∧ ∀ j, w 1 j = false → xv (u.2.2 1) j = xv (E 1) j := by
  obtain ⟨h1, h2, ⟨h3, h4, h5, -⟩ | ⟨h3, h4, h5, -⟩⟩ := h
  · exact ⟨⟨h1, h2, by rw [h3], by rw [h4]⟩, fun j hj => h5 1 j hj⟩
  · exact ⟨⟨h1, h2, h3.2.2.1, h4 0 (by omega) (fun t _ _ => by omega)⟩, fun j hj => h5 1 j (by omega) (by omega) (fun t _ _ => by omega) hj⟩
theorem madeX_o {J : Nat} {cT : Nat → ClassId} {cf ad : Nat → Nat} {w : Nat → Nat → Bool} {E : Nat → va_E} {u : (Nat → Nat) × (Nat → Nat) × (Nat → va_E)} {No : Prop} {Yes : (Nat → Nat) × (Nat → Nat) × (Nat → va_E) → Prop} (h : MadeX J cT cf ad w E u No Yes) : (CF u.1 ∧ IXL cT (shC u.1) (spC u.1) (LC u.1) u.2.1 u.2.2 ∧ u.1 6 = cf 6 ∧ u.2.1 0 = ad 0) ∧ ∀ j, w 1 j = false → xv (u.2.2 1) j = xv (E 1) j := by
  obtain ⟨h1, h2, ⟨h3, h4, h5, -⟩ | ⟨h3, h4, h5, -⟩⟩ := h
  · exact ⟨⟨h1, h2, by rw [h3], by rw [h4]⟩, fun j hj => h5 1 j hj⟩
  · exact ⟨⟨h1, h2, h3.2.2.1, h4 0 (by omega) (fun t _ _ => by omega)⟩, fun j hj => h5 1 j (by omega) (by omega) (fun t _ _ => by omega) hj⟩
/-! ===== all that was told, on both sides ===== -/
/-- tables: (cell, slot, row) -/
def tb0 : List (Nat × Nat × Nat) := [(0, 0, 1), (0, 1, 2), (0, 3, 3), (0, 4, 4), (0, 5, 5), (0, 2, 6)]
def tb2 : List (Nat × Nat × Nat) := [(6, 0, 20), (6, 1, 13), (6, 2, 14), (6, 3, 15), (6, 4, 16), (6, 5, 17), (6, 6, 18)]
def tb3 : List (Nat × Nat × Nat) := [(12, 0, 24), (12, 1, 25), (12, 2, 26), (12, 3, 27), (12, 4, 28)]
def tb4 : List (Nat × Nat × Nat) := [(13, 0, 38), (13, 1, 39), (13, 2, 45), (13, 3, 40), (13, 4, 41), (13, 5, 42), (13, 6, 43), (13, 7, 44)]
def tb5 : List (Nat × Nat × Nat) := [(14, 0, 46), (14, 1, 47), (14, 2, 48), (14, 3, 49), (14, 4, 50)]
def TBj (n : Nat) (l : List (Nat × Nat × Nat)) (E EM : Nat → va_E) : Prop := ∀ q ∈ l, ∀ i, i < n → xi (E (64 * (i + 1) + q.1)) q.2.1 = xi (EM q.2.2) i
theorem TBj.kc {n n' : Nat} {l : List (Nat × Nat × Nat)} {E E' EM : Nat → va_E} (h : TBj n l E EM) (hn : n' = n) (hk : ∀ q ∈ l, ∀ i, i < n → xi (E' (64 * (i + 1) + q.1)) q.2.1 = xi (E (64 * (i + 1) + q.1)) q.2.1) : TBj n' l E' EM := fun q hq i hi => by
  subst hn
  rw [hk q hq i hi]
  exact h q hq i hi
theorem TBj.km {n : Nat} {l : List (Nat × Nat × Nat)} {E EM EM' : Nat → va_E} (h : TBj n l E EM) (hk : ∀ q ∈ l, ∀ j, xi (EM' q.2.2) j = xi (EM q.2.2) j) : TBj n l E EM' := fun q hq i hi => by
  rw [hk q hq i]
  exact h q hq i hi
theorem TBj.push {n : Nat} {l : List (Nat × Nat × Nat)} {E E' EM EM' : Nat → va_E} (h : TBj n l E EM) (hk : ∀ q ∈ l, ∀ i, i < n → xi (E' (64 * (i + 1) + q.1)) q.2.1 = xi (E (64 * (i + 1) + q.1)) q.2.1) (hm : ∀ q ∈ l, ∀ i, i < n → xi (EM' q.2.2) i = xi (EM q.2.2) i) (hn : ∀ q ∈ l, xi (E' (64 * (n + 1) + q.1)) q.2.1 = xi (EM' q.2.2) n) : TBj (n + 1) l E' EM' := fun q hq i hi => by
  by_cases e : i = n
  · subst e
    exact hn q hq
  · rw [hk q hq i (by omega), hm q hq i (by omega)]
    exact h q hq i (by omega)
/-- told up to NOW: (cell, slot) -/
def TNj (n : Nat) (l : List (Nat × Nat)) (E : Nat → va_E) : Prop := ∀ q ∈ l, ∀ i, i < n → (xi (E (64 * (i + 1) + q.1)) q.2).toInt ≤ (xi (E 1) 0).toInt
theorem TNj.kc {n n' : Nat} {l : List (Nat × Nat)} {E E' : Nat → va_E} (h : TNj n l E) (hn : n' = n) (h0 : (xi (E 1) 0).toInt ≤ (xi (E' 1) 0).toInt) (hk : ∀ q ∈ l, ∀ i, i < n → xi (E' (64 * (i + 1) + q.1)) q.2 = xi (E (64 * (i + 1) + q.1)) q.2) : TNj n' l E' := fun q hq i hi => by
  subst hn
  rw [hk q hq i hi]
  exact Int.le_trans (h q hq i hi) h0
theorem TNj.push {n : Nat} {l : List (Nat × Nat)} {E E' : Nat → va_E} (h : TNj n l E) (h0 : (xi (E 1) 0).toInt ≤ (xi (E' 1) 0).toInt) (hk : ∀ q ∈ l, ∀ i, i < n → xi (E' (64 * (i + 1) + q.1)) q.2 = xi (E (64 * (i + 1) + q.1)) q.2) (hn : ∀ q ∈ l, (xi (E' (64 * (n + 1) + q.1)) q.2).toInt ≤ (xi (E' 1) 0).toInt) : TNj (n + 1) l E' := fun q hq i hi => by
  by_cases e : i = n
  · subst e
    exact hn q hq
  · rw [hk q hq i (by omega)]
    exact Int.le_trans (h q hq i (by omega)) h0
/-- who stands for a BOAT in a RACE was entered by then: (cell, race, boat, told) -/
def ERj (n nr : Nat) (l : List (Nat × Nat × Nat × Nat)) (E : Nat → va_E) : Prop := ∀ q ∈ l, ∀ i, i < n → (xi (E (64 * (i + 1) + q.1)) q.2.1).toNatClampNeg < nr ∧ 0 ≤ (xi (E (64 * (i + 1) + q.1)) q.2.1).toInt ∧ 0 ≤ (xi (E (64 * (i + 1) + q.1)) q.2.2.1).toInt ∧ (xi (E (64 * (i + 1) + q.1)) q.2.2.1).toInt < 16 ∧ ¬ (xi (E (64 * ((xi (E (64 * (i + 1) + q.1)) q.2.1).toNatClampNeg + 1) + 7)) (xi (E (64 * (i + 1) + q.1)) q.2.2.1).toNatClampNeg).toInt = -1 ∧ (xi (E (64 * ((xi (E (64 * (i + 1) + q.1)) q.2.1).toNatClampNeg + 1) + 7)) (xi (E (64 * (i + 1) + q.1)) q.2.2.1).toNatClampNeg).toInt ≤ (xi (E (64 * (i + 1) + q.1)) q.2.2.2).toInt
/-- entries told stay -/
def ENst (nr : Nat) (E E' : Nat → va_E) : Prop := ∀ i b, i < nr → b < 16 → ¬ (xi (E (64 * (i + 1) + 7)) b).toInt = -1 → xi (E' (64 * (i + 1) + 7)) b = xi (E (64 * (i + 1) + 7)) b
theorem ENst.of {nr : Nat} {E E' : Nat → va_E} (h : ∀ i j, i < nr → xi (E' (64 * (i + 1) + 7)) j = xi (E (64 * (i + 1) + 7)) j) : ENst nr E E' := fun i b hi _ _ => h i b hi
theorem ERj.kc {n n' nr nr' : Nat} {l : List (Nat × Nat × Nat × Nat)} {E E' : Nat → va_E} (h : ERj n nr l E) (hn : n' = n) (hr : nr ≤ nr') (he : ENst nr E E') (hk : ∀ q ∈ l, ∀ j ∈ [q.2.1, q.2.2.1, q.2.2.2], ∀ i, i < n → xi (E' (64 * (i + 1) + q.1)) j = xi (E (64 * (i + 1) + q.1)) j) : ERj n' nr' l E' := fun q hq i hi => by
  subst hn
  obtain ⟨h1, h2, h3, h4, h5, h6⟩ := h q hq i hi
  rw [hk q hq q.2.1 (by simp) i hi, hk q hq q.2.2.1 (by simp) i hi, hk q hq q.2.2.2 (by simp) i hi, he _ _ h1 (by rw [tn_]; omega) h5]
  exact ⟨by omega, h2, h3, h4, h5, h6⟩
theorem ERj.push {n nr nr' : Nat} {l : List (Nat × Nat × Nat × Nat)} {E E' : Nat → va_E} (h : ERj n nr l E) (hr : nr ≤ nr') (he : ENst nr E E') (hk : ∀ q ∈ l, ∀ j ∈ [q.2.1, q.2.2.1, q.2.2.2], ∀ i, i < n → xi (E' (64 * (i + 1) + q.1)) j = xi (E (64 * (i + 1) + q.1)) j) (hnew : ∀ q ∈ l, ∃ r b t : Int32, xi (E' (64 * (n + 1) + q.1)) q.2.1 = r ∧ xi (E' (64 * (n + 1) + q.1)) q.2.2.1 = b ∧ xi (E' (64 * (n + 1) + q.1)) q.2.2.2 = t ∧ (0 ≤ r.toInt ∧ r.toInt < (nr' : Int)) ∧ (0 ≤ b.toInt ∧ b.toInt < 16) ∧ ¬ (xi (E' (64 * (r.toNatClampNeg + 1) + 7)) b.toNatClampNeg).toInt = -1 ∧ (xi (E' (64 * (r.toNatClampNeg + 1) + 7)) b.toNatClampNeg).toInt ≤ t.toInt) : ERj (n + 1) nr' l E' := fun q hq i hi => by
  by_cases e : i = n
  · subst e
    obtain ⟨r, b, t, e1, e2, e3, h1, h2, h3, h4⟩ := hnew q hq
    rw [e1, e2, e3]
    exact ⟨by rw [tn_]; omega, h1.1, h2.1, h2.2, h3, h4⟩
  · exact ERj.kc (n' := n) h rfl hr he hk q hq i (by omega)
/-- entries: within their RACE's day and NOW, of a BOAT -/
def EB (cf : Nat → Nat) (E : Nat → va_E) : Prop := ∀ i b, i < cf 2 → b < 16 → (xi (E (64 * (i + 1) + 7)) b).toInt = -1 ∨ ((xi (E (64 * (i + 1) + 6)) 0).toInt ≤ (xi (E (64 * (i + 1) + 7)) b).toInt ∧ (xi (E (64 * (i + 1) + 7)) b).toInt ≤ (xi (E 1) 0).toInt ∧ (b : Int) < (xi (E 1) 1).toInt)
theorem EB.kc {cf cf' : Nat → Nat} {E E' : Nat → va_E} (h : EB cf E) (h2 : cf' 2 = cf 2) (h0 : (xi (E 1) 0).toInt ≤ (xi (E' 1) 0).toInt) (h1 : (xi (E 1) 1).toInt ≤ (xi (E' 1) 1).toInt) (h6 : ∀ i, i < cf 2 → xi (E' (64 * (i + 1) + 6)) 0 = xi (E (64 * (i + 1) + 6)) 0) (h7 : ∀ i j, i < cf 2 → xi (E' (64 * (i + 1) + 7)) j = xi (E (64 * (i + 1) + 7)) j) : EB cf' E' := fun i b hi hb => by
  rw [h2] at hi
  rw [h6 i hi, h7 i b hi]
  have := h i b hi hb
  omega
/-- REDRESS -/
def RD (cf : Nat → Nat) (E EM : Nat → va_E) : Prop := ∀ i b : Nat, i < cf 2 → b < 16 → (∀ k : Nat, (k : Int) < (xi (EM 0) 48).toInt → (xi (EM 29) k).toInt = (i : Int) → (xi (EM 30) k).toInt = (b : Int) → (xi (EM 31) k).toInt = (xi (E (64 * (i + 1) + 8)) b).toInt) ∧ (¬ (xi (E (64 * (i + 1) + 8)) b).toInt = -1 → (∃ k : Nat, (k : Int) < (xi (EM 0) 48).toInt ∧ (xi (EM 29) k).toInt = (i : Int) ∧ (xi (EM 30) k).toInt = (b : Int)) ∧ (xi (E (64 * (i + 1) + 8)) b).toInt ≤ (xi (E 1) 0).toInt)
theorem RD.kc {cf cf' : Nat → Nat} {E E' EM : Nat → va_E} (h : RD cf E EM) (h2 : cf' 2 = cf 2) (h0 : (xi (E 1) 0).toInt ≤ (xi (E' 1) 0).toInt) (h8 : ∀ i j, i < cf 2 → xi (E' (64 * (i + 1) + 8)) j = xi (E (64 * (i + 1) + 8)) j) : RD cf' E' EM := fun i b hi hb => by
  rw [h2] at hi
  rw [h8 i b hi]
  obtain ⟨k1, k2⟩ := h i b hi hb
  exact ⟨k1, fun hh => ⟨(k2 hh).1, Int.le_trans (k2 hh).2 h0⟩⟩
theorem RD.km {cf : Nat → Nat} {E EM EM' : Nat → va_E} (h : RD cf E EM) (hs : xi (EM' 0) 48 = xi (EM 0) 48) (h1 : ∀ j, xi (EM' 29) j = xi (EM 29) j) (h2 : ∀ j, xi (EM' 30) j = xi (EM 30) j) (h3 : ∀ j, xi (EM' 31) j = xi (EM 31) j) : RD cf E EM' := by
  have e1 : xi (EM' 29) = xi (EM 29) := funext h1
  have e2 : xi (EM' 30) = xi (EM 30) := funext h2
  have e3 : xi (EM' 31) = xi (EM 31) := funext h3
  intro i b hi hb
  rw [hs, e1, e2, e3]
  exact h i b hi hb
theorem RD.up {cf : Nat → Nat} {E E' EM EM' : Nat → va_E} {a b n x y : Int32} (h : RD cf E EM) (hc : cf 2 ≤ 20) (ha : 0 ≤ a.toInt) (hb : 0 ≤ b.toInt ∧ b.toInt < 16) (h0 : xi (E' 1) 0 = xi (E 1) 0) (hx : x = xi (E 1) 0) (hy : y = x) (hx0 : 0 ≤ x.toInt) (hn : n = xi (EM 0) 48) (hn0 : 0 ≤ n.toInt) (hk : ∀ i j, i ≠ a.toNatClampNeg → xi (E' (64 * (i + 1) + 8)) j = xi (E (64 * (i + 1) + 8)) j) (h8 : xi (E' (64 * (a.toNatClampNeg + 1) + 8)) = upd (xi (E (64 * (a.toNatClampNeg + 1) + 8))) b.toNatClampNeg x) (hs : (xi (EM' 0) 48).toInt = n.toInt + 1)
    (h1 : xi (EM' 29) = upd (xi (EM 29)) n.toNatClampNeg a) (h2 : xi (EM' 30) = upd (xi (EM 30)) n.toNatClampNeg b) (h3 : xi (EM' 31) = upd (xi (EM 31)) n.toNatClampNeg y) (hnew : ∀ k : Nat, (k : Int) < n.toInt → ¬ ((xi (EM 29) k).toInt = a.toInt ∧ (xi (EM 30) k).toInt = b.toInt)) : RD cf E' EM' := by
  have hne : ∀ (g : Nat → Int32) (k q : Nat) (v : Int32), q ≠ k → upd g k v q = g q := fun g k q v hq => if_neg hq
  intro i j hi hj
  by_cases hij : i = a.toNatClampNeg ∧ j = b.toNatClampNeg
  · obtain ⟨rfl, rfl⟩ := hij
    rw [h8, pk_us, hs]
    refine ⟨fun k q1 q2 q3 => ?_, fun _ => ⟨⟨n.toNatClampNeg, by rw [tn_]; omega, by rw [h1, pk_us, tn_]; omega, by rw [h2, pk_us, tn_]; omega⟩, by rw [h0, hx]; exact Int.le_refl _⟩⟩
    by_cases hkn : k = n.toNatClampNeg
    · subst hkn
      rw [h3, pk_us, hy]
    · exfalso
      rw [h1, hne _ _ _ _ hkn] at q2
      rw [h2, hne _ _ _ _ hkn] at q3
      exact hnew k (by rw [tn_] at hkn; omega) ⟨by rw [q2, tn_]; omega, by rw [q3, tn_]; omega⟩
  · have e8 : xi (E' (64 * (i + 1) + 8)) j = xi (E (64 * (i + 1) + 8)) j := by
      by_cases ei : i = a.toNatClampNeg
      · subst ei
        rw [h8, hne _ _ _ _ (fun e => hij ⟨rfl, e⟩)]
      · exact hk i j ei
    obtain ⟨k1, k2⟩ := h i j hi hj
    rw [e8, hs, h0]
    refine ⟨fun k q1 q2 q3 => ?_, fun q => ⟨?_, (k2 q).2⟩⟩
    · by_cases hkn : k = n.toNatClampNeg
      · exfalso
        subst hkn
        rw [h1, pk_us] at q2
        rw [h2, pk_us] at q3
        exact hij ⟨by rw [tn_]; omega, by rw [tn_]; omega⟩
      · rw [h1, hne _ _ _ _ hkn] at q2
        rw [h2, hne _ _ _ _ hkn] at q3
        rw [h3, hne _ _ _ _ hkn]
        exact k1 k (by rw [← hn]; rw [tn_] at hkn; omega) q2 q3
    · obtain ⟨k, q1, q2, q3⟩ := (k2 q).1
      rw [← hn] at q1
      have hkn : k ≠ n.toNatClampNeg := by rw [tn_]; omega
      exact ⟨k, by omega, by rw [h1, hne _ _ _ _ hkn]; exact q2, by rw [h2, hne _ _ _ _ hkn]; exact q3⟩
/-- STARTS -/
def ST (cf : Nat → Nat) (E EM : Nat → va_E) : Prop := ∀ i b : Nat, i < cf 2 → b < 16 → xi (E (64 * (i + 1) + 9)) b = xi (EM 22) (16 * i + b) ∧ (¬ (xi (E (64 * (i + 1) + 9)) b).toInt = -1 → xi (E (64 * (i + 1) + 10)) b = xi (EM 23) (16 * i + b) ∧ (b : Int) < (xi (E 1) 1).toInt)
theorem ST.kc {cf cf' : Nat → Nat} {E E' EM : Nat → va_E} (h : ST cf E EM) (h2 : cf' 2 = cf 2) (h1 : (xi (E 1) 1).toInt ≤ (xi (E' 1) 1).toInt) (h9 : ∀ i j, i < cf 2 → xi (E' (64 * (i + 1) + 9)) j = xi (E (64 * (i + 1) + 9)) j) (h10 : ∀ i j, i < cf 2 → xi (E' (64 * (i + 1) + 10)) j = xi (E (64 * (i + 1) + 10)) j) : ST cf' E' EM := fun i b hi hb => by
  rw [h2] at hi
  rw [h9 i b hi, h10 i b hi]
  obtain ⟨k1, k2⟩ := h i b hi hb
  exact ⟨k1, fun q => ⟨(k2 q).1, Int.lt_of_lt_of_le (k2 q).2 h1⟩⟩
theorem ST.km {cf : Nat → Nat} {E EM EM' : Nat → va_E} (h : ST cf E EM) (h1 : ∀ j, xi (EM' 22) j = xi (EM 22) j) (h2 : ∀ j, xi (EM' 23) j = xi (EM 23) j) : ST cf E EM' := fun i b hi hb => by
  rw [h1, h2]
  exact h i b hi hb
theorem ST.up {cf : Nat → Nat} {E E' EM EM' : Nat → va_E} {a b x y : Int32} (h : ST cf E EM) (ha : 0 ≤ a.toInt) (hb : 0 ≤ b.toInt ∧ b.toInt < 16) (hbb : b.toInt < (xi (E 1) 1).toInt) (h0 : xi (E' 1) 1 = xi (E 1) 1) (hk : ∀ i j, i ≠ a.toNatClampNeg → xi (E' (64 * (i + 1) + 9)) j = xi (E (64 * (i + 1) + 9)) j ∧ xi (E' (64 * (i + 1) + 10)) j = xi (E (64 * (i + 1) + 10)) j) (h9 : xi (E' (64 * (a.toNatClampNeg + 1) + 9)) = upd (xi (E (64 * (a.toNatClampNeg + 1) + 9))) b.toNatClampNeg x) (h10 : xi (E' (64 * (a.toNatClampNeg + 1) + 10)) = upd (xi (E (64 * (a.toNatClampNeg + 1) + 10))) b.toNatClampNeg y) (h1 : xi (EM' 22) = upd (xi (EM 22)) (16 * a.toInt + b.toInt).toNat x) (h2 : xi (EM' 23) = upd (xi (EM 23)) (16 * a.toInt + b.toInt).toNat y) : ST cf E' EM' := by
  have hne : ∀ (g : Nat → Int32) (k q : Nat) (v : Int32), q ≠ k → upd g k v q = g q := fun g k q v hq => if_neg hq
  intro i j hi hj
  have e2 : 16 * a.toNatClampNeg + b.toNatClampNeg = (16 * a.toInt + b.toInt).toNat := by rw [tn_, tn_]; omega
  by_cases hij : i = a.toNatClampNeg ∧ j = b.toNatClampNeg
  · obtain ⟨rfl, rfl⟩ := hij
    rw [h9, h10, h1, h2, e2, pk_us, pk_us, pk_us, pk_us, h0]
    exact ⟨rfl, fun _ => ⟨rfl, by rw [tn_]; omega⟩⟩
  · have e3 : 16 * i + j ≠ (16 * a.toInt + b.toInt).toNat := by
      intro e
      rw [tn_, tn_] at hij
      omega
    have e8 : xi (E' (64 * (i + 1) + 9)) j = xi (E (64 * (i + 1) + 9)) j ∧ xi (E' (64 * (i + 1) + 10)) j = xi (E (64 * (i + 1) + 10)) j := by
      by_cases ei : i = a.toNatClampNeg
      · subst ei
        rw [h9, h10, hne _ _ _ _ (fun e => hij ⟨rfl, e⟩), hne _ _ _ _ (fun e => hij ⟨rfl, e⟩)]
        exact ⟨rfl, rfl⟩
      · exact hk i j ei
    rw [e8.1, e8.2, h1, h2, hne _ _ _ _ e3, hne _ _ _ _ e3, h0]
    exact h i j hi hj
/-- SWIFT as known NOW -/
def SW (cf : Nat → Nat) (E EM : Nat → va_E) : Prop := ∀ i : Nat, i < cf 2 → (∃ d : Nat, (xi (E (64 * (i + 1) + 6)) 0).toInt ≤ (d : Int) ∧ (d : Int) ≤ (xi (E 1) 0).toInt ∧ ¬ (xi (E (64 * (i + 1) + 11)) d).toInt = 0 ∧ (xi (E (64 * (i + 1) + 11)) d).toInt = (xi (EM 19) i).toInt ∧ ∀ d' : Nat, d < d' → d' < 401 → (xi (E (64 * (i + 1) + 11)) d').toInt = 0) ∨ ((xi (EM 19) i).toInt = 2 ∧ ∀ d' : Nat, d' < 401 → (xi (E (64 * (i + 1) + 11)) d').toInt = 0)
theorem SW.kc {cf cf' : Nat → Nat} {E E' EM : Nat → va_E} (h : SW cf E EM) (h2 : cf' 2 = cf 2) (h0 : (xi (E 1) 0).toInt ≤ (xi (E' 1) 0).toInt) (h6 : ∀ i, i < cf 2 → xi (E' (64 * (i + 1) + 6)) 0 = xi (E (64 * (i + 1) + 6)) 0) (h11 : ∀ i j, i < cf 2 → xi (E' (64 * (i + 1) + 11)) j = xi (E (64 * (i + 1) + 11)) j) : SW cf' E' EM := fun i hi => by
  rw [h2] at hi
  have e : xi (E' (64 * (i + 1) + 11)) = xi (E (64 * (i + 1) + 11)) := funext (fun j => h11 i j hi)
  rw [h6 i hi, e]
  rcases h i hi with ⟨d, a1, a2, a3⟩ | a
  · exact Or.inl ⟨d, a1, Int.le_trans a2 h0, a3⟩
  · exact Or.inr a
theorem SW.km {cf : Nat → Nat} {E EM EM' : Nat → va_E} (h : SW cf E EM) (h1 : ∀ j, xi (EM' 19) j = xi (EM 19) j) : SW cf E EM' := fun i hi => by
  rw [h1]
  exact h i hi
theorem SW.up {cf : Nat → Nat} {E E' EM EM' : Nat → va_E} {a x : Int32} (h : SW cf E EM) (ha : 0 ≤ a.toInt) (hn : 0 ≤ (xi (E 1) 0).toInt ∧ (xi (E 1) 0).toInt ≤ 400) (h0 : xi (E' 1) 0 = xi (E 1) 0) (hx : ¬ x.toInt = 0) (h6 : ∀ i, i < cf 2 → xi (E' (64 * (i + 1) + 6)) 0 = xi (E (64 * (i + 1) + 6)) 0) (ht : ∀ i, i < cf 2 → (xi (E (64 * (i + 1) + 6)) 0).toInt ≤ (xi (E 1) 0).toInt) (hk : ∀ i j, i ≠ a.toNatClampNeg → xi (E' (64 * (i + 1) + 11)) j = xi (E (64 * (i + 1) + 11)) j) (h11 : xi (E' (64 * (a.toNatClampNeg + 1) + 11)) = upd (xi (E (64 * (a.toNatClampNeg + 1) + 11))) (xi (E 1) 0).toNatClampNeg x) (h1 : xi (EM' 19) = upd (xi (EM 19)) a.toNatClampNeg x) : SW cf E' EM' := by
  have hne : ∀ (g : Nat → Int32) (k q : Nat) (v : Int32), q ≠ k → upd g k v q = g q := fun g k q v hq => if_neg hq
  intro i hi
  rw [h6 i hi, h0]
  by_cases ei : i = a.toNatClampNeg
  · subst ei
    refine Or.inl ⟨(xi (E 1) 0).toNatClampNeg, ?_, ?_, ?_, ?_, fun d' q1 q2 => ?_⟩
    · have := ht _ hi
      rw [tn_ (xi (E 1) 0)]
      omega
    · rw [tn_ (xi (E 1) 0)]
      omega
    · rw [h11, pk_us]
      exact hx
    · rw [h11, pk_us, h1, pk_us]
    · rw [h11, hne _ _ _ _ (by omega)]
      rw [tn_] at q1
      rcases h _ hi with ⟨d, a1, a2, a3, a4, a5⟩ | ⟨a4, a5⟩
      · exact a5 d' (by omega) q2
      · exact a5 d' q2
  · have e : xi (E' (64 * (i + 1) + 11)) = xi (E (64 * (i + 1) + 11)) := funext (fun j => hk i j ei)
    rw [e, h1, hne _ _ _ _ ei]
    exact h i hi
/-- decisions -/
def DCp (e : Nat → Int) (dec isd f0 t0 f1 t1 : Int) : Prop := (dec = 0 ∧ isd = 0 ∧ e 5 = -1 ∧ e 7 = -1 ∧ e 8 = -1) ∨ (dec = 1 ∧ isd = 1 ∧ 0 ≤ e 5 ∧ e 4 ≤ e 5 ∧ e 7 = -1 ∧ e 8 = -1 ∧ f0 = e 5 ∧ t0 = 1000) ∨ (dec = 1 ∧ isd = 0 ∧ 0 ≤ e 5 ∧ e 4 ≤ e 5 ∧ e 5 ≤ e 7 ∧ e 8 = -1 ∧ f0 = e 5 ∧ t0 = e 7) ∨ (dec = 2 ∧ isd = 1 ∧ 0 ≤ e 5 ∧ e 4 ≤ e 5 ∧ e 5 ≤ e 7 ∧ e 7 ≤ e 8 ∧ f0 = e 5 ∧ t0 = e 7 ∧ f1 = e 8 ∧ t1 = 1000)
def DC (cf : Nat → Nat) (E EM : Nat → va_E) : Prop := ∀ p : Nat, p < cf 5 → DCp (fun j => (xi (E (64 * (p + 1) + 14)) j).toInt) (xi (EM 54) p).toInt (xi (EM 55) p).toInt (xi (EM 52) (2 * p)).toInt (xi (EM 53) (2 * p)).toInt (xi (EM 52) (2 * p + 1)).toInt (xi (EM 53) (2 * p + 1)).toInt ∧ ∀ j ∈ [5, 7, 8], (xi (E (64 * (p + 1) + 14)) j).toInt ≤ (xi (E 1) 0).toInt
theorem DC.kc {cf cf' : Nat → Nat} {E E' EM : Nat → va_E} (h : DC cf E EM) (h5 : cf' 5 = cf 5) (h0 : (xi (E 1) 0).toInt ≤ (xi (E' 1) 0).toInt) (hk : ∀ i j, i < cf 5 → xi (E' (64 * (i + 1) + 14)) j = xi (E (64 * (i + 1) + 14)) j) : DC cf' E' EM := fun p hp => by
  rw [h5] at hp
  have e : xi (E' (64 * (p + 1) + 14)) = xi (E (64 * (p + 1) + 14)) := funext (fun j => hk p j hp)
  rw [e]
  exact ⟨(h p hp).1, fun j hj => Int.le_trans ((h p hp).2 j hj) h0⟩
theorem DC.km {cf : Nat → Nat} {E EM EM' : Nat → va_E} (h : DC cf E EM) (h2 : ∀ j, xi (EM' 52) j = xi (EM 52) j) (h3 : ∀ j, xi (EM' 53) j = xi (EM 53) j) (h4 : ∀ j, xi (EM' 54) j = xi (EM 54) j) (h5 : ∀ j, xi (EM' 55) j = xi (EM 55) j) : DC cf E EM' := fun p hp => by
  rw [h2, h2, h3, h3, h4, h5]
  exact h p hp
/-- RACES are told one behind another -/
def RMo (cf : Nat → Nat) (E : Nat → va_E) : Prop := ∀ i k : Nat, i ≤ k → k < cf 2 → (xi (E (64 * (i + 1) + 6)) 0).toInt ≤ (xi (E (64 * (k + 1) + 6)) 0).toInt
theorem RMo.kc {cf cf' : Nat → Nat} {E E' : Nat → va_E} (h : RMo cf E) (h2 : cf' 2 = cf 2) (h6 : ∀ i, i < cf 2 → xi (E' (64 * (i + 1) + 6)) 0 = xi (E (64 * (i + 1) + 6)) 0) : RMo cf' E' := fun i k hik hk => by
  rw [h2] at hk
  rw [h6 i (by omega), h6 k hk]
  exact h i k hik hk
/-- A and B are unlike -/
def PNe (cf : Nat → Nat) (E : Nat → va_E) : Prop := ∀ i : Nat, i < cf 5 → ¬ (xi (E (64 * (i + 1) + 14)) 1).toInt = (xi (E (64 * (i + 1) + 14)) 2).toInt
theorem PNe.kc {cf cf' : Nat → Nat} {E E' : Nat → va_E} (h : PNe cf E) (h5 : cf' 5 = cf 5) (h1 : ∀ i, i < cf 5 → xi (E' (64 * (i + 1) + 14)) 1 = xi (E (64 * (i + 1) + 14)) 1) (h2 : ∀ i, i < cf 5 → xi (E' (64 * (i + 1) + 14)) 2 = xi (E (64 * (i + 1) + 14)) 2) : PNe cf' E' := fun i hi => by
  rw [h5] at hi
  rw [h1 i hi, h2 i hi]
  exact h i hi
/-- behind the last PROTEST nothing is decided -/
def DZ (cf : Nat → Nat) (EM : Nat → va_E) : Prop := ∀ p : Nat, cf 5 ≤ p → p < 30 → (xi (EM 54) p).toInt = 0 ∧ (xi (EM 55) p).toInt = 0
theorem DZ.kc {cf cf' : Nat → Nat} {EM : Nat → va_E} (h : DZ cf EM) (h5 : cf 5 ≤ cf' 5) : DZ cf' EM := fun p hp hq => h p (by omega) hq
theorem DZ.km {cf : Nat → Nat} {EM EM' : Nat → va_E} (h : DZ cf EM) (h4 : ∀ j, xi (EM' 54) j = xi (EM 54) j) (h5 : ∀ j, xi (EM' 55) j = xi (EM 55) j) : DZ cf EM' := fun p hp hq => by
  rw [h4, h5]
  exact h p hp hq
/-- REDRESS is of a RACE -/
def RRo (cf : Nat → Nat) (EM : Nat → va_E) : Prop := ∀ k : Nat, (k : Int) < (xi (EM 0) 48).toInt → (xi (EM 29) k).toInt < ((cf 2 : Nat) : Int)
theorem RRo.kc {cf cf' : Nat → Nat} {EM : Nat → va_E} (h : RRo cf EM) (h2 : cf 2 ≤ cf' 2) : RRo cf' EM := fun k hk => by
  have := h k hk
  omega
theorem RRo.km {cf : Nat → Nat} {EM EM' : Nat → va_E} (h : RRo cf EM) (hs : xi (EM' 0) 48 = xi (EM 0) 48) (h1 : ∀ j, xi (EM' 29) j = xi (EM 29) j) : RRo cf EM' := fun k hk => by
  rw [hs] at hk
  rw [h1]
  exact h k hk
theorem RRo.up {cf : Nat → Nat} {EM EM' : Nat → va_E} {a n : Int32} (h : RRo cf EM) (ha : a.toInt < ((cf 2 : Nat) : Int)) (hn : n = xi (EM 0) 48) (hs : (xi (EM' 0) 48).toInt = n.toInt + 1) (h1 : xi (EM' 29) = upd (xi (EM 29)) n.toNatClampNeg a) : RRo cf EM' := fun k hk => by
  rw [h1]
  by_cases e : k = n.toNatClampNeg
  · subst e
    rw [pk_us]
    exact ha
  · rw [show upd (xi (EM 29)) n.toNatClampNeg a k = xi (EM 29) k from if_neg e]
    exact h k (by rw [← hn]; rw [tn_] at e; omega)
/-! ===== one more RACE, one more PROTEST ===== -/
theorem EN.push {cf cf' : Nat → Nat} {E E' EM EM' : Nat → va_E} (h : EN cf E EM) (h2 : cf' 2 = cf 2 + 1) (hk : ∀ i j, i < cf 2 → xi (E' (64 * (i + 1) + 7)) j = xi (E (64 * (i + 1) + 7)) j) (hm : ∀ j, j < 16 * cf 2 → xi (EM' 21) j = xi (EM 21) j) (hn : ∀ b, b < 16 → xi (E' (64 * (cf 2 + 1) + 7)) b = -1 ∧ xi (EM' 21) (16 * cf 2 + b) = 1000) : EN cf' E' EM' := fun i b hi hb => by
  by_cases e : i = cf 2
  · subst e
    exact Or.inl (hn b hb)
  · rw [hk i b (by omega), hm _ (by omega)]
    exact h i b (by omega) hb
theorem EB.push {cf cf' : Nat → Nat} {E E' : Nat → va_E} (h : EB cf E) (h2 : cf' 2 = cf 2 + 1) (h0 : (xi (E 1) 0).toInt ≤ (xi (E' 1) 0).toInt) (h1 : (xi (E 1) 1).toInt ≤ (xi (E' 1) 1).toInt) (h6 : ∀ i, i < cf 2 → xi (E' (64 * (i + 1) + 6)) 0 = xi (E (64 * (i + 1) + 6)) 0) (h7 : ∀ i j, i < cf 2 → xi (E' (64 * (i + 1) + 7)) j = xi (E (64 * (i + 1) + 7)) j) (hn : ∀ b, b < 16 → xi (E' (64 * (cf 2 + 1) + 7)) b = -1) : EB cf' E' := fun i b hi hb => by
  by_cases e : i = cf 2
  · subst e
    rw [hn b hb]
    exact Or.inl rfl
  · rw [h6 i (by omega), h7 i b (by omega)]
    have := h i b (by omega) hb
    omega
theorem RD.push {cf cf' : Nat → Nat} {E E' EM : Nat → va_E} (h : RD cf E EM) (hr : RRo cf EM) (h2 : cf' 2 = cf 2 + 1) (h0 : (xi (E 1) 0).toInt ≤ (xi (E' 1) 0).toInt) (h8 : ∀ i j, i < cf 2 → xi (E' (64 * (i + 1) + 8)) j = xi (E (64 * (i + 1) + 8)) j) (hn : ∀ b, b < 16 → xi (E' (64 * (cf 2 + 1) + 8)) b = -1) : RD cf' E' EM := fun i b hi hb => by
  by_cases e : i = cf 2
  · subst e
    rw [hn b hb]
    refine ⟨fun k q1 q2 _ => ?_, fun q => absurd rfl q⟩
    have := hr k q1
    omega
  · rw [h8 i b (by omega)]
    obtain ⟨k1, k2⟩ := h i b (by omega) hb
    exact ⟨k1, fun hh => ⟨(k2 hh).1, Int.le_trans (k2 hh).2 h0⟩⟩
theorem ST.push {cf cf' : Nat → Nat} {E E' EM EM' : Nat → va_E} (h : ST cf E EM) (h2 : cf' 2 = cf 2 + 1) (h1 : (xi (E 1) 1).toInt ≤ (xi (E' 1) 1).toInt) (h9 : ∀ i j, i < cf 2 → xi (E' (64 * (i + 1) + 9)) j = xi (E (64 * (i + 1) + 9)) j) (h10 : ∀ i j, i < cf 2 → xi (E' (64 * (i + 1) + 10)) j = xi (E (64 * (i + 1) + 10)) j) (m22 : ∀ j, j < 16 * cf 2 → xi (EM' 22) j = xi (EM 22) j) (m23 : ∀ j, xi (EM' 23) j = xi (EM 23) j) (hn : ∀ b, b < 16 → xi (E' (64 * (cf 2 + 1) + 9)) b = -1 ∧ xi (EM' 22) (16 * cf 2 + b) = -1) : ST cf' E' EM' := fun i b hi hb => by
  by_cases e : i = cf 2
  · subst e
    rw [(hn b hb).1, (hn b hb).2]
    exact ⟨rfl, fun q => absurd rfl q⟩
  · rw [h9 i b (by omega), h10 i b (by omega), m22 _ (by omega), m23]
    obtain ⟨k1, k2⟩ := h i b (by omega) hb
    exact ⟨k1, fun q => ⟨(k2 q).1, Int.lt_of_lt_of_le (k2 q).2 h1⟩⟩
theorem SW.push {cf cf' : Nat → Nat} {E E' EM EM' : Nat → va_E} (h : SW cf E EM) (h2 : cf' 2 = cf 2 + 1) (h0 : (xi (E 1) 0).toInt ≤ (xi (E' 1) 0).toInt) (h6 : ∀ i, i < cf 2 → xi (E' (64 * (i + 1) + 6)) 0 = xi (E (64 * (i + 1) + 6)) 0) (h11 : ∀ i j, i < cf 2 → xi (E' (64 * (i + 1) + 11)) j = xi (E (64 * (i + 1) + 11)) j) (m19 : ∀ j, j < cf 2 → xi (EM' 19) j = xi (EM 19) j) (hn : xi (EM' 19) (cf 2) = 2) (hz : ∀ j, j < 401 → xi (E' (64 * (cf 2 + 1) + 11)) j = 0) : SW cf' E' EM' := fun i hi => by
  by_cases e : i = cf 2
  · subst e
    rw [hn]
    exact Or.inr ⟨rfl, fun d hd => by rw [hz d hd]; rfl⟩
  · have e1 : xi (E' (64 * (i + 1) + 11)) = xi (E (64 * (i + 1) + 11)) := funext (fun j => h11 i j (by omega))
    rw [h6 i (by omega), e1, m19 i (by omega)]
    rcases h i (by omega) with ⟨d, a1, a2, a3⟩ | a
    · exact Or.inl ⟨d, a1, Int.le_trans a2 h0, a3⟩
    · exact Or.inr a
theorem RMo.push {cf cf' : Nat → Nat} {E E' : Nat → va_E} (h : RMo cf E) (ht : TNj (cf 2) [(6, 0), (6, 1)] E) (h2 : cf' 2 = cf 2 + 1) (h6 : ∀ i, i < cf 2 → xi (E' (64 * (i + 1) + 6)) 0 = xi (E (64 * (i + 1) + 6)) 0) (hn : (xi (E' (64 * (cf 2 + 1) + 6)) 0).toInt = (xi (E 1) 0).toInt) : RMo cf' E' := fun i k hik hk => by
  by_cases e : k = cf 2
  · subst e
    rw [hn]
    by_cases e2 : i = cf 2
    · subst e2
      rw [hn]
      exact Int.le_refl _
    · rw [h6 i (by omega)]
      exact ht (6, 0) (by decide) i (by omega)
  · rw [h6 i (by omega), h6 k (by omega)]
    exact h i k hik (by omega)
theorem PNe.push {cf cf' : Nat → Nat} {E E' : Nat → va_E} (h : PNe cf E) (h5 : cf' 5 = cf 5 + 1) (h1 : ∀ i j, i < cf 5 → xi (E' (64 * (i + 1) + 14)) j = xi (E (64 * (i + 1) + 14)) j) (hn : ¬ (xi (E' (64 * (cf 5 + 1) + 14)) 1).toInt = (xi (E' (64 * (cf 5 + 1) + 14)) 2).toInt) : PNe cf' E' := fun i hi => by
  by_cases e : i = cf 5
  · subst e
    exact hn
  · rw [h1 i _ (by omega), h1 i _ (by omega)]
    exact h i (by omega)
theorem DC.push {cf cf' : Nat → Nat} {E E' EM EM' : Nat → va_E} (h : DC cf E EM) (hz : DZ cf EM) (h5 : cf' 5 = cf 5 + 1) (hp30 : cf 5 < 30) (h0 : (xi (E 1) 0).toInt ≤ (xi (E' 1) 0).toInt) (hpos : 0 ≤ (xi (E' 1) 0).toInt) (hk : ∀ i j, i < cf 5 → xi (E' (64 * (i + 1) + 14)) j = xi (E (64 * (i + 1) + 14)) j) (hm : ∀ r ∈ [52, 53, 54, 55], ∀ j, xi (EM' r) j = xi (EM r) j) (hn : ∀ j ∈ [5, 7, 8], xi (E' (64 * (cf 5 + 1) + 14)) j = -1) : DC cf' E' EM' := fun p hp => by
  rw [hm 52 (by decide), hm 52 (by decide), hm 53 (by decide), hm 53 (by decide), hm 54 (by decide), hm 55 (by decide)]
  by_cases e : p = cf 5
  · subst e
    refine ⟨Or.inl ⟨(hz _ (Nat.le_refl _) hp30).1, (hz _ (Nat.le_refl _) hp30).2, ?_, ?_, ?_⟩, fun j hj => ?_⟩
    · show (xi (E' (64 * (cf 5 + 1) + 14)) 5).toInt = -1
      rw [hn 5 (by decide)]
      rfl
    · show (xi (E' (64 * (cf 5 + 1) + 14)) 7).toInt = -1
      rw [hn 7 (by decide)]
      rfl
    · show (xi (E' (64 * (cf 5 + 1) + 14)) 8).toInt = -1
      rw [hn 8 (by decide)]
      rfl
    · rw [hn j hj]
      have l1 : (-1 : Int32).toInt = -1 := rfl
      omega
  · have e1 : xi (E' (64 * (p + 1) + 14)) = xi (E (64 * (p + 1) + 14)) := funext (fun j => hk p j (by omega))
    rw [e1]
    exact ⟨(h p (by omega)).1, fun j hj => Int.le_trans ((h p (by omega)).2 j hj) h0⟩
theorem upd_n {g : Nat → Int32} {k q : Nat} {v : Int32} (hq : q ≠ k) : upd g k v q = g q := if_neg hq
theorem i32_s {x y : Int32} {n : Int} (e : x = y + 1) (h : y.toInt = n) (h2 : 0 ≤ n ∧ n < 1000) : x.toInt = n + 1 := by
  have l1 : (1 : Int32).toInt = 1 := rfl
  obtain ⟨t, -⟩ := ti_add (a := 0) (b := 1000) (c := 1) (d := 1) (e := 1) (f := 1001) (x := y) (y := 1) ⟨by omega, by omega⟩ ⟨by omega, by omega⟩ e (by decide)
  omega
theorem DC.decide {cf : Nat → Nat} {E E' EM EM' : Nat → va_E} {a r : Int32} (h : DC cf E EM) (ha : 0 ≤ a.toInt ∧ a.toInt < ((cf 5 : Nat) : Int)) (hn : 0 ≤ (xi (E 1) 0).toInt) (h0 : xi (E' 1) 0 = xi (E 1) 0) (h4 : (xi (E (64 * (a.toNatClampNeg + 1) + 14)) 4).toInt ≤ (xi (E 1) 0).toInt) (hk : ∀ p j, p ≠ a.toNatClampNeg → xi (E' (64 * (p + 1) + 14)) j = xi (E (64 * (p + 1) + 14)) j) (hk4 : xi (E' (64 * (a.toNatClampNeg + 1) + 14)) 4 = xi (E (64 * (a.toNatClampNeg + 1) + 14)) 4)
    (hnd : ¬ (((xi (E (64 * (a.toNatClampNeg + 1) + 14)) 7).toInt = -1 ∧ ¬ (xi (E (64 * (a.toNatClampNeg + 1) + 14)) 5).toInt = -1) ∨ (¬ (xi (E (64 * (a.toNatClampNeg + 1) + 14)) 7).toInt = -1 ∧ ¬ (xi (E (64 * (a.toNatClampNeg + 1) + 14)) 8).toInt = -1)))
    (y1 : (xi (E (64 * (a.toNatClampNeg + 1) + 14)) 7).toInt = -1 → (xi (E' (64 * (a.toNatClampNeg + 1) + 14)) 5).toInt = (xi (E 1) 0).toInt ∧ (xi (E' (64 * (a.toNatClampNeg + 1) + 14)) 8).toInt = (xi (E (64 * (a.toNatClampNeg + 1) + 14)) 8).toInt) (y2 : ¬ (xi (E (64 * (a.toNatClampNeg + 1) + 14)) 7).toInt = -1 → (xi (E' (64 * (a.toNatClampNeg + 1) + 14)) 8).toInt = (xi (E 1) 0).toInt ∧ (xi (E' (64 * (a.toNatClampNeg + 1) + 14)) 5).toInt = (xi (E (64 * (a.toNatClampNeg + 1) + 14)) 5).toInt) (y3 : (xi (E' (64 * (a.toNatClampNeg + 1) + 14)) 7).toInt = (xi (E (64 * (a.toNatClampNeg + 1) + 14)) 7).toInt)
    (h55 : xi (EM' 55) = upd (xi (EM 55)) a.toNatClampNeg 1) (h54 : xi (EM' 54) = upd (xi (EM 54)) a.toNatClampNeg (xi (EM 54) a.toNatClampNeg + 1)) (h52 : xi (EM' 52) = upd (xi (EM 52)) (2 * a.toInt + (xi (EM 54) a.toNatClampNeg).toInt).toNat (xi (E 1) 0)) (h53 : xi (EM' 53) = upd (xi (EM 53)) (2 * a.toInt + (xi (EM 54) a.toNatClampNeg).toInt).toNat 1000) : DC cf E' EM' := by
  have l1 : (1 : Int32).toInt = 1 := rfl
  have l2 : (1000 : Int32).toInt = 1000 := rfl
  intro p hp
  by_cases ep : p = a.toNatClampNeg
  · subst ep
    obtain ⟨hc, hle⟩ := h _ hp
    have q5 := hle 5 (by decide)
    have q7 := hle 7 (by decide)
    have q8 := hle 8 (by decide)
    have t5 : (xi (EM' 55) a.toNatClampNeg).toInt = 1 := by rw [h55, pk_us]; rfl
    unfold DCp at hc ⊢
    simp only [] at hc ⊢
    rcases hc with ⟨c1, c2, c3, c4, c5⟩ | ⟨c1, c2, c3, c4, c5, c6, c7, c8⟩ | ⟨c1, c2, c3, c4, c5, c6, c7, c8⟩ | ⟨c1, c2, c3, c4, c5, c6, c7, c8, c9, c10⟩
    · have eK : (2 * a.toInt + (xi (EM 54) a.toNatClampNeg).toInt).toNat = 2 * a.toNatClampNeg := by rw [tn_] at c1 ⊢; omega
      rw [eK] at h52 h53
      have t4 : (xi (EM' 54) a.toNatClampNeg).toInt = 1 := (i32_s (by rw [h54, pk_us]) c1 (by decide)).trans rfl
      have t2 : (xi (EM' 52) (2 * a.toNatClampNeg)).toInt = (xi (E 1) 0).toInt := by rw [h52, pk_us]
      have t3 : (xi (EM' 53) (2 * a.toNatClampNeg)).toInt = 1000 := by rw [h53, pk_us]; rfl
      have y := y1 c4
      refine ⟨Or.inr (Or.inl ⟨t4, t5, by omega, by rw [hk4]; omega, by omega, by omega, by omega, t3⟩), fun j hj => ?_⟩
      rw [h0]
      simp only [List.mem_cons, List.not_mem_nil, or_false] at hj
      rcases hj with rfl | rfl | rfl <;> omega
    · exfalso; omega
    · have eK : (2 * a.toInt + (xi (EM 54) a.toNatClampNeg).toInt).toNat = 2 * a.toNatClampNeg + 1 := by rw [tn_] at c1 ⊢; omega
      rw [eK] at h52 h53
      have t4 : (xi (EM' 54) a.toNatClampNeg).toInt = 2 := (i32_s (by rw [h54, pk_us]) c1 (by decide)).trans rfl
      have t2 : (xi (EM' 52) (2 * a.toNatClampNeg + 1)).toInt = (xi (E 1) 0).toInt := by rw [h52, pk_us]
      have t3 : (xi (EM' 53) (2 * a.toNatClampNeg + 1)).toInt = 1000 := by rw [h53, pk_us]; rfl
      have u2 : (xi (EM' 52) (2 * a.toNatClampNeg)).toInt = (xi (EM 52) (2 * a.toNatClampNeg)).toInt := by rw [h52, upd_n (by omega)]
      have u3 : (xi (EM' 53) (2 * a.toNatClampNeg)).toInt = (xi (EM 53) (2 * a.toNatClampNeg)).toInt := by rw [h53, upd_n (by omega)]
      have y := y2 (by omega)
      refine ⟨Or.inr (Or.inr (Or.inr ⟨t4, t5, by omega, by rw [hk4]; omega, by omega, by omega, by omega, by omega, by omega, t3⟩)), fun j hj => ?_⟩
      rw [h0]
      simp only [List.mem_cons, List.not_mem_nil, or_false] at hj
      rcases hj with rfl | rfl | rfl <;> omega
    · exfalso; omega
  · have e1 : xi (E' (64 * (p + 1) + 14)) = xi (E (64 * (p + 1) + 14)) := funext (fun j => hk p j ep)
    have hd := (h a.toNatClampNeg (by rw [tn_]; omega)).1
    have hN : ((a.toNatClampNeg : Nat) : Int) = a.toInt := by
      rw [tn_]
      omega
    unfold DCp at hd
    dsimp only at hd
    have hK : 2 * a.toNatClampNeg ≤ (2 * a.toInt + (xi (EM 54) a.toNatClampNeg).toInt).toNat ∧ (2 * a.toInt + (xi (EM 54) a.toNatClampNeg).toInt).toNat ≤ 2 * a.toNatClampNeg + 2 := by omega
    have hK2 : (2 * a.toInt + (xi (EM 54) a.toNatClampNeg).toInt).toNat ≠ 2 * a.toNatClampNeg + 2 := by omega
    rw [e1, h0, h55, h54, h52, h53, upd_n ep, upd_n ep, upd_n (by omega), upd_n (by omega), upd_n (by omega), upd_n (by omega)]
    exact h p hp
theorem DC.reopen {cf : Nat → Nat} {E E' EM EM' : Nat → va_E} {a : Int32} (h : DC cf E EM) (ha : 0 ≤ a.toInt ∧ a.toInt < ((cf 5 : Nat) : Int)) (hn : 0 ≤ (xi (E 1) 0).toInt) (h0 : xi (E' 1) 0 = xi (E 1) 0) (hk : ∀ p j, p ≠ a.toNatClampNeg → xi (E' (64 * (p + 1) + 14)) j = xi (E (64 * (p + 1) + 14)) j) (hk4 : xi (E' (64 * (a.toNatClampNeg + 1) + 14)) 4 = xi (E (64 * (a.toNatClampNeg + 1) + 14)) 4)
    (hd : ((xi (E (64 * (a.toNatClampNeg + 1) + 14)) 7).toInt = -1 ∧ ¬ (xi (E (64 * (a.toNatClampNeg + 1) + 14)) 5).toInt = -1) ∨ (¬ (xi (E (64 * (a.toNatClampNeg + 1) + 14)) 7).toInt = -1 ∧ ¬ (xi (E (64 * (a.toNatClampNeg + 1) + 14)) 8).toInt = -1)) (h7 : (xi (E (64 * (a.toNatClampNeg + 1) + 14)) 7).toInt = -1)
    (y7 : (xi (E' (64 * (a.toNatClampNeg + 1) + 14)) 7).toInt = (xi (E 1) 0).toInt) (y5 : (xi (E' (64 * (a.toNatClampNeg + 1) + 14)) 5).toInt = (xi (E (64 * (a.toNatClampNeg + 1) + 14)) 5).toInt) (y8 : (xi (E' (64 * (a.toNatClampNeg + 1) + 14)) 8).toInt = (xi (E (64 * (a.toNatClampNeg + 1) + 14)) 8).toInt)
    (h55 : xi (EM' 55) = upd (xi (EM 55)) a.toNatClampNeg 0) (h54 : xi (EM' 54) = xi (EM 54)) (h52 : xi (EM' 52) = xi (EM 52)) (h53 : xi (EM' 53) = upd (xi (EM 53)) (2 * a.toInt).toNat (xi (E 1) 0)) : DC cf E' EM' := by
  have l0 : (0 : Int32).toInt = 0 := rfl
  have eK : (2 * a.toInt).toNat = 2 * a.toNatClampNeg := by rw [tn_]; omega
  rw [eK] at h53
  intro p hp
  by_cases ep : p = a.toNatClampNeg
  · subst ep
    obtain ⟨hc, hle⟩ := h _ hp
    have q5 := hle 5 (by decide)
    have q8 := hle 8 (by decide)
    have t5 : (xi (EM' 55) a.toNatClampNeg).toInt = 0 := by rw [h55, pk_us]; rfl
    have t3 : (xi (EM' 53) (2 * a.toNatClampNeg)).toInt = (xi (E 1) 0).toInt := by rw [h53, pk_us]
    rw [h54, h52]
    unfold DCp at hc ⊢
    simp only [] at hc ⊢
    refine ⟨Or.inr (Or.inr (Or.inl ?_)), fun j hj => ?_⟩
    · rw [hk4]
      refine ⟨?_, t5, ?_, ?_, ?_, ?_, ?_, by omega⟩ <;> omega
    · rw [h0]
      simp only [List.mem_cons, List.not_mem_nil, or_false] at hj
      rcases hj with rfl | rfl | rfl <;> omega
  · have e1 : xi (E' (64 * (p + 1) + 14)) = xi (E (64 * (p + 1) + 14)) := funext (fun j => hk p j ep)
    rw [e1, h0, h55, h54, h52, h53, upd_n ep, upd_n (by omega), upd_n (by omega)]
    exact h p hp
/-- all of it -/
theorem wl_row {a : List Nat} {b : List (Nat × Nat)} {o j : Nat} (h : (!a.contains o && b.all (fun q => q.1 != o)) = true) : wl a b o j = false := by
  rw [Bool.and_eq_true] at h
  cases q : wl a b o j with
  | false => rfl
  | true =>
    exfalso
    unfold wl at q
    rw [Bool.or_eq_true] at q
    rcases q with q | q
    · rw [q] at h
      exact absurd h.1 (by decide)
    · have h1 : (o, j) ∈ b := by simpa using q
      have h2 := List.all_eq_true.mp h.2 _ h1
      simp at h2
def REL (cf : Nat → Nat) (E EM : Nat → va_E) : Prop := (xi (E 1) 0 = xi (EM 0) 1) ∧ (xi (E 1) 1 = xi (EM 0) 8) ∧ (xi (E 1) 2 = xi (EM 0) 48) ∧ (CNT cf EM) ∧ (EN cf E EM) ∧ (TBj (cf 0) tb0 E EM) ∧ (TBj (cf 2) tb2 E EM) ∧ (TBj (cf 3) tb3 E EM) ∧ (TBj (cf 4) tb4 E EM) ∧ (TBj (cf 5) tb5 E EM) ∧ (EB cf E) ∧ (RD cf E EM) ∧ (ST cf E EM) ∧ (SW cf E EM) ∧ (DC cf E EM) ∧ (TNj (cf 0) [(0, 2)] E) ∧ (TNj (cf 2) [(6, 0), (6, 1)] E) ∧ (TNj (cf 3) [(12, 4)] E) ∧ (TNj (cf 4) [(13, 2)] E) ∧ (TNj (cf 5) [(14, 4)] E) ∧ (RMo cf E) ∧ (ERj (cf 3) (cf 2) [(12, 0, 1, 4)] E) ∧ (ERj (cf 4) (cf 2) [(13, 0, 1, 2)] E) ∧ (ERj (cf 5) (cf 2) [(14, 0, 1, 4), (14, 0, 2, 4)] E) ∧ (PNe cf E) ∧ (DZ cf EM) ∧ (RRo cf EM)
theorem REL.now {cf : Nat → Nat} {E EM : Nat → va_E} (h : REL cf E EM) : xi (E 1) 0 = xi (EM 0) 1 := h.1
theorem REL.boats {cf : Nat → Nat} {E EM : Nat → va_E} (h : REL cf E EM) : xi (E 1) 1 = xi (EM 0) 8 := h.2.1
theorem REL.red {cf : Nat → Nat} {E EM : Nat → va_E} (h : REL cf E EM) : xi (E 1) 2 = xi (EM 0) 48 := h.2.2.1
theorem REL.cnt {cf : Nat → Nat} {E EM : Nat → va_E} (h : REL cf E EM) : CNT cf EM := h.2.2.2.1
theorem REL.en {cf : Nat → Nat} {E EM : Nat → va_E} (h : REL cf E EM) : EN cf E EM := h.2.2.2.2.1
theorem REL.tb0 {cf : Nat → Nat} {E EM : Nat → va_E} (h : REL cf E EM) : TBj (cf 0) tb0 E EM := h.2.2.2.2.2.1
theorem REL.tb2 {cf : Nat → Nat} {E EM : Nat → va_E} (h : REL cf E EM) : TBj (cf 2) tb2 E EM := h.2.2.2.2.2.2.1
theorem REL.tb3 {cf : Nat → Nat} {E EM : Nat → va_E} (h : REL cf E EM) : TBj (cf 3) tb3 E EM := h.2.2.2.2.2.2.2.1
theorem REL.tb4 {cf : Nat → Nat} {E EM : Nat → va_E} (h : REL cf E EM) : TBj (cf 4) tb4 E EM := h.2.2.2.2.2.2.2.2.1
theorem REL.tb5 {cf : Nat → Nat} {E EM : Nat → va_E} (h : REL cf E EM) : TBj (cf 5) tb5 E EM := h.2.2.2.2.2.2.2.2.2.1
theorem REL.eb {cf : Nat → Nat} {E EM : Nat → va_E} (h : REL cf E EM) : EB cf E := h.2.2.2.2.2.2.2.2.2.2.1
theorem REL.rd {cf : Nat → Nat} {E EM : Nat → va_E} (h : REL cf E EM) : RD cf E EM := h.2.2.2.2.2.2.2.2.2.2.2.1
theorem REL.st {cf : Nat → Nat} {E EM : Nat → va_E} (h : REL cf E EM) : ST cf E EM := h.2.2.2.2.2.2.2.2.2.2.2.2.1
theorem REL.sw {cf : Nat → Nat} {E EM : Nat → va_E} (h : REL cf E EM) : SW cf E EM := h.2.2.2.2.2.2.2.2.2.2.2.2.2.1
theorem REL.dc {cf : Nat → Nat} {E EM : Nat → va_E} (h : REL cf E EM) : DC cf E EM := h.2.2.2.2.2.2.2.2.2.2.2.2.2.2.1
theorem REL.tn0 {cf : Nat → Nat} {E EM : Nat → va_E} (h : REL cf E EM) : TNj (cf 0) [(0, 2)] E := h.2.2.2.2.2.2.2.2.2.2.2.2.2.2.2.1
theorem REL.tn2 {cf : Nat → Nat} {E EM : Nat → va_E} (h : REL cf E EM) : TNj (cf 2) [(6, 0), (6, 1)] E := h.2.2.2.2.2.2.2.2.2.2.2.2.2.2.2.2.1
theorem REL.tn3 {cf : Nat → Nat} {E EM : Nat → va_E} (h : REL cf E EM) : TNj (cf 3) [(12, 4)] E := h.2.2.2.2.2.2.2.2.2.2.2.2.2.2.2.2.2.1
theorem REL.tn4 {cf : Nat → Nat} {E EM : Nat → va_E} (h : REL cf E EM) : TNj (cf 4) [(13, 2)] E := h.2.2.2.2.2.2.2.2.2.2.2.2.2.2.2.2.2.2.1
theorem REL.tn5 {cf : Nat → Nat} {E EM : Nat → va_E} (h : REL cf E EM) : TNj (cf 5) [(14, 4)] E := h.2.2.2.2.2.2.2.2.2.2.2.2.2.2.2.2.2.2.2.1
theorem REL.rmo {cf : Nat → Nat} {E EM : Nat → va_E} (h : REL cf E EM) : RMo cf E := h.2.2.2.2.2.2.2.2.2.2.2.2.2.2.2.2.2.2.2.2.1
theorem REL.er3 {cf : Nat → Nat} {E EM : Nat → va_E} (h : REL cf E EM) : ERj (cf 3) (cf 2) [(12, 0, 1, 4)] E := h.2.2.2.2.2.2.2.2.2.2.2.2.2.2.2.2.2.2.2.2.2.1
theorem REL.er4 {cf : Nat → Nat} {E EM : Nat → va_E} (h : REL cf E EM) : ERj (cf 4) (cf 2) [(13, 0, 1, 2)] E := h.2.2.2.2.2.2.2.2.2.2.2.2.2.2.2.2.2.2.2.2.2.2.1
theorem REL.er5 {cf : Nat → Nat} {E EM : Nat → va_E} (h : REL cf E EM) : ERj (cf 5) (cf 2) [(14, 0, 1, 4), (14, 0, 2, 4)] E := h.2.2.2.2.2.2.2.2.2.2.2.2.2.2.2.2.2.2.2.2.2.2.2.1
theorem REL.pne {cf : Nat → Nat} {E EM : Nat → va_E} (h : REL cf E EM) : PNe cf E := h.2.2.2.2.2.2.2.2.2.2.2.2.2.2.2.2.2.2.2.2.2.2.2.2.1
theorem REL.dz {cf : Nat → Nat} {E EM : Nat → va_E} (h : REL cf E EM) : DZ cf EM := h.2.2.2.2.2.2.2.2.2.2.2.2.2.2.2.2.2.2.2.2.2.2.2.2.2.1
theorem REL.rro {cf : Nat → Nat} {E EM : Nat → va_E} (h : REL cf E EM) : RRo cf EM := h.2.2.2.2.2.2.2.2.2.2.2.2.2.2.2.2.2.2.2.2.2.2.2.2.2.2
theorem tbm0 : ∀ q ∈ tb0, q.2.2 ∈ [1, 2, 3, 4, 5, 6] := by decide
theorem tbm2 : ∀ q ∈ tb2, q.2.2 ∈ [20, 13, 14, 15, 16, 17, 18] := by decide
theorem tbm3 : ∀ q ∈ tb3, q.2.2 ∈ [24, 25, 26, 27, 28] := by decide
theorem tbm4 : ∀ q ∈ tb4, q.2.2 ∈ [38, 39, 45, 40, 41, 42, 43, 44] := by decide
theorem tbm5 : ∀ q ∈ tb5, q.2.2 ∈ [46, 47, 48, 49, 50] := by decide
/-- the cells of lists keep their slots, but where X says so -/
def PK (X : Nat → Nat → Bool) (cf : Nat → Nat) (E E' : Nat → va_E) : Prop := ∀ t i j : Nat, t < 15 → kl t ≠ 1 → X t j = false → i < cf (kl t) → xi (E' (64 * (i + 1) + t)) j = xi (E (64 * (i + 1) + t)) j
def X0 : Nat → Nat → Bool := fun _ _ => false
theorem PK.tb {X : Nat → Nat → Bool} {cf : Nat → Nat} {E E' : Nat → va_E} (h : PK X cf E E') {J : Nat} {l : List (Nat × Nat × Nat)} (hl : l.all (fun q => decide (q.1 < 15) && decide (kl q.1 = J) && decide (J ≠ 1) && !(X q.1 q.2.1)) = true) : ∀ q ∈ l, ∀ i, i < cf J → xi (E' (64 * (i + 1) + q.1)) q.2.1 = xi (E (64 * (i + 1) + q.1)) q.2.1 := fun q hq i hi => by
  have h1 := List.all_eq_true.mp hl q hq
  simp only [Bool.and_eq_true, decide_eq_true_eq, Bool.not_eq_true'] at h1
  obtain ⟨⟨⟨h2, h3⟩, h4⟩, h5⟩ := h1
  exact h _ i _ h2 (by rw [h3]; exact h4) h5 (by rw [h3]; exact hi)
theorem PK.tn {X : Nat → Nat → Bool} {cf : Nat → Nat} {E E' : Nat → va_E} (h : PK X cf E E') {J : Nat} {l : List (Nat × Nat)} (hl : l.all (fun q => decide (q.1 < 15) && decide (kl q.1 = J) && decide (J ≠ 1) && !(X q.1 q.2)) = true) : ∀ q ∈ l, ∀ i, i < cf J → xi (E' (64 * (i + 1) + q.1)) q.2 = xi (E (64 * (i + 1) + q.1)) q.2 := fun q hq i hi => by
  have h1 := List.all_eq_true.mp hl q hq
  simp only [Bool.and_eq_true, decide_eq_true_eq, Bool.not_eq_true'] at h1
  obtain ⟨⟨⟨h2, h3⟩, h4⟩, h5⟩ := h1
  exact h _ i _ h2 (by rw [h3]; exact h4) h5 (by rw [h3]; exact hi)
theorem PK.er {X : Nat → Nat → Bool} {cf : Nat → Nat} {E E' : Nat → va_E} (h : PK X cf E E') {J : Nat} {l : List (Nat × Nat × Nat × Nat)} (hl : l.all (fun q => decide (q.1 < 15) && decide (kl q.1 = J) && decide (J ≠ 1) && [q.2.1, q.2.2.1, q.2.2.2].all (fun j => !(X q.1 j))) = true) : ∀ q ∈ l, ∀ j ∈ [q.2.1, q.2.2.1, q.2.2.2], ∀ i, i < cf J → xi (E' (64 * (i + 1) + q.1)) j = xi (E (64 * (i + 1) + q.1)) j := fun q hq j hj i hi => by
  have h1 := List.all_eq_true.mp hl q hq
  simp only [Bool.and_eq_true, decide_eq_true_eq] at h1
  obtain ⟨⟨⟨h2, h3⟩, h4⟩, h5⟩ := h1
  have h6 := List.all_eq_true.mp h5 j hj
  simp only [Bool.not_eq_true'] at h6
  exact h _ i _ h2 (by rw [h3]; exact h4) h6 (by rw [h3]; exact hi)
theorem CNT.mv {cf : Nat → Nat} {EM EM' : Nat → va_E} (h : CNT cf EM) (hs : ∀ j ∈ [9, 46, 47, 74, 75], xi (EM' 0) j = xi (EM 0) j) : CNT cf EM' := by
  unfold CNT
  rw [hs 9 (by decide), hs 46 (by decide), hs 47 (by decide), hs 74 (by decide), hs 75 (by decide)]
  exact h
def relR : List Nat := [1, 2, 3, 4, 5, 6, 13, 14, 15, 16, 17, 18, 19, 20, 21, 22, 23, 24, 25, 26, 27, 28, 29, 30, 31, 38, 39, 40, 41, 42, 43, 44, 45, 46, 47, 48, 49, 50, 52, 53, 54, 55]
def relS : List Nat := [1, 8, 48, 9, 46, 47, 74, 75]
set_option maxRecDepth 100000 in
set_option maxHeartbeats 4000000 in
theorem REL.keep {cf cf' : Nat → Nat} {E E' EM EM' : Nat → va_E} (h : REL cf E EM) (hcf : ∀ j, j < 6 → j ≠ 1 → cf' j = cf j) (k0 : xi (E' 1) 0 = xi (E 1) 0) (k1 : xi (E' 1) 1 = xi (E 1) 1) (k2 : xi (E' 1) 2 = xi (E 1) 2) (hp : PK X0 cf E E') (hs : ∀ j ∈ relS, xi (EM' 0) j = xi (EM 0) j) (hr : ∀ r ∈ relR, ∀ j, xi (EM' r) j = xi (EM r) j) : REL cf' E' EM' := by
  have hn0 : (xi (E 1) 0).toInt ≤ (xi (E' 1) 0).toInt := by rw [k0]; exact Int.le_refl _
  have hb0 : (xi (E 1) 1).toInt ≤ (xi (E' 1) 1).toInt := by rw [k1]; exact Int.le_refl _
  have hst : ENst (cf 2) E E' := ENst.of (fun i j hi => hp 7 i j (by decide) (by decide) rfl hi)
  exact ⟨(k0.trans h.now).trans ((hs 1 (by decide))).symm,
    (k1.trans h.boats).trans ((hs 8 (by decide))).symm,
    (k2.trans h.red).trans ((hs 48 (by decide))).symm,
    CNT.mv (h.cnt.k (hcf 0 (by decide) (by decide)) (hcf 2 (by decide) (by decide)) (hcf 3 (by decide) (by decide)) (hcf 4 (by decide) (by decide)) (hcf 5 (by decide) (by decide))) (fun j hj => by simp only [List.mem_cons, List.not_mem_nil, or_false] at hj; rcases hj with rfl | rfl | rfl | rfl | rfl; exact (hs 9 (by decide)); exact (hs 46 (by decide)); exact (hs 47 (by decide)); exact (hs 74 (by decide)); exact (hs 75 (by decide))),
    EN.m (EM' := EM') (EN.k (E' := E') h.en (hcf 2 (by decide) (by decide)) (fun i j hi => hp 7 i j (by decide) (by decide) rfl hi)) (hr 21 (by decide)),
    (TBj.km (TBj.kc (E' := E') h.tb0 (hcf 0 (by decide) (by decide)) (hp.tb (J := 0) rfl)) (fun q hq j => (show ∀ r ∈ [1, 2, 3, 4, 5, 6], ∀ j, xi (EM' r) j = xi (EM r) j from fun r hr9 => by simp only [List.mem_cons, List.not_mem_nil, or_false] at hr9; rcases hr9 with rfl | rfl | rfl | rfl | rfl | rfl; exact (hr 1 (by decide)); exact (hr 2 (by decide)); exact (hr 3 (by decide)); exact (hr 4 (by decide)); exact (hr 5 (by decide)); exact (hr 6 (by decide))) _ (tbm0 q hq) j)),
    (TBj.km (TBj.kc (E' := E') h.tb2 (hcf 2 (by decide) (by decide)) (hp.tb (J := 2) rfl)) (fun q hq j => (show ∀ r ∈ [20, 13, 14, 15, 16, 17, 18], ∀ j, xi (EM' r) j = xi (EM r) j from fun r hr9 => by simp only [List.mem_cons, List.not_mem_nil, or_false] at hr9; rcases hr9 with rfl | rfl | rfl | rfl | rfl | rfl | rfl; exact (hr 20 (by decide)); exact (hr 13 (by decide)); exact (hr 14 (by decide)); exact (hr 15 (by decide)); exact (hr 16 (by decide)); exact (hr 17 (by decide)); exact (hr 18 (by decide))) _ (tbm2 q hq) j)),
    (TBj.km (TBj.kc (E' := E') h.tb3 (hcf 3 (by decide) (by decide)) (hp.tb (J := 3) rfl)) (fun q hq j => (show ∀ r ∈ [24, 25, 26, 27, 28], ∀ j, xi (EM' r) j = xi (EM r) j from fun r hr9 => by simp only [List.mem_cons, List.not_mem_nil, or_false] at hr9; rcases hr9 with rfl | rfl | rfl | rfl | rfl; exact (hr 24 (by decide)); exact (hr 25 (by decide)); exact (hr 26 (by decide)); exact (hr 27 (by decide)); exact (hr 28 (by decide))) _ (tbm3 q hq) j)),
    (TBj.km (TBj.kc (E' := E') h.tb4 (hcf 4 (by decide) (by decide)) (hp.tb (J := 4) rfl)) (fun q hq j => (show ∀ r ∈ [38, 39, 45, 40, 41, 42, 43, 44], ∀ j, xi (EM' r) j = xi (EM r) j from fun r hr9 => by simp only [List.mem_cons, List.not_mem_nil, or_false] at hr9; rcases hr9 with rfl | rfl | rfl | rfl | rfl | rfl | rfl | rfl; exact (hr 38 (by decide)); exact (hr 39 (by decide)); exact (hr 45 (by decide)); exact (hr 40 (by decide)); exact (hr 41 (by decide)); exact (hr 42 (by decide)); exact (hr 43 (by decide)); exact (hr 44 (by decide))) _ (tbm4 q hq) j)),
    (TBj.km (TBj.kc (E' := E') h.tb5 (hcf 5 (by decide) (by decide)) (hp.tb (J := 5) rfl)) (fun q hq j => (show ∀ r ∈ [46, 47, 48, 49, 50], ∀ j, xi (EM' r) j = xi (EM r) j from fun r hr9 => by simp only [List.mem_cons, List.not_mem_nil, or_false] at hr9; rcases hr9 with rfl | rfl | rfl | rfl | rfl; exact (hr 46 (by decide)); exact (hr 47 (by decide)); exact (hr 48 (by decide)); exact (hr 49 (by decide)); exact (hr 50 (by decide))) _ (tbm5 q hq) j)),
    (h.eb.kc (hcf 2 (by decide) (by decide)) hn0 hb0 (fun i hi => hp 6 i 0 (by decide) (by decide) rfl hi) (fun i j hi => hp 7 i j (by decide) (by decide) rfl hi)),
    RD.km (RD.kc (E' := E') h.rd (hcf 2 (by decide) (by decide)) hn0 (fun i j hi => hp 8 i j (by decide) (by decide) rfl hi)) (hs 48 (by decide)) (hr 29 (by decide)) (hr 30 (by decide)) (hr 31 (by decide)),
    ST.km (ST.kc (E' := E') h.st (hcf 2 (by decide) (by decide)) hb0 (fun i j hi => hp 9 i j (by decide) (by decide) rfl hi) (fun i j hi => hp 10 i j (by decide) (by decide) rfl hi)) (hr 22 (by decide)) (hr 23 (by decide)),
    SW.km (SW.kc (E' := E') h.sw (hcf 2 (by decide) (by decide)) hn0 (fun i hi => hp 6 i 0 (by decide) (by decide) rfl hi) (fun i j hi => hp 11 i j (by decide) (by decide) rfl hi)) (hr 19 (by decide)),
    DC.km (DC.kc (E' := E') h.dc (hcf 5 (by decide) (by decide)) hn0 (fun i j hi => hp 14 i j (by decide) (by decide) rfl hi)) (hr 52 (by decide)) (hr 53 (by decide)) (hr 54 (by decide)) (hr 55 (by decide)),
    (h.tn0.kc (hcf 0 (by decide) (by decide)) hn0 (hp.tn (J := 0) rfl)),
    (h.tn2.kc (hcf 2 (by decide) (by decide)) hn0 (hp.tn (J := 2) rfl)),
    (h.tn3.kc (hcf 3 (by decide) (by decide)) hn0 (hp.tn (J := 3) rfl)),
    (h.tn4.kc (hcf 4 (by decide) (by decide)) hn0 (hp.tn (J := 4) rfl)),
    (h.tn5.kc (hcf 5 (by decide) (by decide)) hn0 (hp.tn (J := 5) rfl)),
    (h.rmo.kc (hcf 2 (by decide) (by decide)) (fun i hi => hp 6 i 0 (by decide) (by decide) rfl hi)),
    (h.er3.kc (hcf 3 (by decide) (by decide)) (Nat.le_of_eq ((hcf 2 (by decide) (by decide))).symm) hst (hp.er (J := 3) rfl)),
    (h.er4.kc (hcf 4 (by decide) (by decide)) (Nat.le_of_eq ((hcf 2 (by decide) (by decide))).symm) hst (hp.er (J := 4) rfl)),
    (h.er5.kc (hcf 5 (by decide) (by decide)) (Nat.le_of_eq ((hcf 2 (by decide) (by decide))).symm) hst (hp.er (J := 5) rfl)),
    (h.pne.kc (hcf 5 (by decide) (by decide)) (fun i hi => hp 14 i 1 (by decide) (by decide) rfl hi) (fun i hi => hp 14 i 2 (by decide) (by decide) rfl hi)),
    DZ.km (DZ.kc (cf' := _) h.dz (Nat.le_of_eq ((hcf 5 (by decide) (by decide))).symm)) (hr 54 (by decide)) (hr 55 (by decide)),
    RRo.km (RRo.kc (cf' := _) h.rro (Nat.le_of_eq ((hcf 2 (by decide) (by decide))).symm)) (hs 48 (by decide)) (hr 29 (by decide))⟩
theorem kpS {w : Nat → Nat → Bool} {E E' : Nat → va_E} (h : Kp w E E') (hw : relS.all (fun j => !w 0 j) = true) : ∀ j ∈ relS, xi (E' 0) j = xi (E 0) j := fun j hj => xik h (by have := List.all_eq_true.mp hw j hj; simpa using this)
theorem kpR {a : List Nat} {b : List (Nat × Nat)} {E E' : Nat → va_E} (h : Kp (wl a b) E E') (hw : relR.all (fun o => !a.contains o && b.all (fun q => q.1 != o)) = true) : ∀ r ∈ relR, ∀ j, xi (E' r) j = xi (E r) j := fun r hr j => xik h (wl_row (List.all_eq_true.mp hw r hr))
theorem rowt {J t t' i n : Nat} (ht : t < 15) (ht' : t' < 15) (hk : kl t' = J) (h : kl t = J → i < n) : 64 * (i + 1) + t ≠ 64 * (n + 1) + t' := by
  by_cases e : t = t'
  · subst e
    have := h hk
    omega
  · omega
theorem made_p {J : Nat} {cT : Nat → ClassId} {cf ad : Nat → Nat} {w : Nat → Nat → Bool} {E : Nat → va_E} {u : (Nat → Nat) × (Nat → Nat) × (Nat → va_E)} {No : Prop} {Yes : va_E → Prop} (h : Made J cT cf ad w E u No Yes) (hJ : J < 6) (hw : ∀ o j, 64 ≤ o → w o j = false) : ∀ t i j, t < 15 → i < cf (kl t) → xi (u.2.2 (64 * (i + 1) + t)) j = xi (E (64 * (i + 1) + t)) j := by
  obtain ⟨h1, h2, ⟨h3, h4, h5, -⟩ | ⟨h3, h4, h5, -⟩⟩ := h
  · exact fun t i j _ _ => congrArg vi (h5 _ j (hw _ j (by omega)))
  · exact fun t i j ht hi => congrArg vi (h5 _ j (by omega) (by omega) (fun t' ht' hk => rowt ht ht' hk (fun e => by rw [e] at hi; exact hi)) (hw _ j (by omega)))
theorem madeX_p {J : Nat} {cT : Nat → ClassId} {cf ad : Nat → Nat} {w : Nat → Nat → Bool} {E : Nat → va_E} {u : (Nat → Nat) × (Nat → Nat) × (Nat → va_E)} {No : Prop} {Yes : (Nat → Nat) × (Nat → Nat) × (Nat → va_E) → Prop} (h : MadeX J cT cf ad w E u No Yes) (hJ : J < 6) (hw : ∀ o j, 64 ≤ o → w o j = false) : ∀ t i j, t < 15 → i < cf (kl t) → xi (u.2.2 (64 * (i + 1) + t)) j = xi (E (64 * (i + 1) + t)) j := by
  obtain ⟨h1, h2, ⟨h3, h4, h5, -⟩ | ⟨h3, h4, h5, -⟩⟩ := h
  · exact fun t i j _ _ => congrArg vi (h5 _ j (hw _ j (by omega)))
  · exact fun t i j ht hi => congrArg vi (h5 _ j (by omega) (by omega) (fun t' ht' hk => rowt ht ht' hk (fun e => by rw [e] at hi; exact hi)) (hw _ j (by omega)))
theorem EB.up {cf : Nat → Nat} {E E' : Nat → va_E} {a b x : Int32} (h : EB cf E) (hb : 0 ≤ b.toInt ∧ b.toInt < 16) (hbb : b.toInt < (xi (E 1) 1).toInt) (h0 : xi (E' 1) 0 = xi (E 1) 0) (h1 : xi (E' 1) 1 = xi (E 1) 1) (h6 : ∀ i, i < cf 2 → xi (E' (64 * (i + 1) + 6)) 0 = xi (E (64 * (i + 1) + 6)) 0) (ht : ∀ i, i < cf 2 → (xi (E (64 * (i + 1) + 6)) 0).toInt ≤ (xi (E 1) 0).toInt) (hk : ∀ i j, i ≠ a.toNatClampNeg → xi (E' (64 * (i + 1) + 7)) j = xi (E (64 * (i + 1) + 7)) j) (h7 : xi (E' (64 * (a.toNatClampNeg + 1) + 7)) = upd (xi (E (64 * (a.toNatClampNeg + 1) + 7))) b.toNatClampNeg x) (hx : x = xi (E 1) 0) : EB cf E' := fun i j hi hj => by
  rw [h6 i hi, h0, h1]
  by_cases hij : i = a.toNatClampNeg ∧ j = b.toNatClampNeg
  · obtain ⟨rfl, rfl⟩ := hij
    rw [h7, pk_us, hx]
    exact Or.inr ⟨ht _ hi, Int.le_refl _, by rw [tn_]; omega⟩
  · have e8 : xi (E' (64 * (i + 1) + 7)) j = xi (E (64 * (i + 1) + 7)) j := by
      by_cases ei : i = a.toNatClampNeg
      · subst ei
        rw [h7, upd_n (fun e => hij ⟨rfl, e⟩)]
      · exact hk i j ei
    rw [e8]
    exact h i j hi hj
theorem ENst.up {nr : Nat} {E E' : Nat → va_E} {a b x : Int32} (hk : ∀ i j, i ≠ a.toNatClampNeg → xi (E' (64 * (i + 1) + 7)) j = xi (E (64 * (i + 1) + 7)) j) (h7 : xi (E' (64 * (a.toNatClampNeg + 1) + 7)) = upd (xi (E (64 * (a.toNatClampNeg + 1) + 7))) b.toNatClampNeg x) (hz : (xi (E (64 * (a.toNatClampNeg + 1) + 7)) b.toNatClampNeg).toInt = -1) : ENst nr E E' := fun i j hi hj hne => by
  by_cases ei : i = a.toNatClampNeg
  · subst ei
    by_cases ej : j = b.toNatClampNeg
    · subst ej
      exact absurd hz hne
    · rw [h7, upd_n ej]
  · exact hk i j ei
theorem eb_m1 {cf : Nat → Nat} {E : Nat → va_E} {a b : Int32} (h : EB cf E) (ha : 0 ≤ a.toInt ∧ a.toInt < ((cf 2 : Nat) : Int)) (hb : 0 ≤ b.toInt ∧ b.toInt < 16) (hne : ¬ (¬ (xi (E (64 * (a.toNatClampNeg + 1) + 7)) b.toNatClampNeg).toInt = -1 ∧ (xi (E (64 * (a.toNatClampNeg + 1) + 7)) b.toNatClampNeg).toInt ≤ (xi (E 1) 0).toInt)) : (xi (E (64 * (a.toNatClampNeg + 1) + 7)) b.toNatClampNeg).toInt = -1 := by
  have h1 := h a.toNatClampNeg b.toNatClampNeg (by rw [tn_]; omega) (by rw [tn_]; omega)
  omega
/-- REDRESS told by both sides or by neither -/
theorem rd_eq {cf : Nat → Nat} {E EM : Nat → va_E} {a b : Int32} (h : RD cf E EM) (ha : 0 ≤ a.toInt ∧ a.toInt < ((cf 2 : Nat) : Int)) (hb : 0 ≤ b.toInt ∧ b.toInt < 16) {q : Int} (hq : q = (xi (E 1) 0).toInt) (ht : ∀ k : Nat, (k : Int) < (xi (EM 0) 48).toInt → 0 ≤ (xi (EM 31) k).toInt) : (xi (E (64 * (a.toNatClampNeg + 1) + 8)) b.toNatClampNeg).toInt = -1 ↔ ∀ k : Nat, (k : Int) < (xi (EM 0) 48).toInt → ¬ ((xi (EM 29) k).toInt = a.toInt ∧ (xi (EM 30) k).toInt = b.toInt ∧ (xi (EM 31) k).toInt ≤ q) := by
  obtain ⟨h1, h2⟩ := h a.toNatClampNeg b.toNatClampNeg (by rw [tn_]; omega) (by rw [tn_]; omega)
  constructor
  · rintro e k hk ⟨q1, q2, q3⟩
    have := h1 k hk (by rw [q1, tn_]; omega) (by rw [q2, tn_]; omega)
    have := ht k hk
    omega
  · intro hh
    by_cases e : (xi (E (64 * (a.toNatClampNeg + 1) + 8)) b.toNatClampNeg).toInt = -1
    · exact e
    · exfalso
      obtain ⟨⟨k, k1, k2, k3⟩, k4⟩ := h2 e
      have k5 := h1 k k1 k2 k3
      exact hh k k1 ⟨by rw [k2, tn_]; omega, by rw [k3, tn_]; omega, by omega⟩
/-! ===== answers alike, and keepers but for some ===== -/
theorem cO_cg {gB gF gT gB' gF' gT' : Nat → Int32} {boat day q : Int32} : ∀ n : Nat, n ≤ 4000 → (∀ k, k < n → gB k = gB' k ∧ gF k = gF' k ∧ gT k = gT' k) → cO gB gF gT boat day q n = cO gB' gF' gT' boat day q n ∧ (cO gB' gF' gT' boat day q n = -1 ∨ (cO gB' gF' gT' boat day q n).toNatClampNeg < n) := by
  intro n
  induction n with
  | zero => exact fun _ _ => ⟨rfl, Or.inl rfl⟩
  | succ n ih =>
    intro hn h
    obtain ⟨i1, i2⟩ := ih (by omega) (fun k hk => h k (by omega))
    obtain ⟨e1, e2, e3⟩ := h n (by omega)
    have hc : (cO gB gF gT boat day q n = -1 ∨ gF (cO gB gF gT boat day q n).toNatClampNeg ≤ gF n) ↔ (cO gB' gF' gT' boat day q n = -1 ∨ gF' (cO gB' gF' gT' boat day q n).toNatClampNeg ≤ gF' n) := by
      rw [i1, e2]
      rcases i2 with i2 | i2
      · exact ⟨fun _ => Or.inl i2, fun _ => Or.inl i2⟩
      · rw [(h _ (Nat.lt_succ_of_lt i2)).2.1]
    by_cases c : gB' n = boat ∧ gT' n ≤ q ∧ gF' n ≤ day ∧ (cO gB' gF' gT' boat day q n = -1 ∨ gF' (cO gB' gF' gT' boat day q n).toNatClampNeg ≤ gF' n)
    · have k1 : cO gB gF gT boat day q (n + 1) = nI n := if_pos ⟨e1.trans c.1, by rw [e3]; exact c.2.1, by rw [e2]; exact c.2.2.1, hc.mpr c.2.2.2⟩
      have k2 : cO gB' gF' gT' boat day q (n + 1) = nI n := if_pos c
      exact ⟨k1.trans k2.symm, Or.inr (by rw [k2, tn_, nI_toInt (by omega)]; omega)⟩
    · have k1 : cO gB gF gT boat day q (n + 1) = cO gB gF gT boat day q n := if_neg (fun d => c ⟨e1.symm.trans d.1, by rw [← e3]; exact d.2.1, by rw [← e2]; exact d.2.2.1, hc.mp d.2.2.2⟩)
      have k2 : cO gB' gF' gT' boat day q (n + 1) = cO gB' gF' gT' boat day q n := if_neg c
      exact ⟨(k1.trans i1).trans k2.symm, i2.imp (fun e => k2.trans e) (fun e => by rw [k2]; omega)⟩
theorem rowb9 {cT : Nat → ClassId} {cf ad : Nat → Nat} {E : Nat → va_E} (hC : CF cf) (hI : IXL cT (shC cf) (spC cf) (LC cf) ad E) {i j : Nat} (hi : i < cf 2) (hj : j < 16) : (-1 : Int) ≤ (xi (E (64 * (i + 1) + 9)) j).toInt ∧ (xi (E (64 * (i + 1) + 9)) j).toInt ≤ 9 := hI.iv (64 * (i + 1) + 9) (mP 9 i (by decide) hi (kl_le hC 2 (by decide))) (shC_p 9 i (by decide)) hj (spC_p 9 i (by decide) j)
theorem rowb10 {cT : Nat → ClassId} {cf ad : Nat → Nat} {E : Nat → va_E} (hC : CF cf) (hI : IXL cT (shC cf) (spC cf) (LC cf) ad E) {i j : Nat} (hi : i < cf 2) (hj : j < 16) : (0 : Int) ≤ (xi (E (64 * (i + 1) + 10)) j).toInt ∧ (xi (E (64 * (i + 1) + 10)) j).toInt ≤ 600 := hI.iv (64 * (i + 1) + 10) (mP 10 i (by decide) hi (kl_le hC 2 (by decide))) (shC_p 10 i (by decide)) hj (spC_p 10 i (by decide) j)
theorem kpSx {w : Nat → Nat → Bool} {E E' : Nat → va_E} (L : List Nat) (h : Kp w E E') (hw : relS.all (fun j => L.contains j || !w 0 j) = true) : ∀ j ∈ relS, L.contains j = false → xi (E' 0) j = xi (E 0) j := fun j hj hL => xik h (by
  have := List.all_eq_true.mp hw j hj
  rw [hL] at this
  simpa using this)
theorem kpRx {a : List Nat} {b : List (Nat × Nat)} {E E' : Nat → va_E} (L : List Nat) (h : Kp (wl a b) E E') (hw : relR.all (fun o => L.contains o || (!a.contains o && b.all (fun q => q.1 != o))) = true) : ∀ r ∈ relR, L.contains r = false → ∀ j, xi (E' r) j = xi (E r) j := fun r hr hL j => xik h (wl_row (by
  have := List.all_eq_true.mp hw r hr
  rw [hL, Bool.false_or] at this
  exact this))
theorem kpRy {E E' : Nat → va_E} (L : List Nat) (h : ∀ r ∈ relR, L.contains r = false → ∀ j, xi (E' r) j = xi (E r) j) (hl : ∀ r ∈ L, ∀ j, xi (E' r) j = xi (E r) j) : ∀ r ∈ relR, ∀ j, xi (E' r) j = xi (E r) j := fun r hr j => by
  cases c : L.contains r with
  | true => exact hl r (by simpa using c) j
  | false => exact h r hr c j
theorem kpSy {E E' : Nat → va_E} (L : List Nat) (h : ∀ j ∈ relS, L.contains j = false → xi (E' 0) j = xi (E 0) j) (hl : ∀ j ∈ L, xi (E' 0) j = xi (E 0) j) : ∀ j ∈ relS, xi (E' 0) j = xi (E 0) j := fun j hj => by
  cases c : L.contains j with
  | true => exact hl j (by simpa using c)
  | false => exact h j hj c
theorem EN.ml {cf : Nat → Nat} {E EM EM' : Nat → va_E} (h : EN cf E EM) (hk : ∀ j, j < 16 * cf 2 → xi (EM' 21) j = xi (EM 21) j) : EN cf E EM' := fun i b hi hb => by
  rw [hk _ (by omega)]
  exact h i b hi hb
theorem ST.ml {cf : Nat → Nat} {E EM EM' : Nat → va_E} (h : ST cf E EM) (h1 : ∀ j, j < 16 * cf 2 → xi (EM' 22) j = xi (EM 22) j) (h2 : ∀ j, xi (EM' 23) j = xi (EM 23) j) : ST cf E EM' := fun i b hi hb => by
  rw [h1 _ (by omega), h2]
  exact h i b hi hb
/-- a PROTEST is decided on both sides or on neither -/
theorem dc_eq {cf : Nat → Nat} {E EM : Nat → va_E} {a : Int32} (h : DC cf E EM) (ha : 0 ≤ a.toInt ∧ a.toInt < ((cf 5 : Nat) : Int)) : (((xi (E (64 * (a.toNatClampNeg + 1) + 14)) 7).toInt = -1 ∧ ¬ (xi (E (64 * (a.toNatClampNeg + 1) + 14)) 5).toInt = -1) ∨ (¬ (xi (E (64 * (a.toNatClampNeg + 1) + 14)) 7).toInt = -1 ∧ ¬ (xi (E (64 * (a.toNatClampNeg + 1) + 14)) 8).toInt = -1) ↔ ¬ (xi (EM 55) a.toNatClampNeg).toInt = 0) ∧ ((xi (E (64 * (a.toNatClampNeg + 1) + 14)) 7).toInt = -1 ∧ ¬ (xi (E (64 * (a.toNatClampNeg + 1) + 14)) 5).toInt = -1 ↔ ¬ (xi (EM 55) a.toNatClampNeg).toInt = 0 ∧ ¬ (xi (EM 54) a.toNatClampNeg).toInt = 2) := by
  have hd := (h a.toNatClampNeg (by rw [tn_]; omega)).1
  unfold DCp at hd
  dsimp only at hd
  omega
/-! ===== the TAPE, and when RULES are told and from when ===== -/
def TP (cf : Nat → Nat) (E EM : Nat → va_E) : Prop := tN E = lMn EM ∧ tT E = fM EM ∧ (xi (EM 0) 17).toInt = ((cf 1 : Nat) : Int) ∧ ∀ i, i < cf 1 → xi (E (64 * (i + 1) + 1)) 0 = xi (EM 10) i ∧ xi (E (64 * (i + 1) + 1)) 1 = xi (EM 11) i
def REL4 (cf : Nat → Nat) (E EM : Nat → va_E) : Prop := REL cf E EM ∧ TP cf E EM
theorem TP.keep {cf cf' : Nat → Nat} {E E' EM EM' : Nat → va_E} (h : TP cf E EM) (hc : cf' 1 = cf 1) (h1 : xi (E' 2) 1 = xi (E 2) 1) (h21 : ∀ j, xi (E' 21) j = xi (E 21) j) (hp : ∀ i j, i < cf 1 → xi (E' (64 * (i + 1) + 1)) j = xi (E (64 * (i + 1) + 1)) j) (m16 : xi (EM' 0) 16 = xi (EM 0) 16) (m17 : xi (EM' 0) 17 = xi (EM 0) 17) (m7 : ∀ j, xi (EM' 7) j = xi (EM 7) j) (mf : ∀ j, xi (EM' 10) j = xi (EM 10) j) (mt : ∀ j, xi (EM' 11) j = xi (EM 11) j) : TP cf' E' EM' := by
  obtain ⟨a1, a2, a3, a4⟩ := h
  have e1 : tN E' = tN E := congrArg Int32.toNatClampNeg h1
  have e2 : tT E' = tT E := funext (fun j => congrArg Int32.toInt (h21 j))
  have e3 : lMn EM' = lMn EM := congrArg Int32.toNatClampNeg m16
  have e4 : fM EM' = fM EM := funext (fun j => by unfold fM; rw [m7])
  refine ⟨by rw [e1, e3]; exact a1, by rw [e2, e4]; exact a2, by rw [m17, hc]; exact a3, fun i hi => ?_⟩
  rw [hc] at hi
  rw [hp i 0 hi, hp i 1 hi, mf, mt]
  exact a4 i hi
theorem TP.text {cf : Nat → Nat} {E EM : Nat → va_E} (h : TP cf E EM) : textS false (tT E) (tN E) = textS true (mB (xi (EM 7)) 0) (xi (EM 0) 16).toNatClampNeg := by
  obtain ⟨a1, a2, -, -⟩ := h
  rw [text_eq, a1, a2]
  have e : fM EM = mB (xi (EM 7)) 0 := funext (fun j => by
    show (xi (EM 7) j).toInt % 256 = (xi (EM 7) (0 + j)).toInt % 256
    rw [Nat.zero_add])
  rw [e]
  rfl
theorem made_f {J : Nat} {cT : Nat → ClassId} {cf ad : Nat → Nat} {w : Nat → Nat → Bool} {E : Nat → va_E} {u : (Nat → Nat) × (Nat → Nat) × (Nat → va_E)} {No : Prop} {Yes : va_E → Prop} (h : Made J cT cf ad w E u No Yes) {o j : Nat} (ho : o ≠ 7 + J ∧ o ≠ 13 + J ∧ o < 64) (hw : w o j = false) : xi (u.2.2 o) j = xi (E o) j := by
  obtain ⟨h1, h2, ⟨h3, h4, h5, -⟩ | ⟨h3, h4, h5, -⟩⟩ := h
  · exact congrArg vi (h5 o j hw)
  · exact congrArg vi (h5 o j ho.1 ho.2.1 (fun t _ _ => by omega) hw)
theorem madeX_f {J : Nat} {cT : Nat → ClassId} {cf ad : Nat → Nat} {w : Nat → Nat → Bool} {E : Nat → va_E} {u : (Nat → Nat) × (Nat → Nat) × (Nat → va_E)} {No : Prop} {Yes : (Nat → Nat) × (Nat → Nat) × (Nat → va_E) → Prop} (h : MadeX J cT cf ad w E u No Yes) {o j : Nat} (ho : o ≠ 7 + J ∧ o ≠ 13 + J ∧ o < 64) (hw : w o j = false) : xi (u.2.2 o) j = xi (E o) j := by
  obtain ⟨h1, h2, ⟨h3, h4, h5, -⟩ | ⟨h3, h4, h5, -⟩⟩ := h
  · exact congrArg vi (h5 o j hw)
  · exact congrArg vi (h5 o j ho.1 ho.2.1 (fun t _ _ => by omega) hw)
theorem TP.feed {cf : Nat → Nat} {E E' EM EM' : Nat → va_E} {l : List Int} (h : TP cf E EM) (hc : FedC l E E') (hm : FedM l EM EM') (hp : ∀ i j, i < cf 1 → xi (E' (64 * (i + 1) + 1)) j = xi (E (64 * (i + 1) + 1)) j) (m17 : xi (EM' 0) 17 = xi (EM 0) 17) (mf : ∀ j, xi (EM' 10) j = xi (EM 10) j) (mt : ∀ j, xi (EM' 11) j = xi (EM 11) j) : TP cf E' EM' := by
  obtain ⟨a1, a2, a3, a4⟩ := h
  obtain ⟨b1, b2⟩ := Fed.al hc hm a1 a2
  refine ⟨b1, b2, by rw [m17]; exact a3, fun i hi => ?_⟩
  rw [hp i 0 hi, hp i 1 hi, mf, mt]
  exact a4 i hi
theorem TP.set {cf : Nat → Nat} {E E' EM EM' : Nat → va_E} (h : TP cf E EM) (h1 : tN E' = lMn EM') (h21 : ∀ j, xi (E' 21) j = xi (E 21) j) (hp : ∀ i j, i < cf 1 → xi (E' (64 * (i + 1) + 1)) j = xi (E (64 * (i + 1) + 1)) j) (m17 : xi (EM' 0) 17 = xi (EM 0) 17) (m7 : ∀ j, xi (EM' 7) j = xi (EM 7) j) (mf : ∀ j, xi (EM' 10) j = xi (EM 10) j) (mt : ∀ j, xi (EM' 11) j = xi (EM 11) j) : TP cf E' EM' := by
  obtain ⟨a1, a2, a3, a4⟩ := h
  have e2 : tT E' = tT E := funext (fun j => congrArg Int32.toInt (h21 j))
  have e4 : fM EM' = fM EM := funext (fun j => by unfold fM; rw [m7])
  refine ⟨h1, by rw [e2, e4]; exact a2, by rw [m17]; exact a3, fun i hi => ?_⟩
  rw [hp i 0 hi, hp i 1 hi, mf, mt]
  exact a4 i hi
theorem TP.push {cf cf' : Nat → Nat} {E E' EM EM' : Nat → va_E} {a t n : Int32} (h : TP cf E EM) (hc : cf' 1 = cf 1 + 1) (h1 : tN E' = lMn EM') (h21 : ∀ j, xi (E' 21) j = xi (E 21) j) (hp : ∀ i j, i < cf 1 → xi (E' (64 * (i + 1) + 1)) j = xi (E (64 * (i + 1) + 1)) j) (hn : n = xi (EM 0) 17) (m17 : (xi (EM' 0) 17).toInt = n.toInt + 1) (m7 : ∀ j, xi (EM' 7) j = xi (EM 7) j) (c0 : xi (E' (64 * (cf 1 + 1) + 1)) 0 = a) (c1 : xi (E' (64 * (cf 1 + 1) + 1)) 1 = t) (mf : xi (EM' 10) = upd (xi (EM 10)) n.toNatClampNeg a) (mt : xi (EM' 11) = upd (xi (EM 11)) n.toNatClampNeg t) : TP cf' E' EM' := by
  obtain ⟨a1, a2, a3, a4⟩ := h
  have e2 : tT E' = tT E := funext (fun j => congrArg Int32.toInt (h21 j))
  have e4 : fM EM' = fM EM := funext (fun j => by unfold fM; rw [m7])
  have hN : n.toNatClampNeg = cf 1 := by
    rw [tn_, hn]
    omega
  refine ⟨h1, by rw [e2, e4]; exact a2, by rw [m17, hc, hn]; omega, fun i hi => ?_⟩
  rw [hc] at hi
  rw [mf, mt, hN]
  by_cases e : i = cf 1
  · subst e
    rw [pk_us, pk_us]
    exact ⟨c0, c1⟩
  · rw [hp i 0 (by omega), hp i 1 (by omega), upd_n e, upd_n e]
    exact a4 i (by omega)
/-! ===== RULES' TEXTS on both sides ===== -/
def RT (cf : Nat → Nat) (E EM : Nat → va_E) : Prop := RulAll cf E ∧ ∀ i, i < cf 1 → ∃ a, mTx EM i = .good a (clE E i (cf (8 + 2 * i)))
def REL5 (cf : Nat → Nat) (E EM : Nat → va_E) : Prop := REL4 cf E EM ∧ RT cf E EM
theorem RT.keep {cf cf' : Nat → Nat} {E E' EM EM' : Nat → va_E} (h : RT cf E EM) (hc : cf' 1 = cf 1) (h8 : ∀ i, i < cf 1 → cf' (8 + 2 * i) = cf (8 + 2 * i) ∧ cf' (9 + 2 * i) = cf (9 + 2 * i)) (hp : ∀ i, i < cf 1 → ∀ t, 2 ≤ t → t < 6 → ∀ j, xi (E' (64 * (i + 1) + t)) j = xi (E (64 * (i + 1) + t)) j) (mx : ∀ j, xi (EM' 8) j = xi (EM 8) j) (ml : ∀ j, xi (EM' 9) j = xi (EM 9) j) : RT cf' E' EM' := by
  obtain ⟨a1, a2⟩ := h
  refine ⟨fun i hi => ?_, fun i hi => ?_⟩
  · rw [hc] at hi
    rw [(h8 i hi).1, (h8 i hi).2]
    exact (a1 i hi).cg (hp i hi)
  · rw [hc] at hi
    obtain ⟨a, e⟩ := a2 i hi
    rw [(h8 i hi).1, clE_cg (hp i hi), mTx_cg mx ml]
    exact ⟨a, e⟩
theorem RT.push {cf cf' : Nat → Nat} {E E' EM EM' : Nat → va_E} {n y : Int32} (h : RT cf E EM) (hc : cf' 1 = cf 1 + 1) (h8 : ∀ i, i < cf 1 → cf' (8 + 2 * i) = cf (8 + 2 * i) ∧ cf' (9 + 2 * i) = cf (9 + 2 * i)) (hp : ∀ i, i < cf 1 → ∀ t, 2 ≤ t → t < 6 → ∀ j, xi (E' (64 * (i + 1) + t)) j = xi (E (64 * (i + 1) + t)) j) (hw : RuNew E cf cf' E') (hn : n.toNatClampNeg = cf 1) (hm : CpI n.toNatClampNeg y.toNatClampNeg EM EM') (hl : xi (EM' 9) = upd (xi (EM 9)) n.toNatClampNeg y) (hb : ∀ i, i < cf 1 → (xi (EM 9) i).toNatClampNeg ≤ 200) (ht : textS false (tT E) (tN E) = textS true (mB (xi (EM 7)) 0) y.toNatClampNeg) : RT cf' E' EM' := by
  obtain ⟨a1, a2⟩ := h
  obtain ⟨a, C, w1, w2, w3, w4, w5⟩ := hw
  rw [hn] at hm hl
  have hl1 : ∀ i, i ≠ cf 1 → xi (EM' 9) i = xi (EM 9) i := fun i hi => by rw [hl]; exact if_neg hi
  have hl2 : xi (EM' 9) (cf 1) = y := by
    rw [hl]
    exact if_pos rfl
  refine ⟨fun i hi => ?_, fun i hi => ?_⟩
  · rw [hc] at hi
    by_cases e : i = cf 1
    · subst e
      rw [w2, w3]
      exact w5
    · rw [(h8 i (by omega)).1, (h8 i (by omega)).2]
      exact (a1 i (by omega)).cg (hp i (by omega))
  · rw [hc] at hi
    by_cases e : i = cf 1
    · subst e
      rw [w2, w4, hm.new (by rw [hl2]), ← ht, w1]
      exact ⟨a, rfl⟩
    · obtain ⟨b, e1⟩ := a2 i (by omega)
      rw [(h8 i (by omega)).1, clE_cg (hp i (by omega)), hm.old (by omega) (hl1 i e) (hb i (by omega))]
      exact ⟨b, e1⟩
theorem RT.ru {cf : Nat → Nat} {E EM : Nat → va_E} (h : RT cf E EM) (hT : TP cf E EM) : RuRel cf E EM := ⟨h.1, hT.2.2.1, hT.2.2.2, h.2⟩
theorem REL.ce {cf : Nat → Nat} {E EM : Nat → va_E} (h : REL cf E EM) : CeRel cf E EM := ⟨h.cnt.1, fun i hi => ⟨h.tb0 (0, 0, 1) (by decide) i hi, h.tb0 (0, 1, 2) (by decide) i hi, h.tb0 (0, 2, 6) (by decide) i hi, h.tb0 (0, 3, 3) (by decide) i hi, h.tb0 (0, 4, 4) (by decide) i hi, h.tb0 (0, 5, 5) (by decide) i hi⟩⟩
theorem made_8 {J : Nat} {cT : Nat → ClassId} {cf ad : Nat → Nat} {w : Nat → Nat → Bool} {E : Nat → va_E} {u : (Nat → Nat) × (Nat → Nat) × (Nat → va_E)} {No : Prop} {Yes : va_E → Prop} (h : Made J cT cf ad w E u No Yes) (hJ : ¬ J = 1) (i : Nat) : u.1 (8 + 2 * i) = cf (8 + 2 * i) ∧ u.1 (9 + 2 * i) = cf (9 + 2 * i) := by
  obtain ⟨h1, h2, ⟨h3, h4, h5, -⟩ | ⟨h3, h4, h5, -⟩⟩ := h
  · rw [h3]
    exact ⟨rfl, rfl⟩
  · exact h3.2.2.2 i (fun q => absurd q hJ)
theorem madeX_8 {J : Nat} {cT : Nat → ClassId} {cf ad : Nat → Nat} {w : Nat → Nat → Bool} {E : Nat → va_E} {u : (Nat → Nat) × (Nat → Nat) × (Nat → va_E)} {No : Prop} {Yes : (Nat → Nat) × (Nat → Nat) × (Nat → va_E) → Prop} (h : MadeX J cT cf ad w E u No Yes) (hJ : ¬ J = 1) (i : Nat) : u.1 (8 + 2 * i) = cf (8 + 2 * i) ∧ u.1 (9 + 2 * i) = cf (9 + 2 * i) := by
  obtain ⟨h1, h2, ⟨h3, h4, h5, -⟩ | ⟨h3, h4, h5, -⟩⟩ := h
  · rw [h3]
    exact ⟨rfl, rfl⟩
  · exact h3.2.2.2 i (fun q => absurd q hJ)
theorem kl1 : ∀ t, 2 ≤ t → t < 6 → kl t = 1 := fun t h1 h2 => by
  rcases (show t = 2 ∨ t = 3 ∨ t = 4 ∨ t = 5 by omega) with rfl | rfl | rfl | rfl <;> rfl

theorem law_in {i k w : Int32} {L : Nat} (hi0 : 0 ≤ i.toInt) (hi8 : i.toInt + 8 ≤ (L : Int)) (hL : L ≤ 4096) (hk : 0 ≤ k.toInt ∧ k.toInt ≤ 7) (e : w = i + k) : vp_in w L := by
  obtain ⟨t, -⟩ := ti_add (a := 0) (b := 4096) (c := 0) (d := 7) (e := 0) (f := 5000) ⟨hi0, by omega⟩ hk e (by decide)
  exact vp_in_iff.mpr ⟨by omega, by omega⟩
theorem law_in0 {i : Int32} {L : Nat} (hi0 : 0 ≤ i.toInt) (hi8 : i.toInt + 8 ≤ (L : Int)) : vp_in i L := vp_in_iff.mpr ⟨hi0, by omega⟩

