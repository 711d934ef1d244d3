def tyX5 : Nat → FieldType := fun k => match k with
  | 0 => .int
  | 1 => .int
  | 2 => .int
  | 3 => .int
  | 4 => .int
  | 5 => .int
  | 6 => .int
  | 7 => .array .int
  | 8 => .array .int
  | 9 => .array .int
  | 10 => .array .int
  | _ => .array .int
theorem nmX5 : ∀ a, a < 12 → ∀ b, b < 12 → a ≠ b → (TX5 a).2.1 ≠ (TX5 b).2.1 := by decide +kernel
theorem tyX5_ok : ∀ k, k < 12 → parseFieldDescriptor (TX5 k).2.2.1 = some (tyX5 k) := by decide +kernel
set_option maxRecDepth 100000 in
theorem zh_dX5_init_0_0 : zc cX5_init 0 [42, 183, 0, 3, 42, 16, 16, 188, 10, 181, 0, 9, 42, 16, 16, 188] = true := by decide +kernel
set_option maxRecDepth 100000 in
theorem zh_dX5_init_15_16 : zc cX5_init 16 [10, 181, 0, 15, 42, 16, 16, 188, 10, 181, 0, 18, 42, 16, 16, 188] = true := by decide +kernel
set_option maxRecDepth 100000 in
theorem zh_dX5_init_31_32 : zc cX5_init 32 [10, 181, 0, 21, 42, 17, 1, 145, 188, 10, 181, 0, 24, 42, 27, 181] = true := by decide +kernel
set_option maxRecDepth 100000 in
theorem zh_dX5_init_47_48 : zc cX5_init 48 [0, 27, 42, 28, 181, 0, 31, 42, 29, 181, 0, 34, 42, 21, 4, 181] = true := by decide +kernel
set_option maxRecDepth 100000 in
theorem zh_dX5_init_63_64 : zc cX5_init 64 [0, 37, 42, 21, 5, 181, 0, 40, 42, 21, 6, 181, 0, 43, 42, 21] = true := by decide +kernel
set_option maxRecDepth 100000 in
theorem zh_dX5_init_79_80 : zc cX5_init 80 [7, 181, 0, 46, 42, 180, 0, 9, 2, 184, 0, 49, 42, 180, 0, 15] = true := by decide +kernel
set_option maxRecDepth 100000 in
theorem zh_dX5_init_96_96 : zc cX5_init 96 [2, 184, 0, 49, 42, 180, 0, 18, 2, 184, 0, 49, 177] = true := by decide +kernel
theorem dX5_init_0 : decode cX5_init 0 = .ok (.aload_n 0, 1) := zo_42 (zi_at zh_dX5_init_0_0 0 rfl)
theorem dX5_init_1 : decode cX5_init 1 = .ok (.invokespecial 3, 3) := zo_183 (zi_at zh_dX5_init_0_0 1 rfl) (zi_at zh_dX5_init_0_0 2 rfl) (zi_at zh_dX5_init_0_0 3 rfl) rfl
theorem dX5_init_4 : decode cX5_init 4 = .ok (.aload_n 0, 1) := zo_42 (zi_at zh_dX5_init_0_0 4 rfl)
theorem dX5_init_5 : decode cX5_init 5 = .ok (.bipush 16, 2) := zo_16 (zi_at zh_dX5_init_0_0 5 rfl) (zi_at zh_dX5_init_0_0 6 rfl) rfl
theorem dX5_init_7 : decode cX5_init 7 = .ok (.newarray .int, 2) := zo_188_10 (zi_at zh_dX5_init_0_0 7 rfl) (zi_at zh_dX5_init_0_0 8 rfl)
theorem dX5_init_9 : decode cX5_init 9 = .ok (.putfield 9, 3) := zo_181 (zi_at zh_dX5_init_0_0 9 rfl) (zi_at zh_dX5_init_0_0 10 rfl) (zi_at zh_dX5_init_0_0 11 rfl) rfl
theorem dX5_init_12 : decode cX5_init 12 = .ok (.aload_n 0, 1) := zo_42 (zi_at zh_dX5_init_0_0 12 rfl)
theorem dX5_init_13 : decode cX5_init 13 = .ok (.bipush 16, 2) := zo_16 (zi_at zh_dX5_init_0_0 13 rfl) (zi_at zh_dX5_init_0_0 14 rfl) rfl
theorem dX5_init_15 : decode cX5_init 15 = .ok (.newarray .int, 2) := zo_188_10 (zi_at zh_dX5_init_0_0 15 rfl) (zi_at zh_dX5_init_15_16 0 rfl)
theorem dX5_init_17 : decode cX5_init 17 = .ok (.putfield 15, 3) := zo_181 (zi_at zh_dX5_init_15_16 1 rfl) (zi_at zh_dX5_init_15_16 2 rfl) (zi_at zh_dX5_init_15_16 3 rfl) rfl
theorem dX5_init_20 : decode cX5_init 20 = .ok (.aload_n 0, 1) := zo_42 (zi_at zh_dX5_init_15_16 4 rfl)
theorem dX5_init_21 : decode cX5_init 21 = .ok (.bipush 16, 2) := zo_16 (zi_at zh_dX5_init_15_16 5 rfl) (zi_at zh_dX5_init_15_16 6 rfl) rfl
theorem dX5_init_23 : decode cX5_init 23 = .ok (.newarray .int, 2) := zo_188_10 (zi_at zh_dX5_init_15_16 7 rfl) (zi_at zh_dX5_init_15_16 8 rfl)
theorem dX5_init_25 : decode cX5_init 25 = .ok (.putfield 18, 3) := zo_181 (zi_at zh_dX5_init_15_16 9 rfl) (zi_at zh_dX5_init_15_16 10 rfl) (zi_at zh_dX5_init_15_16 11 rfl) rfl
theorem dX5_init_28 : decode cX5_init 28 = .ok (.aload_n 0, 1) := zo_42 (zi_at zh_dX5_init_15_16 12 rfl)
theorem dX5_init_29 : decode cX5_init 29 = .ok (.bipush 16, 2) := zo_16 (zi_at zh_dX5_init_15_16 13 rfl) (zi_at zh_dX5_init_15_16 14 rfl) rfl
theorem dX5_init_31 : decode cX5_init 31 = .ok (.newarray .int, 2) := zo_188_10 (zi_at zh_dX5_init_15_16 15 rfl) (zi_at zh_dX5_init_31_32 0 rfl)
theorem dX5_init_33 : decode cX5_init 33 = .ok (.putfield 21, 3) := zo_181 (zi_at zh_dX5_init_31_32 1 rfl) (zi_at zh_dX5_init_31_32 2 rfl) (zi_at zh_dX5_init_31_32 3 rfl) rfl
theorem dX5_init_36 : decode cX5_init 36 = .ok (.aload_n 0, 1) := zo_42 (zi_at zh_dX5_init_31_32 4 rfl)
theorem dX5_init_37 : decode cX5_init 37 = .ok (.sipush 401, 3) := zo_17 (zi_at zh_dX5_init_31_32 5 rfl) (zi_at zh_dX5_init_31_32 6 rfl) (zi_at zh_dX5_init_31_32 7 rfl) rfl
theorem dX5_init_40 : decode cX5_init 40 = .ok (.newarray .int, 2) := zo_188_10 (zi_at zh_dX5_init_31_32 8 rfl) (zi_at zh_dX5_init_31_32 9 rfl)
theorem dX5_init_42 : decode cX5_init 42 = .ok (.putfield 24, 3) := zo_181 (zi_at zh_dX5_init_31_32 10 rfl) (zi_at zh_dX5_init_31_32 11 rfl) (zi_at zh_dX5_init_31_32 12 rfl) rfl
theorem dX5_init_45 : decode cX5_init 45 = .ok (.aload_n 0, 1) := zo_42 (zi_at zh_dX5_init_31_32 13 rfl)
theorem dX5_init_46 : decode cX5_init 46 = .ok (.iload_n 1, 1) := zo_27 (zi_at zh_dX5_init_31_32 14 rfl)
theorem dX5_init_47 : decode cX5_init 47 = .ok (.putfield 27, 3) := zo_181 (zi_at zh_dX5_init_31_32 15 rfl) (zi_at zh_dX5_init_47_48 0 rfl) (zi_at zh_dX5_init_47_48 1 rfl) rfl
theorem dX5_init_50 : decode cX5_init 50 = .ok (.aload_n 0, 1) := zo_42 (zi_at zh_dX5_init_47_48 2 rfl)
theorem dX5_init_51 : decode cX5_init 51 = .ok (.iload_n 2, 1) := zo_28 (zi_at zh_dX5_init_47_48 3 rfl)
theorem dX5_init_52 : decode cX5_init 52 = .ok (.putfield 31, 3) := zo_181 (zi_at zh_dX5_init_47_48 4 rfl) (zi_at zh_dX5_init_47_48 5 rfl) (zi_at zh_dX5_init_47_48 6 rfl) rfl
theorem dX5_init_55 : decode cX5_init 55 = .ok (.aload_n 0, 1) := zo_42 (zi_at zh_dX5_init_47_48 7 rfl)
theorem dX5_init_56 : decode cX5_init 56 = .ok (.iload_n 3, 1) := zo_29 (zi_at zh_dX5_init_47_48 8 rfl)
theorem dX5_init_57 : decode cX5_init 57 = .ok (.putfield 34, 3) := zo_181 (zi_at zh_dX5_init_47_48 9 rfl) (zi_at zh_dX5_init_47_48 10 rfl) (zi_at zh_dX5_init_47_48 11 rfl) rfl
theorem dX5_init_60 : decode cX5_init 60 = .ok (.aload_n 0, 1) := zo_42 (zi_at zh_dX5_init_47_48 12 rfl)
theorem dX5_init_61 : decode cX5_init 61 = .ok (.iload 4, 2) := zo_21 (zi_at zh_dX5_init_47_48 13 rfl) (zi_at zh_dX5_init_47_48 14 rfl)
theorem dX5_init_63 : decode cX5_init 63 = .ok (.putfield 37, 3) := zo_181 (zi_at zh_dX5_init_47_48 15 rfl) (zi_at zh_dX5_init_63_64 0 rfl) (zi_at zh_dX5_init_63_64 1 rfl) rfl
theorem dX5_init_66 : decode cX5_init 66 = .ok (.aload_n 0, 1) := zo_42 (zi_at zh_dX5_init_63_64 2 rfl)
theorem dX5_init_67 : decode cX5_init 67 = .ok (.iload 5, 2) := zo_21 (zi_at zh_dX5_init_63_64 3 rfl) (zi_at zh_dX5_init_63_64 4 rfl)
theorem dX5_init_69 : decode cX5_init 69 = .ok (.putfield 40, 3) := zo_181 (zi_at zh_dX5_init_63_64 5 rfl) (zi_at zh_dX5_init_63_64 6 rfl) (zi_at zh_dX5_init_63_64 7 rfl) rfl
theorem dX5_init_72 : decode cX5_init 72 = .ok (.aload_n 0, 1) := zo_42 (zi_at zh_dX5_init_63_64 8 rfl)
theorem dX5_init_73 : decode cX5_init 73 = .ok (.iload 6, 2) := zo_21 (zi_at zh_dX5_init_63_64 9 rfl) (zi_at zh_dX5_init_63_64 10 rfl)
theorem dX5_init_75 : decode cX5_init 75 = .ok (.putfield 43, 3) := zo_181 (zi_at zh_dX5_init_63_64 11 rfl) (zi_at zh_dX5_init_63_64 12 rfl) (zi_at zh_dX5_init_63_64 13 rfl) rfl
theorem dX5_init_78 : decode cX5_init 78 = .ok (.aload_n 0, 1) := zo_42 (zi_at zh_dX5_init_63_64 14 rfl)
theorem dX5_init_79 : decode cX5_init 79 = .ok (.iload 7, 2) := zo_21 (zi_at zh_dX5_init_63_64 15 rfl) (zi_at zh_dX5_init_79_80 0 rfl)
theorem dX5_init_81 : decode cX5_init 81 = .ok (.putfield 46, 3) := zo_181 (zi_at zh_dX5_init_79_80 1 rfl) (zi_at zh_dX5_init_79_80 2 rfl) (zi_at zh_dX5_init_79_80 3 rfl) rfl
theorem dX5_init_84 : decode cX5_init 84 = .ok (.aload_n 0, 1) := zo_42 (zi_at zh_dX5_init_79_80 4 rfl)
theorem dX5_init_85 : decode cX5_init 85 = .ok (.getfield 9, 3) := zo_180 (zi_at zh_dX5_init_79_80 5 rfl) (zi_at zh_dX5_init_79_80 6 rfl) (zi_at zh_dX5_init_79_80 7 rfl) rfl
theorem dX5_init_88 : decode cX5_init 88 = .ok (.iconst (-1), 1) := zo_2 (zi_at zh_dX5_init_79_80 8 rfl)
theorem dX5_init_89 : decode cX5_init 89 = .ok (.invokestatic 49, 3) := zo_184 (zi_at zh_dX5_init_79_80 9 rfl) (zi_at zh_dX5_init_79_80 10 rfl) (zi_at zh_dX5_init_79_80 11 rfl) rfl
theorem dX5_init_92 : decode cX5_init 92 = .ok (.aload_n 0, 1) := zo_42 (zi_at zh_dX5_init_79_80 12 rfl)
theorem dX5_init_93 : decode cX5_init 93 = .ok (.getfield 15, 3) := zo_180 (zi_at zh_dX5_init_79_80 13 rfl) (zi_at zh_dX5_init_79_80 14 rfl) (zi_at zh_dX5_init_79_80 15 rfl) rfl
theorem dX5_init_96 : decode cX5_init 96 = .ok (.iconst (-1), 1) := zo_2 (zi_at zh_dX5_init_96_96 0 rfl)
theorem dX5_init_97 : decode cX5_init 97 = .ok (.invokestatic 49, 3) := zo_184 (zi_at zh_dX5_init_96_96 1 rfl) (zi_at zh_dX5_init_96_96 2 rfl) (zi_at zh_dX5_init_96_96 3 rfl) rfl
theorem dX5_init_100 : decode cX5_init 100 = .ok (.aload_n 0, 1) := zo_42 (zi_at zh_dX5_init_96_96 4 rfl)
theorem dX5_init_101 : decode cX5_init 101 = .ok (.getfield 18, 3) := zo_180 (zi_at zh_dX5_init_96_96 5 rfl) (zi_at zh_dX5_init_96_96 6 rfl) (zi_at zh_dX5_init_96_96 7 rfl) rfl
theorem dX5_init_104 : decode cX5_init 104 = .ok (.iconst (-1), 1) := zo_2 (zi_at zh_dX5_init_96_96 8 rfl)
theorem dX5_init_105 : decode cX5_init 105 = .ok (.invokestatic 49, 3) := zo_184 (zi_at zh_dX5_init_96_96 9 rfl) (zi_at zh_dX5_init_96_96 10 rfl) (zi_at zh_dX5_init_96_96 11 rfl) rfl
theorem dX5_init_108 : decode cX5_init 108 = .ok (.return_, 1) := zo_177 (zi_at zh_dX5_init_96_96 12 rfl)

theorem ub_sa_int {D : va_G} {cl : List vw_C} {tys : List (ClassId × FieldType)} {U : State} {a b : ClassId} (hK : va_K D cl tys U) (i j : Nat) (hi : tys[i]? = some (a, .int)) (hj : tys[j]? = some (b, .int)) : a = b := by
  have h1 : U.vm.findClass ("[" ++ FieldType.int.toString) = some a := (hK.2 i _ hi).2
  have h2 : U.vm.findClass ("[" ++ FieldType.int.toString) = some b := (hK.2 j _ hj).2
  exact Option.some.inj (h1.symm.trans h2)
theorem ub_sa_byte {D : va_G} {cl : List vw_C} {tys : List (ClassId × FieldType)} {U : State} {a b : ClassId} (hK : va_K D cl tys U) (i j : Nat) (hi : tys[i]? = some (a, .byte)) (hj : tys[j]? = some (b, .byte)) : a = b := by
  have h1 : U.vm.findClass ("[" ++ FieldType.byte.toString) = some a := (hK.2 i _ hi).2
  have h2 : U.vm.findClass ("[" ++ FieldType.byte.toString) = some b := (hK.2 j _ hj).2
  exact Option.some.inj (h1.symm.trans h2)
def v_x_fill : List Cond := .code yJ7_fill_53178 cJ7_fill_53178 4 none :: vA
set_option maxHeartbeats 4000000 in
set_option maxRecDepth 100000 in
theorem x_fill (l : Launch) (dC : Nat → ClassId) (dI : Nat → Nat → Nat) (a : Nat) (cA : ClassId) (n : Nat) (g0 : Nat → Int32) (v : Int32) (sz : Nat) (hn : n < 2 ^ 31) : Met l yJ7_fill_53178 v_x_fill ({ frames := 0, cells := 0, slots := 0, locals := 0 }) (va_Pc [.ref a, .int v] (fun U => U.heap.size = sz ∧ va_P (dC, dI) vwCl [(a, .inl (cA, n, .inl g0))] U.heap ∧ va_K (dC, dI) vwCl [(cA, .int)] U ∧ va_D (fun _ => True) [(a, .inl (cA, n, .inl g0))])) (va_Qv (S := Nat → Int32) (fun u => ∀ j, j < n → u j = v) (fun u t => va_P (dC, dI) vwCl [(a, .inl (cA, n, .inl u))] t.heap ∧ va_K (dC, dI) vwCl [(cA, .int)] t ∧ va_D (va_A [(a, .inl (cA, n, .inl g0))] sz) [(a, .inl (cA, n, .inl u))]) (va_A [(a, .inl (cA, n, .inl g0))] sz)) 0 0 (va_A [(a, .inl (cA, n, .inl g0))] sz) := by
  refine Met.ofW (cc := cJ7_fill_53178) (maxL := 4) (ret := none) (by decide) rfl ?_
  intro p e s m args below meth c s₁ B hml hv
  obtain ⟨rfl, hsz, hP, hK, hD0⟩ := hv
  have hx := B.exec
  have hb := B.bytes
  have hr := B.returns
  have hts := atoms_spec (ws := v_x_fill) B.pre
  have hown : s.vm.findClass RJ7 = some m.cls := findClass_of_methodNamed B.named
  have hlocks := B.notSynchronized
  subst hsz
  have hD := hD0.self (sz := s.heap.size)
  generalize hAe : va_A [(a, .inl (cA, n, .inl g0))] s.heap.size = A at hD ⊢
  have hA : ∀ q : Nat, s.heap.size ≤ q → A q := fun q h => by rw [← hAe]; exact Or.inr h
  have hS : va_S A s.heap s.heap [] := va_S.rf
  have hP : va_P (dC, dI) vwCl [(a, .inl (cA, n, .inl g0))] s.heap := hP
  have hl := lv_entry ([.ref a, .int v]) (n := 4) (Nat.le_of_ble_eq_true rfl)
  rw [lg_entry_eq]
  generalize (lg_sl ([.ref a, .int v]) ++ List.replicate (4 - (lg_sl ([.ref a, .int v])).length) Slot.unset).toArray = ls at hl ⊢
  have hl : lv_has ls 4 [(0, .ref a), (1, .int v)] := hl
  refine lv_iconst (v := 0) hx hb dJ7_fill_53178_0 (by decide) ?_
  refine lv_istore_n (lv' := [(2, .int 0), (0, .ref a), (1, .int v)]) hx hb dJ7_fill_53178_1 rfl hl (by decide) rfl (fun ls hl => ?_)
  refine lv_aload_n hx hb dJ7_fill_53178_2 rfl (lv_at hl 1 rfl) ?_
  refine va_alen (v := Int32.ofNat n) hx hb hK hP 0 0 rfl rfl rfl dJ7_fill_53178_3 ?_
  refine lv_istore_n (lv' := [(3, .int (Int32.ofNat n)), (2, .int 0), (0, .ref a), (1, .int v)]) hx hb dJ7_fill_53178_4 rfl hl (by decide) rfl (fun ls hl => ?_)
  have hLp : ∀ (d i : Nat) (gl0 : Nat → Int32) (H : Heap) (locs : List Loc) (ls : Array Slot), i + d = n → (∀ j, j < i → gl0 j = v) → va_P (dC, dI) vwCl [(a, .inl (cA, n, .inl gl0))] H → va_D A [(a, .inl (cA, n, .inl gl0))] → va_S A s.heap H locs → lv_has ls 4 [(3, .int (Int32.ofNat n)), (2, .int (nI i)), (0, .ref a), (1, .int v)] → W p l e (headSpec v_x_fill ({ frames := 0, cells := 0, slots := 0, locals := 0 })).room s m ([.ref a, .int v] : List Value).toArray below meth c H locs 0 0 (MQ below (va_Qv (S := Nat → Int32) (fun u => ∀ j, j < n → u j = v) (fun u t => va_P (dC, dI) vwCl [(a, .inl (cA, n, .inl u))] t.heap ∧ va_K (dC, dI) vwCl [(cA, .int)] t ∧ va_D (A) [(a, .inl (cA, n, .inl u))]) (A)) ([.ref a, .int v] : List Value).toArray s 0 0 (A)) (F0 m 5 ls []) := by
    intro d
    induction d with
    | zero =>
      intro i gl0 H locs ls hi hinv hP hD hS hl
      refine lv_iload_n hx hb dJ7_fill_53178_5 rfl (lv_at hl 1 rfl) ?_
      refine lv_iload_n hx hb dJ7_fill_53178_6 rfl (lv_at hl 0 rfl) ?_
      refine lv_icmp_ge (tgt := 20) hx hb dJ7_fill_53178_7 (by decide) (fun c1 => ?_) (fun c1 => by first | exact absurd c1 (nI_le (a := n) (b := i) (by omega) (by omega)) | exact absurd (nI_le (a := n) (b := i) (by omega) (by omega)) c1)
      obtain rfl : n = i := by omega
      have hP9 := hP.sub (ws' := [(a, .inl (cA, n, .inl gl0))]) [0] rfl
      have hD9 := hD.sub (ws' := [(a, .inl (cA, n, .inl gl0))]) [0] (by decide) rfl
      have hK9 := hK.sub (tys' := [(cA, .int)]) [0] rfl
      exact W.vret hx hb hr (fun t ht hW => ⟨⟨gl0, rfl, hinv, (by rw [ht]; exact hP9), va_K.moved hW.alike hK9, hD9⟩, hS.F ht⟩) hS.2.2 dJ7_fill_53178_20
    | succ d ih =>
      intro i gl0 H locs ls hi hinv hP hD hS hl
      refine lv_iload_n hx hb dJ7_fill_53178_5 rfl (lv_at hl 1 rfl) ?_
      refine lv_iload_n hx hb dJ7_fill_53178_6 rfl (lv_at hl 0 rfl) ?_
      refine lv_icmp_ge (tgt := 20) hx hb dJ7_fill_53178_7 (by decide) (fun c2 => by first | exact absurd c2 (nI_ge (a := i) (b := n) (by omega) (by omega)) | exact absurd (nI_ge (a := i) (b := n) (by omega) (by omega)) c2) (fun c2 => ?_)
      refine lv_aload_n hx hb dJ7_fill_53178_10 rfl (lv_at hl 2 rfl) ?_
      refine lv_iload_n hx hb dJ7_fill_53178_11 rfl (lv_at hl 1 rfl) ?_
      refine lv_iload_n hx hb dJ7_fill_53178_12 rfl (lv_at hl 3 rfl) ?_
      refine va_iast hx hb hK hP hD hS 0 0 rfl rfl (vp_in_nI (n := i) (N := n) (by omega) hn) dJ7_fill_53178_13 (fun H locs hP hD hS => ?_)
      obtain ⟨f3, ef3⟩ : ∃ z9 : Nat → Int32, z9 = upd gl0 (nI i).toNatClampNeg v := ⟨_, rfl⟩
      have hP : va_P (dC, dI) vwCl [(a, .inl (cA, n, .inl (upd gl0 (nI i).toNatClampNeg v)))] H := hP
      have hD : va_D A [(a, .inl (cA, n, .inl (upd gl0 (nI i).toNatClampNeg v)))] := hD
      rw [← ef3] at hP hD
      refine lv_iinc (v := nI (i + 1)) (lv' := [(2, .int (nI (i + 1))), (3, .int (Int32.ofNat n)), (0, .ref a), (1, .int v)]) hx hb dJ7_fill_53178_14 hl (k := 1) rfl (nI_1 _) (by decide) rfl (fun ls hl => ?_)
      refine lv_goto (tgt := 5) hx hb dJ7_fill_53178_17 (by decide) ?_
      exact ih (i + 1) f3 _ _ ls (by omega) (by rw [ef3, nI_clamp (by omega)]; exact upd_all hinv) hP hD hS (lv_sub hl [1, 0, 2, 3] rfl)
  exact hLp n 0 g0 _ _ ls (by omega) (fun j hj => absurd hj (Nat.not_lt_zero _)) hP hD hS (lv_sub hl [0, 1, 2, 3] rfl)
def v_x_Race : List Cond := .code yX5_init cX5_init 8 none :: vA
set_option maxHeartbeats 4000000 in
set_option maxRecDepth 100000 in
theorem x_Race (l : Launch) (dC : Nat → ClassId) (dI : Nat → Nat → Nat) (eo : Nat) (b0 : Int32) (b1 : Int32) (b2 : Int32) (b3 : Int32) (b4 : Int32) (b5 : Int32) (b6 : Int32) (cA : ClassId) (sz : Nat)  : Met l yX5_init v_x_Race ({ frames := 1, cells := 5, slots := 465, locals := 40 }) (va_Pc [.ref eo, .int b0, .int b1, .int b2, .int b3, .int b4, .int b5, .int b6] (fun U => U.heap.size = sz ∧ va_P (dC, dI) vwCl [(eo, .inr (6, [.int 0, .int 0, .int 0, .int 0, .int 0, .int 0, .int 0, .null, .null, .null, .null, .null]))] U.heap ∧ va_K (dC, dI) vwCl [(cA, .int)] U ∧ va_D (fun _ => True) [(eo, .inr (6, [.int 0, .int 0, .int 0, .int 0, .int 0, .int 0, .int 0, .null, .null, .null, .null, .null]))])) (va_Qv (S := Nat × Nat × Nat × Nat × Nat × (Nat → Int32) × (Nat → Int32) × (Nat → Int32)) (fun u => (∀ j, j < 16 → u.2.2.2.2.2.1 j = -1) ∧ (∀ j, j < 16 → u.2.2.2.2.2.2.1 j = -1) ∧ (∀ j, j < 16 → u.2.2.2.2.2.2.2 j = -1)) (fun u t => match u with | (y0, y1, y2, y3, y4, f0, f1, f2) => va_P (dC, dI) vwCl [(eo, .inr (6, [.int b0, .int b1, .int b2, .int b3, .int b4, .int b5, .int b6, .ref y0, .ref y1, .ref y2, .ref y3, .ref y4])), (y0, .inl (cA, 16, .inl f0)), (y1, .inl (cA, 16, .inl f1)), (y2, .inl (cA, 16, .inl f2)), (y3, .inl (cA, 16, .inl ((fun _ => (0 : Int32))))), (y4, .inl (cA, 401, .inl ((fun _ => (0 : Int32)))))] t.heap ∧ va_K (dC, dI) vwCl [(cA, .int)] t ∧ va_D (va_A [(eo, .inr (6, [.int 0, .int 0, .int 0, .int 0, .int 0, .int 0, .int 0, .null, .null, .null, .null, .null]))] sz) [(eo, .inr (6, [.int b0, .int b1, .int b2, .int b3, .int b4, .int b5, .int b6, .ref y0, .ref y1, .ref y2, .ref y3, .ref y4])), (y0, .inl (cA, 16, .inl f0)), (y1, .inl (cA, 16, .inl f1)), (y2, .inl (cA, 16, .inl f2)), (y3, .inl (cA, 16, .inl ((fun _ => (0 : Int32))))), (y4, .inl (cA, 401, .inl ((fun _ => (0 : Int32)))))]) (va_A [(eo, .inr (6, [.int 0, .int 0, .int 0, .int 0, .int 0, .int 0, .int 0, .null, .null, .null, .null, .null]))] sz)) 5 465 (va_A [(eo, .inr (6, [.int 0, .int 0, .int 0, .int 0, .int 0, .int 0, .int 0, .null, .null, .null, .null, .null]))] sz) := by
  refine Met.ofW (cc := cX5_init) (maxL := 8) (ret := none) (by decide) rfl ?_
  intro p e s m args below meth c s₁ B hml hv
  obtain ⟨rfl, hsz, hP, hK, hD0⟩ := hv
  have hx := B.exec
  have hb := B.bytes
  have hr := B.returns
  have hts := atoms_spec (ws := v_x_Race) B.pre
  have hown : s.vm.findClass RX5 = some m.cls := findClass_of_methodNamed B.named
  have hlocks := B.notSynchronized
  have hin : meth.name = "<init>" := (name_of_methodNamed B.named B.method).1
  subst hsz
  have hD := hD0.self (sz := s.heap.size)
  generalize hAe : va_A [(eo, .inr (6, [.int 0, .int 0, .int 0, .int 0, .int 0, .int 0, .int 0, .null, .null, .null, .null, .null]))] s.heap.size = A at hD ⊢
  have hA : ∀ q : Nat, s.heap.size ≤ q → A q := fun q h => by rw [← hAe]; exact Or.inr h
  have hS : va_S A s.heap s.heap [] := va_S.rf
  have hP : va_P (dC, dI) vwCl [(eo, .inr (6, [.int 0, .int 0, .int 0, .int 0, .int 0, .int 0, .int 0, .null, .null, .null, .null, .null]))] s.heap := hP
  have hl := lv_entry ([.ref eo, .int b0, .int b1, .int b2, .int b3, .int b4, .int b5, .int b6]) (n := 8) (Nat.le_of_ble_eq_true rfl)
  rw [lg_entry_eq]
  generalize (lg_sl ([.ref eo, .int b0, .int b1, .int b2, .int b3, .int b4, .int b5, .int b6]) ++ List.replicate (8 - (lg_sl ([.ref eo, .int b0, .int b1, .int b2, .int b3, .int b4, .int b5, .int b6])).length) Slot.unset).toArray = ls at hl ⊢
  have hl : lv_has ls 8 [(0, .ref eo), (1, .int b0), (2, .int b1), (3, .int b2), (4, .int b3), (5, .int b4), (6, .int b5), (7, .int b6)] := hl
  refine lv_aload_n hx hb dX5_init_0 rfl (lv_at hl 0 rfl) ?_
  refine W.objInit hx hb hown (hts _ (vA_in _ _ (in_21 _ (zs4 (zs4 (zs4 (zs1 (zs0)))))))) (hts _ (vA_in _ _ (in_4 _ (zs16 (zs1 (zs0)))))) (hts _ (vA_in _ _ (in_4 _ (zs16 (zs1 (zs1 (zs0))))))) rfl (by rw [hml]; exact hl.1) rfl dX5_init_1 (Nat.le_of_ble_eq_true rfl) (Nat.le_of_ble_eq_true rfl) ?_
  refine W.eq (g2 := F0 m 4 ls []) rfl ?_
  refine lv_aload_n hx hb dX5_init_4 rfl (lv_at hl 0 rfl) ?_
  refine lv_bipush (v := 16) hx hb dX5_init_5 (by decide) ?_
  refine va_newa (atype := .int) (ty := .int) (N' := 16) (a0 := (16, .inl (fun _ => (0 : Int32)))) hx hb (hts _ (vA_in _ _ (in_2 _ (zs16 (zs16 (zs4 (zs1 (zs1 (zs0))))))))) rfl hK hP hD hS hA (fun _ => rfl) (by decide) (by decide) (Nat.le_of_ble_eq_true rfl) (Nat.le_of_ble_eq_true rfl) (Nat.le_of_ble_eq_true rfl) dX5_init_7 (fun q1 kq1 H hK hP hD hS => ?_)
  have hK : va_K (dC, dI) vwCl [(cA, .int), (kq1, .int)] s := hK
  have hP : va_P (dC, dI) vwCl [(eo, .inr (6, [.int 0, .int 0, .int 0, .int 0, .int 0, .int 0, .int 0, .null, .null, .null, .null, .null])), (q1, .inl (kq1, 16, .inl (fun _ => (0 : Int32))))] H := hP
  have hD : va_D A [(eo, .inr (6, [.int 0, .int 0, .int 0, .int 0, .int 0, .int 0, .int 0, .null, .null, .null, .null, .null])), (q1, .inl (kq1, 16, .inl (fun _ => (0 : Int32))))] := hD
  refine W.widen (k := 1) (n := 16) (by first | exact Nat.le_of_ble_eq_true rfl | omega) (by first | exact Nat.le_of_ble_eq_true rfl | omega) ?_
  obtain rfl : cA = kq1 := ub_sa_int hK 0 1 rfl rfl
  have hK := hK.sub (tys' := [(cA, .int)]) [0] rfl
  refine va_putF (D := (dC, dI)) (ci := 6) (v := .ref q1) (ty := .array .int) (C := RX5) (T := TX5) (N := 12) hx hb hts (fun w h => vA_in _ w (in_X5 w h)) tyX5 tyX5_ok nmX5 hown hK hP hD hS 0 rfl rfl 7 (by decide) (hts _ (vA_in _ _ (in_6 _ (zs16 (zs1 (zs1 (zs1 (zs0)))))))) (fun _ h9 => h9) rfl hin rfl (by decide +kernel) rfl rfl (Nat.le_of_ble_eq_true rfl) dX5_init_9 (fun H locs hP hD hS => ?_)
  have hP : va_P (dC, dI) vwCl [(eo, .inr (6, [.int 0, .int 0, .int 0, .int 0, .int 0, .int 0, .int 0, .ref q1, .null, .null, .null, .null])), (q1, .inl (cA, 16, .inl (fun _ => (0 : Int32))))] H := hP
  have hD : va_D A [(eo, .inr (6, [.int 0, .int 0, .int 0, .int 0, .int 0, .int 0, .int 0, .ref q1, .null, .null, .null, .null])), (q1, .inl (cA, 16, .inl (fun _ => (0 : Int32))))] := hD
  refine lv_aload_n hx hb dX5_init_12 rfl (lv_at hl 0 rfl) ?_
  refine lv_bipush (v := 16) hx hb dX5_init_13 (by decide) ?_
  refine va_newa (atype := .int) (ty := .int) (N' := 16) (a0 := (16, .inl (fun _ => (0 : Int32)))) hx hb (hts _ (vA_in _ _ (in_2 _ (zs16 (zs16 (zs4 (zs1 (zs1 (zs0))))))))) rfl hK hP hD hS hA (fun _ => rfl) (by decide) (by decide) (Nat.le_of_ble_eq_true rfl) (Nat.le_of_ble_eq_true rfl) (Nat.le_of_ble_eq_true rfl) dX5_init_15 (fun q2 kq2 H hK hP hD hS => ?_)
  have hK : va_K (dC, dI) vwCl [(cA, .int), (kq2, .int)] s := hK
  have hP : va_P (dC, dI) vwCl [(eo, .inr (6, [.int 0, .int 0, .int 0, .int 0, .int 0, .int 0, .int 0, .ref q1, .null, .null, .null, .null])), (q1, .inl (cA, 16, .inl (fun _ => (0 : Int32)))), (q2, .inl (kq2, 16, .inl (fun _ => (0 : Int32))))] H := hP
  have hD : va_D A [(eo, .inr (6, [.int 0, .int 0, .int 0, .int 0, .int 0, .int 0, .int 0, .ref q1, .null, .null, .null, .null])), (q1, .inl (cA, 16, .inl (fun _ => (0 : Int32)))), (q2, .inl (kq2, 16, .inl (fun _ => (0 : Int32))))] := hD
  refine W.widen (k := 2) (n := 32) (by first | exact Nat.le_of_ble_eq_true rfl | omega) (by first | exact Nat.le_of_ble_eq_true rfl | omega) ?_
  obtain rfl : cA = kq2 := ub_sa_int hK 0 1 rfl rfl
  have hK := hK.sub (tys' := [(cA, .int)]) [0] rfl
  refine va_putF (D := (dC, dI)) (ci := 6) (v := .ref q2) (ty := .array .int) (C := RX5) (T := TX5) (N := 12) hx hb hts (fun w h => vA_in _ w (in_X5 w h)) tyX5 tyX5_ok nmX5 hown hK hP hD hS 0 rfl rfl 8 (by decide) (hts _ (vA_in _ _ (in_20 _ (zs16 (zs1 (zs1 (zs0))))))) (fun _ h9 => h9) rfl hin rfl (by decide +kernel) rfl rfl (Nat.le_of_ble_eq_true rfl) dX5_init_17 (fun H locs hP hD hS => ?_)
  have hP : va_P (dC, dI) vwCl [(eo, .inr (6, [.int 0, .int 0, .int 0, .int 0, .int 0, .int 0, .int 0, .ref q1, .ref q2, .null, .null, .null])), (q1, .inl (cA, 16, .inl (fun _ => (0 : Int32)))), (q2, .inl (cA, 16, .inl (fun _ => (0 : Int32))))] H := hP
  have hD : va_D A [(eo, .inr (6, [.int 0, .int 0, .int 0, .int 0, .int 0, .int 0, .int 0, .ref q1, .ref q2, .null, .null, .null])), (q1, .inl (cA, 16, .inl (fun _ => (0 : Int32)))), (q2, .inl (cA, 16, .inl (fun _ => (0 : Int32))))] := hD
  refine lv_aload_n hx hb dX5_init_20 rfl (lv_at hl 0 rfl) ?_
  refine lv_bipush (v := 16) hx hb dX5_init_21 (by decide) ?_
  refine va_newa (atype := .int) (ty := .int) (N' := 16) (a0 := (16, .inl (fun _ => (0 : Int32)))) hx hb (hts _ (vA_in _ _ (in_2 _ (zs16 (zs16 (zs4 (zs1 (zs1 (zs0))))))))) rfl hK hP hD hS hA (fun _ => rfl) (by decide) (by decide) (Nat.le_of_ble_eq_true rfl) (Nat.le_of_ble_eq_true rfl) (Nat.le_of_ble_eq_true rfl) dX5_init_23 (fun q3 kq3 H hK hP hD hS => ?_)
  have hK : va_K (dC, dI) vwCl [(cA, .int), (kq3, .int)] s := hK
  have hP : va_P (dC, dI) vwCl [(eo, .inr (6, [.int 0, .int 0, .int 0, .int 0, .int 0, .int 0, .int 0, .ref q1, .ref q2, .null, .null, .null])), (q1, .inl (cA, 16, .inl (fun _ => (0 : Int32)))), (q2, .inl (cA, 16, .inl (fun _ => (0 : Int32)))), (q3, .inl (kq3, 16, .inl (fun _ => (0 : Int32))))] H := hP
  have hD : va_D A [(eo, .inr (6, [.int 0, .int 0, .int 0, .int 0, .int 0, .int 0, .int 0, .ref q1, .ref q2, .null, .null, .null])), (q1, .inl (cA, 16, .inl (fun _ => (0 : Int32)))), (q2, .inl (cA, 16, .inl (fun _ => (0 : Int32)))), (q3, .inl (kq3, 16, .inl (fun _ => (0 : Int32))))] := hD
  refine W.widen (k := 3) (n := 48) (by first | exact Nat.le_of_ble_eq_true rfl | omega) (by first | exact Nat.le_of_ble_eq_true rfl | omega) ?_
  obtain rfl : cA = kq3 := ub_sa_int hK 0 1 rfl rfl
  have hK := hK.sub (tys' := [(cA, .int)]) [0] rfl
  refine va_putF (D := (dC, dI)) (ci := 6) (v := .ref q3) (ty := .array .int) (C := RX5) (T := TX5) (N := 12) hx hb hts (fun w h => vA_in _ w (in_X5 w h)) tyX5 tyX5_ok nmX5 hown hK hP hD hS 0 rfl rfl 9 (by decide) (hts _ (vA_in _ _ (in_19 _ (zs16 (zs16 (zs0)))))) (fun _ h9 => h9) rfl hin rfl (by decide +kernel) rfl rfl (Nat.le_of_ble_eq_true rfl) dX5_init_25 (fun H locs hP hD hS => ?_)
  have hP : va_P (dC, dI) vwCl [(eo, .inr (6, [.int 0, .int 0, .int 0, .int 0, .int 0, .int 0, .int 0, .ref q1, .ref q2, .ref q3, .null, .null])), (q1, .inl (cA, 16, .inl (fun _ => (0 : Int32)))), (q2, .inl (cA, 16, .inl (fun _ => (0 : Int32)))), (q3, .inl (cA, 16, .inl (fun _ => (0 : Int32))))] H := hP
  have hD : va_D A [(eo, .inr (6, [.int 0, .int 0, .int 0, .int 0, .int 0, .int 0, .int 0, .ref q1, .ref q2, .ref q3, .null, .null])), (q1, .inl (cA, 16, .inl (fun _ => (0 : Int32)))), (q2, .inl (cA, 16, .inl (fun _ => (0 : Int32)))), (q3, .inl (cA, 16, .inl (fun _ => (0 : Int32))))] := hD
  refine lv_aload_n hx hb dX5_init_28 rfl (lv_at hl 0 rfl) ?_
  refine lv_bipush (v := 16) hx hb dX5_init_29 (by decide) ?_
  refine va_newa (atype := .int) (ty := .int) (N' := 16) (a0 := (16, .inl (fun _ => (0 : Int32)))) hx hb (hts _ (vA_in _ _ (in_2 _ (zs16 (zs16 (zs4 (zs1 (zs1 (zs0))))))))) rfl hK hP hD hS hA (fun _ => rfl) (by decide) (by decide) (Nat.le_of_ble_eq_true rfl) (Nat.le_of_ble_eq_true rfl) (Nat.le_of_ble_eq_true rfl) dX5_init_31 (fun q4 kq4 H hK hP hD hS => ?_)
  have hK : va_K (dC, dI) vwCl [(cA, .int), (kq4, .int)] s := hK
  have hP : va_P (dC, dI) vwCl [(eo, .inr (6, [.int 0, .int 0, .int 0, .int 0, .int 0, .int 0, .int 0, .ref q1, .ref q2, .ref q3, .null, .null])), (q1, .inl (cA, 16, .inl (fun _ => (0 : Int32)))), (q2, .inl (cA, 16, .inl (fun _ => (0 : Int32)))), (q3, .inl (cA, 16, .inl (fun _ => (0 : Int32)))), (q4, .inl (kq4, 16, .inl (fun _ => (0 : Int32))))] H := hP
  have hD : va_D A [(eo, .inr (6, [.int 0, .int 0, .int 0, .int 0, .int 0, .int 0, .int 0, .ref q1, .ref q2, .ref q3, .null, .null])), (q1, .inl (cA, 16, .inl (fun _ => (0 : Int32)))), (q2, .inl (cA, 16, .inl (fun _ => (0 : Int32)))), (q3, .inl (cA, 16, .inl (fun _ => (0 : Int32)))), (q4, .inl (kq4, 16, .inl (fun _ => (0 : Int32))))] := hD
  refine W.widen (k := 4) (n := 64) (by first | exact Nat.le_of_ble_eq_true rfl | omega) (by first | exact Nat.le_of_ble_eq_true rfl | omega) ?_
  obtain rfl : cA = kq4 := ub_sa_int hK 0 1 rfl rfl
  have hK := hK.sub (tys' := [(cA, .int)]) [0] rfl
  refine va_putF (D := (dC, dI)) (ci := 6) (v := .ref q4) (ty := .array .int) (C := RX5) (T := TX5) (N := 12) hx hb hts (fun w h => vA_in _ w (in_X5 w h)) tyX5 tyX5_ok nmX5 hown hK hP hD hS 0 rfl rfl 10 (by decide) (hts _ (vA_in _ _ (in_19 _ (zs16 (zs16 (zs1 (zs0))))))) (fun _ h9 => h9) rfl hin rfl (by decide +kernel) rfl rfl (Nat.le_of_ble_eq_true rfl) dX5_init_33 (fun H locs hP hD hS => ?_)
  have hP : va_P (dC, dI) vwCl [(eo, .inr (6, [.int 0, .int 0, .int 0, .int 0, .int 0, .int 0, .int 0, .ref q1, .ref q2, .ref q3, .ref q4, .null])), (q1, .inl (cA, 16, .inl (fun _ => (0 : Int32)))), (q2, .inl (cA, 16, .inl (fun _ => (0 : Int32)))), (q3, .inl (cA, 16, .inl (fun _ => (0 : Int32)))), (q4, .inl (cA, 16, .inl (fun _ => (0 : Int32))))] H := hP
  have hD : va_D A [(eo, .inr (6, [.int 0, .int 0, .int 0, .int 0, .int 0, .int 0, .int 0, .ref q1, .ref q2, .ref q3, .ref q4, .null])), (q1, .inl (cA, 16, .inl (fun _ => (0 : Int32)))), (q2, .inl (cA, 16, .inl (fun _ => (0 : Int32)))), (q3, .inl (cA, 16, .inl (fun _ => (0 : Int32)))), (q4, .inl (cA, 16, .inl (fun _ => (0 : Int32))))] := hD
  refine lv_aload_n hx hb dX5_init_36 rfl (lv_at hl 0 rfl) ?_
  refine lv_sipush (v := 401) hx hb dX5_init_37 (by decide) ?_
  refine va_newa (atype := .int) (ty := .int) (N' := 401) (a0 := (401, .inl (fun _ => (0 : Int32)))) hx hb (hts _ (vA_in _ _ (in_2 _ (zs16 (zs16 (zs4 (zs1 (zs1 (zs0))))))))) rfl hK hP hD hS hA (fun _ => rfl) (by decide) (by decide) (Nat.le_of_ble_eq_true rfl) (Nat.le_of_ble_eq_true rfl) (Nat.le_of_ble_eq_true rfl) dX5_init_40 (fun q5 kq5 H hK hP hD hS => ?_)
  have hK : va_K (dC, dI) vwCl [(cA, .int), (kq5, .int)] s := hK
  have hP : va_P (dC, dI) vwCl [(eo, .inr (6, [.int 0, .int 0, .int 0, .int 0, .int 0, .int 0, .int 0, .ref q1, .ref q2, .ref q3, .ref q4, .null])), (q1, .inl (cA, 16, .inl (fun _ => (0 : Int32)))), (q2, .inl (cA, 16, .inl (fun _ => (0 : Int32)))), (q3, .inl (cA, 16, .inl (fun _ => (0 : Int32)))), (q4, .inl (cA, 16, .inl (fun _ => (0 : Int32)))), (q5, .inl (kq5, 401, .inl (fun _ => (0 : Int32))))] H := hP
  have hD : va_D A [(eo, .inr (6, [.int 0, .int 0, .int 0, .int 0, .int 0, .int 0, .int 0, .ref q1, .ref q2, .ref q3, .ref q4, .null])), (q1, .inl (cA, 16, .inl (fun _ => (0 : Int32)))), (q2, .inl (cA, 16, .inl (fun _ => (0 : Int32)))), (q3, .inl (cA, 16, .inl (fun _ => (0 : Int32)))), (q4, .inl (cA, 16, .inl (fun _ => (0 : Int32)))), (q5, .inl (kq5, 401, .inl (fun _ => (0 : Int32))))] := hD
  refine W.widen (k := 5) (n := 465) (by first | exact Nat.le_of_ble_eq_true rfl | omega) (by first | exact Nat.le_of_ble_eq_true rfl | omega) ?_
  obtain rfl : cA = kq5 := ub_sa_int hK 0 1 rfl rfl
  have hK := hK.sub (tys' := [(cA, .int)]) [0] rfl
  refine va_putF (D := (dC, dI)) (ci := 6) (v := .ref q5) (ty := .array .int) (C := RX5) (T := TX5) (N := 12) hx hb hts (fun w h => vA_in _ w (in_X5 w h)) tyX5 tyX5_ok nmX5 hown hK hP hD hS 0 rfl rfl 11 (by decide) (hts _ (vA_in _ _ (in_15 _ (zs16 (zs4 (zs4 (zs1 (zs1 (zs1 (zs0)))))))))) (fun _ h9 => h9) rfl hin rfl (by decide +kernel) rfl rfl (Nat.le_of_ble_eq_true rfl) dX5_init_42 (fun H locs hP hD hS => ?_)
  have hP : va_P (dC, dI) vwCl [(eo, .inr (6, [.int 0, .int 0, .int 0, .int 0, .int 0, .int 0, .int 0, .ref q1, .ref q2, .ref q3, .ref q4, .ref q5])), (q1, .inl (cA, 16, .inl (fun _ => (0 : Int32)))), (q2, .inl (cA, 16, .inl (fun _ => (0 : Int32)))), (q3, .inl (cA, 16, .inl (fun _ => (0 : Int32)))), (q4, .inl (cA, 16, .inl (fun _ => (0 : Int32)))), (q5, .inl (cA, 401, .inl (fun _ => (0 : Int32))))] H := hP
  have hD : va_D A [(eo, .inr (6, [.int 0, .int 0, .int 0, .int 0, .int 0, .int 0, .int 0, .ref q1, .ref q2, .ref q3, .ref q4, .ref q5])), (q1, .inl (cA, 16, .inl (fun _ => (0 : Int32)))), (q2, .inl (cA, 16, .inl (fun _ => (0 : Int32)))), (q3, .inl (cA, 16, .inl (fun _ => (0 : Int32)))), (q4, .inl (cA, 16, .inl (fun _ => (0 : Int32)))), (q5, .inl (cA, 401, .inl (fun _ => (0 : Int32))))] := hD
  refine lv_aload_n hx hb dX5_init_45 rfl (lv_at hl 0 rfl) ?_
  refine lv_iload_n hx hb dX5_init_46 rfl (lv_at hl 1 rfl) ?_
  refine va_putF (D := (dC, dI)) (ci := 6) (v := .int b0) (ty := .int) (C := RX5) (T := TX5) (N := 12) hx hb hts (fun w h => vA_in _ w (in_X5 w h)) tyX5 tyX5_ok nmX5 hown hK hP hD hS 0 rfl rfl 0 (by decide) (hts _ (vA_in _ _ (in_15 _ (zs16 (zs4 (zs4 (zs1 (zs1 (zs0))))))))) (fun _ h9 => h9) rfl hin rfl (by decide +kernel) rfl rfl (Nat.le_of_ble_eq_true rfl) dX5_init_47 (fun H locs hP hD hS => ?_)
  have hP : va_P (dC, dI) vwCl [(eo, .inr (6, [.int b0, .int 0, .int 0, .int 0, .int 0, .int 0, .int 0, .ref q1, .ref q2, .ref q3, .ref q4, .ref q5])), (q1, .inl (cA, 16, .inl (fun _ => (0 : Int32)))), (q2, .inl (cA, 16, .inl (fun _ => (0 : Int32)))), (q3, .inl (cA, 16, .inl (fun _ => (0 : Int32)))), (q4, .inl (cA, 16, .inl (fun _ => (0 : Int32)))), (q5, .inl (cA, 401, .inl (fun _ => (0 : Int32))))] H := hP
  have hD : va_D A [(eo, .inr (6, [.int b0, .int 0, .int 0, .int 0, .int 0, .int 0, .int 0, .ref q1, .ref q2, .ref q3, .ref q4, .ref q5])), (q1, .inl (cA, 16, .inl (fun _ => (0 : Int32)))), (q2, .inl (cA, 16, .inl (fun _ => (0 : Int32)))), (q3, .inl (cA, 16, .inl (fun _ => (0 : Int32)))), (q4, .inl (cA, 16, .inl (fun _ => (0 : Int32)))), (q5, .inl (cA, 401, .inl (fun _ => (0 : Int32))))] := hD
  refine lv_aload_n hx hb dX5_init_50 rfl (lv_at hl 0 rfl) ?_
  refine lv_iload_n hx hb dX5_init_51 rfl (lv_at hl 2 rfl) ?_
  refine va_putF (D := (dC, dI)) (ci := 6) (v := .int b1) (ty := .int) (C := RX5) (T := TX5) (N := 12) hx hb hts (fun w h => vA_in _ w (in_X5 w h)) tyX5 tyX5_ok nmX5 hown hK hP hD hS 0 rfl rfl 1 (by decide) (hts _ (vA_in _ _ (in_21 _ (zs4 (zs4 (zs4 (zs1 (zs1 (zs0))))))))) (fun _ h9 => h9) rfl hin rfl (by decide +kernel) rfl rfl (Nat.le_of_ble_eq_true rfl) dX5_init_52 (fun H locs hP hD hS => ?_)
  have hP : va_P (dC, dI) vwCl [(eo, .inr (6, [.int b0, .int b1, .int 0, .int 0, .int 0, .int 0, .int 0, .ref q1, .ref q2, .ref q3, .ref q4, .ref q5])), (q1, .inl (cA, 16, .inl (fun _ => (0 : Int32)))), (q2, .inl (cA, 16, .inl (fun _ => (0 : Int32)))), (q3, .inl (cA, 16, .inl (fun _ => (0 : Int32)))), (q4, .inl (cA, 16, .inl (fun _ => (0 : Int32)))), (q5, .inl (cA, 401, .inl (fun _ => (0 : Int32))))] H := hP
  have hD : va_D A [(eo, .inr (6, [.int b0, .int b1, .int 0, .int 0, .int 0, .int 0, .int 0, .ref q1, .ref q2, .ref q3, .ref q4, .ref q5])), (q1, .inl (cA, 16, .inl (fun _ => (0 : Int32)))), (q2, .inl (cA, 16, .inl (fun _ => (0 : Int32)))), (q3, .inl (cA, 16, .inl (fun _ => (0 : Int32)))), (q4, .inl (cA, 16, .inl (fun _ => (0 : Int32)))), (q5, .inl (cA, 401, .inl (fun _ => (0 : Int32))))] := hD
  refine lv_aload_n hx hb dX5_init_55 rfl (lv_at hl 0 rfl) ?_
  refine lv_iload_n hx hb dX5_init_56 rfl (lv_at hl 3 rfl) ?_
  refine va_putF (D := (dC, dI)) (ci := 6) (v := .int b2) (ty := .int) (C := RX5) (T := TX5) (N := 12) hx hb hts (fun w h => vA_in _ w (in_X5 w h)) tyX5 tyX5_ok nmX5 hown hK hP hD hS 0 rfl rfl 2 (by decide) (hts _ (vA_in _ _ (in_21 _ (zs4 (zs4 (zs4 (zs1 (zs1 (zs1 (zs0)))))))))) (fun _ h9 => h9) rfl hin rfl (by decide +kernel) rfl rfl (Nat.le_of_ble_eq_true rfl) dX5_init_57 (fun H locs hP hD hS => ?_)
  have hP : va_P (dC, dI) vwCl [(eo, .inr (6, [.int b0, .int b1, .int b2, .int 0, .int 0, .int 0, .int 0, .ref q1, .ref q2, .ref q3, .ref q4, .ref q5])), (q1, .inl (cA, 16, .inl (fun _ => (0 : Int32)))), (q2, .inl (cA, 16, .inl (fun _ => (0 : Int32)))), (q3, .inl (cA, 16, .inl (fun _ => (0 : Int32)))), (q4, .inl (cA, 16, .inl (fun _ => (0 : Int32)))), (q5, .inl (cA, 401, .inl (fun _ => (0 : Int32))))] H := hP
  have hD : va_D A [(eo, .inr (6, [.int b0, .int b1, .int b2, .int 0, .int 0, .int 0, .int 0, .ref q1, .ref q2, .ref q3, .ref q4, .ref q5])), (q1, .inl (cA, 16, .inl (fun _ => (0 : Int32)))), (q2, .inl (cA, 16, .inl (fun _ => (0 : Int32)))), (q3, .inl (cA, 16, .inl (fun _ => (0 : Int32)))), (q4, .inl (cA, 16, .inl (fun _ => (0 : Int32)))), (q5, .inl (cA, 401, .inl (fun _ => (0 : Int32))))] := hD
  refine lv_aload_n hx hb dX5_init_60 rfl (lv_at hl 0 rfl) ?_
  refine lv_iload hx hb dX5_init_61 (lv_at hl 4 rfl) ?_
  refine va_putF (D := (dC, dI)) (ci := 6) (v := .int b3) (ty := .int) (C := RX5) (T := TX5) (N := 12) hx hb hts (fun w h => vA_in _ w (in_X5 w h)) tyX5 tyX5_ok nmX5 hown hK hP hD hS 0 rfl rfl 3 (by decide) (hts _ (vA_in _ _ (in_21 _ (zs16 (zs0))))) (fun _ h9 => h9) rfl hin rfl (by decide +kernel) rfl rfl (Nat.le_of_ble_eq_true rfl) dX5_init_63 (fun H locs hP hD hS => ?_)
  have hP : va_P (dC, dI) vwCl [(eo, .inr (6, [.int b0, .int b1, .int b2, .int b3, .int 0, .int 0, .int 0, .ref q1, .ref q2, .ref q3, .ref q4, .ref q5])), (q1, .inl (cA, 16, .inl (fun _ => (0 : Int32)))), (q2, .inl (cA, 16, .inl (fun _ => (0 : Int32)))), (q3, .inl (cA, 16, .inl (fun _ => (0 : Int32)))), (q4, .inl (cA, 16, .inl (fun _ => (0 : Int32)))), (q5, .inl (cA, 401, .inl (fun _ => (0 : Int32))))] H := hP
  have hD : va_D A [(eo, .inr (6, [.int b0, .int b1, .int b2, .int b3, .int 0, .int 0, .int 0, .ref q1, .ref q2, .ref q3, .ref q4, .ref q5])), (q1, .inl (cA, 16, .inl (fun _ => (0 : Int32)))), (q2, .inl (cA, 16, .inl (fun _ => (0 : Int32)))), (q3, .inl (cA, 16, .inl (fun _ => (0 : Int32)))), (q4, .inl (cA, 16, .inl (fun _ => (0 : Int32)))), (q5, .inl (cA, 401, .inl (fun _ => (0 : Int32))))] := hD
  refine lv_aload_n hx hb dX5_init_66 rfl (lv_at hl 0 rfl) ?_
  refine lv_iload hx hb dX5_init_67 (lv_at hl 5 rfl) ?_
  refine va_putF (D := (dC, dI)) (ci := 6) (v := .int b4) (ty := .int) (C := RX5) (T := TX5) (N := 12) hx hb hts (fun w h => vA_in _ w (in_X5 w h)) tyX5 tyX5_ok nmX5 hown hK hP hD hS 0 rfl rfl 4 (by decide) (hts _ (vA_in _ _ (in_21 _ (zs16 (zs1 (zs0)))))) (fun _ h9 => h9) rfl hin rfl (by decide +kernel) rfl rfl (Nat.le_of_ble_eq_true rfl) dX5_init_69 (fun H locs hP hD hS => ?_)
  have hP : va_P (dC, dI) vwCl [(eo, .inr (6, [.int b0, .int b1, .int b2, .int b3, .int b4, .int 0, .int 0, .ref q1, .ref q2, .ref q3, .ref q4, .ref q5])), (q1, .inl (cA, 16, .inl (fun _ => (0 : Int32)))), (q2, .inl (cA, 16, .inl (fun _ => (0 : Int32)))), (q3, .inl (cA, 16, .inl (fun _ => (0 : Int32)))), (q4, .inl (cA, 16, .inl (fun _ => (0 : Int32)))), (q5, .inl (cA, 401, .inl (fun _ => (0 : Int32))))] H := hP
  have hD : va_D A [(eo, .inr (6, [.int b0, .int b1, .int b2, .int b3, .int b4, .int 0, .int 0, .ref q1, .ref q2, .ref q3, .ref q4, .ref q5])), (q1, .inl (cA, 16, .inl (fun _ => (0 : Int32)))), (q2, .inl (cA, 16, .inl (fun _ => (0 : Int32)))), (q3, .inl (cA, 16, .inl (fun _ => (0 : Int32)))), (q4, .inl (cA, 16, .inl (fun _ => (0 : Int32)))), (q5, .inl (cA, 401, .inl (fun _ => (0 : Int32))))] := hD
  refine lv_aload_n hx hb dX5_init_72 rfl (lv_at hl 0 rfl) ?_
  refine lv_iload hx hb dX5_init_73 (lv_at hl 6 rfl) ?_
  refine va_putF (D := (dC, dI)) (ci := 6) (v := .int b5) (ty := .int) (C := RX5) (T := TX5) (N := 12) hx hb hts (fun w h => vA_in _ w (in_X5 w h)) tyX5 tyX5_ok nmX5 hown hK hP hD hS 0 rfl rfl 5 (by decide) (hts _ (vA_in _ _ (in_21 _ (zs16 (zs1 (zs1 (zs0))))))) (fun _ h9 => h9) rfl hin rfl (by decide +kernel) rfl rfl (Nat.le_of_ble_eq_true rfl) dX5_init_75 (fun H locs hP hD hS => ?_)
  have hP : va_P (dC, dI) vwCl [(eo, .inr (6, [.int b0, .int b1, .int b2, .int b3, .int b4, .int b5, .int 0, .ref q1, .ref q2, .ref q3, .ref q4, .ref q5])), (q1, .inl (cA, 16, .inl (fun _ => (0 : Int32)))), (q2, .inl (cA, 16, .inl (fun _ => (0 : Int32)))), (q3, .inl (cA, 16, .inl (fun _ => (0 : Int32)))), (q4, .inl (cA, 16, .inl (fun _ => (0 : Int32)))), (q5, .inl (cA, 401, .inl (fun _ => (0 : Int32))))] H := hP
  have hD : va_D A [(eo, .inr (6, [.int b0, .int b1, .int b2, .int b3, .int b4, .int b5, .int 0, .ref q1, .ref q2, .ref q3, .ref q4, .ref q5])), (q1, .inl (cA, 16, .inl (fun _ => (0 : Int32)))), (q2, .inl (cA, 16, .inl (fun _ => (0 : Int32)))), (q3, .inl (cA, 16, .inl (fun _ => (0 : Int32)))), (q4, .inl (cA, 16, .inl (fun _ => (0 : Int32)))), (q5, .inl (cA, 401, .inl (fun _ => (0 : Int32))))] := hD
  refine lv_aload_n hx hb dX5_init_78 rfl (lv_at hl 0 rfl) ?_
  refine lv_iload hx hb dX5_init_79 (lv_at hl 7 rfl) ?_
  refine va_putF (D := (dC, dI)) (ci := 6) (v := .int b6) (ty := .int) (C := RX5) (T := TX5) (N := 12) hx hb hts (fun w h => vA_in _ w (in_X5 w h)) tyX5 tyX5_ok nmX5 hown hK hP hD hS 0 rfl rfl 6 (by decide) (hts _ (vA_in _ _ (in_21 _ (zs16 (zs1 (zs1 (zs1 (zs0)))))))) (fun _ h9 => h9) rfl hin rfl (by decide +kernel) rfl rfl (Nat.le_of_ble_eq_true rfl) dX5_init_81 (fun H locs hP hD hS => ?_)
  have hP : va_P (dC, dI) vwCl [(eo, .inr (6, [.int b0, .int b1, .int b2, .int b3, .int b4, .int b5, .int b6, .ref q1, .ref q2, .ref q3, .ref q4, .ref q5])), (q1, .inl (cA, 16, .inl (fun _ => (0 : Int32)))), (q2, .inl (cA, 16, .inl (fun _ => (0 : Int32)))), (q3, .inl (cA, 16, .inl (fun _ => (0 : Int32)))), (q4, .inl (cA, 16, .inl (fun _ => (0 : Int32)))), (q5, .inl (cA, 401, .inl (fun _ => (0 : Int32))))] H := hP
  have hD : va_D A [(eo, .inr (6, [.int b0, .int b1, .int b2, .int b3, .int b4, .int b5, .int b6, .ref q1, .ref q2, .ref q3, .ref q4, .ref q5])), (q1, .inl (cA, 16, .inl (fun _ => (0 : Int32)))), (q2, .inl (cA, 16, .inl (fun _ => (0 : Int32)))), (q3, .inl (cA, 16, .inl (fun _ => (0 : Int32)))), (q4, .inl (cA, 16, .inl (fun _ => (0 : Int32)))), (q5, .inl (cA, 401, .inl (fun _ => (0 : Int32))))] := hD
  refine lv_aload_n hx hb dX5_init_84 rfl (lv_at hl 0 rfl) ?_
  refine va_get (D := (dC, dI)) (ci := 6) (v := .ref q1) (C := RX5) (T := TX5) (N := 12) hx hb hts (fun w h => vA_in _ w (in_X5 w h)) hown hK hP 0 rfl rfl 7 (by decide) (hts _ (vA_in _ _ (in_6 _ (zs16 (zs1 (zs1 (zs1 (zs0)))))))) (fun _ h9 => h9) rfl dX5_init_85 ?_
  refine lv_iconst (v := -1) hx hb dX5_init_88 (by decide) ?_
  have hPc := hP.sub (ws' := [(q1, .inl (cA, 16, .inl (fun _ => (0 : Int32))))]) [1] rfl
  have hKc := hK.sub (tys' := [(cA, .int)]) [0] rfl
  have hDc := hD.sub (ws' := [(q1, .inl (cA, 16, .inl (fun _ => (0 : Int32))))]) [1] (by decide) rfl
  have hFc := va_free (wc := [(q1, .inl (cA, 16, .inl (fun _ => (0 : Int32))))]) hD hS hA [1] rfl
  refine va_callv (va_runS (As := [.ref q1, .int (-1)]) (rest := []) ⟨hx, hb, hml, hown, hts⟩ (x_fill l dC dI q1 cA (16) (fun _ => (0 : Int32)) (-1) H.size (by decide)) (va_cwS 2 hts (gi_S (in_21 _ (zs16 (zs4 (zs0)))) (in_5 _ (zs16 (zs4 (zs4 (zs1 (zs1 (zs0))))))) (in_2 _ (zs16 (zs4 (zs1 (zs1 (zs0)))))) (in_2 _ (zs16 (zs16 (zs4 (zs1 (zs1 (zs1 (zs0))))))))) rfl rfl rfl hz_yJ7_fill_53178_2 ⟨Nat.le_of_ble_eq_true rfl, Nat.le_of_ble_eq_true rfl⟩) ⟨fun a U g mk q => by obtain ⟨e0, e1, qP, qK, qD⟩ := q; exact ⟨e0, e1, qP, va_K.moved (u := U) (U := U.calling g mk a) (Vm.Alike.refl U.vm) qK, qD⟩, fun U hU hW => ⟨rfl, by rw [hU], by rw [hU]; exact hPc, va_K.moved hW.alike hKc, hDc.weaken (fun _ _ _ _ => trivial)⟩⟩ rfl rfl hl.1 rfl (lv_room (Nat.le_of_ble_eq_true rfl)) dX5_init_89 ⟨Nat.le_of_ble_eq_true rfl, Nat.le_of_ble_eq_true rfl⟩) hS (fun q _ h => hFc q h) hFc (fun u7 t H1 locs ht hvm hw hB hz1 hk1 hS => ?_)
  obtain ⟨hP1, hK1, hD1⟩ := hB
  rw [ht] at hP1
  obtain ⟨hP, hD⟩ := va_join (wr := [(eo, .inr (6, [.int b0, .int b1, .int b2, .int b3, .int b4, .int b5, .int b6, .ref q1, .ref q2, .ref q3, .ref q4, .ref q5])), (q2, .inl (cA, 16, .inl (fun _ => (0 : Int32)))), (q3, .inl (cA, 16, .inl (fun _ => (0 : Int32)))), (q4, .inl (cA, 16, .inl (fun _ => (0 : Int32)))), (q5, .inl (cA, 401, .inl (fun _ => (0 : Int32))))]) (w1 := [(q1, .inl (cA, 16, .inl u7))]) hP hD [1] [0, 2, 3, 4, 5] rfl rfl (by decide) (by decide) hk1 hFc hP1 hD1
  have hK1 := va_K.moved hvm.symm hK1
  have hK := hK.app hK1
  have hK : va_K (dC, dI) vwCl [(cA, .int), (cA, .int)] s := hK
  generalize H1 = H at hP hS ⊢
  have hP : va_P (dC, dI) vwCl [(eo, .inr (6, [.int b0, .int b1, .int b2, .int b3, .int b4, .int b5, .int b6, .ref q1, .ref q2, .ref q3, .ref q4, .ref q5])), (q2, .inl (cA, 16, .inl (fun _ => (0 : Int32)))), (q3, .inl (cA, 16, .inl (fun _ => (0 : Int32)))), (q4, .inl (cA, 16, .inl (fun _ => (0 : Int32)))), (q5, .inl (cA, 401, .inl (fun _ => (0 : Int32)))), (q1, .inl (cA, 16, .inl u7))] H := hP
  have hD : va_D A [(eo, .inr (6, [.int b0, .int b1, .int b2, .int b3, .int b4, .int b5, .int b6, .ref q1, .ref q2, .ref q3, .ref q4, .ref q5])), (q2, .inl (cA, 16, .inl (fun _ => (0 : Int32)))), (q3, .inl (cA, 16, .inl (fun _ => (0 : Int32)))), (q4, .inl (cA, 16, .inl (fun _ => (0 : Int32)))), (q5, .inl (cA, 401, .inl (fun _ => (0 : Int32)))), (q1, .inl (cA, 16, .inl u7))] := hD
  have hK := hK.sub (tys' := [(cA, .int)]) [0] rfl
  refine W.widen (k := 5) (n := 465) (by first | exact Nat.le_of_ble_eq_true rfl | omega) (by first | exact Nat.le_of_ble_eq_true rfl | omega) ?_
  have hw_u7 := hw
  refine lv_aload_n hx hb dX5_init_92 rfl (lv_at hl 0 rfl) ?_
  refine va_get (D := (dC, dI)) (ci := 6) (v := .ref q2) (C := RX5) (T := TX5) (N := 12) hx hb hts (fun w h => vA_in _ w (in_X5 w h)) hown hK hP 0 rfl rfl 8 (by decide) (hts _ (vA_in _ _ (in_20 _ (zs16 (zs1 (zs1 (zs0))))))) (fun _ h9 => h9) rfl dX5_init_93 ?_
  refine lv_iconst (v := -1) hx hb dX5_init_96 (by decide) ?_
  have hPc := hP.sub (ws' := [(q2, .inl (cA, 16, .inl (fun _ => (0 : Int32))))]) [1] rfl
  have hKc := hK.sub (tys' := [(cA, .int)]) [0] rfl
  have hDc := hD.sub (ws' := [(q2, .inl (cA, 16, .inl (fun _ => (0 : Int32))))]) [1] (by decide) rfl
  have hFc := va_free (wc := [(q2, .inl (cA, 16, .inl (fun _ => (0 : Int32))))]) hD hS hA [1] rfl
  refine va_callv (va_runS (As := [.ref q2, .int (-1)]) (rest := []) ⟨hx, hb, hml, hown, hts⟩ (x_fill l dC dI q2 cA (16) (fun _ => (0 : Int32)) (-1) H.size (by decide)) (va_cwS 2 hts (gi_S (in_21 _ (zs16 (zs4 (zs0)))) (in_5 _ (zs16 (zs4 (zs4 (zs1 (zs1 (zs0))))))) (in_2 _ (zs16 (zs4 (zs1 (zs1 (zs0)))))) (in_2 _ (zs16 (zs16 (zs4 (zs1 (zs1 (zs1 (zs0))))))))) rfl rfl rfl hz_yJ7_fill_53178_2 ⟨Nat.le_of_ble_eq_true rfl, Nat.le_of_ble_eq_true rfl⟩) ⟨fun a U g mk q => by obtain ⟨e0, e1, qP, qK, qD⟩ := q; exact ⟨e0, e1, qP, va_K.moved (u := U) (U := U.calling g mk a) (Vm.Alike.refl U.vm) qK, qD⟩, fun U hU hW => ⟨rfl, by rw [hU], by rw [hU]; exact hPc, va_K.moved hW.alike hKc, hDc.weaken (fun _ _ _ _ => trivial)⟩⟩ rfl rfl hl.1 rfl (lv_room (Nat.le_of_ble_eq_true rfl)) dX5_init_97 ⟨Nat.le_of_ble_eq_true rfl, Nat.le_of_ble_eq_true rfl⟩) hS (fun q _ h => hFc q h) hFc (fun u9 t H1 locs ht hvm hw hB hz1 hk1 hS => ?_)
  obtain ⟨hP1, hK1, hD1⟩ := hB
  rw [ht] at hP1
  obtain ⟨hP, hD⟩ := va_join (wr := [(eo, .inr (6, [.int b0, .int b1, .int b2, .int b3, .int b4, .int b5, .int b6, .ref q1, .ref q2, .ref q3, .ref q4, .ref q5])), (q3, .inl (cA, 16, .inl (fun _ => (0 : Int32)))), (q4, .inl (cA, 16, .inl (fun _ => (0 : Int32)))), (q5, .inl (cA, 401, .inl (fun _ => (0 : Int32)))), (q1, .inl (cA, 16, .inl u7))]) (w1 := [(q2, .inl (cA, 16, .inl u9))]) hP hD [1] [0, 2, 3, 4, 5] rfl rfl (by decide) (by decide) hk1 hFc hP1 hD1
  have hK1 := va_K.moved hvm.symm hK1
  have hK := hK.app hK1
  have hK : va_K (dC, dI) vwCl [(cA, .int), (cA, .int)] s := hK
  generalize H1 = H at hP hS ⊢
  have hP : va_P (dC, dI) vwCl [(eo, .inr (6, [.int b0, .int b1, .int b2, .int b3, .int b4, .int b5, .int b6, .ref q1, .ref q2, .ref q3, .ref q4, .ref q5])), (q3, .inl (cA, 16, .inl (fun _ => (0 : Int32)))), (q4, .inl (cA, 16, .inl (fun _ => (0 : Int32)))), (q5, .inl (cA, 401, .inl (fun _ => (0 : Int32)))), (q1, .inl (cA, 16, .inl u7)), (q2, .inl (cA, 16, .inl u9))] H := hP
  have hD : va_D A [(eo, .inr (6, [.int b0, .int b1, .int b2, .int b3, .int b4, .int b5, .int b6, .ref q1, .ref q2, .ref q3, .ref q4, .ref q5])), (q3, .inl (cA, 16, .inl (fun _ => (0 : Int32)))), (q4, .inl (cA, 16, .inl (fun _ => (0 : Int32)))), (q5, .inl (cA, 401, .inl (fun _ => (0 : Int32)))), (q1, .inl (cA, 16, .inl u7)), (q2, .inl (cA, 16, .inl u9))] := hD
  have hK := hK.sub (tys' := [(cA, .int)]) [0] rfl
  refine W.widen (k := 5) (n := 465) (by first | exact Nat.le_of_ble_eq_true rfl | omega) (by first | exact Nat.le_of_ble_eq_true rfl | omega) ?_
  have hw_u9 := hw
  refine lv_aload_n hx hb dX5_init_100 rfl (lv_at hl 0 rfl) ?_
  refine va_get (D := (dC, dI)) (ci := 6) (v := .ref q3) (C := RX5) (T := TX5) (N := 12) hx hb hts (fun w h => vA_in _ w (in_X5 w h)) hown hK hP 0 rfl rfl 9 (by decide) (hts _ (vA_in _ _ (in_19 _ (zs16 (zs16 (zs0)))))) (fun _ h9 => h9) rfl dX5_init_101 ?_
  refine lv_iconst (v := -1) hx hb dX5_init_104 (by decide) ?_
  have hPc := hP.sub (ws' := [(q3, .inl (cA, 16, .inl (fun _ => (0 : Int32))))]) [1] rfl
  have hKc := hK.sub (tys' := [(cA, .int)]) [0] rfl
  have hDc := hD.sub (ws' := [(q3, .inl (cA, 16, .inl (fun _ => (0 : Int32))))]) [1] (by decide) rfl
  have hFc := va_free (wc := [(q3, .inl (cA, 16, .inl (fun _ => (0 : Int32))))]) hD hS hA [1] rfl
  refine va_callv (va_runS (As := [.ref q3, .int (-1)]) (rest := []) ⟨hx, hb, hml, hown, hts⟩ (x_fill l dC dI q3 cA (16) (fun _ => (0 : Int32)) (-1) H.size (by decide)) (va_cwS 2 hts (gi_S (in_21 _ (zs16 (zs4 (zs0)))) (in_5 _ (zs16 (zs4 (zs4 (zs1 (zs1 (zs0))))))) (in_2 _ (zs16 (zs4 (zs1 (zs1 (zs0)))))) (in_2 _ (zs16 (zs16 (zs4 (zs1 (zs1 (zs1 (zs0))))))))) rfl rfl rfl hz_yJ7_fill_53178_2 ⟨Nat.le_of_ble_eq_true rfl, Nat.le_of_ble_eq_true rfl⟩) ⟨fun a U g mk q => by obtain ⟨e0, e1, qP, qK, qD⟩ := q; exact ⟨e0, e1, qP, va_K.moved (u := U) (U := U.calling g mk a) (Vm.Alike.refl U.vm) qK, qD⟩, fun U hU hW => ⟨rfl, by rw [hU], by rw [hU]; exact hPc, va_K.moved hW.alike hKc, hDc.weaken (fun _ _ _ _ => trivial)⟩⟩ rfl rfl hl.1 rfl (lv_room (Nat.le_of_ble_eq_true rfl)) dX5_init_105 ⟨Nat.le_of_ble_eq_true rfl, Nat.le_of_ble_eq_true rfl⟩) hS (fun q _ h => hFc q h) hFc (fun u11 t H1 locs ht hvm hw hB hz1 hk1 hS => ?_)
  obtain ⟨hP1, hK1, hD1⟩ := hB
  rw [ht] at hP1
  obtain ⟨hP, hD⟩ := va_join (wr := [(eo, .inr (6, [.int b0, .int b1, .int b2, .int b3, .int b4, .int b5, .int b6, .ref q1, .ref q2, .ref q3, .ref q4, .ref q5])), (q4, .inl (cA, 16, .inl (fun _ => (0 : Int32)))), (q5, .inl (cA, 401, .inl (fun _ => (0 : Int32)))), (q1, .inl (cA, 16, .inl u7)), (q2, .inl (cA, 16, .inl u9))]) (w1 := [(q3, .inl (cA, 16, .inl u11))]) hP hD [1] [0, 2, 3, 4, 5] rfl rfl (by decide) (by decide) hk1 hFc hP1 hD1
  have hK1 := va_K.moved hvm.symm hK1
  have hK := hK.app hK1
  have hK : va_K (dC, dI) vwCl [(cA, .int), (cA, .int)] s := hK
  generalize H1 = H at hP hS ⊢
  have hP : va_P (dC, dI) vwCl [(eo, .inr (6, [.int b0, .int b1, .int b2, .int b3, .int b4, .int b5, .int b6, .ref q1, .ref q2, .ref q3, .ref q4, .ref q5])), (q4, .inl (cA, 16, .inl (fun _ => (0 : Int32)))), (q5, .inl (cA, 401, .inl (fun _ => (0 : Int32)))), (q1, .inl (cA, 16, .inl u7)), (q2, .inl (cA, 16, .inl u9)), (q3, .inl (cA, 16, .inl u11))] H := hP
  have hD : va_D A [(eo, .inr (6, [.int b0, .int b1, .int b2, .int b3, .int b4, .int b5, .int b6, .ref q1, .ref q2, .ref q3, .ref q4, .ref q5])), (q4, .inl (cA, 16, .inl (fun _ => (0 : Int32)))), (q5, .inl (cA, 401, .inl (fun _ => (0 : Int32)))), (q1, .inl (cA, 16, .inl u7)), (q2, .inl (cA, 16, .inl u9)), (q3, .inl (cA, 16, .inl u11))] := hD
  have hK := hK.sub (tys' := [(cA, .int)]) [0] rfl
  refine W.widen (k := 5) (n := 465) (by first | exact Nat.le_of_ble_eq_true rfl | omega) (by first | exact Nat.le_of_ble_eq_true rfl | omega) ?_
  have hw_u11 := hw
  have hP9 := hP.sub (ws' := [(eo, .inr (6, [.int b0, .int b1, .int b2, .int b3, .int b4, .int b5, .int b6, .ref q1, .ref q2, .ref q3, .ref q4, .ref q5])), (q1, .inl (cA, 16, .inl u7)), (q2, .inl (cA, 16, .inl u9)), (q3, .inl (cA, 16, .inl u11)), (q4, .inl (cA, 16, .inl (fun _ => (0 : Int32)))), (q5, .inl (cA, 401, .inl (fun _ => (0 : Int32))))]) [0, 3, 4, 5, 1, 2] rfl
  have hD9 := hD.sub (ws' := [(eo, .inr (6, [.int b0, .int b1, .int b2, .int b3, .int b4, .int b5, .int b6, .ref q1, .ref q2, .ref q3, .ref q4, .ref q5])), (q1, .inl (cA, 16, .inl u7)), (q2, .inl (cA, 16, .inl u9)), (q3, .inl (cA, 16, .inl u11)), (q4, .inl (cA, 16, .inl (fun _ => (0 : Int32)))), (q5, .inl (cA, 401, .inl (fun _ => (0 : Int32))))]) [0, 3, 4, 5, 1, 2] (by decide) rfl
  have hK9 := hK.sub (tys' := [(cA, .int)]) [0] rfl
  exact W.vret hx hb hr (fun t ht hW => ⟨⟨(q1, q2, q3, q4, q5, u7, u9, u11), rfl, ⟨hw_u7, hw_u9, hw_u11⟩, (by rw [ht]; exact hP9), va_K.moved hW.alike hK9, hD9⟩, hS.F ht⟩) hS.2.2 dX5_init_108
