abbrev cX13_race : ByteArray := prog_15_method_41_code
def yX13_race : MethodName := ⟨RX13, "race", "(IIIIII)I"⟩
theorem dX13_race_0 : decode cX13_race 0 = .ok (.aload_n 0, 1) := by decide +kernel
theorem dX13_race_1 : decode cX13_race 1 = .ok (.iconst 0, 1) := by decide +kernel
theorem dX13_race_2 : decode cX13_race 2 = .ok (.putfield 228, 3) := by decide +kernel
theorem dX13_race_5 : decode cX13_race 5 = .ok (.aload_n 0, 1) := by decide +kernel
theorem dX13_race_6 : decode cX13_race 6 = .ok (.getfield 390, 3) := by decide +kernel
theorem dX13_race_9 : decode cX13_race 9 = .ok (.bipush 20, 2) := by decide +kernel
theorem dX13_race_11 : decode cX13_race 11 = .ok (.if_icmp .eq 64, 3) := by decide +kernel
theorem dX13_race_14 : decode cX13_race 14 = .ok (.aload_n 0, 1) := by decide +kernel
theorem dX13_race_15 : decode cX13_race 15 = .ok (.iload_n 1, 1) := by decide +kernel
theorem dX13_race_16 : decode cX13_race 16 = .ok (.invokevirtual 252, 3) := by decide +kernel
theorem dX13_race_19 : decode cX13_race 19 = .ok (.ifCond .eq 56, 3) := by decide +kernel
theorem dX13_race_22 : decode cX13_race 22 = .ok (.iload_n 2, 1) := by decide +kernel
theorem dX13_race_23 : decode cX13_race 23 = .ok (.iconst 1, 1) := by decide +kernel
theorem dX13_race_24 : decode cX13_race 24 = .ok (.sipush 1000, 3) := by decide +kernel
theorem dX13_race_27 : decode cX13_race 27 = .ok (.invokestatic 235, 3) := by decide +kernel
theorem dX13_race_30 : decode cX13_race 30 = .ok (.ifCond .eq 45, 3) := by decide +kernel
theorem dX13_race_33 : decode cX13_race 33 = .ok (.iload_n 3, 1) := by decide +kernel
theorem dX13_race_34 : decode cX13_race 34 = .ok (.iconst 0, 1) := by decide +kernel
theorem dX13_race_35 : decode cX13_race 35 = .ok (.iconst 1, 1) := by decide +kernel
theorem dX13_race_36 : decode cX13_race 36 = .ok (.invokestatic 235, 3) := by decide +kernel
theorem dX13_race_39 : decode cX13_race 39 = .ok (.ifCond .eq 36, 3) := by decide +kernel
theorem dX13_race_42 : decode cX13_race 42 = .ok (.iload 4, 2) := by decide +kernel
theorem dX13_race_44 : decode cX13_race 44 = .ok (.iconst 0, 1) := by decide +kernel
theorem dX13_race_45 : decode cX13_race 45 = .ok (.bipush 7, 2) := by decide +kernel
theorem dX13_race_47 : decode cX13_race 47 = .ok (.invokestatic 235, 3) := by decide +kernel
theorem dX13_race_50 : decode cX13_race 50 = .ok (.ifCond .eq 25, 3) := by decide +kernel
theorem dX13_race_53 : decode cX13_race 53 = .ok (.iload 5, 2) := by decide +kernel
theorem dX13_race_55 : decode cX13_race 55 = .ok (.iconst 0, 1) := by decide +kernel
theorem dX13_race_56 : decode cX13_race 56 = .ok (.bipush 99, 2) := by decide +kernel
theorem dX13_race_58 : decode cX13_race 58 = .ok (.invokestatic 235, 3) := by decide +kernel
theorem dX13_race_61 : decode cX13_race 61 = .ok (.ifCond .eq 14, 3) := by decide +kernel
theorem dX13_race_64 : decode cX13_race 64 = .ok (.iload 6, 2) := by decide +kernel
theorem dX13_race_66 : decode cX13_race 66 = .ok (.iconst 0, 1) := by decide +kernel
theorem dX13_race_67 : decode cX13_race 67 = .ok (.bipush 99, 2) := by decide +kernel
theorem dX13_race_69 : decode cX13_race 69 = .ok (.invokestatic 235, 3) := by decide +kernel
theorem dX13_race_72 : decode cX13_race 72 = .ok (.ifCond .ne 5, 3) := by decide +kernel
theorem dX13_race_75 : decode cX13_race 75 = .ok (.iconst (-1), 1) := by decide +kernel
theorem dX13_race_76 : decode cX13_race 76 = .ok (.ireturn, 1) := by decide +kernel
theorem dX13_race_77 : decode cX13_race 77 = .ok (.aload_n 0, 1) := by decide +kernel
theorem dX13_race_78 : decode cX13_race 78 = .ok (.getfield 50, 3) := by decide +kernel
theorem dX13_race_81 : decode cX13_race 81 = .ok (.aload_n 0, 1) := by decide +kernel
theorem dX13_race_82 : decode cX13_race 82 = .ok (.getfield 390, 3) := by decide +kernel
theorem dX13_race_85 : decode cX13_race 85 = .ok (.iload_n 1, 1) := by decide +kernel
theorem dX13_race_86 : decode cX13_race 86 = .ok (.iastore, 1) := by decide +kernel
theorem dX13_race_87 : decode cX13_race 87 = .ok (.aload_n 0, 1) := by decide +kernel
theorem dX13_race_88 : decode cX13_race 88 = .ok (.getfield 53, 3) := by decide +kernel
theorem dX13_race_91 : decode cX13_race 91 = .ok (.aload_n 0, 1) := by decide +kernel
theorem dX13_race_92 : decode cX13_race 92 = .ok (.getfield 390, 3) := by decide +kernel
theorem dX13_race_95 : decode cX13_race 95 = .ok (.iload_n 2, 1) := by decide +kernel
theorem dX13_race_96 : decode cX13_race 96 = .ok (.iastore, 1) := by decide +kernel
theorem dX13_race_97 : decode cX13_race 97 = .ok (.aload_n 0, 1) := by decide +kernel
theorem dX13_race_98 : decode cX13_race 98 = .ok (.getfield 56, 3) := by decide +kernel
theorem dX13_race_101 : decode cX13_race 101 = .ok (.aload_n 0, 1) := by decide +kernel
theorem dX13_race_102 : decode cX13_race 102 = .ok (.getfield 390, 3) := by decide +kernel
theorem dX13_race_105 : decode cX13_race 105 = .ok (.iload_n 3, 1) := by decide +kernel
theorem dX13_race_106 : decode cX13_race 106 = .ok (.iastore, 1) := by decide +kernel
theorem dX13_race_107 : decode cX13_race 107 = .ok (.aload_n 0, 1) := by decide +kernel
theorem dX13_race_108 : decode cX13_race 108 = .ok (.getfield 59, 3) := by decide +kernel
theorem dX13_race_111 : decode cX13_race 111 = .ok (.aload_n 0, 1) := by decide +kernel
theorem dX13_race_112 : decode cX13_race 112 = .ok (.getfield 390, 3) := by decide +kernel
theorem dX13_race_115 : decode cX13_race 115 = .ok (.iload 4, 2) := by decide +kernel
theorem dX13_race_117 : decode cX13_race 117 = .ok (.iastore, 1) := by decide +kernel
theorem dX13_race_118 : decode cX13_race 118 = .ok (.aload_n 0, 1) := by decide +kernel
theorem dX13_race_119 : decode cX13_race 119 = .ok (.getfield 62, 3) := by decide +kernel
theorem dX13_race_122 : decode cX13_race 122 = .ok (.aload_n 0, 1) := by decide +kernel
theorem dX13_race_123 : decode cX13_race 123 = .ok (.getfield 390, 3) := by decide +kernel
theorem dX13_race_126 : decode cX13_race 126 = .ok (.iload 5, 2) := by decide +kernel
theorem dX13_race_128 : decode cX13_race 128 = .ok (.iastore, 1) := by decide +kernel
theorem dX13_race_129 : decode cX13_race 129 = .ok (.aload_n 0, 1) := by decide +kernel
theorem dX13_race_130 : decode cX13_race 130 = .ok (.getfield 65, 3) := by decide +kernel
theorem dX13_race_133 : decode cX13_race 133 = .ok (.aload_n 0, 1) := by decide +kernel
theorem dX13_race_134 : decode cX13_race 134 = .ok (.getfield 390, 3) := by decide +kernel
theorem dX13_race_137 : decode cX13_race 137 = .ok (.iload 6, 2) := by decide +kernel
theorem dX13_race_139 : decode cX13_race 139 = .ok (.iastore, 1) := by decide +kernel
theorem dX13_race_140 : decode cX13_race 140 = .ok (.aload_n 0, 1) := by decide +kernel
theorem dX13_race_141 : decode cX13_race 141 = .ok (.getfield 68, 3) := by decide +kernel
theorem dX13_race_144 : decode cX13_race 144 = .ok (.aload_n 0, 1) := by decide +kernel
theorem dX13_race_145 : decode cX13_race 145 = .ok (.getfield 390, 3) := by decide +kernel
theorem dX13_race_148 : decode cX13_race 148 = .ok (.iconst 2, 1) := by decide +kernel
theorem dX13_race_149 : decode cX13_race 149 = .ok (.iastore, 1) := by decide +kernel
theorem dX13_race_150 : decode cX13_race 150 = .ok (.aload_n 0, 1) := by decide +kernel
theorem dX13_race_151 : decode cX13_race 151 = .ok (.getfield 71, 3) := by decide +kernel
theorem dX13_race_154 : decode cX13_race 154 = .ok (.aload_n 0, 1) := by decide +kernel
theorem dX13_race_155 : decode cX13_race 155 = .ok (.getfield 390, 3) := by decide +kernel
theorem dX13_race_158 : decode cX13_race 158 = .ok (.aload_n 0, 1) := by decide +kernel
theorem dX13_race_159 : decode cX13_race 159 = .ok (.getfield 232, 3) := by decide +kernel
theorem dX13_race_162 : decode cX13_race 162 = .ok (.iastore, 1) := by decide +kernel
theorem dX13_race_163 : decode cX13_race 163 = .ok (.iconst 0, 1) := by decide +kernel
theorem dX13_race_164 : decode cX13_race 164 = .ok (.istore 7, 2) := by decide +kernel
theorem dX13_race_166 : decode cX13_race 166 = .ok (.iload 7, 2) := by decide +kernel
theorem dX13_race_168 : decode cX13_race 168 = .ok (.bipush 16, 2) := by decide +kernel
theorem dX13_race_170 : decode cX13_race 170 = .ok (.if_icmp .ge 43, 3) := by decide +kernel
theorem dX13_race_173 : decode cX13_race 173 = .ok (.aload_n 0, 1) := by decide +kernel
theorem dX13_race_174 : decode cX13_race 174 = .ok (.getfield 74, 3) := by decide +kernel
theorem dX13_race_177 : decode cX13_race 177 = .ok (.bipush 16, 2) := by decide +kernel
theorem dX13_race_179 : decode cX13_race 179 = .ok (.aload_n 0, 1) := by decide +kernel
theorem dX13_race_180 : decode cX13_race 180 = .ok (.getfield 390, 3) := by decide +kernel
theorem dX13_race_183 : decode cX13_race 183 = .ok (.imul, 1) := by decide +kernel
theorem dX13_race_184 : decode cX13_race 184 = .ok (.iload 7, 2) := by decide +kernel
theorem dX13_race_186 : decode cX13_race 186 = .ok (.iadd, 1) := by decide +kernel
theorem dX13_race_187 : decode cX13_race 187 = .ok (.sipush 1000, 3) := by decide +kernel
theorem dX13_race_190 : decode cX13_race 190 = .ok (.iastore, 1) := by decide +kernel
theorem dX13_race_191 : decode cX13_race 191 = .ok (.aload_n 0, 1) := by decide +kernel
theorem dX13_race_192 : decode cX13_race 192 = .ok (.getfield 77, 3) := by decide +kernel
theorem dX13_race_195 : decode cX13_race 195 = .ok (.bipush 16, 2) := by decide +kernel
theorem dX13_race_197 : decode cX13_race 197 = .ok (.aload_n 0, 1) := by decide +kernel
theorem dX13_race_198 : decode cX13_race 198 = .ok (.getfield 390, 3) := by decide +kernel
theorem dX13_race_201 : decode cX13_race 201 = .ok (.imul, 1) := by decide +kernel
theorem dX13_race_202 : decode cX13_race 202 = .ok (.iload 7, 2) := by decide +kernel
theorem dX13_race_204 : decode cX13_race 204 = .ok (.iadd, 1) := by decide +kernel
theorem dX13_race_205 : decode cX13_race 205 = .ok (.iconst (-1), 1) := by decide +kernel
theorem dX13_race_206 : decode cX13_race 206 = .ok (.iastore, 1) := by decide +kernel
theorem dX13_race_207 : decode cX13_race 207 = .ok (.iinc 7 1, 3) := by decide +kernel
theorem dX13_race_210 : decode cX13_race 210 = .ok (.goto (-44), 3) := by decide +kernel
theorem dX13_race_213 : decode cX13_race 213 = .ok (.aload_n 0, 1) := by decide +kernel
theorem dX13_race_214 : decode cX13_race 214 = .ok (.dup, 1) := by decide +kernel
theorem dX13_race_215 : decode cX13_race 215 = .ok (.getfield 390, 3) := by decide +kernel
theorem dX13_race_218 : decode cX13_race 218 = .ok (.iconst 1, 1) := by decide +kernel
theorem dX13_race_219 : decode cX13_race 219 = .ok (.iadd, 1) := by decide +kernel
theorem dX13_race_220 : decode cX13_race 220 = .ok (.putfield 390, 3) := by decide +kernel
theorem dX13_race_223 : decode cX13_race 223 = .ok (.aload_n 0, 1) := by decide +kernel
theorem dX13_race_224 : decode cX13_race 224 = .ok (.getfield 390, 3) := by decide +kernel
theorem dX13_race_227 : decode cX13_race 227 = .ok (.iconst 1, 1) := by decide +kernel
theorem dX13_race_228 : decode cX13_race 228 = .ok (.isub, 1) := by decide +kernel
theorem dX13_race_229 : decode cX13_race 229 = .ok (.ireturn, 1) := by decide +kernel
def A_m_race : List Cond := [.fieldLink RX13 228 "UnlikeBoatsModel" "thrown" "I", .fieldLink RX13 390 "UnlikeBoatsModel" "races" "I", .methodLink RX13 252 yX13_isKnown, .instanceMethod yX13_isKnown, .selects RX13 yX13_isKnown yX13_isKnown, .initialized RX13, .methodLink RX13 235 yX13_isIn, .static yX13_isIn, .fieldLink RX13 50 "UnlikeBoatsModel" "raceDay" "[I", .fieldLink RX13 53 "UnlikeBoatsModel" "raceMiles" "[I", .fieldLink RX13 56 "UnlikeBoatsModel" "raceWay" "[I", .fieldLink RX13 59 "UnlikeBoatsModel" "raceWind" "[I", .fieldLink RX13 62 "UnlikeBoatsModel" "markX" "[I", .fieldLink RX13 65 "UnlikeBoatsModel" "markY" "[I", .fieldLink RX13 68 "UnlikeBoatsModel" "raceSwift" "[I", .fieldLink RX13 71 "UnlikeBoatsModel" "raceTold" "[I", .fieldLink RX13 232 "UnlikeBoatsModel" "now" "I", .fieldLink RX13 74 "UnlikeBoatsModel" "entered" "[I", .fieldLink RX13 77 "UnlikeBoatsModel" "startEnd" "[I", .code yX13_isKnown cX13_isKnown 2 (some .boolean), .code yX13_isIn cX13_isIn 3 (some .boolean)]
def v_m_race : List Cond := .code yX13_race cX13_race 8 (some .int) :: (A_m_race ++ wsX130)
theorem iw_m_race_X13 : ∀ w ∈ wsX130, w ∈ v_m_race := fun _ h => List.mem_cons_of_mem _ (List.mem_append_right _ (h))
theorem gb_m_race_m_isKnown0 : GoodIn v_m_race (.code yX13_isKnown cX13_isKnown 2 (some .boolean) :: A_m_isKnown) := (List.forall_mem_cons.mpr ⟨⟨List.mem_of_getElem? (i := 20) rfl, good_of_word rfl⟩, (List.forall_mem_cons.mpr ⟨⟨List.mem_of_getElem? (i := 17) rfl, good_of_word rfl⟩, (List.forall_mem_cons.mpr ⟨⟨List.mem_of_getElem? (i := 7) rfl, good_of_word rfl⟩, (List.forall_mem_cons.mpr ⟨⟨List.mem_of_getElem? (i := 8) rfl, good_of_word rfl⟩, (List.forall_mem_cons.mpr ⟨⟨List.mem_of_getElem? (i := 6) rfl, good_of_word rfl⟩, (List.forall_mem_cons.mpr ⟨⟨List.mem_of_getElem? (i := 21) rfl, good_of_word rfl⟩, (fun _ h => nomatch h)⟩)⟩)⟩)⟩)⟩)⟩)
theorem gb_m_race_m_isKnown : GoodIn v_m_race v_m_isKnown := (goodIn_ca gb_m_race_m_isKnown0 (goodIn_sub iw_m_race_X13 gw_X13))
theorem g_m_race_m_isKnown_252 : GoodIn v_m_race (wsV RX13 252 RX13 yX13_isKnown v_m_isKnown) := goodIn_app (List.forall_mem_cons.mpr ⟨⟨List.mem_of_getElem? (i := 3) rfl, good_of_word rfl⟩, (List.forall_mem_cons.mpr ⟨⟨List.mem_of_getElem? (i := 4) rfl, good_of_word rfl⟩, (List.forall_mem_cons.mpr ⟨⟨List.mem_of_getElem? (i := 5) rfl, good_of_word rfl⟩, (List.forall_mem_cons.mpr ⟨⟨List.mem_of_getElem? (i := 6) rfl, good_of_word rfl⟩, (fun _ h => nomatch h)⟩)⟩)⟩)⟩) gb_m_race_m_isKnown
theorem gb_m_race_m_isIn0 : GoodIn v_m_race (.code yX13_isIn cX13_isIn 3 (some .boolean) :: A_m_isIn) := (List.forall_mem_cons.mpr ⟨⟨List.mem_of_getElem? (i := 21) rfl, good_of_word rfl⟩, (fun _ h => nomatch h)⟩)
theorem gb_m_race_m_isIn : GoodIn v_m_race v_m_isIn := gb_m_race_m_isIn0
theorem g_m_race_m_isIn_235 : GoodIn v_m_race (va_wsS RX13 235 yX13_isIn v_m_isIn) := goodIn_app (List.forall_mem_cons.mpr ⟨⟨List.mem_of_getElem? (i := 7) rfl, good_of_word rfl⟩, (List.forall_mem_cons.mpr ⟨⟨List.mem_of_getElem? (i := 8) rfl, good_of_word rfl⟩, (List.forall_mem_cons.mpr ⟨⟨List.mem_of_getElem? (i := 6) rfl, good_of_word rfl⟩, (fun _ h => nomatch h)⟩)⟩)⟩) gb_m_race_m_isIn
set_option maxHeartbeats 4000000 in
set_option maxRecDepth 100000 in
theorem m_race (l : Launch) (dC : Nat → ClassId) (dI : Nat → Nat → Nat) (h : Nat) (f : Nat → Value) (z0 : Nat) (z1 : Nat) (z2 : Nat) (z3 : Nat) (z4 : Nat) (z5 : Nat) (z6 : Nat) (z7 : Nat) (z8 : Nat) (z9 : Nat) (cI : ClassId) (gg0 : Nat → Int32) (gg1 : Nat → Int32) (gg2 : Nat → Int32) (gg3 : Nat → Int32) (gg4 : Nat → Int32) (gg5 : Nat → Int32) (gg6 : Nat → Int32) (gg7 : Nat → Int32) (gg8 : Nat → Int32) (gg9 : Nat → Int32) (a0 : Int32) (a1 : Int32) (a2 : Int32) (a3 : Int32) (a4 : Int32) (a5 : Int32) (sz : Nat) (hf_thrown : f 0 = .int 0) (hf_races : f 46 = .int 0) (hf_now : f 1 = .int 0) (hf_raceDay : f 27 = .ref z0) (hf_raceMiles : f 28 = .ref z1) (hf_raceWay : f 29 = .ref z2) (hf_raceWind : f 30 = .ref z3) (hf_markX : f 31 = .ref z4) (hf_markY : f 32 = .ref z5) (hf_raceSwift : f 33 = .ref z6) (hf_raceTold : f 34 = .ref z7) (hf_entered : f 35 = .ref z8) (hf_startEnd : f 36 = .ref z9) : Met l yX13_race v_m_race ({ frames := 2, cells := 0, slots := 0, locals := 80 }) (va_Pc [.ref h, .int a0, .int a1, .int a2, .int a3, .int a4, .int a5] (fun U => U.heap.size = sz ∧ va_P (dC, dI) vwCl [(h, .inr (14, mL f)), (z0, .inl (cI, 20, .inl gg0)), (z1, .inl (cI, 20, .inl gg1)), (z2, .inl (cI, 20, .inl gg2)), (z3, .inl (cI, 20, .inl gg3)), (z4, .inl (cI, 20, .inl gg4)), (z5, .inl (cI, 20, .inl gg5)), (z6, .inl (cI, 20, .inl gg6)), (z7, .inl (cI, 20, .inl gg7)), (z8, .inl (cI, 320, .inl gg8)), (z9, .inl (cI, 320, .inl gg9))] U.heap ∧ va_K (dC, dI) vwCl [(cI, .int)] U ∧ va_D (fun _ => True) [(h, .inr (14, mL f)), (z0, .inl (cI, 20, .inl gg0)), (z1, .inl (cI, 20, .inl gg1)), (z2, .inl (cI, 20, .inl gg2)), (z3, .inl (cI, 20, .inl gg3)), (z4, .inl (cI, 20, .inl gg4)), (z5, .inl (cI, 20, .inl gg5)), (z6, .inl (cI, 20, .inl gg6)), (z7, .inl (cI, 20, .inl gg7)), (z8, .inl (cI, 320, .inl gg8)), (z9, .inl (cI, 320, .inl gg9))])) (va_Qi (S := Unit) (fun r _ => r = if a0 < 0 ∨ 0 < a0 then -1 else if a1 < 1 ∨ 1000 < a1 then -1 else if a2 < 0 ∨ 1 < a2 then -1 else if a3 < 0 ∨ 7 < a3 then -1 else if a4 < 0 ∨ 99 < a4 then -1 else if a5 < 0 ∨ 99 < a5 then -1 else 0) (fun _ _ => True) (va_A [(h, .inr (14, mL f)), (z0, .inl (cI, 20, .inl gg0)), (z1, .inl (cI, 20, .inl gg1)), (z2, .inl (cI, 20, .inl gg2)), (z3, .inl (cI, 20, .inl gg3)), (z4, .inl (cI, 20, .inl gg4)), (z5, .inl (cI, 20, .inl gg5)), (z6, .inl (cI, 20, .inl gg6)), (z7, .inl (cI, 20, .inl gg7)), (z8, .inl (cI, 320, .inl gg8)), (z9, .inl (cI, 320, .inl gg9))] sz)) 0 0 (va_A [(h, .inr (14, mL f)), (z0, .inl (cI, 20, .inl gg0)), (z1, .inl (cI, 20, .inl gg1)), (z2, .inl (cI, 20, .inl gg2)), (z3, .inl (cI, 20, .inl gg3)), (z4, .inl (cI, 20, .inl gg4)), (z5, .inl (cI, 20, .inl gg5)), (z6, .inl (cI, 20, .inl gg6)), (z7, .inl (cI, 20, .inl gg7)), (z8, .inl (cI, 320, .inl gg8)), (z9, .inl (cI, 320, .inl gg9))] sz) := by
  refine Met.ofW (cc := cX13_race) (maxL := 8) (ret := (some .int)) (by decide) rfl ?_
  intro p e s m args below meth c s₁ B hml hv
  obtain ⟨rfl, hsz, hP, hK, hD0⟩ := hv
  have hx := B.exec
  have hb := B.bytes
  have hr := B.returns
  have hts := atoms_spec (ws := v_m_race) B.pre
  have hown : s.vm.findClass RX13 = some m.cls := findClass_of_methodNamed B.named
  have hlocks := B.notSynchronized
  subst hsz
  have hD := hD0.self (sz := s.heap.size)
  generalize hAe : va_A [(h, .inr (14, mL f)), (z0, .inl (cI, 20, .inl gg0)), (z1, .inl (cI, 20, .inl gg1)), (z2, .inl (cI, 20, .inl gg2)), (z3, .inl (cI, 20, .inl gg3)), (z4, .inl (cI, 20, .inl gg4)), (z5, .inl (cI, 20, .inl gg5)), (z6, .inl (cI, 20, .inl gg6)), (z7, .inl (cI, 20, .inl gg7)), (z8, .inl (cI, 320, .inl gg8)), (z9, .inl (cI, 320, .inl gg9))] s.heap.size = A at hD ⊢
  have hA : ∀ q : Nat, s.heap.size ≤ q → A q := fun q h => by rw [← hAe]; exact Or.inr h
  have hS : va_S A s.heap s.heap [] := va_S.rf
  have hP : va_P (dC, dI) vwCl [(h, .inr (14, mL f)), (z0, .inl (cI, 20, .inl gg0)), (z1, .inl (cI, 20, .inl gg1)), (z2, .inl (cI, 20, .inl gg2)), (z3, .inl (cI, 20, .inl gg3)), (z4, .inl (cI, 20, .inl gg4)), (z5, .inl (cI, 20, .inl gg5)), (z6, .inl (cI, 20, .inl gg6)), (z7, .inl (cI, 20, .inl gg7)), (z8, .inl (cI, 320, .inl gg8)), (z9, .inl (cI, 320, .inl gg9))] s.heap := hP
  have hl := lv_entry ([.ref h, .int a0, .int a1, .int a2, .int a3, .int a4, .int a5]) (n := 8) (Nat.le_of_ble_eq_true rfl)
  rw [lg_entry_eq]
  generalize (lg_sl ([.ref h, .int a0, .int a1, .int a2, .int a3, .int a4, .int a5]) ++ List.replicate (8 - (lg_sl ([.ref h, .int a0, .int a1, .int a2, .int a3, .int a4, .int a5])).length) Slot.unset).toArray = ls at hl ⊢
  have hl : lv_has ls 8 [(0, .ref h), (1, .int a0), (2, .int a1), (3, .int a2), (4, .int a3), (5, .int a4), (6, .int a5)] := hl
  refine lv_aload_n hx hb dX13_race_0 rfl (lv_at hl 0 rfl) ?_
  refine lv_iconst (v := 0) hx hb dX13_race_1 (by decide) ?_
  refine va_put (D := (dC, dI)) (ci := 14) (v := .int 0) (ty := .int) (C := RX13) (T := TX13) (N := 97) hx hb hts iw_m_race_X13 tyX13 tyX13_ok nmX13 hown hK hP hD hS 0 rfl rfl 0 (by decide) (hts (.fieldLink RX13 228 "UnlikeBoatsModel" "thrown" "I") (List.mem_of_getElem? (i := 1) rfl)) (fun _ h9 => h9) rfl (by decide +kernel) rfl rfl (mL_lt (Nat.le_of_ble_eq_true rfl)) dX13_race_2 (fun H locs hP hD hS => ?_)
  have hP : va_P (dC, dI) vwCl [(h, .inr (14, (mL f).set 0 (.int 0))), (z0, .inl (cI, 20, .inl gg0)), (z1, .inl (cI, 20, .inl gg1)), (z2, .inl (cI, 20, .inl gg2)), (z3, .inl (cI, 20, .inl gg3)), (z4, .inl (cI, 20, .inl gg4)), (z5, .inl (cI, 20, .inl gg5)), (z6, .inl (cI, 20, .inl gg6)), (z7, .inl (cI, 20, .inl gg7)), (z8, .inl (cI, 320, .inl gg8)), (z9, .inl (cI, 320, .inl gg9))] H := hP
  have hD : va_D A [(h, .inr (14, (mL f).set 0 (.int 0))), (z0, .inl (cI, 20, .inl gg0)), (z1, .inl (cI, 20, .inl gg1)), (z2, .inl (cI, 20, .inl gg2)), (z3, .inl (cI, 20, .inl gg3)), (z4, .inl (cI, 20, .inl gg4)), (z5, .inl (cI, 20, .inl gg5)), (z6, .inl (cI, 20, .inl gg6)), (z7, .inl (cI, 20, .inl gg7)), (z8, .inl (cI, 320, .inl gg8)), (z9, .inl (cI, 320, .inl gg9))] := hD
  rw [mL_same hf_thrown] at hP hD
  refine lv_aload_n hx hb dX13_race_5 rfl (lv_at hl 0 rfl) ?_
  refine va_get (D := (dC, dI)) (ci := 14) (v := .int 0) (C := RX13) (T := TX13) (N := 97) hx hb hts iw_m_race_X13 hown hK hP 0 rfl rfl 46 (by decide) (hts (.fieldLink RX13 390 "UnlikeBoatsModel" "races" "I") (List.mem_of_getElem? (i := 2) rfl)) (fun _ h9 => h9) (mL_some (Nat.le_of_ble_eq_true rfl) hf_races) dX13_race_6 ?_
  refine lv_bipush (v := 20) hx hb dX13_race_9 (by decide) ?_
  refine lv_icmp_eq (tgt := 75) hx hb dX13_race_11 (by decide) (fun c1 => by first | exact absurd c1 (by decide) | exact absurd (by decide) c1) (fun c1 => ?_)
  refine lv_aload_n hx hb dX13_race_14 rfl (lv_at hl 0 rfl) ?_
  refine lv_iload_n hx hb dX13_race_15 rfl (lv_at hl 1 rfl) ?_
  have hPc := hP.sub (ws' := [(h, .inr (14, mL f))]) [0] rfl
  have hKc := hK.sub (tys' := []) [] rfl
  refine va_calli (va_runV (As := [.int a0]) (rest := []) ⟨hx, hb, hml, hown, hts⟩ (m_isKnown l dC dI h f a0 hf_now) (cwV 1 hts g_m_race_m_isKnown_252 rfl rfl rfl (by decide +kernel) ⟨Nat.le_of_ble_eq_true rfl, Nat.le_of_ble_eq_true rfl⟩) ⟨fun a U g mk q => by obtain ⟨e0, qP, qK⟩ := q; exact ⟨e0, qP, va_K.moved (u := U) (U := U.calling g mk a) (Vm.Alike.refl U.vm) qK⟩, va_recv hK hP (ci := 14) (q0 := 0) rfl rfl, fun U hU hW => ⟨rfl, by rw [hU]; exact hPc, va_K.moved hW.alike hKc⟩⟩ rfl rfl hl.1 rfl (lv_room (Nat.le_of_ble_eq_true rfl)) dX13_race_16 ⟨Nat.le_of_ble_eq_true rfl, Nat.le_of_ble_eq_true rfl⟩) hS (fun _ _ h => h.elim) (fun _ h => h.elim) (fun r2 u3 t H1 locs ht hvm hw hB hz1 hk1 hS => ?_)
  have hP := ub_keep hP hk1
  generalize H1 = H at hP hS ⊢
  rcases hw with ⟨rfl, hw1, hw2⟩ | ⟨rfl, hw1⟩
  · --in
    have d4a := hw1
    have d4b := hw2
    refine lv_if_eq (tgt := 75) hx hb dX13_race_19 (by decide) (fun c5 => by first | exact absurd c5 (by decide) | exact absurd (by decide) c5) (fun c5 => ?_)
    refine lv_iload_n hx hb dX13_race_22 rfl (lv_at hl 2 rfl) ?_
    refine lv_iconst (v := 1) hx hb dX13_race_23 (by decide) ?_
    refine lv_sipush (v := 1000) hx hb dX13_race_24 (by decide) ?_
    refine va_calli (va_runS (As := [.int a1, .int 1, .int 1000]) (rest := []) ⟨hx, hb, hml, hown, hts⟩ (m_isIn l a1 (1) (1000)) (va_cwS 3 hts g_m_race_m_isIn_235 rfl rfl rfl (by decide +kernel) ⟨Nat.le_of_ble_eq_true rfl, Nat.le_of_ble_eq_true rfl⟩) ⟨fun _ _ _ _ q => q, fun _ _ _ => ⟨rfl, trivial⟩⟩ rfl rfl hl.1 rfl (lv_room (Nat.le_of_ble_eq_true rfl)) dX13_race_27 ⟨Nat.le_of_ble_eq_true rfl, Nat.le_of_ble_eq_true rfl⟩) hS (fun _ _ h => h.elim) (fun _ h => h.elim) (fun r6 u7 t H1 locs ht hvm hw hB hz1 hk1 hS => ?_)
    have hP := ub_keep hP hk1
    generalize H1 = H at hP hS ⊢
    rcases hw with ⟨rfl, hw1, hw2⟩ | ⟨rfl, hw1⟩
    · --in
      have d8a := hw1
      have d8b := hw2
      refine lv_if_eq (tgt := 75) hx hb dX13_race_30 (by decide) (fun c9 => by first | exact absurd c9 (by decide) | exact absurd (by decide) c9) (fun c9 => ?_)
      refine lv_iload_n hx hb dX13_race_33 rfl (lv_at hl 3 rfl) ?_
      refine lv_iconst (v := 0) hx hb dX13_race_34 (by decide) ?_
      refine lv_iconst (v := 1) hx hb dX13_race_35 (by decide) ?_
      refine va_calli (va_runS (As := [.int a2, .int 0, .int 1]) (rest := []) ⟨hx, hb, hml, hown, hts⟩ (m_isIn l a2 (0) (1)) (va_cwS 3 hts g_m_race_m_isIn_235 rfl rfl rfl (by decide +kernel) ⟨Nat.le_of_ble_eq_true rfl, Nat.le_of_ble_eq_true rfl⟩) ⟨fun _ _ _ _ q => q, fun _ _ _ => ⟨rfl, trivial⟩⟩ rfl rfl hl.1 rfl (lv_room (Nat.le_of_ble_eq_true rfl)) dX13_race_36 ⟨Nat.le_of_ble_eq_true rfl, Nat.le_of_ble_eq_true rfl⟩) hS (fun _ _ h => h.elim) (fun _ h => h.elim) (fun r10 u11 t H1 locs ht hvm hw hB hz1 hk1 hS => ?_)
      have hP := ub_keep hP hk1
      generalize H1 = H at hP hS ⊢
      rcases hw with ⟨rfl, hw1, hw2⟩ | ⟨rfl, hw1⟩
      · --in
        have d12a := hw1
        have d12b := hw2
        refine lv_if_eq (tgt := 75) hx hb dX13_race_39 (by decide) (fun c13 => by first | exact absurd c13 (by decide) | exact absurd (by decide) c13) (fun c13 => ?_)
        refine lv_iload hx hb dX13_race_42 (lv_at hl 4 rfl) ?_
        refine lv_iconst (v := 0) hx hb dX13_race_44 (by decide) ?_
        refine lv_bipush (v := 7) hx hb dX13_race_45 (by decide) ?_
        refine va_calli (va_runS (As := [.int a3, .int 0, .int 7]) (rest := []) ⟨hx, hb, hml, hown, hts⟩ (m_isIn l a3 (0) (7)) (va_cwS 3 hts g_m_race_m_isIn_235 rfl rfl rfl (by decide +kernel) ⟨Nat.le_of_ble_eq_true rfl, Nat.le_of_ble_eq_true rfl⟩) ⟨fun _ _ _ _ q => q, fun _ _ _ => ⟨rfl, trivial⟩⟩ rfl rfl hl.1 rfl (lv_room (Nat.le_of_ble_eq_true rfl)) dX13_race_47 ⟨Nat.le_of_ble_eq_true rfl, Nat.le_of_ble_eq_true rfl⟩) hS (fun _ _ h => h.elim) (fun _ h => h.elim) (fun r14 u15 t H1 locs ht hvm hw hB hz1 hk1 hS => ?_)
        have hP := ub_keep hP hk1
        generalize H1 = H at hP hS ⊢
        rcases hw with ⟨rfl, hw1, hw2⟩ | ⟨rfl, hw1⟩
        · --in
          have d16a := hw1
          have d16b := hw2
          refine lv_if_eq (tgt := 75) hx hb dX13_race_50 (by decide) (fun c17 => by first | exact absurd c17 (by decide) | exact absurd (by decide) c17) (fun c17 => ?_)
          refine lv_iload hx hb dX13_race_53 (lv_at hl 5 rfl) ?_
          refine lv_iconst (v := 0) hx hb dX13_race_55 (by decide) ?_
          refine lv_bipush (v := 99) hx hb dX13_race_56 (by decide) ?_
          refine va_calli (va_runS (As := [.int a4, .int 0, .int 99]) (rest := []) ⟨hx, hb, hml, hown, hts⟩ (m_isIn l a4 (0) (99)) (va_cwS 3 hts g_m_race_m_isIn_235 rfl rfl rfl (by decide +kernel) ⟨Nat.le_of_ble_eq_true rfl, Nat.le_of_ble_eq_true rfl⟩) ⟨fun _ _ _ _ q => q, fun _ _ _ => ⟨rfl, trivial⟩⟩ rfl rfl hl.1 rfl (lv_room (Nat.le_of_ble_eq_true rfl)) dX13_race_58 ⟨Nat.le_of_ble_eq_true rfl, Nat.le_of_ble_eq_true rfl⟩) hS (fun _ _ h => h.elim) (fun _ h => h.elim) (fun r18 u19 t H1 locs ht hvm hw hB hz1 hk1 hS => ?_)
          have hP := ub_keep hP hk1
          generalize H1 = H at hP hS ⊢
          rcases hw with ⟨rfl, hw1, hw2⟩ | ⟨rfl, hw1⟩
          · --in
            have d20a := hw1
            have d20b := hw2
            refine lv_if_eq (tgt := 75) hx hb dX13_race_61 (by decide) (fun c21 => by first | exact absurd c21 (by decide) | exact absurd (by decide) c21) (fun c21 => ?_)
            refine lv_iload hx hb dX13_race_64 (lv_at hl 6 rfl) ?_
            refine lv_iconst (v := 0) hx hb dX13_race_66 (by decide) ?_
            refine lv_bipush (v := 99) hx hb dX13_race_67 (by decide) ?_
            refine va_calli (va_runS (As := [.int a5, .int 0, .int 99]) (rest := []) ⟨hx, hb, hml, hown, hts⟩ (m_isIn l a5 (0) (99)) (va_cwS 3 hts g_m_race_m_isIn_235 rfl rfl rfl (by decide +kernel) ⟨Nat.le_of_ble_eq_true rfl, Nat.le_of_ble_eq_true rfl⟩) ⟨fun _ _ _ _ q => q, fun _ _ _ => ⟨rfl, trivial⟩⟩ rfl rfl hl.1 rfl (lv_room (Nat.le_of_ble_eq_true rfl)) dX13_race_69 ⟨Nat.le_of_ble_eq_true rfl, Nat.le_of_ble_eq_true rfl⟩) hS (fun _ _ h => h.elim) (fun _ h => h.elim) (fun r22 u23 t H1 locs ht hvm hw hB hz1 hk1 hS => ?_)
            have hP := ub_keep hP hk1
            generalize H1 = H at hP hS ⊢
            rcases hw with ⟨rfl, hw1, hw2⟩ | ⟨rfl, hw1⟩
            · --in
              have d24a := hw1
              have d24b := hw2
              refine lv_if_ne (tgt := 77) hx hb dX13_race_72 (by decide) (fun c25 => ?_) (fun c25 => by first | exact absurd c25 (by decide) | exact absurd (by decide) c25)
              refine lv_aload_n hx hb dX13_race_77 rfl (lv_at hl 0 rfl) ?_
              refine va_get (D := (dC, dI)) (ci := 14) (v := .ref z0) (C := RX13) (T := TX13) (N := 97) hx hb hts iw_m_race_X13 hown hK hP 0 rfl rfl 27 (by decide) (hts (.fieldLink RX13 50 "UnlikeBoatsModel" "raceDay" "[I") (List.mem_of_getElem? (i := 9) rfl)) (fun _ h9 => h9) (mL_some (Nat.le_of_ble_eq_true rfl) hf_raceDay) dX13_race_78 ?_
              refine lv_aload_n hx hb dX13_race_81 rfl (lv_at hl 0 rfl) ?_
              refine va_get (D := (dC, dI)) (ci := 14) (v := .int 0) (C := RX13) (T := TX13) (N := 97) hx hb hts iw_m_race_X13 hown hK hP 0 rfl rfl 46 (by decide) (hts (.fieldLink RX13 390 "UnlikeBoatsModel" "races" "I") (List.mem_of_getElem? (i := 2) rfl)) (fun _ h9 => h9) (mL_some (Nat.le_of_ble_eq_true rfl) hf_races) dX13_race_82 ?_
              refine lv_iload_n hx hb dX13_race_85 rfl (lv_at hl 1 rfl) ?_
              refine va_iast hx hb hK hP hD hS 1 0 rfl rfl (vp_in_nI (n := 0) (N := 20) (by decide) (by decide)) dX13_race_86 (fun H locs hP hD hS => ?_)
              obtain ⟨f26, ef26⟩ : ∃ z9 : Nat → Int32, z9 = upd gg0 (0 : Int32).toNatClampNeg a0 := ⟨_, rfl⟩
              have hP : va_P (dC, dI) vwCl [(h, .inr (14, mL f)), (z0, .inl (cI, 20, .inl (upd gg0 (0 : Int32).toNatClampNeg a0))), (z1, .inl (cI, 20, .inl gg1)), (z2, .inl (cI, 20, .inl gg2)), (z3, .inl (cI, 20, .inl gg3)), (z4, .inl (cI, 20, .inl gg4)), (z5, .inl (cI, 20, .inl gg5)), (z6, .inl (cI, 20, .inl gg6)), (z7, .inl (cI, 20, .inl gg7)), (z8, .inl (cI, 320, .inl gg8)), (z9, .inl (cI, 320, .inl gg9))] H := hP
              have hD : va_D A [(h, .inr (14, mL f)), (z0, .inl (cI, 20, .inl (upd gg0 (0 : Int32).toNatClampNeg a0))), (z1, .inl (cI, 20, .inl gg1)), (z2, .inl (cI, 20, .inl gg2)), (z3, .inl (cI, 20, .inl gg3)), (z4, .inl (cI, 20, .inl gg4)), (z5, .inl (cI, 20, .inl gg5)), (z6, .inl (cI, 20, .inl gg6)), (z7, .inl (cI, 20, .inl gg7)), (z8, .inl (cI, 320, .inl gg8)), (z9, .inl (cI, 320, .inl gg9))] := hD
              rw [← ef26] at hP hD
              refine lv_aload_n hx hb dX13_race_87 rfl (lv_at hl 0 rfl) ?_
              refine va_get (D := (dC, dI)) (ci := 14) (v := .ref z1) (C := RX13) (T := TX13) (N := 97) hx hb hts iw_m_race_X13 hown hK hP 0 rfl rfl 28 (by decide) (hts (.fieldLink RX13 53 "UnlikeBoatsModel" "raceMiles" "[I") (List.mem_of_getElem? (i := 10) rfl)) (fun _ h9 => h9) (mL_some (Nat.le_of_ble_eq_true rfl) hf_raceMiles) dX13_race_88 ?_
              refine lv_aload_n hx hb dX13_race_91 rfl (lv_at hl 0 rfl) ?_
              refine va_get (D := (dC, dI)) (ci := 14) (v := .int 0) (C := RX13) (T := TX13) (N := 97) hx hb hts iw_m_race_X13 hown hK hP 0 rfl rfl 46 (by decide) (hts (.fieldLink RX13 390 "UnlikeBoatsModel" "races" "I") (List.mem_of_getElem? (i := 2) rfl)) (fun _ h9 => h9) (mL_some (Nat.le_of_ble_eq_true rfl) hf_races) dX13_race_92 ?_
              refine lv_iload_n hx hb dX13_race_95 rfl (lv_at hl 2 rfl) ?_
              refine va_iast hx hb hK hP hD hS 2 0 rfl rfl (vp_in_nI (n := 0) (N := 20) (by decide) (by decide)) dX13_race_96 (fun H locs hP hD hS => ?_)
              obtain ⟨f27, ef27⟩ : ∃ z9 : Nat → Int32, z9 = upd gg1 (0 : Int32).toNatClampNeg a1 := ⟨_, rfl⟩
              have hP : va_P (dC, dI) vwCl [(h, .inr (14, mL f)), (z0, .inl (cI, 20, .inl f26)), (z1, .inl (cI, 20, .inl (upd gg1 (0 : Int32).toNatClampNeg a1))), (z2, .inl (cI, 20, .inl gg2)), (z3, .inl (cI, 20, .inl gg3)), (z4, .inl (cI, 20, .inl gg4)), (z5, .inl (cI, 20, .inl gg5)), (z6, .inl (cI, 20, .inl gg6)), (z7, .inl (cI, 20, .inl gg7)), (z8, .inl (cI, 320, .inl gg8)), (z9, .inl (cI, 320, .inl gg9))] H := hP
              have hD : va_D A [(h, .inr (14, mL f)), (z0, .inl (cI, 20, .inl f26)), (z1, .inl (cI, 20, .inl (upd gg1 (0 : Int32).toNatClampNeg a1))), (z2, .inl (cI, 20, .inl gg2)), (z3, .inl (cI, 20, .inl gg3)), (z4, .inl (cI, 20, .inl gg4)), (z5, .inl (cI, 20, .inl gg5)), (z6, .inl (cI, 20, .inl gg6)), (z7, .inl (cI, 20, .inl gg7)), (z8, .inl (cI, 320, .inl gg8)), (z9, .inl (cI, 320, .inl gg9))] := hD
              rw [← ef27] at hP hD
              refine lv_aload_n hx hb dX13_race_97 rfl (lv_at hl 0 rfl) ?_
              refine va_get (D := (dC, dI)) (ci := 14) (v := .ref z2) (C := RX13) (T := TX13) (N := 97) hx hb hts iw_m_race_X13 hown hK hP 0 rfl rfl 29 (by decide) (hts (.fieldLink RX13 56 "UnlikeBoatsModel" "raceWay" "[I") (List.mem_of_getElem? (i := 11) rfl)) (fun _ h9 => h9) (mL_some (Nat.le_of_ble_eq_true rfl) hf_raceWay) dX13_race_98 ?_
              refine lv_aload_n hx hb dX13_race_101 rfl (lv_at hl 0 rfl) ?_
              refine va_get (D := (dC, dI)) (ci := 14) (v := .int 0) (C := RX13) (T := TX13) (N := 97) hx hb hts iw_m_race_X13 hown hK hP 0 rfl rfl 46 (by decide) (hts (.fieldLink RX13 390 "UnlikeBoatsModel" "races" "I") (List.mem_of_getElem? (i := 2) rfl)) (fun _ h9 => h9) (mL_some (Nat.le_of_ble_eq_true rfl) hf_races) dX13_race_102 ?_
              refine lv_iload_n hx hb dX13_race_105 rfl (lv_at hl 3 rfl) ?_
              refine va_iast hx hb hK hP hD hS 3 0 rfl rfl (vp_in_nI (n := 0) (N := 20) (by decide) (by decide)) dX13_race_106 (fun H locs hP hD hS => ?_)
              obtain ⟨f28, ef28⟩ : ∃ z9 : Nat → Int32, z9 = upd gg2 (0 : Int32).toNatClampNeg a2 := ⟨_, rfl⟩
              have hP : va_P (dC, dI) vwCl [(h, .inr (14, mL f)), (z0, .inl (cI, 20, .inl f26)), (z1, .inl (cI, 20, .inl f27)), (z2, .inl (cI, 20, .inl (upd gg2 (0 : Int32).toNatClampNeg a2))), (z3, .inl (cI, 20, .inl gg3)), (z4, .inl (cI, 20, .inl gg4)), (z5, .inl (cI, 20, .inl gg5)), (z6, .inl (cI, 20, .inl gg6)), (z7, .inl (cI, 20, .inl gg7)), (z8, .inl (cI, 320, .inl gg8)), (z9, .inl (cI, 320, .inl gg9))] H := hP
              have hD : va_D A [(h, .inr (14, mL f)), (z0, .inl (cI, 20, .inl f26)), (z1, .inl (cI, 20, .inl f27)), (z2, .inl (cI, 20, .inl (upd gg2 (0 : Int32).toNatClampNeg a2))), (z3, .inl (cI, 20, .inl gg3)), (z4, .inl (cI, 20, .inl gg4)), (z5, .inl (cI, 20, .inl gg5)), (z6, .inl (cI, 20, .inl gg6)), (z7, .inl (cI, 20, .inl gg7)), (z8, .inl (cI, 320, .inl gg8)), (z9, .inl (cI, 320, .inl gg9))] := hD
              rw [← ef28] at hP hD
              refine lv_aload_n hx hb dX13_race_107 rfl (lv_at hl 0 rfl) ?_
              refine va_get (D := (dC, dI)) (ci := 14) (v := .ref z3) (C := RX13) (T := TX13) (N := 97) hx hb hts iw_m_race_X13 hown hK hP 0 rfl rfl 30 (by decide) (hts (.fieldLink RX13 59 "UnlikeBoatsModel" "raceWind" "[I") (List.mem_of_getElem? (i := 12) rfl)) (fun _ h9 => h9) (mL_some (Nat.le_of_ble_eq_true rfl) hf_raceWind) dX13_race_108 ?_
              refine lv_aload_n hx hb dX13_race_111 rfl (lv_at hl 0 rfl) ?_
              refine va_get (D := (dC, dI)) (ci := 14) (v := .int 0) (C := RX13) (T := TX13) (N := 97) hx hb hts iw_m_race_X13 hown hK hP 0 rfl rfl 46 (by decide) (hts (.fieldLink RX13 390 "UnlikeBoatsModel" "races" "I") (List.mem_of_getElem? (i := 2) rfl)) (fun _ h9 => h9) (mL_some (Nat.le_of_ble_eq_true rfl) hf_races) dX13_race_112 ?_
              refine lv_iload hx hb dX13_race_115 (lv_at hl 4 rfl) ?_
              refine va_iast hx hb hK hP hD hS 4 0 rfl rfl (vp_in_nI (n := 0) (N := 20) (by decide) (by decide)) dX13_race_117 (fun H locs hP hD hS => ?_)
              obtain ⟨f29, ef29⟩ : ∃ z9 : Nat → Int32, z9 = upd gg3 (0 : Int32).toNatClampNeg a3 := ⟨_, rfl⟩
              have hP : va_P (dC, dI) vwCl [(h, .inr (14, mL f)), (z0, .inl (cI, 20, .inl f26)), (z1, .inl (cI, 20, .inl f27)), (z2, .inl (cI, 20, .inl f28)), (z3, .inl (cI, 20, .inl (upd gg3 (0 : Int32).toNatClampNeg a3))), (z4, .inl (cI, 20, .inl gg4)), (z5, .inl (cI, 20, .inl gg5)), (z6, .inl (cI, 20, .inl gg6)), (z7, .inl (cI, 20, .inl gg7)), (z8, .inl (cI, 320, .inl gg8)), (z9, .inl (cI, 320, .inl gg9))] H := hP
              have hD : va_D A [(h, .inr (14, mL f)), (z0, .inl (cI, 20, .inl f26)), (z1, .inl (cI, 20, .inl f27)), (z2, .inl (cI, 20, .inl f28)), (z3, .inl (cI, 20, .inl (upd gg3 (0 : Int32).toNatClampNeg a3))), (z4, .inl (cI, 20, .inl gg4)), (z5, .inl (cI, 20, .inl gg5)), (z6, .inl (cI, 20, .inl gg6)), (z7, .inl (cI, 20, .inl gg7)), (z8, .inl (cI, 320, .inl gg8)), (z9, .inl (cI, 320, .inl gg9))] := hD
              rw [← ef29] at hP hD
              refine lv_aload_n hx hb dX13_race_118 rfl (lv_at hl 0 rfl) ?_
              refine va_get (D := (dC, dI)) (ci := 14) (v := .ref z4) (C := RX13) (T := TX13) (N := 97) hx hb hts iw_m_race_X13 hown hK hP 0 rfl rfl 31 (by decide) (hts (.fieldLink RX13 62 "UnlikeBoatsModel" "markX" "[I") (List.mem_of_getElem? (i := 13) rfl)) (fun _ h9 => h9) (mL_some (Nat.le_of_ble_eq_true rfl) hf_markX) dX13_race_119 ?_
              refine lv_aload_n hx hb dX13_race_122 rfl (lv_at hl 0 rfl) ?_
              refine va_get (D := (dC, dI)) (ci := 14) (v := .int 0) (C := RX13) (T := TX13) (N := 97) hx hb hts iw_m_race_X13 hown hK hP 0 rfl rfl 46 (by decide) (hts (.fieldLink RX13 390 "UnlikeBoatsModel" "races" "I") (List.mem_of_getElem? (i := 2) rfl)) (fun _ h9 => h9) (mL_some (Nat.le_of_ble_eq_true rfl) hf_races) dX13_race_123 ?_
              refine lv_iload hx hb dX13_race_126 (lv_at hl 5 rfl) ?_
              refine va_iast hx hb hK hP hD hS 5 0 rfl rfl (vp_in_nI (n := 0) (N := 20) (by decide) (by decide)) dX13_race_128 (fun H locs hP hD hS => ?_)
              obtain ⟨f30, ef30⟩ : ∃ z9 : Nat → Int32, z9 = upd gg4 (0 : Int32).toNatClampNeg a4 := ⟨_, rfl⟩
              have hP : va_P (dC, dI) vwCl [(h, .inr (14, mL f)), (z0, .inl (cI, 20, .inl f26)), (z1, .inl (cI, 20, .inl f27)), (z2, .inl (cI, 20, .inl f28)), (z3, .inl (cI, 20, .inl f29)), (z4, .inl (cI, 20, .inl (upd gg4 (0 : Int32).toNatClampNeg a4))), (z5, .inl (cI, 20, .inl gg5)), (z6, .inl (cI, 20, .inl gg6)), (z7, .inl (cI, 20, .inl gg7)), (z8, .inl (cI, 320, .inl gg8)), (z9, .inl (cI, 320, .inl gg9))] H := hP
              have hD : va_D A [(h, .inr (14, mL f)), (z0, .inl (cI, 20, .inl f26)), (z1, .inl (cI, 20, .inl f27)), (z2, .inl (cI, 20, .inl f28)), (z3, .inl (cI, 20, .inl f29)), (z4, .inl (cI, 20, .inl (upd gg4 (0 : Int32).toNatClampNeg a4))), (z5, .inl (cI, 20, .inl gg5)), (z6, .inl (cI, 20, .inl gg6)), (z7, .inl (cI, 20, .inl gg7)), (z8, .inl (cI, 320, .inl gg8)), (z9, .inl (cI, 320, .inl gg9))] := hD
              rw [← ef30] at hP hD
              refine lv_aload_n hx hb dX13_race_129 rfl (lv_at hl 0 rfl) ?_
              refine va_get (D := (dC, dI)) (ci := 14) (v := .ref z5) (C := RX13) (T := TX13) (N := 97) hx hb hts iw_m_race_X13 hown hK hP 0 rfl rfl 32 (by decide) (hts (.fieldLink RX13 65 "UnlikeBoatsModel" "markY" "[I") (List.mem_of_getElem? (i := 14) rfl)) (fun _ h9 => h9) (mL_some (Nat.le_of_ble_eq_true rfl) hf_markY) dX13_race_130 ?_
              refine lv_aload_n hx hb dX13_race_133 rfl (lv_at hl 0 rfl) ?_
              refine va_get (D := (dC, dI)) (ci := 14) (v := .int 0) (C := RX13) (T := TX13) (N := 97) hx hb hts iw_m_race_X13 hown hK hP 0 rfl rfl 46 (by decide) (hts (.fieldLink RX13 390 "UnlikeBoatsModel" "races" "I") (List.mem_of_getElem? (i := 2) rfl)) (fun _ h9 => h9) (mL_some (Nat.le_of_ble_eq_true rfl) hf_races) dX13_race_134 ?_
              refine lv_iload hx hb dX13_race_137 (lv_at hl 6 rfl) ?_
              refine va_iast hx hb hK hP hD hS 6 0 rfl rfl (vp_in_nI (n := 0) (N := 20) (by decide) (by decide)) dX13_race_139 (fun H locs hP hD hS => ?_)
              obtain ⟨f31, ef31⟩ : ∃ z9 : Nat → Int32, z9 = upd gg5 (0 : Int32).toNatClampNeg a5 := ⟨_, rfl⟩
              have hP : va_P (dC, dI) vwCl [(h, .inr (14, mL f)), (z0, .inl (cI, 20, .inl f26)), (z1, .inl (cI, 20, .inl f27)), (z2, .inl (cI, 20, .inl f28)), (z3, .inl (cI, 20, .inl f29)), (z4, .inl (cI, 20, .inl f30)), (z5, .inl (cI, 20, .inl (upd gg5 (0 : Int32).toNatClampNeg a5))), (z6, .inl (cI, 20, .inl gg6)), (z7, .inl (cI, 20, .inl gg7)), (z8, .inl (cI, 320, .inl gg8)), (z9, .inl (cI, 320, .inl gg9))] H := hP
              have hD : va_D A [(h, .inr (14, mL f)), (z0, .inl (cI, 20, .inl f26)), (z1, .inl (cI, 20, .inl f27)), (z2, .inl (cI, 20, .inl f28)), (z3, .inl (cI, 20, .inl f29)), (z4, .inl (cI, 20, .inl f30)), (z5, .inl (cI, 20, .inl (upd gg5 (0 : Int32).toNatClampNeg a5))), (z6, .inl (cI, 20, .inl gg6)), (z7, .inl (cI, 20, .inl gg7)), (z8, .inl (cI, 320, .inl gg8)), (z9, .inl (cI, 320, .inl gg9))] := hD
              rw [← ef31] at hP hD
              refine lv_aload_n hx hb dX13_race_140 rfl (lv_at hl 0 rfl) ?_
              refine va_get (D := (dC, dI)) (ci := 14) (v := .ref z6) (C := RX13) (T := TX13) (N := 97) hx hb hts iw_m_race_X13 hown hK hP 0 rfl rfl 33 (by decide) (hts (.fieldLink RX13 68 "UnlikeBoatsModel" "raceSwift" "[I") (List.mem_of_getElem? (i := 15) rfl)) (fun _ h9 => h9) (mL_some (Nat.le_of_ble_eq_true rfl) hf_raceSwift) dX13_race_141 ?_
              refine lv_aload_n hx hb dX13_race_144 rfl (lv_at hl 0 rfl) ?_
              refine va_get (D := (dC, dI)) (ci := 14) (v := .int 0) (C := RX13) (T := TX13) (N := 97) hx hb hts iw_m_race_X13 hown hK hP 0 rfl rfl 46 (by decide) (hts (.fieldLink RX13 390 "UnlikeBoatsModel" "races" "I") (List.mem_of_getElem? (i := 2) rfl)) (fun _ h9 => h9) (mL_some (Nat.le_of_ble_eq_true rfl) hf_races) dX13_race_145 ?_
              refine lv_iconst (v := 2) hx hb dX13_race_148 (by decide) ?_
              refine va_iast hx hb hK hP hD hS 7 0 rfl rfl (vp_in_nI (n := 0) (N := 20) (by decide) (by decide)) dX13_race_149 (fun H locs hP hD hS => ?_)
              obtain ⟨f32, ef32⟩ : ∃ z9 : Nat → Int32, z9 = upd gg6 (0 : Int32).toNatClampNeg 2 := ⟨_, rfl⟩
              have hP : va_P (dC, dI) vwCl [(h, .inr (14, mL f)), (z0, .inl (cI, 20, .inl f26)), (z1, .inl (cI, 20, .inl f27)), (z2, .inl (cI, 20, .inl f28)), (z3, .inl (cI, 20, .inl f29)), (z4, .inl (cI, 20, .inl f30)), (z5, .inl (cI, 20, .inl f31)), (z6, .inl (cI, 20, .inl (upd gg6 (0 : Int32).toNatClampNeg 2))), (z7, .inl (cI, 20, .inl gg7)), (z8, .inl (cI, 320, .inl gg8)), (z9, .inl (cI, 320, .inl gg9))] H := hP
              have hD : va_D A [(h, .inr (14, mL f)), (z0, .inl (cI, 20, .inl f26)), (z1, .inl (cI, 20, .inl f27)), (z2, .inl (cI, 20, .inl f28)), (z3, .inl (cI, 20, .inl f29)), (z4, .inl (cI, 20, .inl f30)), (z5, .inl (cI, 20, .inl f31)), (z6, .inl (cI, 20, .inl (upd gg6 (0 : Int32).toNatClampNeg 2))), (z7, .inl (cI, 20, .inl gg7)), (z8, .inl (cI, 320, .inl gg8)), (z9, .inl (cI, 320, .inl gg9))] := hD
              rw [← ef32] at hP hD
              refine lv_aload_n hx hb dX13_race_150 rfl (lv_at hl 0 rfl) ?_
              refine va_get (D := (dC, dI)) (ci := 14) (v := .ref z7) (C := RX13) (T := TX13) (N := 97) hx hb hts iw_m_race_X13 hown hK hP 0 rfl rfl 34 (by decide) (hts (.fieldLink RX13 71 "UnlikeBoatsModel" "raceTold" "[I") (List.mem_of_getElem? (i := 16) rfl)) (fun _ h9 => h9) (mL_some (Nat.le_of_ble_eq_true rfl) hf_raceTold) dX13_race_151 ?_
              refine lv_aload_n hx hb dX13_race_154 rfl (lv_at hl 0 rfl) ?_
              refine va_get (D := (dC, dI)) (ci := 14) (v := .int 0) (C := RX13) (T := TX13) (N := 97) hx hb hts iw_m_race_X13 hown hK hP 0 rfl rfl 46 (by decide) (hts (.fieldLink RX13 390 "UnlikeBoatsModel" "races" "I") (List.mem_of_getElem? (i := 2) rfl)) (fun _ h9 => h9) (mL_some (Nat.le_of_ble_eq_true rfl) hf_races) dX13_race_155 ?_
              refine lv_aload_n hx hb dX13_race_158 rfl (lv_at hl 0 rfl) ?_
              refine va_get (D := (dC, dI)) (ci := 14) (v := .int 0) (C := RX13) (T := TX13) (N := 97) hx hb hts iw_m_race_X13 hown hK hP 0 rfl rfl 1 (by decide) (hts (.fieldLink RX13 232 "UnlikeBoatsModel" "now" "I") (List.mem_of_getElem? (i := 17) rfl)) (fun _ h9 => h9) (mL_some (Nat.le_of_ble_eq_true rfl) hf_now) dX13_race_159 ?_
              refine va_iast hx hb hK hP hD hS 8 0 rfl rfl (vp_in_nI (n := 0) (N := 20) (by decide) (by decide)) dX13_race_162 (fun H locs hP hD hS => ?_)
              obtain ⟨f33, ef33⟩ : ∃ z9 : Nat → Int32, z9 = upd gg7 (0 : Int32).toNatClampNeg 0 := ⟨_, rfl⟩
              have hP : va_P (dC, dI) vwCl [(h, .inr (14, mL f)), (z0, .inl (cI, 20, .inl f26)), (z1, .inl (cI, 20, .inl f27)), (z2, .inl (cI, 20, .inl f28)), (z3, .inl (cI, 20, .inl f29)), (z4, .inl (cI, 20, .inl f30)), (z5, .inl (cI, 20, .inl f31)), (z6, .inl (cI, 20, .inl f32)), (z7, .inl (cI, 20, .inl (upd gg7 (0 : Int32).toNatClampNeg 0))), (z8, .inl (cI, 320, .inl gg8)), (z9, .inl (cI, 320, .inl gg9))] H := hP
              have hD : va_D A [(h, .inr (14, mL f)), (z0, .inl (cI, 20, .inl f26)), (z1, .inl (cI, 20, .inl f27)), (z2, .inl (cI, 20, .inl f28)), (z3, .inl (cI, 20, .inl f29)), (z4, .inl (cI, 20, .inl f30)), (z5, .inl (cI, 20, .inl f31)), (z6, .inl (cI, 20, .inl f32)), (z7, .inl (cI, 20, .inl (upd gg7 (0 : Int32).toNatClampNeg 0))), (z8, .inl (cI, 320, .inl gg8)), (z9, .inl (cI, 320, .inl gg9))] := hD
              rw [← ef33] at hP hD
              refine lv_iconst (v := 0) hx hb dX13_race_163 (by decide) ?_
              refine lv_istore (lv' := [(7, .int 0), (0, .ref h), (1, .int a0), (2, .int a1), (3, .int a2), (4, .int a3), (5, .int a4), (6, .int a5)]) hx hb dX13_race_164 hl (by decide) rfl (fun ls hl => ?_)
              have hLp : ∀ (d i : Nat) (gl0 : Nat → Int32) (gl1 : Nat → Int32) (H : Heap) (locs : List Loc) (ls : Array Slot), i + d = 16 → va_P (dC, dI) vwCl [(h, .inr (14, mL f)), (z0, .inl (cI, 20, .inl f26)), (z1, .inl (cI, 20, .inl f27)), (z2, .inl (cI, 20, .inl f28)), (z3, .inl (cI, 20, .inl f29)), (z4, .inl (cI, 20, .inl f30)), (z5, .inl (cI, 20, .inl f31)), (z6, .inl (cI, 20, .inl f32)), (z7, .inl (cI, 20, .inl f33)), (z8, .inl (cI, 320, .inl gl0)), (z9, .inl (cI, 320, .inl gl1))] H → va_D A [(h, .inr (14, mL f)), (z0, .inl (cI, 20, .inl f26)), (z1, .inl (cI, 20, .inl f27)), (z2, .inl (cI, 20, .inl f28)), (z3, .inl (cI, 20, .inl f29)), (z4, .inl (cI, 20, .inl f30)), (z5, .inl (cI, 20, .inl f31)), (z6, .inl (cI, 20, .inl f32)), (z7, .inl (cI, 20, .inl f33)), (z8, .inl (cI, 320, .inl gl0)), (z9, .inl (cI, 320, .inl gl1))] → va_S A s.heap H locs → lv_has ls 8 [(7, .int (nI i)), (0, .ref h), (1, .int a0), (2, .int a1), (3, .int a2), (4, .int a3), (5, .int a4), (6, .int a5)] → W p l e (headSpec v_m_race ({ frames := 2, cells := 0, slots := 0, locals := 80 })).room s m ([.ref h, .int a0, .int a1, .int a2, .int a3, .int a4, .int a5] : List Value).toArray below meth c H locs 0 0 (MQ below (va_Qi (S := Unit) (fun r _ => r = if a0 < 0 ∨ 0 < a0 then -1 else if a1 < 1 ∨ 1000 < a1 then -1 else if a2 < 0 ∨ 1 < a2 then -1 else if a3 < 0 ∨ 7 < a3 then -1 else if a4 < 0 ∨ 99 < a4 then -1 else if a5 < 0 ∨ 99 < a5 then -1 else 0) (fun _ _ => True) (A)) ([.ref h, .int a0, .int a1, .int a2, .int a3, .int a4, .int a5] : List Value).toArray s 0 0 (A)) (F0 m 166 ls []) := by
                intro d
                induction d with
                | zero =>
                  intro i gl0 gl1 H locs ls hi  hP hD hS hl
                  refine lv_iload hx hb dX13_race_166 (lv_at hl 0 rfl) ?_
                  refine lv_bipush (v := 16) hx hb dX13_race_168 (by decide) ?_
                  refine lv_icmp_ge (tgt := 213) hx hb dX13_race_170 (by decide) (fun c34 => ?_) (fun c34 => by first | exact absurd c34 (nI_le (a := 16) (b := i) (by omega) (by omega)) | exact absurd (nI_le (a := 16) (b := i) (by omega) (by omega)) c34)
                  refine lv_aload_n hx hb dX13_race_213 rfl (lv_at hl 1 rfl) ?_
                  refine lv_dup hx hb dX13_race_214 rfl ?_
                  refine va_get (D := (dC, dI)) (ci := 14) (v := .int 0) (C := RX13) (T := TX13) (N := 97) hx hb hts iw_m_race_X13 hown hK hP 0 rfl rfl 46 (by decide) (hts (.fieldLink RX13 390 "UnlikeBoatsModel" "races" "I") (List.mem_of_getElem? (i := 2) rfl)) (fun _ h9 => h9) (mL_some (Nat.le_of_ble_eq_true rfl) hf_races) dX13_race_215 ?_
                  refine lv_iconst (v := 1) hx hb dX13_race_218 (by decide) ?_
                  refine lv_iadd hx hb dX13_race_219 ?_
                  refine lv_topi (fun y35 ey35 => ?_)
                  obtain rfl : (1 : Int32) = y35 := (ey35.trans (by decide)).symm
                  refine va_put (D := (dC, dI)) (ci := 14) (v := .int 1) (ty := .int) (C := RX13) (T := TX13) (N := 97) hx hb hts iw_m_race_X13 tyX13 tyX13_ok nmX13 hown hK hP hD hS 0 rfl rfl 46 (by decide) (hts (.fieldLink RX13 390 "UnlikeBoatsModel" "races" "I") (List.mem_of_getElem? (i := 2) rfl)) (fun _ h9 => h9) rfl (by decide +kernel) rfl rfl (mL_lt (Nat.le_of_ble_eq_true rfl)) dX13_race_220 (fun H locs hP hD hS => ?_)
                  have hP : va_P (dC, dI) vwCl [(h, .inr (14, (mL f).set 46 (.int 1))), (z0, .inl (cI, 20, .inl f26)), (z1, .inl (cI, 20, .inl f27)), (z2, .inl (cI, 20, .inl f28)), (z3, .inl (cI, 20, .inl f29)), (z4, .inl (cI, 20, .inl f30)), (z5, .inl (cI, 20, .inl f31)), (z6, .inl (cI, 20, .inl f32)), (z7, .inl (cI, 20, .inl f33)), (z8, .inl (cI, 320, .inl gl0)), (z9, .inl (cI, 320, .inl gl1))] H := hP
                  have hD : va_D A [(h, .inr (14, (mL f).set 46 (.int 1))), (z0, .inl (cI, 20, .inl f26)), (z1, .inl (cI, 20, .inl f27)), (z2, .inl (cI, 20, .inl f28)), (z3, .inl (cI, 20, .inl f29)), (z4, .inl (cI, 20, .inl f30)), (z5, .inl (cI, 20, .inl f31)), (z6, .inl (cI, 20, .inl f32)), (z7, .inl (cI, 20, .inl f33)), (z8, .inl (cI, 320, .inl gl0)), (z9, .inl (cI, 320, .inl gl1))] := hD
                  obtain ⟨g36, eg36⟩ : ∃ z9, z9 = va_up f 46 (.int 1) := ⟨_, rfl⟩
                  rw [mL_upd, ← eg36] at hP hD
                  have hg36_0 : g36 0 = .int 0 := by rw [eg36]; exact (va_up_ne _ _ (by decide)).trans hf_thrown
                  have hg36_1 : g36 1 = .int 0 := by rw [eg36]; exact (va_up_ne _ _ (by decide)).trans hf_now
                  have hg36_27 : g36 27 = .ref z0 := by rw [eg36]; exact (va_up_ne _ _ (by decide)).trans hf_raceDay
                  have hg36_28 : g36 28 = .ref z1 := by rw [eg36]; exact (va_up_ne _ _ (by decide)).trans hf_raceMiles
                  have hg36_29 : g36 29 = .ref z2 := by rw [eg36]; exact (va_up_ne _ _ (by decide)).trans hf_raceWay
                  have hg36_30 : g36 30 = .ref z3 := by rw [eg36]; exact (va_up_ne _ _ (by decide)).trans hf_raceWind
                  have hg36_31 : g36 31 = .ref z4 := by rw [eg36]; exact (va_up_ne _ _ (by decide)).trans hf_markX
                  have hg36_32 : g36 32 = .ref z5 := by rw [eg36]; exact (va_up_ne _ _ (by decide)).trans hf_markY
                  have hg36_33 : g36 33 = .ref z6 := by rw [eg36]; exact (va_up_ne _ _ (by decide)).trans hf_raceSwift
                  have hg36_34 : g36 34 = .ref z7 := by rw [eg36]; exact (va_up_ne _ _ (by decide)).trans hf_raceTold
                  have hg36_35 : g36 35 = .ref z8 := by rw [eg36]; exact (va_up_ne _ _ (by decide)).trans hf_entered
                  have hg36_36 : g36 36 = .ref z9 := by rw [eg36]; exact (va_up_ne _ _ (by decide)).trans hf_startEnd
                  have hg36_46 : g36 46 = .int 1 := by rw [eg36]; exact va_up_self _ _ _
                  refine lv_aload_n hx hb dX13_race_223 rfl (lv_at hl 1 rfl) ?_
                  refine va_get (D := (dC, dI)) (ci := 14) (v := .int 1) (C := RX13) (T := TX13) (N := 97) hx hb hts iw_m_race_X13 hown hK hP 0 rfl rfl 46 (by decide) (hts (.fieldLink RX13 390 "UnlikeBoatsModel" "races" "I") (List.mem_of_getElem? (i := 2) rfl)) (fun _ h9 => h9) (mL_some (Nat.le_of_ble_eq_true rfl) hg36_46) dX13_race_224 ?_
                  refine lv_iconst (v := 1) hx hb dX13_race_227 (by decide) ?_
                  refine lv_isub hx hb dX13_race_228 ?_
                  refine lv_topi (fun y37 ey37 => ?_)
                  obtain rfl : (0 : Int32) = y37 := (ey37.trans (by decide)).symm
                  exact W.iret (v := (0)) hx hb hr (fun t ht hW => ⟨⟨(0), (), rfl, by rw [if_neg (fun hh => hh.elim d4a d4b), if_neg (fun hh => hh.elim d8a d8b), if_neg (fun hh => hh.elim d12a d12b), if_neg (fun hh => hh.elim d16a d16b), if_neg (fun hh => hh.elim d20a d20b), if_neg (fun hh => hh.elim d24a d24b)], trivial⟩, hS.F ht⟩) hS.2.2 dX13_race_229
                | succ d ih =>
                  intro i gl0 gl1 H locs ls hi  hP hD hS hl
                  refine lv_iload hx hb dX13_race_166 (lv_at hl 0 rfl) ?_
                  refine lv_bipush (v := 16) hx hb dX13_race_168 (by decide) ?_
                  refine lv_icmp_ge (tgt := 213) hx hb dX13_race_170 (by decide) (fun c38 => by first | exact absurd c38 (nI_ge (a := i) (b := 16) (by omega) (by omega)) | exact absurd (nI_ge (a := i) (b := 16) (by omega) (by omega)) c38) (fun c38 => ?_)
                  refine lv_aload_n hx hb dX13_race_173 rfl (lv_at hl 1 rfl) ?_
                  refine va_get (D := (dC, dI)) (ci := 14) (v := .ref z8) (C := RX13) (T := TX13) (N := 97) hx hb hts iw_m_race_X13 hown hK hP 0 rfl rfl 35 (by decide) (hts (.fieldLink RX13 74 "UnlikeBoatsModel" "entered" "[I") (List.mem_of_getElem? (i := 18) rfl)) (fun _ h9 => h9) (mL_some (Nat.le_of_ble_eq_true rfl) hf_entered) dX13_race_174 ?_
                  refine lv_bipush (v := 16) hx hb dX13_race_177 (by decide) ?_
                  refine lv_aload_n hx hb dX13_race_179 rfl (lv_at hl 1 rfl) ?_
                  refine va_get (D := (dC, dI)) (ci := 14) (v := .int 0) (C := RX13) (T := TX13) (N := 97) hx hb hts iw_m_race_X13 hown hK hP 0 rfl rfl 46 (by decide) (hts (.fieldLink RX13 390 "UnlikeBoatsModel" "races" "I") (List.mem_of_getElem? (i := 2) rfl)) (fun _ h9 => h9) (mL_some (Nat.le_of_ble_eq_true rfl) hf_races) dX13_race_180 ?_
                  refine lv_imul hx hb dX13_race_183 ?_
                  refine lv_topi (fun y39 ey39 => ?_)
                  obtain rfl : (0 : Int32) = y39 := (ey39.trans (by decide)).symm
                  refine lv_iload hx hb dX13_race_184 (lv_at hl 0 rfl) ?_
                  refine lv_iadd hx hb dX13_race_186 ?_
                  refine lv_topi (fun y40 ey40 => ?_)
                  obtain rfl : (nI i : Int32) = y40 := (ey40.trans (Int32.zero_add _)).symm
                  refine lv_sipush (v := 1000) hx hb dX13_race_187 (by decide) ?_
                  refine va_iast hx hb hK hP hD hS 9 0 rfl rfl (vp_in_nI (n := i) (N := 320) (by omega) (by omega)) dX13_race_190 (fun H locs hP hD hS => ?_)
                  obtain ⟨f41, ef41⟩ : ∃ z9 : Nat → Int32, z9 = upd gl0 (nI i).toNatClampNeg 1000 := ⟨_, rfl⟩
                  have hP : va_P (dC, dI) vwCl [(h, .inr (14, mL f)), (z0, .inl (cI, 20, .inl f26)), (z1, .inl (cI, 20, .inl f27)), (z2, .inl (cI, 20, .inl f28)), (z3, .inl (cI, 20, .inl f29)), (z4, .inl (cI, 20, .inl f30)), (z5, .inl (cI, 20, .inl f31)), (z6, .inl (cI, 20, .inl f32)), (z7, .inl (cI, 20, .inl f33)), (z8, .inl (cI, 320, .inl (upd gl0 (nI i).toNatClampNeg 1000))), (z9, .inl (cI, 320, .inl gl1))] H := hP
                  have hD : va_D A [(h, .inr (14, mL f)), (z0, .inl (cI, 20, .inl f26)), (z1, .inl (cI, 20, .inl f27)), (z2, .inl (cI, 20, .inl f28)), (z3, .inl (cI, 20, .inl f29)), (z4, .inl (cI, 20, .inl f30)), (z5, .inl (cI, 20, .inl f31)), (z6, .inl (cI, 20, .inl f32)), (z7, .inl (cI, 20, .inl f33)), (z8, .inl (cI, 320, .inl (upd gl0 (nI i).toNatClampNeg 1000))), (z9, .inl (cI, 320, .inl gl1))] := hD
                  rw [← ef41] at hP hD
                  refine lv_aload_n hx hb dX13_race_191 rfl (lv_at hl 1 rfl) ?_
                  refine va_get (D := (dC, dI)) (ci := 14) (v := .ref z9) (C := RX13) (T := TX13) (N := 97) hx hb hts iw_m_race_X13 hown hK hP 0 rfl rfl 36 (by decide) (hts (.fieldLink RX13 77 "UnlikeBoatsModel" "startEnd" "[I") (List.mem_of_getElem? (i := 19) rfl)) (fun _ h9 => h9) (mL_some (Nat.le_of_ble_eq_true rfl) hf_startEnd) dX13_race_192 ?_
                  refine lv_bipush (v := 16) hx hb dX13_race_195 (by decide) ?_
                  refine lv_aload_n hx hb dX13_race_197 rfl (lv_at hl 1 rfl) ?_
                  refine va_get (D := (dC, dI)) (ci := 14) (v := .int 0) (C := RX13) (T := TX13) (N := 97) hx hb hts iw_m_race_X13 hown hK hP 0 rfl rfl 46 (by decide) (hts (.fieldLink RX13 390 "UnlikeBoatsModel" "races" "I") (List.mem_of_getElem? (i := 2) rfl)) (fun _ h9 => h9) (mL_some (Nat.le_of_ble_eq_true rfl) hf_races) dX13_race_198 ?_
                  refine lv_imul hx hb dX13_race_201 ?_
                  refine lv_topi (fun y42 ey42 => ?_)
                  obtain rfl : (0 : Int32) = y42 := (ey42.trans (by decide)).symm
                  refine lv_iload hx hb dX13_race_202 (lv_at hl 0 rfl) ?_
                  refine lv_iadd hx hb dX13_race_204 ?_
                  refine lv_topi (fun y43 ey43 => ?_)
                  obtain rfl : (nI i : Int32) = y43 := (ey43.trans (Int32.zero_add _)).symm
                  refine lv_iconst (v := -1) hx hb dX13_race_205 (by decide) ?_
                  refine va_iast hx hb hK hP hD hS 10 0 rfl rfl (vp_in_nI (n := i) (N := 320) (by omega) (by omega)) dX13_race_206 (fun H locs hP hD hS => ?_)
                  obtain ⟨f44, ef44⟩ : ∃ z9 : Nat → Int32, z9 = upd gl1 (nI i).toNatClampNeg (-1) := ⟨_, rfl⟩
                  have hP : va_P (dC, dI) vwCl [(h, .inr (14, mL f)), (z0, .inl (cI, 20, .inl f26)), (z1, .inl (cI, 20, .inl f27)), (z2, .inl (cI, 20, .inl f28)), (z3, .inl (cI, 20, .inl f29)), (z4, .inl (cI, 20, .inl f30)), (z5, .inl (cI, 20, .inl f31)), (z6, .inl (cI, 20, .inl f32)), (z7, .inl (cI, 20, .inl f33)), (z8, .inl (cI, 320, .inl f41)), (z9, .inl (cI, 320, .inl (upd gl1 (nI i).toNatClampNeg (-1))))] H := hP
                  have hD : va_D A [(h, .inr (14, mL f)), (z0, .inl (cI, 20, .inl f26)), (z1, .inl (cI, 20, .inl f27)), (z2, .inl (cI, 20, .inl f28)), (z3, .inl (cI, 20, .inl f29)), (z4, .inl (cI, 20, .inl f30)), (z5, .inl (cI, 20, .inl f31)), (z6, .inl (cI, 20, .inl f32)), (z7, .inl (cI, 20, .inl f33)), (z8, .inl (cI, 320, .inl f41)), (z9, .inl (cI, 320, .inl (upd gl1 (nI i).toNatClampNeg (-1))))] := hD
                  rw [← ef44] at hP hD
                  refine lv_iinc (v := nI (i + 1)) (lv' := [(7, .int (nI (i + 1))), (0, .ref h), (1, .int a0), (2, .int a1), (3, .int a2), (4, .int a3), (5, .int a4), (6, .int a5)]) hx hb dX13_race_207 hl (k := 0) rfl (nI_1 _) (by decide) rfl (fun ls hl => ?_)
                  refine lv_goto (tgt := 166) hx hb dX13_race_210 (by decide) ?_
                  exact ih (i + 1) f41 f44 _ _ ls (by omega)  hP hD hS (lv_sub hl [0, 1, 2, 3, 4, 5, 6, 7] rfl)
              exact hLp 16 0 gg8 gg9 _ _ ls (by omega)  hP hD hS (lv_sub hl [0, 1, 2, 3, 4, 5, 6, 7] rfl)
            · --out
              have d45 := hw1
              refine lv_if_ne (tgt := 77) hx hb dX13_race_72 (by decide) (fun c46 => by first | exact absurd c46 (by decide) | exact absurd (by decide) c46) (fun c46 => ?_)
              refine lv_iconst (v := -1) hx hb dX13_race_75 (by decide) ?_
              exact W.iret (v := (-1)) hx hb hr (fun t ht hW => ⟨⟨(-1), (), rfl, by rw [if_neg (fun hh => hh.elim d4a d4b), if_neg (fun hh => hh.elim d8a d8b), if_neg (fun hh => hh.elim d12a d12b), if_neg (fun hh => hh.elim d16a d16b), if_neg (fun hh => hh.elim d20a d20b), if_pos d45], trivial⟩, hS.F ht⟩) hS.2.2 dX13_race_76
          · --out
            have d47 := hw1
            refine lv_if_eq (tgt := 75) hx hb dX13_race_61 (by decide) (fun c48 => ?_) (fun c48 => by first | exact absurd c48 (by decide) | exact absurd (by decide) c48)
            refine lv_iconst (v := -1) hx hb dX13_race_75 (by decide) ?_
            exact W.iret (v := (-1)) hx hb hr (fun t ht hW => ⟨⟨(-1), (), rfl, by rw [if_neg (fun hh => hh.elim d4a d4b), if_neg (fun hh => hh.elim d8a d8b), if_neg (fun hh => hh.elim d12a d12b), if_neg (fun hh => hh.elim d16a d16b), if_pos d47], trivial⟩, hS.F ht⟩) hS.2.2 dX13_race_76
        · --out
          have d49 := hw1
          refine lv_if_eq (tgt := 75) hx hb dX13_race_50 (by decide) (fun c50 => ?_) (fun c50 => by first | exact absurd c50 (by decide) | exact absurd (by decide) c50)
          refine lv_iconst (v := -1) hx hb dX13_race_75 (by decide) ?_
          exact W.iret (v := (-1)) hx hb hr (fun t ht hW => ⟨⟨(-1), (), rfl, by rw [if_neg (fun hh => hh.elim d4a d4b), if_neg (fun hh => hh.elim d8a d8b), if_neg (fun hh => hh.elim d12a d12b), if_pos d49], trivial⟩, hS.F ht⟩) hS.2.2 dX13_race_76
      · --out
        have d51 := hw1
        refine lv_if_eq (tgt := 75) hx hb dX13_race_39 (by decide) (fun c52 => ?_) (fun c52 => by first | exact absurd c52 (by decide) | exact absurd (by decide) c52)
        refine lv_iconst (v := -1) hx hb dX13_race_75 (by decide) ?_
        exact W.iret (v := (-1)) hx hb hr (fun t ht hW => ⟨⟨(-1), (), rfl, by rw [if_neg (fun hh => hh.elim d4a d4b), if_neg (fun hh => hh.elim d8a d8b), if_pos d51], trivial⟩, hS.F ht⟩) hS.2.2 dX13_race_76
    · --out
      have d53 := hw1
      refine lv_if_eq (tgt := 75) hx hb dX13_race_30 (by decide) (fun c54 => ?_) (fun c54 => by first | exact absurd c54 (by decide) | exact absurd (by decide) c54)
      refine lv_iconst (v := -1) hx hb dX13_race_75 (by decide) ?_
      exact W.iret (v := (-1)) hx hb hr (fun t ht hW => ⟨⟨(-1), (), rfl, by rw [if_neg (fun hh => hh.elim d4a d4b), if_pos d53], trivial⟩, hS.F ht⟩) hS.2.2 dX13_race_76
  · --out
    have d55 := hw1
    refine lv_if_eq (tgt := 75) hx hb dX13_race_19 (by decide) (fun c56 => ?_) (fun c56 => by first | exact absurd c56 (by decide) | exact absurd (by decide) c56)
    refine lv_iconst (v := -1) hx hb dX13_race_75 (by decide) ?_
    exact W.iret (v := (-1)) hx hb hr (fun t ht hW => ⟨⟨(-1), (), rfl, by rw [if_pos d55], trivial⟩, hS.F ht⟩) hS.2.2 dX13_race_76
