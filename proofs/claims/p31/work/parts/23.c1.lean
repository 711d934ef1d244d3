set_option maxRecDepth 100000 in
theorem zh_dX2_far_0_0 : zc cX2_far 0 [26, 28, 184, 0, 81, 27, 29, 184, 0, 81, 184, 0, 100, 172] = true := by decide +kernel
set_option maxRecDepth 100000 in
theorem zh_dX3_rowOf_0_0 : zc cX3_rowOf 0 [26, 7, 104, 27, 96, 16, 7, 104, 172] = true := by decide +kernel
set_option maxRecDepth 100000 in
theorem zh_dX7_asLetter_0_0 : zc cX7_asLetter 0 [2, 26, 100, 172] = true := by decide +kernel
set_option maxRecDepth 100000 in
theorem zh_dX7_asSign_0_0 : zc cX7_asSign 0 [16, 156, 26, 100, 172] = true := by decide +kernel
set_option maxRecDepth 100000 in
theorem zh_dX7_join_0_0 : zc cX7_join 0 [26, 170, 0, 0, 0, 0, 0, 195, 0, 0, 0, 38, 0, 0, 0, 62] = true := by decide +kernel
set_option maxRecDepth 100000 in
theorem zh_dX7_join_116_112 : zc cX7_join 112 [0, 0, 0, 180, 27, 133, 28, 133, 97, 66, 167, 0, 78, 27, 133, 28] = true := by decide +kernel
set_option maxRecDepth 100000 in
theorem zh_dX7_join_128_128 : zc cX7_join 128 [133, 101, 66, 167, 0, 69, 27, 133, 28, 133, 105, 66, 167, 0, 60, 28] = true := by decide +kernel
set_option maxRecDepth 100000 in
theorem zh_dX7_join_144_144 : zc cX7_join 144 [154, 0, 7, 9, 167, 0, 7, 27, 28, 108, 133, 66, 167, 0, 44, 27] = true := by decide +kernel
set_option maxRecDepth 100000 in
theorem zh_dX7_join_160_160 : zc cX7_join 160 [28, 160, 0, 7, 4, 167, 0, 4, 3, 172, 27, 28, 162, 0, 7, 4] = true := by decide +kernel
set_option maxRecDepth 100000 in
theorem zh_dX7_join_176_176 : zc cX7_join 176 [167, 0, 4, 3, 172, 27, 28, 164, 0, 7, 4, 167, 0, 4, 3, 172] = true := by decide +kernel
set_option maxRecDepth 100000 in
theorem zh_dX7_join_192_192 : zc cX7_join 192 [27, 28, 126, 172, 27, 28, 128, 172, 33, 20, 0, 47, 148, 158, 0, 8] = true := by decide +kernel
set_option maxRecDepth 100000 in
theorem zh_dX7_join_208_208 : zc cX7_join 208 [18, 49, 167, 0, 18, 33, 20, 0, 50, 148, 156, 0, 8, 18, 52, 167] = true := by decide +kernel
set_option maxRecDepth 100000 in
theorem zh_dX7_join_223_224 : zc cX7_join 224 [0, 5, 33, 136, 172] = true := by decide +kernel
set_option maxRecDepth 100000 in
theorem zh_dX10_isDigit_0_0 : zc cX10_isDigit 0 [26, 16, 48, 161, 0, 13, 26, 16, 57, 163, 0, 7, 4, 167, 0, 4] = true := by decide +kernel
set_option maxRecDepth 100000 in
theorem zh_dX10_isDigit_16_16 : zc cX10_isDigit 16 [3, 172] = true := by decide +kernel
set_option maxRecDepth 100000 in
theorem zh_dX12_within_0_0 : zc cX12_within 0 [26, 27, 161, 0, 12, 26, 28, 163, 0, 7, 4, 167, 0, 4, 3, 172] = true := by decide +kernel
set_option maxRecDepth 100000 in
theorem zh_dX12_apart_0_0 : zc cX12_apart 0 [26, 27, 164, 0, 9, 26, 27, 100, 167, 0, 6, 27, 26, 100, 172] = true := by decide +kernel
set_option maxRecDepth 100000 in
theorem zh_dX12_isDay_0_0 : zc cX12_isDay 0 [26, 3, 17, 1, 144, 184, 0, 59, 172] = true := by decide +kernel
set_option maxRecDepth 100000 in
theorem zh_dX12_cell_0_0 : zc cX12_cell 0 [26, 16, 16, 104, 27, 96, 172] = true := by decide +kernel
theorem dX2_far_0 : decode cX2_far 0 = .ok (.iload_n 0, 1) := zo_26 (zi_at zh_dX2_far_0_0 0 rfl)
theorem dX2_far_1 : decode cX2_far 1 = .ok (.iload_n 2, 1) := zo_28 (zi_at zh_dX2_far_0_0 1 rfl)
theorem dX2_far_2 : decode cX2_far 2 = .ok (.invokestatic 81, 3) := zo_184 (zi_at zh_dX2_far_0_0 2 rfl) (zi_at zh_dX2_far_0_0 3 rfl) (zi_at zh_dX2_far_0_0 4 rfl) rfl
theorem dX2_far_5 : decode cX2_far 5 = .ok (.iload_n 1, 1) := zo_27 (zi_at zh_dX2_far_0_0 5 rfl)
theorem dX2_far_6 : decode cX2_far 6 = .ok (.iload_n 3, 1) := zo_29 (zi_at zh_dX2_far_0_0 6 rfl)
theorem dX2_far_7 : decode cX2_far 7 = .ok (.invokestatic 81, 3) := zo_184 (zi_at zh_dX2_far_0_0 7 rfl) (zi_at zh_dX2_far_0_0 8 rfl) (zi_at zh_dX2_far_0_0 9 rfl) rfl
theorem dX2_far_10 : decode cX2_far 10 = .ok (.invokestatic 100, 3) := zo_184 (zi_at zh_dX2_far_0_0 10 rfl) (zi_at zh_dX2_far_0_0 11 rfl) (zi_at zh_dX2_far_0_0 12 rfl) rfl
theorem dX2_far_13 : decode cX2_far 13 = .ok (.ireturn, 1) := zo_172 (zi_at zh_dX2_far_0_0 13 rfl)
theorem dX3_rowOf_0 : decode cX3_rowOf 0 = .ok (.iload_n 0, 1) := zo_26 (zi_at zh_dX3_rowOf_0_0 0 rfl)
theorem dX3_rowOf_1 : decode cX3_rowOf 1 = .ok (.iconst 4, 1) := zo_7 (zi_at zh_dX3_rowOf_0_0 1 rfl)
theorem dX3_rowOf_2 : decode cX3_rowOf 2 = .ok (.imul, 1) := zo_104 (zi_at zh_dX3_rowOf_0_0 2 rfl)
theorem dX3_rowOf_3 : decode cX3_rowOf 3 = .ok (.iload_n 1, 1) := zo_27 (zi_at zh_dX3_rowOf_0_0 3 rfl)
theorem dX3_rowOf_4 : decode cX3_rowOf 4 = .ok (.iadd, 1) := zo_96 (zi_at zh_dX3_rowOf_0_0 4 rfl)
theorem dX3_rowOf_5 : decode cX3_rowOf 5 = .ok (.bipush 7, 2) := zo_16 (zi_at zh_dX3_rowOf_0_0 5 rfl) (zi_at zh_dX3_rowOf_0_0 6 rfl) rfl
theorem dX3_rowOf_7 : decode cX3_rowOf 7 = .ok (.imul, 1) := zo_104 (zi_at zh_dX3_rowOf_0_0 7 rfl)
theorem dX3_rowOf_8 : decode cX3_rowOf 8 = .ok (.ireturn, 1) := zo_172 (zi_at zh_dX3_rowOf_0_0 8 rfl)
theorem dX7_asLetter_0 : decode cX7_asLetter 0 = .ok (.iconst (-1), 1) := zo_2 (zi_at zh_dX7_asLetter_0_0 0 rfl)
theorem dX7_asLetter_1 : decode cX7_asLetter 1 = .ok (.iload_n 0, 1) := zo_26 (zi_at zh_dX7_asLetter_0_0 1 rfl)
theorem dX7_asLetter_2 : decode cX7_asLetter 2 = .ok (.isub, 1) := zo_100 (zi_at zh_dX7_asLetter_0_0 2 rfl)
theorem dX7_asLetter_3 : decode cX7_asLetter 3 = .ok (.ireturn, 1) := zo_172 (zi_at zh_dX7_asLetter_0_0 3 rfl)
theorem dX7_asSign_0 : decode cX7_asSign 0 = .ok (.bipush (-100), 2) := zo_16 (zi_at zh_dX7_asSign_0_0 0 rfl) (zi_at zh_dX7_asSign_0_0 1 rfl) rfl
theorem dX7_asSign_2 : decode cX7_asSign 2 = .ok (.iload_n 0, 1) := zo_26 (zi_at zh_dX7_asSign_0_0 2 rfl)
theorem dX7_asSign_3 : decode cX7_asSign 3 = .ok (.isub, 1) := zo_100 (zi_at zh_dX7_asSign_0_0 3 rfl)
theorem dX7_asSign_4 : decode cX7_asSign 4 = .ok (.ireturn, 1) := zo_172 (zi_at zh_dX7_asSign_0_0 4 rfl)
theorem dX7_join_0 : decode cX7_join 0 = .ok (.iload_n 0, 1) := zo_26 (zi_at zh_dX7_join_0_0 0 rfl)
theorem dX7_join_1 : decode cX7_join 1 = .ok (.tableswitch 195 38 62 #[191, 195, 195, 195, 133, 115, 195, 124, 195, 142, 195, 195, 195, 195, 195, 195, 195, 195, 195, 195, 195, 195, 169, 158, 180], 115) := by decide +kernel
theorem dX7_join_116 : decode cX7_join 116 = .ok (.iload_n 1, 1) := zo_27 (zi_at zh_dX7_join_116_112 4 rfl)
theorem dX7_join_117 : decode cX7_join 117 = .ok (.i2l, 1) := zo_133 (zi_at zh_dX7_join_116_112 5 rfl)
theorem dX7_join_118 : decode cX7_join 118 = .ok (.iload_n 2, 1) := zo_28 (zi_at zh_dX7_join_116_112 6 rfl)
theorem dX7_join_119 : decode cX7_join 119 = .ok (.i2l, 1) := zo_133 (zi_at zh_dX7_join_116_112 7 rfl)
theorem dX7_join_120 : decode cX7_join 120 = .ok (.ladd, 1) := zo_97 (zi_at zh_dX7_join_116_112 8 rfl)
theorem dX7_join_121 : decode cX7_join 121 = .ok (.lstore_n 3, 1) := zo_66 (zi_at zh_dX7_join_116_112 9 rfl)
theorem dX7_join_122 : decode cX7_join 122 = .ok (.goto 78, 3) := zo_167 (zi_at zh_dX7_join_116_112 10 rfl) (zi_at zh_dX7_join_116_112 11 rfl) (zi_at zh_dX7_join_116_112 12 rfl) rfl
theorem dX7_join_125 : decode cX7_join 125 = .ok (.iload_n 1, 1) := zo_27 (zi_at zh_dX7_join_116_112 13 rfl)
theorem dX7_join_126 : decode cX7_join 126 = .ok (.i2l, 1) := zo_133 (zi_at zh_dX7_join_116_112 14 rfl)
theorem dX7_join_127 : decode cX7_join 127 = .ok (.iload_n 2, 1) := zo_28 (zi_at zh_dX7_join_116_112 15 rfl)
theorem dX7_join_128 : decode cX7_join 128 = .ok (.i2l, 1) := zo_133 (zi_at zh_dX7_join_128_128 0 rfl)
theorem dX7_join_129 : decode cX7_join 129 = .ok (.lsub, 1) := zo_101 (zi_at zh_dX7_join_128_128 1 rfl)
theorem dX7_join_130 : decode cX7_join 130 = .ok (.lstore_n 3, 1) := zo_66 (zi_at zh_dX7_join_128_128 2 rfl)
theorem dX7_join_131 : decode cX7_join 131 = .ok (.goto 69, 3) := zo_167 (zi_at zh_dX7_join_128_128 3 rfl) (zi_at zh_dX7_join_128_128 4 rfl) (zi_at zh_dX7_join_128_128 5 rfl) rfl
theorem dX7_join_134 : decode cX7_join 134 = .ok (.iload_n 1, 1) := zo_27 (zi_at zh_dX7_join_128_128 6 rfl)
theorem dX7_join_135 : decode cX7_join 135 = .ok (.i2l, 1) := zo_133 (zi_at zh_dX7_join_128_128 7 rfl)
theorem dX7_join_136 : decode cX7_join 136 = .ok (.iload_n 2, 1) := zo_28 (zi_at zh_dX7_join_128_128 8 rfl)
theorem dX7_join_137 : decode cX7_join 137 = .ok (.i2l, 1) := zo_133 (zi_at zh_dX7_join_128_128 9 rfl)
theorem dX7_join_138 : decode cX7_join 138 = .ok (.lmul, 1) := zo_105 (zi_at zh_dX7_join_128_128 10 rfl)
theorem dX7_join_139 : decode cX7_join 139 = .ok (.lstore_n 3, 1) := zo_66 (zi_at zh_dX7_join_128_128 11 rfl)
theorem dX7_join_140 : decode cX7_join 140 = .ok (.goto 60, 3) := zo_167 (zi_at zh_dX7_join_128_128 12 rfl) (zi_at zh_dX7_join_128_128 13 rfl) (zi_at zh_dX7_join_128_128 14 rfl) rfl
theorem dX7_join_143 : decode cX7_join 143 = .ok (.iload_n 2, 1) := zo_28 (zi_at zh_dX7_join_128_128 15 rfl)
theorem dX7_join_144 : decode cX7_join 144 = .ok (.ifCond .ne 7, 3) := zo_154 (zi_at zh_dX7_join_144_144 0 rfl) (zi_at zh_dX7_join_144_144 1 rfl) (zi_at zh_dX7_join_144_144 2 rfl) rfl
theorem dX7_join_147 : decode cX7_join 147 = .ok (.lconst 0, 1) := zo_9 (zi_at zh_dX7_join_144_144 3 rfl)
theorem dX7_join_148 : decode cX7_join 148 = .ok (.goto 7, 3) := zo_167 (zi_at zh_dX7_join_144_144 4 rfl) (zi_at zh_dX7_join_144_144 5 rfl) (zi_at zh_dX7_join_144_144 6 rfl) rfl
theorem dX7_join_151 : decode cX7_join 151 = .ok (.iload_n 1, 1) := zo_27 (zi_at zh_dX7_join_144_144 7 rfl)
theorem dX7_join_152 : decode cX7_join 152 = .ok (.iload_n 2, 1) := zo_28 (zi_at zh_dX7_join_144_144 8 rfl)
theorem dX7_join_153 : decode cX7_join 153 = .ok (.idiv, 1) := zo_108 (zi_at zh_dX7_join_144_144 9 rfl)
theorem dX7_join_154 : decode cX7_join 154 = .ok (.i2l, 1) := zo_133 (zi_at zh_dX7_join_144_144 10 rfl)
theorem dX7_join_155 : decode cX7_join 155 = .ok (.lstore_n 3, 1) := zo_66 (zi_at zh_dX7_join_144_144 11 rfl)
theorem dX7_join_156 : decode cX7_join 156 = .ok (.goto 44, 3) := zo_167 (zi_at zh_dX7_join_144_144 12 rfl) (zi_at zh_dX7_join_144_144 13 rfl) (zi_at zh_dX7_join_144_144 14 rfl) rfl
theorem dX7_join_159 : decode cX7_join 159 = .ok (.iload_n 1, 1) := zo_27 (zi_at zh_dX7_join_144_144 15 rfl)
theorem dX7_join_160 : decode cX7_join 160 = .ok (.iload_n 2, 1) := zo_28 (zi_at zh_dX7_join_160_160 0 rfl)
theorem dX7_join_161 : decode cX7_join 161 = .ok (.if_icmp .ne 7, 3) := zo_160 (zi_at zh_dX7_join_160_160 1 rfl) (zi_at zh_dX7_join_160_160 2 rfl) (zi_at zh_dX7_join_160_160 3 rfl) rfl
theorem dX7_join_164 : decode cX7_join 164 = .ok (.iconst 1, 1) := zo_4 (zi_at zh_dX7_join_160_160 4 rfl)
theorem dX7_join_165 : decode cX7_join 165 = .ok (.goto 4, 3) := zo_167 (zi_at zh_dX7_join_160_160 5 rfl) (zi_at zh_dX7_join_160_160 6 rfl) (zi_at zh_dX7_join_160_160 7 rfl) rfl
theorem dX7_join_168 : decode cX7_join 168 = .ok (.iconst 0, 1) := zo_3 (zi_at zh_dX7_join_160_160 8 rfl)
theorem dX7_join_169 : decode cX7_join 169 = .ok (.ireturn, 1) := zo_172 (zi_at zh_dX7_join_160_160 9 rfl)
theorem dX7_join_170 : decode cX7_join 170 = .ok (.iload_n 1, 1) := zo_27 (zi_at zh_dX7_join_160_160 10 rfl)
theorem dX7_join_171 : decode cX7_join 171 = .ok (.iload_n 2, 1) := zo_28 (zi_at zh_dX7_join_160_160 11 rfl)
theorem dX7_join_172 : decode cX7_join 172 = .ok (.if_icmp .ge 7, 3) := zo_162 (zi_at zh_dX7_join_160_160 12 rfl) (zi_at zh_dX7_join_160_160 13 rfl) (zi_at zh_dX7_join_160_160 14 rfl) rfl
theorem dX7_join_175 : decode cX7_join 175 = .ok (.iconst 1, 1) := zo_4 (zi_at zh_dX7_join_160_160 15 rfl)
theorem dX7_join_176 : decode cX7_join 176 = .ok (.goto 4, 3) := zo_167 (zi_at zh_dX7_join_176_176 0 rfl) (zi_at zh_dX7_join_176_176 1 rfl) (zi_at zh_dX7_join_176_176 2 rfl) rfl
theorem dX7_join_179 : decode cX7_join 179 = .ok (.iconst 0, 1) := zo_3 (zi_at zh_dX7_join_176_176 3 rfl)
theorem dX7_join_180 : decode cX7_join 180 = .ok (.ireturn, 1) := zo_172 (zi_at zh_dX7_join_176_176 4 rfl)
theorem dX7_join_181 : decode cX7_join 181 = .ok (.iload_n 1, 1) := zo_27 (zi_at zh_dX7_join_176_176 5 rfl)
theorem dX7_join_182 : decode cX7_join 182 = .ok (.iload_n 2, 1) := zo_28 (zi_at zh_dX7_join_176_176 6 rfl)
theorem dX7_join_183 : decode cX7_join 183 = .ok (.if_icmp .le 7, 3) := zo_164 (zi_at zh_dX7_join_176_176 7 rfl) (zi_at zh_dX7_join_176_176 8 rfl) (zi_at zh_dX7_join_176_176 9 rfl) rfl
theorem dX7_join_186 : decode cX7_join 186 = .ok (.iconst 1, 1) := zo_4 (zi_at zh_dX7_join_176_176 10 rfl)
theorem dX7_join_187 : decode cX7_join 187 = .ok (.goto 4, 3) := zo_167 (zi_at zh_dX7_join_176_176 11 rfl) (zi_at zh_dX7_join_176_176 12 rfl) (zi_at zh_dX7_join_176_176 13 rfl) rfl
theorem dX7_join_190 : decode cX7_join 190 = .ok (.iconst 0, 1) := zo_3 (zi_at zh_dX7_join_176_176 14 rfl)
theorem dX7_join_191 : decode cX7_join 191 = .ok (.ireturn, 1) := zo_172 (zi_at zh_dX7_join_176_176 15 rfl)
theorem dX7_join_192 : decode cX7_join 192 = .ok (.iload_n 1, 1) := zo_27 (zi_at zh_dX7_join_192_192 0 rfl)
theorem dX7_join_193 : decode cX7_join 193 = .ok (.iload_n 2, 1) := zo_28 (zi_at zh_dX7_join_192_192 1 rfl)
theorem dX7_join_194 : decode cX7_join 194 = .ok (.iand, 1) := zo_126 (zi_at zh_dX7_join_192_192 2 rfl)
theorem dX7_join_195 : decode cX7_join 195 = .ok (.ireturn, 1) := zo_172 (zi_at zh_dX7_join_192_192 3 rfl)
theorem dX7_join_196 : decode cX7_join 196 = .ok (.iload_n 1, 1) := zo_27 (zi_at zh_dX7_join_192_192 4 rfl)
theorem dX7_join_197 : decode cX7_join 197 = .ok (.iload_n 2, 1) := zo_28 (zi_at zh_dX7_join_192_192 5 rfl)
theorem dX7_join_198 : decode cX7_join 198 = .ok (.ior, 1) := zo_128 (zi_at zh_dX7_join_192_192 6 rfl)
theorem dX7_join_199 : decode cX7_join 199 = .ok (.ireturn, 1) := zo_172 (zi_at zh_dX7_join_192_192 7 rfl)
theorem dX7_join_200 : decode cX7_join 200 = .ok (.lload_n 3, 1) := zo_33 (zi_at zh_dX7_join_192_192 8 rfl)
theorem dX7_join_201 : decode cX7_join 201 = .ok (.ldc2_w 47, 3) := zo_20 (zi_at zh_dX7_join_192_192 9 rfl) (zi_at zh_dX7_join_192_192 10 rfl) (zi_at zh_dX7_join_192_192 11 rfl) rfl
theorem dX7_join_204 : decode cX7_join 204 = .ok (.lcmp, 1) := zo_148 (zi_at zh_dX7_join_192_192 12 rfl)
theorem dX7_join_205 : decode cX7_join 205 = .ok (.ifCond .le 8, 3) := zo_158 (zi_at zh_dX7_join_192_192 13 rfl) (zi_at zh_dX7_join_192_192 14 rfl) (zi_at zh_dX7_join_192_192 15 rfl) rfl
theorem dX7_join_208 : decode cX7_join 208 = .ok (.ldc 49, 2) := zo_18 (zi_at zh_dX7_join_208_208 0 rfl) (zi_at zh_dX7_join_208_208 1 rfl)
theorem dX7_join_210 : decode cX7_join 210 = .ok (.goto 18, 3) := zo_167 (zi_at zh_dX7_join_208_208 2 rfl) (zi_at zh_dX7_join_208_208 3 rfl) (zi_at zh_dX7_join_208_208 4 rfl) rfl
theorem dX7_join_213 : decode cX7_join 213 = .ok (.lload_n 3, 1) := zo_33 (zi_at zh_dX7_join_208_208 5 rfl)
theorem dX7_join_214 : decode cX7_join 214 = .ok (.ldc2_w 50, 3) := zo_20 (zi_at zh_dX7_join_208_208 6 rfl) (zi_at zh_dX7_join_208_208 7 rfl) (zi_at zh_dX7_join_208_208 8 rfl) rfl
theorem dX7_join_217 : decode cX7_join 217 = .ok (.lcmp, 1) := zo_148 (zi_at zh_dX7_join_208_208 9 rfl)
theorem dX7_join_218 : decode cX7_join 218 = .ok (.ifCond .ge 8, 3) := zo_156 (zi_at zh_dX7_join_208_208 10 rfl) (zi_at zh_dX7_join_208_208 11 rfl) (zi_at zh_dX7_join_208_208 12 rfl) rfl
theorem dX7_join_221 : decode cX7_join 221 = .ok (.ldc 52, 2) := zo_18 (zi_at zh_dX7_join_208_208 13 rfl) (zi_at zh_dX7_join_208_208 14 rfl)
theorem dX7_join_223 : decode cX7_join 223 = .ok (.goto 5, 3) := zo_167 (zi_at zh_dX7_join_208_208 15 rfl) (zi_at zh_dX7_join_223_224 0 rfl) (zi_at zh_dX7_join_223_224 1 rfl) rfl
theorem dX7_join_226 : decode cX7_join 226 = .ok (.lload_n 3, 1) := zo_33 (zi_at zh_dX7_join_223_224 2 rfl)
theorem dX7_join_227 : decode cX7_join 227 = .ok (.l2i, 1) := zo_136 (zi_at zh_dX7_join_223_224 3 rfl)
theorem dX7_join_228 : decode cX7_join 228 = .ok (.ireturn, 1) := zo_172 (zi_at zh_dX7_join_223_224 4 rfl)
theorem dX10_isDigit_0 : decode cX10_isDigit 0 = .ok (.iload_n 0, 1) := zo_26 (zi_at zh_dX10_isDigit_0_0 0 rfl)
theorem dX10_isDigit_1 : decode cX10_isDigit 1 = .ok (.bipush 48, 2) := zo_16 (zi_at zh_dX10_isDigit_0_0 1 rfl) (zi_at zh_dX10_isDigit_0_0 2 rfl) rfl
theorem dX10_isDigit_3 : decode cX10_isDigit 3 = .ok (.if_icmp .lt 13, 3) := zo_161 (zi_at zh_dX10_isDigit_0_0 3 rfl) (zi_at zh_dX10_isDigit_0_0 4 rfl) (zi_at zh_dX10_isDigit_0_0 5 rfl) rfl
theorem dX10_isDigit_6 : decode cX10_isDigit 6 = .ok (.iload_n 0, 1) := zo_26 (zi_at zh_dX10_isDigit_0_0 6 rfl)
theorem dX10_isDigit_7 : decode cX10_isDigit 7 = .ok (.bipush 57, 2) := zo_16 (zi_at zh_dX10_isDigit_0_0 7 rfl) (zi_at zh_dX10_isDigit_0_0 8 rfl) rfl
theorem dX10_isDigit_9 : decode cX10_isDigit 9 = .ok (.if_icmp .gt 7, 3) := zo_163 (zi_at zh_dX10_isDigit_0_0 9 rfl) (zi_at zh_dX10_isDigit_0_0 10 rfl) (zi_at zh_dX10_isDigit_0_0 11 rfl) rfl
theorem dX10_isDigit_12 : decode cX10_isDigit 12 = .ok (.iconst 1, 1) := zo_4 (zi_at zh_dX10_isDigit_0_0 12 rfl)
theorem dX10_isDigit_13 : decode cX10_isDigit 13 = .ok (.goto 4, 3) := zo_167 (zi_at zh_dX10_isDigit_0_0 13 rfl) (zi_at zh_dX10_isDigit_0_0 14 rfl) (zi_at zh_dX10_isDigit_0_0 15 rfl) rfl
theorem dX10_isDigit_16 : decode cX10_isDigit 16 = .ok (.iconst 0, 1) := zo_3 (zi_at zh_dX10_isDigit_16_16 0 rfl)
theorem dX10_isDigit_17 : decode cX10_isDigit 17 = .ok (.ireturn, 1) := zo_172 (zi_at zh_dX10_isDigit_16_16 1 rfl)
theorem dX12_within_0 : decode cX12_within 0 = .ok (.iload_n 0, 1) := zo_26 (zi_at zh_dX12_within_0_0 0 rfl)
theorem dX12_within_1 : decode cX12_within 1 = .ok (.iload_n 1, 1) := zo_27 (zi_at zh_dX12_within_0_0 1 rfl)
theorem dX12_within_2 : decode cX12_within 2 = .ok (.if_icmp .lt 12, 3) := zo_161 (zi_at zh_dX12_within_0_0 2 rfl) (zi_at zh_dX12_within_0_0 3 rfl) (zi_at zh_dX12_within_0_0 4 rfl) rfl
theorem dX12_within_5 : decode cX12_within 5 = .ok (.iload_n 0, 1) := zo_26 (zi_at zh_dX12_within_0_0 5 rfl)
theorem dX12_within_6 : decode cX12_within 6 = .ok (.iload_n 2, 1) := zo_28 (zi_at zh_dX12_within_0_0 6 rfl)
theorem dX12_within_7 : decode cX12_within 7 = .ok (.if_icmp .gt 7, 3) := zo_163 (zi_at zh_dX12_within_0_0 7 rfl) (zi_at zh_dX12_within_0_0 8 rfl) (zi_at zh_dX12_within_0_0 9 rfl) rfl
theorem dX12_within_10 : decode cX12_within 10 = .ok (.iconst 1, 1) := zo_4 (zi_at zh_dX12_within_0_0 10 rfl)
theorem dX12_within_11 : decode cX12_within 11 = .ok (.goto 4, 3) := zo_167 (zi_at zh_dX12_within_0_0 11 rfl) (zi_at zh_dX12_within_0_0 12 rfl) (zi_at zh_dX12_within_0_0 13 rfl) rfl
theorem dX12_within_14 : decode cX12_within 14 = .ok (.iconst 0, 1) := zo_3 (zi_at zh_dX12_within_0_0 14 rfl)
theorem dX12_within_15 : decode cX12_within 15 = .ok (.ireturn, 1) := zo_172 (zi_at zh_dX12_within_0_0 15 rfl)
theorem dX12_apart_0 : decode cX12_apart 0 = .ok (.iload_n 0, 1) := zo_26 (zi_at zh_dX12_apart_0_0 0 rfl)
theorem dX12_apart_1 : decode cX12_apart 1 = .ok (.iload_n 1, 1) := zo_27 (zi_at zh_dX12_apart_0_0 1 rfl)
theorem dX12_apart_2 : decode cX12_apart 2 = .ok (.if_icmp .le 9, 3) := zo_164 (zi_at zh_dX12_apart_0_0 2 rfl) (zi_at zh_dX12_apart_0_0 3 rfl) (zi_at zh_dX12_apart_0_0 4 rfl) rfl
theorem dX12_apart_5 : decode cX12_apart 5 = .ok (.iload_n 0, 1) := zo_26 (zi_at zh_dX12_apart_0_0 5 rfl)
theorem dX12_apart_6 : decode cX12_apart 6 = .ok (.iload_n 1, 1) := zo_27 (zi_at zh_dX12_apart_0_0 6 rfl)
theorem dX12_apart_7 : decode cX12_apart 7 = .ok (.isub, 1) := zo_100 (zi_at zh_dX12_apart_0_0 7 rfl)
theorem dX12_apart_8 : decode cX12_apart 8 = .ok (.goto 6, 3) := zo_167 (zi_at zh_dX12_apart_0_0 8 rfl) (zi_at zh_dX12_apart_0_0 9 rfl) (zi_at zh_dX12_apart_0_0 10 rfl) rfl
theorem dX12_apart_11 : decode cX12_apart 11 = .ok (.iload_n 1, 1) := zo_27 (zi_at zh_dX12_apart_0_0 11 rfl)
theorem dX12_apart_12 : decode cX12_apart 12 = .ok (.iload_n 0, 1) := zo_26 (zi_at zh_dX12_apart_0_0 12 rfl)
theorem dX12_apart_13 : decode cX12_apart 13 = .ok (.isub, 1) := zo_100 (zi_at zh_dX12_apart_0_0 13 rfl)
theorem dX12_apart_14 : decode cX12_apart 14 = .ok (.ireturn, 1) := zo_172 (zi_at zh_dX12_apart_0_0 14 rfl)
theorem dX12_isDay_0 : decode cX12_isDay 0 = .ok (.iload_n 0, 1) := zo_26 (zi_at zh_dX12_isDay_0_0 0 rfl)
theorem dX12_isDay_1 : decode cX12_isDay 1 = .ok (.iconst 0, 1) := zo_3 (zi_at zh_dX12_isDay_0_0 1 rfl)
theorem dX12_isDay_2 : decode cX12_isDay 2 = .ok (.sipush 400, 3) := zo_17 (zi_at zh_dX12_isDay_0_0 2 rfl) (zi_at zh_dX12_isDay_0_0 3 rfl) (zi_at zh_dX12_isDay_0_0 4 rfl) rfl
theorem dX12_isDay_5 : decode cX12_isDay 5 = .ok (.invokestatic 59, 3) := zo_184 (zi_at zh_dX12_isDay_0_0 5 rfl) (zi_at zh_dX12_isDay_0_0 6 rfl) (zi_at zh_dX12_isDay_0_0 7 rfl) rfl
theorem dX12_isDay_8 : decode cX12_isDay 8 = .ok (.ireturn, 1) := zo_172 (zi_at zh_dX12_isDay_0_0 8 rfl)
theorem dX12_cell_0 : decode cX12_cell 0 = .ok (.iload_n 0, 1) := zo_26 (zi_at zh_dX12_cell_0_0 0 rfl)
theorem dX12_cell_1 : decode cX12_cell 1 = .ok (.bipush 16, 2) := zo_16 (zi_at zh_dX12_cell_0_0 1 rfl) (zi_at zh_dX12_cell_0_0 2 rfl) rfl
theorem dX12_cell_3 : decode cX12_cell 3 = .ok (.imul, 1) := zo_104 (zi_at zh_dX12_cell_0_0 3 rfl)
theorem dX12_cell_4 : decode cX12_cell 4 = .ok (.iload_n 1, 1) := zo_27 (zi_at zh_dX12_cell_0_0 4 rfl)
theorem dX12_cell_5 : decode cX12_cell 5 = .ok (.iadd, 1) := zo_96 (zi_at zh_dX12_cell_0_0 5 rfl)
theorem dX12_cell_6 : decode cX12_cell 6 = .ok (.ireturn, 1) := zo_172 (zi_at zh_dX12_cell_0_0 6 rfl)
theorem hz_yX12_within_3 : yX12_within.cls ≠ "java/lang/invoke/MethodHandle" ∧ yX12_within.cls ≠ "java/lang/invoke/VarHandle" ∧ (parseMethodDescriptor yX12_within.desc).map (fun d => d.parameters.length) = some 3 := by decide +kernel
theorem hz_yX12_apart_2 : yX12_apart.cls ≠ "java/lang/invoke/MethodHandle" ∧ yX12_apart.cls ≠ "java/lang/invoke/VarHandle" ∧ (parseMethodDescriptor yX12_apart.desc).map (fun d => d.parameters.length) = some 2 := by decide +kernel

theorem nar_c1 {x : Int32} (h : 97 ≤ x.toInt ∧ x.toInt ≤ 98) : narrow .char (.int x) = .int x := by
  rcases (show x.toInt = 97 ∨ x.toInt = 98 by omega) with q | q
  · have : x = 97 := Int32.toInt_inj.mp q
    subst this
    rfl
  · have : x = 98 := Int32.toInt_inj.mp q
    subst this
    rfl
theorem nar_c2 {x : Int32} (h : 97 ≤ x.toInt ∧ x.toInt ≤ 98) : fits .char (.int x) = true := by
  rcases (show x.toInt = 97 ∨ x.toInt = 98 by omega) with q | q
  · have : x = 97 := Int32.toInt_inj.mp q
    subst this
    rfl
  · have : x = 98 := Int32.toInt_inj.mp q
    subst this
    rfl
theorem tn_nat {x : Int32} {k : Nat} (h : 0 ≤ x.toInt) (h2 : x.toInt < (k : Int)) : x.toBitVec.toNat < k := by
  have e : x.toInt = x.toBitVec.toInt := rfl
  rw [e, BitVec.toInt_eq_toNat_cond] at h h2
  split at h
  · rename_i q
    rw [if_pos q] at h2
    omega
  · have := x.toBitVec.isLt
    omega
theorem ti_orK (k : Nat) (hk : k ≤ 30) {x y w : Int32} (ew : w = x ||| y) (hx : 0 ≤ x.toInt ∧ x.toInt < ((2 ^ k : Nat) : Int)) (hy : 0 ≤ y.toInt ∧ y.toInt < ((2 ^ k : Nat) : Int)) : 0 ≤ w.toInt ∧ w.toInt < ((2 ^ k : Nat) : Int) := by
  have h1 := tn_nat hx.1 hx.2
  have h2 := tn_nat hy.1 hy.2
  have h3 : w.toBitVec.toNat < 2 ^ k := by
    rw [ew, Int32.toBitVec_or, BitVec.toNat_or]
    exact Nat.or_lt_two_pow h1 h2
  have h4 : 2 ^ k ≤ 2 ^ 30 := Nat.pow_le_pow_right (by omega) hk
  have e1 : w.toInt = (w.toBitVec.toNat : Int) := by
    show w.toBitVec.toInt = _
    rw [BitVec.toInt_eq_toNat_cond, if_pos (by omega)]
  rw [e1]
  omega
theorem ti_or3 {x y w : Int32} (ew : w = x ||| y) (hx : 0 ≤ x.toInt ∧ x.toInt ≤ 3) (hy : 0 ≤ y.toInt ∧ y.toInt ≤ 3) : 0 ≤ w.toInt ∧ w.toInt ≤ 3 := by
  have := ti_orK 2 (by omega) ew (by omega) (by omega)
  omega
theorem ti_or255 {x y w : Int32} (ew : w = x ||| y) (hx : 0 ≤ x.toInt ∧ x.toInt ≤ 255) (hy : 0 ≤ y.toInt ∧ y.toInt ≤ 255) : 0 ≤ w.toInt ∧ w.toInt ≤ 255 := by
  have := ti_orK 8 (by omega) ew (by omega) (by omega)
  omega
theorem ti_or65535 {x y w : Int32} (ew : w = x ||| y) (hx : 0 ≤ x.toInt ∧ x.toInt ≤ 65535) (hy : 0 ≤ y.toInt ∧ y.toInt ≤ 65535) : 0 ≤ w.toInt ∧ w.toInt ≤ 65535 := by
  have := ti_orK 16 (by omega) ew (by omega) (by omega)
  omega
theorem shl8_all : ∀ k : Nat, k < 8 → 1 ≤ ((1 : Int32) <<< (nI k &&& 31)).toInt ∧ ((1 : Int32) <<< (nI k &&& 31)).toInt ≤ 128 := by decide +kernel
theorem ti_shl8 {y w : Int32} {a b : Int} (hy : a ≤ y.toInt ∧ y.toInt ≤ b) (ew : w = (1 : Int32) <<< (y &&& 31)) (h : 0 ≤ a ∧ b ≤ 7) : 1 ≤ w.toInt ∧ w.toInt ≤ 128 := by
  rw [ew, nI_of_nonneg (m := y) (by omega)]
  exact shl8_all _ (by omega)
theorem shl16_all : ∀ k : Nat, k < 16 → 1 ≤ ((1 : Int32) <<< (nI k &&& 31)).toInt ∧ ((1 : Int32) <<< (nI k &&& 31)).toInt ≤ 32768 := by decide +kernel
theorem ti_shl16 {y w : Int32} {a b : Int} (hy : a ≤ y.toInt ∧ y.toInt ≤ b) (ew : w = (1 : Int32) <<< (y &&& 31)) (h : 0 ≤ a ∧ b ≤ 15) : 1 ≤ w.toInt ∧ w.toInt ≤ 32768 := by
  rw [ew, nI_of_nonneg (m := y) (by omega)]
  exact shl16_all _ (by omega)
theorem ti_tdiv {x y w : Int32} {a b e f c : Int} (hx : a ≤ x.toInt ∧ x.toInt ≤ b) (ew : w = x / y) (hy : y.toInt = c) (h : 0 < c ∧ e ≤ 0 ∧ 0 ≤ f ∧ (-a) / c ≤ -e ∧ b / c ≤ f) : e ≤ w.toInt ∧ w.toInt ≤ f := by
  have h1 : w.toInt = (x.toInt.tdiv c).bmod (2 ^ 32) := by rw [ew, Int32.toInt_div, hy]
  have h9 := iv_all x
  rcases Int.le_total 0 x.toInt with q | q
  · have h2 : x.toInt.tdiv c = x.toInt / c := Int.tdiv_eq_ediv_of_nonneg q
    have h3 : 0 ≤ x.toInt / c := Int.ediv_nonneg q (by omega)
    have h4 : x.toInt / c ≤ b / c := Int.ediv_le_ediv h.1 hx.2
    have h5 := Int.ediv_le_self c q
    rw [h1, h2, ti_bm (by omega) (by omega)]
    omega
  · have h2 : x.toInt.tdiv c = -((-x.toInt) / c) := by
      have h8 : (-x.toInt).tdiv c = (-x.toInt) / c := Int.tdiv_eq_ediv_of_nonneg (by omega)
      rw [← h8, Int.neg_tdiv]
      omega
    have h3 : 0 ≤ (-x.toInt) / c := Int.ediv_nonneg (by omega) (by omega)
    have h4 : (-x.toInt) / c ≤ (-a) / c := Int.ediv_le_ediv h.1 (by omega)
    have h5 := Int.ediv_le_self c (show 0 ≤ -x.toInt by omega)
    rw [h1, h2, ti_bm (by omega) (by omega)]
    omega
theorem tSX_iv (j : Nat) : -1 ≤ (tSX.getD j 0).toInt ∧ (tSX.getD j 0).toInt ≤ 1 := by
  rcases j with _ | _ | _ | _ | _ | _ | _ | _ | j <;> first | decide | (rw [show tSX.getD (j + 8) 0 = 0 from rfl]; decide)
theorem tSY_iv (j : Nat) : -1 ≤ (tSY.getD j 0).toInt ∧ (tSY.getD j 0).toInt ≤ 1 := by
  rcases j with _ | _ | _ | _ | _ | _ | _ | _ | j <;> first | decide | (rw [show tSY.getD (j + 8) 0 = 0 from rfl]; decide)


def v_cwithin : List Cond := .code yX12_within cX12_within 3 (some .boolean) :: vA
abbrev rm_cwithin : Room := { frames := 0, cells := 0, slots := 0, locals := 0 }
set_option maxHeartbeats 4000000 in
set_option maxRecDepth 100000 in
theorem q_cwithin (l : Launch) (a0 : Int32) (a1 : Int32) (a2 : Int32)  : Met l yX12_within v_cwithin rm_cwithin (va_Pc [.int a0, .int a1, .int a2] (fun _ => True)) (va_Qi (S := Unit) (fun r _ => (r = 1 ∧ (a1.toInt ≤ a0.toInt ∧ a0.toInt ≤ a2.toInt)) ∨ (r = 0 ∧ (¬ (a1.toInt ≤ a0.toInt ∧ a0.toInt ≤ a2.toInt)))) (fun _ _ => True) (fun _ => False)) 0 0 (fun _ => False) := by
  refine Met.ofW (cc := cX12_within) (maxL := 3) (ret := (some .boolean)) (by decide) rfl ?_
  intro p e s m args below meth c s₁ B hml hv
  obtain ⟨hargs, -⟩ := hv
  have hx := B.exec
  have hb := B.bytes
  have hr := B.returns
  have hts := atoms_spec (ws := v_cwithin) B.pre
  have hown : s.vm.findClass RX12 = some m.cls := findClass_of_methodNamed B.named
  have hlocks := B.notSynchronized
  have hS : va_S (fun _ : Nat => False) s.heap s.heap [] := va_S.rf
  have hl := lv_entry ([.int a0, .int a1, .int a2]) (n := 3) (Nat.le_of_ble_eq_true rfl)
  obtain ⟨Q, hQ⟩ : ∃ Q, Q = MQ below (va_Qi (S := Unit) (fun r _ => (r = 1 ∧ (a1.toInt ≤ a0.toInt ∧ a0.toInt ≤ a2.toInt)) ∨ (r = 0 ∧ (¬ (a1.toInt ≤ a0.toInt ∧ a0.toInt ≤ a2.toInt)))) (fun _ _ => True) (fun _ => False)) args s 0 0 (fun _ => False) := ⟨_, rfl⟩
  rw [← hQ, show entryFrame m args 3 = _ from (congrArg (fun z => entryFrame m z 3) hargs).trans (lg_entry_eq _ _ _)]
  generalize (lg_sl ([.int a0, .int a1, .int a2]) ++ List.replicate (3 - (lg_sl ([.int a0, .int a1, .int a2])).length) Slot.unset).toArray = ls at hl ⊢
  have hl : lv_has ls 3 [(0, .int a0), (1, .int a1), (2, .int a2)] := hl
  refine lv_iload_n hx hb dX12_within_0 rfl (lv_at hl 0 rfl) ?_
  refine lv_iload_n hx hb dX12_within_1 rfl (lv_at hl 1 rfl) ?_
  refine lv_icmp_lt (tgt := 14) hx hb dX12_within_2 (by decide) (fun c1 => ?_) (fun c1 => ?_)
  · --2 taken
    have t2 : a0.toInt < a1.toInt := ti_lt c1
    have i3 : -2147483648 ≤ a0.toInt ∧ a0.toInt ≤ 2147483646 := iv_lt_l t2 (iv_all _) (iv_all _) (by decide)
    have i4 : -2147483647 ≤ a1.toInt ∧ a1.toInt ≤ 2147483647 := iv_lt_r t2 (iv_all _) (iv_all _) (by decide)
    refine lv_iconst (v := 0) hx hb dX12_within_14 (by decide) ?_
    rw [hQ]
    exact W.zret (v := 0) hx hb hr rfl (fun t ht hW => ⟨⟨0, (), rfl, Or.inr (⟨rfl, by have h8 := ln_0; all_goals omega⟩), trivial⟩, hS.F ht⟩) hS.2.2 dX12_within_15
  · --2 not
    have t5 : a1.toInt ≤ a0.toInt := ti_nlt c1
    refine lv_iload_n hx hb dX12_within_5 rfl (lv_at hl 0 rfl) ?_
    refine lv_iload_n hx hb dX12_within_6 rfl (lv_at hl 2 rfl) ?_
    refine lv_icmp_gt (tgt := 14) hx hb dX12_within_7 (by decide) (fun c6 => ?_) (fun c6 => ?_)
    · --7 taken
      have t7 : a2.toInt < a0.toInt := ti_lt c6
      have i8 : -2147483648 ≤ a2.toInt ∧ a2.toInt ≤ 2147483646 := iv_lt_l t7 (iv_all _) (iv_all _) (by decide)
      have i9 : -2147483647 ≤ a0.toInt ∧ a0.toInt ≤ 2147483647 := iv_lt_r t7 (iv_all _) (iv_all _) (by decide)
      refine lv_iconst (v := 0) hx hb dX12_within_14 (by decide) ?_
      rw [hQ]
      exact W.zret (v := 0) hx hb hr rfl (fun t ht hW => ⟨⟨0, (), rfl, Or.inr (⟨rfl, by have h8 := ln_0; all_goals omega⟩), trivial⟩, hS.F ht⟩) hS.2.2 dX12_within_15
    · --7 not
      have t10 : a0.toInt ≤ a2.toInt := ti_nlt c6
      refine lv_iconst (v := 1) hx hb dX12_within_10 (by decide) ?_
      refine lv_goto (tgt := 15) hx hb dX12_within_11 (by decide) ?_
      rw [hQ]
      exact W.zret (v := 1) hx hb hr rfl (fun t ht hW => ⟨⟨1, (), rfl, Or.inl ⟨rfl, by have h8 := ln_1; all_goals omega⟩, trivial⟩, hS.F ht⟩) hS.2.2 dX12_within_15
def v_cisDay : List Cond := .code yX12_isDay cX12_isDay 1 (some .boolean) :: vA
abbrev rm_cisDay : Room := { frames := 1, cells := 0, slots := 0, locals := 40 }
set_option maxHeartbeats 4000000 in
set_option maxRecDepth 100000 in
theorem q_cisDay (l : Launch) (a0 : Int32)  : Met l yX12_isDay v_cisDay rm_cisDay (va_Pc [.int a0] (fun _ => True)) (va_Qi (S := Unit) (fun r _ => (r = 1 ∧ (0 ≤ a0.toInt ∧ a0.toInt ≤ 400)) ∨ (r = 0 ∧ (¬ (0 ≤ a0.toInt ∧ a0.toInt ≤ 400)))) (fun _ _ => True) (fun _ => False)) 0 0 (fun _ => False) := by
  refine Met.ofW (cc := cX12_isDay) (maxL := 1) (ret := (some .boolean)) (by decide) rfl ?_
  intro p e s m args below meth c s₁ B hml hv
  obtain ⟨hargs, -⟩ := hv
  have hx := B.exec
  have hb := B.bytes
  have hr := B.returns
  have hts := atoms_spec (ws := v_cisDay) B.pre
  have hown : s.vm.findClass RX12 = some m.cls := findClass_of_methodNamed B.named
  have hlocks := B.notSynchronized
  have hS : va_S (fun _ : Nat => False) s.heap s.heap [] := va_S.rf
  have hl := lv_entry ([.int a0]) (n := 1) (Nat.le_of_ble_eq_true rfl)
  obtain ⟨Q, hQ⟩ : ∃ Q, Q = MQ below (va_Qi (S := Unit) (fun r _ => (r = 1 ∧ (0 ≤ a0.toInt ∧ a0.toInt ≤ 400)) ∨ (r = 0 ∧ (¬ (0 ≤ a0.toInt ∧ a0.toInt ≤ 400)))) (fun _ _ => True) (fun _ => False)) args s 0 0 (fun _ => False) := ⟨_, rfl⟩
  rw [← hQ, show entryFrame m args 1 = _ from (congrArg (fun z => entryFrame m z 1) hargs).trans (lg_entry_eq _ _ _)]
  generalize (lg_sl ([.int a0]) ++ List.replicate (1 - (lg_sl ([.int a0])).length) Slot.unset).toArray = ls at hl ⊢
  have hl : lv_has ls 1 [(0, .int a0)] := hl
  refine lv_iload_n hx hb dX12_isDay_0 rfl (lv_at hl 0 rfl) ?_
  refine lv_iconst (v := 0) hx hb dX12_isDay_1 (by decide) ?_
  refine lv_sipush (v := 400) hx hb dX12_isDay_2 (by decide) ?_
  refine th_pi (va_runS (As := [.int a0, .int 0, .int 400]) (rest := []) ⟨hx, hb, hml, hown, hts⟩ (q_cwithin l a0 (0 : Int32) (400 : Int32)) (va_cwS 3 hts (gi_S (in_10 _ (zs16 (zs4 (zs4 (zs4 (zs1 (zs1 (zs1 (zs0))))))))) (in_4 _ (zs16 (zs4 (zs1 (zs1 (zs0)))))) (in_4 _ (zs16 (zs4 (zs1 (zs1 (zs1 (zs0))))))) (in_4 _ (zs16 (zs4 (zs4 (zs0)))))) rfl rfl rfl hz_yX12_within_3 ⟨Nat.le_of_ble_eq_true rfl, Nat.le_of_ble_eq_true rfl⟩) ⟨fun _ _ _ _ q => q, fun _ _ _ => ⟨rfl, trivial⟩⟩ rfl rfl hl.1 rfl (lv_room (Nat.le_of_ble_eq_true rfl)) dX12_isDay_5 ⟨Nat.le_of_ble_eq_true rfl, Nat.le_of_ble_eq_true rfl⟩) hS (fun r1 H1 locs1 hw hk1 hS => ?_)
  generalize H1 = H at hS ⊢
  generalize locs1 = locs at hS ⊢
  rcases hw with hw | hw
  · -- cwithin, case 0
    obtain ⟨rfl, f2⟩ := hw
    have t3 : (0 : Int) ≤ a0.toInt := f2.1
    have t4 : a0.toInt ≤ 400 := f2.2
    have i5 : 0 ≤ a0.toInt ∧ a0.toInt ≤ 2147483647 := iv_le_r t3 (il_ 0) (iv_all _) (by decide)
    have i6 : 0 ≤ a0.toInt ∧ a0.toInt ≤ 400 := iv_le_l t4 i5 (il_ 400) (by decide)
    rw [hQ]
    exact W.zret (v := 1) hx hb hr rfl (fun t ht hW => ⟨⟨1, (), rfl, Or.inl ⟨rfl, by have h8 := ln_1; all_goals omega⟩, trivial⟩, hS.F ht⟩) hS.2.2 dX12_isDay_8
  · -- cwithin, case 1
    obtain ⟨rfl, f7⟩ := hw
    have t8 : ¬ ((0 : Int) ≤ a0.toInt ∧ a0.toInt ≤ 400) := f7
    rw [hQ]
    exact W.zret (v := 0) hx hb hr rfl (fun t ht hW => ⟨⟨0, (), rfl, Or.inr (⟨rfl, by have h8 := ln_0; all_goals omega⟩), trivial⟩, hS.F ht⟩) hS.2.2 dX12_isDay_8
def v_capart : List Cond := .code yX12_apart cX12_apart 2 (some .int) :: vA
abbrev rm_capart : Room := { frames := 0, cells := 0, slots := 0, locals := 0 }
set_option maxHeartbeats 4000000 in
set_option maxRecDepth 100000 in
theorem q_capart (l : Launch) (a0 : Int32) (a1 : Int32)  : Met l yX12_apart v_capart rm_capart (va_Pc [.int a0, .int a1] (fun _ => True)) (va_Qi (S := Unit) (fun r _ => ((a1.toInt < a0.toInt ∧ r = a0 - a1 ∨ a0.toInt ≤ a1.toInt ∧ r = a1 - a0))) (fun _ _ => True) (fun _ => False)) 0 0 (fun _ => False) := by
  refine Met.ofW (cc := cX12_apart) (maxL := 2) (ret := (some .int)) (by decide) rfl ?_
  intro p e s m args below meth c s₁ B hml hv
  obtain ⟨hargs, -⟩ := hv
  have hx := B.exec
  have hb := B.bytes
  have hr := B.returns
  have hts := atoms_spec (ws := v_capart) B.pre
  have hown : s.vm.findClass RX12 = some m.cls := findClass_of_methodNamed B.named
  have hlocks := B.notSynchronized
  have hS : va_S (fun _ : Nat => False) s.heap s.heap [] := va_S.rf
  have hl := lv_entry ([.int a0, .int a1]) (n := 2) (Nat.le_of_ble_eq_true rfl)
  obtain ⟨Q, hQ⟩ : ∃ Q, Q = MQ below (va_Qi (S := Unit) (fun r _ => ((a1.toInt < a0.toInt ∧ r = a0 - a1 ∨ a0.toInt ≤ a1.toInt ∧ r = a1 - a0))) (fun _ _ => True) (fun _ => False)) args s 0 0 (fun _ => False) := ⟨_, rfl⟩
  rw [← hQ, show entryFrame m args 2 = _ from (congrArg (fun z => entryFrame m z 2) hargs).trans (lg_entry_eq _ _ _)]
  generalize (lg_sl ([.int a0, .int a1]) ++ List.replicate (2 - (lg_sl ([.int a0, .int a1])).length) Slot.unset).toArray = ls at hl ⊢
  have hl : lv_has ls 2 [(0, .int a0), (1, .int a1)] := hl
  refine lv_iload_n hx hb dX12_apart_0 rfl (lv_at hl 0 rfl) ?_
  refine lv_iload_n hx hb dX12_apart_1 rfl (lv_at hl 1 rfl) ?_
  refine lv_icmp_le (tgt := 11) hx hb dX12_apart_2 (by decide) (fun c1 => ?_) (fun c1 => ?_)
  · --2 taken
    have t2 : a0.toInt ≤ a1.toInt := ti_le c1
    refine lv_iload_n hx hb dX12_apart_11 rfl (lv_at hl 1 rfl) ?_
    refine lv_iload_n hx hb dX12_apart_12 rfl (lv_at hl 0 rfl) ?_
    refine lv_isub hx hb dX12_apart_13 ?_
    refine lv_topi (fun y3 ey3 => ?_)
    rw [hQ]
    exact W.iret (v := y3) hx hb hr (fun t ht hW => ⟨⟨y3, (), rfl, (by first | (left; exact ⟨by omega, ey3⟩) | (right; exact ⟨by omega, ey3⟩)), trivial⟩, hS.F ht⟩) hS.2.2 dX12_apart_14
  · --2 not
    have t4 : a1.toInt < a0.toInt := ti_nle c1
    have i5 : -2147483648 ≤ a1.toInt ∧ a1.toInt ≤ 2147483646 := iv_lt_l t4 (iv_all _) (iv_all _) (by decide)
    have i6 : -2147483647 ≤ a0.toInt ∧ a0.toInt ≤ 2147483647 := iv_lt_r t4 (iv_all _) (iv_all _) (by decide)
    refine lv_iload_n hx hb dX12_apart_5 rfl (lv_at hl 0 rfl) ?_
    refine lv_iload_n hx hb dX12_apart_6 rfl (lv_at hl 1 rfl) ?_
    refine lv_isub hx hb dX12_apart_7 ?_
    refine lv_topi (fun y7 ey7 => ?_)
    refine lv_goto (tgt := 14) hx hb dX12_apart_8 (by decide) ?_
    rw [hQ]
    exact W.iret (v := y7) hx hb hr (fun t ht hW => ⟨⟨y7, (), rfl, (by first | (left; exact ⟨by omega, ey7⟩) | (right; exact ⟨by omega, ey7⟩)), trivial⟩, hS.F ht⟩) hS.2.2 dX12_apart_14
def v_ccell : List Cond := .code yX12_cell cX12_cell 2 (some .int) :: vA
abbrev rm_ccell : Room := { frames := 0, cells := 0, slots := 0, locals := 0 }
set_option maxHeartbeats 4000000 in
set_option maxRecDepth 100000 in
theorem q_ccell (l : Launch) (a0 : Int32) (a1 : Int32) (hh0 : 0 ≤ a0.toInt ∧ a0.toInt ≤ 19) (hh1 : 0 ≤ a1.toInt ∧ a1.toInt ≤ 15) : Met l yX12_cell v_ccell rm_ccell (va_Pc [.int a0, .int a1] (fun _ => True)) (va_Qi (S := Unit) (fun r _ => (0 ≤ r.toInt ∧ r.toInt ≤ 319) ∧ (r.toInt = 16 * a0.toInt + a1.toInt)) (fun _ _ => True) (fun _ => False)) 0 0 (fun _ => False) := by
  refine Met.ofW (cc := cX12_cell) (maxL := 2) (ret := (some .int)) (by decide) rfl ?_
  intro p e s m args below meth c s₁ B hml hv
  obtain ⟨hargs, -⟩ := hv
  have hx := B.exec
  have hb := B.bytes
  have hr := B.returns
  have hts := atoms_spec (ws := v_ccell) B.pre
  have hown : s.vm.findClass RX12 = some m.cls := findClass_of_methodNamed B.named
  have hlocks := B.notSynchronized
  have hS : va_S (fun _ : Nat => False) s.heap s.heap [] := va_S.rf
  have hl := lv_entry ([.int a0, .int a1]) (n := 2) (Nat.le_of_ble_eq_true rfl)
  obtain ⟨Q, hQ⟩ : ∃ Q, Q = MQ below (va_Qi (S := Unit) (fun r _ => (0 ≤ r.toInt ∧ r.toInt ≤ 319) ∧ (r.toInt = 16 * a0.toInt + a1.toInt)) (fun _ _ => True) (fun _ => False)) args s 0 0 (fun _ => False) := ⟨_, rfl⟩
  rw [← hQ, show entryFrame m args 2 = _ from (congrArg (fun z => entryFrame m z 2) hargs).trans (lg_entry_eq _ _ _)]
  generalize (lg_sl ([.int a0, .int a1]) ++ List.replicate (2 - (lg_sl ([.int a0, .int a1])).length) Slot.unset).toArray = ls at hl ⊢
  have hl : lv_has ls 2 [(0, .int a0), (1, .int a1)] := hl
  refine lv_iload_n hx hb dX12_cell_0 rfl (lv_at hl 0 rfl) ?_
  refine lv_bipush (v := 16) hx hb dX12_cell_1 (by decide) ?_
  refine lv_imul hx hb dX12_cell_3 ?_
  refine lv_topi (fun y1 ey1 => ?_)
  obtain ⟨ty1, iy1⟩ := ti_mul (e := 0) (f := 304) hh0 ln_16 ey1 (by decide)
  have ty1 : y1.toInt = a0.toInt * 16 := ty1
  have iy1 : 0 ≤ y1.toInt ∧ y1.toInt ≤ 304 := iy1
  refine lv_iload_n hx hb dX12_cell_4 rfl (lv_at hl 1 rfl) ?_
  refine lv_iadd hx hb dX12_cell_5 ?_
  refine lv_topi (fun y2 ey2 => ?_)
  obtain ⟨ty2, iy2⟩ := ti_add (e := 0) (f := 319) iy1 hh1 ey2 (by decide)
  have ty2 : y2.toInt = y1.toInt + a1.toInt := ty2
  have iy2 : 0 ≤ y2.toInt ∧ y2.toInt ≤ 319 := iy2
  rw [hQ]
  exact W.iret (v := y2) hx hb hr (fun t ht hW => ⟨⟨y2, (), rfl, ⟨iy2, by all_goals omega⟩, trivial⟩, hS.F ht⟩) hS.2.2 dX12_cell_6
def v_casLetter : List Cond := .code yX7_asLetter cX7_asLetter 1 (some .int) :: vA
abbrev rm_casLetter : Room := { frames := 0, cells := 0, slots := 0, locals := 0 }
set_option maxHeartbeats 4000000 in
set_option maxRecDepth 100000 in
theorem q_casLetter (l : Launch) (a0 : Int32)  : Met l yX7_asLetter v_casLetter rm_casLetter (va_Pc [.int a0] (fun _ => True)) (va_Qi (S := Unit) (fun r _ => True) (fun _ _ => True) (fun _ => False)) 0 0 (fun _ => False) := by
  refine Met.ofW (cc := cX7_asLetter) (maxL := 1) (ret := (some .int)) (by decide) rfl ?_
  intro p e s m args below meth c s₁ B hml hv
  obtain ⟨hargs, -⟩ := hv
  have hx := B.exec
  have hb := B.bytes
  have hr := B.returns
  have hts := atoms_spec (ws := v_casLetter) B.pre
  have hown : s.vm.findClass RX7 = some m.cls := findClass_of_methodNamed B.named
  have hlocks := B.notSynchronized
  have hS : va_S (fun _ : Nat => False) s.heap s.heap [] := va_S.rf
  have hl := lv_entry ([.int a0]) (n := 1) (Nat.le_of_ble_eq_true rfl)
  obtain ⟨Q, hQ⟩ : ∃ Q, Q = MQ below (va_Qi (S := Unit) (fun r _ => True) (fun _ _ => True) (fun _ => False)) args s 0 0 (fun _ => False) := ⟨_, rfl⟩
  rw [← hQ, show entryFrame m args 1 = _ from (congrArg (fun z => entryFrame m z 1) hargs).trans (lg_entry_eq _ _ _)]
  generalize (lg_sl ([.int a0]) ++ List.replicate (1 - (lg_sl ([.int a0])).length) Slot.unset).toArray = ls at hl ⊢
  have hl : lv_has ls 1 [(0, .int a0)] := hl
  refine lv_iconst (v := -1) hx hb dX7_asLetter_0 (by decide) ?_
  refine lv_iload_n hx hb dX7_asLetter_1 rfl (lv_at hl 0 rfl) ?_
  refine lv_isub hx hb dX7_asLetter_2 ?_
  refine lv_topi (fun y1 ey1 => ?_)
  obtain ⟨ty1, iy1⟩ := ti_sub (e := (-2147483648)) (f := 2147483647) ln_m1 (iv_all _) ey1 (by decide)
  have ty1 : y1.toInt = -1 - a0.toInt := ty1
  have iy1 : -2147483648 ≤ y1.toInt ∧ y1.toInt ≤ 2147483647 := iy1
  rw [hQ]
  exact W.iret (v := y1) hx hb hr (fun t ht hW => ⟨⟨y1, (), rfl, trivial, trivial⟩, hS.F ht⟩) hS.2.2 dX7_asLetter_3
def v_casSign : List Cond := .code yX7_asSign cX7_asSign 1 (some .int) :: vA
abbrev rm_casSign : Room := { frames := 0, cells := 0, slots := 0, locals := 0 }
set_option maxHeartbeats 4000000 in
set_option maxRecDepth 100000 in
theorem q_casSign (l : Launch) (a0 : Int32) (hh0 : 0 ≤ a0.toInt ∧ a0.toInt ≤ 255) : Met l yX7_asSign v_casSign rm_casSign (va_Pc [.int a0] (fun _ => True)) (va_Qi (S := Unit) (fun r _ => (-355 ≤ r.toInt ∧ r.toInt ≤ -100) ∧ (r.toInt = -100 - a0.toInt)) (fun _ _ => True) (fun _ => False)) 0 0 (fun _ => False) := by
  refine Met.ofW (cc := cX7_asSign) (maxL := 1) (ret := (some .int)) (by decide) rfl ?_
  intro p e s m args below meth c s₁ B hml hv
  obtain ⟨hargs, -⟩ := hv
  have hx := B.exec
  have hb := B.bytes
  have hr := B.returns
  have hts := atoms_spec (ws := v_casSign) B.pre
  have hown : s.vm.findClass RX7 = some m.cls := findClass_of_methodNamed B.named
  have hlocks := B.notSynchronized
  have hS : va_S (fun _ : Nat => False) s.heap s.heap [] := va_S.rf
  have hl := lv_entry ([.int a0]) (n := 1) (Nat.le_of_ble_eq_true rfl)
  obtain ⟨Q, hQ⟩ : ∃ Q, Q = MQ below (va_Qi (S := Unit) (fun r _ => (-355 ≤ r.toInt ∧ r.toInt ≤ -100) ∧ (r.toInt = -100 - a0.toInt)) (fun _ _ => True) (fun _ => False)) args s 0 0 (fun _ => False) := ⟨_, rfl⟩
  rw [← hQ, show entryFrame m args 1 = _ from (congrArg (fun z => entryFrame m z 1) hargs).trans (lg_entry_eq _ _ _)]
  generalize (lg_sl ([.int a0]) ++ List.replicate (1 - (lg_sl ([.int a0])).length) Slot.unset).toArray = ls at hl ⊢
  have hl : lv_has ls 1 [(0, .int a0)] := hl
  refine lv_bipush (v := -100) hx hb dX7_asSign_0 (by decide) ?_
  refine lv_iload_n hx hb dX7_asSign_2 rfl (lv_at hl 0 rfl) ?_
  refine lv_isub hx hb dX7_asSign_3 ?_
  refine lv_topi (fun y1 ey1 => ?_)
  obtain ⟨ty1, iy1⟩ := ti_sub (e := (-355)) (f := (-100)) ln_m100 hh0 ey1 (by decide)
  have ty1 : y1.toInt = -100 - a0.toInt := ty1
  have iy1 : -355 ≤ y1.toInt ∧ y1.toInt ≤ -100 := iy1
  rw [hQ]
  exact W.iret (v := y1) hx hb hr (fun t ht hW => ⟨⟨y1, (), rfl, ⟨iy1, by all_goals omega⟩, trivial⟩, hS.F ht⟩) hS.2.2 dX7_asSign_4
def v_cisDigit : List Cond := .code yX10_isDigit cX10_isDigit 1 (some .boolean) :: vA
abbrev rm_cisDigit : Room := { frames := 0, cells := 0, slots := 0, locals := 0 }
set_option maxHeartbeats 4000000 in
set_option maxRecDepth 100000 in
theorem q_cisDigit (l : Launch) (a0 : Int32)  : Met l yX10_isDigit v_cisDigit rm_cisDigit (va_Pc [.int a0] (fun _ => True)) (va_Qi (S := Unit) (fun r _ => (r = 1 ∧ (48 ≤ a0.toInt ∧ a0.toInt ≤ 57)) ∨ (r = 0 ∧ (¬ (48 ≤ a0.toInt ∧ a0.toInt ≤ 57)))) (fun _ _ => True) (fun _ => False)) 0 0 (fun _ => False) := by
  refine Met.ofW (cc := cX10_isDigit) (maxL := 1) (ret := (some .boolean)) (by decide) rfl ?_
  intro p e s m args below meth c s₁ B hml hv
  obtain ⟨hargs, -⟩ := hv
  have hx := B.exec
  have hb := B.bytes
  have hr := B.returns
  have hts := atoms_spec (ws := v_cisDigit) B.pre
  have hown : s.vm.findClass RX10 = some m.cls := findClass_of_methodNamed B.named
  have hlocks := B.notSynchronized
  have hS : va_S (fun _ : Nat => False) s.heap s.heap [] := va_S.rf
  have hl := lv_entry ([.int a0]) (n := 1) (Nat.le_of_ble_eq_true rfl)
  obtain ⟨Q, hQ⟩ : ∃ Q, Q = MQ below (va_Qi (S := Unit) (fun r _ => (r = 1 ∧ (48 ≤ a0.toInt ∧ a0.toInt ≤ 57)) ∨ (r = 0 ∧ (¬ (48 ≤ a0.toInt ∧ a0.toInt ≤ 57)))) (fun _ _ => True) (fun _ => False)) args s 0 0 (fun _ => False) := ⟨_, rfl⟩
  rw [← hQ, show entryFrame m args 1 = _ from (congrArg (fun z => entryFrame m z 1) hargs).trans (lg_entry_eq _ _ _)]
  generalize (lg_sl ([.int a0]) ++ List.replicate (1 - (lg_sl ([.int a0])).length) Slot.unset).toArray = ls at hl ⊢
  have hl : lv_has ls 1 [(0, .int a0)] := hl
  refine lv_iload_n hx hb dX10_isDigit_0 rfl (lv_at hl 0 rfl) ?_
  refine lv_bipush (v := 48) hx hb dX10_isDigit_1 (by decide) ?_
  refine lv_icmp_lt (tgt := 16) hx hb dX10_isDigit_3 (by decide) (fun c1 => ?_) (fun c1 => ?_)
  · --3 taken
    have t2 : a0.toInt < 48 := ti_lt c1
    have i3 : -2147483648 ≤ a0.toInt ∧ a0.toInt ≤ 47 := iv_lt_l t2 (iv_all _) (il_ 48) (by decide)
    refine lv_iconst (v := 0) hx hb dX10_isDigit_16 (by decide) ?_
    rw [hQ]
    exact W.zret (v := 0) hx hb hr rfl (fun t ht hW => ⟨⟨0, (), rfl, Or.inr (⟨rfl, by have h8 := ln_0; all_goals omega⟩), trivial⟩, hS.F ht⟩) hS.2.2 dX10_isDigit_17
  · --3 not
    have t4 : (48 : Int) ≤ a0.toInt := ti_nlt c1
    have i5 : 48 ≤ a0.toInt ∧ a0.toInt ≤ 2147483647 := iv_le_r t4 (il_ 48) (iv_all _) (by decide)
    refine lv_iload_n hx hb dX10_isDigit_6 rfl (lv_at hl 0 rfl) ?_
    refine lv_bipush (v := 57) hx hb dX10_isDigit_7 (by decide) ?_
    refine lv_icmp_gt (tgt := 16) hx hb dX10_isDigit_9 (by decide) (fun c6 => ?_) (fun c6 => ?_)
    · --9 taken
      have t7 : (57 : Int) < a0.toInt := ti_lt c6
      have i8 : 58 ≤ a0.toInt ∧ a0.toInt ≤ 2147483647 := iv_lt_r t7 (il_ 57) i5 (by decide)
      refine lv_iconst (v := 0) hx hb dX10_isDigit_16 (by decide) ?_
      rw [hQ]
      exact W.zret (v := 0) hx hb hr rfl (fun t ht hW => ⟨⟨0, (), rfl, Or.inr (⟨rfl, by have h8 := ln_0; all_goals omega⟩), trivial⟩, hS.F ht⟩) hS.2.2 dX10_isDigit_17
    · --9 not
      have t9 : a0.toInt ≤ 57 := ti_nlt c6
      have i10 : 48 ≤ a0.toInt ∧ a0.toInt ≤ 57 := iv_le_l t9 i5 (il_ 57) (by decide)
      refine lv_iconst (v := 1) hx hb dX10_isDigit_12 (by decide) ?_
      refine lv_goto (tgt := 17) hx hb dX10_isDigit_13 (by decide) ?_
      rw [hQ]
      exact W.zret (v := 1) hx hb hr rfl (fun t ht hW => ⟨⟨1, (), rfl, Or.inl ⟨rfl, by have h8 := ln_1; all_goals omega⟩, trivial⟩, hS.F ht⟩) hS.2.2 dX10_isDigit_17
def v_crowOf : List Cond := .code yX3_rowOf cX3_rowOf 2 (some .int) :: vA
abbrev rm_crowOf : Room := { frames := 0, cells := 0, slots := 0, locals := 0 }
set_option maxHeartbeats 4000000 in
set_option maxRecDepth 100000 in
theorem q_crowOf (l : Launch) (a0 : Int32) (a1 : Int32) (hh0 : 0 ≤ a0.toInt ∧ a0.toInt ≤ 19) (hh1 : 0 ≤ a1.toInt ∧ a1.toInt ≤ 3) : Met l yX3_rowOf v_crowOf rm_crowOf (va_Pc [.int a0, .int a1] (fun _ => True)) (va_Qi (S := Unit) (fun r _ => (0 ≤ r.toInt ∧ r.toInt ≤ 553) ∧ (r.toInt = 7 * (4 * a0.toInt + a1.toInt))) (fun _ _ => True) (fun _ => False)) 0 0 (fun _ => False) := by
  refine Met.ofW (cc := cX3_rowOf) (maxL := 2) (ret := (some .int)) (by decide) rfl ?_
  intro p e s m args below meth c s₁ B hml hv
  obtain ⟨hargs, -⟩ := hv
  have hx := B.exec
  have hb := B.bytes
  have hr := B.returns
  have hts := atoms_spec (ws := v_crowOf) B.pre
  have hown : s.vm.findClass RX3 = some m.cls := findClass_of_methodNamed B.named
  have hlocks := B.notSynchronized
  have hS : va_S (fun _ : Nat => False) s.heap s.heap [] := va_S.rf
  have hl := lv_entry ([.int a0, .int a1]) (n := 2) (Nat.le_of_ble_eq_true rfl)
  obtain ⟨Q, hQ⟩ : ∃ Q, Q = MQ below (va_Qi (S := Unit) (fun r _ => (0 ≤ r.toInt ∧ r.toInt ≤ 553) ∧ (r.toInt = 7 * (4 * a0.toInt + a1.toInt))) (fun _ _ => True) (fun _ => False)) args s 0 0 (fun _ => False) := ⟨_, rfl⟩
  rw [← hQ, show entryFrame m args 2 = _ from (congrArg (fun z => entryFrame m z 2) hargs).trans (lg_entry_eq _ _ _)]
  generalize (lg_sl ([.int a0, .int a1]) ++ List.replicate (2 - (lg_sl ([.int a0, .int a1])).length) Slot.unset).toArray = ls at hl ⊢
  have hl : lv_has ls 2 [(0, .int a0), (1, .int a1)] := hl
  refine lv_iload_n hx hb dX3_rowOf_0 rfl (lv_at hl 0 rfl) ?_
  refine lv_iconst (v := 4) hx hb dX3_rowOf_1 (by decide) ?_
  refine lv_imul hx hb dX3_rowOf_2 ?_
  refine lv_topi (fun y1 ey1 => ?_)
  obtain ⟨ty1, iy1⟩ := ti_mul (e := 0) (f := 76) hh0 ln_4 ey1 (by decide)
  have ty1 : y1.toInt = a0.toInt * 4 := ty1
  have iy1 : 0 ≤ y1.toInt ∧ y1.toInt ≤ 76 := iy1
  refine lv_iload_n hx hb dX3_rowOf_3 rfl (lv_at hl 1 rfl) ?_
  refine lv_iadd hx hb dX3_rowOf_4 ?_
  refine lv_topi (fun y2 ey2 => ?_)
  obtain ⟨ty2, iy2⟩ := ti_add (e := 0) (f := 79) iy1 hh1 ey2 (by decide)
  have ty2 : y2.toInt = y1.toInt + a1.toInt := ty2
  have iy2 : 0 ≤ y2.toInt ∧ y2.toInt ≤ 79 := iy2
  refine lv_bipush (v := 7) hx hb dX3_rowOf_5 (by decide) ?_
  refine lv_imul hx hb dX3_rowOf_7 ?_
  refine lv_topi (fun y3 ey3 => ?_)
  obtain ⟨ty3, iy3⟩ := ti_mul (e := 0) (f := 553) iy2 ln_7 ey3 (by decide)
  have ty3 : y3.toInt = y2.toInt * 7 := ty3
  have iy3 : 0 ≤ y3.toInt ∧ y3.toInt ≤ 553 := iy3
  rw [hQ]
  exact W.iret (v := y3) hx hb hr (fun t ht hW => ⟨⟨y3, (), rfl, ⟨iy3, by all_goals omega⟩, trivial⟩, hS.F ht⟩) hS.2.2 dX3_rowOf_8
def v_cfar : List Cond := .code yX2_far cX2_far 4 (some .int) :: vA
abbrev rm_cfar : Room := { frames := 1, cells := 0, slots := 0, locals := 40 }
set_option maxHeartbeats 4000000 in
set_option maxRecDepth 100000 in
theorem q_cfar (l : Launch) (a0 : Int32) (a1 : Int32) (a2 : Int32) (a3 : Int32)  : Met l yX2_far v_cfar rm_cfar (va_Pc [.int a0, .int a1, .int a2, .int a3] (fun U => NXc U)) (va_Qi (S := Unit) (fun r _ => True) (fun _ _ => True) (fun _ => False)) 0 0 (fun _ => False) := by
  refine Met.ofW (cc := cX2_far) (maxL := 4) (ret := (some .int)) (by decide) rfl ?_
  intro p e s m args below meth c s₁ B hml hv
  obtain ⟨hargs, hNX⟩ := hv
  have hNX : NXc s := hNX
  have hx := B.exec
  have hb := B.bytes
  have hr := B.returns
  have hts := atoms_spec (ws := v_cfar) B.pre
  have hown : s.vm.findClass RX2 = some m.cls := findClass_of_methodNamed B.named
  have hlocks := B.notSynchronized
  have hS : va_S (fun _ : Nat => False) s.heap s.heap [] := va_S.rf
  have hl := lv_entry ([.int a0, .int a1, .int a2, .int a3]) (n := 4) (Nat.le_of_ble_eq_true rfl)
  obtain ⟨Q, hQ⟩ : ∃ Q, Q = MQ below (va_Qi (S := Unit) (fun r _ => True) (fun _ _ => True) (fun _ => False)) args s 0 0 (fun _ => False) := ⟨_, rfl⟩
  rw [← hQ, show entryFrame m args 4 = _ from (congrArg (fun z => entryFrame m z 4) hargs).trans (lg_entry_eq _ _ _)]
  generalize (lg_sl ([.int a0, .int a1, .int a2, .int a3]) ++ List.replicate (4 - (lg_sl ([.int a0, .int a1, .int a2, .int a3])).length) Slot.unset).toArray = ls at hl ⊢
  have hl : lv_has ls 4 [(0, .int a0), (1, .int a1), (2, .int a2), (3, .int a3)] := hl
  refine lv_iload_n hx hb dX2_far_0 rfl (lv_at hl 0 rfl) ?_
  refine lv_iload_n hx hb dX2_far_1 rfl (lv_at hl 2 rfl) ?_
  refine th_pi (va_runSN (As := [.int a0, .int a2]) (rest := []) ⟨hx, hb, hml, hown, hts⟩ (q_capart l a0 a2) ⟨va_cnB 2 hts (gi_0 (in_10 _ (zs4 (zs4 (zs4 (zs1 (zs1 (zs1 (zs0))))))))) rfl rfl rfl (hNX.1 _ (List.mem_of_getElem? (i := 4) rfl)) (hts _ (vA_in _ _ (in_4 _ (zs16 (zs4 (zs1 (zs1 (zs1 (zs0))))))))) hz_yX12_apart_2 ⟨Nat.le_of_ble_eq_true rfl, Nat.le_of_ble_eq_true rfl⟩, (hts _ (vA_in _ _ (in_13 _ (zs16 (zs4 (zs4 (zs1 (zs0)))))))), trivial⟩ ⟨fun _ _ _ _ q => q, fun _ _ _ => ⟨rfl, trivial⟩⟩ rfl rfl hl.1 rfl (lv_room (Nat.le_of_ble_eq_true rfl)) dX2_far_2 ⟨Nat.le_of_ble_eq_true rfl, Nat.le_of_ble_eq_true rfl⟩) hS (fun r1 H1 locs1 hw hk1 hS => ?_)
  generalize H1 = H at hS ⊢
  generalize locs1 = locs at hS ⊢
  have f2 := hw
  refine lv_iload_n hx hb dX2_far_5 rfl (lv_at hl 1 rfl) ?_
  refine lv_iload_n hx hb dX2_far_6 rfl (lv_at hl 3 rfl) ?_
  refine th_pi (va_runSN (As := [.int a1, .int a3]) (rest := [.int r1]) ⟨hx, hb, hml, hown, hts⟩ (q_capart l a1 a3) ⟨va_cnB 2 hts (gi_0 (in_10 _ (zs4 (zs4 (zs4 (zs1 (zs1 (zs1 (zs0))))))))) rfl rfl rfl (hNX.1 _ (List.mem_of_getElem? (i := 4) rfl)) (hts _ (vA_in _ _ (in_4 _ (zs16 (zs4 (zs1 (zs1 (zs1 (zs0))))))))) hz_yX12_apart_2 ⟨Nat.le_of_ble_eq_true rfl, Nat.le_of_ble_eq_true rfl⟩, (hts _ (vA_in _ _ (in_13 _ (zs16 (zs4 (zs4 (zs1 (zs0)))))))), trivial⟩ ⟨fun _ _ _ _ q => q, fun _ _ _ => ⟨rfl, trivial⟩⟩ rfl rfl hl.1 rfl (lv_room (Nat.le_of_ble_eq_true rfl)) dX2_far_7 ⟨Nat.le_of_ble_eq_true rfl, Nat.le_of_ble_eq_true rfl⟩) hS (fun r3 H1 locs1 hw hk1 hS => ?_)
  generalize H1 = H at hS ⊢
  generalize locs1 = locs at hS ⊢
  have f4 := hw
  refine va_mmax hx hb (by rw [hml]; exact hl.1.symm) hown (hts _ (vA_in _ _ (in_15 _ (zs16 (zs16 (zs1 (zs1 (zs0)))))))) (hts _ (vA_in _ _ (in_0 _ (zs16 (zs16 (zs0)))))) (hts _ (vA_in _ _ (in_0 _ (zs16 (zs16 (zs1 (zs0))))))) (hts _ (vA_in _ _ (in_0 _ (zs16 (zs16 (zs1 (zs1 (zs0)))))))) (Nat.le_of_ble_eq_true rfl) (Nat.le_of_ble_eq_true rfl) (Nat.le_of_ble_eq_true rfl) (Nat.le_of_ble_eq_true rfl) dX2_far_10 ?_
  refine lv_topi (fun y5 ey5 => ?_)
  obtain ⟨ty5, iy5⟩ := ti_max (e := (-2147483648)) (f := 2147483647) (iv_all _) (iv_all _) ey5 (by decide)
  have iy5 : -2147483648 ≤ y5.toInt ∧ y5.toInt ≤ 2147483647 := iy5
  rw [hQ]
  exact W.iret (v := y5) hx hb hr (fun t ht hW => ⟨⟨y5, (), rfl, trivial, trivial⟩, hS.F ht⟩) hS.2.2 dX2_far_13
def v_cjoin : List Cond := .code yX7_join cX7_join 5 (some .int) :: vA
abbrev rm_cjoin : Room := { frames := 0, cells := 0, slots := 0, locals := 0 }
set_option maxHeartbeats 4000000 in
set_option maxRecDepth 100000 in
theorem q_cjoin (l : Launch) (a0 : Int32) (a1 : Int32) (a2 : Int32)  : Met l yX7_join v_cjoin rm_cjoin (va_Pc [.int a0, .int a1, .int a2] (fun _ => True)) (va_Qi (S := Unit) (fun r _ => True) (fun _ _ => True) (fun _ => False)) 0 0 (fun _ => False) := by
  refine Met.ofW (cc := cX7_join) (maxL := 5) (ret := (some .int)) (by decide) rfl ?_
  intro p e s m args below meth c s₁ B hml hv
  obtain ⟨hargs, -⟩ := hv
  have hx := B.exec
  have hb := B.bytes
  have hr := B.returns
  have hts := atoms_spec (ws := v_cjoin) B.pre
  have hown : s.vm.findClass RX7 = some m.cls := findClass_of_methodNamed B.named
  have hlocks := B.notSynchronized
  have hS : va_S (fun _ : Nat => False) s.heap s.heap [] := va_S.rf
  have hl := lv_entry ([.int a0, .int a1, .int a2]) (n := 5) (Nat.le_of_ble_eq_true rfl)
  obtain ⟨Q, hQ⟩ : ∃ Q, Q = MQ below (va_Qi (S := Unit) (fun r _ => True) (fun _ _ => True) (fun _ => False)) args s 0 0 (fun _ => False) := ⟨_, rfl⟩
  rw [← hQ, show entryFrame m args 5 = _ from (congrArg (fun z => entryFrame m z 5) hargs).trans (lg_entry_eq _ _ _)]
  generalize (lg_sl ([.int a0, .int a1, .int a2]) ++ List.replicate (5 - (lg_sl ([.int a0, .int a1, .int a2])).length) Slot.unset).toArray = ls at hl ⊢
  have hl : lv_has ls 5 [(0, .int a0), (1, .int a1), (2, .int a2)] := hl
  refine lv_iload_n hx hb dX7_join_0 rfl (lv_at hl 0 rfl) ?_
  rcases (show (a0.toInt < 38 ∨ 62 < a0.toInt) ∨ a0.toInt = 38 ∨ a0.toInt = 39 ∨ a0.toInt = 40 ∨ a0.toInt = 41 ∨ a0.toInt = 42 ∨ a0.toInt = 43 ∨ a0.toInt = 44 ∨ a0.toInt = 45 ∨ a0.toInt = 46 ∨ a0.toInt = 47 ∨ a0.toInt = 48 ∨ a0.toInt = 49 ∨ a0.toInt = 50 ∨ a0.toInt = 51 ∨ a0.toInt = 52 ∨ a0.toInt = 53 ∨ a0.toInt = 54 ∨ a0.toInt = 55 ∨ a0.toInt = 56 ∨ a0.toInt = 57 ∨ a0.toInt = 58 ∨ a0.toInt = 59 ∨ a0.toInt = 60 ∨ a0.toInt = 61 ∨ a0.toInt = 62 by omega) with c1 | c1 | c1 | c1 | c1 | c1 | c1 | c1 | c1 | c1 | c1 | c1 | c1 | c1 | c1 | c1 | c1 | c1 | c1 | c1 | c1 | c1 | c1 | c1 | c1 | c1
  · --None
    refine lv_tableOut (tgt := 196) hx hb dX7_join_1 c1 (by decide) ?_
    refine lv_iload_n hx hb dX7_join_196 rfl (lv_at hl 1 rfl) ?_
    refine lv_iload_n hx hb dX7_join_197 rfl (lv_at hl 2 rfl) ?_
    refine lv_ior hx hb dX7_join_198 ?_
    refine lv_topi (fun y2 ey2 => ?_)
    rw [hQ]
    exact W.iret (v := y2) hx hb hr (fun t ht hW => ⟨⟨y2, (), rfl, trivial, trivial⟩, hS.F ht⟩) hS.2.2 dX7_join_199
  · --38
    refine lv_tableIn (off := 191) (tgt := 192) hx hb dX7_join_1 (by omega) (by omega) (by rw [c1]; rfl) (by decide) ?_
    refine lv_iload_n hx hb dX7_join_192 rfl (lv_at hl 1 rfl) ?_
    refine lv_iload_n hx hb dX7_join_193 rfl (lv_at hl 2 rfl) ?_
    refine lv_iand hx hb dX7_join_194 ?_
    refine lv_topi (fun y3 ey3 => ?_)
    rw [hQ]
    exact W.iret (v := y3) hx hb hr (fun t ht hW => ⟨⟨y3, (), rfl, trivial, trivial⟩, hS.F ht⟩) hS.2.2 dX7_join_195
  · --39
    refine lv_tableIn (off := 195) (tgt := 196) hx hb dX7_join_1 (by omega) (by omega) (by rw [c1]; rfl) (by decide) ?_
    refine lv_iload_n hx hb dX7_join_196 rfl (lv_at hl 1 rfl) ?_
    refine lv_iload_n hx hb dX7_join_197 rfl (lv_at hl 2 rfl) ?_
    refine lv_ior hx hb dX7_join_198 ?_
    refine lv_topi (fun y4 ey4 => ?_)
    rw [hQ]
    exact W.iret (v := y4) hx hb hr (fun t ht hW => ⟨⟨y4, (), rfl, trivial, trivial⟩, hS.F ht⟩) hS.2.2 dX7_join_199
  · --40
    refine lv_tableIn (off := 195) (tgt := 196) hx hb dX7_join_1 (by omega) (by omega) (by rw [c1]; rfl) (by decide) ?_
    refine lv_iload_n hx hb dX7_join_196 rfl (lv_at hl 1 rfl) ?_
    refine lv_iload_n hx hb dX7_join_197 rfl (lv_at hl 2 rfl) ?_
    refine lv_ior hx hb dX7_join_198 ?_
    refine lv_topi (fun y5 ey5 => ?_)
    rw [hQ]
    exact W.iret (v := y5) hx hb hr (fun t ht hW => ⟨⟨y5, (), rfl, trivial, trivial⟩, hS.F ht⟩) hS.2.2 dX7_join_199
  · --41
    refine lv_tableIn (off := 195) (tgt := 196) hx hb dX7_join_1 (by omega) (by omega) (by rw [c1]; rfl) (by decide) ?_
    refine lv_iload_n hx hb dX7_join_196 rfl (lv_at hl 1 rfl) ?_
    refine lv_iload_n hx hb dX7_join_197 rfl (lv_at hl 2 rfl) ?_
    refine lv_ior hx hb dX7_join_198 ?_
    refine lv_topi (fun y6 ey6 => ?_)
    rw [hQ]
    exact W.iret (v := y6) hx hb hr (fun t ht hW => ⟨⟨y6, (), rfl, trivial, trivial⟩, hS.F ht⟩) hS.2.2 dX7_join_199
  · --42
    refine lv_tableIn (off := 133) (tgt := 134) hx hb dX7_join_1 (by omega) (by omega) (by rw [c1]; rfl) (by decide) ?_
    refine lv_iload_n hx hb dX7_join_134 rfl (lv_at hl 1 rfl) ?_
    refine lv_i2l hx hb dX7_join_135 rfl ?_
    refine lv_topl (fun y7 ey7 => ?_)
    refine lv_iload_n hx hb dX7_join_136 rfl (lv_at hl 2 rfl) ?_
    refine lv_i2l hx hb dX7_join_137 rfl ?_
    refine lv_topl (fun y8 ey8 => ?_)
    refine lv_lmul hx hb dX7_join_138 ?_
    refine lv_topl (fun y9 ey9 => ?_)
    refine lv_lstore_n (lv' := [(3, .long y9), (0, .int a0), (1, .int a1), (2, .int a2)]) hx hb dX7_join_139 rfl hl (by decide) rfl (fun ls hl => ?_)
    refine lv_goto (tgt := 200) hx hb dX7_join_140 (by decide) ?_
    refine lv_lload_n hx hb dX7_join_200 rfl (lv_at hl 0 rfl) ?_
    refine lv_ldc2 hx hb hown (hts _ (vA_in _ _ (in_7 _ (zs16 (zs1 (zs1 (zs0))))))) dX7_join_201 ?_
    refine lv_topl (fun y10 ey10 => ?_)
    refine W.lcmp hx hb dX7_join_204 ?_
    refine lv_topi (fun y11 ey11 => ?_)
    refine lv_if_le (tgt := 213) hx hb dX7_join_205 (by decide) (fun c12 => ?_) (fun c12 => ?_)
    · --205 taken
      have t13 : y11.toInt ≤ 0 := ti_le c12
      have i14 : -2147483648 ≤ y11.toInt ∧ y11.toInt ≤ 0 := iv_le_l t13 (iv_all _) (il_ 0) (by decide)
      refine lv_lload_n hx hb dX7_join_213 rfl (lv_at hl 0 rfl) ?_
      refine lv_ldc2 hx hb hown (hts _ (vA_in _ _ (in_7 _ (zs16 (zs4 (zs0)))))) dX7_join_214 ?_
      refine lv_topl (fun y15 ey15 => ?_)
      refine W.lcmp hx hb dX7_join_217 ?_
      refine lv_topi (fun y16 ey16 => ?_)
      refine lv_if_ge (tgt := 226) hx hb dX7_join_218 (by decide) (fun c17 => ?_) (fun c17 => ?_)
      · --218 taken
        have t18 : (0 : Int) ≤ y16.toInt := ti_le c17
        have i19 : 0 ≤ y16.toInt ∧ y16.toInt ≤ 2147483647 := iv_le_r t18 (il_ 0) (iv_all _) (by decide)
        refine lv_lload_n hx hb dX7_join_226 rfl (lv_at hl 0 rfl) ?_
        refine lv_l2i hx hb dX7_join_227 rfl ?_
        refine lv_topi (fun y20 ey20 => ?_)
        rw [hQ]
        exact W.iret (v := y20) hx hb hr (fun t ht hW => ⟨⟨y20, (), rfl, trivial, trivial⟩, hS.F ht⟩) hS.2.2 dX7_join_228
      · --218 not
        have t21 : y16.toInt < 0 := ti_nle c17
        have i22 : -2147483648 ≤ y16.toInt ∧ y16.toInt ≤ -1 := iv_lt_l t21 (iv_all _) (il_ 0) (by decide)
        refine lv_ldc hx hb hown (hts _ (vA_in _ _ (in_7 _ (zs16 (zs4 (zs1 (zs0))))))) dX7_join_221 ?_
        refine lv_goto (tgt := 228) hx hb dX7_join_223 (by decide) ?_
        rw [hQ]
        exact W.iret (v := (-10000000)) hx hb hr (fun t ht hW => ⟨⟨(-10000000), (), rfl, trivial, trivial⟩, hS.F ht⟩) hS.2.2 dX7_join_228
    · --205 not
      have t23 : (0 : Int) < y11.toInt := ti_nle c12
      have i24 : 1 ≤ y11.toInt ∧ y11.toInt ≤ 2147483647 := iv_lt_r t23 (il_ 0) (iv_all _) (by decide)
      refine lv_ldc hx hb hown (hts _ (vA_in _ _ (in_7 _ (zs16 (zs1 (zs1 (zs1 (zs0)))))))) dX7_join_208 ?_
      refine lv_goto (tgt := 228) hx hb dX7_join_210 (by decide) ?_
      rw [hQ]
      exact W.iret (v := 10000000) hx hb hr (fun t ht hW => ⟨⟨10000000, (), rfl, trivial, trivial⟩, hS.F ht⟩) hS.2.2 dX7_join_228
  · --43
    refine lv_tableIn (off := 115) (tgt := 116) hx hb dX7_join_1 (by omega) (by omega) (by rw [c1]; rfl) (by decide) ?_
    refine lv_iload_n hx hb dX7_join_116 rfl (lv_at hl 1 rfl) ?_
    refine lv_i2l hx hb dX7_join_117 rfl ?_
    refine lv_topl (fun y25 ey25 => ?_)
    refine lv_iload_n hx hb dX7_join_118 rfl (lv_at hl 2 rfl) ?_
    refine lv_i2l hx hb dX7_join_119 rfl ?_
    refine lv_topl (fun y26 ey26 => ?_)
    refine lv_ladd hx hb dX7_join_120 ?_
    refine lv_topl (fun y27 ey27 => ?_)
    refine lv_lstore_n (lv' := [(3, .long y27), (0, .int a0), (1, .int a1), (2, .int a2)]) hx hb dX7_join_121 rfl hl (by decide) rfl (fun ls hl => ?_)
    refine lv_goto (tgt := 200) hx hb dX7_join_122 (by decide) ?_
    refine lv_lload_n hx hb dX7_join_200 rfl (lv_at hl 0 rfl) ?_
    refine lv_ldc2 hx hb hown (hts _ (vA_in _ _ (in_7 _ (zs16 (zs1 (zs1 (zs0))))))) dX7_join_201 ?_
    refine lv_topl (fun y28 ey28 => ?_)
    refine W.lcmp hx hb dX7_join_204 ?_
    refine lv_topi (fun y29 ey29 => ?_)
    refine lv_if_le (tgt := 213) hx hb dX7_join_205 (by decide) (fun c30 => ?_) (fun c30 => ?_)
    · --205 taken
      have t31 : y29.toInt ≤ 0 := ti_le c30
      have i32 : -2147483648 ≤ y29.toInt ∧ y29.toInt ≤ 0 := iv_le_l t31 (iv_all _) (il_ 0) (by decide)
      refine lv_lload_n hx hb dX7_join_213 rfl (lv_at hl 0 rfl) ?_
      refine lv_ldc2 hx hb hown (hts _ (vA_in _ _ (in_7 _ (zs16 (zs4 (zs0)))))) dX7_join_214 ?_
      refine lv_topl (fun y33 ey33 => ?_)
      refine W.lcmp hx hb dX7_join_217 ?_
      refine lv_topi (fun y34 ey34 => ?_)
      refine lv_if_ge (tgt := 226) hx hb dX7_join_218 (by decide) (fun c35 => ?_) (fun c35 => ?_)
      · --218 taken
        have t36 : (0 : Int) ≤ y34.toInt := ti_le c35
        have i37 : 0 ≤ y34.toInt ∧ y34.toInt ≤ 2147483647 := iv_le_r t36 (il_ 0) (iv_all _) (by decide)
        refine lv_lload_n hx hb dX7_join_226 rfl (lv_at hl 0 rfl) ?_
        refine lv_l2i hx hb dX7_join_227 rfl ?_
        refine lv_topi (fun y38 ey38 => ?_)
        rw [hQ]
        exact W.iret (v := y38) hx hb hr (fun t ht hW => ⟨⟨y38, (), rfl, trivial, trivial⟩, hS.F ht⟩) hS.2.2 dX7_join_228
      · --218 not
        have t39 : y34.toInt < 0 := ti_nle c35
        have i40 : -2147483648 ≤ y34.toInt ∧ y34.toInt ≤ -1 := iv_lt_l t39 (iv_all _) (il_ 0) (by decide)
        refine lv_ldc hx hb hown (hts _ (vA_in _ _ (in_7 _ (zs16 (zs4 (zs1 (zs0))))))) dX7_join_221 ?_
        refine lv_goto (tgt := 228) hx hb dX7_join_223 (by decide) ?_
        rw [hQ]
        exact W.iret (v := (-10000000)) hx hb hr (fun t ht hW => ⟨⟨(-10000000), (), rfl, trivial, trivial⟩, hS.F ht⟩) hS.2.2 dX7_join_228
    · --205 not
      have t41 : (0 : Int) < y29.toInt := ti_nle c30
      have i42 : 1 ≤ y29.toInt ∧ y29.toInt ≤ 2147483647 := iv_lt_r t41 (il_ 0) (iv_all _) (by decide)
      refine lv_ldc hx hb hown (hts _ (vA_in _ _ (in_7 _ (zs16 (zs1 (zs1 (zs1 (zs0)))))))) dX7_join_208 ?_
      refine lv_goto (tgt := 228) hx hb dX7_join_210 (by decide) ?_
      rw [hQ]
      exact W.iret (v := 10000000) hx hb hr (fun t ht hW => ⟨⟨10000000, (), rfl, trivial, trivial⟩, hS.F ht⟩) hS.2.2 dX7_join_228
  · --44
    refine lv_tableIn (off := 195) (tgt := 196) hx hb dX7_join_1 (by omega) (by omega) (by rw [c1]; rfl) (by decide) ?_
    refine lv_iload_n hx hb dX7_join_196 rfl (lv_at hl 1 rfl) ?_
    refine lv_iload_n hx hb dX7_join_197 rfl (lv_at hl 2 rfl) ?_
    refine lv_ior hx hb dX7_join_198 ?_
    refine lv_topi (fun y43 ey43 => ?_)
    rw [hQ]
    exact W.iret (v := y43) hx hb hr (fun t ht hW => ⟨⟨y43, (), rfl, trivial, trivial⟩, hS.F ht⟩) hS.2.2 dX7_join_199
  · --45
    refine lv_tableIn (off := 124) (tgt := 125) hx hb dX7_join_1 (by omega) (by omega) (by rw [c1]; rfl) (by decide) ?_
    refine lv_iload_n hx hb dX7_join_125 rfl (lv_at hl 1 rfl) ?_
    refine lv_i2l hx hb dX7_join_126 rfl ?_
    refine lv_topl (fun y44 ey44 => ?_)
    refine lv_iload_n hx hb dX7_join_127 rfl (lv_at hl 2 rfl) ?_
    refine lv_i2l hx hb dX7_join_128 rfl ?_
    refine lv_topl (fun y45 ey45 => ?_)
    refine lv_lsub hx hb dX7_join_129 ?_
    refine lv_topl (fun y46 ey46 => ?_)
    refine lv_lstore_n (lv' := [(3, .long y46), (0, .int a0), (1, .int a1), (2, .int a2)]) hx hb dX7_join_130 rfl hl (by decide) rfl (fun ls hl => ?_)
    refine lv_goto (tgt := 200) hx hb dX7_join_131 (by decide) ?_
    refine lv_lload_n hx hb dX7_join_200 rfl (lv_at hl 0 rfl) ?_
    refine lv_ldc2 hx hb hown (hts _ (vA_in _ _ (in_7 _ (zs16 (zs1 (zs1 (zs0))))))) dX7_join_201 ?_
    refine lv_topl (fun y47 ey47 => ?_)
    refine W.lcmp hx hb dX7_join_204 ?_
    refine lv_topi (fun y48 ey48 => ?_)
    refine lv_if_le (tgt := 213) hx hb dX7_join_205 (by decide) (fun c49 => ?_) (fun c49 => ?_)
    · --205 taken
      have t50 : y48.toInt ≤ 0 := ti_le c49
      have i51 : -2147483648 ≤ y48.toInt ∧ y48.toInt ≤ 0 := iv_le_l t50 (iv_all _) (il_ 0) (by decide)
      refine lv_lload_n hx hb dX7_join_213 rfl (lv_at hl 0 rfl) ?_
      refine lv_ldc2 hx hb hown (hts _ (vA_in _ _ (in_7 _ (zs16 (zs4 (zs0)))))) dX7_join_214 ?_
      refine lv_topl (fun y52 ey52 => ?_)
      refine W.lcmp hx hb dX7_join_217 ?_
      refine lv_topi (fun y53 ey53 => ?_)
      refine lv_if_ge (tgt := 226) hx hb dX7_join_218 (by decide) (fun c54 => ?_) (fun c54 => ?_)
      · --218 taken
        have t55 : (0 : Int) ≤ y53.toInt := ti_le c54
        have i56 : 0 ≤ y53.toInt ∧ y53.toInt ≤ 2147483647 := iv_le_r t55 (il_ 0) (iv_all _) (by decide)
        refine lv_lload_n hx hb dX7_join_226 rfl (lv_at hl 0 rfl) ?_
        refine lv_l2i hx hb dX7_join_227 rfl ?_
        refine lv_topi (fun y57 ey57 => ?_)
        rw [hQ]
        exact W.iret (v := y57) hx hb hr (fun t ht hW => ⟨⟨y57, (), rfl, trivial, trivial⟩, hS.F ht⟩) hS.2.2 dX7_join_228
      · --218 not
        have t58 : y53.toInt < 0 := ti_nle c54
        have i59 : -2147483648 ≤ y53.toInt ∧ y53.toInt ≤ -1 := iv_lt_l t58 (iv_all _) (il_ 0) (by decide)
        refine lv_ldc hx hb hown (hts _ (vA_in _ _ (in_7 _ (zs16 (zs4 (zs1 (zs0))))))) dX7_join_221 ?_
        refine lv_goto (tgt := 228) hx hb dX7_join_223 (by decide) ?_
        rw [hQ]
        exact W.iret (v := (-10000000)) hx hb hr (fun t ht hW => ⟨⟨(-10000000), (), rfl, trivial, trivial⟩, hS.F ht⟩) hS.2.2 dX7_join_228
    · --205 not
      have t60 : (0 : Int) < y48.toInt := ti_nle c49
      have i61 : 1 ≤ y48.toInt ∧ y48.toInt ≤ 2147483647 := iv_lt_r t60 (il_ 0) (iv_all _) (by decide)
      refine lv_ldc hx hb hown (hts _ (vA_in _ _ (in_7 _ (zs16 (zs1 (zs1 (zs1 (zs0)))))))) dX7_join_208 ?_
      refine lv_goto (tgt := 228) hx hb dX7_join_210 (by decide) ?_
      rw [hQ]
      exact W.iret (v := 10000000) hx hb hr (fun t ht hW => ⟨⟨10000000, (), rfl, trivial, trivial⟩, hS.F ht⟩) hS.2.2 dX7_join_228
  · --46
    refine lv_tableIn (off := 195) (tgt := 196) hx hb dX7_join_1 (by omega) (by omega) (by rw [c1]; rfl) (by decide) ?_
    refine lv_iload_n hx hb dX7_join_196 rfl (lv_at hl 1 rfl) ?_
    refine lv_iload_n hx hb dX7_join_197 rfl (lv_at hl 2 rfl) ?_
    refine lv_ior hx hb dX7_join_198 ?_
    refine lv_topi (fun y62 ey62 => ?_)
    rw [hQ]
    exact W.iret (v := y62) hx hb hr (fun t ht hW => ⟨⟨y62, (), rfl, trivial, trivial⟩, hS.F ht⟩) hS.2.2 dX7_join_199
  · --47
    refine lv_tableIn (off := 142) (tgt := 143) hx hb dX7_join_1 (by omega) (by omega) (by rw [c1]; rfl) (by decide) ?_
    refine lv_iload_n hx hb dX7_join_143 rfl (lv_at hl 2 rfl) ?_
    have hJ155 : ∀ (s155_0 : Int64) (H : Heap) (locs : List Loc) (ls : Array Slot), va_S (fun _ : Nat => False) s.heap H locs → lv_has ls 5 [(0, .int a0), (1, .int a1), (2, .int a2)] → W p l e (headSpec v_cjoin rm_cjoin).room s m args below meth c H locs 0 0 Q (F0 m 155 ls [.long s155_0]) := by
      intro s155_0 H locs ls hS hl
      refine lv_lstore_n (lv' := [(3, .long s155_0), (0, .int a0), (1, .int a1), (2, .int a2)]) hx hb dX7_join_155 rfl hl (by decide) rfl (fun ls hl => ?_)
      refine lv_goto (tgt := 200) hx hb dX7_join_156 (by decide) ?_
      refine lv_lload_n hx hb dX7_join_200 rfl (lv_at hl 0 rfl) ?_
      refine lv_ldc2 hx hb hown (hts _ (vA_in _ _ (in_7 _ (zs16 (zs1 (zs1 (zs0))))))) dX7_join_201 ?_
      refine lv_topl (fun y63 ey63 => ?_)
      refine W.lcmp hx hb dX7_join_204 ?_
      refine lv_topi (fun y64 ey64 => ?_)
      refine lv_if_le (tgt := 213) hx hb dX7_join_205 (by decide) (fun c65 => ?_) (fun c65 => ?_)
      · --205 taken
        have t66 : y64.toInt ≤ 0 := ti_le c65
        have i67 : -2147483648 ≤ y64.toInt ∧ y64.toInt ≤ 0 := iv_le_l t66 (iv_all _) (il_ 0) (by decide)
        refine lv_lload_n hx hb dX7_join_213 rfl (lv_at hl 0 rfl) ?_
        refine lv_ldc2 hx hb hown (hts _ (vA_in _ _ (in_7 _ (zs16 (zs4 (zs0)))))) dX7_join_214 ?_
        refine lv_topl (fun y68 ey68 => ?_)
        refine W.lcmp hx hb dX7_join_217 ?_
        refine lv_topi (fun y69 ey69 => ?_)
        refine lv_if_ge (tgt := 226) hx hb dX7_join_218 (by decide) (fun c70 => ?_) (fun c70 => ?_)
        · --218 taken
          have t71 : (0 : Int) ≤ y69.toInt := ti_le c70
          have i72 : 0 ≤ y69.toInt ∧ y69.toInt ≤ 2147483647 := iv_le_r t71 (il_ 0) (iv_all _) (by decide)
          refine lv_lload_n hx hb dX7_join_226 rfl (lv_at hl 0 rfl) ?_
          refine lv_l2i hx hb dX7_join_227 rfl ?_
          refine lv_topi (fun y73 ey73 => ?_)
          rw [hQ]
          exact W.iret (v := y73) hx hb hr (fun t ht hW => ⟨⟨y73, (), rfl, trivial, trivial⟩, hS.F ht⟩) hS.2.2 dX7_join_228
        · --218 not
          have t74 : y69.toInt < 0 := ti_nle c70
          have i75 : -2147483648 ≤ y69.toInt ∧ y69.toInt ≤ -1 := iv_lt_l t74 (iv_all _) (il_ 0) (by decide)
          refine lv_ldc hx hb hown (hts _ (vA_in _ _ (in_7 _ (zs16 (zs4 (zs1 (zs0))))))) dX7_join_221 ?_
          refine lv_goto (tgt := 228) hx hb dX7_join_223 (by decide) ?_
          rw [hQ]
          exact W.iret (v := (-10000000)) hx hb hr (fun t ht hW => ⟨⟨(-10000000), (), rfl, trivial, trivial⟩, hS.F ht⟩) hS.2.2 dX7_join_228
      · --205 not
        have t76 : (0 : Int) < y64.toInt := ti_nle c65
        have i77 : 1 ≤ y64.toInt ∧ y64.toInt ≤ 2147483647 := iv_lt_r t76 (il_ 0) (iv_all _) (by decide)
        refine lv_ldc hx hb hown (hts _ (vA_in _ _ (in_7 _ (zs16 (zs1 (zs1 (zs1 (zs0)))))))) dX7_join_208 ?_
        refine lv_goto (tgt := 228) hx hb dX7_join_210 (by decide) ?_
        rw [hQ]
        exact W.iret (v := 10000000) hx hb hr (fun t ht hW => ⟨⟨10000000, (), rfl, trivial, trivial⟩, hS.F ht⟩) hS.2.2 dX7_join_228
    refine lv_if_ne (tgt := 151) hx hb dX7_join_144 (by decide) (fun c78 => ?_) (fun c78 => ?_)
    · --144 taken
      have t79 : ¬ a2.toInt = 0 := ti_ne c78
      refine lv_iload_n hx hb dX7_join_151 rfl (lv_at hl 1 rfl) ?_
      refine lv_iload_n hx hb dX7_join_152 rfl (lv_at hl 2 rfl) ?_
      refine lv_idiv hx hb dX7_join_153 (fun h9 => t79 (by rw [h9]; rfl)) ?_
      refine lv_topi (fun y80 ey80 => ?_)
      refine lv_i2l hx hb dX7_join_154 rfl ?_
      refine lv_topl (fun y81 ey81 => ?_)
      exact hJ155 y81 _ _ _ hS (lv_sub hl [0, 1, 2] rfl)
    · --144 not
      have t82 : a2.toInt = 0 := ti_eq c78
      have i83 : 0 ≤ a2.toInt ∧ a2.toInt ≤ 0 := iv_eqi t82 (iv_all _) (il_ 0) (by decide)
      refine lv_lconst hx hb dX7_join_147 rfl ?_
      refine lv_topl (fun y84 ey84 => ?_)
      refine lv_goto (tgt := 155) hx hb dX7_join_148 (by decide) ?_
      exact hJ155 y84 _ _ _ hS (lv_sub hl [0, 1, 2] rfl)
  · --48
    refine lv_tableIn (off := 195) (tgt := 196) hx hb dX7_join_1 (by omega) (by omega) (by rw [c1]; rfl) (by decide) ?_
    refine lv_iload_n hx hb dX7_join_196 rfl (lv_at hl 1 rfl) ?_
    refine lv_iload_n hx hb dX7_join_197 rfl (lv_at hl 2 rfl) ?_
    refine lv_ior hx hb dX7_join_198 ?_
    refine lv_topi (fun y85 ey85 => ?_)
    rw [hQ]
    exact W.iret (v := y85) hx hb hr (fun t ht hW => ⟨⟨y85, (), rfl, trivial, trivial⟩, hS.F ht⟩) hS.2.2 dX7_join_199
  · --49
    refine lv_tableIn (off := 195) (tgt := 196) hx hb dX7_join_1 (by omega) (by omega) (by rw [c1]; rfl) (by decide) ?_
    refine lv_iload_n hx hb dX7_join_196 rfl (lv_at hl 1 rfl) ?_
    refine lv_iload_n hx hb dX7_join_197 rfl (lv_at hl 2 rfl) ?_
    refine lv_ior hx hb dX7_join_198 ?_
    refine lv_topi (fun y86 ey86 => ?_)
    rw [hQ]
    exact W.iret (v := y86) hx hb hr (fun t ht hW => ⟨⟨y86, (), rfl, trivial, trivial⟩, hS.F ht⟩) hS.2.2 dX7_join_199
  · --50
    refine lv_tableIn (off := 195) (tgt := 196) hx hb dX7_join_1 (by omega) (by omega) (by rw [c1]; rfl) (by decide) ?_
    refine lv_iload_n hx hb dX7_join_196 rfl (lv_at hl 1 rfl) ?_
    refine lv_iload_n hx hb dX7_join_197 rfl (lv_at hl 2 rfl) ?_
    refine lv_ior hx hb dX7_join_198 ?_
    refine lv_topi (fun y87 ey87 => ?_)
    rw [hQ]
    exact W.iret (v := y87) hx hb hr (fun t ht hW => ⟨⟨y87, (), rfl, trivial, trivial⟩, hS.F ht⟩) hS.2.2 dX7_join_199
  · --51
    refine lv_tableIn (off := 195) (tgt := 196) hx hb dX7_join_1 (by omega) (by omega) (by rw [c1]; rfl) (by decide) ?_
    refine lv_iload_n hx hb dX7_join_196 rfl (lv_at hl 1 rfl) ?_
    refine lv_iload_n hx hb dX7_join_197 rfl (lv_at hl 2 rfl) ?_
    refine lv_ior hx hb dX7_join_198 ?_
    refine lv_topi (fun y88 ey88 => ?_)
    rw [hQ]
    exact W.iret (v := y88) hx hb hr (fun t ht hW => ⟨⟨y88, (), rfl, trivial, trivial⟩, hS.F ht⟩) hS.2.2 dX7_join_199
  · --52
    refine lv_tableIn (off := 195) (tgt := 196) hx hb dX7_join_1 (by omega) (by omega) (by rw [c1]; rfl) (by decide) ?_
    refine lv_iload_n hx hb dX7_join_196 rfl (lv_at hl 1 rfl) ?_
    refine lv_iload_n hx hb dX7_join_197 rfl (lv_at hl 2 rfl) ?_
    refine lv_ior hx hb dX7_join_198 ?_
    refine lv_topi (fun y89 ey89 => ?_)
    rw [hQ]
    exact W.iret (v := y89) hx hb hr (fun t ht hW => ⟨⟨y89, (), rfl, trivial, trivial⟩, hS.F ht⟩) hS.2.2 dX7_join_199
  · --53
    refine lv_tableIn (off := 195) (tgt := 196) hx hb dX7_join_1 (by omega) (by omega) (by rw [c1]; rfl) (by decide) ?_
    refine lv_iload_n hx hb dX7_join_196 rfl (lv_at hl 1 rfl) ?_
    refine lv_iload_n hx hb dX7_join_197 rfl (lv_at hl 2 rfl) ?_
    refine lv_ior hx hb dX7_join_198 ?_
    refine lv_topi (fun y90 ey90 => ?_)
    rw [hQ]
    exact W.iret (v := y90) hx hb hr (fun t ht hW => ⟨⟨y90, (), rfl, trivial, trivial⟩, hS.F ht⟩) hS.2.2 dX7_join_199
  · --54
    refine lv_tableIn (off := 195) (tgt := 196) hx hb dX7_join_1 (by omega) (by omega) (by rw [c1]; rfl) (by decide) ?_
    refine lv_iload_n hx hb dX7_join_196 rfl (lv_at hl 1 rfl) ?_
    refine lv_iload_n hx hb dX7_join_197 rfl (lv_at hl 2 rfl) ?_
    refine lv_ior hx hb dX7_join_198 ?_
    refine lv_topi (fun y91 ey91 => ?_)
    rw [hQ]
    exact W.iret (v := y91) hx hb hr (fun t ht hW => ⟨⟨y91, (), rfl, trivial, trivial⟩, hS.F ht⟩) hS.2.2 dX7_join_199
  · --55
    refine lv_tableIn (off := 195) (tgt := 196) hx hb dX7_join_1 (by omega) (by omega) (by rw [c1]; rfl) (by decide) ?_
    refine lv_iload_n hx hb dX7_join_196 rfl (lv_at hl 1 rfl) ?_
    refine lv_iload_n hx hb dX7_join_197 rfl (lv_at hl 2 rfl) ?_
    refine lv_ior hx hb dX7_join_198 ?_
    refine lv_topi (fun y92 ey92 => ?_)
    rw [hQ]
    exact W.iret (v := y92) hx hb hr (fun t ht hW => ⟨⟨y92, (), rfl, trivial, trivial⟩, hS.F ht⟩) hS.2.2 dX7_join_199
  · --56
    refine lv_tableIn (off := 195) (tgt := 196) hx hb dX7_join_1 (by omega) (by omega) (by rw [c1]; rfl) (by decide) ?_
    refine lv_iload_n hx hb dX7_join_196 rfl (lv_at hl 1 rfl) ?_
    refine lv_iload_n hx hb dX7_join_197 rfl (lv_at hl 2 rfl) ?_
    refine lv_ior hx hb dX7_join_198 ?_
    refine lv_topi (fun y93 ey93 => ?_)
    rw [hQ]
    exact W.iret (v := y93) hx hb hr (fun t ht hW => ⟨⟨y93, (), rfl, trivial, trivial⟩, hS.F ht⟩) hS.2.2 dX7_join_199
  · --57
    refine lv_tableIn (off := 195) (tgt := 196) hx hb dX7_join_1 (by omega) (by omega) (by rw [c1]; rfl) (by decide) ?_
    refine lv_iload_n hx hb dX7_join_196 rfl (lv_at hl 1 rfl) ?_
    refine lv_iload_n hx hb dX7_join_197 rfl (lv_at hl 2 rfl) ?_
    refine lv_ior hx hb dX7_join_198 ?_
    refine lv_topi (fun y94 ey94 => ?_)
    rw [hQ]
    exact W.iret (v := y94) hx hb hr (fun t ht hW => ⟨⟨y94, (), rfl, trivial, trivial⟩, hS.F ht⟩) hS.2.2 dX7_join_199
  · --58
    refine lv_tableIn (off := 195) (tgt := 196) hx hb dX7_join_1 (by omega) (by omega) (by rw [c1]; rfl) (by decide) ?_
    refine lv_iload_n hx hb dX7_join_196 rfl (lv_at hl 1 rfl) ?_
    refine lv_iload_n hx hb dX7_join_197 rfl (lv_at hl 2 rfl) ?_
    refine lv_ior hx hb dX7_join_198 ?_
    refine lv_topi (fun y95 ey95 => ?_)
    rw [hQ]
    exact W.iret (v := y95) hx hb hr (fun t ht hW => ⟨⟨y95, (), rfl, trivial, trivial⟩, hS.F ht⟩) hS.2.2 dX7_join_199
  · --59
    refine lv_tableIn (off := 195) (tgt := 196) hx hb dX7_join_1 (by omega) (by omega) (by rw [c1]; rfl) (by decide) ?_
    refine lv_iload_n hx hb dX7_join_196 rfl (lv_at hl 1 rfl) ?_
    refine lv_iload_n hx hb dX7_join_197 rfl (lv_at hl 2 rfl) ?_
    refine lv_ior hx hb dX7_join_198 ?_
    refine lv_topi (fun y96 ey96 => ?_)
    rw [hQ]
    exact W.iret (v := y96) hx hb hr (fun t ht hW => ⟨⟨y96, (), rfl, trivial, trivial⟩, hS.F ht⟩) hS.2.2 dX7_join_199
  · --60
    refine lv_tableIn (off := 169) (tgt := 170) hx hb dX7_join_1 (by omega) (by omega) (by rw [c1]; rfl) (by decide) ?_
    refine lv_iload_n hx hb dX7_join_170 rfl (lv_at hl 1 rfl) ?_
    refine lv_iload_n hx hb dX7_join_171 rfl (lv_at hl 2 rfl) ?_
    refine lv_icmp_ge (tgt := 179) hx hb dX7_join_172 (by decide) (fun c97 => ?_) (fun c97 => ?_)
    · --172 taken
      have t98 : a2.toInt ≤ a1.toInt := ti_le c97
      refine lv_iconst (v := 0) hx hb dX7_join_179 (by decide) ?_
      rw [hQ]
      exact W.iret (v := 0) hx hb hr (fun t ht hW => ⟨⟨0, (), rfl, trivial, trivial⟩, hS.F ht⟩) hS.2.2 dX7_join_180
    · --172 not
      have t99 : a1.toInt < a2.toInt := ti_nle c97
      have i100 : -2147483648 ≤ a1.toInt ∧ a1.toInt ≤ 2147483646 := iv_lt_l t99 (iv_all _) (iv_all _) (by decide)
      have i101 : -2147483647 ≤ a2.toInt ∧ a2.toInt ≤ 2147483647 := iv_lt_r t99 (iv_all _) (iv_all _) (by decide)
      refine lv_iconst (v := 1) hx hb dX7_join_175 (by decide) ?_
      refine lv_goto (tgt := 180) hx hb dX7_join_176 (by decide) ?_
      rw [hQ]
      exact W.iret (v := 1) hx hb hr (fun t ht hW => ⟨⟨1, (), rfl, trivial, trivial⟩, hS.F ht⟩) hS.2.2 dX7_join_180
  · --61
    refine lv_tableIn (off := 158) (tgt := 159) hx hb dX7_join_1 (by omega) (by omega) (by rw [c1]; rfl) (by decide) ?_
    refine lv_iload_n hx hb dX7_join_159 rfl (lv_at hl 1 rfl) ?_
    refine lv_iload_n hx hb dX7_join_160 rfl (lv_at hl 2 rfl) ?_
    refine lv_icmp_ne (tgt := 168) hx hb dX7_join_161 (by decide) (fun c102 => ?_) (fun c102 => ?_)
    · --161 taken
      have t103 : ¬ a1.toInt = a2.toInt := ti_ne c102
      refine lv_iconst (v := 0) hx hb dX7_join_168 (by decide) ?_
      rw [hQ]
      exact W.iret (v := 0) hx hb hr (fun t ht hW => ⟨⟨0, (), rfl, trivial, trivial⟩, hS.F ht⟩) hS.2.2 dX7_join_169
    · --161 not
      have t104 : a1.toInt = a2.toInt := ti_eq c102
      refine lv_iconst (v := 1) hx hb dX7_join_164 (by decide) ?_
      refine lv_goto (tgt := 169) hx hb dX7_join_165 (by decide) ?_
      rw [hQ]
      exact W.iret (v := 1) hx hb hr (fun t ht hW => ⟨⟨1, (), rfl, trivial, trivial⟩, hS.F ht⟩) hS.2.2 dX7_join_169
  · --62
    refine lv_tableIn (off := 180) (tgt := 181) hx hb dX7_join_1 (by omega) (by omega) (by rw [c1]; rfl) (by decide) ?_
    refine lv_iload_n hx hb dX7_join_181 rfl (lv_at hl 1 rfl) ?_
    refine lv_iload_n hx hb dX7_join_182 rfl (lv_at hl 2 rfl) ?_
    refine lv_icmp_le (tgt := 190) hx hb dX7_join_183 (by decide) (fun c105 => ?_) (fun c105 => ?_)
    · --183 taken
      have t106 : a1.toInt ≤ a2.toInt := ti_le c105
      refine lv_iconst (v := 0) hx hb dX7_join_190 (by decide) ?_
      rw [hQ]
      exact W.iret (v := 0) hx hb hr (fun t ht hW => ⟨⟨0, (), rfl, trivial, trivial⟩, hS.F ht⟩) hS.2.2 dX7_join_191
    · --183 not
      have t107 : a2.toInt < a1.toInt := ti_nle c105
      have i108 : -2147483648 ≤ a2.toInt ∧ a2.toInt ≤ 2147483646 := iv_lt_l t107 (iv_all _) (iv_all _) (by decide)
      have i109 : -2147483647 ≤ a1.toInt ∧ a1.toInt ≤ 2147483647 := iv_lt_r t107 (iv_all _) (iv_all _) (by decide)
      refine lv_iconst (v := 1) hx hb dX7_join_186 (by decide) ?_
      refine lv_goto (tgt := 191) hx hb dX7_join_187 (by decide) ?_
      rw [hQ]
      exact W.iret (v := 1) hx hb hr (fun t ht hW => ⟨⟨1, (), rfl, trivial, trivial⟩, hS.F ht⟩) hS.2.2 dX7_join_191
