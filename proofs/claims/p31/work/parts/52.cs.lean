set_option maxRecDepth 100000 in
theorem zh_dL_law_1094_1080 : zc cL_law 1080 [46, 42, 21, 4, 6, 96, 46, 182, 0, 106, 87, 167, 3, 0, 43, 42, 21, 4, 4, 96, 46, 42, 21, 4, 5, 96, 46, 182, 0, 107, 87, 44, 42, 21, 4, 4, 96, 46, 42, 21] = true := by decide +kernel
set_option maxRecDepth 100000 in
theorem zh_dL_law_1119_1120 : zc cL_law 1120 [4, 5, 96, 46, 182, 0, 110, 87, 167, 2, 219, 43, 42, 21, 4, 4, 96, 46, 42, 21, 4, 5, 96, 46, 182, 0, 111, 87, 44, 42, 21, 4, 4, 96, 46, 42, 21, 4, 5, 96] = true := by decide +kernel
set_option maxRecDepth 100000 in
theorem zh_dL_law_1160_1160 : zc cL_law 1160 [46, 182, 0, 114, 87, 167, 2, 182, 43, 42, 21, 4, 4, 96, 46, 42, 21, 4, 5, 96, 46, 42, 21, 4, 6, 96, 46, 42, 21, 4, 7, 96, 46, 42, 21, 4, 8, 96, 46, 42] = true := by decide +kernel
set_option maxRecDepth 100000 in
theorem zh_dL_law_1200_1200 : zc cL_law 1200 [21, 4, 16, 6, 96, 46, 42, 21, 4, 16, 7, 96, 46, 182, 0, 115, 87, 44, 42, 21, 4, 4, 96, 46, 42, 21, 4, 5, 96, 46, 42, 21, 4, 6, 96, 46, 42, 21, 4, 7] = true := by decide +kernel
set_option maxRecDepth 100000 in
theorem zh_dL_law_1240_1240 : zc cL_law 1240 [96, 46, 42, 21, 4, 8, 96, 46, 42, 21, 4, 16, 6, 96, 46, 42, 21, 4, 16, 7, 96, 46, 182, 0, 119, 87, 167, 2, 81, 43, 42, 21, 4, 4, 96, 46, 42, 21, 4, 5] = true := by decide +kernel
set_option maxRecDepth 100000 in
theorem zh_dL_law_1280_1280 : zc cL_law 1280 [96, 46, 42, 21, 4, 6, 96, 46, 42, 21, 4, 7, 96, 46, 182, 0, 120, 87, 44, 42, 21, 4, 4, 96, 46, 42, 21, 4, 5, 96, 46, 42, 21, 4, 6, 96, 46, 42, 21, 4] = true := by decide +kernel
set_option maxRecDepth 100000 in
theorem zh_dL_law_1320_1320 : zc cL_law 1320 [7, 96, 46, 182, 0, 124, 87, 167, 2, 20, 43, 42, 21, 4, 4, 96, 46, 42, 21, 4, 5, 96, 46, 42, 21, 4, 6, 96, 46, 182, 0, 125, 87, 44, 42, 21, 4, 4, 96, 46] = true := by decide +kernel
set_option maxRecDepth 100000 in
theorem zh_dL_law_1360_1360 : zc cL_law 1360 [42, 21, 4, 5, 96, 46, 42, 21, 4, 6, 96, 46, 182, 0, 128, 87, 167, 1, 227, 43, 42, 21, 4, 4, 96, 46, 42, 21, 4, 5, 96, 46, 42, 21, 4, 6, 96, 46, 182, 0] = true := by decide +kernel
set_option maxRecDepth 100000 in
theorem zh_dL_law_1398_1400 : zc cL_law 1400 [129, 87, 44, 42, 21, 4, 4, 96, 46, 42, 21, 4, 5, 96, 46, 42, 21, 4, 6, 96, 46, 182, 0, 132, 87, 167, 1, 178, 43, 42, 21, 4, 4, 96, 46, 182, 0, 133, 87, 44] = true := by decide +kernel
set_option maxRecDepth 100000 in
theorem zh_dL_law_1440_1440 : zc cL_law 1440 [42, 21, 4, 4, 96, 46, 182, 0, 136, 87, 167, 1, 153, 43, 42, 21, 4, 4, 96, 46, 182, 0, 137, 87, 44, 42, 21, 4, 4, 96, 46, 182, 0, 140, 87, 167, 1, 128, 43, 42] = true := by decide +kernel
set_option maxRecDepth 100000 in
theorem zh_dL_law_1480_1480 : zc cL_law 1480 [21, 4, 4, 96, 46, 182, 0, 141, 87, 44, 42, 21, 4, 4, 96, 46, 182, 0, 144, 87, 167, 1, 103, 43, 42, 21, 4, 4, 96, 46, 42, 21, 4, 5, 96, 46, 182, 0, 145, 44] = true := by decide +kernel
set_option maxRecDepth 100000 in
theorem zh_dL_law_1520_1520 : zc cL_law 1520 [42, 21, 4, 4, 96, 46, 42, 21, 4, 5, 96, 46, 182, 0, 148, 159, 1, 68, 3, 172, 43, 42, 21, 4, 4, 96, 46, 42, 21, 4, 5, 96, 46, 182, 0, 149, 87, 44, 42, 21] = true := by decide +kernel
theorem dL_law_1094 : decode cL_law 1094 = .ok (.aload_n 1, 1) := zo_43 (zi_at zh_dL_law_1094_1080 14 rfl)
theorem dL_law_1095 : decode cL_law 1095 = .ok (.aload_n 0, 1) := zo_42 (zi_at zh_dL_law_1094_1080 15 rfl)
theorem dL_law_1096 : decode cL_law 1096 = .ok (.iload 4, 2) := zo_21 (zi_at zh_dL_law_1094_1080 16 rfl) (zi_at zh_dL_law_1094_1080 17 rfl)
theorem dL_law_1098 : decode cL_law 1098 = .ok (.iconst 1, 1) := zo_4 (zi_at zh_dL_law_1094_1080 18 rfl)
theorem dL_law_1099 : decode cL_law 1099 = .ok (.iadd, 1) := zo_96 (zi_at zh_dL_law_1094_1080 19 rfl)
theorem dL_law_1100 : decode cL_law 1100 = .ok (.iaload, 1) := zo_46 (zi_at zh_dL_law_1094_1080 20 rfl)
theorem dL_law_1101 : decode cL_law 1101 = .ok (.aload_n 0, 1) := zo_42 (zi_at zh_dL_law_1094_1080 21 rfl)
theorem dL_law_1102 : decode cL_law 1102 = .ok (.iload 4, 2) := zo_21 (zi_at zh_dL_law_1094_1080 22 rfl) (zi_at zh_dL_law_1094_1080 23 rfl)
theorem dL_law_1104 : decode cL_law 1104 = .ok (.iconst 2, 1) := zo_5 (zi_at zh_dL_law_1094_1080 24 rfl)
theorem dL_law_1105 : decode cL_law 1105 = .ok (.iadd, 1) := zo_96 (zi_at zh_dL_law_1094_1080 25 rfl)
theorem dL_law_1106 : decode cL_law 1106 = .ok (.iaload, 1) := zo_46 (zi_at zh_dL_law_1094_1080 26 rfl)
theorem dL_law_1107 : decode cL_law 1107 = .ok (.invokevirtual 107, 3) := zo_182 (zi_at zh_dL_law_1094_1080 27 rfl) (zi_at zh_dL_law_1094_1080 28 rfl) (zi_at zh_dL_law_1094_1080 29 rfl) rfl
theorem dL_law_1110 : decode cL_law 1110 = .ok (.pop, 1) := zo_87 (zi_at zh_dL_law_1094_1080 30 rfl)
theorem dL_law_1111 : decode cL_law 1111 = .ok (.aload_n 2, 1) := zo_44 (zi_at zh_dL_law_1094_1080 31 rfl)
theorem dL_law_1112 : decode cL_law 1112 = .ok (.aload_n 0, 1) := zo_42 (zi_at zh_dL_law_1094_1080 32 rfl)
theorem dL_law_1113 : decode cL_law 1113 = .ok (.iload 4, 2) := zo_21 (zi_at zh_dL_law_1094_1080 33 rfl) (zi_at zh_dL_law_1094_1080 34 rfl)
theorem dL_law_1115 : decode cL_law 1115 = .ok (.iconst 1, 1) := zo_4 (zi_at zh_dL_law_1094_1080 35 rfl)
theorem dL_law_1116 : decode cL_law 1116 = .ok (.iadd, 1) := zo_96 (zi_at zh_dL_law_1094_1080 36 rfl)
theorem dL_law_1117 : decode cL_law 1117 = .ok (.iaload, 1) := zo_46 (zi_at zh_dL_law_1094_1080 37 rfl)
theorem dL_law_1118 : decode cL_law 1118 = .ok (.aload_n 0, 1) := zo_42 (zi_at zh_dL_law_1094_1080 38 rfl)
theorem dL_law_1119 : decode cL_law 1119 = .ok (.iload 4, 2) := zo_21 (zi_at zh_dL_law_1094_1080 39 rfl) (zi_at zh_dL_law_1119_1120 0 rfl)
theorem dL_law_1121 : decode cL_law 1121 = .ok (.iconst 2, 1) := zo_5 (zi_at zh_dL_law_1119_1120 1 rfl)
theorem dL_law_1122 : decode cL_law 1122 = .ok (.iadd, 1) := zo_96 (zi_at zh_dL_law_1119_1120 2 rfl)
theorem dL_law_1123 : decode cL_law 1123 = .ok (.iaload, 1) := zo_46 (zi_at zh_dL_law_1119_1120 3 rfl)
theorem dL_law_1124 : decode cL_law 1124 = .ok (.invokevirtual 110, 3) := zo_182 (zi_at zh_dL_law_1119_1120 4 rfl) (zi_at zh_dL_law_1119_1120 5 rfl) (zi_at zh_dL_law_1119_1120 6 rfl) rfl
theorem dL_law_1127 : decode cL_law 1127 = .ok (.pop, 1) := zo_87 (zi_at zh_dL_law_1119_1120 7 rfl)
theorem dL_law_1128 : decode cL_law 1128 = .ok (.goto 731, 3) := zo_167 (zi_at zh_dL_law_1119_1120 8 rfl) (zi_at zh_dL_law_1119_1120 9 rfl) (zi_at zh_dL_law_1119_1120 10 rfl) rfl
theorem dL_law_1131 : decode cL_law 1131 = .ok (.aload_n 1, 1) := zo_43 (zi_at zh_dL_law_1119_1120 11 rfl)
theorem dL_law_1132 : decode cL_law 1132 = .ok (.aload_n 0, 1) := zo_42 (zi_at zh_dL_law_1119_1120 12 rfl)
theorem dL_law_1133 : decode cL_law 1133 = .ok (.iload 4, 2) := zo_21 (zi_at zh_dL_law_1119_1120 13 rfl) (zi_at zh_dL_law_1119_1120 14 rfl)
theorem dL_law_1135 : decode cL_law 1135 = .ok (.iconst 1, 1) := zo_4 (zi_at zh_dL_law_1119_1120 15 rfl)
theorem dL_law_1136 : decode cL_law 1136 = .ok (.iadd, 1) := zo_96 (zi_at zh_dL_law_1119_1120 16 rfl)
theorem dL_law_1137 : decode cL_law 1137 = .ok (.iaload, 1) := zo_46 (zi_at zh_dL_law_1119_1120 17 rfl)
theorem dL_law_1138 : decode cL_law 1138 = .ok (.aload_n 0, 1) := zo_42 (zi_at zh_dL_law_1119_1120 18 rfl)
theorem dL_law_1139 : decode cL_law 1139 = .ok (.iload 4, 2) := zo_21 (zi_at zh_dL_law_1119_1120 19 rfl) (zi_at zh_dL_law_1119_1120 20 rfl)
theorem dL_law_1141 : decode cL_law 1141 = .ok (.iconst 2, 1) := zo_5 (zi_at zh_dL_law_1119_1120 21 rfl)
theorem dL_law_1142 : decode cL_law 1142 = .ok (.iadd, 1) := zo_96 (zi_at zh_dL_law_1119_1120 22 rfl)
theorem dL_law_1143 : decode cL_law 1143 = .ok (.iaload, 1) := zo_46 (zi_at zh_dL_law_1119_1120 23 rfl)
theorem dL_law_1144 : decode cL_law 1144 = .ok (.invokevirtual 111, 3) := zo_182 (zi_at zh_dL_law_1119_1120 24 rfl) (zi_at zh_dL_law_1119_1120 25 rfl) (zi_at zh_dL_law_1119_1120 26 rfl) rfl
theorem dL_law_1147 : decode cL_law 1147 = .ok (.pop, 1) := zo_87 (zi_at zh_dL_law_1119_1120 27 rfl)
theorem dL_law_1148 : decode cL_law 1148 = .ok (.aload_n 2, 1) := zo_44 (zi_at zh_dL_law_1119_1120 28 rfl)
theorem dL_law_1149 : decode cL_law 1149 = .ok (.aload_n 0, 1) := zo_42 (zi_at zh_dL_law_1119_1120 29 rfl)
theorem dL_law_1150 : decode cL_law 1150 = .ok (.iload 4, 2) := zo_21 (zi_at zh_dL_law_1119_1120 30 rfl) (zi_at zh_dL_law_1119_1120 31 rfl)
theorem dL_law_1152 : decode cL_law 1152 = .ok (.iconst 1, 1) := zo_4 (zi_at zh_dL_law_1119_1120 32 rfl)
theorem dL_law_1153 : decode cL_law 1153 = .ok (.iadd, 1) := zo_96 (zi_at zh_dL_law_1119_1120 33 rfl)
theorem dL_law_1154 : decode cL_law 1154 = .ok (.iaload, 1) := zo_46 (zi_at zh_dL_law_1119_1120 34 rfl)
theorem dL_law_1155 : decode cL_law 1155 = .ok (.aload_n 0, 1) := zo_42 (zi_at zh_dL_law_1119_1120 35 rfl)
theorem dL_law_1156 : decode cL_law 1156 = .ok (.iload 4, 2) := zo_21 (zi_at zh_dL_law_1119_1120 36 rfl) (zi_at zh_dL_law_1119_1120 37 rfl)
theorem dL_law_1158 : decode cL_law 1158 = .ok (.iconst 2, 1) := zo_5 (zi_at zh_dL_law_1119_1120 38 rfl)
theorem dL_law_1159 : decode cL_law 1159 = .ok (.iadd, 1) := zo_96 (zi_at zh_dL_law_1119_1120 39 rfl)
theorem dL_law_1160 : decode cL_law 1160 = .ok (.iaload, 1) := zo_46 (zi_at zh_dL_law_1160_1160 0 rfl)
theorem dL_law_1161 : decode cL_law 1161 = .ok (.invokevirtual 114, 3) := zo_182 (zi_at zh_dL_law_1160_1160 1 rfl) (zi_at zh_dL_law_1160_1160 2 rfl) (zi_at zh_dL_law_1160_1160 3 rfl) rfl
theorem dL_law_1164 : decode cL_law 1164 = .ok (.pop, 1) := zo_87 (zi_at zh_dL_law_1160_1160 4 rfl)
theorem dL_law_1165 : decode cL_law 1165 = .ok (.goto 694, 3) := zo_167 (zi_at zh_dL_law_1160_1160 5 rfl) (zi_at zh_dL_law_1160_1160 6 rfl) (zi_at zh_dL_law_1160_1160 7 rfl) rfl
theorem dL_law_1168 : decode cL_law 1168 = .ok (.aload_n 1, 1) := zo_43 (zi_at zh_dL_law_1160_1160 8 rfl)
theorem dL_law_1169 : decode cL_law 1169 = .ok (.aload_n 0, 1) := zo_42 (zi_at zh_dL_law_1160_1160 9 rfl)
theorem dL_law_1170 : decode cL_law 1170 = .ok (.iload 4, 2) := zo_21 (zi_at zh_dL_law_1160_1160 10 rfl) (zi_at zh_dL_law_1160_1160 11 rfl)
theorem dL_law_1172 : decode cL_law 1172 = .ok (.iconst 1, 1) := zo_4 (zi_at zh_dL_law_1160_1160 12 rfl)
theorem dL_law_1173 : decode cL_law 1173 = .ok (.iadd, 1) := zo_96 (zi_at zh_dL_law_1160_1160 13 rfl)
theorem dL_law_1174 : decode cL_law 1174 = .ok (.iaload, 1) := zo_46 (zi_at zh_dL_law_1160_1160 14 rfl)
theorem dL_law_1175 : decode cL_law 1175 = .ok (.aload_n 0, 1) := zo_42 (zi_at zh_dL_law_1160_1160 15 rfl)
theorem dL_law_1176 : decode cL_law 1176 = .ok (.iload 4, 2) := zo_21 (zi_at zh_dL_law_1160_1160 16 rfl) (zi_at zh_dL_law_1160_1160 17 rfl)
theorem dL_law_1178 : decode cL_law 1178 = .ok (.iconst 2, 1) := zo_5 (zi_at zh_dL_law_1160_1160 18 rfl)
theorem dL_law_1179 : decode cL_law 1179 = .ok (.iadd, 1) := zo_96 (zi_at zh_dL_law_1160_1160 19 rfl)
theorem dL_law_1180 : decode cL_law 1180 = .ok (.iaload, 1) := zo_46 (zi_at zh_dL_law_1160_1160 20 rfl)
theorem dL_law_1181 : decode cL_law 1181 = .ok (.aload_n 0, 1) := zo_42 (zi_at zh_dL_law_1160_1160 21 rfl)
theorem dL_law_1182 : decode cL_law 1182 = .ok (.iload 4, 2) := zo_21 (zi_at zh_dL_law_1160_1160 22 rfl) (zi_at zh_dL_law_1160_1160 23 rfl)
theorem dL_law_1184 : decode cL_law 1184 = .ok (.iconst 3, 1) := zo_6 (zi_at zh_dL_law_1160_1160 24 rfl)
theorem dL_law_1185 : decode cL_law 1185 = .ok (.iadd, 1) := zo_96 (zi_at zh_dL_law_1160_1160 25 rfl)
theorem dL_law_1186 : decode cL_law 1186 = .ok (.iaload, 1) := zo_46 (zi_at zh_dL_law_1160_1160 26 rfl)
theorem dL_law_1187 : decode cL_law 1187 = .ok (.aload_n 0, 1) := zo_42 (zi_at zh_dL_law_1160_1160 27 rfl)
theorem dL_law_1188 : decode cL_law 1188 = .ok (.iload 4, 2) := zo_21 (zi_at zh_dL_law_1160_1160 28 rfl) (zi_at zh_dL_law_1160_1160 29 rfl)
theorem dL_law_1190 : decode cL_law 1190 = .ok (.iconst 4, 1) := zo_7 (zi_at zh_dL_law_1160_1160 30 rfl)
theorem dL_law_1191 : decode cL_law 1191 = .ok (.iadd, 1) := zo_96 (zi_at zh_dL_law_1160_1160 31 rfl)
theorem dL_law_1192 : decode cL_law 1192 = .ok (.iaload, 1) := zo_46 (zi_at zh_dL_law_1160_1160 32 rfl)
theorem dL_law_1193 : decode cL_law 1193 = .ok (.aload_n 0, 1) := zo_42 (zi_at zh_dL_law_1160_1160 33 rfl)
theorem dL_law_1194 : decode cL_law 1194 = .ok (.iload 4, 2) := zo_21 (zi_at zh_dL_law_1160_1160 34 rfl) (zi_at zh_dL_law_1160_1160 35 rfl)
theorem dL_law_1196 : decode cL_law 1196 = .ok (.iconst 5, 1) := zo_8 (zi_at zh_dL_law_1160_1160 36 rfl)
theorem dL_law_1197 : decode cL_law 1197 = .ok (.iadd, 1) := zo_96 (zi_at zh_dL_law_1160_1160 37 rfl)
theorem dL_law_1198 : decode cL_law 1198 = .ok (.iaload, 1) := zo_46 (zi_at zh_dL_law_1160_1160 38 rfl)
theorem dL_law_1199 : decode cL_law 1199 = .ok (.aload_n 0, 1) := zo_42 (zi_at zh_dL_law_1160_1160 39 rfl)
theorem dL_law_1200 : decode cL_law 1200 = .ok (.iload 4, 2) := zo_21 (zi_at zh_dL_law_1200_1200 0 rfl) (zi_at zh_dL_law_1200_1200 1 rfl)
theorem dL_law_1202 : decode cL_law 1202 = .ok (.bipush 6, 2) := zo_16 (zi_at zh_dL_law_1200_1200 2 rfl) (zi_at zh_dL_law_1200_1200 3 rfl) rfl
theorem dL_law_1204 : decode cL_law 1204 = .ok (.iadd, 1) := zo_96 (zi_at zh_dL_law_1200_1200 4 rfl)
theorem dL_law_1205 : decode cL_law 1205 = .ok (.iaload, 1) := zo_46 (zi_at zh_dL_law_1200_1200 5 rfl)
theorem dL_law_1206 : decode cL_law 1206 = .ok (.aload_n 0, 1) := zo_42 (zi_at zh_dL_law_1200_1200 6 rfl)
theorem dL_law_1207 : decode cL_law 1207 = .ok (.iload 4, 2) := zo_21 (zi_at zh_dL_law_1200_1200 7 rfl) (zi_at zh_dL_law_1200_1200 8 rfl)
theorem dL_law_1209 : decode cL_law 1209 = .ok (.bipush 7, 2) := zo_16 (zi_at zh_dL_law_1200_1200 9 rfl) (zi_at zh_dL_law_1200_1200 10 rfl) rfl
theorem dL_law_1211 : decode cL_law 1211 = .ok (.iadd, 1) := zo_96 (zi_at zh_dL_law_1200_1200 11 rfl)
theorem dL_law_1212 : decode cL_law 1212 = .ok (.iaload, 1) := zo_46 (zi_at zh_dL_law_1200_1200 12 rfl)
theorem dL_law_1213 : decode cL_law 1213 = .ok (.invokevirtual 115, 3) := zo_182 (zi_at zh_dL_law_1200_1200 13 rfl) (zi_at zh_dL_law_1200_1200 14 rfl) (zi_at zh_dL_law_1200_1200 15 rfl) rfl
theorem dL_law_1216 : decode cL_law 1216 = .ok (.pop, 1) := zo_87 (zi_at zh_dL_law_1200_1200 16 rfl)
theorem dL_law_1217 : decode cL_law 1217 = .ok (.aload_n 2, 1) := zo_44 (zi_at zh_dL_law_1200_1200 17 rfl)
theorem dL_law_1218 : decode cL_law 1218 = .ok (.aload_n 0, 1) := zo_42 (zi_at zh_dL_law_1200_1200 18 rfl)
theorem dL_law_1219 : decode cL_law 1219 = .ok (.iload 4, 2) := zo_21 (zi_at zh_dL_law_1200_1200 19 rfl) (zi_at zh_dL_law_1200_1200 20 rfl)
theorem dL_law_1221 : decode cL_law 1221 = .ok (.iconst 1, 1) := zo_4 (zi_at zh_dL_law_1200_1200 21 rfl)
theorem dL_law_1222 : decode cL_law 1222 = .ok (.iadd, 1) := zo_96 (zi_at zh_dL_law_1200_1200 22 rfl)
theorem dL_law_1223 : decode cL_law 1223 = .ok (.iaload, 1) := zo_46 (zi_at zh_dL_law_1200_1200 23 rfl)
theorem dL_law_1224 : decode cL_law 1224 = .ok (.aload_n 0, 1) := zo_42 (zi_at zh_dL_law_1200_1200 24 rfl)
theorem dL_law_1225 : decode cL_law 1225 = .ok (.iload 4, 2) := zo_21 (zi_at zh_dL_law_1200_1200 25 rfl) (zi_at zh_dL_law_1200_1200 26 rfl)
theorem dL_law_1227 : decode cL_law 1227 = .ok (.iconst 2, 1) := zo_5 (zi_at zh_dL_law_1200_1200 27 rfl)
theorem dL_law_1228 : decode cL_law 1228 = .ok (.iadd, 1) := zo_96 (zi_at zh_dL_law_1200_1200 28 rfl)
theorem dL_law_1229 : decode cL_law 1229 = .ok (.iaload, 1) := zo_46 (zi_at zh_dL_law_1200_1200 29 rfl)
theorem dL_law_1230 : decode cL_law 1230 = .ok (.aload_n 0, 1) := zo_42 (zi_at zh_dL_law_1200_1200 30 rfl)
theorem dL_law_1231 : decode cL_law 1231 = .ok (.iload 4, 2) := zo_21 (zi_at zh_dL_law_1200_1200 31 rfl) (zi_at zh_dL_law_1200_1200 32 rfl)
theorem dL_law_1233 : decode cL_law 1233 = .ok (.iconst 3, 1) := zo_6 (zi_at zh_dL_law_1200_1200 33 rfl)
theorem dL_law_1234 : decode cL_law 1234 = .ok (.iadd, 1) := zo_96 (zi_at zh_dL_law_1200_1200 34 rfl)
theorem dL_law_1235 : decode cL_law 1235 = .ok (.iaload, 1) := zo_46 (zi_at zh_dL_law_1200_1200 35 rfl)
theorem dL_law_1236 : decode cL_law 1236 = .ok (.aload_n 0, 1) := zo_42 (zi_at zh_dL_law_1200_1200 36 rfl)
theorem dL_law_1237 : decode cL_law 1237 = .ok (.iload 4, 2) := zo_21 (zi_at zh_dL_law_1200_1200 37 rfl) (zi_at zh_dL_law_1200_1200 38 rfl)
theorem dL_law_1239 : decode cL_law 1239 = .ok (.iconst 4, 1) := zo_7 (zi_at zh_dL_law_1200_1200 39 rfl)
theorem dL_law_1240 : decode cL_law 1240 = .ok (.iadd, 1) := zo_96 (zi_at zh_dL_law_1240_1240 0 rfl)
theorem dL_law_1241 : decode cL_law 1241 = .ok (.iaload, 1) := zo_46 (zi_at zh_dL_law_1240_1240 1 rfl)
theorem dL_law_1242 : decode cL_law 1242 = .ok (.aload_n 0, 1) := zo_42 (zi_at zh_dL_law_1240_1240 2 rfl)
theorem dL_law_1243 : decode cL_law 1243 = .ok (.iload 4, 2) := zo_21 (zi_at zh_dL_law_1240_1240 3 rfl) (zi_at zh_dL_law_1240_1240 4 rfl)
theorem dL_law_1245 : decode cL_law 1245 = .ok (.iconst 5, 1) := zo_8 (zi_at zh_dL_law_1240_1240 5 rfl)
theorem dL_law_1246 : decode cL_law 1246 = .ok (.iadd, 1) := zo_96 (zi_at zh_dL_law_1240_1240 6 rfl)
theorem dL_law_1247 : decode cL_law 1247 = .ok (.iaload, 1) := zo_46 (zi_at zh_dL_law_1240_1240 7 rfl)
theorem dL_law_1248 : decode cL_law 1248 = .ok (.aload_n 0, 1) := zo_42 (zi_at zh_dL_law_1240_1240 8 rfl)
theorem dL_law_1249 : decode cL_law 1249 = .ok (.iload 4, 2) := zo_21 (zi_at zh_dL_law_1240_1240 9 rfl) (zi_at zh_dL_law_1240_1240 10 rfl)
theorem dL_law_1251 : decode cL_law 1251 = .ok (.bipush 6, 2) := zo_16 (zi_at zh_dL_law_1240_1240 11 rfl) (zi_at zh_dL_law_1240_1240 12 rfl) rfl
theorem dL_law_1253 : decode cL_law 1253 = .ok (.iadd, 1) := zo_96 (zi_at zh_dL_law_1240_1240 13 rfl)
theorem dL_law_1254 : decode cL_law 1254 = .ok (.iaload, 1) := zo_46 (zi_at zh_dL_law_1240_1240 14 rfl)
theorem dL_law_1255 : decode cL_law 1255 = .ok (.aload_n 0, 1) := zo_42 (zi_at zh_dL_law_1240_1240 15 rfl)
theorem dL_law_1256 : decode cL_law 1256 = .ok (.iload 4, 2) := zo_21 (zi_at zh_dL_law_1240_1240 16 rfl) (zi_at zh_dL_law_1240_1240 17 rfl)
theorem dL_law_1258 : decode cL_law 1258 = .ok (.bipush 7, 2) := zo_16 (zi_at zh_dL_law_1240_1240 18 rfl) (zi_at zh_dL_law_1240_1240 19 rfl) rfl
theorem dL_law_1260 : decode cL_law 1260 = .ok (.iadd, 1) := zo_96 (zi_at zh_dL_law_1240_1240 20 rfl)
theorem dL_law_1261 : decode cL_law 1261 = .ok (.iaload, 1) := zo_46 (zi_at zh_dL_law_1240_1240 21 rfl)
theorem dL_law_1262 : decode cL_law 1262 = .ok (.invokevirtual 119, 3) := zo_182 (zi_at zh_dL_law_1240_1240 22 rfl) (zi_at zh_dL_law_1240_1240 23 rfl) (zi_at zh_dL_law_1240_1240 24 rfl) rfl
theorem dL_law_1265 : decode cL_law 1265 = .ok (.pop, 1) := zo_87 (zi_at zh_dL_law_1240_1240 25 rfl)
theorem dL_law_1266 : decode cL_law 1266 = .ok (.goto 593, 3) := zo_167 (zi_at zh_dL_law_1240_1240 26 rfl) (zi_at zh_dL_law_1240_1240 27 rfl) (zi_at zh_dL_law_1240_1240 28 rfl) rfl
theorem dL_law_1269 : decode cL_law 1269 = .ok (.aload_n 1, 1) := zo_43 (zi_at zh_dL_law_1240_1240 29 rfl)
theorem dL_law_1270 : decode cL_law 1270 = .ok (.aload_n 0, 1) := zo_42 (zi_at zh_dL_law_1240_1240 30 rfl)
theorem dL_law_1271 : decode cL_law 1271 = .ok (.iload 4, 2) := zo_21 (zi_at zh_dL_law_1240_1240 31 rfl) (zi_at zh_dL_law_1240_1240 32 rfl)
theorem dL_law_1273 : decode cL_law 1273 = .ok (.iconst 1, 1) := zo_4 (zi_at zh_dL_law_1240_1240 33 rfl)
theorem dL_law_1274 : decode cL_law 1274 = .ok (.iadd, 1) := zo_96 (zi_at zh_dL_law_1240_1240 34 rfl)
theorem dL_law_1275 : decode cL_law 1275 = .ok (.iaload, 1) := zo_46 (zi_at zh_dL_law_1240_1240 35 rfl)
theorem dL_law_1276 : decode cL_law 1276 = .ok (.aload_n 0, 1) := zo_42 (zi_at zh_dL_law_1240_1240 36 rfl)
theorem dL_law_1277 : decode cL_law 1277 = .ok (.iload 4, 2) := zo_21 (zi_at zh_dL_law_1240_1240 37 rfl) (zi_at zh_dL_law_1240_1240 38 rfl)
theorem dL_law_1279 : decode cL_law 1279 = .ok (.iconst 2, 1) := zo_5 (zi_at zh_dL_law_1240_1240 39 rfl)
theorem dL_law_1280 : decode cL_law 1280 = .ok (.iadd, 1) := zo_96 (zi_at zh_dL_law_1280_1280 0 rfl)
theorem dL_law_1281 : decode cL_law 1281 = .ok (.iaload, 1) := zo_46 (zi_at zh_dL_law_1280_1280 1 rfl)
theorem dL_law_1282 : decode cL_law 1282 = .ok (.aload_n 0, 1) := zo_42 (zi_at zh_dL_law_1280_1280 2 rfl)
theorem dL_law_1283 : decode cL_law 1283 = .ok (.iload 4, 2) := zo_21 (zi_at zh_dL_law_1280_1280 3 rfl) (zi_at zh_dL_law_1280_1280 4 rfl)
theorem dL_law_1285 : decode cL_law 1285 = .ok (.iconst 3, 1) := zo_6 (zi_at zh_dL_law_1280_1280 5 rfl)
theorem dL_law_1286 : decode cL_law 1286 = .ok (.iadd, 1) := zo_96 (zi_at zh_dL_law_1280_1280 6 rfl)
theorem dL_law_1287 : decode cL_law 1287 = .ok (.iaload, 1) := zo_46 (zi_at zh_dL_law_1280_1280 7 rfl)
theorem dL_law_1288 : decode cL_law 1288 = .ok (.aload_n 0, 1) := zo_42 (zi_at zh_dL_law_1280_1280 8 rfl)
theorem dL_law_1289 : decode cL_law 1289 = .ok (.iload 4, 2) := zo_21 (zi_at zh_dL_law_1280_1280 9 rfl) (zi_at zh_dL_law_1280_1280 10 rfl)
theorem dL_law_1291 : decode cL_law 1291 = .ok (.iconst 4, 1) := zo_7 (zi_at zh_dL_law_1280_1280 11 rfl)
theorem dL_law_1292 : decode cL_law 1292 = .ok (.iadd, 1) := zo_96 (zi_at zh_dL_law_1280_1280 12 rfl)
theorem dL_law_1293 : decode cL_law 1293 = .ok (.iaload, 1) := zo_46 (zi_at zh_dL_law_1280_1280 13 rfl)
theorem dL_law_1294 : decode cL_law 1294 = .ok (.invokevirtual 120, 3) := zo_182 (zi_at zh_dL_law_1280_1280 14 rfl) (zi_at zh_dL_law_1280_1280 15 rfl) (zi_at zh_dL_law_1280_1280 16 rfl) rfl
theorem dL_law_1297 : decode cL_law 1297 = .ok (.pop, 1) := zo_87 (zi_at zh_dL_law_1280_1280 17 rfl)
theorem dL_law_1298 : decode cL_law 1298 = .ok (.aload_n 2, 1) := zo_44 (zi_at zh_dL_law_1280_1280 18 rfl)
theorem dL_law_1299 : decode cL_law 1299 = .ok (.aload_n 0, 1) := zo_42 (zi_at zh_dL_law_1280_1280 19 rfl)
theorem dL_law_1300 : decode cL_law 1300 = .ok (.iload 4, 2) := zo_21 (zi_at zh_dL_law_1280_1280 20 rfl) (zi_at zh_dL_law_1280_1280 21 rfl)
theorem dL_law_1302 : decode cL_law 1302 = .ok (.iconst 1, 1) := zo_4 (zi_at zh_dL_law_1280_1280 22 rfl)
theorem dL_law_1303 : decode cL_law 1303 = .ok (.iadd, 1) := zo_96 (zi_at zh_dL_law_1280_1280 23 rfl)
theorem dL_law_1304 : decode cL_law 1304 = .ok (.iaload, 1) := zo_46 (zi_at zh_dL_law_1280_1280 24 rfl)
theorem dL_law_1305 : decode cL_law 1305 = .ok (.aload_n 0, 1) := zo_42 (zi_at zh_dL_law_1280_1280 25 rfl)
theorem dL_law_1306 : decode cL_law 1306 = .ok (.iload 4, 2) := zo_21 (zi_at zh_dL_law_1280_1280 26 rfl) (zi_at zh_dL_law_1280_1280 27 rfl)
theorem dL_law_1308 : decode cL_law 1308 = .ok (.iconst 2, 1) := zo_5 (zi_at zh_dL_law_1280_1280 28 rfl)
theorem dL_law_1309 : decode cL_law 1309 = .ok (.iadd, 1) := zo_96 (zi_at zh_dL_law_1280_1280 29 rfl)
theorem dL_law_1310 : decode cL_law 1310 = .ok (.iaload, 1) := zo_46 (zi_at zh_dL_law_1280_1280 30 rfl)
theorem dL_law_1311 : decode cL_law 1311 = .ok (.aload_n 0, 1) := zo_42 (zi_at zh_dL_law_1280_1280 31 rfl)
theorem dL_law_1312 : decode cL_law 1312 = .ok (.iload 4, 2) := zo_21 (zi_at zh_dL_law_1280_1280 32 rfl) (zi_at zh_dL_law_1280_1280 33 rfl)
theorem dL_law_1314 : decode cL_law 1314 = .ok (.iconst 3, 1) := zo_6 (zi_at zh_dL_law_1280_1280 34 rfl)
theorem dL_law_1315 : decode cL_law 1315 = .ok (.iadd, 1) := zo_96 (zi_at zh_dL_law_1280_1280 35 rfl)
theorem dL_law_1316 : decode cL_law 1316 = .ok (.iaload, 1) := zo_46 (zi_at zh_dL_law_1280_1280 36 rfl)
theorem dL_law_1317 : decode cL_law 1317 = .ok (.aload_n 0, 1) := zo_42 (zi_at zh_dL_law_1280_1280 37 rfl)
theorem dL_law_1318 : decode cL_law 1318 = .ok (.iload 4, 2) := zo_21 (zi_at zh_dL_law_1280_1280 38 rfl) (zi_at zh_dL_law_1280_1280 39 rfl)
theorem dL_law_1320 : decode cL_law 1320 = .ok (.iconst 4, 1) := zo_7 (zi_at zh_dL_law_1320_1320 0 rfl)
theorem dL_law_1321 : decode cL_law 1321 = .ok (.iadd, 1) := zo_96 (zi_at zh_dL_law_1320_1320 1 rfl)
theorem dL_law_1322 : decode cL_law 1322 = .ok (.iaload, 1) := zo_46 (zi_at zh_dL_law_1320_1320 2 rfl)
theorem dL_law_1323 : decode cL_law 1323 = .ok (.invokevirtual 124, 3) := zo_182 (zi_at zh_dL_law_1320_1320 3 rfl) (zi_at zh_dL_law_1320_1320 4 rfl) (zi_at zh_dL_law_1320_1320 5 rfl) rfl
theorem dL_law_1326 : decode cL_law 1326 = .ok (.pop, 1) := zo_87 (zi_at zh_dL_law_1320_1320 6 rfl)
theorem dL_law_1327 : decode cL_law 1327 = .ok (.goto 532, 3) := zo_167 (zi_at zh_dL_law_1320_1320 7 rfl) (zi_at zh_dL_law_1320_1320 8 rfl) (zi_at zh_dL_law_1320_1320 9 rfl) rfl
theorem dL_law_1330 : decode cL_law 1330 = .ok (.aload_n 1, 1) := zo_43 (zi_at zh_dL_law_1320_1320 10 rfl)
theorem dL_law_1331 : decode cL_law 1331 = .ok (.aload_n 0, 1) := zo_42 (zi_at zh_dL_law_1320_1320 11 rfl)
theorem dL_law_1332 : decode cL_law 1332 = .ok (.iload 4, 2) := zo_21 (zi_at zh_dL_law_1320_1320 12 rfl) (zi_at zh_dL_law_1320_1320 13 rfl)
theorem dL_law_1334 : decode cL_law 1334 = .ok (.iconst 1, 1) := zo_4 (zi_at zh_dL_law_1320_1320 14 rfl)
theorem dL_law_1335 : decode cL_law 1335 = .ok (.iadd, 1) := zo_96 (zi_at zh_dL_law_1320_1320 15 rfl)
theorem dL_law_1336 : decode cL_law 1336 = .ok (.iaload, 1) := zo_46 (zi_at zh_dL_law_1320_1320 16 rfl)
theorem dL_law_1337 : decode cL_law 1337 = .ok (.aload_n 0, 1) := zo_42 (zi_at zh_dL_law_1320_1320 17 rfl)
theorem dL_law_1338 : decode cL_law 1338 = .ok (.iload 4, 2) := zo_21 (zi_at zh_dL_law_1320_1320 18 rfl) (zi_at zh_dL_law_1320_1320 19 rfl)
theorem dL_law_1340 : decode cL_law 1340 = .ok (.iconst 2, 1) := zo_5 (zi_at zh_dL_law_1320_1320 20 rfl)
theorem dL_law_1341 : decode cL_law 1341 = .ok (.iadd, 1) := zo_96 (zi_at zh_dL_law_1320_1320 21 rfl)
theorem dL_law_1342 : decode cL_law 1342 = .ok (.iaload, 1) := zo_46 (zi_at zh_dL_law_1320_1320 22 rfl)
theorem dL_law_1343 : decode cL_law 1343 = .ok (.aload_n 0, 1) := zo_42 (zi_at zh_dL_law_1320_1320 23 rfl)
theorem dL_law_1344 : decode cL_law 1344 = .ok (.iload 4, 2) := zo_21 (zi_at zh_dL_law_1320_1320 24 rfl) (zi_at zh_dL_law_1320_1320 25 rfl)
theorem dL_law_1346 : decode cL_law 1346 = .ok (.iconst 3, 1) := zo_6 (zi_at zh_dL_law_1320_1320 26 rfl)
theorem dL_law_1347 : decode cL_law 1347 = .ok (.iadd, 1) := zo_96 (zi_at zh_dL_law_1320_1320 27 rfl)
theorem dL_law_1348 : decode cL_law 1348 = .ok (.iaload, 1) := zo_46 (zi_at zh_dL_law_1320_1320 28 rfl)
theorem dL_law_1349 : decode cL_law 1349 = .ok (.invokevirtual 125, 3) := zo_182 (zi_at zh_dL_law_1320_1320 29 rfl) (zi_at zh_dL_law_1320_1320 30 rfl) (zi_at zh_dL_law_1320_1320 31 rfl) rfl
theorem dL_law_1352 : decode cL_law 1352 = .ok (.pop, 1) := zo_87 (zi_at zh_dL_law_1320_1320 32 rfl)
theorem dL_law_1353 : decode cL_law 1353 = .ok (.aload_n 2, 1) := zo_44 (zi_at zh_dL_law_1320_1320 33 rfl)
theorem dL_law_1354 : decode cL_law 1354 = .ok (.aload_n 0, 1) := zo_42 (zi_at zh_dL_law_1320_1320 34 rfl)
theorem dL_law_1355 : decode cL_law 1355 = .ok (.iload 4, 2) := zo_21 (zi_at zh_dL_law_1320_1320 35 rfl) (zi_at zh_dL_law_1320_1320 36 rfl)
theorem dL_law_1357 : decode cL_law 1357 = .ok (.iconst 1, 1) := zo_4 (zi_at zh_dL_law_1320_1320 37 rfl)
theorem dL_law_1358 : decode cL_law 1358 = .ok (.iadd, 1) := zo_96 (zi_at zh_dL_law_1320_1320 38 rfl)
theorem dL_law_1359 : decode cL_law 1359 = .ok (.iaload, 1) := zo_46 (zi_at zh_dL_law_1320_1320 39 rfl)
theorem dL_law_1360 : decode cL_law 1360 = .ok (.aload_n 0, 1) := zo_42 (zi_at zh_dL_law_1360_1360 0 rfl)
theorem dL_law_1361 : decode cL_law 1361 = .ok (.iload 4, 2) := zo_21 (zi_at zh_dL_law_1360_1360 1 rfl) (zi_at zh_dL_law_1360_1360 2 rfl)
theorem dL_law_1363 : decode cL_law 1363 = .ok (.iconst 2, 1) := zo_5 (zi_at zh_dL_law_1360_1360 3 rfl)
theorem dL_law_1364 : decode cL_law 1364 = .ok (.iadd, 1) := zo_96 (zi_at zh_dL_law_1360_1360 4 rfl)
theorem dL_law_1365 : decode cL_law 1365 = .ok (.iaload, 1) := zo_46 (zi_at zh_dL_law_1360_1360 5 rfl)
theorem dL_law_1366 : decode cL_law 1366 = .ok (.aload_n 0, 1) := zo_42 (zi_at zh_dL_law_1360_1360 6 rfl)
theorem dL_law_1367 : decode cL_law 1367 = .ok (.iload 4, 2) := zo_21 (zi_at zh_dL_law_1360_1360 7 rfl) (zi_at zh_dL_law_1360_1360 8 rfl)
theorem dL_law_1369 : decode cL_law 1369 = .ok (.iconst 3, 1) := zo_6 (zi_at zh_dL_law_1360_1360 9 rfl)
theorem dL_law_1370 : decode cL_law 1370 = .ok (.iadd, 1) := zo_96 (zi_at zh_dL_law_1360_1360 10 rfl)
theorem dL_law_1371 : decode cL_law 1371 = .ok (.iaload, 1) := zo_46 (zi_at zh_dL_law_1360_1360 11 rfl)
theorem dL_law_1372 : decode cL_law 1372 = .ok (.invokevirtual 128, 3) := zo_182 (zi_at zh_dL_law_1360_1360 12 rfl) (zi_at zh_dL_law_1360_1360 13 rfl) (zi_at zh_dL_law_1360_1360 14 rfl) rfl
theorem dL_law_1375 : decode cL_law 1375 = .ok (.pop, 1) := zo_87 (zi_at zh_dL_law_1360_1360 15 rfl)
theorem dL_law_1376 : decode cL_law 1376 = .ok (.goto 483, 3) := zo_167 (zi_at zh_dL_law_1360_1360 16 rfl) (zi_at zh_dL_law_1360_1360 17 rfl) (zi_at zh_dL_law_1360_1360 18 rfl) rfl
theorem dL_law_1379 : decode cL_law 1379 = .ok (.aload_n 1, 1) := zo_43 (zi_at zh_dL_law_1360_1360 19 rfl)
theorem dL_law_1380 : decode cL_law 1380 = .ok (.aload_n 0, 1) := zo_42 (zi_at zh_dL_law_1360_1360 20 rfl)
theorem dL_law_1381 : decode cL_law 1381 = .ok (.iload 4, 2) := zo_21 (zi_at zh_dL_law_1360_1360 21 rfl) (zi_at zh_dL_law_1360_1360 22 rfl)
theorem dL_law_1383 : decode cL_law 1383 = .ok (.iconst 1, 1) := zo_4 (zi_at zh_dL_law_1360_1360 23 rfl)
theorem dL_law_1384 : decode cL_law 1384 = .ok (.iadd, 1) := zo_96 (zi_at zh_dL_law_1360_1360 24 rfl)
theorem dL_law_1385 : decode cL_law 1385 = .ok (.iaload, 1) := zo_46 (zi_at zh_dL_law_1360_1360 25 rfl)
theorem dL_law_1386 : decode cL_law 1386 = .ok (.aload_n 0, 1) := zo_42 (zi_at zh_dL_law_1360_1360 26 rfl)
theorem dL_law_1387 : decode cL_law 1387 = .ok (.iload 4, 2) := zo_21 (zi_at zh_dL_law_1360_1360 27 rfl) (zi_at zh_dL_law_1360_1360 28 rfl)
theorem dL_law_1389 : decode cL_law 1389 = .ok (.iconst 2, 1) := zo_5 (zi_at zh_dL_law_1360_1360 29 rfl)
theorem dL_law_1390 : decode cL_law 1390 = .ok (.iadd, 1) := zo_96 (zi_at zh_dL_law_1360_1360 30 rfl)
theorem dL_law_1391 : decode cL_law 1391 = .ok (.iaload, 1) := zo_46 (zi_at zh_dL_law_1360_1360 31 rfl)
theorem dL_law_1392 : decode cL_law 1392 = .ok (.aload_n 0, 1) := zo_42 (zi_at zh_dL_law_1360_1360 32 rfl)
theorem dL_law_1393 : decode cL_law 1393 = .ok (.iload 4, 2) := zo_21 (zi_at zh_dL_law_1360_1360 33 rfl) (zi_at zh_dL_law_1360_1360 34 rfl)
theorem dL_law_1395 : decode cL_law 1395 = .ok (.iconst 3, 1) := zo_6 (zi_at zh_dL_law_1360_1360 35 rfl)
theorem dL_law_1396 : decode cL_law 1396 = .ok (.iadd, 1) := zo_96 (zi_at zh_dL_law_1360_1360 36 rfl)
theorem dL_law_1397 : decode cL_law 1397 = .ok (.iaload, 1) := zo_46 (zi_at zh_dL_law_1360_1360 37 rfl)
theorem dL_law_1398 : decode cL_law 1398 = .ok (.invokevirtual 129, 3) := zo_182 (zi_at zh_dL_law_1360_1360 38 rfl) (zi_at zh_dL_law_1360_1360 39 rfl) (zi_at zh_dL_law_1398_1400 0 rfl) rfl
theorem dL_law_1401 : decode cL_law 1401 = .ok (.pop, 1) := zo_87 (zi_at zh_dL_law_1398_1400 1 rfl)
theorem dL_law_1402 : decode cL_law 1402 = .ok (.aload_n 2, 1) := zo_44 (zi_at zh_dL_law_1398_1400 2 rfl)
theorem dL_law_1403 : decode cL_law 1403 = .ok (.aload_n 0, 1) := zo_42 (zi_at zh_dL_law_1398_1400 3 rfl)
theorem dL_law_1404 : decode cL_law 1404 = .ok (.iload 4, 2) := zo_21 (zi_at zh_dL_law_1398_1400 4 rfl) (zi_at zh_dL_law_1398_1400 5 rfl)
theorem dL_law_1406 : decode cL_law 1406 = .ok (.iconst 1, 1) := zo_4 (zi_at zh_dL_law_1398_1400 6 rfl)
theorem dL_law_1407 : decode cL_law 1407 = .ok (.iadd, 1) := zo_96 (zi_at zh_dL_law_1398_1400 7 rfl)
theorem dL_law_1408 : decode cL_law 1408 = .ok (.iaload, 1) := zo_46 (zi_at zh_dL_law_1398_1400 8 rfl)
theorem dL_law_1409 : decode cL_law 1409 = .ok (.aload_n 0, 1) := zo_42 (zi_at zh_dL_law_1398_1400 9 rfl)
theorem dL_law_1410 : decode cL_law 1410 = .ok (.iload 4, 2) := zo_21 (zi_at zh_dL_law_1398_1400 10 rfl) (zi_at zh_dL_law_1398_1400 11 rfl)
theorem dL_law_1412 : decode cL_law 1412 = .ok (.iconst 2, 1) := zo_5 (zi_at zh_dL_law_1398_1400 12 rfl)
theorem dL_law_1413 : decode cL_law 1413 = .ok (.iadd, 1) := zo_96 (zi_at zh_dL_law_1398_1400 13 rfl)
theorem dL_law_1414 : decode cL_law 1414 = .ok (.iaload, 1) := zo_46 (zi_at zh_dL_law_1398_1400 14 rfl)
theorem dL_law_1415 : decode cL_law 1415 = .ok (.aload_n 0, 1) := zo_42 (zi_at zh_dL_law_1398_1400 15 rfl)
theorem dL_law_1416 : decode cL_law 1416 = .ok (.iload 4, 2) := zo_21 (zi_at zh_dL_law_1398_1400 16 rfl) (zi_at zh_dL_law_1398_1400 17 rfl)
theorem dL_law_1418 : decode cL_law 1418 = .ok (.iconst 3, 1) := zo_6 (zi_at zh_dL_law_1398_1400 18 rfl)
theorem dL_law_1419 : decode cL_law 1419 = .ok (.iadd, 1) := zo_96 (zi_at zh_dL_law_1398_1400 19 rfl)
theorem dL_law_1420 : decode cL_law 1420 = .ok (.iaload, 1) := zo_46 (zi_at zh_dL_law_1398_1400 20 rfl)
theorem dL_law_1421 : decode cL_law 1421 = .ok (.invokevirtual 132, 3) := zo_182 (zi_at zh_dL_law_1398_1400 21 rfl) (zi_at zh_dL_law_1398_1400 22 rfl) (zi_at zh_dL_law_1398_1400 23 rfl) rfl
theorem dL_law_1424 : decode cL_law 1424 = .ok (.pop, 1) := zo_87 (zi_at zh_dL_law_1398_1400 24 rfl)
theorem dL_law_1425 : decode cL_law 1425 = .ok (.goto 434, 3) := zo_167 (zi_at zh_dL_law_1398_1400 25 rfl) (zi_at zh_dL_law_1398_1400 26 rfl) (zi_at zh_dL_law_1398_1400 27 rfl) rfl
theorem dL_law_1428 : decode cL_law 1428 = .ok (.aload_n 1, 1) := zo_43 (zi_at zh_dL_law_1398_1400 28 rfl)
theorem dL_law_1429 : decode cL_law 1429 = .ok (.aload_n 0, 1) := zo_42 (zi_at zh_dL_law_1398_1400 29 rfl)
theorem dL_law_1430 : decode cL_law 1430 = .ok (.iload 4, 2) := zo_21 (zi_at zh_dL_law_1398_1400 30 rfl) (zi_at zh_dL_law_1398_1400 31 rfl)
theorem dL_law_1432 : decode cL_law 1432 = .ok (.iconst 1, 1) := zo_4 (zi_at zh_dL_law_1398_1400 32 rfl)
theorem dL_law_1433 : decode cL_law 1433 = .ok (.iadd, 1) := zo_96 (zi_at zh_dL_law_1398_1400 33 rfl)
theorem dL_law_1434 : decode cL_law 1434 = .ok (.iaload, 1) := zo_46 (zi_at zh_dL_law_1398_1400 34 rfl)
theorem dL_law_1435 : decode cL_law 1435 = .ok (.invokevirtual 133, 3) := zo_182 (zi_at zh_dL_law_1398_1400 35 rfl) (zi_at zh_dL_law_1398_1400 36 rfl) (zi_at zh_dL_law_1398_1400 37 rfl) rfl
theorem dL_law_1438 : decode cL_law 1438 = .ok (.pop, 1) := zo_87 (zi_at zh_dL_law_1398_1400 38 rfl)
theorem dL_law_1439 : decode cL_law 1439 = .ok (.aload_n 2, 1) := zo_44 (zi_at zh_dL_law_1398_1400 39 rfl)
theorem dL_law_1440 : decode cL_law 1440 = .ok (.aload_n 0, 1) := zo_42 (zi_at zh_dL_law_1440_1440 0 rfl)
theorem dL_law_1441 : decode cL_law 1441 = .ok (.iload 4, 2) := zo_21 (zi_at zh_dL_law_1440_1440 1 rfl) (zi_at zh_dL_law_1440_1440 2 rfl)
theorem dL_law_1443 : decode cL_law 1443 = .ok (.iconst 1, 1) := zo_4 (zi_at zh_dL_law_1440_1440 3 rfl)
theorem dL_law_1444 : decode cL_law 1444 = .ok (.iadd, 1) := zo_96 (zi_at zh_dL_law_1440_1440 4 rfl)
theorem dL_law_1445 : decode cL_law 1445 = .ok (.iaload, 1) := zo_46 (zi_at zh_dL_law_1440_1440 5 rfl)
theorem dL_law_1446 : decode cL_law 1446 = .ok (.invokevirtual 136, 3) := zo_182 (zi_at zh_dL_law_1440_1440 6 rfl) (zi_at zh_dL_law_1440_1440 7 rfl) (zi_at zh_dL_law_1440_1440 8 rfl) rfl
theorem dL_law_1449 : decode cL_law 1449 = .ok (.pop, 1) := zo_87 (zi_at zh_dL_law_1440_1440 9 rfl)
theorem dL_law_1450 : decode cL_law 1450 = .ok (.goto 409, 3) := zo_167 (zi_at zh_dL_law_1440_1440 10 rfl) (zi_at zh_dL_law_1440_1440 11 rfl) (zi_at zh_dL_law_1440_1440 12 rfl) rfl
theorem dL_law_1453 : decode cL_law 1453 = .ok (.aload_n 1, 1) := zo_43 (zi_at zh_dL_law_1440_1440 13 rfl)
theorem dL_law_1454 : decode cL_law 1454 = .ok (.aload_n 0, 1) := zo_42 (zi_at zh_dL_law_1440_1440 14 rfl)
theorem dL_law_1455 : decode cL_law 1455 = .ok (.iload 4, 2) := zo_21 (zi_at zh_dL_law_1440_1440 15 rfl) (zi_at zh_dL_law_1440_1440 16 rfl)
theorem dL_law_1457 : decode cL_law 1457 = .ok (.iconst 1, 1) := zo_4 (zi_at zh_dL_law_1440_1440 17 rfl)
theorem dL_law_1458 : decode cL_law 1458 = .ok (.iadd, 1) := zo_96 (zi_at zh_dL_law_1440_1440 18 rfl)
theorem dL_law_1459 : decode cL_law 1459 = .ok (.iaload, 1) := zo_46 (zi_at zh_dL_law_1440_1440 19 rfl)
theorem dL_law_1460 : decode cL_law 1460 = .ok (.invokevirtual 137, 3) := zo_182 (zi_at zh_dL_law_1440_1440 20 rfl) (zi_at zh_dL_law_1440_1440 21 rfl) (zi_at zh_dL_law_1440_1440 22 rfl) rfl
theorem dL_law_1463 : decode cL_law 1463 = .ok (.pop, 1) := zo_87 (zi_at zh_dL_law_1440_1440 23 rfl)
theorem dL_law_1464 : decode cL_law 1464 = .ok (.aload_n 2, 1) := zo_44 (zi_at zh_dL_law_1440_1440 24 rfl)
theorem dL_law_1465 : decode cL_law 1465 = .ok (.aload_n 0, 1) := zo_42 (zi_at zh_dL_law_1440_1440 25 rfl)
theorem dL_law_1466 : decode cL_law 1466 = .ok (.iload 4, 2) := zo_21 (zi_at zh_dL_law_1440_1440 26 rfl) (zi_at zh_dL_law_1440_1440 27 rfl)
theorem dL_law_1468 : decode cL_law 1468 = .ok (.iconst 1, 1) := zo_4 (zi_at zh_dL_law_1440_1440 28 rfl)
theorem dL_law_1469 : decode cL_law 1469 = .ok (.iadd, 1) := zo_96 (zi_at zh_dL_law_1440_1440 29 rfl)
theorem dL_law_1470 : decode cL_law 1470 = .ok (.iaload, 1) := zo_46 (zi_at zh_dL_law_1440_1440 30 rfl)
theorem dL_law_1471 : decode cL_law 1471 = .ok (.invokevirtual 140, 3) := zo_182 (zi_at zh_dL_law_1440_1440 31 rfl) (zi_at zh_dL_law_1440_1440 32 rfl) (zi_at zh_dL_law_1440_1440 33 rfl) rfl
theorem dL_law_1474 : decode cL_law 1474 = .ok (.pop, 1) := zo_87 (zi_at zh_dL_law_1440_1440 34 rfl)
theorem dL_law_1475 : decode cL_law 1475 = .ok (.goto 384, 3) := zo_167 (zi_at zh_dL_law_1440_1440 35 rfl) (zi_at zh_dL_law_1440_1440 36 rfl) (zi_at zh_dL_law_1440_1440 37 rfl) rfl
theorem dL_law_1478 : decode cL_law 1478 = .ok (.aload_n 1, 1) := zo_43 (zi_at zh_dL_law_1440_1440 38 rfl)
theorem dL_law_1479 : decode cL_law 1479 = .ok (.aload_n 0, 1) := zo_42 (zi_at zh_dL_law_1440_1440 39 rfl)
theorem dL_law_1480 : decode cL_law 1480 = .ok (.iload 4, 2) := zo_21 (zi_at zh_dL_law_1480_1480 0 rfl) (zi_at zh_dL_law_1480_1480 1 rfl)
theorem dL_law_1482 : decode cL_law 1482 = .ok (.iconst 1, 1) := zo_4 (zi_at zh_dL_law_1480_1480 2 rfl)
theorem dL_law_1483 : decode cL_law 1483 = .ok (.iadd, 1) := zo_96 (zi_at zh_dL_law_1480_1480 3 rfl)
theorem dL_law_1484 : decode cL_law 1484 = .ok (.iaload, 1) := zo_46 (zi_at zh_dL_law_1480_1480 4 rfl)
theorem dL_law_1485 : decode cL_law 1485 = .ok (.invokevirtual 141, 3) := zo_182 (zi_at zh_dL_law_1480_1480 5 rfl) (zi_at zh_dL_law_1480_1480 6 rfl) (zi_at zh_dL_law_1480_1480 7 rfl) rfl
theorem dL_law_1488 : decode cL_law 1488 = .ok (.pop, 1) := zo_87 (zi_at zh_dL_law_1480_1480 8 rfl)
theorem dL_law_1489 : decode cL_law 1489 = .ok (.aload_n 2, 1) := zo_44 (zi_at zh_dL_law_1480_1480 9 rfl)
theorem dL_law_1490 : decode cL_law 1490 = .ok (.aload_n 0, 1) := zo_42 (zi_at zh_dL_law_1480_1480 10 rfl)
theorem dL_law_1491 : decode cL_law 1491 = .ok (.iload 4, 2) := zo_21 (zi_at zh_dL_law_1480_1480 11 rfl) (zi_at zh_dL_law_1480_1480 12 rfl)
theorem dL_law_1493 : decode cL_law 1493 = .ok (.iconst 1, 1) := zo_4 (zi_at zh_dL_law_1480_1480 13 rfl)
theorem dL_law_1494 : decode cL_law 1494 = .ok (.iadd, 1) := zo_96 (zi_at zh_dL_law_1480_1480 14 rfl)
theorem dL_law_1495 : decode cL_law 1495 = .ok (.iaload, 1) := zo_46 (zi_at zh_dL_law_1480_1480 15 rfl)
theorem dL_law_1496 : decode cL_law 1496 = .ok (.invokevirtual 144, 3) := zo_182 (zi_at zh_dL_law_1480_1480 16 rfl) (zi_at zh_dL_law_1480_1480 17 rfl) (zi_at zh_dL_law_1480_1480 18 rfl) rfl
theorem dL_law_1499 : decode cL_law 1499 = .ok (.pop, 1) := zo_87 (zi_at zh_dL_law_1480_1480 19 rfl)
theorem dL_law_1500 : decode cL_law 1500 = .ok (.goto 359, 3) := zo_167 (zi_at zh_dL_law_1480_1480 20 rfl) (zi_at zh_dL_law_1480_1480 21 rfl) (zi_at zh_dL_law_1480_1480 22 rfl) rfl
theorem dL_law_1503 : decode cL_law 1503 = .ok (.aload_n 1, 1) := zo_43 (zi_at zh_dL_law_1480_1480 23 rfl)
theorem dL_law_1504 : decode cL_law 1504 = .ok (.aload_n 0, 1) := zo_42 (zi_at zh_dL_law_1480_1480 24 rfl)
theorem dL_law_1505 : decode cL_law 1505 = .ok (.iload 4, 2) := zo_21 (zi_at zh_dL_law_1480_1480 25 rfl) (zi_at zh_dL_law_1480_1480 26 rfl)
theorem dL_law_1507 : decode cL_law 1507 = .ok (.iconst 1, 1) := zo_4 (zi_at zh_dL_law_1480_1480 27 rfl)
theorem dL_law_1508 : decode cL_law 1508 = .ok (.iadd, 1) := zo_96 (zi_at zh_dL_law_1480_1480 28 rfl)
theorem dL_law_1509 : decode cL_law 1509 = .ok (.iaload, 1) := zo_46 (zi_at zh_dL_law_1480_1480 29 rfl)
theorem dL_law_1510 : decode cL_law 1510 = .ok (.aload_n 0, 1) := zo_42 (zi_at zh_dL_law_1480_1480 30 rfl)
theorem dL_law_1511 : decode cL_law 1511 = .ok (.iload 4, 2) := zo_21 (zi_at zh_dL_law_1480_1480 31 rfl) (zi_at zh_dL_law_1480_1480 32 rfl)
theorem dL_law_1513 : decode cL_law 1513 = .ok (.iconst 2, 1) := zo_5 (zi_at zh_dL_law_1480_1480 33 rfl)
theorem dL_law_1514 : decode cL_law 1514 = .ok (.iadd, 1) := zo_96 (zi_at zh_dL_law_1480_1480 34 rfl)
theorem dL_law_1515 : decode cL_law 1515 = .ok (.iaload, 1) := zo_46 (zi_at zh_dL_law_1480_1480 35 rfl)
theorem dL_law_1516 : decode cL_law 1516 = .ok (.invokevirtual 145, 3) := zo_182 (zi_at zh_dL_law_1480_1480 36 rfl) (zi_at zh_dL_law_1480_1480 37 rfl) (zi_at zh_dL_law_1480_1480 38 rfl) rfl
theorem dL_law_1519 : decode cL_law 1519 = .ok (.aload_n 2, 1) := zo_44 (zi_at zh_dL_law_1480_1480 39 rfl)
theorem dL_law_1520 : decode cL_law 1520 = .ok (.aload_n 0, 1) := zo_42 (zi_at zh_dL_law_1520_1520 0 rfl)
theorem dL_law_1521 : decode cL_law 1521 = .ok (.iload 4, 2) := zo_21 (zi_at zh_dL_law_1520_1520 1 rfl) (zi_at zh_dL_law_1520_1520 2 rfl)
theorem dL_law_1523 : decode cL_law 1523 = .ok (.iconst 1, 1) := zo_4 (zi_at zh_dL_law_1520_1520 3 rfl)
theorem dL_law_1524 : decode cL_law 1524 = .ok (.iadd, 1) := zo_96 (zi_at zh_dL_law_1520_1520 4 rfl)
theorem dL_law_1525 : decode cL_law 1525 = .ok (.iaload, 1) := zo_46 (zi_at zh_dL_law_1520_1520 5 rfl)
theorem dL_law_1526 : decode cL_law 1526 = .ok (.aload_n 0, 1) := zo_42 (zi_at zh_dL_law_1520_1520 6 rfl)
theorem dL_law_1527 : decode cL_law 1527 = .ok (.iload 4, 2) := zo_21 (zi_at zh_dL_law_1520_1520 7 rfl) (zi_at zh_dL_law_1520_1520 8 rfl)
theorem dL_law_1529 : decode cL_law 1529 = .ok (.iconst 2, 1) := zo_5 (zi_at zh_dL_law_1520_1520 9 rfl)
theorem dL_law_1530 : decode cL_law 1530 = .ok (.iadd, 1) := zo_96 (zi_at zh_dL_law_1520_1520 10 rfl)
theorem dL_law_1531 : decode cL_law 1531 = .ok (.iaload, 1) := zo_46 (zi_at zh_dL_law_1520_1520 11 rfl)
theorem dL_law_1532 : decode cL_law 1532 = .ok (.invokevirtual 148, 3) := zo_182 (zi_at zh_dL_law_1520_1520 12 rfl) (zi_at zh_dL_law_1520_1520 13 rfl) (zi_at zh_dL_law_1520_1520 14 rfl) rfl
theorem dL_law_1535 : decode cL_law 1535 = .ok (.if_icmp .eq 324, 3) := zo_159 (zi_at zh_dL_law_1520_1520 15 rfl) (zi_at zh_dL_law_1520_1520 16 rfl) (zi_at zh_dL_law_1520_1520 17 rfl) rfl
theorem hz_yX12_total_2 : yX12_total.cls ≠ "java/lang/invoke/MethodHandle" ∧ yX12_total.cls ≠ "java/lang/invoke/VarHandle" ∧ (parseMethodDescriptor yX12_total.desc).map (fun d => d.parameters.length) = some 2 := by decide +kernel
theorem hz_yX13_total_2 : yX13_total.cls ≠ "java/lang/invoke/MethodHandle" ∧ yX13_total.cls ≠ "java/lang/invoke/VarHandle" ∧ (parseMethodDescriptor yX13_total.desc).map (fun d => d.parameters.length) = some 2 := by decide +kernel
theorem hz_yX12_ranked_2 : yX12_ranked.cls ≠ "java/lang/invoke/MethodHandle" ∧ yX12_ranked.cls ≠ "java/lang/invoke/VarHandle" ∧ (parseMethodDescriptor yX12_ranked.desc).map (fun d => d.parameters.length) = some 2 := by decide +kernel
theorem hz_yX13_ranked_2 : yX13_ranked.cls ≠ "java/lang/invoke/MethodHandle" ∧ yX13_ranked.cls ≠ "java/lang/invoke/VarHandle" ∧ (parseMethodDescriptor yX13_ranked.desc).map (fun d => d.parameters.length) = some 2 := by decide +kernel
theorem hz_yX12_word_7 : yX12_word.cls ≠ "java/lang/invoke/MethodHandle" ∧ yX12_word.cls ≠ "java/lang/invoke/VarHandle" ∧ (parseMethodDescriptor yX12_word.desc).map (fun d => d.parameters.length) = some 7 := by decide +kernel
theorem hz_yX13_word_7 : yX13_word.cls ≠ "java/lang/invoke/MethodHandle" ∧ yX13_word.cls ≠ "java/lang/invoke/VarHandle" ∧ (parseMethodDescriptor yX13_word.desc).map (fun d => d.parameters.length) = some 7 := by decide +kernel
theorem hz_yX12_protest_4 : yX12_protest.cls ≠ "java/lang/invoke/MethodHandle" ∧ yX12_protest.cls ≠ "java/lang/invoke/VarHandle" ∧ (parseMethodDescriptor yX12_protest.desc).map (fun d => d.parameters.length) = some 4 := by decide +kernel
theorem hz_yX13_protest_4 : yX13_protest.cls ≠ "java/lang/invoke/MethodHandle" ∧ yX13_protest.cls ≠ "java/lang/invoke/VarHandle" ∧ (parseMethodDescriptor yX13_protest.desc).map (fun d => d.parameters.length) = some 4 := by decide +kernel
theorem hz_yX12_states_3 : yX12_states.cls ≠ "java/lang/invoke/MethodHandle" ∧ yX12_states.cls ≠ "java/lang/invoke/VarHandle" ∧ (parseMethodDescriptor yX12_states.desc).map (fun d => d.parameters.length) = some 3 := by decide +kernel
theorem hz_yX13_states_3 : yX13_states.cls ≠ "java/lang/invoke/MethodHandle" ∧ yX13_states.cls ≠ "java/lang/invoke/VarHandle" ∧ (parseMethodDescriptor yX13_states.desc).map (fun d => d.parameters.length) = some 3 := by decide +kernel
theorem hz_yX12_finding_3 : yX12_finding.cls ≠ "java/lang/invoke/MethodHandle" ∧ yX12_finding.cls ≠ "java/lang/invoke/VarHandle" ∧ (parseMethodDescriptor yX12_finding.desc).map (fun d => d.parameters.length) = some 3 := by decide +kernel
theorem hz_yX13_finding_3 : yX13_finding.cls ≠ "java/lang/invoke/MethodHandle" ∧ yX13_finding.cls ≠ "java/lang/invoke/VarHandle" ∧ (parseMethodDescriptor yX13_finding.desc).map (fun d => d.parameters.length) = some 3 := by decide +kernel
theorem hz_yX12_decide_1 : yX12_decide.cls ≠ "java/lang/invoke/MethodHandle" ∧ yX12_decide.cls ≠ "java/lang/invoke/VarHandle" ∧ (parseMethodDescriptor yX12_decide.desc).map (fun d => d.parameters.length) = some 1 := by decide +kernel
theorem hz_yX13_decide_1 : yX13_decide.cls ≠ "java/lang/invoke/MethodHandle" ∧ yX13_decide.cls ≠ "java/lang/invoke/VarHandle" ∧ (parseMethodDescriptor yX13_decide.desc).map (fun d => d.parameters.length) = some 1 := by decide +kernel
theorem hz_yX12_reopen_1 : yX12_reopen.cls ≠ "java/lang/invoke/MethodHandle" ∧ yX12_reopen.cls ≠ "java/lang/invoke/VarHandle" ∧ (parseMethodDescriptor yX12_reopen.desc).map (fun d => d.parameters.length) = some 1 := by decide +kernel
theorem hz_yX13_reopen_1 : yX13_reopen.cls ≠ "java/lang/invoke/MethodHandle" ∧ yX13_reopen.cls ≠ "java/lang/invoke/VarHandle" ∧ (parseMethodDescriptor yX13_reopen.desc).map (fun d => d.parameters.length) = some 1 := by decide +kernel
theorem hz_yX12_even_1 : yX12_even.cls ≠ "java/lang/invoke/MethodHandle" ∧ yX12_even.cls ≠ "java/lang/invoke/VarHandle" ∧ (parseMethodDescriptor yX12_even.desc).map (fun d => d.parameters.length) = some 1 := by decide +kernel
theorem hz_yX13_even_1 : yX13_even.cls ≠ "java/lang/invoke/MethodHandle" ∧ yX13_even.cls ≠ "java/lang/invoke/VarHandle" ∧ (parseMethodDescriptor yX13_even.desc).map (fun d => d.parameters.length) = some 1 := by decide +kernel
theorem hz_yX12_change_2 : yX12_change.cls ≠ "java/lang/invoke/MethodHandle" ∧ yX12_change.cls ≠ "java/lang/invoke/VarHandle" ∧ (parseMethodDescriptor yX12_change.desc).map (fun d => d.parameters.length) = some 2 := by decide +kernel
theorem hz_yX13_change_2 : yX13_change.cls ≠ "java/lang/invoke/MethodHandle" ∧ yX13_change.cls ≠ "java/lang/invoke/VarHandle" ∧ (parseMethodDescriptor yX13_change.desc).map (fun d => d.parameters.length) = some 2 := by decide +kernel

set_option maxHeartbeats 4000000 in
set_option maxRecDepth 100000 in
theorem law_case_20 {p : Program} {e : Env} {s : State} {m : MethodId} {below : List Frame} {meth : Method} {c : Code} (l : Launch) {b L : Nat} {xs : Nat → Int32} (hL : L ≤ 4096) (C0 : lw_At p s m meth c b L xs) {A : Nat → Prop} {ed : Nat} {dC : Nat → ClassId} {dI : Nat → Nat → Nat} {cT : Nat → ClassId} {cL : ClassId} (F : FX l s A ed dC dI cT cL) {x ou : Nat} {am cf ad : Nat → Nat} {E EM : Nat → va_E} {f : Nat → Int64} {H : Heap} {locs : List Loc} (V : INV s A ed dC dI cT cL x ou am cf ad E EM f H locs) (hR : REL15 cf E EM) {i : Int32} (hi0 : 0 ≤ i.toInt) (hi8 : i.toInt + 8 ≤ (L : Int)) {cn sn : Nat} (hcn : cn + 7 ≤ 601024) (hsn : sn + 3300 ≤ 7293034) (ls : Array Slot) (hl : lv_has ls 7 [(0, .ref b), (1, .ref x), (2, .ref (am 0)), (3, .ref ou), (4, .int i)]) (tail : (∀ (cf ad : Nat → Nat) (E EM : Nat → va_E) (f : Nat → Int64) (H : Heap) (locs : List Loc) (ls : Array Slot), INV s A ed dC dI cT cL x ou am cf ad E EM f H locs → REL15 cf E EM → lv_has ls 7 [(0, .ref b), (1, .ref x), (2, .ref (am 0)), (3, .ref ou), (4, .int i)] → W p l e room_1 s m #[Value.ref b] below meth c H locs (cn + 7) (sn + 3300) (lw_Z below #[Value.ref b] s) (F0 m 1859 ls []))) : W p l e room_1 s m #[Value.ref b] below meth c H locs cn sn (lw_Z below #[Value.ref b] s) (F0 m 1094 ls []) := by
  obtain ⟨hx, hb, hr, hml, hown, hts0, hX, hbl, hlocks, hgv⟩ := id C0
  have hts := fun w (h : w ∈ v_law) => hts0 w (v_law_in w h)
  have hbA : ¬ A b := F.hnA b hbl
  obtain rfl := V.hx
  obtain ⟨⟨⟨⟨⟨hR, hT⟩, hU⟩, hG⟩, hB⟩, hRS⟩ := hR
  refine lv_aload_n hx hb dL_law_1094 rfl (lv_at hl 1 rfl) ?_
  refine lv_aload_n hx hb dL_law_1095 rfl (lv_at hl 0 rfl) ?_
  refine lv_iload hx hb dL_law_1096 (lv_at hl 4 rfl) ?_
  refine lv_iconst (v := 1) hx hb dL_law_1098 (by decide) ?_
  refine lv_iadd hx hb dL_law_1099 ?_
  refine va_sld hx hb hX hbl hbA V.hS (law_in (k := 1) hi0 hi8 hL (by decide) rfl) dL_law_1100 ?_
  refine lv_aload_n hx hb dL_law_1101 rfl (lv_at hl 0 rfl) ?_
  refine lv_iload hx hb dL_law_1102 (lv_at hl 4 rfl) ?_
  refine lv_iconst (v := 2) hx hb dL_law_1104 (by decide) ?_
  refine lv_iadd hx hb dL_law_1105 ?_
  refine va_sld hx hb hX hbl hbA V.hS (law_in (k := 2) hi0 hi8 hL (by decide) rfl) dL_law_1106 ?_
  have hI0 := V.hI
  have hC0 := V.hC
  have hM0 := V.hM
  have bn : (0 : Int) ≤ (xi (E 1) 0).toInt ∧ (xi (E 1) 0).toInt ≤ 400 := hI0.iv 1 (mF 1 rfl) rfl (Nat.le_of_ble_eq_true rfl) rfl
  have bb : (0 : Int) ≤ (xi (E 1) 1).toInt ∧ (xi (E 1) 1).toInt ≤ 16 := hI0.iv 1 (mF 1 rfl) rfl (Nat.le_of_ble_eq_true rfl) rfl
  obtain ⟨⟨k0, k1, k2, k3, k4, k5⟩, -⟩ := id hC0
  refine lC F V (fun r u h => h.1) (va_runV (As := [.int (xs (i + 1).toNatClampNeg), .int (xs (i + 2).toNatClampNeg)]) (rest := []) ⟨hx, hb, hml, hown, hts⟩ (q_u_totalX l dC dI cT cf V.hC ad E H.size (xs (i + 1).toNatClampNeg) (xs (i + 2).toNatClampNeg) V.hI hU.1) (cwV 2 hts (gl_V (al_3 _ zs0) (al_3 _ (zs1 (zs0))) (al_3 _ (zs1 (zs1 (zs0)))) (vl_A _ (in_4 _ (zs16 (zs4 (zs1 (zs1 (zs1 (zs0)))))))) (vl_A _ (in_23 _ (zs16 (zs16 (zs4 (zs1 (zs1 (zs0))))))))) rfl rfl rfl ⟨rfl, hz_yX12_total_2⟩ ⟨Nat.le_of_ble_eq_true rfl, Nat.le_of_ble_eq_true rfl⟩) ⟨HWL_bl, va_recv F.kc V.cp (ci := 13) (q0 := posL 0 (LC cf)) rfl (V.hI.ob 0 (mF 0 rfl) rfl), HWL_wi V.cp F.kc V.dc V.hS F.hA (V.ec F)⟩ rfl rfl hl.1 rfl (lv_room (Nat.le_of_ble_eq_true rfl)) dL_law_1107 ⟨by show cn + 0 ≤ 601024; omega, by show sn + 0 ≤ 7293034; omega⟩) (fun r1 E1 H locs hw1 V => ?_)
  have hcf : ∀ j, j < 6 → j ≠ 1 → cf j = cf j := fun _ _ _ => rfl
  have k6 : xi (E1 1) 0 = xi (E 1) 0 := xik hw1.2.1 (o := 1) (j := 0) (by first | rfl | (simp [wl]; done) | (simp [wl]; omega))
  have k7 : xi (E1 1) 1 = xi (E 1) 1 := xik hw1.2.1 (o := 1) (j := 1) (by first | rfl | (simp [wl]; done) | (simp [wl]; omega))
  have k8 : xi (E1 1) 2 = xi (E 1) 2 := xik hw1.2.1 (o := 1) (j := 2) (by first | rfl | (simp [wl]; done) | (simp [wl]; omega))
  have hp : PK X0 cf E E1 := fun t i j _ _ _ _ => xik hw1.2.1 (by first | exact wl_p rfl rfl (by omega) | (simp [wl]; done) | (simp [wl]; omega))
  refine lv_pop hx hb dL_law_1110 rfl ?_
  refine lv_aload_n hx hb dL_law_1111 rfl (lv_at hl 2 rfl) ?_
  refine lv_aload_n hx hb dL_law_1112 rfl (lv_at hl 0 rfl) ?_
  refine lv_iload hx hb dL_law_1113 (lv_at hl 4 rfl) ?_
  refine lv_iconst (v := 1) hx hb dL_law_1115 (by decide) ?_
  refine lv_iadd hx hb dL_law_1116 ?_
  refine va_sld hx hb hX hbl hbA V.hS (law_in (k := 1) hi0 hi8 hL (by decide) rfl) dL_law_1117 ?_
  refine lv_aload_n hx hb dL_law_1118 rfl (lv_at hl 0 rfl) ?_
  refine lv_iload hx hb dL_law_1119 (lv_at hl 4 rfl) ?_
  refine lv_iconst (v := 2) hx hb dL_law_1121 (by decide) ?_
  refine lv_iadd hx hb dL_law_1122 ?_
  refine va_sld hx hb hX hbl hbA V.hS (law_in (k := 2) hi0 hi8 hL (by decide) rfl) dL_law_1123 ?_
  refine lM F V (fun r u h => ⟨h.1, DIr_kp h.2.1 (fun _ => rfl) (fun _ => rfl) V.hDI⟩) (va_runV (As := [.int (xs (i + 1).toNatClampNeg), .int (xs (i + 2).toNatClampNeg)]) (rest := []) ⟨hx, hb, hml, hown, hts⟩ (q_totalM l dC dI cT am EM H.size (xs (i + 1).toNatClampNeg) (xs (i + 2).toNatClampNeg) V.hM (hU.ru hT).txm) (cwV 2 hts (gl_V (al_3 _ (zs1 (zs1 (zs1 (zs0))))) (al_3 _ (zs4 (zs0))) (al_3 _ (zs4 (zs1 (zs0)))) (vl_A _ (in_24 _ (zs4 (zs4 (zs4 (zs1 (zs1 (zs1 (zs0))))))))) (vl_A _ (in_33 _ (zs16 (zs16 (zs4 (zs1 (zs0)))))))) rfl rfl rfl ⟨rfl, hz_yX13_total_2⟩ ⟨Nat.le_of_ble_eq_true rfl, Nat.le_of_ble_eq_true rfl⟩) ⟨HW_bl, va_recv F.km V.pm (ci := 14) (q0 := 0) rfl (V.hM.ob 0 (Nat.le_of_ble_eq_true rfl) rfl), HW_wi V.pm F.km V.dm V.hS F.hA F.hEV⟩ rfl rfl hl.1 rfl (lv_room (Nat.le_of_ble_eq_true rfl)) dL_law_1124 ⟨by show cn + 0 ≤ 601024; omega, by show sn + 0 ≤ 7293034; omega⟩) (fun r2 EM1 H locs hw2 V => ?_)
  have hRS := hRS.keep (cf' := cf) (E' := E1) rfl (fun i9 _ => xik hw1.2.1 (o := 64 * (i9 + 1) + 12) (j := 2) (by first | exact wl_p rfl rfl (by omega) | (simp [wl]; done) | (simp [wl]; omega))) (fun i9 _ => xik hw1.2.1 (o := 64 * (i9 + 1) + 12) (j := 3) (by first | exact wl_p rfl rfl (by omega) | (simp [wl]; done) | (simp [wl]; omega)))
  have hG9 := hG
  have hT9 := hT
  have hU9 := hU
  have hb9 : (xi (E 1) 1).toInt ≤ (xi (E1 1) 1).toInt := by rw [show xi (E1 1) 1 = xi (E 1) 1 from xik hw1.2.1 (o := 1) (j := 1) (by first | rfl | (simp [wl]; done) | (simp [wl]; omega))]; exact Int.le_refl _
  have hB := hB.keep (cf' := cf) (E' := E1) rfl hb9 (fun i9 _ => xik hw1.2.1 (o := 64 * (i9 + 1) + 0) (j := 0) (by first | exact wl_p rfl rfl (by omega) | (simp [wl]; done) | (simp [wl]; omega)))
  have hT := hT.keep (cf' := cf) (E' := E1) rfl (xik hw1.2.1 (o := 2) (j := 1) (by first | rfl | (simp [wl]; done) | (simp [wl]; omega))) (fun j9 => xik hw1.2.1 (o := 21) (j := j9) (by first | rfl | (simp [wl]; done) | (simp [wl]; omega))) (fun i9 j9 _ => xik hw1.2.1 (o := 64 * (i9 + 1) + 1) (j := j9) (by first | exact wl_p rfl rfl (by omega) | (simp [wl]; done) | (simp [wl]; omega))) (xik hw2.2.1 (o := 0) (j := 16) rfl) (xik hw2.2.1 (o := 0) (j := 17) rfl) (fun j9 => xik hw2.2.1 (o := 7) (j := j9) rfl) (fun j9 => xik hw2.2.1 (o := 10) (j := j9) rfl) (fun j9 => xik hw2.2.1 (o := 11) (j := j9) rfl)
  have hU := hU.keep (cf' := cf) (E' := E1) rfl (fun _ _ => ⟨rfl, rfl⟩) (fun i9 _ t9 _ _ j9 => xik hw1.2.1 (o := 64 * (i9 + 1) + t9) (j := j9) (by first | exact wl_p rfl rfl (by omega) | (simp [wl]; done) | (simp [wl]; omega))) (fun j9 => xik hw2.2.1 (o := 8) (j := j9) rfl) (fun j9 => xik hw2.2.1 (o := 9) (j := j9) rfl)
  have hG := hG.keep (cf' := cf) (E' := E1) rfl (fun i9 j9 _ => xik hw1.2.1 (o := 64 * (i9 + 1) + 14) (j := j9) (by first | exact wl_p rfl rfl (by omega) | (simp [wl]; done) | (simp [wl]; omega))) (fun j9 => xik hw2.2.1 (o := 51) (j := j9) rfl)
  have e0 : (xi (E 1) 0).toInt = (xi (EM 0) 1).toInt := congrArg Int32.toInt hR.now
  have e1 : (xi (E 1) 1).toInt = (xi (EM 0) 8).toInt := congrArg Int32.toInt hR.boats
  have e2 : (xi (E 1) 2).toInt = (xi (EM 0) 48).toInt := congrArg Int32.toInt hR.red
  obtain ⟨q0, q2, q3, q4, q5⟩ := hR.cnt
  have lm : (-1 : Int32).toInt = -1 := rfl
  have l0 : (0 : Int32).toInt = 0 := rfl
  have l1 : (1 : Int32).toInt = 1 := rfl
  have l2 : (2 : Int32).toInt = 2 := rfl
  have lk : (1000 : Int32).toInt = 1000 := rfl
  have hbr : (0 : Int) ≤ (xi (EM 0) 48).toInt ∧ (xi (EM 0) 48).toInt ≤ 20 := hM0.iv 0 (Nat.le_of_ble_eq_true rfl) rfl (Nat.le_of_ble_eq_true rfl) rfl
  have hbt : ∀ k : Nat, (k : Int) < (xi (EM 0) 48).toInt → 0 ≤ (xi (EM 31) k).toInt := fun k hk => (show (0 : Int) ≤ (xi (EM 31) k).toInt ∧ (xi (EM 31) k).toInt ≤ 400 from hM0.iv 31 (Nat.le_of_ble_eq_true rfl) (t := 1) (c := 0) (nf := 20) rfl (show k < 20 by omega) rfl).1
  have hd : r1.toInt = r2.toInt ∧ True := by
    obtain ⟨-, -, p1, p2⟩ := id hw1
    obtain ⟨-, -, m1, m2⟩ := id hw2
    exact ⟨congrArg Int32.toInt (tot_eq hR hG9 (hU9.ru hT9) hM0 (by omega) (by omega) (by omega) (by omega) bb hbt bn p1 p2 m1 m2), trivial⟩
  have hR := hR.keep hcf k6 k7 k8 hp (kpS hw2.2.1 rfl) (kpR hw2.2.1 rfl)
  refine lv_pop hx hb dL_law_1127 rfl ?_
  refine lv_goto (tgt := 1859) hx hb dL_law_1128 (by decide) ?_
  exact W.widen (k := cn + 7) (n := sn + 3300) (by omega) (by omega) (tail _ _ _ _ _ _ _ _ V ⟨⟨⟨⟨⟨hR, hT⟩, hU⟩, hG⟩, hB⟩, hRS⟩ hl)
set_option maxHeartbeats 4000000 in
set_option maxRecDepth 100000 in
theorem law_case_21 {p : Program} {e : Env} {s : State} {m : MethodId} {below : List Frame} {meth : Method} {c : Code} (l : Launch) {b L : Nat} {xs : Nat → Int32} (hL : L ≤ 4096) (C0 : lw_At p s m meth c b L xs) {A : Nat → Prop} {ed : Nat} {dC : Nat → ClassId} {dI : Nat → Nat → Nat} {cT : Nat → ClassId} {cL : ClassId} (F : FX l s A ed dC dI cT cL) {x ou : Nat} {am cf ad : Nat → Nat} {E EM : Nat → va_E} {f : Nat → Int64} {H : Heap} {locs : List Loc} (V : INV s A ed dC dI cT cL x ou am cf ad E EM f H locs) (hR : REL15 cf E EM) {i : Int32} (hi0 : 0 ≤ i.toInt) (hi8 : i.toInt + 8 ≤ (L : Int)) {cn sn : Nat} (hcn : cn + 7 ≤ 601024) (hsn : sn + 3300 ≤ 7293034) (ls : Array Slot) (hl : lv_has ls 7 [(0, .ref b), (1, .ref x), (2, .ref (am 0)), (3, .ref ou), (4, .int i)]) (tail : (∀ (cf ad : Nat → Nat) (E EM : Nat → va_E) (f : Nat → Int64) (H : Heap) (locs : List Loc) (ls : Array Slot), INV s A ed dC dI cT cL x ou am cf ad E EM f H locs → REL15 cf E EM → lv_has ls 7 [(0, .ref b), (1, .ref x), (2, .ref (am 0)), (3, .ref ou), (4, .int i)] → W p l e room_1 s m #[Value.ref b] below meth c H locs (cn + 7) (sn + 3300) (lw_Z below #[Value.ref b] s) (F0 m 1859 ls []))) : W p l e room_1 s m #[Value.ref b] below meth c H locs cn sn (lw_Z below #[Value.ref b] s) (F0 m 1131 ls []) := by
  obtain ⟨hx, hb, hr, hml, hown, hts0, hX, hbl, hlocks, hgv⟩ := id C0
  have hts := fun w (h : w ∈ v_law) => hts0 w (v_law_in w h)
  have hbA : ¬ A b := F.hnA b hbl
  obtain rfl := V.hx
  obtain ⟨⟨⟨⟨⟨hR, hT⟩, hU⟩, hG⟩, hB⟩, hRS⟩ := hR
  refine lv_aload_n hx hb dL_law_1131 rfl (lv_at hl 1 rfl) ?_
  refine lv_aload_n hx hb dL_law_1132 rfl (lv_at hl 0 rfl) ?_
  refine lv_iload hx hb dL_law_1133 (lv_at hl 4 rfl) ?_
  refine lv_iconst (v := 1) hx hb dL_law_1135 (by decide) ?_
  refine lv_iadd hx hb dL_law_1136 ?_
  refine va_sld hx hb hX hbl hbA V.hS (law_in (k := 1) hi0 hi8 hL (by decide) rfl) dL_law_1137 ?_
  refine lv_aload_n hx hb dL_law_1138 rfl (lv_at hl 0 rfl) ?_
  refine lv_iload hx hb dL_law_1139 (lv_at hl 4 rfl) ?_
  refine lv_iconst (v := 2) hx hb dL_law_1141 (by decide) ?_
  refine lv_iadd hx hb dL_law_1142 ?_
  refine va_sld hx hb hX hbl hbA V.hS (law_in (k := 2) hi0 hi8 hL (by decide) rfl) dL_law_1143 ?_
  have hI0 := V.hI
  have hC0 := V.hC
  have hM0 := V.hM
  have bn : (0 : Int) ≤ (xi (E 1) 0).toInt ∧ (xi (E 1) 0).toInt ≤ 400 := hI0.iv 1 (mF 1 rfl) rfl (Nat.le_of_ble_eq_true rfl) rfl
  have bb : (0 : Int) ≤ (xi (E 1) 1).toInt ∧ (xi (E 1) 1).toInt ≤ 16 := hI0.iv 1 (mF 1 rfl) rfl (Nat.le_of_ble_eq_true rfl) rfl
  obtain ⟨⟨k0, k1, k2, k3, k4, k5⟩, -⟩ := id hC0
  refine lC F V (fun r u h => h.1) (va_runV (As := [.int (xs (i + 1).toNatClampNeg), .int (xs (i + 2).toNatClampNeg)]) (rest := []) ⟨hx, hb, hml, hown, hts⟩ (q_u_rankedX l dC dI cT cf V.hC ad E H.size (xs (i + 1).toNatClampNeg) (xs (i + 2).toNatClampNeg) V.hI hU.1) (cwV 2 hts (gl_V (al_3 _ (zs4 (zs1 (zs1 (zs0))))) (al_3 _ (zs4 (zs1 (zs1 (zs1 (zs0)))))) (al_3 _ (zs4 (zs4 (zs0)))) (vl_A _ (in_4 _ (zs16 (zs4 (zs1 (zs1 (zs1 (zs0)))))))) (vl_A _ (in_21 _ (zs16 (zs4 (zs1 (zs0))))))) rfl rfl rfl ⟨rfl, hz_yX12_ranked_2⟩ ⟨Nat.le_of_ble_eq_true rfl, Nat.le_of_ble_eq_true rfl⟩) ⟨HWL_bl, va_recv F.kc V.cp (ci := 13) (q0 := posL 0 (LC cf)) rfl (V.hI.ob 0 (mF 0 rfl) rfl), HWL_wi V.cp F.kc V.dc V.hS F.hA (V.ec F)⟩ rfl rfl hl.1 rfl (lv_room (Nat.le_of_ble_eq_true rfl)) dL_law_1144 ⟨by show cn + 0 ≤ 601024; omega, by show sn + 0 ≤ 7293034; omega⟩) (fun r1 E1 H locs hw1 V => ?_)
  have hcf : ∀ j, j < 6 → j ≠ 1 → cf j = cf j := fun _ _ _ => rfl
  have k6 : xi (E1 1) 0 = xi (E 1) 0 := xik hw1.2.1 (o := 1) (j := 0) (by first | rfl | (simp [wl]; done) | (simp [wl]; omega))
  have k7 : xi (E1 1) 1 = xi (E 1) 1 := xik hw1.2.1 (o := 1) (j := 1) (by first | rfl | (simp [wl]; done) | (simp [wl]; omega))
  have k8 : xi (E1 1) 2 = xi (E 1) 2 := xik hw1.2.1 (o := 1) (j := 2) (by first | rfl | (simp [wl]; done) | (simp [wl]; omega))
  have hp : PK X0 cf E E1 := fun t i j _ _ _ _ => xik hw1.2.1 (by first | exact wl_p rfl rfl (by omega) | (simp [wl]; done) | (simp [wl]; omega))
  refine lv_pop hx hb dL_law_1147 rfl ?_
  refine lv_aload_n hx hb dL_law_1148 rfl (lv_at hl 2 rfl) ?_
  refine lv_aload_n hx hb dL_law_1149 rfl (lv_at hl 0 rfl) ?_
  refine lv_iload hx hb dL_law_1150 (lv_at hl 4 rfl) ?_
  refine lv_iconst (v := 1) hx hb dL_law_1152 (by decide) ?_
  refine lv_iadd hx hb dL_law_1153 ?_
  refine va_sld hx hb hX hbl hbA V.hS (law_in (k := 1) hi0 hi8 hL (by decide) rfl) dL_law_1154 ?_
  refine lv_aload_n hx hb dL_law_1155 rfl (lv_at hl 0 rfl) ?_
  refine lv_iload hx hb dL_law_1156 (lv_at hl 4 rfl) ?_
  refine lv_iconst (v := 2) hx hb dL_law_1158 (by decide) ?_
  refine lv_iadd hx hb dL_law_1159 ?_
  refine va_sld hx hb hX hbl hbA V.hS (law_in (k := 2) hi0 hi8 hL (by decide) rfl) dL_law_1160 ?_
  refine lM F V (fun r u h => ⟨h.1, DIr_kp h.2.1 (fun _ => rfl) (fun _ => rfl) V.hDI⟩) (va_runV (As := [.int (xs (i + 1).toNatClampNeg), .int (xs (i + 2).toNatClampNeg)]) (rest := []) ⟨hx, hb, hml, hown, hts⟩ (q_rankedM l dC dI cT am EM H.size (xs (i + 1).toNatClampNeg) (xs (i + 2).toNatClampNeg) V.hM (hU.ru hT).txm) (cwV 2 hts (gl_V (al_3 _ (zs4 (zs4 (zs1 (zs0))))) (al_3 _ (zs4 (zs4 (zs1 (zs1 (zs0)))))) (al_3 _ (zs4 (zs4 (zs1 (zs1 (zs1 (zs0))))))) (vl_A _ (in_24 _ (zs4 (zs4 (zs4 (zs1 (zs1 (zs1 (zs0))))))))) (vl_A _ (in_33 _ (zs4 (zs4 (zs4 (zs0))))))) rfl rfl rfl ⟨rfl, hz_yX13_ranked_2⟩ ⟨Nat.le_of_ble_eq_true rfl, Nat.le_of_ble_eq_true rfl⟩) ⟨HW_bl, va_recv F.km V.pm (ci := 14) (q0 := 0) rfl (V.hM.ob 0 (Nat.le_of_ble_eq_true rfl) rfl), HW_wi V.pm F.km V.dm V.hS F.hA F.hEV⟩ rfl rfl hl.1 rfl (lv_room (Nat.le_of_ble_eq_true rfl)) dL_law_1161 ⟨by show cn + 0 ≤ 601024; omega, by show sn + 0 ≤ 7293034; omega⟩) (fun r2 EM1 H locs hw2 V => ?_)
  have hRS := hRS.keep (cf' := cf) (E' := E1) rfl (fun i9 _ => xik hw1.2.1 (o := 64 * (i9 + 1) + 12) (j := 2) (by first | exact wl_p rfl rfl (by omega) | (simp [wl]; done) | (simp [wl]; omega))) (fun i9 _ => xik hw1.2.1 (o := 64 * (i9 + 1) + 12) (j := 3) (by first | exact wl_p rfl rfl (by omega) | (simp [wl]; done) | (simp [wl]; omega)))
  have hG9 := hG
  have hT9 := hT
  have hU9 := hU
  have hb9 : (xi (E 1) 1).toInt ≤ (xi (E1 1) 1).toInt := by rw [show xi (E1 1) 1 = xi (E 1) 1 from xik hw1.2.1 (o := 1) (j := 1) (by first | rfl | (simp [wl]; done) | (simp [wl]; omega))]; exact Int.le_refl _
  have hB := hB.keep (cf' := cf) (E' := E1) rfl hb9 (fun i9 _ => xik hw1.2.1 (o := 64 * (i9 + 1) + 0) (j := 0) (by first | exact wl_p rfl rfl (by omega) | (simp [wl]; done) | (simp [wl]; omega)))
  have hT := hT.keep (cf' := cf) (E' := E1) rfl (xik hw1.2.1 (o := 2) (j := 1) (by first | rfl | (simp [wl]; done) | (simp [wl]; omega))) (fun j9 => xik hw1.2.1 (o := 21) (j := j9) (by first | rfl | (simp [wl]; done) | (simp [wl]; omega))) (fun i9 j9 _ => xik hw1.2.1 (o := 64 * (i9 + 1) + 1) (j := j9) (by first | exact wl_p rfl rfl (by omega) | (simp [wl]; done) | (simp [wl]; omega))) (xik hw2.2.1 (o := 0) (j := 16) rfl) (xik hw2.2.1 (o := 0) (j := 17) rfl) (fun j9 => xik hw2.2.1 (o := 7) (j := j9) rfl) (fun j9 => xik hw2.2.1 (o := 10) (j := j9) rfl) (fun j9 => xik hw2.2.1 (o := 11) (j := j9) rfl)
  have hU := hU.keep (cf' := cf) (E' := E1) rfl (fun _ _ => ⟨rfl, rfl⟩) (fun i9 _ t9 _ _ j9 => xik hw1.2.1 (o := 64 * (i9 + 1) + t9) (j := j9) (by first | exact wl_p rfl rfl (by omega) | (simp [wl]; done) | (simp [wl]; omega))) (fun j9 => xik hw2.2.1 (o := 8) (j := j9) rfl) (fun j9 => xik hw2.2.1 (o := 9) (j := j9) rfl)
  have hG := hG.keep (cf' := cf) (E' := E1) rfl (fun i9 j9 _ => xik hw1.2.1 (o := 64 * (i9 + 1) + 14) (j := j9) (by first | exact wl_p rfl rfl (by omega) | (simp [wl]; done) | (simp [wl]; omega))) (fun j9 => xik hw2.2.1 (o := 51) (j := j9) rfl)
  have e0 : (xi (E 1) 0).toInt = (xi (EM 0) 1).toInt := congrArg Int32.toInt hR.now
  have e1 : (xi (E 1) 1).toInt = (xi (EM 0) 8).toInt := congrArg Int32.toInt hR.boats
  have e2 : (xi (E 1) 2).toInt = (xi (EM 0) 48).toInt := congrArg Int32.toInt hR.red
  obtain ⟨q0, q2, q3, q4, q5⟩ := hR.cnt
  have lm : (-1 : Int32).toInt = -1 := rfl
  have l0 : (0 : Int32).toInt = 0 := rfl
  have l1 : (1 : Int32).toInt = 1 := rfl
  have l2 : (2 : Int32).toInt = 2 := rfl
  have lk : (1000 : Int32).toInt = 1000 := rfl
  have hbr : (0 : Int) ≤ (xi (EM 0) 48).toInt ∧ (xi (EM 0) 48).toInt ≤ 20 := hM0.iv 0 (Nat.le_of_ble_eq_true rfl) rfl (Nat.le_of_ble_eq_true rfl) rfl
  have hbt : ∀ k : Nat, (k : Int) < (xi (EM 0) 48).toInt → 0 ≤ (xi (EM 31) k).toInt := fun k hk => (show (0 : Int) ≤ (xi (EM 31) k).toInt ∧ (xi (EM 31) k).toInt ≤ 400 from hM0.iv 31 (Nat.le_of_ble_eq_true rfl) (t := 1) (c := 0) (nf := 20) rfl (show k < 20 by omega) rfl).1
  have hd : r1.toInt = r2.toInt ∧ True := by
    obtain ⟨-, -, p1, p2⟩ := id hw1
    obtain ⟨-, -, m1, m2⟩ := id hw2
    exact ⟨rnk_eq hR hG9 (hU9.ru hT9) hM0 (by omega) (by omega) (by omega) (by omega) bb hbt bn p1 p2 m1 m2, trivial⟩
  have hR := hR.keep hcf k6 k7 k8 hp (kpS hw2.2.1 rfl) (kpR hw2.2.1 rfl)
  refine lv_pop hx hb dL_law_1164 rfl ?_
  refine lv_goto (tgt := 1859) hx hb dL_law_1165 (by decide) ?_
  exact W.widen (k := cn + 7) (n := sn + 3300) (by omega) (by omega) (tail _ _ _ _ _ _ _ _ V ⟨⟨⟨⟨⟨hR, hT⟩, hU⟩, hG⟩, hB⟩, hRS⟩ hl)
set_option maxHeartbeats 4000000 in
set_option maxRecDepth 100000 in
theorem law_case_22 {p : Program} {e : Env} {s : State} {m : MethodId} {below : List Frame} {meth : Method} {c : Code} (l : Launch) {b L : Nat} {xs : Nat → Int32} (hL : L ≤ 4096) (C0 : lw_At p s m meth c b L xs) {A : Nat → Prop} {ed : Nat} {dC : Nat → ClassId} {dI : Nat → Nat → Nat} {cT : Nat → ClassId} {cL : ClassId} (F : FX l s A ed dC dI cT cL) {x ou : Nat} {am cf ad : Nat → Nat} {E EM : Nat → va_E} {f : Nat → Int64} {H : Heap} {locs : List Loc} (V : INV s A ed dC dI cT cL x ou am cf ad E EM f H locs) (hR : REL15 cf E EM) {i : Int32} (hi0 : 0 ≤ i.toInt) (hi8 : i.toInt + 8 ≤ (L : Int)) {cn sn : Nat} (hcn : cn + 7 ≤ 601024) (hsn : sn + 3300 ≤ 7293034) (ls : Array Slot) (hl : lv_has ls 7 [(0, .ref b), (1, .ref x), (2, .ref (am 0)), (3, .ref ou), (4, .int i)]) (tail : (∀ (cf ad : Nat → Nat) (E EM : Nat → va_E) (f : Nat → Int64) (H : Heap) (locs : List Loc) (ls : Array Slot), INV s A ed dC dI cT cL x ou am cf ad E EM f H locs → REL15 cf E EM → lv_has ls 7 [(0, .ref b), (1, .ref x), (2, .ref (am 0)), (3, .ref ou), (4, .int i)] → W p l e room_1 s m #[Value.ref b] below meth c H locs (cn + 7) (sn + 3300) (lw_Z below #[Value.ref b] s) (F0 m 1859 ls []))) : W p l e room_1 s m #[Value.ref b] below meth c H locs cn sn (lw_Z below #[Value.ref b] s) (F0 m 1168 ls []) := by
  obtain ⟨hx, hb, hr, hml, hown, hts0, hX, hbl, hlocks, hgv⟩ := id C0
  have hts := fun w (h : w ∈ v_law) => hts0 w (v_law_in w h)
  have hbA : ¬ A b := F.hnA b hbl
  obtain rfl := V.hx
  obtain ⟨⟨⟨⟨⟨hR, hT⟩, hU⟩, hG⟩, hB⟩, hRS⟩ := hR
  refine lv_aload_n hx hb dL_law_1168 rfl (lv_at hl 1 rfl) ?_
  refine lv_aload_n hx hb dL_law_1169 rfl (lv_at hl 0 rfl) ?_
  refine lv_iload hx hb dL_law_1170 (lv_at hl 4 rfl) ?_
  refine lv_iconst (v := 1) hx hb dL_law_1172 (by decide) ?_
  refine lv_iadd hx hb dL_law_1173 ?_
  refine va_sld hx hb hX hbl hbA V.hS (law_in (k := 1) hi0 hi8 hL (by decide) rfl) dL_law_1174 ?_
  refine lv_aload_n hx hb dL_law_1175 rfl (lv_at hl 0 rfl) ?_
  refine lv_iload hx hb dL_law_1176 (lv_at hl 4 rfl) ?_
  refine lv_iconst (v := 2) hx hb dL_law_1178 (by decide) ?_
  refine lv_iadd hx hb dL_law_1179 ?_
  refine va_sld hx hb hX hbl hbA V.hS (law_in (k := 2) hi0 hi8 hL (by decide) rfl) dL_law_1180 ?_
  refine lv_aload_n hx hb dL_law_1181 rfl (lv_at hl 0 rfl) ?_
  refine lv_iload hx hb dL_law_1182 (lv_at hl 4 rfl) ?_
  refine lv_iconst (v := 3) hx hb dL_law_1184 (by decide) ?_
  refine lv_iadd hx hb dL_law_1185 ?_
  refine va_sld hx hb hX hbl hbA V.hS (law_in (k := 3) hi0 hi8 hL (by decide) rfl) dL_law_1186 ?_
  refine lv_aload_n hx hb dL_law_1187 rfl (lv_at hl 0 rfl) ?_
  refine lv_iload hx hb dL_law_1188 (lv_at hl 4 rfl) ?_
  refine lv_iconst (v := 4) hx hb dL_law_1190 (by decide) ?_
  refine lv_iadd hx hb dL_law_1191 ?_
  refine va_sld hx hb hX hbl hbA V.hS (law_in (k := 4) hi0 hi8 hL (by decide) rfl) dL_law_1192 ?_
  refine lv_aload_n hx hb dL_law_1193 rfl (lv_at hl 0 rfl) ?_
  refine lv_iload hx hb dL_law_1194 (lv_at hl 4 rfl) ?_
  refine lv_iconst (v := 5) hx hb dL_law_1196 (by decide) ?_
  refine lv_iadd hx hb dL_law_1197 ?_
  refine va_sld hx hb hX hbl hbA V.hS (law_in (k := 5) hi0 hi8 hL (by decide) rfl) dL_law_1198 ?_
  refine lv_aload_n hx hb dL_law_1199 rfl (lv_at hl 0 rfl) ?_
  refine lv_iload hx hb dL_law_1200 (lv_at hl 4 rfl) ?_
  refine lv_bipush (v := 6) hx hb dL_law_1202 (by decide) ?_
  refine lv_iadd hx hb dL_law_1204 ?_
  refine va_sld hx hb hX hbl hbA V.hS (law_in (k := 6) hi0 hi8 hL (by decide) rfl) dL_law_1205 ?_
  refine lv_aload_n hx hb dL_law_1206 rfl (lv_at hl 0 rfl) ?_
  refine lv_iload hx hb dL_law_1207 (lv_at hl 4 rfl) ?_
  refine lv_bipush (v := 7) hx hb dL_law_1209 (by decide) ?_
  refine lv_iadd hx hb dL_law_1211 ?_
  refine va_sld hx hb hX hbl hbA V.hS (law_in (k := 7) hi0 hi8 hL (by decide) rfl) dL_law_1212 ?_
  have hI0 := V.hI
  have hC0 := V.hC
  have hM0 := V.hM
  have bn : (0 : Int) ≤ (xi (E 1) 0).toInt ∧ (xi (E 1) 0).toInt ≤ 400 := hI0.iv 1 (mF 1 rfl) rfl (Nat.le_of_ble_eq_true rfl) rfl
  have bb : (0 : Int) ≤ (xi (E 1) 1).toInt ∧ (xi (E 1) 1).toInt ≤ 16 := hI0.iv 1 (mF 1 rfl) rfl (Nat.le_of_ble_eq_true rfl) rfl
  obtain ⟨⟨k0, k1, k2, k3, k4, k5⟩, -⟩ := id hC0
  refine lCm F V (fun r u h => (made_o h).1) (va_runV (As := [.int (xs (i + 1).toNatClampNeg), .int (xs (i + 2).toNatClampNeg), .int (xs (i + 3).toNatClampNeg), .int (xs (i + 4).toNatClampNeg), .int (xs (i + 5).toNatClampNeg), .int (xs (i + 6).toNatClampNeg), .int (xs (i + 7).toNatClampNeg)]) (rest := []) ⟨hx, hb, hml, hown, hts⟩ (q_u_word l dC dI cT cf V.hC ad E H.size (xs (i + 1).toNatClampNeg) (xs (i + 2).toNatClampNeg) (xs (i + 3).toNatClampNeg) (xs (i + 4).toNatClampNeg) (xs (i + 5).toNatClampNeg) (xs (i + 6).toNatClampNeg) (xs (i + 7).toNatClampNeg) V.hI) (cwV 7 hts (gl_V (al_3 _ (zs4 (zs4 (zs4 (zs0))))) (al_3 _ (zs4 (zs4 (zs4 (zs1 (zs0)))))) (al_3 _ (zs4 (zs4 (zs4 (zs1 (zs1 (zs0))))))) (vl_A _ (in_4 _ (zs16 (zs4 (zs1 (zs1 (zs1 (zs0)))))))) (vl_A _ (in_24 _ zs0))) rfl rfl rfl ⟨rfl, hz_yX12_word_7⟩ ⟨Nat.le_of_ble_eq_true rfl, Nat.le_of_ble_eq_true rfl⟩) ⟨HWL_bl, va_recv F.kc V.cp (ci := 13) (q0 := posL 0 (LC cf)) rfl (V.hI.ob 0 (mF 0 rfl) rfl), HWL_wi V.cp F.kc V.dc V.hS F.hA (V.ec F)⟩ rfl rfl hl.1 rfl (lv_room (Nat.le_of_ble_eq_true rfl)) dL_law_1213 ⟨by show cn + 2 ≤ 601024; omega, by show sn + 648 ≤ 7293034; omega⟩) (fun r1 cf1 ad1 E1 H locs hw1 V => ?_)
  refine lv_pop hx hb dL_law_1216 rfl ?_
  refine lv_aload_n hx hb dL_law_1217 rfl (lv_at hl 2 rfl) ?_
  refine lv_aload_n hx hb dL_law_1218 rfl (lv_at hl 0 rfl) ?_
  refine lv_iload hx hb dL_law_1219 (lv_at hl 4 rfl) ?_
  refine lv_iconst (v := 1) hx hb dL_law_1221 (by decide) ?_
  refine lv_iadd hx hb dL_law_1222 ?_
  refine va_sld hx hb hX hbl hbA V.hS (law_in (k := 1) hi0 hi8 hL (by decide) rfl) dL_law_1223 ?_
  refine lv_aload_n hx hb dL_law_1224 rfl (lv_at hl 0 rfl) ?_
  refine lv_iload hx hb dL_law_1225 (lv_at hl 4 rfl) ?_
  refine lv_iconst (v := 2) hx hb dL_law_1227 (by decide) ?_
  refine lv_iadd hx hb dL_law_1228 ?_
  refine va_sld hx hb hX hbl hbA V.hS (law_in (k := 2) hi0 hi8 hL (by decide) rfl) dL_law_1229 ?_
  refine lv_aload_n hx hb dL_law_1230 rfl (lv_at hl 0 rfl) ?_
  refine lv_iload hx hb dL_law_1231 (lv_at hl 4 rfl) ?_
  refine lv_iconst (v := 3) hx hb dL_law_1233 (by decide) ?_
  refine lv_iadd hx hb dL_law_1234 ?_
  refine va_sld hx hb hX hbl hbA V.hS (law_in (k := 3) hi0 hi8 hL (by decide) rfl) dL_law_1235 ?_
  refine lv_aload_n hx hb dL_law_1236 rfl (lv_at hl 0 rfl) ?_
  refine lv_iload hx hb dL_law_1237 (lv_at hl 4 rfl) ?_
  refine lv_iconst (v := 4) hx hb dL_law_1239 (by decide) ?_
  refine lv_iadd hx hb dL_law_1240 ?_
  refine va_sld hx hb hX hbl hbA V.hS (law_in (k := 4) hi0 hi8 hL (by decide) rfl) dL_law_1241 ?_
  refine lv_aload_n hx hb dL_law_1242 rfl (lv_at hl 0 rfl) ?_
  refine lv_iload hx hb dL_law_1243 (lv_at hl 4 rfl) ?_
  refine lv_iconst (v := 5) hx hb dL_law_1245 (by decide) ?_
  refine lv_iadd hx hb dL_law_1246 ?_
  refine va_sld hx hb hX hbl hbA V.hS (law_in (k := 5) hi0 hi8 hL (by decide) rfl) dL_law_1247 ?_
  refine lv_aload_n hx hb dL_law_1248 rfl (lv_at hl 0 rfl) ?_
  refine lv_iload hx hb dL_law_1249 (lv_at hl 4 rfl) ?_
  refine lv_bipush (v := 6) hx hb dL_law_1251 (by decide) ?_
  refine lv_iadd hx hb dL_law_1253 ?_
  refine va_sld hx hb hX hbl hbA V.hS (law_in (k := 6) hi0 hi8 hL (by decide) rfl) dL_law_1254 ?_
  refine lv_aload_n hx hb dL_law_1255 rfl (lv_at hl 0 rfl) ?_
  refine lv_iload hx hb dL_law_1256 (lv_at hl 4 rfl) ?_
  refine lv_bipush (v := 7) hx hb dL_law_1258 (by decide) ?_
  refine lv_iadd hx hb dL_law_1260 ?_
  refine va_sld hx hb hX hbl hbA V.hS (law_in (k := 7) hi0 hi8 hL (by decide) rfl) dL_law_1261 ?_
  refine lM F V (fun r u h => ⟨h.1, DIr_kp h.2.1 (fun _ => rfl) (fun _ => rfl) V.hDI⟩) (va_runV (As := [.int (xs (i + 1).toNatClampNeg), .int (xs (i + 2).toNatClampNeg), .int (xs (i + 3).toNatClampNeg), .int (xs (i + 4).toNatClampNeg), .int (xs (i + 5).toNatClampNeg), .int (xs (i + 6).toNatClampNeg), .int (xs (i + 7).toNatClampNeg)]) (rest := []) ⟨hx, hb, hml, hown, hts⟩ (q_wordR l dC dI cT am EM H.size (xs (i + 1).toNatClampNeg) (xs (i + 2).toNatClampNeg) (xs (i + 3).toNatClampNeg) (xs (i + 4).toNatClampNeg) (xs (i + 5).toNatClampNeg) (xs (i + 6).toNatClampNeg) (xs (i + 7).toNatClampNeg) V.hM) (cwV 7 hts (gl_V (al_3 _ (zs4 (zs4 (zs4 (zs1 (zs1 (zs1 (zs0)))))))) (al_3 _ (zs16 (zs0))) (al_3 _ (zs16 (zs1 (zs0)))) (vl_A _ (in_24 _ (zs4 (zs4 (zs4 (zs1 (zs1 (zs1 (zs0))))))))) (vl_A _ (in_33 _ (zs16 (zs16 (zs4 (zs1 (zs1 (zs0))))))))) rfl rfl rfl ⟨rfl, hz_yX13_word_7⟩ ⟨Nat.le_of_ble_eq_true rfl, Nat.le_of_ble_eq_true rfl⟩) ⟨HW_bl, va_recv F.km V.pm (ci := 14) (q0 := 0) rfl (V.hM.ob 0 (Nat.le_of_ble_eq_true rfl) rfl), HW_wi V.pm F.km V.dm V.hS F.hA F.hEV⟩ rfl rfl hl.1 rfl (lv_room (Nat.le_of_ble_eq_true rfl)) dL_law_1262 ⟨by show cn + 2 + 0 ≤ 601024; omega, by show sn + 648 + 0 ≤ 7293034; omega⟩) (fun r2 EM1 H locs hw2 V => ?_)
  have hs29 : ∀ i9, i9 < cf 3 → xi (E1 (64 * (i9 + 1) + 12)) 2 = xi (E (64 * (i9 + 1) + 12)) 2 := fun i9 hi9 => made_p hw1 (by decide) (fun o j ho => by first | exact wl_p rfl rfl (by omega) | (simp [wl]; done) | (simp [wl]; omega)) 12 i9 2 (by decide) hi9
  have hs39 : ∀ i9, i9 < cf 3 → xi (E1 (64 * (i9 + 1) + 12)) 3 = xi (E (64 * (i9 + 1) + 12)) 3 := fun i9 hi9 => made_p hw1 (by decide) (fun o j ho => by first | exact wl_p rfl rfl (by omega) | (simp [wl]; done) | (simp [wl]; omega)) 12 i9 3 (by decide) hi9
  have hRS := hRS.keep (cf' := cf1) (E' := E1) (made_c hw1 3 (by decide) (by decide)) hs29 hs39
  have hb9 : xi (E1 1) 1 = xi (E 1) 1 := congrArg vi ((made_o hw1).2 1 (by first | rfl | (simp [wl]; done) | (simp [wl]; omega)))
  have hk9 : ∀ i9, i9 < cf 0 → xi (E1 (64 * (i9 + 1) + 0)) 0 = xi (E (64 * (i9 + 1) + 0)) 0 := fun i9 hi9 => made_p hw1 (by decide) (fun o j ho => by first | exact wl_p rfl rfl (by omega) | (simp [wl]; done) | (simp [wl]; omega)) 0 i9 0 (by decide) hi9
  have hB := hB.keep (cf' := cf1) (E' := E1) (made_c hw1 0 (by decide) (by decide)) (by rw [hb9]; exact Int.le_refl _) hk9
  have hT := hT.keep (cf' := cf1) (E' := E1) (made_c hw1 1 (by decide) (by decide)) (made_f hw1 (o := 2) (j := 1) (by decide) (by first | rfl | (simp [wl]; done) | (simp [wl]; omega))) (fun j9 => made_f hw1 (o := 21) (j := j9) (by decide) (by first | rfl | (simp [wl]; done) | (simp [wl]; omega))) (fun i9 j9 hi9 => made_p hw1 (by decide) (fun o j ho => by first | exact wl_p rfl rfl (by omega) | (simp [wl]; done) | (simp [wl]; omega)) 1 i9 j9 (by decide) hi9) (xik hw2.2.1 (o := 0) (j := 16) rfl) (xik hw2.2.1 (o := 0) (j := 17) rfl) (fun j9 => xik hw2.2.1 (o := 7) (j := j9) rfl) (fun j9 => xik hw2.2.1 (o := 10) (j := j9) rfl) (fun j9 => xik hw2.2.1 (o := 11) (j := j9) rfl)
  have hU := hU.keep (cf' := cf1) (E' := E1) (made_c hw1 1 (by decide) (by decide)) (fun i9 _ => made_8 hw1 (by decide) i9) (fun i9 hi9 t9 g1 g2 j9 => made_p hw1 (by decide) (fun o j ho => by first | exact wl_p rfl rfl (by omega) | (simp [wl]; done) | (simp [wl]; omega)) t9 i9 j9 (by omega) (by rw [kl1 t9 g1 g2]; exact hi9)) (fun j9 => xik hw2.2.1 (o := 8) (j := j9) rfl) (fun j9 => xik hw2.2.1 (o := 9) (j := j9) rfl)
  have hG := hG.keep (cf' := cf1) (E' := E1) (made_c hw1 5 (by decide) (by decide)) (fun i9 j9 hi9 => made_p hw1 (by decide) (fun o j ho => by first | exact wl_p rfl rfl (by omega) | (simp [wl]; done) | (simp [wl]; omega)) 14 i9 j9 (by decide) hi9) (fun j9 => xik hw2.2.1 (o := 51) (j := j9) rfl)
  have e0 : (xi (E 1) 0).toInt = (xi (EM 0) 1).toInt := congrArg Int32.toInt hR.now
  have e1 : (xi (E 1) 1).toInt = (xi (EM 0) 8).toInt := congrArg Int32.toInt hR.boats
  have e2 : (xi (E 1) 2).toInt = (xi (EM 0) 48).toInt := congrArg Int32.toInt hR.red
  obtain ⟨q0, q2, q3, q4, q5⟩ := hR.cnt
  have lm : (-1 : Int32).toInt = -1 := rfl
  have l0 : (0 : Int32).toInt = 0 := rfl
  have l1 : (1 : Int32).toInt = 1 := rfl
  have l2 : (2 : Int32).toInt = 2 := rfl
  have lk : (1000 : Int32).toInt = 1000 := rfl
  have hpn := fun (b : Int32) (h1 : 0 ≤ (xs (i + 1).toNatClampNeg).toInt ∧ (xs (i + 1).toNatClampNeg).toInt < ((cf 2 : Nat) : Int)) (h2 : 0 ≤ b.toInt ∧ b.toInt < 16) => pen hR.en hM0 bn (by omega) (xs (i + 1).toNatClampNeg) b h1 h2
  have kk0 : xi (E1 1) 0 = xi (E 1) 0 := congrArg vi ((made_o hw1).2 0 (by first | rfl | (simp [wl]; done) | (simp [wl]; omega)))
  have kk1 : xi (E1 1) 1 = xi (E 1) 1 := congrArg vi ((made_o hw1).2 1 (by first | rfl | (simp [wl]; done) | (simp [wl]; omega)))
  have kk2 : xi (E1 1) 2 = xi (E 1) 2 := congrArg vi ((made_o hw1).2 2 (by first | rfl | (simp [wl]; done) | (simp [wl]; omega)))
  have hn0 : (xi (E 1) 0).toInt ≤ (xi (E1 1) 0).toInt := by rw [kk0]; exact Int.le_refl _
  have hb0 : (xi (E 1) 1).toInt ≤ (xi (E1 1) 1).toInt := by rw [kk1]; exact Int.le_refl _
  have hp : PK X0 cf E E1 := fun t i j ht _ _ hi => made_p hw1 (by decide) (fun o j ho => by first | exact wl_p rfl rfl (by omega) | (simp [wl]; done) | (simp [wl]; omega)) t i j ht hi
  have hst : ENst (cf 2) E E1 := ENst.of (fun i j hi => hp 7 i j (by decide) (by decide) rfl hi)
  have hsx := kpSx [74] hw2.2.1 rfl
  have hrx := kpRx [38, 39, 40, 41, 42, 43, 44, 45] hw2.2.1 rfl
  have hcJ : ∀ j, j < 6 → j ≠ 4 → cf1 j = cf j := made_c hw1
  have hd : r1.toInt = r2.toInt ∧ REL cf1 E1 EM1 := by
    obtain ⟨-, -, ⟨m1, m2⟩, ⟨m3, m4⟩⟩ := id hw2
    have hN : (xi (EM 0) 74).toNatClampNeg = cf 4 := by rw [tn_]; omega
    by_cases gm : (0 ≤ (xs (i + 1).toNatClampNeg).toInt ∧ (xs (i + 1).toNatClampNeg).toInt < (xi (EM 0) 46).toInt) ∧ (0 ≤ (xs (i + 2).toNatClampNeg).toInt ∧ (xs (i + 2).toNatClampNeg).toInt < (xi (EM 0) 8).toInt) ∧ (xi (EM 21) (16 * (xs (i + 1).toNatClampNeg).toInt + (xs (i + 2).toNatClampNeg).toInt).toNat).toInt ≤ (xi (EM 0) 1).toInt ∧ (0 ≤ (xs (i + 3).toNatClampNeg).toInt ∧ (xs (i + 3).toNatClampNeg).toInt ≤ 100000) ∧ (0 ≤ (xs (i + 6).toNatClampNeg).toInt ∧ (xs (i + 6).toNatClampNeg).toInt ≤ 3) ∧ (1 ≤ (xs (i + 7).toNatClampNeg).toInt ∧ (xs (i + 7).toNatClampNeg).toInt ≤ 255) ∧ (0 ≤ (xs (i + 4).toNatClampNeg).toInt ∧ (xs (i + 4).toNatClampNeg).toInt ≤ 99 - (xs (i + 6).toNatClampNeg).toInt) ∧ (0 ≤ (xs (i + 5).toNatClampNeg).toInt ∧ (xs (i + 5).toNatClampNeg).toInt ≤ 99 - (xs (i + 6).toNatClampNeg).toInt) ∧ (xi (EM 0) 74).toInt < 200
    · have h2 := m1 gm
      obtain ⟨b38, b39, b40, b41, b42, b43, b44, b45⟩ := m3 gm
      rcases hw1.2.2 with ⟨c1, -, -, n1, n2⟩ | ⟨g, -, -, y1, y2, y3⟩
      · exfalso; have hp0 := hpn (xs (i + 2).toNatClampNeg) (by omega) (by omega); omega
      · have g1 : cf1 4 = cf 4 + 1 := g.1
        rw [hN] at b38 b39 b40 b41 b42 b43 b44 b45
        have yc : E1 (64 * (cf 4 + 1) + 13) = _ := y3
        have f0 : xi (E1 (64 * (cf 4 + 1) + 13)) 0 = ((xs (i + 1).toNatClampNeg) : Int32) := by rw [yc]; rfl
        have f1 : xi (E1 (64 * (cf 4 + 1) + 13)) 1 = ((xs (i + 2).toNatClampNeg) : Int32) := by rw [yc]; rfl
        have f2 : xi (E1 (64 * (cf 4 + 1) + 13)) 2 = (xi (E 1) 0 : Int32) := by rw [yc]; rfl
        have f3 : xi (E1 (64 * (cf 4 + 1) + 13)) 3 = ((xs (i + 3).toNatClampNeg) : Int32) := by rw [yc]; rfl
        have f4 : xi (E1 (64 * (cf 4 + 1) + 13)) 4 = ((xs (i + 4).toNatClampNeg) : Int32) := by rw [yc]; rfl
        have f5 : xi (E1 (64 * (cf 4 + 1) + 13)) 5 = ((xs (i + 5).toNatClampNeg) : Int32) := by rw [yc]; rfl
        have f6 : xi (E1 (64 * (cf 4 + 1) + 13)) 6 = ((xs (i + 6).toNatClampNeg) : Int32) := by rw [yc]; rfl
        have f7 : xi (E1 (64 * (cf 4 + 1) + 13)) 7 = ((xs (i + 7).toNatClampNeg) : Int32) := by rw [yc]; rfl
        have t0 : xi (E1 (64 * ((xs (i + 1).toNatClampNeg).toNatClampNeg + 1) + 7)) (xs (i + 2).toNatClampNeg).toNatClampNeg = xi (E (64 * ((xs (i + 1).toNatClampNeg).toNatClampNeg + 1) + 7)) (xs (i + 2).toNatClampNeg).toNatClampNeg := hp 7 _ _ (by decide) (by decide) rfl (show (xs (i + 1).toNatClampNeg).toNatClampNeg < cf 2 by rw [tn_ (xs (i + 1).toNatClampNeg)]; omega)
        refine ⟨by omega, ?_⟩
        exact ⟨(kk0.trans hR.now).trans ((hsx 1 (by decide) rfl)).symm,
          (kk1.trans hR.boats).trans ((hsx 8 (by decide) rfl)).symm,
          (kk2.trans hR.red).trans ((hsx 48 (by decide) rfl)).symm,
          ⟨(by have c9 : cf1 0 = cf 0 := hcJ 0 (by decide) (by decide); have d9 := congrArg Int32.toInt (hsx 9 (by decide) rfl); omega), (by have c9 : cf1 2 = cf 2 := hcJ 2 (by decide) (by decide); have d9 := congrArg Int32.toInt (hsx 46 (by decide) rfl); omega), (by have c9 : cf1 3 = cf 3 := hcJ 3 (by decide) (by decide); have d9 := congrArg Int32.toInt (hsx 47 (by decide) rfl); omega), (by omega), (by have c9 : cf1 5 = cf 5 := hcJ 5 (by decide) (by decide); have d9 := congrArg Int32.toInt (hsx 75 (by decide) rfl); omega)⟩,
          EN.m (EM' := EM1) (EN.k (E' := E1) hR.en (hcJ 2 (by decide) (by decide)) (fun i j hi => hp 7 i j (by decide) (by decide) rfl hi)) (hrx 21 (by decide) rfl),
          (TBj.km (TBj.kc (E' := E1) hR.tb0 (hcJ 0 (by decide) (by decide)) (hp.tb (J := 0) rfl)) (fun q hq j => (show ∀ r ∈ [1, 2, 3, 4, 5, 6], ∀ j, xi (EM1 r) j = xi (EM r) j from fun r hr9 => by simp only [List.mem_cons, List.not_mem_nil, or_false] at hr9; rcases hr9 with rfl | rfl | rfl | rfl | rfl | rfl; exact (hrx 1 (by decide) rfl); exact (hrx 2 (by decide) rfl); exact (hrx 3 (by decide) rfl); exact (hrx 4 (by decide) rfl); exact (hrx 5 (by decide) rfl); exact (hrx 6 (by decide) rfl)) _ (tbm0 q hq) j)),
          (TBj.km (TBj.kc (E' := E1) hR.tb2 (hcJ 2 (by decide) (by decide)) (hp.tb (J := 2) rfl)) (fun q hq j => (show ∀ r ∈ [20, 13, 14, 15, 16, 17, 18], ∀ j, xi (EM1 r) j = xi (EM r) j from fun r hr9 => by simp only [List.mem_cons, List.not_mem_nil, or_false] at hr9; rcases hr9 with rfl | rfl | rfl | rfl | rfl | rfl | rfl; exact (hrx 20 (by decide) rfl); exact (hrx 13 (by decide) rfl); exact (hrx 14 (by decide) rfl); exact (hrx 15 (by decide) rfl); exact (hrx 16 (by decide) rfl); exact (hrx 17 (by decide) rfl); exact (hrx 18 (by decide) rfl)) _ (tbm2 q hq) j)),
          (TBj.km (TBj.kc (E' := E1) hR.tb3 (hcJ 3 (by decide) (by decide)) (hp.tb (J := 3) rfl)) (fun q hq j => (show ∀ r ∈ [24, 25, 26, 27, 28], ∀ j, xi (EM1 r) j = xi (EM r) j from fun r hr9 => by simp only [List.mem_cons, List.not_mem_nil, or_false] at hr9; rcases hr9 with rfl | rfl | rfl | rfl | rfl; exact (hrx 24 (by decide) rfl); exact (hrx 25 (by decide) rfl); exact (hrx 26 (by decide) rfl); exact (hrx 27 (by decide) rfl); exact (hrx 28 (by decide) rfl)) _ (tbm3 q hq) j)),
          (by rw [g1]; exact TBj.push hR.tb4 (hp.tb (J := 4) rfl) (fun q hq i hi => by simp only [tb4, List.mem_cons, List.not_mem_nil, or_false] at hq; rcases hq with rfl | rfl | rfl | rfl | rfl | rfl | rfl | rfl; exact ((congrFun b38 i).trans (upd_n (by omega))); exact ((congrFun b39 i).trans (upd_n (by omega))); exact ((congrFun b45 i).trans (upd_n (by omega))); exact ((congrFun b40 i).trans (upd_n (by omega))); exact ((congrFun b41 i).trans (upd_n (by omega))); exact ((congrFun b42 i).trans (upd_n (by omega))); exact ((congrFun b43 i).trans (upd_n (by omega))); exact ((congrFun b44 i).trans (upd_n (by omega)))) (fun q hq => by simp only [tb4, List.mem_cons, List.not_mem_nil, or_false] at hq; rcases hq with rfl | rfl | rfl | rfl | rfl | rfl | rfl | rfl; exact (f0.trans (((congrFun b38 _).trans pk_us).symm)); exact (f1.trans (((congrFun b39 _).trans pk_us).symm)); exact (f2.trans (hR.now.trans ((congrFun b45 _).trans pk_us).symm)); exact (f3.trans (((congrFun b40 _).trans pk_us).symm)); exact (f4.trans (((congrFun b41 _).trans pk_us).symm)); exact (f5.trans (((congrFun b42 _).trans pk_us).symm)); exact (f6.trans (((congrFun b43 _).trans pk_us).symm)); exact (f7.trans (((congrFun b44 _).trans pk_us).symm)))),
          (TBj.km (TBj.kc (E' := E1) hR.tb5 (hcJ 5 (by decide) (by decide)) (hp.tb (J := 5) rfl)) (fun q hq j => (show ∀ r ∈ [46, 47, 48, 49, 50], ∀ j, xi (EM1 r) j = xi (EM r) j from fun r hr9 => by simp only [List.mem_cons, List.not_mem_nil, or_false] at hr9; rcases hr9 with rfl | rfl | rfl | rfl | rfl; exact (hrx 46 (by decide) rfl); exact (hrx 47 (by decide) rfl); exact (hrx 48 (by decide) rfl); exact (hrx 49 (by decide) rfl); exact (hrx 50 (by decide) rfl)) _ (tbm5 q hq) j)),
          (hR.eb.kc (hcJ 2 (by decide) (by decide)) hn0 hb0 (fun i hi => hp 6 i 0 (by decide) (by decide) rfl hi) (fun i j hi => hp 7 i j (by decide) (by decide) rfl hi)),
          RD.km (RD.kc (E' := E1) hR.rd (hcJ 2 (by decide) (by decide)) hn0 (fun i j hi => hp 8 i j (by decide) (by decide) rfl hi)) (hsx 48 (by decide) rfl) (hrx 29 (by decide) rfl) (hrx 30 (by decide) rfl) (hrx 31 (by decide) rfl),
          ST.km (ST.kc (E' := E1) hR.st (hcJ 2 (by decide) (by decide)) hb0 (fun i j hi => hp 9 i j (by decide) (by decide) rfl hi) (fun i j hi => hp 10 i j (by decide) (by decide) rfl hi)) (hrx 22 (by decide) rfl) (hrx 23 (by decide) rfl),
          SW.km (SW.kc (E' := E1) hR.sw (hcJ 2 (by decide) (by decide)) hn0 (fun i hi => hp 6 i 0 (by decide) (by decide) rfl hi) (fun i j hi => hp 11 i j (by decide) (by decide) rfl hi)) (hrx 19 (by decide) rfl),
          DC.km (DC.kc (E' := E1) hR.dc (hcJ 5 (by decide) (by decide)) hn0 (fun i j hi => hp 14 i j (by decide) (by decide) rfl hi)) (hrx 52 (by decide) rfl) (hrx 53 (by decide) rfl) (hrx 54 (by decide) rfl) (hrx 55 (by decide) rfl),
          (hR.tn0.kc (hcJ 0 (by decide) (by decide)) hn0 (hp.tn (J := 0) rfl)),
          (hR.tn2.kc (hcJ 2 (by decide) (by decide)) hn0 (hp.tn (J := 2) rfl)),
          (hR.tn3.kc (hcJ 3 (by decide) (by decide)) hn0 (hp.tn (J := 3) rfl)),
          (by rw [g1]; exact TNj.push hR.tn4 hn0 (hp.tn (J := 4) rfl) (fun q hq => by simp only [List.mem_cons, List.not_mem_nil, or_false] at hq; rcases hq with rfl; exact ((by show (xi (E1 (64 * (cf 4 + 1) + 13)) 2).toInt ≤ _; rw [f2, kk0]; exact Int.le_refl _)))),
          (hR.tn5.kc (hcJ 5 (by decide) (by decide)) hn0 (hp.tn (J := 5) rfl)),
          (hR.rmo.kc (hcJ 2 (by decide) (by decide)) (fun i hi => hp 6 i 0 (by decide) (by decide) rfl hi)),
          (hR.er3.kc (hcJ 3 (by decide) (by decide)) (Nat.le_of_eq ((hcJ 2 (by decide) (by decide))).symm) hst (hp.er (J := 3) rfl)),
          (by rw [g1]; exact ERj.push hR.er4 (Nat.le_of_eq (hcJ 2 (by decide) (by decide)).symm) hst (hp.er (J := 4) rfl) (fun q hq => by simp only [List.mem_cons, List.not_mem_nil, or_false] at hq; rcases hq with rfl; exact (⟨_, _, _, f0, f1, f2, ⟨by omega, by rw [(hcJ 2 (by decide) (by decide))]; omega⟩, ⟨by omega, by omega⟩, by rw [t0]; omega, by rw [t0]; omega⟩))),
          (hR.er5.kc (hcJ 5 (by decide) (by decide)) (Nat.le_of_eq ((hcJ 2 (by decide) (by decide))).symm) hst (hp.er (J := 5) rfl)),
          (hR.pne.kc (hcJ 5 (by decide) (by decide)) (fun i hi => hp 14 i 1 (by decide) (by decide) rfl hi) (fun i hi => hp 14 i 2 (by decide) (by decide) rfl hi)),
          DZ.km (DZ.kc (cf' := _) hR.dz (Nat.le_of_eq ((hcJ 5 (by decide) (by decide))).symm)) (hrx 54 (by decide) rfl) (hrx 55 (by decide) rfl),
          RRo.km (RRo.kc (cf' := _) hR.rro (Nat.le_of_eq ((hcJ 2 (by decide) (by decide))).symm)) (hsx 48 (by decide) rfl) (hrx 29 (by decide) rfl)⟩
    · have h2 := m2 gm
      obtain ⟨b38, b39, b40, b41, b42, b43, b44, b45⟩ := m4 gm
      rcases hw1.2.2 with ⟨c1, -, -, n1, n2⟩ | ⟨g, -, -, y1, y2, y3⟩
      · have n3 := congrArg Int32.toInt n1
        refine ⟨by omega, ?_⟩
        exact hR.keep (fun j _ _ => congrFun c1 j) kk0 kk1 kk2 hp (kpSy [74] (kpSx [74] hw2.2.1 rfl) (fun j hq => by simp only [List.mem_cons, List.not_mem_nil, or_false] at hq; rcases hq with rfl; exact (Int32.toInt_inj.mp h2.2))) (kpRy [38, 39, 40, 41, 42, 43, 44, 45] (kpRx [38, 39, 40, 41, 42, 43, 44, 45] hw2.2.1 rfl) (fun r hq j => by simp only [List.mem_cons, List.not_mem_nil, or_false] at hq; rcases hq with rfl | rfl | rfl | rfl | rfl | rfl | rfl | rfl; exact (congrFun b38 j); exact (congrFun b39 j); exact (congrFun b40 j); exact (congrFun b41 j); exact (congrFun b42 j); exact (congrFun b43 j); exact (congrFun b44 j); exact (congrFun b45 j)))
      · exfalso; have hp0 := hpn (xs (i + 2).toNatClampNeg) (by omega) (by omega); omega
  have hR := hd.2
  refine lv_pop hx hb dL_law_1265 rfl ?_
  refine lv_goto (tgt := 1859) hx hb dL_law_1266 (by decide) ?_
  exact W.widen (k := cn + 7) (n := sn + 3300) (by omega) (by omega) (tail _ _ _ _ _ _ _ _ V ⟨⟨⟨⟨⟨hR, hT⟩, hU⟩, hG⟩, hB⟩, hRS⟩ hl)
set_option maxHeartbeats 4000000 in
set_option maxRecDepth 100000 in
theorem law_case_23 {p : Program} {e : Env} {s : State} {m : MethodId} {below : List Frame} {meth : Method} {c : Code} (l : Launch) {b L : Nat} {xs : Nat → Int32} (hL : L ≤ 4096) (C0 : lw_At p s m meth c b L xs) {A : Nat → Prop} {ed : Nat} {dC : Nat → ClassId} {dI : Nat → Nat → Nat} {cT : Nat → ClassId} {cL : ClassId} (F : FX l s A ed dC dI cT cL) {x ou : Nat} {am cf ad : Nat → Nat} {E EM : Nat → va_E} {f : Nat → Int64} {H : Heap} {locs : List Loc} (V : INV s A ed dC dI cT cL x ou am cf ad E EM f H locs) (hR : REL15 cf E EM) {i : Int32} (hi0 : 0 ≤ i.toInt) (hi8 : i.toInt + 8 ≤ (L : Int)) {cn sn : Nat} (hcn : cn + 7 ≤ 601024) (hsn : sn + 3300 ≤ 7293034) (ls : Array Slot) (hl : lv_has ls 7 [(0, .ref b), (1, .ref x), (2, .ref (am 0)), (3, .ref ou), (4, .int i)]) (tail : (∀ (cf ad : Nat → Nat) (E EM : Nat → va_E) (f : Nat → Int64) (H : Heap) (locs : List Loc) (ls : Array Slot), INV s A ed dC dI cT cL x ou am cf ad E EM f H locs → REL15 cf E EM → lv_has ls 7 [(0, .ref b), (1, .ref x), (2, .ref (am 0)), (3, .ref ou), (4, .int i)] → W p l e room_1 s m #[Value.ref b] below meth c H locs (cn + 7) (sn + 3300) (lw_Z below #[Value.ref b] s) (F0 m 1859 ls []))) : W p l e room_1 s m #[Value.ref b] below meth c H locs cn sn (lw_Z below #[Value.ref b] s) (F0 m 1269 ls []) := by
  obtain ⟨hx, hb, hr, hml, hown, hts0, hX, hbl, hlocks, hgv⟩ := id C0
  have hts := fun w (h : w ∈ v_law) => hts0 w (v_law_in w h)
  have hbA : ¬ A b := F.hnA b hbl
  obtain rfl := V.hx
  obtain ⟨⟨⟨⟨⟨hR, hT⟩, hU⟩, hG⟩, hB⟩, hRS⟩ := hR
  refine lv_aload_n hx hb dL_law_1269 rfl (lv_at hl 1 rfl) ?_
  refine lv_aload_n hx hb dL_law_1270 rfl (lv_at hl 0 rfl) ?_
  refine lv_iload hx hb dL_law_1271 (lv_at hl 4 rfl) ?_
  refine lv_iconst (v := 1) hx hb dL_law_1273 (by decide) ?_
  refine lv_iadd hx hb dL_law_1274 ?_
  refine va_sld hx hb hX hbl hbA V.hS (law_in (k := 1) hi0 hi8 hL (by decide) rfl) dL_law_1275 ?_
  refine lv_aload_n hx hb dL_law_1276 rfl (lv_at hl 0 rfl) ?_
  refine lv_iload hx hb dL_law_1277 (lv_at hl 4 rfl) ?_
  refine lv_iconst (v := 2) hx hb dL_law_1279 (by decide) ?_
  refine lv_iadd hx hb dL_law_1280 ?_
  refine va_sld hx hb hX hbl hbA V.hS (law_in (k := 2) hi0 hi8 hL (by decide) rfl) dL_law_1281 ?_
  refine lv_aload_n hx hb dL_law_1282 rfl (lv_at hl 0 rfl) ?_
  refine lv_iload hx hb dL_law_1283 (lv_at hl 4 rfl) ?_
  refine lv_iconst (v := 3) hx hb dL_law_1285 (by decide) ?_
  refine lv_iadd hx hb dL_law_1286 ?_
  refine va_sld hx hb hX hbl hbA V.hS (law_in (k := 3) hi0 hi8 hL (by decide) rfl) dL_law_1287 ?_
  refine lv_aload_n hx hb dL_law_1288 rfl (lv_at hl 0 rfl) ?_
  refine lv_iload hx hb dL_law_1289 (lv_at hl 4 rfl) ?_
  refine lv_iconst (v := 4) hx hb dL_law_1291 (by decide) ?_
  refine lv_iadd hx hb dL_law_1292 ?_
  refine va_sld hx hb hX hbl hbA V.hS (law_in (k := 4) hi0 hi8 hL (by decide) rfl) dL_law_1293 ?_
  have hI0 := V.hI
  have hC0 := V.hC
  have hM0 := V.hM
  have bn : (0 : Int) ≤ (xi (E 1) 0).toInt ∧ (xi (E 1) 0).toInt ≤ 400 := hI0.iv 1 (mF 1 rfl) rfl (Nat.le_of_ble_eq_true rfl) rfl
  have bb : (0 : Int) ≤ (xi (E 1) 1).toInt ∧ (xi (E 1) 1).toInt ≤ 16 := hI0.iv 1 (mF 1 rfl) rfl (Nat.le_of_ble_eq_true rfl) rfl
  obtain ⟨⟨k0, k1, k2, k3, k4, k5⟩, -⟩ := id hC0
  refine lCm F V (fun r u h => (made_o h).1) (va_runV (As := [.int (xs (i + 1).toNatClampNeg), .int (xs (i + 2).toNatClampNeg), .int (xs (i + 3).toNatClampNeg), .int (xs (i + 4).toNatClampNeg)]) (rest := []) ⟨hx, hb, hml, hown, hts⟩ (q_u_protest l dC dI cT cf V.hC ad E H.size (xs (i + 1).toNatClampNeg) (xs (i + 2).toNatClampNeg) (xs (i + 3).toNatClampNeg) (xs (i + 4).toNatClampNeg) V.hI) (cwV 4 hts (gl_V (al_3 _ (zs16 (zs1 (zs1 (zs0))))) (al_3 _ (zs16 (zs1 (zs1 (zs1 (zs0)))))) (al_3 _ (zs16 (zs4 (zs0)))) (vl_A _ (in_4 _ (zs16 (zs4 (zs1 (zs1 (zs1 (zs0)))))))) (vl_A _ (in_20 _ (zs16 (zs16 (zs1 (zs1 (zs0)))))))) rfl rfl rfl ⟨rfl, hz_yX12_protest_4⟩ ⟨Nat.le_of_ble_eq_true rfl, Nat.le_of_ble_eq_true rfl⟩) ⟨HWL_bl, va_recv F.kc V.cp (ci := 13) (q0 := posL 0 (LC cf)) rfl (V.hI.ob 0 (mF 0 rfl) rfl), HWL_wi V.cp F.kc V.dc V.hS F.hA (V.ec F)⟩ rfl rfl hl.1 rfl (lv_room (Nat.le_of_ble_eq_true rfl)) dL_law_1294 ⟨by show cn + 2 ≤ 601024; omega, by show sn + 650 ≤ 7293034; omega⟩) (fun r1 cf1 ad1 E1 H locs hw1 V => ?_)
  refine lv_pop hx hb dL_law_1297 rfl ?_
  refine lv_aload_n hx hb dL_law_1298 rfl (lv_at hl 2 rfl) ?_
  refine lv_aload_n hx hb dL_law_1299 rfl (lv_at hl 0 rfl) ?_
  refine lv_iload hx hb dL_law_1300 (lv_at hl 4 rfl) ?_
  refine lv_iconst (v := 1) hx hb dL_law_1302 (by decide) ?_
  refine lv_iadd hx hb dL_law_1303 ?_
  refine va_sld hx hb hX hbl hbA V.hS (law_in (k := 1) hi0 hi8 hL (by decide) rfl) dL_law_1304 ?_
  refine lv_aload_n hx hb dL_law_1305 rfl (lv_at hl 0 rfl) ?_
  refine lv_iload hx hb dL_law_1306 (lv_at hl 4 rfl) ?_
  refine lv_iconst (v := 2) hx hb dL_law_1308 (by decide) ?_
  refine lv_iadd hx hb dL_law_1309 ?_
  refine va_sld hx hb hX hbl hbA V.hS (law_in (k := 2) hi0 hi8 hL (by decide) rfl) dL_law_1310 ?_
  refine lv_aload_n hx hb dL_law_1311 rfl (lv_at hl 0 rfl) ?_
  refine lv_iload hx hb dL_law_1312 (lv_at hl 4 rfl) ?_
  refine lv_iconst (v := 3) hx hb dL_law_1314 (by decide) ?_
  refine lv_iadd hx hb dL_law_1315 ?_
  refine va_sld hx hb hX hbl hbA V.hS (law_in (k := 3) hi0 hi8 hL (by decide) rfl) dL_law_1316 ?_
  refine lv_aload_n hx hb dL_law_1317 rfl (lv_at hl 0 rfl) ?_
  refine lv_iload hx hb dL_law_1318 (lv_at hl 4 rfl) ?_
  refine lv_iconst (v := 4) hx hb dL_law_1320 (by decide) ?_
  refine lv_iadd hx hb dL_law_1321 ?_
  refine va_sld hx hb hX hbl hbA V.hS (law_in (k := 4) hi0 hi8 hL (by decide) rfl) dL_law_1322 ?_
  refine lM F V (fun r u h => ⟨h.1, DIr_kp h.2.1 (fun _ => rfl) (fun _ => rfl) V.hDI⟩) (va_runV (As := [.int (xs (i + 1).toNatClampNeg), .int (xs (i + 2).toNatClampNeg), .int (xs (i + 3).toNatClampNeg), .int (xs (i + 4).toNatClampNeg)]) (rest := []) ⟨hx, hb, hml, hown, hts⟩ (q_protestR l dC dI cT am EM H.size (xs (i + 1).toNatClampNeg) (xs (i + 2).toNatClampNeg) (xs (i + 3).toNatClampNeg) (xs (i + 4).toNatClampNeg) V.hM) (cwV 4 hts (gl_V (al_3 _ (zs16 (zs4 (zs1 (zs0))))) (al_3 _ (zs16 (zs4 (zs1 (zs1 (zs0)))))) (al_3 _ (zs16 (zs4 (zs1 (zs1 (zs1 (zs0))))))) (vl_A _ (in_24 _ (zs4 (zs4 (zs4 (zs1 (zs1 (zs1 (zs0))))))))) (vl_A _ (in_33 _ (zs4 (zs1 (zs1 (zs0))))))) rfl rfl rfl ⟨rfl, hz_yX13_protest_4⟩ ⟨Nat.le_of_ble_eq_true rfl, Nat.le_of_ble_eq_true rfl⟩) ⟨HW_bl, va_recv F.km V.pm (ci := 14) (q0 := 0) rfl (V.hM.ob 0 (Nat.le_of_ble_eq_true rfl) rfl), HW_wi V.pm F.km V.dm V.hS F.hA F.hEV⟩ rfl rfl hl.1 rfl (lv_room (Nat.le_of_ble_eq_true rfl)) dL_law_1323 ⟨by show cn + 2 + 0 ≤ 601024; omega, by show sn + 650 + 0 ≤ 7293034; omega⟩) (fun r2 EM1 H locs hw2 V => ?_)
  have hs29 : ∀ i9, i9 < cf 3 → xi (E1 (64 * (i9 + 1) + 12)) 2 = xi (E (64 * (i9 + 1) + 12)) 2 := fun i9 hi9 => made_p hw1 (by decide) (fun o j ho => by first | exact wl_p rfl rfl (by omega) | (simp [wl]; done) | (simp [wl]; omega)) 12 i9 2 (by decide) hi9
  have hs39 : ∀ i9, i9 < cf 3 → xi (E1 (64 * (i9 + 1) + 12)) 3 = xi (E (64 * (i9 + 1) + 12)) 3 := fun i9 hi9 => made_p hw1 (by decide) (fun o j ho => by first | exact wl_p rfl rfl (by omega) | (simp [wl]; done) | (simp [wl]; omega)) 12 i9 3 (by decide) hi9
  have hRS := hRS.keep (cf' := cf1) (E' := E1) (made_c hw1 3 (by decide) (by decide)) hs29 hs39
  have hb9 : xi (E1 1) 1 = xi (E 1) 1 := congrArg vi ((made_o hw1).2 1 (by first | rfl | (simp [wl]; done) | (simp [wl]; omega)))
  have hk9 : ∀ i9, i9 < cf 0 → xi (E1 (64 * (i9 + 1) + 0)) 0 = xi (E (64 * (i9 + 1) + 0)) 0 := fun i9 hi9 => made_p hw1 (by decide) (fun o j ho => by first | exact wl_p rfl rfl (by omega) | (simp [wl]; done) | (simp [wl]; omega)) 0 i9 0 (by decide) hi9
  have hB := hB.keep (cf' := cf1) (E' := E1) (made_c hw1 0 (by decide) (by decide)) (by rw [hb9]; exact Int.le_refl _) hk9
  have hT := hT.keep (cf' := cf1) (E' := E1) (made_c hw1 1 (by decide) (by decide)) (made_f hw1 (o := 2) (j := 1) (by decide) (by first | rfl | (simp [wl]; done) | (simp [wl]; omega))) (fun j9 => made_f hw1 (o := 21) (j := j9) (by decide) (by first | rfl | (simp [wl]; done) | (simp [wl]; omega))) (fun i9 j9 hi9 => made_p hw1 (by decide) (fun o j ho => by first | exact wl_p rfl rfl (by omega) | (simp [wl]; done) | (simp [wl]; omega)) 1 i9 j9 (by decide) hi9) (xik hw2.2.1 (o := 0) (j := 16) rfl) (xik hw2.2.1 (o := 0) (j := 17) rfl) (fun j9 => xik hw2.2.1 (o := 7) (j := j9) rfl) (fun j9 => xik hw2.2.1 (o := 10) (j := j9) rfl) (fun j9 => xik hw2.2.1 (o := 11) (j := j9) rfl)
  have hU := hU.keep (cf' := cf1) (E' := E1) (made_c hw1 1 (by decide) (by decide)) (fun i9 _ => made_8 hw1 (by decide) i9) (fun i9 hi9 t9 g1 g2 j9 => made_p hw1 (by decide) (fun o j ho => by first | exact wl_p rfl rfl (by omega) | (simp [wl]; done) | (simp [wl]; omega)) t9 i9 j9 (by omega) (by rw [kl1 t9 g1 g2]; exact hi9)) (fun j9 => xik hw2.2.1 (o := 8) (j := j9) rfl) (fun j9 => xik hw2.2.1 (o := 9) (j := j9) rfl)
  have hG : GR cf1 E1 EM1 := by
    rcases hw1.2.2 with ⟨c9, -, -, -, -⟩ | ⟨g9, -, -, -, -, y9⟩
    · exact hG.keep (congrFun c9 5) (fun i9 j9 hi9 => made_p hw1 (by decide) (fun o j ho => by first | exact wl_p rfl rfl (by omega) | (simp [wl]; done) | (simp [wl]; omega)) 14 i9 j9 (by decide) hi9) (fun j9 => xik hw2.2.1 (o := 51) (j := j9) rfl)
    · have yc9 : E1 (64 * (cf 5 + 1) + 14) = _ := y9
      exact hG.push g9.1 (fun i9 j9 hi9 => made_p hw1 (by decide) (fun o j ho => by first | exact wl_p rfl rfl (by omega) | (simp [wl]; done) | (simp [wl]; omega)) 14 i9 j9 (by decide) hi9) (fun j9 => xik hw2.2.1 (o := 51) (j := j9) rfl) (by rw [yc9]; rfl) (by rw [yc9]; rfl)
  have e0 : (xi (E 1) 0).toInt = (xi (EM 0) 1).toInt := congrArg Int32.toInt hR.now
  have e1 : (xi (E 1) 1).toInt = (xi (EM 0) 8).toInt := congrArg Int32.toInt hR.boats
  have e2 : (xi (E 1) 2).toInt = (xi (EM 0) 48).toInt := congrArg Int32.toInt hR.red
  obtain ⟨q0, q2, q3, q4, q5⟩ := hR.cnt
  have lm : (-1 : Int32).toInt = -1 := rfl
  have l0 : (0 : Int32).toInt = 0 := rfl
  have l1 : (1 : Int32).toInt = 1 := rfl
  have l2 : (2 : Int32).toInt = 2 := rfl
  have lk : (1000 : Int32).toInt = 1000 := rfl
  have hpn := fun (b : Int32) (h1 : 0 ≤ (xs (i + 1).toNatClampNeg).toInt ∧ (xs (i + 1).toNatClampNeg).toInt < ((cf 2 : Nat) : Int)) (h2 : 0 ≤ b.toInt ∧ b.toInt < 16) => pen hR.en hM0 bn (by omega) (xs (i + 1).toNatClampNeg) b h1 h2
  have kk0 : xi (E1 1) 0 = xi (E 1) 0 := congrArg vi ((made_o hw1).2 0 (by first | rfl | (simp [wl]; done) | (simp [wl]; omega)))
  have kk1 : xi (E1 1) 1 = xi (E 1) 1 := congrArg vi ((made_o hw1).2 1 (by first | rfl | (simp [wl]; done) | (simp [wl]; omega)))
  have kk2 : xi (E1 1) 2 = xi (E 1) 2 := congrArg vi ((made_o hw1).2 2 (by first | rfl | (simp [wl]; done) | (simp [wl]; omega)))
  have hn0 : (xi (E 1) 0).toInt ≤ (xi (E1 1) 0).toInt := by rw [kk0]; exact Int.le_refl _
  have hb0 : (xi (E 1) 1).toInt ≤ (xi (E1 1) 1).toInt := by rw [kk1]; exact Int.le_refl _
  have hp : PK X0 cf E E1 := fun t i j ht _ _ hi => made_p hw1 (by decide) (fun o j ho => by first | exact wl_p rfl rfl (by omega) | (simp [wl]; done) | (simp [wl]; omega)) t i j ht hi
  have hst : ENst (cf 2) E E1 := ENst.of (fun i j hi => hp 7 i j (by decide) (by decide) rfl hi)
  have hsx := kpSx [75] hw2.2.1 rfl
  have hrx := kpRx [46, 47, 48, 49, 50] hw2.2.1 rfl
  have hcJ : ∀ j, j < 6 → j ≠ 5 → cf1 j = cf j := made_c hw1
  have hd : r1.toInt = r2.toInt ∧ REL cf1 E1 EM1 := by
    obtain ⟨-, -, ⟨m1, m2⟩, ⟨m3, m4⟩⟩ := id hw2
    have hN : (xi (EM 0) 75).toNatClampNeg = cf 5 := by rw [tn_]; omega
    by_cases gm : ((0 ≤ (xs (i + 1).toNatClampNeg).toInt ∧ (xs (i + 1).toNatClampNeg).toInt < (xi (EM 0) 46).toInt) ∧ (0 ≤ (xs (i + 2).toNatClampNeg).toInt ∧ (xs (i + 2).toNatClampNeg).toInt < (xi (EM 0) 8).toInt) ∧ (xi (EM 21) (16 * (xs (i + 1).toNatClampNeg).toInt + (xs (i + 2).toNatClampNeg).toInt).toNat).toInt ≤ (xi (EM 0) 1).toInt) ∧ ((0 ≤ (xs (i + 1).toNatClampNeg).toInt ∧ (xs (i + 1).toNatClampNeg).toInt < (xi (EM 0) 46).toInt) ∧ (0 ≤ (xs (i + 3).toNatClampNeg).toInt ∧ (xs (i + 3).toNatClampNeg).toInt < (xi (EM 0) 8).toInt) ∧ (xi (EM 21) (16 * (xs (i + 1).toNatClampNeg).toInt + (xs (i + 3).toNatClampNeg).toInt).toNat).toInt ≤ (xi (EM 0) 1).toInt) ∧ ¬ (xs (i + 2).toNatClampNeg).toInt = (xs (i + 3).toNatClampNeg).toInt ∧ (0 ≤ (xs (i + 4).toNatClampNeg).toInt ∧ (xs (i + 4).toNatClampNeg).toInt ≤ 100000) ∧ (xi (EM 0) 75).toInt < 30
    · have h2 := m1 gm
      obtain ⟨b46, b47, b48, b49, b50⟩ := m3 gm
      rcases hw1.2.2 with ⟨c1, -, -, n1, n2⟩ | ⟨g, -, -, y1, y2, y3⟩
      · exfalso; have hp0 := hpn (xs (i + 2).toNatClampNeg) (by omega) (by omega); have hp1 := hpn (xs (i + 3).toNatClampNeg) (by omega) (by omega); omega
      · have g1 : cf1 5 = cf 5 + 1 := g.1
        rw [hN] at b46 b47 b48 b49 b50
        have yc : E1 (64 * (cf 5 + 1) + 14) = _ := y3
        have f0 : xi (E1 (64 * (cf 5 + 1) + 14)) 0 = ((xs (i + 1).toNatClampNeg) : Int32) := by rw [yc]; rfl
        have f1 : xi (E1 (64 * (cf 5 + 1) + 14)) 1 = ((xs (i + 2).toNatClampNeg) : Int32) := by rw [yc]; rfl
        have f2 : xi (E1 (64 * (cf 5 + 1) + 14)) 2 = ((xs (i + 3).toNatClampNeg) : Int32) := by rw [yc]; rfl
        have f3 : xi (E1 (64 * (cf 5 + 1) + 14)) 3 = ((xs (i + 4).toNatClampNeg) : Int32) := by rw [yc]; rfl
        have f4 : xi (E1 (64 * (cf 5 + 1) + 14)) 4 = (xi (E 1) 0 : Int32) := by rw [yc]; rfl
        have f5 : xi (E1 (64 * (cf 5 + 1) + 14)) 5 = (-1 : Int32) := by rw [yc]; rfl
        have f6 : xi (E1 (64 * (cf 5 + 1) + 14)) 6 = (0 : Int32) := by rw [yc]; rfl
        have f7 : xi (E1 (64 * (cf 5 + 1) + 14)) 7 = (-1 : Int32) := by rw [yc]; rfl
        have f8 : xi (E1 (64 * (cf 5 + 1) + 14)) 8 = (-1 : Int32) := by rw [yc]; rfl
        have f9 : xi (E1 (64 * (cf 5 + 1) + 14)) 9 = (0 : Int32) := by rw [yc]; rfl
        have t0 : xi (E1 (64 * ((xs (i + 1).toNatClampNeg).toNatClampNeg + 1) + 7)) (xs (i + 2).toNatClampNeg).toNatClampNeg = xi (E (64 * ((xs (i + 1).toNatClampNeg).toNatClampNeg + 1) + 7)) (xs (i + 2).toNatClampNeg).toNatClampNeg := hp 7 _ _ (by decide) (by decide) rfl (show (xs (i + 1).toNatClampNeg).toNatClampNeg < cf 2 by rw [tn_ (xs (i + 1).toNatClampNeg)]; omega)
        have t1 : xi (E1 (64 * ((xs (i + 1).toNatClampNeg).toNatClampNeg + 1) + 7)) (xs (i + 3).toNatClampNeg).toNatClampNeg = xi (E (64 * ((xs (i + 1).toNatClampNeg).toNatClampNeg + 1) + 7)) (xs (i + 3).toNatClampNeg).toNatClampNeg := hp 7 _ _ (by decide) (by decide) rfl (show (xs (i + 1).toNatClampNeg).toNatClampNeg < cf 2 by rw [tn_ (xs (i + 1).toNatClampNeg)]; omega)
        refine ⟨by omega, ?_⟩
        exact ⟨(kk0.trans hR.now).trans ((hsx 1 (by decide) rfl)).symm,
          (kk1.trans hR.boats).trans ((hsx 8 (by decide) rfl)).symm,
          (kk2.trans hR.red).trans ((hsx 48 (by decide) rfl)).symm,
          ⟨(by have c9 : cf1 0 = cf 0 := hcJ 0 (by decide) (by decide); have d9 := congrArg Int32.toInt (hsx 9 (by decide) rfl); omega), (by have c9 : cf1 2 = cf 2 := hcJ 2 (by decide) (by decide); have d9 := congrArg Int32.toInt (hsx 46 (by decide) rfl); omega), (by have c9 : cf1 3 = cf 3 := hcJ 3 (by decide) (by decide); have d9 := congrArg Int32.toInt (hsx 47 (by decide) rfl); omega), (by have c9 : cf1 4 = cf 4 := hcJ 4 (by decide) (by decide); have d9 := congrArg Int32.toInt (hsx 74 (by decide) rfl); omega), (by omega)⟩,
          EN.m (EM' := EM1) (EN.k (E' := E1) hR.en (hcJ 2 (by decide) (by decide)) (fun i j hi => hp 7 i j (by decide) (by decide) rfl hi)) (hrx 21 (by decide) rfl),
          (TBj.km (TBj.kc (E' := E1) hR.tb0 (hcJ 0 (by decide) (by decide)) (hp.tb (J := 0) rfl)) (fun q hq j => (show ∀ r ∈ [1, 2, 3, 4, 5, 6], ∀ j, xi (EM1 r) j = xi (EM r) j from fun r hr9 => by simp only [List.mem_cons, List.not_mem_nil, or_false] at hr9; rcases hr9 with rfl | rfl | rfl | rfl | rfl | rfl; exact (hrx 1 (by decide) rfl); exact (hrx 2 (by decide) rfl); exact (hrx 3 (by decide) rfl); exact (hrx 4 (by decide) rfl); exact (hrx 5 (by decide) rfl); exact (hrx 6 (by decide) rfl)) _ (tbm0 q hq) j)),
          (TBj.km (TBj.kc (E' := E1) hR.tb2 (hcJ 2 (by decide) (by decide)) (hp.tb (J := 2) rfl)) (fun q hq j => (show ∀ r ∈ [20, 13, 14, 15, 16, 17, 18], ∀ j, xi (EM1 r) j = xi (EM r) j from fun r hr9 => by simp only [List.mem_cons, List.not_mem_nil, or_false] at hr9; rcases hr9 with rfl | rfl | rfl | rfl | rfl | rfl | rfl; exact (hrx 20 (by decide) rfl); exact (hrx 13 (by decide) rfl); exact (hrx 14 (by decide) rfl); exact (hrx 15 (by decide) rfl); exact (hrx 16 (by decide) rfl); exact (hrx 17 (by decide) rfl); exact (hrx 18 (by decide) rfl)) _ (tbm2 q hq) j)),
          (TBj.km (TBj.kc (E' := E1) hR.tb3 (hcJ 3 (by decide) (by decide)) (hp.tb (J := 3) rfl)) (fun q hq j => (show ∀ r ∈ [24, 25, 26, 27, 28], ∀ j, xi (EM1 r) j = xi (EM r) j from fun r hr9 => by simp only [List.mem_cons, List.not_mem_nil, or_false] at hr9; rcases hr9 with rfl | rfl | rfl | rfl | rfl; exact (hrx 24 (by decide) rfl); exact (hrx 25 (by decide) rfl); exact (hrx 26 (by decide) rfl); exact (hrx 27 (by decide) rfl); exact (hrx 28 (by decide) rfl)) _ (tbm3 q hq) j)),
          (TBj.km (TBj.kc (E' := E1) hR.tb4 (hcJ 4 (by decide) (by decide)) (hp.tb (J := 4) rfl)) (fun q hq j => (show ∀ r ∈ [38, 39, 45, 40, 41, 42, 43, 44], ∀ j, xi (EM1 r) j = xi (EM r) j from fun r hr9 => by simp only [List.mem_cons, List.not_mem_nil, or_false] at hr9; rcases hr9 with rfl | rfl | rfl | rfl | rfl | rfl | rfl | rfl; exact (hrx 38 (by decide) rfl); exact (hrx 39 (by decide) rfl); exact (hrx 45 (by decide) rfl); exact (hrx 40 (by decide) rfl); exact (hrx 41 (by decide) rfl); exact (hrx 42 (by decide) rfl); exact (hrx 43 (by decide) rfl); exact (hrx 44 (by decide) rfl)) _ (tbm4 q hq) j)),
          (by rw [g1]; exact TBj.push hR.tb5 (hp.tb (J := 5) rfl) (fun q hq i hi => by simp only [tb5, List.mem_cons, List.not_mem_nil, or_false] at hq; rcases hq with rfl | rfl | rfl | rfl | rfl; exact ((congrFun b46 i).trans (upd_n (by omega))); exact ((congrFun b47 i).trans (upd_n (by omega))); exact ((congrFun b48 i).trans (upd_n (by omega))); exact ((congrFun b49 i).trans (upd_n (by omega))); exact ((congrFun b50 i).trans (upd_n (by omega)))) (fun q hq => by simp only [tb5, List.mem_cons, List.not_mem_nil, or_false] at hq; rcases hq with rfl | rfl | rfl | rfl | rfl; exact (f0.trans (((congrFun b46 _).trans pk_us).symm)); exact (f1.trans (((congrFun b47 _).trans pk_us).symm)); exact (f2.trans (((congrFun b48 _).trans pk_us).symm)); exact (f3.trans (((congrFun b49 _).trans pk_us).symm)); exact (f4.trans (hR.now.trans ((congrFun b50 _).trans pk_us).symm)))),
          (hR.eb.kc (hcJ 2 (by decide) (by decide)) hn0 hb0 (fun i hi => hp 6 i 0 (by decide) (by decide) rfl hi) (fun i j hi => hp 7 i j (by decide) (by decide) rfl hi)),
          RD.km (RD.kc (E' := E1) hR.rd (hcJ 2 (by decide) (by decide)) hn0 (fun i j hi => hp 8 i j (by decide) (by decide) rfl hi)) (hsx 48 (by decide) rfl) (hrx 29 (by decide) rfl) (hrx 30 (by decide) rfl) (hrx 31 (by decide) rfl),
          ST.km (ST.kc (E' := E1) hR.st (hcJ 2 (by decide) (by decide)) hb0 (fun i j hi => hp 9 i j (by decide) (by decide) rfl hi) (fun i j hi => hp 10 i j (by decide) (by decide) rfl hi)) (hrx 22 (by decide) rfl) (hrx 23 (by decide) rfl),
          SW.km (SW.kc (E' := E1) hR.sw (hcJ 2 (by decide) (by decide)) hn0 (fun i hi => hp 6 i 0 (by decide) (by decide) rfl hi) (fun i j hi => hp 11 i j (by decide) (by decide) rfl hi)) (hrx 19 (by decide) rfl),
          DC.push hR.dc hR.dz g1 (by omega) hn0 (by rw [kk0]; exact bn.1) (fun i j hi => hp 14 i j (by decide) (by decide) rfl hi) (fun r hq j => by simp only [List.mem_cons, List.not_mem_nil, or_false] at hq; rcases hq with rfl | rfl | rfl | rfl; exact ((hrx 52 (by decide) rfl) j); exact ((hrx 53 (by decide) rfl) j); exact ((hrx 54 (by decide) rfl) j); exact ((hrx 55 (by decide) rfl) j)) (fun j hq => by simp only [List.mem_cons, List.not_mem_nil, or_false] at hq; rcases hq with rfl | rfl | rfl; exact f5; exact f7; exact f8),
          (hR.tn0.kc (hcJ 0 (by decide) (by decide)) hn0 (hp.tn (J := 0) rfl)),
          (hR.tn2.kc (hcJ 2 (by decide) (by decide)) hn0 (hp.tn (J := 2) rfl)),
          (hR.tn3.kc (hcJ 3 (by decide) (by decide)) hn0 (hp.tn (J := 3) rfl)),
          (hR.tn4.kc (hcJ 4 (by decide) (by decide)) hn0 (hp.tn (J := 4) rfl)),
          (by rw [g1]; exact TNj.push hR.tn5 hn0 (hp.tn (J := 5) rfl) (fun q hq => by simp only [List.mem_cons, List.not_mem_nil, or_false] at hq; rcases hq with rfl; exact ((by show (xi (E1 (64 * (cf 5 + 1) + 14)) 4).toInt ≤ _; rw [f4, kk0]; exact Int.le_refl _)))),
          (hR.rmo.kc (hcJ 2 (by decide) (by decide)) (fun i hi => hp 6 i 0 (by decide) (by decide) rfl hi)),
          (hR.er3.kc (hcJ 3 (by decide) (by decide)) (Nat.le_of_eq ((hcJ 2 (by decide) (by decide))).symm) hst (hp.er (J := 3) rfl)),
          (hR.er4.kc (hcJ 4 (by decide) (by decide)) (Nat.le_of_eq ((hcJ 2 (by decide) (by decide))).symm) hst (hp.er (J := 4) rfl)),
          (by rw [g1]; exact ERj.push hR.er5 (Nat.le_of_eq (hcJ 2 (by decide) (by decide)).symm) hst (hp.er (J := 5) rfl) (fun q hq => by simp only [List.mem_cons, List.not_mem_nil, or_false] at hq; rcases hq with rfl | rfl; exact (⟨_, _, _, f0, f1, f4, ⟨by omega, by rw [(hcJ 2 (by decide) (by decide))]; omega⟩, ⟨by omega, by omega⟩, by rw [t0]; omega, by rw [t0]; omega⟩); exact (⟨_, _, _, f0, f2, f4, ⟨by omega, by rw [(hcJ 2 (by decide) (by decide))]; omega⟩, ⟨by omega, by omega⟩, by rw [t1]; omega, by rw [t1]; omega⟩))),
          PNe.push hR.pne g1 (fun i j hi => hp 14 i j (by decide) (by decide) rfl hi) (by rw [f1, f2]; omega),
          DZ.km (DZ.kc (cf' := cf1) hR.dz (by omega)) (hrx 54 (by decide) rfl) (hrx 55 (by decide) rfl),
          RRo.km (RRo.kc (cf' := _) hR.rro (Nat.le_of_eq ((hcJ 2 (by decide) (by decide))).symm)) (hsx 48 (by decide) rfl) (hrx 29 (by decide) rfl)⟩
    · have h2 := m2 gm
      obtain ⟨b46, b47, b48, b49, b50⟩ := m4 gm
      rcases hw1.2.2 with ⟨c1, -, -, n1, n2⟩ | ⟨g, -, -, y1, y2, y3⟩
      · have n3 := congrArg Int32.toInt n1
        refine ⟨by omega, ?_⟩
        exact hR.keep (fun j _ _ => congrFun c1 j) kk0 kk1 kk2 hp (kpSy [75] (kpSx [75] hw2.2.1 rfl) (fun j hq => by simp only [List.mem_cons, List.not_mem_nil, or_false] at hq; rcases hq with rfl; exact (Int32.toInt_inj.mp h2.2))) (kpRy [46, 47, 48, 49, 50] (kpRx [46, 47, 48, 49, 50] hw2.2.1 rfl) (fun r hq j => by simp only [List.mem_cons, List.not_mem_nil, or_false] at hq; rcases hq with rfl | rfl | rfl | rfl | rfl; exact (congrFun b46 j); exact (congrFun b47 j); exact (congrFun b48 j); exact (congrFun b49 j); exact (congrFun b50 j)))
      · exfalso; have hp0 := hpn (xs (i + 2).toNatClampNeg) (by omega) (by omega); have hp1 := hpn (xs (i + 3).toNatClampNeg) (by omega) (by omega); omega
  have hR := hd.2
  refine lv_pop hx hb dL_law_1326 rfl ?_
  refine lv_goto (tgt := 1859) hx hb dL_law_1327 (by decide) ?_
  exact W.widen (k := cn + 7) (n := sn + 3300) (by omega) (by omega) (tail _ _ _ _ _ _ _ _ V ⟨⟨⟨⟨⟨hR, hT⟩, hU⟩, hG⟩, hB⟩, hRS⟩ hl)
set_option maxHeartbeats 4000000 in
set_option maxRecDepth 100000 in
theorem law_case_24 {p : Program} {e : Env} {s : State} {m : MethodId} {below : List Frame} {meth : Method} {c : Code} (l : Launch) {b L : Nat} {xs : Nat → Int32} (hL : L ≤ 4096) (C0 : lw_At p s m meth c b L xs) {A : Nat → Prop} {ed : Nat} {dC : Nat → ClassId} {dI : Nat → Nat → Nat} {cT : Nat → ClassId} {cL : ClassId} (F : FX l s A ed dC dI cT cL) {x ou : Nat} {am cf ad : Nat → Nat} {E EM : Nat → va_E} {f : Nat → Int64} {H : Heap} {locs : List Loc} (V : INV s A ed dC dI cT cL x ou am cf ad E EM f H locs) (hR : REL15 cf E EM) {i : Int32} (hi0 : 0 ≤ i.toInt) (hi8 : i.toInt + 8 ≤ (L : Int)) {cn sn : Nat} (hcn : cn + 7 ≤ 601024) (hsn : sn + 3300 ≤ 7293034) (ls : Array Slot) (hl : lv_has ls 7 [(0, .ref b), (1, .ref x), (2, .ref (am 0)), (3, .ref ou), (4, .int i)]) (tail : (∀ (cf ad : Nat → Nat) (E EM : Nat → va_E) (f : Nat → Int64) (H : Heap) (locs : List Loc) (ls : Array Slot), INV s A ed dC dI cT cL x ou am cf ad E EM f H locs → REL15 cf E EM → lv_has ls 7 [(0, .ref b), (1, .ref x), (2, .ref (am 0)), (3, .ref ou), (4, .int i)] → W p l e room_1 s m #[Value.ref b] below meth c H locs (cn + 7) (sn + 3300) (lw_Z below #[Value.ref b] s) (F0 m 1859 ls []))) : W p l e room_1 s m #[Value.ref b] below meth c H locs cn sn (lw_Z below #[Value.ref b] s) (F0 m 1330 ls []) := by
  obtain ⟨hx, hb, hr, hml, hown, hts0, hX, hbl, hlocks, hgv⟩ := id C0
  have hts := fun w (h : w ∈ v_law) => hts0 w (v_law_in w h)
  have hbA : ¬ A b := F.hnA b hbl
  obtain rfl := V.hx
  obtain ⟨⟨⟨⟨⟨hR, hT⟩, hU⟩, hG⟩, hB⟩, hRS⟩ := hR
  refine lv_aload_n hx hb dL_law_1330 rfl (lv_at hl 1 rfl) ?_
  refine lv_aload_n hx hb dL_law_1331 rfl (lv_at hl 0 rfl) ?_
  refine lv_iload hx hb dL_law_1332 (lv_at hl 4 rfl) ?_
  refine lv_iconst (v := 1) hx hb dL_law_1334 (by decide) ?_
  refine lv_iadd hx hb dL_law_1335 ?_
  refine va_sld hx hb hX hbl hbA V.hS (law_in (k := 1) hi0 hi8 hL (by decide) rfl) dL_law_1336 ?_
  refine lv_aload_n hx hb dL_law_1337 rfl (lv_at hl 0 rfl) ?_
  refine lv_iload hx hb dL_law_1338 (lv_at hl 4 rfl) ?_
  refine lv_iconst (v := 2) hx hb dL_law_1340 (by decide) ?_
  refine lv_iadd hx hb dL_law_1341 ?_
  refine va_sld hx hb hX hbl hbA V.hS (law_in (k := 2) hi0 hi8 hL (by decide) rfl) dL_law_1342 ?_
  refine lv_aload_n hx hb dL_law_1343 rfl (lv_at hl 0 rfl) ?_
  refine lv_iload hx hb dL_law_1344 (lv_at hl 4 rfl) ?_
  refine lv_iconst (v := 3) hx hb dL_law_1346 (by decide) ?_
  refine lv_iadd hx hb dL_law_1347 ?_
  refine va_sld hx hb hX hbl hbA V.hS (law_in (k := 3) hi0 hi8 hL (by decide) rfl) dL_law_1348 ?_
  refine lC F V (fun r u h => h.1) (va_runV (As := [.int (xs (i + 1).toNatClampNeg), .int (xs (i + 2).toNatClampNeg), .int (xs (i + 3).toNatClampNeg)]) (rest := []) ⟨hx, hb, hml, hown, hts⟩ (q_u_states l dC dI cT cf V.hC ad E H.size (xs (i + 1).toNatClampNeg) (xs (i + 2).toNatClampNeg) (xs (i + 3).toNatClampNeg) V.hI) (cwV 3 hts (gl_V (al_3 _ (zs16 (zs4 (zs4 (zs0))))) (al_3 _ (zs16 (zs4 (zs4 (zs1 (zs0)))))) (al_3 _ (zs16 (zs4 (zs4 (zs1 (zs1 (zs0))))))) (vl_A _ (in_4 _ (zs16 (zs4 (zs1 (zs1 (zs1 (zs0)))))))) (vl_A _ (in_23 _ (zs1 (zs1 (zs0)))))) rfl rfl rfl ⟨rfl, hz_yX12_states_3⟩ ⟨Nat.le_of_ble_eq_true rfl, Nat.le_of_ble_eq_true rfl⟩) ⟨HWL_bl, va_recv F.kc V.cp (ci := 13) (q0 := posL 0 (LC cf)) rfl (V.hI.ob 0 (mF 0 rfl) rfl), HWL_wi V.cp F.kc V.dc V.hS F.hA (V.ec F)⟩ rfl rfl hl.1 rfl (lv_room (Nat.le_of_ble_eq_true rfl)) dL_law_1349 ⟨by show cn + 0 ≤ 601024; omega, by show sn + 0 ≤ 7293034; omega⟩) (fun r1 E1 H locs hw1 V => ?_)
  have hcf : ∀ j, j < 6 → j ≠ 1 → cf j = cf j := fun _ _ _ => rfl
  have k0 : xi (E1 1) 0 = xi (E 1) 0 := xik hw1.2.1 (o := 1) (j := 0) (by first | rfl | (simp [wl]; done) | (simp [wl]; omega))
  have k1 : xi (E1 1) 1 = xi (E 1) 1 := xik hw1.2.1 (o := 1) (j := 1) (by first | rfl | (simp [wl]; done) | (simp [wl]; omega))
  have k2 : xi (E1 1) 2 = xi (E 1) 2 := xik hw1.2.1 (o := 1) (j := 2) (by first | rfl | (simp [wl]; done) | (simp [wl]; omega))
  have hp : PK X0 cf E E1 := fun t i j _ _ _ _ => xik hw1.2.1 (by first | exact wl_p rfl rfl (by omega) | (simp [wl]; done) | (simp [wl]; omega))
  refine lv_pop hx hb dL_law_1352 rfl ?_
  refine lv_aload_n hx hb dL_law_1353 rfl (lv_at hl 2 rfl) ?_
  refine lv_aload_n hx hb dL_law_1354 rfl (lv_at hl 0 rfl) ?_
  refine lv_iload hx hb dL_law_1355 (lv_at hl 4 rfl) ?_
  refine lv_iconst (v := 1) hx hb dL_law_1357 (by decide) ?_
  refine lv_iadd hx hb dL_law_1358 ?_
  refine va_sld hx hb hX hbl hbA V.hS (law_in (k := 1) hi0 hi8 hL (by decide) rfl) dL_law_1359 ?_
  refine lv_aload_n hx hb dL_law_1360 rfl (lv_at hl 0 rfl) ?_
  refine lv_iload hx hb dL_law_1361 (lv_at hl 4 rfl) ?_
  refine lv_iconst (v := 2) hx hb dL_law_1363 (by decide) ?_
  refine lv_iadd hx hb dL_law_1364 ?_
  refine va_sld hx hb hX hbl hbA V.hS (law_in (k := 2) hi0 hi8 hL (by decide) rfl) dL_law_1365 ?_
  refine lv_aload_n hx hb dL_law_1366 rfl (lv_at hl 0 rfl) ?_
  refine lv_iload hx hb dL_law_1367 (lv_at hl 4 rfl) ?_
  refine lv_iconst (v := 3) hx hb dL_law_1369 (by decide) ?_
  refine lv_iadd hx hb dL_law_1370 ?_
  refine va_sld hx hb hX hbl hbA V.hS (law_in (k := 3) hi0 hi8 hL (by decide) rfl) dL_law_1371 ?_
  refine lM F V (fun r u h => ⟨h.1, DIr_kp h.2.1 (fun _ => rfl) (fun _ => rfl) V.hDI⟩) (va_runV (As := [.int (xs (i + 1).toNatClampNeg), .int (xs (i + 2).toNatClampNeg), .int (xs (i + 3).toNatClampNeg)]) (rest := []) ⟨hx, hb, hml, hown, hts⟩ (q_states l dC dI cT am EM H.size (xs (i + 1).toNatClampNeg) (xs (i + 2).toNatClampNeg) (xs (i + 3).toNatClampNeg) V.hM) (cwV 3 hts (gl_V (al_3 _ (zs16 (zs4 (zs4 (zs1 (zs1 (zs1 (zs0)))))))) (al_3 _ (zs16 (zs4 (zs4 (zs4 (zs0)))))) (al_3 _ (zs16 (zs4 (zs4 (zs4 (zs1 (zs0))))))) (vl_A _ (in_24 _ (zs4 (zs4 (zs4 (zs1 (zs1 (zs1 (zs0))))))))) (vl_A _ (in_33 _ (zs16 (zs4 (zs4 (zs1 (zs1 (zs0))))))))) rfl rfl rfl ⟨rfl, hz_yX13_states_3⟩ ⟨Nat.le_of_ble_eq_true rfl, Nat.le_of_ble_eq_true rfl⟩) ⟨HW_bl, va_recv F.km V.pm (ci := 14) (q0 := 0) rfl (V.hM.ob 0 (Nat.le_of_ble_eq_true rfl) rfl), HW_wi V.pm F.km V.dm V.hS F.hA F.hEV⟩ rfl rfl hl.1 rfl (lv_room (Nat.le_of_ble_eq_true rfl)) dL_law_1372 ⟨by show cn + 0 ≤ 601024; omega, by show sn + 0 ≤ 7293034; omega⟩) (fun r2 EM1 H locs hw2 V => ?_)
  have hRS := hRS.keep (cf' := cf) (E' := E1) rfl (fun i9 _ => xik hw1.2.1 (o := 64 * (i9 + 1) + 12) (j := 2) (by first | exact wl_p rfl rfl (by omega) | (simp [wl]; done) | (simp [wl]; omega))) (fun i9 _ => xik hw1.2.1 (o := 64 * (i9 + 1) + 12) (j := 3) (by first | exact wl_p rfl rfl (by omega) | (simp [wl]; done) | (simp [wl]; omega)))
  have hb9 : (xi (E 1) 1).toInt ≤ (xi (E1 1) 1).toInt := by rw [show xi (E1 1) 1 = xi (E 1) 1 from xik hw1.2.1 (o := 1) (j := 1) (by first | rfl | (simp [wl]; done) | (simp [wl]; omega))]; exact Int.le_refl _
  have hB := hB.keep (cf' := cf) (E' := E1) rfl hb9 (fun i9 _ => xik hw1.2.1 (o := 64 * (i9 + 1) + 0) (j := 0) (by first | exact wl_p rfl rfl (by omega) | (simp [wl]; done) | (simp [wl]; omega)))
  have hT := hT.keep (cf' := cf) (E' := E1) rfl (xik hw1.2.1 (o := 2) (j := 1) (by first | rfl | (simp [wl]; done) | (simp [wl]; omega))) (fun j9 => xik hw1.2.1 (o := 21) (j := j9) (by first | rfl | (simp [wl]; done) | (simp [wl]; omega))) (fun i9 j9 _ => xik hw1.2.1 (o := 64 * (i9 + 1) + 1) (j := j9) (by first | exact wl_p rfl rfl (by omega) | (simp [wl]; done) | (simp [wl]; omega))) (xik hw2.2.1 (o := 0) (j := 16) rfl) (xik hw2.2.1 (o := 0) (j := 17) rfl) (fun j9 => xik hw2.2.1 (o := 7) (j := j9) rfl) (fun j9 => xik hw2.2.1 (o := 10) (j := j9) rfl) (fun j9 => xik hw2.2.1 (o := 11) (j := j9) rfl)
  have hU := hU.keep (cf' := cf) (E' := E1) rfl (fun _ _ => ⟨rfl, rfl⟩) (fun i9 _ t9 _ _ j9 => xik hw1.2.1 (o := 64 * (i9 + 1) + t9) (j := j9) (by first | exact wl_p rfl rfl (by omega) | (simp [wl]; done) | (simp [wl]; omega))) (fun j9 => xik hw2.2.1 (o := 8) (j := j9) rfl) (fun j9 => xik hw2.2.1 (o := 9) (j := j9) rfl)
  have hG := hG.keep (cf' := cf) (E' := E1) rfl (fun i9 j9 _ => xik hw1.2.1 (o := 64 * (i9 + 1) + 14) (j := j9) (by first | exact wl_p rfl rfl (by omega) | (simp [wl]; done) | (simp [wl]; omega))) (fun j9 => xik hw2.2.1 (o := 51) (j := j9) rfl)
  have hR := hR.keep hcf k0 k1 k2 hp (kpS hw2.2.1 rfl) (kpR hw2.2.1 rfl)
  refine lv_pop hx hb dL_law_1375 rfl ?_
  refine lv_goto (tgt := 1859) hx hb dL_law_1376 (by decide) ?_
  exact W.widen (k := cn + 7) (n := sn + 3300) (by omega) (by omega) (tail _ _ _ _ _ _ _ _ V ⟨⟨⟨⟨⟨hR, hT⟩, hU⟩, hG⟩, hB⟩, hRS⟩ hl)
set_option maxHeartbeats 4000000 in
set_option maxRecDepth 100000 in
theorem law_case_25 {p : Program} {e : Env} {s : State} {m : MethodId} {below : List Frame} {meth : Method} {c : Code} (l : Launch) {b L : Nat} {xs : Nat → Int32} (hL : L ≤ 4096) (C0 : lw_At p s m meth c b L xs) {A : Nat → Prop} {ed : Nat} {dC : Nat → ClassId} {dI : Nat → Nat → Nat} {cT : Nat → ClassId} {cL : ClassId} (F : FX l s A ed dC dI cT cL) {x ou : Nat} {am cf ad : Nat → Nat} {E EM : Nat → va_E} {f : Nat → Int64} {H : Heap} {locs : List Loc} (V : INV s A ed dC dI cT cL x ou am cf ad E EM f H locs) (hR : REL15 cf E EM) {i : Int32} (hi0 : 0 ≤ i.toInt) (hi8 : i.toInt + 8 ≤ (L : Int)) {cn sn : Nat} (hcn : cn + 7 ≤ 601024) (hsn : sn + 3300 ≤ 7293034) (ls : Array Slot) (hl : lv_has ls 7 [(0, .ref b), (1, .ref x), (2, .ref (am 0)), (3, .ref ou), (4, .int i)]) (tail : (∀ (cf ad : Nat → Nat) (E EM : Nat → va_E) (f : Nat → Int64) (H : Heap) (locs : List Loc) (ls : Array Slot), INV s A ed dC dI cT cL x ou am cf ad E EM f H locs → REL15 cf E EM → lv_has ls 7 [(0, .ref b), (1, .ref x), (2, .ref (am 0)), (3, .ref ou), (4, .int i)] → W p l e room_1 s m #[Value.ref b] below meth c H locs (cn + 7) (sn + 3300) (lw_Z below #[Value.ref b] s) (F0 m 1859 ls []))) : W p l e room_1 s m #[Value.ref b] below meth c H locs cn sn (lw_Z below #[Value.ref b] s) (F0 m 1379 ls []) := by
  obtain ⟨hx, hb, hr, hml, hown, hts0, hX, hbl, hlocks, hgv⟩ := id C0
  have hts := fun w (h : w ∈ v_law) => hts0 w (v_law_in w h)
  have hbA : ¬ A b := F.hnA b hbl
  obtain rfl := V.hx
  obtain ⟨⟨⟨⟨⟨hR, hT⟩, hU⟩, hG⟩, hB⟩, hRS⟩ := hR
  refine lv_aload_n hx hb dL_law_1379 rfl (lv_at hl 1 rfl) ?_
  refine lv_aload_n hx hb dL_law_1380 rfl (lv_at hl 0 rfl) ?_
  refine lv_iload hx hb dL_law_1381 (lv_at hl 4 rfl) ?_
  refine lv_iconst (v := 1) hx hb dL_law_1383 (by decide) ?_
  refine lv_iadd hx hb dL_law_1384 ?_
  refine va_sld hx hb hX hbl hbA V.hS (law_in (k := 1) hi0 hi8 hL (by decide) rfl) dL_law_1385 ?_
  refine lv_aload_n hx hb dL_law_1386 rfl (lv_at hl 0 rfl) ?_
  refine lv_iload hx hb dL_law_1387 (lv_at hl 4 rfl) ?_
  refine lv_iconst (v := 2) hx hb dL_law_1389 (by decide) ?_
  refine lv_iadd hx hb dL_law_1390 ?_
  refine va_sld hx hb hX hbl hbA V.hS (law_in (k := 2) hi0 hi8 hL (by decide) rfl) dL_law_1391 ?_
  refine lv_aload_n hx hb dL_law_1392 rfl (lv_at hl 0 rfl) ?_
  refine lv_iload hx hb dL_law_1393 (lv_at hl 4 rfl) ?_
  refine lv_iconst (v := 3) hx hb dL_law_1395 (by decide) ?_
  refine lv_iadd hx hb dL_law_1396 ?_
  refine va_sld hx hb hX hbl hbA V.hS (law_in (k := 3) hi0 hi8 hL (by decide) rfl) dL_law_1397 ?_
  refine lC F V (fun r u h => h.1) (va_runV (As := [.int (xs (i + 1).toNatClampNeg), .int (xs (i + 2).toNatClampNeg), .int (xs (i + 3).toNatClampNeg)]) (rest := []) ⟨hx, hb, hml, hown, hts⟩ (q_u_finding l dC dI cT cf V.hC ad E H.size (xs (i + 1).toNatClampNeg) (xs (i + 2).toNatClampNeg) (xs (i + 3).toNatClampNeg) V.hI) (cwV 3 hts (gl_V (al_3 _ (zs16 (zs4 (zs4 (zs4 (zs1 (zs1 (zs0)))))))) (al_3 _ (zs16 (zs4 (zs4 (zs4 (zs1 (zs1 (zs1 (zs0))))))))) (al_3 _ (zs16 (zs16 (zs0)))) (vl_A _ (in_4 _ (zs16 (zs4 (zs1 (zs1 (zs1 (zs0)))))))) (vl_A _ (in_18 _ (zs16 (zs0))))) rfl rfl rfl ⟨rfl, hz_yX12_finding_3⟩ ⟨Nat.le_of_ble_eq_true rfl, Nat.le_of_ble_eq_true rfl⟩) ⟨HWL_bl, va_recv F.kc V.cp (ci := 13) (q0 := posL 0 (LC cf)) rfl (V.hI.ob 0 (mF 0 rfl) rfl), HWL_wi V.cp F.kc V.dc V.hS F.hA (V.ec F)⟩ rfl rfl hl.1 rfl (lv_room (Nat.le_of_ble_eq_true rfl)) dL_law_1398 ⟨by show cn + 0 ≤ 601024; omega, by show sn + 0 ≤ 7293034; omega⟩) (fun r1 E1 H locs hw1 V => ?_)
  have hcf : ∀ j, j < 6 → j ≠ 1 → cf j = cf j := fun _ _ _ => rfl
  have k0 : xi (E1 1) 0 = xi (E 1) 0 := xik hw1.2.1 (o := 1) (j := 0) (by first | rfl | (simp [wl]; done) | (simp [wl]; omega))
  have k1 : xi (E1 1) 1 = xi (E 1) 1 := xik hw1.2.1 (o := 1) (j := 1) (by first | rfl | (simp [wl]; done) | (simp [wl]; omega))
  have k2 : xi (E1 1) 2 = xi (E 1) 2 := xik hw1.2.1 (o := 1) (j := 2) (by first | rfl | (simp [wl]; done) | (simp [wl]; omega))
  have hp : PK X0 cf E E1 := fun t i j _ _ _ _ => xik hw1.2.1 (by first | exact wl_p rfl rfl (by omega) | (simp [wl]; done) | (simp [wl]; omega))
  refine lv_pop hx hb dL_law_1401 rfl ?_
  refine lv_aload_n hx hb dL_law_1402 rfl (lv_at hl 2 rfl) ?_
  refine lv_aload_n hx hb dL_law_1403 rfl (lv_at hl 0 rfl) ?_
  refine lv_iload hx hb dL_law_1404 (lv_at hl 4 rfl) ?_
  refine lv_iconst (v := 1) hx hb dL_law_1406 (by decide) ?_
  refine lv_iadd hx hb dL_law_1407 ?_
  refine va_sld hx hb hX hbl hbA V.hS (law_in (k := 1) hi0 hi8 hL (by decide) rfl) dL_law_1408 ?_
  refine lv_aload_n hx hb dL_law_1409 rfl (lv_at hl 0 rfl) ?_
  refine lv_iload hx hb dL_law_1410 (lv_at hl 4 rfl) ?_
  refine lv_iconst (v := 2) hx hb dL_law_1412 (by decide) ?_
  refine lv_iadd hx hb dL_law_1413 ?_
  refine va_sld hx hb hX hbl hbA V.hS (law_in (k := 2) hi0 hi8 hL (by decide) rfl) dL_law_1414 ?_
  refine lv_aload_n hx hb dL_law_1415 rfl (lv_at hl 0 rfl) ?_
  refine lv_iload hx hb dL_law_1416 (lv_at hl 4 rfl) ?_
  refine lv_iconst (v := 3) hx hb dL_law_1418 (by decide) ?_
  refine lv_iadd hx hb dL_law_1419 ?_
  refine va_sld hx hb hX hbl hbA V.hS (law_in (k := 3) hi0 hi8 hL (by decide) rfl) dL_law_1420 ?_
  refine lM F V (fun r u h => ⟨h.1, DIr_kp h.2.1 (fun _ => rfl) (fun _ => rfl) V.hDI⟩) (va_runV (As := [.int (xs (i + 1).toNatClampNeg), .int (xs (i + 2).toNatClampNeg), .int (xs (i + 3).toNatClampNeg)]) (rest := []) ⟨hx, hb, hml, hown, hts⟩ (q_finding l dC dI cT am EM H.size (xs (i + 1).toNatClampNeg) (xs (i + 2).toNatClampNeg) (xs (i + 3).toNatClampNeg) V.hM) (cwV 3 hts (gl_V (al_3 _ (zs16 (zs16 (zs1 (zs0))))) (al_3 _ (zs16 (zs16 (zs1 (zs1 (zs0)))))) (al_3 _ (zs16 (zs16 (zs1 (zs1 (zs1 (zs0))))))) (vl_A _ (in_24 _ (zs4 (zs4 (zs4 (zs1 (zs1 (zs1 (zs0))))))))) (vl_A _ (in_31 _ (zs16 (zs16 (zs4 (zs1 (zs0)))))))) rfl rfl rfl ⟨rfl, hz_yX13_finding_3⟩ ⟨Nat.le_of_ble_eq_true rfl, Nat.le_of_ble_eq_true rfl⟩) ⟨HW_bl, va_recv F.km V.pm (ci := 14) (q0 := 0) rfl (V.hM.ob 0 (Nat.le_of_ble_eq_true rfl) rfl), HW_wi V.pm F.km V.dm V.hS F.hA F.hEV⟩ rfl rfl hl.1 rfl (lv_room (Nat.le_of_ble_eq_true rfl)) dL_law_1421 ⟨by show cn + 0 ≤ 601024; omega, by show sn + 0 ≤ 7293034; omega⟩) (fun r2 EM1 H locs hw2 V => ?_)
  have hRS := hRS.keep (cf' := cf) (E' := E1) rfl (fun i9 _ => xik hw1.2.1 (o := 64 * (i9 + 1) + 12) (j := 2) (by first | exact wl_p rfl rfl (by omega) | (simp [wl]; done) | (simp [wl]; omega))) (fun i9 _ => xik hw1.2.1 (o := 64 * (i9 + 1) + 12) (j := 3) (by first | exact wl_p rfl rfl (by omega) | (simp [wl]; done) | (simp [wl]; omega)))
  have hb9 : (xi (E 1) 1).toInt ≤ (xi (E1 1) 1).toInt := by rw [show xi (E1 1) 1 = xi (E 1) 1 from xik hw1.2.1 (o := 1) (j := 1) (by first | rfl | (simp [wl]; done) | (simp [wl]; omega))]; exact Int.le_refl _
  have hB := hB.keep (cf' := cf) (E' := E1) rfl hb9 (fun i9 _ => xik hw1.2.1 (o := 64 * (i9 + 1) + 0) (j := 0) (by first | exact wl_p rfl rfl (by omega) | (simp [wl]; done) | (simp [wl]; omega)))
  have hT := hT.keep (cf' := cf) (E' := E1) rfl (xik hw1.2.1 (o := 2) (j := 1) (by first | rfl | (simp [wl]; done) | (simp [wl]; omega))) (fun j9 => xik hw1.2.1 (o := 21) (j := j9) (by first | rfl | (simp [wl]; done) | (simp [wl]; omega))) (fun i9 j9 _ => xik hw1.2.1 (o := 64 * (i9 + 1) + 1) (j := j9) (by first | exact wl_p rfl rfl (by omega) | (simp [wl]; done) | (simp [wl]; omega))) (xik hw2.2.1 (o := 0) (j := 16) rfl) (xik hw2.2.1 (o := 0) (j := 17) rfl) (fun j9 => xik hw2.2.1 (o := 7) (j := j9) rfl) (fun j9 => xik hw2.2.1 (o := 10) (j := j9) rfl) (fun j9 => xik hw2.2.1 (o := 11) (j := j9) rfl)
  have hU := hU.keep (cf' := cf) (E' := E1) rfl (fun _ _ => ⟨rfl, rfl⟩) (fun i9 _ t9 _ _ j9 => xik hw1.2.1 (o := 64 * (i9 + 1) + t9) (j := j9) (by first | exact wl_p rfl rfl (by omega) | (simp [wl]; done) | (simp [wl]; omega))) (fun j9 => xik hw2.2.1 (o := 8) (j := j9) rfl) (fun j9 => xik hw2.2.1 (o := 9) (j := j9) rfl)
  have hG := hG.keep (cf' := cf) (E' := E1) rfl (fun i9 j9 _ => xik hw1.2.1 (o := 64 * (i9 + 1) + 14) (j := j9) (by first | exact wl_p rfl rfl (by omega) | (simp [wl]; done) | (simp [wl]; omega))) (fun j9 => xik hw2.2.1 (o := 51) (j := j9) rfl)
  have hR := hR.keep hcf k0 k1 k2 hp (kpS hw2.2.1 rfl) (kpR hw2.2.1 rfl)
  refine lv_pop hx hb dL_law_1424 rfl ?_
  refine lv_goto (tgt := 1859) hx hb dL_law_1425 (by decide) ?_
  exact W.widen (k := cn + 7) (n := sn + 3300) (by omega) (by omega) (tail _ _ _ _ _ _ _ _ V ⟨⟨⟨⟨⟨hR, hT⟩, hU⟩, hG⟩, hB⟩, hRS⟩ hl)
set_option maxHeartbeats 4000000 in
set_option maxRecDepth 100000 in
theorem law_case_26 {p : Program} {e : Env} {s : State} {m : MethodId} {below : List Frame} {meth : Method} {c : Code} (l : Launch) {b L : Nat} {xs : Nat → Int32} (hL : L ≤ 4096) (C0 : lw_At p s m meth c b L xs) {A : Nat → Prop} {ed : Nat} {dC : Nat → ClassId} {dI : Nat → Nat → Nat} {cT : Nat → ClassId} {cL : ClassId} (F : FX l s A ed dC dI cT cL) {x ou : Nat} {am cf ad : Nat → Nat} {E EM : Nat → va_E} {f : Nat → Int64} {H : Heap} {locs : List Loc} (V : INV s A ed dC dI cT cL x ou am cf ad E EM f H locs) (hR : REL15 cf E EM) {i : Int32} (hi0 : 0 ≤ i.toInt) (hi8 : i.toInt + 8 ≤ (L : Int)) {cn sn : Nat} (hcn : cn + 7 ≤ 601024) (hsn : sn + 3300 ≤ 7293034) (ls : Array Slot) (hl : lv_has ls 7 [(0, .ref b), (1, .ref x), (2, .ref (am 0)), (3, .ref ou), (4, .int i)]) (tail : (∀ (cf ad : Nat → Nat) (E EM : Nat → va_E) (f : Nat → Int64) (H : Heap) (locs : List Loc) (ls : Array Slot), INV s A ed dC dI cT cL x ou am cf ad E EM f H locs → REL15 cf E EM → lv_has ls 7 [(0, .ref b), (1, .ref x), (2, .ref (am 0)), (3, .ref ou), (4, .int i)] → W p l e room_1 s m #[Value.ref b] below meth c H locs (cn + 7) (sn + 3300) (lw_Z below #[Value.ref b] s) (F0 m 1859 ls []))) : W p l e room_1 s m #[Value.ref b] below meth c H locs cn sn (lw_Z below #[Value.ref b] s) (F0 m 1428 ls []) := by
  obtain ⟨hx, hb, hr, hml, hown, hts0, hX, hbl, hlocks, hgv⟩ := id C0
  have hts := fun w (h : w ∈ v_law) => hts0 w (v_law_in w h)
  have hbA : ¬ A b := F.hnA b hbl
  obtain rfl := V.hx
  obtain ⟨⟨⟨⟨⟨hR, hT⟩, hU⟩, hG⟩, hB⟩, hRS⟩ := hR
  refine lv_aload_n hx hb dL_law_1428 rfl (lv_at hl 1 rfl) ?_
  refine lv_aload_n hx hb dL_law_1429 rfl (lv_at hl 0 rfl) ?_
  refine lv_iload hx hb dL_law_1430 (lv_at hl 4 rfl) ?_
  refine lv_iconst (v := 1) hx hb dL_law_1432 (by decide) ?_
  refine lv_iadd hx hb dL_law_1433 ?_
  refine va_sld hx hb hX hbl hbA V.hS (law_in (k := 1) hi0 hi8 hL (by decide) rfl) dL_law_1434 ?_
  have hI0 := V.hI
  have hC0 := V.hC
  have hM0 := V.hM
  have bn : (0 : Int) ≤ (xi (E 1) 0).toInt ∧ (xi (E 1) 0).toInt ≤ 400 := hI0.iv 1 (mF 1 rfl) rfl (Nat.le_of_ble_eq_true rfl) rfl
  have bb : (0 : Int) ≤ (xi (E 1) 1).toInt ∧ (xi (E 1) 1).toInt ≤ 16 := hI0.iv 1 (mF 1 rfl) rfl (Nat.le_of_ble_eq_true rfl) rfl
  obtain ⟨⟨k0, k1, k2, k3, k4, k5⟩, -⟩ := id hC0
  refine lC F V (fun r u h => h.1) (va_runV (As := [.int (xs (i + 1).toNatClampNeg)]) (rest := []) ⟨hx, hb, hml, hown, hts⟩ (q_u_decideV l dC dI cT cf V.hC ad E H.size (xs (i + 1).toNatClampNeg) V.hI hU.1) (cwV 1 hts (gl_V (al_3 _ (zs16 (zs16 (zs4 (zs0))))) (al_3 _ (zs16 (zs16 (zs4 (zs1 (zs0)))))) (al_3 _ (zs16 (zs16 (zs4 (zs1 (zs1 (zs0))))))) (vl_A _ (in_4 _ (zs16 (zs4 (zs1 (zs1 (zs1 (zs0)))))))) (vl_A _ (in_14 _ (zs16 (zs1 (zs1 (zs0))))))) rfl rfl rfl ⟨rfl, hz_yX12_decide_1⟩ ⟨Nat.le_of_ble_eq_true rfl, Nat.le_of_ble_eq_true rfl⟩) ⟨HWL_bl, va_recv F.kc V.cp (ci := 13) (q0 := posL 0 (LC cf)) rfl (V.hI.ob 0 (mF 0 rfl) rfl), HWL_wi V.cp F.kc V.dc V.hS F.hA (V.ec F)⟩ rfl rfl hl.1 rfl (lv_room (Nat.le_of_ble_eq_true rfl)) dL_law_1435 ⟨by show cn + 0 ≤ 601024; omega, by show sn + 0 ≤ 7293034; omega⟩) (fun r1 E1 H locs hw1 V => ?_)
  refine lv_pop hx hb dL_law_1438 rfl ?_
  refine lv_aload_n hx hb dL_law_1439 rfl (lv_at hl 2 rfl) ?_
  refine lv_aload_n hx hb dL_law_1440 rfl (lv_at hl 0 rfl) ?_
  refine lv_iload hx hb dL_law_1441 (lv_at hl 4 rfl) ?_
  refine lv_iconst (v := 1) hx hb dL_law_1443 (by decide) ?_
  refine lv_iadd hx hb dL_law_1444 ?_
  refine va_sld hx hb hX hbl hbA V.hS (law_in (k := 1) hi0 hi8 hL (by decide) rfl) dL_law_1445 ?_
  refine lM F V (fun r u h => ⟨h.1, h.2.2.elim (fun q => q.2.2.2) (fun q => q.2.2.2)⟩) (va_runV (As := [.int (xs (i + 1).toNatClampNeg)]) (rest := []) ⟨hx, hb, hml, hown, hts⟩ (q_decideV l dC dI cT am EM H.size (xs (i + 1).toNatClampNeg) V.hM V.hDI (hU.ru hT).txm) (cwV 1 hts (gl_V (al_3 _ (zs16 (zs16 (zs4 (zs1 (zs1 (zs1 (zs0)))))))) (al_4 _ zs0) (al_4 _ (zs1 (zs0))) (vl_A _ (in_24 _ (zs4 (zs4 (zs4 (zs1 (zs1 (zs1 (zs0))))))))) (vl_A _ (in_30 _ (zs16 (zs4 (zs1 (zs1 (zs1 (zs0))))))))) rfl rfl rfl ⟨rfl, hz_yX13_decide_1⟩ ⟨Nat.le_of_ble_eq_true rfl, Nat.le_of_ble_eq_true rfl⟩) ⟨HW_bl, va_recv F.km V.pm (ci := 14) (q0 := 0) rfl (V.hM.ob 0 (Nat.le_of_ble_eq_true rfl) rfl), HW_wi V.pm F.km V.dm V.hS F.hA F.hEV⟩ rfl rfl hl.1 rfl (lv_room (Nat.le_of_ble_eq_true rfl)) dL_law_1446 ⟨by show cn + 0 ≤ 601024; omega, by show sn + 0 ≤ 7293034; omega⟩) (fun r2 EM1 H locs hw2 V => ?_)
  have hRS := hRS.keep (cf' := cf) (E' := E1) rfl (fun i9 _ => xik hw1.2.1 (o := 64 * (i9 + 1) + 12) (j := 2) (by first | exact wl_p rfl rfl (by omega) | (simp [wl]; done) | (simp [wl]; omega))) (fun i9 _ => xik hw1.2.1 (o := 64 * (i9 + 1) + 12) (j := 3) (by first | exact wl_p rfl rfl (by omega) | (simp [wl]; done) | (simp [wl]; omega)))
  have hb9 : (xi (E 1) 1).toInt ≤ (xi (E1 1) 1).toInt := by rw [show xi (E1 1) 1 = xi (E 1) 1 from xik hw1.2.1 (o := 1) (j := 1) (by first | rfl | (simp [wl]; done) | (simp [wl]; omega))]; exact Int.le_refl _
  have hB := hB.keep (cf' := cf) (E' := E1) rfl hb9 (fun i9 _ => xik hw1.2.1 (o := 64 * (i9 + 1) + 0) (j := 0) (by first | exact wl_p rfl rfl (by omega) | (simp [wl]; done) | (simp [wl]; omega)))
  have hT9 := hT
  have hU9 := hU
  have hT := hT.keep (cf' := cf) (E' := E1) rfl (xik hw1.2.1 (o := 2) (j := 1) (by first | rfl | (simp [wl]; done) | (simp [wl]; omega))) (fun j9 => xik hw1.2.1 (o := 21) (j := j9) (by first | rfl | (simp [wl]; done) | (simp [wl]; omega))) (fun i9 j9 _ => xik hw1.2.1 (o := 64 * (i9 + 1) + 1) (j := j9) (by first | exact wl_p rfl rfl (by omega) | (simp [wl]; done) | (simp [wl]; omega))) (xik hw2.2.1 (o := 0) (j := 16) rfl) (xik hw2.2.1 (o := 0) (j := 17) rfl) (fun j9 => xik hw2.2.1 (o := 7) (j := j9) rfl) (fun j9 => xik hw2.2.1 (o := 10) (j := j9) rfl) (fun j9 => xik hw2.2.1 (o := 11) (j := j9) rfl)
  have hU := hU.keep (cf' := cf) (E' := E1) rfl (fun _ _ => ⟨rfl, rfl⟩) (fun i9 _ t9 _ _ j9 => xik hw1.2.1 (o := 64 * (i9 + 1) + t9) (j := j9) (by first | exact wl_p rfl rfl (by omega) | (simp [wl]; done) | (simp [wl]; omega))) (fun j9 => xik hw2.2.1 (o := 8) (j := j9) rfl) (fun j9 => xik hw2.2.1 (o := 9) (j := j9) rfl)
  have hG9 := hG
  have e0 : (xi (E 1) 0).toInt = (xi (EM 0) 1).toInt := congrArg Int32.toInt hR.now
  have e1 : (xi (E 1) 1).toInt = (xi (EM 0) 8).toInt := congrArg Int32.toInt hR.boats
  have e2 : (xi (E 1) 2).toInt = (xi (EM 0) 48).toInt := congrArg Int32.toInt hR.red
  obtain ⟨q0, q2, q3, q4, q5⟩ := hR.cnt
  have lm : (-1 : Int32).toInt = -1 := rfl
  have l0 : (0 : Int32).toInt = 0 := rfl
  have l1 : (1 : Int32).toInt = 1 := rfl
  have l2 : (2 : Int32).toInt = 2 := rfl
  have lk : (1000 : Int32).toInt = 1000 := rfl
  have hp : PK (fun t j => Nat.beq t 14 && Nat.ble 5 j) cf E E1 := fun t i j ht _ hx _ => xik hw1.2.1 (by
    have h9 : ¬ (t = 14 ∧ 5 ≤ j) := fun h9 => by obtain ⟨rfl, h8⟩ := h9; have h7 := Nat.ble_eq_true_of_le h8; have hx : (Nat.beq 14 14 && Nat.ble 5 j) = false := hx; rw [h7] at hx; exact absurd hx (by decide)
    clear hx; simp [wl]; omega)
  have hk14 : ∀ i9 j9, i9 ≠ (xs (i + 1).toNatClampNeg).toNatClampNeg → xi (E1 (64 * (i9 + 1) + 14)) j9 = xi (E (64 * (i9 + 1) + 14)) j9 := fun i9 j9 hi => xik hw1.2.1 (by simp [wl]; omega)
  have hk4 : xi (E1 (64 * ((xs (i + 1).toNatClampNeg).toNatClampNeg + 1) + 14)) 4 = xi (E (64 * ((xs (i + 1).toNatClampNeg).toNatClampNeg + 1) + 14)) 4 := xik hw1.2.1 (by first | (simp [wl]; done) | (simp [wl]; omega))
  have kk0 : xi (E1 1) 0 = xi (E 1) 0 := xik hw1.2.1 (o := 1) (j := 0) (by first | rfl | (simp [wl]; done) | (simp [wl]; omega))
  have kk1 : xi (E1 1) 1 = xi (E 1) 1 := xik hw1.2.1 (o := 1) (j := 1) (by first | rfl | (simp [wl]; done) | (simp [wl]; omega))
  have kk2 : xi (E1 1) 2 = xi (E 1) 2 := xik hw1.2.1 (o := 1) (j := 2) (by first | rfl | (simp [wl]; done) | (simp [wl]; omega))
  have hn0 : (xi (E 1) 0).toInt ≤ (xi (E1 1) 0).toInt := by rw [kk0]; exact Int.le_refl _
  have hb0 : (xi (E 1) 1).toInt ≤ (xi (E1 1) 1).toInt := by rw [kk1]; exact Int.le_refl _
  have hst : ENst (cf 2) E E1 := ENst.of (fun i j hi => hp 7 i j (by decide) (by decide) rfl hi)
  have hsx := kpSx [] hw2.2.1 rfl
  have hrx := kpRx [52, 53, 54, 55] hw2.2.1 rfl
  have hd : r1.toInt = r2.toInt ∧ REL cf E1 EM1 ∧ GR cf E1 EM1 := by
    obtain ⟨-, -, hc1⟩ := id hw1
    obtain ⟨-, -, hc2⟩ := id hw2
    rcases hc1 with ⟨n1, g1, ⟨y5, y8, y7⟩, s9, hsw, hfa, hfb⟩ | ⟨n1, g1, s5, s6, s7, s8, s9⟩ <;> rcases hc2 with ⟨n2, ⟨g2, ms⟩, ⟨m55, m54, m51, m52, m53⟩, -⟩ | ⟨n2, g2, ⟨m55, m54, m51, m52, m53⟩, -⟩
    · have hne : ∀ p : Nat, cf 5 ≤ p → p ≠ (xs (i + 1).toNatClampNeg).toNatClampNeg := fun p h9 => by rw [tn_ (xs (i + 1).toNatClampNeg)]; omega
      have hi5 : (xs (i + 1).toNatClampNeg).toNatClampNeg < cf 5 := by rw [tn_ (xs (i + 1).toNatClampNeg)]; omega
      have hrl := (hR.er5 (14, 0, 1, 4) (by decide) (xs (i + 1).toNatClampNeg).toNatClampNeg hi5).1
      have hs9 := hR.sw.now hrl bn.2 hsw
      have hmp : (xi (E (64 * ((xs (i + 1).toNatClampNeg).toNatClampNeg + 1) + 14)) 0).toNatClampNeg = mPR EM (xs (i + 1).toNatClampNeg).toNatClampNeg := congrArg Int32.toNatClampNeg (hR.tb5 (14, 0, 46) (by decide) (xs (i + 1).toNatClampNeg).toNatClampNeg hi5)
      have hs8 : s9.toInt = (xi (EM 19) (mPR EM (xs (i + 1).toNatClampNeg).toNatClampNeg)).toInt := by rw [← hmp]; exact hs9
      have htd : (xi (EM 50) (xs (i + 1).toNatClampNeg).toNatClampNeg).toInt ≤ (xi (EM 0) 1).toInt := by
        have h7 : xi (E (64 * ((xs (i + 1).toNatClampNeg).toNatClampNeg + 1) + 14)) 4 = xi (EM 50) (xs (i + 1).toNatClampNeg).toNatClampNeg := hR.tb5 (14, 4, 50) (by decide) (xs (i + 1).toNatClampNeg).toNatClampNeg hi5
        have h8 := hR.tn5 (14, 4) (by decide) (xs (i + 1).toNatClampNeg).toNatClampNeg hi5
        rw [← h7, ← e0]; exact h8
      obtain ⟨ma, mb⟩ := ms htd
      rw [← hR.now] at ma mb
      have hca : r1.toInt % 2 = 1 ↔ r2.toInt % 2 = 1 := hfa.trans ((fnd_eq (i := (xs (i + 1).toNatClampNeg).toNatClampNeg) hR (hU9.ru hT9) (by omega) hi5 hs8).symm.trans ma.symm)
      have hcb : r1.toInt / 2 = 1 ↔ r2.toInt / 2 = 1 := hfb.trans ((fnd_eq (i := (xs (i + 1).toNatClampNeg).toNatClampNeg) hR (hU9.ru hT9) (by omega) hi5 hs8).symm.trans mb.symm)
      have hq : r1.toInt = r2.toInt := by omega
      exact ⟨hq, ⟨(kk0.trans hR.now).trans ((hsx 1 (by decide) rfl)).symm,
      (kk1.trans hR.boats).trans ((hsx 8 (by decide) rfl)).symm,
      (kk2.trans hR.red).trans ((hsx 48 (by decide) rfl)).symm,
      CNT.mv (hR.cnt.k rfl rfl rfl rfl rfl) (fun j hj => by simp only [List.mem_cons, List.not_mem_nil, or_false] at hj; rcases hj with rfl | rfl | rfl | rfl | rfl; exact (hsx 9 (by decide) rfl); exact (hsx 46 (by decide) rfl); exact (hsx 47 (by decide) rfl); exact (hsx 74 (by decide) rfl); exact (hsx 75 (by decide) rfl)),
      EN.m (EM' := EM1) (EN.k (E' := E1) hR.en rfl (fun i j hi => hp 7 i j (by decide) (by decide) rfl hi)) (hrx 21 (by decide) rfl),
      (TBj.km (TBj.kc (E' := E1) hR.tb0 rfl (hp.tb (J := 0) rfl)) (fun q hq j => (show ∀ r ∈ [1, 2, 3, 4, 5, 6], ∀ j, xi (EM1 r) j = xi (EM r) j from fun r hr9 => by simp only [List.mem_cons, List.not_mem_nil, or_false] at hr9; rcases hr9 with rfl | rfl | rfl | rfl | rfl | rfl; exact (hrx 1 (by decide) rfl); exact (hrx 2 (by decide) rfl); exact (hrx 3 (by decide) rfl); exact (hrx 4 (by decide) rfl); exact (hrx 5 (by decide) rfl); exact (hrx 6 (by decide) rfl)) _ (tbm0 q hq) j)),
      (TBj.km (TBj.kc (E' := E1) hR.tb2 rfl (hp.tb (J := 2) rfl)) (fun q hq j => (show ∀ r ∈ [20, 13, 14, 15, 16, 17, 18], ∀ j, xi (EM1 r) j = xi (EM r) j from fun r hr9 => by simp only [List.mem_cons, List.not_mem_nil, or_false] at hr9; rcases hr9 with rfl | rfl | rfl | rfl | rfl | rfl | rfl; exact (hrx 20 (by decide) rfl); exact (hrx 13 (by decide) rfl); exact (hrx 14 (by decide) rfl); exact (hrx 15 (by decide) rfl); exact (hrx 16 (by decide) rfl); exact (hrx 17 (by decide) rfl); exact (hrx 18 (by decide) rfl)) _ (tbm2 q hq) j)),
      (TBj.km (TBj.kc (E' := E1) hR.tb3 rfl (hp.tb (J := 3) rfl)) (fun q hq j => (show ∀ r ∈ [24, 25, 26, 27, 28], ∀ j, xi (EM1 r) j = xi (EM r) j from fun r hr9 => by simp only [List.mem_cons, List.not_mem_nil, or_false] at hr9; rcases hr9 with rfl | rfl | rfl | rfl | rfl; exact (hrx 24 (by decide) rfl); exact (hrx 25 (by decide) rfl); exact (hrx 26 (by decide) rfl); exact (hrx 27 (by decide) rfl); exact (hrx 28 (by decide) rfl)) _ (tbm3 q hq) j)),
      (TBj.km (TBj.kc (E' := E1) hR.tb4 rfl (hp.tb (J := 4) rfl)) (fun q hq j => (show ∀ r ∈ [38, 39, 45, 40, 41, 42, 43, 44], ∀ j, xi (EM1 r) j = xi (EM r) j from fun r hr9 => by simp only [List.mem_cons, List.not_mem_nil, or_false] at hr9; rcases hr9 with rfl | rfl | rfl | rfl | rfl | rfl | rfl | rfl; exact (hrx 38 (by decide) rfl); exact (hrx 39 (by decide) rfl); exact (hrx 45 (by decide) rfl); exact (hrx 40 (by decide) rfl); exact (hrx 41 (by decide) rfl); exact (hrx 42 (by decide) rfl); exact (hrx 43 (by decide) rfl); exact (hrx 44 (by decide) rfl)) _ (tbm4 q hq) j)),
      (TBj.km (TBj.kc (E' := E1) hR.tb5 rfl (hp.tb (J := 5) rfl)) (fun q hq j => (show ∀ r ∈ [46, 47, 48, 49, 50], ∀ j, xi (EM1 r) j = xi (EM r) j from fun r hr9 => by simp only [List.mem_cons, List.not_mem_nil, or_false] at hr9; rcases hr9 with rfl | rfl | rfl | rfl | rfl; exact (hrx 46 (by decide) rfl); exact (hrx 47 (by decide) rfl); exact (hrx 48 (by decide) rfl); exact (hrx 49 (by decide) rfl); exact (hrx 50 (by decide) rfl)) _ (tbm5 q hq) j)),
      (hR.eb.kc rfl hn0 hb0 (fun i hi => hp 6 i 0 (by decide) (by decide) rfl hi) (fun i j hi => hp 7 i j (by decide) (by decide) rfl hi)),
      RD.km (RD.kc (E' := E1) hR.rd rfl hn0 (fun i j hi => hp 8 i j (by decide) (by decide) rfl hi)) (hsx 48 (by decide) rfl) (hrx 29 (by decide) rfl) (hrx 30 (by decide) rfl) (hrx 31 (by decide) rfl),
      ST.km (ST.kc (E' := E1) hR.st rfl hb0 (fun i j hi => hp 9 i j (by decide) (by decide) rfl hi) (fun i j hi => hp 10 i j (by decide) (by decide) rfl hi)) (hrx 22 (by decide) rfl) (hrx 23 (by decide) rfl),
      SW.km (SW.kc (E' := E1) hR.sw rfl hn0 (fun i hi => hp 6 i 0 (by decide) (by decide) rfl hi) (fun i j hi => hp 11 i j (by decide) (by decide) rfl hi)) (hrx 19 (by decide) rfl),
      hR.dc.decide (a := (xs (i + 1).toNatClampNeg)) (r := r2) g1.1 bn.1 kk0 g1.2.1 hk14 hk4 g1.2.2 (fun q9 => ⟨(y5 q9).1, (y5 q9).2.2.1⟩) (fun q9 => ⟨(y8 q9).1, (y8 q9).2.2.1⟩) y7 m55 m54 (by rw [hR.now]; exact m52) m53,
      (hR.tn0.kc rfl hn0 (hp.tn (J := 0) rfl)),
      (hR.tn2.kc rfl hn0 (hp.tn (J := 2) rfl)),
      (hR.tn3.kc rfl hn0 (hp.tn (J := 3) rfl)),
      (hR.tn4.kc rfl hn0 (hp.tn (J := 4) rfl)),
      (hR.tn5.kc rfl hn0 (hp.tn (J := 5) rfl)),
      (hR.rmo.kc rfl (fun i hi => hp 6 i 0 (by decide) (by decide) rfl hi)),
      (hR.er3.kc rfl (Nat.le_of_eq (rfl).symm) hst (hp.er (J := 3) rfl)),
      (hR.er4.kc rfl (Nat.le_of_eq (rfl).symm) hst (hp.er (J := 4) rfl)),
      (hR.er5.kc rfl (Nat.le_of_eq (rfl).symm) hst (hp.er (J := 5) rfl)),
      (hR.pne.kc rfl (fun i hi => hp 14 i 1 (by decide) (by decide) rfl hi) (fun i hi => hp 14 i 2 (by decide) (by decide) rfl hi)),
      fun p h8 h9 => by rw [m54, m55, upd_n (hne p h8), upd_n (hne p h8)]; exact hR.dz p h8 h9,
      RRo.km (RRo.kc (cf' := _) hR.rro (Nat.le_of_eq (rfl).symm)) (hsx 48 (by decide) rfl) (hrx 29 (by decide) rfl)⟩, hG9.decide (a := (xs (i + 1).toNatClampNeg)) (r1 := r1) (r2 := r2) hR.dc (by omega) g2.2 (fun i9 j9 _ hi9 => hk14 i9 j9 hi9) hq (fun q9 => ⟨(y5 q9).2.1, (y5 q9).2.2.1⟩) (fun q9 => ⟨(y8 q9).2.1, (y8 q9).2.2.1, (y8 q9).2.2.2⟩) m51⟩
    · exfalso; have h9 := (dc_eq hR.dc (a := (xs (i + 1).toNatClampNeg)) (by omega)).1; omega
    · exfalso; have h9 := (dc_eq hR.dc (a := (xs (i + 1).toNatClampNeg)) (by omega)).1; have ht4 : (xi (E (64 * ((xs (i + 1).toNatClampNeg).toNatClampNeg + 1) + 14)) 4).toInt ≤ (xi (E 1) 0).toInt := hR.tn5 (14, 4) (by decide) (xs (i + 1).toNatClampNeg).toNatClampNeg (by rw [tn_ (xs (i + 1).toNatClampNeg)]; omega); omega
    · refine ⟨by rw [n1, n2], ?_⟩
      have hp0 : PK X0 cf E E1 := fun t9 i9 j9 ht hk1 _ hi => by
        by_cases h14 : t9 = 14 ∧ i9 = (xs (i + 1).toNatClampNeg).toNatClampNeg ∧ 5 ≤ j9 ∧ j9 ≤ 9
        · obtain ⟨rfl, rfl, h5, h9⟩ := h14
          rcases (show j9 = 5 ∨ j9 = 6 ∨ j9 = 7 ∨ j9 = 8 ∨ j9 = 9 by omega) with rfl | rfl | rfl | rfl | rfl
          · exact Int32.toInt_inj.mp s5
          · exact Int32.toInt_inj.mp s6
          · exact Int32.toInt_inj.mp s7
          · exact Int32.toInt_inj.mp s8
          · exact Int32.toInt_inj.mp s9
        · exact xik hw1.2.1 (by simp [wl]; omega)
      exact ⟨hR.keep (fun _ _ _ => rfl) kk0 kk1 kk2 hp0 (kpS hw2.2.1 rfl) (kpRy [52, 53, 54, 55] (kpRx [52, 53, 54, 55] hw2.2.1 rfl) (fun r hq j => by simp only [List.mem_cons, List.not_mem_nil, or_false] at hq; rcases hq with rfl | rfl | rfl | rfl; exact (congrFun m52 j); exact (congrFun m53 j); exact (congrFun m54 j); exact (congrFun m55 j))), hG9.keep rfl (fun i9 j9 hi9 => hp0 14 i9 j9 (by decide) (by decide) rfl hi9) (fun j9 => congrFun m51 j9)⟩
  have hR := hd.2.1
  have hG := hd.2.2
  refine lv_pop hx hb dL_law_1449 rfl ?_
  refine lv_goto (tgt := 1859) hx hb dL_law_1450 (by decide) ?_
  exact W.widen (k := cn + 7) (n := sn + 3300) (by omega) (by omega) (tail _ _ _ _ _ _ _ _ V ⟨⟨⟨⟨⟨hR, hT⟩, hU⟩, hG⟩, hB⟩, hRS⟩ hl)
set_option maxHeartbeats 4000000 in
set_option maxRecDepth 100000 in
theorem law_case_27 {p : Program} {e : Env} {s : State} {m : MethodId} {below : List Frame} {meth : Method} {c : Code} (l : Launch) {b L : Nat} {xs : Nat → Int32} (hL : L ≤ 4096) (C0 : lw_At p s m meth c b L xs) {A : Nat → Prop} {ed : Nat} {dC : Nat → ClassId} {dI : Nat → Nat → Nat} {cT : Nat → ClassId} {cL : ClassId} (F : FX l s A ed dC dI cT cL) {x ou : Nat} {am cf ad : Nat → Nat} {E EM : Nat → va_E} {f : Nat → Int64} {H : Heap} {locs : List Loc} (V : INV s A ed dC dI cT cL x ou am cf ad E EM f H locs) (hR : REL15 cf E EM) {i : Int32} (hi0 : 0 ≤ i.toInt) (hi8 : i.toInt + 8 ≤ (L : Int)) {cn sn : Nat} (hcn : cn + 7 ≤ 601024) (hsn : sn + 3300 ≤ 7293034) (ls : Array Slot) (hl : lv_has ls 7 [(0, .ref b), (1, .ref x), (2, .ref (am 0)), (3, .ref ou), (4, .int i)]) (tail : (∀ (cf ad : Nat → Nat) (E EM : Nat → va_E) (f : Nat → Int64) (H : Heap) (locs : List Loc) (ls : Array Slot), INV s A ed dC dI cT cL x ou am cf ad E EM f H locs → REL15 cf E EM → lv_has ls 7 [(0, .ref b), (1, .ref x), (2, .ref (am 0)), (3, .ref ou), (4, .int i)] → W p l e room_1 s m #[Value.ref b] below meth c H locs (cn + 7) (sn + 3300) (lw_Z below #[Value.ref b] s) (F0 m 1859 ls []))) : W p l e room_1 s m #[Value.ref b] below meth c H locs cn sn (lw_Z below #[Value.ref b] s) (F0 m 1453 ls []) := by
  obtain ⟨hx, hb, hr, hml, hown, hts0, hX, hbl, hlocks, hgv⟩ := id C0
  have hts := fun w (h : w ∈ v_law) => hts0 w (v_law_in w h)
  have hbA : ¬ A b := F.hnA b hbl
  obtain rfl := V.hx
  obtain ⟨⟨⟨⟨⟨hR, hT⟩, hU⟩, hG⟩, hB⟩, hRS⟩ := hR
  refine lv_aload_n hx hb dL_law_1453 rfl (lv_at hl 1 rfl) ?_
  refine lv_aload_n hx hb dL_law_1454 rfl (lv_at hl 0 rfl) ?_
  refine lv_iload hx hb dL_law_1455 (lv_at hl 4 rfl) ?_
  refine lv_iconst (v := 1) hx hb dL_law_1457 (by decide) ?_
  refine lv_iadd hx hb dL_law_1458 ?_
  refine va_sld hx hb hX hbl hbA V.hS (law_in (k := 1) hi0 hi8 hL (by decide) rfl) dL_law_1459 ?_
  have hI0 := V.hI
  have hC0 := V.hC
  have hM0 := V.hM
  have bn : (0 : Int) ≤ (xi (E 1) 0).toInt ∧ (xi (E 1) 0).toInt ≤ 400 := hI0.iv 1 (mF 1 rfl) rfl (Nat.le_of_ble_eq_true rfl) rfl
  have bb : (0 : Int) ≤ (xi (E 1) 1).toInt ∧ (xi (E 1) 1).toInt ≤ 16 := hI0.iv 1 (mF 1 rfl) rfl (Nat.le_of_ble_eq_true rfl) rfl
  obtain ⟨⟨k0, k1, k2, k3, k4, k5⟩, -⟩ := id hC0
  refine lC F V (fun r u h => h.1) (va_runV (As := [.int (xs (i + 1).toNatClampNeg)]) (rest := []) ⟨hx, hb, hml, hown, hts⟩ (q_u_reopenX l dC dI cT cf V.hC ad E H.size (xs (i + 1).toNatClampNeg) V.hI) (cwV 1 hts (gl_V (al_4 _ (zs1 (zs1 (zs0)))) (al_4 _ (zs1 (zs1 (zs1 (zs0))))) (al_4 _ (zs4 (zs0))) (vl_A _ (in_4 _ (zs16 (zs4 (zs1 (zs1 (zs1 (zs0)))))))) (vl_A _ (in_22 _ (zs16 (zs1 (zs1 (zs1 (zs0)))))))) rfl rfl rfl ⟨rfl, hz_yX12_reopen_1⟩ ⟨Nat.le_of_ble_eq_true rfl, Nat.le_of_ble_eq_true rfl⟩) ⟨HWL_bl, va_recv F.kc V.cp (ci := 13) (q0 := posL 0 (LC cf)) rfl (V.hI.ob 0 (mF 0 rfl) rfl), HWL_wi V.cp F.kc V.dc V.hS F.hA (V.ec F)⟩ rfl rfl hl.1 rfl (lv_room (Nat.le_of_ble_eq_true rfl)) dL_law_1460 ⟨by show cn + 0 ≤ 601024; omega, by show sn + 0 ≤ 7293034; omega⟩) (fun r1 E1 H locs hw1 V => ?_)
  refine lv_pop hx hb dL_law_1463 rfl ?_
  refine lv_aload_n hx hb dL_law_1464 rfl (lv_at hl 2 rfl) ?_
  refine lv_aload_n hx hb dL_law_1465 rfl (lv_at hl 0 rfl) ?_
  refine lv_iload hx hb dL_law_1466 (lv_at hl 4 rfl) ?_
  refine lv_iconst (v := 1) hx hb dL_law_1468 (by decide) ?_
  refine lv_iadd hx hb dL_law_1469 ?_
  refine va_sld hx hb hX hbl hbA V.hS (law_in (k := 1) hi0 hi8 hL (by decide) rfl) dL_law_1470 ?_
  refine lM F V (fun r u h => ⟨h.1, h.2.2.elim (fun q => q.2.2.2) (fun q => q.2.2.2)⟩) (va_runV (As := [.int (xs (i + 1).toNatClampNeg)]) (rest := []) ⟨hx, hb, hml, hown, hts⟩ (q_reopenX l dC dI cT am EM H.size (xs (i + 1).toNatClampNeg) V.hM V.hDI) (cwV 1 hts (gl_V (al_4 _ (zs4 (zs1 (zs0)))) (al_4 _ (zs4 (zs1 (zs1 (zs0))))) (al_4 _ (zs4 (zs1 (zs1 (zs1 (zs0)))))) (vl_A _ (in_24 _ (zs4 (zs4 (zs4 (zs1 (zs1 (zs1 (zs0))))))))) (vl_A _ (in_33 _ (zs16 (zs4 (zs1 (zs0))))))) rfl rfl rfl ⟨rfl, hz_yX13_reopen_1⟩ ⟨Nat.le_of_ble_eq_true rfl, Nat.le_of_ble_eq_true rfl⟩) ⟨HW_bl, va_recv F.km V.pm (ci := 14) (q0 := 0) rfl (V.hM.ob 0 (Nat.le_of_ble_eq_true rfl) rfl), HW_wi V.pm F.km V.dm V.hS F.hA F.hEV⟩ rfl rfl hl.1 rfl (lv_room (Nat.le_of_ble_eq_true rfl)) dL_law_1471 ⟨by show cn + 0 ≤ 601024; omega, by show sn + 0 ≤ 7293034; omega⟩) (fun r2 EM1 H locs hw2 V => ?_)
  have hRS := hRS.keep (cf' := cf) (E' := E1) rfl (fun i9 _ => xik hw1.2.1 (o := 64 * (i9 + 1) + 12) (j := 2) (by first | exact wl_p rfl rfl (by omega) | (simp [wl]; done) | (simp [wl]; omega))) (fun i9 _ => xik hw1.2.1 (o := 64 * (i9 + 1) + 12) (j := 3) (by first | exact wl_p rfl rfl (by omega) | (simp [wl]; done) | (simp [wl]; omega)))
  have hb9 : (xi (E 1) 1).toInt ≤ (xi (E1 1) 1).toInt := by rw [show xi (E1 1) 1 = xi (E 1) 1 from xik hw1.2.1 (o := 1) (j := 1) (by first | rfl | (simp [wl]; done) | (simp [wl]; omega))]; exact Int.le_refl _
  have hB := hB.keep (cf' := cf) (E' := E1) rfl hb9 (fun i9 _ => xik hw1.2.1 (o := 64 * (i9 + 1) + 0) (j := 0) (by first | exact wl_p rfl rfl (by omega) | (simp [wl]; done) | (simp [wl]; omega)))
  have hT := hT.keep (cf' := cf) (E' := E1) rfl (xik hw1.2.1 (o := 2) (j := 1) (by first | rfl | (simp [wl]; done) | (simp [wl]; omega))) (fun j9 => xik hw1.2.1 (o := 21) (j := j9) (by first | rfl | (simp [wl]; done) | (simp [wl]; omega))) (fun i9 j9 _ => xik hw1.2.1 (o := 64 * (i9 + 1) + 1) (j := j9) (by first | exact wl_p rfl rfl (by omega) | (simp [wl]; done) | (simp [wl]; omega))) (xik hw2.2.1 (o := 0) (j := 16) rfl) (xik hw2.2.1 (o := 0) (j := 17) rfl) (fun j9 => xik hw2.2.1 (o := 7) (j := j9) rfl) (fun j9 => xik hw2.2.1 (o := 10) (j := j9) rfl) (fun j9 => xik hw2.2.1 (o := 11) (j := j9) rfl)
  have hU := hU.keep (cf' := cf) (E' := E1) rfl (fun _ _ => ⟨rfl, rfl⟩) (fun i9 _ t9 _ _ j9 => xik hw1.2.1 (o := 64 * (i9 + 1) + t9) (j := j9) (by first | exact wl_p rfl rfl (by omega) | (simp [wl]; done) | (simp [wl]; omega))) (fun j9 => xik hw2.2.1 (o := 8) (j := j9) rfl) (fun j9 => xik hw2.2.1 (o := 9) (j := j9) rfl)
  have hG9 := hG
  have e0 : (xi (E 1) 0).toInt = (xi (EM 0) 1).toInt := congrArg Int32.toInt hR.now
  have e1 : (xi (E 1) 1).toInt = (xi (EM 0) 8).toInt := congrArg Int32.toInt hR.boats
  have e2 : (xi (E 1) 2).toInt = (xi (EM 0) 48).toInt := congrArg Int32.toInt hR.red
  obtain ⟨q0, q2, q3, q4, q5⟩ := hR.cnt
  have lm : (-1 : Int32).toInt = -1 := rfl
  have l0 : (0 : Int32).toInt = 0 := rfl
  have l1 : (1 : Int32).toInt = 1 := rfl
  have l2 : (2 : Int32).toInt = 2 := rfl
  have lk : (1000 : Int32).toInt = 1000 := rfl
  have hp : PK (fun t j => Nat.beq t 14 && Nat.ble 5 j) cf E E1 := fun t i j ht _ hx _ => xik hw1.2.1 (by
    have h9 : ¬ (t = 14 ∧ 5 ≤ j) := fun h9 => by obtain ⟨rfl, h8⟩ := h9; have h7 := Nat.ble_eq_true_of_le h8; have hx : (Nat.beq 14 14 && Nat.ble 5 j) = false := hx; rw [h7] at hx; exact absurd hx (by decide)
    clear hx; simp [wl]; omega)
  have hk14 : ∀ i9 j9, i9 ≠ (xs (i + 1).toNatClampNeg).toNatClampNeg → xi (E1 (64 * (i9 + 1) + 14)) j9 = xi (E (64 * (i9 + 1) + 14)) j9 := fun i9 j9 hi => xik hw1.2.1 (by simp [wl]; omega)
  have hk4 : xi (E1 (64 * ((xs (i + 1).toNatClampNeg).toNatClampNeg + 1) + 14)) 4 = xi (E (64 * ((xs (i + 1).toNatClampNeg).toNatClampNeg + 1) + 14)) 4 := xik hw1.2.1 (by first | (simp [wl]; done) | (simp [wl]; omega))
  have kk0 : xi (E1 1) 0 = xi (E 1) 0 := xik hw1.2.1 (o := 1) (j := 0) (by first | rfl | (simp [wl]; done) | (simp [wl]; omega))
  have kk1 : xi (E1 1) 1 = xi (E 1) 1 := xik hw1.2.1 (o := 1) (j := 1) (by first | rfl | (simp [wl]; done) | (simp [wl]; omega))
  have kk2 : xi (E1 1) 2 = xi (E 1) 2 := xik hw1.2.1 (o := 1) (j := 2) (by first | rfl | (simp [wl]; done) | (simp [wl]; omega))
  have hn0 : (xi (E 1) 0).toInt ≤ (xi (E1 1) 0).toInt := by rw [kk0]; exact Int.le_refl _
  have hb0 : (xi (E 1) 1).toInt ≤ (xi (E1 1) 1).toInt := by rw [kk1]; exact Int.le_refl _
  have hst : ENst (cf 2) E E1 := ENst.of (fun i j hi => hp 7 i j (by decide) (by decide) rfl hi)
  have hsx := kpSx [] hw2.2.1 rfl
  have hrx := kpRx [52, 53, 54, 55] hw2.2.1 rfl
  have hd : r1.toInt = r2.toInt ∧ REL cf E1 EM1 := by
    obtain ⟨-, -, hc1⟩ := id hw1
    obtain ⟨-, -, hc2⟩ := id hw2
    rcases hc1 with ⟨n1, g1, y7, y5, y6, y8, y9⟩ | ⟨n1, g1, s5, s6, s7, s8, s9⟩ <;> rcases hc2 with ⟨n2, g2, ⟨m55, m54, m51, m52, m53⟩, -⟩ | ⟨n2, g2, ⟨m55, m54, m51, m52, m53⟩, -⟩
    · have hne : ∀ p : Nat, cf 5 ≤ p → p ≠ (xs (i + 1).toNatClampNeg).toNatClampNeg := fun p h9 => by rw [tn_ (xs (i + 1).toNatClampNeg)]; omega
      exact ⟨by rw [n1, n2], ⟨(kk0.trans hR.now).trans ((hsx 1 (by decide) rfl)).symm,
      (kk1.trans hR.boats).trans ((hsx 8 (by decide) rfl)).symm,
      (kk2.trans hR.red).trans ((hsx 48 (by decide) rfl)).symm,
      CNT.mv (hR.cnt.k rfl rfl rfl rfl rfl) (fun j hj => by simp only [List.mem_cons, List.not_mem_nil, or_false] at hj; rcases hj with rfl | rfl | rfl | rfl | rfl; exact (hsx 9 (by decide) rfl); exact (hsx 46 (by decide) rfl); exact (hsx 47 (by decide) rfl); exact (hsx 74 (by decide) rfl); exact (hsx 75 (by decide) rfl)),
      EN.m (EM' := EM1) (EN.k (E' := E1) hR.en rfl (fun i j hi => hp 7 i j (by decide) (by decide) rfl hi)) (hrx 21 (by decide) rfl),
      (TBj.km (TBj.kc (E' := E1) hR.tb0 rfl (hp.tb (J := 0) rfl)) (fun q hq j => (show ∀ r ∈ [1, 2, 3, 4, 5, 6], ∀ j, xi (EM1 r) j = xi (EM r) j from fun r hr9 => by simp only [List.mem_cons, List.not_mem_nil, or_false] at hr9; rcases hr9 with rfl | rfl | rfl | rfl | rfl | rfl; exact (hrx 1 (by decide) rfl); exact (hrx 2 (by decide) rfl); exact (hrx 3 (by decide) rfl); exact (hrx 4 (by decide) rfl); exact (hrx 5 (by decide) rfl); exact (hrx 6 (by decide) rfl)) _ (tbm0 q hq) j)),
      (TBj.km (TBj.kc (E' := E1) hR.tb2 rfl (hp.tb (J := 2) rfl)) (fun q hq j => (show ∀ r ∈ [20, 13, 14, 15, 16, 17, 18], ∀ j, xi (EM1 r) j = xi (EM r) j from fun r hr9 => by simp only [List.mem_cons, List.not_mem_nil, or_false] at hr9; rcases hr9 with rfl | rfl | rfl | rfl | rfl | rfl | rfl; exact (hrx 20 (by decide) rfl); exact (hrx 13 (by decide) rfl); exact (hrx 14 (by decide) rfl); exact (hrx 15 (by decide) rfl); exact (hrx 16 (by decide) rfl); exact (hrx 17 (by decide) rfl); exact (hrx 18 (by decide) rfl)) _ (tbm2 q hq) j)),
      (TBj.km (TBj.kc (E' := E1) hR.tb3 rfl (hp.tb (J := 3) rfl)) (fun q hq j => (show ∀ r ∈ [24, 25, 26, 27, 28], ∀ j, xi (EM1 r) j = xi (EM r) j from fun r hr9 => by simp only [List.mem_cons, List.not_mem_nil, or_false] at hr9; rcases hr9 with rfl | rfl | rfl | rfl | rfl; exact (hrx 24 (by decide) rfl); exact (hrx 25 (by decide) rfl); exact (hrx 26 (by decide) rfl); exact (hrx 27 (by decide) rfl); exact (hrx 28 (by decide) rfl)) _ (tbm3 q hq) j)),
      (TBj.km (TBj.kc (E' := E1) hR.tb4 rfl (hp.tb (J := 4) rfl)) (fun q hq j => (show ∀ r ∈ [38, 39, 45, 40, 41, 42, 43, 44], ∀ j, xi (EM1 r) j = xi (EM r) j from fun r hr9 => by simp only [List.mem_cons, List.not_mem_nil, or_false] at hr9; rcases hr9 with rfl | rfl | rfl | rfl | rfl | rfl | rfl | rfl; exact (hrx 38 (by decide) rfl); exact (hrx 39 (by decide) rfl); exact (hrx 45 (by decide) rfl); exact (hrx 40 (by decide) rfl); exact (hrx 41 (by decide) rfl); exact (hrx 42 (by decide) rfl); exact (hrx 43 (by decide) rfl); exact (hrx 44 (by decide) rfl)) _ (tbm4 q hq) j)),
      (TBj.km (TBj.kc (E' := E1) hR.tb5 rfl (hp.tb (J := 5) rfl)) (fun q hq j => (show ∀ r ∈ [46, 47, 48, 49, 50], ∀ j, xi (EM1 r) j = xi (EM r) j from fun r hr9 => by simp only [List.mem_cons, List.not_mem_nil, or_false] at hr9; rcases hr9 with rfl | rfl | rfl | rfl | rfl; exact (hrx 46 (by decide) rfl); exact (hrx 47 (by decide) rfl); exact (hrx 48 (by decide) rfl); exact (hrx 49 (by decide) rfl); exact (hrx 50 (by decide) rfl)) _ (tbm5 q hq) j)),
      (hR.eb.kc rfl hn0 hb0 (fun i hi => hp 6 i 0 (by decide) (by decide) rfl hi) (fun i j hi => hp 7 i j (by decide) (by decide) rfl hi)),
      RD.km (RD.kc (E' := E1) hR.rd rfl hn0 (fun i j hi => hp 8 i j (by decide) (by decide) rfl hi)) (hsx 48 (by decide) rfl) (hrx 29 (by decide) rfl) (hrx 30 (by decide) rfl) (hrx 31 (by decide) rfl),
      ST.km (ST.kc (E' := E1) hR.st rfl hb0 (fun i j hi => hp 9 i j (by decide) (by decide) rfl hi) (fun i j hi => hp 10 i j (by decide) (by decide) rfl hi)) (hrx 22 (by decide) rfl) (hrx 23 (by decide) rfl),
      SW.km (SW.kc (E' := E1) hR.sw rfl hn0 (fun i hi => hp 6 i 0 (by decide) (by decide) rfl hi) (fun i j hi => hp 11 i j (by decide) (by decide) rfl hi)) (hrx 19 (by decide) rfl),
      hR.dc.reopen (a := (xs (i + 1).toNatClampNeg)) g1.1 bn.1 kk0 hk14 hk4 g1.2.2.1 g1.2.2.2 y7 y5 y8 m55 m54 m52 (by rw [hR.now]; exact m53),
      (hR.tn0.kc rfl hn0 (hp.tn (J := 0) rfl)),
      (hR.tn2.kc rfl hn0 (hp.tn (J := 2) rfl)),
      (hR.tn3.kc rfl hn0 (hp.tn (J := 3) rfl)),
      (hR.tn4.kc rfl hn0 (hp.tn (J := 4) rfl)),
      (hR.tn5.kc rfl hn0 (hp.tn (J := 5) rfl)),
      (hR.rmo.kc rfl (fun i hi => hp 6 i 0 (by decide) (by decide) rfl hi)),
      (hR.er3.kc rfl (Nat.le_of_eq (rfl).symm) hst (hp.er (J := 3) rfl)),
      (hR.er4.kc rfl (Nat.le_of_eq (rfl).symm) hst (hp.er (J := 4) rfl)),
      (hR.er5.kc rfl (Nat.le_of_eq (rfl).symm) hst (hp.er (J := 5) rfl)),
      (hR.pne.kc rfl (fun i hi => hp 14 i 1 (by decide) (by decide) rfl hi) (fun i hi => hp 14 i 2 (by decide) (by decide) rfl hi)),
      fun p h8 h9 => by rw [m54, m55, upd_n (hne p h8)]; exact hR.dz p h8 h9,
      RRo.km (RRo.kc (cf' := _) hR.rro (Nat.le_of_eq (rfl).symm)) (hsx 48 (by decide) rfl) (hrx 29 (by decide) rfl)⟩⟩
    · exfalso; have h9 := (dc_eq hR.dc g1.1).2; omega
    · exfalso; have h9 := (dc_eq hR.dc (a := (xs (i + 1).toNatClampNeg)) (by omega)).2; have ht4 : (xi (E (64 * ((xs (i + 1).toNatClampNeg).toNatClampNeg + 1) + 14)) 4).toInt ≤ (xi (E 1) 0).toInt := hR.tn5 (14, 4) (by decide) (xs (i + 1).toNatClampNeg).toNatClampNeg (by rw [tn_ (xs (i + 1).toNatClampNeg)]; omega); omega
    · refine ⟨by rw [n1, n2], ?_⟩
      have hp0 : PK X0 cf E E1 := fun t9 i9 j9 ht hk1 _ hi => by
        by_cases h14 : t9 = 14 ∧ i9 = (xs (i + 1).toNatClampNeg).toNatClampNeg ∧ 5 ≤ j9 ∧ j9 ≤ 9
        · obtain ⟨rfl, rfl, h5, h9⟩ := h14
          rcases (show j9 = 5 ∨ j9 = 6 ∨ j9 = 7 ∨ j9 = 8 ∨ j9 = 9 by omega) with rfl | rfl | rfl | rfl | rfl
          · exact Int32.toInt_inj.mp s5
          · exact Int32.toInt_inj.mp s6
          · exact Int32.toInt_inj.mp s7
          · exact Int32.toInt_inj.mp s8
          · exact Int32.toInt_inj.mp s9
        · exact xik hw1.2.1 (by simp [wl]; omega)
      exact hR.keep (fun _ _ _ => rfl) kk0 kk1 kk2 hp0 (kpS hw2.2.1 rfl) (kpRy [52, 53, 54, 55] (kpRx [52, 53, 54, 55] hw2.2.1 rfl) (fun r hq j => by simp only [List.mem_cons, List.not_mem_nil, or_false] at hq; rcases hq with rfl | rfl | rfl | rfl; exact (congrFun m52 j); exact (congrFun m53 j); exact (congrFun m54 j); exact (congrFun m55 j)))
  have hR := hd.2
  have h51 : xi (EM1 51) = xi (EM 51) := by
    obtain ⟨-, -, hc2⟩ := id hw2
    rcases hc2 with ⟨-, -, ⟨-, -, m51, -, -⟩, -⟩ | ⟨-, -, ⟨-, -, m51, -, -⟩, -⟩ <;> exact m51
  have hG : GR cf E1 EM1 := by
    obtain ⟨-, -, hc1⟩ := id hw1
    rcases hc1 with ⟨-, -, -, y5, y6, y8, y9⟩ | ⟨-, -, y5, y6, -, y8, y9⟩
    · exact hG9.one (a := (xs (i + 1).toNatClampNeg).toNatClampNeg) (fun i9 j9 _ hi9 => hk14 i9 j9 hi9) (fun j9 _ _ => congrFun h51 j9) (fun hi9 => (hG9 _ hi9).keep y5 y6 y8 y9 (congrFun h51 _) (congrFun h51 _))
    · exact hG9.one (a := (xs (i + 1).toNatClampNeg).toNatClampNeg) (fun i9 j9 _ hi9 => hk14 i9 j9 hi9) (fun j9 _ _ => congrFun h51 j9) (fun hi9 => (hG9 _ hi9).keep y5 y6 y8 y9 (congrFun h51 _) (congrFun h51 _))
  refine lv_pop hx hb dL_law_1474 rfl ?_
  refine lv_goto (tgt := 1859) hx hb dL_law_1475 (by decide) ?_
  exact W.widen (k := cn + 7) (n := sn + 3300) (by omega) (by omega) (tail _ _ _ _ _ _ _ _ V ⟨⟨⟨⟨⟨hR, hT⟩, hU⟩, hG⟩, hB⟩, hRS⟩ hl)
set_option maxHeartbeats 4000000 in
set_option maxRecDepth 100000 in
theorem law_case_28 {p : Program} {e : Env} {s : State} {m : MethodId} {below : List Frame} {meth : Method} {c : Code} (l : Launch) {b L : Nat} {xs : Nat → Int32} (hL : L ≤ 4096) (C0 : lw_At p s m meth c b L xs) {A : Nat → Prop} {ed : Nat} {dC : Nat → ClassId} {dI : Nat → Nat → Nat} {cT : Nat → ClassId} {cL : ClassId} (F : FX l s A ed dC dI cT cL) {x ou : Nat} {am cf ad : Nat → Nat} {E EM : Nat → va_E} {f : Nat → Int64} {H : Heap} {locs : List Loc} (V : INV s A ed dC dI cT cL x ou am cf ad E EM f H locs) (hR : REL15 cf E EM) {i : Int32} (hi0 : 0 ≤ i.toInt) (hi8 : i.toInt + 8 ≤ (L : Int)) {cn sn : Nat} (hcn : cn + 7 ≤ 601024) (hsn : sn + 3300 ≤ 7293034) (ls : Array Slot) (hl : lv_has ls 7 [(0, .ref b), (1, .ref x), (2, .ref (am 0)), (3, .ref ou), (4, .int i)]) (tail : (∀ (cf ad : Nat → Nat) (E EM : Nat → va_E) (f : Nat → Int64) (H : Heap) (locs : List Loc) (ls : Array Slot), INV s A ed dC dI cT cL x ou am cf ad E EM f H locs → REL15 cf E EM → lv_has ls 7 [(0, .ref b), (1, .ref x), (2, .ref (am 0)), (3, .ref ou), (4, .int i)] → W p l e room_1 s m #[Value.ref b] below meth c H locs (cn + 7) (sn + 3300) (lw_Z below #[Value.ref b] s) (F0 m 1859 ls []))) : W p l e room_1 s m #[Value.ref b] below meth c H locs cn sn (lw_Z below #[Value.ref b] s) (F0 m 1478 ls []) := by
  obtain ⟨hx, hb, hr, hml, hown, hts0, hX, hbl, hlocks, hgv⟩ := id C0
  have hts := fun w (h : w ∈ v_law) => hts0 w (v_law_in w h)
  have hbA : ¬ A b := F.hnA b hbl
  obtain rfl := V.hx
  obtain ⟨⟨⟨⟨⟨hR, hT⟩, hU⟩, hG⟩, hB⟩, hRS⟩ := hR
  refine lv_aload_n hx hb dL_law_1478 rfl (lv_at hl 1 rfl) ?_
  refine lv_aload_n hx hb dL_law_1479 rfl (lv_at hl 0 rfl) ?_
  refine lv_iload hx hb dL_law_1480 (lv_at hl 4 rfl) ?_
  refine lv_iconst (v := 1) hx hb dL_law_1482 (by decide) ?_
  refine lv_iadd hx hb dL_law_1483 ?_
  refine va_sld hx hb hX hbl hbA V.hS (law_in (k := 1) hi0 hi8 hL (by decide) rfl) dL_law_1484 ?_
  have hI0 := V.hI
  have hC0 := V.hC
  have hM0 := V.hM
  have bn : (0 : Int) ≤ (xi (E 1) 0).toInt ∧ (xi (E 1) 0).toInt ≤ 400 := hI0.iv 1 (mF 1 rfl) rfl (Nat.le_of_ble_eq_true rfl) rfl
  have bb : (0 : Int) ≤ (xi (E 1) 1).toInt ∧ (xi (E 1) 1).toInt ≤ 16 := hI0.iv 1 (mF 1 rfl) rfl (Nat.le_of_ble_eq_true rfl) rfl
  obtain ⟨⟨k0, k1, k2, k3, k4, k5⟩, -⟩ := id hC0
  refine lC F V (fun r u h => h.1) (va_runV (As := [.int (xs (i + 1).toNatClampNeg)]) (rest := []) ⟨hx, hb, hml, hown, hts⟩ (q_u_evenX l dC dI cT cf V.hC ad E H.size (xs (i + 1).toNatClampNeg) V.hI hU.1) (cwV 1 hts (gl_V (al_4 _ (zs4 (zs4 (zs0)))) (al_4 _ (zs4 (zs4 (zs1 (zs0))))) (al_4 _ (zs4 (zs4 (zs1 (zs1 (zs0)))))) (vl_A _ (in_4 _ (zs16 (zs4 (zs1 (zs1 (zs1 (zs0)))))))) (vl_A _ (in_18 _ (zs4 (zs0))))) rfl rfl rfl ⟨rfl, hz_yX12_even_1⟩ ⟨Nat.le_of_ble_eq_true rfl, Nat.le_of_ble_eq_true rfl⟩) ⟨HWL_bl, va_recv F.kc V.cp (ci := 13) (q0 := posL 0 (LC cf)) rfl (V.hI.ob 0 (mF 0 rfl) rfl), HWL_wi V.cp F.kc V.dc V.hS F.hA (V.ec F)⟩ rfl rfl hl.1 rfl (lv_room (Nat.le_of_ble_eq_true rfl)) dL_law_1485 ⟨by show cn + 0 ≤ 601024; omega, by show sn + 0 ≤ 7293034; omega⟩) (fun r1 E1 H locs hw1 V => ?_)
  have hcf : ∀ j, j < 6 → j ≠ 1 → cf j = cf j := fun _ _ _ => rfl
  have k6 : xi (E1 1) 0 = xi (E 1) 0 := xik hw1.2.1 (o := 1) (j := 0) (by first | rfl | (simp [wl]; done) | (simp [wl]; omega))
  have k7 : xi (E1 1) 1 = xi (E 1) 1 := xik hw1.2.1 (o := 1) (j := 1) (by first | rfl | (simp [wl]; done) | (simp [wl]; omega))
  have k8 : xi (E1 1) 2 = xi (E 1) 2 := xik hw1.2.1 (o := 1) (j := 2) (by first | rfl | (simp [wl]; done) | (simp [wl]; omega))
  have hp : PK X0 cf E E1 := fun t i j _ _ _ _ => xik hw1.2.1 (by first | exact wl_p rfl rfl (by omega) | (simp [wl]; done) | (simp [wl]; omega))
  refine lv_pop hx hb dL_law_1488 rfl ?_
  refine lv_aload_n hx hb dL_law_1489 rfl (lv_at hl 2 rfl) ?_
  refine lv_aload_n hx hb dL_law_1490 rfl (lv_at hl 0 rfl) ?_
  refine lv_iload hx hb dL_law_1491 (lv_at hl 4 rfl) ?_
  refine lv_iconst (v := 1) hx hb dL_law_1493 (by decide) ?_
  refine lv_iadd hx hb dL_law_1494 ?_
  refine va_sld hx hb hX hbl hbA V.hS (law_in (k := 1) hi0 hi8 hL (by decide) rfl) dL_law_1495 ?_
  refine lM F V (fun r u h => ⟨h.1, DIr_kp h.2.1 (fun _ => rfl) (fun _ => rfl) V.hDI⟩) (va_runV (As := [.int (xs (i + 1).toNatClampNeg)]) (rest := []) ⟨hx, hb, hml, hown, hts⟩ (q_evenM l dC dI cT am EM H.size (xs (i + 1).toNatClampNeg) V.hM (hU.ru hT).txm (rs_eq hR hRS)) (cwV 1 hts (gl_V (al_4 _ (zs4 (zs4 (zs1 (zs1 (zs1 (zs0))))))) (al_4 _ (zs4 (zs4 (zs4 (zs0))))) (al_4 _ (zs4 (zs4 (zs4 (zs1 (zs0)))))) (vl_A _ (in_24 _ (zs4 (zs4 (zs4 (zs1 (zs1 (zs1 (zs0))))))))) (vl_A _ (in_31 _ (zs16 (zs4 (zs4 (zs1 (zs1 (zs1 (zs0)))))))))) rfl rfl rfl ⟨rfl, hz_yX13_even_1⟩ ⟨Nat.le_of_ble_eq_true rfl, Nat.le_of_ble_eq_true rfl⟩) ⟨HW_bl, va_recv F.km V.pm (ci := 14) (q0 := 0) rfl (V.hM.ob 0 (Nat.le_of_ble_eq_true rfl) rfl), HW_wi V.pm F.km V.dm V.hS F.hA F.hEV⟩ rfl rfl hl.1 rfl (lv_room (Nat.le_of_ble_eq_true rfl)) dL_law_1496 ⟨by show cn + 0 ≤ 601024; omega, by show sn + 0 ≤ 7293034; omega⟩) (fun r2 EM1 H locs hw2 V => ?_)
  have hG9 := hG
  have hT9 := hT
  have hU9 := hU
  have hRS9 := hRS
  have hRS := hRS.keep (cf' := cf) (E' := E1) rfl (fun i9 _ => xik hw1.2.1 (o := 64 * (i9 + 1) + 12) (j := 2) (by first | exact wl_p rfl rfl (by omega) | (simp [wl]; done) | (simp [wl]; omega))) (fun i9 _ => xik hw1.2.1 (o := 64 * (i9 + 1) + 12) (j := 3) (by first | exact wl_p rfl rfl (by omega) | (simp [wl]; done) | (simp [wl]; omega)))
  have hb9 : (xi (E 1) 1).toInt ≤ (xi (E1 1) 1).toInt := by rw [show xi (E1 1) 1 = xi (E 1) 1 from xik hw1.2.1 (o := 1) (j := 1) (by first | rfl | (simp [wl]; done) | (simp [wl]; omega))]; exact Int.le_refl _
  have hB := hB.keep (cf' := cf) (E' := E1) rfl hb9 (fun i9 _ => xik hw1.2.1 (o := 64 * (i9 + 1) + 0) (j := 0) (by first | exact wl_p rfl rfl (by omega) | (simp [wl]; done) | (simp [wl]; omega)))
  have hT := hT.keep (cf' := cf) (E' := E1) rfl (xik hw1.2.1 (o := 2) (j := 1) (by first | rfl | (simp [wl]; done) | (simp [wl]; omega))) (fun j9 => xik hw1.2.1 (o := 21) (j := j9) (by first | rfl | (simp [wl]; done) | (simp [wl]; omega))) (fun i9 j9 _ => xik hw1.2.1 (o := 64 * (i9 + 1) + 1) (j := j9) (by first | exact wl_p rfl rfl (by omega) | (simp [wl]; done) | (simp [wl]; omega))) (xik hw2.2.1 (o := 0) (j := 16) rfl) (xik hw2.2.1 (o := 0) (j := 17) rfl) (fun j9 => xik hw2.2.1 (o := 7) (j := j9) rfl) (fun j9 => xik hw2.2.1 (o := 10) (j := j9) rfl) (fun j9 => xik hw2.2.1 (o := 11) (j := j9) rfl)
  have hU := hU.keep (cf' := cf) (E' := E1) rfl (fun _ _ => ⟨rfl, rfl⟩) (fun i9 _ t9 _ _ j9 => xik hw1.2.1 (o := 64 * (i9 + 1) + t9) (j := j9) (by first | exact wl_p rfl rfl (by omega) | (simp [wl]; done) | (simp [wl]; omega))) (fun j9 => xik hw2.2.1 (o := 8) (j := j9) rfl) (fun j9 => xik hw2.2.1 (o := 9) (j := j9) rfl)
  have hG := hG.keep (cf' := cf) (E' := E1) rfl (fun i9 j9 _ => xik hw1.2.1 (o := 64 * (i9 + 1) + 14) (j := j9) (by first | exact wl_p rfl rfl (by omega) | (simp [wl]; done) | (simp [wl]; omega))) (fun j9 => xik hw2.2.1 (o := 51) (j := j9) rfl)
  have e0 : (xi (E 1) 0).toInt = (xi (EM 0) 1).toInt := congrArg Int32.toInt hR.now
  have e1 : (xi (E 1) 1).toInt = (xi (EM 0) 8).toInt := congrArg Int32.toInt hR.boats
  have e2 : (xi (E 1) 2).toInt = (xi (EM 0) 48).toInt := congrArg Int32.toInt hR.red
  obtain ⟨q0, q2, q3, q4, q5⟩ := hR.cnt
  have lm : (-1 : Int32).toInt = -1 := rfl
  have l0 : (0 : Int32).toInt = 0 := rfl
  have l1 : (1 : Int32).toInt = 1 := rfl
  have l2 : (2 : Int32).toInt = 2 := rfl
  have lk : (1000 : Int32).toInt = 1000 := rfl
  have hd : r1.toInt = r2.toInt ∧ True := by
    obtain ⟨-, -, p1, p2⟩ := id hw1
    obtain ⟨-, -, m1, m2⟩ := id hw2
    exact ⟨evn_eq hR hG9 (hU9.ru hT9) hM0 (by omega) (by omega) (by omega) (by omega) bb bn p1 p2 m1 m2, trivial⟩
  have hR := hR.keep hcf k6 k7 k8 hp (kpS hw2.2.1 rfl) (kpR hw2.2.1 rfl)
  refine lv_pop hx hb dL_law_1499 rfl ?_
  refine lv_goto (tgt := 1859) hx hb dL_law_1500 (by decide) ?_
  exact W.widen (k := cn + 7) (n := sn + 3300) (by omega) (by omega) (tail _ _ _ _ _ _ _ _ V ⟨⟨⟨⟨⟨hR, hT⟩, hU⟩, hG⟩, hB⟩, hRS⟩ hl)
set_option maxHeartbeats 4000000 in
set_option maxRecDepth 100000 in
theorem law_case_29 {p : Program} {e : Env} {s : State} {m : MethodId} {below : List Frame} {meth : Method} {c : Code} (l : Launch) {b L : Nat} {xs : Nat → Int32} (hL : L ≤ 4096) (C0 : lw_At p s m meth c b L xs) {A : Nat → Prop} {ed : Nat} {dC : Nat → ClassId} {dI : Nat → Nat → Nat} {cT : Nat → ClassId} {cL : ClassId} (F : FX l s A ed dC dI cT cL) {x ou : Nat} {am cf ad : Nat → Nat} {E EM : Nat → va_E} {f : Nat → Int64} {H : Heap} {locs : List Loc} (V : INV s A ed dC dI cT cL x ou am cf ad E EM f H locs) (hR : REL15 cf E EM) {i : Int32} (hi0 : 0 ≤ i.toInt) (hi8 : i.toInt + 8 ≤ (L : Int)) {cn sn : Nat} (hcn : cn + 7 ≤ 601024) (hsn : sn + 3300 ≤ 7293034) (ls : Array Slot) (hl : lv_has ls 7 [(0, .ref b), (1, .ref x), (2, .ref (am 0)), (3, .ref ou), (4, .int i)]) (tail : (∀ (cf ad : Nat → Nat) (E EM : Nat → va_E) (f : Nat → Int64) (H : Heap) (locs : List Loc) (ls : Array Slot), INV s A ed dC dI cT cL x ou am cf ad E EM f H locs → REL15 cf E EM → lv_has ls 7 [(0, .ref b), (1, .ref x), (2, .ref (am 0)), (3, .ref ou), (4, .int i)] → W p l e room_1 s m #[Value.ref b] below meth c H locs (cn + 7) (sn + 3300) (lw_Z below #[Value.ref b] s) (F0 m 1859 ls []))) : W p l e room_1 s m #[Value.ref b] below meth c H locs cn sn (lw_Z below #[Value.ref b] s) (F0 m 1503 ls []) := by
  obtain ⟨hx, hb, hr, hml, hown, hts0, hX, hbl, hlocks, hgv⟩ := id C0
  have hts := fun w (h : w ∈ v_law) => hts0 w (v_law_in w h)
  have hbA : ¬ A b := F.hnA b hbl
  obtain rfl := V.hx
  obtain ⟨⟨⟨⟨⟨hR, hT⟩, hU⟩, hG⟩, hB⟩, hRS⟩ := hR
  refine lv_aload_n hx hb dL_law_1503 rfl (lv_at hl 1 rfl) ?_
  refine lv_aload_n hx hb dL_law_1504 rfl (lv_at hl 0 rfl) ?_
  refine lv_iload hx hb dL_law_1505 (lv_at hl 4 rfl) ?_
  refine lv_iconst (v := 1) hx hb dL_law_1507 (by decide) ?_
  refine lv_iadd hx hb dL_law_1508 ?_
  refine va_sld hx hb hX hbl hbA V.hS (law_in (k := 1) hi0 hi8 hL (by decide) rfl) dL_law_1509 ?_
  refine lv_aload_n hx hb dL_law_1510 rfl (lv_at hl 0 rfl) ?_
  refine lv_iload hx hb dL_law_1511 (lv_at hl 4 rfl) ?_
  refine lv_iconst (v := 2) hx hb dL_law_1513 (by decide) ?_
  refine lv_iadd hx hb dL_law_1514 ?_
  refine va_sld hx hb hX hbl hbA V.hS (law_in (k := 2) hi0 hi8 hL (by decide) rfl) dL_law_1515 ?_
  have hI0 := V.hI
  have hC0 := V.hC
  have hM0 := V.hM
  have bn : (0 : Int) ≤ (xi (E 1) 0).toInt ∧ (xi (E 1) 0).toInt ≤ 400 := hI0.iv 1 (mF 1 rfl) rfl (Nat.le_of_ble_eq_true rfl) rfl
  have bb : (0 : Int) ≤ (xi (E 1) 1).toInt ∧ (xi (E 1) 1).toInt ≤ 16 := hI0.iv 1 (mF 1 rfl) rfl (Nat.le_of_ble_eq_true rfl) rfl
  obtain ⟨⟨k0, k1, k2, k3, k4, k5⟩, -⟩ := id hC0
  refine lC F V (fun r u h => h.1) (va_runV (As := [.int (xs (i + 1).toNatClampNeg), .int (xs (i + 2).toNatClampNeg)]) (rest := []) ⟨hx, hb, hml, hown, hts⟩ (q_u_changeX l dC dI cT cf V.hC ad E H.size (xs (i + 1).toNatClampNeg) (xs (i + 2).toNatClampNeg) V.hI hU.1) (cwV 2 hts (gl_V (al_4 _ (zs4 (zs4 (zs4 (zs1 (zs1 (zs0))))))) (al_4 _ (zs4 (zs4 (zs4 (zs1 (zs1 (zs1 (zs0)))))))) (al_4 _ (zs16 (zs0))) (vl_A _ (in_4 _ (zs16 (zs4 (zs1 (zs1 (zs1 (zs0)))))))) (vl_A _ (in_11 _ (zs4 (zs1 (zs1 (zs0))))))) rfl rfl rfl ⟨rfl, hz_yX12_change_2⟩ ⟨Nat.le_of_ble_eq_true rfl, Nat.le_of_ble_eq_true rfl⟩) ⟨HWL_bl, va_recv F.kc V.cp (ci := 13) (q0 := posL 0 (LC cf)) rfl (V.hI.ob 0 (mF 0 rfl) rfl), HWL_wi V.cp F.kc V.dc V.hS F.hA (V.ec F)⟩ rfl rfl hl.1 rfl (lv_room (Nat.le_of_ble_eq_true rfl)) dL_law_1516 ⟨by show cn + 0 ≤ 601024; omega, by show sn + 0 ≤ 7293034; omega⟩) (fun r1 E1 H locs hw1 V => ?_)
  have hcf : ∀ j, j < 6 → j ≠ 1 → cf j = cf j := fun _ _ _ => rfl
  have k6 : xi (E1 1) 0 = xi (E 1) 0 := xik hw1.2.1 (o := 1) (j := 0) (by first | rfl | (simp [wl]; done) | (simp [wl]; omega))
  have k7 : xi (E1 1) 1 = xi (E 1) 1 := xik hw1.2.1 (o := 1) (j := 1) (by first | rfl | (simp [wl]; done) | (simp [wl]; omega))
  have k8 : xi (E1 1) 2 = xi (E 1) 2 := xik hw1.2.1 (o := 1) (j := 2) (by first | rfl | (simp [wl]; done) | (simp [wl]; omega))
  have hp : PK X0 cf E E1 := fun t i j _ _ _ _ => xik hw1.2.1 (by first | exact wl_p rfl rfl (by omega) | (simp [wl]; done) | (simp [wl]; omega))
  refine lv_aload_n hx hb dL_law_1519 rfl (lv_at hl 2 rfl) ?_
  refine lv_aload_n hx hb dL_law_1520 rfl (lv_at hl 0 rfl) ?_
  refine lv_iload hx hb dL_law_1521 (lv_at hl 4 rfl) ?_
  refine lv_iconst (v := 1) hx hb dL_law_1523 (by decide) ?_
  refine lv_iadd hx hb dL_law_1524 ?_
  refine va_sld hx hb hX hbl hbA V.hS (law_in (k := 1) hi0 hi8 hL (by decide) rfl) dL_law_1525 ?_
  refine lv_aload_n hx hb dL_law_1526 rfl (lv_at hl 0 rfl) ?_
  refine lv_iload hx hb dL_law_1527 (lv_at hl 4 rfl) ?_
  refine lv_iconst (v := 2) hx hb dL_law_1529 (by decide) ?_
  refine lv_iadd hx hb dL_law_1530 ?_
  refine va_sld hx hb hX hbl hbA V.hS (law_in (k := 2) hi0 hi8 hL (by decide) rfl) dL_law_1531 ?_
  refine lM F V (fun r u h => ⟨h.1, DIr_kp h.2.1 (fun _ => rfl) (fun _ => rfl) V.hDI⟩) (va_runV (As := [.int (xs (i + 1).toNatClampNeg), .int (xs (i + 2).toNatClampNeg)]) (rest := [.int r1]) ⟨hx, hb, hml, hown, hts⟩ (q_changeM l dC dI cT am EM H.size (xs (i + 1).toNatClampNeg) (xs (i + 2).toNatClampNeg) V.hM (hU.ru hT).txm (rs_eq hR hRS)) (cwV 2 hts (gl_V (al_4 _ (zs16 (zs1 (zs0)))) (al_4 _ (zs16 (zs1 (zs1 (zs0))))) (al_4 _ (zs16 (zs1 (zs1 (zs1 (zs0)))))) (vl_A _ (in_24 _ (zs4 (zs4 (zs4 (zs1 (zs1 (zs1 (zs0))))))))) (vl_A _ (in_27 _ (zs16 (zs4 (zs0)))))) rfl rfl rfl ⟨rfl, hz_yX13_change_2⟩ ⟨Nat.le_of_ble_eq_true rfl, Nat.le_of_ble_eq_true rfl⟩) ⟨HW_bl, va_recv F.km V.pm (ci := 14) (q0 := 0) rfl (V.hM.ob 0 (Nat.le_of_ble_eq_true rfl) rfl), HW_wi V.pm F.km V.dm V.hS F.hA F.hEV⟩ rfl rfl hl.1 rfl (lv_room (Nat.le_of_ble_eq_true rfl)) dL_law_1532 ⟨by show cn + 0 ≤ 601024; omega, by show sn + 0 ≤ 7293034; omega⟩) (fun r2 EM1 H locs hw2 V => ?_)
  have hG9 := hG
  have hT9 := hT
  have hU9 := hU
  have hRS9 := hRS
  have hRS := hRS.keep (cf' := cf) (E' := E1) rfl (fun i9 _ => xik hw1.2.1 (o := 64 * (i9 + 1) + 12) (j := 2) (by first | exact wl_p rfl rfl (by omega) | (simp [wl]; done) | (simp [wl]; omega))) (fun i9 _ => xik hw1.2.1 (o := 64 * (i9 + 1) + 12) (j := 3) (by first | exact wl_p rfl rfl (by omega) | (simp [wl]; done) | (simp [wl]; omega)))
  have hb9 : (xi (E 1) 1).toInt ≤ (xi (E1 1) 1).toInt := by rw [show xi (E1 1) 1 = xi (E 1) 1 from xik hw1.2.1 (o := 1) (j := 1) (by first | rfl | (simp [wl]; done) | (simp [wl]; omega))]; exact Int.le_refl _
  have hB := hB.keep (cf' := cf) (E' := E1) rfl hb9 (fun i9 _ => xik hw1.2.1 (o := 64 * (i9 + 1) + 0) (j := 0) (by first | exact wl_p rfl rfl (by omega) | (simp [wl]; done) | (simp [wl]; omega)))
  have hT := hT.keep (cf' := cf) (E' := E1) rfl (xik hw1.2.1 (o := 2) (j := 1) (by first | rfl | (simp [wl]; done) | (simp [wl]; omega))) (fun j9 => xik hw1.2.1 (o := 21) (j := j9) (by first | rfl | (simp [wl]; done) | (simp [wl]; omega))) (fun i9 j9 _ => xik hw1.2.1 (o := 64 * (i9 + 1) + 1) (j := j9) (by first | exact wl_p rfl rfl (by omega) | (simp [wl]; done) | (simp [wl]; omega))) (xik hw2.2.1 (o := 0) (j := 16) rfl) (xik hw2.2.1 (o := 0) (j := 17) rfl) (fun j9 => xik hw2.2.1 (o := 7) (j := j9) rfl) (fun j9 => xik hw2.2.1 (o := 10) (j := j9) rfl) (fun j9 => xik hw2.2.1 (o := 11) (j := j9) rfl)
  have hU := hU.keep (cf' := cf) (E' := E1) rfl (fun _ _ => ⟨rfl, rfl⟩) (fun i9 _ t9 _ _ j9 => xik hw1.2.1 (o := 64 * (i9 + 1) + t9) (j := j9) (by first | exact wl_p rfl rfl (by omega) | (simp [wl]; done) | (simp [wl]; omega))) (fun j9 => xik hw2.2.1 (o := 8) (j := j9) rfl) (fun j9 => xik hw2.2.1 (o := 9) (j := j9) rfl)
  have hG := hG.keep (cf' := cf) (E' := E1) rfl (fun i9 j9 _ => xik hw1.2.1 (o := 64 * (i9 + 1) + 14) (j := j9) (by first | exact wl_p rfl rfl (by omega) | (simp [wl]; done) | (simp [wl]; omega))) (fun j9 => xik hw2.2.1 (o := 51) (j := j9) rfl)
  have e0 : (xi (E 1) 0).toInt = (xi (EM 0) 1).toInt := congrArg Int32.toInt hR.now
  have e1 : (xi (E 1) 1).toInt = (xi (EM 0) 8).toInt := congrArg Int32.toInt hR.boats
  have e2 : (xi (E 1) 2).toInt = (xi (EM 0) 48).toInt := congrArg Int32.toInt hR.red
  obtain ⟨q0, q2, q3, q4, q5⟩ := hR.cnt
  have lm : (-1 : Int32).toInt = -1 := rfl
  have l0 : (0 : Int32).toInt = 0 := rfl
  have l1 : (1 : Int32).toInt = 1 := rfl
  have l2 : (2 : Int32).toInt = 2 := rfl
  have lk : (1000 : Int32).toInt = 1000 := rfl
  have hd : r1.toInt = r2.toInt ∧ True := by
    obtain ⟨-, -, p1, p2⟩ := id hw1
    obtain ⟨-, -, m1, m2⟩ := id hw2
    exact ⟨chg_eq hR hG9 (hU9.ru hT9) hM0 (by omega) (by omega) (by omega) (by omega) bb bn p1 p2 m1 m2, trivial⟩
  have hR := hR.keep hcf k6 k7 k8 hp (kpS hw2.2.1 rfl) (kpR hw2.2.1 rfl)
  refine lv_icmp_eq (tgt := 1859) hx hb dL_law_1535 (by decide) (fun c1 => ?_) (fun c1 => ?_)
  · exact W.widen (k := cn + 7) (n := sn + 3300) (by omega) (by omega) (tail _ _ _ _ _ _ _ _ V ⟨⟨⟨⟨⟨hR, hT⟩, hU⟩, hG⟩, hB⟩, hRS⟩ hl)
  · exact absurd (Int32.toInt_inj.mp hd.1) c1
