theorem d_L_law_1101 : decode cL_law 1101 = .ok (.aload_n 2, 1) := by decide +kernel
theorem d_L_law_1102 : decode cL_law 1102 = .ok (.invokevirtual 85, 3) := by decide +kernel
theorem d_L_law_1105 : decode cL_law 1105 = .ok (.iload 5, 2) := by decide +kernel
theorem d_L_law_1107 : decode cL_law 1107 = .ok (.if_icmp .eq 5, 3) := by decide +kernel
theorem d_L_law_1110 : decode cL_law 1110 = .ok (.iconst 0, 1) := by decide +kernel
theorem d_L_law_1111 : decode cL_law 1111 = .ok (.ireturn, 1) := by decide +kernel
theorem d_L_law_1112 : decode cL_law 1112 = .ok (.iload 5, 2) := by decide +kernel
theorem d_L_law_1114 : decode cL_law 1114 = .ok (.ifCond .ne 15, 3) := by decide +kernel
theorem d_L_law_1117 : decode cL_law 1117 = .ok (.aload_n 3, 1) := by decide +kernel
theorem d_L_law_1118 : decode cL_law 1118 = .ok (.iconst 0, 1) := by decide +kernel
theorem d_L_law_1119 : decode cL_law 1119 = .ok (.laload, 1) := by decide +kernel
theorem d_L_law_1120 : decode cL_law 1120 = .ok (.iload 6, 2) := by decide +kernel
theorem d_L_law_1122 : decode cL_law 1122 = .ok (.i2l, 1) := by decide +kernel
theorem d_L_law_1123 : decode cL_law 1123 = .ok (.lcmp, 1) := by decide +kernel
theorem d_L_law_1124 : decode cL_law 1124 = .ok (.ifCond .eq 5, 3) := by decide +kernel
theorem d_L_law_1127 : decode cL_law 1127 = .ok (.iconst 0, 1) := by decide +kernel
theorem d_L_law_1128 : decode cL_law 1128 = .ok (.ireturn, 1) := by decide +kernel
theorem d_L_law_1129 : decode cL_law 1129 = .ok (.goto 338, 3) := by decide +kernel
theorem d_L_law_1132 : decode cL_law 1132 = .ok (.aload_n 1, 1) := by decide +kernel
theorem d_L_law_1133 : decode cL_law 1133 = .ok (.aload_n 0, 1) := by decide +kernel
theorem d_L_law_1134 : decode cL_law 1134 = .ok (.iload 4, 2) := by decide +kernel
theorem d_L_law_1136 : decode cL_law 1136 = .ok (.iconst 1, 1) := by decide +kernel
theorem d_L_law_1137 : decode cL_law 1137 = .ok (.iadd, 1) := by decide +kernel
theorem d_L_law_1138 : decode cL_law 1138 = .ok (.iaload, 1) := by decide +kernel
theorem d_L_law_1139 : decode cL_law 1139 = .ok (.aload_n 0, 1) := by decide +kernel
theorem d_L_law_1140 : decode cL_law 1140 = .ok (.iload 4, 2) := by decide +kernel
theorem d_L_law_1142 : decode cL_law 1142 = .ok (.iconst 2, 1) := by decide +kernel
theorem d_L_law_1143 : decode cL_law 1143 = .ok (.iadd, 1) := by decide +kernel
theorem d_L_law_1144 : decode cL_law 1144 = .ok (.iaload, 1) := by decide +kernel
theorem d_L_law_1145 : decode cL_law 1145 = .ok (.aload_n 3, 1) := by decide +kernel
theorem d_L_law_1146 : decode cL_law 1146 = .ok (.invokestatic 139, 3) := by decide +kernel
theorem d_L_law_1149 : decode cL_law 1149 = .ok (.istore 5, 2) := by decide +kernel
theorem d_L_law_1151 : decode cL_law 1151 = .ok (.aload_n 2, 1) := by decide +kernel
theorem d_L_law_1152 : decode cL_law 1152 = .ok (.aload_n 0, 1) := by decide +kernel
theorem d_L_law_1153 : decode cL_law 1153 = .ok (.iload 4, 2) := by decide +kernel
theorem d_L_law_1155 : decode cL_law 1155 = .ok (.iconst 1, 1) := by decide +kernel
theorem d_L_law_1156 : decode cL_law 1156 = .ok (.iadd, 1) := by decide +kernel
theorem d_L_law_1157 : decode cL_law 1157 = .ok (.iaload, 1) := by decide +kernel
theorem d_L_law_1158 : decode cL_law 1158 = .ok (.aload_n 0, 1) := by decide +kernel
theorem d_L_law_1159 : decode cL_law 1159 = .ok (.iload 4, 2) := by decide +kernel
theorem d_L_law_1161 : decode cL_law 1161 = .ok (.iconst 2, 1) := by decide +kernel
theorem d_L_law_1162 : decode cL_law 1162 = .ok (.iadd, 1) := by decide +kernel
theorem d_L_law_1163 : decode cL_law 1163 = .ok (.iaload, 1) := by decide +kernel
theorem d_L_law_1164 : decode cL_law 1164 = .ok (.invokevirtual 141, 3) := by decide +kernel
theorem d_L_law_1167 : decode cL_law 1167 = .ok (.istore 6, 2) := by decide +kernel
theorem d_L_law_1169 : decode cL_law 1169 = .ok (.aload_n 2, 1) := by decide +kernel
theorem d_L_law_1170 : decode cL_law 1170 = .ok (.invokevirtual 85, 3) := by decide +kernel
theorem d_L_law_1173 : decode cL_law 1173 = .ok (.iload 5, 2) := by decide +kernel
theorem d_L_law_1175 : decode cL_law 1175 = .ok (.if_icmp .eq 5, 3) := by decide +kernel
theorem d_L_law_1178 : decode cL_law 1178 = .ok (.iconst 0, 1) := by decide +kernel
theorem d_L_law_1179 : decode cL_law 1179 = .ok (.ireturn, 1) := by decide +kernel
theorem d_L_law_1180 : decode cL_law 1180 = .ok (.iload 5, 2) := by decide +kernel
theorem d_L_law_1182 : decode cL_law 1182 = .ok (.ifCond .ne 15, 3) := by decide +kernel
theorem d_L_law_1185 : decode cL_law 1185 = .ok (.aload_n 3, 1) := by decide +kernel
theorem d_L_law_1186 : decode cL_law 1186 = .ok (.iconst 0, 1) := by decide +kernel
theorem d_L_law_1187 : decode cL_law 1187 = .ok (.laload, 1) := by decide +kernel
theorem d_L_law_1188 : decode cL_law 1188 = .ok (.iload 6, 2) := by decide +kernel
theorem d_L_law_1190 : decode cL_law 1190 = .ok (.i2l, 1) := by decide +kernel
theorem d_L_law_1191 : decode cL_law 1191 = .ok (.lcmp, 1) := by decide +kernel
theorem d_L_law_1192 : decode cL_law 1192 = .ok (.ifCond .eq 5, 3) := by decide +kernel
theorem d_L_law_1195 : decode cL_law 1195 = .ok (.iconst 0, 1) := by decide +kernel
theorem d_L_law_1196 : decode cL_law 1196 = .ok (.ireturn, 1) := by decide +kernel
theorem d_L_law_1197 : decode cL_law 1197 = .ok (.goto 270, 3) := by decide +kernel
theorem d_L_law_1200 : decode cL_law 1200 = .ok (.aload_n 1, 1) := by decide +kernel
theorem d_L_law_1201 : decode cL_law 1201 = .ok (.aload_n 0, 1) := by decide +kernel
theorem d_L_law_1202 : decode cL_law 1202 = .ok (.iload 4, 2) := by decide +kernel
theorem d_L_law_1204 : decode cL_law 1204 = .ok (.iconst 1, 1) := by decide +kernel
theorem d_L_law_1205 : decode cL_law 1205 = .ok (.iadd, 1) := by decide +kernel
theorem d_L_law_1206 : decode cL_law 1206 = .ok (.iaload, 1) := by decide +kernel
theorem d_L_law_1207 : decode cL_law 1207 = .ok (.aload_n 0, 1) := by decide +kernel
theorem d_L_law_1208 : decode cL_law 1208 = .ok (.iload 4, 2) := by decide +kernel
theorem d_L_law_1210 : decode cL_law 1210 = .ok (.iconst 2, 1) := by decide +kernel
theorem d_L_law_1211 : decode cL_law 1211 = .ok (.iadd, 1) := by decide +kernel
theorem d_L_law_1212 : decode cL_law 1212 = .ok (.iaload, 1) := by decide +kernel
theorem d_L_law_1213 : decode cL_law 1213 = .ok (.aload_n 0, 1) := by decide +kernel
theorem d_L_law_1214 : decode cL_law 1214 = .ok (.iload 4, 2) := by decide +kernel
theorem d_L_law_1216 : decode cL_law 1216 = .ok (.iconst 3, 1) := by decide +kernel
theorem d_L_law_1217 : decode cL_law 1217 = .ok (.iadd, 1) := by decide +kernel
theorem d_L_law_1218 : decode cL_law 1218 = .ok (.iaload, 1) := by decide +kernel
theorem d_L_law_1219 : decode cL_law 1219 = .ok (.aload_n 0, 1) := by decide +kernel
theorem d_L_law_1220 : decode cL_law 1220 = .ok (.iload 4, 2) := by decide +kernel
theorem d_L_law_1222 : decode cL_law 1222 = .ok (.iconst 4, 1) := by decide +kernel
theorem d_L_law_1223 : decode cL_law 1223 = .ok (.iadd, 1) := by decide +kernel
theorem d_L_law_1224 : decode cL_law 1224 = .ok (.iaload, 1) := by decide +kernel
theorem d_L_law_1225 : decode cL_law 1225 = .ok (.aload_n 3, 1) := by decide +kernel
theorem d_L_law_1226 : decode cL_law 1226 = .ok (.invokestatic 142, 3) := by decide +kernel
theorem d_L_law_1229 : decode cL_law 1229 = .ok (.istore 5, 2) := by decide +kernel
theorem d_L_law_1231 : decode cL_law 1231 = .ok (.aload_n 2, 1) := by decide +kernel
theorem d_L_law_1232 : decode cL_law 1232 = .ok (.aload_n 0, 1) := by decide +kernel
theorem d_L_law_1233 : decode cL_law 1233 = .ok (.iload 4, 2) := by decide +kernel
theorem d_L_law_1235 : decode cL_law 1235 = .ok (.iconst 1, 1) := by decide +kernel
theorem d_L_law_1236 : decode cL_law 1236 = .ok (.iadd, 1) := by decide +kernel
theorem d_L_law_1237 : decode cL_law 1237 = .ok (.iaload, 1) := by decide +kernel
theorem d_L_law_1238 : decode cL_law 1238 = .ok (.aload_n 0, 1) := by decide +kernel
theorem d_L_law_1239 : decode cL_law 1239 = .ok (.iload 4, 2) := by decide +kernel
theorem d_L_law_1241 : decode cL_law 1241 = .ok (.iconst 2, 1) := by decide +kernel
theorem d_L_law_1242 : decode cL_law 1242 = .ok (.iadd, 1) := by decide +kernel
theorem d_L_law_1243 : decode cL_law 1243 = .ok (.iaload, 1) := by decide +kernel
theorem d_L_law_1244 : decode cL_law 1244 = .ok (.aload_n 0, 1) := by decide +kernel
theorem d_L_law_1245 : decode cL_law 1245 = .ok (.iload 4, 2) := by decide +kernel
theorem d_L_law_1247 : decode cL_law 1247 = .ok (.iconst 3, 1) := by decide +kernel
theorem d_L_law_1248 : decode cL_law 1248 = .ok (.iadd, 1) := by decide +kernel
theorem d_L_law_1249 : decode cL_law 1249 = .ok (.iaload, 1) := by decide +kernel
theorem d_L_law_1250 : decode cL_law 1250 = .ok (.aload_n 0, 1) := by decide +kernel
theorem d_L_law_1251 : decode cL_law 1251 = .ok (.iload 4, 2) := by decide +kernel
theorem d_L_law_1253 : decode cL_law 1253 = .ok (.iconst 4, 1) := by decide +kernel
theorem d_L_law_1254 : decode cL_law 1254 = .ok (.iadd, 1) := by decide +kernel
theorem d_L_law_1255 : decode cL_law 1255 = .ok (.iaload, 1) := by decide +kernel
theorem d_L_law_1256 : decode cL_law 1256 = .ok (.invokevirtual 145, 3) := by decide +kernel
theorem d_L_law_1259 : decode cL_law 1259 = .ok (.istore 6, 2) := by decide +kernel
