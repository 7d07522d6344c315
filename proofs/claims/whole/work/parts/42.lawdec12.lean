theorem dL_law_1163 : decode code 1163 = .ok (.aload_n 3, 1) := by decide +kernel
theorem dL_law_1164 : decode code 1164 = .ok (.invokestatic 152, 3) := by decide +kernel
theorem dL_law_1167 : decode code 1167 = .ok (.istore 5, 2) := by decide +kernel
theorem dL_law_1169 : decode code 1169 = .ok (.aload_n 2, 1) := by decide +kernel
theorem dL_law_1170 : decode code 1170 = .ok (.aload_n 0, 1) := by decide +kernel
theorem dL_law_1171 : decode code 1171 = .ok (.iload 4, 2) := by decide +kernel
theorem dL_law_1173 : decode code 1173 = .ok (.iconst 1, 1) := by decide +kernel
theorem dL_law_1174 : decode code 1174 = .ok (.iadd, 1) := by decide +kernel
theorem dL_law_1175 : decode code 1175 = .ok (.iaload, 1) := by decide +kernel
theorem dL_law_1176 : decode code 1176 = .ok (.invokevirtual 154, 3) := by decide +kernel
theorem dL_law_1179 : decode code 1179 = .ok (.istore 6, 2) := by decide +kernel
theorem dL_law_1181 : decode code 1181 = .ok (.aload_n 2, 1) := by decide +kernel
theorem dL_law_1182 : decode code 1182 = .ok (.invokevirtual 85, 3) := by decide +kernel
theorem dL_law_1185 : decode code 1185 = .ok (.iload 5, 2) := by decide +kernel
theorem dL_law_1187 : decode code 1187 = .ok (.if_icmp .eq 5, 3) := by decide +kernel
theorem dL_law_1190 : decode code 1190 = .ok (.iconst 0, 1) := by decide +kernel
theorem dL_law_1191 : decode code 1191 = .ok (.ireturn, 1) := by decide +kernel
theorem dL_law_1192 : decode code 1192 = .ok (.iload 5, 2) := by decide +kernel
theorem dL_law_1194 : decode code 1194 = .ok (.ifCond .ne 15, 3) := by decide +kernel
theorem dL_law_1197 : decode code 1197 = .ok (.aload_n 3, 1) := by decide +kernel
theorem dL_law_1198 : decode code 1198 = .ok (.iconst 0, 1) := by decide +kernel
theorem dL_law_1199 : decode code 1199 = .ok (.laload, 1) := by decide +kernel
theorem dL_law_1200 : decode code 1200 = .ok (.iload 6, 2) := by decide +kernel
theorem dL_law_1202 : decode code 1202 = .ok (.i2l, 1) := by decide +kernel
theorem dL_law_1203 : decode code 1203 = .ok (.lcmp, 1) := by decide +kernel
theorem dL_law_1204 : decode code 1204 = .ok (.ifCond .eq 5, 3) := by decide +kernel
theorem dL_law_1207 : decode code 1207 = .ok (.iconst 0, 1) := by decide +kernel
theorem dL_law_1208 : decode code 1208 = .ok (.ireturn, 1) := by decide +kernel
theorem dL_law_1209 : decode code 1209 = .ok (.goto 59, 3) := by decide +kernel
theorem dL_law_1212 : decode code 1212 = .ok (.aload_n 1, 1) := by decide +kernel
theorem dL_law_1213 : decode code 1213 = .ok (.aload_n 0, 1) := by decide +kernel
theorem dL_law_1214 : decode code 1214 = .ok (.iload 4, 2) := by decide +kernel
theorem dL_law_1216 : decode code 1216 = .ok (.iconst 1, 1) := by decide +kernel
theorem dL_law_1217 : decode code 1217 = .ok (.iadd, 1) := by decide +kernel
theorem dL_law_1218 : decode code 1218 = .ok (.iaload, 1) := by decide +kernel
theorem dL_law_1219 : decode code 1219 = .ok (.aload_n 3, 1) := by decide +kernel
theorem dL_law_1220 : decode code 1220 = .ok (.invokestatic 155, 3) := by decide +kernel
theorem dL_law_1223 : decode code 1223 = .ok (.istore 5, 2) := by decide +kernel
theorem dL_law_1225 : decode code 1225 = .ok (.aload_n 2, 1) := by decide +kernel
theorem dL_law_1226 : decode code 1226 = .ok (.aload_n 0, 1) := by decide +kernel
theorem dL_law_1227 : decode code 1227 = .ok (.iload 4, 2) := by decide +kernel
theorem dL_law_1229 : decode code 1229 = .ok (.iconst 1, 1) := by decide +kernel
theorem dL_law_1230 : decode code 1230 = .ok (.iadd, 1) := by decide +kernel
theorem dL_law_1231 : decode code 1231 = .ok (.iaload, 1) := by decide +kernel
theorem dL_law_1232 : decode code 1232 = .ok (.invokevirtual 157, 3) := by decide +kernel
theorem dL_law_1235 : decode code 1235 = .ok (.istore 6, 2) := by decide +kernel
theorem dL_law_1237 : decode code 1237 = .ok (.aload_n 2, 1) := by decide +kernel
theorem dL_law_1238 : decode code 1238 = .ok (.invokevirtual 85, 3) := by decide +kernel
theorem dL_law_1241 : decode code 1241 = .ok (.iload 5, 2) := by decide +kernel
theorem dL_law_1243 : decode code 1243 = .ok (.if_icmp .eq 5, 3) := by decide +kernel
theorem dL_law_1246 : decode code 1246 = .ok (.iconst 0, 1) := by decide +kernel
theorem dL_law_1247 : decode code 1247 = .ok (.ireturn, 1) := by decide +kernel
theorem dL_law_1248 : decode code 1248 = .ok (.iload 5, 2) := by decide +kernel
theorem dL_law_1250 : decode code 1250 = .ok (.ifCond .ne 15, 3) := by decide +kernel
theorem dL_law_1253 : decode code 1253 = .ok (.aload_n 3, 1) := by decide +kernel
theorem dL_law_1254 : decode code 1254 = .ok (.iconst 0, 1) := by decide +kernel
theorem dL_law_1255 : decode code 1255 = .ok (.laload, 1) := by decide +kernel
theorem dL_law_1256 : decode code 1256 = .ok (.iload 6, 2) := by decide +kernel
theorem dL_law_1258 : decode code 1258 = .ok (.i2l, 1) := by decide +kernel
theorem dL_law_1259 : decode code 1259 = .ok (.lcmp, 1) := by decide +kernel
