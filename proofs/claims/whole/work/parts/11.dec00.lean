theorem dM_init_0 : decode prog_13_method_1_code 0 = .ok (.aload_n 0, 1) := by decide +kernel
theorem dM_init_1 : decode prog_13_method_1_code 1 = .ok (.invokespecial 1, 3) := by decide +kernel
theorem dM_init_4 : decode prog_13_method_1_code 4 = .ok (.aload_n 0, 1) := by decide +kernel
theorem dM_init_5 : decode prog_13_method_1_code 5 = .ok (.bipush 30, 2) := by decide +kernel
theorem dM_init_7 : decode prog_13_method_1_code 7 = .ok (.newarray .int, 2) := by decide +kernel
theorem dM_init_9 : decode prog_13_method_1_code 9 = .ok (.putfield 7, 3) := by decide +kernel
theorem dM_init_12 : decode prog_13_method_1_code 12 = .ok (.aload_n 0, 1) := by decide +kernel
theorem dM_init_13 : decode prog_13_method_1_code 13 = .ok (.bipush 30, 2) := by decide +kernel
theorem dM_init_15 : decode prog_13_method_1_code 15 = .ok (.newarray .int, 2) := by decide +kernel
theorem dM_init_17 : decode prog_13_method_1_code 17 = .ok (.putfield 13, 3) := by decide +kernel
theorem dM_init_20 : decode prog_13_method_1_code 20 = .ok (.aload_n 0, 1) := by decide +kernel
theorem dM_init_21 : decode prog_13_method_1_code 21 = .ok (.bipush 30, 2) := by decide +kernel
theorem dM_init_23 : decode prog_13_method_1_code 23 = .ok (.newarray .int, 2) := by decide +kernel
theorem dM_init_25 : decode prog_13_method_1_code 25 = .ok (.putfield 16, 3) := by decide +kernel
theorem dM_init_28 : decode prog_13_method_1_code 28 = .ok (.aload_n 0, 1) := by decide +kernel
theorem dM_init_29 : decode prog_13_method_1_code 29 = .ok (.bipush 90, 2) := by decide +kernel
theorem dM_init_31 : decode prog_13_method_1_code 31 = .ok (.newarray .int, 2) := by decide +kernel
theorem dM_init_33 : decode prog_13_method_1_code 33 = .ok (.putfield 19, 3) := by decide +kernel
theorem dM_init_36 : decode prog_13_method_1_code 36 = .ok (.aload_n 0, 1) := by decide +kernel
theorem dM_init_37 : decode prog_13_method_1_code 37 = .ok (.bipush 90, 2) := by decide +kernel
theorem dM_init_39 : decode prog_13_method_1_code 39 = .ok (.newarray .int, 2) := by decide +kernel
theorem dM_init_41 : decode prog_13_method_1_code 41 = .ok (.putfield 22, 3) := by decide +kernel
theorem dM_init_44 : decode prog_13_method_1_code 44 = .ok (.aload_n 0, 1) := by decide +kernel
theorem dM_init_45 : decode prog_13_method_1_code 45 = .ok (.sipush 720, 3) := by decide +kernel
theorem dM_init_48 : decode prog_13_method_1_code 48 = .ok (.newarray .int, 2) := by decide +kernel
theorem dM_init_50 : decode prog_13_method_1_code 50 = .ok (.putfield 25, 3) := by decide +kernel
theorem dM_init_53 : decode prog_13_method_1_code 53 = .ok (.aload_n 0, 1) := by decide +kernel
theorem dM_init_54 : decode prog_13_method_1_code 54 = .ok (.sipush 720, 3) := by decide +kernel
theorem dM_init_57 : decode prog_13_method_1_code 57 = .ok (.newarray .int, 2) := by decide +kernel
theorem dM_init_59 : decode prog_13_method_1_code 59 = .ok (.putfield 28, 3) := by decide +kernel
theorem dM_init_62 : decode prog_13_method_1_code 62 = .ok (.aload_n 0, 1) := by decide +kernel
theorem dM_init_63 : decode prog_13_method_1_code 63 = .ok (.bipush 30, 2) := by decide +kernel
theorem dM_init_65 : decode prog_13_method_1_code 65 = .ok (.newarray .int, 2) := by decide +kernel
theorem dM_init_67 : decode prog_13_method_1_code 67 = .ok (.putfield 31, 3) := by decide +kernel
theorem dM_init_70 : decode prog_13_method_1_code 70 = .ok (.aload_n 0, 1) := by decide +kernel
theorem dM_init_71 : decode prog_13_method_1_code 71 = .ok (.bipush 60, 2) := by decide +kernel
theorem dM_init_73 : decode prog_13_method_1_code 73 = .ok (.newarray .int, 2) := by decide +kernel
theorem dM_init_75 : decode prog_13_method_1_code 75 = .ok (.putfield 34, 3) := by decide +kernel
theorem dM_init_78 : decode prog_13_method_1_code 78 = .ok (.aload_n 0, 1) := by decide +kernel
theorem dM_init_79 : decode prog_13_method_1_code 79 = .ok (.bipush 60, 2) := by decide +kernel
theorem dM_init_81 : decode prog_13_method_1_code 81 = .ok (.newarray .int, 2) := by decide +kernel
theorem dM_init_83 : decode prog_13_method_1_code 83 = .ok (.putfield 37, 3) := by decide +kernel
theorem dM_init_86 : decode prog_13_method_1_code 86 = .ok (.aload_n 0, 1) := by decide +kernel
theorem dM_init_87 : decode prog_13_method_1_code 87 = .ok (.bipush 60, 2) := by decide +kernel
theorem dM_init_89 : decode prog_13_method_1_code 89 = .ok (.newarray .int, 2) := by decide +kernel
theorem dM_init_91 : decode prog_13_method_1_code 91 = .ok (.putfield 40, 3) := by decide +kernel
theorem dM_init_94 : decode prog_13_method_1_code 94 = .ok (.aload_n 0, 1) := by decide +kernel
theorem dM_init_95 : decode prog_13_method_1_code 95 = .ok (.sipush 600, 3) := by decide +kernel
theorem dM_init_98 : decode prog_13_method_1_code 98 = .ok (.newarray .int, 2) := by decide +kernel
theorem dM_init_100 : decode prog_13_method_1_code 100 = .ok (.putfield 43, 3) := by decide +kernel
theorem dM_init_103 : decode prog_13_method_1_code 103 = .ok (.aload_n 0, 1) := by decide +kernel
theorem dM_init_104 : decode prog_13_method_1_code 104 = .ok (.bipush 30, 2) := by decide +kernel
theorem dM_init_106 : decode prog_13_method_1_code 106 = .ok (.newarray .int, 2) := by decide +kernel
theorem dM_init_108 : decode prog_13_method_1_code 108 = .ok (.putfield 46, 3) := by decide +kernel
theorem dM_init_111 : decode prog_13_method_1_code 111 = .ok (.aload_n 0, 1) := by decide +kernel
theorem dM_init_112 : decode prog_13_method_1_code 112 = .ok (.bipush 120, 2) := by decide +kernel
theorem dM_init_114 : decode prog_13_method_1_code 114 = .ok (.newarray .int, 2) := by decide +kernel
theorem dM_init_116 : decode prog_13_method_1_code 116 = .ok (.putfield 49, 3) := by decide +kernel
theorem dM_init_119 : decode prog_13_method_1_code 119 = .ok (.aload_n 0, 1) := by decide +kernel
theorem dM_init_120 : decode prog_13_method_1_code 120 = .ok (.bipush 120, 2) := by decide +kernel
theorem dM_init_122 : decode prog_13_method_1_code 122 = .ok (.newarray .int, 2) := by decide +kernel
theorem dM_init_124 : decode prog_13_method_1_code 124 = .ok (.putfield 52, 3) := by decide +kernel
theorem dM_init_127 : decode prog_13_method_1_code 127 = .ok (.aload_n 0, 1) := by decide +kernel
theorem dM_init_128 : decode prog_13_method_1_code 128 = .ok (.bipush 120, 2) := by decide +kernel
theorem dM_init_130 : decode prog_13_method_1_code 130 = .ok (.newarray .int, 2) := by decide +kernel
theorem dM_init_132 : decode prog_13_method_1_code 132 = .ok (.putfield 55, 3) := by decide +kernel
theorem dM_init_135 : decode prog_13_method_1_code 135 = .ok (.aload_n 0, 1) := by decide +kernel
theorem dM_init_136 : decode prog_13_method_1_code 136 = .ok (.bipush 8, 2) := by decide +kernel
theorem dM_init_138 : decode prog_13_method_1_code 138 = .ok (.newarray .int, 2) := by decide +kernel
theorem dM_init_140 : decode prog_13_method_1_code 140 = .ok (.putfield 58, 3) := by decide +kernel
theorem dM_init_143 : decode prog_13_method_1_code 143 = .ok (.aload_n 0, 1) := by decide +kernel
theorem dM_init_144 : decode prog_13_method_1_code 144 = .ok (.bipush 8, 2) := by decide +kernel
theorem dM_init_146 : decode prog_13_method_1_code 146 = .ok (.newarray .int, 2) := by decide +kernel
theorem dM_init_148 : decode prog_13_method_1_code 148 = .ok (.putfield 61, 3) := by decide +kernel
theorem dM_init_151 : decode prog_13_method_1_code 151 = .ok (.aload_n 0, 1) := by decide +kernel
theorem dM_init_152 : decode prog_13_method_1_code 152 = .ok (.bipush 10, 2) := by decide +kernel
theorem dM_init_154 : decode prog_13_method_1_code 154 = .ok (.newarray .int, 2) := by decide +kernel
theorem dM_init_156 : decode prog_13_method_1_code 156 = .ok (.putfield 64, 3) := by decide +kernel
theorem dM_init_159 : decode prog_13_method_1_code 159 = .ok (.aload_n 0, 1) := by decide +kernel
theorem dM_init_160 : decode prog_13_method_1_code 160 = .ok (.iconst 5, 1) := by decide +kernel
theorem dM_init_161 : decode prog_13_method_1_code 161 = .ok (.newarray .int, 2) := by decide +kernel
theorem dM_init_163 : decode prog_13_method_1_code 163 = .ok (.putfield 67, 3) := by decide +kernel
theorem dM_init_166 : decode prog_13_method_1_code 166 = .ok (.aload_n 0, 1) := by decide +kernel
theorem dM_init_167 : decode prog_13_method_1_code 167 = .ok (.bipush 25, 2) := by decide +kernel
theorem dM_init_169 : decode prog_13_method_1_code 169 = .ok (.newarray .int, 2) := by decide +kernel
theorem dM_init_171 : decode prog_13_method_1_code 171 = .ok (.putfield 70, 3) := by decide +kernel
theorem dM_init_174 : decode prog_13_method_1_code 174 = .ok (.aload_n 0, 1) := by decide +kernel
theorem dM_init_175 : decode prog_13_method_1_code 175 = .ok (.bipush 25, 2) := by decide +kernel
theorem dM_init_177 : decode prog_13_method_1_code 177 = .ok (.newarray .int, 2) := by decide +kernel
theorem dM_init_179 : decode prog_13_method_1_code 179 = .ok (.putfield 73, 3) := by decide +kernel
theorem dM_init_182 : decode prog_13_method_1_code 182 = .ok (.aload_n 0, 1) := by decide +kernel
theorem dM_init_183 : decode prog_13_method_1_code 183 = .ok (.bipush 25, 2) := by decide +kernel
theorem dM_init_185 : decode prog_13_method_1_code 185 = .ok (.newarray .int, 2) := by decide +kernel
theorem dM_init_187 : decode prog_13_method_1_code 187 = .ok (.putfield 76, 3) := by decide +kernel
theorem dM_init_190 : decode prog_13_method_1_code 190 = .ok (.aload_n 0, 1) := by decide +kernel
theorem dM_init_191 : decode prog_13_method_1_code 191 = .ok (.bipush 25, 2) := by decide +kernel
theorem dM_init_193 : decode prog_13_method_1_code 193 = .ok (.newarray .int, 2) := by decide +kernel
theorem dM_init_195 : decode prog_13_method_1_code 195 = .ok (.putfield 79, 3) := by decide +kernel
theorem dM_init_198 : decode prog_13_method_1_code 198 = .ok (.aload_n 0, 1) := by decide +kernel
theorem dM_init_199 : decode prog_13_method_1_code 199 = .ok (.bipush 25, 2) := by decide +kernel
theorem dM_init_201 : decode prog_13_method_1_code 201 = .ok (.newarray .int, 2) := by decide +kernel
theorem dM_init_203 : decode prog_13_method_1_code 203 = .ok (.putfield 82, 3) := by decide +kernel
theorem dM_init_206 : decode prog_13_method_1_code 206 = .ok (.aload_n 0, 1) := by decide +kernel
theorem dM_init_207 : decode prog_13_method_1_code 207 = .ok (.sipush 250, 3) := by decide +kernel
theorem dM_init_210 : decode prog_13_method_1_code 210 = .ok (.newarray .int, 2) := by decide +kernel
theorem dM_init_212 : decode prog_13_method_1_code 212 = .ok (.putfield 85, 3) := by decide +kernel
theorem dM_init_215 : decode prog_13_method_1_code 215 = .ok (.aload_n 0, 1) := by decide +kernel
theorem dM_init_216 : decode prog_13_method_1_code 216 = .ok (.iconst 5, 1) := by decide +kernel
theorem dM_init_217 : decode prog_13_method_1_code 217 = .ok (.newarray .int, 2) := by decide +kernel
theorem dM_init_219 : decode prog_13_method_1_code 219 = .ok (.putfield 88, 3) := by decide +kernel
theorem dM_init_222 : decode prog_13_method_1_code 222 = .ok (.aload_n 0, 1) := by decide +kernel
theorem dM_init_223 : decode prog_13_method_1_code 223 = .ok (.bipush 40, 2) := by decide +kernel
theorem dM_init_225 : decode prog_13_method_1_code 225 = .ok (.newarray .int, 2) := by decide +kernel
theorem dM_init_227 : decode prog_13_method_1_code 227 = .ok (.putfield 91, 3) := by decide +kernel
theorem dM_init_230 : decode prog_13_method_1_code 230 = .ok (.aload_n 0, 1) := by decide +kernel
theorem dM_init_231 : decode prog_13_method_1_code 231 = .ok (.bipush 40, 2) := by decide +kernel
theorem dM_init_233 : decode prog_13_method_1_code 233 = .ok (.newarray .int, 2) := by decide +kernel
theorem dM_init_235 : decode prog_13_method_1_code 235 = .ok (.putfield 94, 3) := by decide +kernel
theorem dM_init_238 : decode prog_13_method_1_code 238 = .ok (.aload_n 0, 1) := by decide +kernel
theorem dM_init_239 : decode prog_13_method_1_code 239 = .ok (.iconst 5, 1) := by decide +kernel
theorem dM_init_240 : decode prog_13_method_1_code 240 = .ok (.newarray .int, 2) := by decide +kernel
theorem dM_init_242 : decode prog_13_method_1_code 242 = .ok (.putfield 97, 3) := by decide +kernel
theorem dM_init_245 : decode prog_13_method_1_code 245 = .ok (.aload_n 0, 1) := by decide +kernel
theorem dM_init_246 : decode prog_13_method_1_code 246 = .ok (.iconst 5, 1) := by decide +kernel
theorem dM_init_247 : decode prog_13_method_1_code 247 = .ok (.newarray .boolean, 2) := by decide +kernel
theorem dM_init_249 : decode prog_13_method_1_code 249 = .ok (.putfield 100, 3) := by decide +kernel
theorem dM_init_252 : decode prog_13_method_1_code 252 = .ok (.aload_n 0, 1) := by decide +kernel
theorem dM_init_253 : decode prog_13_method_1_code 253 = .ok (.iconst 5, 1) := by decide +kernel
theorem dM_init_254 : decode prog_13_method_1_code 254 = .ok (.newarray .int, 2) := by decide +kernel
theorem dM_init_256 : decode prog_13_method_1_code 256 = .ok (.putfield 104, 3) := by decide +kernel
theorem dM_init_259 : decode prog_13_method_1_code 259 = .ok (.aload_n 0, 1) := by decide +kernel
theorem dM_init_260 : decode prog_13_method_1_code 260 = .ok (.bipush 30, 2) := by decide +kernel
theorem dM_init_262 : decode prog_13_method_1_code 262 = .ok (.newarray .int, 2) := by decide +kernel
theorem dM_init_264 : decode prog_13_method_1_code 264 = .ok (.putfield 107, 3) := by decide +kernel
theorem dM_init_267 : decode prog_13_method_1_code 267 = .ok (.aload_n 0, 1) := by decide +kernel
theorem dM_init_268 : decode prog_13_method_1_code 268 = .ok (.bipush 10, 2) := by decide +kernel
theorem dM_init_270 : decode prog_13_method_1_code 270 = .ok (.newarray .int, 2) := by decide +kernel
theorem dM_init_272 : decode prog_13_method_1_code 272 = .ok (.putfield 110, 3) := by decide +kernel
theorem dM_init_275 : decode prog_13_method_1_code 275 = .ok (.aload_n 0, 1) := by decide +kernel
theorem dM_init_276 : decode prog_13_method_1_code 276 = .ok (.bipush 121, 2) := by decide +kernel
theorem dM_init_278 : decode prog_13_method_1_code 278 = .ok (.newarray .int, 2) := by decide +kernel
theorem dM_init_280 : decode prog_13_method_1_code 280 = .ok (.putfield 113, 3) := by decide +kernel
theorem dM_init_283 : decode prog_13_method_1_code 283 = .ok (.aload_n 0, 1) := by decide +kernel
theorem dM_init_284 : decode prog_13_method_1_code 284 = .ok (.bipush 30, 2) := by decide +kernel
theorem dM_init_286 : decode prog_13_method_1_code 286 = .ok (.newarray .int, 2) := by decide +kernel
theorem dM_init_288 : decode prog_13_method_1_code 288 = .ok (.putfield 116, 3) := by decide +kernel
theorem dM_init_291 : decode prog_13_method_1_code 291 = .ok (.aload_n 0, 1) := by decide +kernel
theorem dM_init_292 : decode prog_13_method_1_code 292 = .ok (.bipush 30, 2) := by decide +kernel
theorem dM_init_294 : decode prog_13_method_1_code 294 = .ok (.newarray .int, 2) := by decide +kernel
theorem dM_init_296 : decode prog_13_method_1_code 296 = .ok (.putfield 119, 3) := by decide +kernel
theorem dM_init_299 : decode prog_13_method_1_code 299 = .ok (.aload_n 0, 1) := by decide +kernel
theorem dM_init_300 : decode prog_13_method_1_code 300 = .ok (.bipush 30, 2) := by decide +kernel
theorem dM_init_302 : decode prog_13_method_1_code 302 = .ok (.newarray .int, 2) := by decide +kernel
theorem dM_init_304 : decode prog_13_method_1_code 304 = .ok (.putfield 122, 3) := by decide +kernel
theorem dM_init_307 : decode prog_13_method_1_code 307 = .ok (.aload_n 0, 1) := by decide +kernel
theorem dM_init_308 : decode prog_13_method_1_code 308 = .ok (.bipush 30, 2) := by decide +kernel
theorem dM_init_310 : decode prog_13_method_1_code 310 = .ok (.newarray .long, 2) := by decide +kernel
theorem dM_init_312 : decode prog_13_method_1_code 312 = .ok (.putfield 125, 3) := by decide +kernel
theorem dM_init_315 : decode prog_13_method_1_code 315 = .ok (.aload_n 0, 1) := by decide +kernel
theorem dM_init_316 : decode prog_13_method_1_code 316 = .ok (.bipush 30, 2) := by decide +kernel
theorem dM_init_318 : decode prog_13_method_1_code 318 = .ok (.newarray .long, 2) := by decide +kernel
theorem dM_init_320 : decode prog_13_method_1_code 320 = .ok (.putfield 129, 3) := by decide +kernel
theorem dM_init_323 : decode prog_13_method_1_code 323 = .ok (.return_, 1) := by decide +kernel
theorem dM_thrown_0 : decode prog_13_method_2_code 0 = .ok (.aload_n 0, 1) := by decide +kernel
theorem dM_thrown_1 : decode prog_13_method_2_code 1 = .ok (.getfield 132, 3) := by decide +kernel
theorem dM_thrown_4 : decode prog_13_method_2_code 4 = .ok (.ireturn, 1) := by decide +kernel
theorem dM_in_0 : decode prog_13_method_3_code 0 = .ok (.iload_n 0, 1) := by decide +kernel
theorem dM_in_1 : decode prog_13_method_3_code 1 = .ok (.iload_n 1, 1) := by decide +kernel
theorem dM_in_2 : decode prog_13_method_3_code 2 = .ok (.if_icmp .lt 12, 3) := by decide +kernel
theorem dM_in_5 : decode prog_13_method_3_code 5 = .ok (.iload_n 0, 1) := by decide +kernel
theorem dM_in_6 : decode prog_13_method_3_code 6 = .ok (.iload_n 2, 1) := by decide +kernel
theorem dM_in_7 : decode prog_13_method_3_code 7 = .ok (.if_icmp .gt 7, 3) := by decide +kernel
theorem dM_in_10 : decode prog_13_method_3_code 10 = .ok (.iconst 1, 1) := by decide +kernel
theorem dM_in_11 : decode prog_13_method_3_code 11 = .ok (.goto 4, 3) := by decide +kernel
theorem dM_in_14 : decode prog_13_method_3_code 14 = .ok (.iconst 0, 1) := by decide +kernel
theorem dM_in_15 : decode prog_13_method_3_code 15 = .ok (.ireturn, 1) := by decide +kernel
theorem dM_isPlace_0 : decode prog_13_method_4_code 0 = .ok (.iload_n 1, 1) := by decide +kernel
theorem dM_isPlace_1 : decode prog_13_method_4_code 1 = .ok (.iconst 0, 1) := by decide +kernel
theorem dM_isPlace_2 : decode prog_13_method_4_code 2 = .ok (.aload_n 0, 1) := by decide +kernel
theorem dM_isPlace_3 : decode prog_13_method_4_code 3 = .ok (.getfield 136, 3) := by decide +kernel
theorem dM_isPlace_6 : decode prog_13_method_4_code 6 = .ok (.iconst 1, 1) := by decide +kernel
theorem dM_isPlace_7 : decode prog_13_method_4_code 7 = .ok (.isub, 1) := by decide +kernel
theorem dM_isPlace_8 : decode prog_13_method_4_code 8 = .ok (.invokestatic 139, 3) := by decide +kernel
theorem dM_isPlace_11 : decode prog_13_method_4_code 11 = .ok (.ireturn, 1) := by decide +kernel
theorem dM_isDay_0 : decode prog_13_method_5_code 0 = .ok (.iload_n 0, 1) := by decide +kernel
theorem dM_isDay_1 : decode prog_13_method_5_code 1 = .ok (.iconst 0, 1) := by decide +kernel
theorem dM_isDay_2 : decode prog_13_method_5_code 2 = .ok (.sipush 9999, 3) := by decide +kernel
theorem dM_isDay_5 : decode prog_13_method_5_code 5 = .ok (.invokestatic 139, 3) := by decide +kernel
theorem dM_isDay_8 : decode prog_13_method_5_code 8 = .ok (.ireturn, 1) := by decide +kernel
theorem dM_isSpan_0 : decode prog_13_method_6_code 0 = .ok (.iload_n 0, 1) := by decide +kernel
theorem dM_isSpan_1 : decode prog_13_method_6_code 1 = .ok (.invokestatic 143, 3) := by decide +kernel
theorem dM_isSpan_4 : decode prog_13_method_6_code 4 = .ok (.ifCond .eq 19, 3) := by decide +kernel
theorem dM_isSpan_7 : decode prog_13_method_6_code 7 = .ok (.iload_n 1, 1) := by decide +kernel
theorem dM_isSpan_8 : decode prog_13_method_6_code 8 = .ok (.invokestatic 143, 3) := by decide +kernel
theorem dM_isSpan_11 : decode prog_13_method_6_code 11 = .ok (.ifCond .eq 12, 3) := by decide +kernel
theorem dM_isSpan_14 : decode prog_13_method_6_code 14 = .ok (.iload_n 0, 1) := by decide +kernel
theorem dM_isSpan_15 : decode prog_13_method_6_code 15 = .ok (.iload_n 1, 1) := by decide +kernel
theorem dM_isSpan_16 : decode prog_13_method_6_code 16 = .ok (.if_icmp .gt 7, 3) := by decide +kernel
theorem dM_isSpan_19 : decode prog_13_method_6_code 19 = .ok (.iconst 1, 1) := by decide +kernel
theorem dM_isSpan_20 : decode prog_13_method_6_code 20 = .ok (.goto 4, 3) := by decide +kernel
theorem dM_isSpan_23 : decode prog_13_method_6_code 23 = .ok (.iconst 0, 1) := by decide +kernel
theorem dM_isSpan_24 : decode prog_13_method_6_code 24 = .ok (.ireturn, 1) := by decide +kernel
theorem dM_isAt_0 : decode prog_13_method_7_code 0 = .ok (.iload_n 0, 1) := by decide +kernel
theorem dM_isAt_1 : decode prog_13_method_7_code 1 = .ok (.iconst 0, 1) := by decide +kernel
theorem dM_isAt_2 : decode prog_13_method_7_code 2 = .ok (.sipush 4095, 3) := by decide +kernel
theorem dM_isAt_5 : decode prog_13_method_7_code 5 = .ok (.invokestatic 139, 3) := by decide +kernel
theorem dM_isAt_8 : decode prog_13_method_7_code 8 = .ok (.ifCond .eq 18, 3) := by decide +kernel
theorem dM_isAt_11 : decode prog_13_method_7_code 11 = .ok (.iload_n 1, 1) := by decide +kernel
theorem dM_isAt_12 : decode prog_13_method_7_code 12 = .ok (.iconst 0, 1) := by decide +kernel
theorem dM_isAt_13 : decode prog_13_method_7_code 13 = .ok (.sipush 4095, 3) := by decide +kernel
theorem dM_isAt_16 : decode prog_13_method_7_code 16 = .ok (.invokestatic 139, 3) := by decide +kernel
theorem dM_isAt_19 : decode prog_13_method_7_code 19 = .ok (.ifCond .eq 7, 3) := by decide +kernel
theorem dM_isAt_22 : decode prog_13_method_7_code 22 = .ok (.iconst 1, 1) := by decide +kernel
theorem dM_isAt_23 : decode prog_13_method_7_code 23 = .ok (.goto 4, 3) := by decide +kernel
theorem dM_isAt_26 : decode prog_13_method_7_code 26 = .ok (.iconst 0, 1) := by decide +kernel
theorem dM_isAt_27 : decode prog_13_method_7_code 27 = .ok (.ireturn, 1) := by decide +kernel
theorem dM_place_0 : decode prog_13_method_8_code 0 = .ok (.aload_n 0, 1) := by decide +kernel
theorem dM_place_1 : decode prog_13_method_8_code 1 = .ok (.iload_n 1, 1) := by decide +kernel
theorem dM_place_2 : decode prog_13_method_8_code 2 = .ok (.iconst 0, 1) := by decide +kernel
theorem dM_place_3 : decode prog_13_method_8_code 3 = .ok (.bipush 7, 2) := by decide +kernel
theorem dM_place_5 : decode prog_13_method_8_code 5 = .ok (.invokestatic 139, 3) := by decide +kernel
theorem dM_place_8 : decode prog_13_method_8_code 8 = .ok (.ifCond .ne 7, 3) := by decide +kernel
theorem dM_place_11 : decode prog_13_method_8_code 11 = .ok (.iconst 1, 1) := by decide +kernel
theorem dM_place_12 : decode prog_13_method_8_code 12 = .ok (.goto 17, 3) := by decide +kernel
theorem dM_place_15 : decode prog_13_method_8_code 15 = .ok (.aload_n 0, 1) := by decide +kernel
theorem dM_place_16 : decode prog_13_method_8_code 16 = .ok (.getfield 136, 3) := by decide +kernel
theorem dM_place_19 : decode prog_13_method_8_code 19 = .ok (.bipush 30, 2) := by decide +kernel
theorem dM_place_21 : decode prog_13_method_8_code 21 = .ok (.if_icmp .ne 7, 3) := by decide +kernel
theorem dM_place_24 : decode prog_13_method_8_code 24 = .ok (.iconst 2, 1) := by decide +kernel
theorem dM_place_25 : decode prog_13_method_8_code 25 = .ok (.goto 4, 3) := by decide +kernel
theorem dM_place_28 : decode prog_13_method_8_code 28 = .ok (.iconst 0, 1) := by decide +kernel
theorem dM_place_29 : decode prog_13_method_8_code 29 = .ok (.putfield 132, 3) := by decide +kernel
theorem dM_place_32 : decode prog_13_method_8_code 32 = .ok (.aload_n 0, 1) := by decide +kernel
theorem dM_place_33 : decode prog_13_method_8_code 33 = .ok (.getfield 132, 3) := by decide +kernel
theorem dM_place_36 : decode prog_13_method_8_code 36 = .ok (.ifCond .le 5, 3) := by decide +kernel
theorem dM_place_39 : decode prog_13_method_8_code 39 = .ok (.iconst 0, 1) := by decide +kernel
theorem dM_place_40 : decode prog_13_method_8_code 40 = .ok (.ireturn, 1) := by decide +kernel
theorem dM_place_41 : decode prog_13_method_8_code 41 = .ok (.aload_n 0, 1) := by decide +kernel
theorem dM_place_42 : decode prog_13_method_8_code 42 = .ok (.getfield 7, 3) := by decide +kernel
theorem dM_place_45 : decode prog_13_method_8_code 45 = .ok (.aload_n 0, 1) := by decide +kernel
theorem dM_place_46 : decode prog_13_method_8_code 46 = .ok (.getfield 136, 3) := by decide +kernel
theorem dM_place_49 : decode prog_13_method_8_code 49 = .ok (.iload_n 1, 1) := by decide +kernel
theorem dM_place_50 : decode prog_13_method_8_code 50 = .ok (.iastore, 1) := by decide +kernel
theorem dM_place_51 : decode prog_13_method_8_code 51 = .ok (.aload_n 0, 1) := by decide +kernel
theorem dM_place_52 : decode prog_13_method_8_code 52 = .ok (.getfield 13, 3) := by decide +kernel
theorem dM_place_55 : decode prog_13_method_8_code 55 = .ok (.aload_n 0, 1) := by decide +kernel
theorem dM_place_56 : decode prog_13_method_8_code 56 = .ok (.getfield 136, 3) := by decide +kernel
theorem dM_place_59 : decode prog_13_method_8_code 59 = .ok (.sipush 10000, 3) := by decide +kernel
theorem dM_place_62 : decode prog_13_method_8_code 62 = .ok (.iastore, 1) := by decide +kernel
theorem dM_place_63 : decode prog_13_method_8_code 63 = .ok (.aload_n 0, 1) := by decide +kernel
theorem dM_place_64 : decode prog_13_method_8_code 64 = .ok (.dup, 1) := by decide +kernel
theorem dM_place_65 : decode prog_13_method_8_code 65 = .ok (.getfield 136, 3) := by decide +kernel
theorem dM_place_68 : decode prog_13_method_8_code 68 = .ok (.iconst 1, 1) := by decide +kernel
theorem dM_place_69 : decode prog_13_method_8_code 69 = .ok (.iadd, 1) := by decide +kernel
theorem dM_place_70 : decode prog_13_method_8_code 70 = .ok (.putfield 136, 3) := by decide +kernel
theorem dM_place_73 : decode prog_13_method_8_code 73 = .ok (.aload_n 0, 1) := by decide +kernel
theorem dM_place_74 : decode prog_13_method_8_code 74 = .ok (.getfield 136, 3) := by decide +kernel
theorem dM_place_77 : decode prog_13_method_8_code 77 = .ok (.iconst 1, 1) := by decide +kernel
theorem dM_place_78 : decode prog_13_method_8_code 78 = .ok (.isub, 1) := by decide +kernel
theorem dM_place_79 : decode prog_13_method_8_code 79 = .ok (.ireturn, 1) := by decide +kernel
theorem dM_corner_0 : decode prog_13_method_9_code 0 = .ok (.aload_n 0, 1) := by decide +kernel
theorem dM_corner_1 : decode prog_13_method_9_code 1 = .ok (.iload_n 1, 1) := by decide +kernel
theorem dM_corner_2 : decode prog_13_method_9_code 2 = .ok (.iload_n 2, 1) := by decide +kernel
theorem dM_corner_3 : decode prog_13_method_9_code 3 = .ok (.invokestatic 147, 3) := by decide +kernel
theorem dM_corner_6 : decode prog_13_method_9_code 6 = .ok (.ifCond .ne 7, 3) := by decide +kernel
theorem dM_corner_9 : decode prog_13_method_9_code 9 = .ok (.iconst 1, 1) := by decide +kernel
theorem dM_corner_10 : decode prog_13_method_9_code 10 = .ok (.goto 17, 3) := by decide +kernel
theorem dM_corner_13 : decode prog_13_method_9_code 13 = .ok (.aload_n 0, 1) := by decide +kernel
theorem dM_corner_14 : decode prog_13_method_9_code 14 = .ok (.getfield 151, 3) := by decide +kernel
theorem dM_corner_17 : decode prog_13_method_9_code 17 = .ok (.bipush 8, 2) := by decide +kernel
theorem dM_corner_19 : decode prog_13_method_9_code 19 = .ok (.if_icmp .ne 7, 3) := by decide +kernel
theorem dM_corner_22 : decode prog_13_method_9_code 22 = .ok (.iconst 2, 1) := by decide +kernel
theorem dM_corner_23 : decode prog_13_method_9_code 23 = .ok (.goto 4, 3) := by decide +kernel
theorem dM_corner_26 : decode prog_13_method_9_code 26 = .ok (.iconst 0, 1) := by decide +kernel
theorem dM_corner_27 : decode prog_13_method_9_code 27 = .ok (.putfield 132, 3) := by decide +kernel
theorem dM_corner_30 : decode prog_13_method_9_code 30 = .ok (.aload_n 0, 1) := by decide +kernel
theorem dM_corner_31 : decode prog_13_method_9_code 31 = .ok (.getfield 132, 3) := by decide +kernel
theorem dM_corner_34 : decode prog_13_method_9_code 34 = .ok (.ifCond .le 5, 3) := by decide +kernel
theorem dM_corner_37 : decode prog_13_method_9_code 37 = .ok (.iconst 0, 1) := by decide +kernel
theorem dM_corner_38 : decode prog_13_method_9_code 38 = .ok (.ireturn, 1) := by decide +kernel
theorem dM_corner_39 : decode prog_13_method_9_code 39 = .ok (.aload_n 0, 1) := by decide +kernel
theorem dM_corner_40 : decode prog_13_method_9_code 40 = .ok (.getfield 58, 3) := by decide +kernel
theorem dM_corner_43 : decode prog_13_method_9_code 43 = .ok (.aload_n 0, 1) := by decide +kernel
theorem dM_corner_44 : decode prog_13_method_9_code 44 = .ok (.getfield 151, 3) := by decide +kernel
theorem dM_corner_47 : decode prog_13_method_9_code 47 = .ok (.iload_n 1, 1) := by decide +kernel
theorem dM_corner_48 : decode prog_13_method_9_code 48 = .ok (.iastore, 1) := by decide +kernel
theorem dM_corner_49 : decode prog_13_method_9_code 49 = .ok (.aload_n 0, 1) := by decide +kernel
theorem dM_corner_50 : decode prog_13_method_9_code 50 = .ok (.getfield 61, 3) := by decide +kernel
theorem dM_corner_53 : decode prog_13_method_9_code 53 = .ok (.aload_n 0, 1) := by decide +kernel
theorem dM_corner_54 : decode prog_13_method_9_code 54 = .ok (.getfield 151, 3) := by decide +kernel
theorem dM_corner_57 : decode prog_13_method_9_code 57 = .ok (.iload_n 2, 1) := by decide +kernel
theorem dM_corner_58 : decode prog_13_method_9_code 58 = .ok (.iastore, 1) := by decide +kernel
theorem dM_corner_59 : decode prog_13_method_9_code 59 = .ok (.aload_n 0, 1) := by decide +kernel
theorem dM_corner_60 : decode prog_13_method_9_code 60 = .ok (.dup, 1) := by decide +kernel
theorem dM_corner_61 : decode prog_13_method_9_code 61 = .ok (.getfield 151, 3) := by decide +kernel
theorem dM_corner_64 : decode prog_13_method_9_code 64 = .ok (.iconst 1, 1) := by decide +kernel
theorem dM_corner_65 : decode prog_13_method_9_code 65 = .ok (.iadd, 1) := by decide +kernel
theorem dM_corner_66 : decode prog_13_method_9_code 66 = .ok (.putfield 151, 3) := by decide +kernel
theorem dM_corner_69 : decode prog_13_method_9_code 69 = .ok (.aload_n 0, 1) := by decide +kernel
theorem dM_corner_70 : decode prog_13_method_9_code 70 = .ok (.getfield 151, 3) := by decide +kernel
theorem dM_corner_73 : decode prog_13_method_9_code 73 = .ok (.ireturn, 1) := by decide +kernel
theorem dM_isArea_0 : decode prog_13_method_10_code 0 = .ok (.iconst 0, 1) := by decide +kernel
theorem dM_isArea_1 : decode prog_13_method_10_code 1 = .ok (.istore_n 1, 1) := by decide +kernel
theorem dM_isArea_2 : decode prog_13_method_10_code 2 = .ok (.iconst 0, 1) := by decide +kernel
theorem dM_isArea_3 : decode prog_13_method_10_code 3 = .ok (.istore_n 2, 1) := by decide +kernel
theorem dM_isArea_4 : decode prog_13_method_10_code 4 = .ok (.iload_n 2, 1) := by decide +kernel
theorem dM_isArea_5 : decode prog_13_method_10_code 5 = .ok (.aload_n 0, 1) := by decide +kernel
theorem dM_isArea_6 : decode prog_13_method_10_code 6 = .ok (.getfield 151, 3) := by decide +kernel
theorem dM_isArea_9 : decode prog_13_method_10_code 9 = .ok (.if_icmp .ge 48, 3) := by decide +kernel
theorem dM_isArea_12 : decode prog_13_method_10_code 12 = .ok (.iload_n 2, 1) := by decide +kernel
theorem dM_isArea_13 : decode prog_13_method_10_code 13 = .ok (.iconst 1, 1) := by decide +kernel
theorem dM_isArea_14 : decode prog_13_method_10_code 14 = .ok (.iadd, 1) := by decide +kernel
theorem dM_isArea_15 : decode prog_13_method_10_code 15 = .ok (.aload_n 0, 1) := by decide +kernel
theorem dM_isArea_16 : decode prog_13_method_10_code 16 = .ok (.getfield 151, 3) := by decide +kernel
theorem dM_isArea_19 : decode prog_13_method_10_code 19 = .ok (.irem, 1) := by decide +kernel
theorem dM_isArea_20 : decode prog_13_method_10_code 20 = .ok (.istore_n 3, 1) := by decide +kernel
theorem dM_isArea_21 : decode prog_13_method_10_code 21 = .ok (.iload_n 1, 1) := by decide +kernel
theorem dM_isArea_22 : decode prog_13_method_10_code 22 = .ok (.aload_n 0, 1) := by decide +kernel
theorem dM_isArea_23 : decode prog_13_method_10_code 23 = .ok (.getfield 58, 3) := by decide +kernel
theorem dM_isArea_26 : decode prog_13_method_10_code 26 = .ok (.iload_n 2, 1) := by decide +kernel
theorem dM_isArea_27 : decode prog_13_method_10_code 27 = .ok (.iaload, 1) := by decide +kernel
theorem dM_isArea_28 : decode prog_13_method_10_code 28 = .ok (.aload_n 0, 1) := by decide +kernel
theorem dM_isArea_29 : decode prog_13_method_10_code 29 = .ok (.getfield 61, 3) := by decide +kernel
theorem dM_isArea_32 : decode prog_13_method_10_code 32 = .ok (.iload_n 3, 1) := by decide +kernel
theorem dM_isArea_33 : decode prog_13_method_10_code 33 = .ok (.iaload, 1) := by decide +kernel
theorem dM_isArea_34 : decode prog_13_method_10_code 34 = .ok (.imul, 1) := by decide +kernel
theorem dM_isArea_35 : decode prog_13_method_10_code 35 = .ok (.aload_n 0, 1) := by decide +kernel
theorem dM_isArea_36 : decode prog_13_method_10_code 36 = .ok (.getfield 58, 3) := by decide +kernel
theorem dM_isArea_39 : decode prog_13_method_10_code 39 = .ok (.iload_n 3, 1) := by decide +kernel
theorem dM_isArea_40 : decode prog_13_method_10_code 40 = .ok (.iaload, 1) := by decide +kernel
theorem dM_isArea_41 : decode prog_13_method_10_code 41 = .ok (.aload_n 0, 1) := by decide +kernel
theorem dM_isArea_42 : decode prog_13_method_10_code 42 = .ok (.getfield 61, 3) := by decide +kernel
theorem dM_isArea_45 : decode prog_13_method_10_code 45 = .ok (.iload_n 2, 1) := by decide +kernel
theorem dM_isArea_46 : decode prog_13_method_10_code 46 = .ok (.iaload, 1) := by decide +kernel
theorem dM_isArea_47 : decode prog_13_method_10_code 47 = .ok (.imul, 1) := by decide +kernel
theorem dM_isArea_48 : decode prog_13_method_10_code 48 = .ok (.isub, 1) := by decide +kernel
theorem dM_isArea_49 : decode prog_13_method_10_code 49 = .ok (.iadd, 1) := by decide +kernel
theorem dM_isArea_50 : decode prog_13_method_10_code 50 = .ok (.istore_n 1, 1) := by decide +kernel
theorem dM_isArea_51 : decode prog_13_method_10_code 51 = .ok (.iinc 2 1, 3) := by decide +kernel
theorem dM_isArea_54 : decode prog_13_method_10_code 54 = .ok (.goto (-50), 3) := by decide +kernel
theorem dM_isArea_57 : decode prog_13_method_10_code 57 = .ok (.aload_n 0, 1) := by decide +kernel
theorem dM_isArea_58 : decode prog_13_method_10_code 58 = .ok (.getfield 151, 3) := by decide +kernel
theorem dM_isArea_61 : decode prog_13_method_10_code 61 = .ok (.iconst 2, 1) := by decide +kernel
theorem dM_isArea_62 : decode prog_13_method_10_code 62 = .ok (.if_icmp .le 11, 3) := by decide +kernel
theorem dM_isArea_65 : decode prog_13_method_10_code 65 = .ok (.iload_n 1, 1) := by decide +kernel
theorem dM_isArea_66 : decode prog_13_method_10_code 66 = .ok (.ifCond .eq 7, 3) := by decide +kernel
theorem dM_isArea_69 : decode prog_13_method_10_code 69 = .ok (.iconst 1, 1) := by decide +kernel
theorem dM_isArea_70 : decode prog_13_method_10_code 70 = .ok (.goto 4, 3) := by decide +kernel
theorem dM_isArea_73 : decode prog_13_method_10_code 73 = .ok (.iconst 0, 1) := by decide +kernel
theorem dM_isArea_74 : decode prog_13_method_10_code 74 = .ok (.ireturn, 1) := by decide +kernel
theorem dM_shape_0 : decode prog_13_method_11_code 0 = .ok (.aload_n 0, 1) := by decide +kernel
theorem dM_shape_1 : decode prog_13_method_11_code 1 = .ok (.iload_n 1, 1) := by decide +kernel
theorem dM_shape_2 : decode prog_13_method_11_code 2 = .ok (.invokevirtual 154, 3) := by decide +kernel
theorem dM_shape_5 : decode prog_13_method_11_code 5 = .ok (.ifCond .eq 29, 3) := by decide +kernel
theorem dM_shape_8 : decode prog_13_method_11_code 8 = .ok (.iload_n 2, 1) := by decide +kernel
theorem dM_shape_9 : decode prog_13_method_11_code 9 = .ok (.invokestatic 143, 3) := by decide +kernel
theorem dM_shape_12 : decode prog_13_method_11_code 12 = .ok (.ifCond .eq 22, 3) := by decide +kernel
theorem dM_shape_15 : decode prog_13_method_11_code 15 = .ok (.aload_n 0, 1) := by decide +kernel
theorem dM_shape_16 : decode prog_13_method_11_code 16 = .ok (.getfield 151, 3) := by decide +kernel
theorem dM_shape_19 : decode prog_13_method_11_code 19 = .ok (.iconst 1, 1) := by decide +kernel
theorem dM_shape_20 : decode prog_13_method_11_code 20 = .ok (.if_icmp .eq 10, 3) := by decide +kernel
theorem dM_shape_23 : decode prog_13_method_11_code 23 = .ok (.aload_n 0, 1) := by decide +kernel
theorem dM_shape_24 : decode prog_13_method_11_code 24 = .ok (.invokevirtual 157, 3) := by decide +kernel
theorem dM_shape_27 : decode prog_13_method_11_code 27 = .ok (.ifCond .eq 7, 3) := by decide +kernel
theorem dM_shape_30 : decode prog_13_method_11_code 30 = .ok (.iconst 1, 1) := by decide +kernel
theorem dM_shape_31 : decode prog_13_method_11_code 31 = .ok (.goto 4, 3) := by decide +kernel
theorem dM_shape_34 : decode prog_13_method_11_code 34 = .ok (.iconst 0, 1) := by decide +kernel
theorem dM_shape_35 : decode prog_13_method_11_code 35 = .ok (.istore_n 3, 1) := by decide +kernel
theorem dM_shape_36 : decode prog_13_method_11_code 36 = .ok (.aload_n 0, 1) := by decide +kernel
theorem dM_shape_37 : decode prog_13_method_11_code 37 = .ok (.iload_n 3, 1) := by decide +kernel
theorem dM_shape_38 : decode prog_13_method_11_code 38 = .ok (.ifCond .eq 7, 3) := by decide +kernel
theorem dM_shape_41 : decode prog_13_method_11_code 41 = .ok (.iconst 0, 1) := by decide +kernel
theorem dM_shape_42 : decode prog_13_method_11_code 42 = .ok (.goto 4, 3) := by decide +kernel
theorem dM_shape_45 : decode prog_13_method_11_code 45 = .ok (.iconst 1, 1) := by decide +kernel
theorem dM_shape_46 : decode prog_13_method_11_code 46 = .ok (.putfield 132, 3) := by decide +kernel
theorem dM_shape_49 : decode prog_13_method_11_code 49 = .ok (.aload_n 0, 1) := by decide +kernel
theorem dM_shape_50 : decode prog_13_method_11_code 50 = .ok (.getfield 132, 3) := by decide +kernel
theorem dM_shape_53 : decode prog_13_method_11_code 53 = .ok (.ifCond .le 4, 3) := by decide +kernel
theorem dM_shape_56 : decode prog_13_method_11_code 56 = .ok (.return_, 1) := by decide +kernel
theorem dM_shape_57 : decode prog_13_method_11_code 57 = .ok (.aload_n 0, 1) := by decide +kernel
theorem dM_shape_58 : decode prog_13_method_11_code 58 = .ok (.getfield 16, 3) := by decide +kernel
theorem dM_shape_61 : decode prog_13_method_11_code 61 = .ok (.iload_n 1, 1) := by decide +kernel
theorem dM_shape_62 : decode prog_13_method_11_code 62 = .ok (.iaload, 1) := by decide +kernel
theorem dM_shape_63 : decode prog_13_method_11_code 63 = .ok (.istore 4, 2) := by decide +kernel
theorem dM_shape_65 : decode prog_13_method_11_code 65 = .ok (.aload_n 0, 1) := by decide +kernel
theorem dM_shape_66 : decode prog_13_method_11_code 66 = .ok (.iload 4, 2) := by decide +kernel
theorem dM_shape_68 : decode prog_13_method_11_code 68 = .ok (.iconst 3, 1) := by decide +kernel
theorem dM_shape_69 : decode prog_13_method_11_code 69 = .ok (.if_icmp .eq 25, 3) := by decide +kernel
theorem dM_shape_72 : decode prog_13_method_11_code 72 = .ok (.iload 4, 2) := by decide +kernel
theorem dM_shape_74 : decode prog_13_method_11_code 74 = .ok (.ifCond .le 24, 3) := by decide +kernel
theorem dM_shape_77 : decode prog_13_method_11_code 77 = .ok (.aload_n 0, 1) := by decide +kernel
theorem dM_shape_78 : decode prog_13_method_11_code 78 = .ok (.getfield 19, 3) := by decide +kernel
theorem dM_shape_81 : decode prog_13_method_11_code 81 = .ok (.iconst 3, 1) := by decide +kernel
theorem dM_shape_82 : decode prog_13_method_11_code 82 = .ok (.iload_n 1, 1) := by decide +kernel
theorem dM_shape_83 : decode prog_13_method_11_code 83 = .ok (.imul, 1) := by decide +kernel
theorem dM_shape_84 : decode prog_13_method_11_code 84 = .ok (.iload 4, 2) := by decide +kernel
theorem dM_shape_86 : decode prog_13_method_11_code 86 = .ok (.iadd, 1) := by decide +kernel
theorem dM_shape_87 : decode prog_13_method_11_code 87 = .ok (.iconst 1, 1) := by decide +kernel
theorem dM_shape_88 : decode prog_13_method_11_code 88 = .ok (.isub, 1) := by decide +kernel
theorem dM_shape_89 : decode prog_13_method_11_code 89 = .ok (.iaload, 1) := by decide +kernel
theorem dM_shape_90 : decode prog_13_method_11_code 90 = .ok (.iload_n 2, 1) := by decide +kernel
theorem dM_shape_91 : decode prog_13_method_11_code 91 = .ok (.if_icmp .lt 7, 3) := by decide +kernel
theorem dM_shape_94 : decode prog_13_method_11_code 94 = .ok (.iconst 2, 1) := by decide +kernel
theorem dM_shape_95 : decode prog_13_method_11_code 95 = .ok (.goto 4, 3) := by decide +kernel
theorem dM_shape_98 : decode prog_13_method_11_code 98 = .ok (.iconst 0, 1) := by decide +kernel
theorem dM_shape_99 : decode prog_13_method_11_code 99 = .ok (.putfield 132, 3) := by decide +kernel
theorem dM_shape_102 : decode prog_13_method_11_code 102 = .ok (.aload_n 0, 1) := by decide +kernel
theorem dM_shape_103 : decode prog_13_method_11_code 103 = .ok (.getfield 132, 3) := by decide +kernel
theorem dM_shape_106 : decode prog_13_method_11_code 106 = .ok (.ifCond .le 4, 3) := by decide +kernel
theorem dM_shape_109 : decode prog_13_method_11_code 109 = .ok (.return_, 1) := by decide +kernel
theorem dM_shape_110 : decode prog_13_method_11_code 110 = .ok (.iconst 3, 1) := by decide +kernel
theorem dM_shape_111 : decode prog_13_method_11_code 111 = .ok (.iload_n 1, 1) := by decide +kernel
theorem dM_shape_112 : decode prog_13_method_11_code 112 = .ok (.imul, 1) := by decide +kernel
theorem dM_shape_113 : decode prog_13_method_11_code 113 = .ok (.iload 4, 2) := by decide +kernel
theorem dM_shape_115 : decode prog_13_method_11_code 115 = .ok (.iadd, 1) := by decide +kernel
theorem dM_shape_116 : decode prog_13_method_11_code 116 = .ok (.istore 5, 2) := by decide +kernel
theorem dM_shape_118 : decode prog_13_method_11_code 118 = .ok (.aload_n 0, 1) := by decide +kernel
theorem dM_shape_119 : decode prog_13_method_11_code 119 = .ok (.getfield 19, 3) := by decide +kernel
theorem dM_shape_122 : decode prog_13_method_11_code 122 = .ok (.iload 5, 2) := by decide +kernel
theorem dM_shape_124 : decode prog_13_method_11_code 124 = .ok (.iload_n 2, 1) := by decide +kernel
theorem dM_shape_125 : decode prog_13_method_11_code 125 = .ok (.iastore, 1) := by decide +kernel
theorem dM_shape_126 : decode prog_13_method_11_code 126 = .ok (.aload_n 0, 1) := by decide +kernel
theorem dM_shape_127 : decode prog_13_method_11_code 127 = .ok (.getfield 22, 3) := by decide +kernel
theorem dM_shape_130 : decode prog_13_method_11_code 130 = .ok (.iload 5, 2) := by decide +kernel
theorem dM_shape_132 : decode prog_13_method_11_code 132 = .ok (.aload_n 0, 1) := by decide +kernel
theorem dM_shape_133 : decode prog_13_method_11_code 133 = .ok (.getfield 151, 3) := by decide +kernel
theorem dM_shape_136 : decode prog_13_method_11_code 136 = .ok (.iastore, 1) := by decide +kernel
theorem dM_shape_137 : decode prog_13_method_11_code 137 = .ok (.iconst 0, 1) := by decide +kernel
theorem dM_shape_138 : decode prog_13_method_11_code 138 = .ok (.istore 6, 2) := by decide +kernel
theorem dM_shape_140 : decode prog_13_method_11_code 140 = .ok (.iload 6, 2) := by decide +kernel
theorem dM_shape_142 : decode prog_13_method_11_code 142 = .ok (.aload_n 0, 1) := by decide +kernel
theorem dM_shape_143 : decode prog_13_method_11_code 143 = .ok (.getfield 151, 3) := by decide +kernel
theorem dM_shape_146 : decode prog_13_method_11_code 146 = .ok (.if_icmp .ge 49, 3) := by decide +kernel
theorem dM_shape_149 : decode prog_13_method_11_code 149 = .ok (.aload_n 0, 1) := by decide +kernel
theorem dM_shape_150 : decode prog_13_method_11_code 150 = .ok (.getfield 25, 3) := by decide +kernel
theorem dM_shape_153 : decode prog_13_method_11_code 153 = .ok (.bipush 8, 2) := by decide +kernel
theorem dM_shape_155 : decode prog_13_method_11_code 155 = .ok (.iload 5, 2) := by decide +kernel
theorem dM_shape_157 : decode prog_13_method_11_code 157 = .ok (.imul, 1) := by decide +kernel
theorem dM_shape_158 : decode prog_13_method_11_code 158 = .ok (.iload 6, 2) := by decide +kernel
theorem dM_shape_160 : decode prog_13_method_11_code 160 = .ok (.iadd, 1) := by decide +kernel
theorem dM_shape_161 : decode prog_13_method_11_code 161 = .ok (.aload_n 0, 1) := by decide +kernel
theorem dM_shape_162 : decode prog_13_method_11_code 162 = .ok (.getfield 58, 3) := by decide +kernel
theorem dM_shape_165 : decode prog_13_method_11_code 165 = .ok (.iload 6, 2) := by decide +kernel
theorem dM_shape_167 : decode prog_13_method_11_code 167 = .ok (.iaload, 1) := by decide +kernel
theorem dM_shape_168 : decode prog_13_method_11_code 168 = .ok (.iastore, 1) := by decide +kernel
theorem dM_shape_169 : decode prog_13_method_11_code 169 = .ok (.aload_n 0, 1) := by decide +kernel
theorem dM_shape_170 : decode prog_13_method_11_code 170 = .ok (.getfield 28, 3) := by decide +kernel
theorem dM_shape_173 : decode prog_13_method_11_code 173 = .ok (.bipush 8, 2) := by decide +kernel
theorem dM_shape_175 : decode prog_13_method_11_code 175 = .ok (.iload 5, 2) := by decide +kernel
theorem dM_shape_177 : decode prog_13_method_11_code 177 = .ok (.imul, 1) := by decide +kernel
theorem dM_shape_178 : decode prog_13_method_11_code 178 = .ok (.iload 6, 2) := by decide +kernel
theorem dM_shape_180 : decode prog_13_method_11_code 180 = .ok (.iadd, 1) := by decide +kernel
theorem dM_shape_181 : decode prog_13_method_11_code 181 = .ok (.aload_n 0, 1) := by decide +kernel
theorem dM_shape_182 : decode prog_13_method_11_code 182 = .ok (.getfield 61, 3) := by decide +kernel
theorem dM_shape_185 : decode prog_13_method_11_code 185 = .ok (.iload 6, 2) := by decide +kernel
theorem dM_shape_187 : decode prog_13_method_11_code 187 = .ok (.iaload, 1) := by decide +kernel
theorem dM_shape_188 : decode prog_13_method_11_code 188 = .ok (.iastore, 1) := by decide +kernel
theorem dM_shape_189 : decode prog_13_method_11_code 189 = .ok (.iinc 6 1, 3) := by decide +kernel
theorem dM_shape_192 : decode prog_13_method_11_code 192 = .ok (.goto (-52), 3) := by decide +kernel
theorem dM_shape_195 : decode prog_13_method_11_code 195 = .ok (.aload_n 0, 1) := by decide +kernel
theorem dM_shape_196 : decode prog_13_method_11_code 196 = .ok (.getfield 16, 3) := by decide +kernel
theorem dM_shape_199 : decode prog_13_method_11_code 199 = .ok (.iload_n 1, 1) := by decide +kernel
theorem dM_shape_200 : decode prog_13_method_11_code 200 = .ok (.dup2, 1) := by decide +kernel
theorem dM_shape_201 : decode prog_13_method_11_code 201 = .ok (.iaload, 1) := by decide +kernel
theorem dM_shape_202 : decode prog_13_method_11_code 202 = .ok (.iconst 1, 1) := by decide +kernel
theorem dM_shape_203 : decode prog_13_method_11_code 203 = .ok (.iadd, 1) := by decide +kernel
theorem dM_shape_204 : decode prog_13_method_11_code 204 = .ok (.iastore, 1) := by decide +kernel
theorem dM_shape_205 : decode prog_13_method_11_code 205 = .ok (.aload_n 0, 1) := by decide +kernel
theorem dM_shape_206 : decode prog_13_method_11_code 206 = .ok (.iconst 0, 1) := by decide +kernel
theorem dM_shape_207 : decode prog_13_method_11_code 207 = .ok (.putfield 151, 3) := by decide +kernel
theorem dM_shape_210 : decode prog_13_method_11_code 210 = .ok (.return_, 1) := by decide +kernel
theorem dM_route_0 : decode prog_13_method_12_code 0 = .ok (.aload_n 0, 1) := by decide +kernel
theorem dM_route_1 : decode prog_13_method_12_code 1 = .ok (.iconst 0, 1) := by decide +kernel
theorem dM_route_2 : decode prog_13_method_12_code 2 = .ok (.putfield 132, 3) := by decide +kernel
theorem dM_route_5 : decode prog_13_method_12_code 5 = .ok (.aload_n 0, 1) := by decide +kernel
theorem dM_route_6 : decode prog_13_method_12_code 6 = .ok (.getfield 88, 3) := by decide +kernel
theorem dM_route_9 : decode prog_13_method_12_code 9 = .ok (.iconst 0, 1) := by decide +kernel
theorem dM_route_10 : decode prog_13_method_12_code 10 = .ok (.aload_n 0, 1) := by decide +kernel
theorem dM_route_11 : decode prog_13_method_12_code 11 = .ok (.getfield 151, 3) := by decide +kernel
theorem dM_route_14 : decode prog_13_method_12_code 14 = .ok (.iconst 2, 1) := by decide +kernel
theorem dM_route_15 : decode prog_13_method_12_code 15 = .ok (.if_icmp .ge 7, 3) := by decide +kernel
theorem dM_route_18 : decode prog_13_method_12_code 18 = .ok (.iconst 0, 1) := by decide +kernel
theorem dM_route_19 : decode prog_13_method_12_code 19 = .ok (.goto 7, 3) := by decide +kernel
theorem dM_route_22 : decode prog_13_method_12_code 22 = .ok (.aload_n 0, 1) := by decide +kernel
theorem dM_route_23 : decode prog_13_method_12_code 23 = .ok (.getfield 151, 3) := by decide +kernel
theorem dM_route_26 : decode prog_13_method_12_code 26 = .ok (.iastore, 1) := by decide +kernel
theorem dM_route_27 : decode prog_13_method_12_code 27 = .ok (.iconst 0, 1) := by decide +kernel
theorem dM_route_28 : decode prog_13_method_12_code 28 = .ok (.istore_n 1, 1) := by decide +kernel
theorem dM_route_29 : decode prog_13_method_12_code 29 = .ok (.iload_n 1, 1) := by decide +kernel
theorem dM_route_30 : decode prog_13_method_12_code 30 = .ok (.aload_n 0, 1) := by decide +kernel
theorem dM_route_31 : decode prog_13_method_12_code 31 = .ok (.getfield 151, 3) := by decide +kernel
theorem dM_route_34 : decode prog_13_method_12_code 34 = .ok (.if_icmp .ge 33, 3) := by decide +kernel
theorem dM_route_37 : decode prog_13_method_12_code 37 = .ok (.aload_n 0, 1) := by decide +kernel
theorem dM_route_38 : decode prog_13_method_12_code 38 = .ok (.getfield 91, 3) := by decide +kernel
theorem dM_route_41 : decode prog_13_method_12_code 41 = .ok (.iload_n 1, 1) := by decide +kernel
theorem dM_route_42 : decode prog_13_method_12_code 42 = .ok (.aload_n 0, 1) := by decide +kernel
theorem dM_route_43 : decode prog_13_method_12_code 43 = .ok (.getfield 58, 3) := by decide +kernel
theorem dM_route_46 : decode prog_13_method_12_code 46 = .ok (.iload_n 1, 1) := by decide +kernel
theorem dM_route_47 : decode prog_13_method_12_code 47 = .ok (.iaload, 1) := by decide +kernel
theorem dM_route_48 : decode prog_13_method_12_code 48 = .ok (.iastore, 1) := by decide +kernel
theorem dM_route_49 : decode prog_13_method_12_code 49 = .ok (.aload_n 0, 1) := by decide +kernel
theorem dM_route_50 : decode prog_13_method_12_code 50 = .ok (.getfield 94, 3) := by decide +kernel
theorem dM_route_53 : decode prog_13_method_12_code 53 = .ok (.iload_n 1, 1) := by decide +kernel
theorem dM_route_54 : decode prog_13_method_12_code 54 = .ok (.aload_n 0, 1) := by decide +kernel
theorem dM_route_55 : decode prog_13_method_12_code 55 = .ok (.getfield 61, 3) := by decide +kernel
theorem dM_route_58 : decode prog_13_method_12_code 58 = .ok (.iload_n 1, 1) := by decide +kernel
theorem dM_route_59 : decode prog_13_method_12_code 59 = .ok (.iaload, 1) := by decide +kernel
theorem dM_route_60 : decode prog_13_method_12_code 60 = .ok (.iastore, 1) := by decide +kernel
theorem dM_route_61 : decode prog_13_method_12_code 61 = .ok (.iinc 1 1, 3) := by decide +kernel
theorem dM_route_64 : decode prog_13_method_12_code 64 = .ok (.goto (-35), 3) := by decide +kernel
theorem dM_route_67 : decode prog_13_method_12_code 67 = .ok (.aload_n 0, 1) := by decide +kernel
theorem dM_route_68 : decode prog_13_method_12_code 68 = .ok (.iconst 0, 1) := by decide +kernel
theorem dM_route_69 : decode prog_13_method_12_code 69 = .ok (.putfield 151, 3) := by decide +kernel
theorem dM_route_72 : decode prog_13_method_12_code 72 = .ok (.return_, 1) := by decide +kernel
theorem dM_shapeOf_0 : decode prog_13_method_13_code 0 = .ok (.iconst (-1), 1) := by decide +kernel
theorem dM_shapeOf_1 : decode prog_13_method_13_code 1 = .ok (.istore_n 3, 1) := by decide +kernel
theorem dM_shapeOf_2 : decode prog_13_method_13_code 2 = .ok (.iconst 0, 1) := by decide +kernel
theorem dM_shapeOf_3 : decode prog_13_method_13_code 3 = .ok (.istore 4, 2) := by decide +kernel
theorem dM_shapeOf_5 : decode prog_13_method_13_code 5 = .ok (.iload 4, 2) := by decide +kernel
theorem dM_shapeOf_7 : decode prog_13_method_13_code 7 = .ok (.aload_n 0, 1) := by decide +kernel
theorem dM_shapeOf_8 : decode prog_13_method_13_code 8 = .ok (.getfield 16, 3) := by decide +kernel
theorem dM_shapeOf_11 : decode prog_13_method_13_code 11 = .ok (.iload_n 1, 1) := by decide +kernel
theorem dM_shapeOf_12 : decode prog_13_method_13_code 12 = .ok (.iaload, 1) := by decide +kernel
theorem dM_shapeOf_13 : decode prog_13_method_13_code 13 = .ok (.if_icmp .ge 31, 3) := by decide +kernel
theorem dM_shapeOf_16 : decode prog_13_method_13_code 16 = .ok (.aload_n 0, 1) := by decide +kernel
theorem dM_shapeOf_17 : decode prog_13_method_13_code 17 = .ok (.getfield 19, 3) := by decide +kernel
theorem dM_shapeOf_20 : decode prog_13_method_13_code 20 = .ok (.iconst 3, 1) := by decide +kernel
theorem dM_shapeOf_21 : decode prog_13_method_13_code 21 = .ok (.iload_n 1, 1) := by decide +kernel
theorem dM_shapeOf_22 : decode prog_13_method_13_code 22 = .ok (.imul, 1) := by decide +kernel
theorem dM_shapeOf_23 : decode prog_13_method_13_code 23 = .ok (.iload 4, 2) := by decide +kernel
theorem dM_shapeOf_25 : decode prog_13_method_13_code 25 = .ok (.iadd, 1) := by decide +kernel
theorem dM_shapeOf_26 : decode prog_13_method_13_code 26 = .ok (.iaload, 1) := by decide +kernel
theorem dM_shapeOf_27 : decode prog_13_method_13_code 27 = .ok (.iload_n 2, 1) := by decide +kernel
theorem dM_shapeOf_28 : decode prog_13_method_13_code 28 = .ok (.if_icmp .gt 10, 3) := by decide +kernel
theorem dM_shapeOf_31 : decode prog_13_method_13_code 31 = .ok (.iconst 3, 1) := by decide +kernel
theorem dM_shapeOf_32 : decode prog_13_method_13_code 32 = .ok (.iload_n 1, 1) := by decide +kernel
theorem dM_shapeOf_33 : decode prog_13_method_13_code 33 = .ok (.imul, 1) := by decide +kernel
theorem dM_shapeOf_34 : decode prog_13_method_13_code 34 = .ok (.iload 4, 2) := by decide +kernel
theorem dM_shapeOf_36 : decode prog_13_method_13_code 36 = .ok (.iadd, 1) := by decide +kernel
theorem dM_shapeOf_37 : decode prog_13_method_13_code 37 = .ok (.istore_n 3, 1) := by decide +kernel
theorem dM_shapeOf_38 : decode prog_13_method_13_code 38 = .ok (.iinc 4 1, 3) := by decide +kernel
theorem dM_shapeOf_41 : decode prog_13_method_13_code 41 = .ok (.goto (-36), 3) := by decide +kernel
theorem dM_shapeOf_44 : decode prog_13_method_13_code 44 = .ok (.iload_n 3, 1) := by decide +kernel
theorem dM_shapeOf_45 : decode prog_13_method_13_code 45 = .ok (.ireturn, 1) := by decide +kernel
theorem dM_isThere_0 : decode prog_13_method_14_code 0 = .ok (.aload_n 0, 1) := by decide +kernel
theorem dM_isThere_1 : decode prog_13_method_14_code 1 = .ok (.iload_n 1, 1) := by decide +kernel
theorem dM_isThere_2 : decode prog_13_method_14_code 2 = .ok (.iload_n 2, 1) := by decide +kernel
theorem dM_isThere_3 : decode prog_13_method_14_code 3 = .ok (.invokevirtual 161, 3) := by decide +kernel
theorem dM_isThere_6 : decode prog_13_method_14_code 6 = .ok (.iconst (-1), 1) := by decide +kernel
theorem dM_isThere_7 : decode prog_13_method_14_code 7 = .ok (.if_icmp .eq 17, 3) := by decide +kernel
theorem dM_isThere_10 : decode prog_13_method_14_code 10 = .ok (.iload_n 2, 1) := by decide +kernel
theorem dM_isThere_11 : decode prog_13_method_14_code 11 = .ok (.aload_n 0, 1) := by decide +kernel
theorem dM_isThere_12 : decode prog_13_method_14_code 12 = .ok (.getfield 13, 3) := by decide +kernel
theorem dM_isThere_15 : decode prog_13_method_14_code 15 = .ok (.iload_n 1, 1) := by decide +kernel
theorem dM_isThere_16 : decode prog_13_method_14_code 16 = .ok (.iaload, 1) := by decide +kernel
theorem dM_isThere_17 : decode prog_13_method_14_code 17 = .ok (.if_icmp .ge 7, 3) := by decide +kernel
theorem dM_isThere_20 : decode prog_13_method_14_code 20 = .ok (.iconst 1, 1) := by decide +kernel
theorem dM_isThere_21 : decode prog_13_method_14_code 21 = .ok (.goto 4, 3) := by decide +kernel
theorem dM_isThere_24 : decode prog_13_method_14_code 24 = .ok (.iconst 0, 1) := by decide +kernel
theorem dM_isThere_25 : decode prog_13_method_14_code 25 = .ok (.ireturn, 1) := by decide +kernel
theorem dM_turn_0 : decode prog_13_method_15_code 0 = .ok (.iload_n 2, 1) := by decide +kernel
theorem dM_turn_1 : decode prog_13_method_15_code 1 = .ok (.iload_n 0, 1) := by decide +kernel
theorem dM_turn_2 : decode prog_13_method_15_code 2 = .ok (.isub, 1) := by decide +kernel
theorem dM_turn_3 : decode prog_13_method_15_code 3 = .ok (.iload 5, 2) := by decide +kernel
theorem dM_turn_5 : decode prog_13_method_15_code 5 = .ok (.iload_n 1, 1) := by decide +kernel
theorem dM_turn_6 : decode prog_13_method_15_code 6 = .ok (.isub, 1) := by decide +kernel
theorem dM_turn_7 : decode prog_13_method_15_code 7 = .ok (.imul, 1) := by decide +kernel
theorem dM_turn_8 : decode prog_13_method_15_code 8 = .ok (.iload_n 3, 1) := by decide +kernel
theorem dM_turn_9 : decode prog_13_method_15_code 9 = .ok (.iload_n 1, 1) := by decide +kernel
theorem dM_turn_10 : decode prog_13_method_15_code 10 = .ok (.isub, 1) := by decide +kernel
theorem dM_turn_11 : decode prog_13_method_15_code 11 = .ok (.iload 4, 2) := by decide +kernel
theorem dM_turn_13 : decode prog_13_method_15_code 13 = .ok (.iload_n 0, 1) := by decide +kernel
theorem dM_turn_14 : decode prog_13_method_15_code 14 = .ok (.isub, 1) := by decide +kernel
theorem dM_turn_15 : decode prog_13_method_15_code 15 = .ok (.imul, 1) := by decide +kernel
theorem dM_turn_16 : decode prog_13_method_15_code 16 = .ok (.isub, 1) := by decide +kernel
theorem dM_turn_17 : decode prog_13_method_15_code 17 = .ok (.ireturn, 1) := by decide +kernel
theorem dM_liesIn_0 : decode prog_13_method_16_code 0 = .ok (.iconst 0, 1) := by decide +kernel
theorem dM_liesIn_1 : decode prog_13_method_16_code 1 = .ok (.istore 4, 2) := by decide +kernel
theorem dM_liesIn_3 : decode prog_13_method_16_code 3 = .ok (.iconst 0, 1) := by decide +kernel
theorem dM_liesIn_4 : decode prog_13_method_16_code 4 = .ok (.istore 5, 2) := by decide +kernel
theorem dM_liesIn_6 : decode prog_13_method_16_code 6 = .ok (.iload 5, 2) := by decide +kernel
theorem dM_liesIn_8 : decode prog_13_method_16_code 8 = .ok (.aload_n 0, 1) := by decide +kernel
theorem dM_liesIn_9 : decode prog_13_method_16_code 9 = .ok (.getfield 22, 3) := by decide +kernel
theorem dM_liesIn_12 : decode prog_13_method_16_code 12 = .ok (.iload_n 1, 1) := by decide +kernel
theorem dM_liesIn_13 : decode prog_13_method_16_code 13 = .ok (.iaload, 1) := by decide +kernel
theorem dM_liesIn_14 : decode prog_13_method_16_code 14 = .ok (.if_icmp .ge 233, 3) := by decide +kernel
theorem dM_liesIn_17 : decode prog_13_method_16_code 17 = .ok (.bipush 8, 2) := by decide +kernel
theorem dM_liesIn_19 : decode prog_13_method_16_code 19 = .ok (.iload_n 1, 1) := by decide +kernel
theorem dM_liesIn_20 : decode prog_13_method_16_code 20 = .ok (.imul, 1) := by decide +kernel
theorem dM_liesIn_21 : decode prog_13_method_16_code 21 = .ok (.iload 5, 2) := by decide +kernel
theorem dM_liesIn_23 : decode prog_13_method_16_code 23 = .ok (.iadd, 1) := by decide +kernel
theorem dM_liesIn_24 : decode prog_13_method_16_code 24 = .ok (.istore 6, 2) := by decide +kernel
theorem dM_liesIn_26 : decode prog_13_method_16_code 26 = .ok (.bipush 8, 2) := by decide +kernel
theorem dM_liesIn_28 : decode prog_13_method_16_code 28 = .ok (.iload_n 1, 1) := by decide +kernel
theorem dM_liesIn_29 : decode prog_13_method_16_code 29 = .ok (.imul, 1) := by decide +kernel
theorem dM_liesIn_30 : decode prog_13_method_16_code 30 = .ok (.iload 5, 2) := by decide +kernel
theorem dM_liesIn_32 : decode prog_13_method_16_code 32 = .ok (.iconst 1, 1) := by decide +kernel
theorem dM_liesIn_33 : decode prog_13_method_16_code 33 = .ok (.iadd, 1) := by decide +kernel
theorem dM_liesIn_34 : decode prog_13_method_16_code 34 = .ok (.aload_n 0, 1) := by decide +kernel
theorem dM_liesIn_35 : decode prog_13_method_16_code 35 = .ok (.getfield 22, 3) := by decide +kernel
theorem dM_liesIn_38 : decode prog_13_method_16_code 38 = .ok (.iload_n 1, 1) := by decide +kernel
theorem dM_liesIn_39 : decode prog_13_method_16_code 39 = .ok (.iaload, 1) := by decide +kernel
theorem dM_liesIn_40 : decode prog_13_method_16_code 40 = .ok (.irem, 1) := by decide +kernel
theorem dM_liesIn_41 : decode prog_13_method_16_code 41 = .ok (.iadd, 1) := by decide +kernel
theorem dM_liesIn_42 : decode prog_13_method_16_code 42 = .ok (.istore 7, 2) := by decide +kernel
theorem dM_liesIn_44 : decode prog_13_method_16_code 44 = .ok (.aload_n 0, 1) := by decide +kernel
theorem dM_liesIn_45 : decode prog_13_method_16_code 45 = .ok (.getfield 25, 3) := by decide +kernel
theorem dM_liesIn_48 : decode prog_13_method_16_code 48 = .ok (.iload 6, 2) := by decide +kernel
theorem dM_liesIn_50 : decode prog_13_method_16_code 50 = .ok (.iaload, 1) := by decide +kernel
theorem dM_liesIn_51 : decode prog_13_method_16_code 51 = .ok (.istore 8, 2) := by decide +kernel
theorem dM_liesIn_53 : decode prog_13_method_16_code 53 = .ok (.aload_n 0, 1) := by decide +kernel
theorem dM_liesIn_54 : decode prog_13_method_16_code 54 = .ok (.getfield 28, 3) := by decide +kernel
theorem dM_liesIn_57 : decode prog_13_method_16_code 57 = .ok (.iload 6, 2) := by decide +kernel
theorem dM_liesIn_59 : decode prog_13_method_16_code 59 = .ok (.iaload, 1) := by decide +kernel
theorem dM_liesIn_60 : decode prog_13_method_16_code 60 = .ok (.istore 9, 2) := by decide +kernel
theorem dM_liesIn_62 : decode prog_13_method_16_code 62 = .ok (.aload_n 0, 1) := by decide +kernel
theorem dM_liesIn_63 : decode prog_13_method_16_code 63 = .ok (.getfield 25, 3) := by decide +kernel
theorem dM_liesIn_66 : decode prog_13_method_16_code 66 = .ok (.iload 7, 2) := by decide +kernel
theorem dM_liesIn_68 : decode prog_13_method_16_code 68 = .ok (.iaload, 1) := by decide +kernel
theorem dM_liesIn_69 : decode prog_13_method_16_code 69 = .ok (.istore 10, 2) := by decide +kernel
theorem dM_liesIn_71 : decode prog_13_method_16_code 71 = .ok (.aload_n 0, 1) := by decide +kernel
theorem dM_liesIn_72 : decode prog_13_method_16_code 72 = .ok (.getfield 28, 3) := by decide +kernel
theorem dM_liesIn_75 : decode prog_13_method_16_code 75 = .ok (.iload 7, 2) := by decide +kernel
theorem dM_liesIn_77 : decode prog_13_method_16_code 77 = .ok (.iaload, 1) := by decide +kernel
theorem dM_liesIn_78 : decode prog_13_method_16_code 78 = .ok (.istore 11, 2) := by decide +kernel
theorem dM_liesIn_80 : decode prog_13_method_16_code 80 = .ok (.iload 8, 2) := by decide +kernel
theorem dM_liesIn_82 : decode prog_13_method_16_code 82 = .ok (.iload 9, 2) := by decide +kernel
theorem dM_liesIn_84 : decode prog_13_method_16_code 84 = .ok (.iload 10, 2) := by decide +kernel
theorem dM_liesIn_86 : decode prog_13_method_16_code 86 = .ok (.iload 11, 2) := by decide +kernel
theorem dM_liesIn_88 : decode prog_13_method_16_code 88 = .ok (.iload_n 2, 1) := by decide +kernel
theorem dM_liesIn_89 : decode prog_13_method_16_code 89 = .ok (.iload_n 3, 1) := by decide +kernel
theorem dM_liesIn_90 : decode prog_13_method_16_code 90 = .ok (.invokestatic 165, 3) := by decide +kernel
theorem dM_liesIn_93 : decode prog_13_method_16_code 93 = .ok (.istore 12, 2) := by decide +kernel
theorem dM_liesIn_95 : decode prog_13_method_16_code 95 = .ok (.iload_n 2, 1) := by decide +kernel
theorem dM_liesIn_96 : decode prog_13_method_16_code 96 = .ok (.iload 8, 2) := by decide +kernel
theorem dM_liesIn_98 : decode prog_13_method_16_code 98 = .ok (.iload 10, 2) := by decide +kernel
theorem dM_liesIn_100 : decode prog_13_method_16_code 100 = .ok (.if_icmp .ge 8, 3) := by decide +kernel
theorem dM_liesIn_103 : decode prog_13_method_16_code 103 = .ok (.iload 8, 2) := by decide +kernel
theorem dM_liesIn_105 : decode prog_13_method_16_code 105 = .ok (.goto 5, 3) := by decide +kernel
theorem dM_liesIn_108 : decode prog_13_method_16_code 108 = .ok (.iload 10, 2) := by decide +kernel
theorem dM_liesIn_110 : decode prog_13_method_16_code 110 = .ok (.iload 8, 2) := by decide +kernel
theorem dM_liesIn_112 : decode prog_13_method_16_code 112 = .ok (.iload 10, 2) := by decide +kernel
theorem dM_liesIn_114 : decode prog_13_method_16_code 114 = .ok (.if_icmp .ge 8, 3) := by decide +kernel
theorem dM_liesIn_117 : decode prog_13_method_16_code 117 = .ok (.iload 10, 2) := by decide +kernel
theorem dM_liesIn_119 : decode prog_13_method_16_code 119 = .ok (.goto 5, 3) := by decide +kernel
theorem dM_liesIn_122 : decode prog_13_method_16_code 122 = .ok (.iload 8, 2) := by decide +kernel
theorem dM_liesIn_124 : decode prog_13_method_16_code 124 = .ok (.invokestatic 139, 3) := by decide +kernel
theorem dM_liesIn_127 : decode prog_13_method_16_code 127 = .ok (.ifCond .eq 42, 3) := by decide +kernel
theorem dM_liesIn_130 : decode prog_13_method_16_code 130 = .ok (.iload_n 3, 1) := by decide +kernel
theorem dM_liesIn_131 : decode prog_13_method_16_code 131 = .ok (.iload 9, 2) := by decide +kernel
theorem dM_liesIn_133 : decode prog_13_method_16_code 133 = .ok (.iload 11, 2) := by decide +kernel
theorem dM_liesIn_135 : decode prog_13_method_16_code 135 = .ok (.if_icmp .ge 8, 3) := by decide +kernel
theorem dM_liesIn_138 : decode prog_13_method_16_code 138 = .ok (.iload 9, 2) := by decide +kernel
theorem dM_liesIn_140 : decode prog_13_method_16_code 140 = .ok (.goto 5, 3) := by decide +kernel
theorem dM_liesIn_143 : decode prog_13_method_16_code 143 = .ok (.iload 11, 2) := by decide +kernel
theorem dM_liesIn_145 : decode prog_13_method_16_code 145 = .ok (.iload 9, 2) := by decide +kernel
theorem dM_liesIn_147 : decode prog_13_method_16_code 147 = .ok (.iload 11, 2) := by decide +kernel
theorem dM_liesIn_149 : decode prog_13_method_16_code 149 = .ok (.if_icmp .ge 8, 3) := by decide +kernel
theorem dM_liesIn_152 : decode prog_13_method_16_code 152 = .ok (.iload 11, 2) := by decide +kernel
theorem dM_liesIn_154 : decode prog_13_method_16_code 154 = .ok (.goto 5, 3) := by decide +kernel
theorem dM_liesIn_157 : decode prog_13_method_16_code 157 = .ok (.iload 9, 2) := by decide +kernel
theorem dM_liesIn_159 : decode prog_13_method_16_code 159 = .ok (.invokestatic 139, 3) := by decide +kernel
theorem dM_liesIn_162 : decode prog_13_method_16_code 162 = .ok (.ifCond .eq 7, 3) := by decide +kernel
theorem dM_liesIn_165 : decode prog_13_method_16_code 165 = .ok (.iconst 1, 1) := by decide +kernel
theorem dM_liesIn_166 : decode prog_13_method_16_code 166 = .ok (.goto 4, 3) := by decide +kernel
theorem dM_liesIn_169 : decode prog_13_method_16_code 169 = .ok (.iconst 0, 1) := by decide +kernel
theorem dM_liesIn_170 : decode prog_13_method_16_code 170 = .ok (.istore 13, 2) := by decide +kernel
theorem dM_liesIn_172 : decode prog_13_method_16_code 172 = .ok (.iload 12, 2) := by decide +kernel
theorem dM_liesIn_174 : decode prog_13_method_16_code 174 = .ok (.ifCond .ne 10, 3) := by decide +kernel
theorem dM_liesIn_177 : decode prog_13_method_16_code 177 = .ok (.iload 13, 2) := by decide +kernel
theorem dM_liesIn_179 : decode prog_13_method_16_code 179 = .ok (.ifCond .eq 5, 3) := by decide +kernel
theorem dM_liesIn_182 : decode prog_13_method_16_code 182 = .ok (.iconst 1, 1) := by decide +kernel
theorem dM_liesIn_183 : decode prog_13_method_16_code 183 = .ok (.ireturn, 1) := by decide +kernel
theorem dM_liesIn_184 : decode prog_13_method_16_code 184 = .ok (.iload 9, 2) := by decide +kernel
theorem dM_liesIn_186 : decode prog_13_method_16_code 186 = .ok (.iload_n 3, 1) := by decide +kernel
theorem dM_liesIn_187 : decode prog_13_method_16_code 187 = .ok (.if_icmp .le 7, 3) := by decide +kernel
theorem dM_liesIn_190 : decode prog_13_method_16_code 190 = .ok (.iconst 1, 1) := by decide +kernel
theorem dM_liesIn_191 : decode prog_13_method_16_code 191 = .ok (.goto 4, 3) := by decide +kernel
theorem dM_liesIn_194 : decode prog_13_method_16_code 194 = .ok (.iconst 0, 1) := by decide +kernel
theorem dM_liesIn_195 : decode prog_13_method_16_code 195 = .ok (.iload 11, 2) := by decide +kernel
theorem dM_liesIn_197 : decode prog_13_method_16_code 197 = .ok (.iload_n 3, 1) := by decide +kernel
theorem dM_liesIn_198 : decode prog_13_method_16_code 198 = .ok (.if_icmp .le 7, 3) := by decide +kernel
theorem dM_liesIn_201 : decode prog_13_method_16_code 201 = .ok (.iconst 1, 1) := by decide +kernel
theorem dM_liesIn_202 : decode prog_13_method_16_code 202 = .ok (.goto 4, 3) := by decide +kernel
theorem dM_liesIn_205 : decode prog_13_method_16_code 205 = .ok (.iconst 0, 1) := by decide +kernel
theorem dM_liesIn_206 : decode prog_13_method_16_code 206 = .ok (.if_icmp .eq 35, 3) := by decide +kernel
theorem dM_liesIn_209 : decode prog_13_method_16_code 209 = .ok (.iload 11, 2) := by decide +kernel
theorem dM_liesIn_211 : decode prog_13_method_16_code 211 = .ok (.iload 9, 2) := by decide +kernel
theorem dM_liesIn_213 : decode prog_13_method_16_code 213 = .ok (.if_icmp .le 11, 3) := by decide +kernel
theorem dM_liesIn_216 : decode prog_13_method_16_code 216 = .ok (.iload 12, 2) := by decide +kernel
theorem dM_liesIn_218 : decode prog_13_method_16_code 218 = .ok (.ifCond .le 23, 3) := by decide +kernel
theorem dM_liesIn_221 : decode prog_13_method_16_code 221 = .ok (.goto 8, 3) := by decide +kernel
theorem dM_liesIn_224 : decode prog_13_method_16_code 224 = .ok (.iload 12, 2) := by decide +kernel
theorem dM_liesIn_226 : decode prog_13_method_16_code 226 = .ok (.ifCond .ge 15, 3) := by decide +kernel
theorem dM_liesIn_229 : decode prog_13_method_16_code 229 = .ok (.iload 4, 2) := by decide +kernel
theorem dM_liesIn_231 : decode prog_13_method_16_code 231 = .ok (.ifCond .ne 7, 3) := by decide +kernel
theorem dM_liesIn_234 : decode prog_13_method_16_code 234 = .ok (.iconst 1, 1) := by decide +kernel
theorem dM_liesIn_235 : decode prog_13_method_16_code 235 = .ok (.goto 4, 3) := by decide +kernel
theorem dM_liesIn_238 : decode prog_13_method_16_code 238 = .ok (.iconst 0, 1) := by decide +kernel
theorem dM_liesIn_239 : decode prog_13_method_16_code 239 = .ok (.istore 4, 2) := by decide +kernel
theorem dM_liesIn_241 : decode prog_13_method_16_code 241 = .ok (.iinc 5 1, 3) := by decide +kernel
theorem dM_liesIn_244 : decode prog_13_method_16_code 244 = .ok (.goto (-238), 3) := by decide +kernel
theorem dM_liesIn_247 : decode prog_13_method_16_code 247 = .ok (.iload 4, 2) := by decide +kernel
theorem dM_liesIn_249 : decode prog_13_method_16_code 249 = .ok (.ireturn, 1) := by decide +kernel
theorem dM_holds_0 : decode prog_13_method_17_code 0 = .ok (.aload_n 0, 1) := by decide +kernel
theorem dM_holds_1 : decode prog_13_method_17_code 1 = .ok (.aload_n 0, 1) := by decide +kernel
theorem dM_holds_2 : decode prog_13_method_17_code 2 = .ok (.iload_n 1, 1) := by decide +kernel
theorem dM_holds_3 : decode prog_13_method_17_code 3 = .ok (.invokevirtual 154, 3) := by decide +kernel
theorem dM_holds_6 : decode prog_13_method_17_code 6 = .ok (.ifCond .eq 19, 3) := by decide +kernel
theorem dM_holds_9 : decode prog_13_method_17_code 9 = .ok (.iload_n 2, 1) := by decide +kernel
theorem dM_holds_10 : decode prog_13_method_17_code 10 = .ok (.iload_n 3, 1) := by decide +kernel
theorem dM_holds_11 : decode prog_13_method_17_code 11 = .ok (.invokestatic 147, 3) := by decide +kernel
theorem dM_holds_14 : decode prog_13_method_17_code 14 = .ok (.ifCond .eq 11, 3) := by decide +kernel
theorem dM_holds_17 : decode prog_13_method_17_code 17 = .ok (.iload 4, 2) := by decide +kernel
theorem dM_holds_19 : decode prog_13_method_17_code 19 = .ok (.invokestatic 143, 3) := by decide +kernel
theorem dM_holds_22 : decode prog_13_method_17_code 22 = .ok (.ifCond .ne 7, 3) := by decide +kernel
theorem dM_holds_25 : decode prog_13_method_17_code 25 = .ok (.iconst 1, 1) := by decide +kernel
theorem dM_holds_26 : decode prog_13_method_17_code 26 = .ok (.goto 4, 3) := by decide +kernel
theorem dM_holds_29 : decode prog_13_method_17_code 29 = .ok (.iconst 0, 1) := by decide +kernel
theorem dM_holds_30 : decode prog_13_method_17_code 30 = .ok (.putfield 132, 3) := by decide +kernel
theorem dM_holds_33 : decode prog_13_method_17_code 33 = .ok (.aload_n 0, 1) := by decide +kernel
theorem dM_holds_34 : decode prog_13_method_17_code 34 = .ok (.getfield 132, 3) := by decide +kernel
theorem dM_holds_37 : decode prog_13_method_17_code 37 = .ok (.ifCond .le 5, 3) := by decide +kernel
theorem dM_holds_40 : decode prog_13_method_17_code 40 = .ok (.iconst 0, 1) := by decide +kernel
theorem dM_holds_41 : decode prog_13_method_17_code 41 = .ok (.ireturn, 1) := by decide +kernel
theorem dM_holds_42 : decode prog_13_method_17_code 42 = .ok (.aload_n 0, 1) := by decide +kernel
theorem dM_holds_43 : decode prog_13_method_17_code 43 = .ok (.iload_n 1, 1) := by decide +kernel
theorem dM_holds_44 : decode prog_13_method_17_code 44 = .ok (.iload 4, 2) := by decide +kernel
theorem dM_holds_46 : decode prog_13_method_17_code 46 = .ok (.invokevirtual 161, 3) := by decide +kernel
theorem dM_holds_49 : decode prog_13_method_17_code 49 = .ok (.istore 5, 2) := by decide +kernel
theorem dM_holds_51 : decode prog_13_method_17_code 51 = .ok (.iload 5, 2) := by decide +kernel
theorem dM_holds_53 : decode prog_13_method_17_code 53 = .ok (.iconst (-1), 1) := by decide +kernel
theorem dM_holds_54 : decode prog_13_method_17_code 54 = .ok (.if_icmp .eq 14, 3) := by decide +kernel
theorem dM_holds_57 : decode prog_13_method_17_code 57 = .ok (.aload_n 0, 1) := by decide +kernel
theorem dM_holds_58 : decode prog_13_method_17_code 58 = .ok (.getfield 22, 3) := by decide +kernel
theorem dM_holds_61 : decode prog_13_method_17_code 61 = .ok (.iload 5, 2) := by decide +kernel
theorem dM_holds_63 : decode prog_13_method_17_code 63 = .ok (.iaload, 1) := by decide +kernel
theorem dM_holds_64 : decode prog_13_method_17_code 64 = .ok (.iconst 1, 1) := by decide +kernel
theorem dM_holds_65 : decode prog_13_method_17_code 65 = .ok (.if_icmp .ne 7, 3) := by decide +kernel
theorem dM_holds_68 : decode prog_13_method_17_code 68 = .ok (.iconst (-1), 1) := by decide +kernel
theorem dM_holds_69 : decode prog_13_method_17_code 69 = .ok (.goto 19, 3) := by decide +kernel
theorem dM_holds_72 : decode prog_13_method_17_code 72 = .ok (.aload_n 0, 1) := by decide +kernel
theorem dM_holds_73 : decode prog_13_method_17_code 73 = .ok (.iload 5, 2) := by decide +kernel
theorem dM_holds_75 : decode prog_13_method_17_code 75 = .ok (.iload_n 2, 1) := by decide +kernel
theorem dM_holds_76 : decode prog_13_method_17_code 76 = .ok (.iload_n 3, 1) := by decide +kernel
theorem dM_holds_77 : decode prog_13_method_17_code 77 = .ok (.invokevirtual 169, 3) := by decide +kernel
theorem dM_holds_80 : decode prog_13_method_17_code 80 = .ok (.ifCond .eq 7, 3) := by decide +kernel
theorem dM_holds_83 : decode prog_13_method_17_code 83 = .ok (.iconst 1, 1) := by decide +kernel
theorem dM_holds_84 : decode prog_13_method_17_code 84 = .ok (.goto 4, 3) := by decide +kernel
theorem dM_holds_87 : decode prog_13_method_17_code 87 = .ok (.iconst 0, 1) := by decide +kernel
theorem dM_holds_88 : decode prog_13_method_17_code 88 = .ok (.ireturn, 1) := by decide +kernel
theorem dM_letter_0 : decode prog_13_method_18_code 0 = .ok (.aload_n 0, 1) := by decide +kernel
theorem dM_letter_1 : decode prog_13_method_18_code 1 = .ok (.iconst 0, 1) := by decide +kernel
theorem dM_letter_2 : decode prog_13_method_18_code 2 = .ok (.putfield 132, 3) := by decide +kernel
theorem dM_letter_5 : decode prog_13_method_18_code 5 = .ok (.iload_n 1, 1) := by decide +kernel
theorem dM_letter_6 : decode prog_13_method_18_code 6 = .ok (.bipush 97, 2) := by decide +kernel
theorem dM_letter_8 : decode prog_13_method_18_code 8 = .ok (.if_icmp .lt 18, 3) := by decide +kernel
theorem dM_letter_11 : decode prog_13_method_18_code 11 = .ok (.iload_n 1, 1) := by decide +kernel
theorem dM_letter_12 : decode prog_13_method_18_code 12 = .ok (.bipush 122, 2) := by decide +kernel
theorem dM_letter_14 : decode prog_13_method_18_code 14 = .ok (.if_icmp .gt 12, 3) := by decide +kernel
theorem dM_letter_17 : decode prog_13_method_18_code 17 = .ok (.aload_n 0, 1) := by decide +kernel
theorem dM_letter_18 : decode prog_13_method_18_code 18 = .ok (.getfield 172, 3) := by decide +kernel
theorem dM_letter_21 : decode prog_13_method_18_code 21 = .ok (.bipush 10, 2) := by decide +kernel
theorem dM_letter_23 : decode prog_13_method_18_code 23 = .ok (.if_icmp .ne 5, 3) := by decide +kernel
theorem dM_letter_26 : decode prog_13_method_18_code 26 = .ok (.iconst 0, 1) := by decide +kernel
theorem dM_letter_27 : decode prog_13_method_18_code 27 = .ok (.ireturn, 1) := by decide +kernel
theorem dM_letter_28 : decode prog_13_method_18_code 28 = .ok (.aload_n 0, 1) := by decide +kernel
theorem dM_letter_29 : decode prog_13_method_18_code 29 = .ok (.getfield 64, 3) := by decide +kernel
theorem dM_letter_32 : decode prog_13_method_18_code 32 = .ok (.aload_n 0, 1) := by decide +kernel
theorem dM_letter_33 : decode prog_13_method_18_code 33 = .ok (.getfield 172, 3) := by decide +kernel
theorem dM_letter_36 : decode prog_13_method_18_code 36 = .ok (.iload_n 1, 1) := by decide +kernel
theorem dM_letter_37 : decode prog_13_method_18_code 37 = .ok (.iastore, 1) := by decide +kernel
theorem dM_letter_38 : decode prog_13_method_18_code 38 = .ok (.aload_n 0, 1) := by decide +kernel
theorem dM_letter_39 : decode prog_13_method_18_code 39 = .ok (.dup, 1) := by decide +kernel
theorem dM_letter_40 : decode prog_13_method_18_code 40 = .ok (.getfield 172, 3) := by decide +kernel
theorem dM_letter_43 : decode prog_13_method_18_code 43 = .ok (.iconst 1, 1) := by decide +kernel
theorem dM_letter_44 : decode prog_13_method_18_code 44 = .ok (.iadd, 1) := by decide +kernel
theorem dM_letter_45 : decode prog_13_method_18_code 45 = .ok (.putfield 172, 3) := by decide +kernel
theorem dM_letter_48 : decode prog_13_method_18_code 48 = .ok (.iconst 1, 1) := by decide +kernel
theorem dM_letter_49 : decode prog_13_method_18_code 49 = .ok (.ireturn, 1) := by decide +kernel
theorem dM_typedAt_0 : decode prog_13_method_19_code 0 = .ok (.iload_n 1, 1) := by decide +kernel
theorem dM_typedAt_1 : decode prog_13_method_19_code 1 = .ok (.aload_n 0, 1) := by decide +kernel
theorem dM_typedAt_2 : decode prog_13_method_19_code 2 = .ok (.getfield 172, 3) := by decide +kernel
theorem dM_typedAt_5 : decode prog_13_method_19_code 5 = .ok (.if_icmp .ge 12, 3) := by decide +kernel
theorem dM_typedAt_8 : decode prog_13_method_19_code 8 = .ok (.aload_n 0, 1) := by decide +kernel
theorem dM_typedAt_9 : decode prog_13_method_19_code 9 = .ok (.getfield 64, 3) := by decide +kernel
theorem dM_typedAt_12 : decode prog_13_method_19_code 12 = .ok (.iload_n 1, 1) := by decide +kernel
theorem dM_typedAt_13 : decode prog_13_method_19_code 13 = .ok (.iaload, 1) := by decide +kernel
theorem dM_typedAt_14 : decode prog_13_method_19_code 14 = .ok (.goto 4, 3) := by decide +kernel
theorem dM_typedAt_17 : decode prog_13_method_19_code 17 = .ok (.iconst 0, 1) := by decide +kernel
theorem dM_typedAt_18 : decode prog_13_method_19_code 18 = .ok (.ireturn, 1) := by decide +kernel
theorem dM_pairAt_0 : decode prog_13_method_20_code 0 = .ok (.aload_n 0, 1) := by decide +kernel
theorem dM_pairAt_1 : decode prog_13_method_20_code 1 = .ok (.iload_n 1, 1) := by decide +kernel
theorem dM_pairAt_2 : decode prog_13_method_20_code 2 = .ok (.invokevirtual 175, 3) := by decide +kernel
theorem dM_pairAt_5 : decode prog_13_method_20_code 5 = .ok (.istore_n 2, 1) := by decide +kernel
theorem dM_pairAt_6 : decode prog_13_method_20_code 6 = .ok (.aload_n 0, 1) := by decide +kernel
theorem dM_pairAt_7 : decode prog_13_method_20_code 7 = .ok (.iload_n 1, 1) := by decide +kernel
theorem dM_pairAt_8 : decode prog_13_method_20_code 8 = .ok (.iconst 1, 1) := by decide +kernel
theorem dM_pairAt_9 : decode prog_13_method_20_code 9 = .ok (.iadd, 1) := by decide +kernel
theorem dM_pairAt_10 : decode prog_13_method_20_code 10 = .ok (.invokevirtual 175, 3) := by decide +kernel
theorem dM_pairAt_13 : decode prog_13_method_20_code 13 = .ok (.istore_n 3, 1) := by decide +kernel
theorem dM_pairAt_14 : decode prog_13_method_20_code 14 = .ok (.iload_n 2, 1) := by decide +kernel
theorem dM_pairAt_15 : decode prog_13_method_20_code 15 = .ok (.bipush 112, 2) := by decide +kernel
theorem dM_pairAt_17 : decode prog_13_method_20_code 17 = .ok (.if_icmp .ne 12, 3) := by decide +kernel
theorem dM_pairAt_20 : decode prog_13_method_20_code 20 = .ok (.iload_n 3, 1) := by decide +kernel
theorem dM_pairAt_21 : decode prog_13_method_20_code 21 = .ok (.bipush 104, 2) := by decide +kernel
theorem dM_pairAt_23 : decode prog_13_method_20_code 23 = .ok (.if_icmp .ne 6, 3) := by decide +kernel
theorem dM_pairAt_26 : decode prog_13_method_20_code 26 = .ok (.bipush 102, 2) := by decide +kernel
theorem dM_pairAt_28 : decode prog_13_method_20_code 28 = .ok (.ireturn, 1) := by decide +kernel
theorem dM_pairAt_29 : decode prog_13_method_20_code 29 = .ok (.iload_n 2, 1) := by decide +kernel
theorem dM_pairAt_30 : decode prog_13_method_20_code 30 = .ok (.bipush 99, 2) := by decide +kernel
theorem dM_pairAt_32 : decode prog_13_method_20_code 32 = .ok (.if_icmp .ne 9, 3) := by decide +kernel
theorem dM_pairAt_35 : decode prog_13_method_20_code 35 = .ok (.iload_n 3, 1) := by decide +kernel
theorem dM_pairAt_36 : decode prog_13_method_20_code 36 = .ok (.bipush 107, 2) := by decide +kernel
theorem dM_pairAt_38 : decode prog_13_method_20_code 38 = .ok (.if_icmp .eq 15, 3) := by decide +kernel
theorem dM_pairAt_41 : decode prog_13_method_20_code 41 = .ok (.iload_n 2, 1) := by decide +kernel
theorem dM_pairAt_42 : decode prog_13_method_20_code 42 = .ok (.bipush 113, 2) := by decide +kernel
theorem dM_pairAt_44 : decode prog_13_method_20_code 44 = .ok (.if_icmp .ne 12, 3) := by decide +kernel
theorem dM_pairAt_47 : decode prog_13_method_20_code 47 = .ok (.iload_n 3, 1) := by decide +kernel
theorem dM_pairAt_48 : decode prog_13_method_20_code 48 = .ok (.bipush 117, 2) := by decide +kernel
theorem dM_pairAt_50 : decode prog_13_method_20_code 50 = .ok (.if_icmp .ne 6, 3) := by decide +kernel
theorem dM_pairAt_53 : decode prog_13_method_20_code 53 = .ok (.bipush 107, 2) := by decide +kernel
theorem dM_pairAt_55 : decode prog_13_method_20_code 55 = .ok (.ireturn, 1) := by decide +kernel
theorem dM_pairAt_56 : decode prog_13_method_20_code 56 = .ok (.iload_n 2, 1) := by decide +kernel
theorem dM_pairAt_57 : decode prog_13_method_20_code 57 = .ok (.bipush 116, 2) := by decide +kernel
theorem dM_pairAt_59 : decode prog_13_method_20_code 59 = .ok (.if_icmp .ne 14, 3) := by decide +kernel
theorem dM_pairAt_62 : decode prog_13_method_20_code 62 = .ok (.iload_n 3, 1) := by decide +kernel
theorem dM_pairAt_63 : decode prog_13_method_20_code 63 = .ok (.bipush 104, 2) := by decide +kernel
theorem dM_pairAt_65 : decode prog_13_method_20_code 65 = .ok (.if_icmp .ne 8, 3) := by decide +kernel
theorem dM_pairAt_68 : decode prog_13_method_20_code 68 = .ok (.bipush 116, 2) := by decide +kernel
theorem dM_pairAt_70 : decode prog_13_method_20_code 70 = .ok (.goto 4, 3) := by decide +kernel
theorem dM_pairAt_73 : decode prog_13_method_20_code 73 = .ok (.iconst 0, 1) := by decide +kernel
theorem dM_pairAt_74 : decode prog_13_method_20_code 74 = .ok (.ireturn, 1) := by decide +kernel
theorem dM_foldTyped_0 : decode prog_13_method_21_code 0 = .ok (.aload_n 0, 1) := by decide +kernel
theorem dM_foldTyped_1 : decode prog_13_method_21_code 1 = .ok (.iconst 0, 1) := by decide +kernel
theorem dM_foldTyped_2 : decode prog_13_method_21_code 2 = .ok (.putfield 179, 3) := by decide +kernel
theorem dM_foldTyped_5 : decode prog_13_method_21_code 5 = .ok (.iconst 0, 1) := by decide +kernel
theorem dM_foldTyped_6 : decode prog_13_method_21_code 6 = .ok (.istore_n 1, 1) := by decide +kernel
theorem dM_foldTyped_7 : decode prog_13_method_21_code 7 = .ok (.iload_n 1, 1) := by decide +kernel
theorem dM_foldTyped_8 : decode prog_13_method_21_code 8 = .ok (.aload_n 0, 1) := by decide +kernel
theorem dM_foldTyped_9 : decode prog_13_method_21_code 9 = .ok (.getfield 172, 3) := by decide +kernel
theorem dM_foldTyped_12 : decode prog_13_method_21_code 12 = .ok (.if_icmp .ge 90, 3) := by decide +kernel
theorem dM_foldTyped_15 : decode prog_13_method_21_code 15 = .ok (.aload_n 0, 1) := by decide +kernel
theorem dM_foldTyped_16 : decode prog_13_method_21_code 16 = .ok (.iload_n 1, 1) := by decide +kernel
theorem dM_foldTyped_17 : decode prog_13_method_21_code 17 = .ok (.invokevirtual 182, 3) := by decide +kernel
theorem dM_foldTyped_20 : decode prog_13_method_21_code 20 = .ok (.istore_n 2, 1) := by decide +kernel
theorem dM_foldTyped_21 : decode prog_13_method_21_code 21 = .ok (.iload_n 1, 1) := by decide +kernel
theorem dM_foldTyped_22 : decode prog_13_method_21_code 22 = .ok (.iconst 2, 1) := by decide +kernel
theorem dM_foldTyped_23 : decode prog_13_method_21_code 23 = .ok (.iadd, 1) := by decide +kernel
theorem dM_foldTyped_24 : decode prog_13_method_21_code 24 = .ok (.istore_n 3, 1) := by decide +kernel
theorem dM_foldTyped_25 : decode prog_13_method_21_code 25 = .ok (.iload_n 2, 1) := by decide +kernel
theorem dM_foldTyped_26 : decode prog_13_method_21_code 26 = .ok (.ifCond .ne 29, 3) := by decide +kernel
theorem dM_foldTyped_29 : decode prog_13_method_21_code 29 = .ok (.aload_n 0, 1) := by decide +kernel
theorem dM_foldTyped_30 : decode prog_13_method_21_code 30 = .ok (.getfield 64, 3) := by decide +kernel
theorem dM_foldTyped_33 : decode prog_13_method_21_code 33 = .ok (.iload_n 1, 1) := by decide +kernel
theorem dM_foldTyped_34 : decode prog_13_method_21_code 34 = .ok (.iaload, 1) := by decide +kernel
theorem dM_foldTyped_35 : decode prog_13_method_21_code 35 = .ok (.istore_n 2, 1) := by decide +kernel
theorem dM_foldTyped_36 : decode prog_13_method_21_code 36 = .ok (.iload_n 1, 1) := by decide +kernel
theorem dM_foldTyped_37 : decode prog_13_method_21_code 37 = .ok (.iconst 1, 1) := by decide +kernel
theorem dM_foldTyped_38 : decode prog_13_method_21_code 38 = .ok (.iadd, 1) := by decide +kernel
theorem dM_foldTyped_39 : decode prog_13_method_21_code 39 = .ok (.istore_n 3, 1) := by decide +kernel
theorem dM_foldTyped_40 : decode prog_13_method_21_code 40 = .ok (.aload_n 0, 1) := by decide +kernel
theorem dM_foldTyped_41 : decode prog_13_method_21_code 41 = .ok (.iload_n 3, 1) := by decide +kernel
theorem dM_foldTyped_42 : decode prog_13_method_21_code 42 = .ok (.invokevirtual 175, 3) := by decide +kernel
theorem dM_foldTyped_45 : decode prog_13_method_21_code 45 = .ok (.iload_n 2, 1) := by decide +kernel
theorem dM_foldTyped_46 : decode prog_13_method_21_code 46 = .ok (.if_icmp .ne 9, 3) := by decide +kernel
theorem dM_foldTyped_49 : decode prog_13_method_21_code 49 = .ok (.iinc 3 1, 3) := by decide +kernel
theorem dM_foldTyped_52 : decode prog_13_method_21_code 52 = .ok (.goto (-12), 3) := by decide +kernel
theorem dM_foldTyped_55 : decode prog_13_method_21_code 55 = .ok (.aload_n 0, 1) := by decide +kernel
theorem dM_foldTyped_56 : decode prog_13_method_21_code 56 = .ok (.getfield 179, 3) := by decide +kernel
theorem dM_foldTyped_59 : decode prog_13_method_21_code 59 = .ok (.ifCond .eq 18, 3) := by decide +kernel
theorem dM_foldTyped_62 : decode prog_13_method_21_code 62 = .ok (.aload_n 0, 1) := by decide +kernel
theorem dM_foldTyped_63 : decode prog_13_method_21_code 63 = .ok (.getfield 110, 3) := by decide +kernel
theorem dM_foldTyped_66 : decode prog_13_method_21_code 66 = .ok (.aload_n 0, 1) := by decide +kernel
theorem dM_foldTyped_67 : decode prog_13_method_21_code 67 = .ok (.getfield 179, 3) := by decide +kernel
theorem dM_foldTyped_70 : decode prog_13_method_21_code 70 = .ok (.iconst 1, 1) := by decide +kernel
theorem dM_foldTyped_71 : decode prog_13_method_21_code 71 = .ok (.isub, 1) := by decide +kernel
theorem dM_foldTyped_72 : decode prog_13_method_21_code 72 = .ok (.iaload, 1) := by decide +kernel
theorem dM_foldTyped_73 : decode prog_13_method_21_code 73 = .ok (.iload_n 2, 1) := by decide +kernel
theorem dM_foldTyped_74 : decode prog_13_method_21_code 74 = .ok (.if_icmp .eq 23, 3) := by decide +kernel
theorem dM_foldTyped_77 : decode prog_13_method_21_code 77 = .ok (.aload_n 0, 1) := by decide +kernel
theorem dM_foldTyped_78 : decode prog_13_method_21_code 78 = .ok (.getfield 110, 3) := by decide +kernel
theorem dM_foldTyped_81 : decode prog_13_method_21_code 81 = .ok (.aload_n 0, 1) := by decide +kernel
theorem dM_foldTyped_82 : decode prog_13_method_21_code 82 = .ok (.getfield 179, 3) := by decide +kernel
theorem dM_foldTyped_85 : decode prog_13_method_21_code 85 = .ok (.iload_n 2, 1) := by decide +kernel
theorem dM_foldTyped_86 : decode prog_13_method_21_code 86 = .ok (.iastore, 1) := by decide +kernel
theorem dM_foldTyped_87 : decode prog_13_method_21_code 87 = .ok (.aload_n 0, 1) := by decide +kernel
theorem dM_foldTyped_88 : decode prog_13_method_21_code 88 = .ok (.dup, 1) := by decide +kernel
theorem dM_foldTyped_89 : decode prog_13_method_21_code 89 = .ok (.getfield 179, 3) := by decide +kernel
theorem dM_foldTyped_92 : decode prog_13_method_21_code 92 = .ok (.iconst 1, 1) := by decide +kernel
theorem dM_foldTyped_93 : decode prog_13_method_21_code 93 = .ok (.iadd, 1) := by decide +kernel
theorem dM_foldTyped_94 : decode prog_13_method_21_code 94 = .ok (.putfield 179, 3) := by decide +kernel
theorem dM_foldTyped_97 : decode prog_13_method_21_code 97 = .ok (.iload_n 3, 1) := by decide +kernel
theorem dM_foldTyped_98 : decode prog_13_method_21_code 98 = .ok (.istore_n 1, 1) := by decide +kernel
theorem dM_foldTyped_99 : decode prog_13_method_21_code 99 = .ok (.goto (-92), 3) := by decide +kernel
theorem dM_foldTyped_102 : decode prog_13_method_21_code 102 = .ok (.return_, 1) := by decide +kernel
theorem dM_foldName_0 : decode prog_13_method_22_code 0 = .ok (.aload_n 0, 1) := by decide +kernel
theorem dM_foldName_1 : decode prog_13_method_22_code 1 = .ok (.aload_n 0, 1) := by decide +kernel
theorem dM_foldName_2 : decode prog_13_method_22_code 2 = .ok (.getfield 40, 3) := by decide +kernel
theorem dM_foldName_5 : decode prog_13_method_22_code 5 = .ok (.iload_n 1, 1) := by decide +kernel
