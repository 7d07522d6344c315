theorem dM_condition_234 : decode prog_13_method_34_code 234 = .ok (.if_icmp .ge 61, 3) := by decide +kernel
theorem dM_condition_237 : decode prog_13_method_34_code 237 = .ok (.aload_n 0, 1) := by decide +kernel
theorem dM_condition_238 : decode prog_13_method_34_code 238 = .ok (.invokevirtual 188, 3) := by decide +kernel
theorem dM_condition_241 : decode prog_13_method_34_code 241 = .ok (.aload_n 0, 1) := by decide +kernel
theorem dM_condition_242 : decode prog_13_method_34_code 242 = .ok (.getfield 82, 3) := by decide +kernel
theorem dM_condition_245 : decode prog_13_method_34_code 245 = .ok (.iload 6, 2) := by decide +kernel
theorem dM_condition_247 : decode prog_13_method_34_code 247 = .ok (.aload_n 0, 1) := by decide +kernel
theorem dM_condition_248 : decode prog_13_method_34_code 248 = .ok (.getfield 179, 3) := by decide +kernel
theorem dM_condition_251 : decode prog_13_method_34_code 251 = .ok (.iastore, 1) := by decide +kernel
theorem dM_condition_252 : decode prog_13_method_34_code 252 = .ok (.iconst 0, 1) := by decide +kernel
theorem dM_condition_253 : decode prog_13_method_34_code 253 = .ok (.istore 7, 2) := by decide +kernel
theorem dM_condition_255 : decode prog_13_method_34_code 255 = .ok (.iload 7, 2) := by decide +kernel
theorem dM_condition_257 : decode prog_13_method_34_code 257 = .ok (.aload_n 0, 1) := by decide +kernel
theorem dM_condition_258 : decode prog_13_method_34_code 258 = .ok (.getfield 179, 3) := by decide +kernel
theorem dM_condition_261 : decode prog_13_method_34_code 261 = .ok (.if_icmp .ge 29, 3) := by decide +kernel
theorem dM_condition_264 : decode prog_13_method_34_code 264 = .ok (.aload_n 0, 1) := by decide +kernel
theorem dM_condition_265 : decode prog_13_method_34_code 265 = .ok (.getfield 85, 3) := by decide +kernel
theorem dM_condition_268 : decode prog_13_method_34_code 268 = .ok (.bipush 10, 2) := by decide +kernel
theorem dM_condition_270 : decode prog_13_method_34_code 270 = .ok (.iload 6, 2) := by decide +kernel
theorem dM_condition_272 : decode prog_13_method_34_code 272 = .ok (.imul, 1) := by decide +kernel
theorem dM_condition_273 : decode prog_13_method_34_code 273 = .ok (.iload 7, 2) := by decide +kernel
theorem dM_condition_275 : decode prog_13_method_34_code 275 = .ok (.iadd, 1) := by decide +kernel
theorem dM_condition_276 : decode prog_13_method_34_code 276 = .ok (.aload_n 0, 1) := by decide +kernel
theorem dM_condition_277 : decode prog_13_method_34_code 277 = .ok (.getfield 110, 3) := by decide +kernel
theorem dM_condition_280 : decode prog_13_method_34_code 280 = .ok (.iload 7, 2) := by decide +kernel
theorem dM_condition_282 : decode prog_13_method_34_code 282 = .ok (.iaload, 1) := by decide +kernel
theorem dM_condition_283 : decode prog_13_method_34_code 283 = .ok (.iastore, 1) := by decide +kernel
theorem dM_condition_284 : decode prog_13_method_34_code 284 = .ok (.iinc 7 1, 3) := by decide +kernel
theorem dM_condition_287 : decode prog_13_method_34_code 287 = .ok (.goto (-32), 3) := by decide +kernel
theorem dM_condition_290 : decode prog_13_method_34_code 290 = .ok (.aload_n 0, 1) := by decide +kernel
theorem dM_condition_291 : decode prog_13_method_34_code 291 = .ok (.iconst 0, 1) := by decide +kernel
theorem dM_condition_292 : decode prog_13_method_34_code 292 = .ok (.putfield 172, 3) := by decide +kernel
theorem dM_condition_295 : decode prog_13_method_34_code 295 = .ok (.aload_n 0, 1) := by decide +kernel
theorem dM_condition_296 : decode prog_13_method_34_code 296 = .ok (.getfield 67, 3) := by decide +kernel
theorem dM_condition_299 : decode prog_13_method_34_code 299 = .ok (.iconst 0, 1) := by decide +kernel
theorem dM_condition_300 : decode prog_13_method_34_code 300 = .ok (.iaload, 1) := by decide +kernel
theorem dM_condition_301 : decode prog_13_method_34_code 301 = .ok (.ireturn, 1) := by decide +kernel
theorem dM_clear_0 : decode prog_13_method_35_code 0 = .ok (.aload_n 0, 1) := by decide +kernel
theorem dM_clear_1 : decode prog_13_method_35_code 1 = .ok (.iconst 0, 1) := by decide +kernel
theorem dM_clear_2 : decode prog_13_method_35_code 2 = .ok (.putfield 132, 3) := by decide +kernel
theorem dM_clear_5 : decode prog_13_method_35_code 5 = .ok (.aload_n 0, 1) := by decide +kernel
theorem dM_clear_6 : decode prog_13_method_35_code 6 = .ok (.getfield 67, 3) := by decide +kernel
theorem dM_clear_9 : decode prog_13_method_35_code 9 = .ok (.iconst 0, 1) := by decide +kernel
theorem dM_clear_10 : decode prog_13_method_35_code 10 = .ok (.iconst 0, 1) := by decide +kernel
theorem dM_clear_11 : decode prog_13_method_35_code 11 = .ok (.iastore, 1) := by decide +kernel
theorem dM_clear_12 : decode prog_13_method_35_code 12 = .ok (.return_, 1) := by decide +kernel
theorem dM_isNamed_0 : decode prog_13_method_36_code 0 = .ok (.aload_n 0, 1) := by decide +kernel
theorem dM_isNamed_1 : decode prog_13_method_36_code 1 = .ok (.getfield 70, 3) := by decide +kernel
theorem dM_isNamed_4 : decode prog_13_method_36_code 4 = .ok (.iload_n 2, 1) := by decide +kernel
theorem dM_isNamed_5 : decode prog_13_method_36_code 5 = .ok (.iaload, 1) := by decide +kernel
theorem dM_isNamed_6 : decode prog_13_method_36_code 6 = .ok (.istore_n 3, 1) := by decide +kernel
theorem dM_isNamed_7 : decode prog_13_method_36_code 7 = .ok (.aload_n 0, 1) := by decide +kernel
theorem dM_isNamed_8 : decode prog_13_method_36_code 8 = .ok (.getfield 82, 3) := by decide +kernel
theorem dM_isNamed_11 : decode prog_13_method_36_code 11 = .ok (.iload_n 2, 1) := by decide +kernel
theorem dM_isNamed_12 : decode prog_13_method_36_code 12 = .ok (.iaload, 1) := by decide +kernel
theorem dM_isNamed_13 : decode prog_13_method_36_code 13 = .ok (.istore 4, 2) := by decide +kernel
theorem dM_isNamed_15 : decode prog_13_method_36_code 15 = .ok (.aload_n 0, 1) := by decide +kernel
theorem dM_isNamed_16 : decode prog_13_method_36_code 16 = .ok (.iload_n 1, 1) := by decide +kernel
theorem dM_isNamed_17 : decode prog_13_method_36_code 17 = .ok (.invokevirtual 208, 3) := by decide +kernel
theorem dM_isNamed_20 : decode prog_13_method_36_code 20 = .ok (.iload_n 3, 1) := by decide +kernel
theorem dM_isNamed_21 : decode prog_13_method_36_code 21 = .ok (.iconst 2, 1) := by decide +kernel
theorem dM_isNamed_22 : decode prog_13_method_36_code 22 = .ok (.if_icmp .ne 32, 3) := by decide +kernel
theorem dM_isNamed_25 : decode prog_13_method_36_code 25 = .ok (.aload_n 0, 1) := by decide +kernel
theorem dM_isNamed_26 : decode prog_13_method_36_code 26 = .ok (.aload_n 0, 1) := by decide +kernel
theorem dM_isNamed_27 : decode prog_13_method_36_code 27 = .ok (.getfield 85, 3) := by decide +kernel
theorem dM_isNamed_30 : decode prog_13_method_36_code 30 = .ok (.bipush 10, 2) := by decide +kernel
theorem dM_isNamed_32 : decode prog_13_method_36_code 32 = .ok (.iload_n 2, 1) := by decide +kernel
theorem dM_isNamed_33 : decode prog_13_method_36_code 33 = .ok (.imul, 1) := by decide +kernel
theorem dM_isNamed_34 : decode prog_13_method_36_code 34 = .ok (.iload 4, 2) := by decide +kernel
theorem dM_isNamed_36 : decode prog_13_method_36_code 36 = .ok (.invokevirtual 198, 3) := by decide +kernel
theorem dM_isNamed_39 : decode prog_13_method_36_code 39 = .ok (.aload_n 0, 1) := by decide +kernel
theorem dM_isNamed_40 : decode prog_13_method_36_code 40 = .ok (.getfield 73, 3) := by decide +kernel
theorem dM_isNamed_43 : decode prog_13_method_36_code 43 = .ok (.iload_n 2, 1) := by decide +kernel
theorem dM_isNamed_44 : decode prog_13_method_36_code 44 = .ok (.iaload, 1) := by decide +kernel
theorem dM_isNamed_45 : decode prog_13_method_36_code 45 = .ok (.if_icmp .gt 7, 3) := by decide +kernel
theorem dM_isNamed_48 : decode prog_13_method_36_code 48 = .ok (.iconst 1, 1) := by decide +kernel
theorem dM_isNamed_49 : decode prog_13_method_36_code 49 = .ok (.goto 4, 3) := by decide +kernel
theorem dM_isNamed_52 : decode prog_13_method_36_code 52 = .ok (.iconst 0, 1) := by decide +kernel
theorem dM_isNamed_53 : decode prog_13_method_36_code 53 = .ok (.ireturn, 1) := by decide +kernel
theorem dM_isNamed_54 : decode prog_13_method_36_code 54 = .ok (.iload_n 3, 1) := by decide +kernel
theorem dM_isNamed_55 : decode prog_13_method_36_code 55 = .ok (.iconst 3, 1) := by decide +kernel
theorem dM_isNamed_56 : decode prog_13_method_36_code 56 = .ok (.if_icmp .ne 65, 3) := by decide +kernel
theorem dM_isNamed_59 : decode prog_13_method_36_code 59 = .ok (.aload_n 0, 1) := by decide +kernel
theorem dM_isNamed_60 : decode prog_13_method_36_code 60 = .ok (.invokevirtual 191, 3) := by decide +kernel
theorem dM_isNamed_63 : decode prog_13_method_36_code 63 = .ok (.istore 5, 2) := by decide +kernel
theorem dM_isNamed_65 : decode prog_13_method_36_code 65 = .ok (.aload_n 0, 1) := by decide +kernel
theorem dM_isNamed_66 : decode prog_13_method_36_code 66 = .ok (.iload 4, 2) := by decide +kernel
theorem dM_isNamed_68 : decode prog_13_method_36_code 68 = .ok (.putfield 179, 3) := by decide +kernel
theorem dM_isNamed_71 : decode prog_13_method_36_code 71 = .ok (.iconst 0, 1) := by decide +kernel
theorem dM_isNamed_72 : decode prog_13_method_36_code 72 = .ok (.istore 6, 2) := by decide +kernel
theorem dM_isNamed_74 : decode prog_13_method_36_code 74 = .ok (.iload 6, 2) := by decide +kernel
theorem dM_isNamed_76 : decode prog_13_method_36_code 76 = .ok (.iload 4, 2) := by decide +kernel
theorem dM_isNamed_78 : decode prog_13_method_36_code 78 = .ok (.if_icmp .ge 28, 3) := by decide +kernel
theorem dM_isNamed_81 : decode prog_13_method_36_code 81 = .ok (.aload_n 0, 1) := by decide +kernel
theorem dM_isNamed_82 : decode prog_13_method_36_code 82 = .ok (.getfield 110, 3) := by decide +kernel
theorem dM_isNamed_85 : decode prog_13_method_36_code 85 = .ok (.iload 6, 2) := by decide +kernel
theorem dM_isNamed_87 : decode prog_13_method_36_code 87 = .ok (.aload_n 0, 1) := by decide +kernel
theorem dM_isNamed_88 : decode prog_13_method_36_code 88 = .ok (.getfield 85, 3) := by decide +kernel
theorem dM_isNamed_91 : decode prog_13_method_36_code 91 = .ok (.bipush 10, 2) := by decide +kernel
theorem dM_isNamed_93 : decode prog_13_method_36_code 93 = .ok (.iload_n 2, 1) := by decide +kernel
theorem dM_isNamed_94 : decode prog_13_method_36_code 94 = .ok (.imul, 1) := by decide +kernel
theorem dM_isNamed_95 : decode prog_13_method_36_code 95 = .ok (.iload 6, 2) := by decide +kernel
theorem dM_isNamed_97 : decode prog_13_method_36_code 97 = .ok (.iadd, 1) := by decide +kernel
theorem dM_isNamed_98 : decode prog_13_method_36_code 98 = .ok (.iaload, 1) := by decide +kernel
theorem dM_isNamed_99 : decode prog_13_method_36_code 99 = .ok (.iastore, 1) := by decide +kernel
theorem dM_isNamed_100 : decode prog_13_method_36_code 100 = .ok (.iinc 6 1, 3) := by decide +kernel
theorem dM_isNamed_103 : decode prog_13_method_36_code 103 = .ok (.goto (-29), 3) := by decide +kernel
theorem dM_isNamed_106 : decode prog_13_method_36_code 106 = .ok (.aload_n 0, 1) := by decide +kernel
theorem dM_isNamed_107 : decode prog_13_method_36_code 107 = .ok (.invokevirtual 191, 3) := by decide +kernel
theorem dM_isNamed_110 : decode prog_13_method_36_code 110 = .ok (.iload 5, 2) := by decide +kernel
theorem dM_isNamed_112 : decode prog_13_method_36_code 112 = .ok (.if_icmp .ne 7, 3) := by decide +kernel
theorem dM_isNamed_115 : decode prog_13_method_36_code 115 = .ok (.iconst 1, 1) := by decide +kernel
theorem dM_isNamed_116 : decode prog_13_method_36_code 116 = .ok (.goto 4, 3) := by decide +kernel
theorem dM_isNamed_119 : decode prog_13_method_36_code 119 = .ok (.iconst 0, 1) := by decide +kernel
theorem dM_isNamed_120 : decode prog_13_method_36_code 120 = .ok (.ireturn, 1) := by decide +kernel
theorem dM_isNamed_121 : decode prog_13_method_36_code 121 = .ok (.iload_n 3, 1) := by decide +kernel
theorem dM_isNamed_122 : decode prog_13_method_36_code 122 = .ok (.ifCond .ne 20, 3) := by decide +kernel
theorem dM_isNamed_125 : decode prog_13_method_36_code 125 = .ok (.aload_n 0, 1) := by decide +kernel
theorem dM_isNamed_126 : decode prog_13_method_36_code 126 = .ok (.getfield 179, 3) := by decide +kernel
theorem dM_isNamed_129 : decode prog_13_method_36_code 129 = .ok (.iload 4, 2) := by decide +kernel
theorem dM_isNamed_131 : decode prog_13_method_36_code 131 = .ok (.if_icmp .ne 7, 3) := by decide +kernel
theorem dM_isNamed_134 : decode prog_13_method_36_code 134 = .ok (.iconst 1, 1) := by decide +kernel
theorem dM_isNamed_135 : decode prog_13_method_36_code 135 = .ok (.goto 21, 3) := by decide +kernel
theorem dM_isNamed_138 : decode prog_13_method_36_code 138 = .ok (.iconst 0, 1) := by decide +kernel
theorem dM_isNamed_139 : decode prog_13_method_36_code 139 = .ok (.goto 17, 3) := by decide +kernel
theorem dM_isNamed_142 : decode prog_13_method_36_code 142 = .ok (.aload_n 0, 1) := by decide +kernel
theorem dM_isNamed_143 : decode prog_13_method_36_code 143 = .ok (.getfield 179, 3) := by decide +kernel
theorem dM_isNamed_146 : decode prog_13_method_36_code 146 = .ok (.iload 4, 2) := by decide +kernel
theorem dM_isNamed_148 : decode prog_13_method_36_code 148 = .ok (.if_icmp .lt 7, 3) := by decide +kernel
theorem dM_isNamed_151 : decode prog_13_method_36_code 151 = .ok (.iconst 1, 1) := by decide +kernel
theorem dM_isNamed_152 : decode prog_13_method_36_code 152 = .ok (.goto 4, 3) := by decide +kernel
theorem dM_isNamed_155 : decode prog_13_method_36_code 155 = .ok (.iconst 0, 1) := by decide +kernel
theorem dM_isNamed_156 : decode prog_13_method_36_code 156 = .ok (.istore 5, 2) := by decide +kernel
theorem dM_isNamed_158 : decode prog_13_method_36_code 158 = .ok (.iconst 0, 1) := by decide +kernel
theorem dM_isNamed_159 : decode prog_13_method_36_code 159 = .ok (.istore 6, 2) := by decide +kernel
theorem dM_isNamed_161 : decode prog_13_method_36_code 161 = .ok (.iload 6, 2) := by decide +kernel
theorem dM_isNamed_163 : decode prog_13_method_36_code 163 = .ok (.iload 4, 2) := by decide +kernel
theorem dM_isNamed_165 : decode prog_13_method_36_code 165 = .ok (.if_icmp .ge 43, 3) := by decide +kernel
theorem dM_isNamed_168 : decode prog_13_method_36_code 168 = .ok (.iload 5, 2) := by decide +kernel
theorem dM_isNamed_170 : decode prog_13_method_36_code 170 = .ok (.ifCond .eq 38, 3) := by decide +kernel
theorem dM_isNamed_173 : decode prog_13_method_36_code 173 = .ok (.aload_n 0, 1) := by decide +kernel
theorem dM_isNamed_174 : decode prog_13_method_36_code 174 = .ok (.getfield 110, 3) := by decide +kernel
theorem dM_isNamed_177 : decode prog_13_method_36_code 177 = .ok (.iload 6, 2) := by decide +kernel
theorem dM_isNamed_179 : decode prog_13_method_36_code 179 = .ok (.iaload, 1) := by decide +kernel
theorem dM_isNamed_180 : decode prog_13_method_36_code 180 = .ok (.aload_n 0, 1) := by decide +kernel
theorem dM_isNamed_181 : decode prog_13_method_36_code 181 = .ok (.getfield 85, 3) := by decide +kernel
theorem dM_isNamed_184 : decode prog_13_method_36_code 184 = .ok (.bipush 10, 2) := by decide +kernel
theorem dM_isNamed_186 : decode prog_13_method_36_code 186 = .ok (.iload_n 2, 1) := by decide +kernel
theorem dM_isNamed_187 : decode prog_13_method_36_code 187 = .ok (.imul, 1) := by decide +kernel
theorem dM_isNamed_188 : decode prog_13_method_36_code 188 = .ok (.iload 6, 2) := by decide +kernel
theorem dM_isNamed_190 : decode prog_13_method_36_code 190 = .ok (.iadd, 1) := by decide +kernel
theorem dM_isNamed_191 : decode prog_13_method_36_code 191 = .ok (.iaload, 1) := by decide +kernel
theorem dM_isNamed_192 : decode prog_13_method_36_code 192 = .ok (.if_icmp .ne 7, 3) := by decide +kernel
theorem dM_isNamed_195 : decode prog_13_method_36_code 195 = .ok (.iconst 1, 1) := by decide +kernel
theorem dM_isNamed_196 : decode prog_13_method_36_code 196 = .ok (.goto 4, 3) := by decide +kernel
theorem dM_isNamed_199 : decode prog_13_method_36_code 199 = .ok (.iconst 0, 1) := by decide +kernel
theorem dM_isNamed_200 : decode prog_13_method_36_code 200 = .ok (.istore 5, 2) := by decide +kernel
theorem dM_isNamed_202 : decode prog_13_method_36_code 202 = .ok (.iinc 6 1, 3) := by decide +kernel
theorem dM_isNamed_205 : decode prog_13_method_36_code 205 = .ok (.goto (-44), 3) := by decide +kernel
theorem dM_isNamed_208 : decode prog_13_method_36_code 208 = .ok (.iload 5, 2) := by decide +kernel
theorem dM_isNamed_210 : decode prog_13_method_36_code 210 = .ok (.ireturn, 1) := by decide +kernel
theorem dM_isOf_0 : decode prog_13_method_37_code 0 = .ok (.iload_n 2, 1) := by decide +kernel
theorem dM_isOf_1 : decode prog_13_method_37_code 1 = .ok (.aload_n 0, 1) := by decide +kernel
theorem dM_isOf_2 : decode prog_13_method_37_code 2 = .ok (.getfield 34, 3) := by decide +kernel
theorem dM_isOf_5 : decode prog_13_method_37_code 5 = .ok (.iload_n 1, 1) := by decide +kernel
theorem dM_isOf_6 : decode prog_13_method_37_code 6 = .ok (.iaload, 1) := by decide +kernel
theorem dM_isOf_7 : decode prog_13_method_37_code 7 = .ok (.aload_n 0, 1) := by decide +kernel
theorem dM_isOf_8 : decode prog_13_method_37_code 8 = .ok (.getfield 37, 3) := by decide +kernel
theorem dM_isOf_11 : decode prog_13_method_37_code 11 = .ok (.iload_n 1, 1) := by decide +kernel
theorem dM_isOf_12 : decode prog_13_method_37_code 12 = .ok (.iaload, 1) := by decide +kernel
theorem dM_isOf_13 : decode prog_13_method_37_code 13 = .ok (.invokestatic 139, 3) := by decide +kernel
theorem dM_isOf_16 : decode prog_13_method_37_code 16 = .ok (.ireturn, 1) := by decide +kernel
theorem dM_hasName_0 : decode prog_13_method_38_code 0 = .ok (.iconst 0, 1) := by decide +kernel
theorem dM_hasName_1 : decode prog_13_method_38_code 1 = .ok (.istore 4, 2) := by decide +kernel
theorem dM_hasName_3 : decode prog_13_method_38_code 3 = .ok (.iconst 0, 1) := by decide +kernel
theorem dM_hasName_4 : decode prog_13_method_38_code 4 = .ok (.istore 5, 2) := by decide +kernel
theorem dM_hasName_6 : decode prog_13_method_38_code 6 = .ok (.iload 5, 2) := by decide +kernel
theorem dM_hasName_8 : decode prog_13_method_38_code 8 = .ok (.aload_n 0, 1) := by decide +kernel
theorem dM_hasName_9 : decode prog_13_method_38_code 9 = .ok (.getfield 31, 3) := by decide +kernel
theorem dM_hasName_12 : decode prog_13_method_38_code 12 = .ok (.iload_n 1, 1) := by decide +kernel
theorem dM_hasName_13 : decode prog_13_method_38_code 13 = .ok (.iaload, 1) := by decide +kernel
theorem dM_hasName_14 : decode prog_13_method_38_code 14 = .ok (.if_icmp .ge 49, 3) := by decide +kernel
theorem dM_hasName_17 : decode prog_13_method_38_code 17 = .ok (.iload 4, 2) := by decide +kernel
theorem dM_hasName_19 : decode prog_13_method_38_code 19 = .ok (.ifCond .ne 31, 3) := by decide +kernel
theorem dM_hasName_22 : decode prog_13_method_38_code 22 = .ok (.aload_n 0, 1) := by decide +kernel
theorem dM_hasName_23 : decode prog_13_method_38_code 23 = .ok (.iconst 2, 1) := by decide +kernel
theorem dM_hasName_24 : decode prog_13_method_38_code 24 = .ok (.iload_n 1, 1) := by decide +kernel
theorem dM_hasName_25 : decode prog_13_method_38_code 25 = .ok (.imul, 1) := by decide +kernel
theorem dM_hasName_26 : decode prog_13_method_38_code 26 = .ok (.iload 5, 2) := by decide +kernel
theorem dM_hasName_28 : decode prog_13_method_38_code 28 = .ok (.iadd, 1) := by decide +kernel
theorem dM_hasName_29 : decode prog_13_method_38_code 29 = .ok (.iload_n 2, 1) := by decide +kernel
theorem dM_hasName_30 : decode prog_13_method_38_code 30 = .ok (.invokevirtual 212, 3) := by decide +kernel
theorem dM_hasName_33 : decode prog_13_method_38_code 33 = .ok (.ifCond .eq 21, 3) := by decide +kernel
theorem dM_hasName_36 : decode prog_13_method_38_code 36 = .ok (.aload_n 0, 1) := by decide +kernel
theorem dM_hasName_37 : decode prog_13_method_38_code 37 = .ok (.iconst 2, 1) := by decide +kernel
theorem dM_hasName_38 : decode prog_13_method_38_code 38 = .ok (.iload_n 1, 1) := by decide +kernel
theorem dM_hasName_39 : decode prog_13_method_38_code 39 = .ok (.imul, 1) := by decide +kernel
theorem dM_hasName_40 : decode prog_13_method_38_code 40 = .ok (.iload 5, 2) := by decide +kernel
theorem dM_hasName_42 : decode prog_13_method_38_code 42 = .ok (.iadd, 1) := by decide +kernel
theorem dM_hasName_43 : decode prog_13_method_38_code 43 = .ok (.iload_n 3, 1) := by decide +kernel
theorem dM_hasName_44 : decode prog_13_method_38_code 44 = .ok (.invokevirtual 215, 3) := by decide +kernel
theorem dM_hasName_47 : decode prog_13_method_38_code 47 = .ok (.ifCond .eq 7, 3) := by decide +kernel
theorem dM_hasName_50 : decode prog_13_method_38_code 50 = .ok (.iconst 1, 1) := by decide +kernel
theorem dM_hasName_51 : decode prog_13_method_38_code 51 = .ok (.goto 4, 3) := by decide +kernel
theorem dM_hasName_54 : decode prog_13_method_38_code 54 = .ok (.iconst 0, 1) := by decide +kernel
theorem dM_hasName_55 : decode prog_13_method_38_code 55 = .ok (.istore 4, 2) := by decide +kernel
theorem dM_hasName_57 : decode prog_13_method_38_code 57 = .ok (.iinc 5 1, 3) := by decide +kernel
theorem dM_hasName_60 : decode prog_13_method_38_code 60 = .ok (.goto (-54), 3) := by decide +kernel
theorem dM_hasName_63 : decode prog_13_method_38_code 63 = .ok (.iload 4, 2) := by decide +kernel
theorem dM_hasName_65 : decode prog_13_method_38_code 65 = .ok (.ireturn, 1) := by decide +kernel
theorem dM_isInside_0 : decode prog_13_method_39_code 0 = .ok (.aload_n 0, 1) := by decide +kernel
theorem dM_isInside_1 : decode prog_13_method_39_code 1 = .ok (.iload_n 2, 1) := by decide +kernel
theorem dM_isInside_2 : decode prog_13_method_39_code 2 = .ok (.iload_n 3, 1) := by decide +kernel
theorem dM_isInside_3 : decode prog_13_method_39_code 3 = .ok (.invokevirtual 161, 3) := by decide +kernel
theorem dM_isInside_6 : decode prog_13_method_39_code 6 = .ok (.istore 4, 2) := by decide +kernel
theorem dM_isInside_8 : decode prog_13_method_39_code 8 = .ok (.iload 4, 2) := by decide +kernel
theorem dM_isInside_10 : decode prog_13_method_39_code 10 = .ok (.iconst (-1), 1) := by decide +kernel
theorem dM_isInside_11 : decode prog_13_method_39_code 11 = .ok (.if_icmp .eq 14, 3) := by decide +kernel
theorem dM_isInside_14 : decode prog_13_method_39_code 14 = .ok (.aload_n 0, 1) := by decide +kernel
theorem dM_isInside_15 : decode prog_13_method_39_code 15 = .ok (.getfield 22, 3) := by decide +kernel
theorem dM_isInside_18 : decode prog_13_method_39_code 18 = .ok (.iload 4, 2) := by decide +kernel
theorem dM_isInside_20 : decode prog_13_method_39_code 20 = .ok (.iaload, 1) := by decide +kernel
theorem dM_isInside_21 : decode prog_13_method_39_code 21 = .ok (.iconst 1, 1) := by decide +kernel
theorem dM_isInside_22 : decode prog_13_method_39_code 22 = .ok (.if_icmp .ne 5, 3) := by decide +kernel
theorem dM_isInside_25 : decode prog_13_method_39_code 25 = .ok (.iconst 0, 1) := by decide +kernel
theorem dM_isInside_26 : decode prog_13_method_39_code 26 = .ok (.ireturn, 1) := by decide +kernel
theorem dM_isInside_27 : decode prog_13_method_39_code 27 = .ok (.aload_n 0, 1) := by decide +kernel
theorem dM_isInside_28 : decode prog_13_method_39_code 28 = .ok (.iload_n 1, 1) := by decide +kernel
theorem dM_isInside_29 : decode prog_13_method_39_code 29 = .ok (.iload_n 3, 1) := by decide +kernel
theorem dM_isInside_30 : decode prog_13_method_39_code 30 = .ok (.invokevirtual 161, 3) := by decide +kernel
theorem dM_isInside_33 : decode prog_13_method_39_code 33 = .ok (.istore 5, 2) := by decide +kernel
theorem dM_isInside_35 : decode prog_13_method_39_code 35 = .ok (.iconst 1, 1) := by decide +kernel
theorem dM_isInside_36 : decode prog_13_method_39_code 36 = .ok (.istore 6, 2) := by decide +kernel
theorem dM_isInside_38 : decode prog_13_method_39_code 38 = .ok (.iconst 0, 1) := by decide +kernel
theorem dM_isInside_39 : decode prog_13_method_39_code 39 = .ok (.istore 7, 2) := by decide +kernel
theorem dM_isInside_41 : decode prog_13_method_39_code 41 = .ok (.iload 7, 2) := by decide +kernel
theorem dM_isInside_43 : decode prog_13_method_39_code 43 = .ok (.aload_n 0, 1) := by decide +kernel
theorem dM_isInside_44 : decode prog_13_method_39_code 44 = .ok (.getfield 22, 3) := by decide +kernel
theorem dM_isInside_47 : decode prog_13_method_39_code 47 = .ok (.iload 5, 2) := by decide +kernel
theorem dM_isInside_49 : decode prog_13_method_39_code 49 = .ok (.iaload, 1) := by decide +kernel
theorem dM_isInside_50 : decode prog_13_method_39_code 50 = .ok (.if_icmp .ge 56, 3) := by decide +kernel
theorem dM_isInside_53 : decode prog_13_method_39_code 53 = .ok (.iload 6, 2) := by decide +kernel
theorem dM_isInside_55 : decode prog_13_method_39_code 55 = .ok (.ifCond .eq 42, 3) := by decide +kernel
theorem dM_isInside_58 : decode prog_13_method_39_code 58 = .ok (.aload_n 0, 1) := by decide +kernel
theorem dM_isInside_59 : decode prog_13_method_39_code 59 = .ok (.iload 4, 2) := by decide +kernel
theorem dM_isInside_61 : decode prog_13_method_39_code 61 = .ok (.aload_n 0, 1) := by decide +kernel
theorem dM_isInside_62 : decode prog_13_method_39_code 62 = .ok (.getfield 25, 3) := by decide +kernel
theorem dM_isInside_65 : decode prog_13_method_39_code 65 = .ok (.bipush 8, 2) := by decide +kernel
theorem dM_isInside_67 : decode prog_13_method_39_code 67 = .ok (.iload 5, 2) := by decide +kernel
theorem dM_isInside_69 : decode prog_13_method_39_code 69 = .ok (.imul, 1) := by decide +kernel
theorem dM_isInside_70 : decode prog_13_method_39_code 70 = .ok (.iload 7, 2) := by decide +kernel
theorem dM_isInside_72 : decode prog_13_method_39_code 72 = .ok (.iadd, 1) := by decide +kernel
theorem dM_isInside_73 : decode prog_13_method_39_code 73 = .ok (.iaload, 1) := by decide +kernel
theorem dM_isInside_74 : decode prog_13_method_39_code 74 = .ok (.aload_n 0, 1) := by decide +kernel
theorem dM_isInside_75 : decode prog_13_method_39_code 75 = .ok (.getfield 28, 3) := by decide +kernel
theorem dM_isInside_78 : decode prog_13_method_39_code 78 = .ok (.bipush 8, 2) := by decide +kernel
theorem dM_isInside_80 : decode prog_13_method_39_code 80 = .ok (.iload 5, 2) := by decide +kernel
theorem dM_isInside_82 : decode prog_13_method_39_code 82 = .ok (.imul, 1) := by decide +kernel
theorem dM_isInside_83 : decode prog_13_method_39_code 83 = .ok (.iload 7, 2) := by decide +kernel
theorem dM_isInside_85 : decode prog_13_method_39_code 85 = .ok (.iadd, 1) := by decide +kernel
theorem dM_isInside_86 : decode prog_13_method_39_code 86 = .ok (.iaload, 1) := by decide +kernel
theorem dM_isInside_87 : decode prog_13_method_39_code 87 = .ok (.invokevirtual 169, 3) := by decide +kernel
theorem dM_isInside_90 : decode prog_13_method_39_code 90 = .ok (.ifCond .eq 7, 3) := by decide +kernel
theorem dM_isInside_93 : decode prog_13_method_39_code 93 = .ok (.iconst 1, 1) := by decide +kernel
theorem dM_isInside_94 : decode prog_13_method_39_code 94 = .ok (.goto 4, 3) := by decide +kernel
theorem dM_isInside_97 : decode prog_13_method_39_code 97 = .ok (.iconst 0, 1) := by decide +kernel
theorem dM_isInside_98 : decode prog_13_method_39_code 98 = .ok (.istore 6, 2) := by decide +kernel
theorem dM_isInside_100 : decode prog_13_method_39_code 100 = .ok (.iinc 7 1, 3) := by decide +kernel
theorem dM_isInside_103 : decode prog_13_method_39_code 103 = .ok (.goto (-62), 3) := by decide +kernel
theorem dM_isInside_106 : decode prog_13_method_39_code 106 = .ok (.iload 6, 2) := by decide +kernel
theorem dM_isInside_108 : decode prog_13_method_39_code 108 = .ok (.ireturn, 1) := by decide +kernel
theorem dM_square_0 : decode prog_13_method_40_code 0 = .ok (.aload_n 0, 1) := by decide +kernel
theorem dM_square_1 : decode prog_13_method_40_code 1 = .ok (.iload_n 1, 1) := by decide +kernel
theorem dM_square_2 : decode prog_13_method_40_code 2 = .ok (.iload_n 2, 1) := by decide +kernel
theorem dM_square_3 : decode prog_13_method_40_code 3 = .ok (.invokevirtual 161, 3) := by decide +kernel
theorem dM_square_6 : decode prog_13_method_40_code 6 = .ok (.istore 5, 2) := by decide +kernel
theorem dM_square_8 : decode prog_13_method_40_code 8 = .ok (.iconst 0, 1) := by decide +kernel
theorem dM_square_9 : decode prog_13_method_40_code 9 = .ok (.istore 6, 2) := by decide +kernel
theorem dM_square_11 : decode prog_13_method_40_code 11 = .ok (.iconst 0, 1) := by decide +kernel
theorem dM_square_12 : decode prog_13_method_40_code 12 = .ok (.istore 7, 2) := by decide +kernel
theorem dM_square_14 : decode prog_13_method_40_code 14 = .ok (.iload 7, 2) := by decide +kernel
theorem dM_square_16 : decode prog_13_method_40_code 16 = .ok (.aload_n 0, 1) := by decide +kernel
theorem dM_square_17 : decode prog_13_method_40_code 17 = .ok (.getfield 22, 3) := by decide +kernel
theorem dM_square_20 : decode prog_13_method_40_code 20 = .ok (.iload 5, 2) := by decide +kernel
theorem dM_square_22 : decode prog_13_method_40_code 22 = .ok (.iaload, 1) := by decide +kernel
theorem dM_square_23 : decode prog_13_method_40_code 23 = .ok (.if_icmp .ge 78, 3) := by decide +kernel
theorem dM_square_26 : decode prog_13_method_40_code 26 = .ok (.aload_n 0, 1) := by decide +kernel
theorem dM_square_27 : decode prog_13_method_40_code 27 = .ok (.getfield 25, 3) := by decide +kernel
theorem dM_square_30 : decode prog_13_method_40_code 30 = .ok (.bipush 8, 2) := by decide +kernel
theorem dM_square_32 : decode prog_13_method_40_code 32 = .ok (.iload 5, 2) := by decide +kernel
theorem dM_square_34 : decode prog_13_method_40_code 34 = .ok (.imul, 1) := by decide +kernel
theorem dM_square_35 : decode prog_13_method_40_code 35 = .ok (.iload 7, 2) := by decide +kernel
theorem dM_square_37 : decode prog_13_method_40_code 37 = .ok (.iadd, 1) := by decide +kernel
theorem dM_square_38 : decode prog_13_method_40_code 38 = .ok (.iaload, 1) := by decide +kernel
theorem dM_square_39 : decode prog_13_method_40_code 39 = .ok (.iload_n 3, 1) := by decide +kernel
theorem dM_square_40 : decode prog_13_method_40_code 40 = .ok (.isub, 1) := by decide +kernel
theorem dM_square_41 : decode prog_13_method_40_code 41 = .ok (.istore 8, 2) := by decide +kernel
theorem dM_square_43 : decode prog_13_method_40_code 43 = .ok (.aload_n 0, 1) := by decide +kernel
theorem dM_square_44 : decode prog_13_method_40_code 44 = .ok (.getfield 28, 3) := by decide +kernel
theorem dM_square_47 : decode prog_13_method_40_code 47 = .ok (.bipush 8, 2) := by decide +kernel
theorem dM_square_49 : decode prog_13_method_40_code 49 = .ok (.iload 5, 2) := by decide +kernel
theorem dM_square_51 : decode prog_13_method_40_code 51 = .ok (.imul, 1) := by decide +kernel
theorem dM_square_52 : decode prog_13_method_40_code 52 = .ok (.iload 7, 2) := by decide +kernel
theorem dM_square_54 : decode prog_13_method_40_code 54 = .ok (.iadd, 1) := by decide +kernel
theorem dM_square_55 : decode prog_13_method_40_code 55 = .ok (.iaload, 1) := by decide +kernel
theorem dM_square_56 : decode prog_13_method_40_code 56 = .ok (.iload 4, 2) := by decide +kernel
theorem dM_square_58 : decode prog_13_method_40_code 58 = .ok (.isub, 1) := by decide +kernel
theorem dM_square_59 : decode prog_13_method_40_code 59 = .ok (.istore 9, 2) := by decide +kernel
theorem dM_square_61 : decode prog_13_method_40_code 61 = .ok (.iload 7, 2) := by decide +kernel
theorem dM_square_63 : decode prog_13_method_40_code 63 = .ok (.ifCond .eq 19, 3) := by decide +kernel
theorem dM_square_66 : decode prog_13_method_40_code 66 = .ok (.iload 8, 2) := by decide +kernel
theorem dM_square_68 : decode prog_13_method_40_code 68 = .ok (.iload 8, 2) := by decide +kernel
theorem dM_square_70 : decode prog_13_method_40_code 70 = .ok (.imul, 1) := by decide +kernel
theorem dM_square_71 : decode prog_13_method_40_code 71 = .ok (.iload 9, 2) := by decide +kernel
theorem dM_square_73 : decode prog_13_method_40_code 73 = .ok (.iload 9, 2) := by decide +kernel
theorem dM_square_75 : decode prog_13_method_40_code 75 = .ok (.imul, 1) := by decide +kernel
theorem dM_square_76 : decode prog_13_method_40_code 76 = .ok (.iadd, 1) := by decide +kernel
theorem dM_square_77 : decode prog_13_method_40_code 77 = .ok (.iload 6, 2) := by decide +kernel
theorem dM_square_79 : decode prog_13_method_40_code 79 = .ok (.if_icmp .ge 16, 3) := by decide +kernel
theorem dM_square_82 : decode prog_13_method_40_code 82 = .ok (.iload 8, 2) := by decide +kernel
theorem dM_square_84 : decode prog_13_method_40_code 84 = .ok (.iload 8, 2) := by decide +kernel
theorem dM_square_86 : decode prog_13_method_40_code 86 = .ok (.imul, 1) := by decide +kernel
theorem dM_square_87 : decode prog_13_method_40_code 87 = .ok (.iload 9, 2) := by decide +kernel
theorem dM_square_89 : decode prog_13_method_40_code 89 = .ok (.iload 9, 2) := by decide +kernel
theorem dM_square_91 : decode prog_13_method_40_code 91 = .ok (.imul, 1) := by decide +kernel
theorem dM_square_92 : decode prog_13_method_40_code 92 = .ok (.iadd, 1) := by decide +kernel
theorem dM_square_93 : decode prog_13_method_40_code 93 = .ok (.istore 6, 2) := by decide +kernel
theorem dM_square_95 : decode prog_13_method_40_code 95 = .ok (.iinc 7 1, 3) := by decide +kernel
theorem dM_square_98 : decode prog_13_method_40_code 98 = .ok (.goto (-84), 3) := by decide +kernel
theorem dM_square_101 : decode prog_13_method_40_code 101 = .ok (.iload 6, 2) := by decide +kernel
theorem dM_square_103 : decode prog_13_method_40_code 103 = .ok (.ireturn, 1) := by decide +kernel
theorem dM_compareFractions_0 : decode prog_13_method_41_code 0 = .ok (.lload_n 0, 1) := by decide +kernel
theorem dM_compareFractions_1 : decode prog_13_method_41_code 1 = .ok (.lstore 8, 2) := by decide +kernel
theorem dM_compareFractions_3 : decode prog_13_method_41_code 3 = .ok (.lload_n 2, 1) := by decide +kernel
theorem dM_compareFractions_4 : decode prog_13_method_41_code 4 = .ok (.lstore 10, 2) := by decide +kernel
theorem dM_compareFractions_6 : decode prog_13_method_41_code 6 = .ok (.lload 4, 2) := by decide +kernel
theorem dM_compareFractions_8 : decode prog_13_method_41_code 8 = .ok (.lstore 12, 2) := by decide +kernel
theorem dM_compareFractions_10 : decode prog_13_method_41_code 10 = .ok (.lload 6, 2) := by decide +kernel
theorem dM_compareFractions_12 : decode prog_13_method_41_code 12 = .ok (.lstore 14, 2) := by decide +kernel
theorem dM_compareFractions_14 : decode prog_13_method_41_code 14 = .ok (.iconst 1, 1) := by decide +kernel
theorem dM_compareFractions_15 : decode prog_13_method_41_code 15 = .ok (.istore 16, 2) := by decide +kernel
theorem dM_compareFractions_17 : decode prog_13_method_41_code 17 = .ok (.lload 8, 2) := by decide +kernel
theorem dM_compareFractions_19 : decode prog_13_method_41_code 19 = .ok (.lload 10, 2) := by decide +kernel
theorem dM_compareFractions_21 : decode prog_13_method_41_code 21 = .ok (.ldiv, 1) := by decide +kernel
theorem dM_compareFractions_22 : decode prog_13_method_41_code 22 = .ok (.lload 12, 2) := by decide +kernel
theorem dM_compareFractions_24 : decode prog_13_method_41_code 24 = .ok (.lload 14, 2) := by decide +kernel
theorem dM_compareFractions_26 : decode prog_13_method_41_code 26 = .ok (.ldiv, 1) := by decide +kernel
theorem dM_compareFractions_27 : decode prog_13_method_41_code 27 = .ok (.lcmp, 1) := by decide +kernel
theorem dM_compareFractions_28 : decode prog_13_method_41_code 28 = .ok (.ifCond .eq 26, 3) := by decide +kernel
theorem dM_compareFractions_31 : decode prog_13_method_41_code 31 = .ok (.lload 8, 2) := by decide +kernel
theorem dM_compareFractions_33 : decode prog_13_method_41_code 33 = .ok (.lload 10, 2) := by decide +kernel
theorem dM_compareFractions_35 : decode prog_13_method_41_code 35 = .ok (.ldiv, 1) := by decide +kernel
theorem dM_compareFractions_36 : decode prog_13_method_41_code 36 = .ok (.lload 12, 2) := by decide +kernel
theorem dM_compareFractions_38 : decode prog_13_method_41_code 38 = .ok (.lload 14, 2) := by decide +kernel
theorem dM_compareFractions_40 : decode prog_13_method_41_code 40 = .ok (.ldiv, 1) := by decide +kernel
theorem dM_compareFractions_41 : decode prog_13_method_41_code 41 = .ok (.lcmp, 1) := by decide +kernel
theorem dM_compareFractions_42 : decode prog_13_method_41_code 42 = .ok (.ifCond .ge 9, 3) := by decide +kernel
theorem dM_compareFractions_45 : decode prog_13_method_41_code 45 = .ok (.iload 16, 2) := by decide +kernel
theorem dM_compareFractions_47 : decode prog_13_method_41_code 47 = .ok (.ineg, 1) := by decide +kernel
theorem dM_compareFractions_48 : decode prog_13_method_41_code 48 = .ok (.goto 5, 3) := by decide +kernel
theorem dM_compareFractions_51 : decode prog_13_method_41_code 51 = .ok (.iload 16, 2) := by decide +kernel
theorem dM_compareFractions_53 : decode prog_13_method_41_code 53 = .ok (.ireturn, 1) := by decide +kernel
theorem dM_compareFractions_54 : decode prog_13_method_41_code 54 = .ok (.lload 8, 2) := by decide +kernel
theorem dM_compareFractions_56 : decode prog_13_method_41_code 56 = .ok (.lload 10, 2) := by decide +kernel
theorem dM_compareFractions_58 : decode prog_13_method_41_code 58 = .ok (.lrem, 1) := by decide +kernel
theorem dM_compareFractions_59 : decode prog_13_method_41_code 59 = .ok (.lstore 17, 2) := by decide +kernel
theorem dM_compareFractions_61 : decode prog_13_method_41_code 61 = .ok (.lload 12, 2) := by decide +kernel
theorem dM_compareFractions_63 : decode prog_13_method_41_code 63 = .ok (.lload 14, 2) := by decide +kernel
theorem dM_compareFractions_65 : decode prog_13_method_41_code 65 = .ok (.lrem, 1) := by decide +kernel
theorem dM_compareFractions_66 : decode prog_13_method_41_code 66 = .ok (.lstore 19, 2) := by decide +kernel
theorem dM_compareFractions_68 : decode prog_13_method_41_code 68 = .ok (.lload 17, 2) := by decide +kernel
theorem dM_compareFractions_70 : decode prog_13_method_41_code 70 = .ok (.lconst 0, 1) := by decide +kernel
theorem dM_compareFractions_71 : decode prog_13_method_41_code 71 = .ok (.lcmp, 1) := by decide +kernel
theorem dM_compareFractions_72 : decode prog_13_method_41_code 72 = .ok (.ifCond .eq 10, 3) := by decide +kernel
theorem dM_compareFractions_75 : decode prog_13_method_41_code 75 = .ok (.lload 19, 2) := by decide +kernel
theorem dM_compareFractions_77 : decode prog_13_method_41_code 77 = .ok (.lconst 0, 1) := by decide +kernel
theorem dM_compareFractions_78 : decode prog_13_method_41_code 78 = .ok (.lcmp, 1) := by decide +kernel
theorem dM_compareFractions_79 : decode prog_13_method_41_code 79 = .ok (.ifCond .ne 31, 3) := by decide +kernel
theorem dM_compareFractions_82 : decode prog_13_method_41_code 82 = .ok (.lload 17, 2) := by decide +kernel
theorem dM_compareFractions_84 : decode prog_13_method_41_code 84 = .ok (.lload 19, 2) := by decide +kernel
theorem dM_compareFractions_86 : decode prog_13_method_41_code 86 = .ok (.lcmp, 1) := by decide +kernel
theorem dM_compareFractions_87 : decode prog_13_method_41_code 87 = .ok (.ifCond .ne 7, 3) := by decide +kernel
theorem dM_compareFractions_90 : decode prog_13_method_41_code 90 = .ok (.iconst 0, 1) := by decide +kernel
theorem dM_compareFractions_91 : decode prog_13_method_41_code 91 = .ok (.goto 18, 3) := by decide +kernel
theorem dM_compareFractions_94 : decode prog_13_method_41_code 94 = .ok (.lload 17, 2) := by decide +kernel
theorem dM_compareFractions_96 : decode prog_13_method_41_code 96 = .ok (.lconst 0, 1) := by decide +kernel
theorem dM_compareFractions_97 : decode prog_13_method_41_code 97 = .ok (.lcmp, 1) := by decide +kernel
theorem dM_compareFractions_98 : decode prog_13_method_41_code 98 = .ok (.ifCond .ne 9, 3) := by decide +kernel
theorem dM_compareFractions_101 : decode prog_13_method_41_code 101 = .ok (.iload 16, 2) := by decide +kernel
theorem dM_compareFractions_103 : decode prog_13_method_41_code 103 = .ok (.ineg, 1) := by decide +kernel
theorem dM_compareFractions_104 : decode prog_13_method_41_code 104 = .ok (.goto 5, 3) := by decide +kernel
theorem dM_compareFractions_107 : decode prog_13_method_41_code 107 = .ok (.iload 16, 2) := by decide +kernel
theorem dM_compareFractions_109 : decode prog_13_method_41_code 109 = .ok (.ireturn, 1) := by decide +kernel
theorem dM_compareFractions_110 : decode prog_13_method_41_code 110 = .ok (.lload 10, 2) := by decide +kernel
theorem dM_compareFractions_112 : decode prog_13_method_41_code 112 = .ok (.lstore 8, 2) := by decide +kernel
theorem dM_compareFractions_114 : decode prog_13_method_41_code 114 = .ok (.lload 17, 2) := by decide +kernel
theorem dM_compareFractions_116 : decode prog_13_method_41_code 116 = .ok (.lstore 10, 2) := by decide +kernel
theorem dM_compareFractions_118 : decode prog_13_method_41_code 118 = .ok (.lload 14, 2) := by decide +kernel
theorem dM_compareFractions_120 : decode prog_13_method_41_code 120 = .ok (.lstore 12, 2) := by decide +kernel
theorem dM_compareFractions_122 : decode prog_13_method_41_code 122 = .ok (.lload 19, 2) := by decide +kernel
theorem dM_compareFractions_124 : decode prog_13_method_41_code 124 = .ok (.lstore 14, 2) := by decide +kernel
theorem dM_compareFractions_126 : decode prog_13_method_41_code 126 = .ok (.iload 16, 2) := by decide +kernel
theorem dM_compareFractions_128 : decode prog_13_method_41_code 128 = .ok (.ineg, 1) := by decide +kernel
theorem dM_compareFractions_129 : decode prog_13_method_41_code 129 = .ok (.istore 16, 2) := by decide +kernel
theorem dM_compareFractions_131 : decode prog_13_method_41_code 131 = .ok (.goto (-114), 3) := by decide +kernel
theorem dM_measure_0 : decode prog_13_method_42_code 0 = .ok (.iload_n 3, 1) := by decide +kernel
theorem dM_measure_1 : decode prog_13_method_42_code 1 = .ok (.iload_n 1, 1) := by decide +kernel
theorem dM_measure_2 : decode prog_13_method_42_code 2 = .ok (.isub, 1) := by decide +kernel
theorem dM_measure_3 : decode prog_13_method_42_code 3 = .ok (.i2l, 1) := by decide +kernel
theorem dM_measure_4 : decode prog_13_method_42_code 4 = .ok (.lstore 7, 2) := by decide +kernel
theorem dM_measure_6 : decode prog_13_method_42_code 6 = .ok (.iload 4, 2) := by decide +kernel
theorem dM_measure_8 : decode prog_13_method_42_code 8 = .ok (.iload_n 2, 1) := by decide +kernel
theorem dM_measure_9 : decode prog_13_method_42_code 9 = .ok (.isub, 1) := by decide +kernel
theorem dM_measure_10 : decode prog_13_method_42_code 10 = .ok (.i2l, 1) := by decide +kernel
theorem dM_measure_11 : decode prog_13_method_42_code 11 = .ok (.lstore 9, 2) := by decide +kernel
theorem dM_measure_13 : decode prog_13_method_42_code 13 = .ok (.lload 7, 2) := by decide +kernel
theorem dM_measure_15 : decode prog_13_method_42_code 15 = .ok (.lload 7, 2) := by decide +kernel
theorem dM_measure_17 : decode prog_13_method_42_code 17 = .ok (.lmul, 1) := by decide +kernel
theorem dM_measure_18 : decode prog_13_method_42_code 18 = .ok (.lload 9, 2) := by decide +kernel
theorem dM_measure_20 : decode prog_13_method_42_code 20 = .ok (.lload 9, 2) := by decide +kernel
theorem dM_measure_22 : decode prog_13_method_42_code 22 = .ok (.lmul, 1) := by decide +kernel
theorem dM_measure_23 : decode prog_13_method_42_code 23 = .ok (.ladd, 1) := by decide +kernel
theorem dM_measure_24 : decode prog_13_method_42_code 24 = .ok (.lstore 11, 2) := by decide +kernel
theorem dM_measure_26 : decode prog_13_method_42_code 26 = .ok (.lload 7, 2) := by decide +kernel
theorem dM_measure_28 : decode prog_13_method_42_code 28 = .ok (.iload 5, 2) := by decide +kernel
theorem dM_measure_30 : decode prog_13_method_42_code 30 = .ok (.iload_n 1, 1) := by decide +kernel
theorem dM_measure_31 : decode prog_13_method_42_code 31 = .ok (.isub, 1) := by decide +kernel
theorem dM_measure_32 : decode prog_13_method_42_code 32 = .ok (.i2l, 1) := by decide +kernel
theorem dM_measure_33 : decode prog_13_method_42_code 33 = .ok (.lmul, 1) := by decide +kernel
theorem dM_measure_34 : decode prog_13_method_42_code 34 = .ok (.lload 9, 2) := by decide +kernel
theorem dM_measure_36 : decode prog_13_method_42_code 36 = .ok (.iload 6, 2) := by decide +kernel
theorem dM_measure_38 : decode prog_13_method_42_code 38 = .ok (.iload_n 2, 1) := by decide +kernel
theorem dM_measure_39 : decode prog_13_method_42_code 39 = .ok (.isub, 1) := by decide +kernel
theorem dM_measure_40 : decode prog_13_method_42_code 40 = .ok (.i2l, 1) := by decide +kernel
theorem dM_measure_41 : decode prog_13_method_42_code 41 = .ok (.lmul, 1) := by decide +kernel
theorem dM_measure_42 : decode prog_13_method_42_code 42 = .ok (.ladd, 1) := by decide +kernel
theorem dM_measure_43 : decode prog_13_method_42_code 43 = .ok (.lstore 13, 2) := by decide +kernel
theorem dM_measure_45 : decode prog_13_method_42_code 45 = .ok (.aload_n 0, 1) := by decide +kernel
theorem dM_measure_46 : decode prog_13_method_42_code 46 = .ok (.lload 11, 2) := by decide +kernel
theorem dM_measure_48 : decode prog_13_method_42_code 48 = .ok (.lconst 0, 1) := by decide +kernel
theorem dM_measure_49 : decode prog_13_method_42_code 49 = .ok (.lcmp, 1) := by decide +kernel
theorem dM_measure_50 : decode prog_13_method_42_code 50 = .ok (.ifCond .ne 7, 3) := by decide +kernel
theorem dM_measure_53 : decode prog_13_method_42_code 53 = .ok (.lconst 1, 1) := by decide +kernel
theorem dM_measure_54 : decode prog_13_method_42_code 54 = .ok (.goto 5, 3) := by decide +kernel
theorem dM_measure_57 : decode prog_13_method_42_code 57 = .ok (.lload 11, 2) := by decide +kernel
theorem dM_measure_59 : decode prog_13_method_42_code 59 = .ok (.putfield 218, 3) := by decide +kernel
theorem dM_measure_62 : decode prog_13_method_42_code 62 = .ok (.aload_n 0, 1) := by decide +kernel
theorem dM_measure_63 : decode prog_13_method_42_code 63 = .ok (.lconst 1, 1) := by decide +kernel
theorem dM_measure_64 : decode prog_13_method_42_code 64 = .ok (.putfield 222, 3) := by decide +kernel
theorem dM_measure_67 : decode prog_13_method_42_code 67 = .ok (.lload 13, 2) := by decide +kernel
theorem dM_measure_69 : decode prog_13_method_42_code 69 = .ok (.lconst 0, 1) := by decide +kernel
theorem dM_measure_70 : decode prog_13_method_42_code 70 = .ok (.lcmp, 1) := by decide +kernel
theorem dM_measure_71 : decode prog_13_method_42_code 71 = .ok (.ifCond .le 10, 3) := by decide +kernel
theorem dM_measure_74 : decode prog_13_method_42_code 74 = .ok (.lload 11, 2) := by decide +kernel
theorem dM_measure_76 : decode prog_13_method_42_code 76 = .ok (.lconst 0, 1) := by decide +kernel
theorem dM_measure_77 : decode prog_13_method_42_code 77 = .ok (.lcmp, 1) := by decide +kernel
theorem dM_measure_78 : decode prog_13_method_42_code 78 = .ok (.ifCond .ne 38, 3) := by decide +kernel
theorem dM_measure_81 : decode prog_13_method_42_code 81 = .ok (.aload_n 0, 1) := by decide +kernel
theorem dM_measure_82 : decode prog_13_method_42_code 82 = .ok (.iload 5, 2) := by decide +kernel
theorem dM_measure_84 : decode prog_13_method_42_code 84 = .ok (.iload_n 1, 1) := by decide +kernel
theorem dM_measure_85 : decode prog_13_method_42_code 85 = .ok (.isub, 1) := by decide +kernel
theorem dM_measure_86 : decode prog_13_method_42_code 86 = .ok (.i2l, 1) := by decide +kernel
theorem dM_measure_87 : decode prog_13_method_42_code 87 = .ok (.iload 5, 2) := by decide +kernel
theorem dM_measure_89 : decode prog_13_method_42_code 89 = .ok (.iload_n 1, 1) := by decide +kernel
theorem dM_measure_90 : decode prog_13_method_42_code 90 = .ok (.isub, 1) := by decide +kernel
theorem dM_measure_91 : decode prog_13_method_42_code 91 = .ok (.i2l, 1) := by decide +kernel
theorem dM_measure_92 : decode prog_13_method_42_code 92 = .ok (.lmul, 1) := by decide +kernel
theorem dM_measure_93 : decode prog_13_method_42_code 93 = .ok (.iload 6, 2) := by decide +kernel
theorem dM_measure_95 : decode prog_13_method_42_code 95 = .ok (.iload_n 2, 1) := by decide +kernel
theorem dM_measure_96 : decode prog_13_method_42_code 96 = .ok (.isub, 1) := by decide +kernel
theorem dM_measure_97 : decode prog_13_method_42_code 97 = .ok (.i2l, 1) := by decide +kernel
theorem dM_measure_98 : decode prog_13_method_42_code 98 = .ok (.iload 6, 2) := by decide +kernel
theorem dM_measure_100 : decode prog_13_method_42_code 100 = .ok (.iload_n 2, 1) := by decide +kernel
theorem dM_measure_101 : decode prog_13_method_42_code 101 = .ok (.isub, 1) := by decide +kernel
theorem dM_measure_102 : decode prog_13_method_42_code 102 = .ok (.i2l, 1) := by decide +kernel
theorem dM_measure_103 : decode prog_13_method_42_code 103 = .ok (.lmul, 1) := by decide +kernel
theorem dM_measure_104 : decode prog_13_method_42_code 104 = .ok (.ladd, 1) := by decide +kernel
theorem dM_measure_105 : decode prog_13_method_42_code 105 = .ok (.putfield 225, 3) := by decide +kernel
theorem dM_measure_108 : decode prog_13_method_42_code 108 = .ok (.aload_n 0, 1) := by decide +kernel
theorem dM_measure_109 : decode prog_13_method_42_code 109 = .ok (.lconst 0, 1) := by decide +kernel
theorem dM_measure_110 : decode prog_13_method_42_code 110 = .ok (.putfield 228, 3) := by decide +kernel
theorem dM_measure_113 : decode prog_13_method_42_code 113 = .ok (.goto 89, 3) := by decide +kernel
theorem dM_measure_116 : decode prog_13_method_42_code 116 = .ok (.lload 13, 2) := by decide +kernel
theorem dM_measure_118 : decode prog_13_method_42_code 118 = .ok (.lload 11, 2) := by decide +kernel
theorem dM_measure_120 : decode prog_13_method_42_code 120 = .ok (.lcmp, 1) := by decide +kernel
theorem dM_measure_121 : decode prog_13_method_42_code 121 = .ok (.ifCond .lt 41, 3) := by decide +kernel
theorem dM_measure_124 : decode prog_13_method_42_code 124 = .ok (.aload_n 0, 1) := by decide +kernel
theorem dM_measure_125 : decode prog_13_method_42_code 125 = .ok (.iload 5, 2) := by decide +kernel
theorem dM_measure_127 : decode prog_13_method_42_code 127 = .ok (.iload_n 3, 1) := by decide +kernel
theorem dM_measure_128 : decode prog_13_method_42_code 128 = .ok (.isub, 1) := by decide +kernel
theorem dM_measure_129 : decode prog_13_method_42_code 129 = .ok (.i2l, 1) := by decide +kernel
theorem dM_measure_130 : decode prog_13_method_42_code 130 = .ok (.iload 5, 2) := by decide +kernel
theorem dM_measure_132 : decode prog_13_method_42_code 132 = .ok (.iload_n 3, 1) := by decide +kernel
theorem dM_measure_133 : decode prog_13_method_42_code 133 = .ok (.isub, 1) := by decide +kernel
theorem dM_measure_134 : decode prog_13_method_42_code 134 = .ok (.i2l, 1) := by decide +kernel
theorem dM_measure_135 : decode prog_13_method_42_code 135 = .ok (.lmul, 1) := by decide +kernel
theorem dM_measure_136 : decode prog_13_method_42_code 136 = .ok (.iload 6, 2) := by decide +kernel
theorem dM_measure_138 : decode prog_13_method_42_code 138 = .ok (.iload 4, 2) := by decide +kernel
theorem dM_measure_140 : decode prog_13_method_42_code 140 = .ok (.isub, 1) := by decide +kernel
theorem dM_measure_141 : decode prog_13_method_42_code 141 = .ok (.i2l, 1) := by decide +kernel
theorem dM_measure_142 : decode prog_13_method_42_code 142 = .ok (.iload 6, 2) := by decide +kernel
theorem dM_measure_144 : decode prog_13_method_42_code 144 = .ok (.iload 4, 2) := by decide +kernel
theorem dM_measure_146 : decode prog_13_method_42_code 146 = .ok (.isub, 1) := by decide +kernel
theorem dM_measure_147 : decode prog_13_method_42_code 147 = .ok (.i2l, 1) := by decide +kernel
theorem dM_measure_148 : decode prog_13_method_42_code 148 = .ok (.lmul, 1) := by decide +kernel
theorem dM_measure_149 : decode prog_13_method_42_code 149 = .ok (.ladd, 1) := by decide +kernel
theorem dM_measure_150 : decode prog_13_method_42_code 150 = .ok (.putfield 225, 3) := by decide +kernel
theorem dM_measure_153 : decode prog_13_method_42_code 153 = .ok (.aload_n 0, 1) := by decide +kernel
theorem dM_measure_154 : decode prog_13_method_42_code 154 = .ok (.lload 11, 2) := by decide +kernel
theorem dM_measure_156 : decode prog_13_method_42_code 156 = .ok (.putfield 228, 3) := by decide +kernel
theorem dM_measure_159 : decode prog_13_method_42_code 159 = .ok (.goto 43, 3) := by decide +kernel
theorem dM_measure_162 : decode prog_13_method_42_code 162 = .ok (.lload 7, 2) := by decide +kernel
theorem dM_measure_164 : decode prog_13_method_42_code 164 = .ok (.iload 6, 2) := by decide +kernel
theorem dM_measure_166 : decode prog_13_method_42_code 166 = .ok (.iload_n 2, 1) := by decide +kernel
theorem dM_measure_167 : decode prog_13_method_42_code 167 = .ok (.isub, 1) := by decide +kernel
theorem dM_measure_168 : decode prog_13_method_42_code 168 = .ok (.i2l, 1) := by decide +kernel
theorem dM_measure_169 : decode prog_13_method_42_code 169 = .ok (.lmul, 1) := by decide +kernel
theorem dM_measure_170 : decode prog_13_method_42_code 170 = .ok (.lload 9, 2) := by decide +kernel
theorem dM_measure_172 : decode prog_13_method_42_code 172 = .ok (.iload 5, 2) := by decide +kernel
theorem dM_measure_174 : decode prog_13_method_42_code 174 = .ok (.iload_n 1, 1) := by decide +kernel
theorem dM_measure_175 : decode prog_13_method_42_code 175 = .ok (.isub, 1) := by decide +kernel
theorem dM_measure_176 : decode prog_13_method_42_code 176 = .ok (.i2l, 1) := by decide +kernel
theorem dM_measure_177 : decode prog_13_method_42_code 177 = .ok (.lmul, 1) := by decide +kernel
theorem dM_measure_178 : decode prog_13_method_42_code 178 = .ok (.lsub, 1) := by decide +kernel
theorem dM_measure_179 : decode prog_13_method_42_code 179 = .ok (.lstore 15, 2) := by decide +kernel
theorem dM_measure_181 : decode prog_13_method_42_code 181 = .ok (.aload_n 0, 1) := by decide +kernel
theorem dM_measure_182 : decode prog_13_method_42_code 182 = .ok (.lload 15, 2) := by decide +kernel
theorem dM_measure_184 : decode prog_13_method_42_code 184 = .ok (.lload 15, 2) := by decide +kernel
theorem dM_measure_186 : decode prog_13_method_42_code 186 = .ok (.lmul, 1) := by decide +kernel
theorem dM_measure_187 : decode prog_13_method_42_code 187 = .ok (.putfield 225, 3) := by decide +kernel
theorem dM_measure_190 : decode prog_13_method_42_code 190 = .ok (.aload_n 0, 1) := by decide +kernel
theorem dM_measure_191 : decode prog_13_method_42_code 191 = .ok (.lload 11, 2) := by decide +kernel
theorem dM_measure_193 : decode prog_13_method_42_code 193 = .ok (.putfield 222, 3) := by decide +kernel
theorem dM_measure_196 : decode prog_13_method_42_code 196 = .ok (.aload_n 0, 1) := by decide +kernel
theorem dM_measure_197 : decode prog_13_method_42_code 197 = .ok (.lload 13, 2) := by decide +kernel
theorem dM_measure_199 : decode prog_13_method_42_code 199 = .ok (.putfield 228, 3) := by decide +kernel
theorem dM_measure_202 : decode prog_13_method_42_code 202 = .ok (.return_, 1) := by decide +kernel
theorem dM_isNearer_0 : decode prog_13_method_43_code 0 = .ok (.aload_n 0, 1) := by decide +kernel
theorem dM_isNearer_1 : decode prog_13_method_43_code 1 = .ok (.getfield 231, 3) := by decide +kernel
theorem dM_isNearer_4 : decode prog_13_method_43_code 4 = .ok (.iconst (-1), 1) := by decide +kernel
theorem dM_isNearer_5 : decode prog_13_method_43_code 5 = .ok (.if_icmp .ne 5, 3) := by decide +kernel
theorem dM_isNearer_8 : decode prog_13_method_43_code 8 = .ok (.iconst 1, 1) := by decide +kernel
theorem dM_isNearer_9 : decode prog_13_method_43_code 9 = .ok (.ireturn, 1) := by decide +kernel
theorem dM_isNearer_10 : decode prog_13_method_43_code 10 = .ok (.aload_n 0, 1) := by decide +kernel
theorem dM_isNearer_11 : decode prog_13_method_43_code 11 = .ok (.getfield 225, 3) := by decide +kernel
theorem dM_isNearer_14 : decode prog_13_method_43_code 14 = .ok (.aload_n 0, 1) := by decide +kernel
theorem dM_isNearer_15 : decode prog_13_method_43_code 15 = .ok (.getfield 222, 3) := by decide +kernel
theorem dM_isNearer_18 : decode prog_13_method_43_code 18 = .ok (.aload_n 0, 1) := by decide +kernel
theorem dM_isNearer_19 : decode prog_13_method_43_code 19 = .ok (.getfield 234, 3) := by decide +kernel
theorem dM_isNearer_22 : decode prog_13_method_43_code 22 = .ok (.aload_n 0, 1) := by decide +kernel
theorem dM_isNearer_23 : decode prog_13_method_43_code 23 = .ok (.getfield 237, 3) := by decide +kernel
theorem dM_isNearer_26 : decode prog_13_method_43_code 26 = .ok (.invokestatic 240, 3) := by decide +kernel
theorem dM_isNearer_29 : decode prog_13_method_43_code 29 = .ok (.istore_n 2, 1) := by decide +kernel
theorem dM_isNearer_30 : decode prog_13_method_43_code 30 = .ok (.iload_n 2, 1) := by decide +kernel
theorem dM_isNearer_31 : decode prog_13_method_43_code 31 = .ok (.ifCond .ne 10, 3) := by decide +kernel
theorem dM_isNearer_34 : decode prog_13_method_43_code 34 = .ok (.iload_n 1, 1) := by decide +kernel
theorem dM_isNearer_35 : decode prog_13_method_43_code 35 = .ok (.aload_n 0, 1) := by decide +kernel
theorem dM_isNearer_36 : decode prog_13_method_43_code 36 = .ok (.getfield 231, 3) := by decide +kernel
theorem dM_isNearer_39 : decode prog_13_method_43_code 39 = .ok (.isub, 1) := by decide +kernel
theorem dM_isNearer_40 : decode prog_13_method_43_code 40 = .ok (.istore_n 2, 1) := by decide +kernel
theorem dM_isNearer_41 : decode prog_13_method_43_code 41 = .ok (.iload_n 2, 1) := by decide +kernel
theorem dM_isNearer_42 : decode prog_13_method_43_code 42 = .ok (.ifCond .ne 23, 3) := by decide +kernel
theorem dM_isNearer_45 : decode prog_13_method_43_code 45 = .ok (.aload_n 0, 1) := by decide +kernel
theorem dM_isNearer_46 : decode prog_13_method_43_code 46 = .ok (.getfield 228, 3) := by decide +kernel
theorem dM_isNearer_49 : decode prog_13_method_43_code 49 = .ok (.aload_n 0, 1) := by decide +kernel
theorem dM_isNearer_50 : decode prog_13_method_43_code 50 = .ok (.getfield 218, 3) := by decide +kernel
theorem dM_isNearer_53 : decode prog_13_method_43_code 53 = .ok (.aload_n 0, 1) := by decide +kernel
theorem dM_isNearer_54 : decode prog_13_method_43_code 54 = .ok (.getfield 244, 3) := by decide +kernel
theorem dM_isNearer_57 : decode prog_13_method_43_code 57 = .ok (.aload_n 0, 1) := by decide +kernel
theorem dM_isNearer_58 : decode prog_13_method_43_code 58 = .ok (.getfield 247, 3) := by decide +kernel
theorem dM_isNearer_61 : decode prog_13_method_43_code 61 = .ok (.invokestatic 240, 3) := by decide +kernel
theorem dM_isNearer_64 : decode prog_13_method_43_code 64 = .ok (.istore_n 2, 1) := by decide +kernel
theorem dM_isNearer_65 : decode prog_13_method_43_code 65 = .ok (.iload_n 2, 1) := by decide +kernel
theorem dM_isNearer_66 : decode prog_13_method_43_code 66 = .ok (.ifCond .ge 7, 3) := by decide +kernel
theorem dM_isNearer_69 : decode prog_13_method_43_code 69 = .ok (.iconst 1, 1) := by decide +kernel
theorem dM_isNearer_70 : decode prog_13_method_43_code 70 = .ok (.goto 4, 3) := by decide +kernel
theorem dM_isNearer_73 : decode prog_13_method_43_code 73 = .ok (.iconst 0, 1) := by decide +kernel
theorem dM_isNearer_74 : decode prog_13_method_43_code 74 = .ok (.ireturn, 1) := by decide +kernel
theorem dM_nearest_0 : decode prog_13_method_44_code 0 = .ok (.aload_n 0, 1) := by decide +kernel
theorem dM_nearest_1 : decode prog_13_method_44_code 1 = .ok (.iload_n 1, 1) := by decide +kernel
theorem dM_nearest_2 : decode prog_13_method_44_code 2 = .ok (.iload_n 2, 1) := by decide +kernel
theorem dM_nearest_3 : decode prog_13_method_44_code 3 = .ok (.invokevirtual 161, 3) := by decide +kernel
theorem dM_nearest_6 : decode prog_13_method_44_code 6 = .ok (.istore 4, 2) := by decide +kernel
theorem dM_nearest_8 : decode prog_13_method_44_code 8 = .ok (.aload_n 0, 1) := by decide +kernel
theorem dM_nearest_9 : decode prog_13_method_44_code 9 = .ok (.iconst (-1), 1) := by decide +kernel
theorem dM_nearest_10 : decode prog_13_method_44_code 10 = .ok (.putfield 231, 3) := by decide +kernel
theorem dM_nearest_13 : decode prog_13_method_44_code 13 = .ok (.iconst 0, 1) := by decide +kernel
theorem dM_nearest_14 : decode prog_13_method_44_code 14 = .ok (.istore 5, 2) := by decide +kernel
theorem dM_nearest_16 : decode prog_13_method_44_code 16 = .ok (.iload 5, 2) := by decide +kernel
theorem dM_nearest_18 : decode prog_13_method_44_code 18 = .ok (.aload_n 0, 1) := by decide +kernel
theorem dM_nearest_19 : decode prog_13_method_44_code 19 = .ok (.getfield 22, 3) := by decide +kernel
theorem dM_nearest_22 : decode prog_13_method_44_code 22 = .ok (.iload 4, 2) := by decide +kernel
theorem dM_nearest_24 : decode prog_13_method_44_code 24 = .ok (.iaload, 1) := by decide +kernel
theorem dM_nearest_25 : decode prog_13_method_44_code 25 = .ok (.if_icmp .ge 152, 3) := by decide +kernel
theorem dM_nearest_28 : decode prog_13_method_44_code 28 = .ok (.iconst 0, 1) := by decide +kernel
theorem dM_nearest_29 : decode prog_13_method_44_code 29 = .ok (.istore 6, 2) := by decide +kernel
theorem dM_nearest_31 : decode prog_13_method_44_code 31 = .ok (.iload 6, 2) := by decide +kernel
theorem dM_nearest_33 : decode prog_13_method_44_code 33 = .ok (.iconst 1, 1) := by decide +kernel
theorem dM_nearest_34 : decode prog_13_method_44_code 34 = .ok (.iadd, 1) := by decide +kernel
theorem dM_nearest_35 : decode prog_13_method_44_code 35 = .ok (.aload_n 0, 1) := by decide +kernel
theorem dM_nearest_36 : decode prog_13_method_44_code 36 = .ok (.getfield 88, 3) := by decide +kernel
theorem dM_nearest_39 : decode prog_13_method_44_code 39 = .ok (.iload_n 3, 1) := by decide +kernel
theorem dM_nearest_40 : decode prog_13_method_44_code 40 = .ok (.iaload, 1) := by decide +kernel
theorem dM_nearest_41 : decode prog_13_method_44_code 41 = .ok (.if_icmp .ge 130, 3) := by decide +kernel
theorem dM_nearest_44 : decode prog_13_method_44_code 44 = .ok (.bipush 8, 2) := by decide +kernel
theorem dM_nearest_46 : decode prog_13_method_44_code 46 = .ok (.iload_n 3, 1) := by decide +kernel
theorem dM_nearest_47 : decode prog_13_method_44_code 47 = .ok (.imul, 1) := by decide +kernel
theorem dM_nearest_48 : decode prog_13_method_44_code 48 = .ok (.iload 6, 2) := by decide +kernel
theorem dM_nearest_50 : decode prog_13_method_44_code 50 = .ok (.iadd, 1) := by decide +kernel
theorem dM_nearest_51 : decode prog_13_method_44_code 51 = .ok (.istore 7, 2) := by decide +kernel
theorem dM_nearest_53 : decode prog_13_method_44_code 53 = .ok (.aload_n 0, 1) := by decide +kernel
theorem dM_nearest_54 : decode prog_13_method_44_code 54 = .ok (.aload_n 0, 1) := by decide +kernel
theorem dM_nearest_55 : decode prog_13_method_44_code 55 = .ok (.getfield 91, 3) := by decide +kernel
theorem dM_nearest_58 : decode prog_13_method_44_code 58 = .ok (.iload 7, 2) := by decide +kernel
theorem dM_nearest_60 : decode prog_13_method_44_code 60 = .ok (.iaload, 1) := by decide +kernel
theorem dM_nearest_61 : decode prog_13_method_44_code 61 = .ok (.aload_n 0, 1) := by decide +kernel
theorem dM_nearest_62 : decode prog_13_method_44_code 62 = .ok (.getfield 94, 3) := by decide +kernel
theorem dM_nearest_65 : decode prog_13_method_44_code 65 = .ok (.iload 7, 2) := by decide +kernel
theorem dM_nearest_67 : decode prog_13_method_44_code 67 = .ok (.iaload, 1) := by decide +kernel
theorem dM_nearest_68 : decode prog_13_method_44_code 68 = .ok (.aload_n 0, 1) := by decide +kernel
theorem dM_nearest_69 : decode prog_13_method_44_code 69 = .ok (.getfield 91, 3) := by decide +kernel
theorem dM_nearest_72 : decode prog_13_method_44_code 72 = .ok (.iload 7, 2) := by decide +kernel
theorem dM_nearest_74 : decode prog_13_method_44_code 74 = .ok (.iconst 1, 1) := by decide +kernel
theorem dM_nearest_75 : decode prog_13_method_44_code 75 = .ok (.iadd, 1) := by decide +kernel
theorem dM_nearest_76 : decode prog_13_method_44_code 76 = .ok (.iaload, 1) := by decide +kernel
theorem dM_nearest_77 : decode prog_13_method_44_code 77 = .ok (.aload_n 0, 1) := by decide +kernel
theorem dM_nearest_78 : decode prog_13_method_44_code 78 = .ok (.getfield 94, 3) := by decide +kernel
theorem dM_nearest_81 : decode prog_13_method_44_code 81 = .ok (.iload 7, 2) := by decide +kernel
theorem dM_nearest_83 : decode prog_13_method_44_code 83 = .ok (.iconst 1, 1) := by decide +kernel
theorem dM_nearest_84 : decode prog_13_method_44_code 84 = .ok (.iadd, 1) := by decide +kernel
theorem dM_nearest_85 : decode prog_13_method_44_code 85 = .ok (.iaload, 1) := by decide +kernel
theorem dM_nearest_86 : decode prog_13_method_44_code 86 = .ok (.aload_n 0, 1) := by decide +kernel
theorem dM_nearest_87 : decode prog_13_method_44_code 87 = .ok (.getfield 25, 3) := by decide +kernel
theorem dM_nearest_90 : decode prog_13_method_44_code 90 = .ok (.bipush 8, 2) := by decide +kernel
theorem dM_nearest_92 : decode prog_13_method_44_code 92 = .ok (.iload 4, 2) := by decide +kernel
theorem dM_nearest_94 : decode prog_13_method_44_code 94 = .ok (.imul, 1) := by decide +kernel
theorem dM_nearest_95 : decode prog_13_method_44_code 95 = .ok (.iload 5, 2) := by decide +kernel
theorem dM_nearest_97 : decode prog_13_method_44_code 97 = .ok (.iadd, 1) := by decide +kernel
theorem dM_nearest_98 : decode prog_13_method_44_code 98 = .ok (.iaload, 1) := by decide +kernel
theorem dM_nearest_99 : decode prog_13_method_44_code 99 = .ok (.aload_n 0, 1) := by decide +kernel
theorem dM_nearest_100 : decode prog_13_method_44_code 100 = .ok (.getfield 28, 3) := by decide +kernel
theorem dM_nearest_103 : decode prog_13_method_44_code 103 = .ok (.bipush 8, 2) := by decide +kernel
theorem dM_nearest_105 : decode prog_13_method_44_code 105 = .ok (.iload 4, 2) := by decide +kernel
theorem dM_nearest_107 : decode prog_13_method_44_code 107 = .ok (.imul, 1) := by decide +kernel
theorem dM_nearest_108 : decode prog_13_method_44_code 108 = .ok (.iload 5, 2) := by decide +kernel
theorem dM_nearest_110 : decode prog_13_method_44_code 110 = .ok (.iadd, 1) := by decide +kernel
theorem dM_nearest_111 : decode prog_13_method_44_code 111 = .ok (.iaload, 1) := by decide +kernel
theorem dM_nearest_112 : decode prog_13_method_44_code 112 = .ok (.invokevirtual 250, 3) := by decide +kernel
theorem dM_nearest_115 : decode prog_13_method_44_code 115 = .ok (.aload_n 0, 1) := by decide +kernel
theorem dM_nearest_116 : decode prog_13_method_44_code 116 = .ok (.iload 6, 2) := by decide +kernel
theorem dM_nearest_118 : decode prog_13_method_44_code 118 = .ok (.invokevirtual 254, 3) := by decide +kernel
theorem dM_nearest_121 : decode prog_13_method_44_code 121 = .ok (.ifCond .ne 6, 3) := by decide +kernel
theorem dM_nearest_124 : decode prog_13_method_44_code 124 = .ok (.goto 41, 3) := by decide +kernel
theorem dM_nearest_127 : decode prog_13_method_44_code 127 = .ok (.aload_n 0, 1) := by decide +kernel
theorem dM_nearest_128 : decode prog_13_method_44_code 128 = .ok (.iload 6, 2) := by decide +kernel
theorem dM_nearest_130 : decode prog_13_method_44_code 130 = .ok (.putfield 231, 3) := by decide +kernel
theorem dM_nearest_133 : decode prog_13_method_44_code 133 = .ok (.aload_n 0, 1) := by decide +kernel
theorem dM_nearest_134 : decode prog_13_method_44_code 134 = .ok (.aload_n 0, 1) := by decide +kernel
theorem dM_nearest_135 : decode prog_13_method_44_code 135 = .ok (.getfield 225, 3) := by decide +kernel
theorem dM_nearest_138 : decode prog_13_method_44_code 138 = .ok (.putfield 234, 3) := by decide +kernel
theorem dM_nearest_141 : decode prog_13_method_44_code 141 = .ok (.aload_n 0, 1) := by decide +kernel
theorem dM_nearest_142 : decode prog_13_method_44_code 142 = .ok (.aload_n 0, 1) := by decide +kernel
theorem dM_nearest_143 : decode prog_13_method_44_code 143 = .ok (.getfield 222, 3) := by decide +kernel
theorem dM_nearest_146 : decode prog_13_method_44_code 146 = .ok (.putfield 237, 3) := by decide +kernel
theorem dM_nearest_149 : decode prog_13_method_44_code 149 = .ok (.aload_n 0, 1) := by decide +kernel
theorem dM_nearest_150 : decode prog_13_method_44_code 150 = .ok (.aload_n 0, 1) := by decide +kernel
theorem dM_nearest_151 : decode prog_13_method_44_code 151 = .ok (.getfield 228, 3) := by decide +kernel
theorem dM_nearest_154 : decode prog_13_method_44_code 154 = .ok (.putfield 244, 3) := by decide +kernel
theorem dM_nearest_157 : decode prog_13_method_44_code 157 = .ok (.aload_n 0, 1) := by decide +kernel
theorem dM_nearest_158 : decode prog_13_method_44_code 158 = .ok (.aload_n 0, 1) := by decide +kernel
theorem dM_nearest_159 : decode prog_13_method_44_code 159 = .ok (.getfield 218, 3) := by decide +kernel
theorem dM_nearest_162 : decode prog_13_method_44_code 162 = .ok (.putfield 247, 3) := by decide +kernel
theorem dM_nearest_165 : decode prog_13_method_44_code 165 = .ok (.iinc 6 1, 3) := by decide +kernel
theorem dM_nearest_168 : decode prog_13_method_44_code 168 = .ok (.goto (-137), 3) := by decide +kernel
theorem dM_nearest_171 : decode prog_13_method_44_code 171 = .ok (.iinc 5 1, 3) := by decide +kernel
theorem dM_nearest_174 : decode prog_13_method_44_code 174 = .ok (.goto (-158), 3) := by decide +kernel
theorem dM_nearest_177 : decode prog_13_method_44_code 177 = .ok (.return_, 1) := by decide +kernel
theorem dM_isOnRoute_0 : decode prog_13_method_45_code 0 = .ok (.aload_n 0, 1) := by decide +kernel
theorem dM_isOnRoute_1 : decode prog_13_method_45_code 1 = .ok (.getfield 88, 3) := by decide +kernel
theorem dM_isOnRoute_4 : decode prog_13_method_45_code 4 = .ok (.iload_n 3, 1) := by decide +kernel
theorem dM_isOnRoute_5 : decode prog_13_method_45_code 5 = .ok (.iaload, 1) := by decide +kernel
theorem dM_isOnRoute_6 : decode prog_13_method_45_code 6 = .ok (.iconst 2, 1) := by decide +kernel
theorem dM_isOnRoute_7 : decode prog_13_method_45_code 7 = .ok (.if_icmp .ge 5, 3) := by decide +kernel
theorem dM_isOnRoute_10 : decode prog_13_method_45_code 10 = .ok (.iconst 0, 1) := by decide +kernel
theorem dM_isOnRoute_11 : decode prog_13_method_45_code 11 = .ok (.ireturn, 1) := by decide +kernel
theorem dM_isOnRoute_12 : decode prog_13_method_45_code 12 = .ok (.aload_n 0, 1) := by decide +kernel
theorem dM_isOnRoute_13 : decode prog_13_method_45_code 13 = .ok (.iload_n 1, 1) := by decide +kernel
theorem dM_isOnRoute_14 : decode prog_13_method_45_code 14 = .ok (.iload_n 2, 1) := by decide +kernel
theorem dM_isOnRoute_15 : decode prog_13_method_45_code 15 = .ok (.iload_n 3, 1) := by decide +kernel
theorem dM_isOnRoute_16 : decode prog_13_method_45_code 16 = .ok (.invokevirtual 257, 3) := by decide +kernel
theorem dM_isOnRoute_19 : decode prog_13_method_45_code 19 = .ok (.aload_n 0, 1) := by decide +kernel
theorem dM_isOnRoute_20 : decode prog_13_method_45_code 20 = .ok (.getfield 234, 3) := by decide +kernel
theorem dM_isOnRoute_23 : decode prog_13_method_45_code 23 = .ok (.iload 4, 2) := by decide +kernel
theorem dM_isOnRoute_25 : decode prog_13_method_45_code 25 = .ok (.i2l, 1) := by decide +kernel
theorem dM_isOnRoute_26 : decode prog_13_method_45_code 26 = .ok (.iload 4, 2) := by decide +kernel
theorem dM_isOnRoute_28 : decode prog_13_method_45_code 28 = .ok (.i2l, 1) := by decide +kernel
theorem dM_isOnRoute_29 : decode prog_13_method_45_code 29 = .ok (.lmul, 1) := by decide +kernel
theorem dM_isOnRoute_30 : decode prog_13_method_45_code 30 = .ok (.aload_n 0, 1) := by decide +kernel
theorem dM_isOnRoute_31 : decode prog_13_method_45_code 31 = .ok (.getfield 237, 3) := by decide +kernel
theorem dM_isOnRoute_34 : decode prog_13_method_45_code 34 = .ok (.lmul, 1) := by decide +kernel
theorem dM_isOnRoute_35 : decode prog_13_method_45_code 35 = .ok (.lcmp, 1) := by decide +kernel
theorem dM_isOnRoute_36 : decode prog_13_method_45_code 36 = .ok (.ifCond .gt 7, 3) := by decide +kernel
theorem dM_isOnRoute_39 : decode prog_13_method_45_code 39 = .ok (.iconst 1, 1) := by decide +kernel
theorem dM_isOnRoute_40 : decode prog_13_method_45_code 40 = .ok (.goto 4, 3) := by decide +kernel
theorem dM_isOnRoute_43 : decode prog_13_method_45_code 43 = .ok (.iconst 0, 1) := by decide +kernel
theorem dM_isOnRoute_44 : decode prog_13_method_45_code 44 = .ok (.ireturn, 1) := by decide +kernel
theorem dM_meets_0 : decode prog_13_method_46_code 0 = .ok (.aload_n 0, 1) := by decide +kernel
theorem dM_meets_1 : decode prog_13_method_46_code 1 = .ok (.iload_n 1, 1) := by decide +kernel
theorem dM_meets_2 : decode prog_13_method_46_code 2 = .ok (.iload_n 2, 1) := by decide +kernel
theorem dM_meets_3 : decode prog_13_method_46_code 3 = .ok (.invokevirtual 261, 3) := by decide +kernel
theorem dM_meets_6 : decode prog_13_method_46_code 6 = .ok (.istore 4, 2) := by decide +kernel
theorem dM_meets_8 : decode prog_13_method_46_code 8 = .ok (.iconst 0, 1) := by decide +kernel
theorem dM_meets_9 : decode prog_13_method_46_code 9 = .ok (.istore 5, 2) := by decide +kernel
theorem dM_meets_11 : decode prog_13_method_46_code 11 = .ok (.iload 5, 2) := by decide +kernel
theorem dM_meets_13 : decode prog_13_method_46_code 13 = .ok (.aload_n 0, 1) := by decide +kernel
theorem dM_meets_14 : decode prog_13_method_46_code 14 = .ok (.getfield 67, 3) := by decide +kernel
theorem dM_meets_17 : decode prog_13_method_46_code 17 = .ok (.iload_n 3, 1) := by decide +kernel
theorem dM_meets_18 : decode prog_13_method_46_code 18 = .ok (.iaload, 1) := by decide +kernel
theorem dM_meets_19 : decode prog_13_method_46_code 19 = .ok (.if_icmp .ge 209, 3) := by decide +kernel
theorem dM_meets_22 : decode prog_13_method_46_code 22 = .ok (.iload 4, 2) := by decide +kernel
theorem dM_meets_24 : decode prog_13_method_46_code 24 = .ok (.ifCond .eq 204, 3) := by decide +kernel
theorem dM_meets_27 : decode prog_13_method_46_code 27 = .ok (.iconst 5, 1) := by decide +kernel
theorem dM_meets_28 : decode prog_13_method_46_code 28 = .ok (.iload_n 3, 1) := by decide +kernel
theorem dM_meets_29 : decode prog_13_method_46_code 29 = .ok (.imul, 1) := by decide +kernel
theorem dM_meets_30 : decode prog_13_method_46_code 30 = .ok (.iload 5, 2) := by decide +kernel
theorem dM_meets_32 : decode prog_13_method_46_code 32 = .ok (.iadd, 1) := by decide +kernel
theorem dM_meets_33 : decode prog_13_method_46_code 33 = .ok (.istore 6, 2) := by decide +kernel
theorem dM_meets_35 : decode prog_13_method_46_code 35 = .ok (.aload_n 0, 1) := by decide +kernel
theorem dM_meets_36 : decode prog_13_method_46_code 36 = .ok (.getfield 73, 3) := by decide +kernel
theorem dM_meets_39 : decode prog_13_method_46_code 39 = .ok (.iload 6, 2) := by decide +kernel
theorem dM_meets_41 : decode prog_13_method_46_code 41 = .ok (.iaload, 1) := by decide +kernel
theorem dM_meets_42 : decode prog_13_method_46_code 42 = .ok (.istore 7, 2) := by decide +kernel
theorem dM_meets_44 : decode prog_13_method_46_code 44 = .ok (.aload_n 0, 1) := by decide +kernel
theorem dM_meets_45 : decode prog_13_method_46_code 45 = .ok (.getfield 70, 3) := by decide +kernel
theorem dM_meets_48 : decode prog_13_method_46_code 48 = .ok (.iload 6, 2) := by decide +kernel
theorem dM_meets_50 : decode prog_13_method_46_code 50 = .ok (.iaload, 1) := by decide +kernel
theorem dM_meets_51 : decode prog_13_method_46_code 51 = .ok (.istore 8, 2) := by decide +kernel
theorem dM_meets_53 : decode prog_13_method_46_code 53 = .ok (.iload 8, 2) := by decide +kernel
theorem dM_meets_55 : decode prog_13_method_46_code 55 = .ok (.iconst 4, 1) := by decide +kernel
theorem dM_meets_56 : decode prog_13_method_46_code 56 = .ok (.if_icmp .ge 16, 3) := by decide +kernel
theorem dM_meets_59 : decode prog_13_method_46_code 59 = .ok (.aload_n 0, 1) := by decide +kernel
theorem dM_meets_60 : decode prog_13_method_46_code 60 = .ok (.iload_n 1, 1) := by decide +kernel
theorem dM_meets_61 : decode prog_13_method_46_code 61 = .ok (.iload_n 2, 1) := by decide +kernel
theorem dM_meets_62 : decode prog_13_method_46_code 62 = .ok (.iload 6, 2) := by decide +kernel
theorem dM_meets_64 : decode prog_13_method_46_code 64 = .ok (.invokevirtual 264, 3) := by decide +kernel
theorem dM_meets_67 : decode prog_13_method_46_code 67 = .ok (.istore 4, 2) := by decide +kernel
theorem dM_meets_69 : decode prog_13_method_46_code 69 = .ok (.goto 153, 3) := by decide +kernel
theorem dM_meets_72 : decode prog_13_method_46_code 72 = .ok (.iload 8, 2) := by decide +kernel
theorem dM_meets_74 : decode prog_13_method_46_code 74 = .ok (.iconst 4, 1) := by decide +kernel
theorem dM_meets_75 : decode prog_13_method_46_code 75 = .ok (.if_icmp .ne 24, 3) := by decide +kernel
theorem dM_meets_78 : decode prog_13_method_46_code 78 = .ok (.aload_n 0, 1) := by decide +kernel
theorem dM_meets_79 : decode prog_13_method_46_code 79 = .ok (.getfield 7, 3) := by decide +kernel
theorem dM_meets_82 : decode prog_13_method_46_code 82 = .ok (.iload_n 1, 1) := by decide +kernel
theorem dM_meets_83 : decode prog_13_method_46_code 83 = .ok (.iaload, 1) := by decide +kernel
theorem dM_meets_84 : decode prog_13_method_46_code 84 = .ok (.iload 7, 2) := by decide +kernel
theorem dM_meets_86 : decode prog_13_method_46_code 86 = .ok (.if_icmp .ne 7, 3) := by decide +kernel
theorem dM_meets_89 : decode prog_13_method_46_code 89 = .ok (.iconst 1, 1) := by decide +kernel
theorem dM_meets_90 : decode prog_13_method_46_code 90 = .ok (.goto 4, 3) := by decide +kernel
theorem dM_meets_93 : decode prog_13_method_46_code 93 = .ok (.iconst 0, 1) := by decide +kernel
theorem dM_meets_94 : decode prog_13_method_46_code 94 = .ok (.istore 4, 2) := by decide +kernel
theorem dM_meets_96 : decode prog_13_method_46_code 96 = .ok (.goto 126, 3) := by decide +kernel
theorem dM_meets_99 : decode prog_13_method_46_code 99 = .ok (.iload 8, 2) := by decide +kernel
theorem dM_meets_101 : decode prog_13_method_46_code 101 = .ok (.iconst 5, 1) := by decide +kernel
theorem dM_meets_102 : decode prog_13_method_46_code 102 = .ok (.if_icmp .ne 16, 3) := by decide +kernel
theorem dM_meets_105 : decode prog_13_method_46_code 105 = .ok (.aload_n 0, 1) := by decide +kernel
theorem dM_meets_106 : decode prog_13_method_46_code 106 = .ok (.iload_n 1, 1) := by decide +kernel
theorem dM_meets_107 : decode prog_13_method_46_code 107 = .ok (.iload 7, 2) := by decide +kernel
theorem dM_meets_109 : decode prog_13_method_46_code 109 = .ok (.iload_n 2, 1) := by decide +kernel
theorem dM_meets_110 : decode prog_13_method_46_code 110 = .ok (.invokevirtual 267, 3) := by decide +kernel
theorem dM_meets_113 : decode prog_13_method_46_code 113 = .ok (.istore 4, 2) := by decide +kernel
theorem dM_meets_115 : decode prog_13_method_46_code 115 = .ok (.goto 107, 3) := by decide +kernel
theorem dM_meets_118 : decode prog_13_method_46_code 118 = .ok (.iload 8, 2) := by decide +kernel
theorem dM_meets_120 : decode prog_13_method_46_code 120 = .ok (.bipush 6, 2) := by decide +kernel
theorem dM_meets_122 : decode prog_13_method_46_code 122 = .ok (.if_icmp .ne 39, 3) := by decide +kernel
theorem dM_meets_125 : decode prog_13_method_46_code 125 = .ok (.aload_n 0, 1) := by decide +kernel
theorem dM_meets_126 : decode prog_13_method_46_code 126 = .ok (.iload_n 1, 1) := by decide +kernel
theorem dM_meets_127 : decode prog_13_method_46_code 127 = .ok (.iload_n 2, 1) := by decide +kernel
theorem dM_meets_128 : decode prog_13_method_46_code 128 = .ok (.invokevirtual 202, 3) := by decide +kernel
theorem dM_meets_131 : decode prog_13_method_46_code 131 = .ok (.iconst (-1), 1) := by decide +kernel
theorem dM_meets_132 : decode prog_13_method_46_code 132 = .ok (.if_icmp .eq 23, 3) := by decide +kernel
theorem dM_meets_135 : decode prog_13_method_46_code 135 = .ok (.aload_n 0, 1) := by decide +kernel
theorem dM_meets_136 : decode prog_13_method_46_code 136 = .ok (.iload 7, 2) := by decide +kernel
theorem dM_meets_138 : decode prog_13_method_46_code 138 = .ok (.aload_n 0, 1) := by decide +kernel
theorem dM_meets_139 : decode prog_13_method_46_code 139 = .ok (.iload_n 1, 1) := by decide +kernel
theorem dM_meets_140 : decode prog_13_method_46_code 140 = .ok (.iload_n 2, 1) := by decide +kernel
theorem dM_meets_141 : decode prog_13_method_46_code 141 = .ok (.invokevirtual 202, 3) := by decide +kernel
theorem dM_meets_144 : decode prog_13_method_46_code 144 = .ok (.iload_n 2, 1) := by decide +kernel
theorem dM_meets_145 : decode prog_13_method_46_code 145 = .ok (.invokevirtual 205, 3) := by decide +kernel
theorem dM_meets_148 : decode prog_13_method_46_code 148 = .ok (.ifCond .eq 7, 3) := by decide +kernel
theorem dM_meets_151 : decode prog_13_method_46_code 151 = .ok (.iconst 1, 1) := by decide +kernel
theorem dM_meets_152 : decode prog_13_method_46_code 152 = .ok (.goto 4, 3) := by decide +kernel
theorem dM_meets_155 : decode prog_13_method_46_code 155 = .ok (.iconst 0, 1) := by decide +kernel
theorem dM_meets_156 : decode prog_13_method_46_code 156 = .ok (.istore 4, 2) := by decide +kernel
theorem dM_meets_158 : decode prog_13_method_46_code 158 = .ok (.goto 64, 3) := by decide +kernel
theorem dM_meets_161 : decode prog_13_method_46_code 161 = .ok (.iload 8, 2) := by decide +kernel
theorem dM_meets_163 : decode prog_13_method_46_code 163 = .ok (.bipush 7, 2) := by decide +kernel
theorem dM_meets_165 : decode prog_13_method_46_code 165 = .ok (.if_icmp .ne 46, 3) := by decide +kernel
theorem dM_meets_168 : decode prog_13_method_46_code 168 = .ok (.aload_n 0, 1) := by decide +kernel
theorem dM_meets_169 : decode prog_13_method_46_code 169 = .ok (.iload_n 1, 1) := by decide +kernel
theorem dM_meets_170 : decode prog_13_method_46_code 170 = .ok (.iload_n 2, 1) := by decide +kernel
theorem dM_meets_171 : decode prog_13_method_46_code 171 = .ok (.iload 7, 2) := by decide +kernel
theorem dM_meets_173 : decode prog_13_method_46_code 173 = .ok (.aload_n 0, 1) := by decide +kernel
theorem dM_meets_174 : decode prog_13_method_46_code 174 = .ok (.getfield 76, 3) := by decide +kernel
theorem dM_meets_177 : decode prog_13_method_46_code 177 = .ok (.iload 6, 2) := by decide +kernel
theorem dM_meets_179 : decode prog_13_method_46_code 179 = .ok (.iaload, 1) := by decide +kernel
theorem dM_meets_180 : decode prog_13_method_46_code 180 = .ok (.invokevirtual 270, 3) := by decide +kernel
theorem dM_meets_183 : decode prog_13_method_46_code 183 = .ok (.aload_n 0, 1) := by decide +kernel
theorem dM_meets_184 : decode prog_13_method_46_code 184 = .ok (.getfield 79, 3) := by decide +kernel
theorem dM_meets_187 : decode prog_13_method_46_code 187 = .ok (.iload 6, 2) := by decide +kernel
theorem dM_meets_189 : decode prog_13_method_46_code 189 = .ok (.iaload, 1) := by decide +kernel
theorem dM_meets_190 : decode prog_13_method_46_code 190 = .ok (.aload_n 0, 1) := by decide +kernel
theorem dM_meets_191 : decode prog_13_method_46_code 191 = .ok (.getfield 79, 3) := by decide +kernel
theorem dM_meets_194 : decode prog_13_method_46_code 194 = .ok (.iload 6, 2) := by decide +kernel
theorem dM_meets_196 : decode prog_13_method_46_code 196 = .ok (.iaload, 1) := by decide +kernel
theorem dM_meets_197 : decode prog_13_method_46_code 197 = .ok (.imul, 1) := by decide +kernel
theorem dM_meets_198 : decode prog_13_method_46_code 198 = .ok (.if_icmp .gt 7, 3) := by decide +kernel
theorem dM_meets_201 : decode prog_13_method_46_code 201 = .ok (.iconst 1, 1) := by decide +kernel
theorem dM_meets_202 : decode prog_13_method_46_code 202 = .ok (.goto 4, 3) := by decide +kernel
theorem dM_meets_205 : decode prog_13_method_46_code 205 = .ok (.iconst 0, 1) := by decide +kernel
theorem dM_meets_206 : decode prog_13_method_46_code 206 = .ok (.istore 4, 2) := by decide +kernel
theorem dM_meets_208 : decode prog_13_method_46_code 208 = .ok (.goto 14, 3) := by decide +kernel
theorem dM_meets_211 : decode prog_13_method_46_code 211 = .ok (.aload_n 0, 1) := by decide +kernel
theorem dM_meets_212 : decode prog_13_method_46_code 212 = .ok (.iload_n 1, 1) := by decide +kernel
theorem dM_meets_213 : decode prog_13_method_46_code 213 = .ok (.iload_n 2, 1) := by decide +kernel
theorem dM_meets_214 : decode prog_13_method_46_code 214 = .ok (.iload_n 3, 1) := by decide +kernel
theorem dM_meets_215 : decode prog_13_method_46_code 215 = .ok (.iload 7, 2) := by decide +kernel
theorem dM_meets_217 : decode prog_13_method_46_code 217 = .ok (.invokevirtual 274, 3) := by decide +kernel
theorem dM_meets_220 : decode prog_13_method_46_code 220 = .ok (.istore 4, 2) := by decide +kernel
theorem dM_meets_222 : decode prog_13_method_46_code 222 = .ok (.iinc 5 1, 3) := by decide +kernel
theorem dM_meets_225 : decode prog_13_method_46_code 225 = .ok (.goto (-214), 3) := by decide +kernel
theorem dM_meets_228 : decode prog_13_method_46_code 228 = .ok (.iload 4, 2) := by decide +kernel
theorem dM_meets_230 : decode prog_13_method_46_code 230 = .ok (.ireturn, 1) := by decide +kernel
theorem dM_compareWords_0 : decode prog_13_method_47_code 0 = .ok (.iconst 0, 1) := by decide +kernel
theorem dM_compareWords_1 : decode prog_13_method_47_code 1 = .ok (.istore_n 3, 1) := by decide +kernel
theorem dM_compareWords_2 : decode prog_13_method_47_code 2 = .ok (.iload_n 3, 1) := by decide +kernel
theorem dM_compareWords_3 : decode prog_13_method_47_code 3 = .ok (.aload_n 0, 1) := by decide +kernel
theorem dM_compareWords_4 : decode prog_13_method_47_code 4 = .ok (.getfield 40, 3) := by decide +kernel
theorem dM_compareWords_7 : decode prog_13_method_47_code 7 = .ok (.iload_n 1, 1) := by decide +kernel
theorem dM_compareWords_8 : decode prog_13_method_47_code 8 = .ok (.iaload, 1) := by decide +kernel
theorem dM_compareWords_9 : decode prog_13_method_47_code 9 = .ok (.if_icmp .ge 44, 3) := by decide +kernel
theorem dM_compareWords_12 : decode prog_13_method_47_code 12 = .ok (.iload_n 3, 1) := by decide +kernel
theorem dM_compareWords_13 : decode prog_13_method_47_code 13 = .ok (.aload_n 0, 1) := by decide +kernel
theorem dM_compareWords_14 : decode prog_13_method_47_code 14 = .ok (.getfield 40, 3) := by decide +kernel
theorem dM_compareWords_17 : decode prog_13_method_47_code 17 = .ok (.iload_n 2, 1) := by decide +kernel
theorem dM_compareWords_18 : decode prog_13_method_47_code 18 = .ok (.iaload, 1) := by decide +kernel
theorem dM_compareWords_19 : decode prog_13_method_47_code 19 = .ok (.if_icmp .ge 34, 3) := by decide +kernel
theorem dM_compareWords_22 : decode prog_13_method_47_code 22 = .ok (.aload_n 0, 1) := by decide +kernel
theorem dM_compareWords_23 : decode prog_13_method_47_code 23 = .ok (.getfield 43, 3) := by decide +kernel
theorem dM_compareWords_26 : decode prog_13_method_47_code 26 = .ok (.bipush 10, 2) := by decide +kernel
theorem dM_compareWords_28 : decode prog_13_method_47_code 28 = .ok (.iload_n 1, 1) := by decide +kernel
theorem dM_compareWords_29 : decode prog_13_method_47_code 29 = .ok (.imul, 1) := by decide +kernel
theorem dM_compareWords_30 : decode prog_13_method_47_code 30 = .ok (.iload_n 3, 1) := by decide +kernel
theorem dM_compareWords_31 : decode prog_13_method_47_code 31 = .ok (.iadd, 1) := by decide +kernel
theorem dM_compareWords_32 : decode prog_13_method_47_code 32 = .ok (.iaload, 1) := by decide +kernel
theorem dM_compareWords_33 : decode prog_13_method_47_code 33 = .ok (.aload_n 0, 1) := by decide +kernel
theorem dM_compareWords_34 : decode prog_13_method_47_code 34 = .ok (.getfield 43, 3) := by decide +kernel
theorem dM_compareWords_37 : decode prog_13_method_47_code 37 = .ok (.bipush 10, 2) := by decide +kernel
theorem dM_compareWords_39 : decode prog_13_method_47_code 39 = .ok (.iload_n 2, 1) := by decide +kernel
theorem dM_compareWords_40 : decode prog_13_method_47_code 40 = .ok (.imul, 1) := by decide +kernel
theorem dM_compareWords_41 : decode prog_13_method_47_code 41 = .ok (.iload_n 3, 1) := by decide +kernel
theorem dM_compareWords_42 : decode prog_13_method_47_code 42 = .ok (.iadd, 1) := by decide +kernel
theorem dM_compareWords_43 : decode prog_13_method_47_code 43 = .ok (.iaload, 1) := by decide +kernel
theorem dM_compareWords_44 : decode prog_13_method_47_code 44 = .ok (.if_icmp .ne 9, 3) := by decide +kernel
theorem dM_compareWords_47 : decode prog_13_method_47_code 47 = .ok (.iinc 3 1, 3) := by decide +kernel
theorem dM_compareWords_50 : decode prog_13_method_47_code 50 = .ok (.goto (-48), 3) := by decide +kernel
theorem dM_compareWords_53 : decode prog_13_method_47_code 53 = .ok (.iload_n 3, 1) := by decide +kernel
theorem dM_compareWords_54 : decode prog_13_method_47_code 54 = .ok (.aload_n 0, 1) := by decide +kernel
theorem dM_compareWords_55 : decode prog_13_method_47_code 55 = .ok (.getfield 40, 3) := by decide +kernel
theorem dM_compareWords_58 : decode prog_13_method_47_code 58 = .ok (.iload_n 1, 1) := by decide +kernel
theorem dM_compareWords_59 : decode prog_13_method_47_code 59 = .ok (.iaload, 1) := by decide +kernel
theorem dM_compareWords_60 : decode prog_13_method_47_code 60 = .ok (.if_icmp .eq 13, 3) := by decide +kernel
theorem dM_compareWords_63 : decode prog_13_method_47_code 63 = .ok (.iload_n 3, 1) := by decide +kernel
theorem dM_compareWords_64 : decode prog_13_method_47_code 64 = .ok (.aload_n 0, 1) := by decide +kernel
theorem dM_compareWords_65 : decode prog_13_method_47_code 65 = .ok (.getfield 40, 3) := by decide +kernel
theorem dM_compareWords_68 : decode prog_13_method_47_code 68 = .ok (.iload_n 2, 1) := by decide +kernel
theorem dM_compareWords_69 : decode prog_13_method_47_code 69 = .ok (.iaload, 1) := by decide +kernel
theorem dM_compareWords_70 : decode prog_13_method_47_code 70 = .ok (.if_icmp .ne 17, 3) := by decide +kernel
theorem dM_compareWords_73 : decode prog_13_method_47_code 73 = .ok (.aload_n 0, 1) := by decide +kernel
theorem dM_compareWords_74 : decode prog_13_method_47_code 74 = .ok (.getfield 40, 3) := by decide +kernel
theorem dM_compareWords_77 : decode prog_13_method_47_code 77 = .ok (.iload_n 1, 1) := by decide +kernel
theorem dM_compareWords_78 : decode prog_13_method_47_code 78 = .ok (.iaload, 1) := by decide +kernel
theorem dM_compareWords_79 : decode prog_13_method_47_code 79 = .ok (.aload_n 0, 1) := by decide +kernel
theorem dM_compareWords_80 : decode prog_13_method_47_code 80 = .ok (.getfield 40, 3) := by decide +kernel
theorem dM_compareWords_83 : decode prog_13_method_47_code 83 = .ok (.iload_n 2, 1) := by decide +kernel
theorem dM_compareWords_84 : decode prog_13_method_47_code 84 = .ok (.iaload, 1) := by decide +kernel
theorem dM_compareWords_85 : decode prog_13_method_47_code 85 = .ok (.isub, 1) := by decide +kernel
theorem dM_compareWords_86 : decode prog_13_method_47_code 86 = .ok (.ireturn, 1) := by decide +kernel
theorem dM_compareWords_87 : decode prog_13_method_47_code 87 = .ok (.aload_n 0, 1) := by decide +kernel
theorem dM_compareWords_88 : decode prog_13_method_47_code 88 = .ok (.getfield 43, 3) := by decide +kernel
theorem dM_compareWords_91 : decode prog_13_method_47_code 91 = .ok (.bipush 10, 2) := by decide +kernel
theorem dM_compareWords_93 : decode prog_13_method_47_code 93 = .ok (.iload_n 1, 1) := by decide +kernel
theorem dM_compareWords_94 : decode prog_13_method_47_code 94 = .ok (.imul, 1) := by decide +kernel
theorem dM_compareWords_95 : decode prog_13_method_47_code 95 = .ok (.iload_n 3, 1) := by decide +kernel
theorem dM_compareWords_96 : decode prog_13_method_47_code 96 = .ok (.iadd, 1) := by decide +kernel
theorem dM_compareWords_97 : decode prog_13_method_47_code 97 = .ok (.iaload, 1) := by decide +kernel
theorem dM_compareWords_98 : decode prog_13_method_47_code 98 = .ok (.aload_n 0, 1) := by decide +kernel
theorem dM_compareWords_99 : decode prog_13_method_47_code 99 = .ok (.getfield 43, 3) := by decide +kernel
theorem dM_compareWords_102 : decode prog_13_method_47_code 102 = .ok (.bipush 10, 2) := by decide +kernel
theorem dM_compareWords_104 : decode prog_13_method_47_code 104 = .ok (.iload_n 2, 1) := by decide +kernel
theorem dM_compareWords_105 : decode prog_13_method_47_code 105 = .ok (.imul, 1) := by decide +kernel
