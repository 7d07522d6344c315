theorem dM_parent_195 : decode prog_13_method_31_code 195 = .ok (.invokevirtual 205, 3) := by decide +kernel
theorem dM_parent_198 : decode prog_13_method_31_code 198 = .ok (.ifCond .eq 8, 3) := by decide +kernel
theorem dM_parent_201 : decode prog_13_method_31_code 201 = .ok (.aload_n 0, 1) := by decide +kernel
theorem dM_parent_202 : decode prog_13_method_31_code 202 = .ok (.iconst 3, 1) := by decide +kernel
theorem dM_parent_203 : decode prog_13_method_31_code 203 = .ok (.putfield 132, 3) := by decide +kernel
theorem dM_parent_206 : decode prog_13_method_31_code 206 = .ok (.iinc 6 1, 3) := by decide +kernel
theorem dM_parent_209 : decode prog_13_method_31_code 209 = .ok (.goto (-56), 3) := by decide +kernel
theorem dM_parent_212 : decode prog_13_method_31_code 212 = .ok (.iinc 5 1, 3) := by decide +kernel
theorem dM_parent_215 : decode prog_13_method_31_code 215 = .ok (.goto (-81), 3) := by decide +kernel
theorem dM_parent_218 : decode prog_13_method_31_code 218 = .ok (.aload_n 0, 1) := by decide +kernel
theorem dM_parent_219 : decode prog_13_method_31_code 219 = .ok (.getfield 132, 3) := by decide +kernel
theorem dM_parent_222 : decode prog_13_method_31_code 222 = .ok (.ifCond .le 4, 3) := by decide +kernel
theorem dM_parent_225 : decode prog_13_method_31_code 225 = .ok (.return_, 1) := by decide +kernel
theorem dM_parent_226 : decode prog_13_method_31_code 226 = .ok (.iconst 4, 1) := by decide +kernel
theorem dM_parent_227 : decode prog_13_method_31_code 227 = .ok (.iload_n 1, 1) := by decide +kernel
theorem dM_parent_228 : decode prog_13_method_31_code 228 = .ok (.imul, 1) := by decide +kernel
theorem dM_parent_229 : decode prog_13_method_31_code 229 = .ok (.aload_n 0, 1) := by decide +kernel
theorem dM_parent_230 : decode prog_13_method_31_code 230 = .ok (.getfield 46, 3) := by decide +kernel
theorem dM_parent_233 : decode prog_13_method_31_code 233 = .ok (.iload_n 1, 1) := by decide +kernel
theorem dM_parent_234 : decode prog_13_method_31_code 234 = .ok (.iaload, 1) := by decide +kernel
theorem dM_parent_235 : decode prog_13_method_31_code 235 = .ok (.iadd, 1) := by decide +kernel
theorem dM_parent_236 : decode prog_13_method_31_code 236 = .ok (.istore 5, 2) := by decide +kernel
theorem dM_parent_238 : decode prog_13_method_31_code 238 = .ok (.aload_n 0, 1) := by decide +kernel
theorem dM_parent_239 : decode prog_13_method_31_code 239 = .ok (.getfield 49, 3) := by decide +kernel
theorem dM_parent_242 : decode prog_13_method_31_code 242 = .ok (.iload 5, 2) := by decide +kernel
theorem dM_parent_244 : decode prog_13_method_31_code 244 = .ok (.iload_n 2, 1) := by decide +kernel
theorem dM_parent_245 : decode prog_13_method_31_code 245 = .ok (.iastore, 1) := by decide +kernel
theorem dM_parent_246 : decode prog_13_method_31_code 246 = .ok (.aload_n 0, 1) := by decide +kernel
theorem dM_parent_247 : decode prog_13_method_31_code 247 = .ok (.getfield 52, 3) := by decide +kernel
theorem dM_parent_250 : decode prog_13_method_31_code 250 = .ok (.iload 5, 2) := by decide +kernel
theorem dM_parent_252 : decode prog_13_method_31_code 252 = .ok (.iload_n 3, 1) := by decide +kernel
theorem dM_parent_253 : decode prog_13_method_31_code 253 = .ok (.iastore, 1) := by decide +kernel
theorem dM_parent_254 : decode prog_13_method_31_code 254 = .ok (.aload_n 0, 1) := by decide +kernel
theorem dM_parent_255 : decode prog_13_method_31_code 255 = .ok (.getfield 55, 3) := by decide +kernel
theorem dM_parent_258 : decode prog_13_method_31_code 258 = .ok (.iload 5, 2) := by decide +kernel
theorem dM_parent_260 : decode prog_13_method_31_code 260 = .ok (.iload 4, 2) := by decide +kernel
theorem dM_parent_262 : decode prog_13_method_31_code 262 = .ok (.iastore, 1) := by decide +kernel
theorem dM_parent_263 : decode prog_13_method_31_code 263 = .ok (.aload_n 0, 1) := by decide +kernel
theorem dM_parent_264 : decode prog_13_method_31_code 264 = .ok (.getfield 46, 3) := by decide +kernel
theorem dM_parent_267 : decode prog_13_method_31_code 267 = .ok (.iload_n 1, 1) := by decide +kernel
theorem dM_parent_268 : decode prog_13_method_31_code 268 = .ok (.dup2, 1) := by decide +kernel
theorem dM_parent_269 : decode prog_13_method_31_code 269 = .ok (.iaload, 1) := by decide +kernel
theorem dM_parent_270 : decode prog_13_method_31_code 270 = .ok (.iconst 1, 1) := by decide +kernel
theorem dM_parent_271 : decode prog_13_method_31_code 271 = .ok (.iadd, 1) := by decide +kernel
theorem dM_parent_272 : decode prog_13_method_31_code 272 = .ok (.iastore, 1) := by decide +kernel
theorem dM_parent_273 : decode prog_13_method_31_code 273 = .ok (.return_, 1) := by decide +kernel
theorem dM_remove_0 : decode prog_13_method_32_code 0 = .ok (.aload_n 0, 1) := by decide +kernel
theorem dM_remove_1 : decode prog_13_method_32_code 1 = .ok (.aload_n 0, 1) := by decide +kernel
theorem dM_remove_2 : decode prog_13_method_32_code 2 = .ok (.iload_n 1, 1) := by decide +kernel
theorem dM_remove_3 : decode prog_13_method_32_code 3 = .ok (.invokevirtual 154, 3) := by decide +kernel
theorem dM_remove_6 : decode prog_13_method_32_code 6 = .ok (.ifCond .eq 10, 3) := by decide +kernel
theorem dM_remove_9 : decode prog_13_method_32_code 9 = .ok (.iload_n 2, 1) := by decide +kernel
theorem dM_remove_10 : decode prog_13_method_32_code 10 = .ok (.invokestatic 143, 3) := by decide +kernel
theorem dM_remove_13 : decode prog_13_method_32_code 13 = .ok (.ifCond .ne 7, 3) := by decide +kernel
theorem dM_remove_16 : decode prog_13_method_32_code 16 = .ok (.iconst 1, 1) := by decide +kernel
theorem dM_remove_17 : decode prog_13_method_32_code 17 = .ok (.goto 18, 3) := by decide +kernel
theorem dM_remove_20 : decode prog_13_method_32_code 20 = .ok (.aload_n 0, 1) := by decide +kernel
theorem dM_remove_21 : decode prog_13_method_32_code 21 = .ok (.getfield 13, 3) := by decide +kernel
theorem dM_remove_24 : decode prog_13_method_32_code 24 = .ok (.iload_n 1, 1) := by decide +kernel
theorem dM_remove_25 : decode prog_13_method_32_code 25 = .ok (.iaload, 1) := by decide +kernel
theorem dM_remove_26 : decode prog_13_method_32_code 26 = .ok (.iload_n 2, 1) := by decide +kernel
theorem dM_remove_27 : decode prog_13_method_32_code 27 = .ok (.if_icmp .gt 7, 3) := by decide +kernel
theorem dM_remove_30 : decode prog_13_method_32_code 30 = .ok (.iconst 2, 1) := by decide +kernel
theorem dM_remove_31 : decode prog_13_method_32_code 31 = .ok (.goto 4, 3) := by decide +kernel
theorem dM_remove_34 : decode prog_13_method_32_code 34 = .ok (.iconst 0, 1) := by decide +kernel
theorem dM_remove_35 : decode prog_13_method_32_code 35 = .ok (.putfield 132, 3) := by decide +kernel
theorem dM_remove_38 : decode prog_13_method_32_code 38 = .ok (.aload_n 0, 1) := by decide +kernel
theorem dM_remove_39 : decode prog_13_method_32_code 39 = .ok (.getfield 132, 3) := by decide +kernel
theorem dM_remove_42 : decode prog_13_method_32_code 42 = .ok (.ifCond .ne 10, 3) := by decide +kernel
theorem dM_remove_45 : decode prog_13_method_32_code 45 = .ok (.aload_n 0, 1) := by decide +kernel
theorem dM_remove_46 : decode prog_13_method_32_code 46 = .ok (.getfield 13, 3) := by decide +kernel
theorem dM_remove_49 : decode prog_13_method_32_code 49 = .ok (.iload_n 1, 1) := by decide +kernel
theorem dM_remove_50 : decode prog_13_method_32_code 50 = .ok (.iload_n 2, 1) := by decide +kernel
theorem dM_remove_51 : decode prog_13_method_32_code 51 = .ok (.iastore, 1) := by decide +kernel
theorem dM_remove_52 : decode prog_13_method_32_code 52 = .ok (.return_, 1) := by decide +kernel
theorem dM_chain_0 : decode prog_13_method_33_code 0 = .ok (.aload_n 0, 1) := by decide +kernel
theorem dM_chain_1 : decode prog_13_method_33_code 1 = .ok (.aload_n 0, 1) := by decide +kernel
theorem dM_chain_2 : decode prog_13_method_33_code 2 = .ok (.iload_n 1, 1) := by decide +kernel
theorem dM_chain_3 : decode prog_13_method_33_code 3 = .ok (.invokevirtual 154, 3) := by decide +kernel
theorem dM_chain_6 : decode prog_13_method_33_code 6 = .ok (.ifCond .eq 14, 3) := by decide +kernel
theorem dM_chain_9 : decode prog_13_method_33_code 9 = .ok (.iload_n 2, 1) := by decide +kernel
theorem dM_chain_10 : decode prog_13_method_33_code 10 = .ok (.invokestatic 143, 3) := by decide +kernel
theorem dM_chain_13 : decode prog_13_method_33_code 13 = .ok (.ifCond .eq 7, 3) := by decide +kernel
theorem dM_chain_16 : decode prog_13_method_33_code 16 = .ok (.iload_n 3, 1) := by decide +kernel
theorem dM_chain_17 : decode prog_13_method_33_code 17 = .ok (.ifCond .ge 7, 3) := by decide +kernel
theorem dM_chain_20 : decode prog_13_method_33_code 20 = .ok (.iconst 1, 1) := by decide +kernel
theorem dM_chain_21 : decode prog_13_method_33_code 21 = .ok (.goto 4, 3) := by decide +kernel
theorem dM_chain_24 : decode prog_13_method_33_code 24 = .ok (.iconst 0, 1) := by decide +kernel
theorem dM_chain_25 : decode prog_13_method_33_code 25 = .ok (.putfield 132, 3) := by decide +kernel
theorem dM_chain_28 : decode prog_13_method_33_code 28 = .ok (.aload_n 0, 1) := by decide +kernel
theorem dM_chain_29 : decode prog_13_method_33_code 29 = .ok (.getfield 132, 3) := by decide +kernel
theorem dM_chain_32 : decode prog_13_method_33_code 32 = .ok (.ifCond .le 5, 3) := by decide +kernel
theorem dM_chain_35 : decode prog_13_method_33_code 35 = .ok (.iconst 0, 1) := by decide +kernel
theorem dM_chain_36 : decode prog_13_method_33_code 36 = .ok (.ireturn, 1) := by decide +kernel
theorem dM_chain_37 : decode prog_13_method_33_code 37 = .ok (.aload_n 0, 1) := by decide +kernel
theorem dM_chain_38 : decode prog_13_method_33_code 38 = .ok (.iload_n 1, 1) := by decide +kernel
theorem dM_chain_39 : decode prog_13_method_33_code 39 = .ok (.iload_n 2, 1) := by decide +kernel
theorem dM_chain_40 : decode prog_13_method_33_code 40 = .ok (.invokevirtual 202, 3) := by decide +kernel
theorem dM_chain_43 : decode prog_13_method_33_code 43 = .ok (.istore 4, 2) := by decide +kernel
theorem dM_chain_45 : decode prog_13_method_33_code 45 = .ok (.iconst 0, 1) := by decide +kernel
theorem dM_chain_46 : decode prog_13_method_33_code 46 = .ok (.istore 5, 2) := by decide +kernel
theorem dM_chain_48 : decode prog_13_method_33_code 48 = .ok (.iload 5, 2) := by decide +kernel
theorem dM_chain_50 : decode prog_13_method_33_code 50 = .ok (.iload_n 3, 1) := by decide +kernel
theorem dM_chain_51 : decode prog_13_method_33_code 51 = .ok (.if_icmp .ge 24, 3) := by decide +kernel
theorem dM_chain_54 : decode prog_13_method_33_code 54 = .ok (.iload 4, 2) := by decide +kernel
theorem dM_chain_56 : decode prog_13_method_33_code 56 = .ok (.iconst (-1), 1) := by decide +kernel
theorem dM_chain_57 : decode prog_13_method_33_code 57 = .ok (.if_icmp .eq 18, 3) := by decide +kernel
theorem dM_chain_60 : decode prog_13_method_33_code 60 = .ok (.aload_n 0, 1) := by decide +kernel
theorem dM_chain_61 : decode prog_13_method_33_code 61 = .ok (.iload 4, 2) := by decide +kernel
theorem dM_chain_63 : decode prog_13_method_33_code 63 = .ok (.iload_n 2, 1) := by decide +kernel
theorem dM_chain_64 : decode prog_13_method_33_code 64 = .ok (.invokevirtual 202, 3) := by decide +kernel
theorem dM_chain_67 : decode prog_13_method_33_code 67 = .ok (.istore 4, 2) := by decide +kernel
theorem dM_chain_69 : decode prog_13_method_33_code 69 = .ok (.iinc 5 1, 3) := by decide +kernel
theorem dM_chain_72 : decode prog_13_method_33_code 72 = .ok (.goto (-24), 3) := by decide +kernel
theorem dM_chain_75 : decode prog_13_method_33_code 75 = .ok (.iload 4, 2) := by decide +kernel
theorem dM_chain_77 : decode prog_13_method_33_code 77 = .ok (.ireturn, 1) := by decide +kernel
theorem dM_condition_0 : decode prog_13_method_34_code 0 = .ok (.iload_n 1, 1) := by decide +kernel
theorem dM_condition_1 : decode prog_13_method_34_code 1 = .ok (.iconst 0, 1) := by decide +kernel
theorem dM_condition_2 : decode prog_13_method_34_code 2 = .ok (.bipush 8, 2) := by decide +kernel
theorem dM_condition_4 : decode prog_13_method_34_code 4 = .ok (.invokestatic 139, 3) := by decide +kernel
theorem dM_condition_7 : decode prog_13_method_34_code 7 = .ok (.ifCond .eq 19, 3) := by decide +kernel
theorem dM_condition_10 : decode prog_13_method_34_code 10 = .ok (.iload_n 1, 1) := by decide +kernel
theorem dM_condition_11 : decode prog_13_method_34_code 11 = .ok (.iconst 3, 1) := by decide +kernel
theorem dM_condition_12 : decode prog_13_method_34_code 12 = .ok (.if_icmp .gt 10, 3) := by decide +kernel
theorem dM_condition_15 : decode prog_13_method_34_code 15 = .ok (.aload_n 0, 1) := by decide +kernel
theorem dM_condition_16 : decode prog_13_method_34_code 16 = .ok (.getfield 172, 3) := by decide +kernel
theorem dM_condition_19 : decode prog_13_method_34_code 19 = .ok (.ifCond .le 7, 3) := by decide +kernel
theorem dM_condition_22 : decode prog_13_method_34_code 22 = .ok (.iconst 1, 1) := by decide +kernel
theorem dM_condition_23 : decode prog_13_method_34_code 23 = .ok (.goto 4, 3) := by decide +kernel
theorem dM_condition_26 : decode prog_13_method_34_code 26 = .ok (.iconst 0, 1) := by decide +kernel
theorem dM_condition_27 : decode prog_13_method_34_code 27 = .ok (.istore 5, 2) := by decide +kernel
theorem dM_condition_29 : decode prog_13_method_34_code 29 = .ok (.iload_n 1, 1) := by decide +kernel
theorem dM_condition_30 : decode prog_13_method_34_code 30 = .ok (.iconst 2, 1) := by decide +kernel
theorem dM_condition_31 : decode prog_13_method_34_code 31 = .ok (.if_icmp .ne 24, 3) := by decide +kernel
theorem dM_condition_34 : decode prog_13_method_34_code 34 = .ok (.iload 5, 2) := by decide +kernel
theorem dM_condition_36 : decode prog_13_method_34_code 36 = .ok (.ifCond .eq 16, 3) := by decide +kernel
theorem dM_condition_39 : decode prog_13_method_34_code 39 = .ok (.iload_n 2, 1) := by decide +kernel
theorem dM_condition_40 : decode prog_13_method_34_code 40 = .ok (.iconst 0, 1) := by decide +kernel
theorem dM_condition_41 : decode prog_13_method_34_code 41 = .ok (.iconst 2, 1) := by decide +kernel
theorem dM_condition_42 : decode prog_13_method_34_code 42 = .ok (.invokestatic 139, 3) := by decide +kernel
theorem dM_condition_45 : decode prog_13_method_34_code 45 = .ok (.ifCond .eq 7, 3) := by decide +kernel
theorem dM_condition_48 : decode prog_13_method_34_code 48 = .ok (.iconst 1, 1) := by decide +kernel
theorem dM_condition_49 : decode prog_13_method_34_code 49 = .ok (.goto 4, 3) := by decide +kernel
theorem dM_condition_52 : decode prog_13_method_34_code 52 = .ok (.iconst 0, 1) := by decide +kernel
theorem dM_condition_53 : decode prog_13_method_34_code 53 = .ok (.istore 5, 2) := by decide +kernel
theorem dM_condition_55 : decode prog_13_method_34_code 55 = .ok (.iload_n 1, 1) := by decide +kernel
theorem dM_condition_56 : decode prog_13_method_34_code 56 = .ok (.iconst 4, 1) := by decide +kernel
theorem dM_condition_57 : decode prog_13_method_34_code 57 = .ok (.if_icmp .ne 12, 3) := by decide +kernel
theorem dM_condition_60 : decode prog_13_method_34_code 60 = .ok (.iload_n 2, 1) := by decide +kernel
theorem dM_condition_61 : decode prog_13_method_34_code 61 = .ok (.iconst 0, 1) := by decide +kernel
theorem dM_condition_62 : decode prog_13_method_34_code 62 = .ok (.bipush 7, 2) := by decide +kernel
theorem dM_condition_64 : decode prog_13_method_34_code 64 = .ok (.invokestatic 139, 3) := by decide +kernel
theorem dM_condition_67 : decode prog_13_method_34_code 67 = .ok (.istore 5, 2) := by decide +kernel
theorem dM_condition_69 : decode prog_13_method_34_code 69 = .ok (.iload_n 1, 1) := by decide +kernel
theorem dM_condition_70 : decode prog_13_method_34_code 70 = .ok (.iconst 5, 1) := by decide +kernel
theorem dM_condition_71 : decode prog_13_method_34_code 71 = .ok (.if_icmp .eq 9, 3) := by decide +kernel
theorem dM_condition_74 : decode prog_13_method_34_code 74 = .ok (.iload_n 1, 1) := by decide +kernel
theorem dM_condition_75 : decode prog_13_method_34_code 75 = .ok (.bipush 6, 2) := by decide +kernel
theorem dM_condition_77 : decode prog_13_method_34_code 77 = .ok (.if_icmp .ne 10, 3) := by decide +kernel
theorem dM_condition_80 : decode prog_13_method_34_code 80 = .ok (.aload_n 0, 1) := by decide +kernel
theorem dM_condition_81 : decode prog_13_method_34_code 81 = .ok (.iload_n 2, 1) := by decide +kernel
theorem dM_condition_82 : decode prog_13_method_34_code 82 = .ok (.invokevirtual 154, 3) := by decide +kernel
theorem dM_condition_85 : decode prog_13_method_34_code 85 = .ok (.istore 5, 2) := by decide +kernel
theorem dM_condition_87 : decode prog_13_method_34_code 87 = .ok (.iload_n 1, 1) := by decide +kernel
theorem dM_condition_88 : decode prog_13_method_34_code 88 = .ok (.bipush 7, 2) := by decide +kernel
theorem dM_condition_90 : decode prog_13_method_34_code 90 = .ok (.if_icmp .ne 30, 3) := by decide +kernel
theorem dM_condition_93 : decode prog_13_method_34_code 93 = .ok (.iload_n 2, 1) := by decide +kernel
theorem dM_condition_94 : decode prog_13_method_34_code 94 = .ok (.iload_n 3, 1) := by decide +kernel
theorem dM_condition_95 : decode prog_13_method_34_code 95 = .ok (.invokestatic 147, 3) := by decide +kernel
theorem dM_condition_98 : decode prog_13_method_34_code 98 = .ok (.ifCond .eq 19, 3) := by decide +kernel
theorem dM_condition_101 : decode prog_13_method_34_code 101 = .ok (.iload 4, 2) := by decide +kernel
theorem dM_condition_103 : decode prog_13_method_34_code 103 = .ok (.iconst 0, 1) := by decide +kernel
theorem dM_condition_104 : decode prog_13_method_34_code 104 = .ok (.sipush 10000, 3) := by decide +kernel
theorem dM_condition_107 : decode prog_13_method_34_code 107 = .ok (.invokestatic 139, 3) := by decide +kernel
theorem dM_condition_110 : decode prog_13_method_34_code 110 = .ok (.ifCond .eq 7, 3) := by decide +kernel
theorem dM_condition_113 : decode prog_13_method_34_code 113 = .ok (.iconst 1, 1) := by decide +kernel
theorem dM_condition_114 : decode prog_13_method_34_code 114 = .ok (.goto 4, 3) := by decide +kernel
theorem dM_condition_117 : decode prog_13_method_34_code 117 = .ok (.iconst 0, 1) := by decide +kernel
theorem dM_condition_118 : decode prog_13_method_34_code 118 = .ok (.istore 5, 2) := by decide +kernel
theorem dM_condition_120 : decode prog_13_method_34_code 120 = .ok (.iload_n 1, 1) := by decide +kernel
theorem dM_condition_121 : decode prog_13_method_34_code 121 = .ok (.bipush 8, 2) := by decide +kernel
theorem dM_condition_123 : decode prog_13_method_34_code 123 = .ok (.if_icmp .ne 13, 3) := by decide +kernel
theorem dM_condition_126 : decode prog_13_method_34_code 126 = .ok (.iload_n 2, 1) := by decide +kernel
theorem dM_condition_127 : decode prog_13_method_34_code 127 = .ok (.iconst 0, 1) := by decide +kernel
theorem dM_condition_128 : decode prog_13_method_34_code 128 = .ok (.sipush 10000, 3) := by decide +kernel
theorem dM_condition_131 : decode prog_13_method_34_code 131 = .ok (.invokestatic 139, 3) := by decide +kernel
theorem dM_condition_134 : decode prog_13_method_34_code 134 = .ok (.istore 5, 2) := by decide +kernel
theorem dM_condition_136 : decode prog_13_method_34_code 136 = .ok (.aload_n 0, 1) := by decide +kernel
theorem dM_condition_137 : decode prog_13_method_34_code 137 = .ok (.iload 5, 2) := by decide +kernel
theorem dM_condition_139 : decode prog_13_method_34_code 139 = .ok (.ifCond .ne 7, 3) := by decide +kernel
theorem dM_condition_142 : decode prog_13_method_34_code 142 = .ok (.iconst 1, 1) := by decide +kernel
theorem dM_condition_143 : decode prog_13_method_34_code 143 = .ok (.goto 18, 3) := by decide +kernel
theorem dM_condition_146 : decode prog_13_method_34_code 146 = .ok (.aload_n 0, 1) := by decide +kernel
theorem dM_condition_147 : decode prog_13_method_34_code 147 = .ok (.getfield 67, 3) := by decide +kernel
theorem dM_condition_150 : decode prog_13_method_34_code 150 = .ok (.iconst 0, 1) := by decide +kernel
theorem dM_condition_151 : decode prog_13_method_34_code 151 = .ok (.iaload, 1) := by decide +kernel
theorem dM_condition_152 : decode prog_13_method_34_code 152 = .ok (.iconst 5, 1) := by decide +kernel
theorem dM_condition_153 : decode prog_13_method_34_code 153 = .ok (.if_icmp .ne 7, 3) := by decide +kernel
theorem dM_condition_156 : decode prog_13_method_34_code 156 = .ok (.iconst 2, 1) := by decide +kernel
theorem dM_condition_157 : decode prog_13_method_34_code 157 = .ok (.goto 4, 3) := by decide +kernel
theorem dM_condition_160 : decode prog_13_method_34_code 160 = .ok (.iconst 0, 1) := by decide +kernel
theorem dM_condition_161 : decode prog_13_method_34_code 161 = .ok (.putfield 132, 3) := by decide +kernel
theorem dM_condition_164 : decode prog_13_method_34_code 164 = .ok (.aload_n 0, 1) := by decide +kernel
theorem dM_condition_165 : decode prog_13_method_34_code 165 = .ok (.getfield 132, 3) := by decide +kernel
theorem dM_condition_168 : decode prog_13_method_34_code 168 = .ok (.ifCond .le 5, 3) := by decide +kernel
theorem dM_condition_171 : decode prog_13_method_34_code 171 = .ok (.iconst 0, 1) := by decide +kernel
theorem dM_condition_172 : decode prog_13_method_34_code 172 = .ok (.ireturn, 1) := by decide +kernel
theorem dM_condition_173 : decode prog_13_method_34_code 173 = .ok (.aload_n 0, 1) := by decide +kernel
theorem dM_condition_174 : decode prog_13_method_34_code 174 = .ok (.getfield 67, 3) := by decide +kernel
theorem dM_condition_177 : decode prog_13_method_34_code 177 = .ok (.iconst 0, 1) := by decide +kernel
theorem dM_condition_178 : decode prog_13_method_34_code 178 = .ok (.iaload, 1) := by decide +kernel
theorem dM_condition_179 : decode prog_13_method_34_code 179 = .ok (.istore 6, 2) := by decide +kernel
theorem dM_condition_181 : decode prog_13_method_34_code 181 = .ok (.aload_n 0, 1) := by decide +kernel
theorem dM_condition_182 : decode prog_13_method_34_code 182 = .ok (.getfield 67, 3) := by decide +kernel
theorem dM_condition_185 : decode prog_13_method_34_code 185 = .ok (.iconst 0, 1) := by decide +kernel
theorem dM_condition_186 : decode prog_13_method_34_code 186 = .ok (.dup2, 1) := by decide +kernel
theorem dM_condition_187 : decode prog_13_method_34_code 187 = .ok (.iaload, 1) := by decide +kernel
theorem dM_condition_188 : decode prog_13_method_34_code 188 = .ok (.iconst 1, 1) := by decide +kernel
theorem dM_condition_189 : decode prog_13_method_34_code 189 = .ok (.iadd, 1) := by decide +kernel
theorem dM_condition_190 : decode prog_13_method_34_code 190 = .ok (.iastore, 1) := by decide +kernel
theorem dM_condition_191 : decode prog_13_method_34_code 191 = .ok (.aload_n 0, 1) := by decide +kernel
theorem dM_condition_192 : decode prog_13_method_34_code 192 = .ok (.getfield 70, 3) := by decide +kernel
theorem dM_condition_195 : decode prog_13_method_34_code 195 = .ok (.iload 6, 2) := by decide +kernel
theorem dM_condition_197 : decode prog_13_method_34_code 197 = .ok (.iload_n 1, 1) := by decide +kernel
theorem dM_condition_198 : decode prog_13_method_34_code 198 = .ok (.iastore, 1) := by decide +kernel
theorem dM_condition_199 : decode prog_13_method_34_code 199 = .ok (.aload_n 0, 1) := by decide +kernel
theorem dM_condition_200 : decode prog_13_method_34_code 200 = .ok (.getfield 73, 3) := by decide +kernel
theorem dM_condition_203 : decode prog_13_method_34_code 203 = .ok (.iload 6, 2) := by decide +kernel
theorem dM_condition_205 : decode prog_13_method_34_code 205 = .ok (.iload_n 2, 1) := by decide +kernel
theorem dM_condition_206 : decode prog_13_method_34_code 206 = .ok (.iastore, 1) := by decide +kernel
theorem dM_condition_207 : decode prog_13_method_34_code 207 = .ok (.aload_n 0, 1) := by decide +kernel
theorem dM_condition_208 : decode prog_13_method_34_code 208 = .ok (.getfield 76, 3) := by decide +kernel
theorem dM_condition_211 : decode prog_13_method_34_code 211 = .ok (.iload 6, 2) := by decide +kernel
theorem dM_condition_213 : decode prog_13_method_34_code 213 = .ok (.iload_n 3, 1) := by decide +kernel
theorem dM_condition_214 : decode prog_13_method_34_code 214 = .ok (.iastore, 1) := by decide +kernel
theorem dM_condition_215 : decode prog_13_method_34_code 215 = .ok (.aload_n 0, 1) := by decide +kernel
theorem dM_condition_216 : decode prog_13_method_34_code 216 = .ok (.getfield 79, 3) := by decide +kernel
theorem dM_condition_219 : decode prog_13_method_34_code 219 = .ok (.iload 6, 2) := by decide +kernel
theorem dM_condition_221 : decode prog_13_method_34_code 221 = .ok (.iload 4, 2) := by decide +kernel
theorem dM_condition_223 : decode prog_13_method_34_code 223 = .ok (.iastore, 1) := by decide +kernel
theorem dM_condition_224 : decode prog_13_method_34_code 224 = .ok (.aload_n 0, 1) := by decide +kernel
theorem dM_condition_225 : decode prog_13_method_34_code 225 = .ok (.getfield 82, 3) := by decide +kernel
theorem dM_condition_228 : decode prog_13_method_34_code 228 = .ok (.iload 6, 2) := by decide +kernel
theorem dM_condition_230 : decode prog_13_method_34_code 230 = .ok (.iconst 0, 1) := by decide +kernel
theorem dM_condition_231 : decode prog_13_method_34_code 231 = .ok (.iastore, 1) := by decide +kernel
theorem dM_condition_232 : decode prog_13_method_34_code 232 = .ok (.iload_n 1, 1) := by decide +kernel
theorem dM_condition_233 : decode prog_13_method_34_code 233 = .ok (.iconst 4, 1) := by decide +kernel
theorem dM_condition_234 : decode prog_13_method_34_code 234 = .ok (.if_icmp .ge 61, 3) := by decide +kernel
theorem dM_condition_237 : decode prog_13_method_34_code 237 = .ok (.aload_n 0, 1) := by decide +kernel
theorem dM_condition_238 : decode prog_13_method_34_code 238 = .ok (.invokevirtual 188, 3) := by decide +kernel
theorem dM_condition_241 : decode prog_13_method_34_code 241 = .ok (.aload_n 0, 1) := by decide +kernel
theorem dM_condition_242 : decode prog_13_method_34_code 242 = .ok (.getfield 82, 3) := by decide +kernel
theorem dM_condition_245 : decode prog_13_method_34_code 245 = .ok (.iload 6, 2) := by decide +kernel
theorem dM_condition_247 : decode prog_13_method_34_code 247 = .ok (.aload_n 0, 1) := by decide +kernel
theorem dM_condition_248 : decode prog_13_method_34_code 248 = .ok (.getfield 179, 3) := by decide +kernel
theorem dM_condition_251 : decode prog_13_method_34_code 251 = .ok (.iastore, 1) := by decide +kernel
theorem dM_condition_252 : decode prog_13_method_34_code 252 = .ok (.iconst 0, 1) := by decide +kernel
theorem dM_condition_253 : decode prog_13_method_34_code 253 = .ok (.istore 7, 2) := by decide +kernel
theorem dM_condition_255 : decode prog_13_method_34_code 255 = .ok (.iload 7, 2) := by decide +kernel
theorem dM_condition_257 : decode prog_13_method_34_code 257 = .ok (.aload_n 0, 1) := by decide +kernel
theorem dM_condition_258 : decode prog_13_method_34_code 258 = .ok (.getfield 179, 3) := by decide +kernel
theorem dM_condition_261 : decode prog_13_method_34_code 261 = .ok (.if_icmp .ge 29, 3) := by decide +kernel
theorem dM_condition_264 : decode prog_13_method_34_code 264 = .ok (.aload_n 0, 1) := by decide +kernel
theorem dM_condition_265 : decode prog_13_method_34_code 265 = .ok (.getfield 85, 3) := by decide +kernel
theorem dM_condition_268 : decode prog_13_method_34_code 268 = .ok (.bipush 10, 2) := by decide +kernel
theorem dM_condition_270 : decode prog_13_method_34_code 270 = .ok (.iload 6, 2) := by decide +kernel
theorem dM_condition_272 : decode prog_13_method_34_code 272 = .ok (.imul, 1) := by decide +kernel
theorem dM_condition_273 : decode prog_13_method_34_code 273 = .ok (.iload 7, 2) := by decide +kernel
theorem dM_condition_275 : decode prog_13_method_34_code 275 = .ok (.iadd, 1) := by decide +kernel
theorem dM_condition_276 : decode prog_13_method_34_code 276 = .ok (.aload_n 0, 1) := by decide +kernel
theorem dM_condition_277 : decode prog_13_method_34_code 277 = .ok (.getfield 110, 3) := by decide +kernel
theorem dM_condition_280 : decode prog_13_method_34_code 280 = .ok (.iload 7, 2) := by decide +kernel
theorem dM_condition_282 : decode prog_13_method_34_code 282 = .ok (.iaload, 1) := by decide +kernel
theorem dM_condition_283 : decode prog_13_method_34_code 283 = .ok (.iastore, 1) := by decide +kernel
theorem dM_condition_284 : decode prog_13_method_34_code 284 = .ok (.iinc 7 1, 3) := by decide +kernel
theorem dM_condition_287 : decode prog_13_method_34_code 287 = .ok (.goto (-32), 3) := by decide +kernel
theorem dM_condition_290 : decode prog_13_method_34_code 290 = .ok (.aload_n 0, 1) := by decide +kernel
theorem dM_condition_291 : decode prog_13_method_34_code 291 = .ok (.iconst 0, 1) := by decide +kernel
theorem dM_condition_292 : decode prog_13_method_34_code 292 = .ok (.putfield 172, 3) := by decide +kernel
theorem dM_condition_295 : decode prog_13_method_34_code 295 = .ok (.aload_n 0, 1) := by decide +kernel
theorem dM_condition_296 : decode prog_13_method_34_code 296 = .ok (.getfield 67, 3) := by decide +kernel
theorem dM_condition_299 : decode prog_13_method_34_code 299 = .ok (.iconst 0, 1) := by decide +kernel
theorem dM_condition_300 : decode prog_13_method_34_code 300 = .ok (.iaload, 1) := by decide +kernel
theorem dM_condition_301 : decode prog_13_method_34_code 301 = .ok (.ireturn, 1) := by decide +kernel
theorem dM_clear_0 : decode prog_13_method_35_code 0 = .ok (.aload_n 0, 1) := by decide +kernel
theorem dM_clear_1 : decode prog_13_method_35_code 1 = .ok (.iconst 0, 1) := by decide +kernel
theorem dM_clear_2 : decode prog_13_method_35_code 2 = .ok (.putfield 132, 3) := by decide +kernel
theorem dM_clear_5 : decode prog_13_method_35_code 5 = .ok (.aload_n 0, 1) := by decide +kernel
theorem dM_clear_6 : decode prog_13_method_35_code 6 = .ok (.getfield 67, 3) := by decide +kernel
theorem dM_clear_9 : decode prog_13_method_35_code 9 = .ok (.iconst 0, 1) := by decide +kernel
theorem dM_clear_10 : decode prog_13_method_35_code 10 = .ok (.iconst 0, 1) := by decide +kernel
theorem dM_clear_11 : decode prog_13_method_35_code 11 = .ok (.iastore, 1) := by decide +kernel
theorem dM_clear_12 : decode prog_13_method_35_code 12 = .ok (.return_, 1) := by decide +kernel
theorem dM_isNamed_0 : decode prog_13_method_36_code 0 = .ok (.aload_n 0, 1) := by decide +kernel
theorem dM_isNamed_1 : decode prog_13_method_36_code 1 = .ok (.getfield 70, 3) := by decide +kernel
theorem dM_isNamed_4 : decode prog_13_method_36_code 4 = .ok (.iload_n 2, 1) := by decide +kernel
theorem dM_isNamed_5 : decode prog_13_method_36_code 5 = .ok (.iaload, 1) := by decide +kernel
theorem dM_isNamed_6 : decode prog_13_method_36_code 6 = .ok (.istore_n 3, 1) := by decide +kernel
theorem dM_isNamed_7 : decode prog_13_method_36_code 7 = .ok (.aload_n 0, 1) := by decide +kernel
theorem dM_isNamed_8 : decode prog_13_method_36_code 8 = .ok (.getfield 82, 3) := by decide +kernel
theorem dM_isNamed_11 : decode prog_13_method_36_code 11 = .ok (.iload_n 2, 1) := by decide +kernel
theorem dM_isNamed_12 : decode prog_13_method_36_code 12 = .ok (.iaload, 1) := by decide +kernel
theorem dM_isNamed_13 : decode prog_13_method_36_code 13 = .ok (.istore 4, 2) := by decide +kernel
theorem dM_isNamed_15 : decode prog_13_method_36_code 15 = .ok (.aload_n 0, 1) := by decide +kernel
theorem dM_isNamed_16 : decode prog_13_method_36_code 16 = .ok (.iload_n 1, 1) := by decide +kernel
theorem dM_isNamed_17 : decode prog_13_method_36_code 17 = .ok (.invokevirtual 208, 3) := by decide +kernel
theorem dM_isNamed_20 : decode prog_13_method_36_code 20 = .ok (.iload_n 3, 1) := by decide +kernel
theorem dM_isNamed_21 : decode prog_13_method_36_code 21 = .ok (.iconst 2, 1) := by decide +kernel
theorem dM_isNamed_22 : decode prog_13_method_36_code 22 = .ok (.if_icmp .ne 32, 3) := by decide +kernel
theorem dM_isNamed_25 : decode prog_13_method_36_code 25 = .ok (.aload_n 0, 1) := by decide +kernel
theorem dM_isNamed_26 : decode prog_13_method_36_code 26 = .ok (.aload_n 0, 1) := by decide +kernel
theorem dM_isNamed_27 : decode prog_13_method_36_code 27 = .ok (.getfield 85, 3) := by decide +kernel
theorem dM_isNamed_30 : decode prog_13_method_36_code 30 = .ok (.bipush 10, 2) := by decide +kernel
theorem dM_isNamed_32 : decode prog_13_method_36_code 32 = .ok (.iload_n 2, 1) := by decide +kernel
theorem dM_isNamed_33 : decode prog_13_method_36_code 33 = .ok (.imul, 1) := by decide +kernel
theorem dM_isNamed_34 : decode prog_13_method_36_code 34 = .ok (.iload 4, 2) := by decide +kernel
theorem dM_isNamed_36 : decode prog_13_method_36_code 36 = .ok (.invokevirtual 198, 3) := by decide +kernel
theorem dM_isNamed_39 : decode prog_13_method_36_code 39 = .ok (.aload_n 0, 1) := by decide +kernel
theorem dM_isNamed_40 : decode prog_13_method_36_code 40 = .ok (.getfield 73, 3) := by decide +kernel
theorem dM_isNamed_43 : decode prog_13_method_36_code 43 = .ok (.iload_n 2, 1) := by decide +kernel
theorem dM_isNamed_44 : decode prog_13_method_36_code 44 = .ok (.iaload, 1) := by decide +kernel
theorem dM_isNamed_45 : decode prog_13_method_36_code 45 = .ok (.if_icmp .gt 7, 3) := by decide +kernel
theorem dM_isNamed_48 : decode prog_13_method_36_code 48 = .ok (.iconst 1, 1) := by decide +kernel
theorem dM_isNamed_49 : decode prog_13_method_36_code 49 = .ok (.goto 4, 3) := by decide +kernel
theorem dM_isNamed_52 : decode prog_13_method_36_code 52 = .ok (.iconst 0, 1) := by decide +kernel
theorem dM_isNamed_53 : decode prog_13_method_36_code 53 = .ok (.ireturn, 1) := by decide +kernel
theorem dM_isNamed_54 : decode prog_13_method_36_code 54 = .ok (.iload_n 3, 1) := by decide +kernel
theorem dM_isNamed_55 : decode prog_13_method_36_code 55 = .ok (.iconst 3, 1) := by decide +kernel
theorem dM_isNamed_56 : decode prog_13_method_36_code 56 = .ok (.if_icmp .ne 65, 3) := by decide +kernel
theorem dM_isNamed_59 : decode prog_13_method_36_code 59 = .ok (.aload_n 0, 1) := by decide +kernel
theorem dM_isNamed_60 : decode prog_13_method_36_code 60 = .ok (.invokevirtual 191, 3) := by decide +kernel
theorem dM_isNamed_63 : decode prog_13_method_36_code 63 = .ok (.istore 5, 2) := by decide +kernel
theorem dM_isNamed_65 : decode prog_13_method_36_code 65 = .ok (.aload_n 0, 1) := by decide +kernel
theorem dM_isNamed_66 : decode prog_13_method_36_code 66 = .ok (.iload 4, 2) := by decide +kernel
theorem dM_isNamed_68 : decode prog_13_method_36_code 68 = .ok (.putfield 179, 3) := by decide +kernel
theorem dM_isNamed_71 : decode prog_13_method_36_code 71 = .ok (.iconst 0, 1) := by decide +kernel
theorem dM_isNamed_72 : decode prog_13_method_36_code 72 = .ok (.istore 6, 2) := by decide +kernel
theorem dM_isNamed_74 : decode prog_13_method_36_code 74 = .ok (.iload 6, 2) := by decide +kernel
theorem dM_isNamed_76 : decode prog_13_method_36_code 76 = .ok (.iload 4, 2) := by decide +kernel
theorem dM_isNamed_78 : decode prog_13_method_36_code 78 = .ok (.if_icmp .ge 28, 3) := by decide +kernel
theorem dM_isNamed_81 : decode prog_13_method_36_code 81 = .ok (.aload_n 0, 1) := by decide +kernel
theorem dM_isNamed_82 : decode prog_13_method_36_code 82 = .ok (.getfield 110, 3) := by decide +kernel
theorem dM_isNamed_85 : decode prog_13_method_36_code 85 = .ok (.iload 6, 2) := by decide +kernel
theorem dM_isNamed_87 : decode prog_13_method_36_code 87 = .ok (.aload_n 0, 1) := by decide +kernel
theorem dM_isNamed_88 : decode prog_13_method_36_code 88 = .ok (.getfield 85, 3) := by decide +kernel
theorem dM_isNamed_91 : decode prog_13_method_36_code 91 = .ok (.bipush 10, 2) := by decide +kernel
theorem dM_isNamed_93 : decode prog_13_method_36_code 93 = .ok (.iload_n 2, 1) := by decide +kernel
theorem dM_isNamed_94 : decode prog_13_method_36_code 94 = .ok (.imul, 1) := by decide +kernel
theorem dM_isNamed_95 : decode prog_13_method_36_code 95 = .ok (.iload 6, 2) := by decide +kernel
theorem dM_isNamed_97 : decode prog_13_method_36_code 97 = .ok (.iadd, 1) := by decide +kernel
theorem dM_isNamed_98 : decode prog_13_method_36_code 98 = .ok (.iaload, 1) := by decide +kernel
theorem dM_isNamed_99 : decode prog_13_method_36_code 99 = .ok (.iastore, 1) := by decide +kernel
theorem dM_isNamed_100 : decode prog_13_method_36_code 100 = .ok (.iinc 6 1, 3) := by decide +kernel
theorem dM_isNamed_103 : decode prog_13_method_36_code 103 = .ok (.goto (-29), 3) := by decide +kernel
theorem dM_isNamed_106 : decode prog_13_method_36_code 106 = .ok (.aload_n 0, 1) := by decide +kernel
theorem dM_isNamed_107 : decode prog_13_method_36_code 107 = .ok (.invokevirtual 191, 3) := by decide +kernel
theorem dM_isNamed_110 : decode prog_13_method_36_code 110 = .ok (.iload 5, 2) := by decide +kernel
theorem dM_isNamed_112 : decode prog_13_method_36_code 112 = .ok (.if_icmp .ne 7, 3) := by decide +kernel
theorem dM_isNamed_115 : decode prog_13_method_36_code 115 = .ok (.iconst 1, 1) := by decide +kernel
theorem dM_isNamed_116 : decode prog_13_method_36_code 116 = .ok (.goto 4, 3) := by decide +kernel
theorem dM_isNamed_119 : decode prog_13_method_36_code 119 = .ok (.iconst 0, 1) := by decide +kernel
theorem dM_isNamed_120 : decode prog_13_method_36_code 120 = .ok (.ireturn, 1) := by decide +kernel
theorem dM_isNamed_121 : decode prog_13_method_36_code 121 = .ok (.iload_n 3, 1) := by decide +kernel
theorem dM_isNamed_122 : decode prog_13_method_36_code 122 = .ok (.ifCond .ne 20, 3) := by decide +kernel
theorem dM_isNamed_125 : decode prog_13_method_36_code 125 = .ok (.aload_n 0, 1) := by decide +kernel
theorem dM_isNamed_126 : decode prog_13_method_36_code 126 = .ok (.getfield 179, 3) := by decide +kernel
theorem dM_isNamed_129 : decode prog_13_method_36_code 129 = .ok (.iload 4, 2) := by decide +kernel
theorem dM_isNamed_131 : decode prog_13_method_36_code 131 = .ok (.if_icmp .ne 7, 3) := by decide +kernel
theorem dM_isNamed_134 : decode prog_13_method_36_code 134 = .ok (.iconst 1, 1) := by decide +kernel
theorem dM_isNamed_135 : decode prog_13_method_36_code 135 = .ok (.goto 21, 3) := by decide +kernel
theorem dM_isNamed_138 : decode prog_13_method_36_code 138 = .ok (.iconst 0, 1) := by decide +kernel
theorem dM_isNamed_139 : decode prog_13_method_36_code 139 = .ok (.goto 17, 3) := by decide +kernel
theorem dM_isNamed_142 : decode prog_13_method_36_code 142 = .ok (.aload_n 0, 1) := by decide +kernel
theorem dM_isNamed_143 : decode prog_13_method_36_code 143 = .ok (.getfield 179, 3) := by decide +kernel
theorem dM_isNamed_146 : decode prog_13_method_36_code 146 = .ok (.iload 4, 2) := by decide +kernel
theorem dM_isNamed_148 : decode prog_13_method_36_code 148 = .ok (.if_icmp .lt 7, 3) := by decide +kernel
theorem dM_isNamed_151 : decode prog_13_method_36_code 151 = .ok (.iconst 1, 1) := by decide +kernel
theorem dM_isNamed_152 : decode prog_13_method_36_code 152 = .ok (.goto 4, 3) := by decide +kernel
theorem dM_isNamed_155 : decode prog_13_method_36_code 155 = .ok (.iconst 0, 1) := by decide +kernel
theorem dM_isNamed_156 : decode prog_13_method_36_code 156 = .ok (.istore 5, 2) := by decide +kernel
theorem dM_isNamed_158 : decode prog_13_method_36_code 158 = .ok (.iconst 0, 1) := by decide +kernel
theorem dM_isNamed_159 : decode prog_13_method_36_code 159 = .ok (.istore 6, 2) := by decide +kernel
theorem dM_isNamed_161 : decode prog_13_method_36_code 161 = .ok (.iload 6, 2) := by decide +kernel
theorem dM_isNamed_163 : decode prog_13_method_36_code 163 = .ok (.iload 4, 2) := by decide +kernel
theorem dM_isNamed_165 : decode prog_13_method_36_code 165 = .ok (.if_icmp .ge 43, 3) := by decide +kernel
theorem dM_isNamed_168 : decode prog_13_method_36_code 168 = .ok (.iload 5, 2) := by decide +kernel
theorem dM_isNamed_170 : decode prog_13_method_36_code 170 = .ok (.ifCond .eq 38, 3) := by decide +kernel
theorem dM_isNamed_173 : decode prog_13_method_36_code 173 = .ok (.aload_n 0, 1) := by decide +kernel
theorem dM_isNamed_174 : decode prog_13_method_36_code 174 = .ok (.getfield 110, 3) := by decide +kernel
theorem dM_isNamed_177 : decode prog_13_method_36_code 177 = .ok (.iload 6, 2) := by decide +kernel
theorem dM_isNamed_179 : decode prog_13_method_36_code 179 = .ok (.iaload, 1) := by decide +kernel
theorem dM_isNamed_180 : decode prog_13_method_36_code 180 = .ok (.aload_n 0, 1) := by decide +kernel
theorem dM_isNamed_181 : decode prog_13_method_36_code 181 = .ok (.getfield 85, 3) := by decide +kernel
theorem dM_isNamed_184 : decode prog_13_method_36_code 184 = .ok (.bipush 10, 2) := by decide +kernel
theorem dM_isNamed_186 : decode prog_13_method_36_code 186 = .ok (.iload_n 2, 1) := by decide +kernel
theorem dM_isNamed_187 : decode prog_13_method_36_code 187 = .ok (.imul, 1) := by decide +kernel
theorem dM_isNamed_188 : decode prog_13_method_36_code 188 = .ok (.iload 6, 2) := by decide +kernel
theorem dM_isNamed_190 : decode prog_13_method_36_code 190 = .ok (.iadd, 1) := by decide +kernel
theorem dM_isNamed_191 : decode prog_13_method_36_code 191 = .ok (.iaload, 1) := by decide +kernel
theorem dM_isNamed_192 : decode prog_13_method_36_code 192 = .ok (.if_icmp .ne 7, 3) := by decide +kernel
theorem dM_isNamed_195 : decode prog_13_method_36_code 195 = .ok (.iconst 1, 1) := by decide +kernel
theorem dM_isNamed_196 : decode prog_13_method_36_code 196 = .ok (.goto 4, 3) := by decide +kernel
theorem dM_isNamed_199 : decode prog_13_method_36_code 199 = .ok (.iconst 0, 1) := by decide +kernel
theorem dM_isNamed_200 : decode prog_13_method_36_code 200 = .ok (.istore 5, 2) := by decide +kernel
theorem dM_isNamed_202 : decode prog_13_method_36_code 202 = .ok (.iinc 6 1, 3) := by decide +kernel
theorem dM_isNamed_205 : decode prog_13_method_36_code 205 = .ok (.goto (-44), 3) := by decide +kernel
theorem dM_isNamed_208 : decode prog_13_method_36_code 208 = .ok (.iload 5, 2) := by decide +kernel
theorem dM_isNamed_210 : decode prog_13_method_36_code 210 = .ok (.ireturn, 1) := by decide +kernel
theorem dM_isOf_0 : decode prog_13_method_37_code 0 = .ok (.iload_n 2, 1) := by decide +kernel
theorem dM_isOf_1 : decode prog_13_method_37_code 1 = .ok (.aload_n 0, 1) := by decide +kernel
theorem dM_isOf_2 : decode prog_13_method_37_code 2 = .ok (.getfield 34, 3) := by decide +kernel
theorem dM_isOf_5 : decode prog_13_method_37_code 5 = .ok (.iload_n 1, 1) := by decide +kernel
theorem dM_isOf_6 : decode prog_13_method_37_code 6 = .ok (.iaload, 1) := by decide +kernel
theorem dM_isOf_7 : decode prog_13_method_37_code 7 = .ok (.aload_n 0, 1) := by decide +kernel
theorem dM_isOf_8 : decode prog_13_method_37_code 8 = .ok (.getfield 37, 3) := by decide +kernel
theorem dM_isOf_11 : decode prog_13_method_37_code 11 = .ok (.iload_n 1, 1) := by decide +kernel
theorem dM_isOf_12 : decode prog_13_method_37_code 12 = .ok (.iaload, 1) := by decide +kernel
theorem dM_isOf_13 : decode prog_13_method_37_code 13 = .ok (.invokestatic 139, 3) := by decide +kernel
theorem dM_isOf_16 : decode prog_13_method_37_code 16 = .ok (.ireturn, 1) := by decide +kernel
theorem dM_hasName_0 : decode prog_13_method_38_code 0 = .ok (.iconst 0, 1) := by decide +kernel
theorem dM_hasName_1 : decode prog_13_method_38_code 1 = .ok (.istore 4, 2) := by decide +kernel
theorem dM_hasName_3 : decode prog_13_method_38_code 3 = .ok (.iconst 0, 1) := by decide +kernel
theorem dM_hasName_4 : decode prog_13_method_38_code 4 = .ok (.istore 5, 2) := by decide +kernel
theorem dM_hasName_6 : decode prog_13_method_38_code 6 = .ok (.iload 5, 2) := by decide +kernel
theorem dM_hasName_8 : decode prog_13_method_38_code 8 = .ok (.aload_n 0, 1) := by decide +kernel
theorem dM_hasName_9 : decode prog_13_method_38_code 9 = .ok (.getfield 31, 3) := by decide +kernel
theorem dM_hasName_12 : decode prog_13_method_38_code 12 = .ok (.iload_n 1, 1) := by decide +kernel
theorem dM_hasName_13 : decode prog_13_method_38_code 13 = .ok (.iaload, 1) := by decide +kernel
theorem dM_hasName_14 : decode prog_13_method_38_code 14 = .ok (.if_icmp .ge 49, 3) := by decide +kernel
theorem dM_hasName_17 : decode prog_13_method_38_code 17 = .ok (.iload 4, 2) := by decide +kernel
theorem dM_hasName_19 : decode prog_13_method_38_code 19 = .ok (.ifCond .ne 31, 3) := by decide +kernel
theorem dM_hasName_22 : decode prog_13_method_38_code 22 = .ok (.aload_n 0, 1) := by decide +kernel
theorem dM_hasName_23 : decode prog_13_method_38_code 23 = .ok (.iconst 2, 1) := by decide +kernel
theorem dM_hasName_24 : decode prog_13_method_38_code 24 = .ok (.iload_n 1, 1) := by decide +kernel
theorem dM_hasName_25 : decode prog_13_method_38_code 25 = .ok (.imul, 1) := by decide +kernel
theorem dM_hasName_26 : decode prog_13_method_38_code 26 = .ok (.iload 5, 2) := by decide +kernel
theorem dM_hasName_28 : decode prog_13_method_38_code 28 = .ok (.iadd, 1) := by decide +kernel
theorem dM_hasName_29 : decode prog_13_method_38_code 29 = .ok (.iload_n 2, 1) := by decide +kernel
theorem dM_hasName_30 : decode prog_13_method_38_code 30 = .ok (.invokevirtual 212, 3) := by decide +kernel
theorem dM_hasName_33 : decode prog_13_method_38_code 33 = .ok (.ifCond .eq 21, 3) := by decide +kernel
theorem dM_hasName_36 : decode prog_13_method_38_code 36 = .ok (.aload_n 0, 1) := by decide +kernel
theorem dM_hasName_37 : decode prog_13_method_38_code 37 = .ok (.iconst 2, 1) := by decide +kernel
theorem dM_hasName_38 : decode prog_13_method_38_code 38 = .ok (.iload_n 1, 1) := by decide +kernel
theorem dM_hasName_39 : decode prog_13_method_38_code 39 = .ok (.imul, 1) := by decide +kernel
theorem dM_hasName_40 : decode prog_13_method_38_code 40 = .ok (.iload 5, 2) := by decide +kernel
theorem dM_hasName_42 : decode prog_13_method_38_code 42 = .ok (.iadd, 1) := by decide +kernel
theorem dM_hasName_43 : decode prog_13_method_38_code 43 = .ok (.iload_n 3, 1) := by decide +kernel
theorem dM_hasName_44 : decode prog_13_method_38_code 44 = .ok (.invokevirtual 215, 3) := by decide +kernel
theorem dM_hasName_47 : decode prog_13_method_38_code 47 = .ok (.ifCond .eq 7, 3) := by decide +kernel
theorem dM_hasName_50 : decode prog_13_method_38_code 50 = .ok (.iconst 1, 1) := by decide +kernel
theorem dM_hasName_51 : decode prog_13_method_38_code 51 = .ok (.goto 4, 3) := by decide +kernel
theorem dM_hasName_54 : decode prog_13_method_38_code 54 = .ok (.iconst 0, 1) := by decide +kernel
theorem dM_hasName_55 : decode prog_13_method_38_code 55 = .ok (.istore 4, 2) := by decide +kernel
theorem dM_hasName_57 : decode prog_13_method_38_code 57 = .ok (.iinc 5 1, 3) := by decide +kernel
theorem dM_hasName_60 : decode prog_13_method_38_code 60 = .ok (.goto (-54), 3) := by decide +kernel
theorem dM_hasName_63 : decode prog_13_method_38_code 63 = .ok (.iload 4, 2) := by decide +kernel
theorem dM_hasName_65 : decode prog_13_method_38_code 65 = .ok (.ireturn, 1) := by decide +kernel
theorem dM_isInside_0 : decode prog_13_method_39_code 0 = .ok (.aload_n 0, 1) := by decide +kernel
theorem dM_isInside_1 : decode prog_13_method_39_code 1 = .ok (.iload_n 2, 1) := by decide +kernel
theorem dM_isInside_2 : decode prog_13_method_39_code 2 = .ok (.iload_n 3, 1) := by decide +kernel
theorem dM_isInside_3 : decode prog_13_method_39_code 3 = .ok (.invokevirtual 161, 3) := by decide +kernel
theorem dM_isInside_6 : decode prog_13_method_39_code 6 = .ok (.istore 4, 2) := by decide +kernel
theorem dM_isInside_8 : decode prog_13_method_39_code 8 = .ok (.iload 4, 2) := by decide +kernel
theorem dM_isInside_10 : decode prog_13_method_39_code 10 = .ok (.iconst (-1), 1) := by decide +kernel
theorem dM_isInside_11 : decode prog_13_method_39_code 11 = .ok (.if_icmp .eq 14, 3) := by decide +kernel
theorem dM_isInside_14 : decode prog_13_method_39_code 14 = .ok (.aload_n 0, 1) := by decide +kernel
theorem dM_isInside_15 : decode prog_13_method_39_code 15 = .ok (.getfield 22, 3) := by decide +kernel
theorem dM_isInside_18 : decode prog_13_method_39_code 18 = .ok (.iload 4, 2) := by decide +kernel
theorem dM_isInside_20 : decode prog_13_method_39_code 20 = .ok (.iaload, 1) := by decide +kernel
theorem dM_isInside_21 : decode prog_13_method_39_code 21 = .ok (.iconst 1, 1) := by decide +kernel
theorem dM_isInside_22 : decode prog_13_method_39_code 22 = .ok (.if_icmp .ne 5, 3) := by decide +kernel
theorem dM_isInside_25 : decode prog_13_method_39_code 25 = .ok (.iconst 0, 1) := by decide +kernel
theorem dM_isInside_26 : decode prog_13_method_39_code 26 = .ok (.ireturn, 1) := by decide +kernel
theorem dM_isInside_27 : decode prog_13_method_39_code 27 = .ok (.aload_n 0, 1) := by decide +kernel
theorem dM_isInside_28 : decode prog_13_method_39_code 28 = .ok (.iload_n 1, 1) := by decide +kernel
theorem dM_isInside_29 : decode prog_13_method_39_code 29 = .ok (.iload_n 3, 1) := by decide +kernel
theorem dM_isInside_30 : decode prog_13_method_39_code 30 = .ok (.invokevirtual 161, 3) := by decide +kernel
theorem dM_isInside_33 : decode prog_13_method_39_code 33 = .ok (.istore 5, 2) := by decide +kernel
theorem dM_isInside_35 : decode prog_13_method_39_code 35 = .ok (.iconst 1, 1) := by decide +kernel
theorem dM_isInside_36 : decode prog_13_method_39_code 36 = .ok (.istore 6, 2) := by decide +kernel
theorem dM_isInside_38 : decode prog_13_method_39_code 38 = .ok (.iconst 0, 1) := by decide +kernel
theorem dM_isInside_39 : decode prog_13_method_39_code 39 = .ok (.istore 7, 2) := by decide +kernel
theorem dM_isInside_41 : decode prog_13_method_39_code 41 = .ok (.iload 7, 2) := by decide +kernel
theorem dM_isInside_43 : decode prog_13_method_39_code 43 = .ok (.aload_n 0, 1) := by decide +kernel
theorem dM_isInside_44 : decode prog_13_method_39_code 44 = .ok (.getfield 22, 3) := by decide +kernel
theorem dM_isInside_47 : decode prog_13_method_39_code 47 = .ok (.iload 5, 2) := by decide +kernel
theorem dM_isInside_49 : decode prog_13_method_39_code 49 = .ok (.iaload, 1) := by decide +kernel
theorem dM_isInside_50 : decode prog_13_method_39_code 50 = .ok (.if_icmp .ge 56, 3) := by decide +kernel
theorem dM_isInside_53 : decode prog_13_method_39_code 53 = .ok (.iload 6, 2) := by decide +kernel
theorem dM_isInside_55 : decode prog_13_method_39_code 55 = .ok (.ifCond .eq 42, 3) := by decide +kernel
theorem dM_isInside_58 : decode prog_13_method_39_code 58 = .ok (.aload_n 0, 1) := by decide +kernel
theorem dM_isInside_59 : decode prog_13_method_39_code 59 = .ok (.iload 4, 2) := by decide +kernel
theorem dM_isInside_61 : decode prog_13_method_39_code 61 = .ok (.aload_n 0, 1) := by decide +kernel
theorem dM_isInside_62 : decode prog_13_method_39_code 62 = .ok (.getfield 25, 3) := by decide +kernel
theorem dM_isInside_65 : decode prog_13_method_39_code 65 = .ok (.bipush 8, 2) := by decide +kernel
theorem dM_isInside_67 : decode prog_13_method_39_code 67 = .ok (.iload 5, 2) := by decide +kernel
theorem dM_isInside_69 : decode prog_13_method_39_code 69 = .ok (.imul, 1) := by decide +kernel
theorem dM_isInside_70 : decode prog_13_method_39_code 70 = .ok (.iload 7, 2) := by decide +kernel
theorem dM_isInside_72 : decode prog_13_method_39_code 72 = .ok (.iadd, 1) := by decide +kernel
theorem dM_isInside_73 : decode prog_13_method_39_code 73 = .ok (.iaload, 1) := by decide +kernel
theorem dM_isInside_74 : decode prog_13_method_39_code 74 = .ok (.aload_n 0, 1) := by decide +kernel
theorem dM_isInside_75 : decode prog_13_method_39_code 75 = .ok (.getfield 28, 3) := by decide +kernel
theorem dM_isInside_78 : decode prog_13_method_39_code 78 = .ok (.bipush 8, 2) := by decide +kernel
theorem dM_isInside_80 : decode prog_13_method_39_code 80 = .ok (.iload 5, 2) := by decide +kernel
theorem dM_isInside_82 : decode prog_13_method_39_code 82 = .ok (.imul, 1) := by decide +kernel
theorem dM_isInside_83 : decode prog_13_method_39_code 83 = .ok (.iload 7, 2) := by decide +kernel
theorem dM_isInside_85 : decode prog_13_method_39_code 85 = .ok (.iadd, 1) := by decide +kernel
theorem dM_isInside_86 : decode prog_13_method_39_code 86 = .ok (.iaload, 1) := by decide +kernel
theorem dM_isInside_87 : decode prog_13_method_39_code 87 = .ok (.invokevirtual 169, 3) := by decide +kernel
theorem dM_isInside_90 : decode prog_13_method_39_code 90 = .ok (.ifCond .eq 7, 3) := by decide +kernel
theorem dM_isInside_93 : decode prog_13_method_39_code 93 = .ok (.iconst 1, 1) := by decide +kernel
theorem dM_isInside_94 : decode prog_13_method_39_code 94 = .ok (.goto 4, 3) := by decide +kernel
theorem dM_isInside_97 : decode prog_13_method_39_code 97 = .ok (.iconst 0, 1) := by decide +kernel
theorem dM_isInside_98 : decode prog_13_method_39_code 98 = .ok (.istore 6, 2) := by decide +kernel
theorem dM_isInside_100 : decode prog_13_method_39_code 100 = .ok (.iinc 7 1, 3) := by decide +kernel
theorem dM_isInside_103 : decode prog_13_method_39_code 103 = .ok (.goto (-62), 3) := by decide +kernel
theorem dM_isInside_106 : decode prog_13_method_39_code 106 = .ok (.iload 6, 2) := by decide +kernel
theorem dM_isInside_108 : decode prog_13_method_39_code 108 = .ok (.ireturn, 1) := by decide +kernel
theorem dM_square_0 : decode prog_13_method_40_code 0 = .ok (.aload_n 0, 1) := by decide +kernel
theorem dM_square_1 : decode prog_13_method_40_code 1 = .ok (.iload_n 1, 1) := by decide +kernel
theorem dM_square_2 : decode prog_13_method_40_code 2 = .ok (.iload_n 2, 1) := by decide +kernel
theorem dM_square_3 : decode prog_13_method_40_code 3 = .ok (.invokevirtual 161, 3) := by decide +kernel
theorem dM_square_6 : decode prog_13_method_40_code 6 = .ok (.istore 5, 2) := by decide +kernel
theorem dM_square_8 : decode prog_13_method_40_code 8 = .ok (.iconst 0, 1) := by decide +kernel
theorem dM_square_9 : decode prog_13_method_40_code 9 = .ok (.istore 6, 2) := by decide +kernel
theorem dM_square_11 : decode prog_13_method_40_code 11 = .ok (.iconst 0, 1) := by decide +kernel
theorem dM_square_12 : decode prog_13_method_40_code 12 = .ok (.istore 7, 2) := by decide +kernel
theorem dM_square_14 : decode prog_13_method_40_code 14 = .ok (.iload 7, 2) := by decide +kernel
theorem dM_square_16 : decode prog_13_method_40_code 16 = .ok (.aload_n 0, 1) := by decide +kernel
theorem dM_square_17 : decode prog_13_method_40_code 17 = .ok (.getfield 22, 3) := by decide +kernel
theorem dM_square_20 : decode prog_13_method_40_code 20 = .ok (.iload 5, 2) := by decide +kernel
theorem dM_square_22 : decode prog_13_method_40_code 22 = .ok (.iaload, 1) := by decide +kernel
theorem dM_square_23 : decode prog_13_method_40_code 23 = .ok (.if_icmp .ge 78, 3) := by decide +kernel
theorem dM_square_26 : decode prog_13_method_40_code 26 = .ok (.aload_n 0, 1) := by decide +kernel
theorem dM_square_27 : decode prog_13_method_40_code 27 = .ok (.getfield 25, 3) := by decide +kernel
theorem dM_square_30 : decode prog_13_method_40_code 30 = .ok (.bipush 8, 2) := by decide +kernel
theorem dM_square_32 : decode prog_13_method_40_code 32 = .ok (.iload 5, 2) := by decide +kernel
theorem dM_square_34 : decode prog_13_method_40_code 34 = .ok (.imul, 1) := by decide +kernel
theorem dM_square_35 : decode prog_13_method_40_code 35 = .ok (.iload 7, 2) := by decide +kernel
theorem dM_square_37 : decode prog_13_method_40_code 37 = .ok (.iadd, 1) := by decide +kernel
theorem dM_square_38 : decode prog_13_method_40_code 38 = .ok (.iaload, 1) := by decide +kernel
theorem dM_square_39 : decode prog_13_method_40_code 39 = .ok (.iload_n 3, 1) := by decide +kernel
theorem dM_square_40 : decode prog_13_method_40_code 40 = .ok (.isub, 1) := by decide +kernel
theorem dM_square_41 : decode prog_13_method_40_code 41 = .ok (.istore 8, 2) := by decide +kernel
theorem dM_square_43 : decode prog_13_method_40_code 43 = .ok (.aload_n 0, 1) := by decide +kernel
theorem dM_square_44 : decode prog_13_method_40_code 44 = .ok (.getfield 28, 3) := by decide +kernel
theorem dM_square_47 : decode prog_13_method_40_code 47 = .ok (.bipush 8, 2) := by decide +kernel
theorem dM_square_49 : decode prog_13_method_40_code 49 = .ok (.iload 5, 2) := by decide +kernel
theorem dM_square_51 : decode prog_13_method_40_code 51 = .ok (.imul, 1) := by decide +kernel
theorem dM_square_52 : decode prog_13_method_40_code 52 = .ok (.iload 7, 2) := by decide +kernel
theorem dM_square_54 : decode prog_13_method_40_code 54 = .ok (.iadd, 1) := by decide +kernel
theorem dM_square_55 : decode prog_13_method_40_code 55 = .ok (.iaload, 1) := by decide +kernel
theorem dM_square_56 : decode prog_13_method_40_code 56 = .ok (.iload 4, 2) := by decide +kernel
theorem dM_square_58 : decode prog_13_method_40_code 58 = .ok (.isub, 1) := by decide +kernel
theorem dM_square_59 : decode prog_13_method_40_code 59 = .ok (.istore 9, 2) := by decide +kernel
theorem dM_square_61 : decode prog_13_method_40_code 61 = .ok (.iload 7, 2) := by decide +kernel
theorem dM_square_63 : decode prog_13_method_40_code 63 = .ok (.ifCond .eq 19, 3) := by decide +kernel
theorem dM_square_66 : decode prog_13_method_40_code 66 = .ok (.iload 8, 2) := by decide +kernel
theorem dM_square_68 : decode prog_13_method_40_code 68 = .ok (.iload 8, 2) := by decide +kernel
theorem dM_square_70 : decode prog_13_method_40_code 70 = .ok (.imul, 1) := by decide +kernel
theorem dM_square_71 : decode prog_13_method_40_code 71 = .ok (.iload 9, 2) := by decide +kernel
theorem dM_square_73 : decode prog_13_method_40_code 73 = .ok (.iload 9, 2) := by decide +kernel
theorem dM_square_75 : decode prog_13_method_40_code 75 = .ok (.imul, 1) := by decide +kernel
theorem dM_square_76 : decode prog_13_method_40_code 76 = .ok (.iadd, 1) := by decide +kernel
theorem dM_square_77 : decode prog_13_method_40_code 77 = .ok (.iload 6, 2) := by decide +kernel
theorem dM_square_79 : decode prog_13_method_40_code 79 = .ok (.if_icmp .ge 16, 3) := by decide +kernel
theorem dM_square_82 : decode prog_13_method_40_code 82 = .ok (.iload 8, 2) := by decide +kernel
theorem dM_square_84 : decode prog_13_method_40_code 84 = .ok (.iload 8, 2) := by decide +kernel
theorem dM_square_86 : decode prog_13_method_40_code 86 = .ok (.imul, 1) := by decide +kernel
theorem dM_square_87 : decode prog_13_method_40_code 87 = .ok (.iload 9, 2) := by decide +kernel
theorem dM_square_89 : decode prog_13_method_40_code 89 = .ok (.iload 9, 2) := by decide +kernel
theorem dM_square_91 : decode prog_13_method_40_code 91 = .ok (.imul, 1) := by decide +kernel
theorem dM_square_92 : decode prog_13_method_40_code 92 = .ok (.iadd, 1) := by decide +kernel
theorem dM_square_93 : decode prog_13_method_40_code 93 = .ok (.istore 6, 2) := by decide +kernel
theorem dM_square_95 : decode prog_13_method_40_code 95 = .ok (.iinc 7 1, 3) := by decide +kernel
theorem dM_square_98 : decode prog_13_method_40_code 98 = .ok (.goto (-84), 3) := by decide +kernel
theorem dM_square_101 : decode prog_13_method_40_code 101 = .ok (.iload 6, 2) := by decide +kernel
theorem dM_square_103 : decode prog_13_method_40_code 103 = .ok (.ireturn, 1) := by decide +kernel
theorem dM_compareFractions_0 : decode prog_13_method_41_code 0 = .ok (.lload_n 0, 1) := by decide +kernel
theorem dM_compareFractions_1 : decode prog_13_method_41_code 1 = .ok (.lstore 8, 2) := by decide +kernel
theorem dM_compareFractions_3 : decode prog_13_method_41_code 3 = .ok (.lload_n 2, 1) := by decide +kernel
theorem dM_compareFractions_4 : decode prog_13_method_41_code 4 = .ok (.lstore 10, 2) := by decide +kernel
theorem dM_compareFractions_6 : decode prog_13_method_41_code 6 = .ok (.lload 4, 2) := by decide +kernel
theorem dM_compareFractions_8 : decode prog_13_method_41_code 8 = .ok (.lstore 12, 2) := by decide +kernel
theorem dM_compareFractions_10 : decode prog_13_method_41_code 10 = .ok (.lload 6, 2) := by decide +kernel
theorem dM_compareFractions_12 : decode prog_13_method_41_code 12 = .ok (.lstore 14, 2) := by decide +kernel
theorem dM_compareFractions_14 : decode prog_13_method_41_code 14 = .ok (.iconst 1, 1) := by decide +kernel
theorem dM_compareFractions_15 : decode prog_13_method_41_code 15 = .ok (.istore 16, 2) := by decide +kernel
theorem dM_compareFractions_17 : decode prog_13_method_41_code 17 = .ok (.lload 8, 2) := by decide +kernel
theorem dM_compareFractions_19 : decode prog_13_method_41_code 19 = .ok (.lload 10, 2) := by decide +kernel
theorem dM_compareFractions_21 : decode prog_13_method_41_code 21 = .ok (.ldiv, 1) := by decide +kernel
theorem dM_compareFractions_22 : decode prog_13_method_41_code 22 = .ok (.lload 12, 2) := by decide +kernel
theorem dM_compareFractions_24 : decode prog_13_method_41_code 24 = .ok (.lload 14, 2) := by decide +kernel
theorem dM_compareFractions_26 : decode prog_13_method_41_code 26 = .ok (.ldiv, 1) := by decide +kernel
theorem dM_compareFractions_27 : decode prog_13_method_41_code 27 = .ok (.lcmp, 1) := by decide +kernel
theorem dM_compareFractions_28 : decode prog_13_method_41_code 28 = .ok (.ifCond .eq 26, 3) := by decide +kernel
theorem dM_compareFractions_31 : decode prog_13_method_41_code 31 = .ok (.lload 8, 2) := by decide +kernel
theorem dM_compareFractions_33 : decode prog_13_method_41_code 33 = .ok (.lload 10, 2) := by decide +kernel
theorem dM_compareFractions_35 : decode prog_13_method_41_code 35 = .ok (.ldiv, 1) := by decide +kernel
theorem dM_compareFractions_36 : decode prog_13_method_41_code 36 = .ok (.lload 12, 2) := by decide +kernel
theorem dM_compareFractions_38 : decode prog_13_method_41_code 38 = .ok (.lload 14, 2) := by decide +kernel
theorem dM_compareFractions_40 : decode prog_13_method_41_code 40 = .ok (.ldiv, 1) := by decide +kernel
theorem dM_compareFractions_41 : decode prog_13_method_41_code 41 = .ok (.lcmp, 1) := by decide +kernel
theorem dM_compareFractions_42 : decode prog_13_method_41_code 42 = .ok (.ifCond .ge 9, 3) := by decide +kernel
theorem dM_compareFractions_45 : decode prog_13_method_41_code 45 = .ok (.iload 16, 2) := by decide +kernel
theorem dM_compareFractions_47 : decode prog_13_method_41_code 47 = .ok (.ineg, 1) := by decide +kernel
theorem dM_compareFractions_48 : decode prog_13_method_41_code 48 = .ok (.goto 5, 3) := by decide +kernel
theorem dM_compareFractions_51 : decode prog_13_method_41_code 51 = .ok (.iload 16, 2) := by decide +kernel
theorem dM_compareFractions_53 : decode prog_13_method_41_code 53 = .ok (.ireturn, 1) := by decide +kernel
theorem dM_compareFractions_54 : decode prog_13_method_41_code 54 = .ok (.lload 8, 2) := by decide +kernel
theorem dM_compareFractions_56 : decode prog_13_method_41_code 56 = .ok (.lload 10, 2) := by decide +kernel
theorem dM_compareFractions_58 : decode prog_13_method_41_code 58 = .ok (.lrem, 1) := by decide +kernel
theorem dM_compareFractions_59 : decode prog_13_method_41_code 59 = .ok (.lstore 17, 2) := by decide +kernel
theorem dM_compareFractions_61 : decode prog_13_method_41_code 61 = .ok (.lload 12, 2) := by decide +kernel
theorem dM_compareFractions_63 : decode prog_13_method_41_code 63 = .ok (.lload 14, 2) := by decide +kernel
theorem dM_compareFractions_65 : decode prog_13_method_41_code 65 = .ok (.lrem, 1) := by decide +kernel
theorem dM_compareFractions_66 : decode prog_13_method_41_code 66 = .ok (.lstore 19, 2) := by decide +kernel
theorem dM_compareFractions_68 : decode prog_13_method_41_code 68 = .ok (.lload 17, 2) := by decide +kernel
theorem dM_compareFractions_70 : decode prog_13_method_41_code 70 = .ok (.lconst 0, 1) := by decide +kernel
theorem dM_compareFractions_71 : decode prog_13_method_41_code 71 = .ok (.lcmp, 1) := by decide +kernel
theorem dM_compareFractions_72 : decode prog_13_method_41_code 72 = .ok (.ifCond .eq 10, 3) := by decide +kernel
theorem dM_compareFractions_75 : decode prog_13_method_41_code 75 = .ok (.lload 19, 2) := by decide +kernel
theorem dM_compareFractions_77 : decode prog_13_method_41_code 77 = .ok (.lconst 0, 1) := by decide +kernel
theorem dM_compareFractions_78 : decode prog_13_method_41_code 78 = .ok (.lcmp, 1) := by decide +kernel
theorem dM_compareFractions_79 : decode prog_13_method_41_code 79 = .ok (.ifCond .ne 31, 3) := by decide +kernel
theorem dM_compareFractions_82 : decode prog_13_method_41_code 82 = .ok (.lload 17, 2) := by decide +kernel
theorem dM_compareFractions_84 : decode prog_13_method_41_code 84 = .ok (.lload 19, 2) := by decide +kernel
theorem dM_compareFractions_86 : decode prog_13_method_41_code 86 = .ok (.lcmp, 1) := by decide +kernel
theorem dM_compareFractions_87 : decode prog_13_method_41_code 87 = .ok (.ifCond .ne 7, 3) := by decide +kernel
theorem dM_compareFractions_90 : decode prog_13_method_41_code 90 = .ok (.iconst 0, 1) := by decide +kernel
theorem dM_compareFractions_91 : decode prog_13_method_41_code 91 = .ok (.goto 18, 3) := by decide +kernel
theorem dM_compareFractions_94 : decode prog_13_method_41_code 94 = .ok (.lload 17, 2) := by decide +kernel
theorem dM_compareFractions_96 : decode prog_13_method_41_code 96 = .ok (.lconst 0, 1) := by decide +kernel
theorem dM_compareFractions_97 : decode prog_13_method_41_code 97 = .ok (.lcmp, 1) := by decide +kernel
theorem dM_compareFractions_98 : decode prog_13_method_41_code 98 = .ok (.ifCond .ne 9, 3) := by decide +kernel
theorem dM_compareFractions_101 : decode prog_13_method_41_code 101 = .ok (.iload 16, 2) := by decide +kernel
theorem dM_compareFractions_103 : decode prog_13_method_41_code 103 = .ok (.ineg, 1) := by decide +kernel
theorem dM_compareFractions_104 : decode prog_13_method_41_code 104 = .ok (.goto 5, 3) := by decide +kernel
theorem dM_compareFractions_107 : decode prog_13_method_41_code 107 = .ok (.iload 16, 2) := by decide +kernel
theorem dM_compareFractions_109 : decode prog_13_method_41_code 109 = .ok (.ireturn, 1) := by decide +kernel
theorem dM_compareFractions_110 : decode prog_13_method_41_code 110 = .ok (.lload 10, 2) := by decide +kernel
theorem dM_compareFractions_112 : decode prog_13_method_41_code 112 = .ok (.lstore 8, 2) := by decide +kernel
theorem dM_compareFractions_114 : decode prog_13_method_41_code 114 = .ok (.lload 17, 2) := by decide +kernel
theorem dM_compareFractions_116 : decode prog_13_method_41_code 116 = .ok (.lstore 10, 2) := by decide +kernel
theorem dM_compareFractions_118 : decode prog_13_method_41_code 118 = .ok (.lload 14, 2) := by decide +kernel
theorem dM_compareFractions_120 : decode prog_13_method_41_code 120 = .ok (.lstore 12, 2) := by decide +kernel
theorem dM_compareFractions_122 : decode prog_13_method_41_code 122 = .ok (.lload 19, 2) := by decide +kernel
theorem dM_compareFractions_124 : decode prog_13_method_41_code 124 = .ok (.lstore 14, 2) := by decide +kernel
theorem dM_compareFractions_126 : decode prog_13_method_41_code 126 = .ok (.iload 16, 2) := by decide +kernel
theorem dM_compareFractions_128 : decode prog_13_method_41_code 128 = .ok (.ineg, 1) := by decide +kernel
theorem dM_compareFractions_129 : decode prog_13_method_41_code 129 = .ok (.istore 16, 2) := by decide +kernel
theorem dM_compareFractions_131 : decode prog_13_method_41_code 131 = .ok (.goto (-114), 3) := by decide +kernel
theorem dM_measure_0 : decode prog_13_method_42_code 0 = .ok (.iload_n 3, 1) := by decide +kernel
theorem dM_measure_1 : decode prog_13_method_42_code 1 = .ok (.iload_n 1, 1) := by decide +kernel
theorem dM_measure_2 : decode prog_13_method_42_code 2 = .ok (.isub, 1) := by decide +kernel
theorem dM_measure_3 : decode prog_13_method_42_code 3 = .ok (.i2l, 1) := by decide +kernel
theorem dM_measure_4 : decode prog_13_method_42_code 4 = .ok (.lstore 7, 2) := by decide +kernel
theorem dM_measure_6 : decode prog_13_method_42_code 6 = .ok (.iload 4, 2) := by decide +kernel
theorem dM_measure_8 : decode prog_13_method_42_code 8 = .ok (.iload_n 2, 1) := by decide +kernel
theorem dM_measure_9 : decode prog_13_method_42_code 9 = .ok (.isub, 1) := by decide +kernel
theorem dM_measure_10 : decode prog_13_method_42_code 10 = .ok (.i2l, 1) := by decide +kernel
theorem dM_measure_11 : decode prog_13_method_42_code 11 = .ok (.lstore 9, 2) := by decide +kernel
theorem dM_measure_13 : decode prog_13_method_42_code 13 = .ok (.lload 7, 2) := by decide +kernel
theorem dM_measure_15 : decode prog_13_method_42_code 15 = .ok (.lload 7, 2) := by decide +kernel
theorem dM_measure_17 : decode prog_13_method_42_code 17 = .ok (.lmul, 1) := by decide +kernel
theorem dM_measure_18 : decode prog_13_method_42_code 18 = .ok (.lload 9, 2) := by decide +kernel
theorem dM_measure_20 : decode prog_13_method_42_code 20 = .ok (.lload 9, 2) := by decide +kernel
theorem dM_measure_22 : decode prog_13_method_42_code 22 = .ok (.lmul, 1) := by decide +kernel
theorem dM_measure_23 : decode prog_13_method_42_code 23 = .ok (.ladd, 1) := by decide +kernel
theorem dM_measure_24 : decode prog_13_method_42_code 24 = .ok (.lstore 11, 2) := by decide +kernel
theorem dM_measure_26 : decode prog_13_method_42_code 26 = .ok (.lload 7, 2) := by decide +kernel
theorem dM_measure_28 : decode prog_13_method_42_code 28 = .ok (.iload 5, 2) := by decide +kernel
theorem dM_measure_30 : decode prog_13_method_42_code 30 = .ok (.iload_n 1, 1) := by decide +kernel
theorem dM_measure_31 : decode prog_13_method_42_code 31 = .ok (.isub, 1) := by decide +kernel
theorem dM_measure_32 : decode prog_13_method_42_code 32 = .ok (.i2l, 1) := by decide +kernel
theorem dM_measure_33 : decode prog_13_method_42_code 33 = .ok (.lmul, 1) := by decide +kernel
theorem dM_measure_34 : decode prog_13_method_42_code 34 = .ok (.lload 9, 2) := by decide +kernel
theorem dM_measure_36 : decode prog_13_method_42_code 36 = .ok (.iload 6, 2) := by decide +kernel
theorem dM_measure_38 : decode prog_13_method_42_code 38 = .ok (.iload_n 2, 1) := by decide +kernel
theorem dM_measure_39 : decode prog_13_method_42_code 39 = .ok (.isub, 1) := by decide +kernel
theorem dM_measure_40 : decode prog_13_method_42_code 40 = .ok (.i2l, 1) := by decide +kernel
theorem dM_measure_41 : decode prog_13_method_42_code 41 = .ok (.lmul, 1) := by decide +kernel
theorem dM_measure_42 : decode prog_13_method_42_code 42 = .ok (.ladd, 1) := by decide +kernel
theorem dM_measure_43 : decode prog_13_method_42_code 43 = .ok (.lstore 13, 2) := by decide +kernel
theorem dM_measure_45 : decode prog_13_method_42_code 45 = .ok (.aload_n 0, 1) := by decide +kernel
theorem dM_measure_46 : decode prog_13_method_42_code 46 = .ok (.lload 11, 2) := by decide +kernel
theorem dM_measure_48 : decode prog_13_method_42_code 48 = .ok (.lconst 0, 1) := by decide +kernel
theorem dM_measure_49 : decode prog_13_method_42_code 49 = .ok (.lcmp, 1) := by decide +kernel
theorem dM_measure_50 : decode prog_13_method_42_code 50 = .ok (.ifCond .ne 7, 3) := by decide +kernel
theorem dM_measure_53 : decode prog_13_method_42_code 53 = .ok (.lconst 1, 1) := by decide +kernel
theorem dM_measure_54 : decode prog_13_method_42_code 54 = .ok (.goto 5, 3) := by decide +kernel
theorem dM_measure_57 : decode prog_13_method_42_code 57 = .ok (.lload 11, 2) := by decide +kernel
theorem dM_measure_59 : decode prog_13_method_42_code 59 = .ok (.putfield 218, 3) := by decide +kernel
theorem dM_measure_62 : decode prog_13_method_42_code 62 = .ok (.aload_n 0, 1) := by decide +kernel
theorem dM_measure_63 : decode prog_13_method_42_code 63 = .ok (.lconst 1, 1) := by decide +kernel
theorem dM_measure_64 : decode prog_13_method_42_code 64 = .ok (.putfield 222, 3) := by decide +kernel
theorem dM_measure_67 : decode prog_13_method_42_code 67 = .ok (.lload 13, 2) := by decide +kernel
theorem dM_measure_69 : decode prog_13_method_42_code 69 = .ok (.lconst 0, 1) := by decide +kernel
theorem dM_measure_70 : decode prog_13_method_42_code 70 = .ok (.lcmp, 1) := by decide +kernel
theorem dM_measure_71 : decode prog_13_method_42_code 71 = .ok (.ifCond .le 10, 3) := by decide +kernel
