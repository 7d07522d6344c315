theorem dM_compareWords_106 : decode prog_13_method_47_code 106 = .ok (.iload_n 3, 1) := by decide +kernel
theorem dM_compareWords_107 : decode prog_13_method_47_code 107 = .ok (.iadd, 1) := by decide +kernel
theorem dM_compareWords_108 : decode prog_13_method_47_code 108 = .ok (.iaload, 1) := by decide +kernel
theorem dM_compareWords_109 : decode prog_13_method_47_code 109 = .ok (.isub, 1) := by decide +kernel
theorem dM_compareWords_110 : decode prog_13_method_47_code 110 = .ok (.ireturn, 1) := by decide +kernel
theorem dM_firstCondition_0 : decode prog_13_method_48_code 0 = .ok (.iconst (-1), 1) := by decide +kernel
theorem dM_firstCondition_1 : decode prog_13_method_48_code 1 = .ok (.istore_n 3, 1) := by decide +kernel
theorem dM_firstCondition_2 : decode prog_13_method_48_code 2 = .ok (.aload_n 0, 1) := by decide +kernel
theorem dM_firstCondition_3 : decode prog_13_method_48_code 3 = .ok (.getfield 67, 3) := by decide +kernel
theorem dM_firstCondition_6 : decode prog_13_method_48_code 6 = .ok (.iconst 0, 1) := by decide +kernel
theorem dM_firstCondition_7 : decode prog_13_method_48_code 7 = .ok (.iaload, 1) := by decide +kernel
theorem dM_firstCondition_8 : decode prog_13_method_48_code 8 = .ok (.iconst 1, 1) := by decide +kernel
theorem dM_firstCondition_9 : decode prog_13_method_48_code 9 = .ok (.isub, 1) := by decide +kernel
theorem dM_firstCondition_10 : decode prog_13_method_48_code 10 = .ok (.istore 4, 2) := by decide +kernel
theorem dM_firstCondition_12 : decode prog_13_method_48_code 12 = .ok (.iload 4, 2) := by decide +kernel
theorem dM_firstCondition_14 : decode prog_13_method_48_code 14 = .ok (.ifCond .lt 31, 3) := by decide +kernel
theorem dM_firstCondition_17 : decode prog_13_method_48_code 17 = .ok (.aload_n 0, 1) := by decide +kernel
theorem dM_firstCondition_18 : decode prog_13_method_48_code 18 = .ok (.getfield 70, 3) := by decide +kernel
theorem dM_firstCondition_21 : decode prog_13_method_48_code 21 = .ok (.iload 4, 2) := by decide +kernel
theorem dM_firstCondition_23 : decode prog_13_method_48_code 23 = .ok (.iaload, 1) := by decide +kernel
theorem dM_firstCondition_24 : decode prog_13_method_48_code 24 = .ok (.iload_n 1, 1) := by decide +kernel
theorem dM_firstCondition_25 : decode prog_13_method_48_code 25 = .ok (.iload_n 2, 1) := by decide +kernel
theorem dM_firstCondition_26 : decode prog_13_method_48_code 26 = .ok (.invokestatic 139, 3) := by decide +kernel
theorem dM_firstCondition_29 : decode prog_13_method_48_code 29 = .ok (.ifCond .eq 8, 3) := by decide +kernel
theorem dM_firstCondition_32 : decode prog_13_method_48_code 32 = .ok (.iload 4, 2) := by decide +kernel
theorem dM_firstCondition_34 : decode prog_13_method_48_code 34 = .ok (.goto 4, 3) := by decide +kernel
theorem dM_firstCondition_37 : decode prog_13_method_48_code 37 = .ok (.iload_n 3, 1) := by decide +kernel
theorem dM_firstCondition_38 : decode prog_13_method_48_code 38 = .ok (.istore_n 3, 1) := by decide +kernel
theorem dM_firstCondition_39 : decode prog_13_method_48_code 39 = .ok (.iinc 4 (-1), 3) := by decide +kernel
theorem dM_firstCondition_42 : decode prog_13_method_48_code 42 = .ok (.goto (-30), 3) := by decide +kernel
theorem dM_firstCondition_45 : decode prog_13_method_48_code 45 = .ok (.iload_n 3, 1) := by decide +kernel
theorem dM_firstCondition_46 : decode prog_13_method_48_code 46 = .ok (.ireturn, 1) := by decide +kernel
theorem dM_makeKeys_0 : decode prog_13_method_49_code 0 = .ok (.iload_n 3, 1) := by decide +kernel
theorem dM_makeKeys_1 : decode prog_13_method_49_code 1 = .ok (.iconst 1, 1) := by decide +kernel
theorem dM_makeKeys_2 : decode prog_13_method_49_code 2 = .ok (.if_icmp .ne 109, 3) := by decide +kernel
theorem dM_makeKeys_5 : decode prog_13_method_49_code 5 = .ok (.aload_n 0, 1) := by decide +kernel
theorem dM_makeKeys_6 : decode prog_13_method_49_code 6 = .ok (.iconst 0, 1) := by decide +kernel
theorem dM_makeKeys_7 : decode prog_13_method_49_code 7 = .ok (.iconst 3, 1) := by decide +kernel
theorem dM_makeKeys_8 : decode prog_13_method_49_code 8 = .ok (.invokevirtual 278, 3) := by decide +kernel
theorem dM_makeKeys_11 : decode prog_13_method_49_code 11 = .ok (.istore 4, 2) := by decide +kernel
theorem dM_makeKeys_13 : decode prog_13_method_49_code 13 = .ok (.aload_n 0, 1) := by decide +kernel
theorem dM_makeKeys_14 : decode prog_13_method_49_code 14 = .ok (.getfield 116, 3) := by decide +kernel
theorem dM_makeKeys_17 : decode prog_13_method_49_code 17 = .ok (.iload_n 1, 1) := by decide +kernel
theorem dM_makeKeys_18 : decode prog_13_method_49_code 18 = .ok (.iconst (-1), 1) := by decide +kernel
theorem dM_makeKeys_19 : decode prog_13_method_49_code 19 = .ok (.iastore, 1) := by decide +kernel
theorem dM_makeKeys_20 : decode prog_13_method_49_code 20 = .ok (.iconst 0, 1) := by decide +kernel
theorem dM_makeKeys_21 : decode prog_13_method_49_code 21 = .ok (.istore 5, 2) := by decide +kernel
theorem dM_makeKeys_23 : decode prog_13_method_49_code 23 = .ok (.iload 5, 2) := by decide +kernel
theorem dM_makeKeys_25 : decode prog_13_method_49_code 25 = .ok (.aload_n 0, 1) := by decide +kernel
theorem dM_makeKeys_26 : decode prog_13_method_49_code 26 = .ok (.getfield 31, 3) := by decide +kernel
theorem dM_makeKeys_29 : decode prog_13_method_49_code 29 = .ok (.iload_n 1, 1) := by decide +kernel
theorem dM_makeKeys_30 : decode prog_13_method_49_code 30 = .ok (.iaload, 1) := by decide +kernel
theorem dM_makeKeys_31 : decode prog_13_method_49_code 31 = .ok (.if_icmp .ge 80, 3) := by decide +kernel
theorem dM_makeKeys_34 : decode prog_13_method_49_code 34 = .ok (.iconst 2, 1) := by decide +kernel
theorem dM_makeKeys_35 : decode prog_13_method_49_code 35 = .ok (.iload_n 1, 1) := by decide +kernel
theorem dM_makeKeys_36 : decode prog_13_method_49_code 36 = .ok (.imul, 1) := by decide +kernel
theorem dM_makeKeys_37 : decode prog_13_method_49_code 37 = .ok (.iload 5, 2) := by decide +kernel
theorem dM_makeKeys_39 : decode prog_13_method_49_code 39 = .ok (.iadd, 1) := by decide +kernel
theorem dM_makeKeys_40 : decode prog_13_method_49_code 40 = .ok (.istore 6, 2) := by decide +kernel
theorem dM_makeKeys_42 : decode prog_13_method_49_code 42 = .ok (.aload_n 0, 1) := by decide +kernel
theorem dM_makeKeys_43 : decode prog_13_method_49_code 43 = .ok (.iload 6, 2) := by decide +kernel
theorem dM_makeKeys_45 : decode prog_13_method_49_code 45 = .ok (.iload_n 2, 1) := by decide +kernel
theorem dM_makeKeys_46 : decode prog_13_method_49_code 46 = .ok (.invokevirtual 212, 3) := by decide +kernel
theorem dM_makeKeys_49 : decode prog_13_method_49_code 49 = .ok (.ifCond .eq 56, 3) := by decide +kernel
theorem dM_makeKeys_52 : decode prog_13_method_49_code 52 = .ok (.iload 4, 2) := by decide +kernel
theorem dM_makeKeys_54 : decode prog_13_method_49_code 54 = .ok (.iconst (-1), 1) := by decide +kernel
theorem dM_makeKeys_55 : decode prog_13_method_49_code 55 = .ok (.if_icmp .eq 17, 3) := by decide +kernel
theorem dM_makeKeys_58 : decode prog_13_method_49_code 58 = .ok (.aload_n 0, 1) := by decide +kernel
theorem dM_makeKeys_59 : decode prog_13_method_49_code 59 = .ok (.iload 6, 2) := by decide +kernel
theorem dM_makeKeys_61 : decode prog_13_method_49_code 61 = .ok (.iload 4, 2) := by decide +kernel
theorem dM_makeKeys_63 : decode prog_13_method_49_code 63 = .ok (.invokevirtual 215, 3) := by decide +kernel
theorem dM_makeKeys_66 : decode prog_13_method_49_code 66 = .ok (.ifCond .ne 6, 3) := by decide +kernel
theorem dM_makeKeys_69 : decode prog_13_method_49_code 69 = .ok (.goto 36, 3) := by decide +kernel
theorem dM_makeKeys_72 : decode prog_13_method_49_code 72 = .ok (.aload_n 0, 1) := by decide +kernel
theorem dM_makeKeys_73 : decode prog_13_method_49_code 73 = .ok (.getfield 116, 3) := by decide +kernel
theorem dM_makeKeys_76 : decode prog_13_method_49_code 76 = .ok (.iload_n 1, 1) := by decide +kernel
theorem dM_makeKeys_77 : decode prog_13_method_49_code 77 = .ok (.iaload, 1) := by decide +kernel
theorem dM_makeKeys_78 : decode prog_13_method_49_code 78 = .ok (.iconst (-1), 1) := by decide +kernel
theorem dM_makeKeys_79 : decode prog_13_method_49_code 79 = .ok (.if_icmp .eq 18, 3) := by decide +kernel
theorem dM_makeKeys_82 : decode prog_13_method_49_code 82 = .ok (.aload_n 0, 1) := by decide +kernel
theorem dM_makeKeys_83 : decode prog_13_method_49_code 83 = .ok (.iload 6, 2) := by decide +kernel
theorem dM_makeKeys_85 : decode prog_13_method_49_code 85 = .ok (.aload_n 0, 1) := by decide +kernel
theorem dM_makeKeys_86 : decode prog_13_method_49_code 86 = .ok (.getfield 116, 3) := by decide +kernel
theorem dM_makeKeys_89 : decode prog_13_method_49_code 89 = .ok (.iload_n 1, 1) := by decide +kernel
theorem dM_makeKeys_90 : decode prog_13_method_49_code 90 = .ok (.iaload, 1) := by decide +kernel
theorem dM_makeKeys_91 : decode prog_13_method_49_code 91 = .ok (.invokevirtual 281, 3) := by decide +kernel
theorem dM_makeKeys_94 : decode prog_13_method_49_code 94 = .ok (.ifCond .ge 11, 3) := by decide +kernel
theorem dM_makeKeys_97 : decode prog_13_method_49_code 97 = .ok (.aload_n 0, 1) := by decide +kernel
theorem dM_makeKeys_98 : decode prog_13_method_49_code 98 = .ok (.getfield 116, 3) := by decide +kernel
theorem dM_makeKeys_101 : decode prog_13_method_49_code 101 = .ok (.iload_n 1, 1) := by decide +kernel
theorem dM_makeKeys_102 : decode prog_13_method_49_code 102 = .ok (.iload 6, 2) := by decide +kernel
theorem dM_makeKeys_104 : decode prog_13_method_49_code 104 = .ok (.iastore, 1) := by decide +kernel
theorem dM_makeKeys_105 : decode prog_13_method_49_code 105 = .ok (.iinc 5 1, 3) := by decide +kernel
theorem dM_makeKeys_108 : decode prog_13_method_49_code 108 = .ok (.goto (-85), 3) := by decide +kernel
theorem dM_makeKeys_111 : decode prog_13_method_49_code 111 = .ok (.iload_n 3, 1) := by decide +kernel
theorem dM_makeKeys_112 : decode prog_13_method_49_code 112 = .ok (.iconst 2, 1) := by decide +kernel
theorem dM_makeKeys_113 : decode prog_13_method_49_code 113 = .ok (.if_icmp .ne 56, 3) := by decide +kernel
theorem dM_makeKeys_116 : decode prog_13_method_49_code 116 = .ok (.aload_n 0, 1) := by decide +kernel
theorem dM_makeKeys_117 : decode prog_13_method_49_code 117 = .ok (.bipush 7, 2) := by decide +kernel
theorem dM_makeKeys_119 : decode prog_13_method_49_code 119 = .ok (.bipush 7, 2) := by decide +kernel
theorem dM_makeKeys_121 : decode prog_13_method_49_code 121 = .ok (.invokevirtual 278, 3) := by decide +kernel
theorem dM_makeKeys_124 : decode prog_13_method_49_code 124 = .ok (.istore 4, 2) := by decide +kernel
theorem dM_makeKeys_126 : decode prog_13_method_49_code 126 = .ok (.aload_n 0, 1) := by decide +kernel
theorem dM_makeKeys_127 : decode prog_13_method_49_code 127 = .ok (.getfield 119, 3) := by decide +kernel
theorem dM_makeKeys_130 : decode prog_13_method_49_code 130 = .ok (.iload_n 1, 1) := by decide +kernel
theorem dM_makeKeys_131 : decode prog_13_method_49_code 131 = .ok (.iload 4, 2) := by decide +kernel
theorem dM_makeKeys_133 : decode prog_13_method_49_code 133 = .ok (.iconst (-1), 1) := by decide +kernel
theorem dM_makeKeys_134 : decode prog_13_method_49_code 134 = .ok (.if_icmp .ne 14, 3) := by decide +kernel
theorem dM_makeKeys_137 : decode prog_13_method_49_code 137 = .ok (.aload_n 0, 1) := by decide +kernel
theorem dM_makeKeys_138 : decode prog_13_method_49_code 138 = .ok (.iload_n 1, 1) := by decide +kernel
theorem dM_makeKeys_139 : decode prog_13_method_49_code 139 = .ok (.iload_n 2, 1) := by decide +kernel
theorem dM_makeKeys_140 : decode prog_13_method_49_code 140 = .ok (.iconst 0, 1) := by decide +kernel
theorem dM_makeKeys_141 : decode prog_13_method_49_code 141 = .ok (.iconst 0, 1) := by decide +kernel
theorem dM_makeKeys_142 : decode prog_13_method_49_code 142 = .ok (.invokevirtual 270, 3) := by decide +kernel
theorem dM_makeKeys_145 : decode prog_13_method_49_code 145 = .ok (.goto 23, 3) := by decide +kernel
theorem dM_makeKeys_148 : decode prog_13_method_49_code 148 = .ok (.aload_n 0, 1) := by decide +kernel
theorem dM_makeKeys_149 : decode prog_13_method_49_code 149 = .ok (.iload_n 1, 1) := by decide +kernel
theorem dM_makeKeys_150 : decode prog_13_method_49_code 150 = .ok (.iload_n 2, 1) := by decide +kernel
theorem dM_makeKeys_151 : decode prog_13_method_49_code 151 = .ok (.aload_n 0, 1) := by decide +kernel
theorem dM_makeKeys_152 : decode prog_13_method_49_code 152 = .ok (.getfield 73, 3) := by decide +kernel
theorem dM_makeKeys_155 : decode prog_13_method_49_code 155 = .ok (.iload 4, 2) := by decide +kernel
theorem dM_makeKeys_157 : decode prog_13_method_49_code 157 = .ok (.iaload, 1) := by decide +kernel
theorem dM_makeKeys_158 : decode prog_13_method_49_code 158 = .ok (.aload_n 0, 1) := by decide +kernel
theorem dM_makeKeys_159 : decode prog_13_method_49_code 159 = .ok (.getfield 76, 3) := by decide +kernel
theorem dM_makeKeys_162 : decode prog_13_method_49_code 162 = .ok (.iload 4, 2) := by decide +kernel
theorem dM_makeKeys_164 : decode prog_13_method_49_code 164 = .ok (.iaload, 1) := by decide +kernel
theorem dM_makeKeys_165 : decode prog_13_method_49_code 165 = .ok (.invokevirtual 270, 3) := by decide +kernel
theorem dM_makeKeys_168 : decode prog_13_method_49_code 168 = .ok (.iastore, 1) := by decide +kernel
theorem dM_makeKeys_169 : decode prog_13_method_49_code 169 = .ok (.iload_n 3, 1) := by decide +kernel
theorem dM_makeKeys_170 : decode prog_13_method_49_code 170 = .ok (.iconst 3, 1) := by decide +kernel
theorem dM_makeKeys_171 : decode prog_13_method_49_code 171 = .ok (.if_icmp .ne 50, 3) := by decide +kernel
theorem dM_makeKeys_174 : decode prog_13_method_49_code 174 = .ok (.aload_n 0, 1) := by decide +kernel
theorem dM_makeKeys_175 : decode prog_13_method_49_code 175 = .ok (.getfield 88, 3) := by decide +kernel
theorem dM_makeKeys_178 : decode prog_13_method_49_code 178 = .ok (.iconst 0, 1) := by decide +kernel
theorem dM_makeKeys_179 : decode prog_13_method_49_code 179 = .ok (.iaload, 1) := by decide +kernel
theorem dM_makeKeys_180 : decode prog_13_method_49_code 180 = .ok (.iconst 1, 1) := by decide +kernel
theorem dM_makeKeys_181 : decode prog_13_method_49_code 181 = .ok (.if_icmp .le 40, 3) := by decide +kernel
theorem dM_makeKeys_184 : decode prog_13_method_49_code 184 = .ok (.aload_n 0, 1) := by decide +kernel
theorem dM_makeKeys_185 : decode prog_13_method_49_code 185 = .ok (.iload_n 1, 1) := by decide +kernel
theorem dM_makeKeys_186 : decode prog_13_method_49_code 186 = .ok (.iload_n 2, 1) := by decide +kernel
theorem dM_makeKeys_187 : decode prog_13_method_49_code 187 = .ok (.iconst 0, 1) := by decide +kernel
theorem dM_makeKeys_188 : decode prog_13_method_49_code 188 = .ok (.invokevirtual 257, 3) := by decide +kernel
theorem dM_makeKeys_191 : decode prog_13_method_49_code 191 = .ok (.aload_n 0, 1) := by decide +kernel
theorem dM_makeKeys_192 : decode prog_13_method_49_code 192 = .ok (.getfield 122, 3) := by decide +kernel
theorem dM_makeKeys_195 : decode prog_13_method_49_code 195 = .ok (.iload_n 1, 1) := by decide +kernel
theorem dM_makeKeys_196 : decode prog_13_method_49_code 196 = .ok (.aload_n 0, 1) := by decide +kernel
theorem dM_makeKeys_197 : decode prog_13_method_49_code 197 = .ok (.getfield 231, 3) := by decide +kernel
theorem dM_makeKeys_200 : decode prog_13_method_49_code 200 = .ok (.iastore, 1) := by decide +kernel
theorem dM_makeKeys_201 : decode prog_13_method_49_code 201 = .ok (.aload_n 0, 1) := by decide +kernel
theorem dM_makeKeys_202 : decode prog_13_method_49_code 202 = .ok (.getfield 125, 3) := by decide +kernel
theorem dM_makeKeys_205 : decode prog_13_method_49_code 205 = .ok (.iload_n 1, 1) := by decide +kernel
theorem dM_makeKeys_206 : decode prog_13_method_49_code 206 = .ok (.aload_n 0, 1) := by decide +kernel
theorem dM_makeKeys_207 : decode prog_13_method_49_code 207 = .ok (.getfield 244, 3) := by decide +kernel
theorem dM_makeKeys_210 : decode prog_13_method_49_code 210 = .ok (.lastore, 1) := by decide +kernel
theorem dM_makeKeys_211 : decode prog_13_method_49_code 211 = .ok (.aload_n 0, 1) := by decide +kernel
theorem dM_makeKeys_212 : decode prog_13_method_49_code 212 = .ok (.getfield 129, 3) := by decide +kernel
theorem dM_makeKeys_215 : decode prog_13_method_49_code 215 = .ok (.iload_n 1, 1) := by decide +kernel
theorem dM_makeKeys_216 : decode prog_13_method_49_code 216 = .ok (.aload_n 0, 1) := by decide +kernel
theorem dM_makeKeys_217 : decode prog_13_method_49_code 217 = .ok (.getfield 247, 3) := by decide +kernel
theorem dM_makeKeys_220 : decode prog_13_method_49_code 220 = .ok (.lastore, 1) := by decide +kernel
theorem dM_makeKeys_221 : decode prog_13_method_49_code 221 = .ok (.return_, 1) := by decide +kernel
theorem dM_compareKeys_0 : decode prog_13_method_50_code 0 = .ok (.iload_n 3, 1) := by decide +kernel
theorem dM_compareKeys_1 : decode prog_13_method_50_code 1 = .ok (.iconst 1, 1) := by decide +kernel
theorem dM_compareKeys_2 : decode prog_13_method_50_code 2 = .ok (.if_icmp .ne 58, 3) := by decide +kernel
theorem dM_compareKeys_5 : decode prog_13_method_50_code 5 = .ok (.aload_n 0, 1) := by decide +kernel
theorem dM_compareKeys_6 : decode prog_13_method_50_code 6 = .ok (.getfield 116, 3) := by decide +kernel
theorem dM_compareKeys_9 : decode prog_13_method_50_code 9 = .ok (.iload_n 1, 1) := by decide +kernel
theorem dM_compareKeys_10 : decode prog_13_method_50_code 10 = .ok (.iaload, 1) := by decide +kernel
theorem dM_compareKeys_11 : decode prog_13_method_50_code 11 = .ok (.istore 4, 2) := by decide +kernel
theorem dM_compareKeys_13 : decode prog_13_method_50_code 13 = .ok (.aload_n 0, 1) := by decide +kernel
theorem dM_compareKeys_14 : decode prog_13_method_50_code 14 = .ok (.getfield 116, 3) := by decide +kernel
theorem dM_compareKeys_17 : decode prog_13_method_50_code 17 = .ok (.iload_n 2, 1) := by decide +kernel
theorem dM_compareKeys_18 : decode prog_13_method_50_code 18 = .ok (.iaload, 1) := by decide +kernel
theorem dM_compareKeys_19 : decode prog_13_method_50_code 19 = .ok (.istore 5, 2) := by decide +kernel
theorem dM_compareKeys_21 : decode prog_13_method_50_code 21 = .ok (.iload 4, 2) := by decide +kernel
theorem dM_compareKeys_23 : decode prog_13_method_50_code 23 = .ok (.iconst (-1), 1) := by decide +kernel
theorem dM_compareKeys_24 : decode prog_13_method_50_code 24 = .ok (.if_icmp .ne 17, 3) := by decide +kernel
theorem dM_compareKeys_27 : decode prog_13_method_50_code 27 = .ok (.iload 5, 2) := by decide +kernel
theorem dM_compareKeys_29 : decode prog_13_method_50_code 29 = .ok (.iconst (-1), 1) := by decide +kernel
theorem dM_compareKeys_30 : decode prog_13_method_50_code 30 = .ok (.if_icmp .ne 7, 3) := by decide +kernel
theorem dM_compareKeys_33 : decode prog_13_method_50_code 33 = .ok (.iconst 0, 1) := by decide +kernel
theorem dM_compareKeys_34 : decode prog_13_method_50_code 34 = .ok (.goto 25, 3) := by decide +kernel
theorem dM_compareKeys_37 : decode prog_13_method_50_code 37 = .ok (.iconst 1, 1) := by decide +kernel
theorem dM_compareKeys_38 : decode prog_13_method_50_code 38 = .ok (.goto 21, 3) := by decide +kernel
theorem dM_compareKeys_41 : decode prog_13_method_50_code 41 = .ok (.iload 5, 2) := by decide +kernel
theorem dM_compareKeys_43 : decode prog_13_method_50_code 43 = .ok (.iconst (-1), 1) := by decide +kernel
theorem dM_compareKeys_44 : decode prog_13_method_50_code 44 = .ok (.if_icmp .ne 7, 3) := by decide +kernel
theorem dM_compareKeys_47 : decode prog_13_method_50_code 47 = .ok (.iconst (-1), 1) := by decide +kernel
theorem dM_compareKeys_48 : decode prog_13_method_50_code 48 = .ok (.goto 11, 3) := by decide +kernel
theorem dM_compareKeys_51 : decode prog_13_method_50_code 51 = .ok (.aload_n 0, 1) := by decide +kernel
theorem dM_compareKeys_52 : decode prog_13_method_50_code 52 = .ok (.iload 4, 2) := by decide +kernel
theorem dM_compareKeys_54 : decode prog_13_method_50_code 54 = .ok (.iload 5, 2) := by decide +kernel
theorem dM_compareKeys_56 : decode prog_13_method_50_code 56 = .ok (.invokevirtual 281, 3) := by decide +kernel
theorem dM_compareKeys_59 : decode prog_13_method_50_code 59 = .ok (.ireturn, 1) := by decide +kernel
theorem dM_compareKeys_60 : decode prog_13_method_50_code 60 = .ok (.iload_n 3, 1) := by decide +kernel
theorem dM_compareKeys_61 : decode prog_13_method_50_code 61 = .ok (.iconst 2, 1) := by decide +kernel
theorem dM_compareKeys_62 : decode prog_13_method_50_code 62 = .ok (.if_icmp .ne 43, 3) := by decide +kernel
theorem dM_compareKeys_65 : decode prog_13_method_50_code 65 = .ok (.aload_n 0, 1) := by decide +kernel
theorem dM_compareKeys_66 : decode prog_13_method_50_code 66 = .ok (.getfield 119, 3) := by decide +kernel
theorem dM_compareKeys_69 : decode prog_13_method_50_code 69 = .ok (.iload_n 1, 1) := by decide +kernel
theorem dM_compareKeys_70 : decode prog_13_method_50_code 70 = .ok (.iaload, 1) := by decide +kernel
theorem dM_compareKeys_71 : decode prog_13_method_50_code 71 = .ok (.aload_n 0, 1) := by decide +kernel
theorem dM_compareKeys_72 : decode prog_13_method_50_code 72 = .ok (.getfield 119, 3) := by decide +kernel
theorem dM_compareKeys_75 : decode prog_13_method_50_code 75 = .ok (.iload_n 2, 1) := by decide +kernel
theorem dM_compareKeys_76 : decode prog_13_method_50_code 76 = .ok (.iaload, 1) := by decide +kernel
theorem dM_compareKeys_77 : decode prog_13_method_50_code 77 = .ok (.if_icmp .ge 7, 3) := by decide +kernel
theorem dM_compareKeys_80 : decode prog_13_method_50_code 80 = .ok (.iconst (-1), 1) := by decide +kernel
theorem dM_compareKeys_81 : decode prog_13_method_50_code 81 = .ok (.goto 23, 3) := by decide +kernel
theorem dM_compareKeys_84 : decode prog_13_method_50_code 84 = .ok (.aload_n 0, 1) := by decide +kernel
theorem dM_compareKeys_85 : decode prog_13_method_50_code 85 = .ok (.getfield 119, 3) := by decide +kernel
theorem dM_compareKeys_88 : decode prog_13_method_50_code 88 = .ok (.iload_n 1, 1) := by decide +kernel
theorem dM_compareKeys_89 : decode prog_13_method_50_code 89 = .ok (.iaload, 1) := by decide +kernel
theorem dM_compareKeys_90 : decode prog_13_method_50_code 90 = .ok (.aload_n 0, 1) := by decide +kernel
theorem dM_compareKeys_91 : decode prog_13_method_50_code 91 = .ok (.getfield 119, 3) := by decide +kernel
theorem dM_compareKeys_94 : decode prog_13_method_50_code 94 = .ok (.iload_n 2, 1) := by decide +kernel
theorem dM_compareKeys_95 : decode prog_13_method_50_code 95 = .ok (.iaload, 1) := by decide +kernel
theorem dM_compareKeys_96 : decode prog_13_method_50_code 96 = .ok (.if_icmp .le 7, 3) := by decide +kernel
theorem dM_compareKeys_99 : decode prog_13_method_50_code 99 = .ok (.iconst 1, 1) := by decide +kernel
theorem dM_compareKeys_100 : decode prog_13_method_50_code 100 = .ok (.goto 4, 3) := by decide +kernel
theorem dM_compareKeys_103 : decode prog_13_method_50_code 103 = .ok (.iconst 0, 1) := by decide +kernel
theorem dM_compareKeys_104 : decode prog_13_method_50_code 104 = .ok (.ireturn, 1) := by decide +kernel
theorem dM_compareKeys_105 : decode prog_13_method_50_code 105 = .ok (.iload_n 3, 1) := by decide +kernel
theorem dM_compareKeys_106 : decode prog_13_method_50_code 106 = .ok (.ifCond .eq 13, 3) := by decide +kernel
theorem dM_compareKeys_109 : decode prog_13_method_50_code 109 = .ok (.aload_n 0, 1) := by decide +kernel
theorem dM_compareKeys_110 : decode prog_13_method_50_code 110 = .ok (.getfield 88, 3) := by decide +kernel
theorem dM_compareKeys_113 : decode prog_13_method_50_code 113 = .ok (.iconst 0, 1) := by decide +kernel
theorem dM_compareKeys_114 : decode prog_13_method_50_code 114 = .ok (.iaload, 1) := by decide +kernel
theorem dM_compareKeys_115 : decode prog_13_method_50_code 115 = .ok (.iconst 2, 1) := by decide +kernel
theorem dM_compareKeys_116 : decode prog_13_method_50_code 116 = .ok (.if_icmp .ge 5, 3) := by decide +kernel
theorem dM_compareKeys_119 : decode prog_13_method_50_code 119 = .ok (.iconst 0, 1) := by decide +kernel
theorem dM_compareKeys_120 : decode prog_13_method_50_code 120 = .ok (.ireturn, 1) := by decide +kernel
theorem dM_compareKeys_121 : decode prog_13_method_50_code 121 = .ok (.aload_n 0, 1) := by decide +kernel
theorem dM_compareKeys_122 : decode prog_13_method_50_code 122 = .ok (.getfield 122, 3) := by decide +kernel
theorem dM_compareKeys_125 : decode prog_13_method_50_code 125 = .ok (.iload_n 1, 1) := by decide +kernel
theorem dM_compareKeys_126 : decode prog_13_method_50_code 126 = .ok (.iaload, 1) := by decide +kernel
theorem dM_compareKeys_127 : decode prog_13_method_50_code 127 = .ok (.aload_n 0, 1) := by decide +kernel
theorem dM_compareKeys_128 : decode prog_13_method_50_code 128 = .ok (.getfield 122, 3) := by decide +kernel
theorem dM_compareKeys_131 : decode prog_13_method_50_code 131 = .ok (.iload_n 2, 1) := by decide +kernel
theorem dM_compareKeys_132 : decode prog_13_method_50_code 132 = .ok (.iaload, 1) := by decide +kernel
theorem dM_compareKeys_133 : decode prog_13_method_50_code 133 = .ok (.if_icmp .eq 19, 3) := by decide +kernel
theorem dM_compareKeys_136 : decode prog_13_method_50_code 136 = .ok (.aload_n 0, 1) := by decide +kernel
theorem dM_compareKeys_137 : decode prog_13_method_50_code 137 = .ok (.getfield 122, 3) := by decide +kernel
theorem dM_compareKeys_140 : decode prog_13_method_50_code 140 = .ok (.iload_n 1, 1) := by decide +kernel
theorem dM_compareKeys_141 : decode prog_13_method_50_code 141 = .ok (.iaload, 1) := by decide +kernel
theorem dM_compareKeys_142 : decode prog_13_method_50_code 142 = .ok (.aload_n 0, 1) := by decide +kernel
theorem dM_compareKeys_143 : decode prog_13_method_50_code 143 = .ok (.getfield 122, 3) := by decide +kernel
theorem dM_compareKeys_146 : decode prog_13_method_50_code 146 = .ok (.iload_n 2, 1) := by decide +kernel
theorem dM_compareKeys_147 : decode prog_13_method_50_code 147 = .ok (.iaload, 1) := by decide +kernel
theorem dM_compareKeys_148 : decode prog_13_method_50_code 148 = .ok (.isub, 1) := by decide +kernel
theorem dM_compareKeys_149 : decode prog_13_method_50_code 149 = .ok (.goto 30, 3) := by decide +kernel
theorem dM_compareKeys_152 : decode prog_13_method_50_code 152 = .ok (.aload_n 0, 1) := by decide +kernel
theorem dM_compareKeys_153 : decode prog_13_method_50_code 153 = .ok (.getfield 125, 3) := by decide +kernel
theorem dM_compareKeys_156 : decode prog_13_method_50_code 156 = .ok (.iload_n 1, 1) := by decide +kernel
theorem dM_compareKeys_157 : decode prog_13_method_50_code 157 = .ok (.laload, 1) := by decide +kernel
theorem dM_compareKeys_158 : decode prog_13_method_50_code 158 = .ok (.aload_n 0, 1) := by decide +kernel
theorem dM_compareKeys_159 : decode prog_13_method_50_code 159 = .ok (.getfield 129, 3) := by decide +kernel
theorem dM_compareKeys_162 : decode prog_13_method_50_code 162 = .ok (.iload_n 1, 1) := by decide +kernel
theorem dM_compareKeys_163 : decode prog_13_method_50_code 163 = .ok (.laload, 1) := by decide +kernel
theorem dM_compareKeys_164 : decode prog_13_method_50_code 164 = .ok (.aload_n 0, 1) := by decide +kernel
theorem dM_compareKeys_165 : decode prog_13_method_50_code 165 = .ok (.getfield 125, 3) := by decide +kernel
theorem dM_compareKeys_168 : decode prog_13_method_50_code 168 = .ok (.iload_n 2, 1) := by decide +kernel
theorem dM_compareKeys_169 : decode prog_13_method_50_code 169 = .ok (.laload, 1) := by decide +kernel
theorem dM_compareKeys_170 : decode prog_13_method_50_code 170 = .ok (.aload_n 0, 1) := by decide +kernel
theorem dM_compareKeys_171 : decode prog_13_method_50_code 171 = .ok (.getfield 129, 3) := by decide +kernel
theorem dM_compareKeys_174 : decode prog_13_method_50_code 174 = .ok (.iload_n 2, 1) := by decide +kernel
theorem dM_compareKeys_175 : decode prog_13_method_50_code 175 = .ok (.laload, 1) := by decide +kernel
theorem dM_compareKeys_176 : decode prog_13_method_50_code 176 = .ok (.invokestatic 240, 3) := by decide +kernel
theorem dM_compareKeys_179 : decode prog_13_method_50_code 179 = .ok (.ireturn, 1) := by decide +kernel
theorem dM_insert_0 : decode prog_13_method_51_code 0 = .ok (.aload_n 0, 1) := by decide +kernel
theorem dM_insert_1 : decode prog_13_method_51_code 1 = .ok (.getfield 284, 3) := by decide +kernel
theorem dM_insert_4 : decode prog_13_method_51_code 4 = .ok (.istore_n 3, 1) := by decide +kernel
theorem dM_insert_5 : decode prog_13_method_51_code 5 = .ok (.iload_n 3, 1) := by decide +kernel
theorem dM_insert_6 : decode prog_13_method_51_code 6 = .ok (.ifCond .le 40, 3) := by decide +kernel
theorem dM_insert_9 : decode prog_13_method_51_code 9 = .ok (.aload_n 0, 1) := by decide +kernel
theorem dM_insert_10 : decode prog_13_method_51_code 10 = .ok (.aload_n 0, 1) := by decide +kernel
theorem dM_insert_11 : decode prog_13_method_51_code 11 = .ok (.getfield 107, 3) := by decide +kernel
theorem dM_insert_14 : decode prog_13_method_51_code 14 = .ok (.iload_n 3, 1) := by decide +kernel
theorem dM_insert_15 : decode prog_13_method_51_code 15 = .ok (.iconst 1, 1) := by decide +kernel
theorem dM_insert_16 : decode prog_13_method_51_code 16 = .ok (.isub, 1) := by decide +kernel
theorem dM_insert_17 : decode prog_13_method_51_code 17 = .ok (.iaload, 1) := by decide +kernel
theorem dM_insert_18 : decode prog_13_method_51_code 18 = .ok (.iload_n 1, 1) := by decide +kernel
theorem dM_insert_19 : decode prog_13_method_51_code 19 = .ok (.iload_n 2, 1) := by decide +kernel
theorem dM_insert_20 : decode prog_13_method_51_code 20 = .ok (.invokevirtual 287, 3) := by decide +kernel
theorem dM_insert_23 : decode prog_13_method_51_code 23 = .ok (.ifCond .le 23, 3) := by decide +kernel
theorem dM_insert_26 : decode prog_13_method_51_code 26 = .ok (.aload_n 0, 1) := by decide +kernel
theorem dM_insert_27 : decode prog_13_method_51_code 27 = .ok (.getfield 107, 3) := by decide +kernel
theorem dM_insert_30 : decode prog_13_method_51_code 30 = .ok (.iload_n 3, 1) := by decide +kernel
theorem dM_insert_31 : decode prog_13_method_51_code 31 = .ok (.aload_n 0, 1) := by decide +kernel
theorem dM_insert_32 : decode prog_13_method_51_code 32 = .ok (.getfield 107, 3) := by decide +kernel
theorem dM_insert_35 : decode prog_13_method_51_code 35 = .ok (.iload_n 3, 1) := by decide +kernel
theorem dM_insert_36 : decode prog_13_method_51_code 36 = .ok (.iconst 1, 1) := by decide +kernel
theorem dM_insert_37 : decode prog_13_method_51_code 37 = .ok (.isub, 1) := by decide +kernel
theorem dM_insert_38 : decode prog_13_method_51_code 38 = .ok (.iaload, 1) := by decide +kernel
theorem dM_insert_39 : decode prog_13_method_51_code 39 = .ok (.iastore, 1) := by decide +kernel
theorem dM_insert_40 : decode prog_13_method_51_code 40 = .ok (.iinc 3 (-1), 3) := by decide +kernel
theorem dM_insert_43 : decode prog_13_method_51_code 43 = .ok (.goto (-38), 3) := by decide +kernel
theorem dM_insert_46 : decode prog_13_method_51_code 46 = .ok (.aload_n 0, 1) := by decide +kernel
theorem dM_insert_47 : decode prog_13_method_51_code 47 = .ok (.getfield 107, 3) := by decide +kernel
theorem dM_insert_50 : decode prog_13_method_51_code 50 = .ok (.iload_n 3, 1) := by decide +kernel
theorem dM_insert_51 : decode prog_13_method_51_code 51 = .ok (.iload_n 1, 1) := by decide +kernel
theorem dM_insert_52 : decode prog_13_method_51_code 52 = .ok (.iastore, 1) := by decide +kernel
theorem dM_insert_53 : decode prog_13_method_51_code 53 = .ok (.aload_n 0, 1) := by decide +kernel
theorem dM_insert_54 : decode prog_13_method_51_code 54 = .ok (.dup, 1) := by decide +kernel
theorem dM_insert_55 : decode prog_13_method_51_code 55 = .ok (.getfield 284, 3) := by decide +kernel
theorem dM_insert_58 : decode prog_13_method_51_code 58 = .ok (.iconst 1, 1) := by decide +kernel
theorem dM_insert_59 : decode prog_13_method_51_code 59 = .ok (.iadd, 1) := by decide +kernel
theorem dM_insert_60 : decode prog_13_method_51_code 60 = .ok (.putfield 284, 3) := by decide +kernel
theorem dM_insert_63 : decode prog_13_method_51_code 63 = .ok (.return_, 1) := by decide +kernel
theorem dM_find_0 : decode prog_13_method_52_code 0 = .ok (.aload_n 0, 1) := by decide +kernel
theorem dM_find_1 : decode prog_13_method_52_code 1 = .ok (.iload_n 1, 1) := by decide +kernel
theorem dM_find_2 : decode prog_13_method_52_code 2 = .ok (.invokestatic 143, 3) := by decide +kernel
theorem dM_find_5 : decode prog_13_method_52_code 5 = .ok (.ifCond .eq 12, 3) := by decide +kernel
theorem dM_find_8 : decode prog_13_method_52_code 8 = .ok (.iload_n 2, 1) := by decide +kernel
theorem dM_find_9 : decode prog_13_method_52_code 9 = .ok (.iconst 0, 1) := by decide +kernel
theorem dM_find_10 : decode prog_13_method_52_code 10 = .ok (.iconst 3, 1) := by decide +kernel
theorem dM_find_11 : decode prog_13_method_52_code 11 = .ok (.invokestatic 139, 3) := by decide +kernel
theorem dM_find_14 : decode prog_13_method_52_code 14 = .ok (.ifCond .ne 7, 3) := by decide +kernel
theorem dM_find_17 : decode prog_13_method_52_code 17 = .ok (.iconst 1, 1) := by decide +kernel
theorem dM_find_18 : decode prog_13_method_52_code 18 = .ok (.goto 4, 3) := by decide +kernel
theorem dM_find_21 : decode prog_13_method_52_code 21 = .ok (.iconst 0, 1) := by decide +kernel
theorem dM_find_22 : decode prog_13_method_52_code 22 = .ok (.putfield 132, 3) := by decide +kernel
theorem dM_find_25 : decode prog_13_method_52_code 25 = .ok (.aload_n 0, 1) := by decide +kernel
theorem dM_find_26 : decode prog_13_method_52_code 26 = .ok (.getfield 132, 3) := by decide +kernel
theorem dM_find_29 : decode prog_13_method_52_code 29 = .ok (.ifCond .le 5, 3) := by decide +kernel
theorem dM_find_32 : decode prog_13_method_52_code 32 = .ok (.iconst 0, 1) := by decide +kernel
theorem dM_find_33 : decode prog_13_method_52_code 33 = .ok (.ireturn, 1) := by decide +kernel
theorem dM_find_34 : decode prog_13_method_52_code 34 = .ok (.aload_n 0, 1) := by decide +kernel
theorem dM_find_35 : decode prog_13_method_52_code 35 = .ok (.iconst 0, 1) := by decide +kernel
theorem dM_find_36 : decode prog_13_method_52_code 36 = .ok (.putfield 284, 3) := by decide +kernel
theorem dM_find_39 : decode prog_13_method_52_code 39 = .ok (.iconst 0, 1) := by decide +kernel
theorem dM_find_40 : decode prog_13_method_52_code 40 = .ok (.istore_n 3, 1) := by decide +kernel
theorem dM_find_41 : decode prog_13_method_52_code 41 = .ok (.iload_n 3, 1) := by decide +kernel
theorem dM_find_42 : decode prog_13_method_52_code 42 = .ok (.aload_n 0, 1) := by decide +kernel
theorem dM_find_43 : decode prog_13_method_52_code 43 = .ok (.getfield 136, 3) := by decide +kernel
theorem dM_find_46 : decode prog_13_method_52_code 46 = .ok (.if_icmp .ge 35, 3) := by decide +kernel
theorem dM_find_49 : decode prog_13_method_52_code 49 = .ok (.aload_n 0, 1) := by decide +kernel
theorem dM_find_50 : decode prog_13_method_52_code 50 = .ok (.iload_n 3, 1) := by decide +kernel
theorem dM_find_51 : decode prog_13_method_52_code 51 = .ok (.iload_n 1, 1) := by decide +kernel
theorem dM_find_52 : decode prog_13_method_52_code 52 = .ok (.iconst 0, 1) := by decide +kernel
theorem dM_find_53 : decode prog_13_method_52_code 53 = .ok (.invokevirtual 291, 3) := by decide +kernel
theorem dM_find_56 : decode prog_13_method_52_code 56 = .ok (.ifCond .ne 6, 3) := by decide +kernel
theorem dM_find_59 : decode prog_13_method_52_code 59 = .ok (.goto 16, 3) := by decide +kernel
theorem dM_find_62 : decode prog_13_method_52_code 62 = .ok (.aload_n 0, 1) := by decide +kernel
theorem dM_find_63 : decode prog_13_method_52_code 63 = .ok (.iload_n 3, 1) := by decide +kernel
theorem dM_find_64 : decode prog_13_method_52_code 64 = .ok (.iload_n 1, 1) := by decide +kernel
theorem dM_find_65 : decode prog_13_method_52_code 65 = .ok (.iload_n 2, 1) := by decide +kernel
theorem dM_find_66 : decode prog_13_method_52_code 66 = .ok (.invokevirtual 294, 3) := by decide +kernel
theorem dM_find_69 : decode prog_13_method_52_code 69 = .ok (.aload_n 0, 1) := by decide +kernel
theorem dM_find_70 : decode prog_13_method_52_code 70 = .ok (.iload_n 3, 1) := by decide +kernel
theorem dM_find_71 : decode prog_13_method_52_code 71 = .ok (.iload_n 2, 1) := by decide +kernel
theorem dM_find_72 : decode prog_13_method_52_code 72 = .ok (.invokevirtual 297, 3) := by decide +kernel
theorem dM_find_75 : decode prog_13_method_52_code 75 = .ok (.iinc 3 1, 3) := by decide +kernel
theorem dM_find_78 : decode prog_13_method_52_code 78 = .ok (.goto (-37), 3) := by decide +kernel
theorem dM_find_81 : decode prog_13_method_52_code 81 = .ok (.aload_n 0, 1) := by decide +kernel
theorem dM_find_82 : decode prog_13_method_52_code 82 = .ok (.getfield 284, 3) := by decide +kernel
theorem dM_find_85 : decode prog_13_method_52_code 85 = .ok (.ireturn, 1) := by decide +kernel
theorem dM_near_0 : decode prog_13_method_53_code 0 = .ok (.aload_n 0, 1) := by decide +kernel
theorem dM_near_1 : decode prog_13_method_53_code 1 = .ok (.iload_n 1, 1) := by decide +kernel
theorem dM_near_2 : decode prog_13_method_53_code 2 = .ok (.iload_n 2, 1) := by decide +kernel
theorem dM_near_3 : decode prog_13_method_53_code 3 = .ok (.invokestatic 147, 3) := by decide +kernel
theorem dM_near_6 : decode prog_13_method_53_code 6 = .ok (.ifCond .eq 32, 3) := by decide +kernel
theorem dM_near_9 : decode prog_13_method_53_code 9 = .ok (.iload_n 3, 1) := by decide +kernel
theorem dM_near_10 : decode prog_13_method_53_code 10 = .ok (.iconst 1, 1) := by decide +kernel
theorem dM_near_11 : decode prog_13_method_53_code 11 = .ok (.bipush 30, 2) := by decide +kernel
theorem dM_near_13 : decode prog_13_method_53_code 13 = .ok (.invokestatic 139, 3) := by decide +kernel
theorem dM_near_16 : decode prog_13_method_53_code 16 = .ok (.ifCond .eq 22, 3) := by decide +kernel
theorem dM_near_19 : decode prog_13_method_53_code 19 = .ok (.iload 4, 2) := by decide +kernel
theorem dM_near_21 : decode prog_13_method_53_code 21 = .ok (.iconst (-1), 1) := by decide +kernel
theorem dM_near_22 : decode prog_13_method_53_code 22 = .ok (.bipush 7, 2) := by decide +kernel
theorem dM_near_24 : decode prog_13_method_53_code 24 = .ok (.invokestatic 139, 3) := by decide +kernel
theorem dM_near_27 : decode prog_13_method_53_code 27 = .ok (.ifCond .eq 11, 3) := by decide +kernel
theorem dM_near_30 : decode prog_13_method_53_code 30 = .ok (.iload 5, 2) := by decide +kernel
theorem dM_near_32 : decode prog_13_method_53_code 32 = .ok (.invokestatic 143, 3) := by decide +kernel
theorem dM_near_35 : decode prog_13_method_53_code 35 = .ok (.ifCond .ne 7, 3) := by decide +kernel
theorem dM_near_38 : decode prog_13_method_53_code 38 = .ok (.iconst 1, 1) := by decide +kernel
theorem dM_near_39 : decode prog_13_method_53_code 39 = .ok (.goto 4, 3) := by decide +kernel
theorem dM_near_42 : decode prog_13_method_53_code 42 = .ok (.iconst 0, 1) := by decide +kernel
theorem dM_near_43 : decode prog_13_method_53_code 43 = .ok (.putfield 132, 3) := by decide +kernel
theorem dM_near_46 : decode prog_13_method_53_code 46 = .ok (.aload_n 0, 1) := by decide +kernel
theorem dM_near_47 : decode prog_13_method_53_code 47 = .ok (.getfield 132, 3) := by decide +kernel
theorem dM_near_50 : decode prog_13_method_53_code 50 = .ok (.ifCond .le 5, 3) := by decide +kernel
theorem dM_near_53 : decode prog_13_method_53_code 53 = .ok (.iconst 0, 1) := by decide +kernel
theorem dM_near_54 : decode prog_13_method_53_code 54 = .ok (.ireturn, 1) := by decide +kernel
theorem dM_near_55 : decode prog_13_method_53_code 55 = .ok (.aload_n 0, 1) := by decide +kernel
theorem dM_near_56 : decode prog_13_method_53_code 56 = .ok (.iconst 0, 1) := by decide +kernel
theorem dM_near_57 : decode prog_13_method_53_code 57 = .ok (.putfield 284, 3) := by decide +kernel
theorem dM_near_60 : decode prog_13_method_53_code 60 = .ok (.iconst 0, 1) := by decide +kernel
theorem dM_near_61 : decode prog_13_method_53_code 61 = .ok (.istore 6, 2) := by decide +kernel
theorem dM_near_63 : decode prog_13_method_53_code 63 = .ok (.iload 6, 2) := by decide +kernel
theorem dM_near_65 : decode prog_13_method_53_code 65 = .ok (.aload_n 0, 1) := by decide +kernel
theorem dM_near_66 : decode prog_13_method_53_code 66 = .ok (.getfield 136, 3) := by decide +kernel
theorem dM_near_69 : decode prog_13_method_53_code 69 = .ok (.if_icmp .ge 65, 3) := by decide +kernel
theorem dM_near_72 : decode prog_13_method_53_code 72 = .ok (.aload_n 0, 1) := by decide +kernel
theorem dM_near_73 : decode prog_13_method_53_code 73 = .ok (.iload 6, 2) := by decide +kernel
theorem dM_near_75 : decode prog_13_method_53_code 75 = .ok (.iload 5, 2) := by decide +kernel
theorem dM_near_77 : decode prog_13_method_53_code 77 = .ok (.invokevirtual 261, 3) := by decide +kernel
theorem dM_near_80 : decode prog_13_method_53_code 80 = .ok (.ifCond .eq 48, 3) := by decide +kernel
theorem dM_near_83 : decode prog_13_method_53_code 83 = .ok (.iload 4, 2) := by decide +kernel
theorem dM_near_85 : decode prog_13_method_53_code 85 = .ok (.iconst (-1), 1) := by decide +kernel
theorem dM_near_86 : decode prog_13_method_53_code 86 = .ok (.if_icmp .eq 18, 3) := by decide +kernel
theorem dM_near_89 : decode prog_13_method_53_code 89 = .ok (.aload_n 0, 1) := by decide +kernel
theorem dM_near_90 : decode prog_13_method_53_code 90 = .ok (.getfield 7, 3) := by decide +kernel
theorem dM_near_93 : decode prog_13_method_53_code 93 = .ok (.iload 6, 2) := by decide +kernel
theorem dM_near_95 : decode prog_13_method_53_code 95 = .ok (.iaload, 1) := by decide +kernel
theorem dM_near_96 : decode prog_13_method_53_code 96 = .ok (.iload 4, 2) := by decide +kernel
theorem dM_near_98 : decode prog_13_method_53_code 98 = .ok (.if_icmp .eq 6, 3) := by decide +kernel
theorem dM_near_101 : decode prog_13_method_53_code 101 = .ok (.goto 27, 3) := by decide +kernel
theorem dM_near_104 : decode prog_13_method_53_code 104 = .ok (.aload_n 0, 1) := by decide +kernel
theorem dM_near_105 : decode prog_13_method_53_code 105 = .ok (.getfield 119, 3) := by decide +kernel
theorem dM_near_108 : decode prog_13_method_53_code 108 = .ok (.iload 6, 2) := by decide +kernel
theorem dM_near_110 : decode prog_13_method_53_code 110 = .ok (.aload_n 0, 1) := by decide +kernel
theorem dM_near_111 : decode prog_13_method_53_code 111 = .ok (.iload 6, 2) := by decide +kernel
theorem dM_near_113 : decode prog_13_method_53_code 113 = .ok (.iload 5, 2) := by decide +kernel
theorem dM_near_115 : decode prog_13_method_53_code 115 = .ok (.iload_n 1, 1) := by decide +kernel
theorem dM_near_116 : decode prog_13_method_53_code 116 = .ok (.iload_n 2, 1) := by decide +kernel
theorem dM_near_117 : decode prog_13_method_53_code 117 = .ok (.invokevirtual 270, 3) := by decide +kernel
theorem dM_near_120 : decode prog_13_method_53_code 120 = .ok (.iastore, 1) := by decide +kernel
theorem dM_near_121 : decode prog_13_method_53_code 121 = .ok (.aload_n 0, 1) := by decide +kernel
theorem dM_near_122 : decode prog_13_method_53_code 122 = .ok (.iload 6, 2) := by decide +kernel
theorem dM_near_124 : decode prog_13_method_53_code 124 = .ok (.iconst 2, 1) := by decide +kernel
theorem dM_near_125 : decode prog_13_method_53_code 125 = .ok (.invokevirtual 297, 3) := by decide +kernel
theorem dM_near_128 : decode prog_13_method_53_code 128 = .ok (.iinc 6 1, 3) := by decide +kernel
theorem dM_near_131 : decode prog_13_method_53_code 131 = .ok (.goto (-68), 3) := by decide +kernel
theorem dM_near_134 : decode prog_13_method_53_code 134 = .ok (.aload_n 0, 1) := by decide +kernel
theorem dM_near_135 : decode prog_13_method_53_code 135 = .ok (.aload_n 0, 1) := by decide +kernel
theorem dM_near_136 : decode prog_13_method_53_code 136 = .ok (.getfield 284, 3) := by decide +kernel
theorem dM_near_139 : decode prog_13_method_53_code 139 = .ok (.iload_n 3, 1) := by decide +kernel
theorem dM_near_140 : decode prog_13_method_53_code 140 = .ok (.if_icmp .ge 10, 3) := by decide +kernel
theorem dM_near_143 : decode prog_13_method_53_code 143 = .ok (.aload_n 0, 1) := by decide +kernel
theorem dM_near_144 : decode prog_13_method_53_code 144 = .ok (.getfield 284, 3) := by decide +kernel
theorem dM_near_147 : decode prog_13_method_53_code 147 = .ok (.goto 4, 3) := by decide +kernel
theorem dM_near_150 : decode prog_13_method_53_code 150 = .ok (.iload_n 3, 1) := by decide +kernel
theorem dM_near_151 : decode prog_13_method_53_code 151 = .ok (.putfield 284, 3) := by decide +kernel
theorem dM_near_154 : decode prog_13_method_53_code 154 = .ok (.aload_n 0, 1) := by decide +kernel
theorem dM_near_155 : decode prog_13_method_53_code 155 = .ok (.getfield 284, 3) := by decide +kernel
theorem dM_near_158 : decode prog_13_method_53_code 158 = .ok (.ireturn, 1) := by decide +kernel
theorem dM_hit_0 : decode prog_13_method_54_code 0 = .ok (.aload_n 0, 1) := by decide +kernel
theorem dM_hit_1 : decode prog_13_method_54_code 1 = .ok (.iload_n 1, 1) := by decide +kernel
theorem dM_hit_2 : decode prog_13_method_54_code 2 = .ok (.iconst 0, 1) := by decide +kernel
theorem dM_hit_3 : decode prog_13_method_54_code 3 = .ok (.aload_n 0, 1) := by decide +kernel
theorem dM_hit_4 : decode prog_13_method_54_code 4 = .ok (.getfield 284, 3) := by decide +kernel
theorem dM_hit_7 : decode prog_13_method_54_code 7 = .ok (.iconst 1, 1) := by decide +kernel
theorem dM_hit_8 : decode prog_13_method_54_code 8 = .ok (.isub, 1) := by decide +kernel
theorem dM_hit_9 : decode prog_13_method_54_code 9 = .ok (.invokestatic 139, 3) := by decide +kernel
theorem dM_hit_12 : decode prog_13_method_54_code 12 = .ok (.ifCond .eq 7, 3) := by decide +kernel
theorem dM_hit_15 : decode prog_13_method_54_code 15 = .ok (.iconst 0, 1) := by decide +kernel
theorem dM_hit_16 : decode prog_13_method_54_code 16 = .ok (.goto 4, 3) := by decide +kernel
theorem dM_hit_19 : decode prog_13_method_54_code 19 = .ok (.iconst 1, 1) := by decide +kernel
theorem dM_hit_20 : decode prog_13_method_54_code 20 = .ok (.putfield 132, 3) := by decide +kernel
theorem dM_hit_23 : decode prog_13_method_54_code 23 = .ok (.aload_n 0, 1) := by decide +kernel
theorem dM_hit_24 : decode prog_13_method_54_code 24 = .ok (.getfield 132, 3) := by decide +kernel
theorem dM_hit_27 : decode prog_13_method_54_code 27 = .ok (.ifCond .le 7, 3) := by decide +kernel
theorem dM_hit_30 : decode prog_13_method_54_code 30 = .ok (.iconst 0, 1) := by decide +kernel
theorem dM_hit_31 : decode prog_13_method_54_code 31 = .ok (.goto 9, 3) := by decide +kernel
theorem dM_hit_34 : decode prog_13_method_54_code 34 = .ok (.aload_n 0, 1) := by decide +kernel
theorem dM_hit_35 : decode prog_13_method_54_code 35 = .ok (.getfield 107, 3) := by decide +kernel
theorem dM_hit_38 : decode prog_13_method_54_code 38 = .ok (.iload_n 1, 1) := by decide +kernel
theorem dM_hit_39 : decode prog_13_method_54_code 39 = .ok (.iaload, 1) := by decide +kernel
theorem dM_hit_40 : decode prog_13_method_54_code 40 = .ok (.ireturn, 1) := by decide +kernel
theorem dM_watch_0 : decode prog_13_method_55_code 0 = .ok (.aload_n 0, 1) := by decide +kernel
theorem dM_watch_1 : decode prog_13_method_55_code 1 = .ok (.iload_n 1, 1) := by decide +kernel
theorem dM_watch_2 : decode prog_13_method_55_code 2 = .ok (.iconst 0, 1) := by decide +kernel
theorem dM_watch_3 : decode prog_13_method_55_code 3 = .ok (.iconst 3, 1) := by decide +kernel
theorem dM_watch_4 : decode prog_13_method_55_code 4 = .ok (.invokestatic 139, 3) := by decide +kernel
theorem dM_watch_7 : decode prog_13_method_55_code 7 = .ok (.ifCond .eq 10, 3) := by decide +kernel
theorem dM_watch_10 : decode prog_13_method_55_code 10 = .ok (.iload_n 2, 1) := by decide +kernel
theorem dM_watch_11 : decode prog_13_method_55_code 11 = .ok (.invokestatic 143, 3) := by decide +kernel
theorem dM_watch_14 : decode prog_13_method_55_code 14 = .ok (.ifCond .ne 7, 3) := by decide +kernel
theorem dM_watch_17 : decode prog_13_method_55_code 17 = .ok (.iconst 1, 1) := by decide +kernel
theorem dM_watch_18 : decode prog_13_method_55_code 18 = .ok (.goto 4, 3) := by decide +kernel
theorem dM_watch_21 : decode prog_13_method_55_code 21 = .ok (.iconst 0, 1) := by decide +kernel
theorem dM_watch_22 : decode prog_13_method_55_code 22 = .ok (.putfield 132, 3) := by decide +kernel
theorem dM_watch_25 : decode prog_13_method_55_code 25 = .ok (.aload_n 0, 1) := by decide +kernel
theorem dM_watch_26 : decode prog_13_method_55_code 26 = .ok (.getfield 132, 3) := by decide +kernel
theorem dM_watch_29 : decode prog_13_method_55_code 29 = .ok (.ifCond .le 4, 3) := by decide +kernel
theorem dM_watch_32 : decode prog_13_method_55_code 32 = .ok (.return_, 1) := by decide +kernel
theorem dM_watch_33 : decode prog_13_method_55_code 33 = .ok (.iload_n 1, 1) := by decide +kernel
theorem dM_watch_34 : decode prog_13_method_55_code 34 = .ok (.iconst 1, 1) := by decide +kernel
theorem dM_watch_35 : decode prog_13_method_55_code 35 = .ok (.iadd, 1) := by decide +kernel
theorem dM_watch_36 : decode prog_13_method_55_code 36 = .ok (.istore_n 3, 1) := by decide +kernel
theorem dM_watch_37 : decode prog_13_method_55_code 37 = .ok (.aload_n 0, 1) := by decide +kernel
theorem dM_watch_38 : decode prog_13_method_55_code 38 = .ok (.getfield 67, 3) := by decide +kernel
theorem dM_watch_41 : decode prog_13_method_55_code 41 = .ok (.iload_n 3, 1) := by decide +kernel
theorem dM_watch_42 : decode prog_13_method_55_code 42 = .ok (.aload_n 0, 1) := by decide +kernel
theorem dM_watch_43 : decode prog_13_method_55_code 43 = .ok (.getfield 67, 3) := by decide +kernel
theorem dM_watch_46 : decode prog_13_method_55_code 46 = .ok (.iconst 0, 1) := by decide +kernel
theorem dM_watch_47 : decode prog_13_method_55_code 47 = .ok (.iaload, 1) := by decide +kernel
theorem dM_watch_48 : decode prog_13_method_55_code 48 = .ok (.iastore, 1) := by decide +kernel
theorem dM_watch_49 : decode prog_13_method_55_code 49 = .ok (.iconst 0, 1) := by decide +kernel
theorem dM_watch_50 : decode prog_13_method_55_code 50 = .ok (.istore 4, 2) := by decide +kernel
theorem dM_watch_52 : decode prog_13_method_55_code 52 = .ok (.iload 4, 2) := by decide +kernel
theorem dM_watch_54 : decode prog_13_method_55_code 54 = .ok (.aload_n 0, 1) := by decide +kernel
theorem dM_watch_55 : decode prog_13_method_55_code 55 = .ok (.getfield 67, 3) := by decide +kernel
theorem dM_watch_58 : decode prog_13_method_55_code 58 = .ok (.iconst 0, 1) := by decide +kernel
theorem dM_watch_59 : decode prog_13_method_55_code 59 = .ok (.iaload, 1) := by decide +kernel
theorem dM_watch_60 : decode prog_13_method_55_code 60 = .ok (.if_icmp .ge 129, 3) := by decide +kernel
theorem dM_watch_63 : decode prog_13_method_55_code 63 = .ok (.iconst 5, 1) := by decide +kernel
theorem dM_watch_64 : decode prog_13_method_55_code 64 = .ok (.iload_n 3, 1) := by decide +kernel
theorem dM_watch_65 : decode prog_13_method_55_code 65 = .ok (.imul, 1) := by decide +kernel
theorem dM_watch_66 : decode prog_13_method_55_code 66 = .ok (.iload 4, 2) := by decide +kernel
theorem dM_watch_68 : decode prog_13_method_55_code 68 = .ok (.iadd, 1) := by decide +kernel
theorem dM_watch_69 : decode prog_13_method_55_code 69 = .ok (.istore 5, 2) := by decide +kernel
theorem dM_watch_71 : decode prog_13_method_55_code 71 = .ok (.aload_n 0, 1) := by decide +kernel
theorem dM_watch_72 : decode prog_13_method_55_code 72 = .ok (.getfield 70, 3) := by decide +kernel
theorem dM_watch_75 : decode prog_13_method_55_code 75 = .ok (.iload 5, 2) := by decide +kernel
theorem dM_watch_77 : decode prog_13_method_55_code 77 = .ok (.aload_n 0, 1) := by decide +kernel
theorem dM_watch_78 : decode prog_13_method_55_code 78 = .ok (.getfield 70, 3) := by decide +kernel
theorem dM_watch_81 : decode prog_13_method_55_code 81 = .ok (.iload 4, 2) := by decide +kernel
theorem dM_watch_83 : decode prog_13_method_55_code 83 = .ok (.iaload, 1) := by decide +kernel
theorem dM_watch_84 : decode prog_13_method_55_code 84 = .ok (.iastore, 1) := by decide +kernel
theorem dM_watch_85 : decode prog_13_method_55_code 85 = .ok (.aload_n 0, 1) := by decide +kernel
theorem dM_watch_86 : decode prog_13_method_55_code 86 = .ok (.getfield 73, 3) := by decide +kernel
theorem dM_watch_89 : decode prog_13_method_55_code 89 = .ok (.iload 5, 2) := by decide +kernel
theorem dM_watch_91 : decode prog_13_method_55_code 91 = .ok (.aload_n 0, 1) := by decide +kernel
theorem dM_watch_92 : decode prog_13_method_55_code 92 = .ok (.getfield 73, 3) := by decide +kernel
theorem dM_watch_95 : decode prog_13_method_55_code 95 = .ok (.iload 4, 2) := by decide +kernel
theorem dM_watch_97 : decode prog_13_method_55_code 97 = .ok (.iaload, 1) := by decide +kernel
theorem dM_watch_98 : decode prog_13_method_55_code 98 = .ok (.iastore, 1) := by decide +kernel
theorem dM_watch_99 : decode prog_13_method_55_code 99 = .ok (.aload_n 0, 1) := by decide +kernel
theorem dM_watch_100 : decode prog_13_method_55_code 100 = .ok (.getfield 76, 3) := by decide +kernel
theorem dM_watch_103 : decode prog_13_method_55_code 103 = .ok (.iload 5, 2) := by decide +kernel
theorem dM_watch_105 : decode prog_13_method_55_code 105 = .ok (.aload_n 0, 1) := by decide +kernel
theorem dM_watch_106 : decode prog_13_method_55_code 106 = .ok (.getfield 76, 3) := by decide +kernel
theorem dM_watch_109 : decode prog_13_method_55_code 109 = .ok (.iload 4, 2) := by decide +kernel
theorem dM_watch_111 : decode prog_13_method_55_code 111 = .ok (.iaload, 1) := by decide +kernel
theorem dM_watch_112 : decode prog_13_method_55_code 112 = .ok (.iastore, 1) := by decide +kernel
theorem dM_watch_113 : decode prog_13_method_55_code 113 = .ok (.aload_n 0, 1) := by decide +kernel
theorem dM_watch_114 : decode prog_13_method_55_code 114 = .ok (.getfield 79, 3) := by decide +kernel
theorem dM_watch_117 : decode prog_13_method_55_code 117 = .ok (.iload 5, 2) := by decide +kernel
theorem dM_watch_119 : decode prog_13_method_55_code 119 = .ok (.aload_n 0, 1) := by decide +kernel
theorem dM_watch_120 : decode prog_13_method_55_code 120 = .ok (.getfield 79, 3) := by decide +kernel
theorem dM_watch_123 : decode prog_13_method_55_code 123 = .ok (.iload 4, 2) := by decide +kernel
theorem dM_watch_125 : decode prog_13_method_55_code 125 = .ok (.iaload, 1) := by decide +kernel
theorem dM_watch_126 : decode prog_13_method_55_code 126 = .ok (.iastore, 1) := by decide +kernel
theorem dM_watch_127 : decode prog_13_method_55_code 127 = .ok (.aload_n 0, 1) := by decide +kernel
theorem dM_watch_128 : decode prog_13_method_55_code 128 = .ok (.getfield 82, 3) := by decide +kernel
theorem dM_watch_131 : decode prog_13_method_55_code 131 = .ok (.iload 5, 2) := by decide +kernel
theorem dM_watch_133 : decode prog_13_method_55_code 133 = .ok (.aload_n 0, 1) := by decide +kernel
theorem dM_watch_134 : decode prog_13_method_55_code 134 = .ok (.getfield 82, 3) := by decide +kernel
theorem dM_watch_137 : decode prog_13_method_55_code 137 = .ok (.iload 4, 2) := by decide +kernel
theorem dM_watch_139 : decode prog_13_method_55_code 139 = .ok (.iaload, 1) := by decide +kernel
theorem dM_watch_140 : decode prog_13_method_55_code 140 = .ok (.iastore, 1) := by decide +kernel
theorem dM_watch_141 : decode prog_13_method_55_code 141 = .ok (.iconst 0, 1) := by decide +kernel
theorem dM_watch_142 : decode prog_13_method_55_code 142 = .ok (.istore 6, 2) := by decide +kernel
theorem dM_watch_144 : decode prog_13_method_55_code 144 = .ok (.iload 6, 2) := by decide +kernel
theorem dM_watch_146 : decode prog_13_method_55_code 146 = .ok (.bipush 10, 2) := by decide +kernel
theorem dM_watch_148 : decode prog_13_method_55_code 148 = .ok (.if_icmp .ge 35, 3) := by decide +kernel
theorem dM_watch_151 : decode prog_13_method_55_code 151 = .ok (.aload_n 0, 1) := by decide +kernel
theorem dM_watch_152 : decode prog_13_method_55_code 152 = .ok (.getfield 85, 3) := by decide +kernel
theorem dM_watch_155 : decode prog_13_method_55_code 155 = .ok (.bipush 10, 2) := by decide +kernel
theorem dM_watch_157 : decode prog_13_method_55_code 157 = .ok (.iload 5, 2) := by decide +kernel
theorem dM_watch_159 : decode prog_13_method_55_code 159 = .ok (.imul, 1) := by decide +kernel
theorem dM_watch_160 : decode prog_13_method_55_code 160 = .ok (.iload 6, 2) := by decide +kernel
theorem dM_watch_162 : decode prog_13_method_55_code 162 = .ok (.iadd, 1) := by decide +kernel
theorem dM_watch_163 : decode prog_13_method_55_code 163 = .ok (.aload_n 0, 1) := by decide +kernel
theorem dM_watch_164 : decode prog_13_method_55_code 164 = .ok (.getfield 85, 3) := by decide +kernel
theorem dM_watch_167 : decode prog_13_method_55_code 167 = .ok (.bipush 10, 2) := by decide +kernel
theorem dM_watch_169 : decode prog_13_method_55_code 169 = .ok (.iload 4, 2) := by decide +kernel
theorem dM_watch_171 : decode prog_13_method_55_code 171 = .ok (.imul, 1) := by decide +kernel
theorem dM_watch_172 : decode prog_13_method_55_code 172 = .ok (.iload 6, 2) := by decide +kernel
theorem dM_watch_174 : decode prog_13_method_55_code 174 = .ok (.iadd, 1) := by decide +kernel
theorem dM_watch_175 : decode prog_13_method_55_code 175 = .ok (.iaload, 1) := by decide +kernel
theorem dM_watch_176 : decode prog_13_method_55_code 176 = .ok (.iastore, 1) := by decide +kernel
theorem dM_watch_177 : decode prog_13_method_55_code 177 = .ok (.iinc 6 1, 3) := by decide +kernel
theorem dM_watch_180 : decode prog_13_method_55_code 180 = .ok (.goto (-36), 3) := by decide +kernel
theorem dM_watch_183 : decode prog_13_method_55_code 183 = .ok (.iinc 4 1, 3) := by decide +kernel
theorem dM_watch_186 : decode prog_13_method_55_code 186 = .ok (.goto (-134), 3) := by decide +kernel
theorem dM_watch_189 : decode prog_13_method_55_code 189 = .ok (.aload_n 0, 1) := by decide +kernel
theorem dM_watch_190 : decode prog_13_method_55_code 190 = .ok (.getfield 88, 3) := by decide +kernel
theorem dM_watch_193 : decode prog_13_method_55_code 193 = .ok (.iload_n 3, 1) := by decide +kernel
theorem dM_watch_194 : decode prog_13_method_55_code 194 = .ok (.aload_n 0, 1) := by decide +kernel
theorem dM_watch_195 : decode prog_13_method_55_code 195 = .ok (.getfield 88, 3) := by decide +kernel
theorem dM_watch_198 : decode prog_13_method_55_code 198 = .ok (.iconst 0, 1) := by decide +kernel
theorem dM_watch_199 : decode prog_13_method_55_code 199 = .ok (.iaload, 1) := by decide +kernel
theorem dM_watch_200 : decode prog_13_method_55_code 200 = .ok (.iastore, 1) := by decide +kernel
theorem dM_watch_201 : decode prog_13_method_55_code 201 = .ok (.iconst 0, 1) := by decide +kernel
theorem dM_watch_202 : decode prog_13_method_55_code 202 = .ok (.istore 4, 2) := by decide +kernel
theorem dM_watch_204 : decode prog_13_method_55_code 204 = .ok (.iload 4, 2) := by decide +kernel
theorem dM_watch_206 : decode prog_13_method_55_code 206 = .ok (.bipush 8, 2) := by decide +kernel
theorem dM_watch_208 : decode prog_13_method_55_code 208 = .ok (.if_icmp .ge 47, 3) := by decide +kernel
theorem dM_watch_211 : decode prog_13_method_55_code 211 = .ok (.aload_n 0, 1) := by decide +kernel
theorem dM_watch_212 : decode prog_13_method_55_code 212 = .ok (.getfield 91, 3) := by decide +kernel
theorem dM_watch_215 : decode prog_13_method_55_code 215 = .ok (.bipush 8, 2) := by decide +kernel
theorem dM_watch_217 : decode prog_13_method_55_code 217 = .ok (.iload_n 3, 1) := by decide +kernel
theorem dM_watch_218 : decode prog_13_method_55_code 218 = .ok (.imul, 1) := by decide +kernel
theorem dM_watch_219 : decode prog_13_method_55_code 219 = .ok (.iload 4, 2) := by decide +kernel
theorem dM_watch_221 : decode prog_13_method_55_code 221 = .ok (.iadd, 1) := by decide +kernel
theorem dM_watch_222 : decode prog_13_method_55_code 222 = .ok (.aload_n 0, 1) := by decide +kernel
theorem dM_watch_223 : decode prog_13_method_55_code 223 = .ok (.getfield 91, 3) := by decide +kernel
theorem dM_watch_226 : decode prog_13_method_55_code 226 = .ok (.iload 4, 2) := by decide +kernel
theorem dM_watch_228 : decode prog_13_method_55_code 228 = .ok (.iaload, 1) := by decide +kernel
theorem dM_watch_229 : decode prog_13_method_55_code 229 = .ok (.iastore, 1) := by decide +kernel
theorem dM_watch_230 : decode prog_13_method_55_code 230 = .ok (.aload_n 0, 1) := by decide +kernel
theorem dM_watch_231 : decode prog_13_method_55_code 231 = .ok (.getfield 94, 3) := by decide +kernel
theorem dM_watch_234 : decode prog_13_method_55_code 234 = .ok (.bipush 8, 2) := by decide +kernel
theorem dM_watch_236 : decode prog_13_method_55_code 236 = .ok (.iload_n 3, 1) := by decide +kernel
theorem dM_watch_237 : decode prog_13_method_55_code 237 = .ok (.imul, 1) := by decide +kernel
theorem dM_watch_238 : decode prog_13_method_55_code 238 = .ok (.iload 4, 2) := by decide +kernel
theorem dM_watch_240 : decode prog_13_method_55_code 240 = .ok (.iadd, 1) := by decide +kernel
theorem dM_watch_241 : decode prog_13_method_55_code 241 = .ok (.aload_n 0, 1) := by decide +kernel
theorem dM_watch_242 : decode prog_13_method_55_code 242 = .ok (.getfield 94, 3) := by decide +kernel
theorem dM_watch_245 : decode prog_13_method_55_code 245 = .ok (.iload 4, 2) := by decide +kernel
theorem dM_watch_247 : decode prog_13_method_55_code 247 = .ok (.iaload, 1) := by decide +kernel
theorem dM_watch_248 : decode prog_13_method_55_code 248 = .ok (.iastore, 1) := by decide +kernel
theorem dM_watch_249 : decode prog_13_method_55_code 249 = .ok (.iinc 4 1, 3) := by decide +kernel
theorem dM_watch_252 : decode prog_13_method_55_code 252 = .ok (.goto (-48), 3) := by decide +kernel
theorem dM_watch_255 : decode prog_13_method_55_code 255 = .ok (.aload_n 0, 1) := by decide +kernel
theorem dM_watch_256 : decode prog_13_method_55_code 256 = .ok (.getfield 97, 3) := by decide +kernel
theorem dM_watch_259 : decode prog_13_method_55_code 259 = .ok (.iload_n 3, 1) := by decide +kernel
theorem dM_watch_260 : decode prog_13_method_55_code 260 = .ok (.iload_n 2, 1) := by decide +kernel
theorem dM_watch_261 : decode prog_13_method_55_code 261 = .ok (.iastore, 1) := by decide +kernel
theorem dM_watch_262 : decode prog_13_method_55_code 262 = .ok (.aload_n 0, 1) := by decide +kernel
theorem dM_watch_263 : decode prog_13_method_55_code 263 = .ok (.getfield 100, 3) := by decide +kernel
theorem dM_watch_266 : decode prog_13_method_55_code 266 = .ok (.iload_n 3, 1) := by decide +kernel
theorem dM_watch_267 : decode prog_13_method_55_code 267 = .ok (.iconst 1, 1) := by decide +kernel
theorem dM_watch_268 : decode prog_13_method_55_code 268 = .ok (.bastore, 1) := by decide +kernel
theorem dM_watch_269 : decode prog_13_method_55_code 269 = .ok (.aload_n 0, 1) := by decide +kernel
theorem dM_watch_270 : decode prog_13_method_55_code 270 = .ok (.getfield 104, 3) := by decide +kernel
theorem dM_watch_273 : decode prog_13_method_55_code 273 = .ok (.iload_n 3, 1) := by decide +kernel
theorem dM_watch_274 : decode prog_13_method_55_code 274 = .ok (.iconst 0, 1) := by decide +kernel
theorem dM_watch_275 : decode prog_13_method_55_code 275 = .ok (.iastore, 1) := by decide +kernel
theorem dM_watch_276 : decode prog_13_method_55_code 276 = .ok (.return_, 1) := by decide +kernel
theorem dM_isWatch_0 : decode prog_13_method_56_code 0 = .ok (.aload_n 0, 1) := by decide +kernel
theorem dM_isWatch_1 : decode prog_13_method_56_code 1 = .ok (.iload_n 1, 1) := by decide +kernel
theorem dM_isWatch_2 : decode prog_13_method_56_code 2 = .ok (.iconst 0, 1) := by decide +kernel
theorem dM_isWatch_3 : decode prog_13_method_56_code 3 = .ok (.iconst 3, 1) := by decide +kernel
theorem dM_isWatch_4 : decode prog_13_method_56_code 4 = .ok (.invokestatic 139, 3) := by decide +kernel
theorem dM_isWatch_7 : decode prog_13_method_56_code 7 = .ok (.ifCond .eq 31, 3) := by decide +kernel
theorem dM_isWatch_10 : decode prog_13_method_56_code 10 = .ok (.aload_n 0, 1) := by decide +kernel
theorem dM_isWatch_11 : decode prog_13_method_56_code 11 = .ok (.getfield 100, 3) := by decide +kernel
theorem dM_isWatch_14 : decode prog_13_method_56_code 14 = .ok (.iload_n 1, 1) := by decide +kernel
theorem dM_isWatch_15 : decode prog_13_method_56_code 15 = .ok (.iconst 0, 1) := by decide +kernel
theorem dM_isWatch_16 : decode prog_13_method_56_code 16 = .ok (.iconst 3, 1) := by decide +kernel
theorem dM_isWatch_17 : decode prog_13_method_56_code 17 = .ok (.invokestatic 139, 3) := by decide +kernel
theorem dM_isWatch_20 : decode prog_13_method_56_code 20 = .ok (.ifCond .eq 9, 3) := by decide +kernel
theorem dM_isWatch_23 : decode prog_13_method_56_code 23 = .ok (.iload_n 1, 1) := by decide +kernel
theorem dM_isWatch_24 : decode prog_13_method_56_code 24 = .ok (.iconst 1, 1) := by decide +kernel
theorem dM_isWatch_25 : decode prog_13_method_56_code 25 = .ok (.iadd, 1) := by decide +kernel
theorem dM_isWatch_26 : decode prog_13_method_56_code 26 = .ok (.goto 4, 3) := by decide +kernel
theorem dM_isWatch_29 : decode prog_13_method_56_code 29 = .ok (.iconst 0, 1) := by decide +kernel
theorem dM_isWatch_30 : decode prog_13_method_56_code 30 = .ok (.baload, 1) := by decide +kernel
theorem dM_isWatch_31 : decode prog_13_method_56_code 31 = .ok (.ifCond .eq 7, 3) := by decide +kernel
theorem dM_isWatch_34 : decode prog_13_method_56_code 34 = .ok (.iconst 0, 1) := by decide +kernel
theorem dM_isWatch_35 : decode prog_13_method_56_code 35 = .ok (.goto 4, 3) := by decide +kernel
theorem dM_isWatch_38 : decode prog_13_method_56_code 38 = .ok (.iconst 1, 1) := by decide +kernel
theorem dM_isWatch_39 : decode prog_13_method_56_code 39 = .ok (.putfield 132, 3) := by decide +kernel
theorem dM_isWatch_42 : decode prog_13_method_56_code 42 = .ok (.aload_n 0, 1) := by decide +kernel
theorem dM_isWatch_43 : decode prog_13_method_56_code 43 = .ok (.getfield 132, 3) := by decide +kernel
theorem dM_isWatch_46 : decode prog_13_method_56_code 46 = .ok (.ifCond .ne 7, 3) := by decide +kernel
theorem dM_isWatch_49 : decode prog_13_method_56_code 49 = .ok (.iconst 1, 1) := by decide +kernel
theorem dM_isWatch_50 : decode prog_13_method_56_code 50 = .ok (.goto 4, 3) := by decide +kernel
theorem dM_isWatch_53 : decode prog_13_method_56_code 53 = .ok (.iconst 0, 1) := by decide +kernel
theorem dM_isWatch_54 : decode prog_13_method_56_code 54 = .ok (.ireturn, 1) := by decide +kernel
theorem dM_news_0 : decode prog_13_method_57_code 0 = .ok (.aload_n 0, 1) := by decide +kernel
theorem dM_news_1 : decode prog_13_method_57_code 1 = .ok (.iload_n 1, 1) := by decide +kernel
theorem dM_news_2 : decode prog_13_method_57_code 2 = .ok (.invokevirtual 301, 3) := by decide +kernel
theorem dM_news_5 : decode prog_13_method_57_code 5 = .ok (.ifCond .ne 5, 3) := by decide +kernel
theorem dM_news_8 : decode prog_13_method_57_code 8 = .ok (.iconst 0, 1) := by decide +kernel
theorem dM_news_9 : decode prog_13_method_57_code 9 = .ok (.ireturn, 1) := by decide +kernel
theorem dM_news_10 : decode prog_13_method_57_code 10 = .ok (.aload_n 0, 1) := by decide +kernel
theorem dM_news_11 : decode prog_13_method_57_code 11 = .ok (.iconst 0, 1) := by decide +kernel
theorem dM_news_12 : decode prog_13_method_57_code 12 = .ok (.putfield 284, 3) := by decide +kernel
theorem dM_news_15 : decode prog_13_method_57_code 15 = .ok (.iconst 0, 1) := by decide +kernel
theorem dM_news_16 : decode prog_13_method_57_code 16 = .ok (.istore_n 2, 1) := by decide +kernel
theorem dM_news_17 : decode prog_13_method_57_code 17 = .ok (.iload_n 2, 1) := by decide +kernel
theorem dM_news_18 : decode prog_13_method_57_code 18 = .ok (.aload_n 0, 1) := by decide +kernel
theorem dM_news_19 : decode prog_13_method_57_code 19 = .ok (.getfield 136, 3) := by decide +kernel
theorem dM_news_22 : decode prog_13_method_57_code 22 = .ok (.if_icmp .ge 49, 3) := by decide +kernel
theorem dM_news_25 : decode prog_13_method_57_code 25 = .ok (.aload_n 0, 1) := by decide +kernel
theorem dM_news_26 : decode prog_13_method_57_code 26 = .ok (.getfield 104, 3) := by decide +kernel
theorem dM_news_29 : decode prog_13_method_57_code 29 = .ok (.iload_n 1, 1) := by decide +kernel
theorem dM_news_30 : decode prog_13_method_57_code 30 = .ok (.iconst 1, 1) := by decide +kernel
theorem dM_news_31 : decode prog_13_method_57_code 31 = .ok (.iadd, 1) := by decide +kernel
theorem dM_news_32 : decode prog_13_method_57_code 32 = .ok (.iaload, 1) := by decide +kernel
theorem dM_news_33 : decode prog_13_method_57_code 33 = .ok (.iload_n 2, 1) := by decide +kernel
theorem dM_news_34 : decode prog_13_method_57_code 34 = .ok (.ishr, 1) := by decide +kernel
theorem dM_news_35 : decode prog_13_method_57_code 35 = .ok (.iconst 1, 1) := by decide +kernel
theorem dM_news_36 : decode prog_13_method_57_code 36 = .ok (.iand, 1) := by decide +kernel
theorem dM_news_37 : decode prog_13_method_57_code 37 = .ok (.ifCond .ne 28, 3) := by decide +kernel
theorem dM_news_40 : decode prog_13_method_57_code 40 = .ok (.aload_n 0, 1) := by decide +kernel
theorem dM_news_41 : decode prog_13_method_57_code 41 = .ok (.iload_n 2, 1) := by decide +kernel
theorem dM_news_42 : decode prog_13_method_57_code 42 = .ok (.aload_n 0, 1) := by decide +kernel
theorem dM_news_43 : decode prog_13_method_57_code 43 = .ok (.getfield 97, 3) := by decide +kernel
theorem dM_news_46 : decode prog_13_method_57_code 46 = .ok (.iload_n 1, 1) := by decide +kernel
theorem dM_news_47 : decode prog_13_method_57_code 47 = .ok (.iconst 1, 1) := by decide +kernel
theorem dM_news_48 : decode prog_13_method_57_code 48 = .ok (.iadd, 1) := by decide +kernel
theorem dM_news_49 : decode prog_13_method_57_code 49 = .ok (.iaload, 1) := by decide +kernel
theorem dM_news_50 : decode prog_13_method_57_code 50 = .ok (.iload_n 1, 1) := by decide +kernel
theorem dM_news_51 : decode prog_13_method_57_code 51 = .ok (.iconst 1, 1) := by decide +kernel
theorem dM_news_52 : decode prog_13_method_57_code 52 = .ok (.iadd, 1) := by decide +kernel
theorem dM_news_53 : decode prog_13_method_57_code 53 = .ok (.invokevirtual 291, 3) := by decide +kernel
theorem dM_news_56 : decode prog_13_method_57_code 56 = .ok (.ifCond .eq 9, 3) := by decide +kernel
theorem dM_news_59 : decode prog_13_method_57_code 59 = .ok (.aload_n 0, 1) := by decide +kernel
theorem dM_news_60 : decode prog_13_method_57_code 60 = .ok (.iload_n 2, 1) := by decide +kernel
theorem dM_news_61 : decode prog_13_method_57_code 61 = .ok (.iconst 0, 1) := by decide +kernel
theorem dM_news_62 : decode prog_13_method_57_code 62 = .ok (.invokevirtual 297, 3) := by decide +kernel
theorem dM_news_65 : decode prog_13_method_57_code 65 = .ok (.iinc 2 1, 3) := by decide +kernel
theorem dM_news_68 : decode prog_13_method_57_code 68 = .ok (.goto (-51), 3) := by decide +kernel
theorem dM_news_71 : decode prog_13_method_57_code 71 = .ok (.aload_n 0, 1) := by decide +kernel
theorem dM_news_72 : decode prog_13_method_57_code 72 = .ok (.getfield 284, 3) := by decide +kernel
theorem dM_news_75 : decode prog_13_method_57_code 75 = .ok (.ireturn, 1) := by decide +kernel
theorem dM_told_0 : decode prog_13_method_58_code 0 = .ok (.aload_n 0, 1) := by decide +kernel
theorem dM_told_1 : decode prog_13_method_58_code 1 = .ok (.iload_n 1, 1) := by decide +kernel
theorem dM_told_2 : decode prog_13_method_58_code 2 = .ok (.invokevirtual 301, 3) := by decide +kernel
theorem dM_told_5 : decode prog_13_method_58_code 5 = .ok (.ifCond .ne 5, 3) := by decide +kernel
theorem dM_told_8 : decode prog_13_method_58_code 8 = .ok (.iconst 0, 1) := by decide +kernel
theorem dM_told_9 : decode prog_13_method_58_code 9 = .ok (.ireturn, 1) := by decide +kernel
theorem dM_told_10 : decode prog_13_method_58_code 10 = .ok (.iconst 0, 1) := by decide +kernel
theorem dM_told_11 : decode prog_13_method_58_code 11 = .ok (.istore_n 2, 1) := by decide +kernel
theorem dM_told_12 : decode prog_13_method_58_code 12 = .ok (.iconst 0, 1) := by decide +kernel
theorem dM_told_13 : decode prog_13_method_58_code 13 = .ok (.istore_n 3, 1) := by decide +kernel
theorem dM_told_14 : decode prog_13_method_58_code 14 = .ok (.iconst 0, 1) := by decide +kernel
theorem dM_told_15 : decode prog_13_method_58_code 15 = .ok (.istore 4, 2) := by decide +kernel
theorem dM_told_17 : decode prog_13_method_58_code 17 = .ok (.iload 4, 2) := by decide +kernel
theorem dM_told_19 : decode prog_13_method_58_code 19 = .ok (.aload_n 0, 1) := by decide +kernel
theorem dM_told_20 : decode prog_13_method_58_code 20 = .ok (.getfield 136, 3) := by decide +kernel
theorem dM_told_23 : decode prog_13_method_58_code 23 = .ok (.if_icmp .ge 42, 3) := by decide +kernel
theorem dM_told_26 : decode prog_13_method_58_code 26 = .ok (.aload_n 0, 1) := by decide +kernel
theorem dM_told_27 : decode prog_13_method_58_code 27 = .ok (.iload 4, 2) := by decide +kernel
theorem dM_told_29 : decode prog_13_method_58_code 29 = .ok (.aload_n 0, 1) := by decide +kernel
theorem dM_told_30 : decode prog_13_method_58_code 30 = .ok (.getfield 97, 3) := by decide +kernel
theorem dM_told_33 : decode prog_13_method_58_code 33 = .ok (.iload_n 1, 1) := by decide +kernel
theorem dM_told_34 : decode prog_13_method_58_code 34 = .ok (.iconst 1, 1) := by decide +kernel
theorem dM_told_35 : decode prog_13_method_58_code 35 = .ok (.iadd, 1) := by decide +kernel
theorem dM_told_36 : decode prog_13_method_58_code 36 = .ok (.iaload, 1) := by decide +kernel
theorem dM_told_37 : decode prog_13_method_58_code 37 = .ok (.iload_n 1, 1) := by decide +kernel
theorem dM_told_38 : decode prog_13_method_58_code 38 = .ok (.iconst 1, 1) := by decide +kernel
theorem dM_told_39 : decode prog_13_method_58_code 39 = .ok (.iadd, 1) := by decide +kernel
theorem dM_told_40 : decode prog_13_method_58_code 40 = .ok (.invokevirtual 291, 3) := by decide +kernel
theorem dM_told_43 : decode prog_13_method_58_code 43 = .ok (.ifCond .ne 6, 3) := by decide +kernel
theorem dM_told_46 : decode prog_13_method_58_code 46 = .ok (.goto 13, 3) := by decide +kernel
theorem dM_told_49 : decode prog_13_method_58_code 49 = .ok (.iload_n 3, 1) := by decide +kernel
theorem dM_told_50 : decode prog_13_method_58_code 50 = .ok (.iconst 1, 1) := by decide +kernel
theorem dM_told_51 : decode prog_13_method_58_code 51 = .ok (.iload 4, 2) := by decide +kernel
theorem dM_told_53 : decode prog_13_method_58_code 53 = .ok (.ishl, 1) := by decide +kernel
theorem dM_told_54 : decode prog_13_method_58_code 54 = .ok (.ior, 1) := by decide +kernel
theorem dM_told_55 : decode prog_13_method_58_code 55 = .ok (.istore_n 3, 1) := by decide +kernel
theorem dM_told_56 : decode prog_13_method_58_code 56 = .ok (.iinc 2 1, 3) := by decide +kernel
theorem dM_told_59 : decode prog_13_method_58_code 59 = .ok (.iinc 4 1, 3) := by decide +kernel
theorem dM_told_62 : decode prog_13_method_58_code 62 = .ok (.goto (-45), 3) := by decide +kernel
theorem dM_told_65 : decode prog_13_method_58_code 65 = .ok (.aload_n 0, 1) := by decide +kernel
theorem dM_told_66 : decode prog_13_method_58_code 66 = .ok (.getfield 104, 3) := by decide +kernel
theorem dM_told_69 : decode prog_13_method_58_code 69 = .ok (.iload_n 1, 1) := by decide +kernel
theorem dM_told_70 : decode prog_13_method_58_code 70 = .ok (.iconst 1, 1) := by decide +kernel
theorem dM_told_71 : decode prog_13_method_58_code 71 = .ok (.iadd, 1) := by decide +kernel
theorem dM_told_72 : decode prog_13_method_58_code 72 = .ok (.iload_n 3, 1) := by decide +kernel
theorem dM_told_73 : decode prog_13_method_58_code 73 = .ok (.iastore, 1) := by decide +kernel
theorem dM_told_74 : decode prog_13_method_58_code 74 = .ok (.iload_n 2, 1) := by decide +kernel
theorem dM_told_75 : decode prog_13_method_58_code 75 = .ok (.ireturn, 1) := by decide +kernel
