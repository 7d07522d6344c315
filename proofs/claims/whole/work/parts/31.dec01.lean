theorem dCo_squareTo_28 : decode prog_3_method_6_code 28 = .ok (.iinc 4 1, 3) := by decide +kernel
theorem dCo_squareTo_31 : decode prog_3_method_6_code 31 = .ok (.goto (-25), 3) := by decide +kernel
theorem dCo_squareTo_34 : decode prog_3_method_6_code 34 = .ok (.iload_n 3, 1) := by decide +kernel
theorem dCo_squareTo_35 : decode prog_3_method_6_code 35 = .ok (.ireturn, 1) := by decide +kernel
theorem dLo_compare_0 : decode prog_22_method_42_code 0 = .ok (.lload_n 0, 1) := by decide +kernel
theorem dLo_compare_1 : decode prog_22_method_42_code 1 = .ok (.lload_n 2, 1) := by decide +kernel
theorem dLo_compare_2 : decode prog_22_method_42_code 2 = .ok (.lcmp, 1) := by decide +kernel
theorem dLo_compare_3 : decode prog_22_method_42_code 3 = .ok (.ifCond .ge 7, 3) := by decide +kernel
theorem dLo_compare_6 : decode prog_22_method_42_code 6 = .ok (.iconst (-1), 1) := by decide +kernel
theorem dLo_compare_7 : decode prog_22_method_42_code 7 = .ok (.goto 14, 3) := by decide +kernel
theorem dLo_compare_10 : decode prog_22_method_42_code 10 = .ok (.lload_n 0, 1) := by decide +kernel
theorem dLo_compare_11 : decode prog_22_method_42_code 11 = .ok (.lload_n 2, 1) := by decide +kernel
theorem dLo_compare_12 : decode prog_22_method_42_code 12 = .ok (.lcmp, 1) := by decide +kernel
theorem dLo_compare_13 : decode prog_22_method_42_code 13 = .ok (.ifCond .ne 7, 3) := by decide +kernel
theorem dLo_compare_16 : decode prog_22_method_42_code 16 = .ok (.iconst 0, 1) := by decide +kernel
theorem dLo_compare_17 : decode prog_22_method_42_code 17 = .ok (.goto 4, 3) := by decide +kernel
theorem dLo_compare_20 : decode prog_22_method_42_code 20 = .ok (.iconst 1, 1) := by decide +kernel
theorem dLo_compare_21 : decode prog_22_method_42_code 21 = .ok (.ireturn, 1) := by decide +kernel
theorem dRs_takeIfBetter_0 : decode prog_9_method_4_code 0 = .ok (.iconst (-1), 1) := by decide +kernel
theorem dRs_takeIfBetter_1 : decode prog_9_method_4_code 1 = .ok (.istore 9, 2) := by decide +kernel
theorem dRs_takeIfBetter_3 : decode prog_9_method_4_code 3 = .ok (.aload_n 0, 1) := by decide +kernel
theorem dRs_takeIfBetter_4 : decode prog_9_method_4_code 4 = .ok (.getfield 7, 3) := by decide +kernel
theorem dRs_takeIfBetter_7 : decode prog_9_method_4_code 7 = .ok (.ifCond .eq 42, 3) := by decide +kernel
theorem dRs_takeIfBetter_10 : decode prog_9_method_4_code 10 = .ok (.lload_n 3, 1) := by decide +kernel
theorem dRs_takeIfBetter_11 : decode prog_9_method_4_code 11 = .ok (.aload_n 0, 1) := by decide +kernel
theorem dRs_takeIfBetter_12 : decode prog_9_method_4_code 12 = .ok (.getfield 38, 3) := by decide +kernel
theorem dRs_takeIfBetter_15 : decode prog_9_method_4_code 15 = .ok (.lcmp, 1) := by decide +kernel
theorem dRs_takeIfBetter_16 : decode prog_9_method_4_code 16 = .ok (.ifCond .eq 14, 3) := by decide +kernel
theorem dRs_takeIfBetter_19 : decode prog_9_method_4_code 19 = .ok (.lload_n 3, 1) := by decide +kernel
theorem dRs_takeIfBetter_20 : decode prog_9_method_4_code 20 = .ok (.aload_n 0, 1) := by decide +kernel
theorem dRs_takeIfBetter_21 : decode prog_9_method_4_code 21 = .ok (.getfield 38, 3) := by decide +kernel
theorem dRs_takeIfBetter_24 : decode prog_9_method_4_code 24 = .ok (.invokestatic 42, 3) := by decide +kernel
theorem dRs_takeIfBetter_27 : decode prog_9_method_4_code 27 = .ok (.goto 20, 3) := by decide +kernel
theorem dRs_takeIfBetter_30 : decode prog_9_method_4_code 30 = .ok (.lload 5, 2) := by decide +kernel
theorem dRs_takeIfBetter_32 : decode prog_9_method_4_code 32 = .ok (.aload_n 0, 1) := by decide +kernel
theorem dRs_takeIfBetter_33 : decode prog_9_method_4_code 33 = .ok (.getfield 48, 3) := by decide +kernel
theorem dRs_takeIfBetter_36 : decode prog_9_method_4_code 36 = .ok (.lmul, 1) := by decide +kernel
theorem dRs_takeIfBetter_37 : decode prog_9_method_4_code 37 = .ok (.aload_n 0, 1) := by decide +kernel
theorem dRs_takeIfBetter_38 : decode prog_9_method_4_code 38 = .ok (.getfield 51, 3) := by decide +kernel
theorem dRs_takeIfBetter_41 : decode prog_9_method_4_code 41 = .ok (.lload 7, 2) := by decide +kernel
theorem dRs_takeIfBetter_43 : decode prog_9_method_4_code 43 = .ok (.lmul, 1) := by decide +kernel
theorem dRs_takeIfBetter_44 : decode prog_9_method_4_code 44 = .ok (.invokestatic 42, 3) := by decide +kernel
theorem dRs_takeIfBetter_47 : decode prog_9_method_4_code 47 = .ok (.istore 9, 2) := by decide +kernel
theorem dRs_takeIfBetter_49 : decode prog_9_method_4_code 49 = .ok (.iload 9, 2) := by decide +kernel
theorem dRs_takeIfBetter_51 : decode prog_9_method_4_code 51 = .ok (.ifCond .lt 24, 3) := by decide +kernel
theorem dRs_takeIfBetter_54 : decode prog_9_method_4_code 54 = .ok (.iload 9, 2) := by decide +kernel
theorem dRs_takeIfBetter_56 : decode prog_9_method_4_code 56 = .ok (.ifCond .ne 51, 3) := by decide +kernel
theorem dRs_takeIfBetter_59 : decode prog_9_method_4_code 59 = .ok (.iload_n 1, 1) := by decide +kernel
theorem dRs_takeIfBetter_60 : decode prog_9_method_4_code 60 = .ok (.aload_n 0, 1) := by decide +kernel
theorem dRs_takeIfBetter_61 : decode prog_9_method_4_code 61 = .ok (.getfield 54, 3) := by decide +kernel
theorem dRs_takeIfBetter_64 : decode prog_9_method_4_code 64 = .ok (.if_icmp .ne 43, 3) := by decide +kernel
theorem dRs_takeIfBetter_67 : decode prog_9_method_4_code 67 = .ok (.iload_n 2, 1) := by decide +kernel
theorem dRs_takeIfBetter_68 : decode prog_9_method_4_code 68 = .ok (.aload_n 0, 1) := by decide +kernel
theorem dRs_takeIfBetter_69 : decode prog_9_method_4_code 69 = .ok (.getfield 57, 3) := by decide +kernel
theorem dRs_takeIfBetter_72 : decode prog_9_method_4_code 72 = .ok (.if_icmp .ge 35, 3) := by decide +kernel
theorem dRs_takeIfBetter_75 : decode prog_9_method_4_code 75 = .ok (.aload_n 0, 1) := by decide +kernel
theorem dRs_takeIfBetter_76 : decode prog_9_method_4_code 76 = .ok (.iconst 1, 1) := by decide +kernel
theorem dRs_takeIfBetter_77 : decode prog_9_method_4_code 77 = .ok (.putfield 7, 3) := by decide +kernel
theorem dRs_takeIfBetter_80 : decode prog_9_method_4_code 80 = .ok (.aload_n 0, 1) := by decide +kernel
theorem dRs_takeIfBetter_81 : decode prog_9_method_4_code 81 = .ok (.iload_n 1, 1) := by decide +kernel
theorem dRs_takeIfBetter_82 : decode prog_9_method_4_code 82 = .ok (.putfield 54, 3) := by decide +kernel
theorem dRs_takeIfBetter_85 : decode prog_9_method_4_code 85 = .ok (.aload_n 0, 1) := by decide +kernel
theorem dRs_takeIfBetter_86 : decode prog_9_method_4_code 86 = .ok (.iload_n 2, 1) := by decide +kernel
theorem dRs_takeIfBetter_87 : decode prog_9_method_4_code 87 = .ok (.putfield 57, 3) := by decide +kernel
theorem dRs_takeIfBetter_90 : decode prog_9_method_4_code 90 = .ok (.aload_n 0, 1) := by decide +kernel
theorem dRs_takeIfBetter_91 : decode prog_9_method_4_code 91 = .ok (.lload_n 3, 1) := by decide +kernel
theorem dRs_takeIfBetter_92 : decode prog_9_method_4_code 92 = .ok (.putfield 38, 3) := by decide +kernel
theorem dRs_takeIfBetter_95 : decode prog_9_method_4_code 95 = .ok (.aload_n 0, 1) := by decide +kernel
theorem dRs_takeIfBetter_96 : decode prog_9_method_4_code 96 = .ok (.lload 5, 2) := by decide +kernel
theorem dRs_takeIfBetter_98 : decode prog_9_method_4_code 98 = .ok (.putfield 51, 3) := by decide +kernel
theorem dRs_takeIfBetter_101 : decode prog_9_method_4_code 101 = .ok (.aload_n 0, 1) := by decide +kernel
theorem dRs_takeIfBetter_102 : decode prog_9_method_4_code 102 = .ok (.lload 7, 2) := by decide +kernel
theorem dRs_takeIfBetter_104 : decode prog_9_method_4_code 104 = .ok (.putfield 48, 3) := by decide +kernel
theorem dRs_takeIfBetter_107 : decode prog_9_method_4_code 107 = .ok (.return_, 1) := by decide +kernel
theorem dRs_measure_0 : decode prog_9_method_3_code 0 = .ok (.aload_n 1, 1) := by decide +kernel
theorem dRs_measure_1 : decode prog_9_method_3_code 1 = .ok (.getfield 19, 3) := by decide +kernel
theorem dRs_measure_4 : decode prog_9_method_3_code 4 = .ok (.iload_n 2, 1) := by decide +kernel
theorem dRs_measure_5 : decode prog_9_method_3_code 5 = .ok (.iconst 1, 1) := by decide +kernel
theorem dRs_measure_6 : decode prog_9_method_3_code 6 = .ok (.iadd, 1) := by decide +kernel
theorem dRs_measure_7 : decode prog_9_method_3_code 7 = .ok (.iaload, 1) := by decide +kernel
theorem dRs_measure_8 : decode prog_9_method_3_code 8 = .ok (.aload_n 1, 1) := by decide +kernel
theorem dRs_measure_9 : decode prog_9_method_3_code 9 = .ok (.getfield 19, 3) := by decide +kernel
theorem dRs_measure_12 : decode prog_9_method_3_code 12 = .ok (.iload_n 2, 1) := by decide +kernel
theorem dRs_measure_13 : decode prog_9_method_3_code 13 = .ok (.iaload, 1) := by decide +kernel
theorem dRs_measure_14 : decode prog_9_method_3_code 14 = .ok (.isub, 1) := by decide +kernel
theorem dRs_measure_15 : decode prog_9_method_3_code 15 = .ok (.istore 5, 2) := by decide +kernel
theorem dRs_measure_17 : decode prog_9_method_3_code 17 = .ok (.aload_n 1, 1) := by decide +kernel
theorem dRs_measure_18 : decode prog_9_method_3_code 18 = .ok (.getfield 23, 3) := by decide +kernel
theorem dRs_measure_21 : decode prog_9_method_3_code 21 = .ok (.iload_n 2, 1) := by decide +kernel
theorem dRs_measure_22 : decode prog_9_method_3_code 22 = .ok (.iconst 1, 1) := by decide +kernel
theorem dRs_measure_23 : decode prog_9_method_3_code 23 = .ok (.iadd, 1) := by decide +kernel
theorem dRs_measure_24 : decode prog_9_method_3_code 24 = .ok (.iaload, 1) := by decide +kernel
theorem dRs_measure_25 : decode prog_9_method_3_code 25 = .ok (.aload_n 1, 1) := by decide +kernel
theorem dRs_measure_26 : decode prog_9_method_3_code 26 = .ok (.getfield 23, 3) := by decide +kernel
theorem dRs_measure_29 : decode prog_9_method_3_code 29 = .ok (.iload_n 2, 1) := by decide +kernel
theorem dRs_measure_30 : decode prog_9_method_3_code 30 = .ok (.iaload, 1) := by decide +kernel
theorem dRs_measure_31 : decode prog_9_method_3_code 31 = .ok (.isub, 1) := by decide +kernel
theorem dRs_measure_32 : decode prog_9_method_3_code 32 = .ok (.istore 6, 2) := by decide +kernel
theorem dRs_measure_34 : decode prog_9_method_3_code 34 = .ok (.iload_n 3, 1) := by decide +kernel
theorem dRs_measure_35 : decode prog_9_method_3_code 35 = .ok (.aload_n 1, 1) := by decide +kernel
theorem dRs_measure_36 : decode prog_9_method_3_code 36 = .ok (.getfield 19, 3) := by decide +kernel
theorem dRs_measure_39 : decode prog_9_method_3_code 39 = .ok (.iload_n 2, 1) := by decide +kernel
theorem dRs_measure_40 : decode prog_9_method_3_code 40 = .ok (.iaload, 1) := by decide +kernel
theorem dRs_measure_41 : decode prog_9_method_3_code 41 = .ok (.isub, 1) := by decide +kernel
theorem dRs_measure_42 : decode prog_9_method_3_code 42 = .ok (.istore 7, 2) := by decide +kernel
theorem dRs_measure_44 : decode prog_9_method_3_code 44 = .ok (.iload 4, 2) := by decide +kernel
theorem dRs_measure_46 : decode prog_9_method_3_code 46 = .ok (.aload_n 1, 1) := by decide +kernel
theorem dRs_measure_47 : decode prog_9_method_3_code 47 = .ok (.getfield 23, 3) := by decide +kernel
theorem dRs_measure_50 : decode prog_9_method_3_code 50 = .ok (.iload_n 2, 1) := by decide +kernel
theorem dRs_measure_51 : decode prog_9_method_3_code 51 = .ok (.iaload, 1) := by decide +kernel
theorem dRs_measure_52 : decode prog_9_method_3_code 52 = .ok (.isub, 1) := by decide +kernel
theorem dRs_measure_53 : decode prog_9_method_3_code 53 = .ok (.istore 8, 2) := by decide +kernel
theorem dRs_measure_55 : decode prog_9_method_3_code 55 = .ok (.iload 5, 2) := by decide +kernel
theorem dRs_measure_57 : decode prog_9_method_3_code 57 = .ok (.iload 5, 2) := by decide +kernel
theorem dRs_measure_59 : decode prog_9_method_3_code 59 = .ok (.imul, 1) := by decide +kernel
theorem dRs_measure_60 : decode prog_9_method_3_code 60 = .ok (.iload 6, 2) := by decide +kernel
theorem dRs_measure_62 : decode prog_9_method_3_code 62 = .ok (.iload 6, 2) := by decide +kernel
theorem dRs_measure_64 : decode prog_9_method_3_code 64 = .ok (.imul, 1) := by decide +kernel
theorem dRs_measure_65 : decode prog_9_method_3_code 65 = .ok (.iadd, 1) := by decide +kernel
theorem dRs_measure_66 : decode prog_9_method_3_code 66 = .ok (.istore 9, 2) := by decide +kernel
theorem dRs_measure_68 : decode prog_9_method_3_code 68 = .ok (.iload 7, 2) := by decide +kernel
theorem dRs_measure_70 : decode prog_9_method_3_code 70 = .ok (.iload 5, 2) := by decide +kernel
theorem dRs_measure_72 : decode prog_9_method_3_code 72 = .ok (.imul, 1) := by decide +kernel
theorem dRs_measure_73 : decode prog_9_method_3_code 73 = .ok (.iload 8, 2) := by decide +kernel
theorem dRs_measure_75 : decode prog_9_method_3_code 75 = .ok (.iload 6, 2) := by decide +kernel
theorem dRs_measure_77 : decode prog_9_method_3_code 77 = .ok (.imul, 1) := by decide +kernel
theorem dRs_measure_78 : decode prog_9_method_3_code 78 = .ok (.iadd, 1) := by decide +kernel
theorem dRs_measure_79 : decode prog_9_method_3_code 79 = .ok (.istore 10, 2) := by decide +kernel
theorem dRs_measure_81 : decode prog_9_method_3_code 81 = .ok (.iload 10, 2) := by decide +kernel
theorem dRs_measure_83 : decode prog_9_method_3_code 83 = .ok (.ifCond .le 58, 3) := by decide +kernel
theorem dRs_measure_86 : decode prog_9_method_3_code 86 = .ok (.iload 10, 2) := by decide +kernel
theorem dRs_measure_88 : decode prog_9_method_3_code 88 = .ok (.iload 9, 2) := by decide +kernel
theorem dRs_measure_90 : decode prog_9_method_3_code 90 = .ok (.if_icmp .ge 51, 3) := by decide +kernel
theorem dRs_measure_93 : decode prog_9_method_3_code 93 = .ok (.iload 5, 2) := by decide +kernel
theorem dRs_measure_95 : decode prog_9_method_3_code 95 = .ok (.i2l, 1) := by decide +kernel
theorem dRs_measure_96 : decode prog_9_method_3_code 96 = .ok (.iload 8, 2) := by decide +kernel
theorem dRs_measure_98 : decode prog_9_method_3_code 98 = .ok (.i2l, 1) := by decide +kernel
theorem dRs_measure_99 : decode prog_9_method_3_code 99 = .ok (.lmul, 1) := by decide +kernel
theorem dRs_measure_100 : decode prog_9_method_3_code 100 = .ok (.iload 6, 2) := by decide +kernel
theorem dRs_measure_102 : decode prog_9_method_3_code 102 = .ok (.i2l, 1) := by decide +kernel
theorem dRs_measure_103 : decode prog_9_method_3_code 103 = .ok (.iload 7, 2) := by decide +kernel
theorem dRs_measure_105 : decode prog_9_method_3_code 105 = .ok (.i2l, 1) := by decide +kernel
theorem dRs_measure_106 : decode prog_9_method_3_code 106 = .ok (.lmul, 1) := by decide +kernel
theorem dRs_measure_107 : decode prog_9_method_3_code 107 = .ok (.lsub, 1) := by decide +kernel
theorem dRs_measure_108 : decode prog_9_method_3_code 108 = .ok (.lstore 11, 2) := by decide +kernel
theorem dRs_measure_110 : decode prog_9_method_3_code 110 = .ok (.aload_n 0, 1) := by decide +kernel
theorem dRs_measure_111 : decode prog_9_method_3_code 111 = .ok (.iload_n 2, 1) := by decide +kernel
theorem dRs_measure_112 : decode prog_9_method_3_code 112 = .ok (.iload 10, 2) := by decide +kernel
theorem dRs_measure_114 : decode prog_9_method_3_code 114 = .ok (.lload 11, 2) := by decide +kernel
theorem dRs_measure_116 : decode prog_9_method_3_code 116 = .ok (.lload 11, 2) := by decide +kernel
theorem dRs_measure_118 : decode prog_9_method_3_code 118 = .ok (.lmul, 1) := by decide +kernel
theorem dRs_measure_119 : decode prog_9_method_3_code 119 = .ok (.iload 9, 2) := by decide +kernel
theorem dRs_measure_121 : decode prog_9_method_3_code 121 = .ok (.i2l, 1) := by decide +kernel
theorem dRs_measure_122 : decode prog_9_method_3_code 122 = .ok (.ldiv, 1) := by decide +kernel
theorem dRs_measure_123 : decode prog_9_method_3_code 123 = .ok (.lload 11, 2) := by decide +kernel
theorem dRs_measure_125 : decode prog_9_method_3_code 125 = .ok (.lload 11, 2) := by decide +kernel
theorem dRs_measure_127 : decode prog_9_method_3_code 127 = .ok (.lmul, 1) := by decide +kernel
theorem dRs_measure_128 : decode prog_9_method_3_code 128 = .ok (.iload 9, 2) := by decide +kernel
theorem dRs_measure_130 : decode prog_9_method_3_code 130 = .ok (.i2l, 1) := by decide +kernel
theorem dRs_measure_131 : decode prog_9_method_3_code 131 = .ok (.lrem, 1) := by decide +kernel
theorem dRs_measure_132 : decode prog_9_method_3_code 132 = .ok (.iload 9, 2) := by decide +kernel
theorem dRs_measure_134 : decode prog_9_method_3_code 134 = .ok (.i2l, 1) := by decide +kernel
theorem dRs_measure_135 : decode prog_9_method_3_code 135 = .ok (.invokevirtual 30, 3) := by decide +kernel
theorem dRs_measure_138 : decode prog_9_method_3_code 138 = .ok (.goto 48, 3) := by decide +kernel
theorem dRs_measure_141 : decode prog_9_method_3_code 141 = .ok (.iload 10, 2) := by decide +kernel
theorem dRs_measure_143 : decode prog_9_method_3_code 143 = .ok (.ifCond .gt 23, 3) := by decide +kernel
theorem dRs_measure_146 : decode prog_9_method_3_code 146 = .ok (.aload_n 0, 1) := by decide +kernel
theorem dRs_measure_147 : decode prog_9_method_3_code 147 = .ok (.iload_n 2, 1) := by decide +kernel
theorem dRs_measure_148 : decode prog_9_method_3_code 148 = .ok (.iconst 0, 1) := by decide +kernel
theorem dRs_measure_149 : decode prog_9_method_3_code 149 = .ok (.aload_n 1, 1) := by decide +kernel
theorem dRs_measure_150 : decode prog_9_method_3_code 150 = .ok (.iload_n 2, 1) := by decide +kernel
theorem dRs_measure_151 : decode prog_9_method_3_code 151 = .ok (.iload_n 3, 1) := by decide +kernel
theorem dRs_measure_152 : decode prog_9_method_3_code 152 = .ok (.iload 4, 2) := by decide +kernel
theorem dRs_measure_154 : decode prog_9_method_3_code 154 = .ok (.invokevirtual 34, 3) := by decide +kernel
theorem dRs_measure_157 : decode prog_9_method_3_code 157 = .ok (.i2l, 1) := by decide +kernel
theorem dRs_measure_158 : decode prog_9_method_3_code 158 = .ok (.lconst 0, 1) := by decide +kernel
theorem dRs_measure_159 : decode prog_9_method_3_code 159 = .ok (.lconst 1, 1) := by decide +kernel
theorem dRs_measure_160 : decode prog_9_method_3_code 160 = .ok (.invokevirtual 30, 3) := by decide +kernel
theorem dRs_measure_163 : decode prog_9_method_3_code 163 = .ok (.goto 23, 3) := by decide +kernel
theorem dRs_measure_166 : decode prog_9_method_3_code 166 = .ok (.aload_n 0, 1) := by decide +kernel
theorem dRs_measure_167 : decode prog_9_method_3_code 167 = .ok (.iload_n 2, 1) := by decide +kernel
theorem dRs_measure_168 : decode prog_9_method_3_code 168 = .ok (.iload 9, 2) := by decide +kernel
theorem dRs_measure_170 : decode prog_9_method_3_code 170 = .ok (.aload_n 1, 1) := by decide +kernel
theorem dRs_measure_171 : decode prog_9_method_3_code 171 = .ok (.iload_n 2, 1) := by decide +kernel
theorem dRs_measure_172 : decode prog_9_method_3_code 172 = .ok (.iconst 1, 1) := by decide +kernel
theorem dRs_measure_173 : decode prog_9_method_3_code 173 = .ok (.iadd, 1) := by decide +kernel
theorem dRs_measure_174 : decode prog_9_method_3_code 174 = .ok (.iload_n 3, 1) := by decide +kernel
theorem dRs_measure_175 : decode prog_9_method_3_code 175 = .ok (.iload 4, 2) := by decide +kernel
theorem dRs_measure_177 : decode prog_9_method_3_code 177 = .ok (.invokevirtual 34, 3) := by decide +kernel
theorem dRs_measure_180 : decode prog_9_method_3_code 180 = .ok (.i2l, 1) := by decide +kernel
theorem dRs_measure_181 : decode prog_9_method_3_code 181 = .ok (.lconst 0, 1) := by decide +kernel
theorem dRs_measure_182 : decode prog_9_method_3_code 182 = .ok (.lconst 1, 1) := by decide +kernel
theorem dRs_measure_183 : decode prog_9_method_3_code 183 = .ok (.invokevirtual 30, 3) := by decide +kernel
theorem dRs_measure_186 : decode prog_9_method_3_code 186 = .ok (.return_, 1) := by decide +kernel
theorem dRs_start_0 : decode prog_9_method_2_code 0 = .ok (.aload_n 0, 1) := by decide +kernel
theorem dRs_start_1 : decode prog_9_method_2_code 1 = .ok (.iconst 0, 1) := by decide +kernel
theorem dRs_start_2 : decode prog_9_method_2_code 2 = .ok (.putfield 7, 3) := by decide +kernel
theorem dRs_start_5 : decode prog_9_method_2_code 5 = .ok (.iconst 0, 1) := by decide +kernel
theorem dRs_start_6 : decode prog_9_method_2_code 6 = .ok (.istore_n 3, 1) := by decide +kernel
theorem dRs_start_7 : decode prog_9_method_2_code 7 = .ok (.iload_n 3, 1) := by decide +kernel
theorem dRs_start_8 : decode prog_9_method_2_code 8 = .ok (.iconst 1, 1) := by decide +kernel
theorem dRs_start_9 : decode prog_9_method_2_code 9 = .ok (.iadd, 1) := by decide +kernel
theorem dRs_start_10 : decode prog_9_method_2_code 10 = .ok (.aload_n 1, 1) := by decide +kernel
theorem dRs_start_11 : decode prog_9_method_2_code 11 = .ok (.getfield 13, 3) := by decide +kernel
theorem dRs_start_14 : decode prog_9_method_2_code 14 = .ok (.if_icmp .ge 47, 3) := by decide +kernel
theorem dRs_start_17 : decode prog_9_method_2_code 17 = .ok (.iconst 0, 1) := by decide +kernel
theorem dRs_start_18 : decode prog_9_method_2_code 18 = .ok (.istore 4, 2) := by decide +kernel
theorem dRs_start_20 : decode prog_9_method_2_code 20 = .ok (.iload 4, 2) := by decide +kernel
theorem dRs_start_22 : decode prog_9_method_2_code 22 = .ok (.aload_n 2, 1) := by decide +kernel
theorem dRs_start_23 : decode prog_9_method_2_code 23 = .ok (.getfield 13, 3) := by decide +kernel
theorem dRs_start_26 : decode prog_9_method_2_code 26 = .ok (.if_icmp .ge 29, 3) := by decide +kernel
theorem dRs_start_29 : decode prog_9_method_2_code 29 = .ok (.aload_n 0, 1) := by decide +kernel
theorem dRs_start_30 : decode prog_9_method_2_code 30 = .ok (.aload_n 1, 1) := by decide +kernel
theorem dRs_start_31 : decode prog_9_method_2_code 31 = .ok (.iload_n 3, 1) := by decide +kernel
theorem dRs_start_32 : decode prog_9_method_2_code 32 = .ok (.aload_n 2, 1) := by decide +kernel
theorem dRs_start_33 : decode prog_9_method_2_code 33 = .ok (.getfield 19, 3) := by decide +kernel
theorem dRs_start_36 : decode prog_9_method_2_code 36 = .ok (.iload 4, 2) := by decide +kernel
theorem dRs_start_38 : decode prog_9_method_2_code 38 = .ok (.iaload, 1) := by decide +kernel
theorem dRs_start_39 : decode prog_9_method_2_code 39 = .ok (.aload_n 2, 1) := by decide +kernel
theorem dRs_start_40 : decode prog_9_method_2_code 40 = .ok (.getfield 23, 3) := by decide +kernel
theorem dRs_start_43 : decode prog_9_method_2_code 43 = .ok (.iload 4, 2) := by decide +kernel
theorem dRs_start_45 : decode prog_9_method_2_code 45 = .ok (.iaload, 1) := by decide +kernel
theorem dRs_start_46 : decode prog_9_method_2_code 46 = .ok (.invokevirtual 26, 3) := by decide +kernel
theorem dRs_start_49 : decode prog_9_method_2_code 49 = .ok (.iinc 4 1, 3) := by decide +kernel
theorem dRs_start_52 : decode prog_9_method_2_code 52 = .ok (.goto (-32), 3) := by decide +kernel
theorem dRs_start_55 : decode prog_9_method_2_code 55 = .ok (.iinc 3 1, 3) := by decide +kernel
theorem dRs_start_58 : decode prog_9_method_2_code 58 = .ok (.goto (-51), 3) := by decide +kernel
theorem dRs_start_61 : decode prog_9_method_2_code 61 = .ok (.return_, 1) := by decide +kernel
theorem dRs_isWithin_0 : decode prog_9_method_5_code 0 = .ok (.iload_n 1, 1) := by decide +kernel
theorem dRs_isWithin_1 : decode prog_9_method_5_code 1 = .ok (.i2l, 1) := by decide +kernel
theorem dRs_isWithin_2 : decode prog_9_method_5_code 2 = .ok (.iload_n 1, 1) := by decide +kernel
theorem dRs_isWithin_3 : decode prog_9_method_5_code 3 = .ok (.i2l, 1) := by decide +kernel
theorem dRs_isWithin_4 : decode prog_9_method_5_code 4 = .ok (.lmul, 1) := by decide +kernel
theorem dRs_isWithin_5 : decode prog_9_method_5_code 5 = .ok (.lstore_n 2, 1) := by decide +kernel
theorem dRs_isWithin_6 : decode prog_9_method_5_code 6 = .ok (.aload_n 0, 1) := by decide +kernel
theorem dRs_isWithin_7 : decode prog_9_method_5_code 7 = .ok (.getfield 7, 3) := by decide +kernel
theorem dRs_isWithin_10 : decode prog_9_method_5_code 10 = .ok (.ifCond .eq 34, 3) := by decide +kernel
theorem dRs_isWithin_13 : decode prog_9_method_5_code 13 = .ok (.aload_n 0, 1) := by decide +kernel
theorem dRs_isWithin_14 : decode prog_9_method_5_code 14 = .ok (.getfield 38, 3) := by decide +kernel
theorem dRs_isWithin_17 : decode prog_9_method_5_code 17 = .ok (.lload_n 2, 1) := by decide +kernel
theorem dRs_isWithin_18 : decode prog_9_method_5_code 18 = .ok (.lcmp, 1) := by decide +kernel
theorem dRs_isWithin_19 : decode prog_9_method_5_code 19 = .ok (.ifCond .lt 21, 3) := by decide +kernel
theorem dRs_isWithin_22 : decode prog_9_method_5_code 22 = .ok (.aload_n 0, 1) := by decide +kernel
theorem dRs_isWithin_23 : decode prog_9_method_5_code 23 = .ok (.getfield 38, 3) := by decide +kernel
theorem dRs_isWithin_26 : decode prog_9_method_5_code 26 = .ok (.lload_n 2, 1) := by decide +kernel
theorem dRs_isWithin_27 : decode prog_9_method_5_code 27 = .ok (.lcmp, 1) := by decide +kernel
theorem dRs_isWithin_28 : decode prog_9_method_5_code 28 = .ok (.ifCond .ne 16, 3) := by decide +kernel
theorem dRs_isWithin_31 : decode prog_9_method_5_code 31 = .ok (.aload_n 0, 1) := by decide +kernel
theorem dRs_isWithin_32 : decode prog_9_method_5_code 32 = .ok (.getfield 51, 3) := by decide +kernel
theorem dRs_isWithin_35 : decode prog_9_method_5_code 35 = .ok (.lconst 0, 1) := by decide +kernel
theorem dRs_isWithin_36 : decode prog_9_method_5_code 36 = .ok (.lcmp, 1) := by decide +kernel
theorem dRs_isWithin_37 : decode prog_9_method_5_code 37 = .ok (.ifCond .ne 7, 3) := by decide +kernel
theorem dRs_isWithin_40 : decode prog_9_method_5_code 40 = .ok (.iconst 1, 1) := by decide +kernel
theorem dRs_isWithin_41 : decode prog_9_method_5_code 41 = .ok (.goto 4, 3) := by decide +kernel
theorem dRs_isWithin_44 : decode prog_9_method_5_code 44 = .ok (.iconst 0, 1) := by decide +kernel
theorem dRs_isWithin_45 : decode prog_9_method_5_code 45 = .ok (.ireturn, 1) := by decide +kernel
theorem dNa_isOf_0 : decode prog_7_method_2_code 0 = .ok (.aload_n 0, 1) := by decide +kernel
theorem dNa_isOf_1 : decode prog_7_method_2_code 1 = .ok (.getfield 13, 3) := by decide +kernel
theorem dNa_isOf_4 : decode prog_7_method_2_code 4 = .ok (.iload_n 1, 1) := by decide +kernel
theorem dNa_isOf_5 : decode prog_7_method_2_code 5 = .ok (.if_icmp .gt 15, 3) := by decide +kernel
theorem dNa_isOf_8 : decode prog_7_method_2_code 8 = .ok (.iload_n 1, 1) := by decide +kernel
theorem dNa_isOf_9 : decode prog_7_method_2_code 9 = .ok (.aload_n 0, 1) := by decide +kernel
theorem dNa_isOf_10 : decode prog_7_method_2_code 10 = .ok (.getfield 17, 3) := by decide +kernel
theorem dNa_isOf_13 : decode prog_7_method_2_code 13 = .ok (.if_icmp .gt 7, 3) := by decide +kernel
theorem dNa_isOf_16 : decode prog_7_method_2_code 16 = .ok (.iconst 1, 1) := by decide +kernel
theorem dNa_isOf_17 : decode prog_7_method_2_code 17 = .ok (.goto 4, 3) := by decide +kernel
theorem dNa_isOf_20 : decode prog_7_method_2_code 20 = .ok (.iconst 0, 1) := by decide +kernel
theorem dNa_isOf_21 : decode prog_7_method_2_code 21 = .ok (.ireturn, 1) := by decide +kernel
theorem dWo_rank_0 : decode prog_11_method_3_code 0 = .ok (.lconst 0, 1) := by decide +kernel
theorem dWo_rank_1 : decode prog_11_method_3_code 1 = .ok (.lstore_n 1, 1) := by decide +kernel
theorem dWo_rank_2 : decode prog_11_method_3_code 2 = .ok (.iconst 0, 1) := by decide +kernel
theorem dWo_rank_3 : decode prog_11_method_3_code 3 = .ok (.istore_n 3, 1) := by decide +kernel
theorem dWo_rank_4 : decode prog_11_method_3_code 4 = .ok (.iload_n 3, 1) := by decide +kernel
theorem dWo_rank_5 : decode prog_11_method_3_code 5 = .ok (.bipush 10, 2) := by decide +kernel
theorem dWo_rank_7 : decode prog_11_method_3_code 7 = .ok (.if_icmp .ge 40, 3) := by decide +kernel
theorem dWo_rank_10 : decode prog_11_method_3_code 10 = .ok (.lload_n 1, 1) := by decide +kernel
theorem dWo_rank_11 : decode prog_11_method_3_code 11 = .ok (.ldc2_w 23, 3) := by decide +kernel
theorem dWo_rank_14 : decode prog_11_method_3_code 14 = .ok (.lmul, 1) := by decide +kernel
theorem dWo_rank_15 : decode prog_11_method_3_code 15 = .ok (.iload_n 3, 1) := by decide +kernel
theorem dWo_rank_16 : decode prog_11_method_3_code 16 = .ok (.aload_n 0, 1) := by decide +kernel
theorem dWo_rank_17 : decode prog_11_method_3_code 17 = .ok (.getfield 19, 3) := by decide +kernel
theorem dWo_rank_20 : decode prog_11_method_3_code 20 = .ok (.if_icmp .ge 17, 3) := by decide +kernel
theorem dWo_rank_23 : decode prog_11_method_3_code 23 = .ok (.aload_n 0, 1) := by decide +kernel
theorem dWo_rank_24 : decode prog_11_method_3_code 24 = .ok (.getfield 9, 3) := by decide +kernel
theorem dWo_rank_27 : decode prog_11_method_3_code 27 = .ok (.iload_n 3, 1) := by decide +kernel
theorem dWo_rank_28 : decode prog_11_method_3_code 28 = .ok (.caload, 1) := by decide +kernel
theorem dWo_rank_29 : decode prog_11_method_3_code 29 = .ok (.bipush 97, 2) := by decide +kernel
theorem dWo_rank_31 : decode prog_11_method_3_code 31 = .ok (.isub, 1) := by decide +kernel
theorem dWo_rank_32 : decode prog_11_method_3_code 32 = .ok (.iconst 1, 1) := by decide +kernel
theorem dWo_rank_33 : decode prog_11_method_3_code 33 = .ok (.iadd, 1) := by decide +kernel
theorem dWo_rank_34 : decode prog_11_method_3_code 34 = .ok (.goto 4, 3) := by decide +kernel
theorem dWo_rank_37 : decode prog_11_method_3_code 37 = .ok (.iconst 0, 1) := by decide +kernel
theorem dWo_rank_38 : decode prog_11_method_3_code 38 = .ok (.i2l, 1) := by decide +kernel
theorem dWo_rank_39 : decode prog_11_method_3_code 39 = .ok (.ladd, 1) := by decide +kernel
theorem dWo_rank_40 : decode prog_11_method_3_code 40 = .ok (.lstore_n 1, 1) := by decide +kernel
theorem dWo_rank_41 : decode prog_11_method_3_code 41 = .ok (.iinc 3 1, 3) := by decide +kernel
theorem dWo_rank_44 : decode prog_11_method_3_code 44 = .ok (.goto (-40), 3) := by decide +kernel
theorem dWo_rank_47 : decode prog_11_method_3_code 47 = .ok (.lload_n 1, 1) := by decide +kernel
theorem dWo_rank_48 : decode prog_11_method_3_code 48 = .ok (.lreturn, 1) := by decide +kernel
theorem dWo_beginsWith_0 : decode prog_11_method_4_code 0 = .ok (.aload_n 1, 1) := by decide +kernel
theorem dWo_beginsWith_1 : decode prog_11_method_4_code 1 = .ok (.getfield 19, 3) := by decide +kernel
theorem dWo_beginsWith_4 : decode prog_11_method_4_code 4 = .ok (.aload_n 0, 1) := by decide +kernel
theorem dWo_beginsWith_5 : decode prog_11_method_4_code 5 = .ok (.getfield 19, 3) := by decide +kernel
theorem dWo_beginsWith_8 : decode prog_11_method_4_code 8 = .ok (.if_icmp .le 5, 3) := by decide +kernel
theorem dWo_beginsWith_11 : decode prog_11_method_4_code 11 = .ok (.iconst 0, 1) := by decide +kernel
theorem dWo_beginsWith_12 : decode prog_11_method_4_code 12 = .ok (.ireturn, 1) := by decide +kernel
theorem dWo_beginsWith_13 : decode prog_11_method_4_code 13 = .ok (.iconst 0, 1) := by decide +kernel
theorem dWo_beginsWith_14 : decode prog_11_method_4_code 14 = .ok (.istore_n 2, 1) := by decide +kernel
theorem dWo_beginsWith_15 : decode prog_11_method_4_code 15 = .ok (.iload_n 2, 1) := by decide +kernel
theorem dWo_beginsWith_16 : decode prog_11_method_4_code 16 = .ok (.aload_n 1, 1) := by decide +kernel
theorem dWo_beginsWith_17 : decode prog_11_method_4_code 17 = .ok (.getfield 19, 3) := by decide +kernel
theorem dWo_beginsWith_20 : decode prog_11_method_4_code 20 = .ok (.if_icmp .ge 26, 3) := by decide +kernel
theorem dWo_beginsWith_23 : decode prog_11_method_4_code 23 = .ok (.aload_n 0, 1) := by decide +kernel
theorem dWo_beginsWith_24 : decode prog_11_method_4_code 24 = .ok (.getfield 9, 3) := by decide +kernel
theorem dWo_beginsWith_27 : decode prog_11_method_4_code 27 = .ok (.iload_n 2, 1) := by decide +kernel
theorem dWo_beginsWith_28 : decode prog_11_method_4_code 28 = .ok (.caload, 1) := by decide +kernel
theorem dWo_beginsWith_29 : decode prog_11_method_4_code 29 = .ok (.aload_n 1, 1) := by decide +kernel
theorem dWo_beginsWith_30 : decode prog_11_method_4_code 30 = .ok (.getfield 9, 3) := by decide +kernel
theorem dWo_beginsWith_33 : decode prog_11_method_4_code 33 = .ok (.iload_n 2, 1) := by decide +kernel
theorem dWo_beginsWith_34 : decode prog_11_method_4_code 34 = .ok (.caload, 1) := by decide +kernel
theorem dWo_beginsWith_35 : decode prog_11_method_4_code 35 = .ok (.if_icmp .eq 5, 3) := by decide +kernel
theorem dWo_beginsWith_38 : decode prog_11_method_4_code 38 = .ok (.iconst 0, 1) := by decide +kernel
theorem dWo_beginsWith_39 : decode prog_11_method_4_code 39 = .ok (.ireturn, 1) := by decide +kernel
theorem dWo_beginsWith_40 : decode prog_11_method_4_code 40 = .ok (.iinc 2 1, 3) := by decide +kernel
theorem dWo_beginsWith_43 : decode prog_11_method_4_code 43 = .ok (.goto (-28), 3) := by decide +kernel
theorem dWo_beginsWith_46 : decode prog_11_method_4_code 46 = .ok (.iconst 1, 1) := by decide +kernel
theorem dWo_beginsWith_47 : decode prog_11_method_4_code 47 = .ok (.ireturn, 1) := by decide +kernel
theorem dEc_leastFor_0 : decode prog_4_method_3_code 0 = .ok (.iload_n 2, 1) := by decide +kernel
theorem dEc_leastFor_1 : decode prog_4_method_3_code 1 = .ok (.ifCond .eq 8, 3) := by decide +kernel
theorem dEc_leastFor_4 : decode prog_4_method_3_code 4 = .ok (.iload 4, 2) := by decide +kernel
theorem dEc_leastFor_6 : decode prog_4_method_3_code 6 = .ok (.ifCond .ne 8, 3) := by decide +kernel
theorem dEc_leastFor_9 : decode prog_4_method_3_code 9 = .ok (.iload_n 2, 1) := by decide +kernel
theorem dEc_leastFor_10 : decode prog_4_method_3_code 10 = .ok (.iload 4, 2) := by decide +kernel
theorem dEc_leastFor_12 : decode prog_4_method_3_code 12 = .ok (.iadd, 1) := by decide +kernel
theorem dEc_leastFor_13 : decode prog_4_method_3_code 13 = .ok (.ireturn, 1) := by decide +kernel
theorem dEc_leastFor_14 : decode prog_4_method_3_code 14 = .ok (.aload_n 0, 1) := by decide +kernel
theorem dEc_leastFor_15 : decode prog_4_method_3_code 15 = .ok (.getfield 11, 3) := by decide +kernel
theorem dEc_leastFor_18 : decode prog_4_method_3_code 18 = .ok (.iload_n 2, 1) := by decide +kernel
theorem dEc_leastFor_19 : decode prog_4_method_3_code 19 = .ok (.iconst 1, 1) := by decide +kernel
theorem dEc_leastFor_20 : decode prog_4_method_3_code 20 = .ok (.isub, 1) := by decide +kernel
theorem dEc_leastFor_21 : decode prog_4_method_3_code 21 = .ok (.aaload, 1) := by decide +kernel
theorem dEc_leastFor_22 : decode prog_4_method_3_code 22 = .ok (.iload 4, 2) := by decide +kernel
theorem dEc_leastFor_24 : decode prog_4_method_3_code 24 = .ok (.iconst 1, 1) := by decide +kernel
theorem dEc_leastFor_25 : decode prog_4_method_3_code 25 = .ok (.isub, 1) := by decide +kernel
theorem dEc_leastFor_26 : decode prog_4_method_3_code 26 = .ok (.iaload, 1) := by decide +kernel
theorem dEc_leastFor_27 : decode prog_4_method_3_code 27 = .ok (.aload_n 1, 1) := by decide +kernel
theorem dEc_leastFor_28 : decode prog_4_method_3_code 28 = .ok (.iload_n 2, 1) := by decide +kernel
theorem dEc_leastFor_29 : decode prog_4_method_3_code 29 = .ok (.iconst 1, 1) := by decide +kernel
theorem dEc_leastFor_30 : decode prog_4_method_3_code 30 = .ok (.isub, 1) := by decide +kernel
theorem dEc_leastFor_31 : decode prog_4_method_3_code 31 = .ok (.caload, 1) := by decide +kernel
theorem dEc_leastFor_32 : decode prog_4_method_3_code 32 = .ok (.aload_n 3, 1) := by decide +kernel
theorem dEc_leastFor_33 : decode prog_4_method_3_code 33 = .ok (.iload 4, 2) := by decide +kernel
theorem dEc_leastFor_35 : decode prog_4_method_3_code 35 = .ok (.iconst 1, 1) := by decide +kernel
theorem dEc_leastFor_36 : decode prog_4_method_3_code 36 = .ok (.isub, 1) := by decide +kernel
theorem dEc_leastFor_37 : decode prog_4_method_3_code 37 = .ok (.caload, 1) := by decide +kernel
theorem dEc_leastFor_38 : decode prog_4_method_3_code 38 = .ok (.if_icmp .ne 7, 3) := by decide +kernel
theorem dEc_leastFor_41 : decode prog_4_method_3_code 41 = .ok (.iconst 0, 1) := by decide +kernel
theorem dEc_leastFor_42 : decode prog_4_method_3_code 42 = .ok (.goto 4, 3) := by decide +kernel
theorem dEc_leastFor_45 : decode prog_4_method_3_code 45 = .ok (.iconst 1, 1) := by decide +kernel
theorem dEc_leastFor_46 : decode prog_4_method_3_code 46 = .ok (.iadd, 1) := by decide +kernel
theorem dEc_leastFor_47 : decode prog_4_method_3_code 47 = .ok (.istore 5, 2) := by decide +kernel
theorem dEc_leastFor_49 : decode prog_4_method_3_code 49 = .ok (.aload_n 0, 1) := by decide +kernel
theorem dEc_leastFor_50 : decode prog_4_method_3_code 50 = .ok (.getfield 11, 3) := by decide +kernel
theorem dEc_leastFor_53 : decode prog_4_method_3_code 53 = .ok (.iload_n 2, 1) := by decide +kernel
theorem dEc_leastFor_54 : decode prog_4_method_3_code 54 = .ok (.iconst 1, 1) := by decide +kernel
theorem dEc_leastFor_55 : decode prog_4_method_3_code 55 = .ok (.isub, 1) := by decide +kernel
theorem dEc_leastFor_56 : decode prog_4_method_3_code 56 = .ok (.aaload, 1) := by decide +kernel
theorem dEc_leastFor_57 : decode prog_4_method_3_code 57 = .ok (.iload 4, 2) := by decide +kernel
theorem dEc_leastFor_59 : decode prog_4_method_3_code 59 = .ok (.iaload, 1) := by decide +kernel
theorem dEc_leastFor_60 : decode prog_4_method_3_code 60 = .ok (.aload_n 0, 1) := by decide +kernel
theorem dEc_leastFor_61 : decode prog_4_method_3_code 61 = .ok (.getfield 11, 3) := by decide +kernel
theorem dEc_leastFor_64 : decode prog_4_method_3_code 64 = .ok (.iload_n 2, 1) := by decide +kernel
theorem dEc_leastFor_65 : decode prog_4_method_3_code 65 = .ok (.aaload, 1) := by decide +kernel
theorem dEc_leastFor_66 : decode prog_4_method_3_code 66 = .ok (.iload 4, 2) := by decide +kernel
theorem dEc_leastFor_68 : decode prog_4_method_3_code 68 = .ok (.iconst 1, 1) := by decide +kernel
theorem dEc_leastFor_69 : decode prog_4_method_3_code 69 = .ok (.isub, 1) := by decide +kernel
theorem dEc_leastFor_70 : decode prog_4_method_3_code 70 = .ok (.iaload, 1) := by decide +kernel
theorem dEc_leastFor_71 : decode prog_4_method_3_code 71 = .ok (.invokestatic 30, 3) := by decide +kernel
theorem dEc_leastFor_74 : decode prog_4_method_3_code 74 = .ok (.iconst 1, 1) := by decide +kernel
theorem dEc_leastFor_75 : decode prog_4_method_3_code 75 = .ok (.iadd, 1) := by decide +kernel
theorem dEc_leastFor_76 : decode prog_4_method_3_code 76 = .ok (.istore 6, 2) := by decide +kernel
theorem dEc_leastFor_78 : decode prog_4_method_3_code 78 = .ok (.iload 5, 2) := by decide +kernel
theorem dEc_leastFor_80 : decode prog_4_method_3_code 80 = .ok (.iload 6, 2) := by decide +kernel
theorem dEc_leastFor_82 : decode prog_4_method_3_code 82 = .ok (.invokestatic 30, 3) := by decide +kernel
theorem dEc_leastFor_85 : decode prog_4_method_3_code 85 = .ok (.istore 7, 2) := by decide +kernel
theorem dEc_leastFor_87 : decode prog_4_method_3_code 87 = .ok (.iload_n 2, 1) := by decide +kernel
theorem dEc_leastFor_88 : decode prog_4_method_3_code 88 = .ok (.iconst 1, 1) := by decide +kernel
theorem dEc_leastFor_89 : decode prog_4_method_3_code 89 = .ok (.if_icmp .le 41, 3) := by decide +kernel
theorem dEc_leastFor_92 : decode prog_4_method_3_code 92 = .ok (.iload 4, 2) := by decide +kernel
theorem dEc_leastFor_94 : decode prog_4_method_3_code 94 = .ok (.iconst 1, 1) := by decide +kernel
theorem dEc_leastFor_95 : decode prog_4_method_3_code 95 = .ok (.if_icmp .le 35, 3) := by decide +kernel
theorem dEc_leastFor_98 : decode prog_4_method_3_code 98 = .ok (.aload_n 1, 1) := by decide +kernel
theorem dEc_leastFor_99 : decode prog_4_method_3_code 99 = .ok (.iload_n 2, 1) := by decide +kernel
theorem dEc_leastFor_100 : decode prog_4_method_3_code 100 = .ok (.iconst 1, 1) := by decide +kernel
theorem dEc_leastFor_101 : decode prog_4_method_3_code 101 = .ok (.isub, 1) := by decide +kernel
theorem dEc_leastFor_102 : decode prog_4_method_3_code 102 = .ok (.caload, 1) := by decide +kernel
theorem dEc_leastFor_103 : decode prog_4_method_3_code 103 = .ok (.aload_n 3, 1) := by decide +kernel
theorem dEc_leastFor_104 : decode prog_4_method_3_code 104 = .ok (.iload 4, 2) := by decide +kernel
theorem dEc_leastFor_106 : decode prog_4_method_3_code 106 = .ok (.iconst 2, 1) := by decide +kernel
theorem dEc_leastFor_107 : decode prog_4_method_3_code 107 = .ok (.isub, 1) := by decide +kernel
theorem dEc_leastFor_108 : decode prog_4_method_3_code 108 = .ok (.caload, 1) := by decide +kernel
theorem dEc_leastFor_109 : decode prog_4_method_3_code 109 = .ok (.if_icmp .ne 21, 3) := by decide +kernel
theorem dEc_leastFor_112 : decode prog_4_method_3_code 112 = .ok (.aload_n 1, 1) := by decide +kernel
theorem dEc_leastFor_113 : decode prog_4_method_3_code 113 = .ok (.iload_n 2, 1) := by decide +kernel
theorem dEc_leastFor_114 : decode prog_4_method_3_code 114 = .ok (.iconst 2, 1) := by decide +kernel
theorem dEc_leastFor_115 : decode prog_4_method_3_code 115 = .ok (.isub, 1) := by decide +kernel
theorem dEc_leastFor_116 : decode prog_4_method_3_code 116 = .ok (.caload, 1) := by decide +kernel
theorem dEc_leastFor_117 : decode prog_4_method_3_code 117 = .ok (.aload_n 3, 1) := by decide +kernel
theorem dEc_leastFor_118 : decode prog_4_method_3_code 118 = .ok (.iload 4, 2) := by decide +kernel
theorem dEc_leastFor_120 : decode prog_4_method_3_code 120 = .ok (.iconst 1, 1) := by decide +kernel
theorem dEc_leastFor_121 : decode prog_4_method_3_code 121 = .ok (.isub, 1) := by decide +kernel
theorem dEc_leastFor_122 : decode prog_4_method_3_code 122 = .ok (.caload, 1) := by decide +kernel
theorem dEc_leastFor_123 : decode prog_4_method_3_code 123 = .ok (.if_icmp .ne 7, 3) := by decide +kernel
theorem dEc_leastFor_126 : decode prog_4_method_3_code 126 = .ok (.iconst 1, 1) := by decide +kernel
theorem dEc_leastFor_127 : decode prog_4_method_3_code 127 = .ok (.goto 4, 3) := by decide +kernel
theorem dEc_leastFor_130 : decode prog_4_method_3_code 130 = .ok (.iconst 0, 1) := by decide +kernel
theorem dEc_leastFor_131 : decode prog_4_method_3_code 131 = .ok (.istore 8, 2) := by decide +kernel
theorem dEc_leastFor_133 : decode prog_4_method_3_code 133 = .ok (.iload 8, 2) := by decide +kernel
theorem dEc_leastFor_135 : decode prog_4_method_3_code 135 = .ok (.ifCond .eq 26, 3) := by decide +kernel
theorem dEc_leastFor_138 : decode prog_4_method_3_code 138 = .ok (.iload 7, 2) := by decide +kernel
theorem dEc_leastFor_140 : decode prog_4_method_3_code 140 = .ok (.aload_n 0, 1) := by decide +kernel
theorem dEc_leastFor_141 : decode prog_4_method_3_code 141 = .ok (.getfield 11, 3) := by decide +kernel
theorem dEc_leastFor_144 : decode prog_4_method_3_code 144 = .ok (.iload_n 2, 1) := by decide +kernel
theorem dEc_leastFor_145 : decode prog_4_method_3_code 145 = .ok (.iconst 2, 1) := by decide +kernel
theorem dEc_leastFor_146 : decode prog_4_method_3_code 146 = .ok (.isub, 1) := by decide +kernel
theorem dEc_leastFor_147 : decode prog_4_method_3_code 147 = .ok (.aaload, 1) := by decide +kernel
theorem dEc_leastFor_148 : decode prog_4_method_3_code 148 = .ok (.iload 4, 2) := by decide +kernel
theorem dEc_leastFor_150 : decode prog_4_method_3_code 150 = .ok (.iconst 2, 1) := by decide +kernel
theorem dEc_leastFor_151 : decode prog_4_method_3_code 151 = .ok (.isub, 1) := by decide +kernel
theorem dEc_leastFor_152 : decode prog_4_method_3_code 152 = .ok (.iaload, 1) := by decide +kernel
theorem dEc_leastFor_153 : decode prog_4_method_3_code 153 = .ok (.iconst 1, 1) := by decide +kernel
theorem dEc_leastFor_154 : decode prog_4_method_3_code 154 = .ok (.iadd, 1) := by decide +kernel
theorem dEc_leastFor_155 : decode prog_4_method_3_code 155 = .ok (.invokestatic 30, 3) := by decide +kernel
theorem dEc_leastFor_158 : decode prog_4_method_3_code 158 = .ok (.goto 5, 3) := by decide +kernel
theorem dEc_leastFor_161 : decode prog_4_method_3_code 161 = .ok (.iload 7, 2) := by decide +kernel
theorem dEc_leastFor_163 : decode prog_4_method_3_code 163 = .ok (.ireturn, 1) := by decide +kernel
theorem dEc_count_0 : decode prog_4_method_2_code 0 = .ok (.iconst 0, 1) := by decide +kernel
theorem dEc_count_1 : decode prog_4_method_2_code 1 = .ok (.istore_n 3, 1) := by decide +kernel
theorem dEc_count_2 : decode prog_4_method_2_code 2 = .ok (.iload_n 3, 1) := by decide +kernel
theorem dEc_count_3 : decode prog_4_method_2_code 3 = .ok (.aload_n 1, 1) := by decide +kernel
theorem dEc_count_4 : decode prog_4_method_2_code 4 = .ok (.getfield 16, 3) := by decide +kernel
theorem dEc_count_7 : decode prog_4_method_2_code 7 = .ok (.if_icmp .gt 51, 3) := by decide +kernel
theorem dEc_count_10 : decode prog_4_method_2_code 10 = .ok (.iconst 0, 1) := by decide +kernel
theorem dEc_count_11 : decode prog_4_method_2_code 11 = .ok (.istore 4, 2) := by decide +kernel
theorem dEc_count_13 : decode prog_4_method_2_code 13 = .ok (.iload 4, 2) := by decide +kernel
theorem dEc_count_15 : decode prog_4_method_2_code 15 = .ok (.aload_n 2, 1) := by decide +kernel
theorem dEc_count_16 : decode prog_4_method_2_code 16 = .ok (.getfield 16, 3) := by decide +kernel
theorem dEc_count_19 : decode prog_4_method_2_code 19 = .ok (.if_icmp .gt 33, 3) := by decide +kernel
theorem dEc_count_22 : decode prog_4_method_2_code 22 = .ok (.aload_n 0, 1) := by decide +kernel
theorem dEc_count_23 : decode prog_4_method_2_code 23 = .ok (.getfield 11, 3) := by decide +kernel
theorem dEc_count_26 : decode prog_4_method_2_code 26 = .ok (.iload_n 3, 1) := by decide +kernel
theorem dEc_count_27 : decode prog_4_method_2_code 27 = .ok (.aaload, 1) := by decide +kernel
theorem dEc_count_28 : decode prog_4_method_2_code 28 = .ok (.iload 4, 2) := by decide +kernel
theorem dEc_count_30 : decode prog_4_method_2_code 30 = .ok (.aload_n 0, 1) := by decide +kernel
theorem dEc_count_31 : decode prog_4_method_2_code 31 = .ok (.aload_n 1, 1) := by decide +kernel
theorem dEc_count_32 : decode prog_4_method_2_code 32 = .ok (.getfield 22, 3) := by decide +kernel
theorem dEc_count_35 : decode prog_4_method_2_code 35 = .ok (.iload_n 3, 1) := by decide +kernel
theorem dEc_count_36 : decode prog_4_method_2_code 36 = .ok (.aload_n 2, 1) := by decide +kernel
theorem dEc_count_37 : decode prog_4_method_2_code 37 = .ok (.getfield 22, 3) := by decide +kernel
theorem dEc_count_40 : decode prog_4_method_2_code 40 = .ok (.iload 4, 2) := by decide +kernel
theorem dEc_count_42 : decode prog_4_method_2_code 42 = .ok (.invokevirtual 26, 3) := by decide +kernel
theorem dEc_count_45 : decode prog_4_method_2_code 45 = .ok (.iastore, 1) := by decide +kernel
theorem dEc_count_46 : decode prog_4_method_2_code 46 = .ok (.iinc 4 1, 3) := by decide +kernel
theorem dEc_count_49 : decode prog_4_method_2_code 49 = .ok (.goto (-36), 3) := by decide +kernel
theorem dEc_count_52 : decode prog_4_method_2_code 52 = .ok (.iinc 3 1, 3) := by decide +kernel
theorem dEc_count_55 : decode prog_4_method_2_code 55 = .ok (.goto (-53), 3) := by decide +kernel
theorem dEc_count_58 : decode prog_4_method_2_code 58 = .ok (.aload_n 0, 1) := by decide +kernel
theorem dEc_count_59 : decode prog_4_method_2_code 59 = .ok (.getfield 11, 3) := by decide +kernel
theorem dEc_count_62 : decode prog_4_method_2_code 62 = .ok (.aload_n 1, 1) := by decide +kernel
theorem dEc_count_63 : decode prog_4_method_2_code 63 = .ok (.getfield 16, 3) := by decide +kernel
theorem dEc_count_66 : decode prog_4_method_2_code 66 = .ok (.aaload, 1) := by decide +kernel
theorem dEc_count_67 : decode prog_4_method_2_code 67 = .ok (.aload_n 2, 1) := by decide +kernel
theorem dEc_count_68 : decode prog_4_method_2_code 68 = .ok (.getfield 16, 3) := by decide +kernel
theorem dEc_count_71 : decode prog_4_method_2_code 71 = .ok (.iaload, 1) := by decide +kernel
theorem dEc_count_72 : decode prog_4_method_2_code 72 = .ok (.ireturn, 1) := by decide +kernel
theorem dSv_length_0 : decode prog_27_method_6_code 0 = .ok (.aload_n 0, 1) := by decide +kernel
theorem dSv_length_1 : decode prog_27_method_6_code 1 = .ok (.arraylength, 1) := by decide +kernel
theorem dSv_length_2 : decode prog_27_method_6_code 2 = .ok (.iconst 1, 1) := by decide +kernel
theorem dSv_length_3 : decode prog_27_method_6_code 3 = .ok (.ishr, 1) := by decide +kernel
theorem dSv_length_4 : decode prog_27_method_6_code 4 = .ok (.ireturn, 1) := by decide +kernel
theorem dMa_min2_0 : decode prog_23_method_70_code 0 = .ok (.lload_n 0, 1) := by decide +kernel
theorem dMa_min2_1 : decode prog_23_method_70_code 1 = .ok (.lload_n 2, 1) := by decide +kernel
theorem dMa_min2_2 : decode prog_23_method_70_code 2 = .ok (.lcmp, 1) := by decide +kernel
theorem dMa_min2_3 : decode prog_23_method_70_code 3 = .ok (.ifCond .gt 7, 3) := by decide +kernel
theorem dMa_min2_6 : decode prog_23_method_70_code 6 = .ok (.lload_n 0, 1) := by decide +kernel
theorem dMa_min2_7 : decode prog_23_method_70_code 7 = .ok (.goto 4, 3) := by decide +kernel
theorem dMa_min2_10 : decode prog_23_method_70_code 10 = .ok (.lload_n 2, 1) := by decide +kernel
theorem dMa_min2_11 : decode prog_23_method_70_code 11 = .ok (.lreturn, 1) := by decide +kernel
theorem dPl_squareTo_0 : decode prog_8_method_7_code 0 = .ok (.aload_n 0, 1) := by decide +kernel
theorem dPl_squareTo_1 : decode prog_8_method_7_code 1 = .ok (.iload_n 3, 1) := by decide +kernel
theorem dPl_squareTo_2 : decode prog_8_method_7_code 2 = .ok (.invokevirtual 52, 3) := by decide +kernel
theorem dPl_squareTo_5 : decode prog_8_method_7_code 5 = .ok (.astore 4, 2) := by decide +kernel
theorem dPl_squareTo_7 : decode prog_8_method_7_code 7 = .ok (.aload 4, 2) := by decide +kernel
theorem dPl_squareTo_9 : decode prog_8_method_7_code 9 = .ok (.ifnonnull 8, 3) := by decide +kernel
theorem dPl_squareTo_12 : decode prog_8_method_7_code 12 = .ok (.ldc 60, 2) := by decide +kernel
theorem dPl_squareTo_14 : decode prog_8_method_7_code 14 = .ok (.goto 10, 3) := by decide +kernel
theorem dPl_squareTo_17 : decode prog_8_method_7_code 17 = .ok (.aload 4, 2) := by decide +kernel
theorem dPl_squareTo_19 : decode prog_8_method_7_code 19 = .ok (.iload_n 1, 1) := by decide +kernel
theorem dPl_squareTo_20 : decode prog_8_method_7_code 20 = .ok (.iload_n 2, 1) := by decide +kernel
theorem dPl_squareTo_21 : decode prog_8_method_7_code 21 = .ok (.invokevirtual 61, 3) := by decide +kernel
theorem dPl_squareTo_24 : decode prog_8_method_7_code 24 = .ok (.ireturn, 1) := by decide +kernel
theorem dRs_positionKey_0 : decode prog_9_method_6_code 0 = .ok (.aload_n 0, 1) := by decide +kernel
theorem dRs_positionKey_1 : decode prog_9_method_6_code 1 = .ok (.getfield 7, 3) := by decide +kernel
theorem dRs_positionKey_4 : decode prog_9_method_6_code 4 = .ok (.ifCond .eq 20, 3) := by decide +kernel
theorem dRs_positionKey_7 : decode prog_9_method_6_code 7 = .ok (.aload_n 0, 1) := by decide +kernel
theorem dRs_positionKey_8 : decode prog_9_method_6_code 8 = .ok (.getfield 54, 3) := by decide +kernel
theorem dRs_positionKey_11 : decode prog_9_method_6_code 11 = .ok (.i2l, 1) := by decide +kernel
theorem dRs_positionKey_12 : decode prog_9_method_6_code 12 = .ok (.bipush 32, 2) := by decide +kernel
theorem dRs_positionKey_14 : decode prog_9_method_6_code 14 = .ok (.lshl, 1) := by decide +kernel
theorem dRs_positionKey_15 : decode prog_9_method_6_code 15 = .ok (.aload_n 0, 1) := by decide +kernel
theorem dRs_positionKey_16 : decode prog_9_method_6_code 16 = .ok (.getfield 57, 3) := by decide +kernel
theorem dRs_positionKey_19 : decode prog_9_method_6_code 19 = .ok (.i2l, 1) := by decide +kernel
theorem dRs_positionKey_20 : decode prog_9_method_6_code 20 = .ok (.ladd, 1) := by decide +kernel
theorem dRs_positionKey_21 : decode prog_9_method_6_code 21 = .ok (.goto 4, 3) := by decide +kernel
theorem dRs_positionKey_24 : decode prog_9_method_6_code 24 = .ok (.lconst 0, 1) := by decide +kernel
theorem dRs_positionKey_25 : decode prog_9_method_6_code 25 = .ok (.lreturn, 1) := by decide +kernel
theorem dP_routeKey_0 : decode prog_1_method_40_code 0 = .ok (.aload_n 1, 1) := by decide +kernel
theorem dP_routeKey_1 : decode prog_1_method_40_code 1 = .ok (.ifnonnull 5, 3) := by decide +kernel
theorem dP_routeKey_4 : decode prog_1_method_40_code 4 = .ok (.lconst 0, 1) := by decide +kernel
theorem dP_routeKey_5 : decode prog_1_method_40_code 5 = .ok (.lreturn, 1) := by decide +kernel
theorem dP_routeKey_6 : decode prog_1_method_40_code 6 = .ok (.aload_n 0, 1) := by decide +kernel
theorem dP_routeKey_7 : decode prog_1_method_40_code 7 = .ok (.getfield 69, 3) := by decide +kernel
theorem dP_routeKey_10 : decode prog_1_method_40_code 10 = .ok (.aload_n 0, 1) := by decide +kernel
theorem dP_routeKey_11 : decode prog_1_method_40_code 11 = .ok (.getfield 32, 3) := by decide +kernel
theorem dP_routeKey_14 : decode prog_1_method_40_code 14 = .ok (.aload_n 1, 1) := by decide +kernel
theorem dP_routeKey_15 : decode prog_1_method_40_code 15 = .ok (.invokevirtual 372, 3) := by decide +kernel
theorem dP_routeKey_18 : decode prog_1_method_40_code 18 = .ok (.aload_n 0, 1) := by decide +kernel
theorem dP_routeKey_19 : decode prog_1_method_40_code 19 = .ok (.getfield 69, 3) := by decide +kernel
theorem dP_routeKey_22 : decode prog_1_method_40_code 22 = .ok (.invokevirtual 412, 3) := by decide +kernel
theorem dP_routeKey_25 : decode prog_1_method_40_code 25 = .ok (.lreturn, 1) := by decide +kernel
theorem dHi_add_0 : decode prog_5_method_3_code 0 = .ok (.aload_n 0, 1) := by decide +kernel
theorem dHi_add_1 : decode prog_5_method_3_code 1 = .ok (.getfield 19, 3) := by decide +kernel
theorem dHi_add_4 : decode prog_5_method_3_code 4 = .ok (.bipush 30, 2) := by decide +kernel
theorem dHi_add_6 : decode prog_5_method_3_code 6 = .ok (.if_icmp .lt 4, 3) := by decide +kernel
theorem dHi_add_9 : decode prog_5_method_3_code 9 = .ok (.return_, 1) := by decide +kernel
theorem dHi_add_10 : decode prog_5_method_3_code 10 = .ok (.aload_n 0, 1) := by decide +kernel
theorem dHi_add_11 : decode prog_5_method_3_code 11 = .ok (.getfield 19, 3) := by decide +kernel
theorem dHi_add_14 : decode prog_5_method_3_code 14 = .ok (.istore 4, 2) := by decide +kernel
theorem dHi_add_16 : decode prog_5_method_3_code 16 = .ok (.iload 4, 2) := by decide +kernel
theorem dHi_add_18 : decode prog_5_method_3_code 18 = .ok (.ifCond .le 55, 3) := by decide +kernel
theorem dHi_add_21 : decode prog_5_method_3_code 21 = .ok (.aload_n 0, 1) := by decide +kernel
theorem dHi_add_22 : decode prog_5_method_3_code 22 = .ok (.getfield 15, 3) := by decide +kernel
theorem dHi_add_25 : decode prog_5_method_3_code 25 = .ok (.iload 4, 2) := by decide +kernel
theorem dHi_add_27 : decode prog_5_method_3_code 27 = .ok (.iconst 1, 1) := by decide +kernel
theorem dHi_add_28 : decode prog_5_method_3_code 28 = .ok (.isub, 1) := by decide +kernel
theorem dHi_add_29 : decode prog_5_method_3_code 29 = .ok (.laload, 1) := by decide +kernel
theorem dHi_add_30 : decode prog_5_method_3_code 30 = .ok (.lload_n 2, 1) := by decide +kernel
theorem dHi_add_31 : decode prog_5_method_3_code 31 = .ok (.lcmp, 1) := by decide +kernel
theorem dHi_add_32 : decode prog_5_method_3_code 32 = .ok (.ifCond .le 41, 3) := by decide +kernel
theorem dHi_add_35 : decode prog_5_method_3_code 35 = .ok (.aload_n 0, 1) := by decide +kernel
theorem dHi_add_36 : decode prog_5_method_3_code 36 = .ok (.getfield 15, 3) := by decide +kernel
theorem dHi_add_39 : decode prog_5_method_3_code 39 = .ok (.iload 4, 2) := by decide +kernel
theorem dHi_add_41 : decode prog_5_method_3_code 41 = .ok (.aload_n 0, 1) := by decide +kernel
theorem dHi_add_42 : decode prog_5_method_3_code 42 = .ok (.getfield 15, 3) := by decide +kernel
theorem dHi_add_45 : decode prog_5_method_3_code 45 = .ok (.iload 4, 2) := by decide +kernel
theorem dHi_add_47 : decode prog_5_method_3_code 47 = .ok (.iconst 1, 1) := by decide +kernel
theorem dHi_add_48 : decode prog_5_method_3_code 48 = .ok (.isub, 1) := by decide +kernel
theorem dHi_add_49 : decode prog_5_method_3_code 49 = .ok (.laload, 1) := by decide +kernel
theorem dHi_add_50 : decode prog_5_method_3_code 50 = .ok (.lastore, 1) := by decide +kernel
theorem dHi_add_51 : decode prog_5_method_3_code 51 = .ok (.aload_n 0, 1) := by decide +kernel
theorem dHi_add_52 : decode prog_5_method_3_code 52 = .ok (.getfield 9, 3) := by decide +kernel
theorem dHi_add_55 : decode prog_5_method_3_code 55 = .ok (.iload 4, 2) := by decide +kernel
theorem dHi_add_57 : decode prog_5_method_3_code 57 = .ok (.aload_n 0, 1) := by decide +kernel
theorem dHi_add_58 : decode prog_5_method_3_code 58 = .ok (.getfield 9, 3) := by decide +kernel
theorem dHi_add_61 : decode prog_5_method_3_code 61 = .ok (.iload 4, 2) := by decide +kernel
theorem dHi_add_63 : decode prog_5_method_3_code 63 = .ok (.iconst 1, 1) := by decide +kernel
theorem dHi_add_64 : decode prog_5_method_3_code 64 = .ok (.isub, 1) := by decide +kernel
theorem dHi_add_65 : decode prog_5_method_3_code 65 = .ok (.iaload, 1) := by decide +kernel
theorem dHi_add_66 : decode prog_5_method_3_code 66 = .ok (.iastore, 1) := by decide +kernel
theorem dHi_add_67 : decode prog_5_method_3_code 67 = .ok (.iinc 4 (-1), 3) := by decide +kernel
theorem dHi_add_70 : decode prog_5_method_3_code 70 = .ok (.goto (-54), 3) := by decide +kernel
theorem dHi_add_73 : decode prog_5_method_3_code 73 = .ok (.aload_n 0, 1) := by decide +kernel
theorem dHi_add_74 : decode prog_5_method_3_code 74 = .ok (.getfield 15, 3) := by decide +kernel
theorem dHi_add_77 : decode prog_5_method_3_code 77 = .ok (.iload 4, 2) := by decide +kernel
theorem dHi_add_79 : decode prog_5_method_3_code 79 = .ok (.lload_n 2, 1) := by decide +kernel
theorem dHi_add_80 : decode prog_5_method_3_code 80 = .ok (.lastore, 1) := by decide +kernel
theorem dHi_add_81 : decode prog_5_method_3_code 81 = .ok (.aload_n 0, 1) := by decide +kernel
theorem dHi_add_82 : decode prog_5_method_3_code 82 = .ok (.getfield 9, 3) := by decide +kernel
theorem dHi_add_85 : decode prog_5_method_3_code 85 = .ok (.iload 4, 2) := by decide +kernel
theorem dHi_add_87 : decode prog_5_method_3_code 87 = .ok (.iload_n 1, 1) := by decide +kernel
theorem dHi_add_88 : decode prog_5_method_3_code 88 = .ok (.iastore, 1) := by decide +kernel
theorem dHi_add_89 : decode prog_5_method_3_code 89 = .ok (.aload_n 0, 1) := by decide +kernel
theorem dHi_add_90 : decode prog_5_method_3_code 90 = .ok (.dup, 1) := by decide +kernel
theorem dHi_add_91 : decode prog_5_method_3_code 91 = .ok (.getfield 19, 3) := by decide +kernel
theorem dHi_add_94 : decode prog_5_method_3_code 94 = .ok (.iconst 1, 1) := by decide +kernel
theorem dHi_add_95 : decode prog_5_method_3_code 95 = .ok (.iadd, 1) := by decide +kernel
theorem dHi_add_96 : decode prog_5_method_3_code 96 = .ok (.putfield 19, 3) := by decide +kernel
theorem dHi_add_99 : decode prog_5_method_3_code 99 = .ok (.return_, 1) := by decide +kernel
theorem dPl_isThere_0 : decode prog_8_method_6_code 0 = .ok (.aload_n 0, 1) := by decide +kernel
theorem dPl_isThere_1 : decode prog_8_method_6_code 1 = .ok (.iload_n 1, 1) := by decide +kernel
theorem dPl_isThere_2 : decode prog_8_method_6_code 2 = .ok (.invokevirtual 52, 3) := by decide +kernel
theorem dPl_isThere_5 : decode prog_8_method_6_code 5 = .ok (.ifnull 15, 3) := by decide +kernel
theorem dPl_isThere_8 : decode prog_8_method_6_code 8 = .ok (.aload_n 0, 1) := by decide +kernel
theorem dPl_isThere_9 : decode prog_8_method_6_code 9 = .ok (.iload_n 1, 1) := by decide +kernel
theorem dPl_isThere_10 : decode prog_8_method_6_code 10 = .ok (.invokevirtual 56, 3) := by decide +kernel
theorem dPl_isThere_13 : decode prog_8_method_6_code 13 = .ok (.ifCond .ne 7, 3) := by decide +kernel
theorem dPl_isThere_16 : decode prog_8_method_6_code 16 = .ok (.iconst 1, 1) := by decide +kernel
theorem dPl_isThere_17 : decode prog_8_method_6_code 17 = .ok (.goto 4, 3) := by decide +kernel
theorem dPl_isThere_20 : decode prog_8_method_6_code 20 = .ok (.iconst 0, 1) := by decide +kernel
theorem dPl_isThere_21 : decode prog_8_method_6_code 21 = .ok (.ireturn, 1) := by decide +kernel
theorem dHi_keepFirst_0 : decode prog_5_method_4_code 0 = .ok (.aload_n 0, 1) := by decide +kernel
theorem dHi_keepFirst_1 : decode prog_5_method_4_code 1 = .ok (.aload_n 0, 1) := by decide +kernel
theorem dHi_keepFirst_2 : decode prog_5_method_4_code 2 = .ok (.getfield 19, 3) := by decide +kernel
theorem dHi_keepFirst_5 : decode prog_5_method_4_code 5 = .ok (.iload_n 1, 1) := by decide +kernel
theorem dHi_keepFirst_6 : decode prog_5_method_4_code 6 = .ok (.invokestatic 23, 3) := by decide +kernel
theorem dHi_keepFirst_9 : decode prog_5_method_4_code 9 = .ok (.putfield 19, 3) := by decide +kernel
theorem dHi_keepFirst_12 : decode prog_5_method_4_code 12 = .ok (.return_, 1) := by decide +kernel
theorem dP_watchOf_0 : decode prog_1_method_29_code 0 = .ok (.iload_n 1, 1) := by decide +kernel
theorem dP_watchOf_1 : decode prog_1_method_29_code 1 = .ok (.ifCond .lt 17, 3) := by decide +kernel
theorem dP_watchOf_4 : decode prog_1_method_29_code 4 = .ok (.iload_n 1, 1) := by decide +kernel
theorem dP_watchOf_5 : decode prog_1_method_29_code 5 = .ok (.iconst 4, 1) := by decide +kernel
theorem dP_watchOf_6 : decode prog_1_method_29_code 6 = .ok (.if_icmp .ge 12, 3) := by decide +kernel
theorem dP_watchOf_9 : decode prog_1_method_29_code 9 = .ok (.aload_n 0, 1) := by decide +kernel
theorem dP_watchOf_10 : decode prog_1_method_29_code 10 = .ok (.getfield 48, 3) := by decide +kernel
theorem dP_watchOf_13 : decode prog_1_method_29_code 13 = .ok (.iload_n 1, 1) := by decide +kernel
theorem dP_watchOf_14 : decode prog_1_method_29_code 14 = .ok (.aaload, 1) := by decide +kernel
theorem dP_watchOf_15 : decode prog_1_method_29_code 15 = .ok (.goto 4, 3) := by decide +kernel
theorem dP_watchOf_18 : decode prog_1_method_29_code 18 = .ok (.aconst_null, 1) := by decide +kernel
theorem dP_watchOf_19 : decode prog_1_method_29_code 19 = .ok (.areturn, 1) := by decide +kernel
theorem dWa_hasTold_0 : decode prog_10_method_2_code 0 = .ok (.aload_n 0, 1) := by decide +kernel
theorem dWa_hasTold_1 : decode prog_10_method_2_code 1 = .ok (.getfield 16, 3) := by decide +kernel
theorem dWa_hasTold_4 : decode prog_10_method_2_code 4 = .ok (.iconst 1, 1) := by decide +kernel
theorem dWa_hasTold_5 : decode prog_10_method_2_code 5 = .ok (.iload_n 1, 1) := by decide +kernel
theorem dWa_hasTold_6 : decode prog_10_method_2_code 6 = .ok (.ishl, 1) := by decide +kernel
theorem dWa_hasTold_7 : decode prog_10_method_2_code 7 = .ok (.iand, 1) := by decide +kernel
theorem dWa_hasTold_8 : decode prog_10_method_2_code 8 = .ok (.ifCond .eq 7, 3) := by decide +kernel
theorem dWa_hasTold_11 : decode prog_10_method_2_code 11 = .ok (.iconst 1, 1) := by decide +kernel
theorem dWa_hasTold_12 : decode prog_10_method_2_code 12 = .ok (.goto 4, 3) := by decide +kernel
theorem dWa_hasTold_15 : decode prog_10_method_2_code 15 = .ok (.iconst 0, 1) := by decide +kernel
theorem dWa_hasTold_16 : decode prog_10_method_2_code 16 = .ok (.ireturn, 1) := by decide +kernel
theorem dIn_bitCount_0 : decode prog_20_method_49_code 0 = .ok (.iload_n 0, 1) := by decide +kernel
theorem dIn_bitCount_1 : decode prog_20_method_49_code 1 = .ok (.iload_n 0, 1) := by decide +kernel
theorem dIn_bitCount_2 : decode prog_20_method_49_code 2 = .ok (.iconst 1, 1) := by decide +kernel
theorem dIn_bitCount_3 : decode prog_20_method_49_code 3 = .ok (.iushr, 1) := by decide +kernel
theorem dIn_bitCount_4 : decode prog_20_method_49_code 4 = .ok (.ldc_w 265, 3) := by decide +kernel
theorem dIn_bitCount_7 : decode prog_20_method_49_code 7 = .ok (.iand, 1) := by decide +kernel
theorem dIn_bitCount_8 : decode prog_20_method_49_code 8 = .ok (.isub, 1) := by decide +kernel
theorem dIn_bitCount_9 : decode prog_20_method_49_code 9 = .ok (.istore_n 0, 1) := by decide +kernel
theorem dIn_bitCount_10 : decode prog_20_method_49_code 10 = .ok (.iload_n 0, 1) := by decide +kernel
theorem dIn_bitCount_11 : decode prog_20_method_49_code 11 = .ok (.ldc_w 266, 3) := by decide +kernel
theorem dIn_bitCount_14 : decode prog_20_method_49_code 14 = .ok (.iand, 1) := by decide +kernel
theorem dIn_bitCount_15 : decode prog_20_method_49_code 15 = .ok (.iload_n 0, 1) := by decide +kernel
theorem dIn_bitCount_16 : decode prog_20_method_49_code 16 = .ok (.iconst 2, 1) := by decide +kernel
theorem dIn_bitCount_17 : decode prog_20_method_49_code 17 = .ok (.iushr, 1) := by decide +kernel
theorem dIn_bitCount_18 : decode prog_20_method_49_code 18 = .ok (.ldc_w 266, 3) := by decide +kernel
theorem dIn_bitCount_21 : decode prog_20_method_49_code 21 = .ok (.iand, 1) := by decide +kernel
theorem dIn_bitCount_22 : decode prog_20_method_49_code 22 = .ok (.iadd, 1) := by decide +kernel
theorem dIn_bitCount_23 : decode prog_20_method_49_code 23 = .ok (.istore_n 0, 1) := by decide +kernel
theorem dIn_bitCount_24 : decode prog_20_method_49_code 24 = .ok (.iload_n 0, 1) := by decide +kernel
theorem dIn_bitCount_25 : decode prog_20_method_49_code 25 = .ok (.iload_n 0, 1) := by decide +kernel
theorem dIn_bitCount_26 : decode prog_20_method_49_code 26 = .ok (.iconst 4, 1) := by decide +kernel
theorem dIn_bitCount_27 : decode prog_20_method_49_code 27 = .ok (.iushr, 1) := by decide +kernel
theorem dIn_bitCount_28 : decode prog_20_method_49_code 28 = .ok (.iadd, 1) := by decide +kernel
theorem dIn_bitCount_29 : decode prog_20_method_49_code 29 = .ok (.ldc_w 267, 3) := by decide +kernel
theorem dIn_bitCount_32 : decode prog_20_method_49_code 32 = .ok (.iand, 1) := by decide +kernel
theorem dIn_bitCount_33 : decode prog_20_method_49_code 33 = .ok (.istore_n 0, 1) := by decide +kernel
theorem dIn_bitCount_34 : decode prog_20_method_49_code 34 = .ok (.iload_n 0, 1) := by decide +kernel
theorem dIn_bitCount_35 : decode prog_20_method_49_code 35 = .ok (.iload_n 0, 1) := by decide +kernel
theorem dIn_bitCount_36 : decode prog_20_method_49_code 36 = .ok (.bipush 8, 2) := by decide +kernel
theorem dIn_bitCount_38 : decode prog_20_method_49_code 38 = .ok (.iushr, 1) := by decide +kernel
theorem dIn_bitCount_39 : decode prog_20_method_49_code 39 = .ok (.iadd, 1) := by decide +kernel
theorem dIn_bitCount_40 : decode prog_20_method_49_code 40 = .ok (.istore_n 0, 1) := by decide +kernel
theorem dIn_bitCount_41 : decode prog_20_method_49_code 41 = .ok (.iload_n 0, 1) := by decide +kernel
theorem dIn_bitCount_42 : decode prog_20_method_49_code 42 = .ok (.iload_n 0, 1) := by decide +kernel
theorem dIn_bitCount_43 : decode prog_20_method_49_code 43 = .ok (.bipush 16, 2) := by decide +kernel
theorem dIn_bitCount_45 : decode prog_20_method_49_code 45 = .ok (.iushr, 1) := by decide +kernel
theorem dIn_bitCount_46 : decode prog_20_method_49_code 46 = .ok (.iadd, 1) := by decide +kernel
theorem dIn_bitCount_47 : decode prog_20_method_49_code 47 = .ok (.istore_n 0, 1) := by decide +kernel
theorem dIn_bitCount_48 : decode prog_20_method_49_code 48 = .ok (.iload_n 0, 1) := by decide +kernel
theorem dIn_bitCount_49 : decode prog_20_method_49_code 49 = .ok (.bipush 63, 2) := by decide +kernel
theorem dIn_bitCount_51 : decode prog_20_method_49_code 51 = .ok (.iand, 1) := by decide +kernel
theorem dIn_bitCount_52 : decode prog_20_method_49_code 52 = .ok (.ireturn, 1) := by decide +kernel
