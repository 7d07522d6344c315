theorem dRs_takeIfBetter_80 : decode prog_9_method_4_code 80 = .ok (.aload_n 0, 1) := by decide +kernel
theorem dRs_takeIfBetter_81 : decode prog_9_method_4_code 81 = .ok (.iload_n 1, 1) := by decide +kernel
theorem dRs_takeIfBetter_82 : decode prog_9_method_4_code 82 = .ok (.putfield 54, 3) := by decide +kernel
theorem dRs_takeIfBetter_85 : decode prog_9_method_4_code 85 = .ok (.aload_n 0, 1) := by decide +kernel
theorem dRs_takeIfBetter_86 : decode prog_9_method_4_code 86 = .ok (.iload_n 2, 1) := by decide +kernel
theorem dRs_takeIfBetter_87 : decode prog_9_method_4_code 87 = .ok (.putfield 57, 3) := by decide +kernel
theorem dRs_takeIfBetter_90 : decode prog_9_method_4_code 90 = .ok (.aload_n 0, 1) := by decide +kernel
theorem dRs_takeIfBetter_91 : decode prog_9_method_4_code 91 = .ok (.lload_n 3, 1) := by decide +kernel
theorem dRs_takeIfBetter_92 : decode prog_9_method_4_code 92 = .ok (.putfield 38, 3) := by decide +kernel
theorem dRs_takeIfBetter_95 : decode prog_9_method_4_code 95 = .ok (.aload_n 0, 1) := by decide +kernel
theorem dRs_takeIfBetter_96 : decode prog_9_method_4_code 96 = .ok (.lload 5, 2) := by decide +kernel
theorem dRs_takeIfBetter_98 : decode prog_9_method_4_code 98 = .ok (.putfield 51, 3) := by decide +kernel
theorem dRs_takeIfBetter_101 : decode prog_9_method_4_code 101 = .ok (.aload_n 0, 1) := by decide +kernel
theorem dRs_takeIfBetter_102 : decode prog_9_method_4_code 102 = .ok (.lload 7, 2) := by decide +kernel
theorem dRs_takeIfBetter_104 : decode prog_9_method_4_code 104 = .ok (.putfield 48, 3) := by decide +kernel
theorem dRs_takeIfBetter_107 : decode prog_9_method_4_code 107 = .ok (.return_, 1) := by decide +kernel
theorem dRs_measure_0 : decode prog_9_method_3_code 0 = .ok (.aload_n 1, 1) := by decide +kernel
theorem dRs_measure_1 : decode prog_9_method_3_code 1 = .ok (.getfield 19, 3) := by decide +kernel
theorem dRs_measure_4 : decode prog_9_method_3_code 4 = .ok (.iload_n 2, 1) := by decide +kernel
theorem dRs_measure_5 : decode prog_9_method_3_code 5 = .ok (.iconst 1, 1) := by decide +kernel
theorem dRs_measure_6 : decode prog_9_method_3_code 6 = .ok (.iadd, 1) := by decide +kernel
theorem dRs_measure_7 : decode prog_9_method_3_code 7 = .ok (.iaload, 1) := by decide +kernel
theorem dRs_measure_8 : decode prog_9_method_3_code 8 = .ok (.aload_n 1, 1) := by decide +kernel
theorem dRs_measure_9 : decode prog_9_method_3_code 9 = .ok (.getfield 19, 3) := by decide +kernel
theorem dRs_measure_12 : decode prog_9_method_3_code 12 = .ok (.iload_n 2, 1) := by decide +kernel
theorem dRs_measure_13 : decode prog_9_method_3_code 13 = .ok (.iaload, 1) := by decide +kernel
theorem dRs_measure_14 : decode prog_9_method_3_code 14 = .ok (.isub, 1) := by decide +kernel
theorem dRs_measure_15 : decode prog_9_method_3_code 15 = .ok (.istore 5, 2) := by decide +kernel
theorem dRs_measure_17 : decode prog_9_method_3_code 17 = .ok (.aload_n 1, 1) := by decide +kernel
theorem dRs_measure_18 : decode prog_9_method_3_code 18 = .ok (.getfield 23, 3) := by decide +kernel
theorem dRs_measure_21 : decode prog_9_method_3_code 21 = .ok (.iload_n 2, 1) := by decide +kernel
theorem dRs_measure_22 : decode prog_9_method_3_code 22 = .ok (.iconst 1, 1) := by decide +kernel
theorem dRs_measure_23 : decode prog_9_method_3_code 23 = .ok (.iadd, 1) := by decide +kernel
theorem dRs_measure_24 : decode prog_9_method_3_code 24 = .ok (.iaload, 1) := by decide +kernel
theorem dRs_measure_25 : decode prog_9_method_3_code 25 = .ok (.aload_n 1, 1) := by decide +kernel
theorem dRs_measure_26 : decode prog_9_method_3_code 26 = .ok (.getfield 23, 3) := by decide +kernel
theorem dRs_measure_29 : decode prog_9_method_3_code 29 = .ok (.iload_n 2, 1) := by decide +kernel
theorem dRs_measure_30 : decode prog_9_method_3_code 30 = .ok (.iaload, 1) := by decide +kernel
theorem dRs_measure_31 : decode prog_9_method_3_code 31 = .ok (.isub, 1) := by decide +kernel
theorem dRs_measure_32 : decode prog_9_method_3_code 32 = .ok (.istore 6, 2) := by decide +kernel
theorem dRs_measure_34 : decode prog_9_method_3_code 34 = .ok (.iload_n 3, 1) := by decide +kernel
theorem dRs_measure_35 : decode prog_9_method_3_code 35 = .ok (.aload_n 1, 1) := by decide +kernel
theorem dRs_measure_36 : decode prog_9_method_3_code 36 = .ok (.getfield 19, 3) := by decide +kernel
theorem dRs_measure_39 : decode prog_9_method_3_code 39 = .ok (.iload_n 2, 1) := by decide +kernel
theorem dRs_measure_40 : decode prog_9_method_3_code 40 = .ok (.iaload, 1) := by decide +kernel
theorem dRs_measure_41 : decode prog_9_method_3_code 41 = .ok (.isub, 1) := by decide +kernel
theorem dRs_measure_42 : decode prog_9_method_3_code 42 = .ok (.istore 7, 2) := by decide +kernel
theorem dRs_measure_44 : decode prog_9_method_3_code 44 = .ok (.iload 4, 2) := by decide +kernel
theorem dRs_measure_46 : decode prog_9_method_3_code 46 = .ok (.aload_n 1, 1) := by decide +kernel
theorem dRs_measure_47 : decode prog_9_method_3_code 47 = .ok (.getfield 23, 3) := by decide +kernel
theorem dRs_measure_50 : decode prog_9_method_3_code 50 = .ok (.iload_n 2, 1) := by decide +kernel
theorem dRs_measure_51 : decode prog_9_method_3_code 51 = .ok (.iaload, 1) := by decide +kernel
theorem dRs_measure_52 : decode prog_9_method_3_code 52 = .ok (.isub, 1) := by decide +kernel
theorem dRs_measure_53 : decode prog_9_method_3_code 53 = .ok (.istore 8, 2) := by decide +kernel
theorem dRs_measure_55 : decode prog_9_method_3_code 55 = .ok (.iload 5, 2) := by decide +kernel
theorem dRs_measure_57 : decode prog_9_method_3_code 57 = .ok (.iload 5, 2) := by decide +kernel
theorem dRs_measure_59 : decode prog_9_method_3_code 59 = .ok (.imul, 1) := by decide +kernel
theorem dRs_measure_60 : decode prog_9_method_3_code 60 = .ok (.iload 6, 2) := by decide +kernel
theorem dRs_measure_62 : decode prog_9_method_3_code 62 = .ok (.iload 6, 2) := by decide +kernel
theorem dRs_measure_64 : decode prog_9_method_3_code 64 = .ok (.imul, 1) := by decide +kernel
theorem dRs_measure_65 : decode prog_9_method_3_code 65 = .ok (.iadd, 1) := by decide +kernel
theorem dRs_measure_66 : decode prog_9_method_3_code 66 = .ok (.istore 9, 2) := by decide +kernel
theorem dRs_measure_68 : decode prog_9_method_3_code 68 = .ok (.iload 7, 2) := by decide +kernel
theorem dRs_measure_70 : decode prog_9_method_3_code 70 = .ok (.iload 5, 2) := by decide +kernel
theorem dRs_measure_72 : decode prog_9_method_3_code 72 = .ok (.imul, 1) := by decide +kernel
theorem dRs_measure_73 : decode prog_9_method_3_code 73 = .ok (.iload 8, 2) := by decide +kernel
theorem dRs_measure_75 : decode prog_9_method_3_code 75 = .ok (.iload 6, 2) := by decide +kernel
theorem dRs_measure_77 : decode prog_9_method_3_code 77 = .ok (.imul, 1) := by decide +kernel
theorem dRs_measure_78 : decode prog_9_method_3_code 78 = .ok (.iadd, 1) := by decide +kernel
theorem dRs_measure_79 : decode prog_9_method_3_code 79 = .ok (.istore 10, 2) := by decide +kernel
theorem dRs_measure_81 : decode prog_9_method_3_code 81 = .ok (.iload 10, 2) := by decide +kernel
theorem dRs_measure_83 : decode prog_9_method_3_code 83 = .ok (.ifCond .le 58, 3) := by decide +kernel
theorem dRs_measure_86 : decode prog_9_method_3_code 86 = .ok (.iload 10, 2) := by decide +kernel
theorem dRs_measure_88 : decode prog_9_method_3_code 88 = .ok (.iload 9, 2) := by decide +kernel
theorem dRs_measure_90 : decode prog_9_method_3_code 90 = .ok (.if_icmp .ge 51, 3) := by decide +kernel
theorem dRs_measure_93 : decode prog_9_method_3_code 93 = .ok (.iload 5, 2) := by decide +kernel
theorem dRs_measure_95 : decode prog_9_method_3_code 95 = .ok (.i2l, 1) := by decide +kernel
theorem dRs_measure_96 : decode prog_9_method_3_code 96 = .ok (.iload 8, 2) := by decide +kernel
theorem dRs_measure_98 : decode prog_9_method_3_code 98 = .ok (.i2l, 1) := by decide +kernel
theorem dRs_measure_99 : decode prog_9_method_3_code 99 = .ok (.lmul, 1) := by decide +kernel
theorem dRs_measure_100 : decode prog_9_method_3_code 100 = .ok (.iload 6, 2) := by decide +kernel
theorem dRs_measure_102 : decode prog_9_method_3_code 102 = .ok (.i2l, 1) := by decide +kernel
theorem dRs_measure_103 : decode prog_9_method_3_code 103 = .ok (.iload 7, 2) := by decide +kernel
theorem dRs_measure_105 : decode prog_9_method_3_code 105 = .ok (.i2l, 1) := by decide +kernel
theorem dRs_measure_106 : decode prog_9_method_3_code 106 = .ok (.lmul, 1) := by decide +kernel
theorem dRs_measure_107 : decode prog_9_method_3_code 107 = .ok (.lsub, 1) := by decide +kernel
theorem dRs_measure_108 : decode prog_9_method_3_code 108 = .ok (.lstore 11, 2) := by decide +kernel
theorem dRs_measure_110 : decode prog_9_method_3_code 110 = .ok (.aload_n 0, 1) := by decide +kernel
theorem dRs_measure_111 : decode prog_9_method_3_code 111 = .ok (.iload_n 2, 1) := by decide +kernel
theorem dRs_measure_112 : decode prog_9_method_3_code 112 = .ok (.iload 10, 2) := by decide +kernel
theorem dRs_measure_114 : decode prog_9_method_3_code 114 = .ok (.lload 11, 2) := by decide +kernel
theorem dRs_measure_116 : decode prog_9_method_3_code 116 = .ok (.lload 11, 2) := by decide +kernel
theorem dRs_measure_118 : decode prog_9_method_3_code 118 = .ok (.lmul, 1) := by decide +kernel
theorem dRs_measure_119 : decode prog_9_method_3_code 119 = .ok (.iload 9, 2) := by decide +kernel
theorem dRs_measure_121 : decode prog_9_method_3_code 121 = .ok (.i2l, 1) := by decide +kernel
theorem dRs_measure_122 : decode prog_9_method_3_code 122 = .ok (.ldiv, 1) := by decide +kernel
theorem dRs_measure_123 : decode prog_9_method_3_code 123 = .ok (.lload 11, 2) := by decide +kernel
theorem dRs_measure_125 : decode prog_9_method_3_code 125 = .ok (.lload 11, 2) := by decide +kernel
theorem dRs_measure_127 : decode prog_9_method_3_code 127 = .ok (.lmul, 1) := by decide +kernel
theorem dRs_measure_128 : decode prog_9_method_3_code 128 = .ok (.iload 9, 2) := by decide +kernel
theorem dRs_measure_130 : decode prog_9_method_3_code 130 = .ok (.i2l, 1) := by decide +kernel
theorem dRs_measure_131 : decode prog_9_method_3_code 131 = .ok (.lrem, 1) := by decide +kernel
theorem dRs_measure_132 : decode prog_9_method_3_code 132 = .ok (.iload 9, 2) := by decide +kernel
theorem dRs_measure_134 : decode prog_9_method_3_code 134 = .ok (.i2l, 1) := by decide +kernel
theorem dRs_measure_135 : decode prog_9_method_3_code 135 = .ok (.invokevirtual 30, 3) := by decide +kernel
theorem dRs_measure_138 : decode prog_9_method_3_code 138 = .ok (.goto 48, 3) := by decide +kernel
theorem dRs_measure_141 : decode prog_9_method_3_code 141 = .ok (.iload 10, 2) := by decide +kernel
theorem dRs_measure_143 : decode prog_9_method_3_code 143 = .ok (.ifCond .gt 23, 3) := by decide +kernel
theorem dRs_measure_146 : decode prog_9_method_3_code 146 = .ok (.aload_n 0, 1) := by decide +kernel
theorem dRs_measure_147 : decode prog_9_method_3_code 147 = .ok (.iload_n 2, 1) := by decide +kernel
theorem dRs_measure_148 : decode prog_9_method_3_code 148 = .ok (.iconst 0, 1) := by decide +kernel
theorem dRs_measure_149 : decode prog_9_method_3_code 149 = .ok (.aload_n 1, 1) := by decide +kernel
theorem dRs_measure_150 : decode prog_9_method_3_code 150 = .ok (.iload_n 2, 1) := by decide +kernel
theorem dRs_measure_151 : decode prog_9_method_3_code 151 = .ok (.iload_n 3, 1) := by decide +kernel
theorem dRs_measure_152 : decode prog_9_method_3_code 152 = .ok (.iload 4, 2) := by decide +kernel
theorem dRs_measure_154 : decode prog_9_method_3_code 154 = .ok (.invokevirtual 34, 3) := by decide +kernel
theorem dRs_measure_157 : decode prog_9_method_3_code 157 = .ok (.i2l, 1) := by decide +kernel
theorem dRs_measure_158 : decode prog_9_method_3_code 158 = .ok (.lconst 0, 1) := by decide +kernel
theorem dRs_measure_159 : decode prog_9_method_3_code 159 = .ok (.lconst 1, 1) := by decide +kernel
theorem dRs_measure_160 : decode prog_9_method_3_code 160 = .ok (.invokevirtual 30, 3) := by decide +kernel
theorem dRs_measure_163 : decode prog_9_method_3_code 163 = .ok (.goto 23, 3) := by decide +kernel
theorem dRs_measure_166 : decode prog_9_method_3_code 166 = .ok (.aload_n 0, 1) := by decide +kernel
theorem dRs_measure_167 : decode prog_9_method_3_code 167 = .ok (.iload_n 2, 1) := by decide +kernel
theorem dRs_measure_168 : decode prog_9_method_3_code 168 = .ok (.iload 9, 2) := by decide +kernel
theorem dRs_measure_170 : decode prog_9_method_3_code 170 = .ok (.aload_n 1, 1) := by decide +kernel
theorem dRs_measure_171 : decode prog_9_method_3_code 171 = .ok (.iload_n 2, 1) := by decide +kernel
theorem dRs_measure_172 : decode prog_9_method_3_code 172 = .ok (.iconst 1, 1) := by decide +kernel
theorem dRs_measure_173 : decode prog_9_method_3_code 173 = .ok (.iadd, 1) := by decide +kernel
theorem dRs_measure_174 : decode prog_9_method_3_code 174 = .ok (.iload_n 3, 1) := by decide +kernel
theorem dRs_measure_175 : decode prog_9_method_3_code 175 = .ok (.iload 4, 2) := by decide +kernel
theorem dRs_measure_177 : decode prog_9_method_3_code 177 = .ok (.invokevirtual 34, 3) := by decide +kernel
theorem dRs_measure_180 : decode prog_9_method_3_code 180 = .ok (.i2l, 1) := by decide +kernel
theorem dRs_measure_181 : decode prog_9_method_3_code 181 = .ok (.lconst 0, 1) := by decide +kernel
theorem dRs_measure_182 : decode prog_9_method_3_code 182 = .ok (.lconst 1, 1) := by decide +kernel
theorem dRs_measure_183 : decode prog_9_method_3_code 183 = .ok (.invokevirtual 30, 3) := by decide +kernel
theorem dRs_measure_186 : decode prog_9_method_3_code 186 = .ok (.return_, 1) := by decide +kernel
theorem dRs_start_0 : decode prog_9_method_2_code 0 = .ok (.aload_n 0, 1) := by decide +kernel
theorem dRs_start_1 : decode prog_9_method_2_code 1 = .ok (.iconst 0, 1) := by decide +kernel
theorem dRs_start_2 : decode prog_9_method_2_code 2 = .ok (.putfield 7, 3) := by decide +kernel
theorem dRs_start_5 : decode prog_9_method_2_code 5 = .ok (.iconst 0, 1) := by decide +kernel
theorem dRs_start_6 : decode prog_9_method_2_code 6 = .ok (.istore_n 3, 1) := by decide +kernel
theorem dRs_start_7 : decode prog_9_method_2_code 7 = .ok (.iload_n 3, 1) := by decide +kernel
theorem dRs_start_8 : decode prog_9_method_2_code 8 = .ok (.iconst 1, 1) := by decide +kernel
theorem dRs_start_9 : decode prog_9_method_2_code 9 = .ok (.iadd, 1) := by decide +kernel
theorem dRs_start_10 : decode prog_9_method_2_code 10 = .ok (.aload_n 1, 1) := by decide +kernel
theorem dRs_start_11 : decode prog_9_method_2_code 11 = .ok (.getfield 13, 3) := by decide +kernel
theorem dRs_start_14 : decode prog_9_method_2_code 14 = .ok (.if_icmp .ge 47, 3) := by decide +kernel
theorem dRs_start_17 : decode prog_9_method_2_code 17 = .ok (.iconst 0, 1) := by decide +kernel
theorem dRs_start_18 : decode prog_9_method_2_code 18 = .ok (.istore 4, 2) := by decide +kernel
theorem dRs_start_20 : decode prog_9_method_2_code 20 = .ok (.iload 4, 2) := by decide +kernel
theorem dRs_start_22 : decode prog_9_method_2_code 22 = .ok (.aload_n 2, 1) := by decide +kernel
theorem dRs_start_23 : decode prog_9_method_2_code 23 = .ok (.getfield 13, 3) := by decide +kernel
theorem dRs_start_26 : decode prog_9_method_2_code 26 = .ok (.if_icmp .ge 29, 3) := by decide +kernel
theorem dRs_start_29 : decode prog_9_method_2_code 29 = .ok (.aload_n 0, 1) := by decide +kernel
theorem dRs_start_30 : decode prog_9_method_2_code 30 = .ok (.aload_n 1, 1) := by decide +kernel
theorem dRs_start_31 : decode prog_9_method_2_code 31 = .ok (.iload_n 3, 1) := by decide +kernel
theorem dRs_start_32 : decode prog_9_method_2_code 32 = .ok (.aload_n 2, 1) := by decide +kernel
theorem dRs_start_33 : decode prog_9_method_2_code 33 = .ok (.getfield 19, 3) := by decide +kernel
theorem dRs_start_36 : decode prog_9_method_2_code 36 = .ok (.iload 4, 2) := by decide +kernel
theorem dRs_start_38 : decode prog_9_method_2_code 38 = .ok (.iaload, 1) := by decide +kernel
theorem dRs_start_39 : decode prog_9_method_2_code 39 = .ok (.aload_n 2, 1) := by decide +kernel
theorem dRs_start_40 : decode prog_9_method_2_code 40 = .ok (.getfield 23, 3) := by decide +kernel
theorem dRs_start_43 : decode prog_9_method_2_code 43 = .ok (.iload 4, 2) := by decide +kernel
theorem dRs_start_45 : decode prog_9_method_2_code 45 = .ok (.iaload, 1) := by decide +kernel
theorem dRs_start_46 : decode prog_9_method_2_code 46 = .ok (.invokevirtual 26, 3) := by decide +kernel
theorem dRs_start_49 : decode prog_9_method_2_code 49 = .ok (.iinc 4 1, 3) := by decide +kernel
theorem dRs_start_52 : decode prog_9_method_2_code 52 = .ok (.goto (-32), 3) := by decide +kernel
theorem dRs_start_55 : decode prog_9_method_2_code 55 = .ok (.iinc 3 1, 3) := by decide +kernel
theorem dRs_start_58 : decode prog_9_method_2_code 58 = .ok (.goto (-51), 3) := by decide +kernel
theorem dRs_start_61 : decode prog_9_method_2_code 61 = .ok (.return_, 1) := by decide +kernel
theorem dRs_isWithin_0 : decode prog_9_method_5_code 0 = .ok (.iload_n 1, 1) := by decide +kernel
theorem dRs_isWithin_1 : decode prog_9_method_5_code 1 = .ok (.i2l, 1) := by decide +kernel
theorem dRs_isWithin_2 : decode prog_9_method_5_code 2 = .ok (.iload_n 1, 1) := by decide +kernel
theorem dRs_isWithin_3 : decode prog_9_method_5_code 3 = .ok (.i2l, 1) := by decide +kernel
theorem dRs_isWithin_4 : decode prog_9_method_5_code 4 = .ok (.lmul, 1) := by decide +kernel
theorem dRs_isWithin_5 : decode prog_9_method_5_code 5 = .ok (.lstore_n 2, 1) := by decide +kernel
theorem dRs_isWithin_6 : decode prog_9_method_5_code 6 = .ok (.aload_n 0, 1) := by decide +kernel
theorem dRs_isWithin_7 : decode prog_9_method_5_code 7 = .ok (.getfield 7, 3) := by decide +kernel
theorem dRs_isWithin_10 : decode prog_9_method_5_code 10 = .ok (.ifCond .eq 34, 3) := by decide +kernel
theorem dRs_isWithin_13 : decode prog_9_method_5_code 13 = .ok (.aload_n 0, 1) := by decide +kernel
theorem dRs_isWithin_14 : decode prog_9_method_5_code 14 = .ok (.getfield 38, 3) := by decide +kernel
theorem dRs_isWithin_17 : decode prog_9_method_5_code 17 = .ok (.lload_n 2, 1) := by decide +kernel
theorem dRs_isWithin_18 : decode prog_9_method_5_code 18 = .ok (.lcmp, 1) := by decide +kernel
theorem dRs_isWithin_19 : decode prog_9_method_5_code 19 = .ok (.ifCond .lt 21, 3) := by decide +kernel
theorem dRs_isWithin_22 : decode prog_9_method_5_code 22 = .ok (.aload_n 0, 1) := by decide +kernel
theorem dRs_isWithin_23 : decode prog_9_method_5_code 23 = .ok (.getfield 38, 3) := by decide +kernel
theorem dRs_isWithin_26 : decode prog_9_method_5_code 26 = .ok (.lload_n 2, 1) := by decide +kernel
theorem dRs_isWithin_27 : decode prog_9_method_5_code 27 = .ok (.lcmp, 1) := by decide +kernel
theorem dRs_isWithin_28 : decode prog_9_method_5_code 28 = .ok (.ifCond .ne 16, 3) := by decide +kernel
theorem dRs_isWithin_31 : decode prog_9_method_5_code 31 = .ok (.aload_n 0, 1) := by decide +kernel
theorem dRs_isWithin_32 : decode prog_9_method_5_code 32 = .ok (.getfield 51, 3) := by decide +kernel
theorem dRs_isWithin_35 : decode prog_9_method_5_code 35 = .ok (.lconst 0, 1) := by decide +kernel
theorem dRs_isWithin_36 : decode prog_9_method_5_code 36 = .ok (.lcmp, 1) := by decide +kernel
theorem dRs_isWithin_37 : decode prog_9_method_5_code 37 = .ok (.ifCond .ne 7, 3) := by decide +kernel
theorem dRs_isWithin_40 : decode prog_9_method_5_code 40 = .ok (.iconst 1, 1) := by decide +kernel
theorem dRs_isWithin_41 : decode prog_9_method_5_code 41 = .ok (.goto 4, 3) := by decide +kernel
theorem dRs_isWithin_44 : decode prog_9_method_5_code 44 = .ok (.iconst 0, 1) := by decide +kernel
theorem dRs_isWithin_45 : decode prog_9_method_5_code 45 = .ok (.ireturn, 1) := by decide +kernel
theorem dNa_isOf_0 : decode prog_7_method_2_code 0 = .ok (.aload_n 0, 1) := by decide +kernel
theorem dNa_isOf_1 : decode prog_7_method_2_code 1 = .ok (.getfield 13, 3) := by decide +kernel
theorem dNa_isOf_4 : decode prog_7_method_2_code 4 = .ok (.iload_n 1, 1) := by decide +kernel
theorem dNa_isOf_5 : decode prog_7_method_2_code 5 = .ok (.if_icmp .gt 15, 3) := by decide +kernel
theorem dNa_isOf_8 : decode prog_7_method_2_code 8 = .ok (.iload_n 1, 1) := by decide +kernel
theorem dNa_isOf_9 : decode prog_7_method_2_code 9 = .ok (.aload_n 0, 1) := by decide +kernel
theorem dNa_isOf_10 : decode prog_7_method_2_code 10 = .ok (.getfield 17, 3) := by decide +kernel
theorem dNa_isOf_13 : decode prog_7_method_2_code 13 = .ok (.if_icmp .gt 7, 3) := by decide +kernel
theorem dNa_isOf_16 : decode prog_7_method_2_code 16 = .ok (.iconst 1, 1) := by decide +kernel
theorem dNa_isOf_17 : decode prog_7_method_2_code 17 = .ok (.goto 4, 3) := by decide +kernel
theorem dNa_isOf_20 : decode prog_7_method_2_code 20 = .ok (.iconst 0, 1) := by decide +kernel
theorem dNa_isOf_21 : decode prog_7_method_2_code 21 = .ok (.ireturn, 1) := by decide +kernel
theorem dWo_rank_0 : decode prog_11_method_3_code 0 = .ok (.lconst 0, 1) := by decide +kernel
theorem dWo_rank_1 : decode prog_11_method_3_code 1 = .ok (.lstore_n 1, 1) := by decide +kernel
theorem dWo_rank_2 : decode prog_11_method_3_code 2 = .ok (.iconst 0, 1) := by decide +kernel
theorem dWo_rank_3 : decode prog_11_method_3_code 3 = .ok (.istore_n 3, 1) := by decide +kernel
theorem dWo_rank_4 : decode prog_11_method_3_code 4 = .ok (.iload_n 3, 1) := by decide +kernel
theorem dWo_rank_5 : decode prog_11_method_3_code 5 = .ok (.bipush 10, 2) := by decide +kernel
theorem dWo_rank_7 : decode prog_11_method_3_code 7 = .ok (.if_icmp .ge 40, 3) := by decide +kernel
theorem dWo_rank_10 : decode prog_11_method_3_code 10 = .ok (.lload_n 1, 1) := by decide +kernel
theorem dWo_rank_11 : decode prog_11_method_3_code 11 = .ok (.ldc2_w 23, 3) := by decide +kernel
theorem dWo_rank_14 : decode prog_11_method_3_code 14 = .ok (.lmul, 1) := by decide +kernel
theorem dWo_rank_15 : decode prog_11_method_3_code 15 = .ok (.iload_n 3, 1) := by decide +kernel
theorem dWo_rank_16 : decode prog_11_method_3_code 16 = .ok (.aload_n 0, 1) := by decide +kernel
theorem dWo_rank_17 : decode prog_11_method_3_code 17 = .ok (.getfield 19, 3) := by decide +kernel
theorem dWo_rank_20 : decode prog_11_method_3_code 20 = .ok (.if_icmp .ge 17, 3) := by decide +kernel
theorem dWo_rank_23 : decode prog_11_method_3_code 23 = .ok (.aload_n 0, 1) := by decide +kernel
theorem dWo_rank_24 : decode prog_11_method_3_code 24 = .ok (.getfield 9, 3) := by decide +kernel
theorem dWo_rank_27 : decode prog_11_method_3_code 27 = .ok (.iload_n 3, 1) := by decide +kernel
theorem dWo_rank_28 : decode prog_11_method_3_code 28 = .ok (.caload, 1) := by decide +kernel
theorem dWo_rank_29 : decode prog_11_method_3_code 29 = .ok (.bipush 97, 2) := by decide +kernel
theorem dWo_rank_31 : decode prog_11_method_3_code 31 = .ok (.isub, 1) := by decide +kernel
theorem dWo_rank_32 : decode prog_11_method_3_code 32 = .ok (.iconst 1, 1) := by decide +kernel
theorem dWo_rank_33 : decode prog_11_method_3_code 33 = .ok (.iadd, 1) := by decide +kernel
theorem dWo_rank_34 : decode prog_11_method_3_code 34 = .ok (.goto 4, 3) := by decide +kernel
theorem dWo_rank_37 : decode prog_11_method_3_code 37 = .ok (.iconst 0, 1) := by decide +kernel
theorem dWo_rank_38 : decode prog_11_method_3_code 38 = .ok (.i2l, 1) := by decide +kernel
theorem dWo_rank_39 : decode prog_11_method_3_code 39 = .ok (.ladd, 1) := by decide +kernel
theorem dWo_rank_40 : decode prog_11_method_3_code 40 = .ok (.lstore_n 1, 1) := by decide +kernel
theorem dWo_rank_41 : decode prog_11_method_3_code 41 = .ok (.iinc 3 1, 3) := by decide +kernel
theorem dWo_rank_44 : decode prog_11_method_3_code 44 = .ok (.goto (-40), 3) := by decide +kernel
theorem dWo_rank_47 : decode prog_11_method_3_code 47 = .ok (.lload_n 1, 1) := by decide +kernel
theorem dWo_rank_48 : decode prog_11_method_3_code 48 = .ok (.lreturn, 1) := by decide +kernel
theorem dWo_beginsWith_0 : decode prog_11_method_4_code 0 = .ok (.aload_n 1, 1) := by decide +kernel
theorem dWo_beginsWith_1 : decode prog_11_method_4_code 1 = .ok (.getfield 19, 3) := by decide +kernel
theorem dWo_beginsWith_4 : decode prog_11_method_4_code 4 = .ok (.aload_n 0, 1) := by decide +kernel
theorem dWo_beginsWith_5 : decode prog_11_method_4_code 5 = .ok (.getfield 19, 3) := by decide +kernel
theorem dWo_beginsWith_8 : decode prog_11_method_4_code 8 = .ok (.if_icmp .le 5, 3) := by decide +kernel
theorem dWo_beginsWith_11 : decode prog_11_method_4_code 11 = .ok (.iconst 0, 1) := by decide +kernel
theorem dWo_beginsWith_12 : decode prog_11_method_4_code 12 = .ok (.ireturn, 1) := by decide +kernel
theorem dWo_beginsWith_13 : decode prog_11_method_4_code 13 = .ok (.iconst 0, 1) := by decide +kernel
theorem dWo_beginsWith_14 : decode prog_11_method_4_code 14 = .ok (.istore_n 2, 1) := by decide +kernel
theorem dWo_beginsWith_15 : decode prog_11_method_4_code 15 = .ok (.iload_n 2, 1) := by decide +kernel
theorem dWo_beginsWith_16 : decode prog_11_method_4_code 16 = .ok (.aload_n 1, 1) := by decide +kernel
theorem dWo_beginsWith_17 : decode prog_11_method_4_code 17 = .ok (.getfield 19, 3) := by decide +kernel
theorem dWo_beginsWith_20 : decode prog_11_method_4_code 20 = .ok (.if_icmp .ge 26, 3) := by decide +kernel
theorem dWo_beginsWith_23 : decode prog_11_method_4_code 23 = .ok (.aload_n 0, 1) := by decide +kernel
theorem dWo_beginsWith_24 : decode prog_11_method_4_code 24 = .ok (.getfield 9, 3) := by decide +kernel
theorem dWo_beginsWith_27 : decode prog_11_method_4_code 27 = .ok (.iload_n 2, 1) := by decide +kernel
theorem dWo_beginsWith_28 : decode prog_11_method_4_code 28 = .ok (.caload, 1) := by decide +kernel
theorem dWo_beginsWith_29 : decode prog_11_method_4_code 29 = .ok (.aload_n 1, 1) := by decide +kernel
theorem dWo_beginsWith_30 : decode prog_11_method_4_code 30 = .ok (.getfield 9, 3) := by decide +kernel
theorem dWo_beginsWith_33 : decode prog_11_method_4_code 33 = .ok (.iload_n 2, 1) := by decide +kernel
theorem dWo_beginsWith_34 : decode prog_11_method_4_code 34 = .ok (.caload, 1) := by decide +kernel
theorem dWo_beginsWith_35 : decode prog_11_method_4_code 35 = .ok (.if_icmp .eq 5, 3) := by decide +kernel
theorem dWo_beginsWith_38 : decode prog_11_method_4_code 38 = .ok (.iconst 0, 1) := by decide +kernel
theorem dWo_beginsWith_39 : decode prog_11_method_4_code 39 = .ok (.ireturn, 1) := by decide +kernel
theorem dWo_beginsWith_40 : decode prog_11_method_4_code 40 = .ok (.iinc 2 1, 3) := by decide +kernel
theorem dWo_beginsWith_43 : decode prog_11_method_4_code 43 = .ok (.goto (-28), 3) := by decide +kernel
theorem dWo_beginsWith_46 : decode prog_11_method_4_code 46 = .ok (.iconst 1, 1) := by decide +kernel
theorem dWo_beginsWith_47 : decode prog_11_method_4_code 47 = .ok (.ireturn, 1) := by decide +kernel
theorem dEc_leastFor_0 : decode prog_4_method_3_code 0 = .ok (.iload_n 2, 1) := by decide +kernel
theorem dEc_leastFor_1 : decode prog_4_method_3_code 1 = .ok (.ifCond .eq 8, 3) := by decide +kernel
theorem dEc_leastFor_4 : decode prog_4_method_3_code 4 = .ok (.iload 4, 2) := by decide +kernel
theorem dEc_leastFor_6 : decode prog_4_method_3_code 6 = .ok (.ifCond .ne 8, 3) := by decide +kernel
theorem dEc_leastFor_9 : decode prog_4_method_3_code 9 = .ok (.iload_n 2, 1) := by decide +kernel
theorem dEc_leastFor_10 : decode prog_4_method_3_code 10 = .ok (.iload 4, 2) := by decide +kernel
theorem dEc_leastFor_12 : decode prog_4_method_3_code 12 = .ok (.iadd, 1) := by decide +kernel
theorem dEc_leastFor_13 : decode prog_4_method_3_code 13 = .ok (.ireturn, 1) := by decide +kernel
theorem dEc_leastFor_14 : decode prog_4_method_3_code 14 = .ok (.aload_n 0, 1) := by decide +kernel
theorem dEc_leastFor_15 : decode prog_4_method_3_code 15 = .ok (.getfield 11, 3) := by decide +kernel
theorem dEc_leastFor_18 : decode prog_4_method_3_code 18 = .ok (.iload_n 2, 1) := by decide +kernel
theorem dEc_leastFor_19 : decode prog_4_method_3_code 19 = .ok (.iconst 1, 1) := by decide +kernel
theorem dEc_leastFor_20 : decode prog_4_method_3_code 20 = .ok (.isub, 1) := by decide +kernel
theorem dEc_leastFor_21 : decode prog_4_method_3_code 21 = .ok (.aaload, 1) := by decide +kernel
theorem dEc_leastFor_22 : decode prog_4_method_3_code 22 = .ok (.iload 4, 2) := by decide +kernel
theorem dEc_leastFor_24 : decode prog_4_method_3_code 24 = .ok (.iconst 1, 1) := by decide +kernel
theorem dEc_leastFor_25 : decode prog_4_method_3_code 25 = .ok (.isub, 1) := by decide +kernel
theorem dEc_leastFor_26 : decode prog_4_method_3_code 26 = .ok (.iaload, 1) := by decide +kernel
theorem dEc_leastFor_27 : decode prog_4_method_3_code 27 = .ok (.aload_n 1, 1) := by decide +kernel
theorem dEc_leastFor_28 : decode prog_4_method_3_code 28 = .ok (.iload_n 2, 1) := by decide +kernel
theorem dEc_leastFor_29 : decode prog_4_method_3_code 29 = .ok (.iconst 1, 1) := by decide +kernel
theorem dEc_leastFor_30 : decode prog_4_method_3_code 30 = .ok (.isub, 1) := by decide +kernel
theorem dEc_leastFor_31 : decode prog_4_method_3_code 31 = .ok (.caload, 1) := by decide +kernel
theorem dEc_leastFor_32 : decode prog_4_method_3_code 32 = .ok (.aload_n 3, 1) := by decide +kernel
theorem dEc_leastFor_33 : decode prog_4_method_3_code 33 = .ok (.iload 4, 2) := by decide +kernel
theorem dEc_leastFor_35 : decode prog_4_method_3_code 35 = .ok (.iconst 1, 1) := by decide +kernel
theorem dEc_leastFor_36 : decode prog_4_method_3_code 36 = .ok (.isub, 1) := by decide +kernel
theorem dEc_leastFor_37 : decode prog_4_method_3_code 37 = .ok (.caload, 1) := by decide +kernel
theorem dEc_leastFor_38 : decode prog_4_method_3_code 38 = .ok (.if_icmp .ne 7, 3) := by decide +kernel
theorem dEc_leastFor_41 : decode prog_4_method_3_code 41 = .ok (.iconst 0, 1) := by decide +kernel
theorem dEc_leastFor_42 : decode prog_4_method_3_code 42 = .ok (.goto 4, 3) := by decide +kernel
theorem dEc_leastFor_45 : decode prog_4_method_3_code 45 = .ok (.iconst 1, 1) := by decide +kernel
theorem dEc_leastFor_46 : decode prog_4_method_3_code 46 = .ok (.iadd, 1) := by decide +kernel
theorem dEc_leastFor_47 : decode prog_4_method_3_code 47 = .ok (.istore 5, 2) := by decide +kernel
theorem dEc_leastFor_49 : decode prog_4_method_3_code 49 = .ok (.aload_n 0, 1) := by decide +kernel
theorem dEc_leastFor_50 : decode prog_4_method_3_code 50 = .ok (.getfield 11, 3) := by decide +kernel
theorem dEc_leastFor_53 : decode prog_4_method_3_code 53 = .ok (.iload_n 2, 1) := by decide +kernel
theorem dEc_leastFor_54 : decode prog_4_method_3_code 54 = .ok (.iconst 1, 1) := by decide +kernel
theorem dEc_leastFor_55 : decode prog_4_method_3_code 55 = .ok (.isub, 1) := by decide +kernel
theorem dEc_leastFor_56 : decode prog_4_method_3_code 56 = .ok (.aaload, 1) := by decide +kernel
theorem dEc_leastFor_57 : decode prog_4_method_3_code 57 = .ok (.iload 4, 2) := by decide +kernel
theorem dEc_leastFor_59 : decode prog_4_method_3_code 59 = .ok (.iaload, 1) := by decide +kernel
theorem dEc_leastFor_60 : decode prog_4_method_3_code 60 = .ok (.aload_n 0, 1) := by decide +kernel
theorem dEc_leastFor_61 : decode prog_4_method_3_code 61 = .ok (.getfield 11, 3) := by decide +kernel
theorem dEc_leastFor_64 : decode prog_4_method_3_code 64 = .ok (.iload_n 2, 1) := by decide +kernel
theorem dEc_leastFor_65 : decode prog_4_method_3_code 65 = .ok (.aaload, 1) := by decide +kernel
theorem dEc_leastFor_66 : decode prog_4_method_3_code 66 = .ok (.iload 4, 2) := by decide +kernel
theorem dEc_leastFor_68 : decode prog_4_method_3_code 68 = .ok (.iconst 1, 1) := by decide +kernel
theorem dEc_leastFor_69 : decode prog_4_method_3_code 69 = .ok (.isub, 1) := by decide +kernel
theorem dEc_leastFor_70 : decode prog_4_method_3_code 70 = .ok (.iaload, 1) := by decide +kernel
theorem dEc_leastFor_71 : decode prog_4_method_3_code 71 = .ok (.invokestatic 30, 3) := by decide +kernel
theorem dEc_leastFor_74 : decode prog_4_method_3_code 74 = .ok (.iconst 1, 1) := by decide +kernel
theorem dEc_leastFor_75 : decode prog_4_method_3_code 75 = .ok (.iadd, 1) := by decide +kernel
theorem dEc_leastFor_76 : decode prog_4_method_3_code 76 = .ok (.istore 6, 2) := by decide +kernel
theorem dEc_leastFor_78 : decode prog_4_method_3_code 78 = .ok (.iload 5, 2) := by decide +kernel
theorem dEc_leastFor_80 : decode prog_4_method_3_code 80 = .ok (.iload 6, 2) := by decide +kernel
theorem dEc_leastFor_82 : decode prog_4_method_3_code 82 = .ok (.invokestatic 30, 3) := by decide +kernel
theorem dEc_leastFor_85 : decode prog_4_method_3_code 85 = .ok (.istore 7, 2) := by decide +kernel
theorem dEc_leastFor_87 : decode prog_4_method_3_code 87 = .ok (.iload_n 2, 1) := by decide +kernel
theorem dEc_leastFor_88 : decode prog_4_method_3_code 88 = .ok (.iconst 1, 1) := by decide +kernel
theorem dEc_leastFor_89 : decode prog_4_method_3_code 89 = .ok (.if_icmp .le 41, 3) := by decide +kernel
theorem dEc_leastFor_92 : decode prog_4_method_3_code 92 = .ok (.iload 4, 2) := by decide +kernel
theorem dEc_leastFor_94 : decode prog_4_method_3_code 94 = .ok (.iconst 1, 1) := by decide +kernel
theorem dEc_leastFor_95 : decode prog_4_method_3_code 95 = .ok (.if_icmp .le 35, 3) := by decide +kernel
theorem dEc_leastFor_98 : decode prog_4_method_3_code 98 = .ok (.aload_n 1, 1) := by decide +kernel
theorem dEc_leastFor_99 : decode prog_4_method_3_code 99 = .ok (.iload_n 2, 1) := by decide +kernel
theorem dEc_leastFor_100 : decode prog_4_method_3_code 100 = .ok (.iconst 1, 1) := by decide +kernel
theorem dEc_leastFor_101 : decode prog_4_method_3_code 101 = .ok (.isub, 1) := by decide +kernel
theorem dEc_leastFor_102 : decode prog_4_method_3_code 102 = .ok (.caload, 1) := by decide +kernel
theorem dEc_leastFor_103 : decode prog_4_method_3_code 103 = .ok (.aload_n 3, 1) := by decide +kernel
theorem dEc_leastFor_104 : decode prog_4_method_3_code 104 = .ok (.iload 4, 2) := by decide +kernel
theorem dEc_leastFor_106 : decode prog_4_method_3_code 106 = .ok (.iconst 2, 1) := by decide +kernel
theorem dEc_leastFor_107 : decode prog_4_method_3_code 107 = .ok (.isub, 1) := by decide +kernel
theorem dEc_leastFor_108 : decode prog_4_method_3_code 108 = .ok (.caload, 1) := by decide +kernel
theorem dEc_leastFor_109 : decode prog_4_method_3_code 109 = .ok (.if_icmp .ne 21, 3) := by decide +kernel
theorem dEc_leastFor_112 : decode prog_4_method_3_code 112 = .ok (.aload_n 1, 1) := by decide +kernel
theorem dEc_leastFor_113 : decode prog_4_method_3_code 113 = .ok (.iload_n 2, 1) := by decide +kernel
theorem dEc_leastFor_114 : decode prog_4_method_3_code 114 = .ok (.iconst 2, 1) := by decide +kernel
theorem dEc_leastFor_115 : decode prog_4_method_3_code 115 = .ok (.isub, 1) := by decide +kernel
theorem dEc_leastFor_116 : decode prog_4_method_3_code 116 = .ok (.caload, 1) := by decide +kernel
theorem dEc_leastFor_117 : decode prog_4_method_3_code 117 = .ok (.aload_n 3, 1) := by decide +kernel
theorem dEc_leastFor_118 : decode prog_4_method_3_code 118 = .ok (.iload 4, 2) := by decide +kernel
theorem dEc_leastFor_120 : decode prog_4_method_3_code 120 = .ok (.iconst 1, 1) := by decide +kernel
theorem dEc_leastFor_121 : decode prog_4_method_3_code 121 = .ok (.isub, 1) := by decide +kernel
theorem dEc_leastFor_122 : decode prog_4_method_3_code 122 = .ok (.caload, 1) := by decide +kernel
theorem dEc_leastFor_123 : decode prog_4_method_3_code 123 = .ok (.if_icmp .ne 7, 3) := by decide +kernel
theorem dEc_leastFor_126 : decode prog_4_method_3_code 126 = .ok (.iconst 1, 1) := by decide +kernel
theorem dEc_leastFor_127 : decode prog_4_method_3_code 127 = .ok (.goto 4, 3) := by decide +kernel
theorem dEc_leastFor_130 : decode prog_4_method_3_code 130 = .ok (.iconst 0, 1) := by decide +kernel
theorem dEc_leastFor_131 : decode prog_4_method_3_code 131 = .ok (.istore 8, 2) := by decide +kernel
theorem dEc_leastFor_133 : decode prog_4_method_3_code 133 = .ok (.iload 8, 2) := by decide +kernel
theorem dEc_leastFor_135 : decode prog_4_method_3_code 135 = .ok (.ifCond .eq 26, 3) := by decide +kernel
theorem dEc_leastFor_138 : decode prog_4_method_3_code 138 = .ok (.iload 7, 2) := by decide +kernel
theorem dEc_leastFor_140 : decode prog_4_method_3_code 140 = .ok (.aload_n 0, 1) := by decide +kernel
theorem dEc_leastFor_141 : decode prog_4_method_3_code 141 = .ok (.getfield 11, 3) := by decide +kernel
theorem dEc_leastFor_144 : decode prog_4_method_3_code 144 = .ok (.iload_n 2, 1) := by decide +kernel
theorem dEc_leastFor_145 : decode prog_4_method_3_code 145 = .ok (.iconst 2, 1) := by decide +kernel
theorem dEc_leastFor_146 : decode prog_4_method_3_code 146 = .ok (.isub, 1) := by decide +kernel
theorem dEc_leastFor_147 : decode prog_4_method_3_code 147 = .ok (.aaload, 1) := by decide +kernel
theorem dEc_leastFor_148 : decode prog_4_method_3_code 148 = .ok (.iload 4, 2) := by decide +kernel
theorem dEc_leastFor_150 : decode prog_4_method_3_code 150 = .ok (.iconst 2, 1) := by decide +kernel
theorem dEc_leastFor_151 : decode prog_4_method_3_code 151 = .ok (.isub, 1) := by decide +kernel
theorem dEc_leastFor_152 : decode prog_4_method_3_code 152 = .ok (.iaload, 1) := by decide +kernel
theorem dEc_leastFor_153 : decode prog_4_method_3_code 153 = .ok (.iconst 1, 1) := by decide +kernel
theorem dEc_leastFor_154 : decode prog_4_method_3_code 154 = .ok (.iadd, 1) := by decide +kernel
theorem dEc_leastFor_155 : decode prog_4_method_3_code 155 = .ok (.invokestatic 30, 3) := by decide +kernel
theorem dEc_leastFor_158 : decode prog_4_method_3_code 158 = .ok (.goto 5, 3) := by decide +kernel
theorem dEc_leastFor_161 : decode prog_4_method_3_code 161 = .ok (.iload 7, 2) := by decide +kernel
theorem dEc_leastFor_163 : decode prog_4_method_3_code 163 = .ok (.ireturn, 1) := by decide +kernel
theorem dEc_count_0 : decode prog_4_method_2_code 0 = .ok (.iconst 0, 1) := by decide +kernel
theorem dEc_count_1 : decode prog_4_method_2_code 1 = .ok (.istore_n 3, 1) := by decide +kernel
theorem dEc_count_2 : decode prog_4_method_2_code 2 = .ok (.iload_n 3, 1) := by decide +kernel
theorem dEc_count_3 : decode prog_4_method_2_code 3 = .ok (.aload_n 1, 1) := by decide +kernel
theorem dEc_count_4 : decode prog_4_method_2_code 4 = .ok (.getfield 16, 3) := by decide +kernel
theorem dEc_count_7 : decode prog_4_method_2_code 7 = .ok (.if_icmp .gt 51, 3) := by decide +kernel
theorem dEc_count_10 : decode prog_4_method_2_code 10 = .ok (.iconst 0, 1) := by decide +kernel
theorem dEc_count_11 : decode prog_4_method_2_code 11 = .ok (.istore 4, 2) := by decide +kernel
theorem dEc_count_13 : decode prog_4_method_2_code 13 = .ok (.iload 4, 2) := by decide +kernel
theorem dEc_count_15 : decode prog_4_method_2_code 15 = .ok (.aload_n 2, 1) := by decide +kernel
theorem dEc_count_16 : decode prog_4_method_2_code 16 = .ok (.getfield 16, 3) := by decide +kernel
theorem dEc_count_19 : decode prog_4_method_2_code 19 = .ok (.if_icmp .gt 33, 3) := by decide +kernel
theorem dEc_count_22 : decode prog_4_method_2_code 22 = .ok (.aload_n 0, 1) := by decide +kernel
theorem dEc_count_23 : decode prog_4_method_2_code 23 = .ok (.getfield 11, 3) := by decide +kernel
theorem dEc_count_26 : decode prog_4_method_2_code 26 = .ok (.iload_n 3, 1) := by decide +kernel
theorem dEc_count_27 : decode prog_4_method_2_code 27 = .ok (.aaload, 1) := by decide +kernel
theorem dEc_count_28 : decode prog_4_method_2_code 28 = .ok (.iload 4, 2) := by decide +kernel
theorem dEc_count_30 : decode prog_4_method_2_code 30 = .ok (.aload_n 0, 1) := by decide +kernel
theorem dEc_count_31 : decode prog_4_method_2_code 31 = .ok (.aload_n 1, 1) := by decide +kernel
theorem dEc_count_32 : decode prog_4_method_2_code 32 = .ok (.getfield 22, 3) := by decide +kernel
theorem dEc_count_35 : decode prog_4_method_2_code 35 = .ok (.iload_n 3, 1) := by decide +kernel
theorem dEc_count_36 : decode prog_4_method_2_code 36 = .ok (.aload_n 2, 1) := by decide +kernel
theorem dEc_count_37 : decode prog_4_method_2_code 37 = .ok (.getfield 22, 3) := by decide +kernel
theorem dEc_count_40 : decode prog_4_method_2_code 40 = .ok (.iload 4, 2) := by decide +kernel
theorem dEc_count_42 : decode prog_4_method_2_code 42 = .ok (.invokevirtual 26, 3) := by decide +kernel
theorem dEc_count_45 : decode prog_4_method_2_code 45 = .ok (.iastore, 1) := by decide +kernel
theorem dEc_count_46 : decode prog_4_method_2_code 46 = .ok (.iinc 4 1, 3) := by decide +kernel
theorem dEc_count_49 : decode prog_4_method_2_code 49 = .ok (.goto (-36), 3) := by decide +kernel
theorem dEc_count_52 : decode prog_4_method_2_code 52 = .ok (.iinc 3 1, 3) := by decide +kernel
theorem dEc_count_55 : decode prog_4_method_2_code 55 = .ok (.goto (-53), 3) := by decide +kernel
theorem dEc_count_58 : decode prog_4_method_2_code 58 = .ok (.aload_n 0, 1) := by decide +kernel
theorem dEc_count_59 : decode prog_4_method_2_code 59 = .ok (.getfield 11, 3) := by decide +kernel
theorem dEc_count_62 : decode prog_4_method_2_code 62 = .ok (.aload_n 1, 1) := by decide +kernel
theorem dEc_count_63 : decode prog_4_method_2_code 63 = .ok (.getfield 16, 3) := by decide +kernel
theorem dEc_count_66 : decode prog_4_method_2_code 66 = .ok (.aaload, 1) := by decide +kernel
theorem dEc_count_67 : decode prog_4_method_2_code 67 = .ok (.aload_n 2, 1) := by decide +kernel
theorem dEc_count_68 : decode prog_4_method_2_code 68 = .ok (.getfield 16, 3) := by decide +kernel
theorem dEc_count_71 : decode prog_4_method_2_code 71 = .ok (.iaload, 1) := by decide +kernel
theorem dEc_count_72 : decode prog_4_method_2_code 72 = .ok (.ireturn, 1) := by decide +kernel
theorem dSv_length_0 : decode prog_27_method_6_code 0 = .ok (.aload_n 0, 1) := by decide +kernel
theorem dSv_length_1 : decode prog_27_method_6_code 1 = .ok (.arraylength, 1) := by decide +kernel
theorem dSv_length_2 : decode prog_27_method_6_code 2 = .ok (.iconst 1, 1) := by decide +kernel
theorem dSv_length_3 : decode prog_27_method_6_code 3 = .ok (.ishr, 1) := by decide +kernel
theorem dSv_length_4 : decode prog_27_method_6_code 4 = .ok (.ireturn, 1) := by decide +kernel
theorem dMa_min2_0 : decode prog_23_method_70_code 0 = .ok (.lload_n 0, 1) := by decide +kernel
theorem dMa_min2_1 : decode prog_23_method_70_code 1 = .ok (.lload_n 2, 1) := by decide +kernel
theorem dMa_min2_2 : decode prog_23_method_70_code 2 = .ok (.lcmp, 1) := by decide +kernel
theorem dMa_min2_3 : decode prog_23_method_70_code 3 = .ok (.ifCond .gt 7, 3) := by decide +kernel
theorem dMa_min2_6 : decode prog_23_method_70_code 6 = .ok (.lload_n 0, 1) := by decide +kernel
theorem dMa_min2_7 : decode prog_23_method_70_code 7 = .ok (.goto 4, 3) := by decide +kernel
theorem dMa_min2_10 : decode prog_23_method_70_code 10 = .ok (.lload_n 2, 1) := by decide +kernel
theorem dMa_min2_11 : decode prog_23_method_70_code 11 = .ok (.lreturn, 1) := by decide +kernel
theorem dRs_positionKey_0 : decode prog_9_method_6_code 0 = .ok (.aload_n 0, 1) := by decide +kernel
theorem dRs_positionKey_1 : decode prog_9_method_6_code 1 = .ok (.getfield 7, 3) := by decide +kernel
theorem dRs_positionKey_4 : decode prog_9_method_6_code 4 = .ok (.ifCond .eq 20, 3) := by decide +kernel
theorem dRs_positionKey_7 : decode prog_9_method_6_code 7 = .ok (.aload_n 0, 1) := by decide +kernel
theorem dRs_positionKey_8 : decode prog_9_method_6_code 8 = .ok (.getfield 54, 3) := by decide +kernel
theorem dRs_positionKey_11 : decode prog_9_method_6_code 11 = .ok (.i2l, 1) := by decide +kernel
theorem dRs_positionKey_12 : decode prog_9_method_6_code 12 = .ok (.bipush 32, 2) := by decide +kernel
theorem dRs_positionKey_14 : decode prog_9_method_6_code 14 = .ok (.lshl, 1) := by decide +kernel
theorem dRs_positionKey_15 : decode prog_9_method_6_code 15 = .ok (.aload_n 0, 1) := by decide +kernel
theorem dRs_positionKey_16 : decode prog_9_method_6_code 16 = .ok (.getfield 57, 3) := by decide +kernel
theorem dRs_positionKey_19 : decode prog_9_method_6_code 19 = .ok (.i2l, 1) := by decide +kernel
theorem dRs_positionKey_20 : decode prog_9_method_6_code 20 = .ok (.ladd, 1) := by decide +kernel
theorem dRs_positionKey_21 : decode prog_9_method_6_code 21 = .ok (.goto 4, 3) := by decide +kernel
theorem dRs_positionKey_24 : decode prog_9_method_6_code 24 = .ok (.lconst 0, 1) := by decide +kernel
theorem dRs_positionKey_25 : decode prog_9_method_6_code 25 = .ok (.lreturn, 1) := by decide +kernel
theorem dP_routeKey_0 : decode prog_1_method_40_code 0 = .ok (.aload_n 1, 1) := by decide +kernel
theorem dP_routeKey_1 : decode prog_1_method_40_code 1 = .ok (.ifnonnull 5, 3) := by decide +kernel
theorem dP_routeKey_4 : decode prog_1_method_40_code 4 = .ok (.lconst 0, 1) := by decide +kernel
theorem dP_routeKey_5 : decode prog_1_method_40_code 5 = .ok (.lreturn, 1) := by decide +kernel
theorem dP_routeKey_6 : decode prog_1_method_40_code 6 = .ok (.aload_n 0, 1) := by decide +kernel
theorem dP_routeKey_7 : decode prog_1_method_40_code 7 = .ok (.getfield 69, 3) := by decide +kernel
theorem dP_routeKey_10 : decode prog_1_method_40_code 10 = .ok (.aload_n 0, 1) := by decide +kernel
theorem dP_routeKey_11 : decode prog_1_method_40_code 11 = .ok (.getfield 32, 3) := by decide +kernel
theorem dP_routeKey_14 : decode prog_1_method_40_code 14 = .ok (.aload_n 1, 1) := by decide +kernel
theorem dP_routeKey_15 : decode prog_1_method_40_code 15 = .ok (.invokevirtual 372, 3) := by decide +kernel
theorem dP_routeKey_18 : decode prog_1_method_40_code 18 = .ok (.aload_n 0, 1) := by decide +kernel
theorem dP_routeKey_19 : decode prog_1_method_40_code 19 = .ok (.getfield 69, 3) := by decide +kernel
theorem dP_routeKey_22 : decode prog_1_method_40_code 22 = .ok (.invokevirtual 412, 3) := by decide +kernel
theorem dP_routeKey_25 : decode prog_1_method_40_code 25 = .ok (.lreturn, 1) := by decide +kernel
theorem dHi_add_0 : decode prog_5_method_3_code 0 = .ok (.aload_n 0, 1) := by decide +kernel
theorem dHi_add_1 : decode prog_5_method_3_code 1 = .ok (.getfield 19, 3) := by decide +kernel
theorem dHi_add_4 : decode prog_5_method_3_code 4 = .ok (.bipush 30, 2) := by decide +kernel
theorem dHi_add_6 : decode prog_5_method_3_code 6 = .ok (.if_icmp .lt 4, 3) := by decide +kernel
theorem dHi_add_9 : decode prog_5_method_3_code 9 = .ok (.return_, 1) := by decide +kernel
theorem dHi_add_10 : decode prog_5_method_3_code 10 = .ok (.aload_n 0, 1) := by decide +kernel
theorem dHi_add_11 : decode prog_5_method_3_code 11 = .ok (.getfield 19, 3) := by decide +kernel
theorem dHi_add_14 : decode prog_5_method_3_code 14 = .ok (.istore 4, 2) := by decide +kernel
theorem dHi_add_16 : decode prog_5_method_3_code 16 = .ok (.iload 4, 2) := by decide +kernel
theorem dHi_add_18 : decode prog_5_method_3_code 18 = .ok (.ifCond .le 55, 3) := by decide +kernel
theorem dHi_add_21 : decode prog_5_method_3_code 21 = .ok (.aload_n 0, 1) := by decide +kernel
theorem dHi_add_22 : decode prog_5_method_3_code 22 = .ok (.getfield 15, 3) := by decide +kernel
theorem dHi_add_25 : decode prog_5_method_3_code 25 = .ok (.iload 4, 2) := by decide +kernel
theorem dHi_add_27 : decode prog_5_method_3_code 27 = .ok (.iconst 1, 1) := by decide +kernel
theorem dHi_add_28 : decode prog_5_method_3_code 28 = .ok (.isub, 1) := by decide +kernel
theorem dHi_add_29 : decode prog_5_method_3_code 29 = .ok (.laload, 1) := by decide +kernel
theorem dHi_add_30 : decode prog_5_method_3_code 30 = .ok (.lload_n 2, 1) := by decide +kernel
theorem dHi_add_31 : decode prog_5_method_3_code 31 = .ok (.lcmp, 1) := by decide +kernel
theorem dHi_add_32 : decode prog_5_method_3_code 32 = .ok (.ifCond .le 41, 3) := by decide +kernel
theorem dHi_add_35 : decode prog_5_method_3_code 35 = .ok (.aload_n 0, 1) := by decide +kernel
theorem dHi_add_36 : decode prog_5_method_3_code 36 = .ok (.getfield 15, 3) := by decide +kernel
theorem dHi_add_39 : decode prog_5_method_3_code 39 = .ok (.iload 4, 2) := by decide +kernel
theorem dHi_add_41 : decode prog_5_method_3_code 41 = .ok (.aload_n 0, 1) := by decide +kernel
theorem dHi_add_42 : decode prog_5_method_3_code 42 = .ok (.getfield 15, 3) := by decide +kernel
theorem dHi_add_45 : decode prog_5_method_3_code 45 = .ok (.iload 4, 2) := by decide +kernel
theorem dHi_add_47 : decode prog_5_method_3_code 47 = .ok (.iconst 1, 1) := by decide +kernel
theorem dHi_add_48 : decode prog_5_method_3_code 48 = .ok (.isub, 1) := by decide +kernel
theorem dHi_add_49 : decode prog_5_method_3_code 49 = .ok (.laload, 1) := by decide +kernel
theorem dHi_add_50 : decode prog_5_method_3_code 50 = .ok (.lastore, 1) := by decide +kernel
theorem dHi_add_51 : decode prog_5_method_3_code 51 = .ok (.aload_n 0, 1) := by decide +kernel
theorem dHi_add_52 : decode prog_5_method_3_code 52 = .ok (.getfield 9, 3) := by decide +kernel
theorem dHi_add_55 : decode prog_5_method_3_code 55 = .ok (.iload 4, 2) := by decide +kernel
theorem dHi_add_57 : decode prog_5_method_3_code 57 = .ok (.aload_n 0, 1) := by decide +kernel
theorem dHi_add_58 : decode prog_5_method_3_code 58 = .ok (.getfield 9, 3) := by decide +kernel
theorem dHi_add_61 : decode prog_5_method_3_code 61 = .ok (.iload 4, 2) := by decide +kernel
theorem dHi_add_63 : decode prog_5_method_3_code 63 = .ok (.iconst 1, 1) := by decide +kernel
theorem dHi_add_64 : decode prog_5_method_3_code 64 = .ok (.isub, 1) := by decide +kernel
theorem dHi_add_65 : decode prog_5_method_3_code 65 = .ok (.iaload, 1) := by decide +kernel
theorem dHi_add_66 : decode prog_5_method_3_code 66 = .ok (.iastore, 1) := by decide +kernel
theorem dHi_add_67 : decode prog_5_method_3_code 67 = .ok (.iinc 4 (-1), 3) := by decide +kernel
theorem dHi_add_70 : decode prog_5_method_3_code 70 = .ok (.goto (-54), 3) := by decide +kernel
theorem dHi_add_73 : decode prog_5_method_3_code 73 = .ok (.aload_n 0, 1) := by decide +kernel
theorem dHi_add_74 : decode prog_5_method_3_code 74 = .ok (.getfield 15, 3) := by decide +kernel
theorem dHi_add_77 : decode prog_5_method_3_code 77 = .ok (.iload 4, 2) := by decide +kernel
theorem dHi_add_79 : decode prog_5_method_3_code 79 = .ok (.lload_n 2, 1) := by decide +kernel
theorem dHi_add_80 : decode prog_5_method_3_code 80 = .ok (.lastore, 1) := by decide +kernel
theorem dHi_add_81 : decode prog_5_method_3_code 81 = .ok (.aload_n 0, 1) := by decide +kernel
theorem dHi_add_82 : decode prog_5_method_3_code 82 = .ok (.getfield 9, 3) := by decide +kernel
theorem dHi_add_85 : decode prog_5_method_3_code 85 = .ok (.iload 4, 2) := by decide +kernel
theorem dHi_add_87 : decode prog_5_method_3_code 87 = .ok (.iload_n 1, 1) := by decide +kernel
theorem dHi_add_88 : decode prog_5_method_3_code 88 = .ok (.iastore, 1) := by decide +kernel
theorem dHi_add_89 : decode prog_5_method_3_code 89 = .ok (.aload_n 0, 1) := by decide +kernel
theorem dHi_add_90 : decode prog_5_method_3_code 90 = .ok (.dup, 1) := by decide +kernel
theorem dHi_add_91 : decode prog_5_method_3_code 91 = .ok (.getfield 19, 3) := by decide +kernel
theorem dHi_add_94 : decode prog_5_method_3_code 94 = .ok (.iconst 1, 1) := by decide +kernel
theorem dHi_add_95 : decode prog_5_method_3_code 95 = .ok (.iadd, 1) := by decide +kernel
theorem dHi_add_96 : decode prog_5_method_3_code 96 = .ok (.putfield 19, 3) := by decide +kernel
theorem dHi_add_99 : decode prog_5_method_3_code 99 = .ok (.return_, 1) := by decide +kernel
theorem dHi_keepFirst_0 : decode prog_5_method_4_code 0 = .ok (.aload_n 0, 1) := by decide +kernel
theorem dHi_keepFirst_1 : decode prog_5_method_4_code 1 = .ok (.aload_n 0, 1) := by decide +kernel
theorem dHi_keepFirst_2 : decode prog_5_method_4_code 2 = .ok (.getfield 19, 3) := by decide +kernel
theorem dHi_keepFirst_5 : decode prog_5_method_4_code 5 = .ok (.iload_n 1, 1) := by decide +kernel
theorem dHi_keepFirst_6 : decode prog_5_method_4_code 6 = .ok (.invokestatic 23, 3) := by decide +kernel
theorem dHi_keepFirst_9 : decode prog_5_method_4_code 9 = .ok (.putfield 19, 3) := by decide +kernel
theorem dHi_keepFirst_12 : decode prog_5_method_4_code 12 = .ok (.return_, 1) := by decide +kernel
theorem dP_watchOf_0 : decode prog_1_method_29_code 0 = .ok (.iload_n 1, 1) := by decide +kernel
theorem dP_watchOf_1 : decode prog_1_method_29_code 1 = .ok (.ifCond .lt 17, 3) := by decide +kernel
theorem dP_watchOf_4 : decode prog_1_method_29_code 4 = .ok (.iload_n 1, 1) := by decide +kernel
theorem dP_watchOf_5 : decode prog_1_method_29_code 5 = .ok (.iconst 4, 1) := by decide +kernel
theorem dP_watchOf_6 : decode prog_1_method_29_code 6 = .ok (.if_icmp .ge 12, 3) := by decide +kernel
theorem dP_watchOf_9 : decode prog_1_method_29_code 9 = .ok (.aload_n 0, 1) := by decide +kernel
theorem dP_watchOf_10 : decode prog_1_method_29_code 10 = .ok (.getfield 48, 3) := by decide +kernel
theorem dP_watchOf_13 : decode prog_1_method_29_code 13 = .ok (.iload_n 1, 1) := by decide +kernel
theorem dP_watchOf_14 : decode prog_1_method_29_code 14 = .ok (.aaload, 1) := by decide +kernel
theorem dP_watchOf_15 : decode prog_1_method_29_code 15 = .ok (.goto 4, 3) := by decide +kernel
theorem dP_watchOf_18 : decode prog_1_method_29_code 18 = .ok (.aconst_null, 1) := by decide +kernel
theorem dP_watchOf_19 : decode prog_1_method_29_code 19 = .ok (.areturn, 1) := by decide +kernel
theorem dWa_hasTold_0 : decode prog_10_method_2_code 0 = .ok (.aload_n 0, 1) := by decide +kernel
theorem dWa_hasTold_1 : decode prog_10_method_2_code 1 = .ok (.getfield 16, 3) := by decide +kernel
theorem dWa_hasTold_4 : decode prog_10_method_2_code 4 = .ok (.iconst 1, 1) := by decide +kernel
theorem dWa_hasTold_5 : decode prog_10_method_2_code 5 = .ok (.iload_n 1, 1) := by decide +kernel
theorem dWa_hasTold_6 : decode prog_10_method_2_code 6 = .ok (.ishl, 1) := by decide +kernel
theorem dWa_hasTold_7 : decode prog_10_method_2_code 7 = .ok (.iand, 1) := by decide +kernel
theorem dWa_hasTold_8 : decode prog_10_method_2_code 8 = .ok (.ifCond .eq 7, 3) := by decide +kernel
theorem dWa_hasTold_11 : decode prog_10_method_2_code 11 = .ok (.iconst 1, 1) := by decide +kernel
theorem dWa_hasTold_12 : decode prog_10_method_2_code 12 = .ok (.goto 4, 3) := by decide +kernel
theorem dWa_hasTold_15 : decode prog_10_method_2_code 15 = .ok (.iconst 0, 1) := by decide +kernel
theorem dWa_hasTold_16 : decode prog_10_method_2_code 16 = .ok (.ireturn, 1) := by decide +kernel
theorem dM_init_0 : decode prog_13_method_1_code 0 = .ok (.aload_n 0, 1) := by decide +kernel
theorem dM_init_1 : decode prog_13_method_1_code 1 = .ok (.invokespecial 1, 3) := by decide +kernel
theorem dM_init_4 : decode prog_13_method_1_code 4 = .ok (.aload_n 0, 1) := by decide +kernel
theorem dM_init_5 : decode prog_13_method_1_code 5 = .ok (.bipush 30, 2) := by decide +kernel
theorem dM_init_7 : decode prog_13_method_1_code 7 = .ok (.newarray .int, 2) := by decide +kernel
theorem dM_init_9 : decode prog_13_method_1_code 9 = .ok (.putfield 7, 3) := by decide +kernel
theorem dM_init_12 : decode prog_13_method_1_code 12 = .ok (.aload_n 0, 1) := by decide +kernel
theorem dM_init_13 : decode prog_13_method_1_code 13 = .ok (.bipush 30, 2) := by decide +kernel
theorem dM_init_15 : decode prog_13_method_1_code 15 = .ok (.newarray .int, 2) := by decide +kernel
theorem dM_init_17 : decode prog_13_method_1_code 17 = .ok (.putfield 13, 3) := by decide +kernel
theorem dM_init_20 : decode prog_13_method_1_code 20 = .ok (.aload_n 0, 1) := by decide +kernel
theorem dM_init_21 : decode prog_13_method_1_code 21 = .ok (.bipush 30, 2) := by decide +kernel
theorem dM_init_23 : decode prog_13_method_1_code 23 = .ok (.newarray .int, 2) := by decide +kernel
theorem dM_init_25 : decode prog_13_method_1_code 25 = .ok (.putfield 16, 3) := by decide +kernel
theorem dM_init_28 : decode prog_13_method_1_code 28 = .ok (.aload_n 0, 1) := by decide +kernel
theorem dM_init_29 : decode prog_13_method_1_code 29 = .ok (.bipush 90, 2) := by decide +kernel
theorem dM_init_31 : decode prog_13_method_1_code 31 = .ok (.newarray .int, 2) := by decide +kernel
theorem dM_init_33 : decode prog_13_method_1_code 33 = .ok (.putfield 19, 3) := by decide +kernel
theorem dM_init_36 : decode prog_13_method_1_code 36 = .ok (.aload_n 0, 1) := by decide +kernel
theorem dM_init_37 : decode prog_13_method_1_code 37 = .ok (.bipush 90, 2) := by decide +kernel
theorem dM_init_39 : decode prog_13_method_1_code 39 = .ok (.newarray .int, 2) := by decide +kernel
theorem dM_init_41 : decode prog_13_method_1_code 41 = .ok (.putfield 22, 3) := by decide +kernel
theorem dM_init_44 : decode prog_13_method_1_code 44 = .ok (.aload_n 0, 1) := by decide +kernel
theorem dM_init_45 : decode prog_13_method_1_code 45 = .ok (.sipush 720, 3) := by decide +kernel
theorem dM_init_48 : decode prog_13_method_1_code 48 = .ok (.newarray .int, 2) := by decide +kernel
theorem dM_init_50 : decode prog_13_method_1_code 50 = .ok (.putfield 25, 3) := by decide +kernel
theorem dM_init_53 : decode prog_13_method_1_code 53 = .ok (.aload_n 0, 1) := by decide +kernel
theorem dM_init_54 : decode prog_13_method_1_code 54 = .ok (.sipush 720, 3) := by decide +kernel
theorem dM_init_57 : decode prog_13_method_1_code 57 = .ok (.newarray .int, 2) := by decide +kernel
theorem dM_init_59 : decode prog_13_method_1_code 59 = .ok (.putfield 28, 3) := by decide +kernel
theorem dM_init_62 : decode prog_13_method_1_code 62 = .ok (.aload_n 0, 1) := by decide +kernel
theorem dM_init_63 : decode prog_13_method_1_code 63 = .ok (.bipush 30, 2) := by decide +kernel
theorem dM_init_65 : decode prog_13_method_1_code 65 = .ok (.newarray .int, 2) := by decide +kernel
theorem dM_init_67 : decode prog_13_method_1_code 67 = .ok (.putfield 31, 3) := by decide +kernel
theorem dM_init_70 : decode prog_13_method_1_code 70 = .ok (.aload_n 0, 1) := by decide +kernel
theorem dM_init_71 : decode prog_13_method_1_code 71 = .ok (.bipush 60, 2) := by decide +kernel
theorem dM_init_73 : decode prog_13_method_1_code 73 = .ok (.newarray .int, 2) := by decide +kernel
theorem dM_init_75 : decode prog_13_method_1_code 75 = .ok (.putfield 34, 3) := by decide +kernel
theorem dM_init_78 : decode prog_13_method_1_code 78 = .ok (.aload_n 0, 1) := by decide +kernel
theorem dM_init_79 : decode prog_13_method_1_code 79 = .ok (.bipush 60, 2) := by decide +kernel
theorem dM_init_81 : decode prog_13_method_1_code 81 = .ok (.newarray .int, 2) := by decide +kernel
theorem dM_init_83 : decode prog_13_method_1_code 83 = .ok (.putfield 37, 3) := by decide +kernel
theorem dM_init_86 : decode prog_13_method_1_code 86 = .ok (.aload_n 0, 1) := by decide +kernel
theorem dM_init_87 : decode prog_13_method_1_code 87 = .ok (.bipush 60, 2) := by decide +kernel
theorem dM_init_89 : decode prog_13_method_1_code 89 = .ok (.newarray .int, 2) := by decide +kernel
theorem dM_init_91 : decode prog_13_method_1_code 91 = .ok (.putfield 40, 3) := by decide +kernel
theorem dM_init_94 : decode prog_13_method_1_code 94 = .ok (.aload_n 0, 1) := by decide +kernel
theorem dM_init_95 : decode prog_13_method_1_code 95 = .ok (.sipush 600, 3) := by decide +kernel
theorem dM_init_98 : decode prog_13_method_1_code 98 = .ok (.newarray .int, 2) := by decide +kernel
theorem dM_init_100 : decode prog_13_method_1_code 100 = .ok (.putfield 43, 3) := by decide +kernel
theorem dM_init_103 : decode prog_13_method_1_code 103 = .ok (.aload_n 0, 1) := by decide +kernel
theorem dM_init_104 : decode prog_13_method_1_code 104 = .ok (.bipush 30, 2) := by decide +kernel
theorem dM_init_106 : decode prog_13_method_1_code 106 = .ok (.newarray .int, 2) := by decide +kernel
theorem dM_init_108 : decode prog_13_method_1_code 108 = .ok (.putfield 46, 3) := by decide +kernel
theorem dM_init_111 : decode prog_13_method_1_code 111 = .ok (.aload_n 0, 1) := by decide +kernel
theorem dM_init_112 : decode prog_13_method_1_code 112 = .ok (.bipush 120, 2) := by decide +kernel
theorem dM_init_114 : decode prog_13_method_1_code 114 = .ok (.newarray .int, 2) := by decide +kernel
theorem dM_init_116 : decode prog_13_method_1_code 116 = .ok (.putfield 49, 3) := by decide +kernel
theorem dM_init_119 : decode prog_13_method_1_code 119 = .ok (.aload_n 0, 1) := by decide +kernel
theorem dM_init_120 : decode prog_13_method_1_code 120 = .ok (.bipush 120, 2) := by decide +kernel
theorem dM_init_122 : decode prog_13_method_1_code 122 = .ok (.newarray .int, 2) := by decide +kernel
theorem dM_init_124 : decode prog_13_method_1_code 124 = .ok (.putfield 52, 3) := by decide +kernel
theorem dM_init_127 : decode prog_13_method_1_code 127 = .ok (.aload_n 0, 1) := by decide +kernel
theorem dM_init_128 : decode prog_13_method_1_code 128 = .ok (.bipush 120, 2) := by decide +kernel
theorem dM_init_130 : decode prog_13_method_1_code 130 = .ok (.newarray .int, 2) := by decide +kernel
theorem dM_init_132 : decode prog_13_method_1_code 132 = .ok (.putfield 55, 3) := by decide +kernel
theorem dM_init_135 : decode prog_13_method_1_code 135 = .ok (.aload_n 0, 1) := by decide +kernel
theorem dM_init_136 : decode prog_13_method_1_code 136 = .ok (.bipush 8, 2) := by decide +kernel
theorem dM_init_138 : decode prog_13_method_1_code 138 = .ok (.newarray .int, 2) := by decide +kernel
theorem dM_init_140 : decode prog_13_method_1_code 140 = .ok (.putfield 58, 3) := by decide +kernel
theorem dM_init_143 : decode prog_13_method_1_code 143 = .ok (.aload_n 0, 1) := by decide +kernel
theorem dM_init_144 : decode prog_13_method_1_code 144 = .ok (.bipush 8, 2) := by decide +kernel
theorem dM_init_146 : decode prog_13_method_1_code 146 = .ok (.newarray .int, 2) := by decide +kernel
theorem dM_init_148 : decode prog_13_method_1_code 148 = .ok (.putfield 61, 3) := by decide +kernel
theorem dM_init_151 : decode prog_13_method_1_code 151 = .ok (.aload_n 0, 1) := by decide +kernel
theorem dM_init_152 : decode prog_13_method_1_code 152 = .ok (.bipush 10, 2) := by decide +kernel
theorem dM_init_154 : decode prog_13_method_1_code 154 = .ok (.newarray .int, 2) := by decide +kernel
theorem dM_init_156 : decode prog_13_method_1_code 156 = .ok (.putfield 64, 3) := by decide +kernel
theorem dM_init_159 : decode prog_13_method_1_code 159 = .ok (.aload_n 0, 1) := by decide +kernel
theorem dM_init_160 : decode prog_13_method_1_code 160 = .ok (.iconst 5, 1) := by decide +kernel
theorem dM_init_161 : decode prog_13_method_1_code 161 = .ok (.newarray .int, 2) := by decide +kernel
theorem dM_init_163 : decode prog_13_method_1_code 163 = .ok (.putfield 67, 3) := by decide +kernel
theorem dM_init_166 : decode prog_13_method_1_code 166 = .ok (.aload_n 0, 1) := by decide +kernel
theorem dM_init_167 : decode prog_13_method_1_code 167 = .ok (.bipush 25, 2) := by decide +kernel
theorem dM_init_169 : decode prog_13_method_1_code 169 = .ok (.newarray .int, 2) := by decide +kernel
theorem dM_init_171 : decode prog_13_method_1_code 171 = .ok (.putfield 70, 3) := by decide +kernel
theorem dM_init_174 : decode prog_13_method_1_code 174 = .ok (.aload_n 0, 1) := by decide +kernel
theorem dM_init_175 : decode prog_13_method_1_code 175 = .ok (.bipush 25, 2) := by decide +kernel
theorem dM_init_177 : decode prog_13_method_1_code 177 = .ok (.newarray .int, 2) := by decide +kernel
theorem dM_init_179 : decode prog_13_method_1_code 179 = .ok (.putfield 73, 3) := by decide +kernel
theorem dM_init_182 : decode prog_13_method_1_code 182 = .ok (.aload_n 0, 1) := by decide +kernel
theorem dM_init_183 : decode prog_13_method_1_code 183 = .ok (.bipush 25, 2) := by decide +kernel
theorem dM_init_185 : decode prog_13_method_1_code 185 = .ok (.newarray .int, 2) := by decide +kernel
theorem dM_init_187 : decode prog_13_method_1_code 187 = .ok (.putfield 76, 3) := by decide +kernel
theorem dM_init_190 : decode prog_13_method_1_code 190 = .ok (.aload_n 0, 1) := by decide +kernel
theorem dM_init_191 : decode prog_13_method_1_code 191 = .ok (.bipush 25, 2) := by decide +kernel
theorem dM_init_193 : decode prog_13_method_1_code 193 = .ok (.newarray .int, 2) := by decide +kernel
theorem dM_init_195 : decode prog_13_method_1_code 195 = .ok (.putfield 79, 3) := by decide +kernel
theorem dM_init_198 : decode prog_13_method_1_code 198 = .ok (.aload_n 0, 1) := by decide +kernel
theorem dM_init_199 : decode prog_13_method_1_code 199 = .ok (.bipush 25, 2) := by decide +kernel
theorem dM_init_201 : decode prog_13_method_1_code 201 = .ok (.newarray .int, 2) := by decide +kernel
theorem dM_init_203 : decode prog_13_method_1_code 203 = .ok (.putfield 82, 3) := by decide +kernel
theorem dM_init_206 : decode prog_13_method_1_code 206 = .ok (.aload_n 0, 1) := by decide +kernel
theorem dM_init_207 : decode prog_13_method_1_code 207 = .ok (.sipush 250, 3) := by decide +kernel
theorem dM_init_210 : decode prog_13_method_1_code 210 = .ok (.newarray .int, 2) := by decide +kernel
theorem dM_init_212 : decode prog_13_method_1_code 212 = .ok (.putfield 85, 3) := by decide +kernel
theorem dM_init_215 : decode prog_13_method_1_code 215 = .ok (.aload_n 0, 1) := by decide +kernel
theorem dM_init_216 : decode prog_13_method_1_code 216 = .ok (.iconst 5, 1) := by decide +kernel
theorem dM_init_217 : decode prog_13_method_1_code 217 = .ok (.newarray .int, 2) := by decide +kernel
theorem dM_init_219 : decode prog_13_method_1_code 219 = .ok (.putfield 88, 3) := by decide +kernel
theorem dM_init_222 : decode prog_13_method_1_code 222 = .ok (.aload_n 0, 1) := by decide +kernel
theorem dM_init_223 : decode prog_13_method_1_code 223 = .ok (.bipush 40, 2) := by decide +kernel
theorem dM_init_225 : decode prog_13_method_1_code 225 = .ok (.newarray .int, 2) := by decide +kernel
theorem dM_init_227 : decode prog_13_method_1_code 227 = .ok (.putfield 91, 3) := by decide +kernel
theorem dM_init_230 : decode prog_13_method_1_code 230 = .ok (.aload_n 0, 1) := by decide +kernel
theorem dM_init_231 : decode prog_13_method_1_code 231 = .ok (.bipush 40, 2) := by decide +kernel
theorem dM_init_233 : decode prog_13_method_1_code 233 = .ok (.newarray .int, 2) := by decide +kernel
theorem dM_init_235 : decode prog_13_method_1_code 235 = .ok (.putfield 94, 3) := by decide +kernel
theorem dM_init_238 : decode prog_13_method_1_code 238 = .ok (.aload_n 0, 1) := by decide +kernel
theorem dM_init_239 : decode prog_13_method_1_code 239 = .ok (.iconst 5, 1) := by decide +kernel
theorem dM_init_240 : decode prog_13_method_1_code 240 = .ok (.newarray .int, 2) := by decide +kernel
theorem dM_init_242 : decode prog_13_method_1_code 242 = .ok (.putfield 97, 3) := by decide +kernel
theorem dM_init_245 : decode prog_13_method_1_code 245 = .ok (.aload_n 0, 1) := by decide +kernel
theorem dM_init_246 : decode prog_13_method_1_code 246 = .ok (.iconst 5, 1) := by decide +kernel
theorem dM_init_247 : decode prog_13_method_1_code 247 = .ok (.newarray .boolean, 2) := by decide +kernel
theorem dM_init_249 : decode prog_13_method_1_code 249 = .ok (.putfield 100, 3) := by decide +kernel
theorem dM_init_252 : decode prog_13_method_1_code 252 = .ok (.aload_n 0, 1) := by decide +kernel
theorem dM_init_253 : decode prog_13_method_1_code 253 = .ok (.iconst 5, 1) := by decide +kernel
theorem dM_init_254 : decode prog_13_method_1_code 254 = .ok (.newarray .int, 2) := by decide +kernel
theorem dM_init_256 : decode prog_13_method_1_code 256 = .ok (.putfield 104, 3) := by decide +kernel
theorem dM_init_259 : decode prog_13_method_1_code 259 = .ok (.aload_n 0, 1) := by decide +kernel
theorem dM_init_260 : decode prog_13_method_1_code 260 = .ok (.bipush 30, 2) := by decide +kernel
theorem dM_init_262 : decode prog_13_method_1_code 262 = .ok (.newarray .int, 2) := by decide +kernel
theorem dM_init_264 : decode prog_13_method_1_code 264 = .ok (.putfield 107, 3) := by decide +kernel
theorem dM_init_267 : decode prog_13_method_1_code 267 = .ok (.aload_n 0, 1) := by decide +kernel
theorem dM_init_268 : decode prog_13_method_1_code 268 = .ok (.bipush 10, 2) := by decide +kernel
theorem dM_init_270 : decode prog_13_method_1_code 270 = .ok (.newarray .int, 2) := by decide +kernel
theorem dM_init_272 : decode prog_13_method_1_code 272 = .ok (.putfield 110, 3) := by decide +kernel
theorem dM_init_275 : decode prog_13_method_1_code 275 = .ok (.aload_n 0, 1) := by decide +kernel
theorem dM_init_276 : decode prog_13_method_1_code 276 = .ok (.bipush 121, 2) := by decide +kernel
theorem dM_init_278 : decode prog_13_method_1_code 278 = .ok (.newarray .int, 2) := by decide +kernel
theorem dM_init_280 : decode prog_13_method_1_code 280 = .ok (.putfield 113, 3) := by decide +kernel
theorem dM_init_283 : decode prog_13_method_1_code 283 = .ok (.aload_n 0, 1) := by decide +kernel
theorem dM_init_284 : decode prog_13_method_1_code 284 = .ok (.bipush 30, 2) := by decide +kernel
theorem dM_init_286 : decode prog_13_method_1_code 286 = .ok (.newarray .int, 2) := by decide +kernel
theorem dM_init_288 : decode prog_13_method_1_code 288 = .ok (.putfield 116, 3) := by decide +kernel
theorem dM_init_291 : decode prog_13_method_1_code 291 = .ok (.aload_n 0, 1) := by decide +kernel
theorem dM_init_292 : decode prog_13_method_1_code 292 = .ok (.bipush 30, 2) := by decide +kernel
theorem dM_init_294 : decode prog_13_method_1_code 294 = .ok (.newarray .int, 2) := by decide +kernel
theorem dM_init_296 : decode prog_13_method_1_code 296 = .ok (.putfield 119, 3) := by decide +kernel
theorem dM_init_299 : decode prog_13_method_1_code 299 = .ok (.aload_n 0, 1) := by decide +kernel
theorem dM_init_300 : decode prog_13_method_1_code 300 = .ok (.bipush 30, 2) := by decide +kernel
theorem dM_init_302 : decode prog_13_method_1_code 302 = .ok (.newarray .int, 2) := by decide +kernel
