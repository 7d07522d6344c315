theorem dM_measure_74 : decode prog_13_method_42_code 74 = .ok (.lload 11, 2) := by decide +kernel
theorem dM_measure_76 : decode prog_13_method_42_code 76 = .ok (.lconst 0, 1) := by decide +kernel
theorem dM_measure_77 : decode prog_13_method_42_code 77 = .ok (.lcmp, 1) := by decide +kernel
theorem dM_measure_78 : decode prog_13_method_42_code 78 = .ok (.ifCond .ne 38, 3) := by decide +kernel
theorem dM_measure_81 : decode prog_13_method_42_code 81 = .ok (.aload_n 0, 1) := by decide +kernel
theorem dM_measure_82 : decode prog_13_method_42_code 82 = .ok (.iload 5, 2) := by decide +kernel
theorem dM_measure_84 : decode prog_13_method_42_code 84 = .ok (.iload_n 1, 1) := by decide +kernel
theorem dM_measure_85 : decode prog_13_method_42_code 85 = .ok (.isub, 1) := by decide +kernel
theorem dM_measure_86 : decode prog_13_method_42_code 86 = .ok (.i2l, 1) := by decide +kernel
theorem dM_measure_87 : decode prog_13_method_42_code 87 = .ok (.iload 5, 2) := by decide +kernel
theorem dM_measure_89 : decode prog_13_method_42_code 89 = .ok (.iload_n 1, 1) := by decide +kernel
theorem dM_measure_90 : decode prog_13_method_42_code 90 = .ok (.isub, 1) := by decide +kernel
theorem dM_measure_91 : decode prog_13_method_42_code 91 = .ok (.i2l, 1) := by decide +kernel
theorem dM_measure_92 : decode prog_13_method_42_code 92 = .ok (.lmul, 1) := by decide +kernel
theorem dM_measure_93 : decode prog_13_method_42_code 93 = .ok (.iload 6, 2) := by decide +kernel
theorem dM_measure_95 : decode prog_13_method_42_code 95 = .ok (.iload_n 2, 1) := by decide +kernel
theorem dM_measure_96 : decode prog_13_method_42_code 96 = .ok (.isub, 1) := by decide +kernel
theorem dM_measure_97 : decode prog_13_method_42_code 97 = .ok (.i2l, 1) := by decide +kernel
theorem dM_measure_98 : decode prog_13_method_42_code 98 = .ok (.iload 6, 2) := by decide +kernel
theorem dM_measure_100 : decode prog_13_method_42_code 100 = .ok (.iload_n 2, 1) := by decide +kernel
theorem dM_measure_101 : decode prog_13_method_42_code 101 = .ok (.isub, 1) := by decide +kernel
theorem dM_measure_102 : decode prog_13_method_42_code 102 = .ok (.i2l, 1) := by decide +kernel
theorem dM_measure_103 : decode prog_13_method_42_code 103 = .ok (.lmul, 1) := by decide +kernel
theorem dM_measure_104 : decode prog_13_method_42_code 104 = .ok (.ladd, 1) := by decide +kernel
theorem dM_measure_105 : decode prog_13_method_42_code 105 = .ok (.putfield 225, 3) := by decide +kernel
theorem dM_measure_108 : decode prog_13_method_42_code 108 = .ok (.aload_n 0, 1) := by decide +kernel
theorem dM_measure_109 : decode prog_13_method_42_code 109 = .ok (.lconst 0, 1) := by decide +kernel
theorem dM_measure_110 : decode prog_13_method_42_code 110 = .ok (.putfield 228, 3) := by decide +kernel
theorem dM_measure_113 : decode prog_13_method_42_code 113 = .ok (.goto 89, 3) := by decide +kernel
theorem dM_measure_116 : decode prog_13_method_42_code 116 = .ok (.lload 13, 2) := by decide +kernel
theorem dM_measure_118 : decode prog_13_method_42_code 118 = .ok (.lload 11, 2) := by decide +kernel
theorem dM_measure_120 : decode prog_13_method_42_code 120 = .ok (.lcmp, 1) := by decide +kernel
theorem dM_measure_121 : decode prog_13_method_42_code 121 = .ok (.ifCond .lt 41, 3) := by decide +kernel
theorem dM_measure_124 : decode prog_13_method_42_code 124 = .ok (.aload_n 0, 1) := by decide +kernel
theorem dM_measure_125 : decode prog_13_method_42_code 125 = .ok (.iload 5, 2) := by decide +kernel
theorem dM_measure_127 : decode prog_13_method_42_code 127 = .ok (.iload_n 3, 1) := by decide +kernel
theorem dM_measure_128 : decode prog_13_method_42_code 128 = .ok (.isub, 1) := by decide +kernel
theorem dM_measure_129 : decode prog_13_method_42_code 129 = .ok (.i2l, 1) := by decide +kernel
theorem dM_measure_130 : decode prog_13_method_42_code 130 = .ok (.iload 5, 2) := by decide +kernel
theorem dM_measure_132 : decode prog_13_method_42_code 132 = .ok (.iload_n 3, 1) := by decide +kernel
theorem dM_measure_133 : decode prog_13_method_42_code 133 = .ok (.isub, 1) := by decide +kernel
theorem dM_measure_134 : decode prog_13_method_42_code 134 = .ok (.i2l, 1) := by decide +kernel
theorem dM_measure_135 : decode prog_13_method_42_code 135 = .ok (.lmul, 1) := by decide +kernel
theorem dM_measure_136 : decode prog_13_method_42_code 136 = .ok (.iload 6, 2) := by decide +kernel
theorem dM_measure_138 : decode prog_13_method_42_code 138 = .ok (.iload 4, 2) := by decide +kernel
theorem dM_measure_140 : decode prog_13_method_42_code 140 = .ok (.isub, 1) := by decide +kernel
theorem dM_measure_141 : decode prog_13_method_42_code 141 = .ok (.i2l, 1) := by decide +kernel
theorem dM_measure_142 : decode prog_13_method_42_code 142 = .ok (.iload 6, 2) := by decide +kernel
theorem dM_measure_144 : decode prog_13_method_42_code 144 = .ok (.iload 4, 2) := by decide +kernel
theorem dM_measure_146 : decode prog_13_method_42_code 146 = .ok (.isub, 1) := by decide +kernel
theorem dM_measure_147 : decode prog_13_method_42_code 147 = .ok (.i2l, 1) := by decide +kernel
theorem dM_measure_148 : decode prog_13_method_42_code 148 = .ok (.lmul, 1) := by decide +kernel
theorem dM_measure_149 : decode prog_13_method_42_code 149 = .ok (.ladd, 1) := by decide +kernel
theorem dM_measure_150 : decode prog_13_method_42_code 150 = .ok (.putfield 225, 3) := by decide +kernel
theorem dM_measure_153 : decode prog_13_method_42_code 153 = .ok (.aload_n 0, 1) := by decide +kernel
theorem dM_measure_154 : decode prog_13_method_42_code 154 = .ok (.lload 11, 2) := by decide +kernel
theorem dM_measure_156 : decode prog_13_method_42_code 156 = .ok (.putfield 228, 3) := by decide +kernel
theorem dM_measure_159 : decode prog_13_method_42_code 159 = .ok (.goto 43, 3) := by decide +kernel
theorem dM_measure_162 : decode prog_13_method_42_code 162 = .ok (.lload 7, 2) := by decide +kernel
theorem dM_measure_164 : decode prog_13_method_42_code 164 = .ok (.iload 6, 2) := by decide +kernel
theorem dM_measure_166 : decode prog_13_method_42_code 166 = .ok (.iload_n 2, 1) := by decide +kernel
theorem dM_measure_167 : decode prog_13_method_42_code 167 = .ok (.isub, 1) := by decide +kernel
theorem dM_measure_168 : decode prog_13_method_42_code 168 = .ok (.i2l, 1) := by decide +kernel
theorem dM_measure_169 : decode prog_13_method_42_code 169 = .ok (.lmul, 1) := by decide +kernel
theorem dM_measure_170 : decode prog_13_method_42_code 170 = .ok (.lload 9, 2) := by decide +kernel
theorem dM_measure_172 : decode prog_13_method_42_code 172 = .ok (.iload 5, 2) := by decide +kernel
theorem dM_measure_174 : decode prog_13_method_42_code 174 = .ok (.iload_n 1, 1) := by decide +kernel
theorem dM_measure_175 : decode prog_13_method_42_code 175 = .ok (.isub, 1) := by decide +kernel
theorem dM_measure_176 : decode prog_13_method_42_code 176 = .ok (.i2l, 1) := by decide +kernel
theorem dM_measure_177 : decode prog_13_method_42_code 177 = .ok (.lmul, 1) := by decide +kernel
theorem dM_measure_178 : decode prog_13_method_42_code 178 = .ok (.lsub, 1) := by decide +kernel
theorem dM_measure_179 : decode prog_13_method_42_code 179 = .ok (.lstore 15, 2) := by decide +kernel
theorem dM_measure_181 : decode prog_13_method_42_code 181 = .ok (.aload_n 0, 1) := by decide +kernel
theorem dM_measure_182 : decode prog_13_method_42_code 182 = .ok (.lload 15, 2) := by decide +kernel
theorem dM_measure_184 : decode prog_13_method_42_code 184 = .ok (.lload 15, 2) := by decide +kernel
theorem dM_measure_186 : decode prog_13_method_42_code 186 = .ok (.lmul, 1) := by decide +kernel
theorem dM_measure_187 : decode prog_13_method_42_code 187 = .ok (.putfield 225, 3) := by decide +kernel
theorem dM_measure_190 : decode prog_13_method_42_code 190 = .ok (.aload_n 0, 1) := by decide +kernel
theorem dM_measure_191 : decode prog_13_method_42_code 191 = .ok (.lload 11, 2) := by decide +kernel
theorem dM_measure_193 : decode prog_13_method_42_code 193 = .ok (.putfield 222, 3) := by decide +kernel
theorem dM_measure_196 : decode prog_13_method_42_code 196 = .ok (.aload_n 0, 1) := by decide +kernel
theorem dM_measure_197 : decode prog_13_method_42_code 197 = .ok (.lload 13, 2) := by decide +kernel
theorem dM_measure_199 : decode prog_13_method_42_code 199 = .ok (.putfield 228, 3) := by decide +kernel
theorem dM_measure_202 : decode prog_13_method_42_code 202 = .ok (.return_, 1) := by decide +kernel
theorem dM_isNearer_0 : decode prog_13_method_43_code 0 = .ok (.aload_n 0, 1) := by decide +kernel
theorem dM_isNearer_1 : decode prog_13_method_43_code 1 = .ok (.getfield 231, 3) := by decide +kernel
theorem dM_isNearer_4 : decode prog_13_method_43_code 4 = .ok (.iconst (-1), 1) := by decide +kernel
theorem dM_isNearer_5 : decode prog_13_method_43_code 5 = .ok (.if_icmp .ne 5, 3) := by decide +kernel
theorem dM_isNearer_8 : decode prog_13_method_43_code 8 = .ok (.iconst 1, 1) := by decide +kernel
theorem dM_isNearer_9 : decode prog_13_method_43_code 9 = .ok (.ireturn, 1) := by decide +kernel
theorem dM_isNearer_10 : decode prog_13_method_43_code 10 = .ok (.aload_n 0, 1) := by decide +kernel
theorem dM_isNearer_11 : decode prog_13_method_43_code 11 = .ok (.getfield 225, 3) := by decide +kernel
theorem dM_isNearer_14 : decode prog_13_method_43_code 14 = .ok (.aload_n 0, 1) := by decide +kernel
theorem dM_isNearer_15 : decode prog_13_method_43_code 15 = .ok (.getfield 222, 3) := by decide +kernel
theorem dM_isNearer_18 : decode prog_13_method_43_code 18 = .ok (.aload_n 0, 1) := by decide +kernel
theorem dM_isNearer_19 : decode prog_13_method_43_code 19 = .ok (.getfield 234, 3) := by decide +kernel
theorem dM_isNearer_22 : decode prog_13_method_43_code 22 = .ok (.aload_n 0, 1) := by decide +kernel
theorem dM_isNearer_23 : decode prog_13_method_43_code 23 = .ok (.getfield 237, 3) := by decide +kernel
theorem dM_isNearer_26 : decode prog_13_method_43_code 26 = .ok (.invokestatic 240, 3) := by decide +kernel
theorem dM_isNearer_29 : decode prog_13_method_43_code 29 = .ok (.istore_n 2, 1) := by decide +kernel
theorem dM_isNearer_30 : decode prog_13_method_43_code 30 = .ok (.iload_n 2, 1) := by decide +kernel
theorem dM_isNearer_31 : decode prog_13_method_43_code 31 = .ok (.ifCond .ne 10, 3) := by decide +kernel
theorem dM_isNearer_34 : decode prog_13_method_43_code 34 = .ok (.iload_n 1, 1) := by decide +kernel
theorem dM_isNearer_35 : decode prog_13_method_43_code 35 = .ok (.aload_n 0, 1) := by decide +kernel
theorem dM_isNearer_36 : decode prog_13_method_43_code 36 = .ok (.getfield 231, 3) := by decide +kernel
theorem dM_isNearer_39 : decode prog_13_method_43_code 39 = .ok (.isub, 1) := by decide +kernel
theorem dM_isNearer_40 : decode prog_13_method_43_code 40 = .ok (.istore_n 2, 1) := by decide +kernel
theorem dM_isNearer_41 : decode prog_13_method_43_code 41 = .ok (.iload_n 2, 1) := by decide +kernel
theorem dM_isNearer_42 : decode prog_13_method_43_code 42 = .ok (.ifCond .ne 23, 3) := by decide +kernel
theorem dM_isNearer_45 : decode prog_13_method_43_code 45 = .ok (.aload_n 0, 1) := by decide +kernel
theorem dM_isNearer_46 : decode prog_13_method_43_code 46 = .ok (.getfield 228, 3) := by decide +kernel
theorem dM_isNearer_49 : decode prog_13_method_43_code 49 = .ok (.aload_n 0, 1) := by decide +kernel
theorem dM_isNearer_50 : decode prog_13_method_43_code 50 = .ok (.getfield 218, 3) := by decide +kernel
theorem dM_isNearer_53 : decode prog_13_method_43_code 53 = .ok (.aload_n 0, 1) := by decide +kernel
theorem dM_isNearer_54 : decode prog_13_method_43_code 54 = .ok (.getfield 244, 3) := by decide +kernel
theorem dM_isNearer_57 : decode prog_13_method_43_code 57 = .ok (.aload_n 0, 1) := by decide +kernel
theorem dM_isNearer_58 : decode prog_13_method_43_code 58 = .ok (.getfield 247, 3) := by decide +kernel
theorem dM_isNearer_61 : decode prog_13_method_43_code 61 = .ok (.invokestatic 240, 3) := by decide +kernel
theorem dM_isNearer_64 : decode prog_13_method_43_code 64 = .ok (.istore_n 2, 1) := by decide +kernel
theorem dM_isNearer_65 : decode prog_13_method_43_code 65 = .ok (.iload_n 2, 1) := by decide +kernel
theorem dM_isNearer_66 : decode prog_13_method_43_code 66 = .ok (.ifCond .ge 7, 3) := by decide +kernel
theorem dM_isNearer_69 : decode prog_13_method_43_code 69 = .ok (.iconst 1, 1) := by decide +kernel
theorem dM_isNearer_70 : decode prog_13_method_43_code 70 = .ok (.goto 4, 3) := by decide +kernel
theorem dM_isNearer_73 : decode prog_13_method_43_code 73 = .ok (.iconst 0, 1) := by decide +kernel
theorem dM_isNearer_74 : decode prog_13_method_43_code 74 = .ok (.ireturn, 1) := by decide +kernel
theorem dM_nearest_0 : decode prog_13_method_44_code 0 = .ok (.aload_n 0, 1) := by decide +kernel
theorem dM_nearest_1 : decode prog_13_method_44_code 1 = .ok (.iload_n 1, 1) := by decide +kernel
theorem dM_nearest_2 : decode prog_13_method_44_code 2 = .ok (.iload_n 2, 1) := by decide +kernel
theorem dM_nearest_3 : decode prog_13_method_44_code 3 = .ok (.invokevirtual 161, 3) := by decide +kernel
theorem dM_nearest_6 : decode prog_13_method_44_code 6 = .ok (.istore 4, 2) := by decide +kernel
theorem dM_nearest_8 : decode prog_13_method_44_code 8 = .ok (.aload_n 0, 1) := by decide +kernel
theorem dM_nearest_9 : decode prog_13_method_44_code 9 = .ok (.iconst (-1), 1) := by decide +kernel
theorem dM_nearest_10 : decode prog_13_method_44_code 10 = .ok (.putfield 231, 3) := by decide +kernel
theorem dM_nearest_13 : decode prog_13_method_44_code 13 = .ok (.iconst 0, 1) := by decide +kernel
theorem dM_nearest_14 : decode prog_13_method_44_code 14 = .ok (.istore 5, 2) := by decide +kernel
theorem dM_nearest_16 : decode prog_13_method_44_code 16 = .ok (.iload 5, 2) := by decide +kernel
theorem dM_nearest_18 : decode prog_13_method_44_code 18 = .ok (.aload_n 0, 1) := by decide +kernel
theorem dM_nearest_19 : decode prog_13_method_44_code 19 = .ok (.getfield 22, 3) := by decide +kernel
theorem dM_nearest_22 : decode prog_13_method_44_code 22 = .ok (.iload 4, 2) := by decide +kernel
theorem dM_nearest_24 : decode prog_13_method_44_code 24 = .ok (.iaload, 1) := by decide +kernel
theorem dM_nearest_25 : decode prog_13_method_44_code 25 = .ok (.if_icmp .ge 152, 3) := by decide +kernel
theorem dM_nearest_28 : decode prog_13_method_44_code 28 = .ok (.iconst 0, 1) := by decide +kernel
theorem dM_nearest_29 : decode prog_13_method_44_code 29 = .ok (.istore 6, 2) := by decide +kernel
theorem dM_nearest_31 : decode prog_13_method_44_code 31 = .ok (.iload 6, 2) := by decide +kernel
theorem dM_nearest_33 : decode prog_13_method_44_code 33 = .ok (.iconst 1, 1) := by decide +kernel
theorem dM_nearest_34 : decode prog_13_method_44_code 34 = .ok (.iadd, 1) := by decide +kernel
theorem dM_nearest_35 : decode prog_13_method_44_code 35 = .ok (.aload_n 0, 1) := by decide +kernel
theorem dM_nearest_36 : decode prog_13_method_44_code 36 = .ok (.getfield 88, 3) := by decide +kernel
theorem dM_nearest_39 : decode prog_13_method_44_code 39 = .ok (.iload_n 3, 1) := by decide +kernel
theorem dM_nearest_40 : decode prog_13_method_44_code 40 = .ok (.iaload, 1) := by decide +kernel
theorem dM_nearest_41 : decode prog_13_method_44_code 41 = .ok (.if_icmp .ge 130, 3) := by decide +kernel
theorem dM_nearest_44 : decode prog_13_method_44_code 44 = .ok (.bipush 8, 2) := by decide +kernel
theorem dM_nearest_46 : decode prog_13_method_44_code 46 = .ok (.iload_n 3, 1) := by decide +kernel
theorem dM_nearest_47 : decode prog_13_method_44_code 47 = .ok (.imul, 1) := by decide +kernel
theorem dM_nearest_48 : decode prog_13_method_44_code 48 = .ok (.iload 6, 2) := by decide +kernel
theorem dM_nearest_50 : decode prog_13_method_44_code 50 = .ok (.iadd, 1) := by decide +kernel
theorem dM_nearest_51 : decode prog_13_method_44_code 51 = .ok (.istore 7, 2) := by decide +kernel
theorem dM_nearest_53 : decode prog_13_method_44_code 53 = .ok (.aload_n 0, 1) := by decide +kernel
theorem dM_nearest_54 : decode prog_13_method_44_code 54 = .ok (.aload_n 0, 1) := by decide +kernel
theorem dM_nearest_55 : decode prog_13_method_44_code 55 = .ok (.getfield 91, 3) := by decide +kernel
theorem dM_nearest_58 : decode prog_13_method_44_code 58 = .ok (.iload 7, 2) := by decide +kernel
theorem dM_nearest_60 : decode prog_13_method_44_code 60 = .ok (.iaload, 1) := by decide +kernel
theorem dM_nearest_61 : decode prog_13_method_44_code 61 = .ok (.aload_n 0, 1) := by decide +kernel
theorem dM_nearest_62 : decode prog_13_method_44_code 62 = .ok (.getfield 94, 3) := by decide +kernel
theorem dM_nearest_65 : decode prog_13_method_44_code 65 = .ok (.iload 7, 2) := by decide +kernel
theorem dM_nearest_67 : decode prog_13_method_44_code 67 = .ok (.iaload, 1) := by decide +kernel
theorem dM_nearest_68 : decode prog_13_method_44_code 68 = .ok (.aload_n 0, 1) := by decide +kernel
theorem dM_nearest_69 : decode prog_13_method_44_code 69 = .ok (.getfield 91, 3) := by decide +kernel
theorem dM_nearest_72 : decode prog_13_method_44_code 72 = .ok (.iload 7, 2) := by decide +kernel
theorem dM_nearest_74 : decode prog_13_method_44_code 74 = .ok (.iconst 1, 1) := by decide +kernel
theorem dM_nearest_75 : decode prog_13_method_44_code 75 = .ok (.iadd, 1) := by decide +kernel
theorem dM_nearest_76 : decode prog_13_method_44_code 76 = .ok (.iaload, 1) := by decide +kernel
theorem dM_nearest_77 : decode prog_13_method_44_code 77 = .ok (.aload_n 0, 1) := by decide +kernel
theorem dM_nearest_78 : decode prog_13_method_44_code 78 = .ok (.getfield 94, 3) := by decide +kernel
theorem dM_nearest_81 : decode prog_13_method_44_code 81 = .ok (.iload 7, 2) := by decide +kernel
theorem dM_nearest_83 : decode prog_13_method_44_code 83 = .ok (.iconst 1, 1) := by decide +kernel
theorem dM_nearest_84 : decode prog_13_method_44_code 84 = .ok (.iadd, 1) := by decide +kernel
theorem dM_nearest_85 : decode prog_13_method_44_code 85 = .ok (.iaload, 1) := by decide +kernel
theorem dM_nearest_86 : decode prog_13_method_44_code 86 = .ok (.aload_n 0, 1) := by decide +kernel
theorem dM_nearest_87 : decode prog_13_method_44_code 87 = .ok (.getfield 25, 3) := by decide +kernel
theorem dM_nearest_90 : decode prog_13_method_44_code 90 = .ok (.bipush 8, 2) := by decide +kernel
theorem dM_nearest_92 : decode prog_13_method_44_code 92 = .ok (.iload 4, 2) := by decide +kernel
theorem dM_nearest_94 : decode prog_13_method_44_code 94 = .ok (.imul, 1) := by decide +kernel
theorem dM_nearest_95 : decode prog_13_method_44_code 95 = .ok (.iload 5, 2) := by decide +kernel
theorem dM_nearest_97 : decode prog_13_method_44_code 97 = .ok (.iadd, 1) := by decide +kernel
theorem dM_nearest_98 : decode prog_13_method_44_code 98 = .ok (.iaload, 1) := by decide +kernel
theorem dM_nearest_99 : decode prog_13_method_44_code 99 = .ok (.aload_n 0, 1) := by decide +kernel
theorem dM_nearest_100 : decode prog_13_method_44_code 100 = .ok (.getfield 28, 3) := by decide +kernel
theorem dM_nearest_103 : decode prog_13_method_44_code 103 = .ok (.bipush 8, 2) := by decide +kernel
theorem dM_nearest_105 : decode prog_13_method_44_code 105 = .ok (.iload 4, 2) := by decide +kernel
theorem dM_nearest_107 : decode prog_13_method_44_code 107 = .ok (.imul, 1) := by decide +kernel
theorem dM_nearest_108 : decode prog_13_method_44_code 108 = .ok (.iload 5, 2) := by decide +kernel
theorem dM_nearest_110 : decode prog_13_method_44_code 110 = .ok (.iadd, 1) := by decide +kernel
theorem dM_nearest_111 : decode prog_13_method_44_code 111 = .ok (.iaload, 1) := by decide +kernel
theorem dM_nearest_112 : decode prog_13_method_44_code 112 = .ok (.invokevirtual 250, 3) := by decide +kernel
theorem dM_nearest_115 : decode prog_13_method_44_code 115 = .ok (.aload_n 0, 1) := by decide +kernel
theorem dM_nearest_116 : decode prog_13_method_44_code 116 = .ok (.iload 6, 2) := by decide +kernel
theorem dM_nearest_118 : decode prog_13_method_44_code 118 = .ok (.invokevirtual 254, 3) := by decide +kernel
theorem dM_nearest_121 : decode prog_13_method_44_code 121 = .ok (.ifCond .ne 6, 3) := by decide +kernel
theorem dM_nearest_124 : decode prog_13_method_44_code 124 = .ok (.goto 41, 3) := by decide +kernel
theorem dM_nearest_127 : decode prog_13_method_44_code 127 = .ok (.aload_n 0, 1) := by decide +kernel
theorem dM_nearest_128 : decode prog_13_method_44_code 128 = .ok (.iload 6, 2) := by decide +kernel
theorem dM_nearest_130 : decode prog_13_method_44_code 130 = .ok (.putfield 231, 3) := by decide +kernel
theorem dM_nearest_133 : decode prog_13_method_44_code 133 = .ok (.aload_n 0, 1) := by decide +kernel
theorem dM_nearest_134 : decode prog_13_method_44_code 134 = .ok (.aload_n 0, 1) := by decide +kernel
theorem dM_nearest_135 : decode prog_13_method_44_code 135 = .ok (.getfield 225, 3) := by decide +kernel
theorem dM_nearest_138 : decode prog_13_method_44_code 138 = .ok (.putfield 234, 3) := by decide +kernel
theorem dM_nearest_141 : decode prog_13_method_44_code 141 = .ok (.aload_n 0, 1) := by decide +kernel
theorem dM_nearest_142 : decode prog_13_method_44_code 142 = .ok (.aload_n 0, 1) := by decide +kernel
theorem dM_nearest_143 : decode prog_13_method_44_code 143 = .ok (.getfield 222, 3) := by decide +kernel
theorem dM_nearest_146 : decode prog_13_method_44_code 146 = .ok (.putfield 237, 3) := by decide +kernel
theorem dM_nearest_149 : decode prog_13_method_44_code 149 = .ok (.aload_n 0, 1) := by decide +kernel
theorem dM_nearest_150 : decode prog_13_method_44_code 150 = .ok (.aload_n 0, 1) := by decide +kernel
theorem dM_nearest_151 : decode prog_13_method_44_code 151 = .ok (.getfield 228, 3) := by decide +kernel
theorem dM_nearest_154 : decode prog_13_method_44_code 154 = .ok (.putfield 244, 3) := by decide +kernel
theorem dM_nearest_157 : decode prog_13_method_44_code 157 = .ok (.aload_n 0, 1) := by decide +kernel
theorem dM_nearest_158 : decode prog_13_method_44_code 158 = .ok (.aload_n 0, 1) := by decide +kernel
theorem dM_nearest_159 : decode prog_13_method_44_code 159 = .ok (.getfield 218, 3) := by decide +kernel
theorem dM_nearest_162 : decode prog_13_method_44_code 162 = .ok (.putfield 247, 3) := by decide +kernel
theorem dM_nearest_165 : decode prog_13_method_44_code 165 = .ok (.iinc 6 1, 3) := by decide +kernel
theorem dM_nearest_168 : decode prog_13_method_44_code 168 = .ok (.goto (-137), 3) := by decide +kernel
theorem dM_nearest_171 : decode prog_13_method_44_code 171 = .ok (.iinc 5 1, 3) := by decide +kernel
theorem dM_nearest_174 : decode prog_13_method_44_code 174 = .ok (.goto (-158), 3) := by decide +kernel
theorem dM_nearest_177 : decode prog_13_method_44_code 177 = .ok (.return_, 1) := by decide +kernel
theorem dM_isOnRoute_0 : decode prog_13_method_45_code 0 = .ok (.aload_n 0, 1) := by decide +kernel
theorem dM_isOnRoute_1 : decode prog_13_method_45_code 1 = .ok (.getfield 88, 3) := by decide +kernel
theorem dM_isOnRoute_4 : decode prog_13_method_45_code 4 = .ok (.iload_n 3, 1) := by decide +kernel
theorem dM_isOnRoute_5 : decode prog_13_method_45_code 5 = .ok (.iaload, 1) := by decide +kernel
theorem dM_isOnRoute_6 : decode prog_13_method_45_code 6 = .ok (.iconst 2, 1) := by decide +kernel
theorem dM_isOnRoute_7 : decode prog_13_method_45_code 7 = .ok (.if_icmp .ge 5, 3) := by decide +kernel
theorem dM_isOnRoute_10 : decode prog_13_method_45_code 10 = .ok (.iconst 0, 1) := by decide +kernel
theorem dM_isOnRoute_11 : decode prog_13_method_45_code 11 = .ok (.ireturn, 1) := by decide +kernel
theorem dM_isOnRoute_12 : decode prog_13_method_45_code 12 = .ok (.aload_n 0, 1) := by decide +kernel
theorem dM_isOnRoute_13 : decode prog_13_method_45_code 13 = .ok (.iload_n 1, 1) := by decide +kernel
theorem dM_isOnRoute_14 : decode prog_13_method_45_code 14 = .ok (.iload_n 2, 1) := by decide +kernel
theorem dM_isOnRoute_15 : decode prog_13_method_45_code 15 = .ok (.iload_n 3, 1) := by decide +kernel
theorem dM_isOnRoute_16 : decode prog_13_method_45_code 16 = .ok (.invokevirtual 257, 3) := by decide +kernel
theorem dM_isOnRoute_19 : decode prog_13_method_45_code 19 = .ok (.aload_n 0, 1) := by decide +kernel
theorem dM_isOnRoute_20 : decode prog_13_method_45_code 20 = .ok (.getfield 234, 3) := by decide +kernel
theorem dM_isOnRoute_23 : decode prog_13_method_45_code 23 = .ok (.iload 4, 2) := by decide +kernel
theorem dM_isOnRoute_25 : decode prog_13_method_45_code 25 = .ok (.i2l, 1) := by decide +kernel
theorem dM_isOnRoute_26 : decode prog_13_method_45_code 26 = .ok (.iload 4, 2) := by decide +kernel
theorem dM_isOnRoute_28 : decode prog_13_method_45_code 28 = .ok (.i2l, 1) := by decide +kernel
theorem dM_isOnRoute_29 : decode prog_13_method_45_code 29 = .ok (.lmul, 1) := by decide +kernel
theorem dM_isOnRoute_30 : decode prog_13_method_45_code 30 = .ok (.aload_n 0, 1) := by decide +kernel
theorem dM_isOnRoute_31 : decode prog_13_method_45_code 31 = .ok (.getfield 237, 3) := by decide +kernel
theorem dM_isOnRoute_34 : decode prog_13_method_45_code 34 = .ok (.lmul, 1) := by decide +kernel
theorem dM_isOnRoute_35 : decode prog_13_method_45_code 35 = .ok (.lcmp, 1) := by decide +kernel
theorem dM_isOnRoute_36 : decode prog_13_method_45_code 36 = .ok (.ifCond .gt 7, 3) := by decide +kernel
theorem dM_isOnRoute_39 : decode prog_13_method_45_code 39 = .ok (.iconst 1, 1) := by decide +kernel
theorem dM_isOnRoute_40 : decode prog_13_method_45_code 40 = .ok (.goto 4, 3) := by decide +kernel
theorem dM_isOnRoute_43 : decode prog_13_method_45_code 43 = .ok (.iconst 0, 1) := by decide +kernel
theorem dM_isOnRoute_44 : decode prog_13_method_45_code 44 = .ok (.ireturn, 1) := by decide +kernel
theorem dM_meets_0 : decode prog_13_method_46_code 0 = .ok (.aload_n 0, 1) := by decide +kernel
theorem dM_meets_1 : decode prog_13_method_46_code 1 = .ok (.iload_n 1, 1) := by decide +kernel
theorem dM_meets_2 : decode prog_13_method_46_code 2 = .ok (.iload_n 2, 1) := by decide +kernel
theorem dM_meets_3 : decode prog_13_method_46_code 3 = .ok (.invokevirtual 261, 3) := by decide +kernel
theorem dM_meets_6 : decode prog_13_method_46_code 6 = .ok (.istore 4, 2) := by decide +kernel
theorem dM_meets_8 : decode prog_13_method_46_code 8 = .ok (.iconst 0, 1) := by decide +kernel
theorem dM_meets_9 : decode prog_13_method_46_code 9 = .ok (.istore 5, 2) := by decide +kernel
theorem dM_meets_11 : decode prog_13_method_46_code 11 = .ok (.iload 5, 2) := by decide +kernel
theorem dM_meets_13 : decode prog_13_method_46_code 13 = .ok (.aload_n 0, 1) := by decide +kernel
theorem dM_meets_14 : decode prog_13_method_46_code 14 = .ok (.getfield 67, 3) := by decide +kernel
theorem dM_meets_17 : decode prog_13_method_46_code 17 = .ok (.iload_n 3, 1) := by decide +kernel
theorem dM_meets_18 : decode prog_13_method_46_code 18 = .ok (.iaload, 1) := by decide +kernel
theorem dM_meets_19 : decode prog_13_method_46_code 19 = .ok (.if_icmp .ge 209, 3) := by decide +kernel
theorem dM_meets_22 : decode prog_13_method_46_code 22 = .ok (.iload 4, 2) := by decide +kernel
theorem dM_meets_24 : decode prog_13_method_46_code 24 = .ok (.ifCond .eq 204, 3) := by decide +kernel
theorem dM_meets_27 : decode prog_13_method_46_code 27 = .ok (.iconst 5, 1) := by decide +kernel
theorem dM_meets_28 : decode prog_13_method_46_code 28 = .ok (.iload_n 3, 1) := by decide +kernel
theorem dM_meets_29 : decode prog_13_method_46_code 29 = .ok (.imul, 1) := by decide +kernel
theorem dM_meets_30 : decode prog_13_method_46_code 30 = .ok (.iload 5, 2) := by decide +kernel
theorem dM_meets_32 : decode prog_13_method_46_code 32 = .ok (.iadd, 1) := by decide +kernel
theorem dM_meets_33 : decode prog_13_method_46_code 33 = .ok (.istore 6, 2) := by decide +kernel
theorem dM_meets_35 : decode prog_13_method_46_code 35 = .ok (.aload_n 0, 1) := by decide +kernel
theorem dM_meets_36 : decode prog_13_method_46_code 36 = .ok (.getfield 73, 3) := by decide +kernel
theorem dM_meets_39 : decode prog_13_method_46_code 39 = .ok (.iload 6, 2) := by decide +kernel
theorem dM_meets_41 : decode prog_13_method_46_code 41 = .ok (.iaload, 1) := by decide +kernel
theorem dM_meets_42 : decode prog_13_method_46_code 42 = .ok (.istore 7, 2) := by decide +kernel
theorem dM_meets_44 : decode prog_13_method_46_code 44 = .ok (.aload_n 0, 1) := by decide +kernel
theorem dM_meets_45 : decode prog_13_method_46_code 45 = .ok (.getfield 70, 3) := by decide +kernel
theorem dM_meets_48 : decode prog_13_method_46_code 48 = .ok (.iload 6, 2) := by decide +kernel
theorem dM_meets_50 : decode prog_13_method_46_code 50 = .ok (.iaload, 1) := by decide +kernel
theorem dM_meets_51 : decode prog_13_method_46_code 51 = .ok (.istore 8, 2) := by decide +kernel
theorem dM_meets_53 : decode prog_13_method_46_code 53 = .ok (.iload 8, 2) := by decide +kernel
theorem dM_meets_55 : decode prog_13_method_46_code 55 = .ok (.iconst 4, 1) := by decide +kernel
theorem dM_meets_56 : decode prog_13_method_46_code 56 = .ok (.if_icmp .ge 16, 3) := by decide +kernel
theorem dM_meets_59 : decode prog_13_method_46_code 59 = .ok (.aload_n 0, 1) := by decide +kernel
theorem dM_meets_60 : decode prog_13_method_46_code 60 = .ok (.iload_n 1, 1) := by decide +kernel
theorem dM_meets_61 : decode prog_13_method_46_code 61 = .ok (.iload_n 2, 1) := by decide +kernel
theorem dM_meets_62 : decode prog_13_method_46_code 62 = .ok (.iload 6, 2) := by decide +kernel
theorem dM_meets_64 : decode prog_13_method_46_code 64 = .ok (.invokevirtual 264, 3) := by decide +kernel
theorem dM_meets_67 : decode prog_13_method_46_code 67 = .ok (.istore 4, 2) := by decide +kernel
theorem dM_meets_69 : decode prog_13_method_46_code 69 = .ok (.goto 153, 3) := by decide +kernel
theorem dM_meets_72 : decode prog_13_method_46_code 72 = .ok (.iload 8, 2) := by decide +kernel
theorem dM_meets_74 : decode prog_13_method_46_code 74 = .ok (.iconst 4, 1) := by decide +kernel
theorem dM_meets_75 : decode prog_13_method_46_code 75 = .ok (.if_icmp .ne 24, 3) := by decide +kernel
theorem dM_meets_78 : decode prog_13_method_46_code 78 = .ok (.aload_n 0, 1) := by decide +kernel
theorem dM_meets_79 : decode prog_13_method_46_code 79 = .ok (.getfield 7, 3) := by decide +kernel
theorem dM_meets_82 : decode prog_13_method_46_code 82 = .ok (.iload_n 1, 1) := by decide +kernel
theorem dM_meets_83 : decode prog_13_method_46_code 83 = .ok (.iaload, 1) := by decide +kernel
theorem dM_meets_84 : decode prog_13_method_46_code 84 = .ok (.iload 7, 2) := by decide +kernel
theorem dM_meets_86 : decode prog_13_method_46_code 86 = .ok (.if_icmp .ne 7, 3) := by decide +kernel
theorem dM_meets_89 : decode prog_13_method_46_code 89 = .ok (.iconst 1, 1) := by decide +kernel
theorem dM_meets_90 : decode prog_13_method_46_code 90 = .ok (.goto 4, 3) := by decide +kernel
theorem dM_meets_93 : decode prog_13_method_46_code 93 = .ok (.iconst 0, 1) := by decide +kernel
theorem dM_meets_94 : decode prog_13_method_46_code 94 = .ok (.istore 4, 2) := by decide +kernel
theorem dM_meets_96 : decode prog_13_method_46_code 96 = .ok (.goto 126, 3) := by decide +kernel
theorem dM_meets_99 : decode prog_13_method_46_code 99 = .ok (.iload 8, 2) := by decide +kernel
theorem dM_meets_101 : decode prog_13_method_46_code 101 = .ok (.iconst 5, 1) := by decide +kernel
theorem dM_meets_102 : decode prog_13_method_46_code 102 = .ok (.if_icmp .ne 16, 3) := by decide +kernel
theorem dM_meets_105 : decode prog_13_method_46_code 105 = .ok (.aload_n 0, 1) := by decide +kernel
theorem dM_meets_106 : decode prog_13_method_46_code 106 = .ok (.iload_n 1, 1) := by decide +kernel
theorem dM_meets_107 : decode prog_13_method_46_code 107 = .ok (.iload 7, 2) := by decide +kernel
theorem dM_meets_109 : decode prog_13_method_46_code 109 = .ok (.iload_n 2, 1) := by decide +kernel
theorem dM_meets_110 : decode prog_13_method_46_code 110 = .ok (.invokevirtual 267, 3) := by decide +kernel
theorem dM_meets_113 : decode prog_13_method_46_code 113 = .ok (.istore 4, 2) := by decide +kernel
theorem dM_meets_115 : decode prog_13_method_46_code 115 = .ok (.goto 107, 3) := by decide +kernel
theorem dM_meets_118 : decode prog_13_method_46_code 118 = .ok (.iload 8, 2) := by decide +kernel
theorem dM_meets_120 : decode prog_13_method_46_code 120 = .ok (.bipush 6, 2) := by decide +kernel
theorem dM_meets_122 : decode prog_13_method_46_code 122 = .ok (.if_icmp .ne 39, 3) := by decide +kernel
theorem dM_meets_125 : decode prog_13_method_46_code 125 = .ok (.aload_n 0, 1) := by decide +kernel
theorem dM_meets_126 : decode prog_13_method_46_code 126 = .ok (.iload_n 1, 1) := by decide +kernel
theorem dM_meets_127 : decode prog_13_method_46_code 127 = .ok (.iload_n 2, 1) := by decide +kernel
theorem dM_meets_128 : decode prog_13_method_46_code 128 = .ok (.invokevirtual 202, 3) := by decide +kernel
theorem dM_meets_131 : decode prog_13_method_46_code 131 = .ok (.iconst (-1), 1) := by decide +kernel
theorem dM_meets_132 : decode prog_13_method_46_code 132 = .ok (.if_icmp .eq 23, 3) := by decide +kernel
theorem dM_meets_135 : decode prog_13_method_46_code 135 = .ok (.aload_n 0, 1) := by decide +kernel
theorem dM_meets_136 : decode prog_13_method_46_code 136 = .ok (.iload 7, 2) := by decide +kernel
theorem dM_meets_138 : decode prog_13_method_46_code 138 = .ok (.aload_n 0, 1) := by decide +kernel
theorem dM_meets_139 : decode prog_13_method_46_code 139 = .ok (.iload_n 1, 1) := by decide +kernel
theorem dM_meets_140 : decode prog_13_method_46_code 140 = .ok (.iload_n 2, 1) := by decide +kernel
theorem dM_meets_141 : decode prog_13_method_46_code 141 = .ok (.invokevirtual 202, 3) := by decide +kernel
theorem dM_meets_144 : decode prog_13_method_46_code 144 = .ok (.iload_n 2, 1) := by decide +kernel
theorem dM_meets_145 : decode prog_13_method_46_code 145 = .ok (.invokevirtual 205, 3) := by decide +kernel
theorem dM_meets_148 : decode prog_13_method_46_code 148 = .ok (.ifCond .eq 7, 3) := by decide +kernel
theorem dM_meets_151 : decode prog_13_method_46_code 151 = .ok (.iconst 1, 1) := by decide +kernel
theorem dM_meets_152 : decode prog_13_method_46_code 152 = .ok (.goto 4, 3) := by decide +kernel
theorem dM_meets_155 : decode prog_13_method_46_code 155 = .ok (.iconst 0, 1) := by decide +kernel
theorem dM_meets_156 : decode prog_13_method_46_code 156 = .ok (.istore 4, 2) := by decide +kernel
theorem dM_meets_158 : decode prog_13_method_46_code 158 = .ok (.goto 64, 3) := by decide +kernel
theorem dM_meets_161 : decode prog_13_method_46_code 161 = .ok (.iload 8, 2) := by decide +kernel
theorem dM_meets_163 : decode prog_13_method_46_code 163 = .ok (.bipush 7, 2) := by decide +kernel
theorem dM_meets_165 : decode prog_13_method_46_code 165 = .ok (.if_icmp .ne 46, 3) := by decide +kernel
theorem dM_meets_168 : decode prog_13_method_46_code 168 = .ok (.aload_n 0, 1) := by decide +kernel
theorem dM_meets_169 : decode prog_13_method_46_code 169 = .ok (.iload_n 1, 1) := by decide +kernel
theorem dM_meets_170 : decode prog_13_method_46_code 170 = .ok (.iload_n 2, 1) := by decide +kernel
theorem dM_meets_171 : decode prog_13_method_46_code 171 = .ok (.iload 7, 2) := by decide +kernel
theorem dM_meets_173 : decode prog_13_method_46_code 173 = .ok (.aload_n 0, 1) := by decide +kernel
theorem dM_meets_174 : decode prog_13_method_46_code 174 = .ok (.getfield 76, 3) := by decide +kernel
theorem dM_meets_177 : decode prog_13_method_46_code 177 = .ok (.iload 6, 2) := by decide +kernel
theorem dM_meets_179 : decode prog_13_method_46_code 179 = .ok (.iaload, 1) := by decide +kernel
theorem dM_meets_180 : decode prog_13_method_46_code 180 = .ok (.invokevirtual 270, 3) := by decide +kernel
theorem dM_meets_183 : decode prog_13_method_46_code 183 = .ok (.aload_n 0, 1) := by decide +kernel
theorem dM_meets_184 : decode prog_13_method_46_code 184 = .ok (.getfield 79, 3) := by decide +kernel
theorem dM_meets_187 : decode prog_13_method_46_code 187 = .ok (.iload 6, 2) := by decide +kernel
theorem dM_meets_189 : decode prog_13_method_46_code 189 = .ok (.iaload, 1) := by decide +kernel
theorem dM_meets_190 : decode prog_13_method_46_code 190 = .ok (.aload_n 0, 1) := by decide +kernel
theorem dM_meets_191 : decode prog_13_method_46_code 191 = .ok (.getfield 79, 3) := by decide +kernel
theorem dM_meets_194 : decode prog_13_method_46_code 194 = .ok (.iload 6, 2) := by decide +kernel
theorem dM_meets_196 : decode prog_13_method_46_code 196 = .ok (.iaload, 1) := by decide +kernel
theorem dM_meets_197 : decode prog_13_method_46_code 197 = .ok (.imul, 1) := by decide +kernel
theorem dM_meets_198 : decode prog_13_method_46_code 198 = .ok (.if_icmp .gt 7, 3) := by decide +kernel
theorem dM_meets_201 : decode prog_13_method_46_code 201 = .ok (.iconst 1, 1) := by decide +kernel
theorem dM_meets_202 : decode prog_13_method_46_code 202 = .ok (.goto 4, 3) := by decide +kernel
theorem dM_meets_205 : decode prog_13_method_46_code 205 = .ok (.iconst 0, 1) := by decide +kernel
theorem dM_meets_206 : decode prog_13_method_46_code 206 = .ok (.istore 4, 2) := by decide +kernel
theorem dM_meets_208 : decode prog_13_method_46_code 208 = .ok (.goto 14, 3) := by decide +kernel
theorem dM_meets_211 : decode prog_13_method_46_code 211 = .ok (.aload_n 0, 1) := by decide +kernel
theorem dM_meets_212 : decode prog_13_method_46_code 212 = .ok (.iload_n 1, 1) := by decide +kernel
theorem dM_meets_213 : decode prog_13_method_46_code 213 = .ok (.iload_n 2, 1) := by decide +kernel
theorem dM_meets_214 : decode prog_13_method_46_code 214 = .ok (.iload_n 3, 1) := by decide +kernel
theorem dM_meets_215 : decode prog_13_method_46_code 215 = .ok (.iload 7, 2) := by decide +kernel
theorem dM_meets_217 : decode prog_13_method_46_code 217 = .ok (.invokevirtual 274, 3) := by decide +kernel
theorem dM_meets_220 : decode prog_13_method_46_code 220 = .ok (.istore 4, 2) := by decide +kernel
theorem dM_meets_222 : decode prog_13_method_46_code 222 = .ok (.iinc 5 1, 3) := by decide +kernel
theorem dM_meets_225 : decode prog_13_method_46_code 225 = .ok (.goto (-214), 3) := by decide +kernel
theorem dM_meets_228 : decode prog_13_method_46_code 228 = .ok (.iload 4, 2) := by decide +kernel
theorem dM_meets_230 : decode prog_13_method_46_code 230 = .ok (.ireturn, 1) := by decide +kernel
theorem dM_compareWords_0 : decode prog_13_method_47_code 0 = .ok (.iconst 0, 1) := by decide +kernel
theorem dM_compareWords_1 : decode prog_13_method_47_code 1 = .ok (.istore_n 3, 1) := by decide +kernel
theorem dM_compareWords_2 : decode prog_13_method_47_code 2 = .ok (.iload_n 3, 1) := by decide +kernel
theorem dM_compareWords_3 : decode prog_13_method_47_code 3 = .ok (.aload_n 0, 1) := by decide +kernel
theorem dM_compareWords_4 : decode prog_13_method_47_code 4 = .ok (.getfield 40, 3) := by decide +kernel
theorem dM_compareWords_7 : decode prog_13_method_47_code 7 = .ok (.iload_n 1, 1) := by decide +kernel
theorem dM_compareWords_8 : decode prog_13_method_47_code 8 = .ok (.iaload, 1) := by decide +kernel
theorem dM_compareWords_9 : decode prog_13_method_47_code 9 = .ok (.if_icmp .ge 44, 3) := by decide +kernel
theorem dM_compareWords_12 : decode prog_13_method_47_code 12 = .ok (.iload_n 3, 1) := by decide +kernel
theorem dM_compareWords_13 : decode prog_13_method_47_code 13 = .ok (.aload_n 0, 1) := by decide +kernel
theorem dM_compareWords_14 : decode prog_13_method_47_code 14 = .ok (.getfield 40, 3) := by decide +kernel
theorem dM_compareWords_17 : decode prog_13_method_47_code 17 = .ok (.iload_n 2, 1) := by decide +kernel
theorem dM_compareWords_18 : decode prog_13_method_47_code 18 = .ok (.iaload, 1) := by decide +kernel
theorem dM_compareWords_19 : decode prog_13_method_47_code 19 = .ok (.if_icmp .ge 34, 3) := by decide +kernel
theorem dM_compareWords_22 : decode prog_13_method_47_code 22 = .ok (.aload_n 0, 1) := by decide +kernel
theorem dM_compareWords_23 : decode prog_13_method_47_code 23 = .ok (.getfield 43, 3) := by decide +kernel
theorem dM_compareWords_26 : decode prog_13_method_47_code 26 = .ok (.bipush 10, 2) := by decide +kernel
theorem dM_compareWords_28 : decode prog_13_method_47_code 28 = .ok (.iload_n 1, 1) := by decide +kernel
theorem dM_compareWords_29 : decode prog_13_method_47_code 29 = .ok (.imul, 1) := by decide +kernel
theorem dM_compareWords_30 : decode prog_13_method_47_code 30 = .ok (.iload_n 3, 1) := by decide +kernel
theorem dM_compareWords_31 : decode prog_13_method_47_code 31 = .ok (.iadd, 1) := by decide +kernel
theorem dM_compareWords_32 : decode prog_13_method_47_code 32 = .ok (.iaload, 1) := by decide +kernel
theorem dM_compareWords_33 : decode prog_13_method_47_code 33 = .ok (.aload_n 0, 1) := by decide +kernel
theorem dM_compareWords_34 : decode prog_13_method_47_code 34 = .ok (.getfield 43, 3) := by decide +kernel
theorem dM_compareWords_37 : decode prog_13_method_47_code 37 = .ok (.bipush 10, 2) := by decide +kernel
theorem dM_compareWords_39 : decode prog_13_method_47_code 39 = .ok (.iload_n 2, 1) := by decide +kernel
theorem dM_compareWords_40 : decode prog_13_method_47_code 40 = .ok (.imul, 1) := by decide +kernel
theorem dM_compareWords_41 : decode prog_13_method_47_code 41 = .ok (.iload_n 3, 1) := by decide +kernel
theorem dM_compareWords_42 : decode prog_13_method_47_code 42 = .ok (.iadd, 1) := by decide +kernel
theorem dM_compareWords_43 : decode prog_13_method_47_code 43 = .ok (.iaload, 1) := by decide +kernel
theorem dM_compareWords_44 : decode prog_13_method_47_code 44 = .ok (.if_icmp .ne 9, 3) := by decide +kernel
theorem dM_compareWords_47 : decode prog_13_method_47_code 47 = .ok (.iinc 3 1, 3) := by decide +kernel
theorem dM_compareWords_50 : decode prog_13_method_47_code 50 = .ok (.goto (-48), 3) := by decide +kernel
theorem dM_compareWords_53 : decode prog_13_method_47_code 53 = .ok (.iload_n 3, 1) := by decide +kernel
theorem dM_compareWords_54 : decode prog_13_method_47_code 54 = .ok (.aload_n 0, 1) := by decide +kernel
theorem dM_compareWords_55 : decode prog_13_method_47_code 55 = .ok (.getfield 40, 3) := by decide +kernel
theorem dM_compareWords_58 : decode prog_13_method_47_code 58 = .ok (.iload_n 1, 1) := by decide +kernel
theorem dM_compareWords_59 : decode prog_13_method_47_code 59 = .ok (.iaload, 1) := by decide +kernel
theorem dM_compareWords_60 : decode prog_13_method_47_code 60 = .ok (.if_icmp .eq 13, 3) := by decide +kernel
theorem dM_compareWords_63 : decode prog_13_method_47_code 63 = .ok (.iload_n 3, 1) := by decide +kernel
theorem dM_compareWords_64 : decode prog_13_method_47_code 64 = .ok (.aload_n 0, 1) := by decide +kernel
theorem dM_compareWords_65 : decode prog_13_method_47_code 65 = .ok (.getfield 40, 3) := by decide +kernel
theorem dM_compareWords_68 : decode prog_13_method_47_code 68 = .ok (.iload_n 2, 1) := by decide +kernel
theorem dM_compareWords_69 : decode prog_13_method_47_code 69 = .ok (.iaload, 1) := by decide +kernel
theorem dM_compareWords_70 : decode prog_13_method_47_code 70 = .ok (.if_icmp .ne 17, 3) := by decide +kernel
theorem dM_compareWords_73 : decode prog_13_method_47_code 73 = .ok (.aload_n 0, 1) := by decide +kernel
theorem dM_compareWords_74 : decode prog_13_method_47_code 74 = .ok (.getfield 40, 3) := by decide +kernel
theorem dM_compareWords_77 : decode prog_13_method_47_code 77 = .ok (.iload_n 1, 1) := by decide +kernel
theorem dM_compareWords_78 : decode prog_13_method_47_code 78 = .ok (.iaload, 1) := by decide +kernel
theorem dM_compareWords_79 : decode prog_13_method_47_code 79 = .ok (.aload_n 0, 1) := by decide +kernel
theorem dM_compareWords_80 : decode prog_13_method_47_code 80 = .ok (.getfield 40, 3) := by decide +kernel
theorem dM_compareWords_83 : decode prog_13_method_47_code 83 = .ok (.iload_n 2, 1) := by decide +kernel
theorem dM_compareWords_84 : decode prog_13_method_47_code 84 = .ok (.iaload, 1) := by decide +kernel
theorem dM_compareWords_85 : decode prog_13_method_47_code 85 = .ok (.isub, 1) := by decide +kernel
theorem dM_compareWords_86 : decode prog_13_method_47_code 86 = .ok (.ireturn, 1) := by decide +kernel
theorem dM_compareWords_87 : decode prog_13_method_47_code 87 = .ok (.aload_n 0, 1) := by decide +kernel
theorem dM_compareWords_88 : decode prog_13_method_47_code 88 = .ok (.getfield 43, 3) := by decide +kernel
theorem dM_compareWords_91 : decode prog_13_method_47_code 91 = .ok (.bipush 10, 2) := by decide +kernel
theorem dM_compareWords_93 : decode prog_13_method_47_code 93 = .ok (.iload_n 1, 1) := by decide +kernel
theorem dM_compareWords_94 : decode prog_13_method_47_code 94 = .ok (.imul, 1) := by decide +kernel
theorem dM_compareWords_95 : decode prog_13_method_47_code 95 = .ok (.iload_n 3, 1) := by decide +kernel
theorem dM_compareWords_96 : decode prog_13_method_47_code 96 = .ok (.iadd, 1) := by decide +kernel
theorem dM_compareWords_97 : decode prog_13_method_47_code 97 = .ok (.iaload, 1) := by decide +kernel
theorem dM_compareWords_98 : decode prog_13_method_47_code 98 = .ok (.aload_n 0, 1) := by decide +kernel
theorem dM_compareWords_99 : decode prog_13_method_47_code 99 = .ok (.getfield 43, 3) := by decide +kernel
theorem dM_compareWords_102 : decode prog_13_method_47_code 102 = .ok (.bipush 10, 2) := by decide +kernel
theorem dM_compareWords_104 : decode prog_13_method_47_code 104 = .ok (.iload_n 2, 1) := by decide +kernel
theorem dM_compareWords_105 : decode prog_13_method_47_code 105 = .ok (.imul, 1) := by decide +kernel
theorem dM_compareWords_106 : decode prog_13_method_47_code 106 = .ok (.iload_n 3, 1) := by decide +kernel
theorem dM_compareWords_107 : decode prog_13_method_47_code 107 = .ok (.iadd, 1) := by decide +kernel
theorem dM_compareWords_108 : decode prog_13_method_47_code 108 = .ok (.iaload, 1) := by decide +kernel
theorem dM_compareWords_109 : decode prog_13_method_47_code 109 = .ok (.isub, 1) := by decide +kernel
theorem dM_compareWords_110 : decode prog_13_method_47_code 110 = .ok (.ireturn, 1) := by decide +kernel
theorem dM_firstCondition_0 : decode prog_13_method_48_code 0 = .ok (.iconst (-1), 1) := by decide +kernel
theorem dM_firstCondition_1 : decode prog_13_method_48_code 1 = .ok (.istore_n 3, 1) := by decide +kernel
theorem dM_firstCondition_2 : decode prog_13_method_48_code 2 = .ok (.aload_n 0, 1) := by decide +kernel
theorem dM_firstCondition_3 : decode prog_13_method_48_code 3 = .ok (.getfield 67, 3) := by decide +kernel
theorem dM_firstCondition_6 : decode prog_13_method_48_code 6 = .ok (.iconst 0, 1) := by decide +kernel
theorem dM_firstCondition_7 : decode prog_13_method_48_code 7 = .ok (.iaload, 1) := by decide +kernel
theorem dM_firstCondition_8 : decode prog_13_method_48_code 8 = .ok (.iconst 1, 1) := by decide +kernel
theorem dM_firstCondition_9 : decode prog_13_method_48_code 9 = .ok (.isub, 1) := by decide +kernel
theorem dM_firstCondition_10 : decode prog_13_method_48_code 10 = .ok (.istore 4, 2) := by decide +kernel
theorem dM_firstCondition_12 : decode prog_13_method_48_code 12 = .ok (.iload 4, 2) := by decide +kernel
theorem dM_firstCondition_14 : decode prog_13_method_48_code 14 = .ok (.ifCond .lt 31, 3) := by decide +kernel
theorem dM_firstCondition_17 : decode prog_13_method_48_code 17 = .ok (.aload_n 0, 1) := by decide +kernel
theorem dM_firstCondition_18 : decode prog_13_method_48_code 18 = .ok (.getfield 70, 3) := by decide +kernel
theorem dM_firstCondition_21 : decode prog_13_method_48_code 21 = .ok (.iload 4, 2) := by decide +kernel
theorem dM_firstCondition_23 : decode prog_13_method_48_code 23 = .ok (.iaload, 1) := by decide +kernel
theorem dM_firstCondition_24 : decode prog_13_method_48_code 24 = .ok (.iload_n 1, 1) := by decide +kernel
theorem dM_firstCondition_25 : decode prog_13_method_48_code 25 = .ok (.iload_n 2, 1) := by decide +kernel
theorem dM_firstCondition_26 : decode prog_13_method_48_code 26 = .ok (.invokestatic 139, 3) := by decide +kernel
theorem dM_firstCondition_29 : decode prog_13_method_48_code 29 = .ok (.ifCond .eq 8, 3) := by decide +kernel
theorem dM_firstCondition_32 : decode prog_13_method_48_code 32 = .ok (.iload 4, 2) := by decide +kernel
theorem dM_firstCondition_34 : decode prog_13_method_48_code 34 = .ok (.goto 4, 3) := by decide +kernel
theorem dM_firstCondition_37 : decode prog_13_method_48_code 37 = .ok (.iload_n 3, 1) := by decide +kernel
theorem dM_firstCondition_38 : decode prog_13_method_48_code 38 = .ok (.istore_n 3, 1) := by decide +kernel
theorem dM_firstCondition_39 : decode prog_13_method_48_code 39 = .ok (.iinc 4 (-1), 3) := by decide +kernel
theorem dM_firstCondition_42 : decode prog_13_method_48_code 42 = .ok (.goto (-30), 3) := by decide +kernel
theorem dM_firstCondition_45 : decode prog_13_method_48_code 45 = .ok (.iload_n 3, 1) := by decide +kernel
theorem dM_firstCondition_46 : decode prog_13_method_48_code 46 = .ok (.ireturn, 1) := by decide +kernel
theorem dM_makeKeys_0 : decode prog_13_method_49_code 0 = .ok (.iload_n 3, 1) := by decide +kernel
theorem dM_makeKeys_1 : decode prog_13_method_49_code 1 = .ok (.iconst 1, 1) := by decide +kernel
theorem dM_makeKeys_2 : decode prog_13_method_49_code 2 = .ok (.if_icmp .ne 109, 3) := by decide +kernel
theorem dM_makeKeys_5 : decode prog_13_method_49_code 5 = .ok (.aload_n 0, 1) := by decide +kernel
theorem dM_makeKeys_6 : decode prog_13_method_49_code 6 = .ok (.iconst 0, 1) := by decide +kernel
theorem dM_makeKeys_7 : decode prog_13_method_49_code 7 = .ok (.iconst 3, 1) := by decide +kernel
theorem dM_makeKeys_8 : decode prog_13_method_49_code 8 = .ok (.invokevirtual 278, 3) := by decide +kernel
theorem dM_makeKeys_11 : decode prog_13_method_49_code 11 = .ok (.istore 4, 2) := by decide +kernel
theorem dM_makeKeys_13 : decode prog_13_method_49_code 13 = .ok (.aload_n 0, 1) := by decide +kernel
theorem dM_makeKeys_14 : decode prog_13_method_49_code 14 = .ok (.getfield 116, 3) := by decide +kernel
theorem dM_makeKeys_17 : decode prog_13_method_49_code 17 = .ok (.iload_n 1, 1) := by decide +kernel
theorem dM_makeKeys_18 : decode prog_13_method_49_code 18 = .ok (.iconst (-1), 1) := by decide +kernel
theorem dM_makeKeys_19 : decode prog_13_method_49_code 19 = .ok (.iastore, 1) := by decide +kernel
theorem dM_makeKeys_20 : decode prog_13_method_49_code 20 = .ok (.iconst 0, 1) := by decide +kernel
theorem dM_makeKeys_21 : decode prog_13_method_49_code 21 = .ok (.istore 5, 2) := by decide +kernel
theorem dM_makeKeys_23 : decode prog_13_method_49_code 23 = .ok (.iload 5, 2) := by decide +kernel
theorem dM_makeKeys_25 : decode prog_13_method_49_code 25 = .ok (.aload_n 0, 1) := by decide +kernel
theorem dM_makeKeys_26 : decode prog_13_method_49_code 26 = .ok (.getfield 31, 3) := by decide +kernel
theorem dM_makeKeys_29 : decode prog_13_method_49_code 29 = .ok (.iload_n 1, 1) := by decide +kernel
theorem dM_makeKeys_30 : decode prog_13_method_49_code 30 = .ok (.iaload, 1) := by decide +kernel
theorem dM_makeKeys_31 : decode prog_13_method_49_code 31 = .ok (.if_icmp .ge 80, 3) := by decide +kernel
theorem dM_makeKeys_34 : decode prog_13_method_49_code 34 = .ok (.iconst 2, 1) := by decide +kernel
theorem dM_makeKeys_35 : decode prog_13_method_49_code 35 = .ok (.iload_n 1, 1) := by decide +kernel
theorem dM_makeKeys_36 : decode prog_13_method_49_code 36 = .ok (.imul, 1) := by decide +kernel
theorem dM_makeKeys_37 : decode prog_13_method_49_code 37 = .ok (.iload 5, 2) := by decide +kernel
theorem dM_makeKeys_39 : decode prog_13_method_49_code 39 = .ok (.iadd, 1) := by decide +kernel
theorem dM_makeKeys_40 : decode prog_13_method_49_code 40 = .ok (.istore 6, 2) := by decide +kernel
theorem dM_makeKeys_42 : decode prog_13_method_49_code 42 = .ok (.aload_n 0, 1) := by decide +kernel
theorem dM_makeKeys_43 : decode prog_13_method_49_code 43 = .ok (.iload 6, 2) := by decide +kernel
theorem dM_makeKeys_45 : decode prog_13_method_49_code 45 = .ok (.iload_n 2, 1) := by decide +kernel
theorem dM_makeKeys_46 : decode prog_13_method_49_code 46 = .ok (.invokevirtual 212, 3) := by decide +kernel
theorem dM_makeKeys_49 : decode prog_13_method_49_code 49 = .ok (.ifCond .eq 56, 3) := by decide +kernel
theorem dM_makeKeys_52 : decode prog_13_method_49_code 52 = .ok (.iload 4, 2) := by decide +kernel
theorem dM_makeKeys_54 : decode prog_13_method_49_code 54 = .ok (.iconst (-1), 1) := by decide +kernel
theorem dM_makeKeys_55 : decode prog_13_method_49_code 55 = .ok (.if_icmp .eq 17, 3) := by decide +kernel
theorem dM_makeKeys_58 : decode prog_13_method_49_code 58 = .ok (.aload_n 0, 1) := by decide +kernel
theorem dM_makeKeys_59 : decode prog_13_method_49_code 59 = .ok (.iload 6, 2) := by decide +kernel
theorem dM_makeKeys_61 : decode prog_13_method_49_code 61 = .ok (.iload 4, 2) := by decide +kernel
theorem dM_makeKeys_63 : decode prog_13_method_49_code 63 = .ok (.invokevirtual 215, 3) := by decide +kernel
theorem dM_makeKeys_66 : decode prog_13_method_49_code 66 = .ok (.ifCond .ne 6, 3) := by decide +kernel
theorem dM_makeKeys_69 : decode prog_13_method_49_code 69 = .ok (.goto 36, 3) := by decide +kernel
theorem dM_makeKeys_72 : decode prog_13_method_49_code 72 = .ok (.aload_n 0, 1) := by decide +kernel
theorem dM_makeKeys_73 : decode prog_13_method_49_code 73 = .ok (.getfield 116, 3) := by decide +kernel
theorem dM_makeKeys_76 : decode prog_13_method_49_code 76 = .ok (.iload_n 1, 1) := by decide +kernel
theorem dM_makeKeys_77 : decode prog_13_method_49_code 77 = .ok (.iaload, 1) := by decide +kernel
theorem dM_makeKeys_78 : decode prog_13_method_49_code 78 = .ok (.iconst (-1), 1) := by decide +kernel
theorem dM_makeKeys_79 : decode prog_13_method_49_code 79 = .ok (.if_icmp .eq 18, 3) := by decide +kernel
theorem dM_makeKeys_82 : decode prog_13_method_49_code 82 = .ok (.aload_n 0, 1) := by decide +kernel
theorem dM_makeKeys_83 : decode prog_13_method_49_code 83 = .ok (.iload 6, 2) := by decide +kernel
theorem dM_makeKeys_85 : decode prog_13_method_49_code 85 = .ok (.aload_n 0, 1) := by decide +kernel
theorem dM_makeKeys_86 : decode prog_13_method_49_code 86 = .ok (.getfield 116, 3) := by decide +kernel
theorem dM_makeKeys_89 : decode prog_13_method_49_code 89 = .ok (.iload_n 1, 1) := by decide +kernel
theorem dM_makeKeys_90 : decode prog_13_method_49_code 90 = .ok (.iaload, 1) := by decide +kernel
theorem dM_makeKeys_91 : decode prog_13_method_49_code 91 = .ok (.invokevirtual 281, 3) := by decide +kernel
theorem dM_makeKeys_94 : decode prog_13_method_49_code 94 = .ok (.ifCond .ge 11, 3) := by decide +kernel
theorem dM_makeKeys_97 : decode prog_13_method_49_code 97 = .ok (.aload_n 0, 1) := by decide +kernel
theorem dM_makeKeys_98 : decode prog_13_method_49_code 98 = .ok (.getfield 116, 3) := by decide +kernel
theorem dM_makeKeys_101 : decode prog_13_method_49_code 101 = .ok (.iload_n 1, 1) := by decide +kernel
theorem dM_makeKeys_102 : decode prog_13_method_49_code 102 = .ok (.iload 6, 2) := by decide +kernel
theorem dM_makeKeys_104 : decode prog_13_method_49_code 104 = .ok (.iastore, 1) := by decide +kernel
theorem dM_makeKeys_105 : decode prog_13_method_49_code 105 = .ok (.iinc 5 1, 3) := by decide +kernel
theorem dM_makeKeys_108 : decode prog_13_method_49_code 108 = .ok (.goto (-85), 3) := by decide +kernel
theorem dM_makeKeys_111 : decode prog_13_method_49_code 111 = .ok (.iload_n 3, 1) := by decide +kernel
theorem dM_makeKeys_112 : decode prog_13_method_49_code 112 = .ok (.iconst 2, 1) := by decide +kernel
theorem dM_makeKeys_113 : decode prog_13_method_49_code 113 = .ok (.if_icmp .ne 56, 3) := by decide +kernel
theorem dM_makeKeys_116 : decode prog_13_method_49_code 116 = .ok (.aload_n 0, 1) := by decide +kernel
theorem dM_makeKeys_117 : decode prog_13_method_49_code 117 = .ok (.bipush 7, 2) := by decide +kernel
theorem dM_makeKeys_119 : decode prog_13_method_49_code 119 = .ok (.bipush 7, 2) := by decide +kernel
theorem dM_makeKeys_121 : decode prog_13_method_49_code 121 = .ok (.invokevirtual 278, 3) := by decide +kernel
theorem dM_makeKeys_124 : decode prog_13_method_49_code 124 = .ok (.istore 4, 2) := by decide +kernel
theorem dM_makeKeys_126 : decode prog_13_method_49_code 126 = .ok (.aload_n 0, 1) := by decide +kernel
theorem dM_makeKeys_127 : decode prog_13_method_49_code 127 = .ok (.getfield 119, 3) := by decide +kernel
theorem dM_makeKeys_130 : decode prog_13_method_49_code 130 = .ok (.iload_n 1, 1) := by decide +kernel
theorem dM_makeKeys_131 : decode prog_13_method_49_code 131 = .ok (.iload 4, 2) := by decide +kernel
theorem dM_makeKeys_133 : decode prog_13_method_49_code 133 = .ok (.iconst (-1), 1) := by decide +kernel
theorem dM_makeKeys_134 : decode prog_13_method_49_code 134 = .ok (.if_icmp .ne 14, 3) := by decide +kernel
theorem dM_makeKeys_137 : decode prog_13_method_49_code 137 = .ok (.aload_n 0, 1) := by decide +kernel
theorem dM_makeKeys_138 : decode prog_13_method_49_code 138 = .ok (.iload_n 1, 1) := by decide +kernel
theorem dM_makeKeys_139 : decode prog_13_method_49_code 139 = .ok (.iload_n 2, 1) := by decide +kernel
theorem dM_makeKeys_140 : decode prog_13_method_49_code 140 = .ok (.iconst 0, 1) := by decide +kernel
theorem dM_makeKeys_141 : decode prog_13_method_49_code 141 = .ok (.iconst 0, 1) := by decide +kernel
theorem dM_makeKeys_142 : decode prog_13_method_49_code 142 = .ok (.invokevirtual 270, 3) := by decide +kernel
theorem dM_makeKeys_145 : decode prog_13_method_49_code 145 = .ok (.goto 23, 3) := by decide +kernel
theorem dM_makeKeys_148 : decode prog_13_method_49_code 148 = .ok (.aload_n 0, 1) := by decide +kernel
theorem dM_makeKeys_149 : decode prog_13_method_49_code 149 = .ok (.iload_n 1, 1) := by decide +kernel
theorem dM_makeKeys_150 : decode prog_13_method_49_code 150 = .ok (.iload_n 2, 1) := by decide +kernel
theorem dM_makeKeys_151 : decode prog_13_method_49_code 151 = .ok (.aload_n 0, 1) := by decide +kernel
theorem dM_makeKeys_152 : decode prog_13_method_49_code 152 = .ok (.getfield 73, 3) := by decide +kernel
theorem dM_makeKeys_155 : decode prog_13_method_49_code 155 = .ok (.iload 4, 2) := by decide +kernel
theorem dM_makeKeys_157 : decode prog_13_method_49_code 157 = .ok (.iaload, 1) := by decide +kernel
theorem dM_makeKeys_158 : decode prog_13_method_49_code 158 = .ok (.aload_n 0, 1) := by decide +kernel
theorem dM_makeKeys_159 : decode prog_13_method_49_code 159 = .ok (.getfield 76, 3) := by decide +kernel
theorem dM_makeKeys_162 : decode prog_13_method_49_code 162 = .ok (.iload 4, 2) := by decide +kernel
theorem dM_makeKeys_164 : decode prog_13_method_49_code 164 = .ok (.iaload, 1) := by decide +kernel
theorem dM_makeKeys_165 : decode prog_13_method_49_code 165 = .ok (.invokevirtual 270, 3) := by decide +kernel
theorem dM_makeKeys_168 : decode prog_13_method_49_code 168 = .ok (.iastore, 1) := by decide +kernel
theorem dM_makeKeys_169 : decode prog_13_method_49_code 169 = .ok (.iload_n 3, 1) := by decide +kernel
theorem dM_makeKeys_170 : decode prog_13_method_49_code 170 = .ok (.iconst 3, 1) := by decide +kernel
theorem dM_makeKeys_171 : decode prog_13_method_49_code 171 = .ok (.if_icmp .ne 50, 3) := by decide +kernel
theorem dM_makeKeys_174 : decode prog_13_method_49_code 174 = .ok (.aload_n 0, 1) := by decide +kernel
theorem dM_makeKeys_175 : decode prog_13_method_49_code 175 = .ok (.getfield 88, 3) := by decide +kernel
theorem dM_makeKeys_178 : decode prog_13_method_49_code 178 = .ok (.iconst 0, 1) := by decide +kernel
theorem dM_makeKeys_179 : decode prog_13_method_49_code 179 = .ok (.iaload, 1) := by decide +kernel
theorem dM_makeKeys_180 : decode prog_13_method_49_code 180 = .ok (.iconst 1, 1) := by decide +kernel
theorem dM_makeKeys_181 : decode prog_13_method_49_code 181 = .ok (.if_icmp .le 40, 3) := by decide +kernel
theorem dM_makeKeys_184 : decode prog_13_method_49_code 184 = .ok (.aload_n 0, 1) := by decide +kernel
theorem dM_makeKeys_185 : decode prog_13_method_49_code 185 = .ok (.iload_n 1, 1) := by decide +kernel
theorem dM_makeKeys_186 : decode prog_13_method_49_code 186 = .ok (.iload_n 2, 1) := by decide +kernel
theorem dM_makeKeys_187 : decode prog_13_method_49_code 187 = .ok (.iconst 0, 1) := by decide +kernel
theorem dM_makeKeys_188 : decode prog_13_method_49_code 188 = .ok (.invokevirtual 257, 3) := by decide +kernel
theorem dM_makeKeys_191 : decode prog_13_method_49_code 191 = .ok (.aload_n 0, 1) := by decide +kernel
theorem dM_makeKeys_192 : decode prog_13_method_49_code 192 = .ok (.getfield 122, 3) := by decide +kernel
theorem dM_makeKeys_195 : decode prog_13_method_49_code 195 = .ok (.iload_n 1, 1) := by decide +kernel
theorem dM_makeKeys_196 : decode prog_13_method_49_code 196 = .ok (.aload_n 0, 1) := by decide +kernel
theorem dM_makeKeys_197 : decode prog_13_method_49_code 197 = .ok (.getfield 231, 3) := by decide +kernel
theorem dM_makeKeys_200 : decode prog_13_method_49_code 200 = .ok (.iastore, 1) := by decide +kernel
theorem dM_makeKeys_201 : decode prog_13_method_49_code 201 = .ok (.aload_n 0, 1) := by decide +kernel
theorem dM_makeKeys_202 : decode prog_13_method_49_code 202 = .ok (.getfield 125, 3) := by decide +kernel
theorem dM_makeKeys_205 : decode prog_13_method_49_code 205 = .ok (.iload_n 1, 1) := by decide +kernel
theorem dM_makeKeys_206 : decode prog_13_method_49_code 206 = .ok (.aload_n 0, 1) := by decide +kernel
theorem dM_makeKeys_207 : decode prog_13_method_49_code 207 = .ok (.getfield 244, 3) := by decide +kernel
theorem dM_makeKeys_210 : decode prog_13_method_49_code 210 = .ok (.lastore, 1) := by decide +kernel
theorem dM_makeKeys_211 : decode prog_13_method_49_code 211 = .ok (.aload_n 0, 1) := by decide +kernel
theorem dM_makeKeys_212 : decode prog_13_method_49_code 212 = .ok (.getfield 129, 3) := by decide +kernel
theorem dM_makeKeys_215 : decode prog_13_method_49_code 215 = .ok (.iload_n 1, 1) := by decide +kernel
theorem dM_makeKeys_216 : decode prog_13_method_49_code 216 = .ok (.aload_n 0, 1) := by decide +kernel
theorem dM_makeKeys_217 : decode prog_13_method_49_code 217 = .ok (.getfield 247, 3) := by decide +kernel
theorem dM_makeKeys_220 : decode prog_13_method_49_code 220 = .ok (.lastore, 1) := by decide +kernel
theorem dM_makeKeys_221 : decode prog_13_method_49_code 221 = .ok (.return_, 1) := by decide +kernel
theorem dM_compareKeys_0 : decode prog_13_method_50_code 0 = .ok (.iload_n 3, 1) := by decide +kernel
theorem dM_compareKeys_1 : decode prog_13_method_50_code 1 = .ok (.iconst 1, 1) := by decide +kernel
theorem dM_compareKeys_2 : decode prog_13_method_50_code 2 = .ok (.if_icmp .ne 58, 3) := by decide +kernel
theorem dM_compareKeys_5 : decode prog_13_method_50_code 5 = .ok (.aload_n 0, 1) := by decide +kernel
theorem dM_compareKeys_6 : decode prog_13_method_50_code 6 = .ok (.getfield 116, 3) := by decide +kernel
theorem dM_compareKeys_9 : decode prog_13_method_50_code 9 = .ok (.iload_n 1, 1) := by decide +kernel
theorem dM_compareKeys_10 : decode prog_13_method_50_code 10 = .ok (.iaload, 1) := by decide +kernel
theorem dM_compareKeys_11 : decode prog_13_method_50_code 11 = .ok (.istore 4, 2) := by decide +kernel
theorem dM_compareKeys_13 : decode prog_13_method_50_code 13 = .ok (.aload_n 0, 1) := by decide +kernel
theorem dM_compareKeys_14 : decode prog_13_method_50_code 14 = .ok (.getfield 116, 3) := by decide +kernel
theorem dM_compareKeys_17 : decode prog_13_method_50_code 17 = .ok (.iload_n 2, 1) := by decide +kernel
theorem dM_compareKeys_18 : decode prog_13_method_50_code 18 = .ok (.iaload, 1) := by decide +kernel
theorem dM_compareKeys_19 : decode prog_13_method_50_code 19 = .ok (.istore 5, 2) := by decide +kernel
theorem dM_compareKeys_21 : decode prog_13_method_50_code 21 = .ok (.iload 4, 2) := by decide +kernel
theorem dM_compareKeys_23 : decode prog_13_method_50_code 23 = .ok (.iconst (-1), 1) := by decide +kernel
theorem dM_compareKeys_24 : decode prog_13_method_50_code 24 = .ok (.if_icmp .ne 17, 3) := by decide +kernel
theorem dM_compareKeys_27 : decode prog_13_method_50_code 27 = .ok (.iload 5, 2) := by decide +kernel
theorem dM_compareKeys_29 : decode prog_13_method_50_code 29 = .ok (.iconst (-1), 1) := by decide +kernel
theorem dM_compareKeys_30 : decode prog_13_method_50_code 30 = .ok (.if_icmp .ne 7, 3) := by decide +kernel
theorem dM_compareKeys_33 : decode prog_13_method_50_code 33 = .ok (.iconst 0, 1) := by decide +kernel
theorem dM_compareKeys_34 : decode prog_13_method_50_code 34 = .ok (.goto 25, 3) := by decide +kernel
theorem dM_compareKeys_37 : decode prog_13_method_50_code 37 = .ok (.iconst 1, 1) := by decide +kernel
theorem dM_compareKeys_38 : decode prog_13_method_50_code 38 = .ok (.goto 21, 3) := by decide +kernel
theorem dM_compareKeys_41 : decode prog_13_method_50_code 41 = .ok (.iload 5, 2) := by decide +kernel
theorem dM_compareKeys_43 : decode prog_13_method_50_code 43 = .ok (.iconst (-1), 1) := by decide +kernel
theorem dM_compareKeys_44 : decode prog_13_method_50_code 44 = .ok (.if_icmp .ne 7, 3) := by decide +kernel
theorem dM_compareKeys_47 : decode prog_13_method_50_code 47 = .ok (.iconst (-1), 1) := by decide +kernel
theorem dM_compareKeys_48 : decode prog_13_method_50_code 48 = .ok (.goto 11, 3) := by decide +kernel
theorem dM_compareKeys_51 : decode prog_13_method_50_code 51 = .ok (.aload_n 0, 1) := by decide +kernel
theorem dM_compareKeys_52 : decode prog_13_method_50_code 52 = .ok (.iload 4, 2) := by decide +kernel
theorem dM_compareKeys_54 : decode prog_13_method_50_code 54 = .ok (.iload 5, 2) := by decide +kernel
theorem dM_compareKeys_56 : decode prog_13_method_50_code 56 = .ok (.invokevirtual 281, 3) := by decide +kernel
theorem dM_compareKeys_59 : decode prog_13_method_50_code 59 = .ok (.ireturn, 1) := by decide +kernel
theorem dM_compareKeys_60 : decode prog_13_method_50_code 60 = .ok (.iload_n 3, 1) := by decide +kernel
theorem dM_compareKeys_61 : decode prog_13_method_50_code 61 = .ok (.iconst 2, 1) := by decide +kernel
theorem dM_compareKeys_62 : decode prog_13_method_50_code 62 = .ok (.if_icmp .ne 43, 3) := by decide +kernel
theorem dM_compareKeys_65 : decode prog_13_method_50_code 65 = .ok (.aload_n 0, 1) := by decide +kernel
theorem dM_compareKeys_66 : decode prog_13_method_50_code 66 = .ok (.getfield 119, 3) := by decide +kernel
theorem dM_compareKeys_69 : decode prog_13_method_50_code 69 = .ok (.iload_n 1, 1) := by decide +kernel
theorem dM_compareKeys_70 : decode prog_13_method_50_code 70 = .ok (.iaload, 1) := by decide +kernel
theorem dM_compareKeys_71 : decode prog_13_method_50_code 71 = .ok (.aload_n 0, 1) := by decide +kernel
theorem dM_compareKeys_72 : decode prog_13_method_50_code 72 = .ok (.getfield 119, 3) := by decide +kernel
theorem dM_compareKeys_75 : decode prog_13_method_50_code 75 = .ok (.iload_n 2, 1) := by decide +kernel
theorem dM_compareKeys_76 : decode prog_13_method_50_code 76 = .ok (.iaload, 1) := by decide +kernel
theorem dM_compareKeys_77 : decode prog_13_method_50_code 77 = .ok (.if_icmp .ge 7, 3) := by decide +kernel
theorem dM_compareKeys_80 : decode prog_13_method_50_code 80 = .ok (.iconst (-1), 1) := by decide +kernel
theorem dM_compareKeys_81 : decode prog_13_method_50_code 81 = .ok (.goto 23, 3) := by decide +kernel
theorem dM_compareKeys_84 : decode prog_13_method_50_code 84 = .ok (.aload_n 0, 1) := by decide +kernel
theorem dM_compareKeys_85 : decode prog_13_method_50_code 85 = .ok (.getfield 119, 3) := by decide +kernel
theorem dM_compareKeys_88 : decode prog_13_method_50_code 88 = .ok (.iload_n 1, 1) := by decide +kernel
theorem dM_compareKeys_89 : decode prog_13_method_50_code 89 = .ok (.iaload, 1) := by decide +kernel
theorem dM_compareKeys_90 : decode prog_13_method_50_code 90 = .ok (.aload_n 0, 1) := by decide +kernel
theorem dM_compareKeys_91 : decode prog_13_method_50_code 91 = .ok (.getfield 119, 3) := by decide +kernel
theorem dM_compareKeys_94 : decode prog_13_method_50_code 94 = .ok (.iload_n 2, 1) := by decide +kernel
theorem dM_compareKeys_95 : decode prog_13_method_50_code 95 = .ok (.iaload, 1) := by decide +kernel
theorem dM_compareKeys_96 : decode prog_13_method_50_code 96 = .ok (.if_icmp .le 7, 3) := by decide +kernel
theorem dM_compareKeys_99 : decode prog_13_method_50_code 99 = .ok (.iconst 1, 1) := by decide +kernel
theorem dM_compareKeys_100 : decode prog_13_method_50_code 100 = .ok (.goto 4, 3) := by decide +kernel
theorem dM_compareKeys_103 : decode prog_13_method_50_code 103 = .ok (.iconst 0, 1) := by decide +kernel
theorem dM_compareKeys_104 : decode prog_13_method_50_code 104 = .ok (.ireturn, 1) := by decide +kernel
theorem dM_compareKeys_105 : decode prog_13_method_50_code 105 = .ok (.iload_n 3, 1) := by decide +kernel
theorem dM_compareKeys_106 : decode prog_13_method_50_code 106 = .ok (.ifCond .eq 13, 3) := by decide +kernel
theorem dM_compareKeys_109 : decode prog_13_method_50_code 109 = .ok (.aload_n 0, 1) := by decide +kernel
theorem dM_compareKeys_110 : decode prog_13_method_50_code 110 = .ok (.getfield 88, 3) := by decide +kernel
theorem dM_compareKeys_113 : decode prog_13_method_50_code 113 = .ok (.iconst 0, 1) := by decide +kernel
theorem dM_compareKeys_114 : decode prog_13_method_50_code 114 = .ok (.iaload, 1) := by decide +kernel
theorem dM_compareKeys_115 : decode prog_13_method_50_code 115 = .ok (.iconst 2, 1) := by decide +kernel
theorem dM_compareKeys_116 : decode prog_13_method_50_code 116 = .ok (.if_icmp .ge 5, 3) := by decide +kernel
theorem dM_compareKeys_119 : decode prog_13_method_50_code 119 = .ok (.iconst 0, 1) := by decide +kernel
theorem dM_compareKeys_120 : decode prog_13_method_50_code 120 = .ok (.ireturn, 1) := by decide +kernel
theorem dM_compareKeys_121 : decode prog_13_method_50_code 121 = .ok (.aload_n 0, 1) := by decide +kernel
theorem dM_compareKeys_122 : decode prog_13_method_50_code 122 = .ok (.getfield 122, 3) := by decide +kernel
theorem dM_compareKeys_125 : decode prog_13_method_50_code 125 = .ok (.iload_n 1, 1) := by decide +kernel
theorem dM_compareKeys_126 : decode prog_13_method_50_code 126 = .ok (.iaload, 1) := by decide +kernel
theorem dM_compareKeys_127 : decode prog_13_method_50_code 127 = .ok (.aload_n 0, 1) := by decide +kernel
theorem dM_compareKeys_128 : decode prog_13_method_50_code 128 = .ok (.getfield 122, 3) := by decide +kernel
theorem dM_compareKeys_131 : decode prog_13_method_50_code 131 = .ok (.iload_n 2, 1) := by decide +kernel
theorem dM_compareKeys_132 : decode prog_13_method_50_code 132 = .ok (.iaload, 1) := by decide +kernel
theorem dM_compareKeys_133 : decode prog_13_method_50_code 133 = .ok (.if_icmp .eq 19, 3) := by decide +kernel
theorem dM_compareKeys_136 : decode prog_13_method_50_code 136 = .ok (.aload_n 0, 1) := by decide +kernel
theorem dM_compareKeys_137 : decode prog_13_method_50_code 137 = .ok (.getfield 122, 3) := by decide +kernel
theorem dM_compareKeys_140 : decode prog_13_method_50_code 140 = .ok (.iload_n 1, 1) := by decide +kernel
theorem dM_compareKeys_141 : decode prog_13_method_50_code 141 = .ok (.iaload, 1) := by decide +kernel
theorem dM_compareKeys_142 : decode prog_13_method_50_code 142 = .ok (.aload_n 0, 1) := by decide +kernel
theorem dM_compareKeys_143 : decode prog_13_method_50_code 143 = .ok (.getfield 122, 3) := by decide +kernel
theorem dM_compareKeys_146 : decode prog_13_method_50_code 146 = .ok (.iload_n 2, 1) := by decide +kernel
theorem dM_compareKeys_147 : decode prog_13_method_50_code 147 = .ok (.iaload, 1) := by decide +kernel
theorem dM_compareKeys_148 : decode prog_13_method_50_code 148 = .ok (.isub, 1) := by decide +kernel
theorem dM_compareKeys_149 : decode prog_13_method_50_code 149 = .ok (.goto 30, 3) := by decide +kernel
theorem dM_compareKeys_152 : decode prog_13_method_50_code 152 = .ok (.aload_n 0, 1) := by decide +kernel
theorem dM_compareKeys_153 : decode prog_13_method_50_code 153 = .ok (.getfield 125, 3) := by decide +kernel
theorem dM_compareKeys_156 : decode prog_13_method_50_code 156 = .ok (.iload_n 1, 1) := by decide +kernel
