theorem dPl_shapeOn_26 : decode prog_8_method_4_code 26 = .ok (.getfield 18, 3) := by decide +kernel
theorem dPl_shapeOn_29 : decode prog_8_method_4_code 29 = .ok (.iload_n 3, 1) := by decide +kernel
theorem dPl_shapeOn_30 : decode prog_8_method_4_code 30 = .ok (.invokevirtual 46, 3) := by decide +kernel
theorem dPl_shapeOn_33 : decode prog_8_method_4_code 33 = .ok (.checkcast 50, 3) := by decide +kernel
theorem dPl_shapeOn_36 : decode prog_8_method_4_code 36 = .ok (.astore_n 2, 1) := by decide +kernel
theorem dPl_shapeOn_37 : decode prog_8_method_4_code 37 = .ok (.iinc 3 1, 3) := by decide +kernel
theorem dPl_shapeOn_40 : decode prog_8_method_4_code 40 = .ok (.goto (-36), 3) := by decide +kernel
theorem dPl_shapeOn_43 : decode prog_8_method_4_code 43 = .ok (.aload_n 2, 1) := by decide +kernel
theorem dPl_shapeOn_44 : decode prog_8_method_4_code 44 = .ok (.areturn, 1) := by decide +kernel
theorem dCo_isInBox_0 : decode prog_3_method_10_code 0 = .ok (.iload_n 3, 1) := by decide +kernel
theorem dCo_isInBox_1 : decode prog_3_method_10_code 1 = .ok (.aload_n 0, 1) := by decide +kernel
theorem dCo_isInBox_2 : decode prog_3_method_10_code 2 = .ok (.getfield 21, 3) := by decide +kernel
theorem dCo_isInBox_5 : decode prog_3_method_10_code 5 = .ok (.iload_n 1, 1) := by decide +kernel
theorem dCo_isInBox_6 : decode prog_3_method_10_code 6 = .ok (.iaload, 1) := by decide +kernel
theorem dCo_isInBox_7 : decode prog_3_method_10_code 7 = .ok (.aload_n 0, 1) := by decide +kernel
theorem dCo_isInBox_8 : decode prog_3_method_10_code 8 = .ok (.getfield 21, 3) := by decide +kernel
theorem dCo_isInBox_11 : decode prog_3_method_10_code 11 = .ok (.iload_n 2, 1) := by decide +kernel
theorem dCo_isInBox_12 : decode prog_3_method_10_code 12 = .ok (.iaload, 1) := by decide +kernel
theorem dCo_isInBox_13 : decode prog_3_method_10_code 13 = .ok (.invokestatic 41, 3) := by decide +kernel
theorem dCo_isInBox_16 : decode prog_3_method_10_code 16 = .ok (.if_icmp .lt 66, 3) := by decide +kernel
theorem dCo_isInBox_19 : decode prog_3_method_10_code 19 = .ok (.iload_n 3, 1) := by decide +kernel
theorem dCo_isInBox_20 : decode prog_3_method_10_code 20 = .ok (.aload_n 0, 1) := by decide +kernel
theorem dCo_isInBox_21 : decode prog_3_method_10_code 21 = .ok (.getfield 21, 3) := by decide +kernel
theorem dCo_isInBox_24 : decode prog_3_method_10_code 24 = .ok (.iload_n 1, 1) := by decide +kernel
theorem dCo_isInBox_25 : decode prog_3_method_10_code 25 = .ok (.iaload, 1) := by decide +kernel
theorem dCo_isInBox_26 : decode prog_3_method_10_code 26 = .ok (.aload_n 0, 1) := by decide +kernel
theorem dCo_isInBox_27 : decode prog_3_method_10_code 27 = .ok (.getfield 21, 3) := by decide +kernel
theorem dCo_isInBox_30 : decode prog_3_method_10_code 30 = .ok (.iload_n 2, 1) := by decide +kernel
theorem dCo_isInBox_31 : decode prog_3_method_10_code 31 = .ok (.iaload, 1) := by decide +kernel
theorem dCo_isInBox_32 : decode prog_3_method_10_code 32 = .ok (.invokestatic 55, 3) := by decide +kernel
theorem dCo_isInBox_35 : decode prog_3_method_10_code 35 = .ok (.if_icmp .gt 47, 3) := by decide +kernel
theorem dCo_isInBox_38 : decode prog_3_method_10_code 38 = .ok (.iload 4, 2) := by decide +kernel
theorem dCo_isInBox_40 : decode prog_3_method_10_code 40 = .ok (.aload_n 0, 1) := by decide +kernel
theorem dCo_isInBox_41 : decode prog_3_method_10_code 41 = .ok (.getfield 25, 3) := by decide +kernel
theorem dCo_isInBox_44 : decode prog_3_method_10_code 44 = .ok (.iload_n 1, 1) := by decide +kernel
theorem dCo_isInBox_45 : decode prog_3_method_10_code 45 = .ok (.iaload, 1) := by decide +kernel
theorem dCo_isInBox_46 : decode prog_3_method_10_code 46 = .ok (.aload_n 0, 1) := by decide +kernel
theorem dCo_isInBox_47 : decode prog_3_method_10_code 47 = .ok (.getfield 25, 3) := by decide +kernel
theorem dCo_isInBox_50 : decode prog_3_method_10_code 50 = .ok (.iload_n 2, 1) := by decide +kernel
theorem dCo_isInBox_51 : decode prog_3_method_10_code 51 = .ok (.iaload, 1) := by decide +kernel
theorem dCo_isInBox_52 : decode prog_3_method_10_code 52 = .ok (.invokestatic 41, 3) := by decide +kernel
theorem dCo_isInBox_55 : decode prog_3_method_10_code 55 = .ok (.if_icmp .lt 27, 3) := by decide +kernel
theorem dCo_isInBox_58 : decode prog_3_method_10_code 58 = .ok (.iload 4, 2) := by decide +kernel
theorem dCo_isInBox_60 : decode prog_3_method_10_code 60 = .ok (.aload_n 0, 1) := by decide +kernel
theorem dCo_isInBox_61 : decode prog_3_method_10_code 61 = .ok (.getfield 25, 3) := by decide +kernel
theorem dCo_isInBox_64 : decode prog_3_method_10_code 64 = .ok (.iload_n 1, 1) := by decide +kernel
theorem dCo_isInBox_65 : decode prog_3_method_10_code 65 = .ok (.iaload, 1) := by decide +kernel
theorem dCo_isInBox_66 : decode prog_3_method_10_code 66 = .ok (.aload_n 0, 1) := by decide +kernel
theorem dCo_isInBox_67 : decode prog_3_method_10_code 67 = .ok (.getfield 25, 3) := by decide +kernel
theorem dCo_isInBox_70 : decode prog_3_method_10_code 70 = .ok (.iload_n 2, 1) := by decide +kernel
theorem dCo_isInBox_71 : decode prog_3_method_10_code 71 = .ok (.iaload, 1) := by decide +kernel
theorem dCo_isInBox_72 : decode prog_3_method_10_code 72 = .ok (.invokestatic 55, 3) := by decide +kernel
theorem dCo_isInBox_75 : decode prog_3_method_10_code 75 = .ok (.if_icmp .gt 7, 3) := by decide +kernel
theorem dCo_isInBox_78 : decode prog_3_method_10_code 78 = .ok (.iconst 1, 1) := by decide +kernel
theorem dCo_isInBox_79 : decode prog_3_method_10_code 79 = .ok (.goto 4, 3) := by decide +kernel
theorem dCo_isInBox_82 : decode prog_3_method_10_code 82 = .ok (.iconst 0, 1) := by decide +kernel
theorem dCo_isInBox_83 : decode prog_3_method_10_code 83 = .ok (.ireturn, 1) := by decide +kernel
theorem dCo_hasInside_0 : decode prog_3_method_9_code 0 = .ok (.iconst 0, 1) := by decide +kernel
theorem dCo_hasInside_1 : decode prog_3_method_9_code 1 = .ok (.istore_n 3, 1) := by decide +kernel
theorem dCo_hasInside_2 : decode prog_3_method_9_code 2 = .ok (.iconst 0, 1) := by decide +kernel
theorem dCo_hasInside_3 : decode prog_3_method_9_code 3 = .ok (.istore 4, 2) := by decide +kernel
theorem dCo_hasInside_5 : decode prog_3_method_9_code 5 = .ok (.iload 4, 2) := by decide +kernel
theorem dCo_hasInside_7 : decode prog_3_method_9_code 7 = .ok (.aload_n 0, 1) := by decide +kernel
theorem dCo_hasInside_8 : decode prog_3_method_9_code 8 = .ok (.getfield 9, 3) := by decide +kernel
theorem dCo_hasInside_11 : decode prog_3_method_9_code 11 = .ok (.if_icmp .ge 174, 3) := by decide +kernel
theorem dCo_hasInside_14 : decode prog_3_method_9_code 14 = .ok (.aload_n 0, 1) := by decide +kernel
theorem dCo_hasInside_15 : decode prog_3_method_9_code 15 = .ok (.iload 4, 2) := by decide +kernel
theorem dCo_hasInside_17 : decode prog_3_method_9_code 17 = .ok (.invokevirtual 32, 3) := by decide +kernel
theorem dCo_hasInside_20 : decode prog_3_method_9_code 20 = .ok (.istore 5, 2) := by decide +kernel
theorem dCo_hasInside_22 : decode prog_3_method_9_code 22 = .ok (.aload_n 0, 1) := by decide +kernel
theorem dCo_hasInside_23 : decode prog_3_method_9_code 23 = .ok (.getfield 21, 3) := by decide +kernel
theorem dCo_hasInside_26 : decode prog_3_method_9_code 26 = .ok (.iload 4, 2) := by decide +kernel
theorem dCo_hasInside_28 : decode prog_3_method_9_code 28 = .ok (.iaload, 1) := by decide +kernel
theorem dCo_hasInside_29 : decode prog_3_method_9_code 29 = .ok (.iload_n 1, 1) := by decide +kernel
theorem dCo_hasInside_30 : decode prog_3_method_9_code 30 = .ok (.isub, 1) := by decide +kernel
theorem dCo_hasInside_31 : decode prog_3_method_9_code 31 = .ok (.aload_n 0, 1) := by decide +kernel
theorem dCo_hasInside_32 : decode prog_3_method_9_code 32 = .ok (.getfield 25, 3) := by decide +kernel
theorem dCo_hasInside_35 : decode prog_3_method_9_code 35 = .ok (.iload 5, 2) := by decide +kernel
theorem dCo_hasInside_37 : decode prog_3_method_9_code 37 = .ok (.iaload, 1) := by decide +kernel
theorem dCo_hasInside_38 : decode prog_3_method_9_code 38 = .ok (.aload_n 0, 1) := by decide +kernel
theorem dCo_hasInside_39 : decode prog_3_method_9_code 39 = .ok (.getfield 25, 3) := by decide +kernel
theorem dCo_hasInside_42 : decode prog_3_method_9_code 42 = .ok (.iload 4, 2) := by decide +kernel
theorem dCo_hasInside_44 : decode prog_3_method_9_code 44 = .ok (.iaload, 1) := by decide +kernel
theorem dCo_hasInside_45 : decode prog_3_method_9_code 45 = .ok (.isub, 1) := by decide +kernel
theorem dCo_hasInside_46 : decode prog_3_method_9_code 46 = .ok (.imul, 1) := by decide +kernel
theorem dCo_hasInside_47 : decode prog_3_method_9_code 47 = .ok (.iload_n 2, 1) := by decide +kernel
theorem dCo_hasInside_48 : decode prog_3_method_9_code 48 = .ok (.aload_n 0, 1) := by decide +kernel
theorem dCo_hasInside_49 : decode prog_3_method_9_code 49 = .ok (.getfield 25, 3) := by decide +kernel
theorem dCo_hasInside_52 : decode prog_3_method_9_code 52 = .ok (.iload 4, 2) := by decide +kernel
theorem dCo_hasInside_54 : decode prog_3_method_9_code 54 = .ok (.iaload, 1) := by decide +kernel
theorem dCo_hasInside_55 : decode prog_3_method_9_code 55 = .ok (.isub, 1) := by decide +kernel
theorem dCo_hasInside_56 : decode prog_3_method_9_code 56 = .ok (.aload_n 0, 1) := by decide +kernel
theorem dCo_hasInside_57 : decode prog_3_method_9_code 57 = .ok (.getfield 21, 3) := by decide +kernel
theorem dCo_hasInside_60 : decode prog_3_method_9_code 60 = .ok (.iload 5, 2) := by decide +kernel
theorem dCo_hasInside_62 : decode prog_3_method_9_code 62 = .ok (.iaload, 1) := by decide +kernel
theorem dCo_hasInside_63 : decode prog_3_method_9_code 63 = .ok (.aload_n 0, 1) := by decide +kernel
theorem dCo_hasInside_64 : decode prog_3_method_9_code 64 = .ok (.getfield 21, 3) := by decide +kernel
theorem dCo_hasInside_67 : decode prog_3_method_9_code 67 = .ok (.iload 4, 2) := by decide +kernel
theorem dCo_hasInside_69 : decode prog_3_method_9_code 69 = .ok (.iaload, 1) := by decide +kernel
theorem dCo_hasInside_70 : decode prog_3_method_9_code 70 = .ok (.isub, 1) := by decide +kernel
theorem dCo_hasInside_71 : decode prog_3_method_9_code 71 = .ok (.imul, 1) := by decide +kernel
theorem dCo_hasInside_72 : decode prog_3_method_9_code 72 = .ok (.iadd, 1) := by decide +kernel
theorem dCo_hasInside_73 : decode prog_3_method_9_code 73 = .ok (.istore 6, 2) := by decide +kernel
theorem dCo_hasInside_75 : decode prog_3_method_9_code 75 = .ok (.iload 6, 2) := by decide +kernel
theorem dCo_hasInside_77 : decode prog_3_method_9_code 77 = .ok (.ifCond .ne 18, 3) := by decide +kernel
theorem dCo_hasInside_80 : decode prog_3_method_9_code 80 = .ok (.aload_n 0, 1) := by decide +kernel
theorem dCo_hasInside_81 : decode prog_3_method_9_code 81 = .ok (.iload 4, 2) := by decide +kernel
theorem dCo_hasInside_83 : decode prog_3_method_9_code 83 = .ok (.iload 5, 2) := by decide +kernel
theorem dCo_hasInside_85 : decode prog_3_method_9_code 85 = .ok (.iload_n 1, 1) := by decide +kernel
theorem dCo_hasInside_86 : decode prog_3_method_9_code 86 = .ok (.iload_n 2, 1) := by decide +kernel
theorem dCo_hasInside_87 : decode prog_3_method_9_code 87 = .ok (.invokevirtual 51, 3) := by decide +kernel
theorem dCo_hasInside_90 : decode prog_3_method_9_code 90 = .ok (.ifCond .eq 5, 3) := by decide +kernel
theorem dCo_hasInside_93 : decode prog_3_method_9_code 93 = .ok (.iconst 1, 1) := by decide +kernel
theorem dCo_hasInside_94 : decode prog_3_method_9_code 94 = .ok (.ireturn, 1) := by decide +kernel
theorem dCo_hasInside_95 : decode prog_3_method_9_code 95 = .ok (.aload_n 0, 1) := by decide +kernel
theorem dCo_hasInside_96 : decode prog_3_method_9_code 96 = .ok (.getfield 25, 3) := by decide +kernel
theorem dCo_hasInside_99 : decode prog_3_method_9_code 99 = .ok (.iload 5, 2) := by decide +kernel
theorem dCo_hasInside_101 : decode prog_3_method_9_code 101 = .ok (.iaload, 1) := by decide +kernel
theorem dCo_hasInside_102 : decode prog_3_method_9_code 102 = .ok (.aload_n 0, 1) := by decide +kernel
theorem dCo_hasInside_103 : decode prog_3_method_9_code 103 = .ok (.getfield 25, 3) := by decide +kernel
theorem dCo_hasInside_106 : decode prog_3_method_9_code 106 = .ok (.iload 4, 2) := by decide +kernel
theorem dCo_hasInside_108 : decode prog_3_method_9_code 108 = .ok (.iaload, 1) := by decide +kernel
theorem dCo_hasInside_109 : decode prog_3_method_9_code 109 = .ok (.if_icmp .le 7, 3) := by decide +kernel
theorem dCo_hasInside_112 : decode prog_3_method_9_code 112 = .ok (.iconst 1, 1) := by decide +kernel
theorem dCo_hasInside_113 : decode prog_3_method_9_code 113 = .ok (.goto 4, 3) := by decide +kernel
theorem dCo_hasInside_116 : decode prog_3_method_9_code 116 = .ok (.iconst 0, 1) := by decide +kernel
theorem dCo_hasInside_117 : decode prog_3_method_9_code 117 = .ok (.istore 7, 2) := by decide +kernel
theorem dCo_hasInside_119 : decode prog_3_method_9_code 119 = .ok (.aload_n 0, 1) := by decide +kernel
theorem dCo_hasInside_120 : decode prog_3_method_9_code 120 = .ok (.getfield 25, 3) := by decide +kernel
theorem dCo_hasInside_123 : decode prog_3_method_9_code 123 = .ok (.iload 4, 2) := by decide +kernel
theorem dCo_hasInside_125 : decode prog_3_method_9_code 125 = .ok (.iaload, 1) := by decide +kernel
theorem dCo_hasInside_126 : decode prog_3_method_9_code 126 = .ok (.iload_n 2, 1) := by decide +kernel
theorem dCo_hasInside_127 : decode prog_3_method_9_code 127 = .ok (.if_icmp .le 7, 3) := by decide +kernel
theorem dCo_hasInside_130 : decode prog_3_method_9_code 130 = .ok (.iconst 1, 1) := by decide +kernel
theorem dCo_hasInside_131 : decode prog_3_method_9_code 131 = .ok (.goto 4, 3) := by decide +kernel
theorem dCo_hasInside_134 : decode prog_3_method_9_code 134 = .ok (.iconst 0, 1) := by decide +kernel
theorem dCo_hasInside_135 : decode prog_3_method_9_code 135 = .ok (.aload_n 0, 1) := by decide +kernel
theorem dCo_hasInside_136 : decode prog_3_method_9_code 136 = .ok (.getfield 25, 3) := by decide +kernel
theorem dCo_hasInside_139 : decode prog_3_method_9_code 139 = .ok (.iload 5, 2) := by decide +kernel
theorem dCo_hasInside_141 : decode prog_3_method_9_code 141 = .ok (.iaload, 1) := by decide +kernel
theorem dCo_hasInside_142 : decode prog_3_method_9_code 142 = .ok (.iload_n 2, 1) := by decide +kernel
theorem dCo_hasInside_143 : decode prog_3_method_9_code 143 = .ok (.if_icmp .le 7, 3) := by decide +kernel
theorem dCo_hasInside_146 : decode prog_3_method_9_code 146 = .ok (.iconst 1, 1) := by decide +kernel
theorem dCo_hasInside_147 : decode prog_3_method_9_code 147 = .ok (.goto 4, 3) := by decide +kernel
theorem dCo_hasInside_150 : decode prog_3_method_9_code 150 = .ok (.iconst 0, 1) := by decide +kernel
theorem dCo_hasInside_151 : decode prog_3_method_9_code 151 = .ok (.if_icmp .eq 28, 3) := by decide +kernel
theorem dCo_hasInside_154 : decode prog_3_method_9_code 154 = .ok (.iload 6, 2) := by decide +kernel
theorem dCo_hasInside_156 : decode prog_3_method_9_code 156 = .ok (.ifCond .le 7, 3) := by decide +kernel
theorem dCo_hasInside_159 : decode prog_3_method_9_code 159 = .ok (.iconst 1, 1) := by decide +kernel
theorem dCo_hasInside_160 : decode prog_3_method_9_code 160 = .ok (.goto 4, 3) := by decide +kernel
theorem dCo_hasInside_163 : decode prog_3_method_9_code 163 = .ok (.iconst 0, 1) := by decide +kernel
theorem dCo_hasInside_164 : decode prog_3_method_9_code 164 = .ok (.iload 7, 2) := by decide +kernel
theorem dCo_hasInside_166 : decode prog_3_method_9_code 166 = .ok (.if_icmp .ne 13, 3) := by decide +kernel
theorem dCo_hasInside_169 : decode prog_3_method_9_code 169 = .ok (.iload_n 3, 1) := by decide +kernel
theorem dCo_hasInside_170 : decode prog_3_method_9_code 170 = .ok (.ifCond .ne 7, 3) := by decide +kernel
theorem dCo_hasInside_173 : decode prog_3_method_9_code 173 = .ok (.iconst 1, 1) := by decide +kernel
theorem dCo_hasInside_174 : decode prog_3_method_9_code 174 = .ok (.goto 4, 3) := by decide +kernel
theorem dCo_hasInside_177 : decode prog_3_method_9_code 177 = .ok (.iconst 0, 1) := by decide +kernel
theorem dCo_hasInside_178 : decode prog_3_method_9_code 178 = .ok (.istore_n 3, 1) := by decide +kernel
theorem dCo_hasInside_179 : decode prog_3_method_9_code 179 = .ok (.iinc 4 1, 3) := by decide +kernel
theorem dCo_hasInside_182 : decode prog_3_method_9_code 182 = .ok (.goto (-177), 3) := by decide +kernel
theorem dCo_hasInside_185 : decode prog_3_method_9_code 185 = .ok (.iload_n 3, 1) := by decide +kernel
theorem dCo_hasInside_186 : decode prog_3_method_9_code 186 = .ok (.ireturn, 1) := by decide +kernel
theorem dCo_hasAllInside_0 : decode prog_3_method_8_code 0 = .ok (.iconst 0, 1) := by decide +kernel
theorem dCo_hasAllInside_1 : decode prog_3_method_8_code 1 = .ok (.istore_n 2, 1) := by decide +kernel
theorem dCo_hasAllInside_2 : decode prog_3_method_8_code 2 = .ok (.iload_n 2, 1) := by decide +kernel
theorem dCo_hasAllInside_3 : decode prog_3_method_8_code 3 = .ok (.aload_n 1, 1) := by decide +kernel
theorem dCo_hasAllInside_4 : decode prog_3_method_8_code 4 = .ok (.getfield 9, 3) := by decide +kernel
theorem dCo_hasAllInside_7 : decode prog_3_method_8_code 7 = .ok (.if_icmp .ge 30, 3) := by decide +kernel
theorem dCo_hasAllInside_10 : decode prog_3_method_8_code 10 = .ok (.aload_n 0, 1) := by decide +kernel
theorem dCo_hasAllInside_11 : decode prog_3_method_8_code 11 = .ok (.aload_n 1, 1) := by decide +kernel
theorem dCo_hasAllInside_12 : decode prog_3_method_8_code 12 = .ok (.getfield 21, 3) := by decide +kernel
theorem dCo_hasAllInside_15 : decode prog_3_method_8_code 15 = .ok (.iload_n 2, 1) := by decide +kernel
theorem dCo_hasAllInside_16 : decode prog_3_method_8_code 16 = .ok (.iaload, 1) := by decide +kernel
theorem dCo_hasAllInside_17 : decode prog_3_method_8_code 17 = .ok (.aload_n 1, 1) := by decide +kernel
theorem dCo_hasAllInside_18 : decode prog_3_method_8_code 18 = .ok (.getfield 25, 3) := by decide +kernel
theorem dCo_hasAllInside_21 : decode prog_3_method_8_code 21 = .ok (.iload_n 2, 1) := by decide +kernel
theorem dCo_hasAllInside_22 : decode prog_3_method_8_code 22 = .ok (.iaload, 1) := by decide +kernel
theorem dCo_hasAllInside_23 : decode prog_3_method_8_code 23 = .ok (.invokevirtual 47, 3) := by decide +kernel
theorem dCo_hasAllInside_26 : decode prog_3_method_8_code 26 = .ok (.ifCond .ne 5, 3) := by decide +kernel
theorem dCo_hasAllInside_29 : decode prog_3_method_8_code 29 = .ok (.iconst 0, 1) := by decide +kernel
theorem dCo_hasAllInside_30 : decode prog_3_method_8_code 30 = .ok (.ireturn, 1) := by decide +kernel
theorem dCo_hasAllInside_31 : decode prog_3_method_8_code 31 = .ok (.iinc 2 1, 3) := by decide +kernel
theorem dCo_hasAllInside_34 : decode prog_3_method_8_code 34 = .ok (.goto (-32), 3) := by decide +kernel
theorem dCo_hasAllInside_37 : decode prog_3_method_8_code 37 = .ok (.iconst 1, 1) := by decide +kernel
theorem dCo_hasAllInside_38 : decode prog_3_method_8_code 38 = .ok (.ireturn, 1) := by decide +kernel
theorem dP_liesInPlace_0 : decode prog_1_method_33_code 0 = .ok (.aload_n 0, 1) := by decide +kernel
theorem dP_liesInPlace_1 : decode prog_1_method_33_code 1 = .ok (.iload_n 2, 1) := by decide +kernel
theorem dP_liesInPlace_2 : decode prog_1_method_33_code 2 = .ok (.invokevirtual 124, 3) := by decide +kernel
theorem dP_liesInPlace_5 : decode prog_1_method_33_code 5 = .ok (.astore 4, 2) := by decide +kernel
theorem dP_liesInPlace_7 : decode prog_1_method_33_code 7 = .ok (.aload 4, 2) := by decide +kernel
theorem dP_liesInPlace_9 : decode prog_1_method_33_code 9 = .ok (.ifnonnull 5, 3) := by decide +kernel
theorem dP_liesInPlace_12 : decode prog_1_method_33_code 12 = .ok (.iconst 0, 1) := by decide +kernel
theorem dP_liesInPlace_13 : decode prog_1_method_33_code 13 = .ok (.ireturn, 1) := by decide +kernel
theorem dP_liesInPlace_14 : decode prog_1_method_33_code 14 = .ok (.aload 4, 2) := by decide +kernel
theorem dP_liesInPlace_16 : decode prog_1_method_33_code 16 = .ok (.iload_n 3, 1) := by decide +kernel
theorem dP_liesInPlace_17 : decode prog_1_method_33_code 17 = .ok (.invokevirtual 275, 3) := by decide +kernel
theorem dP_liesInPlace_20 : decode prog_1_method_33_code 20 = .ok (.astore 5, 2) := by decide +kernel
theorem dP_liesInPlace_22 : decode prog_1_method_33_code 22 = .ok (.aload 5, 2) := by decide +kernel
theorem dP_liesInPlace_24 : decode prog_1_method_33_code 24 = .ok (.ifnull 24, 3) := by decide +kernel
theorem dP_liesInPlace_27 : decode prog_1_method_33_code 27 = .ok (.aload 5, 2) := by decide +kernel
theorem dP_liesInPlace_29 : decode prog_1_method_33_code 29 = .ok (.invokevirtual 137, 3) := by decide +kernel
theorem dP_liesInPlace_32 : decode prog_1_method_33_code 32 = .ok (.ifCond .eq 16, 3) := by decide +kernel
theorem dP_liesInPlace_35 : decode prog_1_method_33_code 35 = .ok (.aload 5, 2) := by decide +kernel
theorem dP_liesInPlace_37 : decode prog_1_method_33_code 37 = .ok (.aload_n 1, 1) := by decide +kernel
theorem dP_liesInPlace_38 : decode prog_1_method_33_code 38 = .ok (.invokevirtual 385, 3) := by decide +kernel
theorem dP_liesInPlace_41 : decode prog_1_method_33_code 41 = .ok (.ifCond .eq 7, 3) := by decide +kernel
theorem dP_liesInPlace_44 : decode prog_1_method_33_code 44 = .ok (.iconst 1, 1) := by decide +kernel
theorem dP_liesInPlace_45 : decode prog_1_method_33_code 45 = .ok (.goto 4, 3) := by decide +kernel
theorem dP_liesInPlace_48 : decode prog_1_method_33_code 48 = .ok (.iconst 0, 1) := by decide +kernel
theorem dP_liesInPlace_49 : decode prog_1_method_33_code 49 = .ok (.ireturn, 1) := by decide +kernel
theorem dPl_aboveOn_0 : decode prog_8_method_9_code 0 = .ok (.iconst 0, 1) := by decide +kernel
theorem dPl_aboveOn_1 : decode prog_8_method_9_code 1 = .ok (.istore_n 2, 1) := by decide +kernel
theorem dPl_aboveOn_2 : decode prog_8_method_9_code 2 = .ok (.iload_n 2, 1) := by decide +kernel
theorem dPl_aboveOn_3 : decode prog_8_method_9_code 3 = .ok (.aload_n 0, 1) := by decide +kernel
theorem dPl_aboveOn_4 : decode prog_8_method_9_code 4 = .ok (.getfield 29, 3) := by decide +kernel
theorem dPl_aboveOn_7 : decode prog_8_method_9_code 7 = .ok (.invokevirtual 38, 3) := by decide +kernel
theorem dPl_aboveOn_10 : decode prog_8_method_9_code 10 = .ok (.if_icmp .ge 43, 3) := by decide +kernel
theorem dPl_aboveOn_13 : decode prog_8_method_9_code 13 = .ok (.aload_n 0, 1) := by decide +kernel
theorem dPl_aboveOn_14 : decode prog_8_method_9_code 14 = .ok (.getfield 29, 3) := by decide +kernel
theorem dPl_aboveOn_17 : decode prog_8_method_9_code 17 = .ok (.iload_n 2, 1) := by decide +kernel
theorem dPl_aboveOn_18 : decode prog_8_method_9_code 18 = .ok (.invokevirtual 46, 3) := by decide +kernel
theorem dPl_aboveOn_21 : decode prog_8_method_9_code 21 = .ok (.checkcast 65, 3) := by decide +kernel
theorem dPl_aboveOn_24 : decode prog_8_method_9_code 24 = .ok (.iload_n 1, 1) := by decide +kernel
theorem dPl_aboveOn_25 : decode prog_8_method_9_code 25 = .ok (.iload_n 1, 1) := by decide +kernel
theorem dPl_aboveOn_26 : decode prog_8_method_9_code 26 = .ok (.invokevirtual 67, 3) := by decide +kernel
theorem dPl_aboveOn_29 : decode prog_8_method_9_code 29 = .ok (.ifCond .eq 18, 3) := by decide +kernel
theorem dPl_aboveOn_32 : decode prog_8_method_9_code 32 = .ok (.aload_n 0, 1) := by decide +kernel
theorem dPl_aboveOn_33 : decode prog_8_method_9_code 33 = .ok (.getfield 29, 3) := by decide +kernel
theorem dPl_aboveOn_36 : decode prog_8_method_9_code 36 = .ok (.iload_n 2, 1) := by decide +kernel
theorem dPl_aboveOn_37 : decode prog_8_method_9_code 37 = .ok (.invokevirtual 46, 3) := by decide +kernel
theorem dPl_aboveOn_40 : decode prog_8_method_9_code 40 = .ok (.checkcast 65, 3) := by decide +kernel
theorem dPl_aboveOn_43 : decode prog_8_method_9_code 43 = .ok (.getfield 71, 3) := by decide +kernel
theorem dPl_aboveOn_46 : decode prog_8_method_9_code 46 = .ok (.areturn, 1) := by decide +kernel
theorem dPl_aboveOn_47 : decode prog_8_method_9_code 47 = .ok (.iinc 2 1, 3) := by decide +kernel
theorem dPl_aboveOn_50 : decode prog_8_method_9_code 50 = .ok (.goto (-48), 3) := by decide +kernel
theorem dPl_aboveOn_53 : decode prog_8_method_9_code 53 = .ok (.aconst_null, 1) := by decide +kernel
theorem dPl_aboveOn_54 : decode prog_8_method_9_code 54 = .ok (.areturn, 1) := by decide +kernel
theorem dP_isBelow_0 : decode prog_1_method_34_code 0 = .ok (.aload_n 0, 1) := by decide +kernel
theorem dP_isBelow_1 : decode prog_1_method_34_code 1 = .ok (.iload_n 2, 1) := by decide +kernel
theorem dP_isBelow_2 : decode prog_1_method_34_code 2 = .ok (.invokevirtual 267, 3) := by decide +kernel
theorem dP_isBelow_5 : decode prog_1_method_34_code 5 = .ok (.astore_n 3, 1) := by decide +kernel
theorem dP_isBelow_6 : decode prog_1_method_34_code 6 = .ok (.iconst 0, 1) := by decide +kernel
theorem dP_isBelow_7 : decode prog_1_method_34_code 7 = .ok (.istore 4, 2) := by decide +kernel
theorem dP_isBelow_9 : decode prog_1_method_34_code 9 = .ok (.iload 4, 2) := by decide +kernel
theorem dP_isBelow_11 : decode prog_1_method_34_code 11 = .ok (.bipush 30, 2) := by decide +kernel
theorem dP_isBelow_13 : decode prog_1_method_34_code 13 = .ok (.if_icmp .ge 29, 3) := by decide +kernel
theorem dP_isBelow_16 : decode prog_1_method_34_code 16 = .ok (.aload_n 3, 1) := by decide +kernel
theorem dP_isBelow_17 : decode prog_1_method_34_code 17 = .ok (.ifnull 25, 3) := by decide +kernel
theorem dP_isBelow_20 : decode prog_1_method_34_code 20 = .ok (.aload_n 3, 1) := by decide +kernel
theorem dP_isBelow_21 : decode prog_1_method_34_code 21 = .ok (.getfield 270, 3) := by decide +kernel
theorem dP_isBelow_24 : decode prog_1_method_34_code 24 = .ok (.iload_n 1, 1) := by decide +kernel
theorem dP_isBelow_25 : decode prog_1_method_34_code 25 = .ok (.if_icmp .ne 5, 3) := by decide +kernel
theorem dP_isBelow_28 : decode prog_1_method_34_code 28 = .ok (.iconst 1, 1) := by decide +kernel
theorem dP_isBelow_29 : decode prog_1_method_34_code 29 = .ok (.ireturn, 1) := by decide +kernel
theorem dP_isBelow_30 : decode prog_1_method_34_code 30 = .ok (.aload_n 3, 1) := by decide +kernel
theorem dP_isBelow_31 : decode prog_1_method_34_code 31 = .ok (.iload_n 2, 1) := by decide +kernel
theorem dP_isBelow_32 : decode prog_1_method_34_code 32 = .ok (.invokevirtual 267, 3) := by decide +kernel
theorem dP_isBelow_35 : decode prog_1_method_34_code 35 = .ok (.astore_n 3, 1) := by decide +kernel
theorem dP_isBelow_36 : decode prog_1_method_34_code 36 = .ok (.iinc 4 1, 3) := by decide +kernel
theorem dP_isBelow_39 : decode prog_1_method_34_code 39 = .ok (.goto (-30), 3) := by decide +kernel
theorem dP_isBelow_42 : decode prog_1_method_34_code 42 = .ok (.iconst 0, 1) := by decide +kernel
theorem dP_isBelow_43 : decode prog_1_method_34_code 43 = .ok (.ireturn, 1) := by decide +kernel
theorem dCo_squareFrom_0 : decode prog_3_method_7_code 0 = .ok (.iload_n 2, 1) := by decide +kernel
theorem dCo_squareFrom_1 : decode prog_3_method_7_code 1 = .ok (.aload_n 0, 1) := by decide +kernel
theorem dCo_squareFrom_2 : decode prog_3_method_7_code 2 = .ok (.getfield 21, 3) := by decide +kernel
theorem dCo_squareFrom_5 : decode prog_3_method_7_code 5 = .ok (.iload_n 1, 1) := by decide +kernel
theorem dCo_squareFrom_6 : decode prog_3_method_7_code 6 = .ok (.iaload, 1) := by decide +kernel
theorem dCo_squareFrom_7 : decode prog_3_method_7_code 7 = .ok (.isub, 1) := by decide +kernel
theorem dCo_squareFrom_8 : decode prog_3_method_7_code 8 = .ok (.istore 4, 2) := by decide +kernel
theorem dCo_squareFrom_10 : decode prog_3_method_7_code 10 = .ok (.iload_n 3, 1) := by decide +kernel
theorem dCo_squareFrom_11 : decode prog_3_method_7_code 11 = .ok (.aload_n 0, 1) := by decide +kernel
theorem dCo_squareFrom_12 : decode prog_3_method_7_code 12 = .ok (.getfield 25, 3) := by decide +kernel
theorem dCo_squareFrom_15 : decode prog_3_method_7_code 15 = .ok (.iload_n 1, 1) := by decide +kernel
theorem dCo_squareFrom_16 : decode prog_3_method_7_code 16 = .ok (.iaload, 1) := by decide +kernel
theorem dCo_squareFrom_17 : decode prog_3_method_7_code 17 = .ok (.isub, 1) := by decide +kernel
theorem dCo_squareFrom_18 : decode prog_3_method_7_code 18 = .ok (.istore 5, 2) := by decide +kernel
theorem dCo_squareFrom_20 : decode prog_3_method_7_code 20 = .ok (.iload 4, 2) := by decide +kernel
theorem dCo_squareFrom_22 : decode prog_3_method_7_code 22 = .ok (.iload 4, 2) := by decide +kernel
theorem dCo_squareFrom_24 : decode prog_3_method_7_code 24 = .ok (.imul, 1) := by decide +kernel
theorem dCo_squareFrom_25 : decode prog_3_method_7_code 25 = .ok (.iload 5, 2) := by decide +kernel
theorem dCo_squareFrom_27 : decode prog_3_method_7_code 27 = .ok (.iload 5, 2) := by decide +kernel
theorem dCo_squareFrom_29 : decode prog_3_method_7_code 29 = .ok (.imul, 1) := by decide +kernel
theorem dCo_squareFrom_30 : decode prog_3_method_7_code 30 = .ok (.iadd, 1) := by decide +kernel
theorem dCo_squareFrom_31 : decode prog_3_method_7_code 31 = .ok (.ireturn, 1) := by decide +kernel
theorem dCo_squareTo_0 : decode prog_3_method_6_code 0 = .ok (.ldc 36, 2) := by decide +kernel
theorem dCo_squareTo_2 : decode prog_3_method_6_code 2 = .ok (.istore_n 3, 1) := by decide +kernel
theorem dCo_squareTo_3 : decode prog_3_method_6_code 3 = .ok (.iconst 0, 1) := by decide +kernel
theorem dCo_squareTo_4 : decode prog_3_method_6_code 4 = .ok (.istore 4, 2) := by decide +kernel
theorem dCo_squareTo_6 : decode prog_3_method_6_code 6 = .ok (.iload 4, 2) := by decide +kernel
theorem dCo_squareTo_8 : decode prog_3_method_6_code 8 = .ok (.aload_n 0, 1) := by decide +kernel
theorem dCo_squareTo_9 : decode prog_3_method_6_code 9 = .ok (.getfield 9, 3) := by decide +kernel
theorem dCo_squareTo_12 : decode prog_3_method_6_code 12 = .ok (.if_icmp .ge 22, 3) := by decide +kernel
theorem dCo_squareTo_15 : decode prog_3_method_6_code 15 = .ok (.iload_n 3, 1) := by decide +kernel
theorem dCo_squareTo_16 : decode prog_3_method_6_code 16 = .ok (.aload_n 0, 1) := by decide +kernel
theorem dCo_squareTo_17 : decode prog_3_method_6_code 17 = .ok (.iload 4, 2) := by decide +kernel
theorem dCo_squareTo_19 : decode prog_3_method_6_code 19 = .ok (.iload_n 1, 1) := by decide +kernel
theorem dCo_squareTo_20 : decode prog_3_method_6_code 20 = .ok (.iload_n 2, 1) := by decide +kernel
theorem dCo_squareTo_21 : decode prog_3_method_6_code 21 = .ok (.invokevirtual 37, 3) := by decide +kernel
theorem dCo_squareTo_24 : decode prog_3_method_6_code 24 = .ok (.invokestatic 41, 3) := by decide +kernel
theorem dCo_squareTo_27 : decode prog_3_method_6_code 27 = .ok (.istore_n 3, 1) := by decide +kernel
theorem dCo_squareTo_28 : decode prog_3_method_6_code 28 = .ok (.iinc 4 1, 3) := by decide +kernel
theorem dCo_squareTo_31 : decode prog_3_method_6_code 31 = .ok (.goto (-25), 3) := by decide +kernel
theorem dCo_squareTo_34 : decode prog_3_method_6_code 34 = .ok (.iload_n 3, 1) := by decide +kernel
theorem dCo_squareTo_35 : decode prog_3_method_6_code 35 = .ok (.ireturn, 1) := by decide +kernel
theorem dLo_compare_0 : decode prog_22_method_42_code 0 = .ok (.lload_n 0, 1) := by decide +kernel
theorem dLo_compare_1 : decode prog_22_method_42_code 1 = .ok (.lload_n 2, 1) := by decide +kernel
theorem dLo_compare_2 : decode prog_22_method_42_code 2 = .ok (.lcmp, 1) := by decide +kernel
theorem dLo_compare_3 : decode prog_22_method_42_code 3 = .ok (.ifCond .ge 7, 3) := by decide +kernel
theorem dLo_compare_6 : decode prog_22_method_42_code 6 = .ok (.iconst (-1), 1) := by decide +kernel
theorem dLo_compare_7 : decode prog_22_method_42_code 7 = .ok (.goto 14, 3) := by decide +kernel
theorem dLo_compare_10 : decode prog_22_method_42_code 10 = .ok (.lload_n 0, 1) := by decide +kernel
theorem dLo_compare_11 : decode prog_22_method_42_code 11 = .ok (.lload_n 2, 1) := by decide +kernel
theorem dLo_compare_12 : decode prog_22_method_42_code 12 = .ok (.lcmp, 1) := by decide +kernel
theorem dLo_compare_13 : decode prog_22_method_42_code 13 = .ok (.ifCond .ne 7, 3) := by decide +kernel
theorem dLo_compare_16 : decode prog_22_method_42_code 16 = .ok (.iconst 0, 1) := by decide +kernel
theorem dLo_compare_17 : decode prog_22_method_42_code 17 = .ok (.goto 4, 3) := by decide +kernel
theorem dLo_compare_20 : decode prog_22_method_42_code 20 = .ok (.iconst 1, 1) := by decide +kernel
theorem dLo_compare_21 : decode prog_22_method_42_code 21 = .ok (.ireturn, 1) := by decide +kernel
theorem dRs_takeIfBetter_0 : decode prog_9_method_4_code 0 = .ok (.iconst (-1), 1) := by decide +kernel
theorem dRs_takeIfBetter_1 : decode prog_9_method_4_code 1 = .ok (.istore 9, 2) := by decide +kernel
theorem dRs_takeIfBetter_3 : decode prog_9_method_4_code 3 = .ok (.aload_n 0, 1) := by decide +kernel
theorem dRs_takeIfBetter_4 : decode prog_9_method_4_code 4 = .ok (.getfield 7, 3) := by decide +kernel
theorem dRs_takeIfBetter_7 : decode prog_9_method_4_code 7 = .ok (.ifCond .eq 42, 3) := by decide +kernel
theorem dRs_takeIfBetter_10 : decode prog_9_method_4_code 10 = .ok (.lload_n 3, 1) := by decide +kernel
theorem dRs_takeIfBetter_11 : decode prog_9_method_4_code 11 = .ok (.aload_n 0, 1) := by decide +kernel
theorem dRs_takeIfBetter_12 : decode prog_9_method_4_code 12 = .ok (.getfield 38, 3) := by decide +kernel
theorem dRs_takeIfBetter_15 : decode prog_9_method_4_code 15 = .ok (.lcmp, 1) := by decide +kernel
theorem dRs_takeIfBetter_16 : decode prog_9_method_4_code 16 = .ok (.ifCond .eq 14, 3) := by decide +kernel
theorem dRs_takeIfBetter_19 : decode prog_9_method_4_code 19 = .ok (.lload_n 3, 1) := by decide +kernel
theorem dRs_takeIfBetter_20 : decode prog_9_method_4_code 20 = .ok (.aload_n 0, 1) := by decide +kernel
theorem dRs_takeIfBetter_21 : decode prog_9_method_4_code 21 = .ok (.getfield 38, 3) := by decide +kernel
theorem dRs_takeIfBetter_24 : decode prog_9_method_4_code 24 = .ok (.invokestatic 42, 3) := by decide +kernel
theorem dRs_takeIfBetter_27 : decode prog_9_method_4_code 27 = .ok (.goto 20, 3) := by decide +kernel
theorem dRs_takeIfBetter_30 : decode prog_9_method_4_code 30 = .ok (.lload 5, 2) := by decide +kernel
theorem dRs_takeIfBetter_32 : decode prog_9_method_4_code 32 = .ok (.aload_n 0, 1) := by decide +kernel
theorem dRs_takeIfBetter_33 : decode prog_9_method_4_code 33 = .ok (.getfield 48, 3) := by decide +kernel
theorem dRs_takeIfBetter_36 : decode prog_9_method_4_code 36 = .ok (.lmul, 1) := by decide +kernel
theorem dRs_takeIfBetter_37 : decode prog_9_method_4_code 37 = .ok (.aload_n 0, 1) := by decide +kernel
theorem dRs_takeIfBetter_38 : decode prog_9_method_4_code 38 = .ok (.getfield 51, 3) := by decide +kernel
theorem dRs_takeIfBetter_41 : decode prog_9_method_4_code 41 = .ok (.lload 7, 2) := by decide +kernel
theorem dRs_takeIfBetter_43 : decode prog_9_method_4_code 43 = .ok (.lmul, 1) := by decide +kernel
theorem dRs_takeIfBetter_44 : decode prog_9_method_4_code 44 = .ok (.invokestatic 42, 3) := by decide +kernel
theorem dRs_takeIfBetter_47 : decode prog_9_method_4_code 47 = .ok (.istore 9, 2) := by decide +kernel
theorem dRs_takeIfBetter_49 : decode prog_9_method_4_code 49 = .ok (.iload 9, 2) := by decide +kernel
theorem dRs_takeIfBetter_51 : decode prog_9_method_4_code 51 = .ok (.ifCond .lt 24, 3) := by decide +kernel
theorem dRs_takeIfBetter_54 : decode prog_9_method_4_code 54 = .ok (.iload 9, 2) := by decide +kernel
theorem dRs_takeIfBetter_56 : decode prog_9_method_4_code 56 = .ok (.ifCond .ne 51, 3) := by decide +kernel
theorem dRs_takeIfBetter_59 : decode prog_9_method_4_code 59 = .ok (.iload_n 1, 1) := by decide +kernel
theorem dRs_takeIfBetter_60 : decode prog_9_method_4_code 60 = .ok (.aload_n 0, 1) := by decide +kernel
theorem dRs_takeIfBetter_61 : decode prog_9_method_4_code 61 = .ok (.getfield 54, 3) := by decide +kernel
theorem dRs_takeIfBetter_64 : decode prog_9_method_4_code 64 = .ok (.if_icmp .ne 43, 3) := by decide +kernel
theorem dRs_takeIfBetter_67 : decode prog_9_method_4_code 67 = .ok (.iload_n 2, 1) := by decide +kernel
theorem dRs_takeIfBetter_68 : decode prog_9_method_4_code 68 = .ok (.aload_n 0, 1) := by decide +kernel
theorem dRs_takeIfBetter_69 : decode prog_9_method_4_code 69 = .ok (.getfield 57, 3) := by decide +kernel
theorem dRs_takeIfBetter_72 : decode prog_9_method_4_code 72 = .ok (.if_icmp .ge 35, 3) := by decide +kernel
theorem dRs_takeIfBetter_75 : decode prog_9_method_4_code 75 = .ok (.aload_n 0, 1) := by decide +kernel
theorem dRs_takeIfBetter_76 : decode prog_9_method_4_code 76 = .ok (.iconst 1, 1) := by decide +kernel
theorem dRs_takeIfBetter_77 : decode prog_9_method_4_code 77 = .ok (.putfield 7, 3) := by decide +kernel
theorem dRs_takeIfBetter_80 : decode prog_9_method_4_code 80 = .ok (.aload_n 0, 1) := by decide +kernel
theorem dRs_takeIfBetter_81 : decode prog_9_method_4_code 81 = .ok (.iload_n 1, 1) := by decide +kernel
theorem dRs_takeIfBetter_82 : decode prog_9_method_4_code 82 = .ok (.putfield 54, 3) := by decide +kernel
theorem dRs_takeIfBetter_85 : decode prog_9_method_4_code 85 = .ok (.aload_n 0, 1) := by decide +kernel
theorem dRs_takeIfBetter_86 : decode prog_9_method_4_code 86 = .ok (.iload_n 2, 1) := by decide +kernel
theorem dRs_takeIfBetter_87 : decode prog_9_method_4_code 87 = .ok (.putfield 57, 3) := by decide +kernel
theorem dRs_takeIfBetter_90 : decode prog_9_method_4_code 90 = .ok (.aload_n 0, 1) := by decide +kernel
theorem dRs_takeIfBetter_91 : decode prog_9_method_4_code 91 = .ok (.lload_n 3, 1) := by decide +kernel
theorem dRs_takeIfBetter_92 : decode prog_9_method_4_code 92 = .ok (.putfield 38, 3) := by decide +kernel
theorem dRs_takeIfBetter_95 : decode prog_9_method_4_code 95 = .ok (.aload_n 0, 1) := by decide +kernel
theorem dRs_takeIfBetter_96 : decode prog_9_method_4_code 96 = .ok (.lload 5, 2) := by decide +kernel
theorem dRs_takeIfBetter_98 : decode prog_9_method_4_code 98 = .ok (.putfield 51, 3) := by decide +kernel
theorem dRs_takeIfBetter_101 : decode prog_9_method_4_code 101 = .ok (.aload_n 0, 1) := by decide +kernel
theorem dRs_takeIfBetter_102 : decode prog_9_method_4_code 102 = .ok (.lload 7, 2) := by decide +kernel
theorem dRs_takeIfBetter_104 : decode prog_9_method_4_code 104 = .ok (.putfield 48, 3) := by decide +kernel
theorem dRs_takeIfBetter_107 : decode prog_9_method_4_code 107 = .ok (.return_, 1) := by decide +kernel
theorem dRs_measure_0 : decode prog_9_method_3_code 0 = .ok (.aload_n 1, 1) := by decide +kernel
theorem dRs_measure_1 : decode prog_9_method_3_code 1 = .ok (.getfield 19, 3) := by decide +kernel
theorem dRs_measure_4 : decode prog_9_method_3_code 4 = .ok (.iload_n 2, 1) := by decide +kernel
theorem dRs_measure_5 : decode prog_9_method_3_code 5 = .ok (.iconst 1, 1) := by decide +kernel
theorem dRs_measure_6 : decode prog_9_method_3_code 6 = .ok (.iadd, 1) := by decide +kernel
theorem dRs_measure_7 : decode prog_9_method_3_code 7 = .ok (.iaload, 1) := by decide +kernel
theorem dRs_measure_8 : decode prog_9_method_3_code 8 = .ok (.aload_n 1, 1) := by decide +kernel
theorem dRs_measure_9 : decode prog_9_method_3_code 9 = .ok (.getfield 19, 3) := by decide +kernel
theorem dRs_measure_12 : decode prog_9_method_3_code 12 = .ok (.iload_n 2, 1) := by decide +kernel
theorem dRs_measure_13 : decode prog_9_method_3_code 13 = .ok (.iaload, 1) := by decide +kernel
theorem dRs_measure_14 : decode prog_9_method_3_code 14 = .ok (.isub, 1) := by decide +kernel
theorem dRs_measure_15 : decode prog_9_method_3_code 15 = .ok (.istore 5, 2) := by decide +kernel
theorem dRs_measure_17 : decode prog_9_method_3_code 17 = .ok (.aload_n 1, 1) := by decide +kernel
theorem dRs_measure_18 : decode prog_9_method_3_code 18 = .ok (.getfield 23, 3) := by decide +kernel
theorem dRs_measure_21 : decode prog_9_method_3_code 21 = .ok (.iload_n 2, 1) := by decide +kernel
theorem dRs_measure_22 : decode prog_9_method_3_code 22 = .ok (.iconst 1, 1) := by decide +kernel
theorem dRs_measure_23 : decode prog_9_method_3_code 23 = .ok (.iadd, 1) := by decide +kernel
theorem dRs_measure_24 : decode prog_9_method_3_code 24 = .ok (.iaload, 1) := by decide +kernel
theorem dRs_measure_25 : decode prog_9_method_3_code 25 = .ok (.aload_n 1, 1) := by decide +kernel
theorem dRs_measure_26 : decode prog_9_method_3_code 26 = .ok (.getfield 23, 3) := by decide +kernel
theorem dRs_measure_29 : decode prog_9_method_3_code 29 = .ok (.iload_n 2, 1) := by decide +kernel
theorem dRs_measure_30 : decode prog_9_method_3_code 30 = .ok (.iaload, 1) := by decide +kernel
theorem dRs_measure_31 : decode prog_9_method_3_code 31 = .ok (.isub, 1) := by decide +kernel
theorem dRs_measure_32 : decode prog_9_method_3_code 32 = .ok (.istore 6, 2) := by decide +kernel
theorem dRs_measure_34 : decode prog_9_method_3_code 34 = .ok (.iload_n 3, 1) := by decide +kernel
theorem dRs_measure_35 : decode prog_9_method_3_code 35 = .ok (.aload_n 1, 1) := by decide +kernel
theorem dRs_measure_36 : decode prog_9_method_3_code 36 = .ok (.getfield 19, 3) := by decide +kernel
theorem dRs_measure_39 : decode prog_9_method_3_code 39 = .ok (.iload_n 2, 1) := by decide +kernel
theorem dRs_measure_40 : decode prog_9_method_3_code 40 = .ok (.iaload, 1) := by decide +kernel
theorem dRs_measure_41 : decode prog_9_method_3_code 41 = .ok (.isub, 1) := by decide +kernel
theorem dRs_measure_42 : decode prog_9_method_3_code 42 = .ok (.istore 7, 2) := by decide +kernel
theorem dRs_measure_44 : decode prog_9_method_3_code 44 = .ok (.iload 4, 2) := by decide +kernel
theorem dRs_measure_46 : decode prog_9_method_3_code 46 = .ok (.aload_n 1, 1) := by decide +kernel
theorem dRs_measure_47 : decode prog_9_method_3_code 47 = .ok (.getfield 23, 3) := by decide +kernel
theorem dRs_measure_50 : decode prog_9_method_3_code 50 = .ok (.iload_n 2, 1) := by decide +kernel
theorem dRs_measure_51 : decode prog_9_method_3_code 51 = .ok (.iaload, 1) := by decide +kernel
theorem dRs_measure_52 : decode prog_9_method_3_code 52 = .ok (.isub, 1) := by decide +kernel
theorem dRs_measure_53 : decode prog_9_method_3_code 53 = .ok (.istore 8, 2) := by decide +kernel
theorem dRs_measure_55 : decode prog_9_method_3_code 55 = .ok (.iload 5, 2) := by decide +kernel
theorem dRs_measure_57 : decode prog_9_method_3_code 57 = .ok (.iload 5, 2) := by decide +kernel
theorem dRs_measure_59 : decode prog_9_method_3_code 59 = .ok (.imul, 1) := by decide +kernel
theorem dRs_measure_60 : decode prog_9_method_3_code 60 = .ok (.iload 6, 2) := by decide +kernel
theorem dRs_measure_62 : decode prog_9_method_3_code 62 = .ok (.iload 6, 2) := by decide +kernel
theorem dRs_measure_64 : decode prog_9_method_3_code 64 = .ok (.imul, 1) := by decide +kernel
theorem dRs_measure_65 : decode prog_9_method_3_code 65 = .ok (.iadd, 1) := by decide +kernel
theorem dRs_measure_66 : decode prog_9_method_3_code 66 = .ok (.istore 9, 2) := by decide +kernel
theorem dRs_measure_68 : decode prog_9_method_3_code 68 = .ok (.iload 7, 2) := by decide +kernel
theorem dRs_measure_70 : decode prog_9_method_3_code 70 = .ok (.iload 5, 2) := by decide +kernel
theorem dRs_measure_72 : decode prog_9_method_3_code 72 = .ok (.imul, 1) := by decide +kernel
theorem dRs_measure_73 : decode prog_9_method_3_code 73 = .ok (.iload 8, 2) := by decide +kernel
theorem dRs_measure_75 : decode prog_9_method_3_code 75 = .ok (.iload 6, 2) := by decide +kernel
theorem dRs_measure_77 : decode prog_9_method_3_code 77 = .ok (.imul, 1) := by decide +kernel
theorem dRs_measure_78 : decode prog_9_method_3_code 78 = .ok (.iadd, 1) := by decide +kernel
theorem dRs_measure_79 : decode prog_9_method_3_code 79 = .ok (.istore 10, 2) := by decide +kernel
theorem dRs_measure_81 : decode prog_9_method_3_code 81 = .ok (.iload 10, 2) := by decide +kernel
theorem dRs_measure_83 : decode prog_9_method_3_code 83 = .ok (.ifCond .le 58, 3) := by decide +kernel
theorem dRs_measure_86 : decode prog_9_method_3_code 86 = .ok (.iload 10, 2) := by decide +kernel
theorem dRs_measure_88 : decode prog_9_method_3_code 88 = .ok (.iload 9, 2) := by decide +kernel
theorem dRs_measure_90 : decode prog_9_method_3_code 90 = .ok (.if_icmp .ge 51, 3) := by decide +kernel
theorem dRs_measure_93 : decode prog_9_method_3_code 93 = .ok (.iload 5, 2) := by decide +kernel
theorem dRs_measure_95 : decode prog_9_method_3_code 95 = .ok (.i2l, 1) := by decide +kernel
theorem dRs_measure_96 : decode prog_9_method_3_code 96 = .ok (.iload 8, 2) := by decide +kernel
theorem dRs_measure_98 : decode prog_9_method_3_code 98 = .ok (.i2l, 1) := by decide +kernel
theorem dRs_measure_99 : decode prog_9_method_3_code 99 = .ok (.lmul, 1) := by decide +kernel
theorem dRs_measure_100 : decode prog_9_method_3_code 100 = .ok (.iload 6, 2) := by decide +kernel
theorem dRs_measure_102 : decode prog_9_method_3_code 102 = .ok (.i2l, 1) := by decide +kernel
theorem dRs_measure_103 : decode prog_9_method_3_code 103 = .ok (.iload 7, 2) := by decide +kernel
theorem dRs_measure_105 : decode prog_9_method_3_code 105 = .ok (.i2l, 1) := by decide +kernel
theorem dRs_measure_106 : decode prog_9_method_3_code 106 = .ok (.lmul, 1) := by decide +kernel
theorem dRs_measure_107 : decode prog_9_method_3_code 107 = .ok (.lsub, 1) := by decide +kernel
theorem dRs_measure_108 : decode prog_9_method_3_code 108 = .ok (.lstore 11, 2) := by decide +kernel
theorem dRs_measure_110 : decode prog_9_method_3_code 110 = .ok (.aload_n 0, 1) := by decide +kernel
theorem dRs_measure_111 : decode prog_9_method_3_code 111 = .ok (.iload_n 2, 1) := by decide +kernel
theorem dRs_measure_112 : decode prog_9_method_3_code 112 = .ok (.iload 10, 2) := by decide +kernel
theorem dRs_measure_114 : decode prog_9_method_3_code 114 = .ok (.lload 11, 2) := by decide +kernel
theorem dRs_measure_116 : decode prog_9_method_3_code 116 = .ok (.lload 11, 2) := by decide +kernel
theorem dRs_measure_118 : decode prog_9_method_3_code 118 = .ok (.lmul, 1) := by decide +kernel
theorem dRs_measure_119 : decode prog_9_method_3_code 119 = .ok (.iload 9, 2) := by decide +kernel
theorem dRs_measure_121 : decode prog_9_method_3_code 121 = .ok (.i2l, 1) := by decide +kernel
theorem dRs_measure_122 : decode prog_9_method_3_code 122 = .ok (.ldiv, 1) := by decide +kernel
theorem dRs_measure_123 : decode prog_9_method_3_code 123 = .ok (.lload 11, 2) := by decide +kernel
theorem dRs_measure_125 : decode prog_9_method_3_code 125 = .ok (.lload 11, 2) := by decide +kernel
theorem dRs_measure_127 : decode prog_9_method_3_code 127 = .ok (.lmul, 1) := by decide +kernel
theorem dRs_measure_128 : decode prog_9_method_3_code 128 = .ok (.iload 9, 2) := by decide +kernel
theorem dRs_measure_130 : decode prog_9_method_3_code 130 = .ok (.i2l, 1) := by decide +kernel
theorem dRs_measure_131 : decode prog_9_method_3_code 131 = .ok (.lrem, 1) := by decide +kernel
theorem dRs_measure_132 : decode prog_9_method_3_code 132 = .ok (.iload 9, 2) := by decide +kernel
theorem dRs_measure_134 : decode prog_9_method_3_code 134 = .ok (.i2l, 1) := by decide +kernel
theorem dRs_measure_135 : decode prog_9_method_3_code 135 = .ok (.invokevirtual 30, 3) := by decide +kernel
theorem dRs_measure_138 : decode prog_9_method_3_code 138 = .ok (.goto 48, 3) := by decide +kernel
theorem dRs_measure_141 : decode prog_9_method_3_code 141 = .ok (.iload 10, 2) := by decide +kernel
theorem dRs_measure_143 : decode prog_9_method_3_code 143 = .ok (.ifCond .gt 23, 3) := by decide +kernel
theorem dRs_measure_146 : decode prog_9_method_3_code 146 = .ok (.aload_n 0, 1) := by decide +kernel
theorem dRs_measure_147 : decode prog_9_method_3_code 147 = .ok (.iload_n 2, 1) := by decide +kernel
theorem dRs_measure_148 : decode prog_9_method_3_code 148 = .ok (.iconst 0, 1) := by decide +kernel
theorem dRs_measure_149 : decode prog_9_method_3_code 149 = .ok (.aload_n 1, 1) := by decide +kernel
theorem dRs_measure_150 : decode prog_9_method_3_code 150 = .ok (.iload_n 2, 1) := by decide +kernel
theorem dRs_measure_151 : decode prog_9_method_3_code 151 = .ok (.iload_n 3, 1) := by decide +kernel
theorem dRs_measure_152 : decode prog_9_method_3_code 152 = .ok (.iload 4, 2) := by decide +kernel
theorem dRs_measure_154 : decode prog_9_method_3_code 154 = .ok (.invokevirtual 34, 3) := by decide +kernel
theorem dRs_measure_157 : decode prog_9_method_3_code 157 = .ok (.i2l, 1) := by decide +kernel
theorem dRs_measure_158 : decode prog_9_method_3_code 158 = .ok (.lconst 0, 1) := by decide +kernel
theorem dRs_measure_159 : decode prog_9_method_3_code 159 = .ok (.lconst 1, 1) := by decide +kernel
theorem dRs_measure_160 : decode prog_9_method_3_code 160 = .ok (.invokevirtual 30, 3) := by decide +kernel
theorem dRs_measure_163 : decode prog_9_method_3_code 163 = .ok (.goto 23, 3) := by decide +kernel
theorem dRs_measure_166 : decode prog_9_method_3_code 166 = .ok (.aload_n 0, 1) := by decide +kernel
theorem dRs_measure_167 : decode prog_9_method_3_code 167 = .ok (.iload_n 2, 1) := by decide +kernel
theorem dRs_measure_168 : decode prog_9_method_3_code 168 = .ok (.iload 9, 2) := by decide +kernel
theorem dRs_measure_170 : decode prog_9_method_3_code 170 = .ok (.aload_n 1, 1) := by decide +kernel
theorem dRs_measure_171 : decode prog_9_method_3_code 171 = .ok (.iload_n 2, 1) := by decide +kernel
theorem dRs_measure_172 : decode prog_9_method_3_code 172 = .ok (.iconst 1, 1) := by decide +kernel
theorem dRs_measure_173 : decode prog_9_method_3_code 173 = .ok (.iadd, 1) := by decide +kernel
theorem dRs_measure_174 : decode prog_9_method_3_code 174 = .ok (.iload_n 3, 1) := by decide +kernel
theorem dRs_measure_175 : decode prog_9_method_3_code 175 = .ok (.iload 4, 2) := by decide +kernel
theorem dRs_measure_177 : decode prog_9_method_3_code 177 = .ok (.invokevirtual 34, 3) := by decide +kernel
theorem dRs_measure_180 : decode prog_9_method_3_code 180 = .ok (.i2l, 1) := by decide +kernel
theorem dRs_measure_181 : decode prog_9_method_3_code 181 = .ok (.lconst 0, 1) := by decide +kernel
theorem dRs_measure_182 : decode prog_9_method_3_code 182 = .ok (.lconst 1, 1) := by decide +kernel
theorem dRs_measure_183 : decode prog_9_method_3_code 183 = .ok (.invokevirtual 30, 3) := by decide +kernel
theorem dRs_measure_186 : decode prog_9_method_3_code 186 = .ok (.return_, 1) := by decide +kernel
theorem dRs_start_0 : decode prog_9_method_2_code 0 = .ok (.aload_n 0, 1) := by decide +kernel
theorem dRs_start_1 : decode prog_9_method_2_code 1 = .ok (.iconst 0, 1) := by decide +kernel
theorem dRs_start_2 : decode prog_9_method_2_code 2 = .ok (.putfield 7, 3) := by decide +kernel
theorem dRs_start_5 : decode prog_9_method_2_code 5 = .ok (.iconst 0, 1) := by decide +kernel
theorem dRs_start_6 : decode prog_9_method_2_code 6 = .ok (.istore_n 3, 1) := by decide +kernel
theorem dRs_start_7 : decode prog_9_method_2_code 7 = .ok (.iload_n 3, 1) := by decide +kernel
theorem dRs_start_8 : decode prog_9_method_2_code 8 = .ok (.iconst 1, 1) := by decide +kernel
theorem dRs_start_9 : decode prog_9_method_2_code 9 = .ok (.iadd, 1) := by decide +kernel
theorem dRs_start_10 : decode prog_9_method_2_code 10 = .ok (.aload_n 1, 1) := by decide +kernel
theorem dRs_start_11 : decode prog_9_method_2_code 11 = .ok (.getfield 13, 3) := by decide +kernel
theorem dRs_start_14 : decode prog_9_method_2_code 14 = .ok (.if_icmp .ge 47, 3) := by decide +kernel
theorem dRs_start_17 : decode prog_9_method_2_code 17 = .ok (.iconst 0, 1) := by decide +kernel
theorem dRs_start_18 : decode prog_9_method_2_code 18 = .ok (.istore 4, 2) := by decide +kernel
theorem dRs_start_20 : decode prog_9_method_2_code 20 = .ok (.iload 4, 2) := by decide +kernel
theorem dRs_start_22 : decode prog_9_method_2_code 22 = .ok (.aload_n 2, 1) := by decide +kernel
theorem dRs_start_23 : decode prog_9_method_2_code 23 = .ok (.getfield 13, 3) := by decide +kernel
theorem dRs_start_26 : decode prog_9_method_2_code 26 = .ok (.if_icmp .ge 29, 3) := by decide +kernel
theorem dRs_start_29 : decode prog_9_method_2_code 29 = .ok (.aload_n 0, 1) := by decide +kernel
theorem dRs_start_30 : decode prog_9_method_2_code 30 = .ok (.aload_n 1, 1) := by decide +kernel
theorem dRs_start_31 : decode prog_9_method_2_code 31 = .ok (.iload_n 3, 1) := by decide +kernel
theorem dRs_start_32 : decode prog_9_method_2_code 32 = .ok (.aload_n 2, 1) := by decide +kernel
theorem dRs_start_33 : decode prog_9_method_2_code 33 = .ok (.getfield 19, 3) := by decide +kernel
theorem dRs_start_36 : decode prog_9_method_2_code 36 = .ok (.iload 4, 2) := by decide +kernel
theorem dRs_start_38 : decode prog_9_method_2_code 38 = .ok (.iaload, 1) := by decide +kernel
theorem dRs_start_39 : decode prog_9_method_2_code 39 = .ok (.aload_n 2, 1) := by decide +kernel
theorem dRs_start_40 : decode prog_9_method_2_code 40 = .ok (.getfield 23, 3) := by decide +kernel
theorem dRs_start_43 : decode prog_9_method_2_code 43 = .ok (.iload 4, 2) := by decide +kernel
theorem dRs_start_45 : decode prog_9_method_2_code 45 = .ok (.iaload, 1) := by decide +kernel
theorem dRs_start_46 : decode prog_9_method_2_code 46 = .ok (.invokevirtual 26, 3) := by decide +kernel
theorem dRs_start_49 : decode prog_9_method_2_code 49 = .ok (.iinc 4 1, 3) := by decide +kernel
theorem dRs_start_52 : decode prog_9_method_2_code 52 = .ok (.goto (-32), 3) := by decide +kernel
theorem dRs_start_55 : decode prog_9_method_2_code 55 = .ok (.iinc 3 1, 3) := by decide +kernel
theorem dRs_start_58 : decode prog_9_method_2_code 58 = .ok (.goto (-51), 3) := by decide +kernel
theorem dRs_start_61 : decode prog_9_method_2_code 61 = .ok (.return_, 1) := by decide +kernel
theorem dRs_isWithin_0 : decode prog_9_method_5_code 0 = .ok (.iload_n 1, 1) := by decide +kernel
theorem dRs_isWithin_1 : decode prog_9_method_5_code 1 = .ok (.i2l, 1) := by decide +kernel
theorem dRs_isWithin_2 : decode prog_9_method_5_code 2 = .ok (.iload_n 1, 1) := by decide +kernel
theorem dRs_isWithin_3 : decode prog_9_method_5_code 3 = .ok (.i2l, 1) := by decide +kernel
theorem dRs_isWithin_4 : decode prog_9_method_5_code 4 = .ok (.lmul, 1) := by decide +kernel
theorem dRs_isWithin_5 : decode prog_9_method_5_code 5 = .ok (.lstore_n 2, 1) := by decide +kernel
theorem dRs_isWithin_6 : decode prog_9_method_5_code 6 = .ok (.aload_n 0, 1) := by decide +kernel
theorem dRs_isWithin_7 : decode prog_9_method_5_code 7 = .ok (.getfield 7, 3) := by decide +kernel
theorem dRs_isWithin_10 : decode prog_9_method_5_code 10 = .ok (.ifCond .eq 34, 3) := by decide +kernel
theorem dRs_isWithin_13 : decode prog_9_method_5_code 13 = .ok (.aload_n 0, 1) := by decide +kernel
theorem dRs_isWithin_14 : decode prog_9_method_5_code 14 = .ok (.getfield 38, 3) := by decide +kernel
theorem dRs_isWithin_17 : decode prog_9_method_5_code 17 = .ok (.lload_n 2, 1) := by decide +kernel
theorem dRs_isWithin_18 : decode prog_9_method_5_code 18 = .ok (.lcmp, 1) := by decide +kernel
theorem dRs_isWithin_19 : decode prog_9_method_5_code 19 = .ok (.ifCond .lt 21, 3) := by decide +kernel
theorem dRs_isWithin_22 : decode prog_9_method_5_code 22 = .ok (.aload_n 0, 1) := by decide +kernel
theorem dRs_isWithin_23 : decode prog_9_method_5_code 23 = .ok (.getfield 38, 3) := by decide +kernel
theorem dRs_isWithin_26 : decode prog_9_method_5_code 26 = .ok (.lload_n 2, 1) := by decide +kernel
theorem dRs_isWithin_27 : decode prog_9_method_5_code 27 = .ok (.lcmp, 1) := by decide +kernel
theorem dRs_isWithin_28 : decode prog_9_method_5_code 28 = .ok (.ifCond .ne 16, 3) := by decide +kernel
theorem dRs_isWithin_31 : decode prog_9_method_5_code 31 = .ok (.aload_n 0, 1) := by decide +kernel
theorem dRs_isWithin_32 : decode prog_9_method_5_code 32 = .ok (.getfield 51, 3) := by decide +kernel
theorem dRs_isWithin_35 : decode prog_9_method_5_code 35 = .ok (.lconst 0, 1) := by decide +kernel
theorem dRs_isWithin_36 : decode prog_9_method_5_code 36 = .ok (.lcmp, 1) := by decide +kernel
theorem dRs_isWithin_37 : decode prog_9_method_5_code 37 = .ok (.ifCond .ne 7, 3) := by decide +kernel
theorem dRs_isWithin_40 : decode prog_9_method_5_code 40 = .ok (.iconst 1, 1) := by decide +kernel
theorem dRs_isWithin_41 : decode prog_9_method_5_code 41 = .ok (.goto 4, 3) := by decide +kernel
theorem dRs_isWithin_44 : decode prog_9_method_5_code 44 = .ok (.iconst 0, 1) := by decide +kernel
theorem dRs_isWithin_45 : decode prog_9_method_5_code 45 = .ok (.ireturn, 1) := by decide +kernel
theorem dNa_isOf_0 : decode prog_7_method_2_code 0 = .ok (.aload_n 0, 1) := by decide +kernel
theorem dNa_isOf_1 : decode prog_7_method_2_code 1 = .ok (.getfield 13, 3) := by decide +kernel
theorem dNa_isOf_4 : decode prog_7_method_2_code 4 = .ok (.iload_n 1, 1) := by decide +kernel
theorem dNa_isOf_5 : decode prog_7_method_2_code 5 = .ok (.if_icmp .gt 15, 3) := by decide +kernel
theorem dNa_isOf_8 : decode prog_7_method_2_code 8 = .ok (.iload_n 1, 1) := by decide +kernel
theorem dNa_isOf_9 : decode prog_7_method_2_code 9 = .ok (.aload_n 0, 1) := by decide +kernel
theorem dNa_isOf_10 : decode prog_7_method_2_code 10 = .ok (.getfield 17, 3) := by decide +kernel
theorem dNa_isOf_13 : decode prog_7_method_2_code 13 = .ok (.if_icmp .gt 7, 3) := by decide +kernel
theorem dNa_isOf_16 : decode prog_7_method_2_code 16 = .ok (.iconst 1, 1) := by decide +kernel
theorem dNa_isOf_17 : decode prog_7_method_2_code 17 = .ok (.goto 4, 3) := by decide +kernel
theorem dNa_isOf_20 : decode prog_7_method_2_code 20 = .ok (.iconst 0, 1) := by decide +kernel
theorem dNa_isOf_21 : decode prog_7_method_2_code 21 = .ok (.ireturn, 1) := by decide +kernel
theorem dWo_rank_0 : decode prog_11_method_3_code 0 = .ok (.lconst 0, 1) := by decide +kernel
theorem dWo_rank_1 : decode prog_11_method_3_code 1 = .ok (.lstore_n 1, 1) := by decide +kernel
theorem dWo_rank_2 : decode prog_11_method_3_code 2 = .ok (.iconst 0, 1) := by decide +kernel
theorem dWo_rank_3 : decode prog_11_method_3_code 3 = .ok (.istore_n 3, 1) := by decide +kernel
theorem dWo_rank_4 : decode prog_11_method_3_code 4 = .ok (.iload_n 3, 1) := by decide +kernel
theorem dWo_rank_5 : decode prog_11_method_3_code 5 = .ok (.bipush 10, 2) := by decide +kernel
theorem dWo_rank_7 : decode prog_11_method_3_code 7 = .ok (.if_icmp .ge 40, 3) := by decide +kernel
theorem dWo_rank_10 : decode prog_11_method_3_code 10 = .ok (.lload_n 1, 1) := by decide +kernel
theorem dWo_rank_11 : decode prog_11_method_3_code 11 = .ok (.ldc2_w 23, 3) := by decide +kernel
theorem dWo_rank_14 : decode prog_11_method_3_code 14 = .ok (.lmul, 1) := by decide +kernel
theorem dWo_rank_15 : decode prog_11_method_3_code 15 = .ok (.iload_n 3, 1) := by decide +kernel
theorem dWo_rank_16 : decode prog_11_method_3_code 16 = .ok (.aload_n 0, 1) := by decide +kernel
theorem dWo_rank_17 : decode prog_11_method_3_code 17 = .ok (.getfield 19, 3) := by decide +kernel
theorem dWo_rank_20 : decode prog_11_method_3_code 20 = .ok (.if_icmp .ge 17, 3) := by decide +kernel
theorem dWo_rank_23 : decode prog_11_method_3_code 23 = .ok (.aload_n 0, 1) := by decide +kernel
theorem dWo_rank_24 : decode prog_11_method_3_code 24 = .ok (.getfield 9, 3) := by decide +kernel
theorem dWo_rank_27 : decode prog_11_method_3_code 27 = .ok (.iload_n 3, 1) := by decide +kernel
theorem dWo_rank_28 : decode prog_11_method_3_code 28 = .ok (.caload, 1) := by decide +kernel
theorem dWo_rank_29 : decode prog_11_method_3_code 29 = .ok (.bipush 97, 2) := by decide +kernel
theorem dWo_rank_31 : decode prog_11_method_3_code 31 = .ok (.isub, 1) := by decide +kernel
theorem dWo_rank_32 : decode prog_11_method_3_code 32 = .ok (.iconst 1, 1) := by decide +kernel
theorem dWo_rank_33 : decode prog_11_method_3_code 33 = .ok (.iadd, 1) := by decide +kernel
theorem dWo_rank_34 : decode prog_11_method_3_code 34 = .ok (.goto 4, 3) := by decide +kernel
theorem dWo_rank_37 : decode prog_11_method_3_code 37 = .ok (.iconst 0, 1) := by decide +kernel
theorem dWo_rank_38 : decode prog_11_method_3_code 38 = .ok (.i2l, 1) := by decide +kernel
theorem dWo_rank_39 : decode prog_11_method_3_code 39 = .ok (.ladd, 1) := by decide +kernel
theorem dWo_rank_40 : decode prog_11_method_3_code 40 = .ok (.lstore_n 1, 1) := by decide +kernel
theorem dWo_rank_41 : decode prog_11_method_3_code 41 = .ok (.iinc 3 1, 3) := by decide +kernel
theorem dWo_rank_44 : decode prog_11_method_3_code 44 = .ok (.goto (-40), 3) := by decide +kernel
theorem dWo_rank_47 : decode prog_11_method_3_code 47 = .ok (.lload_n 1, 1) := by decide +kernel
theorem dWo_rank_48 : decode prog_11_method_3_code 48 = .ok (.lreturn, 1) := by decide +kernel
theorem dWo_beginsWith_0 : decode prog_11_method_4_code 0 = .ok (.aload_n 1, 1) := by decide +kernel
theorem dWo_beginsWith_1 : decode prog_11_method_4_code 1 = .ok (.getfield 19, 3) := by decide +kernel
theorem dWo_beginsWith_4 : decode prog_11_method_4_code 4 = .ok (.aload_n 0, 1) := by decide +kernel
theorem dWo_beginsWith_5 : decode prog_11_method_4_code 5 = .ok (.getfield 19, 3) := by decide +kernel
theorem dWo_beginsWith_8 : decode prog_11_method_4_code 8 = .ok (.if_icmp .le 5, 3) := by decide +kernel
theorem dWo_beginsWith_11 : decode prog_11_method_4_code 11 = .ok (.iconst 0, 1) := by decide +kernel
theorem dWo_beginsWith_12 : decode prog_11_method_4_code 12 = .ok (.ireturn, 1) := by decide +kernel
theorem dWo_beginsWith_13 : decode prog_11_method_4_code 13 = .ok (.iconst 0, 1) := by decide +kernel
theorem dWo_beginsWith_14 : decode prog_11_method_4_code 14 = .ok (.istore_n 2, 1) := by decide +kernel
theorem dWo_beginsWith_15 : decode prog_11_method_4_code 15 = .ok (.iload_n 2, 1) := by decide +kernel
theorem dWo_beginsWith_16 : decode prog_11_method_4_code 16 = .ok (.aload_n 1, 1) := by decide +kernel
theorem dWo_beginsWith_17 : decode prog_11_method_4_code 17 = .ok (.getfield 19, 3) := by decide +kernel
theorem dWo_beginsWith_20 : decode prog_11_method_4_code 20 = .ok (.if_icmp .ge 26, 3) := by decide +kernel
theorem dWo_beginsWith_23 : decode prog_11_method_4_code 23 = .ok (.aload_n 0, 1) := by decide +kernel
theorem dWo_beginsWith_24 : decode prog_11_method_4_code 24 = .ok (.getfield 9, 3) := by decide +kernel
theorem dWo_beginsWith_27 : decode prog_11_method_4_code 27 = .ok (.iload_n 2, 1) := by decide +kernel
theorem dWo_beginsWith_28 : decode prog_11_method_4_code 28 = .ok (.caload, 1) := by decide +kernel
theorem dWo_beginsWith_29 : decode prog_11_method_4_code 29 = .ok (.aload_n 1, 1) := by decide +kernel
theorem dWo_beginsWith_30 : decode prog_11_method_4_code 30 = .ok (.getfield 9, 3) := by decide +kernel
theorem dWo_beginsWith_33 : decode prog_11_method_4_code 33 = .ok (.iload_n 2, 1) := by decide +kernel
theorem dWo_beginsWith_34 : decode prog_11_method_4_code 34 = .ok (.caload, 1) := by decide +kernel
theorem dWo_beginsWith_35 : decode prog_11_method_4_code 35 = .ok (.if_icmp .eq 5, 3) := by decide +kernel
theorem dWo_beginsWith_38 : decode prog_11_method_4_code 38 = .ok (.iconst 0, 1) := by decide +kernel
theorem dWo_beginsWith_39 : decode prog_11_method_4_code 39 = .ok (.ireturn, 1) := by decide +kernel
theorem dWo_beginsWith_40 : decode prog_11_method_4_code 40 = .ok (.iinc 2 1, 3) := by decide +kernel
theorem dWo_beginsWith_43 : decode prog_11_method_4_code 43 = .ok (.goto (-28), 3) := by decide +kernel
theorem dWo_beginsWith_46 : decode prog_11_method_4_code 46 = .ok (.iconst 1, 1) := by decide +kernel
theorem dWo_beginsWith_47 : decode prog_11_method_4_code 47 = .ok (.ireturn, 1) := by decide +kernel
theorem dEc_leastFor_0 : decode prog_4_method_3_code 0 = .ok (.iload_n 2, 1) := by decide +kernel
theorem dEc_leastFor_1 : decode prog_4_method_3_code 1 = .ok (.ifCond .eq 8, 3) := by decide +kernel
theorem dEc_leastFor_4 : decode prog_4_method_3_code 4 = .ok (.iload 4, 2) := by decide +kernel
theorem dEc_leastFor_6 : decode prog_4_method_3_code 6 = .ok (.ifCond .ne 8, 3) := by decide +kernel
theorem dEc_leastFor_9 : decode prog_4_method_3_code 9 = .ok (.iload_n 2, 1) := by decide +kernel
theorem dEc_leastFor_10 : decode prog_4_method_3_code 10 = .ok (.iload 4, 2) := by decide +kernel
theorem dEc_leastFor_12 : decode prog_4_method_3_code 12 = .ok (.iadd, 1) := by decide +kernel
theorem dEc_leastFor_13 : decode prog_4_method_3_code 13 = .ok (.ireturn, 1) := by decide +kernel
theorem dEc_leastFor_14 : decode prog_4_method_3_code 14 = .ok (.aload_n 0, 1) := by decide +kernel
theorem dEc_leastFor_15 : decode prog_4_method_3_code 15 = .ok (.getfield 11, 3) := by decide +kernel
theorem dEc_leastFor_18 : decode prog_4_method_3_code 18 = .ok (.iload_n 2, 1) := by decide +kernel
theorem dEc_leastFor_19 : decode prog_4_method_3_code 19 = .ok (.iconst 1, 1) := by decide +kernel
theorem dEc_leastFor_20 : decode prog_4_method_3_code 20 = .ok (.isub, 1) := by decide +kernel
theorem dEc_leastFor_21 : decode prog_4_method_3_code 21 = .ok (.aaload, 1) := by decide +kernel
theorem dEc_leastFor_22 : decode prog_4_method_3_code 22 = .ok (.iload 4, 2) := by decide +kernel
theorem dEc_leastFor_24 : decode prog_4_method_3_code 24 = .ok (.iconst 1, 1) := by decide +kernel
theorem dEc_leastFor_25 : decode prog_4_method_3_code 25 = .ok (.isub, 1) := by decide +kernel
theorem dEc_leastFor_26 : decode prog_4_method_3_code 26 = .ok (.iaload, 1) := by decide +kernel
theorem dEc_leastFor_27 : decode prog_4_method_3_code 27 = .ok (.aload_n 1, 1) := by decide +kernel
theorem dEc_leastFor_28 : decode prog_4_method_3_code 28 = .ok (.iload_n 2, 1) := by decide +kernel
theorem dEc_leastFor_29 : decode prog_4_method_3_code 29 = .ok (.iconst 1, 1) := by decide +kernel
theorem dEc_leastFor_30 : decode prog_4_method_3_code 30 = .ok (.isub, 1) := by decide +kernel
theorem dEc_leastFor_31 : decode prog_4_method_3_code 31 = .ok (.caload, 1) := by decide +kernel
theorem dEc_leastFor_32 : decode prog_4_method_3_code 32 = .ok (.aload_n 3, 1) := by decide +kernel
theorem dEc_leastFor_33 : decode prog_4_method_3_code 33 = .ok (.iload 4, 2) := by decide +kernel
theorem dEc_leastFor_35 : decode prog_4_method_3_code 35 = .ok (.iconst 1, 1) := by decide +kernel
theorem dEc_leastFor_36 : decode prog_4_method_3_code 36 = .ok (.isub, 1) := by decide +kernel
theorem dEc_leastFor_37 : decode prog_4_method_3_code 37 = .ok (.caload, 1) := by decide +kernel
theorem dEc_leastFor_38 : decode prog_4_method_3_code 38 = .ok (.if_icmp .ne 7, 3) := by decide +kernel
theorem dEc_leastFor_41 : decode prog_4_method_3_code 41 = .ok (.iconst 0, 1) := by decide +kernel
theorem dEc_leastFor_42 : decode prog_4_method_3_code 42 = .ok (.goto 4, 3) := by decide +kernel
theorem dEc_leastFor_45 : decode prog_4_method_3_code 45 = .ok (.iconst 1, 1) := by decide +kernel
theorem dEc_leastFor_46 : decode prog_4_method_3_code 46 = .ok (.iadd, 1) := by decide +kernel
theorem dEc_leastFor_47 : decode prog_4_method_3_code 47 = .ok (.istore 5, 2) := by decide +kernel
theorem dEc_leastFor_49 : decode prog_4_method_3_code 49 = .ok (.aload_n 0, 1) := by decide +kernel
theorem dEc_leastFor_50 : decode prog_4_method_3_code 50 = .ok (.getfield 11, 3) := by decide +kernel
theorem dEc_leastFor_53 : decode prog_4_method_3_code 53 = .ok (.iload_n 2, 1) := by decide +kernel
theorem dEc_leastFor_54 : decode prog_4_method_3_code 54 = .ok (.iconst 1, 1) := by decide +kernel
theorem dEc_leastFor_55 : decode prog_4_method_3_code 55 = .ok (.isub, 1) := by decide +kernel
theorem dEc_leastFor_56 : decode prog_4_method_3_code 56 = .ok (.aaload, 1) := by decide +kernel
theorem dEc_leastFor_57 : decode prog_4_method_3_code 57 = .ok (.iload 4, 2) := by decide +kernel
theorem dEc_leastFor_59 : decode prog_4_method_3_code 59 = .ok (.iaload, 1) := by decide +kernel
theorem dEc_leastFor_60 : decode prog_4_method_3_code 60 = .ok (.aload_n 0, 1) := by decide +kernel
theorem dEc_leastFor_61 : decode prog_4_method_3_code 61 = .ok (.getfield 11, 3) := by decide +kernel
theorem dEc_leastFor_64 : decode prog_4_method_3_code 64 = .ok (.iload_n 2, 1) := by decide +kernel
theorem dEc_leastFor_65 : decode prog_4_method_3_code 65 = .ok (.aaload, 1) := by decide +kernel
theorem dEc_leastFor_66 : decode prog_4_method_3_code 66 = .ok (.iload 4, 2) := by decide +kernel
theorem dEc_leastFor_68 : decode prog_4_method_3_code 68 = .ok (.iconst 1, 1) := by decide +kernel
theorem dEc_leastFor_69 : decode prog_4_method_3_code 69 = .ok (.isub, 1) := by decide +kernel
theorem dEc_leastFor_70 : decode prog_4_method_3_code 70 = .ok (.iaload, 1) := by decide +kernel
theorem dEc_leastFor_71 : decode prog_4_method_3_code 71 = .ok (.invokestatic 30, 3) := by decide +kernel
theorem dEc_leastFor_74 : decode prog_4_method_3_code 74 = .ok (.iconst 1, 1) := by decide +kernel
theorem dEc_leastFor_75 : decode prog_4_method_3_code 75 = .ok (.iadd, 1) := by decide +kernel
theorem dEc_leastFor_76 : decode prog_4_method_3_code 76 = .ok (.istore 6, 2) := by decide +kernel
theorem dEc_leastFor_78 : decode prog_4_method_3_code 78 = .ok (.iload 5, 2) := by decide +kernel
theorem dEc_leastFor_80 : decode prog_4_method_3_code 80 = .ok (.iload 6, 2) := by decide +kernel
theorem dEc_leastFor_82 : decode prog_4_method_3_code 82 = .ok (.invokestatic 30, 3) := by decide +kernel
theorem dEc_leastFor_85 : decode prog_4_method_3_code 85 = .ok (.istore 7, 2) := by decide +kernel
theorem dEc_leastFor_87 : decode prog_4_method_3_code 87 = .ok (.iload_n 2, 1) := by decide +kernel
theorem dEc_leastFor_88 : decode prog_4_method_3_code 88 = .ok (.iconst 1, 1) := by decide +kernel
theorem dEc_leastFor_89 : decode prog_4_method_3_code 89 = .ok (.if_icmp .le 41, 3) := by decide +kernel
theorem dEc_leastFor_92 : decode prog_4_method_3_code 92 = .ok (.iload 4, 2) := by decide +kernel
theorem dEc_leastFor_94 : decode prog_4_method_3_code 94 = .ok (.iconst 1, 1) := by decide +kernel
theorem dEc_leastFor_95 : decode prog_4_method_3_code 95 = .ok (.if_icmp .le 35, 3) := by decide +kernel
theorem dEc_leastFor_98 : decode prog_4_method_3_code 98 = .ok (.aload_n 1, 1) := by decide +kernel
theorem dEc_leastFor_99 : decode prog_4_method_3_code 99 = .ok (.iload_n 2, 1) := by decide +kernel
theorem dEc_leastFor_100 : decode prog_4_method_3_code 100 = .ok (.iconst 1, 1) := by decide +kernel
theorem dEc_leastFor_101 : decode prog_4_method_3_code 101 = .ok (.isub, 1) := by decide +kernel
theorem dEc_leastFor_102 : decode prog_4_method_3_code 102 = .ok (.caload, 1) := by decide +kernel
theorem dEc_leastFor_103 : decode prog_4_method_3_code 103 = .ok (.aload_n 3, 1) := by decide +kernel
theorem dEc_leastFor_104 : decode prog_4_method_3_code 104 = .ok (.iload 4, 2) := by decide +kernel
theorem dEc_leastFor_106 : decode prog_4_method_3_code 106 = .ok (.iconst 2, 1) := by decide +kernel
theorem dEc_leastFor_107 : decode prog_4_method_3_code 107 = .ok (.isub, 1) := by decide +kernel
theorem dEc_leastFor_108 : decode prog_4_method_3_code 108 = .ok (.caload, 1) := by decide +kernel
theorem dEc_leastFor_109 : decode prog_4_method_3_code 109 = .ok (.if_icmp .ne 21, 3) := by decide +kernel
theorem dEc_leastFor_112 : decode prog_4_method_3_code 112 = .ok (.aload_n 1, 1) := by decide +kernel
theorem dEc_leastFor_113 : decode prog_4_method_3_code 113 = .ok (.iload_n 2, 1) := by decide +kernel
theorem dEc_leastFor_114 : decode prog_4_method_3_code 114 = .ok (.iconst 2, 1) := by decide +kernel
theorem dEc_leastFor_115 : decode prog_4_method_3_code 115 = .ok (.isub, 1) := by decide +kernel
theorem dEc_leastFor_116 : decode prog_4_method_3_code 116 = .ok (.caload, 1) := by decide +kernel
theorem dEc_leastFor_117 : decode prog_4_method_3_code 117 = .ok (.aload_n 3, 1) := by decide +kernel
theorem dEc_leastFor_118 : decode prog_4_method_3_code 118 = .ok (.iload 4, 2) := by decide +kernel
theorem dEc_leastFor_120 : decode prog_4_method_3_code 120 = .ok (.iconst 1, 1) := by decide +kernel
theorem dEc_leastFor_121 : decode prog_4_method_3_code 121 = .ok (.isub, 1) := by decide +kernel
theorem dEc_leastFor_122 : decode prog_4_method_3_code 122 = .ok (.caload, 1) := by decide +kernel
theorem dEc_leastFor_123 : decode prog_4_method_3_code 123 = .ok (.if_icmp .ne 7, 3) := by decide +kernel
theorem dEc_leastFor_126 : decode prog_4_method_3_code 126 = .ok (.iconst 1, 1) := by decide +kernel
theorem dEc_leastFor_127 : decode prog_4_method_3_code 127 = .ok (.goto 4, 3) := by decide +kernel
theorem dEc_leastFor_130 : decode prog_4_method_3_code 130 = .ok (.iconst 0, 1) := by decide +kernel
theorem dEc_leastFor_131 : decode prog_4_method_3_code 131 = .ok (.istore 8, 2) := by decide +kernel
theorem dEc_leastFor_133 : decode prog_4_method_3_code 133 = .ok (.iload 8, 2) := by decide +kernel
theorem dEc_leastFor_135 : decode prog_4_method_3_code 135 = .ok (.ifCond .eq 26, 3) := by decide +kernel
theorem dEc_leastFor_138 : decode prog_4_method_3_code 138 = .ok (.iload 7, 2) := by decide +kernel
theorem dEc_leastFor_140 : decode prog_4_method_3_code 140 = .ok (.aload_n 0, 1) := by decide +kernel
theorem dEc_leastFor_141 : decode prog_4_method_3_code 141 = .ok (.getfield 11, 3) := by decide +kernel
theorem dEc_leastFor_144 : decode prog_4_method_3_code 144 = .ok (.iload_n 2, 1) := by decide +kernel
theorem dEc_leastFor_145 : decode prog_4_method_3_code 145 = .ok (.iconst 2, 1) := by decide +kernel
theorem dEc_leastFor_146 : decode prog_4_method_3_code 146 = .ok (.isub, 1) := by decide +kernel
theorem dEc_leastFor_147 : decode prog_4_method_3_code 147 = .ok (.aaload, 1) := by decide +kernel
theorem dEc_leastFor_148 : decode prog_4_method_3_code 148 = .ok (.iload 4, 2) := by decide +kernel
theorem dEc_leastFor_150 : decode prog_4_method_3_code 150 = .ok (.iconst 2, 1) := by decide +kernel
theorem dEc_leastFor_151 : decode prog_4_method_3_code 151 = .ok (.isub, 1) := by decide +kernel
theorem dEc_leastFor_152 : decode prog_4_method_3_code 152 = .ok (.iaload, 1) := by decide +kernel
theorem dEc_leastFor_153 : decode prog_4_method_3_code 153 = .ok (.iconst 1, 1) := by decide +kernel
theorem dEc_leastFor_154 : decode prog_4_method_3_code 154 = .ok (.iadd, 1) := by decide +kernel
theorem dEc_leastFor_155 : decode prog_4_method_3_code 155 = .ok (.invokestatic 30, 3) := by decide +kernel
theorem dEc_leastFor_158 : decode prog_4_method_3_code 158 = .ok (.goto 5, 3) := by decide +kernel
theorem dEc_leastFor_161 : decode prog_4_method_3_code 161 = .ok (.iload 7, 2) := by decide +kernel
theorem dEc_leastFor_163 : decode prog_4_method_3_code 163 = .ok (.ireturn, 1) := by decide +kernel
theorem dEc_count_0 : decode prog_4_method_2_code 0 = .ok (.iconst 0, 1) := by decide +kernel
theorem dEc_count_1 : decode prog_4_method_2_code 1 = .ok (.istore_n 3, 1) := by decide +kernel
theorem dEc_count_2 : decode prog_4_method_2_code 2 = .ok (.iload_n 3, 1) := by decide +kernel
theorem dEc_count_3 : decode prog_4_method_2_code 3 = .ok (.aload_n 1, 1) := by decide +kernel
theorem dEc_count_4 : decode prog_4_method_2_code 4 = .ok (.getfield 16, 3) := by decide +kernel
theorem dEc_count_7 : decode prog_4_method_2_code 7 = .ok (.if_icmp .gt 51, 3) := by decide +kernel
theorem dEc_count_10 : decode prog_4_method_2_code 10 = .ok (.iconst 0, 1) := by decide +kernel
theorem dEc_count_11 : decode prog_4_method_2_code 11 = .ok (.istore 4, 2) := by decide +kernel
theorem dEc_count_13 : decode prog_4_method_2_code 13 = .ok (.iload 4, 2) := by decide +kernel
theorem dEc_count_15 : decode prog_4_method_2_code 15 = .ok (.aload_n 2, 1) := by decide +kernel
theorem dEc_count_16 : decode prog_4_method_2_code 16 = .ok (.getfield 16, 3) := by decide +kernel
theorem dEc_count_19 : decode prog_4_method_2_code 19 = .ok (.if_icmp .gt 33, 3) := by decide +kernel
theorem dEc_count_22 : decode prog_4_method_2_code 22 = .ok (.aload_n 0, 1) := by decide +kernel
theorem dEc_count_23 : decode prog_4_method_2_code 23 = .ok (.getfield 11, 3) := by decide +kernel
theorem dEc_count_26 : decode prog_4_method_2_code 26 = .ok (.iload_n 3, 1) := by decide +kernel
theorem dEc_count_27 : decode prog_4_method_2_code 27 = .ok (.aaload, 1) := by decide +kernel
theorem dEc_count_28 : decode prog_4_method_2_code 28 = .ok (.iload 4, 2) := by decide +kernel
theorem dEc_count_30 : decode prog_4_method_2_code 30 = .ok (.aload_n 0, 1) := by decide +kernel
theorem dEc_count_31 : decode prog_4_method_2_code 31 = .ok (.aload_n 1, 1) := by decide +kernel
theorem dEc_count_32 : decode prog_4_method_2_code 32 = .ok (.getfield 22, 3) := by decide +kernel
theorem dEc_count_35 : decode prog_4_method_2_code 35 = .ok (.iload_n 3, 1) := by decide +kernel
theorem dEc_count_36 : decode prog_4_method_2_code 36 = .ok (.aload_n 2, 1) := by decide +kernel
theorem dEc_count_37 : decode prog_4_method_2_code 37 = .ok (.getfield 22, 3) := by decide +kernel
theorem dEc_count_40 : decode prog_4_method_2_code 40 = .ok (.iload 4, 2) := by decide +kernel
theorem dEc_count_42 : decode prog_4_method_2_code 42 = .ok (.invokevirtual 26, 3) := by decide +kernel
theorem dEc_count_45 : decode prog_4_method_2_code 45 = .ok (.iastore, 1) := by decide +kernel
theorem dEc_count_46 : decode prog_4_method_2_code 46 = .ok (.iinc 4 1, 3) := by decide +kernel
theorem dEc_count_49 : decode prog_4_method_2_code 49 = .ok (.goto (-36), 3) := by decide +kernel
theorem dEc_count_52 : decode prog_4_method_2_code 52 = .ok (.iinc 3 1, 3) := by decide +kernel
theorem dEc_count_55 : decode prog_4_method_2_code 55 = .ok (.goto (-53), 3) := by decide +kernel
theorem dEc_count_58 : decode prog_4_method_2_code 58 = .ok (.aload_n 0, 1) := by decide +kernel
theorem dEc_count_59 : decode prog_4_method_2_code 59 = .ok (.getfield 11, 3) := by decide +kernel
theorem dEc_count_62 : decode prog_4_method_2_code 62 = .ok (.aload_n 1, 1) := by decide +kernel
theorem dEc_count_63 : decode prog_4_method_2_code 63 = .ok (.getfield 16, 3) := by decide +kernel
theorem dEc_count_66 : decode prog_4_method_2_code 66 = .ok (.aaload, 1) := by decide +kernel
theorem dEc_count_67 : decode prog_4_method_2_code 67 = .ok (.aload_n 2, 1) := by decide +kernel
theorem dEc_count_68 : decode prog_4_method_2_code 68 = .ok (.getfield 16, 3) := by decide +kernel
theorem dEc_count_71 : decode prog_4_method_2_code 71 = .ok (.iaload, 1) := by decide +kernel
theorem dEc_count_72 : decode prog_4_method_2_code 72 = .ok (.ireturn, 1) := by decide +kernel
theorem dSt_isLatin1_0 : decode prog_25_method_154_code 0 = .ok (.getstatic 38, 3) := by decide +kernel
theorem dSt_isLatin1_3 : decode prog_25_method_154_code 3 = .ok (.ifCond .eq 14, 3) := by decide +kernel
theorem dSt_isLatin1_6 : decode prog_25_method_154_code 6 = .ok (.aload_n 0, 1) := by decide +kernel
theorem dSt_isLatin1_7 : decode prog_25_method_154_code 7 = .ok (.getfield 15, 3) := by decide +kernel
theorem dSt_isLatin1_10 : decode prog_25_method_154_code 10 = .ok (.ifCond .ne 7, 3) := by decide +kernel
theorem dSt_isLatin1_13 : decode prog_25_method_154_code 13 = .ok (.iconst 1, 1) := by decide +kernel
theorem dSt_isLatin1_14 : decode prog_25_method_154_code 14 = .ok (.goto 4, 3) := by decide +kernel
theorem dSt_isLatin1_17 : decode prog_25_method_154_code 17 = .ok (.iconst 0, 1) := by decide +kernel
theorem dSt_isLatin1_18 : decode prog_25_method_154_code 18 = .ok (.ireturn, 1) := by decide +kernel
theorem dSt_checkIndex_0 : decode prog_25_method_155_code 0 = .ok (.iload_n 0, 1) := by decide +kernel
theorem dSt_checkIndex_1 : decode prog_25_method_155_code 1 = .ok (.iload_n 1, 1) := by decide +kernel
theorem dSt_checkIndex_2 : decode prog_25_method_155_code 2 = .ok (.getstatic 1053, 3) := by decide +kernel
theorem dSt_checkIndex_5 : decode prog_25_method_155_code 5 = .ok (.invokestatic 1059, 3) := by decide +kernel
theorem dSt_checkIndex_8 : decode prog_25_method_155_code 8 = .ok (.pop, 1) := by decide +kernel
theorem dSt_checkIndex_9 : decode prog_25_method_155_code 9 = .ok (.return_, 1) := by decide +kernel
theorem dSl_charAt_0 : decode prog_26_method_2_code 0 = .ok (.iload_n 1, 1) := by decide +kernel
theorem dSl_charAt_1 : decode prog_26_method_2_code 1 = .ok (.aload_n 0, 1) := by decide +kernel
theorem dSl_charAt_2 : decode prog_26_method_2_code 2 = .ok (.arraylength, 1) := by decide +kernel
theorem dSl_charAt_3 : decode prog_26_method_2_code 3 = .ok (.invokestatic 9, 3) := by decide +kernel
theorem dSl_charAt_6 : decode prog_26_method_2_code 6 = .ok (.aload_n 0, 1) := by decide +kernel
theorem dSl_charAt_7 : decode prog_26_method_2_code 7 = .ok (.iload_n 1, 1) := by decide +kernel
theorem dSl_charAt_8 : decode prog_26_method_2_code 8 = .ok (.baload, 1) := by decide +kernel
theorem dSl_charAt_9 : decode prog_26_method_2_code 9 = .ok (.sipush 255, 3) := by decide +kernel
theorem dSl_charAt_12 : decode prog_26_method_2_code 12 = .ok (.iand, 1) := by decide +kernel
theorem dSl_charAt_13 : decode prog_26_method_2_code 13 = .ok (.i2c, 1) := by decide +kernel
theorem dSl_charAt_14 : decode prog_26_method_2_code 14 = .ok (.ireturn, 1) := by decide +kernel
theorem dSv_length_0 : decode prog_27_method_6_code 0 = .ok (.aload_n 0, 1) := by decide +kernel
theorem dSv_length_1 : decode prog_27_method_6_code 1 = .ok (.arraylength, 1) := by decide +kernel
theorem dSv_length_2 : decode prog_27_method_6_code 2 = .ok (.iconst 1, 1) := by decide +kernel
theorem dSv_length_3 : decode prog_27_method_6_code 3 = .ok (.ishr, 1) := by decide +kernel
theorem dSv_length_4 : decode prog_27_method_6_code 4 = .ok (.ireturn, 1) := by decide +kernel
theorem dSv_checkIndex_0 : decode prog_27_method_91_code 0 = .ok (.iload_n 0, 1) := by decide +kernel
theorem dSv_checkIndex_1 : decode prog_27_method_91_code 1 = .ok (.aload_n 1, 1) := by decide +kernel
theorem dSv_checkIndex_2 : decode prog_27_method_91_code 2 = .ok (.invokestatic 48, 3) := by decide +kernel
theorem dSv_checkIndex_5 : decode prog_27_method_91_code 5 = .ok (.invokestatic 414, 3) := by decide +kernel
theorem dSv_checkIndex_8 : decode prog_27_method_91_code 8 = .ok (.return_, 1) := by decide +kernel
theorem dSt_charAt_0 : decode prog_25_method_56_code 0 = .ok (.aload_n 0, 1) := by decide +kernel
theorem dSt_charAt_1 : decode prog_25_method_56_code 1 = .ok (.invokevirtual 492, 3) := by decide +kernel
theorem dSt_charAt_4 : decode prog_25_method_56_code 4 = .ok (.ifCond .eq 12, 3) := by decide +kernel
theorem dSt_charAt_7 : decode prog_25_method_56_code 7 = .ok (.aload_n 0, 1) := by decide +kernel
theorem dSt_charAt_8 : decode prog_25_method_56_code 8 = .ok (.getfield 9, 3) := by decide +kernel
theorem dSt_charAt_11 : decode prog_25_method_56_code 11 = .ok (.iload_n 1, 1) := by decide +kernel
theorem dSt_charAt_12 : decode prog_25_method_56_code 12 = .ok (.invokestatic 495, 3) := by decide +kernel
theorem dSt_charAt_15 : decode prog_25_method_56_code 15 = .ok (.ireturn, 1) := by decide +kernel
theorem dWo_soundClass_0 : decode prog_11_method_6_code 0 = .ok (.ldc 29, 2) := by decide +kernel
theorem dWo_soundClass_2 : decode prog_11_method_6_code 2 = .ok (.aload_n 0, 1) := by decide +kernel
theorem dWo_soundClass_3 : decode prog_11_method_6_code 3 = .ok (.getfield 9, 3) := by decide +kernel
theorem dWo_soundClass_6 : decode prog_11_method_6_code 6 = .ok (.iload_n 1, 1) := by decide +kernel
theorem dWo_soundClass_7 : decode prog_11_method_6_code 7 = .ok (.caload, 1) := by decide +kernel
theorem dWo_soundClass_8 : decode prog_11_method_6_code 8 = .ok (.bipush 97, 2) := by decide +kernel
theorem dWo_soundClass_10 : decode prog_11_method_6_code 10 = .ok (.isub, 1) := by decide +kernel
theorem dWo_soundClass_11 : decode prog_11_method_6_code 11 = .ok (.invokevirtual 31, 3) := by decide +kernel
theorem dWo_soundClass_14 : decode prog_11_method_6_code 14 = .ok (.bipush 48, 2) := by decide +kernel
theorem dWo_soundClass_16 : decode prog_11_method_6_code 16 = .ok (.isub, 1) := by decide +kernel
theorem dWo_soundClass_17 : decode prog_11_method_6_code 17 = .ok (.ireturn, 1) := by decide +kernel
theorem dWo_soundCode_0 : decode prog_11_method_5_code 0 = .ok (.aload_n 0, 1) := by decide +kernel
theorem dWo_soundCode_1 : decode prog_11_method_5_code 1 = .ok (.getfield 19, 3) := by decide +kernel
theorem dWo_soundCode_4 : decode prog_11_method_5_code 4 = .ok (.ifCond .ne 5, 3) := by decide +kernel
theorem dWo_soundCode_7 : decode prog_11_method_5_code 7 = .ok (.iconst 0, 1) := by decide +kernel
theorem dWo_soundCode_8 : decode prog_11_method_5_code 8 = .ok (.ireturn, 1) := by decide +kernel
theorem dWo_soundCode_9 : decode prog_11_method_5_code 9 = .ok (.aload_n 0, 1) := by decide +kernel
theorem dWo_soundCode_10 : decode prog_11_method_5_code 10 = .ok (.getfield 9, 3) := by decide +kernel
theorem dWo_soundCode_13 : decode prog_11_method_5_code 13 = .ok (.iconst 0, 1) := by decide +kernel
theorem dWo_soundCode_14 : decode prog_11_method_5_code 14 = .ok (.caload, 1) := by decide +kernel
theorem dWo_soundCode_15 : decode prog_11_method_5_code 15 = .ok (.bipush 97, 2) := by decide +kernel
theorem dWo_soundCode_17 : decode prog_11_method_5_code 17 = .ok (.isub, 1) := by decide +kernel
theorem dWo_soundCode_18 : decode prog_11_method_5_code 18 = .ok (.iconst 1, 1) := by decide +kernel
theorem dWo_soundCode_19 : decode prog_11_method_5_code 19 = .ok (.iadd, 1) := by decide +kernel
theorem dWo_soundCode_20 : decode prog_11_method_5_code 20 = .ok (.istore_n 1, 1) := by decide +kernel
theorem dWo_soundCode_21 : decode prog_11_method_5_code 21 = .ok (.iconst 1, 1) := by decide +kernel
theorem dWo_soundCode_22 : decode prog_11_method_5_code 22 = .ok (.istore_n 2, 1) := by decide +kernel
theorem dWo_soundCode_23 : decode prog_11_method_5_code 23 = .ok (.iconst 1, 1) := by decide +kernel
theorem dWo_soundCode_24 : decode prog_11_method_5_code 24 = .ok (.istore_n 3, 1) := by decide +kernel
theorem dWo_soundCode_25 : decode prog_11_method_5_code 25 = .ok (.iload_n 3, 1) := by decide +kernel
theorem dWo_soundCode_26 : decode prog_11_method_5_code 26 = .ok (.aload_n 0, 1) := by decide +kernel
theorem dWo_soundCode_27 : decode prog_11_method_5_code 27 = .ok (.getfield 19, 3) := by decide +kernel
theorem dWo_soundCode_30 : decode prog_11_method_5_code 30 = .ok (.if_icmp .ge 48, 3) := by decide +kernel
theorem dWo_soundCode_33 : decode prog_11_method_5_code 33 = .ok (.iload_n 2, 1) := by decide +kernel
theorem dWo_soundCode_34 : decode prog_11_method_5_code 34 = .ok (.iconst 4, 1) := by decide +kernel
theorem dWo_soundCode_35 : decode prog_11_method_5_code 35 = .ok (.if_icmp .ge 43, 3) := by decide +kernel
theorem dWo_soundCode_38 : decode prog_11_method_5_code 38 = .ok (.aload_n 0, 1) := by decide +kernel
theorem dWo_soundCode_39 : decode prog_11_method_5_code 39 = .ok (.iload_n 3, 1) := by decide +kernel
theorem dWo_soundCode_40 : decode prog_11_method_5_code 40 = .ok (.invokevirtual 25, 3) := by decide +kernel
theorem dWo_soundCode_43 : decode prog_11_method_5_code 43 = .ok (.istore 4, 2) := by decide +kernel
theorem dWo_soundCode_45 : decode prog_11_method_5_code 45 = .ok (.iload 4, 2) := by decide +kernel
theorem dWo_soundCode_47 : decode prog_11_method_5_code 47 = .ok (.ifCond .eq 25, 3) := by decide +kernel
theorem dWo_soundCode_50 : decode prog_11_method_5_code 50 = .ok (.iload 4, 2) := by decide +kernel
theorem dWo_soundCode_52 : decode prog_11_method_5_code 52 = .ok (.aload_n 0, 1) := by decide +kernel
theorem dWo_soundCode_53 : decode prog_11_method_5_code 53 = .ok (.iload_n 3, 1) := by decide +kernel
theorem dWo_soundCode_54 : decode prog_11_method_5_code 54 = .ok (.iconst 1, 1) := by decide +kernel
theorem dWo_soundCode_55 : decode prog_11_method_5_code 55 = .ok (.isub, 1) := by decide +kernel
theorem dWo_soundCode_56 : decode prog_11_method_5_code 56 = .ok (.invokevirtual 25, 3) := by decide +kernel
theorem dWo_soundCode_59 : decode prog_11_method_5_code 59 = .ok (.if_icmp .eq 13, 3) := by decide +kernel
theorem dWo_soundCode_62 : decode prog_11_method_5_code 62 = .ok (.iload_n 1, 1) := by decide +kernel
theorem dWo_soundCode_63 : decode prog_11_method_5_code 63 = .ok (.iconst 5, 1) := by decide +kernel
theorem dWo_soundCode_64 : decode prog_11_method_5_code 64 = .ok (.ishl, 1) := by decide +kernel
theorem dWo_soundCode_65 : decode prog_11_method_5_code 65 = .ok (.iload 4, 2) := by decide +kernel
theorem dWo_soundCode_67 : decode prog_11_method_5_code 67 = .ok (.iadd, 1) := by decide +kernel
theorem dWo_soundCode_68 : decode prog_11_method_5_code 68 = .ok (.istore_n 1, 1) := by decide +kernel
theorem dWo_soundCode_69 : decode prog_11_method_5_code 69 = .ok (.iinc 2 1, 3) := by decide +kernel
theorem dWo_soundCode_72 : decode prog_11_method_5_code 72 = .ok (.iinc 3 1, 3) := by decide +kernel
theorem dWo_soundCode_75 : decode prog_11_method_5_code 75 = .ok (.goto (-50), 3) := by decide +kernel
theorem dWo_soundCode_78 : decode prog_11_method_5_code 78 = .ok (.iload_n 1, 1) := by decide +kernel
theorem dWo_soundCode_79 : decode prog_11_method_5_code 79 = .ok (.ireturn, 1) := by decide +kernel
theorem dP_wordFits_0 : decode prog_1_method_36_code 0 = .ok (.aload_n 2, 1) := by decide +kernel
theorem dP_wordFits_1 : decode prog_1_method_36_code 1 = .ok (.getfield 352, 3) := by decide +kernel
theorem dP_wordFits_4 : decode prog_1_method_36_code 4 = .ok (.tableswitch 107 0 3 #[32, 53, 62, 87], 32) := by decide +kernel
theorem dP_wordFits_36 : decode prog_1_method_36_code 36 = .ok (.aload_n 1, 1) := by decide +kernel
theorem dP_wordFits_37 : decode prog_1_method_36_code 37 = .ok (.invokevirtual 396, 3) := by decide +kernel
theorem dP_wordFits_40 : decode prog_1_method_36_code 40 = .ok (.aload_n 2, 1) := by decide +kernel
theorem dP_wordFits_41 : decode prog_1_method_36_code 41 = .ok (.getfield 403, 3) := by decide +kernel
theorem dP_wordFits_44 : decode prog_1_method_36_code 44 = .ok (.invokevirtual 396, 3) := by decide +kernel
theorem dP_wordFits_47 : decode prog_1_method_36_code 47 = .ok (.lcmp, 1) := by decide +kernel
theorem dP_wordFits_48 : decode prog_1_method_36_code 48 = .ok (.ifCond .ne 7, 3) := by decide +kernel
theorem dP_wordFits_51 : decode prog_1_method_36_code 51 = .ok (.iconst 1, 1) := by decide +kernel
theorem dP_wordFits_52 : decode prog_1_method_36_code 52 = .ok (.goto 4, 3) := by decide +kernel
theorem dP_wordFits_55 : decode prog_1_method_36_code 55 = .ok (.iconst 0, 1) := by decide +kernel
theorem dP_wordFits_56 : decode prog_1_method_36_code 56 = .ok (.ireturn, 1) := by decide +kernel
theorem dP_wordFits_57 : decode prog_1_method_36_code 57 = .ok (.aload_n 1, 1) := by decide +kernel
theorem dP_wordFits_58 : decode prog_1_method_36_code 58 = .ok (.aload_n 2, 1) := by decide +kernel
theorem dP_wordFits_59 : decode prog_1_method_36_code 59 = .ok (.getfield 403, 3) := by decide +kernel
theorem dP_wordFits_62 : decode prog_1_method_36_code 62 = .ok (.invokevirtual 404, 3) := by decide +kernel
theorem dP_wordFits_65 : decode prog_1_method_36_code 65 = .ok (.ireturn, 1) := by decide +kernel
theorem dP_wordFits_66 : decode prog_1_method_36_code 66 = .ok (.aload_n 0, 1) := by decide +kernel
