theorem dP_wordFits_67 : decode prog_1_method_36_code 67 = .ok (.getfield 62, 3) := by decide +kernel
theorem dP_wordFits_70 : decode prog_1_method_36_code 70 = .ok (.aload_n 1, 1) := by decide +kernel
theorem dP_wordFits_71 : decode prog_1_method_36_code 71 = .ok (.aload_n 2, 1) := by decide +kernel
theorem dP_wordFits_72 : decode prog_1_method_36_code 72 = .ok (.getfield 403, 3) := by decide +kernel
theorem dP_wordFits_75 : decode prog_1_method_36_code 75 = .ok (.invokevirtual 294, 3) := by decide +kernel
theorem dP_wordFits_78 : decode prog_1_method_36_code 78 = .ok (.aload_n 2, 1) := by decide +kernel
theorem dP_wordFits_79 : decode prog_1_method_36_code 79 = .ok (.getfield 353, 3) := by decide +kernel
theorem dP_wordFits_82 : decode prog_1_method_36_code 82 = .ok (.if_icmp .gt 7, 3) := by decide +kernel
theorem dP_wordFits_85 : decode prog_1_method_36_code 85 = .ok (.iconst 1, 1) := by decide +kernel
theorem dP_wordFits_86 : decode prog_1_method_36_code 86 = .ok (.goto 4, 3) := by decide +kernel
theorem dP_wordFits_89 : decode prog_1_method_36_code 89 = .ok (.iconst 0, 1) := by decide +kernel
theorem dP_wordFits_90 : decode prog_1_method_36_code 90 = .ok (.ireturn, 1) := by decide +kernel
theorem dP_wordFits_91 : decode prog_1_method_36_code 91 = .ok (.aload_n 1, 1) := by decide +kernel
theorem dP_wordFits_92 : decode prog_1_method_36_code 92 = .ok (.invokevirtual 282, 3) := by decide +kernel
theorem dP_wordFits_95 : decode prog_1_method_36_code 95 = .ok (.aload_n 2, 1) := by decide +kernel
theorem dP_wordFits_96 : decode prog_1_method_36_code 96 = .ok (.getfield 403, 3) := by decide +kernel
theorem dP_wordFits_99 : decode prog_1_method_36_code 99 = .ok (.invokevirtual 282, 3) := by decide +kernel
theorem dP_wordFits_102 : decode prog_1_method_36_code 102 = .ok (.if_icmp .ne 7, 3) := by decide +kernel
theorem dP_wordFits_105 : decode prog_1_method_36_code 105 = .ok (.iconst 1, 1) := by decide +kernel
theorem dP_wordFits_106 : decode prog_1_method_36_code 106 = .ok (.goto 4, 3) := by decide +kernel
theorem dP_wordFits_109 : decode prog_1_method_36_code 109 = .ok (.iconst 0, 1) := by decide +kernel
theorem dP_wordFits_110 : decode prog_1_method_36_code 110 = .ok (.ireturn, 1) := by decide +kernel
theorem dP_wordFits_111 : decode prog_1_method_36_code 111 = .ok (.iconst 0, 1) := by decide +kernel
theorem dP_wordFits_112 : decode prog_1_method_36_code 112 = .ok (.ireturn, 1) := by decide +kernel
theorem dMa_min2_0 : decode prog_23_method_70_code 0 = .ok (.lload_n 0, 1) := by decide +kernel
theorem dMa_min2_1 : decode prog_23_method_70_code 1 = .ok (.lload_n 2, 1) := by decide +kernel
theorem dMa_min2_2 : decode prog_23_method_70_code 2 = .ok (.lcmp, 1) := by decide +kernel
theorem dMa_min2_3 : decode prog_23_method_70_code 3 = .ok (.ifCond .gt 7, 3) := by decide +kernel
theorem dMa_min2_6 : decode prog_23_method_70_code 6 = .ok (.lload_n 0, 1) := by decide +kernel
theorem dMa_min2_7 : decode prog_23_method_70_code 7 = .ok (.goto 4, 3) := by decide +kernel
theorem dMa_min2_10 : decode prog_23_method_70_code 10 = .ok (.lload_n 2, 1) := by decide +kernel
theorem dMa_min2_11 : decode prog_23_method_70_code 11 = .ok (.lreturn, 1) := by decide +kernel
theorem dP_leastName_0 : decode prog_1_method_35_code 0 = .ok (.ldc2_w 383, 3) := by decide +kernel
theorem dP_leastName_3 : decode prog_1_method_35_code 3 = .ok (.lstore 4, 2) := by decide +kernel
theorem dP_leastName_5 : decode prog_1_method_35_code 5 = .ok (.iconst 0, 1) := by decide +kernel
theorem dP_leastName_6 : decode prog_1_method_35_code 6 = .ok (.istore 6, 2) := by decide +kernel
theorem dP_leastName_8 : decode prog_1_method_35_code 8 = .ok (.iload 6, 2) := by decide +kernel
theorem dP_leastName_10 : decode prog_1_method_35_code 10 = .ok (.aload_n 1, 1) := by decide +kernel
theorem dP_leastName_11 : decode prog_1_method_35_code 11 = .ok (.getfield 156, 3) := by decide +kernel
theorem dP_leastName_14 : decode prog_1_method_35_code 14 = .ok (.invokevirtual 98, 3) := by decide +kernel
theorem dP_leastName_17 : decode prog_1_method_35_code 17 = .ok (.if_icmp .ge 60, 3) := by decide +kernel
theorem dP_leastName_20 : decode prog_1_method_35_code 20 = .ok (.aload_n 1, 1) := by decide +kernel
theorem dP_leastName_21 : decode prog_1_method_35_code 21 = .ok (.getfield 156, 3) := by decide +kernel
theorem dP_leastName_24 : decode prog_1_method_35_code 24 = .ok (.iload 6, 2) := by decide +kernel
theorem dP_leastName_26 : decode prog_1_method_35_code 26 = .ok (.invokevirtual 223, 3) := by decide +kernel
theorem dP_leastName_29 : decode prog_1_method_35_code 29 = .ok (.checkcast 161, 3) := by decide +kernel
theorem dP_leastName_32 : decode prog_1_method_35_code 32 = .ok (.astore 7, 2) := by decide +kernel
theorem dP_leastName_34 : decode prog_1_method_35_code 34 = .ok (.aload 7, 2) := by decide +kernel
theorem dP_leastName_36 : decode prog_1_method_35_code 36 = .ok (.iload_n 3, 1) := by decide +kernel
theorem dP_leastName_37 : decode prog_1_method_35_code 37 = .ok (.invokevirtual 389, 3) := by decide +kernel
theorem dP_leastName_40 : decode prog_1_method_35_code 40 = .ok (.ifCond .eq 31, 3) := by decide +kernel
theorem dP_leastName_43 : decode prog_1_method_35_code 43 = .ok (.aload_n 0, 1) := by decide +kernel
theorem dP_leastName_44 : decode prog_1_method_35_code 44 = .ok (.aload 7, 2) := by decide +kernel
theorem dP_leastName_46 : decode prog_1_method_35_code 46 = .ok (.getfield 290, 3) := by decide +kernel
theorem dP_leastName_49 : decode prog_1_method_35_code 49 = .ok (.aload_n 2, 1) := by decide +kernel
theorem dP_leastName_50 : decode prog_1_method_35_code 50 = .ok (.invokevirtual 392, 3) := by decide +kernel
theorem dP_leastName_53 : decode prog_1_method_35_code 53 = .ok (.ifCond .eq 18, 3) := by decide +kernel
theorem dP_leastName_56 : decode prog_1_method_35_code 56 = .ok (.lload 4, 2) := by decide +kernel
theorem dP_leastName_58 : decode prog_1_method_35_code 58 = .ok (.aload 7, 2) := by decide +kernel
theorem dP_leastName_60 : decode prog_1_method_35_code 60 = .ok (.getfield 290, 3) := by decide +kernel
theorem dP_leastName_63 : decode prog_1_method_35_code 63 = .ok (.invokevirtual 396, 3) := by decide +kernel
theorem dP_leastName_66 : decode prog_1_method_35_code 66 = .ok (.invokestatic 400, 3) := by decide +kernel
theorem dP_leastName_69 : decode prog_1_method_35_code 69 = .ok (.lstore 4, 2) := by decide +kernel
theorem dP_leastName_71 : decode prog_1_method_35_code 71 = .ok (.iinc 6 1, 3) := by decide +kernel
theorem dP_leastName_74 : decode prog_1_method_35_code 74 = .ok (.goto (-66), 3) := by decide +kernel
theorem dP_leastName_77 : decode prog_1_method_35_code 77 = .ok (.lload 4, 2) := by decide +kernel
theorem dP_leastName_79 : decode prog_1_method_35_code 79 = .ok (.lreturn, 1) := by decide +kernel
theorem dP_fits_0 : decode prog_1_method_32_code 0 = .ok (.aload_n 3, 1) := by decide +kernel
theorem dP_fits_1 : decode prog_1_method_32_code 1 = .ok (.getfield 352, 3) := by decide +kernel
theorem dP_fits_4 : decode prog_1_method_32_code 4 = .ok (.tableswitch 128 4 8 #[36, 53, 65, 76, 106], 36) := by decide +kernel
theorem dP_fits_40 : decode prog_1_method_32_code 40 = .ok (.aload_n 1, 1) := by decide +kernel
theorem dP_fits_41 : decode prog_1_method_32_code 41 = .ok (.getfield 246, 3) := by decide +kernel
theorem dP_fits_44 : decode prog_1_method_32_code 44 = .ok (.aload_n 3, 1) := by decide +kernel
theorem dP_fits_45 : decode prog_1_method_32_code 45 = .ok (.getfield 353, 3) := by decide +kernel
theorem dP_fits_48 : decode prog_1_method_32_code 48 = .ok (.if_icmp .ne 7, 3) := by decide +kernel
theorem dP_fits_51 : decode prog_1_method_32_code 51 = .ok (.iconst 1, 1) := by decide +kernel
theorem dP_fits_52 : decode prog_1_method_32_code 52 = .ok (.goto 4, 3) := by decide +kernel
theorem dP_fits_55 : decode prog_1_method_32_code 55 = .ok (.iconst 0, 1) := by decide +kernel
theorem dP_fits_56 : decode prog_1_method_32_code 56 = .ok (.ireturn, 1) := by decide +kernel
theorem dP_fits_57 : decode prog_1_method_32_code 57 = .ok (.aload_n 0, 1) := by decide +kernel
theorem dP_fits_58 : decode prog_1_method_32_code 58 = .ok (.aload_n 2, 1) := by decide +kernel
theorem dP_fits_59 : decode prog_1_method_32_code 59 = .ok (.aload_n 3, 1) := by decide +kernel
theorem dP_fits_60 : decode prog_1_method_32_code 60 = .ok (.getfield 353, 3) := by decide +kernel
theorem dP_fits_63 : decode prog_1_method_32_code 63 = .ok (.iload 5, 2) := by decide +kernel
theorem dP_fits_65 : decode prog_1_method_32_code 65 = .ok (.invokevirtual 356, 3) := by decide +kernel
theorem dP_fits_68 : decode prog_1_method_32_code 68 = .ok (.ireturn, 1) := by decide +kernel
theorem dP_fits_69 : decode prog_1_method_32_code 69 = .ok (.aload_n 1, 1) := by decide +kernel
theorem dP_fits_70 : decode prog_1_method_32_code 70 = .ok (.aload_n 3, 1) := by decide +kernel
theorem dP_fits_71 : decode prog_1_method_32_code 71 = .ok (.getfield 353, 3) := by decide +kernel
theorem dP_fits_74 : decode prog_1_method_32_code 74 = .ok (.iload 5, 2) := by decide +kernel
theorem dP_fits_76 : decode prog_1_method_32_code 76 = .ok (.invokestatic 360, 3) := by decide +kernel
theorem dP_fits_79 : decode prog_1_method_32_code 79 = .ok (.ireturn, 1) := by decide +kernel
theorem dP_fits_80 : decode prog_1_method_32_code 80 = .ok (.aload_n 2, 1) := by decide +kernel
theorem dP_fits_81 : decode prog_1_method_32_code 81 = .ok (.aload_n 3, 1) := by decide +kernel
theorem dP_fits_82 : decode prog_1_method_32_code 82 = .ok (.getfield 353, 3) := by decide +kernel
theorem dP_fits_85 : decode prog_1_method_32_code 85 = .ok (.aload_n 3, 1) := by decide +kernel
theorem dP_fits_86 : decode prog_1_method_32_code 86 = .ok (.getfield 364, 3) := by decide +kernel
theorem dP_fits_89 : decode prog_1_method_32_code 89 = .ok (.invokevirtual 367, 3) := by decide +kernel
theorem dP_fits_92 : decode prog_1_method_32_code 92 = .ok (.aload_n 3, 1) := by decide +kernel
theorem dP_fits_93 : decode prog_1_method_32_code 93 = .ok (.getfield 369, 3) := by decide +kernel
theorem dP_fits_96 : decode prog_1_method_32_code 96 = .ok (.aload_n 3, 1) := by decide +kernel
theorem dP_fits_97 : decode prog_1_method_32_code 97 = .ok (.getfield 369, 3) := by decide +kernel
theorem dP_fits_100 : decode prog_1_method_32_code 100 = .ok (.imul, 1) := by decide +kernel
theorem dP_fits_101 : decode prog_1_method_32_code 101 = .ok (.if_icmp .gt 7, 3) := by decide +kernel
theorem dP_fits_104 : decode prog_1_method_32_code 104 = .ok (.iconst 1, 1) := by decide +kernel
theorem dP_fits_105 : decode prog_1_method_32_code 105 = .ok (.goto 4, 3) := by decide +kernel
theorem dP_fits_108 : decode prog_1_method_32_code 108 = .ok (.iconst 0, 1) := by decide +kernel
theorem dP_fits_109 : decode prog_1_method_32_code 109 = .ok (.ireturn, 1) := by decide +kernel
theorem dP_fits_110 : decode prog_1_method_32_code 110 = .ok (.aload_n 0, 1) := by decide +kernel
theorem dP_fits_111 : decode prog_1_method_32_code 111 = .ok (.getfield 69, 3) := by decide +kernel
theorem dP_fits_114 : decode prog_1_method_32_code 114 = .ok (.aload 4, 2) := by decide +kernel
theorem dP_fits_116 : decode prog_1_method_32_code 116 = .ok (.aload_n 2, 1) := by decide +kernel
theorem dP_fits_117 : decode prog_1_method_32_code 117 = .ok (.invokevirtual 372, 3) := by decide +kernel
theorem dP_fits_120 : decode prog_1_method_32_code 120 = .ok (.aload_n 0, 1) := by decide +kernel
theorem dP_fits_121 : decode prog_1_method_32_code 121 = .ok (.getfield 69, 3) := by decide +kernel
theorem dP_fits_124 : decode prog_1_method_32_code 124 = .ok (.aload_n 3, 1) := by decide +kernel
theorem dP_fits_125 : decode prog_1_method_32_code 125 = .ok (.getfield 353, 3) := by decide +kernel
theorem dP_fits_128 : decode prog_1_method_32_code 128 = .ok (.invokevirtual 376, 3) := by decide +kernel
theorem dP_fits_131 : decode prog_1_method_32_code 131 = .ok (.ireturn, 1) := by decide +kernel
theorem dP_fits_132 : decode prog_1_method_32_code 132 = .ok (.aload_n 0, 1) := by decide +kernel
theorem dP_fits_133 : decode prog_1_method_32_code 133 = .ok (.aload_n 1, 1) := by decide +kernel
theorem dP_fits_134 : decode prog_1_method_32_code 134 = .ok (.aload_n 3, 1) := by decide +kernel
theorem dP_fits_135 : decode prog_1_method_32_code 135 = .ok (.iload 5, 2) := by decide +kernel
theorem dP_fits_137 : decode prog_1_method_32_code 137 = .ok (.invokevirtual 379, 3) := by decide +kernel
theorem dP_fits_140 : decode prog_1_method_32_code 140 = .ok (.ldc2_w 383, 3) := by decide +kernel
theorem dP_fits_143 : decode prog_1_method_32_code 143 = .ok (.lcmp, 1) := by decide +kernel
theorem dP_fits_144 : decode prog_1_method_32_code 144 = .ok (.ifCond .eq 7, 3) := by decide +kernel
theorem dP_fits_147 : decode prog_1_method_32_code 147 = .ok (.iconst 1, 1) := by decide +kernel
theorem dP_fits_148 : decode prog_1_method_32_code 148 = .ok (.goto 4, 3) := by decide +kernel
theorem dP_fits_151 : decode prog_1_method_32_code 151 = .ok (.iconst 0, 1) := by decide +kernel
theorem dP_fits_152 : decode prog_1_method_32_code 152 = .ok (.ireturn, 1) := by decide +kernel
theorem dP_meets_0 : decode prog_1_method_31_code 0 = .ok (.aload_n 1, 1) := by decide +kernel
theorem dP_meets_1 : decode prog_1_method_31_code 1 = .ok (.iload 4, 2) := by decide +kernel
theorem dP_meets_3 : decode prog_1_method_31_code 3 = .ok (.invokevirtual 275, 3) := by decide +kernel
theorem dP_meets_6 : decode prog_1_method_31_code 6 = .ok (.astore 5, 2) := by decide +kernel
theorem dP_meets_8 : decode prog_1_method_31_code 8 = .ok (.aload 5, 2) := by decide +kernel
theorem dP_meets_10 : decode prog_1_method_31_code 10 = .ok (.ifnull 12, 3) := by decide +kernel
theorem dP_meets_13 : decode prog_1_method_31_code 13 = .ok (.aload_n 1, 1) := by decide +kernel
theorem dP_meets_14 : decode prog_1_method_31_code 14 = .ok (.iload 4, 2) := by decide +kernel
theorem dP_meets_16 : decode prog_1_method_31_code 16 = .ok (.invokevirtual 190, 3) := by decide +kernel
theorem dP_meets_19 : decode prog_1_method_31_code 19 = .ok (.ifCond .eq 5, 3) := by decide +kernel
theorem dP_meets_22 : decode prog_1_method_31_code 22 = .ok (.iconst 0, 1) := by decide +kernel
theorem dP_meets_23 : decode prog_1_method_31_code 23 = .ok (.ireturn, 1) := by decide +kernel
theorem dP_meets_24 : decode prog_1_method_31_code 24 = .ok (.iconst 0, 1) := by decide +kernel
theorem dP_meets_25 : decode prog_1_method_31_code 25 = .ok (.istore 6, 2) := by decide +kernel
theorem dP_meets_27 : decode prog_1_method_31_code 27 = .ok (.iload 6, 2) := by decide +kernel
theorem dP_meets_29 : decode prog_1_method_31_code 29 = .ok (.aload_n 2, 1) := by decide +kernel
theorem dP_meets_30 : decode prog_1_method_31_code 30 = .ok (.invokevirtual 98, 3) := by decide +kernel
theorem dP_meets_33 : decode prog_1_method_31_code 33 = .ok (.if_icmp .ge 33, 3) := by decide +kernel
theorem dP_meets_36 : decode prog_1_method_31_code 36 = .ok (.aload_n 0, 1) := by decide +kernel
theorem dP_meets_37 : decode prog_1_method_31_code 37 = .ok (.aload_n 1, 1) := by decide +kernel
theorem dP_meets_38 : decode prog_1_method_31_code 38 = .ok (.aload 5, 2) := by decide +kernel
theorem dP_meets_40 : decode prog_1_method_31_code 40 = .ok (.aload_n 2, 1) := by decide +kernel
theorem dP_meets_41 : decode prog_1_method_31_code 41 = .ok (.iload 6, 2) := by decide +kernel
theorem dP_meets_43 : decode prog_1_method_31_code 43 = .ok (.invokevirtual 223, 3) := by decide +kernel
theorem dP_meets_46 : decode prog_1_method_31_code 46 = .ok (.checkcast 73, 3) := by decide +kernel
theorem dP_meets_49 : decode prog_1_method_31_code 49 = .ok (.aload_n 3, 1) := by decide +kernel
theorem dP_meets_50 : decode prog_1_method_31_code 50 = .ok (.iload 4, 2) := by decide +kernel
theorem dP_meets_52 : decode prog_1_method_31_code 52 = .ok (.invokevirtual 348, 3) := by decide +kernel
theorem dP_meets_55 : decode prog_1_method_31_code 55 = .ok (.ifCond .ne 5, 3) := by decide +kernel
theorem dP_meets_58 : decode prog_1_method_31_code 58 = .ok (.iconst 0, 1) := by decide +kernel
theorem dP_meets_59 : decode prog_1_method_31_code 59 = .ok (.ireturn, 1) := by decide +kernel
theorem dP_meets_60 : decode prog_1_method_31_code 60 = .ok (.iinc 6 1, 3) := by decide +kernel
theorem dP_meets_63 : decode prog_1_method_31_code 63 = .ok (.goto (-36), 3) := by decide +kernel
theorem dP_meets_66 : decode prog_1_method_31_code 66 = .ok (.iconst 1, 1) := by decide +kernel
theorem dP_meets_67 : decode prog_1_method_31_code 67 = .ok (.ireturn, 1) := by decide +kernel
theorem dPl_squareTo_0 : decode prog_8_method_7_code 0 = .ok (.aload_n 0, 1) := by decide +kernel
theorem dPl_squareTo_1 : decode prog_8_method_7_code 1 = .ok (.iload_n 3, 1) := by decide +kernel
theorem dPl_squareTo_2 : decode prog_8_method_7_code 2 = .ok (.invokevirtual 52, 3) := by decide +kernel
theorem dPl_squareTo_5 : decode prog_8_method_7_code 5 = .ok (.astore 4, 2) := by decide +kernel
theorem dPl_squareTo_7 : decode prog_8_method_7_code 7 = .ok (.aload 4, 2) := by decide +kernel
theorem dPl_squareTo_9 : decode prog_8_method_7_code 9 = .ok (.ifnonnull 8, 3) := by decide +kernel
theorem dPl_squareTo_12 : decode prog_8_method_7_code 12 = .ok (.ldc 60, 2) := by decide +kernel
theorem dPl_squareTo_14 : decode prog_8_method_7_code 14 = .ok (.goto 10, 3) := by decide +kernel
theorem dPl_squareTo_17 : decode prog_8_method_7_code 17 = .ok (.aload 4, 2) := by decide +kernel
theorem dPl_squareTo_19 : decode prog_8_method_7_code 19 = .ok (.iload_n 1, 1) := by decide +kernel
theorem dPl_squareTo_20 : decode prog_8_method_7_code 20 = .ok (.iload_n 2, 1) := by decide +kernel
theorem dPl_squareTo_21 : decode prog_8_method_7_code 21 = .ok (.invokevirtual 61, 3) := by decide +kernel
theorem dPl_squareTo_24 : decode prog_8_method_7_code 24 = .ok (.ireturn, 1) := by decide +kernel
theorem dRs_positionKey_0 : decode prog_9_method_6_code 0 = .ok (.aload_n 0, 1) := by decide +kernel
theorem dRs_positionKey_1 : decode prog_9_method_6_code 1 = .ok (.getfield 7, 3) := by decide +kernel
theorem dRs_positionKey_4 : decode prog_9_method_6_code 4 = .ok (.ifCond .eq 20, 3) := by decide +kernel
theorem dRs_positionKey_7 : decode prog_9_method_6_code 7 = .ok (.aload_n 0, 1) := by decide +kernel
theorem dRs_positionKey_8 : decode prog_9_method_6_code 8 = .ok (.getfield 54, 3) := by decide +kernel
theorem dRs_positionKey_11 : decode prog_9_method_6_code 11 = .ok (.i2l, 1) := by decide +kernel
theorem dRs_positionKey_12 : decode prog_9_method_6_code 12 = .ok (.bipush 32, 2) := by decide +kernel
theorem dRs_positionKey_14 : decode prog_9_method_6_code 14 = .ok (.lshl, 1) := by decide +kernel
theorem dRs_positionKey_15 : decode prog_9_method_6_code 15 = .ok (.aload_n 0, 1) := by decide +kernel
theorem dRs_positionKey_16 : decode prog_9_method_6_code 16 = .ok (.getfield 57, 3) := by decide +kernel
theorem dRs_positionKey_19 : decode prog_9_method_6_code 19 = .ok (.i2l, 1) := by decide +kernel
theorem dRs_positionKey_20 : decode prog_9_method_6_code 20 = .ok (.ladd, 1) := by decide +kernel
theorem dRs_positionKey_21 : decode prog_9_method_6_code 21 = .ok (.goto 4, 3) := by decide +kernel
theorem dRs_positionKey_24 : decode prog_9_method_6_code 24 = .ok (.lconst 0, 1) := by decide +kernel
theorem dRs_positionKey_25 : decode prog_9_method_6_code 25 = .ok (.lreturn, 1) := by decide +kernel
theorem dP_routeKey_0 : decode prog_1_method_40_code 0 = .ok (.aload_n 1, 1) := by decide +kernel
theorem dP_routeKey_1 : decode prog_1_method_40_code 1 = .ok (.ifnonnull 5, 3) := by decide +kernel
theorem dP_routeKey_4 : decode prog_1_method_40_code 4 = .ok (.lconst 0, 1) := by decide +kernel
theorem dP_routeKey_5 : decode prog_1_method_40_code 5 = .ok (.lreturn, 1) := by decide +kernel
theorem dP_routeKey_6 : decode prog_1_method_40_code 6 = .ok (.aload_n 0, 1) := by decide +kernel
theorem dP_routeKey_7 : decode prog_1_method_40_code 7 = .ok (.getfield 69, 3) := by decide +kernel
theorem dP_routeKey_10 : decode prog_1_method_40_code 10 = .ok (.aload_n 0, 1) := by decide +kernel
theorem dP_routeKey_11 : decode prog_1_method_40_code 11 = .ok (.getfield 32, 3) := by decide +kernel
theorem dP_routeKey_14 : decode prog_1_method_40_code 14 = .ok (.aload_n 1, 1) := by decide +kernel
theorem dP_routeKey_15 : decode prog_1_method_40_code 15 = .ok (.invokevirtual 372, 3) := by decide +kernel
theorem dP_routeKey_18 : decode prog_1_method_40_code 18 = .ok (.aload_n 0, 1) := by decide +kernel
theorem dP_routeKey_19 : decode prog_1_method_40_code 19 = .ok (.getfield 69, 3) := by decide +kernel
theorem dP_routeKey_22 : decode prog_1_method_40_code 22 = .ok (.invokevirtual 412, 3) := by decide +kernel
theorem dP_routeKey_25 : decode prog_1_method_40_code 25 = .ok (.lreturn, 1) := by decide +kernel
theorem dP_orderKey_0 : decode prog_1_method_39_code 0 = .ok (.iload_n 2, 1) := by decide +kernel
theorem dP_orderKey_1 : decode prog_1_method_39_code 1 = .ok (.tableswitch 82 1 3 #[27, 36, 71], 27) := by decide +kernel
theorem dP_orderKey_28 : decode prog_1_method_39_code 28 = .ok (.aload_n 0, 1) := by decide +kernel
theorem dP_orderKey_29 : decode prog_1_method_39_code 29 = .ok (.aload_n 1, 1) := by decide +kernel
theorem dP_orderKey_30 : decode prog_1_method_39_code 30 = .ok (.aload_n 3, 1) := by decide +kernel
theorem dP_orderKey_31 : decode prog_1_method_39_code 31 = .ok (.iload 5, 2) := by decide +kernel
theorem dP_orderKey_33 : decode prog_1_method_39_code 33 = .ok (.invokevirtual 379, 3) := by decide +kernel
theorem dP_orderKey_36 : decode prog_1_method_39_code 36 = .ok (.lreturn, 1) := by decide +kernel
theorem dP_orderKey_37 : decode prog_1_method_39_code 37 = .ok (.aload 4, 2) := by decide +kernel
theorem dP_orderKey_39 : decode prog_1_method_39_code 39 = .ok (.ifnonnull 15, 3) := by decide +kernel
theorem dP_orderKey_42 : decode prog_1_method_39_code 42 = .ok (.aload_n 1, 1) := by decide +kernel
theorem dP_orderKey_43 : decode prog_1_method_39_code 43 = .ok (.iconst 0, 1) := by decide +kernel
theorem dP_orderKey_44 : decode prog_1_method_39_code 44 = .ok (.iconst 0, 1) := by decide +kernel
theorem dP_orderKey_45 : decode prog_1_method_39_code 45 = .ok (.iload 5, 2) := by decide +kernel
theorem dP_orderKey_47 : decode prog_1_method_39_code 47 = .ok (.invokevirtual 249, 3) := by decide +kernel
theorem dP_orderKey_50 : decode prog_1_method_39_code 50 = .ok (.i2l, 1) := by decide +kernel
theorem dP_orderKey_51 : decode prog_1_method_39_code 51 = .ok (.goto 20, 3) := by decide +kernel
theorem dP_orderKey_54 : decode prog_1_method_39_code 54 = .ok (.aload_n 1, 1) := by decide +kernel
theorem dP_orderKey_55 : decode prog_1_method_39_code 55 = .ok (.aload 4, 2) := by decide +kernel
theorem dP_orderKey_57 : decode prog_1_method_39_code 57 = .ok (.getfield 353, 3) := by decide +kernel
theorem dP_orderKey_60 : decode prog_1_method_39_code 60 = .ok (.aload 4, 2) := by decide +kernel
theorem dP_orderKey_62 : decode prog_1_method_39_code 62 = .ok (.getfield 364, 3) := by decide +kernel
theorem dP_orderKey_65 : decode prog_1_method_39_code 65 = .ok (.iload 5, 2) := by decide +kernel
theorem dP_orderKey_67 : decode prog_1_method_39_code 67 = .ok (.invokevirtual 249, 3) := by decide +kernel
theorem dP_orderKey_70 : decode prog_1_method_39_code 70 = .ok (.i2l, 1) := by decide +kernel
theorem dP_orderKey_71 : decode prog_1_method_39_code 71 = .ok (.lreturn, 1) := by decide +kernel
theorem dP_orderKey_72 : decode prog_1_method_39_code 72 = .ok (.aload_n 0, 1) := by decide +kernel
theorem dP_orderKey_73 : decode prog_1_method_39_code 73 = .ok (.aload_n 1, 1) := by decide +kernel
theorem dP_orderKey_74 : decode prog_1_method_39_code 74 = .ok (.iload 5, 2) := by decide +kernel
theorem dP_orderKey_76 : decode prog_1_method_39_code 76 = .ok (.invokevirtual 275, 3) := by decide +kernel
theorem dP_orderKey_79 : decode prog_1_method_39_code 79 = .ok (.invokevirtual 408, 3) := by decide +kernel
theorem dP_orderKey_82 : decode prog_1_method_39_code 82 = .ok (.lreturn, 1) := by decide +kernel
theorem dP_orderKey_83 : decode prog_1_method_39_code 83 = .ok (.lconst 0, 1) := by decide +kernel
theorem dP_orderKey_84 : decode prog_1_method_39_code 84 = .ok (.lreturn, 1) := by decide +kernel
theorem dHi_add_0 : decode prog_5_method_3_code 0 = .ok (.aload_n 0, 1) := by decide +kernel
theorem dHi_add_1 : decode prog_5_method_3_code 1 = .ok (.getfield 19, 3) := by decide +kernel
theorem dHi_add_4 : decode prog_5_method_3_code 4 = .ok (.bipush 30, 2) := by decide +kernel
theorem dHi_add_6 : decode prog_5_method_3_code 6 = .ok (.if_icmp .lt 4, 3) := by decide +kernel
theorem dHi_add_9 : decode prog_5_method_3_code 9 = .ok (.return_, 1) := by decide +kernel
theorem dHi_add_10 : decode prog_5_method_3_code 10 = .ok (.aload_n 0, 1) := by decide +kernel
theorem dHi_add_11 : decode prog_5_method_3_code 11 = .ok (.getfield 19, 3) := by decide +kernel
theorem dHi_add_14 : decode prog_5_method_3_code 14 = .ok (.istore 4, 2) := by decide +kernel
theorem dHi_add_16 : decode prog_5_method_3_code 16 = .ok (.iload 4, 2) := by decide +kernel
theorem dHi_add_18 : decode prog_5_method_3_code 18 = .ok (.ifCond .le 55, 3) := by decide +kernel
theorem dHi_add_21 : decode prog_5_method_3_code 21 = .ok (.aload_n 0, 1) := by decide +kernel
theorem dHi_add_22 : decode prog_5_method_3_code 22 = .ok (.getfield 15, 3) := by decide +kernel
theorem dHi_add_25 : decode prog_5_method_3_code 25 = .ok (.iload 4, 2) := by decide +kernel
theorem dHi_add_27 : decode prog_5_method_3_code 27 = .ok (.iconst 1, 1) := by decide +kernel
theorem dHi_add_28 : decode prog_5_method_3_code 28 = .ok (.isub, 1) := by decide +kernel
theorem dHi_add_29 : decode prog_5_method_3_code 29 = .ok (.laload, 1) := by decide +kernel
theorem dHi_add_30 : decode prog_5_method_3_code 30 = .ok (.lload_n 2, 1) := by decide +kernel
theorem dHi_add_31 : decode prog_5_method_3_code 31 = .ok (.lcmp, 1) := by decide +kernel
theorem dHi_add_32 : decode prog_5_method_3_code 32 = .ok (.ifCond .le 41, 3) := by decide +kernel
theorem dHi_add_35 : decode prog_5_method_3_code 35 = .ok (.aload_n 0, 1) := by decide +kernel
theorem dHi_add_36 : decode prog_5_method_3_code 36 = .ok (.getfield 15, 3) := by decide +kernel
theorem dHi_add_39 : decode prog_5_method_3_code 39 = .ok (.iload 4, 2) := by decide +kernel
theorem dHi_add_41 : decode prog_5_method_3_code 41 = .ok (.aload_n 0, 1) := by decide +kernel
theorem dHi_add_42 : decode prog_5_method_3_code 42 = .ok (.getfield 15, 3) := by decide +kernel
theorem dHi_add_45 : decode prog_5_method_3_code 45 = .ok (.iload 4, 2) := by decide +kernel
theorem dHi_add_47 : decode prog_5_method_3_code 47 = .ok (.iconst 1, 1) := by decide +kernel
theorem dHi_add_48 : decode prog_5_method_3_code 48 = .ok (.isub, 1) := by decide +kernel
theorem dHi_add_49 : decode prog_5_method_3_code 49 = .ok (.laload, 1) := by decide +kernel
theorem dHi_add_50 : decode prog_5_method_3_code 50 = .ok (.lastore, 1) := by decide +kernel
theorem dHi_add_51 : decode prog_5_method_3_code 51 = .ok (.aload_n 0, 1) := by decide +kernel
theorem dHi_add_52 : decode prog_5_method_3_code 52 = .ok (.getfield 9, 3) := by decide +kernel
theorem dHi_add_55 : decode prog_5_method_3_code 55 = .ok (.iload 4, 2) := by decide +kernel
theorem dHi_add_57 : decode prog_5_method_3_code 57 = .ok (.aload_n 0, 1) := by decide +kernel
theorem dHi_add_58 : decode prog_5_method_3_code 58 = .ok (.getfield 9, 3) := by decide +kernel
theorem dHi_add_61 : decode prog_5_method_3_code 61 = .ok (.iload 4, 2) := by decide +kernel
theorem dHi_add_63 : decode prog_5_method_3_code 63 = .ok (.iconst 1, 1) := by decide +kernel
theorem dHi_add_64 : decode prog_5_method_3_code 64 = .ok (.isub, 1) := by decide +kernel
theorem dHi_add_65 : decode prog_5_method_3_code 65 = .ok (.iaload, 1) := by decide +kernel
theorem dHi_add_66 : decode prog_5_method_3_code 66 = .ok (.iastore, 1) := by decide +kernel
theorem dHi_add_67 : decode prog_5_method_3_code 67 = .ok (.iinc 4 (-1), 3) := by decide +kernel
theorem dHi_add_70 : decode prog_5_method_3_code 70 = .ok (.goto (-54), 3) := by decide +kernel
theorem dHi_add_73 : decode prog_5_method_3_code 73 = .ok (.aload_n 0, 1) := by decide +kernel
theorem dHi_add_74 : decode prog_5_method_3_code 74 = .ok (.getfield 15, 3) := by decide +kernel
theorem dHi_add_77 : decode prog_5_method_3_code 77 = .ok (.iload 4, 2) := by decide +kernel
theorem dHi_add_79 : decode prog_5_method_3_code 79 = .ok (.lload_n 2, 1) := by decide +kernel
theorem dHi_add_80 : decode prog_5_method_3_code 80 = .ok (.lastore, 1) := by decide +kernel
theorem dHi_add_81 : decode prog_5_method_3_code 81 = .ok (.aload_n 0, 1) := by decide +kernel
theorem dHi_add_82 : decode prog_5_method_3_code 82 = .ok (.getfield 9, 3) := by decide +kernel
theorem dHi_add_85 : decode prog_5_method_3_code 85 = .ok (.iload 4, 2) := by decide +kernel
theorem dHi_add_87 : decode prog_5_method_3_code 87 = .ok (.iload_n 1, 1) := by decide +kernel
theorem dHi_add_88 : decode prog_5_method_3_code 88 = .ok (.iastore, 1) := by decide +kernel
theorem dHi_add_89 : decode prog_5_method_3_code 89 = .ok (.aload_n 0, 1) := by decide +kernel
theorem dHi_add_90 : decode prog_5_method_3_code 90 = .ok (.dup, 1) := by decide +kernel
theorem dHi_add_91 : decode prog_5_method_3_code 91 = .ok (.getfield 19, 3) := by decide +kernel
theorem dHi_add_94 : decode prog_5_method_3_code 94 = .ok (.iconst 1, 1) := by decide +kernel
theorem dHi_add_95 : decode prog_5_method_3_code 95 = .ok (.iadd, 1) := by decide +kernel
theorem dHi_add_96 : decode prog_5_method_3_code 96 = .ok (.putfield 19, 3) := by decide +kernel
theorem dHi_add_99 : decode prog_5_method_3_code 99 = .ok (.return_, 1) := by decide +kernel
theorem dPl_isThere_0 : decode prog_8_method_6_code 0 = .ok (.aload_n 0, 1) := by decide +kernel
theorem dPl_isThere_1 : decode prog_8_method_6_code 1 = .ok (.iload_n 1, 1) := by decide +kernel
theorem dPl_isThere_2 : decode prog_8_method_6_code 2 = .ok (.invokevirtual 52, 3) := by decide +kernel
theorem dPl_isThere_5 : decode prog_8_method_6_code 5 = .ok (.ifnull 15, 3) := by decide +kernel
theorem dPl_isThere_8 : decode prog_8_method_6_code 8 = .ok (.aload_n 0, 1) := by decide +kernel
theorem dPl_isThere_9 : decode prog_8_method_6_code 9 = .ok (.iload_n 1, 1) := by decide +kernel
theorem dPl_isThere_10 : decode prog_8_method_6_code 10 = .ok (.invokevirtual 56, 3) := by decide +kernel
theorem dPl_isThere_13 : decode prog_8_method_6_code 13 = .ok (.ifCond .ne 7, 3) := by decide +kernel
theorem dPl_isThere_16 : decode prog_8_method_6_code 16 = .ok (.iconst 1, 1) := by decide +kernel
theorem dPl_isThere_17 : decode prog_8_method_6_code 17 = .ok (.goto 4, 3) := by decide +kernel
theorem dPl_isThere_20 : decode prog_8_method_6_code 20 = .ok (.iconst 0, 1) := by decide +kernel
theorem dPl_isThere_21 : decode prog_8_method_6_code 21 = .ok (.ireturn, 1) := by decide +kernel
theorem dHi_keepFirst_0 : decode prog_5_method_4_code 0 = .ok (.aload_n 0, 1) := by decide +kernel
theorem dHi_keepFirst_1 : decode prog_5_method_4_code 1 = .ok (.aload_n 0, 1) := by decide +kernel
theorem dHi_keepFirst_2 : decode prog_5_method_4_code 2 = .ok (.getfield 19, 3) := by decide +kernel
theorem dHi_keepFirst_5 : decode prog_5_method_4_code 5 = .ok (.iload_n 1, 1) := by decide +kernel
theorem dHi_keepFirst_6 : decode prog_5_method_4_code 6 = .ok (.invokestatic 23, 3) := by decide +kernel
theorem dHi_keepFirst_9 : decode prog_5_method_4_code 9 = .ok (.putfield 19, 3) := by decide +kernel
theorem dHi_keepFirst_12 : decode prog_5_method_4_code 12 = .ok (.return_, 1) := by decide +kernel
theorem dP_sound_0 : decode prog_1_method_17_code 0 = .ok (.new 75, 3) := by decide +kernel
theorem dP_sound_3 : decode prog_1_method_17_code 3 = .ok (.dup, 1) := by decide +kernel
theorem dP_sound_4 : decode prog_1_method_17_code 4 = .ok (.aload_n 0, 1) := by decide +kernel
theorem dP_sound_5 : decode prog_1_method_17_code 5 = .ok (.getfield 36, 3) := by decide +kernel
theorem dP_sound_8 : decode prog_1_method_17_code 8 = .ok (.aload_n 0, 1) := by decide +kernel
theorem dP_sound_9 : decode prog_1_method_17_code 9 = .ok (.getfield 40, 3) := by decide +kernel
theorem dP_sound_12 : decode prog_1_method_17_code 12 = .ok (.invokespecial 77, 3) := by decide +kernel
theorem dP_sound_15 : decode prog_1_method_17_code 15 = .ok (.invokevirtual 282, 3) := by decide +kernel
theorem dP_sound_18 : decode prog_1_method_17_code 18 = .ok (.ireturn, 1) := by decide +kernel
theorem dWa_init_0 : decode prog_10_method_1_code 0 = .ok (.aload_n 0, 1) := by decide +kernel
theorem dWa_init_1 : decode prog_10_method_1_code 1 = .ok (.invokespecial 1, 3) := by decide +kernel
theorem dWa_init_4 : decode prog_10_method_1_code 4 = .ok (.aload_n 0, 1) := by decide +kernel
theorem dWa_init_5 : decode prog_10_method_1_code 5 = .ok (.new 7, 3) := by decide +kernel
theorem dWa_init_8 : decode prog_10_method_1_code 8 = .ok (.dup, 1) := by decide +kernel
theorem dWa_init_9 : decode prog_10_method_1_code 9 = .ok (.invokespecial 9, 3) := by decide +kernel
theorem dWa_init_12 : decode prog_10_method_1_code 12 = .ok (.putfield 10, 3) := by decide +kernel
theorem dWa_init_15 : decode prog_10_method_1_code 15 = .ok (.aload_n 0, 1) := by decide +kernel
theorem dWa_init_16 : decode prog_10_method_1_code 16 = .ok (.iconst 0, 1) := by decide +kernel
theorem dWa_init_17 : decode prog_10_method_1_code 17 = .ok (.putfield 16, 3) := by decide +kernel
theorem dWa_init_20 : decode prog_10_method_1_code 20 = .ok (.aload_n 0, 1) := by decide +kernel
theorem dWa_init_21 : decode prog_10_method_1_code 21 = .ok (.aload_n 1, 1) := by decide +kernel
theorem dWa_init_22 : decode prog_10_method_1_code 22 = .ok (.putfield 20, 3) := by decide +kernel
theorem dWa_init_25 : decode prog_10_method_1_code 25 = .ok (.aload_n 0, 1) := by decide +kernel
theorem dWa_init_26 : decode prog_10_method_1_code 26 = .ok (.iload_n 2, 1) := by decide +kernel
theorem dWa_init_27 : decode prog_10_method_1_code 27 = .ok (.putfield 24, 3) := by decide +kernel
theorem dWa_init_30 : decode prog_10_method_1_code 30 = .ok (.return_, 1) := by decide +kernel
theorem dP_watchOf_0 : decode prog_1_method_29_code 0 = .ok (.iload_n 1, 1) := by decide +kernel
theorem dP_watchOf_1 : decode prog_1_method_29_code 1 = .ok (.ifCond .lt 17, 3) := by decide +kernel
theorem dP_watchOf_4 : decode prog_1_method_29_code 4 = .ok (.iload_n 1, 1) := by decide +kernel
theorem dP_watchOf_5 : decode prog_1_method_29_code 5 = .ok (.iconst 4, 1) := by decide +kernel
theorem dP_watchOf_6 : decode prog_1_method_29_code 6 = .ok (.if_icmp .ge 12, 3) := by decide +kernel
theorem dP_watchOf_9 : decode prog_1_method_29_code 9 = .ok (.aload_n 0, 1) := by decide +kernel
theorem dP_watchOf_10 : decode prog_1_method_29_code 10 = .ok (.getfield 48, 3) := by decide +kernel
theorem dP_watchOf_13 : decode prog_1_method_29_code 13 = .ok (.iload_n 1, 1) := by decide +kernel
theorem dP_watchOf_14 : decode prog_1_method_29_code 14 = .ok (.aaload, 1) := by decide +kernel
theorem dP_watchOf_15 : decode prog_1_method_29_code 15 = .ok (.goto 4, 3) := by decide +kernel
theorem dP_watchOf_18 : decode prog_1_method_29_code 18 = .ok (.aconst_null, 1) := by decide +kernel
theorem dP_watchOf_19 : decode prog_1_method_29_code 19 = .ok (.areturn, 1) := by decide +kernel
theorem dWa_hasTold_0 : decode prog_10_method_2_code 0 = .ok (.aload_n 0, 1) := by decide +kernel
theorem dWa_hasTold_1 : decode prog_10_method_2_code 1 = .ok (.getfield 16, 3) := by decide +kernel
theorem dWa_hasTold_4 : decode prog_10_method_2_code 4 = .ok (.iconst 1, 1) := by decide +kernel
theorem dWa_hasTold_5 : decode prog_10_method_2_code 5 = .ok (.iload_n 1, 1) := by decide +kernel
theorem dWa_hasTold_6 : decode prog_10_method_2_code 6 = .ok (.ishl, 1) := by decide +kernel
theorem dWa_hasTold_7 : decode prog_10_method_2_code 7 = .ok (.iand, 1) := by decide +kernel
theorem dWa_hasTold_8 : decode prog_10_method_2_code 8 = .ok (.ifCond .eq 7, 3) := by decide +kernel
theorem dWa_hasTold_11 : decode prog_10_method_2_code 11 = .ok (.iconst 1, 1) := by decide +kernel
theorem dWa_hasTold_12 : decode prog_10_method_2_code 12 = .ok (.goto 4, 3) := by decide +kernel
theorem dWa_hasTold_15 : decode prog_10_method_2_code 15 = .ok (.iconst 0, 1) := by decide +kernel
theorem dWa_hasTold_16 : decode prog_10_method_2_code 16 = .ok (.ireturn, 1) := by decide +kernel
theorem dIn_bitCount_0 : decode prog_20_method_49_code 0 = .ok (.iload_n 0, 1) := by decide +kernel
theorem dIn_bitCount_1 : decode prog_20_method_49_code 1 = .ok (.iload_n 0, 1) := by decide +kernel
theorem dIn_bitCount_2 : decode prog_20_method_49_code 2 = .ok (.iconst 1, 1) := by decide +kernel
theorem dIn_bitCount_3 : decode prog_20_method_49_code 3 = .ok (.iushr, 1) := by decide +kernel
theorem dIn_bitCount_4 : decode prog_20_method_49_code 4 = .ok (.ldc_w 265, 3) := by decide +kernel
theorem dIn_bitCount_7 : decode prog_20_method_49_code 7 = .ok (.iand, 1) := by decide +kernel
theorem dIn_bitCount_8 : decode prog_20_method_49_code 8 = .ok (.isub, 1) := by decide +kernel
theorem dIn_bitCount_9 : decode prog_20_method_49_code 9 = .ok (.istore_n 0, 1) := by decide +kernel
theorem dIn_bitCount_10 : decode prog_20_method_49_code 10 = .ok (.iload_n 0, 1) := by decide +kernel
theorem dIn_bitCount_11 : decode prog_20_method_49_code 11 = .ok (.ldc_w 266, 3) := by decide +kernel
theorem dIn_bitCount_14 : decode prog_20_method_49_code 14 = .ok (.iand, 1) := by decide +kernel
theorem dIn_bitCount_15 : decode prog_20_method_49_code 15 = .ok (.iload_n 0, 1) := by decide +kernel
theorem dIn_bitCount_16 : decode prog_20_method_49_code 16 = .ok (.iconst 2, 1) := by decide +kernel
theorem dIn_bitCount_17 : decode prog_20_method_49_code 17 = .ok (.iushr, 1) := by decide +kernel
theorem dIn_bitCount_18 : decode prog_20_method_49_code 18 = .ok (.ldc_w 266, 3) := by decide +kernel
theorem dIn_bitCount_21 : decode prog_20_method_49_code 21 = .ok (.iand, 1) := by decide +kernel
theorem dIn_bitCount_22 : decode prog_20_method_49_code 22 = .ok (.iadd, 1) := by decide +kernel
theorem dIn_bitCount_23 : decode prog_20_method_49_code 23 = .ok (.istore_n 0, 1) := by decide +kernel
theorem dIn_bitCount_24 : decode prog_20_method_49_code 24 = .ok (.iload_n 0, 1) := by decide +kernel
theorem dIn_bitCount_25 : decode prog_20_method_49_code 25 = .ok (.iload_n 0, 1) := by decide +kernel
theorem dIn_bitCount_26 : decode prog_20_method_49_code 26 = .ok (.iconst 4, 1) := by decide +kernel
theorem dIn_bitCount_27 : decode prog_20_method_49_code 27 = .ok (.iushr, 1) := by decide +kernel
theorem dIn_bitCount_28 : decode prog_20_method_49_code 28 = .ok (.iadd, 1) := by decide +kernel
theorem dIn_bitCount_29 : decode prog_20_method_49_code 29 = .ok (.ldc_w 267, 3) := by decide +kernel
theorem dIn_bitCount_32 : decode prog_20_method_49_code 32 = .ok (.iand, 1) := by decide +kernel
theorem dIn_bitCount_33 : decode prog_20_method_49_code 33 = .ok (.istore_n 0, 1) := by decide +kernel
theorem dIn_bitCount_34 : decode prog_20_method_49_code 34 = .ok (.iload_n 0, 1) := by decide +kernel
theorem dIn_bitCount_35 : decode prog_20_method_49_code 35 = .ok (.iload_n 0, 1) := by decide +kernel
theorem dIn_bitCount_36 : decode prog_20_method_49_code 36 = .ok (.bipush 8, 2) := by decide +kernel
theorem dIn_bitCount_38 : decode prog_20_method_49_code 38 = .ok (.iushr, 1) := by decide +kernel
theorem dIn_bitCount_39 : decode prog_20_method_49_code 39 = .ok (.iadd, 1) := by decide +kernel
theorem dIn_bitCount_40 : decode prog_20_method_49_code 40 = .ok (.istore_n 0, 1) := by decide +kernel
theorem dIn_bitCount_41 : decode prog_20_method_49_code 41 = .ok (.iload_n 0, 1) := by decide +kernel
theorem dIn_bitCount_42 : decode prog_20_method_49_code 42 = .ok (.iload_n 0, 1) := by decide +kernel
theorem dIn_bitCount_43 : decode prog_20_method_49_code 43 = .ok (.bipush 16, 2) := by decide +kernel
theorem dIn_bitCount_45 : decode prog_20_method_49_code 45 = .ok (.iushr, 1) := by decide +kernel
theorem dIn_bitCount_46 : decode prog_20_method_49_code 46 = .ok (.iadd, 1) := by decide +kernel
theorem dIn_bitCount_47 : decode prog_20_method_49_code 47 = .ok (.istore_n 0, 1) := by decide +kernel
theorem dIn_bitCount_48 : decode prog_20_method_49_code 48 = .ok (.iload_n 0, 1) := by decide +kernel
theorem dIn_bitCount_49 : decode prog_20_method_49_code 49 = .ok (.bipush 63, 2) := by decide +kernel
theorem dIn_bitCount_51 : decode prog_20_method_49_code 51 = .ok (.iand, 1) := by decide +kernel
theorem dIn_bitCount_52 : decode prog_20_method_49_code 52 = .ok (.ireturn, 1) := by decide +kernel
