theorem dAc_init_0 : decode prog_31_method_1_code 0 = .ok (.aload_n 0, 1) := by decide +kernel
theorem dAc_init_1 : decode prog_31_method_1_code 1 = .ok (.invokespecial 1, 3) := by decide +kernel
theorem dAc_init_4 : decode prog_31_method_1_code 4 = .ok (.return_, 1) := by decide +kernel
theorem dMa_min_0 : decode prog_23_method_69_code 0 = .ok (.iload_n 0, 1) := by decide +kernel
theorem dMa_min_1 : decode prog_23_method_69_code 1 = .ok (.iload_n 1, 1) := by decide +kernel
theorem dMa_min_2 : decode prog_23_method_69_code 2 = .ok (.if_icmp .gt 7, 3) := by decide +kernel
theorem dMa_min_5 : decode prog_23_method_69_code 5 = .ok (.iload_n 0, 1) := by decide +kernel
theorem dMa_min_6 : decode prog_23_method_69_code 6 = .ok (.goto 4, 3) := by decide +kernel
theorem dMa_min_9 : decode prog_23_method_69_code 9 = .ok (.iload_n 1, 1) := by decide +kernel
theorem dMa_min_10 : decode prog_23_method_69_code 10 = .ok (.ireturn, 1) := by decide +kernel
theorem dHi_init_0 : decode prog_5_method_1_code 0 = .ok (.aload_n 0, 1) := by decide +kernel
theorem dHi_init_1 : decode prog_5_method_1_code 1 = .ok (.invokespecial 3, 3) := by decide +kernel
theorem dHi_init_4 : decode prog_5_method_1_code 4 = .ok (.aload_n 0, 1) := by decide +kernel
theorem dHi_init_5 : decode prog_5_method_1_code 5 = .ok (.bipush 30, 2) := by decide +kernel
theorem dHi_init_7 : decode prog_5_method_1_code 7 = .ok (.newarray .int, 2) := by decide +kernel
theorem dHi_init_9 : decode prog_5_method_1_code 9 = .ok (.putfield 9, 3) := by decide +kernel
theorem dHi_init_12 : decode prog_5_method_1_code 12 = .ok (.aload_n 0, 1) := by decide +kernel
theorem dHi_init_13 : decode prog_5_method_1_code 13 = .ok (.bipush 30, 2) := by decide +kernel
theorem dHi_init_15 : decode prog_5_method_1_code 15 = .ok (.newarray .long, 2) := by decide +kernel
theorem dHi_init_17 : decode prog_5_method_1_code 17 = .ok (.putfield 15, 3) := by decide +kernel
theorem dHi_init_20 : decode prog_5_method_1_code 20 = .ok (.aload_n 0, 1) := by decide +kernel
theorem dHi_init_21 : decode prog_5_method_1_code 21 = .ok (.iconst 0, 1) := by decide +kernel
theorem dHi_init_22 : decode prog_5_method_1_code 22 = .ok (.putfield 19, 3) := by decide +kernel
theorem dHi_init_25 : decode prog_5_method_1_code 25 = .ok (.return_, 1) := by decide +kernel
theorem dRs_init_0 : decode prog_9_method_1_code 0 = .ok (.aload_n 0, 1) := by decide +kernel
theorem dRs_init_1 : decode prog_9_method_1_code 1 = .ok (.invokespecial 1, 3) := by decide +kernel
theorem dRs_init_4 : decode prog_9_method_1_code 4 = .ok (.return_, 1) := by decide +kernel
theorem dWo_joinedLetter_0 : decode prog_11_method_2_code 0 = .ok (.iload_n 0, 1) := by decide +kernel
theorem dWo_joinedLetter_1 : decode prog_11_method_2_code 1 = .ok (.bipush 112, 2) := by decide +kernel
theorem dWo_joinedLetter_3 : decode prog_11_method_2_code 3 = .ok (.if_icmp .ne 12, 3) := by decide +kernel
theorem dWo_joinedLetter_6 : decode prog_11_method_2_code 6 = .ok (.iload_n 1, 1) := by decide +kernel
theorem dWo_joinedLetter_7 : decode prog_11_method_2_code 7 = .ok (.bipush 104, 2) := by decide +kernel
theorem dWo_joinedLetter_9 : decode prog_11_method_2_code 9 = .ok (.if_icmp .ne 6, 3) := by decide +kernel
theorem dWo_joinedLetter_12 : decode prog_11_method_2_code 12 = .ok (.bipush 102, 2) := by decide +kernel
theorem dWo_joinedLetter_14 : decode prog_11_method_2_code 14 = .ok (.ireturn, 1) := by decide +kernel
theorem dWo_joinedLetter_15 : decode prog_11_method_2_code 15 = .ok (.iload_n 0, 1) := by decide +kernel
theorem dWo_joinedLetter_16 : decode prog_11_method_2_code 16 = .ok (.bipush 99, 2) := by decide +kernel
theorem dWo_joinedLetter_18 : decode prog_11_method_2_code 18 = .ok (.if_icmp .ne 9, 3) := by decide +kernel
theorem dWo_joinedLetter_21 : decode prog_11_method_2_code 21 = .ok (.iload_n 1, 1) := by decide +kernel
theorem dWo_joinedLetter_22 : decode prog_11_method_2_code 22 = .ok (.bipush 107, 2) := by decide +kernel
theorem dWo_joinedLetter_24 : decode prog_11_method_2_code 24 = .ok (.if_icmp .eq 15, 3) := by decide +kernel
theorem dWo_joinedLetter_27 : decode prog_11_method_2_code 27 = .ok (.iload_n 0, 1) := by decide +kernel
theorem dWo_joinedLetter_28 : decode prog_11_method_2_code 28 = .ok (.bipush 113, 2) := by decide +kernel
theorem dWo_joinedLetter_30 : decode prog_11_method_2_code 30 = .ok (.if_icmp .ne 12, 3) := by decide +kernel
theorem dWo_joinedLetter_33 : decode prog_11_method_2_code 33 = .ok (.iload_n 1, 1) := by decide +kernel
theorem dWo_joinedLetter_34 : decode prog_11_method_2_code 34 = .ok (.bipush 117, 2) := by decide +kernel
theorem dWo_joinedLetter_36 : decode prog_11_method_2_code 36 = .ok (.if_icmp .ne 6, 3) := by decide +kernel
theorem dWo_joinedLetter_39 : decode prog_11_method_2_code 39 = .ok (.bipush 107, 2) := by decide +kernel
theorem dWo_joinedLetter_41 : decode prog_11_method_2_code 41 = .ok (.ireturn, 1) := by decide +kernel
theorem dWo_joinedLetter_42 : decode prog_11_method_2_code 42 = .ok (.iload_n 0, 1) := by decide +kernel
theorem dWo_joinedLetter_43 : decode prog_11_method_2_code 43 = .ok (.bipush 116, 2) := by decide +kernel
theorem dWo_joinedLetter_45 : decode prog_11_method_2_code 45 = .ok (.if_icmp .ne 14, 3) := by decide +kernel
theorem dWo_joinedLetter_48 : decode prog_11_method_2_code 48 = .ok (.iload_n 1, 1) := by decide +kernel
theorem dWo_joinedLetter_49 : decode prog_11_method_2_code 49 = .ok (.bipush 104, 2) := by decide +kernel
theorem dWo_joinedLetter_51 : decode prog_11_method_2_code 51 = .ok (.if_icmp .ne 8, 3) := by decide +kernel
theorem dWo_joinedLetter_54 : decode prog_11_method_2_code 54 = .ok (.bipush 116, 2) := by decide +kernel
theorem dWo_joinedLetter_56 : decode prog_11_method_2_code 56 = .ok (.goto 4, 3) := by decide +kernel
theorem dWo_joinedLetter_59 : decode prog_11_method_2_code 59 = .ok (.iconst 0, 1) := by decide +kernel
theorem dWo_joinedLetter_60 : decode prog_11_method_2_code 60 = .ok (.ireturn, 1) := by decide +kernel
theorem dWo_init_0 : decode prog_11_method_1_code 0 = .ok (.aload_n 0, 1) := by decide +kernel
theorem dWo_init_1 : decode prog_11_method_1_code 1 = .ok (.invokespecial 3, 3) := by decide +kernel
theorem dWo_init_4 : decode prog_11_method_1_code 4 = .ok (.aload_n 0, 1) := by decide +kernel
theorem dWo_init_5 : decode prog_11_method_1_code 5 = .ok (.iload_n 2, 1) := by decide +kernel
theorem dWo_init_6 : decode prog_11_method_1_code 6 = .ok (.newarray .char, 2) := by decide +kernel
theorem dWo_init_8 : decode prog_11_method_1_code 8 = .ok (.putfield 9, 3) := by decide +kernel
theorem dWo_init_11 : decode prog_11_method_1_code 11 = .ok (.iconst 0, 1) := by decide +kernel
theorem dWo_init_12 : decode prog_11_method_1_code 12 = .ok (.istore_n 3, 1) := by decide +kernel
theorem dWo_init_13 : decode prog_11_method_1_code 13 = .ok (.iconst 0, 1) := by decide +kernel
theorem dWo_init_14 : decode prog_11_method_1_code 14 = .ok (.istore 4, 2) := by decide +kernel
theorem dWo_init_16 : decode prog_11_method_1_code 16 = .ok (.iload 4, 2) := by decide +kernel
theorem dWo_init_18 : decode prog_11_method_1_code 18 = .ok (.iload_n 2, 1) := by decide +kernel
theorem dWo_init_19 : decode prog_11_method_1_code 19 = .ok (.if_icmp .ge 116, 3) := by decide +kernel
theorem dWo_init_22 : decode prog_11_method_1_code 22 = .ok (.iload 4, 2) := by decide +kernel
theorem dWo_init_24 : decode prog_11_method_1_code 24 = .ok (.iconst 1, 1) := by decide +kernel
theorem dWo_init_25 : decode prog_11_method_1_code 25 = .ok (.iadd, 1) := by decide +kernel
theorem dWo_init_26 : decode prog_11_method_1_code 26 = .ok (.iload_n 2, 1) := by decide +kernel
theorem dWo_init_27 : decode prog_11_method_1_code 27 = .ok (.if_icmp .ge 19, 3) := by decide +kernel
theorem dWo_init_30 : decode prog_11_method_1_code 30 = .ok (.aload_n 1, 1) := by decide +kernel
theorem dWo_init_31 : decode prog_11_method_1_code 31 = .ok (.iload 4, 2) := by decide +kernel
theorem dWo_init_33 : decode prog_11_method_1_code 33 = .ok (.caload, 1) := by decide +kernel
theorem dWo_init_34 : decode prog_11_method_1_code 34 = .ok (.aload_n 1, 1) := by decide +kernel
theorem dWo_init_35 : decode prog_11_method_1_code 35 = .ok (.iload 4, 2) := by decide +kernel
theorem dWo_init_37 : decode prog_11_method_1_code 37 = .ok (.iconst 1, 1) := by decide +kernel
theorem dWo_init_38 : decode prog_11_method_1_code 38 = .ok (.iadd, 1) := by decide +kernel
theorem dWo_init_39 : decode prog_11_method_1_code 39 = .ok (.caload, 1) := by decide +kernel
theorem dWo_init_40 : decode prog_11_method_1_code 40 = .ok (.invokestatic 15, 3) := by decide +kernel
theorem dWo_init_43 : decode prog_11_method_1_code 43 = .ok (.goto 4, 3) := by decide +kernel
theorem dWo_init_46 : decode prog_11_method_1_code 46 = .ok (.iconst 0, 1) := by decide +kernel
theorem dWo_init_47 : decode prog_11_method_1_code 47 = .ok (.istore 5, 2) := by decide +kernel
theorem dWo_init_49 : decode prog_11_method_1_code 49 = .ok (.iload 5, 2) := by decide +kernel
theorem dWo_init_51 : decode prog_11_method_1_code 51 = .ok (.ifCond .ne 10, 3) := by decide +kernel
theorem dWo_init_54 : decode prog_11_method_1_code 54 = .ok (.aload_n 1, 1) := by decide +kernel
theorem dWo_init_55 : decode prog_11_method_1_code 55 = .ok (.iload 4, 2) := by decide +kernel
theorem dWo_init_57 : decode prog_11_method_1_code 57 = .ok (.caload, 1) := by decide +kernel
theorem dWo_init_58 : decode prog_11_method_1_code 58 = .ok (.goto 5, 3) := by decide +kernel
theorem dWo_init_61 : decode prog_11_method_1_code 61 = .ok (.iload 5, 2) := by decide +kernel
theorem dWo_init_63 : decode prog_11_method_1_code 63 = .ok (.istore 6, 2) := by decide +kernel
theorem dWo_init_65 : decode prog_11_method_1_code 65 = .ok (.iload 5, 2) := by decide +kernel
theorem dWo_init_67 : decode prog_11_method_1_code 67 = .ok (.ifCond .eq 9, 3) := by decide +kernel
theorem dWo_init_70 : decode prog_11_method_1_code 70 = .ok (.iinc 4 1, 3) := by decide +kernel
theorem dWo_init_73 : decode prog_11_method_1_code 73 = .ok (.goto 28, 3) := by decide +kernel
theorem dWo_init_76 : decode prog_11_method_1_code 76 = .ok (.iload 4, 2) := by decide +kernel
theorem dWo_init_78 : decode prog_11_method_1_code 78 = .ok (.iconst 1, 1) := by decide +kernel
theorem dWo_init_79 : decode prog_11_method_1_code 79 = .ok (.iadd, 1) := by decide +kernel
theorem dWo_init_80 : decode prog_11_method_1_code 80 = .ok (.iload_n 2, 1) := by decide +kernel
theorem dWo_init_81 : decode prog_11_method_1_code 81 = .ok (.if_icmp .ge 20, 3) := by decide +kernel
theorem dWo_init_84 : decode prog_11_method_1_code 84 = .ok (.aload_n 1, 1) := by decide +kernel
theorem dWo_init_85 : decode prog_11_method_1_code 85 = .ok (.iload 4, 2) := by decide +kernel
theorem dWo_init_87 : decode prog_11_method_1_code 87 = .ok (.iconst 1, 1) := by decide +kernel
theorem dWo_init_88 : decode prog_11_method_1_code 88 = .ok (.iadd, 1) := by decide +kernel
theorem dWo_init_89 : decode prog_11_method_1_code 89 = .ok (.caload, 1) := by decide +kernel
theorem dWo_init_90 : decode prog_11_method_1_code 90 = .ok (.iload 6, 2) := by decide +kernel
theorem dWo_init_92 : decode prog_11_method_1_code 92 = .ok (.if_icmp .ne 9, 3) := by decide +kernel
theorem dWo_init_95 : decode prog_11_method_1_code 95 = .ok (.iinc 4 1, 3) := by decide +kernel
theorem dWo_init_98 : decode prog_11_method_1_code 98 = .ok (.goto (-22), 3) := by decide +kernel
theorem dWo_init_101 : decode prog_11_method_1_code 101 = .ok (.iload_n 3, 1) := by decide +kernel
theorem dWo_init_102 : decode prog_11_method_1_code 102 = .ok (.ifCond .eq 16, 3) := by decide +kernel
theorem dWo_init_105 : decode prog_11_method_1_code 105 = .ok (.aload_n 0, 1) := by decide +kernel
theorem dWo_init_106 : decode prog_11_method_1_code 106 = .ok (.getfield 9, 3) := by decide +kernel
theorem dWo_init_109 : decode prog_11_method_1_code 109 = .ok (.iload_n 3, 1) := by decide +kernel
theorem dWo_init_110 : decode prog_11_method_1_code 110 = .ok (.iconst 1, 1) := by decide +kernel
theorem dWo_init_111 : decode prog_11_method_1_code 111 = .ok (.isub, 1) := by decide +kernel
theorem dWo_init_112 : decode prog_11_method_1_code 112 = .ok (.caload, 1) := by decide +kernel
theorem dWo_init_113 : decode prog_11_method_1_code 113 = .ok (.iload 6, 2) := by decide +kernel
theorem dWo_init_115 : decode prog_11_method_1_code 115 = .ok (.if_icmp .eq 14, 3) := by decide +kernel
theorem dWo_init_118 : decode prog_11_method_1_code 118 = .ok (.aload_n 0, 1) := by decide +kernel
theorem dWo_init_119 : decode prog_11_method_1_code 119 = .ok (.getfield 9, 3) := by decide +kernel
theorem dWo_init_122 : decode prog_11_method_1_code 122 = .ok (.iload_n 3, 1) := by decide +kernel
theorem dWo_init_123 : decode prog_11_method_1_code 123 = .ok (.iload 6, 2) := by decide +kernel
theorem dWo_init_125 : decode prog_11_method_1_code 125 = .ok (.castore, 1) := by decide +kernel
theorem dWo_init_126 : decode prog_11_method_1_code 126 = .ok (.iinc 3 1, 3) := by decide +kernel
theorem dWo_init_129 : decode prog_11_method_1_code 129 = .ok (.iinc 4 1, 3) := by decide +kernel
theorem dWo_init_132 : decode prog_11_method_1_code 132 = .ok (.goto (-116), 3) := by decide +kernel
theorem dWo_init_135 : decode prog_11_method_1_code 135 = .ok (.aload_n 0, 1) := by decide +kernel
theorem dWo_init_136 : decode prog_11_method_1_code 136 = .ok (.iload_n 3, 1) := by decide +kernel
theorem dWo_init_137 : decode prog_11_method_1_code 137 = .ok (.putfield 19, 3) := by decide +kernel
theorem dWo_init_140 : decode prog_11_method_1_code 140 = .ok (.return_, 1) := by decide +kernel
theorem dCn_init_0 : decode prog_2_method_1_code 0 = .ok (.aload_n 0, 1) := by decide +kernel
theorem dCn_init_1 : decode prog_2_method_1_code 1 = .ok (.invokespecial 1, 3) := by decide +kernel
theorem dCn_init_4 : decode prog_2_method_1_code 4 = .ok (.aload_n 0, 1) := by decide +kernel
theorem dCn_init_5 : decode prog_2_method_1_code 5 = .ok (.iload_n 1, 1) := by decide +kernel
theorem dCn_init_6 : decode prog_2_method_1_code 6 = .ok (.putfield 7, 3) := by decide +kernel
theorem dCn_init_9 : decode prog_2_method_1_code 9 = .ok (.aload_n 0, 1) := by decide +kernel
theorem dCn_init_10 : decode prog_2_method_1_code 10 = .ok (.iload_n 2, 1) := by decide +kernel
theorem dCn_init_11 : decode prog_2_method_1_code 11 = .ok (.putfield 13, 3) := by decide +kernel
theorem dCn_init_14 : decode prog_2_method_1_code 14 = .ok (.aload_n 0, 1) := by decide +kernel
theorem dCn_init_15 : decode prog_2_method_1_code 15 = .ok (.iload_n 3, 1) := by decide +kernel
theorem dCn_init_16 : decode prog_2_method_1_code 16 = .ok (.putfield 16, 3) := by decide +kernel
theorem dCn_init_19 : decode prog_2_method_1_code 19 = .ok (.aload_n 0, 1) := by decide +kernel
theorem dCn_init_20 : decode prog_2_method_1_code 20 = .ok (.iload 4, 2) := by decide +kernel
theorem dCn_init_22 : decode prog_2_method_1_code 22 = .ok (.putfield 19, 3) := by decide +kernel
theorem dCn_init_25 : decode prog_2_method_1_code 25 = .ok (.aload_n 0, 1) := by decide +kernel
theorem dCn_init_26 : decode prog_2_method_1_code 26 = .ok (.aload 5, 2) := by decide +kernel
theorem dCn_init_28 : decode prog_2_method_1_code 28 = .ok (.putfield 22, 3) := by decide +kernel
theorem dCn_init_31 : decode prog_2_method_1_code 31 = .ok (.return_, 1) := by decide +kernel
theorem dP_isKind_0 : decode prog_1_method_22_code 0 = .ok (.iload_n 0, 1) := by decide +kernel
theorem dP_isKind_1 : decode prog_1_method_22_code 1 = .ok (.ifCond .lt 13, 3) := by decide +kernel
theorem dP_isKind_4 : decode prog_1_method_22_code 4 = .ok (.iload_n 0, 1) := by decide +kernel
theorem dP_isKind_5 : decode prog_1_method_22_code 5 = .ok (.bipush 7, 2) := by decide +kernel
theorem dP_isKind_7 : decode prog_1_method_22_code 7 = .ok (.if_icmp .gt 7, 3) := by decide +kernel
theorem dP_isKind_10 : decode prog_1_method_22_code 10 = .ok (.iconst 1, 1) := by decide +kernel
theorem dP_isKind_11 : decode prog_1_method_22_code 11 = .ok (.goto 4, 3) := by decide +kernel
theorem dP_isKind_14 : decode prog_1_method_22_code 14 = .ok (.iconst 0, 1) := by decide +kernel
theorem dP_isKind_15 : decode prog_1_method_22_code 15 = .ok (.ireturn, 1) := by decide +kernel
theorem dAl_size_0 : decode prog_33_method_8_code 0 = .ok (.aload_n 0, 1) := by decide +kernel
theorem dAl_size_1 : decode prog_33_method_8_code 1 = .ok (.getfield 48, 3) := by decide +kernel
theorem dAl_size_4 : decode prog_33_method_8_code 4 = .ok (.ireturn, 1) := by decide +kernel
theorem dMa_max_0 : decode prog_23_method_65_code 0 = .ok (.iload_n 0, 1) := by decide +kernel
theorem dMa_max_1 : decode prog_23_method_65_code 1 = .ok (.iload_n 1, 1) := by decide +kernel
theorem dMa_max_2 : decode prog_23_method_65_code 2 = .ok (.if_icmp .lt 7, 3) := by decide +kernel
theorem dMa_max_5 : decode prog_23_method_65_code 5 = .ok (.iload_n 0, 1) := by decide +kernel
theorem dMa_max_6 : decode prog_23_method_65_code 6 = .ok (.goto 4, 3) := by decide +kernel
theorem dMa_max_9 : decode prog_23_method_65_code 9 = .ok (.iload_n 1, 1) := by decide +kernel
theorem dMa_max_10 : decode prog_23_method_65_code 10 = .ok (.ireturn, 1) := by decide +kernel
theorem dSu_newLength_0 : decode prog_41_method_27_code 0 = .ok (.iload_n 0, 1) := by decide +kernel
theorem dSu_newLength_1 : decode prog_41_method_27_code 1 = .ok (.iload_n 1, 1) := by decide +kernel
theorem dSu_newLength_2 : decode prog_41_method_27_code 2 = .ok (.iload_n 2, 1) := by decide +kernel
theorem dSu_newLength_3 : decode prog_41_method_27_code 3 = .ok (.invokestatic 194, 3) := by decide +kernel
theorem dSu_newLength_6 : decode prog_41_method_27_code 6 = .ok (.iadd, 1) := by decide +kernel
theorem dSu_newLength_7 : decode prog_41_method_27_code 7 = .ok (.istore_n 3, 1) := by decide +kernel
theorem dSu_newLength_8 : decode prog_41_method_27_code 8 = .ok (.iconst 0, 1) := by decide +kernel
theorem dSu_newLength_9 : decode prog_41_method_27_code 9 = .ok (.iload_n 3, 1) := by decide +kernel
theorem dSu_newLength_10 : decode prog_41_method_27_code 10 = .ok (.if_icmp .ge 11, 3) := by decide +kernel
theorem dSu_newLength_13 : decode prog_41_method_27_code 13 = .ok (.iload_n 3, 1) := by decide +kernel
theorem dSu_newLength_14 : decode prog_41_method_27_code 14 = .ok (.ldc 200, 2) := by decide +kernel
theorem dSu_newLength_16 : decode prog_41_method_27_code 16 = .ok (.if_icmp .gt 5, 3) := by decide +kernel
theorem dSu_newLength_19 : decode prog_41_method_27_code 19 = .ok (.iload_n 3, 1) := by decide +kernel
theorem dSu_newLength_20 : decode prog_41_method_27_code 20 = .ok (.ireturn, 1) := by decide +kernel
theorem dP_arePosition_0 : decode prog_1_method_25_code 0 = .ok (.iload_n 0, 1) := by decide +kernel
theorem dP_arePosition_1 : decode prog_1_method_25_code 1 = .ok (.ifCond .lt 25, 3) := by decide +kernel
theorem dP_arePosition_4 : decode prog_1_method_25_code 4 = .ok (.iload_n 0, 1) := by decide +kernel
theorem dP_arePosition_5 : decode prog_1_method_25_code 5 = .ok (.sipush 4095, 3) := by decide +kernel
theorem dP_arePosition_8 : decode prog_1_method_25_code 8 = .ok (.if_icmp .gt 18, 3) := by decide +kernel
theorem dP_arePosition_11 : decode prog_1_method_25_code 11 = .ok (.iload_n 1, 1) := by decide +kernel
theorem dP_arePosition_12 : decode prog_1_method_25_code 12 = .ok (.ifCond .lt 14, 3) := by decide +kernel
theorem dP_arePosition_15 : decode prog_1_method_25_code 15 = .ok (.iload_n 1, 1) := by decide +kernel
theorem dP_arePosition_16 : decode prog_1_method_25_code 16 = .ok (.sipush 4095, 3) := by decide +kernel
theorem dP_arePosition_19 : decode prog_1_method_25_code 19 = .ok (.if_icmp .gt 7, 3) := by decide +kernel
theorem dP_arePosition_22 : decode prog_1_method_25_code 22 = .ok (.iconst 1, 1) := by decide +kernel
theorem dP_arePosition_23 : decode prog_1_method_25_code 23 = .ok (.goto 4, 3) := by decide +kernel
theorem dP_arePosition_26 : decode prog_1_method_25_code 26 = .ok (.iconst 0, 1) := by decide +kernel
theorem dP_arePosition_27 : decode prog_1_method_25_code 27 = .ok (.ireturn, 1) := by decide +kernel
theorem dPr_checkIndex_0 : decode prog_42_method_11_code 0 = .ok (.iload_n 0, 1) := by decide +kernel
theorem dPr_checkIndex_1 : decode prog_42_method_11_code 1 = .ok (.ifCond .lt 8, 3) := by decide +kernel
theorem dPr_checkIndex_4 : decode prog_42_method_11_code 4 = .ok (.iload_n 0, 1) := by decide +kernel
theorem dPr_checkIndex_5 : decode prog_42_method_11_code 5 = .ok (.iload_n 1, 1) := by decide +kernel
theorem dPr_checkIndex_6 : decode prog_42_method_11_code 6 = .ok (.if_icmp .lt 10, 3) := by decide +kernel
theorem dPr_checkIndex_16 : decode prog_42_method_11_code 16 = .ok (.iload_n 0, 1) := by decide +kernel
theorem dPr_checkIndex_17 : decode prog_42_method_11_code 17 = .ok (.ireturn, 1) := by decide +kernel
theorem dOb_checkIndex_0 : decode prog_38_method_17_code 0 = .ok (.iload_n 0, 1) := by decide +kernel
theorem dOb_checkIndex_1 : decode prog_38_method_17_code 1 = .ok (.iload_n 1, 1) := by decide +kernel
theorem dOb_checkIndex_2 : decode prog_38_method_17_code 2 = .ok (.aconst_null, 1) := by decide +kernel
theorem dOb_checkIndex_3 : decode prog_38_method_17_code 3 = .ok (.invokestatic 105, 3) := by decide +kernel
theorem dOb_checkIndex_6 : decode prog_38_method_17_code 6 = .ok (.ireturn, 1) := by decide +kernel
theorem dAl_elementData_0 : decode prog_33_method_18_code 0 = .ok (.aload_n 0, 1) := by decide +kernel
theorem dAl_elementData_1 : decode prog_33_method_18_code 1 = .ok (.getfield 9, 3) := by decide +kernel
theorem dAl_elementData_4 : decode prog_33_method_18_code 4 = .ok (.iload_n 1, 1) := by decide +kernel
theorem dAl_elementData_5 : decode prog_33_method_18_code 5 = .ok (.aaload, 1) := by decide +kernel
theorem dAl_elementData_6 : decode prog_33_method_18_code 6 = .ok (.areturn, 1) := by decide +kernel
theorem dAl_get_0 : decode prog_33_method_20_code 0 = .ok (.iload_n 1, 1) := by decide +kernel
theorem dAl_get_1 : decode prog_33_method_20_code 1 = .ok (.aload_n 0, 1) := by decide +kernel
theorem dAl_get_2 : decode prog_33_method_20_code 2 = .ok (.getfield 48, 3) := by decide +kernel
theorem dAl_get_5 : decode prog_33_method_20_code 5 = .ok (.invokestatic 118, 3) := by decide +kernel
theorem dAl_get_8 : decode prog_33_method_20_code 8 = .ok (.pop, 1) := by decide +kernel
theorem dAl_get_9 : decode prog_33_method_20_code 9 = .ok (.aload_n 0, 1) := by decide +kernel
theorem dAl_get_10 : decode prog_33_method_20_code 10 = .ok (.iload_n 1, 1) := by decide +kernel
theorem dAl_get_11 : decode prog_33_method_20_code 11 = .ok (.invokevirtual 123, 3) := by decide +kernel
theorem dAl_get_14 : decode prog_33_method_20_code 14 = .ok (.areturn, 1) := by decide +kernel
theorem dP_placeOf_0 : decode prog_1_method_28_code 0 = .ok (.iload_n 1, 1) := by decide +kernel
theorem dP_placeOf_1 : decode prog_1_method_28_code 1 = .ok (.ifCond .lt 28, 3) := by decide +kernel
theorem dP_placeOf_4 : decode prog_1_method_28_code 4 = .ok (.iload_n 1, 1) := by decide +kernel
theorem dP_placeOf_5 : decode prog_1_method_28_code 5 = .ok (.aload_n 0, 1) := by decide +kernel
theorem dP_placeOf_6 : decode prog_1_method_28_code 6 = .ok (.getfield 10, 3) := by decide +kernel
theorem dP_placeOf_9 : decode prog_1_method_28_code 9 = .ok (.invokevirtual 98, 3) := by decide +kernel
theorem dP_placeOf_12 : decode prog_1_method_28_code 12 = .ok (.if_icmp .ge 17, 3) := by decide +kernel
theorem dP_placeOf_15 : decode prog_1_method_28_code 15 = .ok (.aload_n 0, 1) := by decide +kernel
theorem dP_placeOf_16 : decode prog_1_method_28_code 16 = .ok (.getfield 10, 3) := by decide +kernel
theorem dP_placeOf_19 : decode prog_1_method_28_code 19 = .ok (.iload_n 1, 1) := by decide +kernel
theorem dP_placeOf_20 : decode prog_1_method_28_code 20 = .ok (.invokevirtual 223, 3) := by decide +kernel
theorem dP_placeOf_23 : decode prog_1_method_28_code 23 = .ok (.checkcast 107, 3) := by decide +kernel
theorem dP_placeOf_26 : decode prog_1_method_28_code 26 = .ok (.goto 4, 3) := by decide +kernel
theorem dP_placeOf_29 : decode prog_1_method_28_code 29 = .ok (.aconst_null, 1) := by decide +kernel
theorem dP_placeOf_30 : decode prog_1_method_28_code 30 = .ok (.areturn, 1) := by decide +kernel
theorem dP_isDay_0 : decode prog_1_method_23_code 0 = .ok (.iload_n 0, 1) := by decide +kernel
theorem dP_isDay_1 : decode prog_1_method_23_code 1 = .ok (.ifCond .lt 14, 3) := by decide +kernel
theorem dP_isDay_4 : decode prog_1_method_23_code 4 = .ok (.iload_n 0, 1) := by decide +kernel
theorem dP_isDay_5 : decode prog_1_method_23_code 5 = .ok (.sipush 9999, 3) := by decide +kernel
theorem dP_isDay_8 : decode prog_1_method_23_code 8 = .ok (.if_icmp .gt 7, 3) := by decide +kernel
theorem dP_isDay_11 : decode prog_1_method_23_code 11 = .ok (.iconst 1, 1) := by decide +kernel
theorem dP_isDay_12 : decode prog_1_method_23_code 12 = .ok (.goto 4, 3) := by decide +kernel
theorem dP_isDay_15 : decode prog_1_method_23_code 15 = .ok (.iconst 0, 1) := by decide +kernel
theorem dP_isDay_16 : decode prog_1_method_23_code 16 = .ok (.ireturn, 1) := by decide +kernel
theorem dCo_isPoint_0 : decode prog_3_method_2_code 0 = .ok (.aload_n 0, 1) := by decide +kernel
theorem dCo_isPoint_1 : decode prog_3_method_2_code 1 = .ok (.getfield 9, 3) := by decide +kernel
theorem dCo_isPoint_4 : decode prog_3_method_2_code 4 = .ok (.iconst 1, 1) := by decide +kernel
theorem dCo_isPoint_5 : decode prog_3_method_2_code 5 = .ok (.if_icmp .ne 7, 3) := by decide +kernel
theorem dCo_isPoint_8 : decode prog_3_method_2_code 8 = .ok (.iconst 1, 1) := by decide +kernel
theorem dCo_isPoint_9 : decode prog_3_method_2_code 9 = .ok (.goto 4, 3) := by decide +kernel
theorem dCo_isPoint_12 : decode prog_3_method_2_code 12 = .ok (.iconst 0, 1) := by decide +kernel
theorem dCo_isPoint_13 : decode prog_3_method_2_code 13 = .ok (.ireturn, 1) := by decide +kernel
theorem dCo_following_0 : decode prog_3_method_4_code 0 = .ok (.iload_n 1, 1) := by decide +kernel
theorem dCo_following_1 : decode prog_3_method_4_code 1 = .ok (.iconst 1, 1) := by decide +kernel
theorem dCo_following_2 : decode prog_3_method_4_code 2 = .ok (.iadd, 1) := by decide +kernel
theorem dCo_following_3 : decode prog_3_method_4_code 3 = .ok (.aload_n 0, 1) := by decide +kernel
theorem dCo_following_4 : decode prog_3_method_4_code 4 = .ok (.getfield 9, 3) := by decide +kernel
theorem dCo_following_7 : decode prog_3_method_4_code 7 = .ok (.if_icmp .ge 9, 3) := by decide +kernel
theorem dCo_following_10 : decode prog_3_method_4_code 10 = .ok (.iload_n 1, 1) := by decide +kernel
theorem dCo_following_11 : decode prog_3_method_4_code 11 = .ok (.iconst 1, 1) := by decide +kernel
theorem dCo_following_12 : decode prog_3_method_4_code 12 = .ok (.iadd, 1) := by decide +kernel
theorem dCo_following_13 : decode prog_3_method_4_code 13 = .ok (.goto 4, 3) := by decide +kernel
theorem dCo_following_16 : decode prog_3_method_4_code 16 = .ok (.iconst 0, 1) := by decide +kernel
theorem dCo_following_17 : decode prog_3_method_4_code 17 = .ok (.ireturn, 1) := by decide +kernel
theorem dCo_doubledSurface_0 : decode prog_3_method_5_code 0 = .ok (.iconst 0, 1) := by decide +kernel
theorem dCo_doubledSurface_1 : decode prog_3_method_5_code 1 = .ok (.istore_n 1, 1) := by decide +kernel
theorem dCo_doubledSurface_2 : decode prog_3_method_5_code 2 = .ok (.iconst 0, 1) := by decide +kernel
theorem dCo_doubledSurface_3 : decode prog_3_method_5_code 3 = .ok (.istore_n 2, 1) := by decide +kernel
theorem dCo_doubledSurface_4 : decode prog_3_method_5_code 4 = .ok (.iload_n 2, 1) := by decide +kernel
theorem dCo_doubledSurface_5 : decode prog_3_method_5_code 5 = .ok (.aload_n 0, 1) := by decide +kernel
theorem dCo_doubledSurface_6 : decode prog_3_method_5_code 6 = .ok (.getfield 9, 3) := by decide +kernel
theorem dCo_doubledSurface_9 : decode prog_3_method_5_code 9 = .ok (.if_icmp .ge 45, 3) := by decide +kernel
theorem dCo_doubledSurface_12 : decode prog_3_method_5_code 12 = .ok (.aload_n 0, 1) := by decide +kernel
theorem dCo_doubledSurface_13 : decode prog_3_method_5_code 13 = .ok (.iload_n 2, 1) := by decide +kernel
theorem dCo_doubledSurface_14 : decode prog_3_method_5_code 14 = .ok (.invokevirtual 32, 3) := by decide +kernel
theorem dCo_doubledSurface_17 : decode prog_3_method_5_code 17 = .ok (.istore_n 3, 1) := by decide +kernel
theorem dCo_doubledSurface_18 : decode prog_3_method_5_code 18 = .ok (.iload_n 1, 1) := by decide +kernel
theorem dCo_doubledSurface_19 : decode prog_3_method_5_code 19 = .ok (.aload_n 0, 1) := by decide +kernel
theorem dCo_doubledSurface_20 : decode prog_3_method_5_code 20 = .ok (.getfield 21, 3) := by decide +kernel
theorem dCo_doubledSurface_23 : decode prog_3_method_5_code 23 = .ok (.iload_n 2, 1) := by decide +kernel
theorem dCo_doubledSurface_24 : decode prog_3_method_5_code 24 = .ok (.iaload, 1) := by decide +kernel
theorem dCo_doubledSurface_25 : decode prog_3_method_5_code 25 = .ok (.aload_n 0, 1) := by decide +kernel
theorem dCo_doubledSurface_26 : decode prog_3_method_5_code 26 = .ok (.getfield 25, 3) := by decide +kernel
theorem dCo_doubledSurface_29 : decode prog_3_method_5_code 29 = .ok (.iload_n 3, 1) := by decide +kernel
theorem dCo_doubledSurface_30 : decode prog_3_method_5_code 30 = .ok (.iaload, 1) := by decide +kernel
theorem dCo_doubledSurface_31 : decode prog_3_method_5_code 31 = .ok (.imul, 1) := by decide +kernel
theorem dCo_doubledSurface_32 : decode prog_3_method_5_code 32 = .ok (.aload_n 0, 1) := by decide +kernel
theorem dCo_doubledSurface_33 : decode prog_3_method_5_code 33 = .ok (.getfield 21, 3) := by decide +kernel
theorem dCo_doubledSurface_36 : decode prog_3_method_5_code 36 = .ok (.iload_n 3, 1) := by decide +kernel
theorem dCo_doubledSurface_37 : decode prog_3_method_5_code 37 = .ok (.iaload, 1) := by decide +kernel
theorem dCo_doubledSurface_38 : decode prog_3_method_5_code 38 = .ok (.aload_n 0, 1) := by decide +kernel
theorem dCo_doubledSurface_39 : decode prog_3_method_5_code 39 = .ok (.getfield 25, 3) := by decide +kernel
theorem dCo_doubledSurface_42 : decode prog_3_method_5_code 42 = .ok (.iload_n 2, 1) := by decide +kernel
theorem dCo_doubledSurface_43 : decode prog_3_method_5_code 43 = .ok (.iaload, 1) := by decide +kernel
theorem dCo_doubledSurface_44 : decode prog_3_method_5_code 44 = .ok (.imul, 1) := by decide +kernel
theorem dCo_doubledSurface_45 : decode prog_3_method_5_code 45 = .ok (.isub, 1) := by decide +kernel
theorem dCo_doubledSurface_46 : decode prog_3_method_5_code 46 = .ok (.iadd, 1) := by decide +kernel
theorem dCo_doubledSurface_47 : decode prog_3_method_5_code 47 = .ok (.istore_n 1, 1) := by decide +kernel
theorem dCo_doubledSurface_48 : decode prog_3_method_5_code 48 = .ok (.iinc 2 1, 3) := by decide +kernel
theorem dCo_doubledSurface_51 : decode prog_3_method_5_code 51 = .ok (.goto (-47), 3) := by decide +kernel
theorem dCo_doubledSurface_54 : decode prog_3_method_5_code 54 = .ok (.iload_n 1, 1) := by decide +kernel
theorem dCo_doubledSurface_55 : decode prog_3_method_5_code 55 = .ok (.ireturn, 1) := by decide +kernel
theorem dCo_isArea_0 : decode prog_3_method_3_code 0 = .ok (.aload_n 0, 1) := by decide +kernel
theorem dCo_isArea_1 : decode prog_3_method_3_code 1 = .ok (.getfield 9, 3) := by decide +kernel
theorem dCo_isArea_4 : decode prog_3_method_3_code 4 = .ok (.iconst 3, 1) := by decide +kernel
theorem dCo_isArea_5 : decode prog_3_method_3_code 5 = .ok (.if_icmp .lt 14, 3) := by decide +kernel
theorem dCo_isArea_8 : decode prog_3_method_3_code 8 = .ok (.aload_n 0, 1) := by decide +kernel
theorem dCo_isArea_9 : decode prog_3_method_3_code 9 = .ok (.invokevirtual 28, 3) := by decide +kernel
theorem dCo_isArea_12 : decode prog_3_method_3_code 12 = .ok (.ifCond .eq 7, 3) := by decide +kernel
theorem dCo_isArea_15 : decode prog_3_method_3_code 15 = .ok (.iconst 1, 1) := by decide +kernel
theorem dCo_isArea_16 : decode prog_3_method_3_code 16 = .ok (.goto 4, 3) := by decide +kernel
theorem dCo_isArea_19 : decode prog_3_method_3_code 19 = .ok (.iconst 0, 1) := by decide +kernel
theorem dCo_isArea_20 : decode prog_3_method_3_code 20 = .ok (.ireturn, 1) := by decide +kernel
theorem dPl_takesShapeFrom_0 : decode prog_8_method_2_code 0 = .ok (.aload_n 0, 1) := by decide +kernel
theorem dPl_takesShapeFrom_1 : decode prog_8_method_2_code 1 = .ok (.getfield 18, 3) := by decide +kernel
theorem dPl_takesShapeFrom_4 : decode prog_8_method_2_code 4 = .ok (.invokevirtual 38, 3) := by decide +kernel
theorem dPl_takesShapeFrom_7 : decode prog_8_method_2_code 7 = .ok (.istore_n 2, 1) := by decide +kernel
theorem dPl_takesShapeFrom_8 : decode prog_8_method_2_code 8 = .ok (.iload_n 2, 1) := by decide +kernel
theorem dPl_takesShapeFrom_9 : decode prog_8_method_2_code 9 = .ok (.iconst 3, 1) := by decide +kernel
theorem dPl_takesShapeFrom_10 : decode prog_8_method_2_code 10 = .ok (.if_icmp .ge 23, 3) := by decide +kernel
theorem dPl_takesShapeFrom_13 : decode prog_8_method_2_code 13 = .ok (.iload_n 2, 1) := by decide +kernel
theorem dPl_takesShapeFrom_14 : decode prog_8_method_2_code 14 = .ok (.ifCond .eq 15, 3) := by decide +kernel
theorem dPl_takesShapeFrom_17 : decode prog_8_method_2_code 17 = .ok (.aload_n 0, 1) := by decide +kernel
theorem dPl_takesShapeFrom_18 : decode prog_8_method_2_code 18 = .ok (.getfield 22, 3) := by decide +kernel
theorem dPl_takesShapeFrom_21 : decode prog_8_method_2_code 21 = .ok (.iload_n 2, 1) := by decide +kernel
theorem dPl_takesShapeFrom_22 : decode prog_8_method_2_code 22 = .ok (.iconst 1, 1) := by decide +kernel
theorem dPl_takesShapeFrom_23 : decode prog_8_method_2_code 23 = .ok (.isub, 1) := by decide +kernel
theorem dPl_takesShapeFrom_24 : decode prog_8_method_2_code 24 = .ok (.iaload, 1) := by decide +kernel
theorem dPl_takesShapeFrom_25 : decode prog_8_method_2_code 25 = .ok (.iload_n 1, 1) := by decide +kernel
theorem dPl_takesShapeFrom_26 : decode prog_8_method_2_code 26 = .ok (.if_icmp .ge 7, 3) := by decide +kernel
theorem dPl_takesShapeFrom_29 : decode prog_8_method_2_code 29 = .ok (.iconst 1, 1) := by decide +kernel
theorem dPl_takesShapeFrom_30 : decode prog_8_method_2_code 30 = .ok (.goto 4, 3) := by decide +kernel
theorem dPl_takesShapeFrom_33 : decode prog_8_method_2_code 33 = .ok (.iconst 0, 1) := by decide +kernel
theorem dPl_takesShapeFrom_34 : decode prog_8_method_2_code 34 = .ok (.ireturn, 1) := by decide +kernel
theorem dP_letter_0 : decode prog_1_method_6_code 0 = .ok (.iload_n 1, 1) := by decide +kernel
theorem dP_letter_1 : decode prog_1_method_6_code 1 = .ok (.bipush 97, 2) := by decide +kernel
theorem dP_letter_3 : decode prog_1_method_6_code 3 = .ok (.if_icmp .lt 18, 3) := by decide +kernel
theorem dP_letter_6 : decode prog_1_method_6_code 6 = .ok (.iload_n 1, 1) := by decide +kernel
theorem dP_letter_7 : decode prog_1_method_6_code 7 = .ok (.bipush 122, 2) := by decide +kernel
theorem dP_letter_9 : decode prog_1_method_6_code 9 = .ok (.if_icmp .gt 12, 3) := by decide +kernel
theorem dP_letter_12 : decode prog_1_method_6_code 12 = .ok (.aload_n 0, 1) := by decide +kernel
theorem dP_letter_13 : decode prog_1_method_6_code 13 = .ok (.getfield 40, 3) := by decide +kernel
theorem dP_letter_16 : decode prog_1_method_6_code 16 = .ok (.bipush 10, 2) := by decide +kernel
theorem dP_letter_18 : decode prog_1_method_6_code 18 = .ok (.if_icmp .lt 5, 3) := by decide +kernel
theorem dP_letter_21 : decode prog_1_method_6_code 21 = .ok (.iconst 0, 1) := by decide +kernel
theorem dP_letter_22 : decode prog_1_method_6_code 22 = .ok (.ireturn, 1) := by decide +kernel
theorem dP_letter_23 : decode prog_1_method_6_code 23 = .ok (.aload_n 0, 1) := by decide +kernel
theorem dP_letter_24 : decode prog_1_method_6_code 24 = .ok (.getfield 36, 3) := by decide +kernel
theorem dP_letter_27 : decode prog_1_method_6_code 27 = .ok (.aload_n 0, 1) := by decide +kernel
theorem dP_letter_28 : decode prog_1_method_6_code 28 = .ok (.getfield 40, 3) := by decide +kernel
theorem dP_letter_31 : decode prog_1_method_6_code 31 = .ok (.iload_n 1, 1) := by decide +kernel
theorem dP_letter_32 : decode prog_1_method_6_code 32 = .ok (.i2c, 1) := by decide +kernel
theorem dP_letter_33 : decode prog_1_method_6_code 33 = .ok (.castore, 1) := by decide +kernel
theorem dP_letter_34 : decode prog_1_method_6_code 34 = .ok (.aload_n 0, 1) := by decide +kernel
theorem dP_letter_35 : decode prog_1_method_6_code 35 = .ok (.dup, 1) := by decide +kernel
theorem dP_letter_36 : decode prog_1_method_6_code 36 = .ok (.getfield 40, 3) := by decide +kernel
theorem dP_letter_39 : decode prog_1_method_6_code 39 = .ok (.iconst 1, 1) := by decide +kernel
theorem dP_letter_40 : decode prog_1_method_6_code 40 = .ok (.iadd, 1) := by decide +kernel
theorem dP_letter_41 : decode prog_1_method_6_code 41 = .ok (.putfield 40, 3) := by decide +kernel
theorem dP_letter_44 : decode prog_1_method_6_code 44 = .ok (.iconst 1, 1) := by decide +kernel
theorem dP_letter_45 : decode prog_1_method_6_code 45 = .ok (.ireturn, 1) := by decide +kernel
theorem dP_areSpan_0 : decode prog_1_method_24_code 0 = .ok (.iload_n 0, 1) := by decide +kernel
theorem dP_areSpan_1 : decode prog_1_method_24_code 1 = .ok (.invokestatic 128, 3) := by decide +kernel
theorem dP_areSpan_4 : decode prog_1_method_24_code 4 = .ok (.ifCond .eq 19, 3) := by decide +kernel
theorem dP_areSpan_7 : decode prog_1_method_24_code 7 = .ok (.iload_n 1, 1) := by decide +kernel
theorem dP_areSpan_8 : decode prog_1_method_24_code 8 = .ok (.invokestatic 128, 3) := by decide +kernel
theorem dP_areSpan_11 : decode prog_1_method_24_code 11 = .ok (.ifCond .eq 12, 3) := by decide +kernel
theorem dP_areSpan_14 : decode prog_1_method_24_code 14 = .ok (.iload_n 0, 1) := by decide +kernel
theorem dP_areSpan_15 : decode prog_1_method_24_code 15 = .ok (.iload_n 1, 1) := by decide +kernel
theorem dP_areSpan_16 : decode prog_1_method_24_code 16 = .ok (.if_icmp .gt 7, 3) := by decide +kernel
theorem dP_areSpan_19 : decode prog_1_method_24_code 19 = .ok (.iconst 1, 1) := by decide +kernel
theorem dP_areSpan_20 : decode prog_1_method_24_code 20 = .ok (.goto 4, 3) := by decide +kernel
theorem dP_areSpan_23 : decode prog_1_method_24_code 23 = .ok (.iconst 0, 1) := by decide +kernel
theorem dP_areSpan_24 : decode prog_1_method_24_code 24 = .ok (.ireturn, 1) := by decide +kernel
theorem dNa_init_0 : decode prog_7_method_1_code 0 = .ok (.aload_n 0, 1) := by decide +kernel
theorem dNa_init_1 : decode prog_7_method_1_code 1 = .ok (.invokespecial 1, 3) := by decide +kernel
theorem dNa_init_4 : decode prog_7_method_1_code 4 = .ok (.aload_n 0, 1) := by decide +kernel
theorem dNa_init_5 : decode prog_7_method_1_code 5 = .ok (.aload_n 1, 1) := by decide +kernel
theorem dNa_init_6 : decode prog_7_method_1_code 6 = .ok (.putfield 7, 3) := by decide +kernel
theorem dNa_init_9 : decode prog_7_method_1_code 9 = .ok (.aload_n 0, 1) := by decide +kernel
theorem dNa_init_10 : decode prog_7_method_1_code 10 = .ok (.iload_n 2, 1) := by decide +kernel
theorem dNa_init_11 : decode prog_7_method_1_code 11 = .ok (.putfield 13, 3) := by decide +kernel
theorem dNa_init_14 : decode prog_7_method_1_code 14 = .ok (.aload_n 0, 1) := by decide +kernel
theorem dNa_init_15 : decode prog_7_method_1_code 15 = .ok (.iload_n 3, 1) := by decide +kernel
theorem dNa_init_16 : decode prog_7_method_1_code 16 = .ok (.putfield 17, 3) := by decide +kernel
theorem dNa_init_19 : decode prog_7_method_1_code 19 = .ok (.return_, 1) := by decide +kernel
theorem dLi_isWithin_0 : decode prog_6_method_2_code 0 = .ok (.aload_n 0, 1) := by decide +kernel
theorem dLi_isWithin_1 : decode prog_6_method_2_code 1 = .ok (.getfield 13, 3) := by decide +kernel
theorem dLi_isWithin_4 : decode prog_6_method_2_code 4 = .ok (.iload_n 2, 1) := by decide +kernel
theorem dLi_isWithin_5 : decode prog_6_method_2_code 5 = .ok (.if_icmp .gt 15, 3) := by decide +kernel
theorem dLi_isWithin_8 : decode prog_6_method_2_code 8 = .ok (.iload_n 1, 1) := by decide +kernel
theorem dLi_isWithin_9 : decode prog_6_method_2_code 9 = .ok (.aload_n 0, 1) := by decide +kernel
theorem dLi_isWithin_10 : decode prog_6_method_2_code 10 = .ok (.getfield 17, 3) := by decide +kernel
theorem dLi_isWithin_13 : decode prog_6_method_2_code 13 = .ok (.if_icmp .gt 7, 3) := by decide +kernel
theorem dLi_isWithin_16 : decode prog_6_method_2_code 16 = .ok (.iconst 1, 1) := by decide +kernel
theorem dLi_isWithin_17 : decode prog_6_method_2_code 17 = .ok (.goto 4, 3) := by decide +kernel
theorem dLi_isWithin_20 : decode prog_6_method_2_code 20 = .ok (.iconst 0, 1) := by decide +kernel
theorem dLi_isWithin_21 : decode prog_6_method_2_code 21 = .ok (.ireturn, 1) := by decide +kernel
theorem dPl_isLinkedWithin_0 : decode prog_8_method_8_code 0 = .ok (.iconst 0, 1) := by decide +kernel
theorem dPl_isLinkedWithin_1 : decode prog_8_method_8_code 1 = .ok (.istore_n 3, 1) := by decide +kernel
theorem dPl_isLinkedWithin_2 : decode prog_8_method_8_code 2 = .ok (.iload_n 3, 1) := by decide +kernel
theorem dPl_isLinkedWithin_3 : decode prog_8_method_8_code 3 = .ok (.aload_n 0, 1) := by decide +kernel
theorem dPl_isLinkedWithin_4 : decode prog_8_method_8_code 4 = .ok (.getfield 29, 3) := by decide +kernel
theorem dPl_isLinkedWithin_7 : decode prog_8_method_8_code 7 = .ok (.invokevirtual 38, 3) := by decide +kernel
theorem dPl_isLinkedWithin_10 : decode prog_8_method_8_code 10 = .ok (.if_icmp .ge 30, 3) := by decide +kernel
theorem dPl_isLinkedWithin_13 : decode prog_8_method_8_code 13 = .ok (.aload_n 0, 1) := by decide +kernel
theorem dPl_isLinkedWithin_14 : decode prog_8_method_8_code 14 = .ok (.getfield 29, 3) := by decide +kernel
theorem dPl_isLinkedWithin_17 : decode prog_8_method_8_code 17 = .ok (.iload_n 3, 1) := by decide +kernel
theorem dPl_isLinkedWithin_18 : decode prog_8_method_8_code 18 = .ok (.invokevirtual 46, 3) := by decide +kernel
theorem dPl_isLinkedWithin_21 : decode prog_8_method_8_code 21 = .ok (.checkcast 65, 3) := by decide +kernel
theorem dPl_isLinkedWithin_24 : decode prog_8_method_8_code 24 = .ok (.iload_n 1, 1) := by decide +kernel
theorem dPl_isLinkedWithin_25 : decode prog_8_method_8_code 25 = .ok (.iload_n 2, 1) := by decide +kernel
theorem dPl_isLinkedWithin_26 : decode prog_8_method_8_code 26 = .ok (.invokevirtual 67, 3) := by decide +kernel
theorem dPl_isLinkedWithin_29 : decode prog_8_method_8_code 29 = .ok (.ifCond .eq 5, 3) := by decide +kernel
theorem dPl_isLinkedWithin_32 : decode prog_8_method_8_code 32 = .ok (.iconst 1, 1) := by decide +kernel
theorem dPl_isLinkedWithin_33 : decode prog_8_method_8_code 33 = .ok (.ireturn, 1) := by decide +kernel
theorem dPl_isLinkedWithin_34 : decode prog_8_method_8_code 34 = .ok (.iinc 3 1, 3) := by decide +kernel
theorem dPl_isLinkedWithin_37 : decode prog_8_method_8_code 37 = .ok (.goto (-35), 3) := by decide +kernel
theorem dPl_isLinkedWithin_40 : decode prog_8_method_8_code 40 = .ok (.iconst 0, 1) := by decide +kernel
theorem dPl_isLinkedWithin_41 : decode prog_8_method_8_code 41 = .ok (.ireturn, 1) := by decide +kernel
theorem dLi_init_0 : decode prog_6_method_1_code 0 = .ok (.aload_n 0, 1) := by decide +kernel
theorem dLi_init_1 : decode prog_6_method_1_code 1 = .ok (.invokespecial 1, 3) := by decide +kernel
theorem dLi_init_4 : decode prog_6_method_1_code 4 = .ok (.aload_n 0, 1) := by decide +kernel
theorem dLi_init_5 : decode prog_6_method_1_code 5 = .ok (.aload_n 1, 1) := by decide +kernel
theorem dLi_init_6 : decode prog_6_method_1_code 6 = .ok (.putfield 7, 3) := by decide +kernel
theorem dLi_init_9 : decode prog_6_method_1_code 9 = .ok (.aload_n 0, 1) := by decide +kernel
theorem dLi_init_10 : decode prog_6_method_1_code 10 = .ok (.iload_n 2, 1) := by decide +kernel
theorem dLi_init_11 : decode prog_6_method_1_code 11 = .ok (.putfield 13, 3) := by decide +kernel
theorem dLi_init_14 : decode prog_6_method_1_code 14 = .ok (.aload_n 0, 1) := by decide +kernel
theorem dLi_init_15 : decode prog_6_method_1_code 15 = .ok (.iload_n 3, 1) := by decide +kernel
theorem dLi_init_16 : decode prog_6_method_1_code 16 = .ok (.putfield 17, 3) := by decide +kernel
theorem dLi_init_19 : decode prog_6_method_1_code 19 = .ok (.return_, 1) := by decide +kernel
theorem dPl_isRemovedOn_0 : decode prog_8_method_5_code 0 = .ok (.aload_n 0, 1) := by decide +kernel
theorem dPl_isRemovedOn_1 : decode prog_8_method_5_code 1 = .ok (.getfield 9, 3) := by decide +kernel
theorem dPl_isRemovedOn_4 : decode prog_8_method_5_code 4 = .ok (.iload_n 1, 1) := by decide +kernel
theorem dPl_isRemovedOn_5 : decode prog_8_method_5_code 5 = .ok (.if_icmp .gt 7, 3) := by decide +kernel
theorem dPl_isRemovedOn_8 : decode prog_8_method_5_code 8 = .ok (.iconst 1, 1) := by decide +kernel
theorem dPl_isRemovedOn_9 : decode prog_8_method_5_code 9 = .ok (.goto 4, 3) := by decide +kernel
theorem dPl_isRemovedOn_12 : decode prog_8_method_5_code 12 = .ok (.iconst 0, 1) := by decide +kernel
theorem dPl_isRemovedOn_13 : decode prog_8_method_5_code 13 = .ok (.ireturn, 1) := by decide +kernel
theorem dP_isDistance_0 : decode prog_1_method_26_code 0 = .ok (.iload_n 0, 1) := by decide +kernel
theorem dP_isDistance_1 : decode prog_1_method_26_code 1 = .ok (.ifCond .lt 14, 3) := by decide +kernel
theorem dP_isDistance_4 : decode prog_1_method_26_code 4 = .ok (.iload_n 0, 1) := by decide +kernel
theorem dP_isDistance_5 : decode prog_1_method_26_code 5 = .ok (.sipush 10000, 3) := by decide +kernel
theorem dP_isDistance_8 : decode prog_1_method_26_code 8 = .ok (.if_icmp .gt 7, 3) := by decide +kernel
theorem dP_isDistance_11 : decode prog_1_method_26_code 11 = .ok (.iconst 1, 1) := by decide +kernel
theorem dP_isDistance_12 : decode prog_1_method_26_code 12 = .ok (.goto 4, 3) := by decide +kernel
theorem dP_isDistance_15 : decode prog_1_method_26_code 15 = .ok (.iconst 0, 1) := by decide +kernel
theorem dP_isDistance_16 : decode prog_1_method_26_code 16 = .ok (.ireturn, 1) := by decide +kernel
theorem dP_areCondition_0 : decode prog_1_method_27_code 0 = .ok (.iload_n 1, 1) := by decide +kernel
theorem dP_areCondition_1 : decode prog_1_method_27_code 1 = .ok (.tableswitch 114 0 8 #[51, 51, 53, 51, 68, 73, 73, 87, 109], 51) := by decide +kernel
theorem dP_areCondition_52 : decode prog_1_method_27_code 52 = .ok (.iconst 1, 1) := by decide +kernel
theorem dP_areCondition_53 : decode prog_1_method_27_code 53 = .ok (.ireturn, 1) := by decide +kernel
theorem dP_areCondition_54 : decode prog_1_method_27_code 54 = .ok (.iload_n 2, 1) := by decide +kernel
theorem dP_areCondition_55 : decode prog_1_method_27_code 55 = .ok (.ifCond .lt 12, 3) := by decide +kernel
theorem dP_areCondition_58 : decode prog_1_method_27_code 58 = .ok (.iload_n 2, 1) := by decide +kernel
theorem dP_areCondition_59 : decode prog_1_method_27_code 59 = .ok (.iconst 2, 1) := by decide +kernel
theorem dP_areCondition_60 : decode prog_1_method_27_code 60 = .ok (.if_icmp .gt 7, 3) := by decide +kernel
theorem dP_areCondition_63 : decode prog_1_method_27_code 63 = .ok (.iconst 1, 1) := by decide +kernel
theorem dP_areCondition_64 : decode prog_1_method_27_code 64 = .ok (.goto 4, 3) := by decide +kernel
theorem dP_areCondition_67 : decode prog_1_method_27_code 67 = .ok (.iconst 0, 1) := by decide +kernel
theorem dP_areCondition_68 : decode prog_1_method_27_code 68 = .ok (.ireturn, 1) := by decide +kernel
theorem dP_areCondition_69 : decode prog_1_method_27_code 69 = .ok (.iload_n 2, 1) := by decide +kernel
theorem dP_areCondition_70 : decode prog_1_method_27_code 70 = .ok (.invokestatic 87, 3) := by decide +kernel
theorem dP_areCondition_73 : decode prog_1_method_27_code 73 = .ok (.ireturn, 1) := by decide +kernel
theorem dP_areCondition_74 : decode prog_1_method_27_code 74 = .ok (.aload_n 0, 1) := by decide +kernel
theorem dP_areCondition_75 : decode prog_1_method_27_code 75 = .ok (.iload_n 2, 1) := by decide +kernel
theorem dP_areCondition_76 : decode prog_1_method_27_code 76 = .ok (.invokevirtual 124, 3) := by decide +kernel
theorem dP_areCondition_79 : decode prog_1_method_27_code 79 = .ok (.ifnull 7, 3) := by decide +kernel
theorem dP_areCondition_82 : decode prog_1_method_27_code 82 = .ok (.iconst 1, 1) := by decide +kernel
theorem dP_areCondition_83 : decode prog_1_method_27_code 83 = .ok (.goto 4, 3) := by decide +kernel
theorem dP_areCondition_86 : decode prog_1_method_27_code 86 = .ok (.iconst 0, 1) := by decide +kernel
theorem dP_areCondition_87 : decode prog_1_method_27_code 87 = .ok (.ireturn, 1) := by decide +kernel
theorem dP_areCondition_88 : decode prog_1_method_27_code 88 = .ok (.iload_n 2, 1) := by decide +kernel
theorem dP_areCondition_89 : decode prog_1_method_27_code 89 = .ok (.iload_n 3, 1) := by decide +kernel
theorem dP_areCondition_90 : decode prog_1_method_27_code 90 = .ok (.invokestatic 116, 3) := by decide +kernel
theorem dP_areCondition_93 : decode prog_1_method_27_code 93 = .ok (.ifCond .eq 15, 3) := by decide +kernel
theorem dP_areCondition_96 : decode prog_1_method_27_code 96 = .ok (.iload 4, 2) := by decide +kernel
theorem dP_areCondition_98 : decode prog_1_method_27_code 98 = .ok (.invokestatic 326, 3) := by decide +kernel
theorem dP_areCondition_101 : decode prog_1_method_27_code 101 = .ok (.ifCond .eq 7, 3) := by decide +kernel
theorem dP_areCondition_104 : decode prog_1_method_27_code 104 = .ok (.iconst 1, 1) := by decide +kernel
theorem dP_areCondition_105 : decode prog_1_method_27_code 105 = .ok (.goto 4, 3) := by decide +kernel
theorem dP_areCondition_108 : decode prog_1_method_27_code 108 = .ok (.iconst 0, 1) := by decide +kernel
theorem dP_areCondition_109 : decode prog_1_method_27_code 109 = .ok (.ireturn, 1) := by decide +kernel
theorem dP_areCondition_110 : decode prog_1_method_27_code 110 = .ok (.iload_n 2, 1) := by decide +kernel
theorem dP_areCondition_111 : decode prog_1_method_27_code 111 = .ok (.invokestatic 326, 3) := by decide +kernel
theorem dP_areCondition_114 : decode prog_1_method_27_code 114 = .ok (.ireturn, 1) := by decide +kernel
theorem dP_areCondition_115 : decode prog_1_method_27_code 115 = .ok (.iconst 0, 1) := by decide +kernel
theorem dP_areCondition_116 : decode prog_1_method_27_code 116 = .ok (.ireturn, 1) := by decide +kernel
theorem dAl_clear_0 : decode prog_33_method_40_code 0 = .ok (.aload_n 0, 1) := by decide +kernel
theorem dAl_clear_1 : decode prog_33_method_40_code 1 = .ok (.dup, 1) := by decide +kernel
theorem dAl_clear_2 : decode prog_33_method_40_code 2 = .ok (.getfield 63, 3) := by decide +kernel
theorem dAl_clear_5 : decode prog_33_method_40_code 5 = .ok (.iconst 1, 1) := by decide +kernel
theorem dAl_clear_6 : decode prog_33_method_40_code 6 = .ok (.iadd, 1) := by decide +kernel
theorem dAl_clear_7 : decode prog_33_method_40_code 7 = .ok (.putfield 63, 3) := by decide +kernel
theorem dAl_clear_10 : decode prog_33_method_40_code 10 = .ok (.aload_n 0, 1) := by decide +kernel
theorem dAl_clear_11 : decode prog_33_method_40_code 11 = .ok (.getfield 9, 3) := by decide +kernel
theorem dAl_clear_14 : decode prog_33_method_40_code 14 = .ok (.astore_n 1, 1) := by decide +kernel
theorem dAl_clear_15 : decode prog_33_method_40_code 15 = .ok (.aload_n 0, 1) := by decide +kernel
theorem dAl_clear_16 : decode prog_33_method_40_code 16 = .ok (.getfield 48, 3) := by decide +kernel
theorem dAl_clear_19 : decode prog_33_method_40_code 19 = .ok (.istore_n 2, 1) := by decide +kernel
theorem dAl_clear_20 : decode prog_33_method_40_code 20 = .ok (.aload_n 0, 1) := by decide +kernel
theorem dAl_clear_21 : decode prog_33_method_40_code 21 = .ok (.iconst 0, 1) := by decide +kernel
theorem dAl_clear_22 : decode prog_33_method_40_code 22 = .ok (.dup_x1, 1) := by decide +kernel
theorem dAl_clear_23 : decode prog_33_method_40_code 23 = .ok (.putfield 48, 3) := by decide +kernel
theorem dAl_clear_26 : decode prog_33_method_40_code 26 = .ok (.istore_n 3, 1) := by decide +kernel
theorem dAl_clear_27 : decode prog_33_method_40_code 27 = .ok (.iload_n 3, 1) := by decide +kernel
theorem dAl_clear_28 : decode prog_33_method_40_code 28 = .ok (.iload_n 2, 1) := by decide +kernel
theorem dAl_clear_29 : decode prog_33_method_40_code 29 = .ok (.if_icmp .ge 13, 3) := by decide +kernel
theorem dAl_clear_32 : decode prog_33_method_40_code 32 = .ok (.aload_n 1, 1) := by decide +kernel
theorem dAl_clear_33 : decode prog_33_method_40_code 33 = .ok (.iload_n 3, 1) := by decide +kernel
theorem dAl_clear_34 : decode prog_33_method_40_code 34 = .ok (.aconst_null, 1) := by decide +kernel
theorem dAl_clear_35 : decode prog_33_method_40_code 35 = .ok (.aastore, 1) := by decide +kernel
theorem dAl_clear_36 : decode prog_33_method_40_code 36 = .ok (.iinc 3 1, 3) := by decide +kernel
theorem dAl_clear_39 : decode prog_33_method_40_code 39 = .ok (.goto (-12), 3) := by decide +kernel
theorem dAl_clear_42 : decode prog_33_method_40_code 42 = .ok (.return_, 1) := by decide +kernel
theorem dP_clear_0 : decode prog_1_method_11_code 0 = .ok (.aload_n 0, 1) := by decide +kernel
theorem dP_clear_1 : decode prog_1_method_11_code 1 = .ok (.getfield 43, 3) := by decide +kernel
theorem dP_clear_4 : decode prog_1_method_11_code 4 = .ok (.invokevirtual 208, 3) := by decide +kernel
theorem dP_clear_7 : decode prog_1_method_11_code 7 = .ok (.return_, 1) := by decide +kernel
theorem dP_firstNameCondition_0 : decode prog_1_method_37_code 0 = .ok (.iconst 0, 1) := by decide +kernel
theorem dP_firstNameCondition_1 : decode prog_1_method_37_code 1 = .ok (.istore_n 1, 1) := by decide +kernel
theorem dP_firstNameCondition_2 : decode prog_1_method_37_code 2 = .ok (.iload_n 1, 1) := by decide +kernel
theorem dP_firstNameCondition_3 : decode prog_1_method_37_code 3 = .ok (.aload_n 0, 1) := by decide +kernel
theorem dP_firstNameCondition_4 : decode prog_1_method_37_code 4 = .ok (.getfield 43, 3) := by decide +kernel
theorem dP_firstNameCondition_7 : decode prog_1_method_37_code 7 = .ok (.invokevirtual 98, 3) := by decide +kernel
theorem dP_firstNameCondition_10 : decode prog_1_method_37_code 10 = .ok (.if_icmp .ge 39, 3) := by decide +kernel
theorem dP_firstNameCondition_13 : decode prog_1_method_37_code 13 = .ok (.aload_n 0, 1) := by decide +kernel
theorem dP_firstNameCondition_14 : decode prog_1_method_37_code 14 = .ok (.getfield 43, 3) := by decide +kernel
theorem dP_firstNameCondition_17 : decode prog_1_method_37_code 17 = .ok (.iload_n 1, 1) := by decide +kernel
theorem dP_firstNameCondition_18 : decode prog_1_method_37_code 18 = .ok (.invokevirtual 223, 3) := by decide +kernel
theorem dP_firstNameCondition_21 : decode prog_1_method_37_code 21 = .ok (.checkcast 73, 3) := by decide +kernel
theorem dP_firstNameCondition_24 : decode prog_1_method_37_code 24 = .ok (.getfield 352, 3) := by decide +kernel
theorem dP_firstNameCondition_27 : decode prog_1_method_37_code 27 = .ok (.iconst 3, 1) := by decide +kernel
theorem dP_firstNameCondition_28 : decode prog_1_method_37_code 28 = .ok (.if_icmp .gt 15, 3) := by decide +kernel
theorem dP_firstNameCondition_31 : decode prog_1_method_37_code 31 = .ok (.aload_n 0, 1) := by decide +kernel
theorem dP_firstNameCondition_32 : decode prog_1_method_37_code 32 = .ok (.getfield 43, 3) := by decide +kernel
theorem dP_firstNameCondition_35 : decode prog_1_method_37_code 35 = .ok (.iload_n 1, 1) := by decide +kernel
theorem dP_firstNameCondition_36 : decode prog_1_method_37_code 36 = .ok (.invokevirtual 223, 3) := by decide +kernel
theorem dP_firstNameCondition_39 : decode prog_1_method_37_code 39 = .ok (.checkcast 73, 3) := by decide +kernel
theorem dP_firstNameCondition_42 : decode prog_1_method_37_code 42 = .ok (.areturn, 1) := by decide +kernel
theorem dP_firstNameCondition_43 : decode prog_1_method_37_code 43 = .ok (.iinc 1 1, 3) := by decide +kernel
theorem dP_firstNameCondition_46 : decode prog_1_method_37_code 46 = .ok (.goto (-44), 3) := by decide +kernel
theorem dP_firstNameCondition_49 : decode prog_1_method_37_code 49 = .ok (.aload_n 0, 1) := by decide +kernel
theorem dP_firstNameCondition_50 : decode prog_1_method_37_code 50 = .ok (.getfield 83, 3) := by decide +kernel
theorem dP_firstNameCondition_53 : decode prog_1_method_37_code 53 = .ok (.areturn, 1) := by decide +kernel
theorem dP_firstAround_0 : decode prog_1_method_38_code 0 = .ok (.iconst 0, 1) := by decide +kernel
theorem dP_firstAround_1 : decode prog_1_method_38_code 1 = .ok (.istore_n 1, 1) := by decide +kernel
theorem dP_firstAround_2 : decode prog_1_method_38_code 2 = .ok (.iload_n 1, 1) := by decide +kernel
theorem dP_firstAround_3 : decode prog_1_method_38_code 3 = .ok (.aload_n 0, 1) := by decide +kernel
theorem dP_firstAround_4 : decode prog_1_method_38_code 4 = .ok (.getfield 43, 3) := by decide +kernel
theorem dP_firstAround_7 : decode prog_1_method_38_code 7 = .ok (.invokevirtual 98, 3) := by decide +kernel
theorem dP_firstAround_10 : decode prog_1_method_38_code 10 = .ok (.if_icmp .ge 40, 3) := by decide +kernel
theorem dP_firstAround_13 : decode prog_1_method_38_code 13 = .ok (.aload_n 0, 1) := by decide +kernel
theorem dP_firstAround_14 : decode prog_1_method_38_code 14 = .ok (.getfield 43, 3) := by decide +kernel
theorem dP_firstAround_17 : decode prog_1_method_38_code 17 = .ok (.iload_n 1, 1) := by decide +kernel
theorem dP_firstAround_18 : decode prog_1_method_38_code 18 = .ok (.invokevirtual 223, 3) := by decide +kernel
theorem dP_firstAround_21 : decode prog_1_method_38_code 21 = .ok (.checkcast 73, 3) := by decide +kernel
theorem dP_firstAround_24 : decode prog_1_method_38_code 24 = .ok (.getfield 352, 3) := by decide +kernel
theorem dP_firstAround_27 : decode prog_1_method_38_code 27 = .ok (.bipush 7, 2) := by decide +kernel
theorem dP_firstAround_29 : decode prog_1_method_38_code 29 = .ok (.if_icmp .ne 15, 3) := by decide +kernel
theorem dP_firstAround_32 : decode prog_1_method_38_code 32 = .ok (.aload_n 0, 1) := by decide +kernel
theorem dP_firstAround_33 : decode prog_1_method_38_code 33 = .ok (.getfield 43, 3) := by decide +kernel
theorem dP_firstAround_36 : decode prog_1_method_38_code 36 = .ok (.iload_n 1, 1) := by decide +kernel
theorem dP_firstAround_37 : decode prog_1_method_38_code 37 = .ok (.invokevirtual 223, 3) := by decide +kernel
theorem dP_firstAround_40 : decode prog_1_method_38_code 40 = .ok (.checkcast 73, 3) := by decide +kernel
theorem dP_firstAround_43 : decode prog_1_method_38_code 43 = .ok (.areturn, 1) := by decide +kernel
theorem dP_firstAround_44 : decode prog_1_method_38_code 44 = .ok (.iinc 1 1, 3) := by decide +kernel
theorem dP_firstAround_47 : decode prog_1_method_38_code 47 = .ok (.goto (-45), 3) := by decide +kernel
theorem dP_firstAround_50 : decode prog_1_method_38_code 50 = .ok (.aconst_null, 1) := by decide +kernel
theorem dP_firstAround_51 : decode prog_1_method_38_code 51 = .ok (.areturn, 1) := by decide +kernel
theorem dHi_empty_0 : decode prog_5_method_2_code 0 = .ok (.aload_n 0, 1) := by decide +kernel
theorem dHi_empty_1 : decode prog_5_method_2_code 1 = .ok (.iconst 0, 1) := by decide +kernel
theorem dHi_empty_2 : decode prog_5_method_2_code 2 = .ok (.putfield 19, 3) := by decide +kernel
theorem dHi_empty_5 : decode prog_5_method_2_code 5 = .ok (.return_, 1) := by decide +kernel
theorem dPl_shapeOn_0 : decode prog_8_method_4_code 0 = .ok (.aconst_null, 1) := by decide +kernel
theorem dPl_shapeOn_1 : decode prog_8_method_4_code 1 = .ok (.astore_n 2, 1) := by decide +kernel
theorem dPl_shapeOn_2 : decode prog_8_method_4_code 2 = .ok (.iconst 0, 1) := by decide +kernel
theorem dPl_shapeOn_3 : decode prog_8_method_4_code 3 = .ok (.istore_n 3, 1) := by decide +kernel
theorem dPl_shapeOn_4 : decode prog_8_method_4_code 4 = .ok (.iload_n 3, 1) := by decide +kernel
theorem dPl_shapeOn_5 : decode prog_8_method_4_code 5 = .ok (.aload_n 0, 1) := by decide +kernel
theorem dPl_shapeOn_6 : decode prog_8_method_4_code 6 = .ok (.getfield 18, 3) := by decide +kernel
theorem dPl_shapeOn_9 : decode prog_8_method_4_code 9 = .ok (.invokevirtual 38, 3) := by decide +kernel
theorem dPl_shapeOn_12 : decode prog_8_method_4_code 12 = .ok (.if_icmp .ge 31, 3) := by decide +kernel
theorem dPl_shapeOn_15 : decode prog_8_method_4_code 15 = .ok (.aload_n 0, 1) := by decide +kernel
theorem dPl_shapeOn_16 : decode prog_8_method_4_code 16 = .ok (.getfield 22, 3) := by decide +kernel
theorem dPl_shapeOn_19 : decode prog_8_method_4_code 19 = .ok (.iload_n 3, 1) := by decide +kernel
theorem dPl_shapeOn_20 : decode prog_8_method_4_code 20 = .ok (.iaload, 1) := by decide +kernel
theorem dPl_shapeOn_21 : decode prog_8_method_4_code 21 = .ok (.iload_n 1, 1) := by decide +kernel
theorem dPl_shapeOn_22 : decode prog_8_method_4_code 22 = .ok (.if_icmp .gt 15, 3) := by decide +kernel
theorem dPl_shapeOn_25 : decode prog_8_method_4_code 25 = .ok (.aload_n 0, 1) := by decide +kernel
theorem dPl_shapeOn_26 : decode prog_8_method_4_code 26 = .ok (.getfield 18, 3) := by decide +kernel
theorem dPl_shapeOn_29 : decode prog_8_method_4_code 29 = .ok (.iload_n 3, 1) := by decide +kernel
theorem dPl_shapeOn_30 : decode prog_8_method_4_code 30 = .ok (.invokevirtual 46, 3) := by decide +kernel
theorem dPl_shapeOn_33 : decode prog_8_method_4_code 33 = .ok (.checkcast 50, 3) := by decide +kernel
theorem dPl_shapeOn_36 : decode prog_8_method_4_code 36 = .ok (.astore_n 2, 1) := by decide +kernel
theorem dPl_shapeOn_37 : decode prog_8_method_4_code 37 = .ok (.iinc 3 1, 3) := by decide +kernel
theorem dPl_shapeOn_40 : decode prog_8_method_4_code 40 = .ok (.goto (-36), 3) := by decide +kernel
theorem dPl_shapeOn_43 : decode prog_8_method_4_code 43 = .ok (.aload_n 2, 1) := by decide +kernel
theorem dPl_shapeOn_44 : decode prog_8_method_4_code 44 = .ok (.areturn, 1) := by decide +kernel
theorem dCo_isInBox_0 : decode prog_3_method_10_code 0 = .ok (.iload_n 3, 1) := by decide +kernel
theorem dCo_isInBox_1 : decode prog_3_method_10_code 1 = .ok (.aload_n 0, 1) := by decide +kernel
theorem dCo_isInBox_2 : decode prog_3_method_10_code 2 = .ok (.getfield 21, 3) := by decide +kernel
theorem dCo_isInBox_5 : decode prog_3_method_10_code 5 = .ok (.iload_n 1, 1) := by decide +kernel
theorem dCo_isInBox_6 : decode prog_3_method_10_code 6 = .ok (.iaload, 1) := by decide +kernel
theorem dCo_isInBox_7 : decode prog_3_method_10_code 7 = .ok (.aload_n 0, 1) := by decide +kernel
theorem dCo_isInBox_8 : decode prog_3_method_10_code 8 = .ok (.getfield 21, 3) := by decide +kernel
theorem dCo_isInBox_11 : decode prog_3_method_10_code 11 = .ok (.iload_n 2, 1) := by decide +kernel
theorem dCo_isInBox_12 : decode prog_3_method_10_code 12 = .ok (.iaload, 1) := by decide +kernel
theorem dCo_isInBox_13 : decode prog_3_method_10_code 13 = .ok (.invokestatic 41, 3) := by decide +kernel
theorem dCo_isInBox_16 : decode prog_3_method_10_code 16 = .ok (.if_icmp .lt 66, 3) := by decide +kernel
theorem dCo_isInBox_19 : decode prog_3_method_10_code 19 = .ok (.iload_n 3, 1) := by decide +kernel
theorem dCo_isInBox_20 : decode prog_3_method_10_code 20 = .ok (.aload_n 0, 1) := by decide +kernel
theorem dCo_isInBox_21 : decode prog_3_method_10_code 21 = .ok (.getfield 21, 3) := by decide +kernel
theorem dCo_isInBox_24 : decode prog_3_method_10_code 24 = .ok (.iload_n 1, 1) := by decide +kernel
theorem dCo_isInBox_25 : decode prog_3_method_10_code 25 = .ok (.iaload, 1) := by decide +kernel
theorem dCo_isInBox_26 : decode prog_3_method_10_code 26 = .ok (.aload_n 0, 1) := by decide +kernel
theorem dCo_isInBox_27 : decode prog_3_method_10_code 27 = .ok (.getfield 21, 3) := by decide +kernel
theorem dCo_isInBox_30 : decode prog_3_method_10_code 30 = .ok (.iload_n 2, 1) := by decide +kernel
theorem dCo_isInBox_31 : decode prog_3_method_10_code 31 = .ok (.iaload, 1) := by decide +kernel
theorem dCo_isInBox_32 : decode prog_3_method_10_code 32 = .ok (.invokestatic 55, 3) := by decide +kernel
theorem dCo_isInBox_35 : decode prog_3_method_10_code 35 = .ok (.if_icmp .gt 47, 3) := by decide +kernel
theorem dCo_isInBox_38 : decode prog_3_method_10_code 38 = .ok (.iload 4, 2) := by decide +kernel
theorem dCo_isInBox_40 : decode prog_3_method_10_code 40 = .ok (.aload_n 0, 1) := by decide +kernel
theorem dCo_isInBox_41 : decode prog_3_method_10_code 41 = .ok (.getfield 25, 3) := by decide +kernel
theorem dCo_isInBox_44 : decode prog_3_method_10_code 44 = .ok (.iload_n 1, 1) := by decide +kernel
theorem dCo_isInBox_45 : decode prog_3_method_10_code 45 = .ok (.iaload, 1) := by decide +kernel
theorem dCo_isInBox_46 : decode prog_3_method_10_code 46 = .ok (.aload_n 0, 1) := by decide +kernel
theorem dCo_isInBox_47 : decode prog_3_method_10_code 47 = .ok (.getfield 25, 3) := by decide +kernel
theorem dCo_isInBox_50 : decode prog_3_method_10_code 50 = .ok (.iload_n 2, 1) := by decide +kernel
theorem dCo_isInBox_51 : decode prog_3_method_10_code 51 = .ok (.iaload, 1) := by decide +kernel
theorem dCo_isInBox_52 : decode prog_3_method_10_code 52 = .ok (.invokestatic 41, 3) := by decide +kernel
theorem dCo_isInBox_55 : decode prog_3_method_10_code 55 = .ok (.if_icmp .lt 27, 3) := by decide +kernel
theorem dCo_isInBox_58 : decode prog_3_method_10_code 58 = .ok (.iload 4, 2) := by decide +kernel
theorem dCo_isInBox_60 : decode prog_3_method_10_code 60 = .ok (.aload_n 0, 1) := by decide +kernel
theorem dCo_isInBox_61 : decode prog_3_method_10_code 61 = .ok (.getfield 25, 3) := by decide +kernel
theorem dCo_isInBox_64 : decode prog_3_method_10_code 64 = .ok (.iload_n 1, 1) := by decide +kernel
theorem dCo_isInBox_65 : decode prog_3_method_10_code 65 = .ok (.iaload, 1) := by decide +kernel
theorem dCo_isInBox_66 : decode prog_3_method_10_code 66 = .ok (.aload_n 0, 1) := by decide +kernel
theorem dCo_isInBox_67 : decode prog_3_method_10_code 67 = .ok (.getfield 25, 3) := by decide +kernel
theorem dCo_isInBox_70 : decode prog_3_method_10_code 70 = .ok (.iload_n 2, 1) := by decide +kernel
theorem dCo_isInBox_71 : decode prog_3_method_10_code 71 = .ok (.iaload, 1) := by decide +kernel
theorem dCo_isInBox_72 : decode prog_3_method_10_code 72 = .ok (.invokestatic 55, 3) := by decide +kernel
theorem dCo_isInBox_75 : decode prog_3_method_10_code 75 = .ok (.if_icmp .gt 7, 3) := by decide +kernel
theorem dCo_isInBox_78 : decode prog_3_method_10_code 78 = .ok (.iconst 1, 1) := by decide +kernel
theorem dCo_isInBox_79 : decode prog_3_method_10_code 79 = .ok (.goto 4, 3) := by decide +kernel
theorem dCo_isInBox_82 : decode prog_3_method_10_code 82 = .ok (.iconst 0, 1) := by decide +kernel
theorem dCo_isInBox_83 : decode prog_3_method_10_code 83 = .ok (.ireturn, 1) := by decide +kernel
theorem dCo_hasInside_0 : decode prog_3_method_9_code 0 = .ok (.iconst 0, 1) := by decide +kernel
theorem dCo_hasInside_1 : decode prog_3_method_9_code 1 = .ok (.istore_n 3, 1) := by decide +kernel
theorem dCo_hasInside_2 : decode prog_3_method_9_code 2 = .ok (.iconst 0, 1) := by decide +kernel
theorem dCo_hasInside_3 : decode prog_3_method_9_code 3 = .ok (.istore 4, 2) := by decide +kernel
theorem dCo_hasInside_5 : decode prog_3_method_9_code 5 = .ok (.iload 4, 2) := by decide +kernel
theorem dCo_hasInside_7 : decode prog_3_method_9_code 7 = .ok (.aload_n 0, 1) := by decide +kernel
theorem dCo_hasInside_8 : decode prog_3_method_9_code 8 = .ok (.getfield 9, 3) := by decide +kernel
theorem dCo_hasInside_11 : decode prog_3_method_9_code 11 = .ok (.if_icmp .ge 174, 3) := by decide +kernel
theorem dCo_hasInside_14 : decode prog_3_method_9_code 14 = .ok (.aload_n 0, 1) := by decide +kernel
theorem dCo_hasInside_15 : decode prog_3_method_9_code 15 = .ok (.iload 4, 2) := by decide +kernel
theorem dCo_hasInside_17 : decode prog_3_method_9_code 17 = .ok (.invokevirtual 32, 3) := by decide +kernel
theorem dCo_hasInside_20 : decode prog_3_method_9_code 20 = .ok (.istore 5, 2) := by decide +kernel
theorem dCo_hasInside_22 : decode prog_3_method_9_code 22 = .ok (.aload_n 0, 1) := by decide +kernel
theorem dCo_hasInside_23 : decode prog_3_method_9_code 23 = .ok (.getfield 21, 3) := by decide +kernel
theorem dCo_hasInside_26 : decode prog_3_method_9_code 26 = .ok (.iload 4, 2) := by decide +kernel
theorem dCo_hasInside_28 : decode prog_3_method_9_code 28 = .ok (.iaload, 1) := by decide +kernel
theorem dCo_hasInside_29 : decode prog_3_method_9_code 29 = .ok (.iload_n 1, 1) := by decide +kernel
theorem dCo_hasInside_30 : decode prog_3_method_9_code 30 = .ok (.isub, 1) := by decide +kernel
theorem dCo_hasInside_31 : decode prog_3_method_9_code 31 = .ok (.aload_n 0, 1) := by decide +kernel
theorem dCo_hasInside_32 : decode prog_3_method_9_code 32 = .ok (.getfield 25, 3) := by decide +kernel
theorem dCo_hasInside_35 : decode prog_3_method_9_code 35 = .ok (.iload 5, 2) := by decide +kernel
theorem dCo_hasInside_37 : decode prog_3_method_9_code 37 = .ok (.iaload, 1) := by decide +kernel
theorem dCo_hasInside_38 : decode prog_3_method_9_code 38 = .ok (.aload_n 0, 1) := by decide +kernel
theorem dCo_hasInside_39 : decode prog_3_method_9_code 39 = .ok (.getfield 25, 3) := by decide +kernel
theorem dCo_hasInside_42 : decode prog_3_method_9_code 42 = .ok (.iload 4, 2) := by decide +kernel
theorem dCo_hasInside_44 : decode prog_3_method_9_code 44 = .ok (.iaload, 1) := by decide +kernel
theorem dCo_hasInside_45 : decode prog_3_method_9_code 45 = .ok (.isub, 1) := by decide +kernel
theorem dCo_hasInside_46 : decode prog_3_method_9_code 46 = .ok (.imul, 1) := by decide +kernel
theorem dCo_hasInside_47 : decode prog_3_method_9_code 47 = .ok (.iload_n 2, 1) := by decide +kernel
theorem dCo_hasInside_48 : decode prog_3_method_9_code 48 = .ok (.aload_n 0, 1) := by decide +kernel
theorem dCo_hasInside_49 : decode prog_3_method_9_code 49 = .ok (.getfield 25, 3) := by decide +kernel
theorem dCo_hasInside_52 : decode prog_3_method_9_code 52 = .ok (.iload 4, 2) := by decide +kernel
theorem dCo_hasInside_54 : decode prog_3_method_9_code 54 = .ok (.iaload, 1) := by decide +kernel
theorem dCo_hasInside_55 : decode prog_3_method_9_code 55 = .ok (.isub, 1) := by decide +kernel
theorem dCo_hasInside_56 : decode prog_3_method_9_code 56 = .ok (.aload_n 0, 1) := by decide +kernel
theorem dCo_hasInside_57 : decode prog_3_method_9_code 57 = .ok (.getfield 21, 3) := by decide +kernel
theorem dCo_hasInside_60 : decode prog_3_method_9_code 60 = .ok (.iload 5, 2) := by decide +kernel
theorem dCo_hasInside_62 : decode prog_3_method_9_code 62 = .ok (.iaload, 1) := by decide +kernel
theorem dCo_hasInside_63 : decode prog_3_method_9_code 63 = .ok (.aload_n 0, 1) := by decide +kernel
theorem dCo_hasInside_64 : decode prog_3_method_9_code 64 = .ok (.getfield 21, 3) := by decide +kernel
theorem dCo_hasInside_67 : decode prog_3_method_9_code 67 = .ok (.iload 4, 2) := by decide +kernel
theorem dCo_hasInside_69 : decode prog_3_method_9_code 69 = .ok (.iaload, 1) := by decide +kernel
theorem dCo_hasInside_70 : decode prog_3_method_9_code 70 = .ok (.isub, 1) := by decide +kernel
theorem dCo_hasInside_71 : decode prog_3_method_9_code 71 = .ok (.imul, 1) := by decide +kernel
theorem dCo_hasInside_72 : decode prog_3_method_9_code 72 = .ok (.iadd, 1) := by decide +kernel
theorem dCo_hasInside_73 : decode prog_3_method_9_code 73 = .ok (.istore 6, 2) := by decide +kernel
theorem dCo_hasInside_75 : decode prog_3_method_9_code 75 = .ok (.iload 6, 2) := by decide +kernel
theorem dCo_hasInside_77 : decode prog_3_method_9_code 77 = .ok (.ifCond .ne 18, 3) := by decide +kernel
theorem dCo_hasInside_80 : decode prog_3_method_9_code 80 = .ok (.aload_n 0, 1) := by decide +kernel
theorem dCo_hasInside_81 : decode prog_3_method_9_code 81 = .ok (.iload 4, 2) := by decide +kernel
theorem dCo_hasInside_83 : decode prog_3_method_9_code 83 = .ok (.iload 5, 2) := by decide +kernel
theorem dCo_hasInside_85 : decode prog_3_method_9_code 85 = .ok (.iload_n 1, 1) := by decide +kernel
theorem dCo_hasInside_86 : decode prog_3_method_9_code 86 = .ok (.iload_n 2, 1) := by decide +kernel
theorem dCo_hasInside_87 : decode prog_3_method_9_code 87 = .ok (.invokevirtual 51, 3) := by decide +kernel
theorem dCo_hasInside_90 : decode prog_3_method_9_code 90 = .ok (.ifCond .eq 5, 3) := by decide +kernel
theorem dCo_hasInside_93 : decode prog_3_method_9_code 93 = .ok (.iconst 1, 1) := by decide +kernel
theorem dCo_hasInside_94 : decode prog_3_method_9_code 94 = .ok (.ireturn, 1) := by decide +kernel
theorem dCo_hasInside_95 : decode prog_3_method_9_code 95 = .ok (.aload_n 0, 1) := by decide +kernel
theorem dCo_hasInside_96 : decode prog_3_method_9_code 96 = .ok (.getfield 25, 3) := by decide +kernel
theorem dCo_hasInside_99 : decode prog_3_method_9_code 99 = .ok (.iload 5, 2) := by decide +kernel
theorem dCo_hasInside_101 : decode prog_3_method_9_code 101 = .ok (.iaload, 1) := by decide +kernel
theorem dCo_hasInside_102 : decode prog_3_method_9_code 102 = .ok (.aload_n 0, 1) := by decide +kernel
theorem dCo_hasInside_103 : decode prog_3_method_9_code 103 = .ok (.getfield 25, 3) := by decide +kernel
theorem dCo_hasInside_106 : decode prog_3_method_9_code 106 = .ok (.iload 4, 2) := by decide +kernel
theorem dCo_hasInside_108 : decode prog_3_method_9_code 108 = .ok (.iaload, 1) := by decide +kernel
theorem dCo_hasInside_109 : decode prog_3_method_9_code 109 = .ok (.if_icmp .le 7, 3) := by decide +kernel
theorem dCo_hasInside_112 : decode prog_3_method_9_code 112 = .ok (.iconst 1, 1) := by decide +kernel
theorem dCo_hasInside_113 : decode prog_3_method_9_code 113 = .ok (.goto 4, 3) := by decide +kernel
theorem dCo_hasInside_116 : decode prog_3_method_9_code 116 = .ok (.iconst 0, 1) := by decide +kernel
theorem dCo_hasInside_117 : decode prog_3_method_9_code 117 = .ok (.istore 7, 2) := by decide +kernel
theorem dCo_hasInside_119 : decode prog_3_method_9_code 119 = .ok (.aload_n 0, 1) := by decide +kernel
theorem dCo_hasInside_120 : decode prog_3_method_9_code 120 = .ok (.getfield 25, 3) := by decide +kernel
theorem dCo_hasInside_123 : decode prog_3_method_9_code 123 = .ok (.iload 4, 2) := by decide +kernel
theorem dCo_hasInside_125 : decode prog_3_method_9_code 125 = .ok (.iaload, 1) := by decide +kernel
theorem dCo_hasInside_126 : decode prog_3_method_9_code 126 = .ok (.iload_n 2, 1) := by decide +kernel
theorem dCo_hasInside_127 : decode prog_3_method_9_code 127 = .ok (.if_icmp .le 7, 3) := by decide +kernel
theorem dCo_hasInside_130 : decode prog_3_method_9_code 130 = .ok (.iconst 1, 1) := by decide +kernel
theorem dCo_hasInside_131 : decode prog_3_method_9_code 131 = .ok (.goto 4, 3) := by decide +kernel
theorem dCo_hasInside_134 : decode prog_3_method_9_code 134 = .ok (.iconst 0, 1) := by decide +kernel
theorem dCo_hasInside_135 : decode prog_3_method_9_code 135 = .ok (.aload_n 0, 1) := by decide +kernel
theorem dCo_hasInside_136 : decode prog_3_method_9_code 136 = .ok (.getfield 25, 3) := by decide +kernel
theorem dCo_hasInside_139 : decode prog_3_method_9_code 139 = .ok (.iload 5, 2) := by decide +kernel
theorem dCo_hasInside_141 : decode prog_3_method_9_code 141 = .ok (.iaload, 1) := by decide +kernel
theorem dCo_hasInside_142 : decode prog_3_method_9_code 142 = .ok (.iload_n 2, 1) := by decide +kernel
theorem dCo_hasInside_143 : decode prog_3_method_9_code 143 = .ok (.if_icmp .le 7, 3) := by decide +kernel
theorem dCo_hasInside_146 : decode prog_3_method_9_code 146 = .ok (.iconst 1, 1) := by decide +kernel
theorem dCo_hasInside_147 : decode prog_3_method_9_code 147 = .ok (.goto 4, 3) := by decide +kernel
theorem dCo_hasInside_150 : decode prog_3_method_9_code 150 = .ok (.iconst 0, 1) := by decide +kernel
theorem dCo_hasInside_151 : decode prog_3_method_9_code 151 = .ok (.if_icmp .eq 28, 3) := by decide +kernel
theorem dCo_hasInside_154 : decode prog_3_method_9_code 154 = .ok (.iload 6, 2) := by decide +kernel
theorem dCo_hasInside_156 : decode prog_3_method_9_code 156 = .ok (.ifCond .le 7, 3) := by decide +kernel
theorem dCo_hasInside_159 : decode prog_3_method_9_code 159 = .ok (.iconst 1, 1) := by decide +kernel
theorem dCo_hasInside_160 : decode prog_3_method_9_code 160 = .ok (.goto 4, 3) := by decide +kernel
theorem dCo_hasInside_163 : decode prog_3_method_9_code 163 = .ok (.iconst 0, 1) := by decide +kernel
theorem dCo_hasInside_164 : decode prog_3_method_9_code 164 = .ok (.iload 7, 2) := by decide +kernel
theorem dCo_hasInside_166 : decode prog_3_method_9_code 166 = .ok (.if_icmp .ne 13, 3) := by decide +kernel
theorem dCo_hasInside_169 : decode prog_3_method_9_code 169 = .ok (.iload_n 3, 1) := by decide +kernel
theorem dCo_hasInside_170 : decode prog_3_method_9_code 170 = .ok (.ifCond .ne 7, 3) := by decide +kernel
theorem dCo_hasInside_173 : decode prog_3_method_9_code 173 = .ok (.iconst 1, 1) := by decide +kernel
theorem dCo_hasInside_174 : decode prog_3_method_9_code 174 = .ok (.goto 4, 3) := by decide +kernel
theorem dCo_hasInside_177 : decode prog_3_method_9_code 177 = .ok (.iconst 0, 1) := by decide +kernel
theorem dCo_hasInside_178 : decode prog_3_method_9_code 178 = .ok (.istore_n 3, 1) := by decide +kernel
theorem dCo_hasInside_179 : decode prog_3_method_9_code 179 = .ok (.iinc 4 1, 3) := by decide +kernel
theorem dCo_hasInside_182 : decode prog_3_method_9_code 182 = .ok (.goto (-177), 3) := by decide +kernel
theorem dCo_hasInside_185 : decode prog_3_method_9_code 185 = .ok (.iload_n 3, 1) := by decide +kernel
theorem dCo_hasInside_186 : decode prog_3_method_9_code 186 = .ok (.ireturn, 1) := by decide +kernel
theorem dCo_hasAllInside_0 : decode prog_3_method_8_code 0 = .ok (.iconst 0, 1) := by decide +kernel
theorem dCo_hasAllInside_1 : decode prog_3_method_8_code 1 = .ok (.istore_n 2, 1) := by decide +kernel
theorem dCo_hasAllInside_2 : decode prog_3_method_8_code 2 = .ok (.iload_n 2, 1) := by decide +kernel
theorem dCo_hasAllInside_3 : decode prog_3_method_8_code 3 = .ok (.aload_n 1, 1) := by decide +kernel
theorem dCo_hasAllInside_4 : decode prog_3_method_8_code 4 = .ok (.getfield 9, 3) := by decide +kernel
theorem dCo_hasAllInside_7 : decode prog_3_method_8_code 7 = .ok (.if_icmp .ge 30, 3) := by decide +kernel
theorem dCo_hasAllInside_10 : decode prog_3_method_8_code 10 = .ok (.aload_n 0, 1) := by decide +kernel
theorem dCo_hasAllInside_11 : decode prog_3_method_8_code 11 = .ok (.aload_n 1, 1) := by decide +kernel
theorem dCo_hasAllInside_12 : decode prog_3_method_8_code 12 = .ok (.getfield 21, 3) := by decide +kernel
theorem dCo_hasAllInside_15 : decode prog_3_method_8_code 15 = .ok (.iload_n 2, 1) := by decide +kernel
theorem dCo_hasAllInside_16 : decode prog_3_method_8_code 16 = .ok (.iaload, 1) := by decide +kernel
theorem dCo_hasAllInside_17 : decode prog_3_method_8_code 17 = .ok (.aload_n 1, 1) := by decide +kernel
theorem dCo_hasAllInside_18 : decode prog_3_method_8_code 18 = .ok (.getfield 25, 3) := by decide +kernel
theorem dCo_hasAllInside_21 : decode prog_3_method_8_code 21 = .ok (.iload_n 2, 1) := by decide +kernel
theorem dCo_hasAllInside_22 : decode prog_3_method_8_code 22 = .ok (.iaload, 1) := by decide +kernel
theorem dCo_hasAllInside_23 : decode prog_3_method_8_code 23 = .ok (.invokevirtual 47, 3) := by decide +kernel
theorem dCo_hasAllInside_26 : decode prog_3_method_8_code 26 = .ok (.ifCond .ne 5, 3) := by decide +kernel
theorem dCo_hasAllInside_29 : decode prog_3_method_8_code 29 = .ok (.iconst 0, 1) := by decide +kernel
theorem dCo_hasAllInside_30 : decode prog_3_method_8_code 30 = .ok (.ireturn, 1) := by decide +kernel
theorem dCo_hasAllInside_31 : decode prog_3_method_8_code 31 = .ok (.iinc 2 1, 3) := by decide +kernel
theorem dCo_hasAllInside_34 : decode prog_3_method_8_code 34 = .ok (.goto (-32), 3) := by decide +kernel
theorem dCo_hasAllInside_37 : decode prog_3_method_8_code 37 = .ok (.iconst 1, 1) := by decide +kernel
theorem dCo_hasAllInside_38 : decode prog_3_method_8_code 38 = .ok (.ireturn, 1) := by decide +kernel
theorem dP_liesInPlace_0 : decode prog_1_method_33_code 0 = .ok (.aload_n 0, 1) := by decide +kernel
theorem dP_liesInPlace_1 : decode prog_1_method_33_code 1 = .ok (.iload_n 2, 1) := by decide +kernel
theorem dP_liesInPlace_2 : decode prog_1_method_33_code 2 = .ok (.invokevirtual 124, 3) := by decide +kernel
theorem dP_liesInPlace_5 : decode prog_1_method_33_code 5 = .ok (.astore 4, 2) := by decide +kernel
theorem dP_liesInPlace_7 : decode prog_1_method_33_code 7 = .ok (.aload 4, 2) := by decide +kernel
theorem dP_liesInPlace_9 : decode prog_1_method_33_code 9 = .ok (.ifnonnull 5, 3) := by decide +kernel
theorem dP_liesInPlace_12 : decode prog_1_method_33_code 12 = .ok (.iconst 0, 1) := by decide +kernel
theorem dP_liesInPlace_13 : decode prog_1_method_33_code 13 = .ok (.ireturn, 1) := by decide +kernel
theorem dP_liesInPlace_14 : decode prog_1_method_33_code 14 = .ok (.aload 4, 2) := by decide +kernel
theorem dP_liesInPlace_16 : decode prog_1_method_33_code 16 = .ok (.iload_n 3, 1) := by decide +kernel
theorem dP_liesInPlace_17 : decode prog_1_method_33_code 17 = .ok (.invokevirtual 275, 3) := by decide +kernel
theorem dP_liesInPlace_20 : decode prog_1_method_33_code 20 = .ok (.astore 5, 2) := by decide +kernel
theorem dP_liesInPlace_22 : decode prog_1_method_33_code 22 = .ok (.aload 5, 2) := by decide +kernel
theorem dP_liesInPlace_24 : decode prog_1_method_33_code 24 = .ok (.ifnull 24, 3) := by decide +kernel
theorem dP_liesInPlace_27 : decode prog_1_method_33_code 27 = .ok (.aload 5, 2) := by decide +kernel
theorem dP_liesInPlace_29 : decode prog_1_method_33_code 29 = .ok (.invokevirtual 137, 3) := by decide +kernel
theorem dP_liesInPlace_32 : decode prog_1_method_33_code 32 = .ok (.ifCond .eq 16, 3) := by decide +kernel
theorem dP_liesInPlace_35 : decode prog_1_method_33_code 35 = .ok (.aload 5, 2) := by decide +kernel
theorem dP_liesInPlace_37 : decode prog_1_method_33_code 37 = .ok (.aload_n 1, 1) := by decide +kernel
theorem dP_liesInPlace_38 : decode prog_1_method_33_code 38 = .ok (.invokevirtual 385, 3) := by decide +kernel
theorem dP_liesInPlace_41 : decode prog_1_method_33_code 41 = .ok (.ifCond .eq 7, 3) := by decide +kernel
theorem dP_liesInPlace_44 : decode prog_1_method_33_code 44 = .ok (.iconst 1, 1) := by decide +kernel
theorem dP_liesInPlace_45 : decode prog_1_method_33_code 45 = .ok (.goto 4, 3) := by decide +kernel
theorem dP_liesInPlace_48 : decode prog_1_method_33_code 48 = .ok (.iconst 0, 1) := by decide +kernel
theorem dP_liesInPlace_49 : decode prog_1_method_33_code 49 = .ok (.ireturn, 1) := by decide +kernel
theorem dPl_aboveOn_0 : decode prog_8_method_9_code 0 = .ok (.iconst 0, 1) := by decide +kernel
theorem dPl_aboveOn_1 : decode prog_8_method_9_code 1 = .ok (.istore_n 2, 1) := by decide +kernel
theorem dPl_aboveOn_2 : decode prog_8_method_9_code 2 = .ok (.iload_n 2, 1) := by decide +kernel
theorem dPl_aboveOn_3 : decode prog_8_method_9_code 3 = .ok (.aload_n 0, 1) := by decide +kernel
theorem dPl_aboveOn_4 : decode prog_8_method_9_code 4 = .ok (.getfield 29, 3) := by decide +kernel
theorem dPl_aboveOn_7 : decode prog_8_method_9_code 7 = .ok (.invokevirtual 38, 3) := by decide +kernel
theorem dPl_aboveOn_10 : decode prog_8_method_9_code 10 = .ok (.if_icmp .ge 43, 3) := by decide +kernel
theorem dPl_aboveOn_13 : decode prog_8_method_9_code 13 = .ok (.aload_n 0, 1) := by decide +kernel
theorem dPl_aboveOn_14 : decode prog_8_method_9_code 14 = .ok (.getfield 29, 3) := by decide +kernel
theorem dPl_aboveOn_17 : decode prog_8_method_9_code 17 = .ok (.iload_n 2, 1) := by decide +kernel
theorem dPl_aboveOn_18 : decode prog_8_method_9_code 18 = .ok (.invokevirtual 46, 3) := by decide +kernel
theorem dPl_aboveOn_21 : decode prog_8_method_9_code 21 = .ok (.checkcast 65, 3) := by decide +kernel
theorem dPl_aboveOn_24 : decode prog_8_method_9_code 24 = .ok (.iload_n 1, 1) := by decide +kernel
theorem dPl_aboveOn_25 : decode prog_8_method_9_code 25 = .ok (.iload_n 1, 1) := by decide +kernel
theorem dPl_aboveOn_26 : decode prog_8_method_9_code 26 = .ok (.invokevirtual 67, 3) := by decide +kernel
theorem dPl_aboveOn_29 : decode prog_8_method_9_code 29 = .ok (.ifCond .eq 18, 3) := by decide +kernel
theorem dPl_aboveOn_32 : decode prog_8_method_9_code 32 = .ok (.aload_n 0, 1) := by decide +kernel
theorem dPl_aboveOn_33 : decode prog_8_method_9_code 33 = .ok (.getfield 29, 3) := by decide +kernel
theorem dPl_aboveOn_36 : decode prog_8_method_9_code 36 = .ok (.iload_n 2, 1) := by decide +kernel
theorem dPl_aboveOn_37 : decode prog_8_method_9_code 37 = .ok (.invokevirtual 46, 3) := by decide +kernel
theorem dPl_aboveOn_40 : decode prog_8_method_9_code 40 = .ok (.checkcast 65, 3) := by decide +kernel
theorem dPl_aboveOn_43 : decode prog_8_method_9_code 43 = .ok (.getfield 71, 3) := by decide +kernel
theorem dPl_aboveOn_46 : decode prog_8_method_9_code 46 = .ok (.areturn, 1) := by decide +kernel
theorem dPl_aboveOn_47 : decode prog_8_method_9_code 47 = .ok (.iinc 2 1, 3) := by decide +kernel
theorem dPl_aboveOn_50 : decode prog_8_method_9_code 50 = .ok (.goto (-48), 3) := by decide +kernel
theorem dPl_aboveOn_53 : decode prog_8_method_9_code 53 = .ok (.aconst_null, 1) := by decide +kernel
theorem dPl_aboveOn_54 : decode prog_8_method_9_code 54 = .ok (.areturn, 1) := by decide +kernel
theorem dP_isBelow_0 : decode prog_1_method_34_code 0 = .ok (.aload_n 0, 1) := by decide +kernel
theorem dP_isBelow_1 : decode prog_1_method_34_code 1 = .ok (.iload_n 2, 1) := by decide +kernel
theorem dP_isBelow_2 : decode prog_1_method_34_code 2 = .ok (.invokevirtual 267, 3) := by decide +kernel
theorem dP_isBelow_5 : decode prog_1_method_34_code 5 = .ok (.astore_n 3, 1) := by decide +kernel
theorem dP_isBelow_6 : decode prog_1_method_34_code 6 = .ok (.iconst 0, 1) := by decide +kernel
theorem dP_isBelow_7 : decode prog_1_method_34_code 7 = .ok (.istore 4, 2) := by decide +kernel
theorem dP_isBelow_9 : decode prog_1_method_34_code 9 = .ok (.iload 4, 2) := by decide +kernel
theorem dP_isBelow_11 : decode prog_1_method_34_code 11 = .ok (.bipush 30, 2) := by decide +kernel
theorem dP_isBelow_13 : decode prog_1_method_34_code 13 = .ok (.if_icmp .ge 29, 3) := by decide +kernel
theorem dP_isBelow_16 : decode prog_1_method_34_code 16 = .ok (.aload_n 3, 1) := by decide +kernel
theorem dP_isBelow_17 : decode prog_1_method_34_code 17 = .ok (.ifnull 25, 3) := by decide +kernel
theorem dP_isBelow_20 : decode prog_1_method_34_code 20 = .ok (.aload_n 3, 1) := by decide +kernel
theorem dP_isBelow_21 : decode prog_1_method_34_code 21 = .ok (.getfield 270, 3) := by decide +kernel
theorem dP_isBelow_24 : decode prog_1_method_34_code 24 = .ok (.iload_n 1, 1) := by decide +kernel
theorem dP_isBelow_25 : decode prog_1_method_34_code 25 = .ok (.if_icmp .ne 5, 3) := by decide +kernel
theorem dP_isBelow_28 : decode prog_1_method_34_code 28 = .ok (.iconst 1, 1) := by decide +kernel
theorem dP_isBelow_29 : decode prog_1_method_34_code 29 = .ok (.ireturn, 1) := by decide +kernel
theorem dP_isBelow_30 : decode prog_1_method_34_code 30 = .ok (.aload_n 3, 1) := by decide +kernel
theorem dP_isBelow_31 : decode prog_1_method_34_code 31 = .ok (.iload_n 2, 1) := by decide +kernel
theorem dP_isBelow_32 : decode prog_1_method_34_code 32 = .ok (.invokevirtual 267, 3) := by decide +kernel
theorem dP_isBelow_35 : decode prog_1_method_34_code 35 = .ok (.astore_n 3, 1) := by decide +kernel
theorem dP_isBelow_36 : decode prog_1_method_34_code 36 = .ok (.iinc 4 1, 3) := by decide +kernel
theorem dP_isBelow_39 : decode prog_1_method_34_code 39 = .ok (.goto (-30), 3) := by decide +kernel
theorem dP_isBelow_42 : decode prog_1_method_34_code 42 = .ok (.iconst 0, 1) := by decide +kernel
theorem dP_isBelow_43 : decode prog_1_method_34_code 43 = .ok (.ireturn, 1) := by decide +kernel
theorem dCo_squareFrom_0 : decode prog_3_method_7_code 0 = .ok (.iload_n 2, 1) := by decide +kernel
theorem dCo_squareFrom_1 : decode prog_3_method_7_code 1 = .ok (.aload_n 0, 1) := by decide +kernel
theorem dCo_squareFrom_2 : decode prog_3_method_7_code 2 = .ok (.getfield 21, 3) := by decide +kernel
theorem dCo_squareFrom_5 : decode prog_3_method_7_code 5 = .ok (.iload_n 1, 1) := by decide +kernel
theorem dCo_squareFrom_6 : decode prog_3_method_7_code 6 = .ok (.iaload, 1) := by decide +kernel
theorem dCo_squareFrom_7 : decode prog_3_method_7_code 7 = .ok (.isub, 1) := by decide +kernel
theorem dCo_squareFrom_8 : decode prog_3_method_7_code 8 = .ok (.istore 4, 2) := by decide +kernel
theorem dCo_squareFrom_10 : decode prog_3_method_7_code 10 = .ok (.iload_n 3, 1) := by decide +kernel
theorem dCo_squareFrom_11 : decode prog_3_method_7_code 11 = .ok (.aload_n 0, 1) := by decide +kernel
theorem dCo_squareFrom_12 : decode prog_3_method_7_code 12 = .ok (.getfield 25, 3) := by decide +kernel
theorem dCo_squareFrom_15 : decode prog_3_method_7_code 15 = .ok (.iload_n 1, 1) := by decide +kernel
theorem dCo_squareFrom_16 : decode prog_3_method_7_code 16 = .ok (.iaload, 1) := by decide +kernel
theorem dCo_squareFrom_17 : decode prog_3_method_7_code 17 = .ok (.isub, 1) := by decide +kernel
theorem dCo_squareFrom_18 : decode prog_3_method_7_code 18 = .ok (.istore 5, 2) := by decide +kernel
theorem dCo_squareFrom_20 : decode prog_3_method_7_code 20 = .ok (.iload 4, 2) := by decide +kernel
theorem dCo_squareFrom_22 : decode prog_3_method_7_code 22 = .ok (.iload 4, 2) := by decide +kernel
theorem dCo_squareFrom_24 : decode prog_3_method_7_code 24 = .ok (.imul, 1) := by decide +kernel
theorem dCo_squareFrom_25 : decode prog_3_method_7_code 25 = .ok (.iload 5, 2) := by decide +kernel
theorem dCo_squareFrom_27 : decode prog_3_method_7_code 27 = .ok (.iload 5, 2) := by decide +kernel
theorem dCo_squareFrom_29 : decode prog_3_method_7_code 29 = .ok (.imul, 1) := by decide +kernel
theorem dCo_squareFrom_30 : decode prog_3_method_7_code 30 = .ok (.iadd, 1) := by decide +kernel
theorem dCo_squareFrom_31 : decode prog_3_method_7_code 31 = .ok (.ireturn, 1) := by decide +kernel
theorem dCo_squareTo_0 : decode prog_3_method_6_code 0 = .ok (.ldc 36, 2) := by decide +kernel
theorem dCo_squareTo_2 : decode prog_3_method_6_code 2 = .ok (.istore_n 3, 1) := by decide +kernel
theorem dCo_squareTo_3 : decode prog_3_method_6_code 3 = .ok (.iconst 0, 1) := by decide +kernel
theorem dCo_squareTo_4 : decode prog_3_method_6_code 4 = .ok (.istore 4, 2) := by decide +kernel
theorem dCo_squareTo_6 : decode prog_3_method_6_code 6 = .ok (.iload 4, 2) := by decide +kernel
theorem dCo_squareTo_8 : decode prog_3_method_6_code 8 = .ok (.aload_n 0, 1) := by decide +kernel
theorem dCo_squareTo_9 : decode prog_3_method_6_code 9 = .ok (.getfield 9, 3) := by decide +kernel
theorem dCo_squareTo_12 : decode prog_3_method_6_code 12 = .ok (.if_icmp .ge 22, 3) := by decide +kernel
theorem dCo_squareTo_15 : decode prog_3_method_6_code 15 = .ok (.iload_n 3, 1) := by decide +kernel
theorem dCo_squareTo_16 : decode prog_3_method_6_code 16 = .ok (.aload_n 0, 1) := by decide +kernel
theorem dCo_squareTo_17 : decode prog_3_method_6_code 17 = .ok (.iload 4, 2) := by decide +kernel
theorem dCo_squareTo_19 : decode prog_3_method_6_code 19 = .ok (.iload_n 1, 1) := by decide +kernel
theorem dCo_squareTo_20 : decode prog_3_method_6_code 20 = .ok (.iload_n 2, 1) := by decide +kernel
theorem dCo_squareTo_21 : decode prog_3_method_6_code 21 = .ok (.invokevirtual 37, 3) := by decide +kernel
theorem dCo_squareTo_24 : decode prog_3_method_6_code 24 = .ok (.invokestatic 41, 3) := by decide +kernel
theorem dCo_squareTo_27 : decode prog_3_method_6_code 27 = .ok (.istore_n 3, 1) := by decide +kernel
