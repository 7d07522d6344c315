theorem dAc_init_0 : decode prog_31_method_1_code 0 = .ok (.aload_n 0, 1) := by decide +kernel
theorem dAc_init_1 : decode prog_31_method_1_code 1 = .ok (.invokespecial 1, 3) := by decide +kernel
theorem dAc_init_4 : decode prog_31_method_1_code 4 = .ok (.return_, 1) := by decide +kernel
theorem dAb_init_0 : decode prog_32_method_1_code 0 = .ok (.aload_n 0, 1) := by decide +kernel
theorem dAb_init_1 : decode prog_32_method_1_code 1 = .ok (.invokespecial 1, 3) := by decide +kernel
theorem dAb_init_4 : decode prog_32_method_1_code 4 = .ok (.aload_n 0, 1) := by decide +kernel
theorem dAb_init_5 : decode prog_32_method_1_code 5 = .ok (.iconst 0, 1) := by decide +kernel
theorem dAb_init_6 : decode prog_32_method_1_code 6 = .ok (.putfield 7, 3) := by decide +kernel
theorem dAb_init_9 : decode prog_32_method_1_code 9 = .ok (.return_, 1) := by decide +kernel
theorem dAl_init_0 : decode prog_33_method_2_code 0 = .ok (.aload_n 0, 1) := by decide +kernel
theorem dAl_init_1 : decode prog_33_method_2_code 1 = .ok (.invokespecial 1, 3) := by decide +kernel
theorem dAl_init_4 : decode prog_33_method_2_code 4 = .ok (.aload_n 0, 1) := by decide +kernel
theorem dAl_init_5 : decode prog_33_method_2_code 5 = .ok (.getstatic 39, 3) := by decide +kernel
theorem dAl_init_8 : decode prog_33_method_2_code 8 = .ok (.putfield 9, 3) := by decide +kernel
theorem dAl_init_11 : decode prog_33_method_2_code 11 = .ok (.return_, 1) := by decide +kernel
theorem dMa_min_0 : decode prog_23_method_69_code 0 = .ok (.iload_n 0, 1) := by decide +kernel
theorem dMa_min_1 : decode prog_23_method_69_code 1 = .ok (.iload_n 1, 1) := by decide +kernel
theorem dMa_min_2 : decode prog_23_method_69_code 2 = .ok (.if_icmp .gt 7, 3) := by decide +kernel
theorem dMa_min_5 : decode prog_23_method_69_code 5 = .ok (.iload_n 0, 1) := by decide +kernel
theorem dMa_min_6 : decode prog_23_method_69_code 6 = .ok (.goto 4, 3) := by decide +kernel
theorem dMa_min_9 : decode prog_23_method_69_code 9 = .ok (.iload_n 1, 1) := by decide +kernel
theorem dMa_min_10 : decode prog_23_method_69_code 10 = .ok (.ireturn, 1) := by decide +kernel
theorem dAs_copyOf_0 : decode prog_34_method_123_code 0 = .ok (.iload_n 1, 1) := by decide +kernel
theorem dAs_copyOf_1 : decode prog_34_method_123_code 1 = .ok (.aload_n 0, 1) := by decide +kernel
theorem dAs_copyOf_2 : decode prog_34_method_123_code 2 = .ok (.arraylength, 1) := by decide +kernel
theorem dAs_copyOf_3 : decode prog_34_method_123_code 3 = .ok (.if_icmp .ne 11, 3) := by decide +kernel
theorem dAs_copyOf_6 : decode prog_34_method_123_code 6 = .ok (.aload_n 0, 1) := by decide +kernel
theorem dAs_copyOf_7 : decode prog_34_method_123_code 7 = .ok (.invokevirtual 316, 3) := by decide +kernel
theorem dAs_copyOf_10 : decode prog_34_method_123_code 10 = .ok (.checkcast 317, 3) := by decide +kernel
theorem dAs_copyOf_13 : decode prog_34_method_123_code 13 = .ok (.areturn, 1) := by decide +kernel
theorem dAs_copyOf_14 : decode prog_34_method_123_code 14 = .ok (.iload_n 1, 1) := by decide +kernel
theorem dAs_copyOf_15 : decode prog_34_method_123_code 15 = .ok (.newarray .int, 2) := by decide +kernel
theorem dAs_copyOf_17 : decode prog_34_method_123_code 17 = .ok (.astore_n 2, 1) := by decide +kernel
theorem dAs_copyOf_18 : decode prog_34_method_123_code 18 = .ok (.aload_n 0, 1) := by decide +kernel
theorem dAs_copyOf_19 : decode prog_34_method_123_code 19 = .ok (.iconst 0, 1) := by decide +kernel
theorem dAs_copyOf_20 : decode prog_34_method_123_code 20 = .ok (.aload_n 2, 1) := by decide +kernel
theorem dAs_copyOf_21 : decode prog_34_method_123_code 21 = .ok (.iconst 0, 1) := by decide +kernel
theorem dAs_copyOf_22 : decode prog_34_method_123_code 22 = .ok (.aload_n 0, 1) := by decide +kernel
theorem dAs_copyOf_23 : decode prog_34_method_123_code 23 = .ok (.arraylength, 1) := by decide +kernel
theorem dAs_copyOf_24 : decode prog_34_method_123_code 24 = .ok (.iload_n 1, 1) := by decide +kernel
theorem dAs_copyOf_25 : decode prog_34_method_123_code 25 = .ok (.invokestatic 304, 3) := by decide +kernel
theorem dAs_copyOf_28 : decode prog_34_method_123_code 28 = .ok (.invokestatic 150, 3) := by decide +kernel
theorem dAs_copyOf_31 : decode prog_34_method_123_code 31 = .ok (.aload_n 2, 1) := by decide +kernel
theorem dAs_copyOf_32 : decode prog_34_method_123_code 32 = .ok (.areturn, 1) := by decide +kernel
theorem dCo_init_0 : decode prog_3_method_1_code 0 = .ok (.aload_n 0, 1) := by decide +kernel
theorem dCo_init_1 : decode prog_3_method_1_code 1 = .ok (.invokespecial 3, 3) := by decide +kernel
theorem dCo_init_4 : decode prog_3_method_1_code 4 = .ok (.aload_n 0, 1) := by decide +kernel
theorem dCo_init_5 : decode prog_3_method_1_code 5 = .ok (.iload_n 3, 1) := by decide +kernel
theorem dCo_init_6 : decode prog_3_method_1_code 6 = .ok (.putfield 9, 3) := by decide +kernel
theorem dCo_init_9 : decode prog_3_method_1_code 9 = .ok (.aload_n 0, 1) := by decide +kernel
theorem dCo_init_10 : decode prog_3_method_1_code 10 = .ok (.aload_n 1, 1) := by decide +kernel
theorem dCo_init_11 : decode prog_3_method_1_code 11 = .ok (.iload_n 3, 1) := by decide +kernel
theorem dCo_init_12 : decode prog_3_method_1_code 12 = .ok (.invokestatic 15, 3) := by decide +kernel
theorem dCo_init_15 : decode prog_3_method_1_code 15 = .ok (.putfield 21, 3) := by decide +kernel
theorem dCo_init_18 : decode prog_3_method_1_code 18 = .ok (.aload_n 0, 1) := by decide +kernel
theorem dCo_init_19 : decode prog_3_method_1_code 19 = .ok (.aload_n 2, 1) := by decide +kernel
theorem dCo_init_20 : decode prog_3_method_1_code 20 = .ok (.iload_n 3, 1) := by decide +kernel
theorem dCo_init_21 : decode prog_3_method_1_code 21 = .ok (.invokestatic 15, 3) := by decide +kernel
theorem dCo_init_24 : decode prog_3_method_1_code 24 = .ok (.putfield 25, 3) := by decide +kernel
theorem dCo_init_27 : decode prog_3_method_1_code 27 = .ok (.return_, 1) := by decide +kernel
theorem dHi_init_0 : decode prog_5_method_1_code 0 = .ok (.aload_n 0, 1) := by decide +kernel
theorem dHi_init_1 : decode prog_5_method_1_code 1 = .ok (.invokespecial 3, 3) := by decide +kernel
theorem dHi_init_4 : decode prog_5_method_1_code 4 = .ok (.aload_n 0, 1) := by decide +kernel
theorem dHi_init_5 : decode prog_5_method_1_code 5 = .ok (.bipush 30, 2) := by decide +kernel
theorem dHi_init_7 : decode prog_5_method_1_code 7 = .ok (.newarray .int, 2) := by decide +kernel
theorem dHi_init_9 : decode prog_5_method_1_code 9 = .ok (.putfield 9, 3) := by decide +kernel
theorem dHi_init_12 : decode prog_5_method_1_code 12 = .ok (.aload_n 0, 1) := by decide +kernel
theorem dHi_init_13 : decode prog_5_method_1_code 13 = .ok (.bipush 30, 2) := by decide +kernel
theorem dHi_init_15 : decode prog_5_method_1_code 15 = .ok (.newarray .long, 2) := by decide +kernel
theorem dHi_init_17 : decode prog_5_method_1_code 17 = .ok (.putfield 15, 3) := by decide +kernel
theorem dHi_init_20 : decode prog_5_method_1_code 20 = .ok (.aload_n 0, 1) := by decide +kernel
theorem dHi_init_21 : decode prog_5_method_1_code 21 = .ok (.iconst 0, 1) := by decide +kernel
theorem dHi_init_22 : decode prog_5_method_1_code 22 = .ok (.putfield 19, 3) := by decide +kernel
theorem dHi_init_25 : decode prog_5_method_1_code 25 = .ok (.return_, 1) := by decide +kernel
theorem dEc_init_0 : decode prog_4_method_1_code 0 = .ok (.aload_n 0, 1) := by decide +kernel
theorem dEc_init_1 : decode prog_4_method_1_code 1 = .ok (.invokespecial 3, 3) := by decide +kernel
theorem dEc_init_4 : decode prog_4_method_1_code 4 = .ok (.aload_n 0, 1) := by decide +kernel
theorem dEc_init_5 : decode prog_4_method_1_code 5 = .ok (.bipush 11, 2) := by decide +kernel
theorem dEc_init_7 : decode prog_4_method_1_code 7 = .ok (.bipush 11, 2) := by decide +kernel
theorem dEc_init_9 : decode prog_4_method_1_code 9 = .ok (.multianewarray 9 2, 4) := by decide +kernel
theorem dEc_init_13 : decode prog_4_method_1_code 13 = .ok (.putfield 11, 3) := by decide +kernel
theorem dEc_init_16 : decode prog_4_method_1_code 16 = .ok (.return_, 1) := by decide +kernel
theorem dRs_init_0 : decode prog_9_method_1_code 0 = .ok (.aload_n 0, 1) := by decide +kernel
theorem dRs_init_1 : decode prog_9_method_1_code 1 = .ok (.invokespecial 1, 3) := by decide +kernel
theorem dRs_init_4 : decode prog_9_method_1_code 4 = .ok (.return_, 1) := by decide +kernel
theorem dWo_joinedLetter_0 : decode prog_11_method_2_code 0 = .ok (.iload_n 0, 1) := by decide +kernel
theorem dWo_joinedLetter_1 : decode prog_11_method_2_code 1 = .ok (.bipush 112, 2) := by decide +kernel
theorem dWo_joinedLetter_3 : decode prog_11_method_2_code 3 = .ok (.if_icmp .ne 12, 3) := by decide +kernel
theorem dWo_joinedLetter_6 : decode prog_11_method_2_code 6 = .ok (.iload_n 1, 1) := by decide +kernel
theorem dWo_joinedLetter_7 : decode prog_11_method_2_code 7 = .ok (.bipush 104, 2) := by decide +kernel
theorem dWo_joinedLetter_9 : decode prog_11_method_2_code 9 = .ok (.if_icmp .ne 6, 3) := by decide +kernel
theorem dWo_joinedLetter_12 : decode prog_11_method_2_code 12 = .ok (.bipush 102, 2) := by decide +kernel
theorem dWo_joinedLetter_14 : decode prog_11_method_2_code 14 = .ok (.ireturn, 1) := by decide +kernel
theorem dWo_joinedLetter_15 : decode prog_11_method_2_code 15 = .ok (.iload_n 0, 1) := by decide +kernel
theorem dWo_joinedLetter_16 : decode prog_11_method_2_code 16 = .ok (.bipush 99, 2) := by decide +kernel
theorem dWo_joinedLetter_18 : decode prog_11_method_2_code 18 = .ok (.if_icmp .ne 9, 3) := by decide +kernel
theorem dWo_joinedLetter_21 : decode prog_11_method_2_code 21 = .ok (.iload_n 1, 1) := by decide +kernel
theorem dWo_joinedLetter_22 : decode prog_11_method_2_code 22 = .ok (.bipush 107, 2) := by decide +kernel
theorem dWo_joinedLetter_24 : decode prog_11_method_2_code 24 = .ok (.if_icmp .eq 15, 3) := by decide +kernel
theorem dWo_joinedLetter_27 : decode prog_11_method_2_code 27 = .ok (.iload_n 0, 1) := by decide +kernel
theorem dWo_joinedLetter_28 : decode prog_11_method_2_code 28 = .ok (.bipush 113, 2) := by decide +kernel
theorem dWo_joinedLetter_30 : decode prog_11_method_2_code 30 = .ok (.if_icmp .ne 12, 3) := by decide +kernel
theorem dWo_joinedLetter_33 : decode prog_11_method_2_code 33 = .ok (.iload_n 1, 1) := by decide +kernel
theorem dWo_joinedLetter_34 : decode prog_11_method_2_code 34 = .ok (.bipush 117, 2) := by decide +kernel
theorem dWo_joinedLetter_36 : decode prog_11_method_2_code 36 = .ok (.if_icmp .ne 6, 3) := by decide +kernel
theorem dWo_joinedLetter_39 : decode prog_11_method_2_code 39 = .ok (.bipush 107, 2) := by decide +kernel
theorem dWo_joinedLetter_41 : decode prog_11_method_2_code 41 = .ok (.ireturn, 1) := by decide +kernel
theorem dWo_joinedLetter_42 : decode prog_11_method_2_code 42 = .ok (.iload_n 0, 1) := by decide +kernel
theorem dWo_joinedLetter_43 : decode prog_11_method_2_code 43 = .ok (.bipush 116, 2) := by decide +kernel
theorem dWo_joinedLetter_45 : decode prog_11_method_2_code 45 = .ok (.if_icmp .ne 14, 3) := by decide +kernel
theorem dWo_joinedLetter_48 : decode prog_11_method_2_code 48 = .ok (.iload_n 1, 1) := by decide +kernel
theorem dWo_joinedLetter_49 : decode prog_11_method_2_code 49 = .ok (.bipush 104, 2) := by decide +kernel
theorem dWo_joinedLetter_51 : decode prog_11_method_2_code 51 = .ok (.if_icmp .ne 8, 3) := by decide +kernel
theorem dWo_joinedLetter_54 : decode prog_11_method_2_code 54 = .ok (.bipush 116, 2) := by decide +kernel
theorem dWo_joinedLetter_56 : decode prog_11_method_2_code 56 = .ok (.goto 4, 3) := by decide +kernel
theorem dWo_joinedLetter_59 : decode prog_11_method_2_code 59 = .ok (.iconst 0, 1) := by decide +kernel
theorem dWo_joinedLetter_60 : decode prog_11_method_2_code 60 = .ok (.ireturn, 1) := by decide +kernel
theorem dWo_init_0 : decode prog_11_method_1_code 0 = .ok (.aload_n 0, 1) := by decide +kernel
theorem dWo_init_1 : decode prog_11_method_1_code 1 = .ok (.invokespecial 3, 3) := by decide +kernel
theorem dWo_init_4 : decode prog_11_method_1_code 4 = .ok (.aload_n 0, 1) := by decide +kernel
theorem dWo_init_5 : decode prog_11_method_1_code 5 = .ok (.iload_n 2, 1) := by decide +kernel
theorem dWo_init_6 : decode prog_11_method_1_code 6 = .ok (.newarray .char, 2) := by decide +kernel
theorem dWo_init_8 : decode prog_11_method_1_code 8 = .ok (.putfield 9, 3) := by decide +kernel
theorem dWo_init_11 : decode prog_11_method_1_code 11 = .ok (.iconst 0, 1) := by decide +kernel
theorem dWo_init_12 : decode prog_11_method_1_code 12 = .ok (.istore_n 3, 1) := by decide +kernel
theorem dWo_init_13 : decode prog_11_method_1_code 13 = .ok (.iconst 0, 1) := by decide +kernel
theorem dWo_init_14 : decode prog_11_method_1_code 14 = .ok (.istore 4, 2) := by decide +kernel
theorem dWo_init_16 : decode prog_11_method_1_code 16 = .ok (.iload 4, 2) := by decide +kernel
theorem dWo_init_18 : decode prog_11_method_1_code 18 = .ok (.iload_n 2, 1) := by decide +kernel
theorem dWo_init_19 : decode prog_11_method_1_code 19 = .ok (.if_icmp .ge 116, 3) := by decide +kernel
theorem dWo_init_22 : decode prog_11_method_1_code 22 = .ok (.iload 4, 2) := by decide +kernel
theorem dWo_init_24 : decode prog_11_method_1_code 24 = .ok (.iconst 1, 1) := by decide +kernel
theorem dWo_init_25 : decode prog_11_method_1_code 25 = .ok (.iadd, 1) := by decide +kernel
theorem dWo_init_26 : decode prog_11_method_1_code 26 = .ok (.iload_n 2, 1) := by decide +kernel
theorem dWo_init_27 : decode prog_11_method_1_code 27 = .ok (.if_icmp .ge 19, 3) := by decide +kernel
theorem dWo_init_30 : decode prog_11_method_1_code 30 = .ok (.aload_n 1, 1) := by decide +kernel
theorem dWo_init_31 : decode prog_11_method_1_code 31 = .ok (.iload 4, 2) := by decide +kernel
theorem dWo_init_33 : decode prog_11_method_1_code 33 = .ok (.caload, 1) := by decide +kernel
theorem dWo_init_34 : decode prog_11_method_1_code 34 = .ok (.aload_n 1, 1) := by decide +kernel
theorem dWo_init_35 : decode prog_11_method_1_code 35 = .ok (.iload 4, 2) := by decide +kernel
theorem dWo_init_37 : decode prog_11_method_1_code 37 = .ok (.iconst 1, 1) := by decide +kernel
theorem dWo_init_38 : decode prog_11_method_1_code 38 = .ok (.iadd, 1) := by decide +kernel
theorem dWo_init_39 : decode prog_11_method_1_code 39 = .ok (.caload, 1) := by decide +kernel
theorem dWo_init_40 : decode prog_11_method_1_code 40 = .ok (.invokestatic 15, 3) := by decide +kernel
theorem dWo_init_43 : decode prog_11_method_1_code 43 = .ok (.goto 4, 3) := by decide +kernel
theorem dWo_init_46 : decode prog_11_method_1_code 46 = .ok (.iconst 0, 1) := by decide +kernel
theorem dWo_init_47 : decode prog_11_method_1_code 47 = .ok (.istore 5, 2) := by decide +kernel
theorem dWo_init_49 : decode prog_11_method_1_code 49 = .ok (.iload 5, 2) := by decide +kernel
theorem dWo_init_51 : decode prog_11_method_1_code 51 = .ok (.ifCond .ne 10, 3) := by decide +kernel
theorem dWo_init_54 : decode prog_11_method_1_code 54 = .ok (.aload_n 1, 1) := by decide +kernel
theorem dWo_init_55 : decode prog_11_method_1_code 55 = .ok (.iload 4, 2) := by decide +kernel
theorem dWo_init_57 : decode prog_11_method_1_code 57 = .ok (.caload, 1) := by decide +kernel
theorem dWo_init_58 : decode prog_11_method_1_code 58 = .ok (.goto 5, 3) := by decide +kernel
theorem dWo_init_61 : decode prog_11_method_1_code 61 = .ok (.iload 5, 2) := by decide +kernel
theorem dWo_init_63 : decode prog_11_method_1_code 63 = .ok (.istore 6, 2) := by decide +kernel
theorem dWo_init_65 : decode prog_11_method_1_code 65 = .ok (.iload 5, 2) := by decide +kernel
theorem dWo_init_67 : decode prog_11_method_1_code 67 = .ok (.ifCond .eq 9, 3) := by decide +kernel
theorem dWo_init_70 : decode prog_11_method_1_code 70 = .ok (.iinc 4 1, 3) := by decide +kernel
theorem dWo_init_73 : decode prog_11_method_1_code 73 = .ok (.goto 28, 3) := by decide +kernel
theorem dWo_init_76 : decode prog_11_method_1_code 76 = .ok (.iload 4, 2) := by decide +kernel
theorem dWo_init_78 : decode prog_11_method_1_code 78 = .ok (.iconst 1, 1) := by decide +kernel
theorem dWo_init_79 : decode prog_11_method_1_code 79 = .ok (.iadd, 1) := by decide +kernel
theorem dWo_init_80 : decode prog_11_method_1_code 80 = .ok (.iload_n 2, 1) := by decide +kernel
theorem dWo_init_81 : decode prog_11_method_1_code 81 = .ok (.if_icmp .ge 20, 3) := by decide +kernel
theorem dWo_init_84 : decode prog_11_method_1_code 84 = .ok (.aload_n 1, 1) := by decide +kernel
theorem dWo_init_85 : decode prog_11_method_1_code 85 = .ok (.iload 4, 2) := by decide +kernel
theorem dWo_init_87 : decode prog_11_method_1_code 87 = .ok (.iconst 1, 1) := by decide +kernel
theorem dWo_init_88 : decode prog_11_method_1_code 88 = .ok (.iadd, 1) := by decide +kernel
theorem dWo_init_89 : decode prog_11_method_1_code 89 = .ok (.caload, 1) := by decide +kernel
theorem dWo_init_90 : decode prog_11_method_1_code 90 = .ok (.iload 6, 2) := by decide +kernel
theorem dWo_init_92 : decode prog_11_method_1_code 92 = .ok (.if_icmp .ne 9, 3) := by decide +kernel
theorem dWo_init_95 : decode prog_11_method_1_code 95 = .ok (.iinc 4 1, 3) := by decide +kernel
theorem dWo_init_98 : decode prog_11_method_1_code 98 = .ok (.goto (-22), 3) := by decide +kernel
theorem dWo_init_101 : decode prog_11_method_1_code 101 = .ok (.iload_n 3, 1) := by decide +kernel
theorem dWo_init_102 : decode prog_11_method_1_code 102 = .ok (.ifCond .eq 16, 3) := by decide +kernel
theorem dWo_init_105 : decode prog_11_method_1_code 105 = .ok (.aload_n 0, 1) := by decide +kernel
theorem dWo_init_106 : decode prog_11_method_1_code 106 = .ok (.getfield 9, 3) := by decide +kernel
theorem dWo_init_109 : decode prog_11_method_1_code 109 = .ok (.iload_n 3, 1) := by decide +kernel
theorem dWo_init_110 : decode prog_11_method_1_code 110 = .ok (.iconst 1, 1) := by decide +kernel
theorem dWo_init_111 : decode prog_11_method_1_code 111 = .ok (.isub, 1) := by decide +kernel
theorem dWo_init_112 : decode prog_11_method_1_code 112 = .ok (.caload, 1) := by decide +kernel
theorem dWo_init_113 : decode prog_11_method_1_code 113 = .ok (.iload 6, 2) := by decide +kernel
theorem dWo_init_115 : decode prog_11_method_1_code 115 = .ok (.if_icmp .eq 14, 3) := by decide +kernel
theorem dWo_init_118 : decode prog_11_method_1_code 118 = .ok (.aload_n 0, 1) := by decide +kernel
theorem dWo_init_119 : decode prog_11_method_1_code 119 = .ok (.getfield 9, 3) := by decide +kernel
theorem dWo_init_122 : decode prog_11_method_1_code 122 = .ok (.iload_n 3, 1) := by decide +kernel
theorem dWo_init_123 : decode prog_11_method_1_code 123 = .ok (.iload 6, 2) := by decide +kernel
theorem dWo_init_125 : decode prog_11_method_1_code 125 = .ok (.castore, 1) := by decide +kernel
theorem dWo_init_126 : decode prog_11_method_1_code 126 = .ok (.iinc 3 1, 3) := by decide +kernel
theorem dWo_init_129 : decode prog_11_method_1_code 129 = .ok (.iinc 4 1, 3) := by decide +kernel
theorem dWo_init_132 : decode prog_11_method_1_code 132 = .ok (.goto (-116), 3) := by decide +kernel
theorem dWo_init_135 : decode prog_11_method_1_code 135 = .ok (.aload_n 0, 1) := by decide +kernel
theorem dWo_init_136 : decode prog_11_method_1_code 136 = .ok (.iload_n 3, 1) := by decide +kernel
theorem dWo_init_137 : decode prog_11_method_1_code 137 = .ok (.putfield 19, 3) := by decide +kernel
theorem dWo_init_140 : decode prog_11_method_1_code 140 = .ok (.return_, 1) := by decide +kernel
theorem dCn_init_0 : decode prog_2_method_1_code 0 = .ok (.aload_n 0, 1) := by decide +kernel
theorem dCn_init_1 : decode prog_2_method_1_code 1 = .ok (.invokespecial 1, 3) := by decide +kernel
theorem dCn_init_4 : decode prog_2_method_1_code 4 = .ok (.aload_n 0, 1) := by decide +kernel
theorem dCn_init_5 : decode prog_2_method_1_code 5 = .ok (.iload_n 1, 1) := by decide +kernel
theorem dCn_init_6 : decode prog_2_method_1_code 6 = .ok (.putfield 7, 3) := by decide +kernel
theorem dCn_init_9 : decode prog_2_method_1_code 9 = .ok (.aload_n 0, 1) := by decide +kernel
theorem dCn_init_10 : decode prog_2_method_1_code 10 = .ok (.iload_n 2, 1) := by decide +kernel
theorem dCn_init_11 : decode prog_2_method_1_code 11 = .ok (.putfield 13, 3) := by decide +kernel
theorem dCn_init_14 : decode prog_2_method_1_code 14 = .ok (.aload_n 0, 1) := by decide +kernel
theorem dCn_init_15 : decode prog_2_method_1_code 15 = .ok (.iload_n 3, 1) := by decide +kernel
theorem dCn_init_16 : decode prog_2_method_1_code 16 = .ok (.putfield 16, 3) := by decide +kernel
theorem dCn_init_19 : decode prog_2_method_1_code 19 = .ok (.aload_n 0, 1) := by decide +kernel
theorem dCn_init_20 : decode prog_2_method_1_code 20 = .ok (.iload 4, 2) := by decide +kernel
theorem dCn_init_22 : decode prog_2_method_1_code 22 = .ok (.putfield 19, 3) := by decide +kernel
theorem dCn_init_25 : decode prog_2_method_1_code 25 = .ok (.aload_n 0, 1) := by decide +kernel
theorem dCn_init_26 : decode prog_2_method_1_code 26 = .ok (.aload 5, 2) := by decide +kernel
theorem dCn_init_28 : decode prog_2_method_1_code 28 = .ok (.putfield 22, 3) := by decide +kernel
theorem dCn_init_31 : decode prog_2_method_1_code 31 = .ok (.return_, 1) := by decide +kernel
theorem dP_init_0 : decode prog_1_method_1_code 0 = .ok (.aload_n 0, 1) := by decide +kernel
theorem dP_init_1 : decode prog_1_method_1_code 1 = .ok (.invokespecial 1, 3) := by decide +kernel
theorem dP_init_4 : decode prog_1_method_1_code 4 = .ok (.aload_n 0, 1) := by decide +kernel
theorem dP_init_5 : decode prog_1_method_1_code 5 = .ok (.new 7, 3) := by decide +kernel
theorem dP_init_8 : decode prog_1_method_1_code 8 = .ok (.dup, 1) := by decide +kernel
theorem dP_init_9 : decode prog_1_method_1_code 9 = .ok (.invokespecial 9, 3) := by decide +kernel
theorem dP_init_12 : decode prog_1_method_1_code 12 = .ok (.putfield 10, 3) := by decide +kernel
theorem dP_init_15 : decode prog_1_method_1_code 15 = .ok (.aload_n 0, 1) := by decide +kernel
theorem dP_init_16 : decode prog_1_method_1_code 16 = .ok (.bipush 8, 2) := by decide +kernel
theorem dP_init_18 : decode prog_1_method_1_code 18 = .ok (.newarray .int, 2) := by decide +kernel
theorem dP_init_20 : decode prog_1_method_1_code 20 = .ok (.putfield 16, 3) := by decide +kernel
theorem dP_init_23 : decode prog_1_method_1_code 23 = .ok (.aload_n 0, 1) := by decide +kernel
theorem dP_init_24 : decode prog_1_method_1_code 24 = .ok (.bipush 8, 2) := by decide +kernel
theorem dP_init_26 : decode prog_1_method_1_code 26 = .ok (.newarray .int, 2) := by decide +kernel
theorem dP_init_28 : decode prog_1_method_1_code 28 = .ok (.putfield 20, 3) := by decide +kernel
theorem dP_init_31 : decode prog_1_method_1_code 31 = .ok (.aload_n 0, 1) := by decide +kernel
theorem dP_init_32 : decode prog_1_method_1_code 32 = .ok (.iconst 0, 1) := by decide +kernel
theorem dP_init_33 : decode prog_1_method_1_code 33 = .ok (.putfield 23, 3) := by decide +kernel
theorem dP_init_36 : decode prog_1_method_1_code 36 = .ok (.aload_n 0, 1) := by decide +kernel
theorem dP_init_37 : decode prog_1_method_1_code 37 = .ok (.new 27, 3) := by decide +kernel
theorem dP_init_40 : decode prog_1_method_1_code 40 = .ok (.dup, 1) := by decide +kernel
theorem dP_init_41 : decode prog_1_method_1_code 41 = .ok (.iconst 0, 1) := by decide +kernel
theorem dP_init_42 : decode prog_1_method_1_code 42 = .ok (.newarray .int, 2) := by decide +kernel
theorem dP_init_44 : decode prog_1_method_1_code 44 = .ok (.iconst 0, 1) := by decide +kernel
theorem dP_init_45 : decode prog_1_method_1_code 45 = .ok (.newarray .int, 2) := by decide +kernel
theorem dP_init_47 : decode prog_1_method_1_code 47 = .ok (.iconst 0, 1) := by decide +kernel
theorem dP_init_48 : decode prog_1_method_1_code 48 = .ok (.invokespecial 29, 3) := by decide +kernel
theorem dP_init_51 : decode prog_1_method_1_code 51 = .ok (.putfield 32, 3) := by decide +kernel
theorem dP_init_54 : decode prog_1_method_1_code 54 = .ok (.aload_n 0, 1) := by decide +kernel
theorem dP_init_55 : decode prog_1_method_1_code 55 = .ok (.bipush 10, 2) := by decide +kernel
theorem dP_init_57 : decode prog_1_method_1_code 57 = .ok (.newarray .char, 2) := by decide +kernel
theorem dP_init_59 : decode prog_1_method_1_code 59 = .ok (.putfield 36, 3) := by decide +kernel
theorem dP_init_62 : decode prog_1_method_1_code 62 = .ok (.aload_n 0, 1) := by decide +kernel
theorem dP_init_63 : decode prog_1_method_1_code 63 = .ok (.iconst 0, 1) := by decide +kernel
theorem dP_init_64 : decode prog_1_method_1_code 64 = .ok (.putfield 40, 3) := by decide +kernel
theorem dP_init_67 : decode prog_1_method_1_code 67 = .ok (.aload_n 0, 1) := by decide +kernel
theorem dP_init_68 : decode prog_1_method_1_code 68 = .ok (.new 7, 3) := by decide +kernel
theorem dP_init_71 : decode prog_1_method_1_code 71 = .ok (.dup, 1) := by decide +kernel
theorem dP_init_72 : decode prog_1_method_1_code 72 = .ok (.invokespecial 9, 3) := by decide +kernel
theorem dP_init_75 : decode prog_1_method_1_code 75 = .ok (.putfield 43, 3) := by decide +kernel
theorem dP_init_78 : decode prog_1_method_1_code 78 = .ok (.aload_n 0, 1) := by decide +kernel
theorem dP_init_79 : decode prog_1_method_1_code 79 = .ok (.iconst 4, 1) := by decide +kernel
theorem dP_init_80 : decode prog_1_method_1_code 80 = .ok (.anewarray 46, 3) := by decide +kernel
theorem dP_init_83 : decode prog_1_method_1_code 83 = .ok (.putfield 48, 3) := by decide +kernel
theorem dP_init_86 : decode prog_1_method_1_code 86 = .ok (.aload_n 0, 1) := by decide +kernel
theorem dP_init_87 : decode prog_1_method_1_code 87 = .ok (.new 52, 3) := by decide +kernel
theorem dP_init_90 : decode prog_1_method_1_code 90 = .ok (.dup, 1) := by decide +kernel
theorem dP_init_91 : decode prog_1_method_1_code 91 = .ok (.invokespecial 54, 3) := by decide +kernel
theorem dP_init_94 : decode prog_1_method_1_code 94 = .ok (.putfield 55, 3) := by decide +kernel
theorem dP_init_97 : decode prog_1_method_1_code 97 = .ok (.aload_n 0, 1) := by decide +kernel
theorem dP_init_98 : decode prog_1_method_1_code 98 = .ok (.new 59, 3) := by decide +kernel
theorem dP_init_101 : decode prog_1_method_1_code 101 = .ok (.dup, 1) := by decide +kernel
theorem dP_init_102 : decode prog_1_method_1_code 102 = .ok (.invokespecial 61, 3) := by decide +kernel
theorem dP_init_105 : decode prog_1_method_1_code 105 = .ok (.putfield 62, 3) := by decide +kernel
theorem dP_init_108 : decode prog_1_method_1_code 108 = .ok (.aload_n 0, 1) := by decide +kernel
theorem dP_init_109 : decode prog_1_method_1_code 109 = .ok (.new 66, 3) := by decide +kernel
theorem dP_init_112 : decode prog_1_method_1_code 112 = .ok (.dup, 1) := by decide +kernel
theorem dP_init_113 : decode prog_1_method_1_code 113 = .ok (.invokespecial 68, 3) := by decide +kernel
theorem dP_init_116 : decode prog_1_method_1_code 116 = .ok (.putfield 69, 3) := by decide +kernel
theorem dP_init_119 : decode prog_1_method_1_code 119 = .ok (.aload_n 0, 1) := by decide +kernel
theorem dP_init_120 : decode prog_1_method_1_code 120 = .ok (.new 73, 3) := by decide +kernel
theorem dP_init_123 : decode prog_1_method_1_code 123 = .ok (.dup, 1) := by decide +kernel
theorem dP_init_124 : decode prog_1_method_1_code 124 = .ok (.iconst 1, 1) := by decide +kernel
theorem dP_init_125 : decode prog_1_method_1_code 125 = .ok (.iconst 0, 1) := by decide +kernel
theorem dP_init_126 : decode prog_1_method_1_code 126 = .ok (.iconst 0, 1) := by decide +kernel
theorem dP_init_127 : decode prog_1_method_1_code 127 = .ok (.iconst 0, 1) := by decide +kernel
theorem dP_init_128 : decode prog_1_method_1_code 128 = .ok (.new 75, 3) := by decide +kernel
theorem dP_init_131 : decode prog_1_method_1_code 131 = .ok (.dup, 1) := by decide +kernel
theorem dP_init_132 : decode prog_1_method_1_code 132 = .ok (.iconst 0, 1) := by decide +kernel
theorem dP_init_133 : decode prog_1_method_1_code 133 = .ok (.newarray .char, 2) := by decide +kernel
theorem dP_init_135 : decode prog_1_method_1_code 135 = .ok (.iconst 0, 1) := by decide +kernel
theorem dP_init_136 : decode prog_1_method_1_code 136 = .ok (.invokespecial 77, 3) := by decide +kernel
theorem dP_init_139 : decode prog_1_method_1_code 139 = .ok (.invokespecial 80, 3) := by decide +kernel
theorem dP_init_142 : decode prog_1_method_1_code 142 = .ok (.putfield 83, 3) := by decide +kernel
theorem dP_init_145 : decode prog_1_method_1_code 145 = .ok (.return_, 1) := by decide +kernel
theorem dP_isKind_0 : decode prog_1_method_22_code 0 = .ok (.iload_n 0, 1) := by decide +kernel
theorem dP_isKind_1 : decode prog_1_method_22_code 1 = .ok (.ifCond .lt 13, 3) := by decide +kernel
theorem dP_isKind_4 : decode prog_1_method_22_code 4 = .ok (.iload_n 0, 1) := by decide +kernel
theorem dP_isKind_5 : decode prog_1_method_22_code 5 = .ok (.bipush 7, 2) := by decide +kernel
theorem dP_isKind_7 : decode prog_1_method_22_code 7 = .ok (.if_icmp .gt 7, 3) := by decide +kernel
theorem dP_isKind_10 : decode prog_1_method_22_code 10 = .ok (.iconst 1, 1) := by decide +kernel
theorem dP_isKind_11 : decode prog_1_method_22_code 11 = .ok (.goto 4, 3) := by decide +kernel
theorem dP_isKind_14 : decode prog_1_method_22_code 14 = .ok (.iconst 0, 1) := by decide +kernel
theorem dP_isKind_15 : decode prog_1_method_22_code 15 = .ok (.ireturn, 1) := by decide +kernel
theorem dAl_size_0 : decode prog_33_method_8_code 0 = .ok (.aload_n 0, 1) := by decide +kernel
theorem dAl_size_1 : decode prog_33_method_8_code 1 = .ok (.getfield 48, 3) := by decide +kernel
theorem dAl_size_4 : decode prog_33_method_8_code 4 = .ok (.ireturn, 1) := by decide +kernel
theorem dPl_init_0 : decode prog_8_method_1_code 0 = .ok (.aload_n 0, 1) := by decide +kernel
theorem dPl_init_1 : decode prog_8_method_1_code 1 = .ok (.invokespecial 3, 3) := by decide +kernel
theorem dPl_init_4 : decode prog_8_method_1_code 4 = .ok (.aload_n 0, 1) := by decide +kernel
theorem dPl_init_5 : decode prog_8_method_1_code 5 = .ok (.sipush 10000, 3) := by decide +kernel
theorem dPl_init_8 : decode prog_8_method_1_code 8 = .ok (.putfield 9, 3) := by decide +kernel
theorem dPl_init_11 : decode prog_8_method_1_code 11 = .ok (.aload_n 0, 1) := by decide +kernel
theorem dPl_init_12 : decode prog_8_method_1_code 12 = .ok (.new 15, 3) := by decide +kernel
theorem dPl_init_15 : decode prog_8_method_1_code 15 = .ok (.dup, 1) := by decide +kernel
theorem dPl_init_16 : decode prog_8_method_1_code 16 = .ok (.invokespecial 17, 3) := by decide +kernel
theorem dPl_init_19 : decode prog_8_method_1_code 19 = .ok (.putfield 18, 3) := by decide +kernel
theorem dPl_init_22 : decode prog_8_method_1_code 22 = .ok (.aload_n 0, 1) := by decide +kernel
theorem dPl_init_23 : decode prog_8_method_1_code 23 = .ok (.iconst 3, 1) := by decide +kernel
theorem dPl_init_24 : decode prog_8_method_1_code 24 = .ok (.newarray .int, 2) := by decide +kernel
theorem dPl_init_26 : decode prog_8_method_1_code 26 = .ok (.putfield 22, 3) := by decide +kernel
theorem dPl_init_29 : decode prog_8_method_1_code 29 = .ok (.aload_n 0, 1) := by decide +kernel
theorem dPl_init_30 : decode prog_8_method_1_code 30 = .ok (.new 15, 3) := by decide +kernel
theorem dPl_init_33 : decode prog_8_method_1_code 33 = .ok (.dup, 1) := by decide +kernel
theorem dPl_init_34 : decode prog_8_method_1_code 34 = .ok (.invokespecial 17, 3) := by decide +kernel
theorem dPl_init_37 : decode prog_8_method_1_code 37 = .ok (.putfield 26, 3) := by decide +kernel
theorem dPl_init_40 : decode prog_8_method_1_code 40 = .ok (.aload_n 0, 1) := by decide +kernel
theorem dPl_init_41 : decode prog_8_method_1_code 41 = .ok (.new 15, 3) := by decide +kernel
theorem dPl_init_44 : decode prog_8_method_1_code 44 = .ok (.dup, 1) := by decide +kernel
theorem dPl_init_45 : decode prog_8_method_1_code 45 = .ok (.invokespecial 17, 3) := by decide +kernel
theorem dPl_init_48 : decode prog_8_method_1_code 48 = .ok (.putfield 29, 3) := by decide +kernel
theorem dPl_init_51 : decode prog_8_method_1_code 51 = .ok (.aload_n 0, 1) := by decide +kernel
theorem dPl_init_52 : decode prog_8_method_1_code 52 = .ok (.iload_n 1, 1) := by decide +kernel
theorem dPl_init_53 : decode prog_8_method_1_code 53 = .ok (.putfield 32, 3) := by decide +kernel
theorem dPl_init_56 : decode prog_8_method_1_code 56 = .ok (.aload_n 0, 1) := by decide +kernel
theorem dPl_init_57 : decode prog_8_method_1_code 57 = .ok (.iload_n 2, 1) := by decide +kernel
theorem dPl_init_58 : decode prog_8_method_1_code 58 = .ok (.putfield 35, 3) := by decide +kernel
theorem dPl_init_61 : decode prog_8_method_1_code 61 = .ok (.return_, 1) := by decide +kernel
theorem dMa_max_0 : decode prog_23_method_65_code 0 = .ok (.iload_n 0, 1) := by decide +kernel
theorem dMa_max_1 : decode prog_23_method_65_code 1 = .ok (.iload_n 1, 1) := by decide +kernel
theorem dMa_max_2 : decode prog_23_method_65_code 2 = .ok (.if_icmp .lt 7, 3) := by decide +kernel
theorem dMa_max_5 : decode prog_23_method_65_code 5 = .ok (.iload_n 0, 1) := by decide +kernel
theorem dMa_max_6 : decode prog_23_method_65_code 6 = .ok (.goto 4, 3) := by decide +kernel
theorem dMa_max_9 : decode prog_23_method_65_code 9 = .ok (.iload_n 1, 1) := by decide +kernel
theorem dMa_max_10 : decode prog_23_method_65_code 10 = .ok (.ireturn, 1) := by decide +kernel
theorem dSu_newLength_0 : decode prog_41_method_27_code 0 = .ok (.iload_n 0, 1) := by decide +kernel
theorem dSu_newLength_1 : decode prog_41_method_27_code 1 = .ok (.iload_n 1, 1) := by decide +kernel
theorem dSu_newLength_2 : decode prog_41_method_27_code 2 = .ok (.iload_n 2, 1) := by decide +kernel
theorem dSu_newLength_3 : decode prog_41_method_27_code 3 = .ok (.invokestatic 194, 3) := by decide +kernel
theorem dSu_newLength_6 : decode prog_41_method_27_code 6 = .ok (.iadd, 1) := by decide +kernel
theorem dSu_newLength_7 : decode prog_41_method_27_code 7 = .ok (.istore_n 3, 1) := by decide +kernel
theorem dSu_newLength_8 : decode prog_41_method_27_code 8 = .ok (.iconst 0, 1) := by decide +kernel
theorem dSu_newLength_9 : decode prog_41_method_27_code 9 = .ok (.iload_n 3, 1) := by decide +kernel
theorem dSu_newLength_10 : decode prog_41_method_27_code 10 = .ok (.if_icmp .ge 11, 3) := by decide +kernel
theorem dSu_newLength_13 : decode prog_41_method_27_code 13 = .ok (.iload_n 3, 1) := by decide +kernel
theorem dSu_newLength_14 : decode prog_41_method_27_code 14 = .ok (.ldc 200, 2) := by decide +kernel
theorem dSu_newLength_16 : decode prog_41_method_27_code 16 = .ok (.if_icmp .gt 5, 3) := by decide +kernel
theorem dSu_newLength_19 : decode prog_41_method_27_code 19 = .ok (.iload_n 3, 1) := by decide +kernel
theorem dSu_newLength_20 : decode prog_41_method_27_code 20 = .ok (.ireturn, 1) := by decide +kernel
theorem dAs_copyOf3_0 : decode prog_34_method_120_code 0 = .ok (.aload_n 2, 1) := by decide +kernel
theorem dAs_copyOf3_1 : decode prog_34_method_120_code 1 = .ok (.ldc 110, 2) := by decide +kernel
theorem dAs_copyOf3_3 : decode prog_34_method_120_code 3 = .ok (.if_acmp .ne 10, 3) := by decide +kernel
theorem dAs_copyOf3_6 : decode prog_34_method_120_code 6 = .ok (.iload_n 1, 1) := by decide +kernel
theorem dAs_copyOf3_7 : decode prog_34_method_120_code 7 = .ok (.anewarray 2, 3) := by decide +kernel
theorem dAs_copyOf3_10 : decode prog_34_method_120_code 10 = .ok (.goto 14, 3) := by decide +kernel
theorem dAs_copyOf3_24 : decode prog_34_method_120_code 24 = .ok (.astore_n 3, 1) := by decide +kernel
theorem dAs_copyOf3_25 : decode prog_34_method_120_code 25 = .ok (.aload_n 0, 1) := by decide +kernel
theorem dAs_copyOf3_26 : decode prog_34_method_120_code 26 = .ok (.iconst 0, 1) := by decide +kernel
theorem dAs_copyOf3_27 : decode prog_34_method_120_code 27 = .ok (.aload_n 3, 1) := by decide +kernel
theorem dAs_copyOf3_28 : decode prog_34_method_120_code 28 = .ok (.iconst 0, 1) := by decide +kernel
theorem dAs_copyOf3_29 : decode prog_34_method_120_code 29 = .ok (.aload_n 0, 1) := by decide +kernel
theorem dAs_copyOf3_30 : decode prog_34_method_120_code 30 = .ok (.arraylength, 1) := by decide +kernel
theorem dAs_copyOf3_31 : decode prog_34_method_120_code 31 = .ok (.iload_n 1, 1) := by decide +kernel
theorem dAs_copyOf3_32 : decode prog_34_method_120_code 32 = .ok (.invokestatic 304, 3) := by decide +kernel
theorem dAs_copyOf3_35 : decode prog_34_method_120_code 35 = .ok (.invokestatic 150, 3) := by decide +kernel
theorem dAs_copyOf3_38 : decode prog_34_method_120_code 38 = .ok (.aload_n 3, 1) := by decide +kernel
theorem dAs_copyOf3_39 : decode prog_34_method_120_code 39 = .ok (.areturn, 1) := by decide +kernel
theorem dAs_copyOf2_0 : decode prog_34_method_119_code 0 = .ok (.aload_n 0, 1) := by decide +kernel
theorem dAs_copyOf2_1 : decode prog_34_method_119_code 1 = .ok (.iload_n 1, 1) := by decide +kernel
theorem dAs_copyOf2_2 : decode prog_34_method_119_code 2 = .ok (.aload_n 0, 1) := by decide +kernel
theorem dAs_copyOf2_3 : decode prog_34_method_119_code 3 = .ok (.invokevirtual 86, 3) := by decide +kernel
theorem dAs_copyOf2_6 : decode prog_34_method_119_code 6 = .ok (.invokestatic 300, 3) := by decide +kernel
theorem dAs_copyOf2_9 : decode prog_34_method_119_code 9 = .ok (.areturn, 1) := by decide +kernel
theorem dAl_grow2_0 : decode prog_33_method_6_code 0 = .ok (.aload_n 0, 1) := by decide +kernel
theorem dAl_grow2_1 : decode prog_33_method_6_code 1 = .ok (.getfield 9, 3) := by decide +kernel
theorem dAl_grow2_4 : decode prog_33_method_6_code 4 = .ok (.arraylength, 1) := by decide +kernel
theorem dAl_grow2_5 : decode prog_33_method_6_code 5 = .ok (.istore_n 2, 1) := by decide +kernel
theorem dAl_grow2_6 : decode prog_33_method_6_code 6 = .ok (.iload_n 2, 1) := by decide +kernel
theorem dAl_grow2_7 : decode prog_33_method_6_code 7 = .ok (.ifCond .gt 13, 3) := by decide +kernel
theorem dAl_grow2_10 : decode prog_33_method_6_code 10 = .ok (.aload_n 0, 1) := by decide +kernel
theorem dAl_grow2_11 : decode prog_33_method_6_code 11 = .ok (.getfield 9, 3) := by decide +kernel
theorem dAl_grow2_14 : decode prog_33_method_6_code 14 = .ok (.getstatic 39, 3) := by decide +kernel
theorem dAl_grow2_17 : decode prog_33_method_6_code 17 = .ok (.if_acmp .eq 28, 3) := by decide +kernel
theorem dAl_grow2_20 : decode prog_33_method_6_code 20 = .ok (.iload_n 2, 1) := by decide +kernel
theorem dAl_grow2_21 : decode prog_33_method_6_code 21 = .ok (.iload_n 1, 1) := by decide +kernel
theorem dAl_grow2_22 : decode prog_33_method_6_code 22 = .ok (.iload_n 2, 1) := by decide +kernel
theorem dAl_grow2_23 : decode prog_33_method_6_code 23 = .ok (.isub, 1) := by decide +kernel
theorem dAl_grow2_24 : decode prog_33_method_6_code 24 = .ok (.iload_n 2, 1) := by decide +kernel
theorem dAl_grow2_25 : decode prog_33_method_6_code 25 = .ok (.iconst 1, 1) := by decide +kernel
theorem dAl_grow2_26 : decode prog_33_method_6_code 26 = .ok (.ishr, 1) := by decide +kernel
theorem dAl_grow2_27 : decode prog_33_method_6_code 27 = .ok (.invokestatic 73, 3) := by decide +kernel
theorem dAl_grow2_30 : decode prog_33_method_6_code 30 = .ok (.istore_n 3, 1) := by decide +kernel
theorem dAl_grow2_31 : decode prog_33_method_6_code 31 = .ok (.aload_n 0, 1) := by decide +kernel
theorem dAl_grow2_32 : decode prog_33_method_6_code 32 = .ok (.aload_n 0, 1) := by decide +kernel
theorem dAl_grow2_33 : decode prog_33_method_6_code 33 = .ok (.getfield 9, 3) := by decide +kernel
theorem dAl_grow2_36 : decode prog_33_method_6_code 36 = .ok (.iload_n 3, 1) := by decide +kernel
theorem dAl_grow2_37 : decode prog_33_method_6_code 37 = .ok (.invokestatic 66, 3) := by decide +kernel
theorem dAl_grow2_40 : decode prog_33_method_6_code 40 = .ok (.dup_x1, 1) := by decide +kernel
theorem dAl_grow2_41 : decode prog_33_method_6_code 41 = .ok (.putfield 9, 3) := by decide +kernel
theorem dAl_grow2_44 : decode prog_33_method_6_code 44 = .ok (.areturn, 1) := by decide +kernel
theorem dAl_grow2_45 : decode prog_33_method_6_code 45 = .ok (.aload_n 0, 1) := by decide +kernel
theorem dAl_grow2_46 : decode prog_33_method_6_code 46 = .ok (.bipush 10, 2) := by decide +kernel
theorem dAl_grow2_48 : decode prog_33_method_6_code 48 = .ok (.iload_n 1, 1) := by decide +kernel
theorem dAl_grow2_49 : decode prog_33_method_6_code 49 = .ok (.invokestatic 79, 3) := by decide +kernel
theorem dAl_grow2_52 : decode prog_33_method_6_code 52 = .ok (.anewarray 7, 3) := by decide +kernel
theorem dAl_grow2_55 : decode prog_33_method_6_code 55 = .ok (.dup_x1, 1) := by decide +kernel
theorem dAl_grow2_56 : decode prog_33_method_6_code 56 = .ok (.putfield 9, 3) := by decide +kernel
theorem dAl_grow2_59 : decode prog_33_method_6_code 59 = .ok (.areturn, 1) := by decide +kernel
theorem dAl_grow_0 : decode prog_33_method_7_code 0 = .ok (.aload_n 0, 1) := by decide +kernel
theorem dAl_grow_1 : decode prog_33_method_7_code 1 = .ok (.aload_n 0, 1) := by decide +kernel
theorem dAl_grow_2 : decode prog_33_method_7_code 2 = .ok (.getfield 48, 3) := by decide +kernel
theorem dAl_grow_5 : decode prog_33_method_7_code 5 = .ok (.iconst 1, 1) := by decide +kernel
theorem dAl_grow_6 : decode prog_33_method_7_code 6 = .ok (.iadd, 1) := by decide +kernel
theorem dAl_grow_7 : decode prog_33_method_7_code 7 = .ok (.invokevirtual 69, 3) := by decide +kernel
theorem dAl_grow_10 : decode prog_33_method_7_code 10 = .ok (.areturn, 1) := by decide +kernel
theorem dAl_add2_0 : decode prog_33_method_24_code 0 = .ok (.iload_n 3, 1) := by decide +kernel
theorem dAl_add2_1 : decode prog_33_method_24_code 1 = .ok (.aload_n 2, 1) := by decide +kernel
theorem dAl_add2_2 : decode prog_33_method_24_code 2 = .ok (.arraylength, 1) := by decide +kernel
theorem dAl_add2_3 : decode prog_33_method_24_code 3 = .ok (.if_icmp .ne 8, 3) := by decide +kernel
theorem dAl_add2_6 : decode prog_33_method_24_code 6 = .ok (.aload_n 0, 1) := by decide +kernel
theorem dAl_add2_7 : decode prog_33_method_24_code 7 = .ok (.invokevirtual 129, 3) := by decide +kernel
theorem dAl_add2_10 : decode prog_33_method_24_code 10 = .ok (.astore_n 2, 1) := by decide +kernel
theorem dAl_add2_11 : decode prog_33_method_24_code 11 = .ok (.aload_n 2, 1) := by decide +kernel
theorem dAl_add2_12 : decode prog_33_method_24_code 12 = .ok (.iload_n 3, 1) := by decide +kernel
theorem dAl_add2_13 : decode prog_33_method_24_code 13 = .ok (.aload_n 1, 1) := by decide +kernel
theorem dAl_add2_14 : decode prog_33_method_24_code 14 = .ok (.aastore, 1) := by decide +kernel
theorem dAl_add2_15 : decode prog_33_method_24_code 15 = .ok (.aload_n 0, 1) := by decide +kernel
theorem dAl_add2_16 : decode prog_33_method_24_code 16 = .ok (.iload_n 3, 1) := by decide +kernel
theorem dAl_add2_17 : decode prog_33_method_24_code 17 = .ok (.iconst 1, 1) := by decide +kernel
theorem dAl_add2_18 : decode prog_33_method_24_code 18 = .ok (.iadd, 1) := by decide +kernel
theorem dAl_add2_19 : decode prog_33_method_24_code 19 = .ok (.putfield 48, 3) := by decide +kernel
theorem dAl_add2_22 : decode prog_33_method_24_code 22 = .ok (.return_, 1) := by decide +kernel
theorem dAl_add_0 : decode prog_33_method_25_code 0 = .ok (.aload_n 0, 1) := by decide +kernel
theorem dAl_add_1 : decode prog_33_method_25_code 1 = .ok (.dup, 1) := by decide +kernel
theorem dAl_add_2 : decode prog_33_method_25_code 2 = .ok (.getfield 63, 3) := by decide +kernel
theorem dAl_add_5 : decode prog_33_method_25_code 5 = .ok (.iconst 1, 1) := by decide +kernel
theorem dAl_add_6 : decode prog_33_method_25_code 6 = .ok (.iadd, 1) := by decide +kernel
theorem dAl_add_7 : decode prog_33_method_25_code 7 = .ok (.putfield 63, 3) := by decide +kernel
theorem dAl_add_10 : decode prog_33_method_25_code 10 = .ok (.aload_n 0, 1) := by decide +kernel
theorem dAl_add_11 : decode prog_33_method_25_code 11 = .ok (.aload_n 1, 1) := by decide +kernel
theorem dAl_add_12 : decode prog_33_method_25_code 12 = .ok (.aload_n 0, 1) := by decide +kernel
theorem dAl_add_13 : decode prog_33_method_25_code 13 = .ok (.getfield 9, 3) := by decide +kernel
theorem dAl_add_16 : decode prog_33_method_25_code 16 = .ok (.aload_n 0, 1) := by decide +kernel
theorem dAl_add_17 : decode prog_33_method_25_code 17 = .ok (.getfield 48, 3) := by decide +kernel
theorem dAl_add_20 : decode prog_33_method_25_code 20 = .ok (.invokevirtual 131, 3) := by decide +kernel
theorem dAl_add_23 : decode prog_33_method_25_code 23 = .ok (.iconst 1, 1) := by decide +kernel
theorem dAl_add_24 : decode prog_33_method_25_code 24 = .ok (.ireturn, 1) := by decide +kernel
theorem dP_place_0 : decode prog_1_method_2_code 0 = .ok (.iload_n 1, 1) := by decide +kernel
theorem dP_place_1 : decode prog_1_method_2_code 1 = .ok (.invokestatic 87, 3) := by decide +kernel
theorem dP_place_4 : decode prog_1_method_2_code 4 = .ok (.ifCond .ne 13, 3) := by decide +kernel
theorem dP_place_7 : decode prog_1_method_2_code 7 = .ok (.new 91, 3) := by decide +kernel
theorem dP_place_10 : decode prog_1_method_2_code 10 = .ok (.dup, 1) := by decide +kernel
theorem dP_place_11 : decode prog_1_method_2_code 11 = .ok (.ldc 93, 2) := by decide +kernel
theorem dP_place_13 : decode prog_1_method_2_code 13 = .ok (.invokespecial 95, 3) := by decide +kernel
theorem dP_place_16 : decode prog_1_method_2_code 16 = .ok (.athrow, 1) := by decide +kernel
theorem dP_place_17 : decode prog_1_method_2_code 17 = .ok (.aload_n 0, 1) := by decide +kernel
theorem dP_place_18 : decode prog_1_method_2_code 18 = .ok (.getfield 10, 3) := by decide +kernel
theorem dP_place_21 : decode prog_1_method_2_code 21 = .ok (.invokevirtual 98, 3) := by decide +kernel
theorem dP_place_24 : decode prog_1_method_2_code 24 = .ok (.bipush 30, 2) := by decide +kernel
theorem dP_place_26 : decode prog_1_method_2_code 26 = .ok (.if_icmp .lt 13, 3) := by decide +kernel
theorem dP_place_29 : decode prog_1_method_2_code 29 = .ok (.new 102, 3) := by decide +kernel
theorem dP_place_32 : decode prog_1_method_2_code 32 = .ok (.dup, 1) := by decide +kernel
theorem dP_place_33 : decode prog_1_method_2_code 33 = .ok (.ldc 104, 2) := by decide +kernel
theorem dP_place_35 : decode prog_1_method_2_code 35 = .ok (.invokespecial 106, 3) := by decide +kernel
theorem dP_place_38 : decode prog_1_method_2_code 38 = .ok (.athrow, 1) := by decide +kernel
theorem dP_place_39 : decode prog_1_method_2_code 39 = .ok (.aload_n 0, 1) := by decide +kernel
theorem dP_place_40 : decode prog_1_method_2_code 40 = .ok (.getfield 10, 3) := by decide +kernel
theorem dP_place_43 : decode prog_1_method_2_code 43 = .ok (.new 107, 3) := by decide +kernel
theorem dP_place_46 : decode prog_1_method_2_code 46 = .ok (.dup, 1) := by decide +kernel
theorem dP_place_47 : decode prog_1_method_2_code 47 = .ok (.aload_n 0, 1) := by decide +kernel
theorem dP_place_48 : decode prog_1_method_2_code 48 = .ok (.getfield 10, 3) := by decide +kernel
theorem dP_place_51 : decode prog_1_method_2_code 51 = .ok (.invokevirtual 98, 3) := by decide +kernel
theorem dP_place_54 : decode prog_1_method_2_code 54 = .ok (.iload_n 1, 1) := by decide +kernel
theorem dP_place_55 : decode prog_1_method_2_code 55 = .ok (.invokespecial 109, 3) := by decide +kernel
theorem dP_place_58 : decode prog_1_method_2_code 58 = .ok (.invokevirtual 112, 3) := by decide +kernel
theorem dP_place_61 : decode prog_1_method_2_code 61 = .ok (.pop, 1) := by decide +kernel
theorem dP_place_62 : decode prog_1_method_2_code 62 = .ok (.aload_n 0, 1) := by decide +kernel
theorem dP_place_63 : decode prog_1_method_2_code 63 = .ok (.getfield 10, 3) := by decide +kernel
theorem dP_place_66 : decode prog_1_method_2_code 66 = .ok (.invokevirtual 98, 3) := by decide +kernel
theorem dP_place_69 : decode prog_1_method_2_code 69 = .ok (.iconst 1, 1) := by decide +kernel
theorem dP_place_70 : decode prog_1_method_2_code 70 = .ok (.isub, 1) := by decide +kernel
theorem dP_place_71 : decode prog_1_method_2_code 71 = .ok (.ireturn, 1) := by decide +kernel
theorem dP_arePosition_0 : decode prog_1_method_25_code 0 = .ok (.iload_n 0, 1) := by decide +kernel
theorem dP_arePosition_1 : decode prog_1_method_25_code 1 = .ok (.ifCond .lt 25, 3) := by decide +kernel
theorem dP_arePosition_4 : decode prog_1_method_25_code 4 = .ok (.iload_n 0, 1) := by decide +kernel
theorem dP_arePosition_5 : decode prog_1_method_25_code 5 = .ok (.sipush 4095, 3) := by decide +kernel
theorem dP_arePosition_8 : decode prog_1_method_25_code 8 = .ok (.if_icmp .gt 18, 3) := by decide +kernel
theorem dP_arePosition_11 : decode prog_1_method_25_code 11 = .ok (.iload_n 1, 1) := by decide +kernel
theorem dP_arePosition_12 : decode prog_1_method_25_code 12 = .ok (.ifCond .lt 14, 3) := by decide +kernel
theorem dP_arePosition_15 : decode prog_1_method_25_code 15 = .ok (.iload_n 1, 1) := by decide +kernel
theorem dP_arePosition_16 : decode prog_1_method_25_code 16 = .ok (.sipush 4095, 3) := by decide +kernel
theorem dP_arePosition_19 : decode prog_1_method_25_code 19 = .ok (.if_icmp .gt 7, 3) := by decide +kernel
theorem dP_arePosition_22 : decode prog_1_method_25_code 22 = .ok (.iconst 1, 1) := by decide +kernel
theorem dP_arePosition_23 : decode prog_1_method_25_code 23 = .ok (.goto 4, 3) := by decide +kernel
theorem dP_arePosition_26 : decode prog_1_method_25_code 26 = .ok (.iconst 0, 1) := by decide +kernel
theorem dP_arePosition_27 : decode prog_1_method_25_code 27 = .ok (.ireturn, 1) := by decide +kernel
theorem dP_corner_0 : decode prog_1_method_3_code 0 = .ok (.iload_n 1, 1) := by decide +kernel
theorem dP_corner_1 : decode prog_1_method_3_code 1 = .ok (.iload_n 2, 1) := by decide +kernel
theorem dP_corner_2 : decode prog_1_method_3_code 2 = .ok (.invokestatic 116, 3) := by decide +kernel
theorem dP_corner_5 : decode prog_1_method_3_code 5 = .ok (.ifCond .ne 13, 3) := by decide +kernel
theorem dP_corner_8 : decode prog_1_method_3_code 8 = .ok (.new 91, 3) := by decide +kernel
theorem dP_corner_11 : decode prog_1_method_3_code 11 = .ok (.dup, 1) := by decide +kernel
theorem dP_corner_12 : decode prog_1_method_3_code 12 = .ok (.ldc 120, 2) := by decide +kernel
theorem dP_corner_14 : decode prog_1_method_3_code 14 = .ok (.invokespecial 95, 3) := by decide +kernel
theorem dP_corner_17 : decode prog_1_method_3_code 17 = .ok (.athrow, 1) := by decide +kernel
theorem dP_corner_18 : decode prog_1_method_3_code 18 = .ok (.aload_n 0, 1) := by decide +kernel
theorem dP_corner_19 : decode prog_1_method_3_code 19 = .ok (.getfield 23, 3) := by decide +kernel
theorem dP_corner_22 : decode prog_1_method_3_code 22 = .ok (.bipush 8, 2) := by decide +kernel
theorem dP_corner_24 : decode prog_1_method_3_code 24 = .ok (.if_icmp .lt 13, 3) := by decide +kernel
theorem dP_corner_27 : decode prog_1_method_3_code 27 = .ok (.new 102, 3) := by decide +kernel
theorem dP_corner_30 : decode prog_1_method_3_code 30 = .ok (.dup, 1) := by decide +kernel
theorem dP_corner_31 : decode prog_1_method_3_code 31 = .ok (.ldc 122, 2) := by decide +kernel
theorem dP_corner_33 : decode prog_1_method_3_code 33 = .ok (.invokespecial 106, 3) := by decide +kernel
theorem dP_corner_36 : decode prog_1_method_3_code 36 = .ok (.athrow, 1) := by decide +kernel
theorem dP_corner_37 : decode prog_1_method_3_code 37 = .ok (.aload_n 0, 1) := by decide +kernel
theorem dP_corner_38 : decode prog_1_method_3_code 38 = .ok (.getfield 16, 3) := by decide +kernel
theorem dP_corner_41 : decode prog_1_method_3_code 41 = .ok (.aload_n 0, 1) := by decide +kernel
theorem dP_corner_42 : decode prog_1_method_3_code 42 = .ok (.getfield 23, 3) := by decide +kernel
theorem dP_corner_45 : decode prog_1_method_3_code 45 = .ok (.iload_n 1, 1) := by decide +kernel
theorem dP_corner_46 : decode prog_1_method_3_code 46 = .ok (.iastore, 1) := by decide +kernel
theorem dP_corner_47 : decode prog_1_method_3_code 47 = .ok (.aload_n 0, 1) := by decide +kernel
theorem dP_corner_48 : decode prog_1_method_3_code 48 = .ok (.getfield 20, 3) := by decide +kernel
theorem dP_corner_51 : decode prog_1_method_3_code 51 = .ok (.aload_n 0, 1) := by decide +kernel
theorem dP_corner_52 : decode prog_1_method_3_code 52 = .ok (.getfield 23, 3) := by decide +kernel
theorem dP_corner_55 : decode prog_1_method_3_code 55 = .ok (.iload_n 2, 1) := by decide +kernel
theorem dP_corner_56 : decode prog_1_method_3_code 56 = .ok (.iastore, 1) := by decide +kernel
theorem dP_corner_57 : decode prog_1_method_3_code 57 = .ok (.aload_n 0, 1) := by decide +kernel
theorem dP_corner_58 : decode prog_1_method_3_code 58 = .ok (.dup, 1) := by decide +kernel
theorem dP_corner_59 : decode prog_1_method_3_code 59 = .ok (.getfield 23, 3) := by decide +kernel
theorem dP_corner_62 : decode prog_1_method_3_code 62 = .ok (.iconst 1, 1) := by decide +kernel
theorem dP_corner_63 : decode prog_1_method_3_code 63 = .ok (.iadd, 1) := by decide +kernel
theorem dP_corner_64 : decode prog_1_method_3_code 64 = .ok (.putfield 23, 3) := by decide +kernel
theorem dP_corner_67 : decode prog_1_method_3_code 67 = .ok (.aload_n 0, 1) := by decide +kernel
theorem dP_corner_68 : decode prog_1_method_3_code 68 = .ok (.getfield 23, 3) := by decide +kernel
theorem dP_corner_71 : decode prog_1_method_3_code 71 = .ok (.ireturn, 1) := by decide +kernel
theorem dPr_checkIndex_0 : decode prog_42_method_11_code 0 = .ok (.iload_n 0, 1) := by decide +kernel
theorem dPr_checkIndex_1 : decode prog_42_method_11_code 1 = .ok (.ifCond .lt 8, 3) := by decide +kernel
theorem dPr_checkIndex_4 : decode prog_42_method_11_code 4 = .ok (.iload_n 0, 1) := by decide +kernel
theorem dPr_checkIndex_5 : decode prog_42_method_11_code 5 = .ok (.iload_n 1, 1) := by decide +kernel
theorem dPr_checkIndex_6 : decode prog_42_method_11_code 6 = .ok (.if_icmp .lt 10, 3) := by decide +kernel
theorem dPr_checkIndex_16 : decode prog_42_method_11_code 16 = .ok (.iload_n 0, 1) := by decide +kernel
theorem dPr_checkIndex_17 : decode prog_42_method_11_code 17 = .ok (.ireturn, 1) := by decide +kernel
theorem dOb_checkIndex_0 : decode prog_38_method_17_code 0 = .ok (.iload_n 0, 1) := by decide +kernel
theorem dOb_checkIndex_1 : decode prog_38_method_17_code 1 = .ok (.iload_n 1, 1) := by decide +kernel
theorem dOb_checkIndex_2 : decode prog_38_method_17_code 2 = .ok (.aconst_null, 1) := by decide +kernel
theorem dOb_checkIndex_3 : decode prog_38_method_17_code 3 = .ok (.invokestatic 105, 3) := by decide +kernel
theorem dOb_checkIndex_6 : decode prog_38_method_17_code 6 = .ok (.ireturn, 1) := by decide +kernel
theorem dAl_elementData_0 : decode prog_33_method_18_code 0 = .ok (.aload_n 0, 1) := by decide +kernel
theorem dAl_elementData_1 : decode prog_33_method_18_code 1 = .ok (.getfield 9, 3) := by decide +kernel
theorem dAl_elementData_4 : decode prog_33_method_18_code 4 = .ok (.iload_n 1, 1) := by decide +kernel
theorem dAl_elementData_5 : decode prog_33_method_18_code 5 = .ok (.aaload, 1) := by decide +kernel
theorem dAl_elementData_6 : decode prog_33_method_18_code 6 = .ok (.areturn, 1) := by decide +kernel
theorem dAl_get_0 : decode prog_33_method_20_code 0 = .ok (.iload_n 1, 1) := by decide +kernel
theorem dAl_get_1 : decode prog_33_method_20_code 1 = .ok (.aload_n 0, 1) := by decide +kernel
theorem dAl_get_2 : decode prog_33_method_20_code 2 = .ok (.getfield 48, 3) := by decide +kernel
theorem dAl_get_5 : decode prog_33_method_20_code 5 = .ok (.invokestatic 118, 3) := by decide +kernel
theorem dAl_get_8 : decode prog_33_method_20_code 8 = .ok (.pop, 1) := by decide +kernel
theorem dAl_get_9 : decode prog_33_method_20_code 9 = .ok (.aload_n 0, 1) := by decide +kernel
theorem dAl_get_10 : decode prog_33_method_20_code 10 = .ok (.iload_n 1, 1) := by decide +kernel
theorem dAl_get_11 : decode prog_33_method_20_code 11 = .ok (.invokevirtual 123, 3) := by decide +kernel
theorem dAl_get_14 : decode prog_33_method_20_code 14 = .ok (.areturn, 1) := by decide +kernel
theorem dP_placeOf_0 : decode prog_1_method_28_code 0 = .ok (.iload_n 1, 1) := by decide +kernel
theorem dP_placeOf_1 : decode prog_1_method_28_code 1 = .ok (.ifCond .lt 28, 3) := by decide +kernel
theorem dP_placeOf_4 : decode prog_1_method_28_code 4 = .ok (.iload_n 1, 1) := by decide +kernel
theorem dP_placeOf_5 : decode prog_1_method_28_code 5 = .ok (.aload_n 0, 1) := by decide +kernel
theorem dP_placeOf_6 : decode prog_1_method_28_code 6 = .ok (.getfield 10, 3) := by decide +kernel
theorem dP_placeOf_9 : decode prog_1_method_28_code 9 = .ok (.invokevirtual 98, 3) := by decide +kernel
theorem dP_placeOf_12 : decode prog_1_method_28_code 12 = .ok (.if_icmp .ge 17, 3) := by decide +kernel
theorem dP_placeOf_15 : decode prog_1_method_28_code 15 = .ok (.aload_n 0, 1) := by decide +kernel
theorem dP_placeOf_16 : decode prog_1_method_28_code 16 = .ok (.getfield 10, 3) := by decide +kernel
theorem dP_placeOf_19 : decode prog_1_method_28_code 19 = .ok (.iload_n 1, 1) := by decide +kernel
theorem dP_placeOf_20 : decode prog_1_method_28_code 20 = .ok (.invokevirtual 223, 3) := by decide +kernel
theorem dP_placeOf_23 : decode prog_1_method_28_code 23 = .ok (.checkcast 107, 3) := by decide +kernel
theorem dP_placeOf_26 : decode prog_1_method_28_code 26 = .ok (.goto 4, 3) := by decide +kernel
theorem dP_placeOf_29 : decode prog_1_method_28_code 29 = .ok (.aconst_null, 1) := by decide +kernel
theorem dP_placeOf_30 : decode prog_1_method_28_code 30 = .ok (.areturn, 1) := by decide +kernel
theorem dP_isDay_0 : decode prog_1_method_23_code 0 = .ok (.iload_n 0, 1) := by decide +kernel
theorem dP_isDay_1 : decode prog_1_method_23_code 1 = .ok (.ifCond .lt 14, 3) := by decide +kernel
theorem dP_isDay_4 : decode prog_1_method_23_code 4 = .ok (.iload_n 0, 1) := by decide +kernel
theorem dP_isDay_5 : decode prog_1_method_23_code 5 = .ok (.sipush 9999, 3) := by decide +kernel
theorem dP_isDay_8 : decode prog_1_method_23_code 8 = .ok (.if_icmp .gt 7, 3) := by decide +kernel
theorem dP_isDay_11 : decode prog_1_method_23_code 11 = .ok (.iconst 1, 1) := by decide +kernel
theorem dP_isDay_12 : decode prog_1_method_23_code 12 = .ok (.goto 4, 3) := by decide +kernel
theorem dP_isDay_15 : decode prog_1_method_23_code 15 = .ok (.iconst 0, 1) := by decide +kernel
theorem dP_isDay_16 : decode prog_1_method_23_code 16 = .ok (.ireturn, 1) := by decide +kernel
theorem dCo_isPoint_0 : decode prog_3_method_2_code 0 = .ok (.aload_n 0, 1) := by decide +kernel
theorem dCo_isPoint_1 : decode prog_3_method_2_code 1 = .ok (.getfield 9, 3) := by decide +kernel
theorem dCo_isPoint_4 : decode prog_3_method_2_code 4 = .ok (.iconst 1, 1) := by decide +kernel
theorem dCo_isPoint_5 : decode prog_3_method_2_code 5 = .ok (.if_icmp .ne 7, 3) := by decide +kernel
theorem dCo_isPoint_8 : decode prog_3_method_2_code 8 = .ok (.iconst 1, 1) := by decide +kernel
theorem dCo_isPoint_9 : decode prog_3_method_2_code 9 = .ok (.goto 4, 3) := by decide +kernel
theorem dCo_isPoint_12 : decode prog_3_method_2_code 12 = .ok (.iconst 0, 1) := by decide +kernel
theorem dCo_isPoint_13 : decode prog_3_method_2_code 13 = .ok (.ireturn, 1) := by decide +kernel
theorem dCo_following_0 : decode prog_3_method_4_code 0 = .ok (.iload_n 1, 1) := by decide +kernel
theorem dCo_following_1 : decode prog_3_method_4_code 1 = .ok (.iconst 1, 1) := by decide +kernel
theorem dCo_following_2 : decode prog_3_method_4_code 2 = .ok (.iadd, 1) := by decide +kernel
theorem dCo_following_3 : decode prog_3_method_4_code 3 = .ok (.aload_n 0, 1) := by decide +kernel
theorem dCo_following_4 : decode prog_3_method_4_code 4 = .ok (.getfield 9, 3) := by decide +kernel
theorem dCo_following_7 : decode prog_3_method_4_code 7 = .ok (.if_icmp .ge 9, 3) := by decide +kernel
theorem dCo_following_10 : decode prog_3_method_4_code 10 = .ok (.iload_n 1, 1) := by decide +kernel
theorem dCo_following_11 : decode prog_3_method_4_code 11 = .ok (.iconst 1, 1) := by decide +kernel
theorem dCo_following_12 : decode prog_3_method_4_code 12 = .ok (.iadd, 1) := by decide +kernel
theorem dCo_following_13 : decode prog_3_method_4_code 13 = .ok (.goto 4, 3) := by decide +kernel
theorem dCo_following_16 : decode prog_3_method_4_code 16 = .ok (.iconst 0, 1) := by decide +kernel
theorem dCo_following_17 : decode prog_3_method_4_code 17 = .ok (.ireturn, 1) := by decide +kernel
theorem dCo_doubledSurface_0 : decode prog_3_method_5_code 0 = .ok (.iconst 0, 1) := by decide +kernel
theorem dCo_doubledSurface_1 : decode prog_3_method_5_code 1 = .ok (.istore_n 1, 1) := by decide +kernel
theorem dCo_doubledSurface_2 : decode prog_3_method_5_code 2 = .ok (.iconst 0, 1) := by decide +kernel
theorem dCo_doubledSurface_3 : decode prog_3_method_5_code 3 = .ok (.istore_n 2, 1) := by decide +kernel
theorem dCo_doubledSurface_4 : decode prog_3_method_5_code 4 = .ok (.iload_n 2, 1) := by decide +kernel
theorem dCo_doubledSurface_5 : decode prog_3_method_5_code 5 = .ok (.aload_n 0, 1) := by decide +kernel
theorem dCo_doubledSurface_6 : decode prog_3_method_5_code 6 = .ok (.getfield 9, 3) := by decide +kernel
theorem dCo_doubledSurface_9 : decode prog_3_method_5_code 9 = .ok (.if_icmp .ge 45, 3) := by decide +kernel
theorem dCo_doubledSurface_12 : decode prog_3_method_5_code 12 = .ok (.aload_n 0, 1) := by decide +kernel
theorem dCo_doubledSurface_13 : decode prog_3_method_5_code 13 = .ok (.iload_n 2, 1) := by decide +kernel
theorem dCo_doubledSurface_14 : decode prog_3_method_5_code 14 = .ok (.invokevirtual 32, 3) := by decide +kernel
theorem dCo_doubledSurface_17 : decode prog_3_method_5_code 17 = .ok (.istore_n 3, 1) := by decide +kernel
theorem dCo_doubledSurface_18 : decode prog_3_method_5_code 18 = .ok (.iload_n 1, 1) := by decide +kernel
theorem dCo_doubledSurface_19 : decode prog_3_method_5_code 19 = .ok (.aload_n 0, 1) := by decide +kernel
theorem dCo_doubledSurface_20 : decode prog_3_method_5_code 20 = .ok (.getfield 21, 3) := by decide +kernel
theorem dCo_doubledSurface_23 : decode prog_3_method_5_code 23 = .ok (.iload_n 2, 1) := by decide +kernel
theorem dCo_doubledSurface_24 : decode prog_3_method_5_code 24 = .ok (.iaload, 1) := by decide +kernel
theorem dCo_doubledSurface_25 : decode prog_3_method_5_code 25 = .ok (.aload_n 0, 1) := by decide +kernel
theorem dCo_doubledSurface_26 : decode prog_3_method_5_code 26 = .ok (.getfield 25, 3) := by decide +kernel
theorem dCo_doubledSurface_29 : decode prog_3_method_5_code 29 = .ok (.iload_n 3, 1) := by decide +kernel
theorem dCo_doubledSurface_30 : decode prog_3_method_5_code 30 = .ok (.iaload, 1) := by decide +kernel
theorem dCo_doubledSurface_31 : decode prog_3_method_5_code 31 = .ok (.imul, 1) := by decide +kernel
theorem dCo_doubledSurface_32 : decode prog_3_method_5_code 32 = .ok (.aload_n 0, 1) := by decide +kernel
theorem dCo_doubledSurface_33 : decode prog_3_method_5_code 33 = .ok (.getfield 21, 3) := by decide +kernel
theorem dCo_doubledSurface_36 : decode prog_3_method_5_code 36 = .ok (.iload_n 3, 1) := by decide +kernel
theorem dCo_doubledSurface_37 : decode prog_3_method_5_code 37 = .ok (.iaload, 1) := by decide +kernel
theorem dCo_doubledSurface_38 : decode prog_3_method_5_code 38 = .ok (.aload_n 0, 1) := by decide +kernel
theorem dCo_doubledSurface_39 : decode prog_3_method_5_code 39 = .ok (.getfield 25, 3) := by decide +kernel
theorem dCo_doubledSurface_42 : decode prog_3_method_5_code 42 = .ok (.iload_n 2, 1) := by decide +kernel
theorem dCo_doubledSurface_43 : decode prog_3_method_5_code 43 = .ok (.iaload, 1) := by decide +kernel
theorem dCo_doubledSurface_44 : decode prog_3_method_5_code 44 = .ok (.imul, 1) := by decide +kernel
theorem dCo_doubledSurface_45 : decode prog_3_method_5_code 45 = .ok (.isub, 1) := by decide +kernel
theorem dCo_doubledSurface_46 : decode prog_3_method_5_code 46 = .ok (.iadd, 1) := by decide +kernel
theorem dCo_doubledSurface_47 : decode prog_3_method_5_code 47 = .ok (.istore_n 1, 1) := by decide +kernel
theorem dCo_doubledSurface_48 : decode prog_3_method_5_code 48 = .ok (.iinc 2 1, 3) := by decide +kernel
theorem dCo_doubledSurface_51 : decode prog_3_method_5_code 51 = .ok (.goto (-47), 3) := by decide +kernel
theorem dCo_doubledSurface_54 : decode prog_3_method_5_code 54 = .ok (.iload_n 1, 1) := by decide +kernel
theorem dCo_doubledSurface_55 : decode prog_3_method_5_code 55 = .ok (.ireturn, 1) := by decide +kernel
theorem dCo_isArea_0 : decode prog_3_method_3_code 0 = .ok (.aload_n 0, 1) := by decide +kernel
theorem dCo_isArea_1 : decode prog_3_method_3_code 1 = .ok (.getfield 9, 3) := by decide +kernel
theorem dCo_isArea_4 : decode prog_3_method_3_code 4 = .ok (.iconst 3, 1) := by decide +kernel
theorem dCo_isArea_5 : decode prog_3_method_3_code 5 = .ok (.if_icmp .lt 14, 3) := by decide +kernel
theorem dCo_isArea_8 : decode prog_3_method_3_code 8 = .ok (.aload_n 0, 1) := by decide +kernel
theorem dCo_isArea_9 : decode prog_3_method_3_code 9 = .ok (.invokevirtual 28, 3) := by decide +kernel
theorem dCo_isArea_12 : decode prog_3_method_3_code 12 = .ok (.ifCond .eq 7, 3) := by decide +kernel
theorem dCo_isArea_15 : decode prog_3_method_3_code 15 = .ok (.iconst 1, 1) := by decide +kernel
theorem dCo_isArea_16 : decode prog_3_method_3_code 16 = .ok (.goto 4, 3) := by decide +kernel
theorem dCo_isArea_19 : decode prog_3_method_3_code 19 = .ok (.iconst 0, 1) := by decide +kernel
theorem dCo_isArea_20 : decode prog_3_method_3_code 20 = .ok (.ireturn, 1) := by decide +kernel
theorem dPl_takesShapeFrom_0 : decode prog_8_method_2_code 0 = .ok (.aload_n 0, 1) := by decide +kernel
theorem dPl_takesShapeFrom_1 : decode prog_8_method_2_code 1 = .ok (.getfield 18, 3) := by decide +kernel
theorem dPl_takesShapeFrom_4 : decode prog_8_method_2_code 4 = .ok (.invokevirtual 38, 3) := by decide +kernel
theorem dPl_takesShapeFrom_7 : decode prog_8_method_2_code 7 = .ok (.istore_n 2, 1) := by decide +kernel
theorem dPl_takesShapeFrom_8 : decode prog_8_method_2_code 8 = .ok (.iload_n 2, 1) := by decide +kernel
theorem dPl_takesShapeFrom_9 : decode prog_8_method_2_code 9 = .ok (.iconst 3, 1) := by decide +kernel
theorem dPl_takesShapeFrom_10 : decode prog_8_method_2_code 10 = .ok (.if_icmp .ge 23, 3) := by decide +kernel
theorem dPl_takesShapeFrom_13 : decode prog_8_method_2_code 13 = .ok (.iload_n 2, 1) := by decide +kernel
theorem dPl_takesShapeFrom_14 : decode prog_8_method_2_code 14 = .ok (.ifCond .eq 15, 3) := by decide +kernel
theorem dPl_takesShapeFrom_17 : decode prog_8_method_2_code 17 = .ok (.aload_n 0, 1) := by decide +kernel
theorem dPl_takesShapeFrom_18 : decode prog_8_method_2_code 18 = .ok (.getfield 22, 3) := by decide +kernel
theorem dPl_takesShapeFrom_21 : decode prog_8_method_2_code 21 = .ok (.iload_n 2, 1) := by decide +kernel
theorem dPl_takesShapeFrom_22 : decode prog_8_method_2_code 22 = .ok (.iconst 1, 1) := by decide +kernel
theorem dPl_takesShapeFrom_23 : decode prog_8_method_2_code 23 = .ok (.isub, 1) := by decide +kernel
theorem dPl_takesShapeFrom_24 : decode prog_8_method_2_code 24 = .ok (.iaload, 1) := by decide +kernel
theorem dPl_takesShapeFrom_25 : decode prog_8_method_2_code 25 = .ok (.iload_n 1, 1) := by decide +kernel
theorem dPl_takesShapeFrom_26 : decode prog_8_method_2_code 26 = .ok (.if_icmp .ge 7, 3) := by decide +kernel
theorem dPl_takesShapeFrom_29 : decode prog_8_method_2_code 29 = .ok (.iconst 1, 1) := by decide +kernel
theorem dPl_takesShapeFrom_30 : decode prog_8_method_2_code 30 = .ok (.goto 4, 3) := by decide +kernel
theorem dPl_takesShapeFrom_33 : decode prog_8_method_2_code 33 = .ok (.iconst 0, 1) := by decide +kernel
theorem dPl_takesShapeFrom_34 : decode prog_8_method_2_code 34 = .ok (.ireturn, 1) := by decide +kernel
theorem dPl_addShape_0 : decode prog_8_method_3_code 0 = .ok (.aload_n 0, 1) := by decide +kernel
theorem dPl_addShape_1 : decode prog_8_method_3_code 1 = .ok (.getfield 18, 3) := by decide +kernel
theorem dPl_addShape_4 : decode prog_8_method_3_code 4 = .ok (.invokevirtual 38, 3) := by decide +kernel
theorem dPl_addShape_7 : decode prog_8_method_3_code 7 = .ok (.iconst 3, 1) := by decide +kernel
theorem dPl_addShape_8 : decode prog_8_method_3_code 8 = .ok (.if_icmp .ge 25, 3) := by decide +kernel
theorem dPl_addShape_11 : decode prog_8_method_3_code 11 = .ok (.aload_n 0, 1) := by decide +kernel
theorem dPl_addShape_12 : decode prog_8_method_3_code 12 = .ok (.getfield 22, 3) := by decide +kernel
theorem dPl_addShape_15 : decode prog_8_method_3_code 15 = .ok (.aload_n 0, 1) := by decide +kernel
theorem dPl_addShape_16 : decode prog_8_method_3_code 16 = .ok (.getfield 18, 3) := by decide +kernel
theorem dPl_addShape_19 : decode prog_8_method_3_code 19 = .ok (.invokevirtual 38, 3) := by decide +kernel
theorem dPl_addShape_22 : decode prog_8_method_3_code 22 = .ok (.iload_n 2, 1) := by decide +kernel
theorem dPl_addShape_23 : decode prog_8_method_3_code 23 = .ok (.iastore, 1) := by decide +kernel
theorem dPl_addShape_24 : decode prog_8_method_3_code 24 = .ok (.aload_n 0, 1) := by decide +kernel
theorem dPl_addShape_25 : decode prog_8_method_3_code 25 = .ok (.getfield 18, 3) := by decide +kernel
theorem dPl_addShape_28 : decode prog_8_method_3_code 28 = .ok (.aload_n 1, 1) := by decide +kernel
theorem dPl_addShape_29 : decode prog_8_method_3_code 29 = .ok (.invokevirtual 42, 3) := by decide +kernel
theorem dPl_addShape_32 : decode prog_8_method_3_code 32 = .ok (.pop, 1) := by decide +kernel
theorem dPl_addShape_33 : decode prog_8_method_3_code 33 = .ok (.return_, 1) := by decide +kernel
theorem dP_shape_0 : decode prog_1_method_4_code 0 = .ok (.aload_n 0, 1) := by decide +kernel
theorem dP_shape_1 : decode prog_1_method_4_code 1 = .ok (.iload_n 1, 1) := by decide +kernel
theorem dP_shape_2 : decode prog_1_method_4_code 2 = .ok (.invokevirtual 124, 3) := by decide +kernel
theorem dP_shape_5 : decode prog_1_method_4_code 5 = .ok (.astore_n 3, 1) := by decide +kernel
theorem dP_shape_6 : decode prog_1_method_4_code 6 = .ok (.aload_n 3, 1) := by decide +kernel
theorem dP_shape_7 : decode prog_1_method_4_code 7 = .ok (.ifnull 10, 3) := by decide +kernel
theorem dP_shape_10 : decode prog_1_method_4_code 10 = .ok (.iload_n 2, 1) := by decide +kernel
theorem dP_shape_11 : decode prog_1_method_4_code 11 = .ok (.invokestatic 128, 3) := by decide +kernel
theorem dP_shape_14 : decode prog_1_method_4_code 14 = .ok (.ifCond .ne 13, 3) := by decide +kernel
theorem dP_shape_17 : decode prog_1_method_4_code 17 = .ok (.new 91, 3) := by decide +kernel
theorem dP_shape_20 : decode prog_1_method_4_code 20 = .ok (.dup, 1) := by decide +kernel
theorem dP_shape_21 : decode prog_1_method_4_code 21 = .ok (.ldc 131, 2) := by decide +kernel
theorem dP_shape_23 : decode prog_1_method_4_code 23 = .ok (.invokespecial 95, 3) := by decide +kernel
theorem dP_shape_26 : decode prog_1_method_4_code 26 = .ok (.athrow, 1) := by decide +kernel
theorem dP_shape_27 : decode prog_1_method_4_code 27 = .ok (.new 27, 3) := by decide +kernel
theorem dP_shape_30 : decode prog_1_method_4_code 30 = .ok (.dup, 1) := by decide +kernel
theorem dP_shape_31 : decode prog_1_method_4_code 31 = .ok (.aload_n 0, 1) := by decide +kernel
theorem dP_shape_32 : decode prog_1_method_4_code 32 = .ok (.getfield 16, 3) := by decide +kernel
theorem dP_shape_35 : decode prog_1_method_4_code 35 = .ok (.aload_n 0, 1) := by decide +kernel
theorem dP_shape_36 : decode prog_1_method_4_code 36 = .ok (.getfield 20, 3) := by decide +kernel
theorem dP_shape_39 : decode prog_1_method_4_code 39 = .ok (.aload_n 0, 1) := by decide +kernel
theorem dP_shape_40 : decode prog_1_method_4_code 40 = .ok (.getfield 23, 3) := by decide +kernel
theorem dP_shape_43 : decode prog_1_method_4_code 43 = .ok (.invokespecial 29, 3) := by decide +kernel
theorem dP_shape_46 : decode prog_1_method_4_code 46 = .ok (.astore 4, 2) := by decide +kernel
theorem dP_shape_48 : decode prog_1_method_4_code 48 = .ok (.aload 4, 2) := by decide +kernel
theorem dP_shape_50 : decode prog_1_method_4_code 50 = .ok (.invokevirtual 133, 3) := by decide +kernel
theorem dP_shape_53 : decode prog_1_method_4_code 53 = .ok (.ifCond .ne 21, 3) := by decide +kernel
theorem dP_shape_56 : decode prog_1_method_4_code 56 = .ok (.aload 4, 2) := by decide +kernel
theorem dP_shape_58 : decode prog_1_method_4_code 58 = .ok (.invokevirtual 137, 3) := by decide +kernel
theorem dP_shape_61 : decode prog_1_method_4_code 61 = .ok (.ifCond .ne 13, 3) := by decide +kernel
theorem dP_shape_64 : decode prog_1_method_4_code 64 = .ok (.new 91, 3) := by decide +kernel
theorem dP_shape_67 : decode prog_1_method_4_code 67 = .ok (.dup, 1) := by decide +kernel
theorem dP_shape_68 : decode prog_1_method_4_code 68 = .ok (.ldc 140, 2) := by decide +kernel
theorem dP_shape_70 : decode prog_1_method_4_code 70 = .ok (.invokespecial 95, 3) := by decide +kernel
theorem dP_shape_73 : decode prog_1_method_4_code 73 = .ok (.athrow, 1) := by decide +kernel
theorem dP_shape_74 : decode prog_1_method_4_code 74 = .ok (.aload_n 3, 1) := by decide +kernel
theorem dP_shape_75 : decode prog_1_method_4_code 75 = .ok (.iload_n 2, 1) := by decide +kernel
theorem dP_shape_76 : decode prog_1_method_4_code 76 = .ok (.invokevirtual 142, 3) := by decide +kernel
theorem dP_shape_79 : decode prog_1_method_4_code 79 = .ok (.ifCond .ne 13, 3) := by decide +kernel
theorem dP_shape_82 : decode prog_1_method_4_code 82 = .ok (.new 102, 3) := by decide +kernel
theorem dP_shape_85 : decode prog_1_method_4_code 85 = .ok (.dup, 1) := by decide +kernel
theorem dP_shape_86 : decode prog_1_method_4_code 86 = .ok (.ldc 145, 2) := by decide +kernel
theorem dP_shape_88 : decode prog_1_method_4_code 88 = .ok (.invokespecial 106, 3) := by decide +kernel
theorem dP_shape_91 : decode prog_1_method_4_code 91 = .ok (.athrow, 1) := by decide +kernel
theorem dP_shape_92 : decode prog_1_method_4_code 92 = .ok (.aload_n 3, 1) := by decide +kernel
theorem dP_shape_93 : decode prog_1_method_4_code 93 = .ok (.aload 4, 2) := by decide +kernel
theorem dP_shape_95 : decode prog_1_method_4_code 95 = .ok (.iload_n 2, 1) := by decide +kernel
theorem dP_shape_96 : decode prog_1_method_4_code 96 = .ok (.invokevirtual 147, 3) := by decide +kernel
theorem dP_shape_99 : decode prog_1_method_4_code 99 = .ok (.aload_n 0, 1) := by decide +kernel
theorem dP_shape_100 : decode prog_1_method_4_code 100 = .ok (.iconst 0, 1) := by decide +kernel
theorem dP_shape_101 : decode prog_1_method_4_code 101 = .ok (.putfield 23, 3) := by decide +kernel
theorem dP_shape_104 : decode prog_1_method_4_code 104 = .ok (.return_, 1) := by decide +kernel
theorem dP_route_0 : decode prog_1_method_5_code 0 = .ok (.aload_n 0, 1) := by decide +kernel
theorem dP_route_1 : decode prog_1_method_5_code 1 = .ok (.new 27, 3) := by decide +kernel
theorem dP_route_4 : decode prog_1_method_5_code 4 = .ok (.dup, 1) := by decide +kernel
theorem dP_route_5 : decode prog_1_method_5_code 5 = .ok (.aload_n 0, 1) := by decide +kernel
theorem dP_route_6 : decode prog_1_method_5_code 6 = .ok (.getfield 16, 3) := by decide +kernel
theorem dP_route_9 : decode prog_1_method_5_code 9 = .ok (.aload_n 0, 1) := by decide +kernel
theorem dP_route_10 : decode prog_1_method_5_code 10 = .ok (.getfield 20, 3) := by decide +kernel
theorem dP_route_13 : decode prog_1_method_5_code 13 = .ok (.aload_n 0, 1) := by decide +kernel
theorem dP_route_14 : decode prog_1_method_5_code 14 = .ok (.getfield 23, 3) := by decide +kernel
theorem dP_route_17 : decode prog_1_method_5_code 17 = .ok (.iconst 2, 1) := by decide +kernel
theorem dP_route_18 : decode prog_1_method_5_code 18 = .ok (.if_icmp .ge 7, 3) := by decide +kernel
theorem dP_route_21 : decode prog_1_method_5_code 21 = .ok (.iconst 0, 1) := by decide +kernel
theorem dP_route_22 : decode prog_1_method_5_code 22 = .ok (.goto 7, 3) := by decide +kernel
theorem dP_route_25 : decode prog_1_method_5_code 25 = .ok (.aload_n 0, 1) := by decide +kernel
theorem dP_route_26 : decode prog_1_method_5_code 26 = .ok (.getfield 23, 3) := by decide +kernel
theorem dP_route_29 : decode prog_1_method_5_code 29 = .ok (.invokespecial 29, 3) := by decide +kernel
theorem dP_route_32 : decode prog_1_method_5_code 32 = .ok (.putfield 32, 3) := by decide +kernel
theorem dP_route_35 : decode prog_1_method_5_code 35 = .ok (.aload_n 0, 1) := by decide +kernel
theorem dP_route_36 : decode prog_1_method_5_code 36 = .ok (.iconst 0, 1) := by decide +kernel
theorem dP_route_37 : decode prog_1_method_5_code 37 = .ok (.putfield 23, 3) := by decide +kernel
theorem dP_route_40 : decode prog_1_method_5_code 40 = .ok (.return_, 1) := by decide +kernel
theorem dP_letter_0 : decode prog_1_method_6_code 0 = .ok (.iload_n 1, 1) := by decide +kernel
theorem dP_letter_1 : decode prog_1_method_6_code 1 = .ok (.bipush 97, 2) := by decide +kernel
theorem dP_letter_3 : decode prog_1_method_6_code 3 = .ok (.if_icmp .lt 18, 3) := by decide +kernel
theorem dP_letter_6 : decode prog_1_method_6_code 6 = .ok (.iload_n 1, 1) := by decide +kernel
theorem dP_letter_7 : decode prog_1_method_6_code 7 = .ok (.bipush 122, 2) := by decide +kernel
theorem dP_letter_9 : decode prog_1_method_6_code 9 = .ok (.if_icmp .gt 12, 3) := by decide +kernel
theorem dP_letter_12 : decode prog_1_method_6_code 12 = .ok (.aload_n 0, 1) := by decide +kernel
theorem dP_letter_13 : decode prog_1_method_6_code 13 = .ok (.getfield 40, 3) := by decide +kernel
theorem dP_letter_16 : decode prog_1_method_6_code 16 = .ok (.bipush 10, 2) := by decide +kernel
theorem dP_letter_18 : decode prog_1_method_6_code 18 = .ok (.if_icmp .lt 5, 3) := by decide +kernel
theorem dP_letter_21 : decode prog_1_method_6_code 21 = .ok (.iconst 0, 1) := by decide +kernel
theorem dP_letter_22 : decode prog_1_method_6_code 22 = .ok (.ireturn, 1) := by decide +kernel
theorem dP_letter_23 : decode prog_1_method_6_code 23 = .ok (.aload_n 0, 1) := by decide +kernel
theorem dP_letter_24 : decode prog_1_method_6_code 24 = .ok (.getfield 36, 3) := by decide +kernel
theorem dP_letter_27 : decode prog_1_method_6_code 27 = .ok (.aload_n 0, 1) := by decide +kernel
theorem dP_letter_28 : decode prog_1_method_6_code 28 = .ok (.getfield 40, 3) := by decide +kernel
theorem dP_letter_31 : decode prog_1_method_6_code 31 = .ok (.iload_n 1, 1) := by decide +kernel
theorem dP_letter_32 : decode prog_1_method_6_code 32 = .ok (.i2c, 1) := by decide +kernel
theorem dP_letter_33 : decode prog_1_method_6_code 33 = .ok (.castore, 1) := by decide +kernel
theorem dP_letter_34 : decode prog_1_method_6_code 34 = .ok (.aload_n 0, 1) := by decide +kernel
theorem dP_letter_35 : decode prog_1_method_6_code 35 = .ok (.dup, 1) := by decide +kernel
theorem dP_letter_36 : decode prog_1_method_6_code 36 = .ok (.getfield 40, 3) := by decide +kernel
theorem dP_letter_39 : decode prog_1_method_6_code 39 = .ok (.iconst 1, 1) := by decide +kernel
theorem dP_letter_40 : decode prog_1_method_6_code 40 = .ok (.iadd, 1) := by decide +kernel
theorem dP_letter_41 : decode prog_1_method_6_code 41 = .ok (.putfield 40, 3) := by decide +kernel
theorem dP_letter_44 : decode prog_1_method_6_code 44 = .ok (.iconst 1, 1) := by decide +kernel
theorem dP_letter_45 : decode prog_1_method_6_code 45 = .ok (.ireturn, 1) := by decide +kernel
theorem dP_areSpan_0 : decode prog_1_method_24_code 0 = .ok (.iload_n 0, 1) := by decide +kernel
theorem dP_areSpan_1 : decode prog_1_method_24_code 1 = .ok (.invokestatic 128, 3) := by decide +kernel
theorem dP_areSpan_4 : decode prog_1_method_24_code 4 = .ok (.ifCond .eq 19, 3) := by decide +kernel
theorem dP_areSpan_7 : decode prog_1_method_24_code 7 = .ok (.iload_n 1, 1) := by decide +kernel
theorem dP_areSpan_8 : decode prog_1_method_24_code 8 = .ok (.invokestatic 128, 3) := by decide +kernel
theorem dP_areSpan_11 : decode prog_1_method_24_code 11 = .ok (.ifCond .eq 12, 3) := by decide +kernel
theorem dP_areSpan_14 : decode prog_1_method_24_code 14 = .ok (.iload_n 0, 1) := by decide +kernel
theorem dP_areSpan_15 : decode prog_1_method_24_code 15 = .ok (.iload_n 1, 1) := by decide +kernel
theorem dP_areSpan_16 : decode prog_1_method_24_code 16 = .ok (.if_icmp .gt 7, 3) := by decide +kernel
theorem dP_areSpan_19 : decode prog_1_method_24_code 19 = .ok (.iconst 1, 1) := by decide +kernel
theorem dP_areSpan_20 : decode prog_1_method_24_code 20 = .ok (.goto 4, 3) := by decide +kernel
theorem dP_areSpan_23 : decode prog_1_method_24_code 23 = .ok (.iconst 0, 1) := by decide +kernel
theorem dP_areSpan_24 : decode prog_1_method_24_code 24 = .ok (.ireturn, 1) := by decide +kernel
theorem dNa_init_0 : decode prog_7_method_1_code 0 = .ok (.aload_n 0, 1) := by decide +kernel
theorem dNa_init_1 : decode prog_7_method_1_code 1 = .ok (.invokespecial 1, 3) := by decide +kernel
theorem dNa_init_4 : decode prog_7_method_1_code 4 = .ok (.aload_n 0, 1) := by decide +kernel
theorem dNa_init_5 : decode prog_7_method_1_code 5 = .ok (.aload_n 1, 1) := by decide +kernel
theorem dNa_init_6 : decode prog_7_method_1_code 6 = .ok (.putfield 7, 3) := by decide +kernel
theorem dNa_init_9 : decode prog_7_method_1_code 9 = .ok (.aload_n 0, 1) := by decide +kernel
theorem dNa_init_10 : decode prog_7_method_1_code 10 = .ok (.iload_n 2, 1) := by decide +kernel
theorem dNa_init_11 : decode prog_7_method_1_code 11 = .ok (.putfield 13, 3) := by decide +kernel
theorem dNa_init_14 : decode prog_7_method_1_code 14 = .ok (.aload_n 0, 1) := by decide +kernel
theorem dNa_init_15 : decode prog_7_method_1_code 15 = .ok (.iload_n 3, 1) := by decide +kernel
theorem dNa_init_16 : decode prog_7_method_1_code 16 = .ok (.putfield 17, 3) := by decide +kernel
theorem dNa_init_19 : decode prog_7_method_1_code 19 = .ok (.return_, 1) := by decide +kernel
theorem dP_name_0 : decode prog_1_method_7_code 0 = .ok (.aload_n 0, 1) := by decide +kernel
theorem dP_name_1 : decode prog_1_method_7_code 1 = .ok (.iload_n 1, 1) := by decide +kernel
theorem dP_name_2 : decode prog_1_method_7_code 2 = .ok (.invokevirtual 124, 3) := by decide +kernel
theorem dP_name_5 : decode prog_1_method_7_code 5 = .ok (.astore 4, 2) := by decide +kernel
theorem dP_name_7 : decode prog_1_method_7_code 7 = .ok (.aload 4, 2) := by decide +kernel
theorem dP_name_9 : decode prog_1_method_7_code 9 = .ok (.ifnull 18, 3) := by decide +kernel
theorem dP_name_12 : decode prog_1_method_7_code 12 = .ok (.iload_n 2, 1) := by decide +kernel
theorem dP_name_13 : decode prog_1_method_7_code 13 = .ok (.iload_n 3, 1) := by decide +kernel
theorem dP_name_14 : decode prog_1_method_7_code 14 = .ok (.invokestatic 151, 3) := by decide +kernel
theorem dP_name_17 : decode prog_1_method_7_code 17 = .ok (.ifCond .eq 10, 3) := by decide +kernel
theorem dP_name_20 : decode prog_1_method_7_code 20 = .ok (.aload_n 0, 1) := by decide +kernel
theorem dP_name_21 : decode prog_1_method_7_code 21 = .ok (.getfield 40, 3) := by decide +kernel
theorem dP_name_24 : decode prog_1_method_7_code 24 = .ok (.ifCond .ne 13, 3) := by decide +kernel
theorem dP_name_27 : decode prog_1_method_7_code 27 = .ok (.new 91, 3) := by decide +kernel
theorem dP_name_30 : decode prog_1_method_7_code 30 = .ok (.dup, 1) := by decide +kernel
theorem dP_name_31 : decode prog_1_method_7_code 31 = .ok (.ldc 154, 2) := by decide +kernel
theorem dP_name_33 : decode prog_1_method_7_code 33 = .ok (.invokespecial 95, 3) := by decide +kernel
theorem dP_name_36 : decode prog_1_method_7_code 36 = .ok (.athrow, 1) := by decide +kernel
theorem dP_name_37 : decode prog_1_method_7_code 37 = .ok (.aload 4, 2) := by decide +kernel
theorem dP_name_39 : decode prog_1_method_7_code 39 = .ok (.getfield 156, 3) := by decide +kernel
theorem dP_name_42 : decode prog_1_method_7_code 42 = .ok (.invokevirtual 98, 3) := by decide +kernel
theorem dP_name_45 : decode prog_1_method_7_code 45 = .ok (.iconst 2, 1) := by decide +kernel
theorem dP_name_46 : decode prog_1_method_7_code 46 = .ok (.if_icmp .lt 13, 3) := by decide +kernel
theorem dP_name_49 : decode prog_1_method_7_code 49 = .ok (.new 102, 3) := by decide +kernel
theorem dP_name_52 : decode prog_1_method_7_code 52 = .ok (.dup, 1) := by decide +kernel
theorem dP_name_53 : decode prog_1_method_7_code 53 = .ok (.ldc 159, 2) := by decide +kernel
theorem dP_name_55 : decode prog_1_method_7_code 55 = .ok (.invokespecial 106, 3) := by decide +kernel
theorem dP_name_58 : decode prog_1_method_7_code 58 = .ok (.athrow, 1) := by decide +kernel
theorem dP_name_59 : decode prog_1_method_7_code 59 = .ok (.aload 4, 2) := by decide +kernel
theorem dP_name_61 : decode prog_1_method_7_code 61 = .ok (.getfield 156, 3) := by decide +kernel
theorem dP_name_64 : decode prog_1_method_7_code 64 = .ok (.new 161, 3) := by decide +kernel
theorem dP_name_67 : decode prog_1_method_7_code 67 = .ok (.dup, 1) := by decide +kernel
theorem dP_name_68 : decode prog_1_method_7_code 68 = .ok (.new 75, 3) := by decide +kernel
theorem dP_name_71 : decode prog_1_method_7_code 71 = .ok (.dup, 1) := by decide +kernel
theorem dP_name_72 : decode prog_1_method_7_code 72 = .ok (.aload_n 0, 1) := by decide +kernel
theorem dP_name_73 : decode prog_1_method_7_code 73 = .ok (.getfield 36, 3) := by decide +kernel
theorem dP_name_76 : decode prog_1_method_7_code 76 = .ok (.aload_n 0, 1) := by decide +kernel
theorem dP_name_77 : decode prog_1_method_7_code 77 = .ok (.getfield 40, 3) := by decide +kernel
theorem dP_name_80 : decode prog_1_method_7_code 80 = .ok (.invokespecial 77, 3) := by decide +kernel
theorem dP_name_83 : decode prog_1_method_7_code 83 = .ok (.iload_n 2, 1) := by decide +kernel
theorem dP_name_84 : decode prog_1_method_7_code 84 = .ok (.iload_n 3, 1) := by decide +kernel
theorem dP_name_85 : decode prog_1_method_7_code 85 = .ok (.invokespecial 163, 3) := by decide +kernel
theorem dP_name_88 : decode prog_1_method_7_code 88 = .ok (.invokevirtual 112, 3) := by decide +kernel
theorem dP_name_91 : decode prog_1_method_7_code 91 = .ok (.pop, 1) := by decide +kernel
theorem dP_name_92 : decode prog_1_method_7_code 92 = .ok (.aload_n 0, 1) := by decide +kernel
theorem dP_name_93 : decode prog_1_method_7_code 93 = .ok (.iconst 0, 1) := by decide +kernel
theorem dP_name_94 : decode prog_1_method_7_code 94 = .ok (.putfield 40, 3) := by decide +kernel
theorem dP_name_97 : decode prog_1_method_7_code 97 = .ok (.return_, 1) := by decide +kernel
theorem dLi_isWithin_0 : decode prog_6_method_2_code 0 = .ok (.aload_n 0, 1) := by decide +kernel
theorem dLi_isWithin_1 : decode prog_6_method_2_code 1 = .ok (.getfield 13, 3) := by decide +kernel
theorem dLi_isWithin_4 : decode prog_6_method_2_code 4 = .ok (.iload_n 2, 1) := by decide +kernel
theorem dLi_isWithin_5 : decode prog_6_method_2_code 5 = .ok (.if_icmp .gt 15, 3) := by decide +kernel
theorem dLi_isWithin_8 : decode prog_6_method_2_code 8 = .ok (.iload_n 1, 1) := by decide +kernel
theorem dLi_isWithin_9 : decode prog_6_method_2_code 9 = .ok (.aload_n 0, 1) := by decide +kernel
theorem dLi_isWithin_10 : decode prog_6_method_2_code 10 = .ok (.getfield 17, 3) := by decide +kernel
theorem dLi_isWithin_13 : decode prog_6_method_2_code 13 = .ok (.if_icmp .gt 7, 3) := by decide +kernel
theorem dLi_isWithin_16 : decode prog_6_method_2_code 16 = .ok (.iconst 1, 1) := by decide +kernel
theorem dLi_isWithin_17 : decode prog_6_method_2_code 17 = .ok (.goto 4, 3) := by decide +kernel
theorem dLi_isWithin_20 : decode prog_6_method_2_code 20 = .ok (.iconst 0, 1) := by decide +kernel
theorem dLi_isWithin_21 : decode prog_6_method_2_code 21 = .ok (.ireturn, 1) := by decide +kernel
theorem dPl_isLinkedWithin_0 : decode prog_8_method_8_code 0 = .ok (.iconst 0, 1) := by decide +kernel
theorem dPl_isLinkedWithin_1 : decode prog_8_method_8_code 1 = .ok (.istore_n 3, 1) := by decide +kernel
theorem dPl_isLinkedWithin_2 : decode prog_8_method_8_code 2 = .ok (.iload_n 3, 1) := by decide +kernel
theorem dPl_isLinkedWithin_3 : decode prog_8_method_8_code 3 = .ok (.aload_n 0, 1) := by decide +kernel
theorem dPl_isLinkedWithin_4 : decode prog_8_method_8_code 4 = .ok (.getfield 29, 3) := by decide +kernel
theorem dPl_isLinkedWithin_7 : decode prog_8_method_8_code 7 = .ok (.invokevirtual 38, 3) := by decide +kernel
theorem dPl_isLinkedWithin_10 : decode prog_8_method_8_code 10 = .ok (.if_icmp .ge 30, 3) := by decide +kernel
theorem dPl_isLinkedWithin_13 : decode prog_8_method_8_code 13 = .ok (.aload_n 0, 1) := by decide +kernel
theorem dPl_isLinkedWithin_14 : decode prog_8_method_8_code 14 = .ok (.getfield 29, 3) := by decide +kernel
theorem dPl_isLinkedWithin_17 : decode prog_8_method_8_code 17 = .ok (.iload_n 3, 1) := by decide +kernel
theorem dPl_isLinkedWithin_18 : decode prog_8_method_8_code 18 = .ok (.invokevirtual 46, 3) := by decide +kernel
theorem dPl_isLinkedWithin_21 : decode prog_8_method_8_code 21 = .ok (.checkcast 65, 3) := by decide +kernel
theorem dPl_isLinkedWithin_24 : decode prog_8_method_8_code 24 = .ok (.iload_n 1, 1) := by decide +kernel
theorem dPl_isLinkedWithin_25 : decode prog_8_method_8_code 25 = .ok (.iload_n 2, 1) := by decide +kernel
theorem dPl_isLinkedWithin_26 : decode prog_8_method_8_code 26 = .ok (.invokevirtual 67, 3) := by decide +kernel
theorem dPl_isLinkedWithin_29 : decode prog_8_method_8_code 29 = .ok (.ifCond .eq 5, 3) := by decide +kernel
theorem dPl_isLinkedWithin_32 : decode prog_8_method_8_code 32 = .ok (.iconst 1, 1) := by decide +kernel
theorem dPl_isLinkedWithin_33 : decode prog_8_method_8_code 33 = .ok (.ireturn, 1) := by decide +kernel
theorem dPl_isLinkedWithin_34 : decode prog_8_method_8_code 34 = .ok (.iinc 3 1, 3) := by decide +kernel
