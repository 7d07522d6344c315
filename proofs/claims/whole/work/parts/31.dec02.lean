theorem dRs_start_39 : decode prog_9_method_2_code 39 = .ok (.aload_n 2, 1) := by decide +kernel
theorem dRs_start_40 : decode prog_9_method_2_code 40 = .ok (.getfield 23, 3) := by decide +kernel
theorem dRs_start_43 : decode prog_9_method_2_code 43 = .ok (.iload 4, 2) := by decide +kernel
theorem dRs_start_45 : decode prog_9_method_2_code 45 = .ok (.iaload, 1) := by decide +kernel
theorem dRs_start_46 : decode prog_9_method_2_code 46 = .ok (.invokevirtual 26, 3) := by decide +kernel
theorem dRs_start_49 : decode prog_9_method_2_code 49 = .ok (.iinc 4 1, 3) := by decide +kernel
theorem dRs_start_52 : decode prog_9_method_2_code 52 = .ok (.goto (-32), 3) := by decide +kernel
theorem dRs_start_55 : decode prog_9_method_2_code 55 = .ok (.iinc 3 1, 3) := by decide +kernel
theorem dRs_start_58 : decode prog_9_method_2_code 58 = .ok (.goto (-51), 3) := by decide +kernel
theorem dRs_start_61 : decode prog_9_method_2_code 61 = .ok (.return_, 1) := by decide +kernel
theorem dRs_isWithin_0 : decode prog_9_method_5_code 0 = .ok (.iload_n 1, 1) := by decide +kernel
theorem dRs_isWithin_1 : decode prog_9_method_5_code 1 = .ok (.i2l, 1) := by decide +kernel
theorem dRs_isWithin_2 : decode prog_9_method_5_code 2 = .ok (.iload_n 1, 1) := by decide +kernel
theorem dRs_isWithin_3 : decode prog_9_method_5_code 3 = .ok (.i2l, 1) := by decide +kernel
theorem dRs_isWithin_4 : decode prog_9_method_5_code 4 = .ok (.lmul, 1) := by decide +kernel
theorem dRs_isWithin_5 : decode prog_9_method_5_code 5 = .ok (.lstore_n 2, 1) := by decide +kernel
theorem dRs_isWithin_6 : decode prog_9_method_5_code 6 = .ok (.aload_n 0, 1) := by decide +kernel
theorem dRs_isWithin_7 : decode prog_9_method_5_code 7 = .ok (.getfield 7, 3) := by decide +kernel
theorem dRs_isWithin_10 : decode prog_9_method_5_code 10 = .ok (.ifCond .eq 34, 3) := by decide +kernel
theorem dRs_isWithin_13 : decode prog_9_method_5_code 13 = .ok (.aload_n 0, 1) := by decide +kernel
theorem dRs_isWithin_14 : decode prog_9_method_5_code 14 = .ok (.getfield 38, 3) := by decide +kernel
theorem dRs_isWithin_17 : decode prog_9_method_5_code 17 = .ok (.lload_n 2, 1) := by decide +kernel
theorem dRs_isWithin_18 : decode prog_9_method_5_code 18 = .ok (.lcmp, 1) := by decide +kernel
theorem dRs_isWithin_19 : decode prog_9_method_5_code 19 = .ok (.ifCond .lt 21, 3) := by decide +kernel
theorem dRs_isWithin_22 : decode prog_9_method_5_code 22 = .ok (.aload_n 0, 1) := by decide +kernel
theorem dRs_isWithin_23 : decode prog_9_method_5_code 23 = .ok (.getfield 38, 3) := by decide +kernel
theorem dRs_isWithin_26 : decode prog_9_method_5_code 26 = .ok (.lload_n 2, 1) := by decide +kernel
theorem dRs_isWithin_27 : decode prog_9_method_5_code 27 = .ok (.lcmp, 1) := by decide +kernel
theorem dRs_isWithin_28 : decode prog_9_method_5_code 28 = .ok (.ifCond .ne 16, 3) := by decide +kernel
theorem dRs_isWithin_31 : decode prog_9_method_5_code 31 = .ok (.aload_n 0, 1) := by decide +kernel
theorem dRs_isWithin_32 : decode prog_9_method_5_code 32 = .ok (.getfield 51, 3) := by decide +kernel
theorem dRs_isWithin_35 : decode prog_9_method_5_code 35 = .ok (.lconst 0, 1) := by decide +kernel
theorem dRs_isWithin_36 : decode prog_9_method_5_code 36 = .ok (.lcmp, 1) := by decide +kernel
theorem dRs_isWithin_37 : decode prog_9_method_5_code 37 = .ok (.ifCond .ne 7, 3) := by decide +kernel
theorem dRs_isWithin_40 : decode prog_9_method_5_code 40 = .ok (.iconst 1, 1) := by decide +kernel
theorem dRs_isWithin_41 : decode prog_9_method_5_code 41 = .ok (.goto 4, 3) := by decide +kernel
theorem dRs_isWithin_44 : decode prog_9_method_5_code 44 = .ok (.iconst 0, 1) := by decide +kernel
theorem dRs_isWithin_45 : decode prog_9_method_5_code 45 = .ok (.ireturn, 1) := by decide +kernel
theorem dNa_isOf_0 : decode prog_7_method_2_code 0 = .ok (.aload_n 0, 1) := by decide +kernel
theorem dNa_isOf_1 : decode prog_7_method_2_code 1 = .ok (.getfield 13, 3) := by decide +kernel
theorem dNa_isOf_4 : decode prog_7_method_2_code 4 = .ok (.iload_n 1, 1) := by decide +kernel
theorem dNa_isOf_5 : decode prog_7_method_2_code 5 = .ok (.if_icmp .gt 15, 3) := by decide +kernel
theorem dNa_isOf_8 : decode prog_7_method_2_code 8 = .ok (.iload_n 1, 1) := by decide +kernel
theorem dNa_isOf_9 : decode prog_7_method_2_code 9 = .ok (.aload_n 0, 1) := by decide +kernel
theorem dNa_isOf_10 : decode prog_7_method_2_code 10 = .ok (.getfield 17, 3) := by decide +kernel
theorem dNa_isOf_13 : decode prog_7_method_2_code 13 = .ok (.if_icmp .gt 7, 3) := by decide +kernel
theorem dNa_isOf_16 : decode prog_7_method_2_code 16 = .ok (.iconst 1, 1) := by decide +kernel
theorem dNa_isOf_17 : decode prog_7_method_2_code 17 = .ok (.goto 4, 3) := by decide +kernel
theorem dNa_isOf_20 : decode prog_7_method_2_code 20 = .ok (.iconst 0, 1) := by decide +kernel
theorem dNa_isOf_21 : decode prog_7_method_2_code 21 = .ok (.ireturn, 1) := by decide +kernel
theorem dWo_rank_0 : decode prog_11_method_3_code 0 = .ok (.lconst 0, 1) := by decide +kernel
theorem dWo_rank_1 : decode prog_11_method_3_code 1 = .ok (.lstore_n 1, 1) := by decide +kernel
theorem dWo_rank_2 : decode prog_11_method_3_code 2 = .ok (.iconst 0, 1) := by decide +kernel
theorem dWo_rank_3 : decode prog_11_method_3_code 3 = .ok (.istore_n 3, 1) := by decide +kernel
theorem dWo_rank_4 : decode prog_11_method_3_code 4 = .ok (.iload_n 3, 1) := by decide +kernel
theorem dWo_rank_5 : decode prog_11_method_3_code 5 = .ok (.bipush 10, 2) := by decide +kernel
theorem dWo_rank_7 : decode prog_11_method_3_code 7 = .ok (.if_icmp .ge 40, 3) := by decide +kernel
theorem dWo_rank_10 : decode prog_11_method_3_code 10 = .ok (.lload_n 1, 1) := by decide +kernel
theorem dWo_rank_11 : decode prog_11_method_3_code 11 = .ok (.ldc2_w 23, 3) := by decide +kernel
theorem dWo_rank_14 : decode prog_11_method_3_code 14 = .ok (.lmul, 1) := by decide +kernel
theorem dWo_rank_15 : decode prog_11_method_3_code 15 = .ok (.iload_n 3, 1) := by decide +kernel
theorem dWo_rank_16 : decode prog_11_method_3_code 16 = .ok (.aload_n 0, 1) := by decide +kernel
theorem dWo_rank_17 : decode prog_11_method_3_code 17 = .ok (.getfield 19, 3) := by decide +kernel
theorem dWo_rank_20 : decode prog_11_method_3_code 20 = .ok (.if_icmp .ge 17, 3) := by decide +kernel
theorem dWo_rank_23 : decode prog_11_method_3_code 23 = .ok (.aload_n 0, 1) := by decide +kernel
theorem dWo_rank_24 : decode prog_11_method_3_code 24 = .ok (.getfield 9, 3) := by decide +kernel
theorem dWo_rank_27 : decode prog_11_method_3_code 27 = .ok (.iload_n 3, 1) := by decide +kernel
theorem dWo_rank_28 : decode prog_11_method_3_code 28 = .ok (.caload, 1) := by decide +kernel
theorem dWo_rank_29 : decode prog_11_method_3_code 29 = .ok (.bipush 97, 2) := by decide +kernel
theorem dWo_rank_31 : decode prog_11_method_3_code 31 = .ok (.isub, 1) := by decide +kernel
theorem dWo_rank_32 : decode prog_11_method_3_code 32 = .ok (.iconst 1, 1) := by decide +kernel
theorem dWo_rank_33 : decode prog_11_method_3_code 33 = .ok (.iadd, 1) := by decide +kernel
theorem dWo_rank_34 : decode prog_11_method_3_code 34 = .ok (.goto 4, 3) := by decide +kernel
theorem dWo_rank_37 : decode prog_11_method_3_code 37 = .ok (.iconst 0, 1) := by decide +kernel
theorem dWo_rank_38 : decode prog_11_method_3_code 38 = .ok (.i2l, 1) := by decide +kernel
theorem dWo_rank_39 : decode prog_11_method_3_code 39 = .ok (.ladd, 1) := by decide +kernel
theorem dWo_rank_40 : decode prog_11_method_3_code 40 = .ok (.lstore_n 1, 1) := by decide +kernel
theorem dWo_rank_41 : decode prog_11_method_3_code 41 = .ok (.iinc 3 1, 3) := by decide +kernel
theorem dWo_rank_44 : decode prog_11_method_3_code 44 = .ok (.goto (-40), 3) := by decide +kernel
theorem dWo_rank_47 : decode prog_11_method_3_code 47 = .ok (.lload_n 1, 1) := by decide +kernel
theorem dWo_rank_48 : decode prog_11_method_3_code 48 = .ok (.lreturn, 1) := by decide +kernel
theorem dWo_beginsWith_0 : decode prog_11_method_4_code 0 = .ok (.aload_n 1, 1) := by decide +kernel
theorem dWo_beginsWith_1 : decode prog_11_method_4_code 1 = .ok (.getfield 19, 3) := by decide +kernel
theorem dWo_beginsWith_4 : decode prog_11_method_4_code 4 = .ok (.aload_n 0, 1) := by decide +kernel
theorem dWo_beginsWith_5 : decode prog_11_method_4_code 5 = .ok (.getfield 19, 3) := by decide +kernel
theorem dWo_beginsWith_8 : decode prog_11_method_4_code 8 = .ok (.if_icmp .le 5, 3) := by decide +kernel
theorem dWo_beginsWith_11 : decode prog_11_method_4_code 11 = .ok (.iconst 0, 1) := by decide +kernel
theorem dWo_beginsWith_12 : decode prog_11_method_4_code 12 = .ok (.ireturn, 1) := by decide +kernel
theorem dWo_beginsWith_13 : decode prog_11_method_4_code 13 = .ok (.iconst 0, 1) := by decide +kernel
theorem dWo_beginsWith_14 : decode prog_11_method_4_code 14 = .ok (.istore_n 2, 1) := by decide +kernel
theorem dWo_beginsWith_15 : decode prog_11_method_4_code 15 = .ok (.iload_n 2, 1) := by decide +kernel
theorem dWo_beginsWith_16 : decode prog_11_method_4_code 16 = .ok (.aload_n 1, 1) := by decide +kernel
theorem dWo_beginsWith_17 : decode prog_11_method_4_code 17 = .ok (.getfield 19, 3) := by decide +kernel
theorem dWo_beginsWith_20 : decode prog_11_method_4_code 20 = .ok (.if_icmp .ge 26, 3) := by decide +kernel
theorem dWo_beginsWith_23 : decode prog_11_method_4_code 23 = .ok (.aload_n 0, 1) := by decide +kernel
theorem dWo_beginsWith_24 : decode prog_11_method_4_code 24 = .ok (.getfield 9, 3) := by decide +kernel
theorem dWo_beginsWith_27 : decode prog_11_method_4_code 27 = .ok (.iload_n 2, 1) := by decide +kernel
theorem dWo_beginsWith_28 : decode prog_11_method_4_code 28 = .ok (.caload, 1) := by decide +kernel
theorem dWo_beginsWith_29 : decode prog_11_method_4_code 29 = .ok (.aload_n 1, 1) := by decide +kernel
theorem dWo_beginsWith_30 : decode prog_11_method_4_code 30 = .ok (.getfield 9, 3) := by decide +kernel
theorem dWo_beginsWith_33 : decode prog_11_method_4_code 33 = .ok (.iload_n 2, 1) := by decide +kernel
theorem dWo_beginsWith_34 : decode prog_11_method_4_code 34 = .ok (.caload, 1) := by decide +kernel
theorem dWo_beginsWith_35 : decode prog_11_method_4_code 35 = .ok (.if_icmp .eq 5, 3) := by decide +kernel
theorem dWo_beginsWith_38 : decode prog_11_method_4_code 38 = .ok (.iconst 0, 1) := by decide +kernel
theorem dWo_beginsWith_39 : decode prog_11_method_4_code 39 = .ok (.ireturn, 1) := by decide +kernel
theorem dWo_beginsWith_40 : decode prog_11_method_4_code 40 = .ok (.iinc 2 1, 3) := by decide +kernel
theorem dWo_beginsWith_43 : decode prog_11_method_4_code 43 = .ok (.goto (-28), 3) := by decide +kernel
theorem dWo_beginsWith_46 : decode prog_11_method_4_code 46 = .ok (.iconst 1, 1) := by decide +kernel
theorem dWo_beginsWith_47 : decode prog_11_method_4_code 47 = .ok (.ireturn, 1) := by decide +kernel
theorem dEc_leastFor_0 : decode prog_4_method_3_code 0 = .ok (.iload_n 2, 1) := by decide +kernel
theorem dEc_leastFor_1 : decode prog_4_method_3_code 1 = .ok (.ifCond .eq 8, 3) := by decide +kernel
theorem dEc_leastFor_4 : decode prog_4_method_3_code 4 = .ok (.iload 4, 2) := by decide +kernel
theorem dEc_leastFor_6 : decode prog_4_method_3_code 6 = .ok (.ifCond .ne 8, 3) := by decide +kernel
theorem dEc_leastFor_9 : decode prog_4_method_3_code 9 = .ok (.iload_n 2, 1) := by decide +kernel
theorem dEc_leastFor_10 : decode prog_4_method_3_code 10 = .ok (.iload 4, 2) := by decide +kernel
theorem dEc_leastFor_12 : decode prog_4_method_3_code 12 = .ok (.iadd, 1) := by decide +kernel
theorem dEc_leastFor_13 : decode prog_4_method_3_code 13 = .ok (.ireturn, 1) := by decide +kernel
theorem dEc_leastFor_14 : decode prog_4_method_3_code 14 = .ok (.aload_n 0, 1) := by decide +kernel
theorem dEc_leastFor_15 : decode prog_4_method_3_code 15 = .ok (.getfield 11, 3) := by decide +kernel
theorem dEc_leastFor_18 : decode prog_4_method_3_code 18 = .ok (.iload_n 2, 1) := by decide +kernel
theorem dEc_leastFor_19 : decode prog_4_method_3_code 19 = .ok (.iconst 1, 1) := by decide +kernel
theorem dEc_leastFor_20 : decode prog_4_method_3_code 20 = .ok (.isub, 1) := by decide +kernel
theorem dEc_leastFor_21 : decode prog_4_method_3_code 21 = .ok (.aaload, 1) := by decide +kernel
theorem dEc_leastFor_22 : decode prog_4_method_3_code 22 = .ok (.iload 4, 2) := by decide +kernel
theorem dEc_leastFor_24 : decode prog_4_method_3_code 24 = .ok (.iconst 1, 1) := by decide +kernel
theorem dEc_leastFor_25 : decode prog_4_method_3_code 25 = .ok (.isub, 1) := by decide +kernel
theorem dEc_leastFor_26 : decode prog_4_method_3_code 26 = .ok (.iaload, 1) := by decide +kernel
theorem dEc_leastFor_27 : decode prog_4_method_3_code 27 = .ok (.aload_n 1, 1) := by decide +kernel
theorem dEc_leastFor_28 : decode prog_4_method_3_code 28 = .ok (.iload_n 2, 1) := by decide +kernel
theorem dEc_leastFor_29 : decode prog_4_method_3_code 29 = .ok (.iconst 1, 1) := by decide +kernel
theorem dEc_leastFor_30 : decode prog_4_method_3_code 30 = .ok (.isub, 1) := by decide +kernel
theorem dEc_leastFor_31 : decode prog_4_method_3_code 31 = .ok (.caload, 1) := by decide +kernel
theorem dEc_leastFor_32 : decode prog_4_method_3_code 32 = .ok (.aload_n 3, 1) := by decide +kernel
theorem dEc_leastFor_33 : decode prog_4_method_3_code 33 = .ok (.iload 4, 2) := by decide +kernel
theorem dEc_leastFor_35 : decode prog_4_method_3_code 35 = .ok (.iconst 1, 1) := by decide +kernel
theorem dEc_leastFor_36 : decode prog_4_method_3_code 36 = .ok (.isub, 1) := by decide +kernel
theorem dEc_leastFor_37 : decode prog_4_method_3_code 37 = .ok (.caload, 1) := by decide +kernel
theorem dEc_leastFor_38 : decode prog_4_method_3_code 38 = .ok (.if_icmp .ne 7, 3) := by decide +kernel
theorem dEc_leastFor_41 : decode prog_4_method_3_code 41 = .ok (.iconst 0, 1) := by decide +kernel
theorem dEc_leastFor_42 : decode prog_4_method_3_code 42 = .ok (.goto 4, 3) := by decide +kernel
theorem dEc_leastFor_45 : decode prog_4_method_3_code 45 = .ok (.iconst 1, 1) := by decide +kernel
theorem dEc_leastFor_46 : decode prog_4_method_3_code 46 = .ok (.iadd, 1) := by decide +kernel
theorem dEc_leastFor_47 : decode prog_4_method_3_code 47 = .ok (.istore 5, 2) := by decide +kernel
theorem dEc_leastFor_49 : decode prog_4_method_3_code 49 = .ok (.aload_n 0, 1) := by decide +kernel
theorem dEc_leastFor_50 : decode prog_4_method_3_code 50 = .ok (.getfield 11, 3) := by decide +kernel
theorem dEc_leastFor_53 : decode prog_4_method_3_code 53 = .ok (.iload_n 2, 1) := by decide +kernel
theorem dEc_leastFor_54 : decode prog_4_method_3_code 54 = .ok (.iconst 1, 1) := by decide +kernel
theorem dEc_leastFor_55 : decode prog_4_method_3_code 55 = .ok (.isub, 1) := by decide +kernel
theorem dEc_leastFor_56 : decode prog_4_method_3_code 56 = .ok (.aaload, 1) := by decide +kernel
theorem dEc_leastFor_57 : decode prog_4_method_3_code 57 = .ok (.iload 4, 2) := by decide +kernel
theorem dEc_leastFor_59 : decode prog_4_method_3_code 59 = .ok (.iaload, 1) := by decide +kernel
theorem dEc_leastFor_60 : decode prog_4_method_3_code 60 = .ok (.aload_n 0, 1) := by decide +kernel
theorem dEc_leastFor_61 : decode prog_4_method_3_code 61 = .ok (.getfield 11, 3) := by decide +kernel
theorem dEc_leastFor_64 : decode prog_4_method_3_code 64 = .ok (.iload_n 2, 1) := by decide +kernel
theorem dEc_leastFor_65 : decode prog_4_method_3_code 65 = .ok (.aaload, 1) := by decide +kernel
theorem dEc_leastFor_66 : decode prog_4_method_3_code 66 = .ok (.iload 4, 2) := by decide +kernel
theorem dEc_leastFor_68 : decode prog_4_method_3_code 68 = .ok (.iconst 1, 1) := by decide +kernel
theorem dEc_leastFor_69 : decode prog_4_method_3_code 69 = .ok (.isub, 1) := by decide +kernel
theorem dEc_leastFor_70 : decode prog_4_method_3_code 70 = .ok (.iaload, 1) := by decide +kernel
theorem dEc_leastFor_71 : decode prog_4_method_3_code 71 = .ok (.invokestatic 30, 3) := by decide +kernel
theorem dEc_leastFor_74 : decode prog_4_method_3_code 74 = .ok (.iconst 1, 1) := by decide +kernel
theorem dEc_leastFor_75 : decode prog_4_method_3_code 75 = .ok (.iadd, 1) := by decide +kernel
theorem dEc_leastFor_76 : decode prog_4_method_3_code 76 = .ok (.istore 6, 2) := by decide +kernel
theorem dEc_leastFor_78 : decode prog_4_method_3_code 78 = .ok (.iload 5, 2) := by decide +kernel
theorem dEc_leastFor_80 : decode prog_4_method_3_code 80 = .ok (.iload 6, 2) := by decide +kernel
theorem dEc_leastFor_82 : decode prog_4_method_3_code 82 = .ok (.invokestatic 30, 3) := by decide +kernel
theorem dEc_leastFor_85 : decode prog_4_method_3_code 85 = .ok (.istore 7, 2) := by decide +kernel
theorem dEc_leastFor_87 : decode prog_4_method_3_code 87 = .ok (.iload_n 2, 1) := by decide +kernel
theorem dEc_leastFor_88 : decode prog_4_method_3_code 88 = .ok (.iconst 1, 1) := by decide +kernel
theorem dEc_leastFor_89 : decode prog_4_method_3_code 89 = .ok (.if_icmp .le 41, 3) := by decide +kernel
theorem dEc_leastFor_92 : decode prog_4_method_3_code 92 = .ok (.iload 4, 2) := by decide +kernel
theorem dEc_leastFor_94 : decode prog_4_method_3_code 94 = .ok (.iconst 1, 1) := by decide +kernel
theorem dEc_leastFor_95 : decode prog_4_method_3_code 95 = .ok (.if_icmp .le 35, 3) := by decide +kernel
theorem dEc_leastFor_98 : decode prog_4_method_3_code 98 = .ok (.aload_n 1, 1) := by decide +kernel
theorem dEc_leastFor_99 : decode prog_4_method_3_code 99 = .ok (.iload_n 2, 1) := by decide +kernel
theorem dEc_leastFor_100 : decode prog_4_method_3_code 100 = .ok (.iconst 1, 1) := by decide +kernel
theorem dEc_leastFor_101 : decode prog_4_method_3_code 101 = .ok (.isub, 1) := by decide +kernel
theorem dEc_leastFor_102 : decode prog_4_method_3_code 102 = .ok (.caload, 1) := by decide +kernel
theorem dEc_leastFor_103 : decode prog_4_method_3_code 103 = .ok (.aload_n 3, 1) := by decide +kernel
theorem dEc_leastFor_104 : decode prog_4_method_3_code 104 = .ok (.iload 4, 2) := by decide +kernel
theorem dEc_leastFor_106 : decode prog_4_method_3_code 106 = .ok (.iconst 2, 1) := by decide +kernel
theorem dEc_leastFor_107 : decode prog_4_method_3_code 107 = .ok (.isub, 1) := by decide +kernel
theorem dEc_leastFor_108 : decode prog_4_method_3_code 108 = .ok (.caload, 1) := by decide +kernel
theorem dEc_leastFor_109 : decode prog_4_method_3_code 109 = .ok (.if_icmp .ne 21, 3) := by decide +kernel
theorem dEc_leastFor_112 : decode prog_4_method_3_code 112 = .ok (.aload_n 1, 1) := by decide +kernel
theorem dEc_leastFor_113 : decode prog_4_method_3_code 113 = .ok (.iload_n 2, 1) := by decide +kernel
theorem dEc_leastFor_114 : decode prog_4_method_3_code 114 = .ok (.iconst 2, 1) := by decide +kernel
theorem dEc_leastFor_115 : decode prog_4_method_3_code 115 = .ok (.isub, 1) := by decide +kernel
theorem dEc_leastFor_116 : decode prog_4_method_3_code 116 = .ok (.caload, 1) := by decide +kernel
theorem dEc_leastFor_117 : decode prog_4_method_3_code 117 = .ok (.aload_n 3, 1) := by decide +kernel
theorem dEc_leastFor_118 : decode prog_4_method_3_code 118 = .ok (.iload 4, 2) := by decide +kernel
theorem dEc_leastFor_120 : decode prog_4_method_3_code 120 = .ok (.iconst 1, 1) := by decide +kernel
theorem dEc_leastFor_121 : decode prog_4_method_3_code 121 = .ok (.isub, 1) := by decide +kernel
theorem dEc_leastFor_122 : decode prog_4_method_3_code 122 = .ok (.caload, 1) := by decide +kernel
theorem dEc_leastFor_123 : decode prog_4_method_3_code 123 = .ok (.if_icmp .ne 7, 3) := by decide +kernel
theorem dEc_leastFor_126 : decode prog_4_method_3_code 126 = .ok (.iconst 1, 1) := by decide +kernel
theorem dEc_leastFor_127 : decode prog_4_method_3_code 127 = .ok (.goto 4, 3) := by decide +kernel
theorem dEc_leastFor_130 : decode prog_4_method_3_code 130 = .ok (.iconst 0, 1) := by decide +kernel
theorem dEc_leastFor_131 : decode prog_4_method_3_code 131 = .ok (.istore 8, 2) := by decide +kernel
theorem dEc_leastFor_133 : decode prog_4_method_3_code 133 = .ok (.iload 8, 2) := by decide +kernel
theorem dEc_leastFor_135 : decode prog_4_method_3_code 135 = .ok (.ifCond .eq 26, 3) := by decide +kernel
theorem dEc_leastFor_138 : decode prog_4_method_3_code 138 = .ok (.iload 7, 2) := by decide +kernel
theorem dEc_leastFor_140 : decode prog_4_method_3_code 140 = .ok (.aload_n 0, 1) := by decide +kernel
theorem dEc_leastFor_141 : decode prog_4_method_3_code 141 = .ok (.getfield 11, 3) := by decide +kernel
theorem dEc_leastFor_144 : decode prog_4_method_3_code 144 = .ok (.iload_n 2, 1) := by decide +kernel
theorem dEc_leastFor_145 : decode prog_4_method_3_code 145 = .ok (.iconst 2, 1) := by decide +kernel
theorem dEc_leastFor_146 : decode prog_4_method_3_code 146 = .ok (.isub, 1) := by decide +kernel
theorem dEc_leastFor_147 : decode prog_4_method_3_code 147 = .ok (.aaload, 1) := by decide +kernel
theorem dEc_leastFor_148 : decode prog_4_method_3_code 148 = .ok (.iload 4, 2) := by decide +kernel
theorem dEc_leastFor_150 : decode prog_4_method_3_code 150 = .ok (.iconst 2, 1) := by decide +kernel
theorem dEc_leastFor_151 : decode prog_4_method_3_code 151 = .ok (.isub, 1) := by decide +kernel
theorem dEc_leastFor_152 : decode prog_4_method_3_code 152 = .ok (.iaload, 1) := by decide +kernel
theorem dEc_leastFor_153 : decode prog_4_method_3_code 153 = .ok (.iconst 1, 1) := by decide +kernel
theorem dEc_leastFor_154 : decode prog_4_method_3_code 154 = .ok (.iadd, 1) := by decide +kernel
theorem dEc_leastFor_155 : decode prog_4_method_3_code 155 = .ok (.invokestatic 30, 3) := by decide +kernel
theorem dEc_leastFor_158 : decode prog_4_method_3_code 158 = .ok (.goto 5, 3) := by decide +kernel
theorem dEc_leastFor_161 : decode prog_4_method_3_code 161 = .ok (.iload 7, 2) := by decide +kernel
theorem dEc_leastFor_163 : decode prog_4_method_3_code 163 = .ok (.ireturn, 1) := by decide +kernel
theorem dEc_count_0 : decode prog_4_method_2_code 0 = .ok (.iconst 0, 1) := by decide +kernel
theorem dEc_count_1 : decode prog_4_method_2_code 1 = .ok (.istore_n 3, 1) := by decide +kernel
theorem dEc_count_2 : decode prog_4_method_2_code 2 = .ok (.iload_n 3, 1) := by decide +kernel
theorem dEc_count_3 : decode prog_4_method_2_code 3 = .ok (.aload_n 1, 1) := by decide +kernel
theorem dEc_count_4 : decode prog_4_method_2_code 4 = .ok (.getfield 16, 3) := by decide +kernel
theorem dEc_count_7 : decode prog_4_method_2_code 7 = .ok (.if_icmp .gt 51, 3) := by decide +kernel
theorem dEc_count_10 : decode prog_4_method_2_code 10 = .ok (.iconst 0, 1) := by decide +kernel
theorem dEc_count_11 : decode prog_4_method_2_code 11 = .ok (.istore 4, 2) := by decide +kernel
theorem dEc_count_13 : decode prog_4_method_2_code 13 = .ok (.iload 4, 2) := by decide +kernel
theorem dEc_count_15 : decode prog_4_method_2_code 15 = .ok (.aload_n 2, 1) := by decide +kernel
theorem dEc_count_16 : decode prog_4_method_2_code 16 = .ok (.getfield 16, 3) := by decide +kernel
theorem dEc_count_19 : decode prog_4_method_2_code 19 = .ok (.if_icmp .gt 33, 3) := by decide +kernel
theorem dEc_count_22 : decode prog_4_method_2_code 22 = .ok (.aload_n 0, 1) := by decide +kernel
theorem dEc_count_23 : decode prog_4_method_2_code 23 = .ok (.getfield 11, 3) := by decide +kernel
theorem dEc_count_26 : decode prog_4_method_2_code 26 = .ok (.iload_n 3, 1) := by decide +kernel
theorem dEc_count_27 : decode prog_4_method_2_code 27 = .ok (.aaload, 1) := by decide +kernel
theorem dEc_count_28 : decode prog_4_method_2_code 28 = .ok (.iload 4, 2) := by decide +kernel
theorem dEc_count_30 : decode prog_4_method_2_code 30 = .ok (.aload_n 0, 1) := by decide +kernel
theorem dEc_count_31 : decode prog_4_method_2_code 31 = .ok (.aload_n 1, 1) := by decide +kernel
theorem dEc_count_32 : decode prog_4_method_2_code 32 = .ok (.getfield 22, 3) := by decide +kernel
theorem dEc_count_35 : decode prog_4_method_2_code 35 = .ok (.iload_n 3, 1) := by decide +kernel
theorem dEc_count_36 : decode prog_4_method_2_code 36 = .ok (.aload_n 2, 1) := by decide +kernel
theorem dEc_count_37 : decode prog_4_method_2_code 37 = .ok (.getfield 22, 3) := by decide +kernel
theorem dEc_count_40 : decode prog_4_method_2_code 40 = .ok (.iload 4, 2) := by decide +kernel
theorem dEc_count_42 : decode prog_4_method_2_code 42 = .ok (.invokevirtual 26, 3) := by decide +kernel
theorem dEc_count_45 : decode prog_4_method_2_code 45 = .ok (.iastore, 1) := by decide +kernel
theorem dEc_count_46 : decode prog_4_method_2_code 46 = .ok (.iinc 4 1, 3) := by decide +kernel
theorem dEc_count_49 : decode prog_4_method_2_code 49 = .ok (.goto (-36), 3) := by decide +kernel
theorem dEc_count_52 : decode prog_4_method_2_code 52 = .ok (.iinc 3 1, 3) := by decide +kernel
theorem dEc_count_55 : decode prog_4_method_2_code 55 = .ok (.goto (-53), 3) := by decide +kernel
theorem dEc_count_58 : decode prog_4_method_2_code 58 = .ok (.aload_n 0, 1) := by decide +kernel
theorem dEc_count_59 : decode prog_4_method_2_code 59 = .ok (.getfield 11, 3) := by decide +kernel
theorem dEc_count_62 : decode prog_4_method_2_code 62 = .ok (.aload_n 1, 1) := by decide +kernel
theorem dEc_count_63 : decode prog_4_method_2_code 63 = .ok (.getfield 16, 3) := by decide +kernel
theorem dEc_count_66 : decode prog_4_method_2_code 66 = .ok (.aaload, 1) := by decide +kernel
theorem dEc_count_67 : decode prog_4_method_2_code 67 = .ok (.aload_n 2, 1) := by decide +kernel
theorem dEc_count_68 : decode prog_4_method_2_code 68 = .ok (.getfield 16, 3) := by decide +kernel
theorem dEc_count_71 : decode prog_4_method_2_code 71 = .ok (.iaload, 1) := by decide +kernel
theorem dEc_count_72 : decode prog_4_method_2_code 72 = .ok (.ireturn, 1) := by decide +kernel
theorem dSt_isLatin1_0 : decode prog_25_method_154_code 0 = .ok (.getstatic 38, 3) := by decide +kernel
theorem dSt_isLatin1_3 : decode prog_25_method_154_code 3 = .ok (.ifCond .eq 14, 3) := by decide +kernel
theorem dSt_isLatin1_6 : decode prog_25_method_154_code 6 = .ok (.aload_n 0, 1) := by decide +kernel
theorem dSt_isLatin1_7 : decode prog_25_method_154_code 7 = .ok (.getfield 15, 3) := by decide +kernel
theorem dSt_isLatin1_10 : decode prog_25_method_154_code 10 = .ok (.ifCond .ne 7, 3) := by decide +kernel
theorem dSt_isLatin1_13 : decode prog_25_method_154_code 13 = .ok (.iconst 1, 1) := by decide +kernel
theorem dSt_isLatin1_14 : decode prog_25_method_154_code 14 = .ok (.goto 4, 3) := by decide +kernel
theorem dSt_isLatin1_17 : decode prog_25_method_154_code 17 = .ok (.iconst 0, 1) := by decide +kernel
theorem dSt_isLatin1_18 : decode prog_25_method_154_code 18 = .ok (.ireturn, 1) := by decide +kernel
theorem dSt_checkIndex_0 : decode prog_25_method_155_code 0 = .ok (.iload_n 0, 1) := by decide +kernel
theorem dSt_checkIndex_1 : decode prog_25_method_155_code 1 = .ok (.iload_n 1, 1) := by decide +kernel
theorem dSt_checkIndex_2 : decode prog_25_method_155_code 2 = .ok (.getstatic 1053, 3) := by decide +kernel
theorem dSt_checkIndex_5 : decode prog_25_method_155_code 5 = .ok (.invokestatic 1059, 3) := by decide +kernel
theorem dSt_checkIndex_8 : decode prog_25_method_155_code 8 = .ok (.pop, 1) := by decide +kernel
theorem dSt_checkIndex_9 : decode prog_25_method_155_code 9 = .ok (.return_, 1) := by decide +kernel
theorem dSl_charAt_0 : decode prog_26_method_2_code 0 = .ok (.iload_n 1, 1) := by decide +kernel
theorem dSl_charAt_1 : decode prog_26_method_2_code 1 = .ok (.aload_n 0, 1) := by decide +kernel
theorem dSl_charAt_2 : decode prog_26_method_2_code 2 = .ok (.arraylength, 1) := by decide +kernel
theorem dSl_charAt_3 : decode prog_26_method_2_code 3 = .ok (.invokestatic 9, 3) := by decide +kernel
theorem dSl_charAt_6 : decode prog_26_method_2_code 6 = .ok (.aload_n 0, 1) := by decide +kernel
theorem dSl_charAt_7 : decode prog_26_method_2_code 7 = .ok (.iload_n 1, 1) := by decide +kernel
theorem dSl_charAt_8 : decode prog_26_method_2_code 8 = .ok (.baload, 1) := by decide +kernel
theorem dSl_charAt_9 : decode prog_26_method_2_code 9 = .ok (.sipush 255, 3) := by decide +kernel
theorem dSl_charAt_12 : decode prog_26_method_2_code 12 = .ok (.iand, 1) := by decide +kernel
theorem dSl_charAt_13 : decode prog_26_method_2_code 13 = .ok (.i2c, 1) := by decide +kernel
theorem dSl_charAt_14 : decode prog_26_method_2_code 14 = .ok (.ireturn, 1) := by decide +kernel
theorem dSv_length_0 : decode prog_27_method_6_code 0 = .ok (.aload_n 0, 1) := by decide +kernel
theorem dSv_length_1 : decode prog_27_method_6_code 1 = .ok (.arraylength, 1) := by decide +kernel
theorem dSv_length_2 : decode prog_27_method_6_code 2 = .ok (.iconst 1, 1) := by decide +kernel
theorem dSv_length_3 : decode prog_27_method_6_code 3 = .ok (.ishr, 1) := by decide +kernel
theorem dSv_length_4 : decode prog_27_method_6_code 4 = .ok (.ireturn, 1) := by decide +kernel
theorem dSv_checkIndex_0 : decode prog_27_method_91_code 0 = .ok (.iload_n 0, 1) := by decide +kernel
theorem dSv_checkIndex_1 : decode prog_27_method_91_code 1 = .ok (.aload_n 1, 1) := by decide +kernel
theorem dSv_checkIndex_2 : decode prog_27_method_91_code 2 = .ok (.invokestatic 48, 3) := by decide +kernel
theorem dSv_checkIndex_5 : decode prog_27_method_91_code 5 = .ok (.invokestatic 414, 3) := by decide +kernel
theorem dSv_checkIndex_8 : decode prog_27_method_91_code 8 = .ok (.return_, 1) := by decide +kernel
theorem dSt_charAt_0 : decode prog_25_method_56_code 0 = .ok (.aload_n 0, 1) := by decide +kernel
theorem dSt_charAt_1 : decode prog_25_method_56_code 1 = .ok (.invokevirtual 492, 3) := by decide +kernel
theorem dSt_charAt_4 : decode prog_25_method_56_code 4 = .ok (.ifCond .eq 12, 3) := by decide +kernel
theorem dSt_charAt_7 : decode prog_25_method_56_code 7 = .ok (.aload_n 0, 1) := by decide +kernel
theorem dSt_charAt_8 : decode prog_25_method_56_code 8 = .ok (.getfield 9, 3) := by decide +kernel
theorem dSt_charAt_11 : decode prog_25_method_56_code 11 = .ok (.iload_n 1, 1) := by decide +kernel
theorem dSt_charAt_12 : decode prog_25_method_56_code 12 = .ok (.invokestatic 495, 3) := by decide +kernel
theorem dSt_charAt_15 : decode prog_25_method_56_code 15 = .ok (.ireturn, 1) := by decide +kernel
theorem dWo_soundClass_0 : decode prog_11_method_6_code 0 = .ok (.ldc 29, 2) := by decide +kernel
theorem dWo_soundClass_2 : decode prog_11_method_6_code 2 = .ok (.aload_n 0, 1) := by decide +kernel
theorem dWo_soundClass_3 : decode prog_11_method_6_code 3 = .ok (.getfield 9, 3) := by decide +kernel
theorem dWo_soundClass_6 : decode prog_11_method_6_code 6 = .ok (.iload_n 1, 1) := by decide +kernel
theorem dWo_soundClass_7 : decode prog_11_method_6_code 7 = .ok (.caload, 1) := by decide +kernel
theorem dWo_soundClass_8 : decode prog_11_method_6_code 8 = .ok (.bipush 97, 2) := by decide +kernel
theorem dWo_soundClass_10 : decode prog_11_method_6_code 10 = .ok (.isub, 1) := by decide +kernel
theorem dWo_soundClass_11 : decode prog_11_method_6_code 11 = .ok (.invokevirtual 31, 3) := by decide +kernel
theorem dWo_soundClass_14 : decode prog_11_method_6_code 14 = .ok (.bipush 48, 2) := by decide +kernel
theorem dWo_soundClass_16 : decode prog_11_method_6_code 16 = .ok (.isub, 1) := by decide +kernel
theorem dWo_soundClass_17 : decode prog_11_method_6_code 17 = .ok (.ireturn, 1) := by decide +kernel
theorem dWo_soundCode_0 : decode prog_11_method_5_code 0 = .ok (.aload_n 0, 1) := by decide +kernel
theorem dWo_soundCode_1 : decode prog_11_method_5_code 1 = .ok (.getfield 19, 3) := by decide +kernel
theorem dWo_soundCode_4 : decode prog_11_method_5_code 4 = .ok (.ifCond .ne 5, 3) := by decide +kernel
theorem dWo_soundCode_7 : decode prog_11_method_5_code 7 = .ok (.iconst 0, 1) := by decide +kernel
theorem dWo_soundCode_8 : decode prog_11_method_5_code 8 = .ok (.ireturn, 1) := by decide +kernel
theorem dWo_soundCode_9 : decode prog_11_method_5_code 9 = .ok (.aload_n 0, 1) := by decide +kernel
theorem dWo_soundCode_10 : decode prog_11_method_5_code 10 = .ok (.getfield 9, 3) := by decide +kernel
theorem dWo_soundCode_13 : decode prog_11_method_5_code 13 = .ok (.iconst 0, 1) := by decide +kernel
theorem dWo_soundCode_14 : decode prog_11_method_5_code 14 = .ok (.caload, 1) := by decide +kernel
theorem dWo_soundCode_15 : decode prog_11_method_5_code 15 = .ok (.bipush 97, 2) := by decide +kernel
theorem dWo_soundCode_17 : decode prog_11_method_5_code 17 = .ok (.isub, 1) := by decide +kernel
theorem dWo_soundCode_18 : decode prog_11_method_5_code 18 = .ok (.iconst 1, 1) := by decide +kernel
theorem dWo_soundCode_19 : decode prog_11_method_5_code 19 = .ok (.iadd, 1) := by decide +kernel
theorem dWo_soundCode_20 : decode prog_11_method_5_code 20 = .ok (.istore_n 1, 1) := by decide +kernel
theorem dWo_soundCode_21 : decode prog_11_method_5_code 21 = .ok (.iconst 1, 1) := by decide +kernel
theorem dWo_soundCode_22 : decode prog_11_method_5_code 22 = .ok (.istore_n 2, 1) := by decide +kernel
theorem dWo_soundCode_23 : decode prog_11_method_5_code 23 = .ok (.iconst 1, 1) := by decide +kernel
theorem dWo_soundCode_24 : decode prog_11_method_5_code 24 = .ok (.istore_n 3, 1) := by decide +kernel
theorem dWo_soundCode_25 : decode prog_11_method_5_code 25 = .ok (.iload_n 3, 1) := by decide +kernel
theorem dWo_soundCode_26 : decode prog_11_method_5_code 26 = .ok (.aload_n 0, 1) := by decide +kernel
theorem dWo_soundCode_27 : decode prog_11_method_5_code 27 = .ok (.getfield 19, 3) := by decide +kernel
theorem dWo_soundCode_30 : decode prog_11_method_5_code 30 = .ok (.if_icmp .ge 48, 3) := by decide +kernel
theorem dWo_soundCode_33 : decode prog_11_method_5_code 33 = .ok (.iload_n 2, 1) := by decide +kernel
theorem dWo_soundCode_34 : decode prog_11_method_5_code 34 = .ok (.iconst 4, 1) := by decide +kernel
theorem dWo_soundCode_35 : decode prog_11_method_5_code 35 = .ok (.if_icmp .ge 43, 3) := by decide +kernel
theorem dWo_soundCode_38 : decode prog_11_method_5_code 38 = .ok (.aload_n 0, 1) := by decide +kernel
theorem dWo_soundCode_39 : decode prog_11_method_5_code 39 = .ok (.iload_n 3, 1) := by decide +kernel
theorem dWo_soundCode_40 : decode prog_11_method_5_code 40 = .ok (.invokevirtual 25, 3) := by decide +kernel
theorem dWo_soundCode_43 : decode prog_11_method_5_code 43 = .ok (.istore 4, 2) := by decide +kernel
theorem dWo_soundCode_45 : decode prog_11_method_5_code 45 = .ok (.iload 4, 2) := by decide +kernel
theorem dWo_soundCode_47 : decode prog_11_method_5_code 47 = .ok (.ifCond .eq 25, 3) := by decide +kernel
theorem dWo_soundCode_50 : decode prog_11_method_5_code 50 = .ok (.iload 4, 2) := by decide +kernel
theorem dWo_soundCode_52 : decode prog_11_method_5_code 52 = .ok (.aload_n 0, 1) := by decide +kernel
theorem dWo_soundCode_53 : decode prog_11_method_5_code 53 = .ok (.iload_n 3, 1) := by decide +kernel
theorem dWo_soundCode_54 : decode prog_11_method_5_code 54 = .ok (.iconst 1, 1) := by decide +kernel
theorem dWo_soundCode_55 : decode prog_11_method_5_code 55 = .ok (.isub, 1) := by decide +kernel
theorem dWo_soundCode_56 : decode prog_11_method_5_code 56 = .ok (.invokevirtual 25, 3) := by decide +kernel
theorem dWo_soundCode_59 : decode prog_11_method_5_code 59 = .ok (.if_icmp .eq 13, 3) := by decide +kernel
theorem dWo_soundCode_62 : decode prog_11_method_5_code 62 = .ok (.iload_n 1, 1) := by decide +kernel
theorem dWo_soundCode_63 : decode prog_11_method_5_code 63 = .ok (.iconst 5, 1) := by decide +kernel
theorem dWo_soundCode_64 : decode prog_11_method_5_code 64 = .ok (.ishl, 1) := by decide +kernel
theorem dWo_soundCode_65 : decode prog_11_method_5_code 65 = .ok (.iload 4, 2) := by decide +kernel
theorem dWo_soundCode_67 : decode prog_11_method_5_code 67 = .ok (.iadd, 1) := by decide +kernel
theorem dWo_soundCode_68 : decode prog_11_method_5_code 68 = .ok (.istore_n 1, 1) := by decide +kernel
theorem dWo_soundCode_69 : decode prog_11_method_5_code 69 = .ok (.iinc 2 1, 3) := by decide +kernel
theorem dWo_soundCode_72 : decode prog_11_method_5_code 72 = .ok (.iinc 3 1, 3) := by decide +kernel
theorem dWo_soundCode_75 : decode prog_11_method_5_code 75 = .ok (.goto (-50), 3) := by decide +kernel
theorem dWo_soundCode_78 : decode prog_11_method_5_code 78 = .ok (.iload_n 1, 1) := by decide +kernel
theorem dWo_soundCode_79 : decode prog_11_method_5_code 79 = .ok (.ireturn, 1) := by decide +kernel
theorem dP_wordFits_0 : decode prog_1_method_36_code 0 = .ok (.aload_n 2, 1) := by decide +kernel
theorem dP_wordFits_1 : decode prog_1_method_36_code 1 = .ok (.getfield 352, 3) := by decide +kernel
theorem dP_wordFits_4 : decode prog_1_method_36_code 4 = .ok (.tableswitch 107 0 3 #[32, 53, 62, 87], 32) := by decide +kernel
theorem dP_wordFits_36 : decode prog_1_method_36_code 36 = .ok (.aload_n 1, 1) := by decide +kernel
theorem dP_wordFits_37 : decode prog_1_method_36_code 37 = .ok (.invokevirtual 396, 3) := by decide +kernel
theorem dP_wordFits_40 : decode prog_1_method_36_code 40 = .ok (.aload_n 2, 1) := by decide +kernel
theorem dP_wordFits_41 : decode prog_1_method_36_code 41 = .ok (.getfield 403, 3) := by decide +kernel
theorem dP_wordFits_44 : decode prog_1_method_36_code 44 = .ok (.invokevirtual 396, 3) := by decide +kernel
theorem dP_wordFits_47 : decode prog_1_method_36_code 47 = .ok (.lcmp, 1) := by decide +kernel
theorem dP_wordFits_48 : decode prog_1_method_36_code 48 = .ok (.ifCond .ne 7, 3) := by decide +kernel
theorem dP_wordFits_51 : decode prog_1_method_36_code 51 = .ok (.iconst 1, 1) := by decide +kernel
theorem dP_wordFits_52 : decode prog_1_method_36_code 52 = .ok (.goto 4, 3) := by decide +kernel
theorem dP_wordFits_55 : decode prog_1_method_36_code 55 = .ok (.iconst 0, 1) := by decide +kernel
theorem dP_wordFits_56 : decode prog_1_method_36_code 56 = .ok (.ireturn, 1) := by decide +kernel
theorem dP_wordFits_57 : decode prog_1_method_36_code 57 = .ok (.aload_n 1, 1) := by decide +kernel
theorem dP_wordFits_58 : decode prog_1_method_36_code 58 = .ok (.aload_n 2, 1) := by decide +kernel
theorem dP_wordFits_59 : decode prog_1_method_36_code 59 = .ok (.getfield 403, 3) := by decide +kernel
theorem dP_wordFits_62 : decode prog_1_method_36_code 62 = .ok (.invokevirtual 404, 3) := by decide +kernel
theorem dP_wordFits_65 : decode prog_1_method_36_code 65 = .ok (.ireturn, 1) := by decide +kernel
theorem dP_wordFits_66 : decode prog_1_method_36_code 66 = .ok (.aload_n 0, 1) := by decide +kernel
theorem dP_wordFits_67 : decode prog_1_method_36_code 67 = .ok (.getfield 62, 3) := by decide +kernel
theorem dP_wordFits_70 : decode prog_1_method_36_code 70 = .ok (.aload_n 1, 1) := by decide +kernel
theorem dP_wordFits_71 : decode prog_1_method_36_code 71 = .ok (.aload_n 2, 1) := by decide +kernel
theorem dP_wordFits_72 : decode prog_1_method_36_code 72 = .ok (.getfield 403, 3) := by decide +kernel
theorem dP_wordFits_75 : decode prog_1_method_36_code 75 = .ok (.invokevirtual 294, 3) := by decide +kernel
theorem dP_wordFits_78 : decode prog_1_method_36_code 78 = .ok (.aload_n 2, 1) := by decide +kernel
theorem dP_wordFits_79 : decode prog_1_method_36_code 79 = .ok (.getfield 353, 3) := by decide +kernel
theorem dP_wordFits_82 : decode prog_1_method_36_code 82 = .ok (.if_icmp .gt 7, 3) := by decide +kernel
theorem dP_wordFits_85 : decode prog_1_method_36_code 85 = .ok (.iconst 1, 1) := by decide +kernel
theorem dP_wordFits_86 : decode prog_1_method_36_code 86 = .ok (.goto 4, 3) := by decide +kernel
theorem dP_wordFits_89 : decode prog_1_method_36_code 89 = .ok (.iconst 0, 1) := by decide +kernel
theorem dP_wordFits_90 : decode prog_1_method_36_code 90 = .ok (.ireturn, 1) := by decide +kernel
theorem dP_wordFits_91 : decode prog_1_method_36_code 91 = .ok (.aload_n 1, 1) := by decide +kernel
theorem dP_wordFits_92 : decode prog_1_method_36_code 92 = .ok (.invokevirtual 282, 3) := by decide +kernel
theorem dP_wordFits_95 : decode prog_1_method_36_code 95 = .ok (.aload_n 2, 1) := by decide +kernel
theorem dP_wordFits_96 : decode prog_1_method_36_code 96 = .ok (.getfield 403, 3) := by decide +kernel
theorem dP_wordFits_99 : decode prog_1_method_36_code 99 = .ok (.invokevirtual 282, 3) := by decide +kernel
theorem dP_wordFits_102 : decode prog_1_method_36_code 102 = .ok (.if_icmp .ne 7, 3) := by decide +kernel
theorem dP_wordFits_105 : decode prog_1_method_36_code 105 = .ok (.iconst 1, 1) := by decide +kernel
theorem dP_wordFits_106 : decode prog_1_method_36_code 106 = .ok (.goto 4, 3) := by decide +kernel
theorem dP_wordFits_109 : decode prog_1_method_36_code 109 = .ok (.iconst 0, 1) := by decide +kernel
theorem dP_wordFits_110 : decode prog_1_method_36_code 110 = .ok (.ireturn, 1) := by decide +kernel
theorem dP_wordFits_111 : decode prog_1_method_36_code 111 = .ok (.iconst 0, 1) := by decide +kernel
theorem dP_wordFits_112 : decode prog_1_method_36_code 112 = .ok (.ireturn, 1) := by decide +kernel
theorem dMa_min2_0 : decode prog_23_method_70_code 0 = .ok (.lload_n 0, 1) := by decide +kernel
theorem dMa_min2_1 : decode prog_23_method_70_code 1 = .ok (.lload_n 2, 1) := by decide +kernel
theorem dMa_min2_2 : decode prog_23_method_70_code 2 = .ok (.lcmp, 1) := by decide +kernel
theorem dMa_min2_3 : decode prog_23_method_70_code 3 = .ok (.ifCond .gt 7, 3) := by decide +kernel
theorem dMa_min2_6 : decode prog_23_method_70_code 6 = .ok (.lload_n 0, 1) := by decide +kernel
theorem dMa_min2_7 : decode prog_23_method_70_code 7 = .ok (.goto 4, 3) := by decide +kernel
theorem dMa_min2_10 : decode prog_23_method_70_code 10 = .ok (.lload_n 2, 1) := by decide +kernel
theorem dMa_min2_11 : decode prog_23_method_70_code 11 = .ok (.lreturn, 1) := by decide +kernel
theorem dP_leastName_0 : decode prog_1_method_35_code 0 = .ok (.ldc2_w 383, 3) := by decide +kernel
theorem dP_leastName_3 : decode prog_1_method_35_code 3 = .ok (.lstore 4, 2) := by decide +kernel
theorem dP_leastName_5 : decode prog_1_method_35_code 5 = .ok (.iconst 0, 1) := by decide +kernel
theorem dP_leastName_6 : decode prog_1_method_35_code 6 = .ok (.istore 6, 2) := by decide +kernel
theorem dP_leastName_8 : decode prog_1_method_35_code 8 = .ok (.iload 6, 2) := by decide +kernel
theorem dP_leastName_10 : decode prog_1_method_35_code 10 = .ok (.aload_n 1, 1) := by decide +kernel
theorem dP_leastName_11 : decode prog_1_method_35_code 11 = .ok (.getfield 156, 3) := by decide +kernel
theorem dP_leastName_14 : decode prog_1_method_35_code 14 = .ok (.invokevirtual 98, 3) := by decide +kernel
theorem dP_leastName_17 : decode prog_1_method_35_code 17 = .ok (.if_icmp .ge 60, 3) := by decide +kernel
theorem dP_leastName_20 : decode prog_1_method_35_code 20 = .ok (.aload_n 1, 1) := by decide +kernel
theorem dP_leastName_21 : decode prog_1_method_35_code 21 = .ok (.getfield 156, 3) := by decide +kernel
theorem dP_leastName_24 : decode prog_1_method_35_code 24 = .ok (.iload 6, 2) := by decide +kernel
theorem dP_leastName_26 : decode prog_1_method_35_code 26 = .ok (.invokevirtual 223, 3) := by decide +kernel
theorem dP_leastName_29 : decode prog_1_method_35_code 29 = .ok (.checkcast 161, 3) := by decide +kernel
theorem dP_leastName_32 : decode prog_1_method_35_code 32 = .ok (.astore 7, 2) := by decide +kernel
theorem dP_leastName_34 : decode prog_1_method_35_code 34 = .ok (.aload 7, 2) := by decide +kernel
theorem dP_leastName_36 : decode prog_1_method_35_code 36 = .ok (.iload_n 3, 1) := by decide +kernel
theorem dP_leastName_37 : decode prog_1_method_35_code 37 = .ok (.invokevirtual 389, 3) := by decide +kernel
theorem dP_leastName_40 : decode prog_1_method_35_code 40 = .ok (.ifCond .eq 31, 3) := by decide +kernel
theorem dP_leastName_43 : decode prog_1_method_35_code 43 = .ok (.aload_n 0, 1) := by decide +kernel
theorem dP_leastName_44 : decode prog_1_method_35_code 44 = .ok (.aload 7, 2) := by decide +kernel
theorem dP_leastName_46 : decode prog_1_method_35_code 46 = .ok (.getfield 290, 3) := by decide +kernel
theorem dP_leastName_49 : decode prog_1_method_35_code 49 = .ok (.aload_n 2, 1) := by decide +kernel
theorem dP_leastName_50 : decode prog_1_method_35_code 50 = .ok (.invokevirtual 392, 3) := by decide +kernel
theorem dP_leastName_53 : decode prog_1_method_35_code 53 = .ok (.ifCond .eq 18, 3) := by decide +kernel
theorem dP_leastName_56 : decode prog_1_method_35_code 56 = .ok (.lload 4, 2) := by decide +kernel
theorem dP_leastName_58 : decode prog_1_method_35_code 58 = .ok (.aload 7, 2) := by decide +kernel
theorem dP_leastName_60 : decode prog_1_method_35_code 60 = .ok (.getfield 290, 3) := by decide +kernel
theorem dP_leastName_63 : decode prog_1_method_35_code 63 = .ok (.invokevirtual 396, 3) := by decide +kernel
theorem dP_leastName_66 : decode prog_1_method_35_code 66 = .ok (.invokestatic 400, 3) := by decide +kernel
theorem dP_leastName_69 : decode prog_1_method_35_code 69 = .ok (.lstore 4, 2) := by decide +kernel
theorem dP_leastName_71 : decode prog_1_method_35_code 71 = .ok (.iinc 6 1, 3) := by decide +kernel
theorem dP_leastName_74 : decode prog_1_method_35_code 74 = .ok (.goto (-66), 3) := by decide +kernel
theorem dP_leastName_77 : decode prog_1_method_35_code 77 = .ok (.lload 4, 2) := by decide +kernel
theorem dP_leastName_79 : decode prog_1_method_35_code 79 = .ok (.lreturn, 1) := by decide +kernel
theorem dP_fits_0 : decode prog_1_method_32_code 0 = .ok (.aload_n 3, 1) := by decide +kernel
theorem dP_fits_1 : decode prog_1_method_32_code 1 = .ok (.getfield 352, 3) := by decide +kernel
theorem dP_fits_4 : decode prog_1_method_32_code 4 = .ok (.tableswitch 128 4 8 #[36, 53, 65, 76, 106], 36) := by decide +kernel
theorem dP_fits_40 : decode prog_1_method_32_code 40 = .ok (.aload_n 1, 1) := by decide +kernel
theorem dP_fits_41 : decode prog_1_method_32_code 41 = .ok (.getfield 246, 3) := by decide +kernel
theorem dP_fits_44 : decode prog_1_method_32_code 44 = .ok (.aload_n 3, 1) := by decide +kernel
theorem dP_fits_45 : decode prog_1_method_32_code 45 = .ok (.getfield 353, 3) := by decide +kernel
theorem dP_fits_48 : decode prog_1_method_32_code 48 = .ok (.if_icmp .ne 7, 3) := by decide +kernel
theorem dP_fits_51 : decode prog_1_method_32_code 51 = .ok (.iconst 1, 1) := by decide +kernel
theorem dP_fits_52 : decode prog_1_method_32_code 52 = .ok (.goto 4, 3) := by decide +kernel
theorem dP_fits_55 : decode prog_1_method_32_code 55 = .ok (.iconst 0, 1) := by decide +kernel
theorem dP_fits_56 : decode prog_1_method_32_code 56 = .ok (.ireturn, 1) := by decide +kernel
theorem dP_fits_57 : decode prog_1_method_32_code 57 = .ok (.aload_n 0, 1) := by decide +kernel
theorem dP_fits_58 : decode prog_1_method_32_code 58 = .ok (.aload_n 2, 1) := by decide +kernel
theorem dP_fits_59 : decode prog_1_method_32_code 59 = .ok (.aload_n 3, 1) := by decide +kernel
theorem dP_fits_60 : decode prog_1_method_32_code 60 = .ok (.getfield 353, 3) := by decide +kernel
theorem dP_fits_63 : decode prog_1_method_32_code 63 = .ok (.iload 5, 2) := by decide +kernel
theorem dP_fits_65 : decode prog_1_method_32_code 65 = .ok (.invokevirtual 356, 3) := by decide +kernel
theorem dP_fits_68 : decode prog_1_method_32_code 68 = .ok (.ireturn, 1) := by decide +kernel
theorem dP_fits_69 : decode prog_1_method_32_code 69 = .ok (.aload_n 1, 1) := by decide +kernel
theorem dP_fits_70 : decode prog_1_method_32_code 70 = .ok (.aload_n 3, 1) := by decide +kernel
theorem dP_fits_71 : decode prog_1_method_32_code 71 = .ok (.getfield 353, 3) := by decide +kernel
theorem dP_fits_74 : decode prog_1_method_32_code 74 = .ok (.iload 5, 2) := by decide +kernel
theorem dP_fits_76 : decode prog_1_method_32_code 76 = .ok (.invokestatic 360, 3) := by decide +kernel
theorem dP_fits_79 : decode prog_1_method_32_code 79 = .ok (.ireturn, 1) := by decide +kernel
theorem dP_fits_80 : decode prog_1_method_32_code 80 = .ok (.aload_n 2, 1) := by decide +kernel
theorem dP_fits_81 : decode prog_1_method_32_code 81 = .ok (.aload_n 3, 1) := by decide +kernel
theorem dP_fits_82 : decode prog_1_method_32_code 82 = .ok (.getfield 353, 3) := by decide +kernel
theorem dP_fits_85 : decode prog_1_method_32_code 85 = .ok (.aload_n 3, 1) := by decide +kernel
theorem dP_fits_86 : decode prog_1_method_32_code 86 = .ok (.getfield 364, 3) := by decide +kernel
theorem dP_fits_89 : decode prog_1_method_32_code 89 = .ok (.invokevirtual 367, 3) := by decide +kernel
theorem dP_fits_92 : decode prog_1_method_32_code 92 = .ok (.aload_n 3, 1) := by decide +kernel
theorem dP_fits_93 : decode prog_1_method_32_code 93 = .ok (.getfield 369, 3) := by decide +kernel
theorem dP_fits_96 : decode prog_1_method_32_code 96 = .ok (.aload_n 3, 1) := by decide +kernel
theorem dP_fits_97 : decode prog_1_method_32_code 97 = .ok (.getfield 369, 3) := by decide +kernel
theorem dP_fits_100 : decode prog_1_method_32_code 100 = .ok (.imul, 1) := by decide +kernel
theorem dP_fits_101 : decode prog_1_method_32_code 101 = .ok (.if_icmp .gt 7, 3) := by decide +kernel
theorem dP_fits_104 : decode prog_1_method_32_code 104 = .ok (.iconst 1, 1) := by decide +kernel
theorem dP_fits_105 : decode prog_1_method_32_code 105 = .ok (.goto 4, 3) := by decide +kernel
theorem dP_fits_108 : decode prog_1_method_32_code 108 = .ok (.iconst 0, 1) := by decide +kernel
theorem dP_fits_109 : decode prog_1_method_32_code 109 = .ok (.ireturn, 1) := by decide +kernel
theorem dP_fits_110 : decode prog_1_method_32_code 110 = .ok (.aload_n 0, 1) := by decide +kernel
theorem dP_fits_111 : decode prog_1_method_32_code 111 = .ok (.getfield 69, 3) := by decide +kernel
theorem dP_fits_114 : decode prog_1_method_32_code 114 = .ok (.aload 4, 2) := by decide +kernel
theorem dP_fits_116 : decode prog_1_method_32_code 116 = .ok (.aload_n 2, 1) := by decide +kernel
theorem dP_fits_117 : decode prog_1_method_32_code 117 = .ok (.invokevirtual 372, 3) := by decide +kernel
theorem dP_fits_120 : decode prog_1_method_32_code 120 = .ok (.aload_n 0, 1) := by decide +kernel
theorem dP_fits_121 : decode prog_1_method_32_code 121 = .ok (.getfield 69, 3) := by decide +kernel
theorem dP_fits_124 : decode prog_1_method_32_code 124 = .ok (.aload_n 3, 1) := by decide +kernel
theorem dP_fits_125 : decode prog_1_method_32_code 125 = .ok (.getfield 353, 3) := by decide +kernel
theorem dP_fits_128 : decode prog_1_method_32_code 128 = .ok (.invokevirtual 376, 3) := by decide +kernel
theorem dP_fits_131 : decode prog_1_method_32_code 131 = .ok (.ireturn, 1) := by decide +kernel
theorem dP_fits_132 : decode prog_1_method_32_code 132 = .ok (.aload_n 0, 1) := by decide +kernel
theorem dP_fits_133 : decode prog_1_method_32_code 133 = .ok (.aload_n 1, 1) := by decide +kernel
theorem dP_fits_134 : decode prog_1_method_32_code 134 = .ok (.aload_n 3, 1) := by decide +kernel
theorem dP_fits_135 : decode prog_1_method_32_code 135 = .ok (.iload 5, 2) := by decide +kernel
theorem dP_fits_137 : decode prog_1_method_32_code 137 = .ok (.invokevirtual 379, 3) := by decide +kernel
theorem dP_fits_140 : decode prog_1_method_32_code 140 = .ok (.ldc2_w 383, 3) := by decide +kernel
theorem dP_fits_143 : decode prog_1_method_32_code 143 = .ok (.lcmp, 1) := by decide +kernel
theorem dP_fits_144 : decode prog_1_method_32_code 144 = .ok (.ifCond .eq 7, 3) := by decide +kernel
theorem dP_fits_147 : decode prog_1_method_32_code 147 = .ok (.iconst 1, 1) := by decide +kernel
theorem dP_fits_148 : decode prog_1_method_32_code 148 = .ok (.goto 4, 3) := by decide +kernel
theorem dP_fits_151 : decode prog_1_method_32_code 151 = .ok (.iconst 0, 1) := by decide +kernel
theorem dP_fits_152 : decode prog_1_method_32_code 152 = .ok (.ireturn, 1) := by decide +kernel
theorem dP_meets_0 : decode prog_1_method_31_code 0 = .ok (.aload_n 1, 1) := by decide +kernel
theorem dP_meets_1 : decode prog_1_method_31_code 1 = .ok (.iload 4, 2) := by decide +kernel
theorem dP_meets_3 : decode prog_1_method_31_code 3 = .ok (.invokevirtual 275, 3) := by decide +kernel
theorem dP_meets_6 : decode prog_1_method_31_code 6 = .ok (.astore 5, 2) := by decide +kernel
theorem dP_meets_8 : decode prog_1_method_31_code 8 = .ok (.aload 5, 2) := by decide +kernel
theorem dP_meets_10 : decode prog_1_method_31_code 10 = .ok (.ifnull 12, 3) := by decide +kernel
theorem dP_meets_13 : decode prog_1_method_31_code 13 = .ok (.aload_n 1, 1) := by decide +kernel
theorem dP_meets_14 : decode prog_1_method_31_code 14 = .ok (.iload 4, 2) := by decide +kernel
theorem dP_meets_16 : decode prog_1_method_31_code 16 = .ok (.invokevirtual 190, 3) := by decide +kernel
theorem dP_meets_19 : decode prog_1_method_31_code 19 = .ok (.ifCond .eq 5, 3) := by decide +kernel
theorem dP_meets_22 : decode prog_1_method_31_code 22 = .ok (.iconst 0, 1) := by decide +kernel
theorem dP_meets_23 : decode prog_1_method_31_code 23 = .ok (.ireturn, 1) := by decide +kernel
theorem dP_meets_24 : decode prog_1_method_31_code 24 = .ok (.iconst 0, 1) := by decide +kernel
theorem dP_meets_25 : decode prog_1_method_31_code 25 = .ok (.istore 6, 2) := by decide +kernel
theorem dP_meets_27 : decode prog_1_method_31_code 27 = .ok (.iload 6, 2) := by decide +kernel
theorem dP_meets_29 : decode prog_1_method_31_code 29 = .ok (.aload_n 2, 1) := by decide +kernel
theorem dP_meets_30 : decode prog_1_method_31_code 30 = .ok (.invokevirtual 98, 3) := by decide +kernel
theorem dP_meets_33 : decode prog_1_method_31_code 33 = .ok (.if_icmp .ge 33, 3) := by decide +kernel
theorem dP_meets_36 : decode prog_1_method_31_code 36 = .ok (.aload_n 0, 1) := by decide +kernel
theorem dP_meets_37 : decode prog_1_method_31_code 37 = .ok (.aload_n 1, 1) := by decide +kernel
theorem dP_meets_38 : decode prog_1_method_31_code 38 = .ok (.aload 5, 2) := by decide +kernel
theorem dP_meets_40 : decode prog_1_method_31_code 40 = .ok (.aload_n 2, 1) := by decide +kernel
theorem dP_meets_41 : decode prog_1_method_31_code 41 = .ok (.iload 6, 2) := by decide +kernel
theorem dP_meets_43 : decode prog_1_method_31_code 43 = .ok (.invokevirtual 223, 3) := by decide +kernel
theorem dP_meets_46 : decode prog_1_method_31_code 46 = .ok (.checkcast 73, 3) := by decide +kernel
theorem dP_meets_49 : decode prog_1_method_31_code 49 = .ok (.aload_n 3, 1) := by decide +kernel
theorem dP_meets_50 : decode prog_1_method_31_code 50 = .ok (.iload 4, 2) := by decide +kernel
theorem dP_meets_52 : decode prog_1_method_31_code 52 = .ok (.invokevirtual 348, 3) := by decide +kernel
theorem dP_meets_55 : decode prog_1_method_31_code 55 = .ok (.ifCond .ne 5, 3) := by decide +kernel
theorem dP_meets_58 : decode prog_1_method_31_code 58 = .ok (.iconst 0, 1) := by decide +kernel
theorem dP_meets_59 : decode prog_1_method_31_code 59 = .ok (.ireturn, 1) := by decide +kernel
theorem dP_meets_60 : decode prog_1_method_31_code 60 = .ok (.iinc 6 1, 3) := by decide +kernel
theorem dP_meets_63 : decode prog_1_method_31_code 63 = .ok (.goto (-36), 3) := by decide +kernel
theorem dP_meets_66 : decode prog_1_method_31_code 66 = .ok (.iconst 1, 1) := by decide +kernel
theorem dP_meets_67 : decode prog_1_method_31_code 67 = .ok (.ireturn, 1) := by decide +kernel
theorem dPl_squareTo_0 : decode prog_8_method_7_code 0 = .ok (.aload_n 0, 1) := by decide +kernel
theorem dPl_squareTo_1 : decode prog_8_method_7_code 1 = .ok (.iload_n 3, 1) := by decide +kernel
theorem dPl_squareTo_2 : decode prog_8_method_7_code 2 = .ok (.invokevirtual 52, 3) := by decide +kernel
theorem dPl_squareTo_5 : decode prog_8_method_7_code 5 = .ok (.astore 4, 2) := by decide +kernel
theorem dPl_squareTo_7 : decode prog_8_method_7_code 7 = .ok (.aload 4, 2) := by decide +kernel
theorem dPl_squareTo_9 : decode prog_8_method_7_code 9 = .ok (.ifnonnull 8, 3) := by decide +kernel
theorem dPl_squareTo_12 : decode prog_8_method_7_code 12 = .ok (.ldc 60, 2) := by decide +kernel
theorem dPl_squareTo_14 : decode prog_8_method_7_code 14 = .ok (.goto 10, 3) := by decide +kernel
theorem dPl_squareTo_17 : decode prog_8_method_7_code 17 = .ok (.aload 4, 2) := by decide +kernel
theorem dPl_squareTo_19 : decode prog_8_method_7_code 19 = .ok (.iload_n 1, 1) := by decide +kernel
theorem dPl_squareTo_20 : decode prog_8_method_7_code 20 = .ok (.iload_n 2, 1) := by decide +kernel
theorem dPl_squareTo_21 : decode prog_8_method_7_code 21 = .ok (.invokevirtual 61, 3) := by decide +kernel
theorem dPl_squareTo_24 : decode prog_8_method_7_code 24 = .ok (.ireturn, 1) := by decide +kernel
theorem dRs_positionKey_0 : decode prog_9_method_6_code 0 = .ok (.aload_n 0, 1) := by decide +kernel
theorem dRs_positionKey_1 : decode prog_9_method_6_code 1 = .ok (.getfield 7, 3) := by decide +kernel
theorem dRs_positionKey_4 : decode prog_9_method_6_code 4 = .ok (.ifCond .eq 20, 3) := by decide +kernel
theorem dRs_positionKey_7 : decode prog_9_method_6_code 7 = .ok (.aload_n 0, 1) := by decide +kernel
theorem dRs_positionKey_8 : decode prog_9_method_6_code 8 = .ok (.getfield 54, 3) := by decide +kernel
theorem dRs_positionKey_11 : decode prog_9_method_6_code 11 = .ok (.i2l, 1) := by decide +kernel
theorem dRs_positionKey_12 : decode prog_9_method_6_code 12 = .ok (.bipush 32, 2) := by decide +kernel
theorem dRs_positionKey_14 : decode prog_9_method_6_code 14 = .ok (.lshl, 1) := by decide +kernel
theorem dRs_positionKey_15 : decode prog_9_method_6_code 15 = .ok (.aload_n 0, 1) := by decide +kernel
theorem dRs_positionKey_16 : decode prog_9_method_6_code 16 = .ok (.getfield 57, 3) := by decide +kernel
theorem dRs_positionKey_19 : decode prog_9_method_6_code 19 = .ok (.i2l, 1) := by decide +kernel
theorem dRs_positionKey_20 : decode prog_9_method_6_code 20 = .ok (.ladd, 1) := by decide +kernel
theorem dRs_positionKey_21 : decode prog_9_method_6_code 21 = .ok (.goto 4, 3) := by decide +kernel
theorem dRs_positionKey_24 : decode prog_9_method_6_code 24 = .ok (.lconst 0, 1) := by decide +kernel
theorem dRs_positionKey_25 : decode prog_9_method_6_code 25 = .ok (.lreturn, 1) := by decide +kernel
theorem dP_routeKey_0 : decode prog_1_method_40_code 0 = .ok (.aload_n 1, 1) := by decide +kernel
theorem dP_routeKey_1 : decode prog_1_method_40_code 1 = .ok (.ifnonnull 5, 3) := by decide +kernel
theorem dP_routeKey_4 : decode prog_1_method_40_code 4 = .ok (.lconst 0, 1) := by decide +kernel
theorem dP_routeKey_5 : decode prog_1_method_40_code 5 = .ok (.lreturn, 1) := by decide +kernel
theorem dP_routeKey_6 : decode prog_1_method_40_code 6 = .ok (.aload_n 0, 1) := by decide +kernel
theorem dP_routeKey_7 : decode prog_1_method_40_code 7 = .ok (.getfield 69, 3) := by decide +kernel
theorem dP_routeKey_10 : decode prog_1_method_40_code 10 = .ok (.aload_n 0, 1) := by decide +kernel
theorem dP_routeKey_11 : decode prog_1_method_40_code 11 = .ok (.getfield 32, 3) := by decide +kernel
theorem dP_routeKey_14 : decode prog_1_method_40_code 14 = .ok (.aload_n 1, 1) := by decide +kernel
theorem dP_routeKey_15 : decode prog_1_method_40_code 15 = .ok (.invokevirtual 372, 3) := by decide +kernel
theorem dP_routeKey_18 : decode prog_1_method_40_code 18 = .ok (.aload_n 0, 1) := by decide +kernel
theorem dP_routeKey_19 : decode prog_1_method_40_code 19 = .ok (.getfield 69, 3) := by decide +kernel
theorem dP_routeKey_22 : decode prog_1_method_40_code 22 = .ok (.invokevirtual 412, 3) := by decide +kernel
theorem dP_routeKey_25 : decode prog_1_method_40_code 25 = .ok (.lreturn, 1) := by decide +kernel
theorem dP_orderKey_0 : decode prog_1_method_39_code 0 = .ok (.iload_n 2, 1) := by decide +kernel
theorem dP_orderKey_1 : decode prog_1_method_39_code 1 = .ok (.tableswitch 82 1 3 #[27, 36, 71], 27) := by decide +kernel
theorem dP_orderKey_28 : decode prog_1_method_39_code 28 = .ok (.aload_n 0, 1) := by decide +kernel
theorem dP_orderKey_29 : decode prog_1_method_39_code 29 = .ok (.aload_n 1, 1) := by decide +kernel
theorem dP_orderKey_30 : decode prog_1_method_39_code 30 = .ok (.aload_n 3, 1) := by decide +kernel
theorem dP_orderKey_31 : decode prog_1_method_39_code 31 = .ok (.iload 5, 2) := by decide +kernel
theorem dP_orderKey_33 : decode prog_1_method_39_code 33 = .ok (.invokevirtual 379, 3) := by decide +kernel
theorem dP_orderKey_36 : decode prog_1_method_39_code 36 = .ok (.lreturn, 1) := by decide +kernel
theorem dP_orderKey_37 : decode prog_1_method_39_code 37 = .ok (.aload 4, 2) := by decide +kernel
theorem dP_orderKey_39 : decode prog_1_method_39_code 39 = .ok (.ifnonnull 15, 3) := by decide +kernel
theorem dP_orderKey_42 : decode prog_1_method_39_code 42 = .ok (.aload_n 1, 1) := by decide +kernel
theorem dP_orderKey_43 : decode prog_1_method_39_code 43 = .ok (.iconst 0, 1) := by decide +kernel
theorem dP_orderKey_44 : decode prog_1_method_39_code 44 = .ok (.iconst 0, 1) := by decide +kernel
theorem dP_orderKey_45 : decode prog_1_method_39_code 45 = .ok (.iload 5, 2) := by decide +kernel
theorem dP_orderKey_47 : decode prog_1_method_39_code 47 = .ok (.invokevirtual 249, 3) := by decide +kernel
theorem dP_orderKey_50 : decode prog_1_method_39_code 50 = .ok (.i2l, 1) := by decide +kernel
theorem dP_orderKey_51 : decode prog_1_method_39_code 51 = .ok (.goto 20, 3) := by decide +kernel
theorem dP_orderKey_54 : decode prog_1_method_39_code 54 = .ok (.aload_n 1, 1) := by decide +kernel
theorem dP_orderKey_55 : decode prog_1_method_39_code 55 = .ok (.aload 4, 2) := by decide +kernel
theorem dP_orderKey_57 : decode prog_1_method_39_code 57 = .ok (.getfield 353, 3) := by decide +kernel
theorem dP_orderKey_60 : decode prog_1_method_39_code 60 = .ok (.aload 4, 2) := by decide +kernel
theorem dP_orderKey_62 : decode prog_1_method_39_code 62 = .ok (.getfield 364, 3) := by decide +kernel
theorem dP_orderKey_65 : decode prog_1_method_39_code 65 = .ok (.iload 5, 2) := by decide +kernel
theorem dP_orderKey_67 : decode prog_1_method_39_code 67 = .ok (.invokevirtual 249, 3) := by decide +kernel
theorem dP_orderKey_70 : decode prog_1_method_39_code 70 = .ok (.i2l, 1) := by decide +kernel
theorem dP_orderKey_71 : decode prog_1_method_39_code 71 = .ok (.lreturn, 1) := by decide +kernel
theorem dP_orderKey_72 : decode prog_1_method_39_code 72 = .ok (.aload_n 0, 1) := by decide +kernel
theorem dP_orderKey_73 : decode prog_1_method_39_code 73 = .ok (.aload_n 1, 1) := by decide +kernel
theorem dP_orderKey_74 : decode prog_1_method_39_code 74 = .ok (.iload 5, 2) := by decide +kernel
theorem dP_orderKey_76 : decode prog_1_method_39_code 76 = .ok (.invokevirtual 275, 3) := by decide +kernel
theorem dP_orderKey_79 : decode prog_1_method_39_code 79 = .ok (.invokevirtual 408, 3) := by decide +kernel
theorem dP_orderKey_82 : decode prog_1_method_39_code 82 = .ok (.lreturn, 1) := by decide +kernel
theorem dP_orderKey_83 : decode prog_1_method_39_code 83 = .ok (.lconst 0, 1) := by decide +kernel
theorem dP_orderKey_84 : decode prog_1_method_39_code 84 = .ok (.lreturn, 1) := by decide +kernel
theorem dHi_add_0 : decode prog_5_method_3_code 0 = .ok (.aload_n 0, 1) := by decide +kernel
theorem dHi_add_1 : decode prog_5_method_3_code 1 = .ok (.getfield 19, 3) := by decide +kernel
theorem dHi_add_4 : decode prog_5_method_3_code 4 = .ok (.bipush 30, 2) := by decide +kernel
theorem dHi_add_6 : decode prog_5_method_3_code 6 = .ok (.if_icmp .lt 4, 3) := by decide +kernel
theorem dHi_add_9 : decode prog_5_method_3_code 9 = .ok (.return_, 1) := by decide +kernel
theorem dHi_add_10 : decode prog_5_method_3_code 10 = .ok (.aload_n 0, 1) := by decide +kernel
theorem dHi_add_11 : decode prog_5_method_3_code 11 = .ok (.getfield 19, 3) := by decide +kernel
theorem dHi_add_14 : decode prog_5_method_3_code 14 = .ok (.istore 4, 2) := by decide +kernel
theorem dHi_add_16 : decode prog_5_method_3_code 16 = .ok (.iload 4, 2) := by decide +kernel
theorem dHi_add_18 : decode prog_5_method_3_code 18 = .ok (.ifCond .le 55, 3) := by decide +kernel
theorem dHi_add_21 : decode prog_5_method_3_code 21 = .ok (.aload_n 0, 1) := by decide +kernel
theorem dHi_add_22 : decode prog_5_method_3_code 22 = .ok (.getfield 15, 3) := by decide +kernel
theorem dHi_add_25 : decode prog_5_method_3_code 25 = .ok (.iload 4, 2) := by decide +kernel
theorem dHi_add_27 : decode prog_5_method_3_code 27 = .ok (.iconst 1, 1) := by decide +kernel
theorem dHi_add_28 : decode prog_5_method_3_code 28 = .ok (.isub, 1) := by decide +kernel
theorem dHi_add_29 : decode prog_5_method_3_code 29 = .ok (.laload, 1) := by decide +kernel
theorem dHi_add_30 : decode prog_5_method_3_code 30 = .ok (.lload_n 2, 1) := by decide +kernel
theorem dHi_add_31 : decode prog_5_method_3_code 31 = .ok (.lcmp, 1) := by decide +kernel
theorem dHi_add_32 : decode prog_5_method_3_code 32 = .ok (.ifCond .le 41, 3) := by decide +kernel
theorem dHi_add_35 : decode prog_5_method_3_code 35 = .ok (.aload_n 0, 1) := by decide +kernel
theorem dHi_add_36 : decode prog_5_method_3_code 36 = .ok (.getfield 15, 3) := by decide +kernel
theorem dHi_add_39 : decode prog_5_method_3_code 39 = .ok (.iload 4, 2) := by decide +kernel
theorem dHi_add_41 : decode prog_5_method_3_code 41 = .ok (.aload_n 0, 1) := by decide +kernel
theorem dHi_add_42 : decode prog_5_method_3_code 42 = .ok (.getfield 15, 3) := by decide +kernel
theorem dHi_add_45 : decode prog_5_method_3_code 45 = .ok (.iload 4, 2) := by decide +kernel
theorem dHi_add_47 : decode prog_5_method_3_code 47 = .ok (.iconst 1, 1) := by decide +kernel
theorem dHi_add_48 : decode prog_5_method_3_code 48 = .ok (.isub, 1) := by decide +kernel
theorem dHi_add_49 : decode prog_5_method_3_code 49 = .ok (.laload, 1) := by decide +kernel
theorem dHi_add_50 : decode prog_5_method_3_code 50 = .ok (.lastore, 1) := by decide +kernel
theorem dHi_add_51 : decode prog_5_method_3_code 51 = .ok (.aload_n 0, 1) := by decide +kernel
theorem dHi_add_52 : decode prog_5_method_3_code 52 = .ok (.getfield 9, 3) := by decide +kernel
theorem dHi_add_55 : decode prog_5_method_3_code 55 = .ok (.iload 4, 2) := by decide +kernel
theorem dHi_add_57 : decode prog_5_method_3_code 57 = .ok (.aload_n 0, 1) := by decide +kernel
theorem dHi_add_58 : decode prog_5_method_3_code 58 = .ok (.getfield 9, 3) := by decide +kernel
theorem dHi_add_61 : decode prog_5_method_3_code 61 = .ok (.iload 4, 2) := by decide +kernel
theorem dHi_add_63 : decode prog_5_method_3_code 63 = .ok (.iconst 1, 1) := by decide +kernel
theorem dHi_add_64 : decode prog_5_method_3_code 64 = .ok (.isub, 1) := by decide +kernel
theorem dHi_add_65 : decode prog_5_method_3_code 65 = .ok (.iaload, 1) := by decide +kernel
theorem dHi_add_66 : decode prog_5_method_3_code 66 = .ok (.iastore, 1) := by decide +kernel
theorem dHi_add_67 : decode prog_5_method_3_code 67 = .ok (.iinc 4 (-1), 3) := by decide +kernel
theorem dHi_add_70 : decode prog_5_method_3_code 70 = .ok (.goto (-54), 3) := by decide +kernel
theorem dHi_add_73 : decode prog_5_method_3_code 73 = .ok (.aload_n 0, 1) := by decide +kernel
theorem dHi_add_74 : decode prog_5_method_3_code 74 = .ok (.getfield 15, 3) := by decide +kernel
theorem dHi_add_77 : decode prog_5_method_3_code 77 = .ok (.iload 4, 2) := by decide +kernel
theorem dHi_add_79 : decode prog_5_method_3_code 79 = .ok (.lload_n 2, 1) := by decide +kernel
theorem dHi_add_80 : decode prog_5_method_3_code 80 = .ok (.lastore, 1) := by decide +kernel
theorem dHi_add_81 : decode prog_5_method_3_code 81 = .ok (.aload_n 0, 1) := by decide +kernel
theorem dHi_add_82 : decode prog_5_method_3_code 82 = .ok (.getfield 9, 3) := by decide +kernel
theorem dHi_add_85 : decode prog_5_method_3_code 85 = .ok (.iload 4, 2) := by decide +kernel
theorem dHi_add_87 : decode prog_5_method_3_code 87 = .ok (.iload_n 1, 1) := by decide +kernel
theorem dHi_add_88 : decode prog_5_method_3_code 88 = .ok (.iastore, 1) := by decide +kernel
theorem dHi_add_89 : decode prog_5_method_3_code 89 = .ok (.aload_n 0, 1) := by decide +kernel
theorem dHi_add_90 : decode prog_5_method_3_code 90 = .ok (.dup, 1) := by decide +kernel
theorem dHi_add_91 : decode prog_5_method_3_code 91 = .ok (.getfield 19, 3) := by decide +kernel
theorem dHi_add_94 : decode prog_5_method_3_code 94 = .ok (.iconst 1, 1) := by decide +kernel
theorem dHi_add_95 : decode prog_5_method_3_code 95 = .ok (.iadd, 1) := by decide +kernel
theorem dHi_add_96 : decode prog_5_method_3_code 96 = .ok (.putfield 19, 3) := by decide +kernel
theorem dHi_add_99 : decode prog_5_method_3_code 99 = .ok (.return_, 1) := by decide +kernel
theorem dP_find_0 : decode prog_1_method_12_code 0 = .ok (.iload_n 1, 1) := by decide +kernel
theorem dP_find_1 : decode prog_1_method_12_code 1 = .ok (.invokestatic 128, 3) := by decide +kernel
theorem dP_find_4 : decode prog_1_method_12_code 4 = .ok (.ifCond .eq 12, 3) := by decide +kernel
theorem dP_find_7 : decode prog_1_method_12_code 7 = .ok (.iload_n 2, 1) := by decide +kernel
theorem dP_find_8 : decode prog_1_method_12_code 8 = .ok (.ifCond .lt 8, 3) := by decide +kernel
theorem dP_find_11 : decode prog_1_method_12_code 11 = .ok (.iload_n 2, 1) := by decide +kernel
theorem dP_find_12 : decode prog_1_method_12_code 12 = .ok (.iconst 3, 1) := by decide +kernel
theorem dP_find_13 : decode prog_1_method_12_code 13 = .ok (.if_icmp .le 13, 3) := by decide +kernel
theorem dP_find_16 : decode prog_1_method_12_code 16 = .ok (.new 91, 3) := by decide +kernel
theorem dP_find_19 : decode prog_1_method_12_code 19 = .ok (.dup, 1) := by decide +kernel
theorem dP_find_20 : decode prog_1_method_12_code 20 = .ok (.ldc 211, 2) := by decide +kernel
theorem dP_find_22 : decode prog_1_method_12_code 22 = .ok (.invokespecial 95, 3) := by decide +kernel
theorem dP_find_25 : decode prog_1_method_12_code 25 = .ok (.athrow, 1) := by decide +kernel
theorem dP_find_26 : decode prog_1_method_12_code 26 = .ok (.aload_n 0, 1) := by decide +kernel
theorem dP_find_27 : decode prog_1_method_12_code 27 = .ok (.invokevirtual 213, 3) := by decide +kernel
theorem dP_find_30 : decode prog_1_method_12_code 30 = .ok (.astore_n 3, 1) := by decide +kernel
theorem dP_find_31 : decode prog_1_method_12_code 31 = .ok (.aload_n 0, 1) := by decide +kernel
theorem dP_find_32 : decode prog_1_method_12_code 32 = .ok (.invokevirtual 217, 3) := by decide +kernel
theorem dP_find_35 : decode prog_1_method_12_code 35 = .ok (.astore 4, 2) := by decide +kernel
theorem dP_find_37 : decode prog_1_method_12_code 37 = .ok (.aload_n 0, 1) := by decide +kernel
theorem dP_find_38 : decode prog_1_method_12_code 38 = .ok (.getfield 55, 3) := by decide +kernel
theorem dP_find_41 : decode prog_1_method_12_code 41 = .ok (.invokevirtual 220, 3) := by decide +kernel
theorem dP_find_44 : decode prog_1_method_12_code 44 = .ok (.iconst 0, 1) := by decide +kernel
theorem dP_find_45 : decode prog_1_method_12_code 45 = .ok (.istore 5, 2) := by decide +kernel
theorem dP_find_47 : decode prog_1_method_12_code 47 = .ok (.iload 5, 2) := by decide +kernel
theorem dP_find_49 : decode prog_1_method_12_code 49 = .ok (.aload_n 0, 1) := by decide +kernel
theorem dP_find_50 : decode prog_1_method_12_code 50 = .ok (.getfield 10, 3) := by decide +kernel
theorem dP_find_53 : decode prog_1_method_12_code 53 = .ok (.invokevirtual 98, 3) := by decide +kernel
theorem dP_find_56 : decode prog_1_method_12_code 56 = .ok (.if_icmp .ge 61, 3) := by decide +kernel
theorem dP_find_59 : decode prog_1_method_12_code 59 = .ok (.aload_n 0, 1) := by decide +kernel
theorem dP_find_60 : decode prog_1_method_12_code 60 = .ok (.getfield 10, 3) := by decide +kernel
theorem dP_find_63 : decode prog_1_method_12_code 63 = .ok (.iload 5, 2) := by decide +kernel
theorem dP_find_65 : decode prog_1_method_12_code 65 = .ok (.invokevirtual 223, 3) := by decide +kernel
theorem dP_find_68 : decode prog_1_method_12_code 68 = .ok (.checkcast 107, 3) := by decide +kernel
theorem dP_find_71 : decode prog_1_method_12_code 71 = .ok (.astore 6, 2) := by decide +kernel
theorem dP_find_73 : decode prog_1_method_12_code 73 = .ok (.aload_n 0, 1) := by decide +kernel
theorem dP_find_74 : decode prog_1_method_12_code 74 = .ok (.aload 6, 2) := by decide +kernel
theorem dP_find_76 : decode prog_1_method_12_code 76 = .ok (.aload_n 0, 1) := by decide +kernel
theorem dP_find_77 : decode prog_1_method_12_code 77 = .ok (.getfield 43, 3) := by decide +kernel
theorem dP_find_80 : decode prog_1_method_12_code 80 = .ok (.aload_n 0, 1) := by decide +kernel
theorem dP_find_81 : decode prog_1_method_12_code 81 = .ok (.getfield 32, 3) := by decide +kernel
theorem dP_find_84 : decode prog_1_method_12_code 84 = .ok (.iload_n 1, 1) := by decide +kernel
theorem dP_find_85 : decode prog_1_method_12_code 85 = .ok (.invokevirtual 227, 3) := by decide +kernel
theorem dP_find_88 : decode prog_1_method_12_code 88 = .ok (.ifCond .eq 23, 3) := by decide +kernel
theorem dP_find_91 : decode prog_1_method_12_code 91 = .ok (.aload_n 0, 1) := by decide +kernel
theorem dP_find_92 : decode prog_1_method_12_code 92 = .ok (.getfield 55, 3) := by decide +kernel
theorem dP_find_95 : decode prog_1_method_12_code 95 = .ok (.iload 5, 2) := by decide +kernel
theorem dP_find_97 : decode prog_1_method_12_code 97 = .ok (.aload_n 0, 1) := by decide +kernel
theorem dP_find_98 : decode prog_1_method_12_code 98 = .ok (.aload 6, 2) := by decide +kernel
theorem dP_find_100 : decode prog_1_method_12_code 100 = .ok (.iload_n 2, 1) := by decide +kernel
theorem dP_find_101 : decode prog_1_method_12_code 101 = .ok (.aload_n 3, 1) := by decide +kernel
theorem dP_find_102 : decode prog_1_method_12_code 102 = .ok (.aload 4, 2) := by decide +kernel
theorem dP_find_104 : decode prog_1_method_12_code 104 = .ok (.iload_n 1, 1) := by decide +kernel
theorem dP_find_105 : decode prog_1_method_12_code 105 = .ok (.invokevirtual 231, 3) := by decide +kernel
theorem dP_find_108 : decode prog_1_method_12_code 108 = .ok (.invokevirtual 235, 3) := by decide +kernel
theorem dP_find_111 : decode prog_1_method_12_code 111 = .ok (.iinc 5 1, 3) := by decide +kernel
theorem dP_find_114 : decode prog_1_method_12_code 114 = .ok (.goto (-67), 3) := by decide +kernel
theorem dP_find_117 : decode prog_1_method_12_code 117 = .ok (.aload_n 0, 1) := by decide +kernel
theorem dP_find_118 : decode prog_1_method_12_code 118 = .ok (.getfield 55, 3) := by decide +kernel
theorem dP_find_121 : decode prog_1_method_12_code 121 = .ok (.getfield 238, 3) := by decide +kernel
theorem dP_find_124 : decode prog_1_method_12_code 124 = .ok (.ireturn, 1) := by decide +kernel
theorem dPl_isThere_0 : decode prog_8_method_6_code 0 = .ok (.aload_n 0, 1) := by decide +kernel
theorem dPl_isThere_1 : decode prog_8_method_6_code 1 = .ok (.iload_n 1, 1) := by decide +kernel
theorem dPl_isThere_2 : decode prog_8_method_6_code 2 = .ok (.invokevirtual 52, 3) := by decide +kernel
theorem dPl_isThere_5 : decode prog_8_method_6_code 5 = .ok (.ifnull 15, 3) := by decide +kernel
theorem dPl_isThere_8 : decode prog_8_method_6_code 8 = .ok (.aload_n 0, 1) := by decide +kernel
theorem dPl_isThere_9 : decode prog_8_method_6_code 9 = .ok (.iload_n 1, 1) := by decide +kernel
theorem dPl_isThere_10 : decode prog_8_method_6_code 10 = .ok (.invokevirtual 56, 3) := by decide +kernel
theorem dPl_isThere_13 : decode prog_8_method_6_code 13 = .ok (.ifCond .ne 7, 3) := by decide +kernel
theorem dPl_isThere_16 : decode prog_8_method_6_code 16 = .ok (.iconst 1, 1) := by decide +kernel
theorem dPl_isThere_17 : decode prog_8_method_6_code 17 = .ok (.goto 4, 3) := by decide +kernel
theorem dPl_isThere_20 : decode prog_8_method_6_code 20 = .ok (.iconst 0, 1) := by decide +kernel
theorem dPl_isThere_21 : decode prog_8_method_6_code 21 = .ok (.ireturn, 1) := by decide +kernel
theorem dHi_keepFirst_0 : decode prog_5_method_4_code 0 = .ok (.aload_n 0, 1) := by decide +kernel
theorem dHi_keepFirst_1 : decode prog_5_method_4_code 1 = .ok (.aload_n 0, 1) := by decide +kernel
theorem dHi_keepFirst_2 : decode prog_5_method_4_code 2 = .ok (.getfield 19, 3) := by decide +kernel
theorem dHi_keepFirst_5 : decode prog_5_method_4_code 5 = .ok (.iload_n 1, 1) := by decide +kernel
theorem dHi_keepFirst_6 : decode prog_5_method_4_code 6 = .ok (.invokestatic 23, 3) := by decide +kernel
theorem dHi_keepFirst_9 : decode prog_5_method_4_code 9 = .ok (.putfield 19, 3) := by decide +kernel
theorem dHi_keepFirst_12 : decode prog_5_method_4_code 12 = .ok (.return_, 1) := by decide +kernel
theorem dP_near_0 : decode prog_1_method_13_code 0 = .ok (.iload 4, 2) := by decide +kernel
theorem dP_near_2 : decode prog_1_method_13_code 2 = .ok (.iconst (-1), 1) := by decide +kernel
theorem dP_near_3 : decode prog_1_method_13_code 3 = .ok (.if_icmp .eq 11, 3) := by decide +kernel
theorem dP_near_6 : decode prog_1_method_13_code 6 = .ok (.iload 4, 2) := by decide +kernel
theorem dP_near_8 : decode prog_1_method_13_code 8 = .ok (.invokestatic 87, 3) := by decide +kernel
theorem dP_near_11 : decode prog_1_method_13_code 11 = .ok (.ifCond .eq 7, 3) := by decide +kernel
theorem dP_near_14 : decode prog_1_method_13_code 14 = .ok (.iconst 1, 1) := by decide +kernel
theorem dP_near_15 : decode prog_1_method_13_code 15 = .ok (.goto 4, 3) := by decide +kernel
theorem dP_near_18 : decode prog_1_method_13_code 18 = .ok (.iconst 0, 1) := by decide +kernel
theorem dP_near_19 : decode prog_1_method_13_code 19 = .ok (.istore 6, 2) := by decide +kernel
theorem dP_near_21 : decode prog_1_method_13_code 21 = .ok (.iload_n 1, 1) := by decide +kernel
theorem dP_near_22 : decode prog_1_method_13_code 22 = .ok (.iload_n 2, 1) := by decide +kernel
theorem dP_near_23 : decode prog_1_method_13_code 23 = .ok (.invokestatic 116, 3) := by decide +kernel
theorem dP_near_26 : decode prog_1_method_13_code 26 = .ok (.ifCond .eq 27, 3) := by decide +kernel
theorem dP_near_29 : decode prog_1_method_13_code 29 = .ok (.iload_n 3, 1) := by decide +kernel
theorem dP_near_30 : decode prog_1_method_13_code 30 = .ok (.iconst 1, 1) := by decide +kernel
theorem dP_near_31 : decode prog_1_method_13_code 31 = .ok (.if_icmp .lt 22, 3) := by decide +kernel
theorem dP_near_34 : decode prog_1_method_13_code 34 = .ok (.iload_n 3, 1) := by decide +kernel
theorem dP_near_35 : decode prog_1_method_13_code 35 = .ok (.bipush 30, 2) := by decide +kernel
theorem dP_near_37 : decode prog_1_method_13_code 37 = .ok (.if_icmp .gt 16, 3) := by decide +kernel
theorem dP_near_40 : decode prog_1_method_13_code 40 = .ok (.iload 6, 2) := by decide +kernel
theorem dP_near_42 : decode prog_1_method_13_code 42 = .ok (.ifCond .eq 11, 3) := by decide +kernel
theorem dP_near_45 : decode prog_1_method_13_code 45 = .ok (.iload 5, 2) := by decide +kernel
theorem dP_near_47 : decode prog_1_method_13_code 47 = .ok (.invokestatic 128, 3) := by decide +kernel
theorem dP_near_50 : decode prog_1_method_13_code 50 = .ok (.ifCond .ne 13, 3) := by decide +kernel
theorem dP_near_53 : decode prog_1_method_13_code 53 = .ok (.new 91, 3) := by decide +kernel
theorem dP_near_56 : decode prog_1_method_13_code 56 = .ok (.dup, 1) := by decide +kernel
theorem dP_near_57 : decode prog_1_method_13_code 57 = .ok (.ldc 241, 2) := by decide +kernel
theorem dP_near_59 : decode prog_1_method_13_code 59 = .ok (.invokespecial 95, 3) := by decide +kernel
theorem dP_near_62 : decode prog_1_method_13_code 62 = .ok (.athrow, 1) := by decide +kernel
theorem dP_near_63 : decode prog_1_method_13_code 63 = .ok (.aload_n 0, 1) := by decide +kernel
theorem dP_near_64 : decode prog_1_method_13_code 64 = .ok (.getfield 55, 3) := by decide +kernel
theorem dP_near_67 : decode prog_1_method_13_code 67 = .ok (.invokevirtual 220, 3) := by decide +kernel
theorem dP_near_70 : decode prog_1_method_13_code 70 = .ok (.iconst 0, 1) := by decide +kernel
theorem dP_near_71 : decode prog_1_method_13_code 71 = .ok (.istore 7, 2) := by decide +kernel
theorem dP_near_73 : decode prog_1_method_13_code 73 = .ok (.iload 7, 2) := by decide +kernel
theorem dP_near_75 : decode prog_1_method_13_code 75 = .ok (.aload_n 0, 1) := by decide +kernel
theorem dP_near_76 : decode prog_1_method_13_code 76 = .ok (.getfield 10, 3) := by decide +kernel
theorem dP_near_79 : decode prog_1_method_13_code 79 = .ok (.invokevirtual 98, 3) := by decide +kernel
theorem dP_near_82 : decode prog_1_method_13_code 82 = .ok (.if_icmp .ge 68, 3) := by decide +kernel
theorem dP_near_85 : decode prog_1_method_13_code 85 = .ok (.aload_n 0, 1) := by decide +kernel
theorem dP_near_86 : decode prog_1_method_13_code 86 = .ok (.getfield 10, 3) := by decide +kernel
theorem dP_near_89 : decode prog_1_method_13_code 89 = .ok (.iload 7, 2) := by decide +kernel
theorem dP_near_91 : decode prog_1_method_13_code 91 = .ok (.invokevirtual 223, 3) := by decide +kernel
theorem dP_near_94 : decode prog_1_method_13_code 94 = .ok (.checkcast 107, 3) := by decide +kernel
theorem dP_near_97 : decode prog_1_method_13_code 97 = .ok (.astore 8, 2) := by decide +kernel
theorem dP_near_99 : decode prog_1_method_13_code 99 = .ok (.aload 8, 2) := by decide +kernel
theorem dP_near_101 : decode prog_1_method_13_code 101 = .ok (.iload 5, 2) := by decide +kernel
theorem dP_near_103 : decode prog_1_method_13_code 103 = .ok (.invokevirtual 243, 3) := by decide +kernel
theorem dP_near_106 : decode prog_1_method_13_code 106 = .ok (.ifCond .eq 38, 3) := by decide +kernel
theorem dP_near_109 : decode prog_1_method_13_code 109 = .ok (.iload 4, 2) := by decide +kernel
theorem dP_near_111 : decode prog_1_method_13_code 111 = .ok (.iconst (-1), 1) := by decide +kernel
theorem dP_near_112 : decode prog_1_method_13_code 112 = .ok (.if_icmp .eq 13, 3) := by decide +kernel
theorem dP_near_115 : decode prog_1_method_13_code 115 = .ok (.aload 8, 2) := by decide +kernel
theorem dP_near_117 : decode prog_1_method_13_code 117 = .ok (.getfield 246, 3) := by decide +kernel
theorem dP_near_120 : decode prog_1_method_13_code 120 = .ok (.iload 4, 2) := by decide +kernel
theorem dP_near_122 : decode prog_1_method_13_code 122 = .ok (.if_icmp .ne 22, 3) := by decide +kernel
theorem dP_near_125 : decode prog_1_method_13_code 125 = .ok (.aload_n 0, 1) := by decide +kernel
theorem dP_near_126 : decode prog_1_method_13_code 126 = .ok (.getfield 55, 3) := by decide +kernel
theorem dP_near_129 : decode prog_1_method_13_code 129 = .ok (.iload 7, 2) := by decide +kernel
theorem dP_near_131 : decode prog_1_method_13_code 131 = .ok (.aload 8, 2) := by decide +kernel
theorem dP_near_133 : decode prog_1_method_13_code 133 = .ok (.iload_n 1, 1) := by decide +kernel
theorem dP_near_134 : decode prog_1_method_13_code 134 = .ok (.iload_n 2, 1) := by decide +kernel
theorem dP_near_135 : decode prog_1_method_13_code 135 = .ok (.iload 5, 2) := by decide +kernel
theorem dP_near_137 : decode prog_1_method_13_code 137 = .ok (.invokevirtual 249, 3) := by decide +kernel
theorem dP_near_140 : decode prog_1_method_13_code 140 = .ok (.i2l, 1) := by decide +kernel
theorem dP_near_141 : decode prog_1_method_13_code 141 = .ok (.invokevirtual 235, 3) := by decide +kernel
theorem dP_near_144 : decode prog_1_method_13_code 144 = .ok (.iinc 7 1, 3) := by decide +kernel
theorem dP_near_147 : decode prog_1_method_13_code 147 = .ok (.goto (-74), 3) := by decide +kernel
theorem dP_near_150 : decode prog_1_method_13_code 150 = .ok (.aload_n 0, 1) := by decide +kernel
theorem dP_near_151 : decode prog_1_method_13_code 151 = .ok (.getfield 55, 3) := by decide +kernel
theorem dP_near_154 : decode prog_1_method_13_code 154 = .ok (.iload_n 3, 1) := by decide +kernel
theorem dP_near_155 : decode prog_1_method_13_code 155 = .ok (.invokevirtual 253, 3) := by decide +kernel
theorem dP_near_158 : decode prog_1_method_13_code 158 = .ok (.aload_n 0, 1) := by decide +kernel
theorem dP_near_159 : decode prog_1_method_13_code 159 = .ok (.getfield 55, 3) := by decide +kernel
theorem dP_near_162 : decode prog_1_method_13_code 162 = .ok (.getfield 238, 3) := by decide +kernel
theorem dP_near_165 : decode prog_1_method_13_code 165 = .ok (.ireturn, 1) := by decide +kernel
theorem dP_hit_0 : decode prog_1_method_14_code 0 = .ok (.iload_n 1, 1) := by decide +kernel
theorem dP_hit_1 : decode prog_1_method_14_code 1 = .ok (.ifCond .lt 14, 3) := by decide +kernel
theorem dP_hit_4 : decode prog_1_method_14_code 4 = .ok (.iload_n 1, 1) := by decide +kernel
theorem dP_hit_5 : decode prog_1_method_14_code 5 = .ok (.aload_n 0, 1) := by decide +kernel
theorem dP_hit_6 : decode prog_1_method_14_code 6 = .ok (.getfield 55, 3) := by decide +kernel
theorem dP_hit_9 : decode prog_1_method_14_code 9 = .ok (.getfield 238, 3) := by decide +kernel
theorem dP_hit_12 : decode prog_1_method_14_code 12 = .ok (.if_icmp .lt 14, 3) := by decide +kernel
theorem dP_hit_15 : decode prog_1_method_14_code 15 = .ok (.new 257, 3) := by decide +kernel
theorem dP_hit_18 : decode prog_1_method_14_code 18 = .ok (.dup, 1) := by decide +kernel
theorem dP_hit_19 : decode prog_1_method_14_code 19 = .ok (.ldc_w 259, 3) := by decide +kernel
theorem dP_hit_22 : decode prog_1_method_14_code 22 = .ok (.invokespecial 261, 3) := by decide +kernel
theorem dP_hit_25 : decode prog_1_method_14_code 25 = .ok (.athrow, 1) := by decide +kernel
theorem dP_hit_26 : decode prog_1_method_14_code 26 = .ok (.aload_n 0, 1) := by decide +kernel
theorem dP_hit_27 : decode prog_1_method_14_code 27 = .ok (.getfield 55, 3) := by decide +kernel
theorem dP_hit_30 : decode prog_1_method_14_code 30 = .ok (.getfield 262, 3) := by decide +kernel
theorem dP_hit_33 : decode prog_1_method_14_code 33 = .ok (.iload_n 1, 1) := by decide +kernel
theorem dP_hit_34 : decode prog_1_method_14_code 34 = .ok (.iaload, 1) := by decide +kernel
theorem dP_hit_35 : decode prog_1_method_14_code 35 = .ok (.ireturn, 1) := by decide +kernel
theorem dP_chain_0 : decode prog_1_method_15_code 0 = .ok (.aload_n 0, 1) := by decide +kernel
theorem dP_chain_1 : decode prog_1_method_15_code 1 = .ok (.iload_n 1, 1) := by decide +kernel
theorem dP_chain_2 : decode prog_1_method_15_code 2 = .ok (.invokevirtual 124, 3) := by decide +kernel
theorem dP_chain_5 : decode prog_1_method_15_code 5 = .ok (.astore 4, 2) := by decide +kernel
theorem dP_chain_7 : decode prog_1_method_15_code 7 = .ok (.aload 4, 2) := by decide +kernel
theorem dP_chain_9 : decode prog_1_method_15_code 9 = .ok (.ifnull 14, 3) := by decide +kernel
theorem dP_chain_12 : decode prog_1_method_15_code 12 = .ok (.iload_n 2, 1) := by decide +kernel
theorem dP_chain_13 : decode prog_1_method_15_code 13 = .ok (.invokestatic 128, 3) := by decide +kernel
theorem dP_chain_16 : decode prog_1_method_15_code 16 = .ok (.ifCond .eq 7, 3) := by decide +kernel
theorem dP_chain_19 : decode prog_1_method_15_code 19 = .ok (.iload_n 3, 1) := by decide +kernel
theorem dP_chain_20 : decode prog_1_method_15_code 20 = .ok (.ifCond .ge 14, 3) := by decide +kernel
theorem dP_chain_23 : decode prog_1_method_15_code 23 = .ok (.new 91, 3) := by decide +kernel
theorem dP_chain_26 : decode prog_1_method_15_code 26 = .ok (.dup, 1) := by decide +kernel
theorem dP_chain_27 : decode prog_1_method_15_code 27 = .ok (.ldc_w 265, 3) := by decide +kernel
theorem dP_chain_30 : decode prog_1_method_15_code 30 = .ok (.invokespecial 95, 3) := by decide +kernel
theorem dP_chain_33 : decode prog_1_method_15_code 33 = .ok (.athrow, 1) := by decide +kernel
theorem dP_chain_34 : decode prog_1_method_15_code 34 = .ok (.iload_n 3, 1) := by decide +kernel
theorem dP_chain_35 : decode prog_1_method_15_code 35 = .ok (.bipush 30, 2) := by decide +kernel
theorem dP_chain_37 : decode prog_1_method_15_code 37 = .ok (.if_icmp .lt 5, 3) := by decide +kernel
theorem dP_chain_40 : decode prog_1_method_15_code 40 = .ok (.iconst (-1), 1) := by decide +kernel
theorem dP_chain_41 : decode prog_1_method_15_code 41 = .ok (.ireturn, 1) := by decide +kernel
theorem dP_chain_42 : decode prog_1_method_15_code 42 = .ok (.iconst 0, 1) := by decide +kernel
theorem dP_chain_43 : decode prog_1_method_15_code 43 = .ok (.istore 5, 2) := by decide +kernel
theorem dP_chain_45 : decode prog_1_method_15_code 45 = .ok (.iload 5, 2) := by decide +kernel
theorem dP_chain_47 : decode prog_1_method_15_code 47 = .ok (.iload_n 3, 1) := by decide +kernel
theorem dP_chain_48 : decode prog_1_method_15_code 48 = .ok (.if_icmp .gt 22, 3) := by decide +kernel
theorem dP_chain_51 : decode prog_1_method_15_code 51 = .ok (.aload 4, 2) := by decide +kernel
theorem dP_chain_53 : decode prog_1_method_15_code 53 = .ok (.ifnull 17, 3) := by decide +kernel
theorem dP_chain_56 : decode prog_1_method_15_code 56 = .ok (.aload 4, 2) := by decide +kernel
theorem dP_chain_58 : decode prog_1_method_15_code 58 = .ok (.iload_n 2, 1) := by decide +kernel
theorem dP_chain_59 : decode prog_1_method_15_code 59 = .ok (.invokevirtual 267, 3) := by decide +kernel
theorem dP_chain_62 : decode prog_1_method_15_code 62 = .ok (.astore 4, 2) := by decide +kernel
theorem dP_chain_64 : decode prog_1_method_15_code 64 = .ok (.iinc 5 1, 3) := by decide +kernel
theorem dP_chain_67 : decode prog_1_method_15_code 67 = .ok (.goto (-22), 3) := by decide +kernel
theorem dP_chain_70 : decode prog_1_method_15_code 70 = .ok (.aload 4, 2) := by decide +kernel
theorem dP_chain_72 : decode prog_1_method_15_code 72 = .ok (.ifnonnull 7, 3) := by decide +kernel
theorem dP_chain_75 : decode prog_1_method_15_code 75 = .ok (.iconst (-1), 1) := by decide +kernel
theorem dP_chain_76 : decode prog_1_method_15_code 76 = .ok (.goto 8, 3) := by decide +kernel
theorem dP_chain_79 : decode prog_1_method_15_code 79 = .ok (.aload 4, 2) := by decide +kernel
theorem dP_chain_81 : decode prog_1_method_15_code 81 = .ok (.getfield 270, 3) := by decide +kernel
theorem dP_chain_84 : decode prog_1_method_15_code 84 = .ok (.ireturn, 1) := by decide +kernel
theorem dP_holds_0 : decode prog_1_method_16_code 0 = .ok (.aload_n 0, 1) := by decide +kernel
theorem dP_holds_1 : decode prog_1_method_16_code 1 = .ok (.iload_n 1, 1) := by decide +kernel
theorem dP_holds_2 : decode prog_1_method_16_code 2 = .ok (.invokevirtual 124, 3) := by decide +kernel
