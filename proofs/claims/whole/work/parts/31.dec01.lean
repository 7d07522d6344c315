theorem dPl_isLinkedWithin_37 : decode prog_8_method_8_code 37 = .ok (.goto (-35), 3) := by decide +kernel
theorem dPl_isLinkedWithin_40 : decode prog_8_method_8_code 40 = .ok (.iconst 0, 1) := by decide +kernel
theorem dPl_isLinkedWithin_41 : decode prog_8_method_8_code 41 = .ok (.ireturn, 1) := by decide +kernel
theorem dP_comesTo_0 : decode prog_1_method_30_code 0 = .ok (.aload_n 0, 1) := by decide +kernel
theorem dP_comesTo_1 : decode prog_1_method_30_code 1 = .ok (.getfield 270, 3) := by decide +kernel
theorem dP_comesTo_4 : decode prog_1_method_30_code 4 = .ok (.iload_n 1, 1) := by decide +kernel
theorem dP_comesTo_5 : decode prog_1_method_30_code 5 = .ok (.if_icmp .eq 10, 3) := by decide +kernel
theorem dP_comesTo_8 : decode prog_1_method_30_code 8 = .ok (.iload 4, 2) := by decide +kernel
theorem dP_comesTo_10 : decode prog_1_method_30_code 10 = .ok (.bipush 30, 2) := by decide +kernel
theorem dP_comesTo_12 : decode prog_1_method_30_code 12 = .ok (.if_icmp .lt 5, 3) := by decide +kernel
theorem dP_comesTo_15 : decode prog_1_method_30_code 15 = .ok (.iconst 1, 1) := by decide +kernel
theorem dP_comesTo_16 : decode prog_1_method_30_code 16 = .ok (.ireturn, 1) := by decide +kernel
theorem dP_comesTo_17 : decode prog_1_method_30_code 17 = .ok (.iconst 0, 1) := by decide +kernel
theorem dP_comesTo_18 : decode prog_1_method_30_code 18 = .ok (.istore 5, 2) := by decide +kernel
theorem dP_comesTo_20 : decode prog_1_method_30_code 20 = .ok (.iload 5, 2) := by decide +kernel
theorem dP_comesTo_22 : decode prog_1_method_30_code 22 = .ok (.aload_n 0, 1) := by decide +kernel
theorem dP_comesTo_23 : decode prog_1_method_30_code 23 = .ok (.getfield 180, 3) := by decide +kernel
theorem dP_comesTo_26 : decode prog_1_method_30_code 26 = .ok (.invokevirtual 98, 3) := by decide +kernel
theorem dP_comesTo_29 : decode prog_1_method_30_code 29 = .ok (.if_icmp .ge 74, 3) := by decide +kernel
theorem dP_comesTo_32 : decode prog_1_method_30_code 32 = .ok (.aload_n 0, 1) := by decide +kernel
theorem dP_comesTo_33 : decode prog_1_method_30_code 33 = .ok (.getfield 180, 3) := by decide +kernel
theorem dP_comesTo_36 : decode prog_1_method_30_code 36 = .ok (.iload 5, 2) := by decide +kernel
theorem dP_comesTo_38 : decode prog_1_method_30_code 38 = .ok (.invokevirtual 223, 3) := by decide +kernel
theorem dP_comesTo_41 : decode prog_1_method_30_code 41 = .ok (.checkcast 185, 3) := by decide +kernel
theorem dP_comesTo_44 : decode prog_1_method_30_code 44 = .ok (.astore 6, 2) := by decide +kernel
theorem dP_comesTo_46 : decode prog_1_method_30_code 46 = .ok (.iload_n 2, 1) := by decide +kernel
theorem dP_comesTo_47 : decode prog_1_method_30_code 47 = .ok (.aload 6, 2) := by decide +kernel
theorem dP_comesTo_49 : decode prog_1_method_30_code 49 = .ok (.getfield 329, 3) := by decide +kernel
theorem dP_comesTo_52 : decode prog_1_method_30_code 52 = .ok (.invokestatic 332, 3) := by decide +kernel
theorem dP_comesTo_55 : decode prog_1_method_30_code 55 = .ok (.istore 7, 2) := by decide +kernel
theorem dP_comesTo_57 : decode prog_1_method_30_code 57 = .ok (.iload_n 3, 1) := by decide +kernel
theorem dP_comesTo_58 : decode prog_1_method_30_code 58 = .ok (.aload 6, 2) := by decide +kernel
theorem dP_comesTo_60 : decode prog_1_method_30_code 60 = .ok (.getfield 338, 3) := by decide +kernel
theorem dP_comesTo_63 : decode prog_1_method_30_code 63 = .ok (.invokestatic 341, 3) := by decide +kernel
theorem dP_comesTo_66 : decode prog_1_method_30_code 66 = .ok (.istore 8, 2) := by decide +kernel
theorem dP_comesTo_68 : decode prog_1_method_30_code 68 = .ok (.iload 7, 2) := by decide +kernel
theorem dP_comesTo_70 : decode prog_1_method_30_code 70 = .ok (.iload 8, 2) := by decide +kernel
theorem dP_comesTo_72 : decode prog_1_method_30_code 72 = .ok (.if_icmp .gt 25, 3) := by decide +kernel
theorem dP_comesTo_75 : decode prog_1_method_30_code 75 = .ok (.aload 6, 2) := by decide +kernel
theorem dP_comesTo_77 : decode prog_1_method_30_code 77 = .ok (.getfield 344, 3) := by decide +kernel
theorem dP_comesTo_80 : decode prog_1_method_30_code 80 = .ok (.iload_n 1, 1) := by decide +kernel
theorem dP_comesTo_81 : decode prog_1_method_30_code 81 = .ok (.iload 7, 2) := by decide +kernel
theorem dP_comesTo_83 : decode prog_1_method_30_code 83 = .ok (.iload 8, 2) := by decide +kernel
theorem dP_comesTo_85 : decode prog_1_method_30_code 85 = .ok (.iload 4, 2) := by decide +kernel
theorem dP_comesTo_87 : decode prog_1_method_30_code 87 = .ok (.iconst 1, 1) := by decide +kernel
theorem dP_comesTo_88 : decode prog_1_method_30_code 88 = .ok (.iadd, 1) := by decide +kernel
theorem dP_comesTo_89 : decode prog_1_method_30_code 89 = .ok (.invokestatic 176, 3) := by decide +kernel
theorem dP_comesTo_92 : decode prog_1_method_30_code 92 = .ok (.ifCond .eq 5, 3) := by decide +kernel
theorem dP_comesTo_95 : decode prog_1_method_30_code 95 = .ok (.iconst 1, 1) := by decide +kernel
theorem dP_comesTo_96 : decode prog_1_method_30_code 96 = .ok (.ireturn, 1) := by decide +kernel
theorem dP_comesTo_97 : decode prog_1_method_30_code 97 = .ok (.iinc 5 1, 3) := by decide +kernel
theorem dP_comesTo_100 : decode prog_1_method_30_code 100 = .ok (.goto (-80), 3) := by decide +kernel
theorem dP_comesTo_103 : decode prog_1_method_30_code 103 = .ok (.iconst 0, 1) := by decide +kernel
theorem dP_comesTo_104 : decode prog_1_method_30_code 104 = .ok (.ireturn, 1) := by decide +kernel
theorem dLi_init_0 : decode prog_6_method_1_code 0 = .ok (.aload_n 0, 1) := by decide +kernel
theorem dLi_init_1 : decode prog_6_method_1_code 1 = .ok (.invokespecial 1, 3) := by decide +kernel
theorem dLi_init_4 : decode prog_6_method_1_code 4 = .ok (.aload_n 0, 1) := by decide +kernel
theorem dLi_init_5 : decode prog_6_method_1_code 5 = .ok (.aload_n 1, 1) := by decide +kernel
theorem dLi_init_6 : decode prog_6_method_1_code 6 = .ok (.putfield 7, 3) := by decide +kernel
theorem dLi_init_9 : decode prog_6_method_1_code 9 = .ok (.aload_n 0, 1) := by decide +kernel
theorem dLi_init_10 : decode prog_6_method_1_code 10 = .ok (.iload_n 2, 1) := by decide +kernel
theorem dLi_init_11 : decode prog_6_method_1_code 11 = .ok (.putfield 13, 3) := by decide +kernel
theorem dLi_init_14 : decode prog_6_method_1_code 14 = .ok (.aload_n 0, 1) := by decide +kernel
theorem dLi_init_15 : decode prog_6_method_1_code 15 = .ok (.iload_n 3, 1) := by decide +kernel
theorem dLi_init_16 : decode prog_6_method_1_code 16 = .ok (.putfield 17, 3) := by decide +kernel
theorem dLi_init_19 : decode prog_6_method_1_code 19 = .ok (.return_, 1) := by decide +kernel
theorem dP_parent_0 : decode prog_1_method_8_code 0 = .ok (.aload_n 0, 1) := by decide +kernel
theorem dP_parent_1 : decode prog_1_method_8_code 1 = .ok (.iload_n 1, 1) := by decide +kernel
theorem dP_parent_2 : decode prog_1_method_8_code 2 = .ok (.invokevirtual 124, 3) := by decide +kernel
theorem dP_parent_5 : decode prog_1_method_8_code 5 = .ok (.astore 5, 2) := by decide +kernel
theorem dP_parent_7 : decode prog_1_method_8_code 7 = .ok (.aload_n 0, 1) := by decide +kernel
theorem dP_parent_8 : decode prog_1_method_8_code 8 = .ok (.iload_n 2, 1) := by decide +kernel
theorem dP_parent_9 : decode prog_1_method_8_code 9 = .ok (.invokevirtual 124, 3) := by decide +kernel
theorem dP_parent_12 : decode prog_1_method_8_code 12 = .ok (.astore 6, 2) := by decide +kernel
theorem dP_parent_14 : decode prog_1_method_8_code 14 = .ok (.aload 5, 2) := by decide +kernel
theorem dP_parent_16 : decode prog_1_method_8_code 16 = .ok (.ifnull 17, 3) := by decide +kernel
theorem dP_parent_19 : decode prog_1_method_8_code 19 = .ok (.aload 6, 2) := by decide +kernel
theorem dP_parent_21 : decode prog_1_method_8_code 21 = .ok (.ifnull 12, 3) := by decide +kernel
theorem dP_parent_24 : decode prog_1_method_8_code 24 = .ok (.iload_n 3, 1) := by decide +kernel
theorem dP_parent_25 : decode prog_1_method_8_code 25 = .ok (.iload 4, 2) := by decide +kernel
theorem dP_parent_27 : decode prog_1_method_8_code 27 = .ok (.invokestatic 151, 3) := by decide +kernel
theorem dP_parent_30 : decode prog_1_method_8_code 30 = .ok (.ifCond .ne 13, 3) := by decide +kernel
theorem dP_parent_33 : decode prog_1_method_8_code 33 = .ok (.new 91, 3) := by decide +kernel
theorem dP_parent_36 : decode prog_1_method_8_code 36 = .ok (.dup, 1) := by decide +kernel
theorem dP_parent_37 : decode prog_1_method_8_code 37 = .ok (.ldc 166, 2) := by decide +kernel
theorem dP_parent_39 : decode prog_1_method_8_code 39 = .ok (.invokespecial 95, 3) := by decide +kernel
theorem dP_parent_42 : decode prog_1_method_8_code 42 = .ok (.athrow, 1) := by decide +kernel
theorem dP_parent_43 : decode prog_1_method_8_code 43 = .ok (.aload 5, 2) := by decide +kernel
theorem dP_parent_45 : decode prog_1_method_8_code 45 = .ok (.iload_n 3, 1) := by decide +kernel
theorem dP_parent_46 : decode prog_1_method_8_code 46 = .ok (.iload 4, 2) := by decide +kernel
theorem dP_parent_48 : decode prog_1_method_8_code 48 = .ok (.invokevirtual 168, 3) := by decide +kernel
theorem dP_parent_51 : decode prog_1_method_8_code 51 = .ok (.ifCond .eq 13, 3) := by decide +kernel
theorem dP_parent_54 : decode prog_1_method_8_code 54 = .ok (.new 171, 3) := by decide +kernel
theorem dP_parent_57 : decode prog_1_method_8_code 57 = .ok (.dup, 1) := by decide +kernel
theorem dP_parent_58 : decode prog_1_method_8_code 58 = .ok (.ldc 173, 2) := by decide +kernel
theorem dP_parent_60 : decode prog_1_method_8_code 60 = .ok (.invokespecial 175, 3) := by decide +kernel
theorem dP_parent_63 : decode prog_1_method_8_code 63 = .ok (.athrow, 1) := by decide +kernel
theorem dP_parent_64 : decode prog_1_method_8_code 64 = .ok (.aload 6, 2) := by decide +kernel
theorem dP_parent_66 : decode prog_1_method_8_code 66 = .ok (.iload_n 1, 1) := by decide +kernel
theorem dP_parent_67 : decode prog_1_method_8_code 67 = .ok (.iload_n 3, 1) := by decide +kernel
theorem dP_parent_68 : decode prog_1_method_8_code 68 = .ok (.iload 4, 2) := by decide +kernel
theorem dP_parent_70 : decode prog_1_method_8_code 70 = .ok (.iconst 0, 1) := by decide +kernel
theorem dP_parent_71 : decode prog_1_method_8_code 71 = .ok (.invokestatic 176, 3) := by decide +kernel
theorem dP_parent_74 : decode prog_1_method_8_code 74 = .ok (.ifCond .ne 15, 3) := by decide +kernel
theorem dP_parent_77 : decode prog_1_method_8_code 77 = .ok (.aload 5, 2) := by decide +kernel
theorem dP_parent_79 : decode prog_1_method_8_code 79 = .ok (.getfield 180, 3) := by decide +kernel
theorem dP_parent_82 : decode prog_1_method_8_code 82 = .ok (.invokevirtual 98, 3) := by decide +kernel
theorem dP_parent_85 : decode prog_1_method_8_code 85 = .ok (.iconst 4, 1) := by decide +kernel
theorem dP_parent_86 : decode prog_1_method_8_code 86 = .ok (.if_icmp .lt 13, 3) := by decide +kernel
theorem dP_parent_89 : decode prog_1_method_8_code 89 = .ok (.new 102, 3) := by decide +kernel
theorem dP_parent_92 : decode prog_1_method_8_code 92 = .ok (.dup, 1) := by decide +kernel
theorem dP_parent_93 : decode prog_1_method_8_code 93 = .ok (.ldc 183, 2) := by decide +kernel
theorem dP_parent_95 : decode prog_1_method_8_code 95 = .ok (.invokespecial 106, 3) := by decide +kernel
theorem dP_parent_98 : decode prog_1_method_8_code 98 = .ok (.athrow, 1) := by decide +kernel
theorem dP_parent_99 : decode prog_1_method_8_code 99 = .ok (.aload 5, 2) := by decide +kernel
theorem dP_parent_101 : decode prog_1_method_8_code 101 = .ok (.getfield 180, 3) := by decide +kernel
theorem dP_parent_104 : decode prog_1_method_8_code 104 = .ok (.new 185, 3) := by decide +kernel
theorem dP_parent_107 : decode prog_1_method_8_code 107 = .ok (.dup, 1) := by decide +kernel
theorem dP_parent_108 : decode prog_1_method_8_code 108 = .ok (.aload 6, 2) := by decide +kernel
theorem dP_parent_110 : decode prog_1_method_8_code 110 = .ok (.iload_n 3, 1) := by decide +kernel
theorem dP_parent_111 : decode prog_1_method_8_code 111 = .ok (.iload 4, 2) := by decide +kernel
theorem dP_parent_113 : decode prog_1_method_8_code 113 = .ok (.invokespecial 187, 3) := by decide +kernel
theorem dP_parent_116 : decode prog_1_method_8_code 116 = .ok (.invokevirtual 112, 3) := by decide +kernel
theorem dP_parent_119 : decode prog_1_method_8_code 119 = .ok (.pop, 1) := by decide +kernel
theorem dP_parent_120 : decode prog_1_method_8_code 120 = .ok (.return_, 1) := by decide +kernel
theorem dPl_isRemovedOn_0 : decode prog_8_method_5_code 0 = .ok (.aload_n 0, 1) := by decide +kernel
theorem dPl_isRemovedOn_1 : decode prog_8_method_5_code 1 = .ok (.getfield 9, 3) := by decide +kernel
theorem dPl_isRemovedOn_4 : decode prog_8_method_5_code 4 = .ok (.iload_n 1, 1) := by decide +kernel
theorem dPl_isRemovedOn_5 : decode prog_8_method_5_code 5 = .ok (.if_icmp .gt 7, 3) := by decide +kernel
theorem dPl_isRemovedOn_8 : decode prog_8_method_5_code 8 = .ok (.iconst 1, 1) := by decide +kernel
theorem dPl_isRemovedOn_9 : decode prog_8_method_5_code 9 = .ok (.goto 4, 3) := by decide +kernel
theorem dPl_isRemovedOn_12 : decode prog_8_method_5_code 12 = .ok (.iconst 0, 1) := by decide +kernel
theorem dPl_isRemovedOn_13 : decode prog_8_method_5_code 13 = .ok (.ireturn, 1) := by decide +kernel
theorem dP_remove_0 : decode prog_1_method_9_code 0 = .ok (.aload_n 0, 1) := by decide +kernel
theorem dP_remove_1 : decode prog_1_method_9_code 1 = .ok (.iload_n 1, 1) := by decide +kernel
theorem dP_remove_2 : decode prog_1_method_9_code 2 = .ok (.invokevirtual 124, 3) := by decide +kernel
theorem dP_remove_5 : decode prog_1_method_9_code 5 = .ok (.astore_n 3, 1) := by decide +kernel
theorem dP_remove_6 : decode prog_1_method_9_code 6 = .ok (.aload_n 3, 1) := by decide +kernel
theorem dP_remove_7 : decode prog_1_method_9_code 7 = .ok (.ifnull 10, 3) := by decide +kernel
theorem dP_remove_10 : decode prog_1_method_9_code 10 = .ok (.iload_n 2, 1) := by decide +kernel
theorem dP_remove_11 : decode prog_1_method_9_code 11 = .ok (.invokestatic 128, 3) := by decide +kernel
theorem dP_remove_14 : decode prog_1_method_9_code 14 = .ok (.ifCond .ne 13, 3) := by decide +kernel
theorem dP_remove_17 : decode prog_1_method_9_code 17 = .ok (.new 91, 3) := by decide +kernel
theorem dP_remove_20 : decode prog_1_method_9_code 20 = .ok (.dup, 1) := by decide +kernel
theorem dP_remove_21 : decode prog_1_method_9_code 21 = .ok (.ldc 131, 2) := by decide +kernel
theorem dP_remove_23 : decode prog_1_method_9_code 23 = .ok (.invokespecial 95, 3) := by decide +kernel
theorem dP_remove_26 : decode prog_1_method_9_code 26 = .ok (.athrow, 1) := by decide +kernel
theorem dP_remove_27 : decode prog_1_method_9_code 27 = .ok (.aload_n 3, 1) := by decide +kernel
theorem dP_remove_28 : decode prog_1_method_9_code 28 = .ok (.iload_n 2, 1) := by decide +kernel
theorem dP_remove_29 : decode prog_1_method_9_code 29 = .ok (.invokevirtual 190, 3) := by decide +kernel
theorem dP_remove_32 : decode prog_1_method_9_code 32 = .ok (.ifCond .eq 13, 3) := by decide +kernel
theorem dP_remove_35 : decode prog_1_method_9_code 35 = .ok (.new 102, 3) := by decide +kernel
theorem dP_remove_38 : decode prog_1_method_9_code 38 = .ok (.dup, 1) := by decide +kernel
theorem dP_remove_39 : decode prog_1_method_9_code 39 = .ok (.ldc 193, 2) := by decide +kernel
theorem dP_remove_41 : decode prog_1_method_9_code 41 = .ok (.invokespecial 106, 3) := by decide +kernel
theorem dP_remove_44 : decode prog_1_method_9_code 44 = .ok (.athrow, 1) := by decide +kernel
theorem dP_remove_45 : decode prog_1_method_9_code 45 = .ok (.aload_n 3, 1) := by decide +kernel
theorem dP_remove_46 : decode prog_1_method_9_code 46 = .ok (.iload_n 2, 1) := by decide +kernel
theorem dP_remove_47 : decode prog_1_method_9_code 47 = .ok (.putfield 195, 3) := by decide +kernel
theorem dP_remove_50 : decode prog_1_method_9_code 50 = .ok (.return_, 1) := by decide +kernel
theorem dP_isDistance_0 : decode prog_1_method_26_code 0 = .ok (.iload_n 0, 1) := by decide +kernel
theorem dP_isDistance_1 : decode prog_1_method_26_code 1 = .ok (.ifCond .lt 14, 3) := by decide +kernel
theorem dP_isDistance_4 : decode prog_1_method_26_code 4 = .ok (.iload_n 0, 1) := by decide +kernel
theorem dP_isDistance_5 : decode prog_1_method_26_code 5 = .ok (.sipush 10000, 3) := by decide +kernel
theorem dP_isDistance_8 : decode prog_1_method_26_code 8 = .ok (.if_icmp .gt 7, 3) := by decide +kernel
theorem dP_isDistance_11 : decode prog_1_method_26_code 11 = .ok (.iconst 1, 1) := by decide +kernel
theorem dP_isDistance_12 : decode prog_1_method_26_code 12 = .ok (.goto 4, 3) := by decide +kernel
theorem dP_isDistance_15 : decode prog_1_method_26_code 15 = .ok (.iconst 0, 1) := by decide +kernel
theorem dP_isDistance_16 : decode prog_1_method_26_code 16 = .ok (.ireturn, 1) := by decide +kernel
theorem dP_areCondition_0 : decode prog_1_method_27_code 0 = .ok (.iload_n 1, 1) := by decide +kernel
theorem dP_areCondition_1 : decode prog_1_method_27_code 1 = .ok (.tableswitch 114 0 8 #[51, 51, 53, 51, 68, 73, 73, 87, 109], 51) := by decide +kernel
theorem dP_areCondition_52 : decode prog_1_method_27_code 52 = .ok (.iconst 1, 1) := by decide +kernel
theorem dP_areCondition_53 : decode prog_1_method_27_code 53 = .ok (.ireturn, 1) := by decide +kernel
theorem dP_areCondition_54 : decode prog_1_method_27_code 54 = .ok (.iload_n 2, 1) := by decide +kernel
theorem dP_areCondition_55 : decode prog_1_method_27_code 55 = .ok (.ifCond .lt 12, 3) := by decide +kernel
theorem dP_areCondition_58 : decode prog_1_method_27_code 58 = .ok (.iload_n 2, 1) := by decide +kernel
theorem dP_areCondition_59 : decode prog_1_method_27_code 59 = .ok (.iconst 2, 1) := by decide +kernel
theorem dP_areCondition_60 : decode prog_1_method_27_code 60 = .ok (.if_icmp .gt 7, 3) := by decide +kernel
theorem dP_areCondition_63 : decode prog_1_method_27_code 63 = .ok (.iconst 1, 1) := by decide +kernel
theorem dP_areCondition_64 : decode prog_1_method_27_code 64 = .ok (.goto 4, 3) := by decide +kernel
theorem dP_areCondition_67 : decode prog_1_method_27_code 67 = .ok (.iconst 0, 1) := by decide +kernel
theorem dP_areCondition_68 : decode prog_1_method_27_code 68 = .ok (.ireturn, 1) := by decide +kernel
theorem dP_areCondition_69 : decode prog_1_method_27_code 69 = .ok (.iload_n 2, 1) := by decide +kernel
theorem dP_areCondition_70 : decode prog_1_method_27_code 70 = .ok (.invokestatic 87, 3) := by decide +kernel
theorem dP_areCondition_73 : decode prog_1_method_27_code 73 = .ok (.ireturn, 1) := by decide +kernel
theorem dP_areCondition_74 : decode prog_1_method_27_code 74 = .ok (.aload_n 0, 1) := by decide +kernel
theorem dP_areCondition_75 : decode prog_1_method_27_code 75 = .ok (.iload_n 2, 1) := by decide +kernel
theorem dP_areCondition_76 : decode prog_1_method_27_code 76 = .ok (.invokevirtual 124, 3) := by decide +kernel
theorem dP_areCondition_79 : decode prog_1_method_27_code 79 = .ok (.ifnull 7, 3) := by decide +kernel
theorem dP_areCondition_82 : decode prog_1_method_27_code 82 = .ok (.iconst 1, 1) := by decide +kernel
theorem dP_areCondition_83 : decode prog_1_method_27_code 83 = .ok (.goto 4, 3) := by decide +kernel
theorem dP_areCondition_86 : decode prog_1_method_27_code 86 = .ok (.iconst 0, 1) := by decide +kernel
theorem dP_areCondition_87 : decode prog_1_method_27_code 87 = .ok (.ireturn, 1) := by decide +kernel
theorem dP_areCondition_88 : decode prog_1_method_27_code 88 = .ok (.iload_n 2, 1) := by decide +kernel
theorem dP_areCondition_89 : decode prog_1_method_27_code 89 = .ok (.iload_n 3, 1) := by decide +kernel
theorem dP_areCondition_90 : decode prog_1_method_27_code 90 = .ok (.invokestatic 116, 3) := by decide +kernel
theorem dP_areCondition_93 : decode prog_1_method_27_code 93 = .ok (.ifCond .eq 15, 3) := by decide +kernel
theorem dP_areCondition_96 : decode prog_1_method_27_code 96 = .ok (.iload 4, 2) := by decide +kernel
theorem dP_areCondition_98 : decode prog_1_method_27_code 98 = .ok (.invokestatic 326, 3) := by decide +kernel
theorem dP_areCondition_101 : decode prog_1_method_27_code 101 = .ok (.ifCond .eq 7, 3) := by decide +kernel
theorem dP_areCondition_104 : decode prog_1_method_27_code 104 = .ok (.iconst 1, 1) := by decide +kernel
theorem dP_areCondition_105 : decode prog_1_method_27_code 105 = .ok (.goto 4, 3) := by decide +kernel
theorem dP_areCondition_108 : decode prog_1_method_27_code 108 = .ok (.iconst 0, 1) := by decide +kernel
theorem dP_areCondition_109 : decode prog_1_method_27_code 109 = .ok (.ireturn, 1) := by decide +kernel
theorem dP_areCondition_110 : decode prog_1_method_27_code 110 = .ok (.iload_n 2, 1) := by decide +kernel
theorem dP_areCondition_111 : decode prog_1_method_27_code 111 = .ok (.invokestatic 326, 3) := by decide +kernel
theorem dP_areCondition_114 : decode prog_1_method_27_code 114 = .ok (.ireturn, 1) := by decide +kernel
theorem dP_areCondition_115 : decode prog_1_method_27_code 115 = .ok (.iconst 0, 1) := by decide +kernel
theorem dP_areCondition_116 : decode prog_1_method_27_code 116 = .ok (.ireturn, 1) := by decide +kernel
theorem dP_condition_0 : decode prog_1_method_10_code 0 = .ok (.aload_n 0, 1) := by decide +kernel
theorem dP_condition_1 : decode prog_1_method_10_code 1 = .ok (.iload_n 1, 1) := by decide +kernel
theorem dP_condition_2 : decode prog_1_method_10_code 2 = .ok (.iload_n 2, 1) := by decide +kernel
theorem dP_condition_3 : decode prog_1_method_10_code 3 = .ok (.iload_n 3, 1) := by decide +kernel
theorem dP_condition_4 : decode prog_1_method_10_code 4 = .ok (.iload 4, 2) := by decide +kernel
theorem dP_condition_6 : decode prog_1_method_10_code 6 = .ok (.invokevirtual 198, 3) := by decide +kernel
theorem dP_condition_9 : decode prog_1_method_10_code 9 = .ok (.ifCond .ne 13, 3) := by decide +kernel
theorem dP_condition_12 : decode prog_1_method_10_code 12 = .ok (.new 91, 3) := by decide +kernel
theorem dP_condition_15 : decode prog_1_method_10_code 15 = .ok (.dup, 1) := by decide +kernel
theorem dP_condition_16 : decode prog_1_method_10_code 16 = .ok (.ldc 202, 2) := by decide +kernel
theorem dP_condition_18 : decode prog_1_method_10_code 18 = .ok (.invokespecial 95, 3) := by decide +kernel
theorem dP_condition_21 : decode prog_1_method_10_code 21 = .ok (.athrow, 1) := by decide +kernel
theorem dP_condition_22 : decode prog_1_method_10_code 22 = .ok (.iload_n 1, 1) := by decide +kernel
theorem dP_condition_23 : decode prog_1_method_10_code 23 = .ok (.iconst 3, 1) := by decide +kernel
theorem dP_condition_24 : decode prog_1_method_10_code 24 = .ok (.if_icmp .gt 7, 3) := by decide +kernel
theorem dP_condition_27 : decode prog_1_method_10_code 27 = .ok (.iconst 1, 1) := by decide +kernel
theorem dP_condition_28 : decode prog_1_method_10_code 28 = .ok (.goto 4, 3) := by decide +kernel
theorem dP_condition_31 : decode prog_1_method_10_code 31 = .ok (.iconst 0, 1) := by decide +kernel
theorem dP_condition_32 : decode prog_1_method_10_code 32 = .ok (.istore 5, 2) := by decide +kernel
theorem dP_condition_34 : decode prog_1_method_10_code 34 = .ok (.iload 5, 2) := by decide +kernel
theorem dP_condition_36 : decode prog_1_method_10_code 36 = .ok (.ifCond .eq 20, 3) := by decide +kernel
theorem dP_condition_39 : decode prog_1_method_10_code 39 = .ok (.aload_n 0, 1) := by decide +kernel
theorem dP_condition_40 : decode prog_1_method_10_code 40 = .ok (.getfield 40, 3) := by decide +kernel
theorem dP_condition_43 : decode prog_1_method_10_code 43 = .ok (.ifCond .ne 13, 3) := by decide +kernel
theorem dP_condition_46 : decode prog_1_method_10_code 46 = .ok (.new 91, 3) := by decide +kernel
theorem dP_condition_49 : decode prog_1_method_10_code 49 = .ok (.dup, 1) := by decide +kernel
theorem dP_condition_50 : decode prog_1_method_10_code 50 = .ok (.ldc 204, 2) := by decide +kernel
theorem dP_condition_52 : decode prog_1_method_10_code 52 = .ok (.invokespecial 95, 3) := by decide +kernel
theorem dP_condition_55 : decode prog_1_method_10_code 55 = .ok (.athrow, 1) := by decide +kernel
theorem dP_condition_56 : decode prog_1_method_10_code 56 = .ok (.aload_n 0, 1) := by decide +kernel
theorem dP_condition_57 : decode prog_1_method_10_code 57 = .ok (.getfield 43, 3) := by decide +kernel
theorem dP_condition_60 : decode prog_1_method_10_code 60 = .ok (.invokevirtual 98, 3) := by decide +kernel
theorem dP_condition_63 : decode prog_1_method_10_code 63 = .ok (.iconst 5, 1) := by decide +kernel
theorem dP_condition_64 : decode prog_1_method_10_code 64 = .ok (.if_icmp .lt 13, 3) := by decide +kernel
theorem dP_condition_67 : decode prog_1_method_10_code 67 = .ok (.new 102, 3) := by decide +kernel
theorem dP_condition_70 : decode prog_1_method_10_code 70 = .ok (.dup, 1) := by decide +kernel
theorem dP_condition_71 : decode prog_1_method_10_code 71 = .ok (.ldc 206, 2) := by decide +kernel
theorem dP_condition_73 : decode prog_1_method_10_code 73 = .ok (.invokespecial 106, 3) := by decide +kernel
theorem dP_condition_76 : decode prog_1_method_10_code 76 = .ok (.athrow, 1) := by decide +kernel
theorem dP_condition_77 : decode prog_1_method_10_code 77 = .ok (.aload_n 0, 1) := by decide +kernel
theorem dP_condition_78 : decode prog_1_method_10_code 78 = .ok (.getfield 43, 3) := by decide +kernel
theorem dP_condition_81 : decode prog_1_method_10_code 81 = .ok (.new 73, 3) := by decide +kernel
theorem dP_condition_84 : decode prog_1_method_10_code 84 = .ok (.dup, 1) := by decide +kernel
theorem dP_condition_85 : decode prog_1_method_10_code 85 = .ok (.iload_n 1, 1) := by decide +kernel
theorem dP_condition_86 : decode prog_1_method_10_code 86 = .ok (.iload_n 2, 1) := by decide +kernel
theorem dP_condition_87 : decode prog_1_method_10_code 87 = .ok (.iload_n 3, 1) := by decide +kernel
theorem dP_condition_88 : decode prog_1_method_10_code 88 = .ok (.iload 4, 2) := by decide +kernel
theorem dP_condition_90 : decode prog_1_method_10_code 90 = .ok (.new 75, 3) := by decide +kernel
theorem dP_condition_93 : decode prog_1_method_10_code 93 = .ok (.dup, 1) := by decide +kernel
theorem dP_condition_94 : decode prog_1_method_10_code 94 = .ok (.aload_n 0, 1) := by decide +kernel
theorem dP_condition_95 : decode prog_1_method_10_code 95 = .ok (.getfield 36, 3) := by decide +kernel
theorem dP_condition_98 : decode prog_1_method_10_code 98 = .ok (.iload 5, 2) := by decide +kernel
theorem dP_condition_100 : decode prog_1_method_10_code 100 = .ok (.ifCond .eq 10, 3) := by decide +kernel
theorem dP_condition_103 : decode prog_1_method_10_code 103 = .ok (.aload_n 0, 1) := by decide +kernel
theorem dP_condition_104 : decode prog_1_method_10_code 104 = .ok (.getfield 40, 3) := by decide +kernel
theorem dP_condition_107 : decode prog_1_method_10_code 107 = .ok (.goto 4, 3) := by decide +kernel
theorem dP_condition_110 : decode prog_1_method_10_code 110 = .ok (.iconst 0, 1) := by decide +kernel
theorem dP_condition_111 : decode prog_1_method_10_code 111 = .ok (.invokespecial 77, 3) := by decide +kernel
theorem dP_condition_114 : decode prog_1_method_10_code 114 = .ok (.invokespecial 80, 3) := by decide +kernel
theorem dP_condition_117 : decode prog_1_method_10_code 117 = .ok (.invokevirtual 112, 3) := by decide +kernel
theorem dP_condition_120 : decode prog_1_method_10_code 120 = .ok (.pop, 1) := by decide +kernel
theorem dP_condition_121 : decode prog_1_method_10_code 121 = .ok (.iload 5, 2) := by decide +kernel
theorem dP_condition_123 : decode prog_1_method_10_code 123 = .ok (.ifCond .eq 8, 3) := by decide +kernel
theorem dP_condition_126 : decode prog_1_method_10_code 126 = .ok (.aload_n 0, 1) := by decide +kernel
theorem dP_condition_127 : decode prog_1_method_10_code 127 = .ok (.iconst 0, 1) := by decide +kernel
theorem dP_condition_128 : decode prog_1_method_10_code 128 = .ok (.putfield 40, 3) := by decide +kernel
theorem dP_condition_131 : decode prog_1_method_10_code 131 = .ok (.aload_n 0, 1) := by decide +kernel
theorem dP_condition_132 : decode prog_1_method_10_code 132 = .ok (.getfield 43, 3) := by decide +kernel
theorem dP_condition_135 : decode prog_1_method_10_code 135 = .ok (.invokevirtual 98, 3) := by decide +kernel
theorem dP_condition_138 : decode prog_1_method_10_code 138 = .ok (.ireturn, 1) := by decide +kernel
theorem dAl_clear_0 : decode prog_33_method_40_code 0 = .ok (.aload_n 0, 1) := by decide +kernel
theorem dAl_clear_1 : decode prog_33_method_40_code 1 = .ok (.dup, 1) := by decide +kernel
theorem dAl_clear_2 : decode prog_33_method_40_code 2 = .ok (.getfield 63, 3) := by decide +kernel
theorem dAl_clear_5 : decode prog_33_method_40_code 5 = .ok (.iconst 1, 1) := by decide +kernel
theorem dAl_clear_6 : decode prog_33_method_40_code 6 = .ok (.iadd, 1) := by decide +kernel
theorem dAl_clear_7 : decode prog_33_method_40_code 7 = .ok (.putfield 63, 3) := by decide +kernel
theorem dAl_clear_10 : decode prog_33_method_40_code 10 = .ok (.aload_n 0, 1) := by decide +kernel
theorem dAl_clear_11 : decode prog_33_method_40_code 11 = .ok (.getfield 9, 3) := by decide +kernel
theorem dAl_clear_14 : decode prog_33_method_40_code 14 = .ok (.astore_n 1, 1) := by decide +kernel
theorem dAl_clear_15 : decode prog_33_method_40_code 15 = .ok (.aload_n 0, 1) := by decide +kernel
theorem dAl_clear_16 : decode prog_33_method_40_code 16 = .ok (.getfield 48, 3) := by decide +kernel
theorem dAl_clear_19 : decode prog_33_method_40_code 19 = .ok (.istore_n 2, 1) := by decide +kernel
theorem dAl_clear_20 : decode prog_33_method_40_code 20 = .ok (.aload_n 0, 1) := by decide +kernel
theorem dAl_clear_21 : decode prog_33_method_40_code 21 = .ok (.iconst 0, 1) := by decide +kernel
theorem dAl_clear_22 : decode prog_33_method_40_code 22 = .ok (.dup_x1, 1) := by decide +kernel
theorem dAl_clear_23 : decode prog_33_method_40_code 23 = .ok (.putfield 48, 3) := by decide +kernel
theorem dAl_clear_26 : decode prog_33_method_40_code 26 = .ok (.istore_n 3, 1) := by decide +kernel
theorem dAl_clear_27 : decode prog_33_method_40_code 27 = .ok (.iload_n 3, 1) := by decide +kernel
theorem dAl_clear_28 : decode prog_33_method_40_code 28 = .ok (.iload_n 2, 1) := by decide +kernel
theorem dAl_clear_29 : decode prog_33_method_40_code 29 = .ok (.if_icmp .ge 13, 3) := by decide +kernel
theorem dAl_clear_32 : decode prog_33_method_40_code 32 = .ok (.aload_n 1, 1) := by decide +kernel
theorem dAl_clear_33 : decode prog_33_method_40_code 33 = .ok (.iload_n 3, 1) := by decide +kernel
theorem dAl_clear_34 : decode prog_33_method_40_code 34 = .ok (.aconst_null, 1) := by decide +kernel
theorem dAl_clear_35 : decode prog_33_method_40_code 35 = .ok (.aastore, 1) := by decide +kernel
theorem dAl_clear_36 : decode prog_33_method_40_code 36 = .ok (.iinc 3 1, 3) := by decide +kernel
theorem dAl_clear_39 : decode prog_33_method_40_code 39 = .ok (.goto (-12), 3) := by decide +kernel
theorem dAl_clear_42 : decode prog_33_method_40_code 42 = .ok (.return_, 1) := by decide +kernel
theorem dP_clear_0 : decode prog_1_method_11_code 0 = .ok (.aload_n 0, 1) := by decide +kernel
theorem dP_clear_1 : decode prog_1_method_11_code 1 = .ok (.getfield 43, 3) := by decide +kernel
theorem dP_clear_4 : decode prog_1_method_11_code 4 = .ok (.invokevirtual 208, 3) := by decide +kernel
theorem dP_clear_7 : decode prog_1_method_11_code 7 = .ok (.return_, 1) := by decide +kernel
theorem dP_firstNameCondition_0 : decode prog_1_method_37_code 0 = .ok (.iconst 0, 1) := by decide +kernel
theorem dP_firstNameCondition_1 : decode prog_1_method_37_code 1 = .ok (.istore_n 1, 1) := by decide +kernel
theorem dP_firstNameCondition_2 : decode prog_1_method_37_code 2 = .ok (.iload_n 1, 1) := by decide +kernel
theorem dP_firstNameCondition_3 : decode prog_1_method_37_code 3 = .ok (.aload_n 0, 1) := by decide +kernel
theorem dP_firstNameCondition_4 : decode prog_1_method_37_code 4 = .ok (.getfield 43, 3) := by decide +kernel
theorem dP_firstNameCondition_7 : decode prog_1_method_37_code 7 = .ok (.invokevirtual 98, 3) := by decide +kernel
theorem dP_firstNameCondition_10 : decode prog_1_method_37_code 10 = .ok (.if_icmp .ge 39, 3) := by decide +kernel
theorem dP_firstNameCondition_13 : decode prog_1_method_37_code 13 = .ok (.aload_n 0, 1) := by decide +kernel
theorem dP_firstNameCondition_14 : decode prog_1_method_37_code 14 = .ok (.getfield 43, 3) := by decide +kernel
theorem dP_firstNameCondition_17 : decode prog_1_method_37_code 17 = .ok (.iload_n 1, 1) := by decide +kernel
theorem dP_firstNameCondition_18 : decode prog_1_method_37_code 18 = .ok (.invokevirtual 223, 3) := by decide +kernel
theorem dP_firstNameCondition_21 : decode prog_1_method_37_code 21 = .ok (.checkcast 73, 3) := by decide +kernel
theorem dP_firstNameCondition_24 : decode prog_1_method_37_code 24 = .ok (.getfield 352, 3) := by decide +kernel
theorem dP_firstNameCondition_27 : decode prog_1_method_37_code 27 = .ok (.iconst 3, 1) := by decide +kernel
theorem dP_firstNameCondition_28 : decode prog_1_method_37_code 28 = .ok (.if_icmp .gt 15, 3) := by decide +kernel
theorem dP_firstNameCondition_31 : decode prog_1_method_37_code 31 = .ok (.aload_n 0, 1) := by decide +kernel
theorem dP_firstNameCondition_32 : decode prog_1_method_37_code 32 = .ok (.getfield 43, 3) := by decide +kernel
theorem dP_firstNameCondition_35 : decode prog_1_method_37_code 35 = .ok (.iload_n 1, 1) := by decide +kernel
theorem dP_firstNameCondition_36 : decode prog_1_method_37_code 36 = .ok (.invokevirtual 223, 3) := by decide +kernel
theorem dP_firstNameCondition_39 : decode prog_1_method_37_code 39 = .ok (.checkcast 73, 3) := by decide +kernel
theorem dP_firstNameCondition_42 : decode prog_1_method_37_code 42 = .ok (.areturn, 1) := by decide +kernel
theorem dP_firstNameCondition_43 : decode prog_1_method_37_code 43 = .ok (.iinc 1 1, 3) := by decide +kernel
theorem dP_firstNameCondition_46 : decode prog_1_method_37_code 46 = .ok (.goto (-44), 3) := by decide +kernel
theorem dP_firstNameCondition_49 : decode prog_1_method_37_code 49 = .ok (.aload_n 0, 1) := by decide +kernel
theorem dP_firstNameCondition_50 : decode prog_1_method_37_code 50 = .ok (.getfield 83, 3) := by decide +kernel
theorem dP_firstNameCondition_53 : decode prog_1_method_37_code 53 = .ok (.areturn, 1) := by decide +kernel
theorem dP_firstAround_0 : decode prog_1_method_38_code 0 = .ok (.iconst 0, 1) := by decide +kernel
theorem dP_firstAround_1 : decode prog_1_method_38_code 1 = .ok (.istore_n 1, 1) := by decide +kernel
theorem dP_firstAround_2 : decode prog_1_method_38_code 2 = .ok (.iload_n 1, 1) := by decide +kernel
theorem dP_firstAround_3 : decode prog_1_method_38_code 3 = .ok (.aload_n 0, 1) := by decide +kernel
theorem dP_firstAround_4 : decode prog_1_method_38_code 4 = .ok (.getfield 43, 3) := by decide +kernel
theorem dP_firstAround_7 : decode prog_1_method_38_code 7 = .ok (.invokevirtual 98, 3) := by decide +kernel
theorem dP_firstAround_10 : decode prog_1_method_38_code 10 = .ok (.if_icmp .ge 40, 3) := by decide +kernel
theorem dP_firstAround_13 : decode prog_1_method_38_code 13 = .ok (.aload_n 0, 1) := by decide +kernel
theorem dP_firstAround_14 : decode prog_1_method_38_code 14 = .ok (.getfield 43, 3) := by decide +kernel
theorem dP_firstAround_17 : decode prog_1_method_38_code 17 = .ok (.iload_n 1, 1) := by decide +kernel
theorem dP_firstAround_18 : decode prog_1_method_38_code 18 = .ok (.invokevirtual 223, 3) := by decide +kernel
theorem dP_firstAround_21 : decode prog_1_method_38_code 21 = .ok (.checkcast 73, 3) := by decide +kernel
theorem dP_firstAround_24 : decode prog_1_method_38_code 24 = .ok (.getfield 352, 3) := by decide +kernel
theorem dP_firstAround_27 : decode prog_1_method_38_code 27 = .ok (.bipush 7, 2) := by decide +kernel
theorem dP_firstAround_29 : decode prog_1_method_38_code 29 = .ok (.if_icmp .ne 15, 3) := by decide +kernel
theorem dP_firstAround_32 : decode prog_1_method_38_code 32 = .ok (.aload_n 0, 1) := by decide +kernel
theorem dP_firstAround_33 : decode prog_1_method_38_code 33 = .ok (.getfield 43, 3) := by decide +kernel
theorem dP_firstAround_36 : decode prog_1_method_38_code 36 = .ok (.iload_n 1, 1) := by decide +kernel
theorem dP_firstAround_37 : decode prog_1_method_38_code 37 = .ok (.invokevirtual 223, 3) := by decide +kernel
theorem dP_firstAround_40 : decode prog_1_method_38_code 40 = .ok (.checkcast 73, 3) := by decide +kernel
theorem dP_firstAround_43 : decode prog_1_method_38_code 43 = .ok (.areturn, 1) := by decide +kernel
theorem dP_firstAround_44 : decode prog_1_method_38_code 44 = .ok (.iinc 1 1, 3) := by decide +kernel
theorem dP_firstAround_47 : decode prog_1_method_38_code 47 = .ok (.goto (-45), 3) := by decide +kernel
theorem dP_firstAround_50 : decode prog_1_method_38_code 50 = .ok (.aconst_null, 1) := by decide +kernel
theorem dP_firstAround_51 : decode prog_1_method_38_code 51 = .ok (.areturn, 1) := by decide +kernel
theorem dHi_empty_0 : decode prog_5_method_2_code 0 = .ok (.aload_n 0, 1) := by decide +kernel
theorem dHi_empty_1 : decode prog_5_method_2_code 1 = .ok (.iconst 0, 1) := by decide +kernel
theorem dHi_empty_2 : decode prog_5_method_2_code 2 = .ok (.putfield 19, 3) := by decide +kernel
theorem dHi_empty_5 : decode prog_5_method_2_code 5 = .ok (.return_, 1) := by decide +kernel
theorem dPl_shapeOn_0 : decode prog_8_method_4_code 0 = .ok (.aconst_null, 1) := by decide +kernel
theorem dPl_shapeOn_1 : decode prog_8_method_4_code 1 = .ok (.astore_n 2, 1) := by decide +kernel
theorem dPl_shapeOn_2 : decode prog_8_method_4_code 2 = .ok (.iconst 0, 1) := by decide +kernel
theorem dPl_shapeOn_3 : decode prog_8_method_4_code 3 = .ok (.istore_n 3, 1) := by decide +kernel
theorem dPl_shapeOn_4 : decode prog_8_method_4_code 4 = .ok (.iload_n 3, 1) := by decide +kernel
theorem dPl_shapeOn_5 : decode prog_8_method_4_code 5 = .ok (.aload_n 0, 1) := by decide +kernel
theorem dPl_shapeOn_6 : decode prog_8_method_4_code 6 = .ok (.getfield 18, 3) := by decide +kernel
theorem dPl_shapeOn_9 : decode prog_8_method_4_code 9 = .ok (.invokevirtual 38, 3) := by decide +kernel
theorem dPl_shapeOn_12 : decode prog_8_method_4_code 12 = .ok (.if_icmp .ge 31, 3) := by decide +kernel
theorem dPl_shapeOn_15 : decode prog_8_method_4_code 15 = .ok (.aload_n 0, 1) := by decide +kernel
theorem dPl_shapeOn_16 : decode prog_8_method_4_code 16 = .ok (.getfield 22, 3) := by decide +kernel
theorem dPl_shapeOn_19 : decode prog_8_method_4_code 19 = .ok (.iload_n 3, 1) := by decide +kernel
theorem dPl_shapeOn_20 : decode prog_8_method_4_code 20 = .ok (.iaload, 1) := by decide +kernel
theorem dPl_shapeOn_21 : decode prog_8_method_4_code 21 = .ok (.iload_n 1, 1) := by decide +kernel
theorem dPl_shapeOn_22 : decode prog_8_method_4_code 22 = .ok (.if_icmp .gt 15, 3) := by decide +kernel
theorem dPl_shapeOn_25 : decode prog_8_method_4_code 25 = .ok (.aload_n 0, 1) := by decide +kernel
theorem dPl_shapeOn_26 : decode prog_8_method_4_code 26 = .ok (.getfield 18, 3) := by decide +kernel
theorem dPl_shapeOn_29 : decode prog_8_method_4_code 29 = .ok (.iload_n 3, 1) := by decide +kernel
theorem dPl_shapeOn_30 : decode prog_8_method_4_code 30 = .ok (.invokevirtual 46, 3) := by decide +kernel
theorem dPl_shapeOn_33 : decode prog_8_method_4_code 33 = .ok (.checkcast 50, 3) := by decide +kernel
theorem dPl_shapeOn_36 : decode prog_8_method_4_code 36 = .ok (.astore_n 2, 1) := by decide +kernel
theorem dPl_shapeOn_37 : decode prog_8_method_4_code 37 = .ok (.iinc 3 1, 3) := by decide +kernel
theorem dPl_shapeOn_40 : decode prog_8_method_4_code 40 = .ok (.goto (-36), 3) := by decide +kernel
theorem dPl_shapeOn_43 : decode prog_8_method_4_code 43 = .ok (.aload_n 2, 1) := by decide +kernel
theorem dPl_shapeOn_44 : decode prog_8_method_4_code 44 = .ok (.areturn, 1) := by decide +kernel
theorem dCo_isInBox_0 : decode prog_3_method_10_code 0 = .ok (.iload_n 3, 1) := by decide +kernel
theorem dCo_isInBox_1 : decode prog_3_method_10_code 1 = .ok (.aload_n 0, 1) := by decide +kernel
theorem dCo_isInBox_2 : decode prog_3_method_10_code 2 = .ok (.getfield 21, 3) := by decide +kernel
theorem dCo_isInBox_5 : decode prog_3_method_10_code 5 = .ok (.iload_n 1, 1) := by decide +kernel
theorem dCo_isInBox_6 : decode prog_3_method_10_code 6 = .ok (.iaload, 1) := by decide +kernel
theorem dCo_isInBox_7 : decode prog_3_method_10_code 7 = .ok (.aload_n 0, 1) := by decide +kernel
theorem dCo_isInBox_8 : decode prog_3_method_10_code 8 = .ok (.getfield 21, 3) := by decide +kernel
theorem dCo_isInBox_11 : decode prog_3_method_10_code 11 = .ok (.iload_n 2, 1) := by decide +kernel
theorem dCo_isInBox_12 : decode prog_3_method_10_code 12 = .ok (.iaload, 1) := by decide +kernel
theorem dCo_isInBox_13 : decode prog_3_method_10_code 13 = .ok (.invokestatic 41, 3) := by decide +kernel
theorem dCo_isInBox_16 : decode prog_3_method_10_code 16 = .ok (.if_icmp .lt 66, 3) := by decide +kernel
theorem dCo_isInBox_19 : decode prog_3_method_10_code 19 = .ok (.iload_n 3, 1) := by decide +kernel
theorem dCo_isInBox_20 : decode prog_3_method_10_code 20 = .ok (.aload_n 0, 1) := by decide +kernel
theorem dCo_isInBox_21 : decode prog_3_method_10_code 21 = .ok (.getfield 21, 3) := by decide +kernel
theorem dCo_isInBox_24 : decode prog_3_method_10_code 24 = .ok (.iload_n 1, 1) := by decide +kernel
theorem dCo_isInBox_25 : decode prog_3_method_10_code 25 = .ok (.iaload, 1) := by decide +kernel
theorem dCo_isInBox_26 : decode prog_3_method_10_code 26 = .ok (.aload_n 0, 1) := by decide +kernel
theorem dCo_isInBox_27 : decode prog_3_method_10_code 27 = .ok (.getfield 21, 3) := by decide +kernel
theorem dCo_isInBox_30 : decode prog_3_method_10_code 30 = .ok (.iload_n 2, 1) := by decide +kernel
theorem dCo_isInBox_31 : decode prog_3_method_10_code 31 = .ok (.iaload, 1) := by decide +kernel
theorem dCo_isInBox_32 : decode prog_3_method_10_code 32 = .ok (.invokestatic 55, 3) := by decide +kernel
theorem dCo_isInBox_35 : decode prog_3_method_10_code 35 = .ok (.if_icmp .gt 47, 3) := by decide +kernel
theorem dCo_isInBox_38 : decode prog_3_method_10_code 38 = .ok (.iload 4, 2) := by decide +kernel
theorem dCo_isInBox_40 : decode prog_3_method_10_code 40 = .ok (.aload_n 0, 1) := by decide +kernel
theorem dCo_isInBox_41 : decode prog_3_method_10_code 41 = .ok (.getfield 25, 3) := by decide +kernel
theorem dCo_isInBox_44 : decode prog_3_method_10_code 44 = .ok (.iload_n 1, 1) := by decide +kernel
theorem dCo_isInBox_45 : decode prog_3_method_10_code 45 = .ok (.iaload, 1) := by decide +kernel
theorem dCo_isInBox_46 : decode prog_3_method_10_code 46 = .ok (.aload_n 0, 1) := by decide +kernel
theorem dCo_isInBox_47 : decode prog_3_method_10_code 47 = .ok (.getfield 25, 3) := by decide +kernel
theorem dCo_isInBox_50 : decode prog_3_method_10_code 50 = .ok (.iload_n 2, 1) := by decide +kernel
theorem dCo_isInBox_51 : decode prog_3_method_10_code 51 = .ok (.iaload, 1) := by decide +kernel
theorem dCo_isInBox_52 : decode prog_3_method_10_code 52 = .ok (.invokestatic 41, 3) := by decide +kernel
theorem dCo_isInBox_55 : decode prog_3_method_10_code 55 = .ok (.if_icmp .lt 27, 3) := by decide +kernel
theorem dCo_isInBox_58 : decode prog_3_method_10_code 58 = .ok (.iload 4, 2) := by decide +kernel
theorem dCo_isInBox_60 : decode prog_3_method_10_code 60 = .ok (.aload_n 0, 1) := by decide +kernel
theorem dCo_isInBox_61 : decode prog_3_method_10_code 61 = .ok (.getfield 25, 3) := by decide +kernel
theorem dCo_isInBox_64 : decode prog_3_method_10_code 64 = .ok (.iload_n 1, 1) := by decide +kernel
theorem dCo_isInBox_65 : decode prog_3_method_10_code 65 = .ok (.iaload, 1) := by decide +kernel
theorem dCo_isInBox_66 : decode prog_3_method_10_code 66 = .ok (.aload_n 0, 1) := by decide +kernel
theorem dCo_isInBox_67 : decode prog_3_method_10_code 67 = .ok (.getfield 25, 3) := by decide +kernel
theorem dCo_isInBox_70 : decode prog_3_method_10_code 70 = .ok (.iload_n 2, 1) := by decide +kernel
theorem dCo_isInBox_71 : decode prog_3_method_10_code 71 = .ok (.iaload, 1) := by decide +kernel
theorem dCo_isInBox_72 : decode prog_3_method_10_code 72 = .ok (.invokestatic 55, 3) := by decide +kernel
theorem dCo_isInBox_75 : decode prog_3_method_10_code 75 = .ok (.if_icmp .gt 7, 3) := by decide +kernel
theorem dCo_isInBox_78 : decode prog_3_method_10_code 78 = .ok (.iconst 1, 1) := by decide +kernel
theorem dCo_isInBox_79 : decode prog_3_method_10_code 79 = .ok (.goto 4, 3) := by decide +kernel
theorem dCo_isInBox_82 : decode prog_3_method_10_code 82 = .ok (.iconst 0, 1) := by decide +kernel
theorem dCo_isInBox_83 : decode prog_3_method_10_code 83 = .ok (.ireturn, 1) := by decide +kernel
theorem dCo_hasInside_0 : decode prog_3_method_9_code 0 = .ok (.iconst 0, 1) := by decide +kernel
theorem dCo_hasInside_1 : decode prog_3_method_9_code 1 = .ok (.istore_n 3, 1) := by decide +kernel
theorem dCo_hasInside_2 : decode prog_3_method_9_code 2 = .ok (.iconst 0, 1) := by decide +kernel
theorem dCo_hasInside_3 : decode prog_3_method_9_code 3 = .ok (.istore 4, 2) := by decide +kernel
theorem dCo_hasInside_5 : decode prog_3_method_9_code 5 = .ok (.iload 4, 2) := by decide +kernel
theorem dCo_hasInside_7 : decode prog_3_method_9_code 7 = .ok (.aload_n 0, 1) := by decide +kernel
theorem dCo_hasInside_8 : decode prog_3_method_9_code 8 = .ok (.getfield 9, 3) := by decide +kernel
theorem dCo_hasInside_11 : decode prog_3_method_9_code 11 = .ok (.if_icmp .ge 174, 3) := by decide +kernel
theorem dCo_hasInside_14 : decode prog_3_method_9_code 14 = .ok (.aload_n 0, 1) := by decide +kernel
theorem dCo_hasInside_15 : decode prog_3_method_9_code 15 = .ok (.iload 4, 2) := by decide +kernel
theorem dCo_hasInside_17 : decode prog_3_method_9_code 17 = .ok (.invokevirtual 32, 3) := by decide +kernel
theorem dCo_hasInside_20 : decode prog_3_method_9_code 20 = .ok (.istore 5, 2) := by decide +kernel
theorem dCo_hasInside_22 : decode prog_3_method_9_code 22 = .ok (.aload_n 0, 1) := by decide +kernel
theorem dCo_hasInside_23 : decode prog_3_method_9_code 23 = .ok (.getfield 21, 3) := by decide +kernel
theorem dCo_hasInside_26 : decode prog_3_method_9_code 26 = .ok (.iload 4, 2) := by decide +kernel
theorem dCo_hasInside_28 : decode prog_3_method_9_code 28 = .ok (.iaload, 1) := by decide +kernel
theorem dCo_hasInside_29 : decode prog_3_method_9_code 29 = .ok (.iload_n 1, 1) := by decide +kernel
theorem dCo_hasInside_30 : decode prog_3_method_9_code 30 = .ok (.isub, 1) := by decide +kernel
theorem dCo_hasInside_31 : decode prog_3_method_9_code 31 = .ok (.aload_n 0, 1) := by decide +kernel
theorem dCo_hasInside_32 : decode prog_3_method_9_code 32 = .ok (.getfield 25, 3) := by decide +kernel
theorem dCo_hasInside_35 : decode prog_3_method_9_code 35 = .ok (.iload 5, 2) := by decide +kernel
theorem dCo_hasInside_37 : decode prog_3_method_9_code 37 = .ok (.iaload, 1) := by decide +kernel
theorem dCo_hasInside_38 : decode prog_3_method_9_code 38 = .ok (.aload_n 0, 1) := by decide +kernel
theorem dCo_hasInside_39 : decode prog_3_method_9_code 39 = .ok (.getfield 25, 3) := by decide +kernel
theorem dCo_hasInside_42 : decode prog_3_method_9_code 42 = .ok (.iload 4, 2) := by decide +kernel
theorem dCo_hasInside_44 : decode prog_3_method_9_code 44 = .ok (.iaload, 1) := by decide +kernel
theorem dCo_hasInside_45 : decode prog_3_method_9_code 45 = .ok (.isub, 1) := by decide +kernel
theorem dCo_hasInside_46 : decode prog_3_method_9_code 46 = .ok (.imul, 1) := by decide +kernel
theorem dCo_hasInside_47 : decode prog_3_method_9_code 47 = .ok (.iload_n 2, 1) := by decide +kernel
theorem dCo_hasInside_48 : decode prog_3_method_9_code 48 = .ok (.aload_n 0, 1) := by decide +kernel
theorem dCo_hasInside_49 : decode prog_3_method_9_code 49 = .ok (.getfield 25, 3) := by decide +kernel
theorem dCo_hasInside_52 : decode prog_3_method_9_code 52 = .ok (.iload 4, 2) := by decide +kernel
theorem dCo_hasInside_54 : decode prog_3_method_9_code 54 = .ok (.iaload, 1) := by decide +kernel
theorem dCo_hasInside_55 : decode prog_3_method_9_code 55 = .ok (.isub, 1) := by decide +kernel
theorem dCo_hasInside_56 : decode prog_3_method_9_code 56 = .ok (.aload_n 0, 1) := by decide +kernel
theorem dCo_hasInside_57 : decode prog_3_method_9_code 57 = .ok (.getfield 21, 3) := by decide +kernel
theorem dCo_hasInside_60 : decode prog_3_method_9_code 60 = .ok (.iload 5, 2) := by decide +kernel
theorem dCo_hasInside_62 : decode prog_3_method_9_code 62 = .ok (.iaload, 1) := by decide +kernel
theorem dCo_hasInside_63 : decode prog_3_method_9_code 63 = .ok (.aload_n 0, 1) := by decide +kernel
theorem dCo_hasInside_64 : decode prog_3_method_9_code 64 = .ok (.getfield 21, 3) := by decide +kernel
theorem dCo_hasInside_67 : decode prog_3_method_9_code 67 = .ok (.iload 4, 2) := by decide +kernel
theorem dCo_hasInside_69 : decode prog_3_method_9_code 69 = .ok (.iaload, 1) := by decide +kernel
theorem dCo_hasInside_70 : decode prog_3_method_9_code 70 = .ok (.isub, 1) := by decide +kernel
theorem dCo_hasInside_71 : decode prog_3_method_9_code 71 = .ok (.imul, 1) := by decide +kernel
theorem dCo_hasInside_72 : decode prog_3_method_9_code 72 = .ok (.iadd, 1) := by decide +kernel
theorem dCo_hasInside_73 : decode prog_3_method_9_code 73 = .ok (.istore 6, 2) := by decide +kernel
theorem dCo_hasInside_75 : decode prog_3_method_9_code 75 = .ok (.iload 6, 2) := by decide +kernel
theorem dCo_hasInside_77 : decode prog_3_method_9_code 77 = .ok (.ifCond .ne 18, 3) := by decide +kernel
theorem dCo_hasInside_80 : decode prog_3_method_9_code 80 = .ok (.aload_n 0, 1) := by decide +kernel
theorem dCo_hasInside_81 : decode prog_3_method_9_code 81 = .ok (.iload 4, 2) := by decide +kernel
theorem dCo_hasInside_83 : decode prog_3_method_9_code 83 = .ok (.iload 5, 2) := by decide +kernel
theorem dCo_hasInside_85 : decode prog_3_method_9_code 85 = .ok (.iload_n 1, 1) := by decide +kernel
theorem dCo_hasInside_86 : decode prog_3_method_9_code 86 = .ok (.iload_n 2, 1) := by decide +kernel
theorem dCo_hasInside_87 : decode prog_3_method_9_code 87 = .ok (.invokevirtual 51, 3) := by decide +kernel
theorem dCo_hasInside_90 : decode prog_3_method_9_code 90 = .ok (.ifCond .eq 5, 3) := by decide +kernel
theorem dCo_hasInside_93 : decode prog_3_method_9_code 93 = .ok (.iconst 1, 1) := by decide +kernel
theorem dCo_hasInside_94 : decode prog_3_method_9_code 94 = .ok (.ireturn, 1) := by decide +kernel
theorem dCo_hasInside_95 : decode prog_3_method_9_code 95 = .ok (.aload_n 0, 1) := by decide +kernel
theorem dCo_hasInside_96 : decode prog_3_method_9_code 96 = .ok (.getfield 25, 3) := by decide +kernel
theorem dCo_hasInside_99 : decode prog_3_method_9_code 99 = .ok (.iload 5, 2) := by decide +kernel
theorem dCo_hasInside_101 : decode prog_3_method_9_code 101 = .ok (.iaload, 1) := by decide +kernel
theorem dCo_hasInside_102 : decode prog_3_method_9_code 102 = .ok (.aload_n 0, 1) := by decide +kernel
theorem dCo_hasInside_103 : decode prog_3_method_9_code 103 = .ok (.getfield 25, 3) := by decide +kernel
theorem dCo_hasInside_106 : decode prog_3_method_9_code 106 = .ok (.iload 4, 2) := by decide +kernel
theorem dCo_hasInside_108 : decode prog_3_method_9_code 108 = .ok (.iaload, 1) := by decide +kernel
theorem dCo_hasInside_109 : decode prog_3_method_9_code 109 = .ok (.if_icmp .le 7, 3) := by decide +kernel
theorem dCo_hasInside_112 : decode prog_3_method_9_code 112 = .ok (.iconst 1, 1) := by decide +kernel
theorem dCo_hasInside_113 : decode prog_3_method_9_code 113 = .ok (.goto 4, 3) := by decide +kernel
theorem dCo_hasInside_116 : decode prog_3_method_9_code 116 = .ok (.iconst 0, 1) := by decide +kernel
theorem dCo_hasInside_117 : decode prog_3_method_9_code 117 = .ok (.istore 7, 2) := by decide +kernel
theorem dCo_hasInside_119 : decode prog_3_method_9_code 119 = .ok (.aload_n 0, 1) := by decide +kernel
theorem dCo_hasInside_120 : decode prog_3_method_9_code 120 = .ok (.getfield 25, 3) := by decide +kernel
theorem dCo_hasInside_123 : decode prog_3_method_9_code 123 = .ok (.iload 4, 2) := by decide +kernel
theorem dCo_hasInside_125 : decode prog_3_method_9_code 125 = .ok (.iaload, 1) := by decide +kernel
theorem dCo_hasInside_126 : decode prog_3_method_9_code 126 = .ok (.iload_n 2, 1) := by decide +kernel
theorem dCo_hasInside_127 : decode prog_3_method_9_code 127 = .ok (.if_icmp .le 7, 3) := by decide +kernel
theorem dCo_hasInside_130 : decode prog_3_method_9_code 130 = .ok (.iconst 1, 1) := by decide +kernel
theorem dCo_hasInside_131 : decode prog_3_method_9_code 131 = .ok (.goto 4, 3) := by decide +kernel
theorem dCo_hasInside_134 : decode prog_3_method_9_code 134 = .ok (.iconst 0, 1) := by decide +kernel
theorem dCo_hasInside_135 : decode prog_3_method_9_code 135 = .ok (.aload_n 0, 1) := by decide +kernel
theorem dCo_hasInside_136 : decode prog_3_method_9_code 136 = .ok (.getfield 25, 3) := by decide +kernel
theorem dCo_hasInside_139 : decode prog_3_method_9_code 139 = .ok (.iload 5, 2) := by decide +kernel
theorem dCo_hasInside_141 : decode prog_3_method_9_code 141 = .ok (.iaload, 1) := by decide +kernel
theorem dCo_hasInside_142 : decode prog_3_method_9_code 142 = .ok (.iload_n 2, 1) := by decide +kernel
theorem dCo_hasInside_143 : decode prog_3_method_9_code 143 = .ok (.if_icmp .le 7, 3) := by decide +kernel
theorem dCo_hasInside_146 : decode prog_3_method_9_code 146 = .ok (.iconst 1, 1) := by decide +kernel
theorem dCo_hasInside_147 : decode prog_3_method_9_code 147 = .ok (.goto 4, 3) := by decide +kernel
theorem dCo_hasInside_150 : decode prog_3_method_9_code 150 = .ok (.iconst 0, 1) := by decide +kernel
theorem dCo_hasInside_151 : decode prog_3_method_9_code 151 = .ok (.if_icmp .eq 28, 3) := by decide +kernel
theorem dCo_hasInside_154 : decode prog_3_method_9_code 154 = .ok (.iload 6, 2) := by decide +kernel
theorem dCo_hasInside_156 : decode prog_3_method_9_code 156 = .ok (.ifCond .le 7, 3) := by decide +kernel
theorem dCo_hasInside_159 : decode prog_3_method_9_code 159 = .ok (.iconst 1, 1) := by decide +kernel
theorem dCo_hasInside_160 : decode prog_3_method_9_code 160 = .ok (.goto 4, 3) := by decide +kernel
theorem dCo_hasInside_163 : decode prog_3_method_9_code 163 = .ok (.iconst 0, 1) := by decide +kernel
theorem dCo_hasInside_164 : decode prog_3_method_9_code 164 = .ok (.iload 7, 2) := by decide +kernel
theorem dCo_hasInside_166 : decode prog_3_method_9_code 166 = .ok (.if_icmp .ne 13, 3) := by decide +kernel
theorem dCo_hasInside_169 : decode prog_3_method_9_code 169 = .ok (.iload_n 3, 1) := by decide +kernel
theorem dCo_hasInside_170 : decode prog_3_method_9_code 170 = .ok (.ifCond .ne 7, 3) := by decide +kernel
theorem dCo_hasInside_173 : decode prog_3_method_9_code 173 = .ok (.iconst 1, 1) := by decide +kernel
theorem dCo_hasInside_174 : decode prog_3_method_9_code 174 = .ok (.goto 4, 3) := by decide +kernel
theorem dCo_hasInside_177 : decode prog_3_method_9_code 177 = .ok (.iconst 0, 1) := by decide +kernel
theorem dCo_hasInside_178 : decode prog_3_method_9_code 178 = .ok (.istore_n 3, 1) := by decide +kernel
theorem dCo_hasInside_179 : decode prog_3_method_9_code 179 = .ok (.iinc 4 1, 3) := by decide +kernel
theorem dCo_hasInside_182 : decode prog_3_method_9_code 182 = .ok (.goto (-177), 3) := by decide +kernel
theorem dCo_hasInside_185 : decode prog_3_method_9_code 185 = .ok (.iload_n 3, 1) := by decide +kernel
theorem dCo_hasInside_186 : decode prog_3_method_9_code 186 = .ok (.ireturn, 1) := by decide +kernel
theorem dCo_hasAllInside_0 : decode prog_3_method_8_code 0 = .ok (.iconst 0, 1) := by decide +kernel
theorem dCo_hasAllInside_1 : decode prog_3_method_8_code 1 = .ok (.istore_n 2, 1) := by decide +kernel
theorem dCo_hasAllInside_2 : decode prog_3_method_8_code 2 = .ok (.iload_n 2, 1) := by decide +kernel
theorem dCo_hasAllInside_3 : decode prog_3_method_8_code 3 = .ok (.aload_n 1, 1) := by decide +kernel
theorem dCo_hasAllInside_4 : decode prog_3_method_8_code 4 = .ok (.getfield 9, 3) := by decide +kernel
theorem dCo_hasAllInside_7 : decode prog_3_method_8_code 7 = .ok (.if_icmp .ge 30, 3) := by decide +kernel
theorem dCo_hasAllInside_10 : decode prog_3_method_8_code 10 = .ok (.aload_n 0, 1) := by decide +kernel
theorem dCo_hasAllInside_11 : decode prog_3_method_8_code 11 = .ok (.aload_n 1, 1) := by decide +kernel
theorem dCo_hasAllInside_12 : decode prog_3_method_8_code 12 = .ok (.getfield 21, 3) := by decide +kernel
theorem dCo_hasAllInside_15 : decode prog_3_method_8_code 15 = .ok (.iload_n 2, 1) := by decide +kernel
theorem dCo_hasAllInside_16 : decode prog_3_method_8_code 16 = .ok (.iaload, 1) := by decide +kernel
theorem dCo_hasAllInside_17 : decode prog_3_method_8_code 17 = .ok (.aload_n 1, 1) := by decide +kernel
theorem dCo_hasAllInside_18 : decode prog_3_method_8_code 18 = .ok (.getfield 25, 3) := by decide +kernel
theorem dCo_hasAllInside_21 : decode prog_3_method_8_code 21 = .ok (.iload_n 2, 1) := by decide +kernel
theorem dCo_hasAllInside_22 : decode prog_3_method_8_code 22 = .ok (.iaload, 1) := by decide +kernel
theorem dCo_hasAllInside_23 : decode prog_3_method_8_code 23 = .ok (.invokevirtual 47, 3) := by decide +kernel
theorem dCo_hasAllInside_26 : decode prog_3_method_8_code 26 = .ok (.ifCond .ne 5, 3) := by decide +kernel
theorem dCo_hasAllInside_29 : decode prog_3_method_8_code 29 = .ok (.iconst 0, 1) := by decide +kernel
theorem dCo_hasAllInside_30 : decode prog_3_method_8_code 30 = .ok (.ireturn, 1) := by decide +kernel
theorem dCo_hasAllInside_31 : decode prog_3_method_8_code 31 = .ok (.iinc 2 1, 3) := by decide +kernel
theorem dCo_hasAllInside_34 : decode prog_3_method_8_code 34 = .ok (.goto (-32), 3) := by decide +kernel
theorem dCo_hasAllInside_37 : decode prog_3_method_8_code 37 = .ok (.iconst 1, 1) := by decide +kernel
theorem dCo_hasAllInside_38 : decode prog_3_method_8_code 38 = .ok (.ireturn, 1) := by decide +kernel
theorem dP_liesInPlace_0 : decode prog_1_method_33_code 0 = .ok (.aload_n 0, 1) := by decide +kernel
theorem dP_liesInPlace_1 : decode prog_1_method_33_code 1 = .ok (.iload_n 2, 1) := by decide +kernel
theorem dP_liesInPlace_2 : decode prog_1_method_33_code 2 = .ok (.invokevirtual 124, 3) := by decide +kernel
theorem dP_liesInPlace_5 : decode prog_1_method_33_code 5 = .ok (.astore 4, 2) := by decide +kernel
theorem dP_liesInPlace_7 : decode prog_1_method_33_code 7 = .ok (.aload 4, 2) := by decide +kernel
theorem dP_liesInPlace_9 : decode prog_1_method_33_code 9 = .ok (.ifnonnull 5, 3) := by decide +kernel
theorem dP_liesInPlace_12 : decode prog_1_method_33_code 12 = .ok (.iconst 0, 1) := by decide +kernel
theorem dP_liesInPlace_13 : decode prog_1_method_33_code 13 = .ok (.ireturn, 1) := by decide +kernel
theorem dP_liesInPlace_14 : decode prog_1_method_33_code 14 = .ok (.aload 4, 2) := by decide +kernel
theorem dP_liesInPlace_16 : decode prog_1_method_33_code 16 = .ok (.iload_n 3, 1) := by decide +kernel
theorem dP_liesInPlace_17 : decode prog_1_method_33_code 17 = .ok (.invokevirtual 275, 3) := by decide +kernel
theorem dP_liesInPlace_20 : decode prog_1_method_33_code 20 = .ok (.astore 5, 2) := by decide +kernel
theorem dP_liesInPlace_22 : decode prog_1_method_33_code 22 = .ok (.aload 5, 2) := by decide +kernel
theorem dP_liesInPlace_24 : decode prog_1_method_33_code 24 = .ok (.ifnull 24, 3) := by decide +kernel
theorem dP_liesInPlace_27 : decode prog_1_method_33_code 27 = .ok (.aload 5, 2) := by decide +kernel
theorem dP_liesInPlace_29 : decode prog_1_method_33_code 29 = .ok (.invokevirtual 137, 3) := by decide +kernel
theorem dP_liesInPlace_32 : decode prog_1_method_33_code 32 = .ok (.ifCond .eq 16, 3) := by decide +kernel
theorem dP_liesInPlace_35 : decode prog_1_method_33_code 35 = .ok (.aload 5, 2) := by decide +kernel
theorem dP_liesInPlace_37 : decode prog_1_method_33_code 37 = .ok (.aload_n 1, 1) := by decide +kernel
theorem dP_liesInPlace_38 : decode prog_1_method_33_code 38 = .ok (.invokevirtual 385, 3) := by decide +kernel
theorem dP_liesInPlace_41 : decode prog_1_method_33_code 41 = .ok (.ifCond .eq 7, 3) := by decide +kernel
theorem dP_liesInPlace_44 : decode prog_1_method_33_code 44 = .ok (.iconst 1, 1) := by decide +kernel
theorem dP_liesInPlace_45 : decode prog_1_method_33_code 45 = .ok (.goto 4, 3) := by decide +kernel
theorem dP_liesInPlace_48 : decode prog_1_method_33_code 48 = .ok (.iconst 0, 1) := by decide +kernel
theorem dP_liesInPlace_49 : decode prog_1_method_33_code 49 = .ok (.ireturn, 1) := by decide +kernel
theorem dPl_aboveOn_0 : decode prog_8_method_9_code 0 = .ok (.iconst 0, 1) := by decide +kernel
theorem dPl_aboveOn_1 : decode prog_8_method_9_code 1 = .ok (.istore_n 2, 1) := by decide +kernel
theorem dPl_aboveOn_2 : decode prog_8_method_9_code 2 = .ok (.iload_n 2, 1) := by decide +kernel
theorem dPl_aboveOn_3 : decode prog_8_method_9_code 3 = .ok (.aload_n 0, 1) := by decide +kernel
theorem dPl_aboveOn_4 : decode prog_8_method_9_code 4 = .ok (.getfield 29, 3) := by decide +kernel
theorem dPl_aboveOn_7 : decode prog_8_method_9_code 7 = .ok (.invokevirtual 38, 3) := by decide +kernel
theorem dPl_aboveOn_10 : decode prog_8_method_9_code 10 = .ok (.if_icmp .ge 43, 3) := by decide +kernel
theorem dPl_aboveOn_13 : decode prog_8_method_9_code 13 = .ok (.aload_n 0, 1) := by decide +kernel
theorem dPl_aboveOn_14 : decode prog_8_method_9_code 14 = .ok (.getfield 29, 3) := by decide +kernel
theorem dPl_aboveOn_17 : decode prog_8_method_9_code 17 = .ok (.iload_n 2, 1) := by decide +kernel
theorem dPl_aboveOn_18 : decode prog_8_method_9_code 18 = .ok (.invokevirtual 46, 3) := by decide +kernel
theorem dPl_aboveOn_21 : decode prog_8_method_9_code 21 = .ok (.checkcast 65, 3) := by decide +kernel
theorem dPl_aboveOn_24 : decode prog_8_method_9_code 24 = .ok (.iload_n 1, 1) := by decide +kernel
theorem dPl_aboveOn_25 : decode prog_8_method_9_code 25 = .ok (.iload_n 1, 1) := by decide +kernel
theorem dPl_aboveOn_26 : decode prog_8_method_9_code 26 = .ok (.invokevirtual 67, 3) := by decide +kernel
theorem dPl_aboveOn_29 : decode prog_8_method_9_code 29 = .ok (.ifCond .eq 18, 3) := by decide +kernel
theorem dPl_aboveOn_32 : decode prog_8_method_9_code 32 = .ok (.aload_n 0, 1) := by decide +kernel
theorem dPl_aboveOn_33 : decode prog_8_method_9_code 33 = .ok (.getfield 29, 3) := by decide +kernel
theorem dPl_aboveOn_36 : decode prog_8_method_9_code 36 = .ok (.iload_n 2, 1) := by decide +kernel
theorem dPl_aboveOn_37 : decode prog_8_method_9_code 37 = .ok (.invokevirtual 46, 3) := by decide +kernel
theorem dPl_aboveOn_40 : decode prog_8_method_9_code 40 = .ok (.checkcast 65, 3) := by decide +kernel
theorem dPl_aboveOn_43 : decode prog_8_method_9_code 43 = .ok (.getfield 71, 3) := by decide +kernel
theorem dPl_aboveOn_46 : decode prog_8_method_9_code 46 = .ok (.areturn, 1) := by decide +kernel
theorem dPl_aboveOn_47 : decode prog_8_method_9_code 47 = .ok (.iinc 2 1, 3) := by decide +kernel
theorem dPl_aboveOn_50 : decode prog_8_method_9_code 50 = .ok (.goto (-48), 3) := by decide +kernel
theorem dPl_aboveOn_53 : decode prog_8_method_9_code 53 = .ok (.aconst_null, 1) := by decide +kernel
theorem dPl_aboveOn_54 : decode prog_8_method_9_code 54 = .ok (.areturn, 1) := by decide +kernel
theorem dP_isBelow_0 : decode prog_1_method_34_code 0 = .ok (.aload_n 0, 1) := by decide +kernel
theorem dP_isBelow_1 : decode prog_1_method_34_code 1 = .ok (.iload_n 2, 1) := by decide +kernel
theorem dP_isBelow_2 : decode prog_1_method_34_code 2 = .ok (.invokevirtual 267, 3) := by decide +kernel
theorem dP_isBelow_5 : decode prog_1_method_34_code 5 = .ok (.astore_n 3, 1) := by decide +kernel
theorem dP_isBelow_6 : decode prog_1_method_34_code 6 = .ok (.iconst 0, 1) := by decide +kernel
theorem dP_isBelow_7 : decode prog_1_method_34_code 7 = .ok (.istore 4, 2) := by decide +kernel
theorem dP_isBelow_9 : decode prog_1_method_34_code 9 = .ok (.iload 4, 2) := by decide +kernel
theorem dP_isBelow_11 : decode prog_1_method_34_code 11 = .ok (.bipush 30, 2) := by decide +kernel
theorem dP_isBelow_13 : decode prog_1_method_34_code 13 = .ok (.if_icmp .ge 29, 3) := by decide +kernel
theorem dP_isBelow_16 : decode prog_1_method_34_code 16 = .ok (.aload_n 3, 1) := by decide +kernel
theorem dP_isBelow_17 : decode prog_1_method_34_code 17 = .ok (.ifnull 25, 3) := by decide +kernel
theorem dP_isBelow_20 : decode prog_1_method_34_code 20 = .ok (.aload_n 3, 1) := by decide +kernel
theorem dP_isBelow_21 : decode prog_1_method_34_code 21 = .ok (.getfield 270, 3) := by decide +kernel
theorem dP_isBelow_24 : decode prog_1_method_34_code 24 = .ok (.iload_n 1, 1) := by decide +kernel
theorem dP_isBelow_25 : decode prog_1_method_34_code 25 = .ok (.if_icmp .ne 5, 3) := by decide +kernel
theorem dP_isBelow_28 : decode prog_1_method_34_code 28 = .ok (.iconst 1, 1) := by decide +kernel
theorem dP_isBelow_29 : decode prog_1_method_34_code 29 = .ok (.ireturn, 1) := by decide +kernel
theorem dP_isBelow_30 : decode prog_1_method_34_code 30 = .ok (.aload_n 3, 1) := by decide +kernel
theorem dP_isBelow_31 : decode prog_1_method_34_code 31 = .ok (.iload_n 2, 1) := by decide +kernel
theorem dP_isBelow_32 : decode prog_1_method_34_code 32 = .ok (.invokevirtual 267, 3) := by decide +kernel
theorem dP_isBelow_35 : decode prog_1_method_34_code 35 = .ok (.astore_n 3, 1) := by decide +kernel
theorem dP_isBelow_36 : decode prog_1_method_34_code 36 = .ok (.iinc 4 1, 3) := by decide +kernel
theorem dP_isBelow_39 : decode prog_1_method_34_code 39 = .ok (.goto (-30), 3) := by decide +kernel
theorem dP_isBelow_42 : decode prog_1_method_34_code 42 = .ok (.iconst 0, 1) := by decide +kernel
theorem dP_isBelow_43 : decode prog_1_method_34_code 43 = .ok (.ireturn, 1) := by decide +kernel
theorem dCo_squareFrom_0 : decode prog_3_method_7_code 0 = .ok (.iload_n 2, 1) := by decide +kernel
theorem dCo_squareFrom_1 : decode prog_3_method_7_code 1 = .ok (.aload_n 0, 1) := by decide +kernel
theorem dCo_squareFrom_2 : decode prog_3_method_7_code 2 = .ok (.getfield 21, 3) := by decide +kernel
theorem dCo_squareFrom_5 : decode prog_3_method_7_code 5 = .ok (.iload_n 1, 1) := by decide +kernel
theorem dCo_squareFrom_6 : decode prog_3_method_7_code 6 = .ok (.iaload, 1) := by decide +kernel
theorem dCo_squareFrom_7 : decode prog_3_method_7_code 7 = .ok (.isub, 1) := by decide +kernel
theorem dCo_squareFrom_8 : decode prog_3_method_7_code 8 = .ok (.istore 4, 2) := by decide +kernel
theorem dCo_squareFrom_10 : decode prog_3_method_7_code 10 = .ok (.iload_n 3, 1) := by decide +kernel
theorem dCo_squareFrom_11 : decode prog_3_method_7_code 11 = .ok (.aload_n 0, 1) := by decide +kernel
theorem dCo_squareFrom_12 : decode prog_3_method_7_code 12 = .ok (.getfield 25, 3) := by decide +kernel
theorem dCo_squareFrom_15 : decode prog_3_method_7_code 15 = .ok (.iload_n 1, 1) := by decide +kernel
theorem dCo_squareFrom_16 : decode prog_3_method_7_code 16 = .ok (.iaload, 1) := by decide +kernel
theorem dCo_squareFrom_17 : decode prog_3_method_7_code 17 = .ok (.isub, 1) := by decide +kernel
theorem dCo_squareFrom_18 : decode prog_3_method_7_code 18 = .ok (.istore 5, 2) := by decide +kernel
theorem dCo_squareFrom_20 : decode prog_3_method_7_code 20 = .ok (.iload 4, 2) := by decide +kernel
theorem dCo_squareFrom_22 : decode prog_3_method_7_code 22 = .ok (.iload 4, 2) := by decide +kernel
theorem dCo_squareFrom_24 : decode prog_3_method_7_code 24 = .ok (.imul, 1) := by decide +kernel
theorem dCo_squareFrom_25 : decode prog_3_method_7_code 25 = .ok (.iload 5, 2) := by decide +kernel
theorem dCo_squareFrom_27 : decode prog_3_method_7_code 27 = .ok (.iload 5, 2) := by decide +kernel
theorem dCo_squareFrom_29 : decode prog_3_method_7_code 29 = .ok (.imul, 1) := by decide +kernel
theorem dCo_squareFrom_30 : decode prog_3_method_7_code 30 = .ok (.iadd, 1) := by decide +kernel
theorem dCo_squareFrom_31 : decode prog_3_method_7_code 31 = .ok (.ireturn, 1) := by decide +kernel
theorem dCo_squareTo_0 : decode prog_3_method_6_code 0 = .ok (.ldc 36, 2) := by decide +kernel
theorem dCo_squareTo_2 : decode prog_3_method_6_code 2 = .ok (.istore_n 3, 1) := by decide +kernel
theorem dCo_squareTo_3 : decode prog_3_method_6_code 3 = .ok (.iconst 0, 1) := by decide +kernel
theorem dCo_squareTo_4 : decode prog_3_method_6_code 4 = .ok (.istore 4, 2) := by decide +kernel
theorem dCo_squareTo_6 : decode prog_3_method_6_code 6 = .ok (.iload 4, 2) := by decide +kernel
theorem dCo_squareTo_8 : decode prog_3_method_6_code 8 = .ok (.aload_n 0, 1) := by decide +kernel
theorem dCo_squareTo_9 : decode prog_3_method_6_code 9 = .ok (.getfield 9, 3) := by decide +kernel
theorem dCo_squareTo_12 : decode prog_3_method_6_code 12 = .ok (.if_icmp .ge 22, 3) := by decide +kernel
theorem dCo_squareTo_15 : decode prog_3_method_6_code 15 = .ok (.iload_n 3, 1) := by decide +kernel
theorem dCo_squareTo_16 : decode prog_3_method_6_code 16 = .ok (.aload_n 0, 1) := by decide +kernel
theorem dCo_squareTo_17 : decode prog_3_method_6_code 17 = .ok (.iload 4, 2) := by decide +kernel
theorem dCo_squareTo_19 : decode prog_3_method_6_code 19 = .ok (.iload_n 1, 1) := by decide +kernel
theorem dCo_squareTo_20 : decode prog_3_method_6_code 20 = .ok (.iload_n 2, 1) := by decide +kernel
theorem dCo_squareTo_21 : decode prog_3_method_6_code 21 = .ok (.invokevirtual 37, 3) := by decide +kernel
theorem dCo_squareTo_24 : decode prog_3_method_6_code 24 = .ok (.invokestatic 41, 3) := by decide +kernel
theorem dCo_squareTo_27 : decode prog_3_method_6_code 27 = .ok (.istore_n 3, 1) := by decide +kernel
theorem dCo_squareTo_28 : decode prog_3_method_6_code 28 = .ok (.iinc 4 1, 3) := by decide +kernel
theorem dCo_squareTo_31 : decode prog_3_method_6_code 31 = .ok (.goto (-25), 3) := by decide +kernel
theorem dCo_squareTo_34 : decode prog_3_method_6_code 34 = .ok (.iload_n 3, 1) := by decide +kernel
theorem dCo_squareTo_35 : decode prog_3_method_6_code 35 = .ok (.ireturn, 1) := by decide +kernel
theorem dLo_compare_0 : decode prog_22_method_42_code 0 = .ok (.lload_n 0, 1) := by decide +kernel
theorem dLo_compare_1 : decode prog_22_method_42_code 1 = .ok (.lload_n 2, 1) := by decide +kernel
theorem dLo_compare_2 : decode prog_22_method_42_code 2 = .ok (.lcmp, 1) := by decide +kernel
theorem dLo_compare_3 : decode prog_22_method_42_code 3 = .ok (.ifCond .ge 7, 3) := by decide +kernel
theorem dLo_compare_6 : decode prog_22_method_42_code 6 = .ok (.iconst (-1), 1) := by decide +kernel
theorem dLo_compare_7 : decode prog_22_method_42_code 7 = .ok (.goto 14, 3) := by decide +kernel
theorem dLo_compare_10 : decode prog_22_method_42_code 10 = .ok (.lload_n 0, 1) := by decide +kernel
theorem dLo_compare_11 : decode prog_22_method_42_code 11 = .ok (.lload_n 2, 1) := by decide +kernel
theorem dLo_compare_12 : decode prog_22_method_42_code 12 = .ok (.lcmp, 1) := by decide +kernel
theorem dLo_compare_13 : decode prog_22_method_42_code 13 = .ok (.ifCond .ne 7, 3) := by decide +kernel
theorem dLo_compare_16 : decode prog_22_method_42_code 16 = .ok (.iconst 0, 1) := by decide +kernel
theorem dLo_compare_17 : decode prog_22_method_42_code 17 = .ok (.goto 4, 3) := by decide +kernel
theorem dLo_compare_20 : decode prog_22_method_42_code 20 = .ok (.iconst 1, 1) := by decide +kernel
theorem dLo_compare_21 : decode prog_22_method_42_code 21 = .ok (.ireturn, 1) := by decide +kernel
theorem dRs_takeIfBetter_0 : decode prog_9_method_4_code 0 = .ok (.iconst (-1), 1) := by decide +kernel
theorem dRs_takeIfBetter_1 : decode prog_9_method_4_code 1 = .ok (.istore 9, 2) := by decide +kernel
theorem dRs_takeIfBetter_3 : decode prog_9_method_4_code 3 = .ok (.aload_n 0, 1) := by decide +kernel
theorem dRs_takeIfBetter_4 : decode prog_9_method_4_code 4 = .ok (.getfield 7, 3) := by decide +kernel
theorem dRs_takeIfBetter_7 : decode prog_9_method_4_code 7 = .ok (.ifCond .eq 42, 3) := by decide +kernel
theorem dRs_takeIfBetter_10 : decode prog_9_method_4_code 10 = .ok (.lload_n 3, 1) := by decide +kernel
theorem dRs_takeIfBetter_11 : decode prog_9_method_4_code 11 = .ok (.aload_n 0, 1) := by decide +kernel
theorem dRs_takeIfBetter_12 : decode prog_9_method_4_code 12 = .ok (.getfield 38, 3) := by decide +kernel
theorem dRs_takeIfBetter_15 : decode prog_9_method_4_code 15 = .ok (.lcmp, 1) := by decide +kernel
theorem dRs_takeIfBetter_16 : decode prog_9_method_4_code 16 = .ok (.ifCond .eq 14, 3) := by decide +kernel
theorem dRs_takeIfBetter_19 : decode prog_9_method_4_code 19 = .ok (.lload_n 3, 1) := by decide +kernel
theorem dRs_takeIfBetter_20 : decode prog_9_method_4_code 20 = .ok (.aload_n 0, 1) := by decide +kernel
theorem dRs_takeIfBetter_21 : decode prog_9_method_4_code 21 = .ok (.getfield 38, 3) := by decide +kernel
theorem dRs_takeIfBetter_24 : decode prog_9_method_4_code 24 = .ok (.invokestatic 42, 3) := by decide +kernel
theorem dRs_takeIfBetter_27 : decode prog_9_method_4_code 27 = .ok (.goto 20, 3) := by decide +kernel
theorem dRs_takeIfBetter_30 : decode prog_9_method_4_code 30 = .ok (.lload 5, 2) := by decide +kernel
theorem dRs_takeIfBetter_32 : decode prog_9_method_4_code 32 = .ok (.aload_n 0, 1) := by decide +kernel
theorem dRs_takeIfBetter_33 : decode prog_9_method_4_code 33 = .ok (.getfield 48, 3) := by decide +kernel
theorem dRs_takeIfBetter_36 : decode prog_9_method_4_code 36 = .ok (.lmul, 1) := by decide +kernel
theorem dRs_takeIfBetter_37 : decode prog_9_method_4_code 37 = .ok (.aload_n 0, 1) := by decide +kernel
theorem dRs_takeIfBetter_38 : decode prog_9_method_4_code 38 = .ok (.getfield 51, 3) := by decide +kernel
theorem dRs_takeIfBetter_41 : decode prog_9_method_4_code 41 = .ok (.lload 7, 2) := by decide +kernel
theorem dRs_takeIfBetter_43 : decode prog_9_method_4_code 43 = .ok (.lmul, 1) := by decide +kernel
theorem dRs_takeIfBetter_44 : decode prog_9_method_4_code 44 = .ok (.invokestatic 42, 3) := by decide +kernel
theorem dRs_takeIfBetter_47 : decode prog_9_method_4_code 47 = .ok (.istore 9, 2) := by decide +kernel
theorem dRs_takeIfBetter_49 : decode prog_9_method_4_code 49 = .ok (.iload 9, 2) := by decide +kernel
theorem dRs_takeIfBetter_51 : decode prog_9_method_4_code 51 = .ok (.ifCond .lt 24, 3) := by decide +kernel
theorem dRs_takeIfBetter_54 : decode prog_9_method_4_code 54 = .ok (.iload 9, 2) := by decide +kernel
theorem dRs_takeIfBetter_56 : decode prog_9_method_4_code 56 = .ok (.ifCond .ne 51, 3) := by decide +kernel
theorem dRs_takeIfBetter_59 : decode prog_9_method_4_code 59 = .ok (.iload_n 1, 1) := by decide +kernel
theorem dRs_takeIfBetter_60 : decode prog_9_method_4_code 60 = .ok (.aload_n 0, 1) := by decide +kernel
theorem dRs_takeIfBetter_61 : decode prog_9_method_4_code 61 = .ok (.getfield 54, 3) := by decide +kernel
theorem dRs_takeIfBetter_64 : decode prog_9_method_4_code 64 = .ok (.if_icmp .ne 43, 3) := by decide +kernel
theorem dRs_takeIfBetter_67 : decode prog_9_method_4_code 67 = .ok (.iload_n 2, 1) := by decide +kernel
theorem dRs_takeIfBetter_68 : decode prog_9_method_4_code 68 = .ok (.aload_n 0, 1) := by decide +kernel
theorem dRs_takeIfBetter_69 : decode prog_9_method_4_code 69 = .ok (.getfield 57, 3) := by decide +kernel
theorem dRs_takeIfBetter_72 : decode prog_9_method_4_code 72 = .ok (.if_icmp .ge 35, 3) := by decide +kernel
theorem dRs_takeIfBetter_75 : decode prog_9_method_4_code 75 = .ok (.aload_n 0, 1) := by decide +kernel
theorem dRs_takeIfBetter_76 : decode prog_9_method_4_code 76 = .ok (.iconst 1, 1) := by decide +kernel
theorem dRs_takeIfBetter_77 : decode prog_9_method_4_code 77 = .ok (.putfield 7, 3) := by decide +kernel
theorem dRs_takeIfBetter_80 : decode prog_9_method_4_code 80 = .ok (.aload_n 0, 1) := by decide +kernel
theorem dRs_takeIfBetter_81 : decode prog_9_method_4_code 81 = .ok (.iload_n 1, 1) := by decide +kernel
theorem dRs_takeIfBetter_82 : decode prog_9_method_4_code 82 = .ok (.putfield 54, 3) := by decide +kernel
theorem dRs_takeIfBetter_85 : decode prog_9_method_4_code 85 = .ok (.aload_n 0, 1) := by decide +kernel
theorem dRs_takeIfBetter_86 : decode prog_9_method_4_code 86 = .ok (.iload_n 2, 1) := by decide +kernel
theorem dRs_takeIfBetter_87 : decode prog_9_method_4_code 87 = .ok (.putfield 57, 3) := by decide +kernel
theorem dRs_takeIfBetter_90 : decode prog_9_method_4_code 90 = .ok (.aload_n 0, 1) := by decide +kernel
theorem dRs_takeIfBetter_91 : decode prog_9_method_4_code 91 = .ok (.lload_n 3, 1) := by decide +kernel
theorem dRs_takeIfBetter_92 : decode prog_9_method_4_code 92 = .ok (.putfield 38, 3) := by decide +kernel
theorem dRs_takeIfBetter_95 : decode prog_9_method_4_code 95 = .ok (.aload_n 0, 1) := by decide +kernel
theorem dRs_takeIfBetter_96 : decode prog_9_method_4_code 96 = .ok (.lload 5, 2) := by decide +kernel
theorem dRs_takeIfBetter_98 : decode prog_9_method_4_code 98 = .ok (.putfield 51, 3) := by decide +kernel
theorem dRs_takeIfBetter_101 : decode prog_9_method_4_code 101 = .ok (.aload_n 0, 1) := by decide +kernel
theorem dRs_takeIfBetter_102 : decode prog_9_method_4_code 102 = .ok (.lload 7, 2) := by decide +kernel
theorem dRs_takeIfBetter_104 : decode prog_9_method_4_code 104 = .ok (.putfield 48, 3) := by decide +kernel
theorem dRs_takeIfBetter_107 : decode prog_9_method_4_code 107 = .ok (.return_, 1) := by decide +kernel
theorem dRs_measure_0 : decode prog_9_method_3_code 0 = .ok (.aload_n 1, 1) := by decide +kernel
theorem dRs_measure_1 : decode prog_9_method_3_code 1 = .ok (.getfield 19, 3) := by decide +kernel
theorem dRs_measure_4 : decode prog_9_method_3_code 4 = .ok (.iload_n 2, 1) := by decide +kernel
theorem dRs_measure_5 : decode prog_9_method_3_code 5 = .ok (.iconst 1, 1) := by decide +kernel
theorem dRs_measure_6 : decode prog_9_method_3_code 6 = .ok (.iadd, 1) := by decide +kernel
theorem dRs_measure_7 : decode prog_9_method_3_code 7 = .ok (.iaload, 1) := by decide +kernel
theorem dRs_measure_8 : decode prog_9_method_3_code 8 = .ok (.aload_n 1, 1) := by decide +kernel
theorem dRs_measure_9 : decode prog_9_method_3_code 9 = .ok (.getfield 19, 3) := by decide +kernel
theorem dRs_measure_12 : decode prog_9_method_3_code 12 = .ok (.iload_n 2, 1) := by decide +kernel
theorem dRs_measure_13 : decode prog_9_method_3_code 13 = .ok (.iaload, 1) := by decide +kernel
theorem dRs_measure_14 : decode prog_9_method_3_code 14 = .ok (.isub, 1) := by decide +kernel
theorem dRs_measure_15 : decode prog_9_method_3_code 15 = .ok (.istore 5, 2) := by decide +kernel
theorem dRs_measure_17 : decode prog_9_method_3_code 17 = .ok (.aload_n 1, 1) := by decide +kernel
theorem dRs_measure_18 : decode prog_9_method_3_code 18 = .ok (.getfield 23, 3) := by decide +kernel
theorem dRs_measure_21 : decode prog_9_method_3_code 21 = .ok (.iload_n 2, 1) := by decide +kernel
theorem dRs_measure_22 : decode prog_9_method_3_code 22 = .ok (.iconst 1, 1) := by decide +kernel
theorem dRs_measure_23 : decode prog_9_method_3_code 23 = .ok (.iadd, 1) := by decide +kernel
theorem dRs_measure_24 : decode prog_9_method_3_code 24 = .ok (.iaload, 1) := by decide +kernel
theorem dRs_measure_25 : decode prog_9_method_3_code 25 = .ok (.aload_n 1, 1) := by decide +kernel
theorem dRs_measure_26 : decode prog_9_method_3_code 26 = .ok (.getfield 23, 3) := by decide +kernel
theorem dRs_measure_29 : decode prog_9_method_3_code 29 = .ok (.iload_n 2, 1) := by decide +kernel
theorem dRs_measure_30 : decode prog_9_method_3_code 30 = .ok (.iaload, 1) := by decide +kernel
theorem dRs_measure_31 : decode prog_9_method_3_code 31 = .ok (.isub, 1) := by decide +kernel
theorem dRs_measure_32 : decode prog_9_method_3_code 32 = .ok (.istore 6, 2) := by decide +kernel
theorem dRs_measure_34 : decode prog_9_method_3_code 34 = .ok (.iload_n 3, 1) := by decide +kernel
theorem dRs_measure_35 : decode prog_9_method_3_code 35 = .ok (.aload_n 1, 1) := by decide +kernel
theorem dRs_measure_36 : decode prog_9_method_3_code 36 = .ok (.getfield 19, 3) := by decide +kernel
theorem dRs_measure_39 : decode prog_9_method_3_code 39 = .ok (.iload_n 2, 1) := by decide +kernel
theorem dRs_measure_40 : decode prog_9_method_3_code 40 = .ok (.iaload, 1) := by decide +kernel
theorem dRs_measure_41 : decode prog_9_method_3_code 41 = .ok (.isub, 1) := by decide +kernel
theorem dRs_measure_42 : decode prog_9_method_3_code 42 = .ok (.istore 7, 2) := by decide +kernel
theorem dRs_measure_44 : decode prog_9_method_3_code 44 = .ok (.iload 4, 2) := by decide +kernel
theorem dRs_measure_46 : decode prog_9_method_3_code 46 = .ok (.aload_n 1, 1) := by decide +kernel
theorem dRs_measure_47 : decode prog_9_method_3_code 47 = .ok (.getfield 23, 3) := by decide +kernel
theorem dRs_measure_50 : decode prog_9_method_3_code 50 = .ok (.iload_n 2, 1) := by decide +kernel
theorem dRs_measure_51 : decode prog_9_method_3_code 51 = .ok (.iaload, 1) := by decide +kernel
theorem dRs_measure_52 : decode prog_9_method_3_code 52 = .ok (.isub, 1) := by decide +kernel
theorem dRs_measure_53 : decode prog_9_method_3_code 53 = .ok (.istore 8, 2) := by decide +kernel
theorem dRs_measure_55 : decode prog_9_method_3_code 55 = .ok (.iload 5, 2) := by decide +kernel
theorem dRs_measure_57 : decode prog_9_method_3_code 57 = .ok (.iload 5, 2) := by decide +kernel
theorem dRs_measure_59 : decode prog_9_method_3_code 59 = .ok (.imul, 1) := by decide +kernel
theorem dRs_measure_60 : decode prog_9_method_3_code 60 = .ok (.iload 6, 2) := by decide +kernel
theorem dRs_measure_62 : decode prog_9_method_3_code 62 = .ok (.iload 6, 2) := by decide +kernel
theorem dRs_measure_64 : decode prog_9_method_3_code 64 = .ok (.imul, 1) := by decide +kernel
theorem dRs_measure_65 : decode prog_9_method_3_code 65 = .ok (.iadd, 1) := by decide +kernel
theorem dRs_measure_66 : decode prog_9_method_3_code 66 = .ok (.istore 9, 2) := by decide +kernel
theorem dRs_measure_68 : decode prog_9_method_3_code 68 = .ok (.iload 7, 2) := by decide +kernel
theorem dRs_measure_70 : decode prog_9_method_3_code 70 = .ok (.iload 5, 2) := by decide +kernel
theorem dRs_measure_72 : decode prog_9_method_3_code 72 = .ok (.imul, 1) := by decide +kernel
theorem dRs_measure_73 : decode prog_9_method_3_code 73 = .ok (.iload 8, 2) := by decide +kernel
theorem dRs_measure_75 : decode prog_9_method_3_code 75 = .ok (.iload 6, 2) := by decide +kernel
theorem dRs_measure_77 : decode prog_9_method_3_code 77 = .ok (.imul, 1) := by decide +kernel
theorem dRs_measure_78 : decode prog_9_method_3_code 78 = .ok (.iadd, 1) := by decide +kernel
theorem dRs_measure_79 : decode prog_9_method_3_code 79 = .ok (.istore 10, 2) := by decide +kernel
theorem dRs_measure_81 : decode prog_9_method_3_code 81 = .ok (.iload 10, 2) := by decide +kernel
theorem dRs_measure_83 : decode prog_9_method_3_code 83 = .ok (.ifCond .le 58, 3) := by decide +kernel
theorem dRs_measure_86 : decode prog_9_method_3_code 86 = .ok (.iload 10, 2) := by decide +kernel
theorem dRs_measure_88 : decode prog_9_method_3_code 88 = .ok (.iload 9, 2) := by decide +kernel
theorem dRs_measure_90 : decode prog_9_method_3_code 90 = .ok (.if_icmp .ge 51, 3) := by decide +kernel
theorem dRs_measure_93 : decode prog_9_method_3_code 93 = .ok (.iload 5, 2) := by decide +kernel
theorem dRs_measure_95 : decode prog_9_method_3_code 95 = .ok (.i2l, 1) := by decide +kernel
theorem dRs_measure_96 : decode prog_9_method_3_code 96 = .ok (.iload 8, 2) := by decide +kernel
theorem dRs_measure_98 : decode prog_9_method_3_code 98 = .ok (.i2l, 1) := by decide +kernel
theorem dRs_measure_99 : decode prog_9_method_3_code 99 = .ok (.lmul, 1) := by decide +kernel
theorem dRs_measure_100 : decode prog_9_method_3_code 100 = .ok (.iload 6, 2) := by decide +kernel
theorem dRs_measure_102 : decode prog_9_method_3_code 102 = .ok (.i2l, 1) := by decide +kernel
theorem dRs_measure_103 : decode prog_9_method_3_code 103 = .ok (.iload 7, 2) := by decide +kernel
theorem dRs_measure_105 : decode prog_9_method_3_code 105 = .ok (.i2l, 1) := by decide +kernel
theorem dRs_measure_106 : decode prog_9_method_3_code 106 = .ok (.lmul, 1) := by decide +kernel
theorem dRs_measure_107 : decode prog_9_method_3_code 107 = .ok (.lsub, 1) := by decide +kernel
theorem dRs_measure_108 : decode prog_9_method_3_code 108 = .ok (.lstore 11, 2) := by decide +kernel
theorem dRs_measure_110 : decode prog_9_method_3_code 110 = .ok (.aload_n 0, 1) := by decide +kernel
theorem dRs_measure_111 : decode prog_9_method_3_code 111 = .ok (.iload_n 2, 1) := by decide +kernel
theorem dRs_measure_112 : decode prog_9_method_3_code 112 = .ok (.iload 10, 2) := by decide +kernel
theorem dRs_measure_114 : decode prog_9_method_3_code 114 = .ok (.lload 11, 2) := by decide +kernel
theorem dRs_measure_116 : decode prog_9_method_3_code 116 = .ok (.lload 11, 2) := by decide +kernel
theorem dRs_measure_118 : decode prog_9_method_3_code 118 = .ok (.lmul, 1) := by decide +kernel
theorem dRs_measure_119 : decode prog_9_method_3_code 119 = .ok (.iload 9, 2) := by decide +kernel
theorem dRs_measure_121 : decode prog_9_method_3_code 121 = .ok (.i2l, 1) := by decide +kernel
theorem dRs_measure_122 : decode prog_9_method_3_code 122 = .ok (.ldiv, 1) := by decide +kernel
theorem dRs_measure_123 : decode prog_9_method_3_code 123 = .ok (.lload 11, 2) := by decide +kernel
theorem dRs_measure_125 : decode prog_9_method_3_code 125 = .ok (.lload 11, 2) := by decide +kernel
theorem dRs_measure_127 : decode prog_9_method_3_code 127 = .ok (.lmul, 1) := by decide +kernel
theorem dRs_measure_128 : decode prog_9_method_3_code 128 = .ok (.iload 9, 2) := by decide +kernel
theorem dRs_measure_130 : decode prog_9_method_3_code 130 = .ok (.i2l, 1) := by decide +kernel
theorem dRs_measure_131 : decode prog_9_method_3_code 131 = .ok (.lrem, 1) := by decide +kernel
theorem dRs_measure_132 : decode prog_9_method_3_code 132 = .ok (.iload 9, 2) := by decide +kernel
theorem dRs_measure_134 : decode prog_9_method_3_code 134 = .ok (.i2l, 1) := by decide +kernel
theorem dRs_measure_135 : decode prog_9_method_3_code 135 = .ok (.invokevirtual 30, 3) := by decide +kernel
theorem dRs_measure_138 : decode prog_9_method_3_code 138 = .ok (.goto 48, 3) := by decide +kernel
theorem dRs_measure_141 : decode prog_9_method_3_code 141 = .ok (.iload 10, 2) := by decide +kernel
theorem dRs_measure_143 : decode prog_9_method_3_code 143 = .ok (.ifCond .gt 23, 3) := by decide +kernel
theorem dRs_measure_146 : decode prog_9_method_3_code 146 = .ok (.aload_n 0, 1) := by decide +kernel
theorem dRs_measure_147 : decode prog_9_method_3_code 147 = .ok (.iload_n 2, 1) := by decide +kernel
theorem dRs_measure_148 : decode prog_9_method_3_code 148 = .ok (.iconst 0, 1) := by decide +kernel
theorem dRs_measure_149 : decode prog_9_method_3_code 149 = .ok (.aload_n 1, 1) := by decide +kernel
theorem dRs_measure_150 : decode prog_9_method_3_code 150 = .ok (.iload_n 2, 1) := by decide +kernel
theorem dRs_measure_151 : decode prog_9_method_3_code 151 = .ok (.iload_n 3, 1) := by decide +kernel
theorem dRs_measure_152 : decode prog_9_method_3_code 152 = .ok (.iload 4, 2) := by decide +kernel
theorem dRs_measure_154 : decode prog_9_method_3_code 154 = .ok (.invokevirtual 34, 3) := by decide +kernel
theorem dRs_measure_157 : decode prog_9_method_3_code 157 = .ok (.i2l, 1) := by decide +kernel
theorem dRs_measure_158 : decode prog_9_method_3_code 158 = .ok (.lconst 0, 1) := by decide +kernel
theorem dRs_measure_159 : decode prog_9_method_3_code 159 = .ok (.lconst 1, 1) := by decide +kernel
theorem dRs_measure_160 : decode prog_9_method_3_code 160 = .ok (.invokevirtual 30, 3) := by decide +kernel
theorem dRs_measure_163 : decode prog_9_method_3_code 163 = .ok (.goto 23, 3) := by decide +kernel
theorem dRs_measure_166 : decode prog_9_method_3_code 166 = .ok (.aload_n 0, 1) := by decide +kernel
theorem dRs_measure_167 : decode prog_9_method_3_code 167 = .ok (.iload_n 2, 1) := by decide +kernel
theorem dRs_measure_168 : decode prog_9_method_3_code 168 = .ok (.iload 9, 2) := by decide +kernel
theorem dRs_measure_170 : decode prog_9_method_3_code 170 = .ok (.aload_n 1, 1) := by decide +kernel
theorem dRs_measure_171 : decode prog_9_method_3_code 171 = .ok (.iload_n 2, 1) := by decide +kernel
theorem dRs_measure_172 : decode prog_9_method_3_code 172 = .ok (.iconst 1, 1) := by decide +kernel
theorem dRs_measure_173 : decode prog_9_method_3_code 173 = .ok (.iadd, 1) := by decide +kernel
theorem dRs_measure_174 : decode prog_9_method_3_code 174 = .ok (.iload_n 3, 1) := by decide +kernel
theorem dRs_measure_175 : decode prog_9_method_3_code 175 = .ok (.iload 4, 2) := by decide +kernel
theorem dRs_measure_177 : decode prog_9_method_3_code 177 = .ok (.invokevirtual 34, 3) := by decide +kernel
theorem dRs_measure_180 : decode prog_9_method_3_code 180 = .ok (.i2l, 1) := by decide +kernel
theorem dRs_measure_181 : decode prog_9_method_3_code 181 = .ok (.lconst 0, 1) := by decide +kernel
theorem dRs_measure_182 : decode prog_9_method_3_code 182 = .ok (.lconst 1, 1) := by decide +kernel
theorem dRs_measure_183 : decode prog_9_method_3_code 183 = .ok (.invokevirtual 30, 3) := by decide +kernel
theorem dRs_measure_186 : decode prog_9_method_3_code 186 = .ok (.return_, 1) := by decide +kernel
theorem dRs_start_0 : decode prog_9_method_2_code 0 = .ok (.aload_n 0, 1) := by decide +kernel
theorem dRs_start_1 : decode prog_9_method_2_code 1 = .ok (.iconst 0, 1) := by decide +kernel
theorem dRs_start_2 : decode prog_9_method_2_code 2 = .ok (.putfield 7, 3) := by decide +kernel
theorem dRs_start_5 : decode prog_9_method_2_code 5 = .ok (.iconst 0, 1) := by decide +kernel
theorem dRs_start_6 : decode prog_9_method_2_code 6 = .ok (.istore_n 3, 1) := by decide +kernel
theorem dRs_start_7 : decode prog_9_method_2_code 7 = .ok (.iload_n 3, 1) := by decide +kernel
theorem dRs_start_8 : decode prog_9_method_2_code 8 = .ok (.iconst 1, 1) := by decide +kernel
theorem dRs_start_9 : decode prog_9_method_2_code 9 = .ok (.iadd, 1) := by decide +kernel
theorem dRs_start_10 : decode prog_9_method_2_code 10 = .ok (.aload_n 1, 1) := by decide +kernel
theorem dRs_start_11 : decode prog_9_method_2_code 11 = .ok (.getfield 13, 3) := by decide +kernel
theorem dRs_start_14 : decode prog_9_method_2_code 14 = .ok (.if_icmp .ge 47, 3) := by decide +kernel
theorem dRs_start_17 : decode prog_9_method_2_code 17 = .ok (.iconst 0, 1) := by decide +kernel
theorem dRs_start_18 : decode prog_9_method_2_code 18 = .ok (.istore 4, 2) := by decide +kernel
theorem dRs_start_20 : decode prog_9_method_2_code 20 = .ok (.iload 4, 2) := by decide +kernel
theorem dRs_start_22 : decode prog_9_method_2_code 22 = .ok (.aload_n 2, 1) := by decide +kernel
theorem dRs_start_23 : decode prog_9_method_2_code 23 = .ok (.getfield 13, 3) := by decide +kernel
theorem dRs_start_26 : decode prog_9_method_2_code 26 = .ok (.if_icmp .ge 29, 3) := by decide +kernel
theorem dRs_start_29 : decode prog_9_method_2_code 29 = .ok (.aload_n 0, 1) := by decide +kernel
theorem dRs_start_30 : decode prog_9_method_2_code 30 = .ok (.aload_n 1, 1) := by decide +kernel
theorem dRs_start_31 : decode prog_9_method_2_code 31 = .ok (.iload_n 3, 1) := by decide +kernel
theorem dRs_start_32 : decode prog_9_method_2_code 32 = .ok (.aload_n 2, 1) := by decide +kernel
theorem dRs_start_33 : decode prog_9_method_2_code 33 = .ok (.getfield 19, 3) := by decide +kernel
theorem dRs_start_36 : decode prog_9_method_2_code 36 = .ok (.iload 4, 2) := by decide +kernel
theorem dRs_start_38 : decode prog_9_method_2_code 38 = .ok (.iaload, 1) := by decide +kernel
