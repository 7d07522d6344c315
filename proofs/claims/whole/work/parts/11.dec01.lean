theorem dM_foldName_6 : decode prog_13_method_22_code 6 = .ok (.iaload, 1) := by decide +kernel
theorem dM_foldName_7 : decode prog_13_method_22_code 7 = .ok (.putfield 179, 3) := by decide +kernel
theorem dM_foldName_10 : decode prog_13_method_22_code 10 = .ok (.iconst 0, 1) := by decide +kernel
theorem dM_foldName_11 : decode prog_13_method_22_code 11 = .ok (.istore_n 2, 1) := by decide +kernel
theorem dM_foldName_12 : decode prog_13_method_22_code 12 = .ok (.iload_n 2, 1) := by decide +kernel
theorem dM_foldName_13 : decode prog_13_method_22_code 13 = .ok (.aload_n 0, 1) := by decide +kernel
theorem dM_foldName_14 : decode prog_13_method_22_code 14 = .ok (.getfield 179, 3) := by decide +kernel
theorem dM_foldName_17 : decode prog_13_method_22_code 17 = .ok (.if_icmp .ge 26, 3) := by decide +kernel
theorem dM_foldName_20 : decode prog_13_method_22_code 20 = .ok (.aload_n 0, 1) := by decide +kernel
theorem dM_foldName_21 : decode prog_13_method_22_code 21 = .ok (.getfield 110, 3) := by decide +kernel
theorem dM_foldName_24 : decode prog_13_method_22_code 24 = .ok (.iload_n 2, 1) := by decide +kernel
theorem dM_foldName_25 : decode prog_13_method_22_code 25 = .ok (.aload_n 0, 1) := by decide +kernel
theorem dM_foldName_26 : decode prog_13_method_22_code 26 = .ok (.getfield 43, 3) := by decide +kernel
theorem dM_foldName_29 : decode prog_13_method_22_code 29 = .ok (.bipush 10, 2) := by decide +kernel
theorem dM_foldName_31 : decode prog_13_method_22_code 31 = .ok (.iload_n 1, 1) := by decide +kernel
theorem dM_foldName_32 : decode prog_13_method_22_code 32 = .ok (.imul, 1) := by decide +kernel
theorem dM_foldName_33 : decode prog_13_method_22_code 33 = .ok (.iload_n 2, 1) := by decide +kernel
theorem dM_foldName_34 : decode prog_13_method_22_code 34 = .ok (.iadd, 1) := by decide +kernel
theorem dM_foldName_35 : decode prog_13_method_22_code 35 = .ok (.iaload, 1) := by decide +kernel
theorem dM_foldName_36 : decode prog_13_method_22_code 36 = .ok (.iastore, 1) := by decide +kernel
theorem dM_foldName_37 : decode prog_13_method_22_code 37 = .ok (.iinc 2 1, 3) := by decide +kernel
theorem dM_foldName_40 : decode prog_13_method_22_code 40 = .ok (.goto (-28), 3) := by decide +kernel
theorem dM_foldName_43 : decode prog_13_method_22_code 43 = .ok (.return_, 1) := by decide +kernel
theorem dM_classOf_0 : decode prog_13_method_23_code 0 = .ok (.iload_n 0, 1) := by decide +kernel
theorem dM_classOf_1 : decode prog_13_method_23_code 1 = .ok (.bipush 98, 2) := by decide +kernel
theorem dM_classOf_3 : decode prog_13_method_23_code 3 = .ok (.if_icmp .eq 21, 3) := by decide +kernel
theorem dM_classOf_6 : decode prog_13_method_23_code 6 = .ok (.iload_n 0, 1) := by decide +kernel
theorem dM_classOf_7 : decode prog_13_method_23_code 7 = .ok (.bipush 102, 2) := by decide +kernel
theorem dM_classOf_9 : decode prog_13_method_23_code 9 = .ok (.if_icmp .eq 15, 3) := by decide +kernel
theorem dM_classOf_12 : decode prog_13_method_23_code 12 = .ok (.iload_n 0, 1) := by decide +kernel
theorem dM_classOf_13 : decode prog_13_method_23_code 13 = .ok (.bipush 112, 2) := by decide +kernel
theorem dM_classOf_15 : decode prog_13_method_23_code 15 = .ok (.if_icmp .eq 9, 3) := by decide +kernel
theorem dM_classOf_18 : decode prog_13_method_23_code 18 = .ok (.iload_n 0, 1) := by decide +kernel
theorem dM_classOf_19 : decode prog_13_method_23_code 19 = .ok (.bipush 118, 2) := by decide +kernel
theorem dM_classOf_21 : decode prog_13_method_23_code 21 = .ok (.if_icmp .ne 5, 3) := by decide +kernel
theorem dM_classOf_24 : decode prog_13_method_23_code 24 = .ok (.iconst 1, 1) := by decide +kernel
theorem dM_classOf_25 : decode prog_13_method_23_code 25 = .ok (.ireturn, 1) := by decide +kernel
theorem dM_classOf_26 : decode prog_13_method_23_code 26 = .ok (.iload_n 0, 1) := by decide +kernel
theorem dM_classOf_27 : decode prog_13_method_23_code 27 = .ok (.bipush 99, 2) := by decide +kernel
theorem dM_classOf_29 : decode prog_13_method_23_code 29 = .ok (.if_icmp .eq 45, 3) := by decide +kernel
theorem dM_classOf_32 : decode prog_13_method_23_code 32 = .ok (.iload_n 0, 1) := by decide +kernel
theorem dM_classOf_33 : decode prog_13_method_23_code 33 = .ok (.bipush 103, 2) := by decide +kernel
theorem dM_classOf_35 : decode prog_13_method_23_code 35 = .ok (.if_icmp .eq 39, 3) := by decide +kernel
theorem dM_classOf_38 : decode prog_13_method_23_code 38 = .ok (.iload_n 0, 1) := by decide +kernel
theorem dM_classOf_39 : decode prog_13_method_23_code 39 = .ok (.bipush 106, 2) := by decide +kernel
theorem dM_classOf_41 : decode prog_13_method_23_code 41 = .ok (.if_icmp .eq 33, 3) := by decide +kernel
theorem dM_classOf_44 : decode prog_13_method_23_code 44 = .ok (.iload_n 0, 1) := by decide +kernel
theorem dM_classOf_45 : decode prog_13_method_23_code 45 = .ok (.bipush 107, 2) := by decide +kernel
theorem dM_classOf_47 : decode prog_13_method_23_code 47 = .ok (.if_icmp .eq 27, 3) := by decide +kernel
theorem dM_classOf_50 : decode prog_13_method_23_code 50 = .ok (.iload_n 0, 1) := by decide +kernel
theorem dM_classOf_51 : decode prog_13_method_23_code 51 = .ok (.bipush 113, 2) := by decide +kernel
theorem dM_classOf_53 : decode prog_13_method_23_code 53 = .ok (.if_icmp .eq 21, 3) := by decide +kernel
theorem dM_classOf_56 : decode prog_13_method_23_code 56 = .ok (.iload_n 0, 1) := by decide +kernel
theorem dM_classOf_57 : decode prog_13_method_23_code 57 = .ok (.bipush 115, 2) := by decide +kernel
theorem dM_classOf_59 : decode prog_13_method_23_code 59 = .ok (.if_icmp .eq 15, 3) := by decide +kernel
theorem dM_classOf_62 : decode prog_13_method_23_code 62 = .ok (.iload_n 0, 1) := by decide +kernel
theorem dM_classOf_63 : decode prog_13_method_23_code 63 = .ok (.bipush 120, 2) := by decide +kernel
theorem dM_classOf_65 : decode prog_13_method_23_code 65 = .ok (.if_icmp .eq 9, 3) := by decide +kernel
theorem dM_classOf_68 : decode prog_13_method_23_code 68 = .ok (.iload_n 0, 1) := by decide +kernel
theorem dM_classOf_69 : decode prog_13_method_23_code 69 = .ok (.bipush 122, 2) := by decide +kernel
theorem dM_classOf_71 : decode prog_13_method_23_code 71 = .ok (.if_icmp .ne 5, 3) := by decide +kernel
theorem dM_classOf_74 : decode prog_13_method_23_code 74 = .ok (.iconst 2, 1) := by decide +kernel
theorem dM_classOf_75 : decode prog_13_method_23_code 75 = .ok (.ireturn, 1) := by decide +kernel
theorem dM_classOf_76 : decode prog_13_method_23_code 76 = .ok (.iload_n 0, 1) := by decide +kernel
theorem dM_classOf_77 : decode prog_13_method_23_code 77 = .ok (.bipush 100, 2) := by decide +kernel
theorem dM_classOf_79 : decode prog_13_method_23_code 79 = .ok (.if_icmp .eq 9, 3) := by decide +kernel
theorem dM_classOf_82 : decode prog_13_method_23_code 82 = .ok (.iload_n 0, 1) := by decide +kernel
theorem dM_classOf_83 : decode prog_13_method_23_code 83 = .ok (.bipush 116, 2) := by decide +kernel
theorem dM_classOf_85 : decode prog_13_method_23_code 85 = .ok (.if_icmp .ne 5, 3) := by decide +kernel
theorem dM_classOf_88 : decode prog_13_method_23_code 88 = .ok (.iconst 3, 1) := by decide +kernel
theorem dM_classOf_89 : decode prog_13_method_23_code 89 = .ok (.ireturn, 1) := by decide +kernel
theorem dM_classOf_90 : decode prog_13_method_23_code 90 = .ok (.iload_n 0, 1) := by decide +kernel
theorem dM_classOf_91 : decode prog_13_method_23_code 91 = .ok (.bipush 108, 2) := by decide +kernel
theorem dM_classOf_93 : decode prog_13_method_23_code 93 = .ok (.if_icmp .ne 5, 3) := by decide +kernel
theorem dM_classOf_96 : decode prog_13_method_23_code 96 = .ok (.iconst 4, 1) := by decide +kernel
theorem dM_classOf_97 : decode prog_13_method_23_code 97 = .ok (.ireturn, 1) := by decide +kernel
theorem dM_classOf_98 : decode prog_13_method_23_code 98 = .ok (.iload_n 0, 1) := by decide +kernel
theorem dM_classOf_99 : decode prog_13_method_23_code 99 = .ok (.bipush 109, 2) := by decide +kernel
theorem dM_classOf_101 : decode prog_13_method_23_code 101 = .ok (.if_icmp .eq 9, 3) := by decide +kernel
theorem dM_classOf_104 : decode prog_13_method_23_code 104 = .ok (.iload_n 0, 1) := by decide +kernel
theorem dM_classOf_105 : decode prog_13_method_23_code 105 = .ok (.bipush 110, 2) := by decide +kernel
theorem dM_classOf_107 : decode prog_13_method_23_code 107 = .ok (.if_icmp .ne 5, 3) := by decide +kernel
theorem dM_classOf_110 : decode prog_13_method_23_code 110 = .ok (.iconst 5, 1) := by decide +kernel
theorem dM_classOf_111 : decode prog_13_method_23_code 111 = .ok (.ireturn, 1) := by decide +kernel
theorem dM_classOf_112 : decode prog_13_method_23_code 112 = .ok (.iload_n 0, 1) := by decide +kernel
theorem dM_classOf_113 : decode prog_13_method_23_code 113 = .ok (.bipush 114, 2) := by decide +kernel
theorem dM_classOf_115 : decode prog_13_method_23_code 115 = .ok (.if_icmp .ne 8, 3) := by decide +kernel
theorem dM_classOf_118 : decode prog_13_method_23_code 118 = .ok (.bipush 6, 2) := by decide +kernel
theorem dM_classOf_120 : decode prog_13_method_23_code 120 = .ok (.goto 4, 3) := by decide +kernel
theorem dM_classOf_123 : decode prog_13_method_23_code 123 = .ok (.iconst 0, 1) := by decide +kernel
theorem dM_classOf_124 : decode prog_13_method_23_code 124 = .ok (.ireturn, 1) := by decide +kernel
theorem dM_soundOf_0 : decode prog_13_method_24_code 0 = .ok (.aload_n 0, 1) := by decide +kernel
theorem dM_soundOf_1 : decode prog_13_method_24_code 1 = .ok (.getfield 179, 3) := by decide +kernel
theorem dM_soundOf_4 : decode prog_13_method_24_code 4 = .ok (.ifCond .ne 5, 3) := by decide +kernel
theorem dM_soundOf_7 : decode prog_13_method_24_code 7 = .ok (.iconst 0, 1) := by decide +kernel
theorem dM_soundOf_8 : decode prog_13_method_24_code 8 = .ok (.ireturn, 1) := by decide +kernel
theorem dM_soundOf_9 : decode prog_13_method_24_code 9 = .ok (.aload_n 0, 1) := by decide +kernel
theorem dM_soundOf_10 : decode prog_13_method_24_code 10 = .ok (.getfield 110, 3) := by decide +kernel
theorem dM_soundOf_13 : decode prog_13_method_24_code 13 = .ok (.iconst 0, 1) := by decide +kernel
theorem dM_soundOf_14 : decode prog_13_method_24_code 14 = .ok (.iaload, 1) := by decide +kernel
theorem dM_soundOf_15 : decode prog_13_method_24_code 15 = .ok (.bipush 96, 2) := by decide +kernel
theorem dM_soundOf_17 : decode prog_13_method_24_code 17 = .ok (.isub, 1) := by decide +kernel
theorem dM_soundOf_18 : decode prog_13_method_24_code 18 = .ok (.istore_n 1, 1) := by decide +kernel
theorem dM_soundOf_19 : decode prog_13_method_24_code 19 = .ok (.iconst 1, 1) := by decide +kernel
theorem dM_soundOf_20 : decode prog_13_method_24_code 20 = .ok (.istore_n 2, 1) := by decide +kernel
theorem dM_soundOf_21 : decode prog_13_method_24_code 21 = .ok (.iconst 1, 1) := by decide +kernel
theorem dM_soundOf_22 : decode prog_13_method_24_code 22 = .ok (.istore_n 3, 1) := by decide +kernel
theorem dM_soundOf_23 : decode prog_13_method_24_code 23 = .ok (.iload_n 3, 1) := by decide +kernel
theorem dM_soundOf_24 : decode prog_13_method_24_code 24 = .ok (.aload_n 0, 1) := by decide +kernel
theorem dM_soundOf_25 : decode prog_13_method_24_code 25 = .ok (.getfield 179, 3) := by decide +kernel
theorem dM_soundOf_28 : decode prog_13_method_24_code 28 = .ok (.if_icmp .ge 60, 3) := by decide +kernel
theorem dM_soundOf_31 : decode prog_13_method_24_code 31 = .ok (.iload_n 2, 1) := by decide +kernel
theorem dM_soundOf_32 : decode prog_13_method_24_code 32 = .ok (.iconst 4, 1) := by decide +kernel
theorem dM_soundOf_33 : decode prog_13_method_24_code 33 = .ok (.if_icmp .ge 55, 3) := by decide +kernel
theorem dM_soundOf_36 : decode prog_13_method_24_code 36 = .ok (.aload_n 0, 1) := by decide +kernel
theorem dM_soundOf_37 : decode prog_13_method_24_code 37 = .ok (.getfield 110, 3) := by decide +kernel
theorem dM_soundOf_40 : decode prog_13_method_24_code 40 = .ok (.iload_n 3, 1) := by decide +kernel
theorem dM_soundOf_41 : decode prog_13_method_24_code 41 = .ok (.iaload, 1) := by decide +kernel
theorem dM_soundOf_42 : decode prog_13_method_24_code 42 = .ok (.invokestatic 185, 3) := by decide +kernel
theorem dM_soundOf_45 : decode prog_13_method_24_code 45 = .ok (.istore 4, 2) := by decide +kernel
theorem dM_soundOf_47 : decode prog_13_method_24_code 47 = .ok (.iload 4, 2) := by decide +kernel
theorem dM_soundOf_49 : decode prog_13_method_24_code 49 = .ok (.ifCond .eq 33, 3) := by decide +kernel
theorem dM_soundOf_52 : decode prog_13_method_24_code 52 = .ok (.iload 4, 2) := by decide +kernel
theorem dM_soundOf_54 : decode prog_13_method_24_code 54 = .ok (.aload_n 0, 1) := by decide +kernel
theorem dM_soundOf_55 : decode prog_13_method_24_code 55 = .ok (.getfield 110, 3) := by decide +kernel
theorem dM_soundOf_58 : decode prog_13_method_24_code 58 = .ok (.iload_n 3, 1) := by decide +kernel
theorem dM_soundOf_59 : decode prog_13_method_24_code 59 = .ok (.iconst 1, 1) := by decide +kernel
theorem dM_soundOf_60 : decode prog_13_method_24_code 60 = .ok (.isub, 1) := by decide +kernel
theorem dM_soundOf_61 : decode prog_13_method_24_code 61 = .ok (.iaload, 1) := by decide +kernel
theorem dM_soundOf_62 : decode prog_13_method_24_code 62 = .ok (.invokestatic 185, 3) := by decide +kernel
theorem dM_soundOf_65 : decode prog_13_method_24_code 65 = .ok (.if_icmp .ne 6, 3) := by decide +kernel
theorem dM_soundOf_68 : decode prog_13_method_24_code 68 = .ok (.goto 14, 3) := by decide +kernel
theorem dM_soundOf_71 : decode prog_13_method_24_code 71 = .ok (.iload_n 1, 1) := by decide +kernel
theorem dM_soundOf_72 : decode prog_13_method_24_code 72 = .ok (.bipush 32, 2) := by decide +kernel
theorem dM_soundOf_74 : decode prog_13_method_24_code 74 = .ok (.imul, 1) := by decide +kernel
theorem dM_soundOf_75 : decode prog_13_method_24_code 75 = .ok (.iload 4, 2) := by decide +kernel
theorem dM_soundOf_77 : decode prog_13_method_24_code 77 = .ok (.iadd, 1) := by decide +kernel
theorem dM_soundOf_78 : decode prog_13_method_24_code 78 = .ok (.istore_n 1, 1) := by decide +kernel
theorem dM_soundOf_79 : decode prog_13_method_24_code 79 = .ok (.iinc 2 1, 3) := by decide +kernel
theorem dM_soundOf_82 : decode prog_13_method_24_code 82 = .ok (.iinc 3 1, 3) := by decide +kernel
theorem dM_soundOf_85 : decode prog_13_method_24_code 85 = .ok (.goto (-62), 3) := by decide +kernel
theorem dM_soundOf_88 : decode prog_13_method_24_code 88 = .ok (.iload_n 1, 1) := by decide +kernel
theorem dM_soundOf_89 : decode prog_13_method_24_code 89 = .ok (.ireturn, 1) := by decide +kernel
theorem dM_sound_0 : decode prog_13_method_25_code 0 = .ok (.aload_n 0, 1) := by decide +kernel
theorem dM_sound_1 : decode prog_13_method_25_code 1 = .ok (.iconst 0, 1) := by decide +kernel
theorem dM_sound_2 : decode prog_13_method_25_code 2 = .ok (.putfield 132, 3) := by decide +kernel
theorem dM_sound_5 : decode prog_13_method_25_code 5 = .ok (.aload_n 0, 1) := by decide +kernel
theorem dM_sound_6 : decode prog_13_method_25_code 6 = .ok (.invokevirtual 188, 3) := by decide +kernel
theorem dM_sound_9 : decode prog_13_method_25_code 9 = .ok (.aload_n 0, 1) := by decide +kernel
theorem dM_sound_10 : decode prog_13_method_25_code 10 = .ok (.invokevirtual 191, 3) := by decide +kernel
theorem dM_sound_13 : decode prog_13_method_25_code 13 = .ok (.ireturn, 1) := by decide +kernel
theorem dM_name_0 : decode prog_13_method_26_code 0 = .ok (.aload_n 0, 1) := by decide +kernel
theorem dM_name_1 : decode prog_13_method_26_code 1 = .ok (.aload_n 0, 1) := by decide +kernel
theorem dM_name_2 : decode prog_13_method_26_code 2 = .ok (.iload_n 1, 1) := by decide +kernel
theorem dM_name_3 : decode prog_13_method_26_code 3 = .ok (.invokevirtual 154, 3) := by decide +kernel
theorem dM_name_6 : decode prog_13_method_26_code 6 = .ok (.ifCond .eq 18, 3) := by decide +kernel
theorem dM_name_9 : decode prog_13_method_26_code 9 = .ok (.iload_n 2, 1) := by decide +kernel
theorem dM_name_10 : decode prog_13_method_26_code 10 = .ok (.iload_n 3, 1) := by decide +kernel
theorem dM_name_11 : decode prog_13_method_26_code 11 = .ok (.invokestatic 195, 3) := by decide +kernel
theorem dM_name_14 : decode prog_13_method_26_code 14 = .ok (.ifCond .eq 10, 3) := by decide +kernel
theorem dM_name_17 : decode prog_13_method_26_code 17 = .ok (.aload_n 0, 1) := by decide +kernel
theorem dM_name_18 : decode prog_13_method_26_code 18 = .ok (.getfield 172, 3) := by decide +kernel
theorem dM_name_21 : decode prog_13_method_26_code 21 = .ok (.ifCond .ne 7, 3) := by decide +kernel
theorem dM_name_24 : decode prog_13_method_26_code 24 = .ok (.iconst 1, 1) := by decide +kernel
theorem dM_name_25 : decode prog_13_method_26_code 25 = .ok (.goto 18, 3) := by decide +kernel
theorem dM_name_28 : decode prog_13_method_26_code 28 = .ok (.aload_n 0, 1) := by decide +kernel
theorem dM_name_29 : decode prog_13_method_26_code 29 = .ok (.getfield 31, 3) := by decide +kernel
theorem dM_name_32 : decode prog_13_method_26_code 32 = .ok (.iload_n 1, 1) := by decide +kernel
theorem dM_name_33 : decode prog_13_method_26_code 33 = .ok (.iaload, 1) := by decide +kernel
theorem dM_name_34 : decode prog_13_method_26_code 34 = .ok (.iconst 2, 1) := by decide +kernel
theorem dM_name_35 : decode prog_13_method_26_code 35 = .ok (.if_icmp .ne 7, 3) := by decide +kernel
theorem dM_name_38 : decode prog_13_method_26_code 38 = .ok (.iconst 2, 1) := by decide +kernel
theorem dM_name_39 : decode prog_13_method_26_code 39 = .ok (.goto 4, 3) := by decide +kernel
theorem dM_name_42 : decode prog_13_method_26_code 42 = .ok (.iconst 0, 1) := by decide +kernel
theorem dM_name_43 : decode prog_13_method_26_code 43 = .ok (.putfield 132, 3) := by decide +kernel
theorem dM_name_46 : decode prog_13_method_26_code 46 = .ok (.aload_n 0, 1) := by decide +kernel
theorem dM_name_47 : decode prog_13_method_26_code 47 = .ok (.getfield 132, 3) := by decide +kernel
theorem dM_name_50 : decode prog_13_method_26_code 50 = .ok (.ifCond .le 4, 3) := by decide +kernel
theorem dM_name_53 : decode prog_13_method_26_code 53 = .ok (.return_, 1) := by decide +kernel
theorem dM_name_54 : decode prog_13_method_26_code 54 = .ok (.iconst 2, 1) := by decide +kernel
theorem dM_name_55 : decode prog_13_method_26_code 55 = .ok (.iload_n 1, 1) := by decide +kernel
theorem dM_name_56 : decode prog_13_method_26_code 56 = .ok (.imul, 1) := by decide +kernel
theorem dM_name_57 : decode prog_13_method_26_code 57 = .ok (.aload_n 0, 1) := by decide +kernel
theorem dM_name_58 : decode prog_13_method_26_code 58 = .ok (.getfield 31, 3) := by decide +kernel
theorem dM_name_61 : decode prog_13_method_26_code 61 = .ok (.iload_n 1, 1) := by decide +kernel
theorem dM_name_62 : decode prog_13_method_26_code 62 = .ok (.iaload, 1) := by decide +kernel
theorem dM_name_63 : decode prog_13_method_26_code 63 = .ok (.iadd, 1) := by decide +kernel
theorem dM_name_64 : decode prog_13_method_26_code 64 = .ok (.istore 4, 2) := by decide +kernel
theorem dM_name_66 : decode prog_13_method_26_code 66 = .ok (.aload_n 0, 1) := by decide +kernel
theorem dM_name_67 : decode prog_13_method_26_code 67 = .ok (.getfield 31, 3) := by decide +kernel
theorem dM_name_70 : decode prog_13_method_26_code 70 = .ok (.iload_n 1, 1) := by decide +kernel
theorem dM_name_71 : decode prog_13_method_26_code 71 = .ok (.dup2, 1) := by decide +kernel
theorem dM_name_72 : decode prog_13_method_26_code 72 = .ok (.iaload, 1) := by decide +kernel
theorem dM_name_73 : decode prog_13_method_26_code 73 = .ok (.iconst 1, 1) := by decide +kernel
theorem dM_name_74 : decode prog_13_method_26_code 74 = .ok (.iadd, 1) := by decide +kernel
theorem dM_name_75 : decode prog_13_method_26_code 75 = .ok (.iastore, 1) := by decide +kernel
theorem dM_name_76 : decode prog_13_method_26_code 76 = .ok (.aload_n 0, 1) := by decide +kernel
theorem dM_name_77 : decode prog_13_method_26_code 77 = .ok (.invokevirtual 188, 3) := by decide +kernel
theorem dM_name_80 : decode prog_13_method_26_code 80 = .ok (.aload_n 0, 1) := by decide +kernel
theorem dM_name_81 : decode prog_13_method_26_code 81 = .ok (.getfield 34, 3) := by decide +kernel
theorem dM_name_84 : decode prog_13_method_26_code 84 = .ok (.iload 4, 2) := by decide +kernel
theorem dM_name_86 : decode prog_13_method_26_code 86 = .ok (.iload_n 2, 1) := by decide +kernel
theorem dM_name_87 : decode prog_13_method_26_code 87 = .ok (.iastore, 1) := by decide +kernel
theorem dM_name_88 : decode prog_13_method_26_code 88 = .ok (.aload_n 0, 1) := by decide +kernel
theorem dM_name_89 : decode prog_13_method_26_code 89 = .ok (.getfield 37, 3) := by decide +kernel
theorem dM_name_92 : decode prog_13_method_26_code 92 = .ok (.iload 4, 2) := by decide +kernel
theorem dM_name_94 : decode prog_13_method_26_code 94 = .ok (.iload_n 3, 1) := by decide +kernel
theorem dM_name_95 : decode prog_13_method_26_code 95 = .ok (.iastore, 1) := by decide +kernel
theorem dM_name_96 : decode prog_13_method_26_code 96 = .ok (.aload_n 0, 1) := by decide +kernel
theorem dM_name_97 : decode prog_13_method_26_code 97 = .ok (.getfield 40, 3) := by decide +kernel
theorem dM_name_100 : decode prog_13_method_26_code 100 = .ok (.iload 4, 2) := by decide +kernel
theorem dM_name_102 : decode prog_13_method_26_code 102 = .ok (.aload_n 0, 1) := by decide +kernel
theorem dM_name_103 : decode prog_13_method_26_code 103 = .ok (.getfield 179, 3) := by decide +kernel
theorem dM_name_106 : decode prog_13_method_26_code 106 = .ok (.iastore, 1) := by decide +kernel
theorem dM_name_107 : decode prog_13_method_26_code 107 = .ok (.iconst 0, 1) := by decide +kernel
theorem dM_name_108 : decode prog_13_method_26_code 108 = .ok (.istore 5, 2) := by decide +kernel
theorem dM_name_110 : decode prog_13_method_26_code 110 = .ok (.iload 5, 2) := by decide +kernel
theorem dM_name_112 : decode prog_13_method_26_code 112 = .ok (.aload_n 0, 1) := by decide +kernel
theorem dM_name_113 : decode prog_13_method_26_code 113 = .ok (.getfield 179, 3) := by decide +kernel
theorem dM_name_116 : decode prog_13_method_26_code 116 = .ok (.if_icmp .ge 29, 3) := by decide +kernel
theorem dM_name_119 : decode prog_13_method_26_code 119 = .ok (.aload_n 0, 1) := by decide +kernel
theorem dM_name_120 : decode prog_13_method_26_code 120 = .ok (.getfield 43, 3) := by decide +kernel
theorem dM_name_123 : decode prog_13_method_26_code 123 = .ok (.bipush 10, 2) := by decide +kernel
theorem dM_name_125 : decode prog_13_method_26_code 125 = .ok (.iload 4, 2) := by decide +kernel
theorem dM_name_127 : decode prog_13_method_26_code 127 = .ok (.imul, 1) := by decide +kernel
theorem dM_name_128 : decode prog_13_method_26_code 128 = .ok (.iload 5, 2) := by decide +kernel
theorem dM_name_130 : decode prog_13_method_26_code 130 = .ok (.iadd, 1) := by decide +kernel
theorem dM_name_131 : decode prog_13_method_26_code 131 = .ok (.aload_n 0, 1) := by decide +kernel
theorem dM_name_132 : decode prog_13_method_26_code 132 = .ok (.getfield 110, 3) := by decide +kernel
theorem dM_name_135 : decode prog_13_method_26_code 135 = .ok (.iload 5, 2) := by decide +kernel
theorem dM_name_137 : decode prog_13_method_26_code 137 = .ok (.iaload, 1) := by decide +kernel
theorem dM_name_138 : decode prog_13_method_26_code 138 = .ok (.iastore, 1) := by decide +kernel
theorem dM_name_139 : decode prog_13_method_26_code 139 = .ok (.iinc 5 1, 3) := by decide +kernel
theorem dM_name_142 : decode prog_13_method_26_code 142 = .ok (.goto (-32), 3) := by decide +kernel
theorem dM_name_145 : decode prog_13_method_26_code 145 = .ok (.aload_n 0, 1) := by decide +kernel
theorem dM_name_146 : decode prog_13_method_26_code 146 = .ok (.iconst 0, 1) := by decide +kernel
theorem dM_name_147 : decode prog_13_method_26_code 147 = .ok (.putfield 172, 3) := by decide +kernel
theorem dM_name_150 : decode prog_13_method_26_code 150 = .ok (.return_, 1) := by decide +kernel
theorem dM_errorsTo_0 : decode prog_13_method_27_code 0 = .ok (.iconst 0, 1) := by decide +kernel
theorem dM_errorsTo_1 : decode prog_13_method_27_code 1 = .ok (.istore 4, 2) := by decide +kernel
theorem dM_errorsTo_3 : decode prog_13_method_27_code 3 = .ok (.iload 4, 2) := by decide +kernel
theorem dM_errorsTo_5 : decode prog_13_method_27_code 5 = .ok (.aload_n 0, 1) := by decide +kernel
theorem dM_errorsTo_6 : decode prog_13_method_27_code 6 = .ok (.getfield 179, 3) := by decide +kernel
theorem dM_errorsTo_9 : decode prog_13_method_27_code 9 = .ok (.if_icmp .gt 293, 3) := by decide +kernel
theorem dM_errorsTo_12 : decode prog_13_method_27_code 12 = .ok (.iconst 0, 1) := by decide +kernel
theorem dM_errorsTo_13 : decode prog_13_method_27_code 13 = .ok (.istore 5, 2) := by decide +kernel
theorem dM_errorsTo_15 : decode prog_13_method_27_code 15 = .ok (.iload 5, 2) := by decide +kernel
theorem dM_errorsTo_17 : decode prog_13_method_27_code 17 = .ok (.iload_n 3, 1) := by decide +kernel
theorem dM_errorsTo_18 : decode prog_13_method_27_code 18 = .ok (.if_icmp .gt 278, 3) := by decide +kernel
theorem dM_errorsTo_21 : decode prog_13_method_27_code 21 = .ok (.iload 4, 2) := by decide +kernel
theorem dM_errorsTo_23 : decode prog_13_method_27_code 23 = .ok (.ifCond .ne 8, 3) := by decide +kernel
theorem dM_errorsTo_26 : decode prog_13_method_27_code 26 = .ok (.iload 5, 2) := by decide +kernel
theorem dM_errorsTo_28 : decode prog_13_method_27_code 28 = .ok (.goto 56, 3) := by decide +kernel
theorem dM_errorsTo_31 : decode prog_13_method_27_code 31 = .ok (.iload 5, 2) := by decide +kernel
theorem dM_errorsTo_33 : decode prog_13_method_27_code 33 = .ok (.ifCond .ne 8, 3) := by decide +kernel
theorem dM_errorsTo_36 : decode prog_13_method_27_code 36 = .ok (.iload 4, 2) := by decide +kernel
theorem dM_errorsTo_38 : decode prog_13_method_27_code 38 = .ok (.goto 46, 3) := by decide +kernel
theorem dM_errorsTo_41 : decode prog_13_method_27_code 41 = .ok (.aload_n 0, 1) := by decide +kernel
theorem dM_errorsTo_42 : decode prog_13_method_27_code 42 = .ok (.getfield 113, 3) := by decide +kernel
theorem dM_errorsTo_45 : decode prog_13_method_27_code 45 = .ok (.bipush 11, 2) := by decide +kernel
theorem dM_errorsTo_47 : decode prog_13_method_27_code 47 = .ok (.iload 4, 2) := by decide +kernel
theorem dM_errorsTo_49 : decode prog_13_method_27_code 49 = .ok (.iconst 1, 1) := by decide +kernel
theorem dM_errorsTo_50 : decode prog_13_method_27_code 50 = .ok (.isub, 1) := by decide +kernel
theorem dM_errorsTo_51 : decode prog_13_method_27_code 51 = .ok (.imul, 1) := by decide +kernel
theorem dM_errorsTo_52 : decode prog_13_method_27_code 52 = .ok (.iload 5, 2) := by decide +kernel
theorem dM_errorsTo_54 : decode prog_13_method_27_code 54 = .ok (.iadd, 1) := by decide +kernel
theorem dM_errorsTo_55 : decode prog_13_method_27_code 55 = .ok (.iconst 1, 1) := by decide +kernel
theorem dM_errorsTo_56 : decode prog_13_method_27_code 56 = .ok (.isub, 1) := by decide +kernel
theorem dM_errorsTo_57 : decode prog_13_method_27_code 57 = .ok (.iaload, 1) := by decide +kernel
theorem dM_errorsTo_58 : decode prog_13_method_27_code 58 = .ok (.aload_n 0, 1) := by decide +kernel
theorem dM_errorsTo_59 : decode prog_13_method_27_code 59 = .ok (.getfield 110, 3) := by decide +kernel
theorem dM_errorsTo_62 : decode prog_13_method_27_code 62 = .ok (.iload 4, 2) := by decide +kernel
theorem dM_errorsTo_64 : decode prog_13_method_27_code 64 = .ok (.iconst 1, 1) := by decide +kernel
theorem dM_errorsTo_65 : decode prog_13_method_27_code 65 = .ok (.isub, 1) := by decide +kernel
theorem dM_errorsTo_66 : decode prog_13_method_27_code 66 = .ok (.iaload, 1) := by decide +kernel
theorem dM_errorsTo_67 : decode prog_13_method_27_code 67 = .ok (.aload_n 1, 1) := by decide +kernel
theorem dM_errorsTo_68 : decode prog_13_method_27_code 68 = .ok (.iload_n 2, 1) := by decide +kernel
theorem dM_errorsTo_69 : decode prog_13_method_27_code 69 = .ok (.iload 5, 2) := by decide +kernel
theorem dM_errorsTo_71 : decode prog_13_method_27_code 71 = .ok (.iadd, 1) := by decide +kernel
theorem dM_errorsTo_72 : decode prog_13_method_27_code 72 = .ok (.iconst 1, 1) := by decide +kernel
theorem dM_errorsTo_73 : decode prog_13_method_27_code 73 = .ok (.isub, 1) := by decide +kernel
theorem dM_errorsTo_74 : decode prog_13_method_27_code 74 = .ok (.iaload, 1) := by decide +kernel
theorem dM_errorsTo_75 : decode prog_13_method_27_code 75 = .ok (.if_icmp .ne 7, 3) := by decide +kernel
theorem dM_errorsTo_78 : decode prog_13_method_27_code 78 = .ok (.iconst 0, 1) := by decide +kernel
theorem dM_errorsTo_79 : decode prog_13_method_27_code 79 = .ok (.goto 4, 3) := by decide +kernel
theorem dM_errorsTo_82 : decode prog_13_method_27_code 82 = .ok (.iconst 1, 1) := by decide +kernel
theorem dM_errorsTo_83 : decode prog_13_method_27_code 83 = .ok (.iadd, 1) := by decide +kernel
theorem dM_errorsTo_84 : decode prog_13_method_27_code 84 = .ok (.istore 6, 2) := by decide +kernel
theorem dM_errorsTo_86 : decode prog_13_method_27_code 86 = .ok (.iload 4, 2) := by decide +kernel
theorem dM_errorsTo_88 : decode prog_13_method_27_code 88 = .ok (.ifCond .le 78, 3) := by decide +kernel
theorem dM_errorsTo_91 : decode prog_13_method_27_code 91 = .ok (.iload 5, 2) := by decide +kernel
theorem dM_errorsTo_93 : decode prog_13_method_27_code 93 = .ok (.ifCond .le 73, 3) := by decide +kernel
theorem dM_errorsTo_96 : decode prog_13_method_27_code 96 = .ok (.aload_n 0, 1) := by decide +kernel
theorem dM_errorsTo_97 : decode prog_13_method_27_code 97 = .ok (.getfield 113, 3) := by decide +kernel
theorem dM_errorsTo_100 : decode prog_13_method_27_code 100 = .ok (.bipush 11, 2) := by decide +kernel
theorem dM_errorsTo_102 : decode prog_13_method_27_code 102 = .ok (.iload 4, 2) := by decide +kernel
theorem dM_errorsTo_104 : decode prog_13_method_27_code 104 = .ok (.iconst 1, 1) := by decide +kernel
theorem dM_errorsTo_105 : decode prog_13_method_27_code 105 = .ok (.isub, 1) := by decide +kernel
theorem dM_errorsTo_106 : decode prog_13_method_27_code 106 = .ok (.imul, 1) := by decide +kernel
theorem dM_errorsTo_107 : decode prog_13_method_27_code 107 = .ok (.iload 5, 2) := by decide +kernel
theorem dM_errorsTo_109 : decode prog_13_method_27_code 109 = .ok (.iadd, 1) := by decide +kernel
theorem dM_errorsTo_110 : decode prog_13_method_27_code 110 = .ok (.iaload, 1) := by decide +kernel
theorem dM_errorsTo_111 : decode prog_13_method_27_code 111 = .ok (.iconst 1, 1) := by decide +kernel
theorem dM_errorsTo_112 : decode prog_13_method_27_code 112 = .ok (.iadd, 1) := by decide +kernel
theorem dM_errorsTo_113 : decode prog_13_method_27_code 113 = .ok (.istore 7, 2) := by decide +kernel
theorem dM_errorsTo_115 : decode prog_13_method_27_code 115 = .ok (.aload_n 0, 1) := by decide +kernel
theorem dM_errorsTo_116 : decode prog_13_method_27_code 116 = .ok (.getfield 113, 3) := by decide +kernel
theorem dM_errorsTo_119 : decode prog_13_method_27_code 119 = .ok (.bipush 11, 2) := by decide +kernel
theorem dM_errorsTo_121 : decode prog_13_method_27_code 121 = .ok (.iload 4, 2) := by decide +kernel
theorem dM_errorsTo_123 : decode prog_13_method_27_code 123 = .ok (.imul, 1) := by decide +kernel
theorem dM_errorsTo_124 : decode prog_13_method_27_code 124 = .ok (.iload 5, 2) := by decide +kernel
theorem dM_errorsTo_126 : decode prog_13_method_27_code 126 = .ok (.iadd, 1) := by decide +kernel
theorem dM_errorsTo_127 : decode prog_13_method_27_code 127 = .ok (.iconst 1, 1) := by decide +kernel
theorem dM_errorsTo_128 : decode prog_13_method_27_code 128 = .ok (.isub, 1) := by decide +kernel
theorem dM_errorsTo_129 : decode prog_13_method_27_code 129 = .ok (.iaload, 1) := by decide +kernel
theorem dM_errorsTo_130 : decode prog_13_method_27_code 130 = .ok (.iconst 1, 1) := by decide +kernel
theorem dM_errorsTo_131 : decode prog_13_method_27_code 131 = .ok (.iadd, 1) := by decide +kernel
theorem dM_errorsTo_132 : decode prog_13_method_27_code 132 = .ok (.istore 8, 2) := by decide +kernel
theorem dM_errorsTo_134 : decode prog_13_method_27_code 134 = .ok (.iload 7, 2) := by decide +kernel
theorem dM_errorsTo_136 : decode prog_13_method_27_code 136 = .ok (.iload 6, 2) := by decide +kernel
theorem dM_errorsTo_138 : decode prog_13_method_27_code 138 = .ok (.if_icmp .ge 8, 3) := by decide +kernel
theorem dM_errorsTo_141 : decode prog_13_method_27_code 141 = .ok (.iload 7, 2) := by decide +kernel
theorem dM_errorsTo_143 : decode prog_13_method_27_code 143 = .ok (.goto 5, 3) := by decide +kernel
theorem dM_errorsTo_146 : decode prog_13_method_27_code 146 = .ok (.iload 6, 2) := by decide +kernel
theorem dM_errorsTo_148 : decode prog_13_method_27_code 148 = .ok (.istore 6, 2) := by decide +kernel
theorem dM_errorsTo_150 : decode prog_13_method_27_code 150 = .ok (.iload 8, 2) := by decide +kernel
theorem dM_errorsTo_152 : decode prog_13_method_27_code 152 = .ok (.iload 6, 2) := by decide +kernel
theorem dM_errorsTo_154 : decode prog_13_method_27_code 154 = .ok (.if_icmp .ge 8, 3) := by decide +kernel
theorem dM_errorsTo_157 : decode prog_13_method_27_code 157 = .ok (.iload 8, 2) := by decide +kernel
theorem dM_errorsTo_159 : decode prog_13_method_27_code 159 = .ok (.goto 5, 3) := by decide +kernel
theorem dM_errorsTo_162 : decode prog_13_method_27_code 162 = .ok (.iload 6, 2) := by decide +kernel
theorem dM_errorsTo_164 : decode prog_13_method_27_code 164 = .ok (.istore 6, 2) := by decide +kernel
theorem dM_errorsTo_166 : decode prog_13_method_27_code 166 = .ok (.iload 4, 2) := by decide +kernel
theorem dM_errorsTo_168 : decode prog_13_method_27_code 168 = .ok (.iconst 1, 1) := by decide +kernel
theorem dM_errorsTo_169 : decode prog_13_method_27_code 169 = .ok (.if_icmp .le 53, 3) := by decide +kernel
theorem dM_errorsTo_172 : decode prog_13_method_27_code 172 = .ok (.iload 5, 2) := by decide +kernel
theorem dM_errorsTo_174 : decode prog_13_method_27_code 174 = .ok (.iconst 1, 1) := by decide +kernel
theorem dM_errorsTo_175 : decode prog_13_method_27_code 175 = .ok (.if_icmp .le 47, 3) := by decide +kernel
theorem dM_errorsTo_178 : decode prog_13_method_27_code 178 = .ok (.aload_n 0, 1) := by decide +kernel
theorem dM_errorsTo_179 : decode prog_13_method_27_code 179 = .ok (.getfield 110, 3) := by decide +kernel
theorem dM_errorsTo_182 : decode prog_13_method_27_code 182 = .ok (.iload 4, 2) := by decide +kernel
theorem dM_errorsTo_184 : decode prog_13_method_27_code 184 = .ok (.iconst 1, 1) := by decide +kernel
theorem dM_errorsTo_185 : decode prog_13_method_27_code 185 = .ok (.isub, 1) := by decide +kernel
theorem dM_errorsTo_186 : decode prog_13_method_27_code 186 = .ok (.iaload, 1) := by decide +kernel
theorem dM_errorsTo_187 : decode prog_13_method_27_code 187 = .ok (.aload_n 1, 1) := by decide +kernel
theorem dM_errorsTo_188 : decode prog_13_method_27_code 188 = .ok (.iload_n 2, 1) := by decide +kernel
theorem dM_errorsTo_189 : decode prog_13_method_27_code 189 = .ok (.iload 5, 2) := by decide +kernel
theorem dM_errorsTo_191 : decode prog_13_method_27_code 191 = .ok (.iadd, 1) := by decide +kernel
theorem dM_errorsTo_192 : decode prog_13_method_27_code 192 = .ok (.iconst 2, 1) := by decide +kernel
theorem dM_errorsTo_193 : decode prog_13_method_27_code 193 = .ok (.isub, 1) := by decide +kernel
theorem dM_errorsTo_194 : decode prog_13_method_27_code 194 = .ok (.iaload, 1) := by decide +kernel
theorem dM_errorsTo_195 : decode prog_13_method_27_code 195 = .ok (.if_icmp .ne 27, 3) := by decide +kernel
theorem dM_errorsTo_198 : decode prog_13_method_27_code 198 = .ok (.aload_n 0, 1) := by decide +kernel
theorem dM_errorsTo_199 : decode prog_13_method_27_code 199 = .ok (.getfield 110, 3) := by decide +kernel
theorem dM_errorsTo_202 : decode prog_13_method_27_code 202 = .ok (.iload 4, 2) := by decide +kernel
theorem dM_errorsTo_204 : decode prog_13_method_27_code 204 = .ok (.iconst 2, 1) := by decide +kernel
theorem dM_errorsTo_205 : decode prog_13_method_27_code 205 = .ok (.isub, 1) := by decide +kernel
theorem dM_errorsTo_206 : decode prog_13_method_27_code 206 = .ok (.iaload, 1) := by decide +kernel
theorem dM_errorsTo_207 : decode prog_13_method_27_code 207 = .ok (.aload_n 1, 1) := by decide +kernel
theorem dM_errorsTo_208 : decode prog_13_method_27_code 208 = .ok (.iload_n 2, 1) := by decide +kernel
theorem dM_errorsTo_209 : decode prog_13_method_27_code 209 = .ok (.iload 5, 2) := by decide +kernel
theorem dM_errorsTo_211 : decode prog_13_method_27_code 211 = .ok (.iadd, 1) := by decide +kernel
theorem dM_errorsTo_212 : decode prog_13_method_27_code 212 = .ok (.iconst 1, 1) := by decide +kernel
theorem dM_errorsTo_213 : decode prog_13_method_27_code 213 = .ok (.isub, 1) := by decide +kernel
theorem dM_errorsTo_214 : decode prog_13_method_27_code 214 = .ok (.iaload, 1) := by decide +kernel
theorem dM_errorsTo_215 : decode prog_13_method_27_code 215 = .ok (.if_icmp .ne 7, 3) := by decide +kernel
theorem dM_errorsTo_218 : decode prog_13_method_27_code 218 = .ok (.iconst 1, 1) := by decide +kernel
theorem dM_errorsTo_219 : decode prog_13_method_27_code 219 = .ok (.goto 4, 3) := by decide +kernel
theorem dM_errorsTo_222 : decode prog_13_method_27_code 222 = .ok (.iconst 0, 1) := by decide +kernel
theorem dM_errorsTo_223 : decode prog_13_method_27_code 223 = .ok (.istore 7, 2) := by decide +kernel
theorem dM_errorsTo_225 : decode prog_13_method_27_code 225 = .ok (.iload 7, 2) := by decide +kernel
theorem dM_errorsTo_227 : decode prog_13_method_27_code 227 = .ok (.ifCond .eq 48, 3) := by decide +kernel
theorem dM_errorsTo_230 : decode prog_13_method_27_code 230 = .ok (.aload_n 0, 1) := by decide +kernel
theorem dM_errorsTo_231 : decode prog_13_method_27_code 231 = .ok (.getfield 113, 3) := by decide +kernel
theorem dM_errorsTo_234 : decode prog_13_method_27_code 234 = .ok (.bipush 11, 2) := by decide +kernel
theorem dM_errorsTo_236 : decode prog_13_method_27_code 236 = .ok (.iload 4, 2) := by decide +kernel
theorem dM_errorsTo_238 : decode prog_13_method_27_code 238 = .ok (.iconst 2, 1) := by decide +kernel
theorem dM_errorsTo_239 : decode prog_13_method_27_code 239 = .ok (.isub, 1) := by decide +kernel
theorem dM_errorsTo_240 : decode prog_13_method_27_code 240 = .ok (.imul, 1) := by decide +kernel
theorem dM_errorsTo_241 : decode prog_13_method_27_code 241 = .ok (.iload 5, 2) := by decide +kernel
theorem dM_errorsTo_243 : decode prog_13_method_27_code 243 = .ok (.iadd, 1) := by decide +kernel
theorem dM_errorsTo_244 : decode prog_13_method_27_code 244 = .ok (.iconst 2, 1) := by decide +kernel
theorem dM_errorsTo_245 : decode prog_13_method_27_code 245 = .ok (.isub, 1) := by decide +kernel
theorem dM_errorsTo_246 : decode prog_13_method_27_code 246 = .ok (.iaload, 1) := by decide +kernel
theorem dM_errorsTo_247 : decode prog_13_method_27_code 247 = .ok (.iconst 1, 1) := by decide +kernel
theorem dM_errorsTo_248 : decode prog_13_method_27_code 248 = .ok (.iadd, 1) := by decide +kernel
theorem dM_errorsTo_249 : decode prog_13_method_27_code 249 = .ok (.iload 6, 2) := by decide +kernel
theorem dM_errorsTo_251 : decode prog_13_method_27_code 251 = .ok (.if_icmp .ge 24, 3) := by decide +kernel
theorem dM_errorsTo_254 : decode prog_13_method_27_code 254 = .ok (.aload_n 0, 1) := by decide +kernel
theorem dM_errorsTo_255 : decode prog_13_method_27_code 255 = .ok (.getfield 113, 3) := by decide +kernel
theorem dM_errorsTo_258 : decode prog_13_method_27_code 258 = .ok (.bipush 11, 2) := by decide +kernel
theorem dM_errorsTo_260 : decode prog_13_method_27_code 260 = .ok (.iload 4, 2) := by decide +kernel
theorem dM_errorsTo_262 : decode prog_13_method_27_code 262 = .ok (.iconst 2, 1) := by decide +kernel
theorem dM_errorsTo_263 : decode prog_13_method_27_code 263 = .ok (.isub, 1) := by decide +kernel
theorem dM_errorsTo_264 : decode prog_13_method_27_code 264 = .ok (.imul, 1) := by decide +kernel
theorem dM_errorsTo_265 : decode prog_13_method_27_code 265 = .ok (.iload 5, 2) := by decide +kernel
theorem dM_errorsTo_267 : decode prog_13_method_27_code 267 = .ok (.iadd, 1) := by decide +kernel
theorem dM_errorsTo_268 : decode prog_13_method_27_code 268 = .ok (.iconst 2, 1) := by decide +kernel
theorem dM_errorsTo_269 : decode prog_13_method_27_code 269 = .ok (.isub, 1) := by decide +kernel
theorem dM_errorsTo_270 : decode prog_13_method_27_code 270 = .ok (.iaload, 1) := by decide +kernel
theorem dM_errorsTo_271 : decode prog_13_method_27_code 271 = .ok (.iconst 1, 1) := by decide +kernel
theorem dM_errorsTo_272 : decode prog_13_method_27_code 272 = .ok (.iadd, 1) := by decide +kernel
theorem dM_errorsTo_273 : decode prog_13_method_27_code 273 = .ok (.istore 6, 2) := by decide +kernel
theorem dM_errorsTo_275 : decode prog_13_method_27_code 275 = .ok (.aload_n 0, 1) := by decide +kernel
theorem dM_errorsTo_276 : decode prog_13_method_27_code 276 = .ok (.getfield 113, 3) := by decide +kernel
theorem dM_errorsTo_279 : decode prog_13_method_27_code 279 = .ok (.bipush 11, 2) := by decide +kernel
theorem dM_errorsTo_281 : decode prog_13_method_27_code 281 = .ok (.iload 4, 2) := by decide +kernel
theorem dM_errorsTo_283 : decode prog_13_method_27_code 283 = .ok (.imul, 1) := by decide +kernel
theorem dM_errorsTo_284 : decode prog_13_method_27_code 284 = .ok (.iload 5, 2) := by decide +kernel
theorem dM_errorsTo_286 : decode prog_13_method_27_code 286 = .ok (.iadd, 1) := by decide +kernel
theorem dM_errorsTo_287 : decode prog_13_method_27_code 287 = .ok (.iload 6, 2) := by decide +kernel
theorem dM_errorsTo_289 : decode prog_13_method_27_code 289 = .ok (.iastore, 1) := by decide +kernel
theorem dM_errorsTo_290 : decode prog_13_method_27_code 290 = .ok (.iinc 5 1, 3) := by decide +kernel
theorem dM_errorsTo_293 : decode prog_13_method_27_code 293 = .ok (.goto (-278), 3) := by decide +kernel
theorem dM_errorsTo_296 : decode prog_13_method_27_code 296 = .ok (.iinc 4 1, 3) := by decide +kernel
theorem dM_errorsTo_299 : decode prog_13_method_27_code 299 = .ok (.goto (-296), 3) := by decide +kernel
theorem dM_errorsTo_302 : decode prog_13_method_27_code 302 = .ok (.aload_n 0, 1) := by decide +kernel
theorem dM_errorsTo_303 : decode prog_13_method_27_code 303 = .ok (.getfield 113, 3) := by decide +kernel
theorem dM_errorsTo_306 : decode prog_13_method_27_code 306 = .ok (.bipush 11, 2) := by decide +kernel
theorem dM_errorsTo_308 : decode prog_13_method_27_code 308 = .ok (.aload_n 0, 1) := by decide +kernel
theorem dM_errorsTo_309 : decode prog_13_method_27_code 309 = .ok (.getfield 179, 3) := by decide +kernel
theorem dM_errorsTo_312 : decode prog_13_method_27_code 312 = .ok (.imul, 1) := by decide +kernel
theorem dM_errorsTo_313 : decode prog_13_method_27_code 313 = .ok (.iload_n 3, 1) := by decide +kernel
theorem dM_errorsTo_314 : decode prog_13_method_27_code 314 = .ok (.iadd, 1) := by decide +kernel
theorem dM_errorsTo_315 : decode prog_13_method_27_code 315 = .ok (.iaload, 1) := by decide +kernel
theorem dM_errorsTo_316 : decode prog_13_method_27_code 316 = .ok (.ireturn, 1) := by decide +kernel
theorem dM_errors_0 : decode prog_13_method_28_code 0 = .ok (.aload_n 0, 1) := by decide +kernel
theorem dM_errors_1 : decode prog_13_method_28_code 1 = .ok (.aload_n 0, 1) := by decide +kernel
theorem dM_errors_2 : decode prog_13_method_28_code 2 = .ok (.iload_n 1, 1) := by decide +kernel
theorem dM_errors_3 : decode prog_13_method_28_code 3 = .ok (.invokevirtual 154, 3) := by decide +kernel
theorem dM_errors_6 : decode prog_13_method_28_code 6 = .ok (.ifCond .eq 38, 3) := by decide +kernel
theorem dM_errors_9 : decode prog_13_method_28_code 9 = .ok (.iload_n 2, 1) := by decide +kernel
theorem dM_errors_10 : decode prog_13_method_28_code 10 = .ok (.iconst 0, 1) := by decide +kernel
theorem dM_errors_11 : decode prog_13_method_28_code 11 = .ok (.aload_n 0, 1) := by decide +kernel
theorem dM_errors_12 : decode prog_13_method_28_code 12 = .ok (.getfield 31, 3) := by decide +kernel
theorem dM_errors_15 : decode prog_13_method_28_code 15 = .ok (.aload_n 0, 1) := by decide +kernel
theorem dM_errors_16 : decode prog_13_method_28_code 16 = .ok (.iload_n 1, 1) := by decide +kernel
theorem dM_errors_17 : decode prog_13_method_28_code 17 = .ok (.invokevirtual 154, 3) := by decide +kernel
theorem dM_errors_20 : decode prog_13_method_28_code 20 = .ok (.ifCond .eq 7, 3) := by decide +kernel
theorem dM_errors_23 : decode prog_13_method_28_code 23 = .ok (.iload_n 1, 1) := by decide +kernel
theorem dM_errors_24 : decode prog_13_method_28_code 24 = .ok (.goto 4, 3) := by decide +kernel
theorem dM_errors_27 : decode prog_13_method_28_code 27 = .ok (.iconst 0, 1) := by decide +kernel
theorem dM_errors_28 : decode prog_13_method_28_code 28 = .ok (.iaload, 1) := by decide +kernel
theorem dM_errors_29 : decode prog_13_method_28_code 29 = .ok (.iconst 1, 1) := by decide +kernel
theorem dM_errors_30 : decode prog_13_method_28_code 30 = .ok (.isub, 1) := by decide +kernel
theorem dM_errors_31 : decode prog_13_method_28_code 31 = .ok (.invokestatic 139, 3) := by decide +kernel
theorem dM_errors_34 : decode prog_13_method_28_code 34 = .ok (.ifCond .eq 10, 3) := by decide +kernel
theorem dM_errors_37 : decode prog_13_method_28_code 37 = .ok (.aload_n 0, 1) := by decide +kernel
theorem dM_errors_38 : decode prog_13_method_28_code 38 = .ok (.getfield 172, 3) := by decide +kernel
theorem dM_errors_41 : decode prog_13_method_28_code 41 = .ok (.ifCond .ne 7, 3) := by decide +kernel
theorem dM_errors_44 : decode prog_13_method_28_code 44 = .ok (.iconst 1, 1) := by decide +kernel
theorem dM_errors_45 : decode prog_13_method_28_code 45 = .ok (.goto 4, 3) := by decide +kernel
theorem dM_errors_48 : decode prog_13_method_28_code 48 = .ok (.iconst 0, 1) := by decide +kernel
theorem dM_errors_49 : decode prog_13_method_28_code 49 = .ok (.putfield 132, 3) := by decide +kernel
theorem dM_errors_52 : decode prog_13_method_28_code 52 = .ok (.aload_n 0, 1) := by decide +kernel
theorem dM_errors_53 : decode prog_13_method_28_code 53 = .ok (.getfield 132, 3) := by decide +kernel
theorem dM_errors_56 : decode prog_13_method_28_code 56 = .ok (.ifCond .le 5, 3) := by decide +kernel
theorem dM_errors_59 : decode prog_13_method_28_code 59 = .ok (.iconst 0, 1) := by decide +kernel
theorem dM_errors_60 : decode prog_13_method_28_code 60 = .ok (.ireturn, 1) := by decide +kernel
theorem dM_errors_61 : decode prog_13_method_28_code 61 = .ok (.aload_n 0, 1) := by decide +kernel
theorem dM_errors_62 : decode prog_13_method_28_code 62 = .ok (.invokevirtual 188, 3) := by decide +kernel
theorem dM_errors_65 : decode prog_13_method_28_code 65 = .ok (.iconst 2, 1) := by decide +kernel
theorem dM_errors_66 : decode prog_13_method_28_code 66 = .ok (.iload_n 1, 1) := by decide +kernel
theorem dM_errors_67 : decode prog_13_method_28_code 67 = .ok (.imul, 1) := by decide +kernel
theorem dM_errors_68 : decode prog_13_method_28_code 68 = .ok (.iload_n 2, 1) := by decide +kernel
theorem dM_errors_69 : decode prog_13_method_28_code 69 = .ok (.iadd, 1) := by decide +kernel
theorem dM_errors_70 : decode prog_13_method_28_code 70 = .ok (.istore_n 3, 1) := by decide +kernel
theorem dM_errors_71 : decode prog_13_method_28_code 71 = .ok (.aload_n 0, 1) := by decide +kernel
theorem dM_errors_72 : decode prog_13_method_28_code 72 = .ok (.aload_n 0, 1) := by decide +kernel
theorem dM_errors_73 : decode prog_13_method_28_code 73 = .ok (.getfield 43, 3) := by decide +kernel
theorem dM_errors_76 : decode prog_13_method_28_code 76 = .ok (.bipush 10, 2) := by decide +kernel
theorem dM_errors_78 : decode prog_13_method_28_code 78 = .ok (.iload_n 3, 1) := by decide +kernel
theorem dM_errors_79 : decode prog_13_method_28_code 79 = .ok (.imul, 1) := by decide +kernel
theorem dM_errors_80 : decode prog_13_method_28_code 80 = .ok (.aload_n 0, 1) := by decide +kernel
theorem dM_errors_81 : decode prog_13_method_28_code 81 = .ok (.getfield 40, 3) := by decide +kernel
theorem dM_errors_84 : decode prog_13_method_28_code 84 = .ok (.iload_n 3, 1) := by decide +kernel
theorem dM_errors_85 : decode prog_13_method_28_code 85 = .ok (.iaload, 1) := by decide +kernel
theorem dM_errors_86 : decode prog_13_method_28_code 86 = .ok (.invokevirtual 198, 3) := by decide +kernel
theorem dM_errors_89 : decode prog_13_method_28_code 89 = .ok (.ireturn, 1) := by decide +kernel
theorem dM_parentOf_0 : decode prog_13_method_29_code 0 = .ok (.iconst (-1), 1) := by decide +kernel
theorem dM_parentOf_1 : decode prog_13_method_29_code 1 = .ok (.istore_n 3, 1) := by decide +kernel
theorem dM_parentOf_2 : decode prog_13_method_29_code 2 = .ok (.iconst 0, 1) := by decide +kernel
theorem dM_parentOf_3 : decode prog_13_method_29_code 3 = .ok (.istore 4, 2) := by decide +kernel
theorem dM_parentOf_5 : decode prog_13_method_29_code 5 = .ok (.iload 4, 2) := by decide +kernel
theorem dM_parentOf_7 : decode prog_13_method_29_code 7 = .ok (.aload_n 0, 1) := by decide +kernel
theorem dM_parentOf_8 : decode prog_13_method_29_code 8 = .ok (.getfield 46, 3) := by decide +kernel
theorem dM_parentOf_11 : decode prog_13_method_29_code 11 = .ok (.iload_n 1, 1) := by decide +kernel
theorem dM_parentOf_12 : decode prog_13_method_29_code 12 = .ok (.iaload, 1) := by decide +kernel
theorem dM_parentOf_13 : decode prog_13_method_29_code 13 = .ok (.if_icmp .ge 50, 3) := by decide +kernel
theorem dM_parentOf_16 : decode prog_13_method_29_code 16 = .ok (.iload_n 2, 1) := by decide +kernel
theorem dM_parentOf_17 : decode prog_13_method_29_code 17 = .ok (.aload_n 0, 1) := by decide +kernel
theorem dM_parentOf_18 : decode prog_13_method_29_code 18 = .ok (.getfield 52, 3) := by decide +kernel
theorem dM_parentOf_21 : decode prog_13_method_29_code 21 = .ok (.iconst 4, 1) := by decide +kernel
theorem dM_parentOf_22 : decode prog_13_method_29_code 22 = .ok (.iload_n 1, 1) := by decide +kernel
theorem dM_parentOf_23 : decode prog_13_method_29_code 23 = .ok (.imul, 1) := by decide +kernel
theorem dM_parentOf_24 : decode prog_13_method_29_code 24 = .ok (.iload 4, 2) := by decide +kernel
theorem dM_parentOf_26 : decode prog_13_method_29_code 26 = .ok (.iadd, 1) := by decide +kernel
theorem dM_parentOf_27 : decode prog_13_method_29_code 27 = .ok (.iaload, 1) := by decide +kernel
theorem dM_parentOf_28 : decode prog_13_method_29_code 28 = .ok (.aload_n 0, 1) := by decide +kernel
theorem dM_parentOf_29 : decode prog_13_method_29_code 29 = .ok (.getfield 55, 3) := by decide +kernel
theorem dM_parentOf_32 : decode prog_13_method_29_code 32 = .ok (.iconst 4, 1) := by decide +kernel
theorem dM_parentOf_33 : decode prog_13_method_29_code 33 = .ok (.iload_n 1, 1) := by decide +kernel
theorem dM_parentOf_34 : decode prog_13_method_29_code 34 = .ok (.imul, 1) := by decide +kernel
theorem dM_parentOf_35 : decode prog_13_method_29_code 35 = .ok (.iload 4, 2) := by decide +kernel
theorem dM_parentOf_37 : decode prog_13_method_29_code 37 = .ok (.iadd, 1) := by decide +kernel
theorem dM_parentOf_38 : decode prog_13_method_29_code 38 = .ok (.iaload, 1) := by decide +kernel
theorem dM_parentOf_39 : decode prog_13_method_29_code 39 = .ok (.invokestatic 139, 3) := by decide +kernel
theorem dM_parentOf_42 : decode prog_13_method_29_code 42 = .ok (.ifCond .eq 15, 3) := by decide +kernel
theorem dM_parentOf_45 : decode prog_13_method_29_code 45 = .ok (.aload_n 0, 1) := by decide +kernel
theorem dM_parentOf_46 : decode prog_13_method_29_code 46 = .ok (.getfield 49, 3) := by decide +kernel
theorem dM_parentOf_49 : decode prog_13_method_29_code 49 = .ok (.iconst 4, 1) := by decide +kernel
theorem dM_parentOf_50 : decode prog_13_method_29_code 50 = .ok (.iload_n 1, 1) := by decide +kernel
theorem dM_parentOf_51 : decode prog_13_method_29_code 51 = .ok (.imul, 1) := by decide +kernel
theorem dM_parentOf_52 : decode prog_13_method_29_code 52 = .ok (.iload 4, 2) := by decide +kernel
theorem dM_parentOf_54 : decode prog_13_method_29_code 54 = .ok (.iadd, 1) := by decide +kernel
theorem dM_parentOf_55 : decode prog_13_method_29_code 55 = .ok (.iaload, 1) := by decide +kernel
theorem dM_parentOf_56 : decode prog_13_method_29_code 56 = .ok (.istore_n 3, 1) := by decide +kernel
theorem dM_parentOf_57 : decode prog_13_method_29_code 57 = .ok (.iinc 4 1, 3) := by decide +kernel
theorem dM_parentOf_60 : decode prog_13_method_29_code 60 = .ok (.goto (-55), 3) := by decide +kernel
theorem dM_parentOf_63 : decode prog_13_method_29_code 63 = .ok (.iload_n 3, 1) := by decide +kernel
theorem dM_parentOf_64 : decode prog_13_method_29_code 64 = .ok (.ireturn, 1) := by decide +kernel
theorem dM_isAbove_0 : decode prog_13_method_30_code 0 = .ok (.iload_n 2, 1) := by decide +kernel
theorem dM_isAbove_1 : decode prog_13_method_30_code 1 = .ok (.istore 4, 2) := by decide +kernel
theorem dM_isAbove_3 : decode prog_13_method_30_code 3 = .ok (.iconst 0, 1) := by decide +kernel
theorem dM_isAbove_4 : decode prog_13_method_30_code 4 = .ok (.istore 5, 2) := by decide +kernel
theorem dM_isAbove_6 : decode prog_13_method_30_code 6 = .ok (.iload 5, 2) := by decide +kernel
theorem dM_isAbove_8 : decode prog_13_method_30_code 8 = .ok (.bipush 30, 2) := by decide +kernel
theorem dM_isAbove_10 : decode prog_13_method_30_code 10 = .ok (.if_icmp .gt 32, 3) := by decide +kernel
theorem dM_isAbove_13 : decode prog_13_method_30_code 13 = .ok (.iload 4, 2) := by decide +kernel
theorem dM_isAbove_15 : decode prog_13_method_30_code 15 = .ok (.iconst (-1), 1) := by decide +kernel
theorem dM_isAbove_16 : decode prog_13_method_30_code 16 = .ok (.if_icmp .eq 26, 3) := by decide +kernel
theorem dM_isAbove_19 : decode prog_13_method_30_code 19 = .ok (.iload 4, 2) := by decide +kernel
theorem dM_isAbove_21 : decode prog_13_method_30_code 21 = .ok (.iload_n 1, 1) := by decide +kernel
theorem dM_isAbove_22 : decode prog_13_method_30_code 22 = .ok (.if_icmp .ne 5, 3) := by decide +kernel
theorem dM_isAbove_25 : decode prog_13_method_30_code 25 = .ok (.iconst 1, 1) := by decide +kernel
theorem dM_isAbove_26 : decode prog_13_method_30_code 26 = .ok (.ireturn, 1) := by decide +kernel
theorem dM_isAbove_27 : decode prog_13_method_30_code 27 = .ok (.aload_n 0, 1) := by decide +kernel
theorem dM_isAbove_28 : decode prog_13_method_30_code 28 = .ok (.iload 4, 2) := by decide +kernel
theorem dM_isAbove_30 : decode prog_13_method_30_code 30 = .ok (.iload_n 3, 1) := by decide +kernel
theorem dM_isAbove_31 : decode prog_13_method_30_code 31 = .ok (.invokevirtual 202, 3) := by decide +kernel
theorem dM_isAbove_34 : decode prog_13_method_30_code 34 = .ok (.istore 4, 2) := by decide +kernel
theorem dM_isAbove_36 : decode prog_13_method_30_code 36 = .ok (.iinc 5 1, 3) := by decide +kernel
theorem dM_isAbove_39 : decode prog_13_method_30_code 39 = .ok (.goto (-33), 3) := by decide +kernel
theorem dM_isAbove_42 : decode prog_13_method_30_code 42 = .ok (.iconst 0, 1) := by decide +kernel
theorem dM_isAbove_43 : decode prog_13_method_30_code 43 = .ok (.ireturn, 1) := by decide +kernel
theorem dM_parent_0 : decode prog_13_method_31_code 0 = .ok (.aload_n 0, 1) := by decide +kernel
theorem dM_parent_1 : decode prog_13_method_31_code 1 = .ok (.aload_n 0, 1) := by decide +kernel
theorem dM_parent_2 : decode prog_13_method_31_code 2 = .ok (.iload_n 1, 1) := by decide +kernel
theorem dM_parent_3 : decode prog_13_method_31_code 3 = .ok (.invokevirtual 154, 3) := by decide +kernel
theorem dM_parent_6 : decode prog_13_method_31_code 6 = .ok (.ifCond .eq 20, 3) := by decide +kernel
theorem dM_parent_9 : decode prog_13_method_31_code 9 = .ok (.aload_n 0, 1) := by decide +kernel
theorem dM_parent_10 : decode prog_13_method_31_code 10 = .ok (.iload_n 2, 1) := by decide +kernel
theorem dM_parent_11 : decode prog_13_method_31_code 11 = .ok (.invokevirtual 154, 3) := by decide +kernel
theorem dM_parent_14 : decode prog_13_method_31_code 14 = .ok (.ifCond .eq 12, 3) := by decide +kernel
theorem dM_parent_17 : decode prog_13_method_31_code 17 = .ok (.iload_n 3, 1) := by decide +kernel
theorem dM_parent_18 : decode prog_13_method_31_code 18 = .ok (.iload 4, 2) := by decide +kernel
theorem dM_parent_20 : decode prog_13_method_31_code 20 = .ok (.invokestatic 195, 3) := by decide +kernel
theorem dM_parent_23 : decode prog_13_method_31_code 23 = .ok (.ifCond .ne 7, 3) := by decide +kernel
theorem dM_parent_26 : decode prog_13_method_31_code 26 = .ok (.iconst 1, 1) := by decide +kernel
theorem dM_parent_27 : decode prog_13_method_31_code 27 = .ok (.goto 4, 3) := by decide +kernel
theorem dM_parent_30 : decode prog_13_method_31_code 30 = .ok (.iconst 0, 1) := by decide +kernel
theorem dM_parent_31 : decode prog_13_method_31_code 31 = .ok (.putfield 132, 3) := by decide +kernel
theorem dM_parent_34 : decode prog_13_method_31_code 34 = .ok (.aload_n 0, 1) := by decide +kernel
theorem dM_parent_35 : decode prog_13_method_31_code 35 = .ok (.getfield 132, 3) := by decide +kernel
theorem dM_parent_38 : decode prog_13_method_31_code 38 = .ok (.ifCond .le 4, 3) := by decide +kernel
theorem dM_parent_41 : decode prog_13_method_31_code 41 = .ok (.return_, 1) := by decide +kernel
theorem dM_parent_42 : decode prog_13_method_31_code 42 = .ok (.iconst 0, 1) := by decide +kernel
theorem dM_parent_43 : decode prog_13_method_31_code 43 = .ok (.istore 5, 2) := by decide +kernel
theorem dM_parent_45 : decode prog_13_method_31_code 45 = .ok (.iload 5, 2) := by decide +kernel
theorem dM_parent_47 : decode prog_13_method_31_code 47 = .ok (.aload_n 0, 1) := by decide +kernel
theorem dM_parent_48 : decode prog_13_method_31_code 48 = .ok (.getfield 46, 3) := by decide +kernel
theorem dM_parent_51 : decode prog_13_method_31_code 51 = .ok (.iload_n 1, 1) := by decide +kernel
theorem dM_parent_52 : decode prog_13_method_31_code 52 = .ok (.iaload, 1) := by decide +kernel
theorem dM_parent_53 : decode prog_13_method_31_code 53 = .ok (.if_icmp .ge 45, 3) := by decide +kernel
theorem dM_parent_56 : decode prog_13_method_31_code 56 = .ok (.aload_n 0, 1) := by decide +kernel
theorem dM_parent_57 : decode prog_13_method_31_code 57 = .ok (.getfield 52, 3) := by decide +kernel
theorem dM_parent_60 : decode prog_13_method_31_code 60 = .ok (.iconst 4, 1) := by decide +kernel
theorem dM_parent_61 : decode prog_13_method_31_code 61 = .ok (.iload_n 1, 1) := by decide +kernel
theorem dM_parent_62 : decode prog_13_method_31_code 62 = .ok (.imul, 1) := by decide +kernel
theorem dM_parent_63 : decode prog_13_method_31_code 63 = .ok (.iload 5, 2) := by decide +kernel
theorem dM_parent_65 : decode prog_13_method_31_code 65 = .ok (.iadd, 1) := by decide +kernel
theorem dM_parent_66 : decode prog_13_method_31_code 66 = .ok (.iaload, 1) := by decide +kernel
theorem dM_parent_67 : decode prog_13_method_31_code 67 = .ok (.iload 4, 2) := by decide +kernel
theorem dM_parent_69 : decode prog_13_method_31_code 69 = .ok (.if_icmp .gt 23, 3) := by decide +kernel
theorem dM_parent_72 : decode prog_13_method_31_code 72 = .ok (.iload_n 3, 1) := by decide +kernel
theorem dM_parent_73 : decode prog_13_method_31_code 73 = .ok (.aload_n 0, 1) := by decide +kernel
theorem dM_parent_74 : decode prog_13_method_31_code 74 = .ok (.getfield 55, 3) := by decide +kernel
theorem dM_parent_77 : decode prog_13_method_31_code 77 = .ok (.iconst 4, 1) := by decide +kernel
theorem dM_parent_78 : decode prog_13_method_31_code 78 = .ok (.iload_n 1, 1) := by decide +kernel
theorem dM_parent_79 : decode prog_13_method_31_code 79 = .ok (.imul, 1) := by decide +kernel
theorem dM_parent_80 : decode prog_13_method_31_code 80 = .ok (.iload 5, 2) := by decide +kernel
theorem dM_parent_82 : decode prog_13_method_31_code 82 = .ok (.iadd, 1) := by decide +kernel
theorem dM_parent_83 : decode prog_13_method_31_code 83 = .ok (.iaload, 1) := by decide +kernel
theorem dM_parent_84 : decode prog_13_method_31_code 84 = .ok (.if_icmp .gt 8, 3) := by decide +kernel
theorem dM_parent_87 : decode prog_13_method_31_code 87 = .ok (.aload_n 0, 1) := by decide +kernel
theorem dM_parent_88 : decode prog_13_method_31_code 88 = .ok (.iconst 2, 1) := by decide +kernel
theorem dM_parent_89 : decode prog_13_method_31_code 89 = .ok (.putfield 132, 3) := by decide +kernel
theorem dM_parent_92 : decode prog_13_method_31_code 92 = .ok (.iinc 5 1, 3) := by decide +kernel
theorem dM_parent_95 : decode prog_13_method_31_code 95 = .ok (.goto (-50), 3) := by decide +kernel
theorem dM_parent_98 : decode prog_13_method_31_code 98 = .ok (.aload_n 0, 1) := by decide +kernel
theorem dM_parent_99 : decode prog_13_method_31_code 99 = .ok (.getfield 132, 3) := by decide +kernel
theorem dM_parent_102 : decode prog_13_method_31_code 102 = .ok (.ifCond .le 4, 3) := by decide +kernel
theorem dM_parent_105 : decode prog_13_method_31_code 105 = .ok (.return_, 1) := by decide +kernel
theorem dM_parent_106 : decode prog_13_method_31_code 106 = .ok (.aload_n 0, 1) := by decide +kernel
theorem dM_parent_107 : decode prog_13_method_31_code 107 = .ok (.getfield 46, 3) := by decide +kernel
theorem dM_parent_110 : decode prog_13_method_31_code 110 = .ok (.iload_n 1, 1) := by decide +kernel
theorem dM_parent_111 : decode prog_13_method_31_code 111 = .ok (.iaload, 1) := by decide +kernel
theorem dM_parent_112 : decode prog_13_method_31_code 112 = .ok (.iconst 4, 1) := by decide +kernel
theorem dM_parent_113 : decode prog_13_method_31_code 113 = .ok (.if_icmp .eq 13, 3) := by decide +kernel
theorem dM_parent_116 : decode prog_13_method_31_code 116 = .ok (.aload_n 0, 1) := by decide +kernel
theorem dM_parent_117 : decode prog_13_method_31_code 117 = .ok (.iload_n 1, 1) := by decide +kernel
theorem dM_parent_118 : decode prog_13_method_31_code 118 = .ok (.iload_n 2, 1) := by decide +kernel
theorem dM_parent_119 : decode prog_13_method_31_code 119 = .ok (.iload_n 3, 1) := by decide +kernel
theorem dM_parent_120 : decode prog_13_method_31_code 120 = .ok (.invokevirtual 205, 3) := by decide +kernel
theorem dM_parent_123 : decode prog_13_method_31_code 123 = .ok (.ifCond .eq 8, 3) := by decide +kernel
theorem dM_parent_126 : decode prog_13_method_31_code 126 = .ok (.aload_n 0, 1) := by decide +kernel
theorem dM_parent_127 : decode prog_13_method_31_code 127 = .ok (.iconst 3, 1) := by decide +kernel
theorem dM_parent_128 : decode prog_13_method_31_code 128 = .ok (.putfield 132, 3) := by decide +kernel
theorem dM_parent_131 : decode prog_13_method_31_code 131 = .ok (.iconst 0, 1) := by decide +kernel
theorem dM_parent_132 : decode prog_13_method_31_code 132 = .ok (.istore 5, 2) := by decide +kernel
theorem dM_parent_134 : decode prog_13_method_31_code 134 = .ok (.iload 5, 2) := by decide +kernel
theorem dM_parent_136 : decode prog_13_method_31_code 136 = .ok (.aload_n 0, 1) := by decide +kernel
theorem dM_parent_137 : decode prog_13_method_31_code 137 = .ok (.getfield 136, 3) := by decide +kernel
theorem dM_parent_140 : decode prog_13_method_31_code 140 = .ok (.if_icmp .ge 78, 3) := by decide +kernel
theorem dM_parent_143 : decode prog_13_method_31_code 143 = .ok (.aload_n 0, 1) := by decide +kernel
theorem dM_parent_144 : decode prog_13_method_31_code 144 = .ok (.getfield 132, 3) := by decide +kernel
theorem dM_parent_147 : decode prog_13_method_31_code 147 = .ok (.ifCond .ne 71, 3) := by decide +kernel
theorem dM_parent_150 : decode prog_13_method_31_code 150 = .ok (.iconst 0, 1) := by decide +kernel
theorem dM_parent_151 : decode prog_13_method_31_code 151 = .ok (.istore 6, 2) := by decide +kernel
theorem dM_parent_153 : decode prog_13_method_31_code 153 = .ok (.iload 6, 2) := by decide +kernel
theorem dM_parent_155 : decode prog_13_method_31_code 155 = .ok (.aload_n 0, 1) := by decide +kernel
theorem dM_parent_156 : decode prog_13_method_31_code 156 = .ok (.getfield 46, 3) := by decide +kernel
theorem dM_parent_159 : decode prog_13_method_31_code 159 = .ok (.iload 5, 2) := by decide +kernel
theorem dM_parent_161 : decode prog_13_method_31_code 161 = .ok (.iaload, 1) := by decide +kernel
theorem dM_parent_162 : decode prog_13_method_31_code 162 = .ok (.if_icmp .ge 50, 3) := by decide +kernel
theorem dM_parent_165 : decode prog_13_method_31_code 165 = .ok (.aload_n 0, 1) := by decide +kernel
theorem dM_parent_166 : decode prog_13_method_31_code 166 = .ok (.getfield 52, 3) := by decide +kernel
theorem dM_parent_169 : decode prog_13_method_31_code 169 = .ok (.iconst 4, 1) := by decide +kernel
theorem dM_parent_170 : decode prog_13_method_31_code 170 = .ok (.iload 5, 2) := by decide +kernel
theorem dM_parent_172 : decode prog_13_method_31_code 172 = .ok (.imul, 1) := by decide +kernel
theorem dM_parent_173 : decode prog_13_method_31_code 173 = .ok (.iload 6, 2) := by decide +kernel
theorem dM_parent_175 : decode prog_13_method_31_code 175 = .ok (.iadd, 1) := by decide +kernel
theorem dM_parent_176 : decode prog_13_method_31_code 176 = .ok (.iaload, 1) := by decide +kernel
theorem dM_parent_177 : decode prog_13_method_31_code 177 = .ok (.istore 7, 2) := by decide +kernel
theorem dM_parent_179 : decode prog_13_method_31_code 179 = .ok (.iload 7, 2) := by decide +kernel
theorem dM_parent_181 : decode prog_13_method_31_code 181 = .ok (.iload_n 3, 1) := by decide +kernel
theorem dM_parent_182 : decode prog_13_method_31_code 182 = .ok (.iload 4, 2) := by decide +kernel
theorem dM_parent_184 : decode prog_13_method_31_code 184 = .ok (.invokestatic 139, 3) := by decide +kernel
theorem dM_parent_187 : decode prog_13_method_31_code 187 = .ok (.ifCond .eq 19, 3) := by decide +kernel
theorem dM_parent_190 : decode prog_13_method_31_code 190 = .ok (.aload_n 0, 1) := by decide +kernel
theorem dM_parent_191 : decode prog_13_method_31_code 191 = .ok (.iload_n 1, 1) := by decide +kernel
theorem dM_parent_192 : decode prog_13_method_31_code 192 = .ok (.iload_n 2, 1) := by decide +kernel
theorem dM_parent_193 : decode prog_13_method_31_code 193 = .ok (.iload 7, 2) := by decide +kernel
theorem dM_parent_195 : decode prog_13_method_31_code 195 = .ok (.invokevirtual 205, 3) := by decide +kernel
theorem dM_parent_198 : decode prog_13_method_31_code 198 = .ok (.ifCond .eq 8, 3) := by decide +kernel
theorem dM_parent_201 : decode prog_13_method_31_code 201 = .ok (.aload_n 0, 1) := by decide +kernel
theorem dM_parent_202 : decode prog_13_method_31_code 202 = .ok (.iconst 3, 1) := by decide +kernel
theorem dM_parent_203 : decode prog_13_method_31_code 203 = .ok (.putfield 132, 3) := by decide +kernel
theorem dM_parent_206 : decode prog_13_method_31_code 206 = .ok (.iinc 6 1, 3) := by decide +kernel
theorem dM_parent_209 : decode prog_13_method_31_code 209 = .ok (.goto (-56), 3) := by decide +kernel
theorem dM_parent_212 : decode prog_13_method_31_code 212 = .ok (.iinc 5 1, 3) := by decide +kernel
theorem dM_parent_215 : decode prog_13_method_31_code 215 = .ok (.goto (-81), 3) := by decide +kernel
theorem dM_parent_218 : decode prog_13_method_31_code 218 = .ok (.aload_n 0, 1) := by decide +kernel
theorem dM_parent_219 : decode prog_13_method_31_code 219 = .ok (.getfield 132, 3) := by decide +kernel
theorem dM_parent_222 : decode prog_13_method_31_code 222 = .ok (.ifCond .le 4, 3) := by decide +kernel
theorem dM_parent_225 : decode prog_13_method_31_code 225 = .ok (.return_, 1) := by decide +kernel
theorem dM_parent_226 : decode prog_13_method_31_code 226 = .ok (.iconst 4, 1) := by decide +kernel
theorem dM_parent_227 : decode prog_13_method_31_code 227 = .ok (.iload_n 1, 1) := by decide +kernel
theorem dM_parent_228 : decode prog_13_method_31_code 228 = .ok (.imul, 1) := by decide +kernel
theorem dM_parent_229 : decode prog_13_method_31_code 229 = .ok (.aload_n 0, 1) := by decide +kernel
theorem dM_parent_230 : decode prog_13_method_31_code 230 = .ok (.getfield 46, 3) := by decide +kernel
theorem dM_parent_233 : decode prog_13_method_31_code 233 = .ok (.iload_n 1, 1) := by decide +kernel
theorem dM_parent_234 : decode prog_13_method_31_code 234 = .ok (.iaload, 1) := by decide +kernel
theorem dM_parent_235 : decode prog_13_method_31_code 235 = .ok (.iadd, 1) := by decide +kernel
theorem dM_parent_236 : decode prog_13_method_31_code 236 = .ok (.istore 5, 2) := by decide +kernel
theorem dM_parent_238 : decode prog_13_method_31_code 238 = .ok (.aload_n 0, 1) := by decide +kernel
theorem dM_parent_239 : decode prog_13_method_31_code 239 = .ok (.getfield 49, 3) := by decide +kernel
theorem dM_parent_242 : decode prog_13_method_31_code 242 = .ok (.iload 5, 2) := by decide +kernel
theorem dM_parent_244 : decode prog_13_method_31_code 244 = .ok (.iload_n 2, 1) := by decide +kernel
theorem dM_parent_245 : decode prog_13_method_31_code 245 = .ok (.iastore, 1) := by decide +kernel
theorem dM_parent_246 : decode prog_13_method_31_code 246 = .ok (.aload_n 0, 1) := by decide +kernel
theorem dM_parent_247 : decode prog_13_method_31_code 247 = .ok (.getfield 52, 3) := by decide +kernel
theorem dM_parent_250 : decode prog_13_method_31_code 250 = .ok (.iload 5, 2) := by decide +kernel
theorem dM_parent_252 : decode prog_13_method_31_code 252 = .ok (.iload_n 3, 1) := by decide +kernel
theorem dM_parent_253 : decode prog_13_method_31_code 253 = .ok (.iastore, 1) := by decide +kernel
theorem dM_parent_254 : decode prog_13_method_31_code 254 = .ok (.aload_n 0, 1) := by decide +kernel
theorem dM_parent_255 : decode prog_13_method_31_code 255 = .ok (.getfield 55, 3) := by decide +kernel
theorem dM_parent_258 : decode prog_13_method_31_code 258 = .ok (.iload 5, 2) := by decide +kernel
theorem dM_parent_260 : decode prog_13_method_31_code 260 = .ok (.iload 4, 2) := by decide +kernel
theorem dM_parent_262 : decode prog_13_method_31_code 262 = .ok (.iastore, 1) := by decide +kernel
theorem dM_parent_263 : decode prog_13_method_31_code 263 = .ok (.aload_n 0, 1) := by decide +kernel
theorem dM_parent_264 : decode prog_13_method_31_code 264 = .ok (.getfield 46, 3) := by decide +kernel
theorem dM_parent_267 : decode prog_13_method_31_code 267 = .ok (.iload_n 1, 1) := by decide +kernel
theorem dM_parent_268 : decode prog_13_method_31_code 268 = .ok (.dup2, 1) := by decide +kernel
theorem dM_parent_269 : decode prog_13_method_31_code 269 = .ok (.iaload, 1) := by decide +kernel
theorem dM_parent_270 : decode prog_13_method_31_code 270 = .ok (.iconst 1, 1) := by decide +kernel
theorem dM_parent_271 : decode prog_13_method_31_code 271 = .ok (.iadd, 1) := by decide +kernel
theorem dM_parent_272 : decode prog_13_method_31_code 272 = .ok (.iastore, 1) := by decide +kernel
theorem dM_parent_273 : decode prog_13_method_31_code 273 = .ok (.return_, 1) := by decide +kernel
theorem dM_remove_0 : decode prog_13_method_32_code 0 = .ok (.aload_n 0, 1) := by decide +kernel
theorem dM_remove_1 : decode prog_13_method_32_code 1 = .ok (.aload_n 0, 1) := by decide +kernel
theorem dM_remove_2 : decode prog_13_method_32_code 2 = .ok (.iload_n 1, 1) := by decide +kernel
theorem dM_remove_3 : decode prog_13_method_32_code 3 = .ok (.invokevirtual 154, 3) := by decide +kernel
theorem dM_remove_6 : decode prog_13_method_32_code 6 = .ok (.ifCond .eq 10, 3) := by decide +kernel
theorem dM_remove_9 : decode prog_13_method_32_code 9 = .ok (.iload_n 2, 1) := by decide +kernel
theorem dM_remove_10 : decode prog_13_method_32_code 10 = .ok (.invokestatic 143, 3) := by decide +kernel
theorem dM_remove_13 : decode prog_13_method_32_code 13 = .ok (.ifCond .ne 7, 3) := by decide +kernel
theorem dM_remove_16 : decode prog_13_method_32_code 16 = .ok (.iconst 1, 1) := by decide +kernel
theorem dM_remove_17 : decode prog_13_method_32_code 17 = .ok (.goto 18, 3) := by decide +kernel
theorem dM_remove_20 : decode prog_13_method_32_code 20 = .ok (.aload_n 0, 1) := by decide +kernel
theorem dM_remove_21 : decode prog_13_method_32_code 21 = .ok (.getfield 13, 3) := by decide +kernel
theorem dM_remove_24 : decode prog_13_method_32_code 24 = .ok (.iload_n 1, 1) := by decide +kernel
theorem dM_remove_25 : decode prog_13_method_32_code 25 = .ok (.iaload, 1) := by decide +kernel
theorem dM_remove_26 : decode prog_13_method_32_code 26 = .ok (.iload_n 2, 1) := by decide +kernel
theorem dM_remove_27 : decode prog_13_method_32_code 27 = .ok (.if_icmp .gt 7, 3) := by decide +kernel
theorem dM_remove_30 : decode prog_13_method_32_code 30 = .ok (.iconst 2, 1) := by decide +kernel
theorem dM_remove_31 : decode prog_13_method_32_code 31 = .ok (.goto 4, 3) := by decide +kernel
theorem dM_remove_34 : decode prog_13_method_32_code 34 = .ok (.iconst 0, 1) := by decide +kernel
theorem dM_remove_35 : decode prog_13_method_32_code 35 = .ok (.putfield 132, 3) := by decide +kernel
theorem dM_remove_38 : decode prog_13_method_32_code 38 = .ok (.aload_n 0, 1) := by decide +kernel
theorem dM_remove_39 : decode prog_13_method_32_code 39 = .ok (.getfield 132, 3) := by decide +kernel
theorem dM_remove_42 : decode prog_13_method_32_code 42 = .ok (.ifCond .ne 10, 3) := by decide +kernel
theorem dM_remove_45 : decode prog_13_method_32_code 45 = .ok (.aload_n 0, 1) := by decide +kernel
theorem dM_remove_46 : decode prog_13_method_32_code 46 = .ok (.getfield 13, 3) := by decide +kernel
theorem dM_remove_49 : decode prog_13_method_32_code 49 = .ok (.iload_n 1, 1) := by decide +kernel
theorem dM_remove_50 : decode prog_13_method_32_code 50 = .ok (.iload_n 2, 1) := by decide +kernel
theorem dM_remove_51 : decode prog_13_method_32_code 51 = .ok (.iastore, 1) := by decide +kernel
theorem dM_remove_52 : decode prog_13_method_32_code 52 = .ok (.return_, 1) := by decide +kernel
theorem dM_chain_0 : decode prog_13_method_33_code 0 = .ok (.aload_n 0, 1) := by decide +kernel
theorem dM_chain_1 : decode prog_13_method_33_code 1 = .ok (.aload_n 0, 1) := by decide +kernel
theorem dM_chain_2 : decode prog_13_method_33_code 2 = .ok (.iload_n 1, 1) := by decide +kernel
theorem dM_chain_3 : decode prog_13_method_33_code 3 = .ok (.invokevirtual 154, 3) := by decide +kernel
theorem dM_chain_6 : decode prog_13_method_33_code 6 = .ok (.ifCond .eq 14, 3) := by decide +kernel
theorem dM_chain_9 : decode prog_13_method_33_code 9 = .ok (.iload_n 2, 1) := by decide +kernel
theorem dM_chain_10 : decode prog_13_method_33_code 10 = .ok (.invokestatic 143, 3) := by decide +kernel
theorem dM_chain_13 : decode prog_13_method_33_code 13 = .ok (.ifCond .eq 7, 3) := by decide +kernel
theorem dM_chain_16 : decode prog_13_method_33_code 16 = .ok (.iload_n 3, 1) := by decide +kernel
theorem dM_chain_17 : decode prog_13_method_33_code 17 = .ok (.ifCond .ge 7, 3) := by decide +kernel
theorem dM_chain_20 : decode prog_13_method_33_code 20 = .ok (.iconst 1, 1) := by decide +kernel
theorem dM_chain_21 : decode prog_13_method_33_code 21 = .ok (.goto 4, 3) := by decide +kernel
theorem dM_chain_24 : decode prog_13_method_33_code 24 = .ok (.iconst 0, 1) := by decide +kernel
theorem dM_chain_25 : decode prog_13_method_33_code 25 = .ok (.putfield 132, 3) := by decide +kernel
theorem dM_chain_28 : decode prog_13_method_33_code 28 = .ok (.aload_n 0, 1) := by decide +kernel
theorem dM_chain_29 : decode prog_13_method_33_code 29 = .ok (.getfield 132, 3) := by decide +kernel
theorem dM_chain_32 : decode prog_13_method_33_code 32 = .ok (.ifCond .le 5, 3) := by decide +kernel
theorem dM_chain_35 : decode prog_13_method_33_code 35 = .ok (.iconst 0, 1) := by decide +kernel
theorem dM_chain_36 : decode prog_13_method_33_code 36 = .ok (.ireturn, 1) := by decide +kernel
theorem dM_chain_37 : decode prog_13_method_33_code 37 = .ok (.aload_n 0, 1) := by decide +kernel
theorem dM_chain_38 : decode prog_13_method_33_code 38 = .ok (.iload_n 1, 1) := by decide +kernel
theorem dM_chain_39 : decode prog_13_method_33_code 39 = .ok (.iload_n 2, 1) := by decide +kernel
theorem dM_chain_40 : decode prog_13_method_33_code 40 = .ok (.invokevirtual 202, 3) := by decide +kernel
theorem dM_chain_43 : decode prog_13_method_33_code 43 = .ok (.istore 4, 2) := by decide +kernel
theorem dM_chain_45 : decode prog_13_method_33_code 45 = .ok (.iconst 0, 1) := by decide +kernel
theorem dM_chain_46 : decode prog_13_method_33_code 46 = .ok (.istore 5, 2) := by decide +kernel
theorem dM_chain_48 : decode prog_13_method_33_code 48 = .ok (.iload 5, 2) := by decide +kernel
theorem dM_chain_50 : decode prog_13_method_33_code 50 = .ok (.iload_n 3, 1) := by decide +kernel
theorem dM_chain_51 : decode prog_13_method_33_code 51 = .ok (.if_icmp .ge 24, 3) := by decide +kernel
theorem dM_chain_54 : decode prog_13_method_33_code 54 = .ok (.iload 4, 2) := by decide +kernel
theorem dM_chain_56 : decode prog_13_method_33_code 56 = .ok (.iconst (-1), 1) := by decide +kernel
theorem dM_chain_57 : decode prog_13_method_33_code 57 = .ok (.if_icmp .eq 18, 3) := by decide +kernel
theorem dM_chain_60 : decode prog_13_method_33_code 60 = .ok (.aload_n 0, 1) := by decide +kernel
theorem dM_chain_61 : decode prog_13_method_33_code 61 = .ok (.iload 4, 2) := by decide +kernel
theorem dM_chain_63 : decode prog_13_method_33_code 63 = .ok (.iload_n 2, 1) := by decide +kernel
theorem dM_chain_64 : decode prog_13_method_33_code 64 = .ok (.invokevirtual 202, 3) := by decide +kernel
theorem dM_chain_67 : decode prog_13_method_33_code 67 = .ok (.istore 4, 2) := by decide +kernel
theorem dM_chain_69 : decode prog_13_method_33_code 69 = .ok (.iinc 5 1, 3) := by decide +kernel
theorem dM_chain_72 : decode prog_13_method_33_code 72 = .ok (.goto (-24), 3) := by decide +kernel
theorem dM_chain_75 : decode prog_13_method_33_code 75 = .ok (.iload 4, 2) := by decide +kernel
theorem dM_chain_77 : decode prog_13_method_33_code 77 = .ok (.ireturn, 1) := by decide +kernel
theorem dM_condition_0 : decode prog_13_method_34_code 0 = .ok (.iload_n 1, 1) := by decide +kernel
theorem dM_condition_1 : decode prog_13_method_34_code 1 = .ok (.iconst 0, 1) := by decide +kernel
theorem dM_condition_2 : decode prog_13_method_34_code 2 = .ok (.bipush 8, 2) := by decide +kernel
theorem dM_condition_4 : decode prog_13_method_34_code 4 = .ok (.invokestatic 139, 3) := by decide +kernel
theorem dM_condition_7 : decode prog_13_method_34_code 7 = .ok (.ifCond .eq 19, 3) := by decide +kernel
theorem dM_condition_10 : decode prog_13_method_34_code 10 = .ok (.iload_n 1, 1) := by decide +kernel
theorem dM_condition_11 : decode prog_13_method_34_code 11 = .ok (.iconst 3, 1) := by decide +kernel
theorem dM_condition_12 : decode prog_13_method_34_code 12 = .ok (.if_icmp .gt 10, 3) := by decide +kernel
theorem dM_condition_15 : decode prog_13_method_34_code 15 = .ok (.aload_n 0, 1) := by decide +kernel
theorem dM_condition_16 : decode prog_13_method_34_code 16 = .ok (.getfield 172, 3) := by decide +kernel
theorem dM_condition_19 : decode prog_13_method_34_code 19 = .ok (.ifCond .le 7, 3) := by decide +kernel
theorem dM_condition_22 : decode prog_13_method_34_code 22 = .ok (.iconst 1, 1) := by decide +kernel
theorem dM_condition_23 : decode prog_13_method_34_code 23 = .ok (.goto 4, 3) := by decide +kernel
theorem dM_condition_26 : decode prog_13_method_34_code 26 = .ok (.iconst 0, 1) := by decide +kernel
theorem dM_condition_27 : decode prog_13_method_34_code 27 = .ok (.istore 5, 2) := by decide +kernel
theorem dM_condition_29 : decode prog_13_method_34_code 29 = .ok (.iload_n 1, 1) := by decide +kernel
theorem dM_condition_30 : decode prog_13_method_34_code 30 = .ok (.iconst 2, 1) := by decide +kernel
theorem dM_condition_31 : decode prog_13_method_34_code 31 = .ok (.if_icmp .ne 24, 3) := by decide +kernel
theorem dM_condition_34 : decode prog_13_method_34_code 34 = .ok (.iload 5, 2) := by decide +kernel
theorem dM_condition_36 : decode prog_13_method_34_code 36 = .ok (.ifCond .eq 16, 3) := by decide +kernel
theorem dM_condition_39 : decode prog_13_method_34_code 39 = .ok (.iload_n 2, 1) := by decide +kernel
theorem dM_condition_40 : decode prog_13_method_34_code 40 = .ok (.iconst 0, 1) := by decide +kernel
theorem dM_condition_41 : decode prog_13_method_34_code 41 = .ok (.iconst 2, 1) := by decide +kernel
theorem dM_condition_42 : decode prog_13_method_34_code 42 = .ok (.invokestatic 139, 3) := by decide +kernel
theorem dM_condition_45 : decode prog_13_method_34_code 45 = .ok (.ifCond .eq 7, 3) := by decide +kernel
theorem dM_condition_48 : decode prog_13_method_34_code 48 = .ok (.iconst 1, 1) := by decide +kernel
theorem dM_condition_49 : decode prog_13_method_34_code 49 = .ok (.goto 4, 3) := by decide +kernel
theorem dM_condition_52 : decode prog_13_method_34_code 52 = .ok (.iconst 0, 1) := by decide +kernel
theorem dM_condition_53 : decode prog_13_method_34_code 53 = .ok (.istore 5, 2) := by decide +kernel
theorem dM_condition_55 : decode prog_13_method_34_code 55 = .ok (.iload_n 1, 1) := by decide +kernel
theorem dM_condition_56 : decode prog_13_method_34_code 56 = .ok (.iconst 4, 1) := by decide +kernel
theorem dM_condition_57 : decode prog_13_method_34_code 57 = .ok (.if_icmp .ne 12, 3) := by decide +kernel
theorem dM_condition_60 : decode prog_13_method_34_code 60 = .ok (.iload_n 2, 1) := by decide +kernel
theorem dM_condition_61 : decode prog_13_method_34_code 61 = .ok (.iconst 0, 1) := by decide +kernel
theorem dM_condition_62 : decode prog_13_method_34_code 62 = .ok (.bipush 7, 2) := by decide +kernel
theorem dM_condition_64 : decode prog_13_method_34_code 64 = .ok (.invokestatic 139, 3) := by decide +kernel
theorem dM_condition_67 : decode prog_13_method_34_code 67 = .ok (.istore 5, 2) := by decide +kernel
theorem dM_condition_69 : decode prog_13_method_34_code 69 = .ok (.iload_n 1, 1) := by decide +kernel
theorem dM_condition_70 : decode prog_13_method_34_code 70 = .ok (.iconst 5, 1) := by decide +kernel
theorem dM_condition_71 : decode prog_13_method_34_code 71 = .ok (.if_icmp .eq 9, 3) := by decide +kernel
theorem dM_condition_74 : decode prog_13_method_34_code 74 = .ok (.iload_n 1, 1) := by decide +kernel
theorem dM_condition_75 : decode prog_13_method_34_code 75 = .ok (.bipush 6, 2) := by decide +kernel
theorem dM_condition_77 : decode prog_13_method_34_code 77 = .ok (.if_icmp .ne 10, 3) := by decide +kernel
theorem dM_condition_80 : decode prog_13_method_34_code 80 = .ok (.aload_n 0, 1) := by decide +kernel
theorem dM_condition_81 : decode prog_13_method_34_code 81 = .ok (.iload_n 2, 1) := by decide +kernel
theorem dM_condition_82 : decode prog_13_method_34_code 82 = .ok (.invokevirtual 154, 3) := by decide +kernel
theorem dM_condition_85 : decode prog_13_method_34_code 85 = .ok (.istore 5, 2) := by decide +kernel
theorem dM_condition_87 : decode prog_13_method_34_code 87 = .ok (.iload_n 1, 1) := by decide +kernel
theorem dM_condition_88 : decode prog_13_method_34_code 88 = .ok (.bipush 7, 2) := by decide +kernel
theorem dM_condition_90 : decode prog_13_method_34_code 90 = .ok (.if_icmp .ne 30, 3) := by decide +kernel
theorem dM_condition_93 : decode prog_13_method_34_code 93 = .ok (.iload_n 2, 1) := by decide +kernel
theorem dM_condition_94 : decode prog_13_method_34_code 94 = .ok (.iload_n 3, 1) := by decide +kernel
theorem dM_condition_95 : decode prog_13_method_34_code 95 = .ok (.invokestatic 147, 3) := by decide +kernel
theorem dM_condition_98 : decode prog_13_method_34_code 98 = .ok (.ifCond .eq 19, 3) := by decide +kernel
theorem dM_condition_101 : decode prog_13_method_34_code 101 = .ok (.iload 4, 2) := by decide +kernel
theorem dM_condition_103 : decode prog_13_method_34_code 103 = .ok (.iconst 0, 1) := by decide +kernel
theorem dM_condition_104 : decode prog_13_method_34_code 104 = .ok (.sipush 10000, 3) := by decide +kernel
theorem dM_condition_107 : decode prog_13_method_34_code 107 = .ok (.invokestatic 139, 3) := by decide +kernel
theorem dM_condition_110 : decode prog_13_method_34_code 110 = .ok (.ifCond .eq 7, 3) := by decide +kernel
theorem dM_condition_113 : decode prog_13_method_34_code 113 = .ok (.iconst 1, 1) := by decide +kernel
theorem dM_condition_114 : decode prog_13_method_34_code 114 = .ok (.goto 4, 3) := by decide +kernel
theorem dM_condition_117 : decode prog_13_method_34_code 117 = .ok (.iconst 0, 1) := by decide +kernel
theorem dM_condition_118 : decode prog_13_method_34_code 118 = .ok (.istore 5, 2) := by decide +kernel
theorem dM_condition_120 : decode prog_13_method_34_code 120 = .ok (.iload_n 1, 1) := by decide +kernel
theorem dM_condition_121 : decode prog_13_method_34_code 121 = .ok (.bipush 8, 2) := by decide +kernel
theorem dM_condition_123 : decode prog_13_method_34_code 123 = .ok (.if_icmp .ne 13, 3) := by decide +kernel
theorem dM_condition_126 : decode prog_13_method_34_code 126 = .ok (.iload_n 2, 1) := by decide +kernel
theorem dM_condition_127 : decode prog_13_method_34_code 127 = .ok (.iconst 0, 1) := by decide +kernel
theorem dM_condition_128 : decode prog_13_method_34_code 128 = .ok (.sipush 10000, 3) := by decide +kernel
theorem dM_condition_131 : decode prog_13_method_34_code 131 = .ok (.invokestatic 139, 3) := by decide +kernel
theorem dM_condition_134 : decode prog_13_method_34_code 134 = .ok (.istore 5, 2) := by decide +kernel
theorem dM_condition_136 : decode prog_13_method_34_code 136 = .ok (.aload_n 0, 1) := by decide +kernel
theorem dM_condition_137 : decode prog_13_method_34_code 137 = .ok (.iload 5, 2) := by decide +kernel
theorem dM_condition_139 : decode prog_13_method_34_code 139 = .ok (.ifCond .ne 7, 3) := by decide +kernel
theorem dM_condition_142 : decode prog_13_method_34_code 142 = .ok (.iconst 1, 1) := by decide +kernel
theorem dM_condition_143 : decode prog_13_method_34_code 143 = .ok (.goto 18, 3) := by decide +kernel
theorem dM_condition_146 : decode prog_13_method_34_code 146 = .ok (.aload_n 0, 1) := by decide +kernel
theorem dM_condition_147 : decode prog_13_method_34_code 147 = .ok (.getfield 67, 3) := by decide +kernel
theorem dM_condition_150 : decode prog_13_method_34_code 150 = .ok (.iconst 0, 1) := by decide +kernel
theorem dM_condition_151 : decode prog_13_method_34_code 151 = .ok (.iaload, 1) := by decide +kernel
theorem dM_condition_152 : decode prog_13_method_34_code 152 = .ok (.iconst 5, 1) := by decide +kernel
theorem dM_condition_153 : decode prog_13_method_34_code 153 = .ok (.if_icmp .ne 7, 3) := by decide +kernel
theorem dM_condition_156 : decode prog_13_method_34_code 156 = .ok (.iconst 2, 1) := by decide +kernel
theorem dM_condition_157 : decode prog_13_method_34_code 157 = .ok (.goto 4, 3) := by decide +kernel
theorem dM_condition_160 : decode prog_13_method_34_code 160 = .ok (.iconst 0, 1) := by decide +kernel
theorem dM_condition_161 : decode prog_13_method_34_code 161 = .ok (.putfield 132, 3) := by decide +kernel
theorem dM_condition_164 : decode prog_13_method_34_code 164 = .ok (.aload_n 0, 1) := by decide +kernel
theorem dM_condition_165 : decode prog_13_method_34_code 165 = .ok (.getfield 132, 3) := by decide +kernel
theorem dM_condition_168 : decode prog_13_method_34_code 168 = .ok (.ifCond .le 5, 3) := by decide +kernel
theorem dM_condition_171 : decode prog_13_method_34_code 171 = .ok (.iconst 0, 1) := by decide +kernel
theorem dM_condition_172 : decode prog_13_method_34_code 172 = .ok (.ireturn, 1) := by decide +kernel
theorem dM_condition_173 : decode prog_13_method_34_code 173 = .ok (.aload_n 0, 1) := by decide +kernel
theorem dM_condition_174 : decode prog_13_method_34_code 174 = .ok (.getfield 67, 3) := by decide +kernel
theorem dM_condition_177 : decode prog_13_method_34_code 177 = .ok (.iconst 0, 1) := by decide +kernel
theorem dM_condition_178 : decode prog_13_method_34_code 178 = .ok (.iaload, 1) := by decide +kernel
theorem dM_condition_179 : decode prog_13_method_34_code 179 = .ok (.istore 6, 2) := by decide +kernel
theorem dM_condition_181 : decode prog_13_method_34_code 181 = .ok (.aload_n 0, 1) := by decide +kernel
theorem dM_condition_182 : decode prog_13_method_34_code 182 = .ok (.getfield 67, 3) := by decide +kernel
theorem dM_condition_185 : decode prog_13_method_34_code 185 = .ok (.iconst 0, 1) := by decide +kernel
theorem dM_condition_186 : decode prog_13_method_34_code 186 = .ok (.dup2, 1) := by decide +kernel
theorem dM_condition_187 : decode prog_13_method_34_code 187 = .ok (.iaload, 1) := by decide +kernel
theorem dM_condition_188 : decode prog_13_method_34_code 188 = .ok (.iconst 1, 1) := by decide +kernel
theorem dM_condition_189 : decode prog_13_method_34_code 189 = .ok (.iadd, 1) := by decide +kernel
theorem dM_condition_190 : decode prog_13_method_34_code 190 = .ok (.iastore, 1) := by decide +kernel
theorem dM_condition_191 : decode prog_13_method_34_code 191 = .ok (.aload_n 0, 1) := by decide +kernel
theorem dM_condition_192 : decode prog_13_method_34_code 192 = .ok (.getfield 70, 3) := by decide +kernel
theorem dM_condition_195 : decode prog_13_method_34_code 195 = .ok (.iload 6, 2) := by decide +kernel
theorem dM_condition_197 : decode prog_13_method_34_code 197 = .ok (.iload_n 1, 1) := by decide +kernel
theorem dM_condition_198 : decode prog_13_method_34_code 198 = .ok (.iastore, 1) := by decide +kernel
theorem dM_condition_199 : decode prog_13_method_34_code 199 = .ok (.aload_n 0, 1) := by decide +kernel
theorem dM_condition_200 : decode prog_13_method_34_code 200 = .ok (.getfield 73, 3) := by decide +kernel
theorem dM_condition_203 : decode prog_13_method_34_code 203 = .ok (.iload 6, 2) := by decide +kernel
theorem dM_condition_205 : decode prog_13_method_34_code 205 = .ok (.iload_n 2, 1) := by decide +kernel
theorem dM_condition_206 : decode prog_13_method_34_code 206 = .ok (.iastore, 1) := by decide +kernel
theorem dM_condition_207 : decode prog_13_method_34_code 207 = .ok (.aload_n 0, 1) := by decide +kernel
theorem dM_condition_208 : decode prog_13_method_34_code 208 = .ok (.getfield 76, 3) := by decide +kernel
theorem dM_condition_211 : decode prog_13_method_34_code 211 = .ok (.iload 6, 2) := by decide +kernel
theorem dM_condition_213 : decode prog_13_method_34_code 213 = .ok (.iload_n 3, 1) := by decide +kernel
theorem dM_condition_214 : decode prog_13_method_34_code 214 = .ok (.iastore, 1) := by decide +kernel
theorem dM_condition_215 : decode prog_13_method_34_code 215 = .ok (.aload_n 0, 1) := by decide +kernel
theorem dM_condition_216 : decode prog_13_method_34_code 216 = .ok (.getfield 79, 3) := by decide +kernel
theorem dM_condition_219 : decode prog_13_method_34_code 219 = .ok (.iload 6, 2) := by decide +kernel
theorem dM_condition_221 : decode prog_13_method_34_code 221 = .ok (.iload 4, 2) := by decide +kernel
theorem dM_condition_223 : decode prog_13_method_34_code 223 = .ok (.iastore, 1) := by decide +kernel
theorem dM_condition_224 : decode prog_13_method_34_code 224 = .ok (.aload_n 0, 1) := by decide +kernel
theorem dM_condition_225 : decode prog_13_method_34_code 225 = .ok (.getfield 82, 3) := by decide +kernel
theorem dM_condition_228 : decode prog_13_method_34_code 228 = .ok (.iload 6, 2) := by decide +kernel
theorem dM_condition_230 : decode prog_13_method_34_code 230 = .ok (.iconst 0, 1) := by decide +kernel
theorem dM_condition_231 : decode prog_13_method_34_code 231 = .ok (.iastore, 1) := by decide +kernel
theorem dM_condition_232 : decode prog_13_method_34_code 232 = .ok (.iload_n 1, 1) := by decide +kernel
theorem dM_condition_233 : decode prog_13_method_34_code 233 = .ok (.iconst 4, 1) := by decide +kernel
