theorem dP_holds_5 : decode prog_1_method_16_code 5 = .ok (.astore 5, 2) := by decide +kernel
theorem dP_holds_7 : decode prog_1_method_16_code 7 = .ok (.aload 5, 2) := by decide +kernel
theorem dP_holds_9 : decode prog_1_method_16_code 9 = .ok (.ifnull 19, 3) := by decide +kernel
theorem dP_holds_12 : decode prog_1_method_16_code 12 = .ok (.iload_n 2, 1) := by decide +kernel
theorem dP_holds_13 : decode prog_1_method_16_code 13 = .ok (.iload_n 3, 1) := by decide +kernel
theorem dP_holds_14 : decode prog_1_method_16_code 14 = .ok (.invokestatic 116, 3) := by decide +kernel
theorem dP_holds_17 : decode prog_1_method_16_code 17 = .ok (.ifCond .eq 11, 3) := by decide +kernel
theorem dP_holds_20 : decode prog_1_method_16_code 20 = .ok (.iload 4, 2) := by decide +kernel
theorem dP_holds_22 : decode prog_1_method_16_code 22 = .ok (.invokestatic 128, 3) := by decide +kernel
theorem dP_holds_25 : decode prog_1_method_16_code 25 = .ok (.ifCond .ne 14, 3) := by decide +kernel
theorem dP_holds_28 : decode prog_1_method_16_code 28 = .ok (.new 91, 3) := by decide +kernel
theorem dP_holds_31 : decode prog_1_method_16_code 31 = .ok (.dup, 1) := by decide +kernel
theorem dP_holds_32 : decode prog_1_method_16_code 32 = .ok (.ldc_w 273, 3) := by decide +kernel
theorem dP_holds_35 : decode prog_1_method_16_code 35 = .ok (.invokespecial 95, 3) := by decide +kernel
theorem dP_holds_38 : decode prog_1_method_16_code 38 = .ok (.athrow, 1) := by decide +kernel
theorem dP_holds_39 : decode prog_1_method_16_code 39 = .ok (.aload 5, 2) := by decide +kernel
theorem dP_holds_41 : decode prog_1_method_16_code 41 = .ok (.iload 4, 2) := by decide +kernel
theorem dP_holds_43 : decode prog_1_method_16_code 43 = .ok (.invokevirtual 275, 3) := by decide +kernel
theorem dP_holds_46 : decode prog_1_method_16_code 46 = .ok (.astore 6, 2) := by decide +kernel
theorem dP_holds_48 : decode prog_1_method_16_code 48 = .ok (.aload 6, 2) := by decide +kernel
theorem dP_holds_50 : decode prog_1_method_16_code 50 = .ok (.ifnull 11, 3) := by decide +kernel
theorem dP_holds_53 : decode prog_1_method_16_code 53 = .ok (.aload 6, 2) := by decide +kernel
theorem dP_holds_55 : decode prog_1_method_16_code 55 = .ok (.invokevirtual 133, 3) := by decide +kernel
theorem dP_holds_58 : decode prog_1_method_16_code 58 = .ok (.ifCond .eq 5, 3) := by decide +kernel
theorem dP_holds_61 : decode prog_1_method_16_code 61 = .ok (.iconst (-1), 1) := by decide +kernel
theorem dP_holds_62 : decode prog_1_method_16_code 62 = .ok (.ireturn, 1) := by decide +kernel
theorem dP_holds_63 : decode prog_1_method_16_code 63 = .ok (.aload 6, 2) := by decide +kernel
theorem dP_holds_65 : decode prog_1_method_16_code 65 = .ok (.iload_n 2, 1) := by decide +kernel
theorem dP_holds_66 : decode prog_1_method_16_code 66 = .ok (.iload_n 3, 1) := by decide +kernel
theorem dP_holds_67 : decode prog_1_method_16_code 67 = .ok (.invokevirtual 279, 3) := by decide +kernel
theorem dP_holds_70 : decode prog_1_method_16_code 70 = .ok (.ifCond .eq 7, 3) := by decide +kernel
theorem dP_holds_73 : decode prog_1_method_16_code 73 = .ok (.iconst 1, 1) := by decide +kernel
theorem dP_holds_74 : decode prog_1_method_16_code 74 = .ok (.goto 4, 3) := by decide +kernel
theorem dP_holds_77 : decode prog_1_method_16_code 77 = .ok (.iconst 0, 1) := by decide +kernel
theorem dP_holds_78 : decode prog_1_method_16_code 78 = .ok (.ireturn, 1) := by decide +kernel
theorem dP_sound_0 : decode prog_1_method_17_code 0 = .ok (.new 75, 3) := by decide +kernel
theorem dP_sound_3 : decode prog_1_method_17_code 3 = .ok (.dup, 1) := by decide +kernel
theorem dP_sound_4 : decode prog_1_method_17_code 4 = .ok (.aload_n 0, 1) := by decide +kernel
theorem dP_sound_5 : decode prog_1_method_17_code 5 = .ok (.getfield 36, 3) := by decide +kernel
theorem dP_sound_8 : decode prog_1_method_17_code 8 = .ok (.aload_n 0, 1) := by decide +kernel
theorem dP_sound_9 : decode prog_1_method_17_code 9 = .ok (.getfield 40, 3) := by decide +kernel
theorem dP_sound_12 : decode prog_1_method_17_code 12 = .ok (.invokespecial 77, 3) := by decide +kernel
theorem dP_sound_15 : decode prog_1_method_17_code 15 = .ok (.invokevirtual 282, 3) := by decide +kernel
theorem dP_sound_18 : decode prog_1_method_17_code 18 = .ok (.ireturn, 1) := by decide +kernel
theorem dP_errors_0 : decode prog_1_method_18_code 0 = .ok (.aload_n 0, 1) := by decide +kernel
theorem dP_errors_1 : decode prog_1_method_18_code 1 = .ok (.iload_n 1, 1) := by decide +kernel
theorem dP_errors_2 : decode prog_1_method_18_code 2 = .ok (.invokevirtual 124, 3) := by decide +kernel
theorem dP_errors_5 : decode prog_1_method_18_code 5 = .ok (.astore_n 3, 1) := by decide +kernel
theorem dP_errors_6 : decode prog_1_method_18_code 6 = .ok (.aload_n 3, 1) := by decide +kernel
theorem dP_errors_7 : decode prog_1_method_18_code 7 = .ok (.ifnull 25, 3) := by decide +kernel
theorem dP_errors_10 : decode prog_1_method_18_code 10 = .ok (.iload_n 2, 1) := by decide +kernel
theorem dP_errors_11 : decode prog_1_method_18_code 11 = .ok (.ifCond .lt 21, 3) := by decide +kernel
theorem dP_errors_14 : decode prog_1_method_18_code 14 = .ok (.iload_n 2, 1) := by decide +kernel
theorem dP_errors_15 : decode prog_1_method_18_code 15 = .ok (.aload_n 3, 1) := by decide +kernel
theorem dP_errors_16 : decode prog_1_method_18_code 16 = .ok (.getfield 156, 3) := by decide +kernel
theorem dP_errors_19 : decode prog_1_method_18_code 19 = .ok (.invokevirtual 98, 3) := by decide +kernel
theorem dP_errors_22 : decode prog_1_method_18_code 22 = .ok (.if_icmp .ge 10, 3) := by decide +kernel
theorem dP_errors_25 : decode prog_1_method_18_code 25 = .ok (.aload_n 0, 1) := by decide +kernel
theorem dP_errors_26 : decode prog_1_method_18_code 26 = .ok (.getfield 40, 3) := by decide +kernel
theorem dP_errors_29 : decode prog_1_method_18_code 29 = .ok (.ifCond .ne 14, 3) := by decide +kernel
theorem dP_errors_32 : decode prog_1_method_18_code 32 = .ok (.new 285, 3) := by decide +kernel
theorem dP_errors_35 : decode prog_1_method_18_code 35 = .ok (.dup, 1) := by decide +kernel
theorem dP_errors_36 : decode prog_1_method_18_code 36 = .ok (.ldc_w 287, 3) := by decide +kernel
theorem dP_errors_39 : decode prog_1_method_18_code 39 = .ok (.invokespecial 289, 3) := by decide +kernel
theorem dP_errors_42 : decode prog_1_method_18_code 42 = .ok (.athrow, 1) := by decide +kernel
theorem dP_errors_43 : decode prog_1_method_18_code 43 = .ok (.aload_n 0, 1) := by decide +kernel
theorem dP_errors_44 : decode prog_1_method_18_code 44 = .ok (.getfield 62, 3) := by decide +kernel
theorem dP_errors_47 : decode prog_1_method_18_code 47 = .ok (.new 75, 3) := by decide +kernel
theorem dP_errors_50 : decode prog_1_method_18_code 50 = .ok (.dup, 1) := by decide +kernel
theorem dP_errors_51 : decode prog_1_method_18_code 51 = .ok (.aload_n 0, 1) := by decide +kernel
theorem dP_errors_52 : decode prog_1_method_18_code 52 = .ok (.getfield 36, 3) := by decide +kernel
theorem dP_errors_55 : decode prog_1_method_18_code 55 = .ok (.aload_n 0, 1) := by decide +kernel
theorem dP_errors_56 : decode prog_1_method_18_code 56 = .ok (.getfield 40, 3) := by decide +kernel
theorem dP_errors_59 : decode prog_1_method_18_code 59 = .ok (.invokespecial 77, 3) := by decide +kernel
theorem dP_errors_62 : decode prog_1_method_18_code 62 = .ok (.aload_n 3, 1) := by decide +kernel
theorem dP_errors_63 : decode prog_1_method_18_code 63 = .ok (.getfield 156, 3) := by decide +kernel
theorem dP_errors_66 : decode prog_1_method_18_code 66 = .ok (.iload_n 2, 1) := by decide +kernel
theorem dP_errors_67 : decode prog_1_method_18_code 67 = .ok (.invokevirtual 223, 3) := by decide +kernel
theorem dP_errors_70 : decode prog_1_method_18_code 70 = .ok (.checkcast 161, 3) := by decide +kernel
theorem dP_errors_73 : decode prog_1_method_18_code 73 = .ok (.getfield 290, 3) := by decide +kernel
theorem dP_errors_76 : decode prog_1_method_18_code 76 = .ok (.invokevirtual 294, 3) := by decide +kernel
theorem dP_errors_79 : decode prog_1_method_18_code 79 = .ok (.ireturn, 1) := by decide +kernel
theorem dWa_init_0 : decode prog_10_method_1_code 0 = .ok (.aload_n 0, 1) := by decide +kernel
theorem dWa_init_1 : decode prog_10_method_1_code 1 = .ok (.invokespecial 1, 3) := by decide +kernel
theorem dWa_init_4 : decode prog_10_method_1_code 4 = .ok (.aload_n 0, 1) := by decide +kernel
theorem dWa_init_5 : decode prog_10_method_1_code 5 = .ok (.new 7, 3) := by decide +kernel
theorem dWa_init_8 : decode prog_10_method_1_code 8 = .ok (.dup, 1) := by decide +kernel
theorem dWa_init_9 : decode prog_10_method_1_code 9 = .ok (.invokespecial 9, 3) := by decide +kernel
theorem dWa_init_12 : decode prog_10_method_1_code 12 = .ok (.putfield 10, 3) := by decide +kernel
theorem dWa_init_15 : decode prog_10_method_1_code 15 = .ok (.aload_n 0, 1) := by decide +kernel
theorem dWa_init_16 : decode prog_10_method_1_code 16 = .ok (.iconst 0, 1) := by decide +kernel
theorem dWa_init_17 : decode prog_10_method_1_code 17 = .ok (.putfield 16, 3) := by decide +kernel
theorem dWa_init_20 : decode prog_10_method_1_code 20 = .ok (.aload_n 0, 1) := by decide +kernel
theorem dWa_init_21 : decode prog_10_method_1_code 21 = .ok (.aload_n 1, 1) := by decide +kernel
theorem dWa_init_22 : decode prog_10_method_1_code 22 = .ok (.putfield 20, 3) := by decide +kernel
theorem dWa_init_25 : decode prog_10_method_1_code 25 = .ok (.aload_n 0, 1) := by decide +kernel
theorem dWa_init_26 : decode prog_10_method_1_code 26 = .ok (.iload_n 2, 1) := by decide +kernel
theorem dWa_init_27 : decode prog_10_method_1_code 27 = .ok (.putfield 24, 3) := by decide +kernel
theorem dWa_init_30 : decode prog_10_method_1_code 30 = .ok (.return_, 1) := by decide +kernel
theorem dP_watch_0 : decode prog_1_method_19_code 0 = .ok (.iload_n 1, 1) := by decide +kernel
theorem dP_watch_1 : decode prog_1_method_19_code 1 = .ok (.ifCond .lt 15, 3) := by decide +kernel
theorem dP_watch_4 : decode prog_1_method_19_code 4 = .ok (.iload_n 1, 1) := by decide +kernel
theorem dP_watch_5 : decode prog_1_method_19_code 5 = .ok (.iconst 4, 1) := by decide +kernel
theorem dP_watch_6 : decode prog_1_method_19_code 6 = .ok (.if_icmp .ge 10, 3) := by decide +kernel
theorem dP_watch_9 : decode prog_1_method_19_code 9 = .ok (.iload_n 2, 1) := by decide +kernel
theorem dP_watch_10 : decode prog_1_method_19_code 10 = .ok (.invokestatic 128, 3) := by decide +kernel
theorem dP_watch_13 : decode prog_1_method_19_code 13 = .ok (.ifCond .ne 14, 3) := by decide +kernel
theorem dP_watch_16 : decode prog_1_method_19_code 16 = .ok (.new 91, 3) := by decide +kernel
theorem dP_watch_19 : decode prog_1_method_19_code 19 = .ok (.dup, 1) := by decide +kernel
theorem dP_watch_20 : decode prog_1_method_19_code 20 = .ok (.ldc_w 297, 3) := by decide +kernel
theorem dP_watch_23 : decode prog_1_method_19_code 23 = .ok (.invokespecial 95, 3) := by decide +kernel
theorem dP_watch_26 : decode prog_1_method_19_code 26 = .ok (.athrow, 1) := by decide +kernel
theorem dP_watch_27 : decode prog_1_method_19_code 27 = .ok (.new 46, 3) := by decide +kernel
theorem dP_watch_30 : decode prog_1_method_19_code 30 = .ok (.dup, 1) := by decide +kernel
theorem dP_watch_31 : decode prog_1_method_19_code 31 = .ok (.aload_n 0, 1) := by decide +kernel
theorem dP_watch_32 : decode prog_1_method_19_code 32 = .ok (.getfield 32, 3) := by decide +kernel
theorem dP_watch_35 : decode prog_1_method_19_code 35 = .ok (.iload_n 2, 1) := by decide +kernel
theorem dP_watch_36 : decode prog_1_method_19_code 36 = .ok (.invokespecial 299, 3) := by decide +kernel
theorem dP_watch_39 : decode prog_1_method_19_code 39 = .ok (.astore_n 3, 1) := by decide +kernel
theorem dP_watch_40 : decode prog_1_method_19_code 40 = .ok (.iconst 0, 1) := by decide +kernel
theorem dP_watch_41 : decode prog_1_method_19_code 41 = .ok (.istore 4, 2) := by decide +kernel
theorem dP_watch_43 : decode prog_1_method_19_code 43 = .ok (.iload 4, 2) := by decide +kernel
theorem dP_watch_45 : decode prog_1_method_19_code 45 = .ok (.aload_n 0, 1) := by decide +kernel
theorem dP_watch_46 : decode prog_1_method_19_code 46 = .ok (.getfield 43, 3) := by decide +kernel
theorem dP_watch_49 : decode prog_1_method_19_code 49 = .ok (.invokevirtual 98, 3) := by decide +kernel
theorem dP_watch_52 : decode prog_1_method_19_code 52 = .ok (.if_icmp .ge 29, 3) := by decide +kernel
theorem dP_watch_55 : decode prog_1_method_19_code 55 = .ok (.aload_n 3, 1) := by decide +kernel
theorem dP_watch_56 : decode prog_1_method_19_code 56 = .ok (.getfield 301, 3) := by decide +kernel
theorem dP_watch_59 : decode prog_1_method_19_code 59 = .ok (.aload_n 0, 1) := by decide +kernel
theorem dP_watch_60 : decode prog_1_method_19_code 60 = .ok (.getfield 43, 3) := by decide +kernel
theorem dP_watch_63 : decode prog_1_method_19_code 63 = .ok (.iload 4, 2) := by decide +kernel
theorem dP_watch_65 : decode prog_1_method_19_code 65 = .ok (.invokevirtual 223, 3) := by decide +kernel
theorem dP_watch_68 : decode prog_1_method_19_code 68 = .ok (.checkcast 73, 3) := by decide +kernel
theorem dP_watch_71 : decode prog_1_method_19_code 71 = .ok (.invokevirtual 112, 3) := by decide +kernel
theorem dP_watch_74 : decode prog_1_method_19_code 74 = .ok (.pop, 1) := by decide +kernel
theorem dP_watch_75 : decode prog_1_method_19_code 75 = .ok (.iinc 4 1, 3) := by decide +kernel
theorem dP_watch_78 : decode prog_1_method_19_code 78 = .ok (.goto (-35), 3) := by decide +kernel
theorem dP_watch_81 : decode prog_1_method_19_code 81 = .ok (.aload_n 0, 1) := by decide +kernel
theorem dP_watch_82 : decode prog_1_method_19_code 82 = .ok (.getfield 48, 3) := by decide +kernel
theorem dP_watch_85 : decode prog_1_method_19_code 85 = .ok (.iload_n 1, 1) := by decide +kernel
theorem dP_watch_86 : decode prog_1_method_19_code 86 = .ok (.aload_n 3, 1) := by decide +kernel
theorem dP_watch_87 : decode prog_1_method_19_code 87 = .ok (.aastore, 1) := by decide +kernel
theorem dP_watch_88 : decode prog_1_method_19_code 88 = .ok (.return_, 1) := by decide +kernel
theorem dP_watchOf_0 : decode prog_1_method_29_code 0 = .ok (.iload_n 1, 1) := by decide +kernel
theorem dP_watchOf_1 : decode prog_1_method_29_code 1 = .ok (.ifCond .lt 17, 3) := by decide +kernel
theorem dP_watchOf_4 : decode prog_1_method_29_code 4 = .ok (.iload_n 1, 1) := by decide +kernel
theorem dP_watchOf_5 : decode prog_1_method_29_code 5 = .ok (.iconst 4, 1) := by decide +kernel
theorem dP_watchOf_6 : decode prog_1_method_29_code 6 = .ok (.if_icmp .ge 12, 3) := by decide +kernel
theorem dP_watchOf_9 : decode prog_1_method_29_code 9 = .ok (.aload_n 0, 1) := by decide +kernel
theorem dP_watchOf_10 : decode prog_1_method_29_code 10 = .ok (.getfield 48, 3) := by decide +kernel
theorem dP_watchOf_13 : decode prog_1_method_29_code 13 = .ok (.iload_n 1, 1) := by decide +kernel
theorem dP_watchOf_14 : decode prog_1_method_29_code 14 = .ok (.aaload, 1) := by decide +kernel
theorem dP_watchOf_15 : decode prog_1_method_29_code 15 = .ok (.goto 4, 3) := by decide +kernel
theorem dP_watchOf_18 : decode prog_1_method_29_code 18 = .ok (.aconst_null, 1) := by decide +kernel
theorem dP_watchOf_19 : decode prog_1_method_29_code 19 = .ok (.areturn, 1) := by decide +kernel
theorem dWa_hasTold_0 : decode prog_10_method_2_code 0 = .ok (.aload_n 0, 1) := by decide +kernel
theorem dWa_hasTold_1 : decode prog_10_method_2_code 1 = .ok (.getfield 16, 3) := by decide +kernel
theorem dWa_hasTold_4 : decode prog_10_method_2_code 4 = .ok (.iconst 1, 1) := by decide +kernel
theorem dWa_hasTold_5 : decode prog_10_method_2_code 5 = .ok (.iload_n 1, 1) := by decide +kernel
theorem dWa_hasTold_6 : decode prog_10_method_2_code 6 = .ok (.ishl, 1) := by decide +kernel
theorem dWa_hasTold_7 : decode prog_10_method_2_code 7 = .ok (.iand, 1) := by decide +kernel
theorem dWa_hasTold_8 : decode prog_10_method_2_code 8 = .ok (.ifCond .eq 7, 3) := by decide +kernel
theorem dWa_hasTold_11 : decode prog_10_method_2_code 11 = .ok (.iconst 1, 1) := by decide +kernel
theorem dWa_hasTold_12 : decode prog_10_method_2_code 12 = .ok (.goto 4, 3) := by decide +kernel
theorem dWa_hasTold_15 : decode prog_10_method_2_code 15 = .ok (.iconst 0, 1) := by decide +kernel
theorem dWa_hasTold_16 : decode prog_10_method_2_code 16 = .ok (.ireturn, 1) := by decide +kernel
theorem dP_news_0 : decode prog_1_method_20_code 0 = .ok (.aload_n 0, 1) := by decide +kernel
theorem dP_news_1 : decode prog_1_method_20_code 1 = .ok (.iload_n 1, 1) := by decide +kernel
theorem dP_news_2 : decode prog_1_method_20_code 2 = .ok (.invokevirtual 302, 3) := by decide +kernel
theorem dP_news_5 : decode prog_1_method_20_code 5 = .ok (.astore_n 2, 1) := by decide +kernel
theorem dP_news_6 : decode prog_1_method_20_code 6 = .ok (.aload_n 2, 1) := by decide +kernel
theorem dP_news_7 : decode prog_1_method_20_code 7 = .ok (.ifnonnull 14, 3) := by decide +kernel
theorem dP_news_10 : decode prog_1_method_20_code 10 = .ok (.new 91, 3) := by decide +kernel
theorem dP_news_13 : decode prog_1_method_20_code 13 = .ok (.dup, 1) := by decide +kernel
theorem dP_news_14 : decode prog_1_method_20_code 14 = .ok (.ldc_w 306, 3) := by decide +kernel
theorem dP_news_17 : decode prog_1_method_20_code 17 = .ok (.invokespecial 95, 3) := by decide +kernel
theorem dP_news_20 : decode prog_1_method_20_code 20 = .ok (.athrow, 1) := by decide +kernel
theorem dP_news_21 : decode prog_1_method_20_code 21 = .ok (.aload_n 0, 1) := by decide +kernel
theorem dP_news_22 : decode prog_1_method_20_code 22 = .ok (.getfield 55, 3) := by decide +kernel
theorem dP_news_25 : decode prog_1_method_20_code 25 = .ok (.invokevirtual 220, 3) := by decide +kernel
theorem dP_news_28 : decode prog_1_method_20_code 28 = .ok (.iconst 0, 1) := by decide +kernel
theorem dP_news_29 : decode prog_1_method_20_code 29 = .ok (.istore_n 3, 1) := by decide +kernel
theorem dP_news_30 : decode prog_1_method_20_code 30 = .ok (.iload_n 3, 1) := by decide +kernel
theorem dP_news_31 : decode prog_1_method_20_code 31 = .ok (.aload_n 0, 1) := by decide +kernel
theorem dP_news_32 : decode prog_1_method_20_code 32 = .ok (.getfield 10, 3) := by decide +kernel
theorem dP_news_35 : decode prog_1_method_20_code 35 = .ok (.invokevirtual 98, 3) := by decide +kernel
theorem dP_news_38 : decode prog_1_method_20_code 38 = .ok (.if_icmp .ge 56, 3) := by decide +kernel
theorem dP_news_41 : decode prog_1_method_20_code 41 = .ok (.aload_n 2, 1) := by decide +kernel
theorem dP_news_42 : decode prog_1_method_20_code 42 = .ok (.iload_n 3, 1) := by decide +kernel
theorem dP_news_43 : decode prog_1_method_20_code 43 = .ok (.invokevirtual 308, 3) := by decide +kernel
theorem dP_news_46 : decode prog_1_method_20_code 46 = .ok (.ifCond .ne 42, 3) := by decide +kernel
theorem dP_news_49 : decode prog_1_method_20_code 49 = .ok (.aload_n 0, 1) := by decide +kernel
theorem dP_news_50 : decode prog_1_method_20_code 50 = .ok (.aload_n 0, 1) := by decide +kernel
theorem dP_news_51 : decode prog_1_method_20_code 51 = .ok (.getfield 10, 3) := by decide +kernel
theorem dP_news_54 : decode prog_1_method_20_code 54 = .ok (.iload_n 3, 1) := by decide +kernel
theorem dP_news_55 : decode prog_1_method_20_code 55 = .ok (.invokevirtual 223, 3) := by decide +kernel
theorem dP_news_58 : decode prog_1_method_20_code 58 = .ok (.checkcast 107, 3) := by decide +kernel
theorem dP_news_61 : decode prog_1_method_20_code 61 = .ok (.aload_n 2, 1) := by decide +kernel
theorem dP_news_62 : decode prog_1_method_20_code 62 = .ok (.getfield 301, 3) := by decide +kernel
theorem dP_news_65 : decode prog_1_method_20_code 65 = .ok (.aload_n 2, 1) := by decide +kernel
theorem dP_news_66 : decode prog_1_method_20_code 66 = .ok (.getfield 311, 3) := by decide +kernel
theorem dP_news_69 : decode prog_1_method_20_code 69 = .ok (.aload_n 2, 1) := by decide +kernel
theorem dP_news_70 : decode prog_1_method_20_code 70 = .ok (.getfield 314, 3) := by decide +kernel
theorem dP_news_73 : decode prog_1_method_20_code 73 = .ok (.invokevirtual 227, 3) := by decide +kernel
theorem dP_news_76 : decode prog_1_method_20_code 76 = .ok (.ifCond .eq 12, 3) := by decide +kernel
theorem dP_news_79 : decode prog_1_method_20_code 79 = .ok (.aload_n 0, 1) := by decide +kernel
theorem dP_news_80 : decode prog_1_method_20_code 80 = .ok (.getfield 55, 3) := by decide +kernel
theorem dP_news_83 : decode prog_1_method_20_code 83 = .ok (.iload_n 3, 1) := by decide +kernel
theorem dP_news_84 : decode prog_1_method_20_code 84 = .ok (.lconst 0, 1) := by decide +kernel
theorem dP_news_85 : decode prog_1_method_20_code 85 = .ok (.invokevirtual 235, 3) := by decide +kernel
theorem dP_news_88 : decode prog_1_method_20_code 88 = .ok (.iinc 3 1, 3) := by decide +kernel
theorem dP_news_91 : decode prog_1_method_20_code 91 = .ok (.goto (-61), 3) := by decide +kernel
theorem dP_news_94 : decode prog_1_method_20_code 94 = .ok (.aload_n 0, 1) := by decide +kernel
theorem dP_news_95 : decode prog_1_method_20_code 95 = .ok (.getfield 55, 3) := by decide +kernel
theorem dP_news_98 : decode prog_1_method_20_code 98 = .ok (.getfield 238, 3) := by decide +kernel
theorem dP_news_101 : decode prog_1_method_20_code 101 = .ok (.ireturn, 1) := by decide +kernel
theorem dIn_bitCount_0 : decode prog_20_method_49_code 0 = .ok (.iload_n 0, 1) := by decide +kernel
theorem dIn_bitCount_1 : decode prog_20_method_49_code 1 = .ok (.iload_n 0, 1) := by decide +kernel
theorem dIn_bitCount_2 : decode prog_20_method_49_code 2 = .ok (.iconst 1, 1) := by decide +kernel
theorem dIn_bitCount_3 : decode prog_20_method_49_code 3 = .ok (.iushr, 1) := by decide +kernel
theorem dIn_bitCount_4 : decode prog_20_method_49_code 4 = .ok (.ldc_w 265, 3) := by decide +kernel
theorem dIn_bitCount_7 : decode prog_20_method_49_code 7 = .ok (.iand, 1) := by decide +kernel
theorem dIn_bitCount_8 : decode prog_20_method_49_code 8 = .ok (.isub, 1) := by decide +kernel
theorem dIn_bitCount_9 : decode prog_20_method_49_code 9 = .ok (.istore_n 0, 1) := by decide +kernel
theorem dIn_bitCount_10 : decode prog_20_method_49_code 10 = .ok (.iload_n 0, 1) := by decide +kernel
theorem dIn_bitCount_11 : decode prog_20_method_49_code 11 = .ok (.ldc_w 266, 3) := by decide +kernel
theorem dIn_bitCount_14 : decode prog_20_method_49_code 14 = .ok (.iand, 1) := by decide +kernel
theorem dIn_bitCount_15 : decode prog_20_method_49_code 15 = .ok (.iload_n 0, 1) := by decide +kernel
theorem dIn_bitCount_16 : decode prog_20_method_49_code 16 = .ok (.iconst 2, 1) := by decide +kernel
theorem dIn_bitCount_17 : decode prog_20_method_49_code 17 = .ok (.iushr, 1) := by decide +kernel
theorem dIn_bitCount_18 : decode prog_20_method_49_code 18 = .ok (.ldc_w 266, 3) := by decide +kernel
theorem dIn_bitCount_21 : decode prog_20_method_49_code 21 = .ok (.iand, 1) := by decide +kernel
theorem dIn_bitCount_22 : decode prog_20_method_49_code 22 = .ok (.iadd, 1) := by decide +kernel
theorem dIn_bitCount_23 : decode prog_20_method_49_code 23 = .ok (.istore_n 0, 1) := by decide +kernel
theorem dIn_bitCount_24 : decode prog_20_method_49_code 24 = .ok (.iload_n 0, 1) := by decide +kernel
theorem dIn_bitCount_25 : decode prog_20_method_49_code 25 = .ok (.iload_n 0, 1) := by decide +kernel
theorem dIn_bitCount_26 : decode prog_20_method_49_code 26 = .ok (.iconst 4, 1) := by decide +kernel
theorem dIn_bitCount_27 : decode prog_20_method_49_code 27 = .ok (.iushr, 1) := by decide +kernel
theorem dIn_bitCount_28 : decode prog_20_method_49_code 28 = .ok (.iadd, 1) := by decide +kernel
theorem dIn_bitCount_29 : decode prog_20_method_49_code 29 = .ok (.ldc_w 267, 3) := by decide +kernel
theorem dIn_bitCount_32 : decode prog_20_method_49_code 32 = .ok (.iand, 1) := by decide +kernel
theorem dIn_bitCount_33 : decode prog_20_method_49_code 33 = .ok (.istore_n 0, 1) := by decide +kernel
theorem dIn_bitCount_34 : decode prog_20_method_49_code 34 = .ok (.iload_n 0, 1) := by decide +kernel
theorem dIn_bitCount_35 : decode prog_20_method_49_code 35 = .ok (.iload_n 0, 1) := by decide +kernel
theorem dIn_bitCount_36 : decode prog_20_method_49_code 36 = .ok (.bipush 8, 2) := by decide +kernel
theorem dIn_bitCount_38 : decode prog_20_method_49_code 38 = .ok (.iushr, 1) := by decide +kernel
theorem dIn_bitCount_39 : decode prog_20_method_49_code 39 = .ok (.iadd, 1) := by decide +kernel
theorem dIn_bitCount_40 : decode prog_20_method_49_code 40 = .ok (.istore_n 0, 1) := by decide +kernel
theorem dIn_bitCount_41 : decode prog_20_method_49_code 41 = .ok (.iload_n 0, 1) := by decide +kernel
theorem dIn_bitCount_42 : decode prog_20_method_49_code 42 = .ok (.iload_n 0, 1) := by decide +kernel
theorem dIn_bitCount_43 : decode prog_20_method_49_code 43 = .ok (.bipush 16, 2) := by decide +kernel
theorem dIn_bitCount_45 : decode prog_20_method_49_code 45 = .ok (.iushr, 1) := by decide +kernel
theorem dIn_bitCount_46 : decode prog_20_method_49_code 46 = .ok (.iadd, 1) := by decide +kernel
theorem dIn_bitCount_47 : decode prog_20_method_49_code 47 = .ok (.istore_n 0, 1) := by decide +kernel
theorem dIn_bitCount_48 : decode prog_20_method_49_code 48 = .ok (.iload_n 0, 1) := by decide +kernel
theorem dIn_bitCount_49 : decode prog_20_method_49_code 49 = .ok (.bipush 63, 2) := by decide +kernel
theorem dIn_bitCount_51 : decode prog_20_method_49_code 51 = .ok (.iand, 1) := by decide +kernel
theorem dIn_bitCount_52 : decode prog_20_method_49_code 52 = .ok (.ireturn, 1) := by decide +kernel
theorem dP_told_0 : decode prog_1_method_21_code 0 = .ok (.aload_n 0, 1) := by decide +kernel
theorem dP_told_1 : decode prog_1_method_21_code 1 = .ok (.iload_n 1, 1) := by decide +kernel
theorem dP_told_2 : decode prog_1_method_21_code 2 = .ok (.invokevirtual 302, 3) := by decide +kernel
theorem dP_told_5 : decode prog_1_method_21_code 5 = .ok (.astore_n 2, 1) := by decide +kernel
theorem dP_told_6 : decode prog_1_method_21_code 6 = .ok (.aload_n 2, 1) := by decide +kernel
theorem dP_told_7 : decode prog_1_method_21_code 7 = .ok (.ifnonnull 14, 3) := by decide +kernel
theorem dP_told_10 : decode prog_1_method_21_code 10 = .ok (.new 91, 3) := by decide +kernel
theorem dP_told_13 : decode prog_1_method_21_code 13 = .ok (.dup, 1) := by decide +kernel
theorem dP_told_14 : decode prog_1_method_21_code 14 = .ok (.ldc_w 306, 3) := by decide +kernel
theorem dP_told_17 : decode prog_1_method_21_code 17 = .ok (.invokespecial 95, 3) := by decide +kernel
theorem dP_told_20 : decode prog_1_method_21_code 20 = .ok (.athrow, 1) := by decide +kernel
theorem dP_told_21 : decode prog_1_method_21_code 21 = .ok (.iconst 0, 1) := by decide +kernel
theorem dP_told_22 : decode prog_1_method_21_code 22 = .ok (.istore_n 3, 1) := by decide +kernel
theorem dP_told_23 : decode prog_1_method_21_code 23 = .ok (.iconst 0, 1) := by decide +kernel
theorem dP_told_24 : decode prog_1_method_21_code 24 = .ok (.istore 4, 2) := by decide +kernel
theorem dP_told_26 : decode prog_1_method_21_code 26 = .ok (.iload 4, 2) := by decide +kernel
theorem dP_told_28 : decode prog_1_method_21_code 28 = .ok (.aload_n 0, 1) := by decide +kernel
theorem dP_told_29 : decode prog_1_method_21_code 29 = .ok (.getfield 10, 3) := by decide +kernel
theorem dP_told_32 : decode prog_1_method_21_code 32 = .ok (.invokevirtual 98, 3) := by decide +kernel
theorem dP_told_35 : decode prog_1_method_21_code 35 = .ok (.if_icmp .ge 47, 3) := by decide +kernel
theorem dP_told_38 : decode prog_1_method_21_code 38 = .ok (.aload_n 0, 1) := by decide +kernel
theorem dP_told_39 : decode prog_1_method_21_code 39 = .ok (.aload_n 0, 1) := by decide +kernel
theorem dP_told_40 : decode prog_1_method_21_code 40 = .ok (.getfield 10, 3) := by decide +kernel
theorem dP_told_43 : decode prog_1_method_21_code 43 = .ok (.iload 4, 2) := by decide +kernel
theorem dP_told_45 : decode prog_1_method_21_code 45 = .ok (.invokevirtual 223, 3) := by decide +kernel
theorem dP_told_48 : decode prog_1_method_21_code 48 = .ok (.checkcast 107, 3) := by decide +kernel
theorem dP_told_51 : decode prog_1_method_21_code 51 = .ok (.aload_n 2, 1) := by decide +kernel
theorem dP_told_52 : decode prog_1_method_21_code 52 = .ok (.getfield 301, 3) := by decide +kernel
theorem dP_told_55 : decode prog_1_method_21_code 55 = .ok (.aload_n 2, 1) := by decide +kernel
theorem dP_told_56 : decode prog_1_method_21_code 56 = .ok (.getfield 311, 3) := by decide +kernel
theorem dP_told_59 : decode prog_1_method_21_code 59 = .ok (.aload_n 2, 1) := by decide +kernel
theorem dP_told_60 : decode prog_1_method_21_code 60 = .ok (.getfield 314, 3) := by decide +kernel
theorem dP_told_63 : decode prog_1_method_21_code 63 = .ok (.invokevirtual 227, 3) := by decide +kernel
theorem dP_told_66 : decode prog_1_method_21_code 66 = .ok (.ifCond .eq 10, 3) := by decide +kernel
theorem dP_told_69 : decode prog_1_method_21_code 69 = .ok (.iload_n 3, 1) := by decide +kernel
theorem dP_told_70 : decode prog_1_method_21_code 70 = .ok (.iconst 1, 1) := by decide +kernel
theorem dP_told_71 : decode prog_1_method_21_code 71 = .ok (.iload 4, 2) := by decide +kernel
theorem dP_told_73 : decode prog_1_method_21_code 73 = .ok (.ishl, 1) := by decide +kernel
theorem dP_told_74 : decode prog_1_method_21_code 74 = .ok (.ior, 1) := by decide +kernel
theorem dP_told_75 : decode prog_1_method_21_code 75 = .ok (.istore_n 3, 1) := by decide +kernel
theorem dP_told_76 : decode prog_1_method_21_code 76 = .ok (.iinc 4 1, 3) := by decide +kernel
theorem dP_told_79 : decode prog_1_method_21_code 79 = .ok (.goto (-53), 3) := by decide +kernel
theorem dP_told_82 : decode prog_1_method_21_code 82 = .ok (.aload_n 2, 1) := by decide +kernel
theorem dP_told_83 : decode prog_1_method_21_code 83 = .ok (.iload_n 3, 1) := by decide +kernel
theorem dP_told_84 : decode prog_1_method_21_code 84 = .ok (.putfield 317, 3) := by decide +kernel
theorem dP_told_87 : decode prog_1_method_21_code 87 = .ok (.iload_n 3, 1) := by decide +kernel
theorem dP_told_88 : decode prog_1_method_21_code 88 = .ok (.invokestatic 320, 3) := by decide +kernel
theorem dP_told_91 : decode prog_1_method_21_code 91 = .ok (.ireturn, 1) := by decide +kernel
theorem dL_place_0 : decode method_3_code 0 = .ok (.aload_n 2, 1) := by decide +kernel
theorem dL_place_1 : decode method_3_code 1 = .ok (.iconst 0, 1) := by decide +kernel
theorem dL_place_2 : decode method_3_code 2 = .ok (.aload_n 0, 1) := by decide +kernel
theorem dL_place_3 : decode method_3_code 3 = .ok (.iload_n 1, 1) := by decide +kernel
theorem dL_place_4 : decode method_3_code 4 = .ok (.invokevirtual 7, 3) := by decide +kernel
theorem dL_place_7 : decode method_3_code 7 = .ok (.i2l, 1) := by decide +kernel
theorem dL_place_8 : decode method_3_code 8 = .ok (.lastore, 1) := by decide +kernel
theorem dL_place_9 : decode method_3_code 9 = .ok (.goto 9, 3) := by decide +kernel
theorem dL_place_12 : decode method_3_code 12 = .ok (.astore_n 3, 1) := by decide +kernel
theorem dL_place_13 : decode method_3_code 13 = .ok (.iconst 1, 1) := by decide +kernel
theorem dL_place_14 : decode method_3_code 14 = .ok (.ireturn, 1) := by decide +kernel
theorem dL_place_15 : decode method_3_code 15 = .ok (.astore_n 3, 1) := by decide +kernel
theorem dL_place_16 : decode method_3_code 16 = .ok (.iconst 2, 1) := by decide +kernel
theorem dL_place_17 : decode method_3_code 17 = .ok (.ireturn, 1) := by decide +kernel
theorem dL_place_18 : decode method_3_code 18 = .ok (.iconst 0, 1) := by decide +kernel
theorem dL_place_19 : decode method_3_code 19 = .ok (.ireturn, 1) := by decide +kernel
theorem dL_corner_0 : decode method_4_code 0 = .ok (.aload_n 3, 1) := by decide +kernel
theorem dL_corner_1 : decode method_4_code 1 = .ok (.iconst 0, 1) := by decide +kernel
theorem dL_corner_2 : decode method_4_code 2 = .ok (.aload_n 0, 1) := by decide +kernel
theorem dL_corner_3 : decode method_4_code 3 = .ok (.iload_n 1, 1) := by decide +kernel
theorem dL_corner_4 : decode method_4_code 4 = .ok (.iload_n 2, 1) := by decide +kernel
theorem dL_corner_5 : decode method_4_code 5 = .ok (.invokevirtual 17, 3) := by decide +kernel
theorem dL_corner_8 : decode method_4_code 8 = .ok (.i2l, 1) := by decide +kernel
theorem dL_corner_9 : decode method_4_code 9 = .ok (.lastore, 1) := by decide +kernel
theorem dL_corner_10 : decode method_4_code 10 = .ok (.goto 11, 3) := by decide +kernel
theorem dL_corner_13 : decode method_4_code 13 = .ok (.astore 4, 2) := by decide +kernel
theorem dL_corner_15 : decode method_4_code 15 = .ok (.iconst 1, 1) := by decide +kernel
theorem dL_corner_16 : decode method_4_code 16 = .ok (.ireturn, 1) := by decide +kernel
theorem dL_corner_17 : decode method_4_code 17 = .ok (.astore 4, 2) := by decide +kernel
theorem dL_corner_19 : decode method_4_code 19 = .ok (.iconst 2, 1) := by decide +kernel
theorem dL_corner_20 : decode method_4_code 20 = .ok (.ireturn, 1) := by decide +kernel
theorem dL_corner_21 : decode method_4_code 21 = .ok (.iconst 0, 1) := by decide +kernel
theorem dL_corner_22 : decode method_4_code 22 = .ok (.ireturn, 1) := by decide +kernel
theorem dL_shape_0 : decode method_5_code 0 = .ok (.aload_n 0, 1) := by decide +kernel
theorem dL_shape_1 : decode method_5_code 1 = .ok (.iload_n 1, 1) := by decide +kernel
theorem dL_shape_2 : decode method_5_code 2 = .ok (.iload_n 2, 1) := by decide +kernel
theorem dL_shape_3 : decode method_5_code 3 = .ok (.invokevirtual 21, 3) := by decide +kernel
theorem dL_shape_6 : decode method_5_code 6 = .ok (.goto 9, 3) := by decide +kernel
theorem dL_shape_9 : decode method_5_code 9 = .ok (.astore_n 3, 1) := by decide +kernel
theorem dL_shape_10 : decode method_5_code 10 = .ok (.iconst 1, 1) := by decide +kernel
theorem dL_shape_11 : decode method_5_code 11 = .ok (.ireturn, 1) := by decide +kernel
theorem dL_shape_12 : decode method_5_code 12 = .ok (.astore_n 3, 1) := by decide +kernel
theorem dL_shape_13 : decode method_5_code 13 = .ok (.iconst 2, 1) := by decide +kernel
theorem dL_shape_14 : decode method_5_code 14 = .ok (.ireturn, 1) := by decide +kernel
theorem dL_shape_15 : decode method_5_code 15 = .ok (.iconst 0, 1) := by decide +kernel
theorem dL_shape_16 : decode method_5_code 16 = .ok (.ireturn, 1) := by decide +kernel
theorem dL_name_0 : decode method_6_code 0 = .ok (.aload_n 0, 1) := by decide +kernel
theorem dL_name_1 : decode method_6_code 1 = .ok (.iload_n 1, 1) := by decide +kernel
theorem dL_name_2 : decode method_6_code 2 = .ok (.iload_n 2, 1) := by decide +kernel
theorem dL_name_3 : decode method_6_code 3 = .ok (.iload_n 3, 1) := by decide +kernel
theorem dL_name_4 : decode method_6_code 4 = .ok (.invokevirtual 25, 3) := by decide +kernel
theorem dL_name_7 : decode method_6_code 7 = .ok (.goto 11, 3) := by decide +kernel
theorem dL_name_10 : decode method_6_code 10 = .ok (.astore 4, 2) := by decide +kernel
theorem dL_name_12 : decode method_6_code 12 = .ok (.iconst 1, 1) := by decide +kernel
theorem dL_name_13 : decode method_6_code 13 = .ok (.ireturn, 1) := by decide +kernel
theorem dL_name_14 : decode method_6_code 14 = .ok (.astore 4, 2) := by decide +kernel
theorem dL_name_16 : decode method_6_code 16 = .ok (.iconst 2, 1) := by decide +kernel
theorem dL_name_17 : decode method_6_code 17 = .ok (.ireturn, 1) := by decide +kernel
theorem dL_name_18 : decode method_6_code 18 = .ok (.iconst 0, 1) := by decide +kernel
theorem dL_name_19 : decode method_6_code 19 = .ok (.ireturn, 1) := by decide +kernel
theorem dL_parent_0 : decode method_7_code 0 = .ok (.aload_n 0, 1) := by decide +kernel
theorem dL_parent_1 : decode method_7_code 1 = .ok (.iload_n 1, 1) := by decide +kernel
theorem dL_parent_2 : decode method_7_code 2 = .ok (.iload_n 2, 1) := by decide +kernel
theorem dL_parent_3 : decode method_7_code 3 = .ok (.iload_n 3, 1) := by decide +kernel
theorem dL_parent_4 : decode method_7_code 4 = .ok (.iload 4, 2) := by decide +kernel
theorem dL_parent_6 : decode method_7_code 6 = .ok (.invokevirtual 29, 3) := by decide +kernel
theorem dL_parent_9 : decode method_7_code 9 = .ok (.goto 15, 3) := by decide +kernel
theorem dL_parent_12 : decode method_7_code 12 = .ok (.astore 5, 2) := by decide +kernel
theorem dL_parent_14 : decode method_7_code 14 = .ok (.iconst 1, 1) := by decide +kernel
theorem dL_parent_15 : decode method_7_code 15 = .ok (.ireturn, 1) := by decide +kernel
theorem dL_parent_16 : decode method_7_code 16 = .ok (.astore 5, 2) := by decide +kernel
theorem dL_parent_18 : decode method_7_code 18 = .ok (.iconst 2, 1) := by decide +kernel
theorem dL_parent_19 : decode method_7_code 19 = .ok (.ireturn, 1) := by decide +kernel
theorem dL_parent_20 : decode method_7_code 20 = .ok (.astore 5, 2) := by decide +kernel
theorem dL_parent_22 : decode method_7_code 22 = .ok (.iconst 3, 1) := by decide +kernel
theorem dL_parent_23 : decode method_7_code 23 = .ok (.ireturn, 1) := by decide +kernel
theorem dL_parent_24 : decode method_7_code 24 = .ok (.iconst 0, 1) := by decide +kernel
theorem dL_parent_25 : decode method_7_code 25 = .ok (.ireturn, 1) := by decide +kernel
theorem dL_remove_0 : decode method_8_code 0 = .ok (.aload_n 0, 1) := by decide +kernel
theorem dL_remove_1 : decode method_8_code 1 = .ok (.iload_n 1, 1) := by decide +kernel
theorem dL_remove_2 : decode method_8_code 2 = .ok (.iload_n 2, 1) := by decide +kernel
theorem dL_remove_3 : decode method_8_code 3 = .ok (.invokevirtual 35, 3) := by decide +kernel
theorem dL_remove_6 : decode method_8_code 6 = .ok (.goto 9, 3) := by decide +kernel
theorem dL_remove_9 : decode method_8_code 9 = .ok (.astore_n 3, 1) := by decide +kernel
theorem dL_remove_10 : decode method_8_code 10 = .ok (.iconst 1, 1) := by decide +kernel
theorem dL_remove_11 : decode method_8_code 11 = .ok (.ireturn, 1) := by decide +kernel
theorem dL_remove_12 : decode method_8_code 12 = .ok (.astore_n 3, 1) := by decide +kernel
theorem dL_remove_13 : decode method_8_code 13 = .ok (.iconst 2, 1) := by decide +kernel
theorem dL_remove_14 : decode method_8_code 14 = .ok (.ireturn, 1) := by decide +kernel
theorem dL_remove_15 : decode method_8_code 15 = .ok (.iconst 0, 1) := by decide +kernel
theorem dL_remove_16 : decode method_8_code 16 = .ok (.ireturn, 1) := by decide +kernel
theorem dL_condition_0 : decode method_9_code 0 = .ok (.aload 5, 2) := by decide +kernel
theorem dL_condition_2 : decode method_9_code 2 = .ok (.iconst 0, 1) := by decide +kernel
theorem dL_condition_3 : decode method_9_code 3 = .ok (.aload_n 0, 1) := by decide +kernel
theorem dL_condition_4 : decode method_9_code 4 = .ok (.iload_n 1, 1) := by decide +kernel
theorem dL_condition_5 : decode method_9_code 5 = .ok (.iload_n 2, 1) := by decide +kernel
theorem dL_condition_6 : decode method_9_code 6 = .ok (.iload_n 3, 1) := by decide +kernel
theorem dL_condition_7 : decode method_9_code 7 = .ok (.iload 4, 2) := by decide +kernel
theorem dL_condition_9 : decode method_9_code 9 = .ok (.invokevirtual 38, 3) := by decide +kernel
theorem dL_condition_12 : decode method_9_code 12 = .ok (.i2l, 1) := by decide +kernel
theorem dL_condition_13 : decode method_9_code 13 = .ok (.lastore, 1) := by decide +kernel
theorem dL_condition_14 : decode method_9_code 14 = .ok (.goto 11, 3) := by decide +kernel
theorem dL_condition_17 : decode method_9_code 17 = .ok (.astore 6, 2) := by decide +kernel
theorem dL_condition_19 : decode method_9_code 19 = .ok (.iconst 1, 1) := by decide +kernel
theorem dL_condition_20 : decode method_9_code 20 = .ok (.ireturn, 1) := by decide +kernel
theorem dL_condition_21 : decode method_9_code 21 = .ok (.astore 6, 2) := by decide +kernel
theorem dL_condition_23 : decode method_9_code 23 = .ok (.iconst 2, 1) := by decide +kernel
theorem dL_condition_24 : decode method_9_code 24 = .ok (.ireturn, 1) := by decide +kernel
theorem dL_condition_25 : decode method_9_code 25 = .ok (.iconst 0, 1) := by decide +kernel
theorem dL_condition_26 : decode method_9_code 26 = .ok (.ireturn, 1) := by decide +kernel
theorem dL_find_0 : decode method_10_code 0 = .ok (.aload_n 3, 1) := by decide +kernel
theorem dL_find_1 : decode method_10_code 1 = .ok (.iconst 0, 1) := by decide +kernel
theorem dL_find_2 : decode method_10_code 2 = .ok (.aload_n 0, 1) := by decide +kernel
theorem dL_find_3 : decode method_10_code 3 = .ok (.iload_n 1, 1) := by decide +kernel
theorem dL_find_4 : decode method_10_code 4 = .ok (.iload_n 2, 1) := by decide +kernel
theorem dL_find_5 : decode method_10_code 5 = .ok (.invokevirtual 42, 3) := by decide +kernel
theorem dL_find_8 : decode method_10_code 8 = .ok (.i2l, 1) := by decide +kernel
theorem dL_find_9 : decode method_10_code 9 = .ok (.lastore, 1) := by decide +kernel
theorem dL_find_10 : decode method_10_code 10 = .ok (.goto 7, 3) := by decide +kernel
theorem dL_find_13 : decode method_10_code 13 = .ok (.astore 4, 2) := by decide +kernel
theorem dL_find_15 : decode method_10_code 15 = .ok (.iconst 1, 1) := by decide +kernel
theorem dL_find_16 : decode method_10_code 16 = .ok (.ireturn, 1) := by decide +kernel
theorem dL_find_17 : decode method_10_code 17 = .ok (.iconst 0, 1) := by decide +kernel
theorem dL_find_18 : decode method_10_code 18 = .ok (.ireturn, 1) := by decide +kernel
theorem dL_near_0 : decode method_11_code 0 = .ok (.aload 6, 2) := by decide +kernel
theorem dL_near_2 : decode method_11_code 2 = .ok (.iconst 0, 1) := by decide +kernel
theorem dL_near_3 : decode method_11_code 3 = .ok (.aload_n 0, 1) := by decide +kernel
theorem dL_near_4 : decode method_11_code 4 = .ok (.iload_n 1, 1) := by decide +kernel
theorem dL_near_5 : decode method_11_code 5 = .ok (.iload_n 2, 1) := by decide +kernel
theorem dL_near_6 : decode method_11_code 6 = .ok (.iload_n 3, 1) := by decide +kernel
theorem dL_near_7 : decode method_11_code 7 = .ok (.iload 4, 2) := by decide +kernel
theorem dL_near_9 : decode method_11_code 9 = .ok (.iload 5, 2) := by decide +kernel
theorem dL_near_11 : decode method_11_code 11 = .ok (.invokevirtual 45, 3) := by decide +kernel
theorem dL_near_14 : decode method_11_code 14 = .ok (.i2l, 1) := by decide +kernel
theorem dL_near_15 : decode method_11_code 15 = .ok (.lastore, 1) := by decide +kernel
theorem dL_near_16 : decode method_11_code 16 = .ok (.goto 7, 3) := by decide +kernel
theorem dL_near_19 : decode method_11_code 19 = .ok (.astore 7, 2) := by decide +kernel
theorem dL_near_21 : decode method_11_code 21 = .ok (.iconst 1, 1) := by decide +kernel
theorem dL_near_22 : decode method_11_code 22 = .ok (.ireturn, 1) := by decide +kernel
theorem dL_near_23 : decode method_11_code 23 = .ok (.iconst 0, 1) := by decide +kernel
theorem dL_near_24 : decode method_11_code 24 = .ok (.ireturn, 1) := by decide +kernel
theorem dL_hit_0 : decode method_12_code 0 = .ok (.aload_n 2, 1) := by decide +kernel
theorem dL_hit_1 : decode method_12_code 1 = .ok (.iconst 0, 1) := by decide +kernel
theorem dL_hit_2 : decode method_12_code 2 = .ok (.aload_n 0, 1) := by decide +kernel
theorem dL_hit_3 : decode method_12_code 3 = .ok (.iload_n 1, 1) := by decide +kernel
theorem dL_hit_4 : decode method_12_code 4 = .ok (.invokevirtual 49, 3) := by decide +kernel
theorem dL_hit_7 : decode method_12_code 7 = .ok (.i2l, 1) := by decide +kernel
theorem dL_hit_8 : decode method_12_code 8 = .ok (.lastore, 1) := by decide +kernel
theorem dL_hit_9 : decode method_12_code 9 = .ok (.goto 6, 3) := by decide +kernel
theorem dL_hit_12 : decode method_12_code 12 = .ok (.astore_n 3, 1) := by decide +kernel
theorem dL_hit_13 : decode method_12_code 13 = .ok (.iconst 1, 1) := by decide +kernel
theorem dL_hit_14 : decode method_12_code 14 = .ok (.ireturn, 1) := by decide +kernel
theorem dL_hit_15 : decode method_12_code 15 = .ok (.iconst 0, 1) := by decide +kernel
theorem dL_hit_16 : decode method_12_code 16 = .ok (.ireturn, 1) := by decide +kernel
theorem dL_chain_0 : decode method_13_code 0 = .ok (.aload 4, 2) := by decide +kernel
theorem dL_chain_2 : decode method_13_code 2 = .ok (.iconst 0, 1) := by decide +kernel
theorem dL_chain_3 : decode method_13_code 3 = .ok (.aload_n 0, 1) := by decide +kernel
theorem dL_chain_4 : decode method_13_code 4 = .ok (.iload_n 1, 1) := by decide +kernel
theorem dL_chain_5 : decode method_13_code 5 = .ok (.iload_n 2, 1) := by decide +kernel
theorem dL_chain_6 : decode method_13_code 6 = .ok (.iload_n 3, 1) := by decide +kernel
theorem dL_chain_7 : decode method_13_code 7 = .ok (.invokevirtual 54, 3) := by decide +kernel
theorem dL_chain_10 : decode method_13_code 10 = .ok (.i2l, 1) := by decide +kernel
theorem dL_chain_11 : decode method_13_code 11 = .ok (.lastore, 1) := by decide +kernel
theorem dL_chain_12 : decode method_13_code 12 = .ok (.goto 7, 3) := by decide +kernel
theorem dL_chain_15 : decode method_13_code 15 = .ok (.astore 5, 2) := by decide +kernel
theorem dL_chain_17 : decode method_13_code 17 = .ok (.iconst 1, 1) := by decide +kernel
theorem dL_chain_18 : decode method_13_code 18 = .ok (.ireturn, 1) := by decide +kernel
theorem dL_chain_19 : decode method_13_code 19 = .ok (.iconst 0, 1) := by decide +kernel
theorem dL_chain_20 : decode method_13_code 20 = .ok (.ireturn, 1) := by decide +kernel
theorem dL_holds_0 : decode method_14_code 0 = .ok (.aload 5, 2) := by decide +kernel
theorem dL_holds_2 : decode method_14_code 2 = .ok (.iconst 0, 1) := by decide +kernel
theorem dL_holds_3 : decode method_14_code 3 = .ok (.aload_n 0, 1) := by decide +kernel
theorem dL_holds_4 : decode method_14_code 4 = .ok (.iload_n 1, 1) := by decide +kernel
theorem dL_holds_5 : decode method_14_code 5 = .ok (.iload_n 2, 1) := by decide +kernel
theorem dL_holds_6 : decode method_14_code 6 = .ok (.iload_n 3, 1) := by decide +kernel
theorem dL_holds_7 : decode method_14_code 7 = .ok (.iload 4, 2) := by decide +kernel
theorem dL_holds_9 : decode method_14_code 9 = .ok (.invokevirtual 58, 3) := by decide +kernel
theorem dL_holds_12 : decode method_14_code 12 = .ok (.i2l, 1) := by decide +kernel
theorem dL_holds_13 : decode method_14_code 13 = .ok (.lastore, 1) := by decide +kernel
theorem dL_holds_14 : decode method_14_code 14 = .ok (.goto 7, 3) := by decide +kernel
theorem dL_holds_17 : decode method_14_code 17 = .ok (.astore 6, 2) := by decide +kernel
theorem dL_holds_19 : decode method_14_code 19 = .ok (.iconst 1, 1) := by decide +kernel
theorem dL_holds_20 : decode method_14_code 20 = .ok (.ireturn, 1) := by decide +kernel
theorem dL_holds_21 : decode method_14_code 21 = .ok (.iconst 0, 1) := by decide +kernel
theorem dL_holds_22 : decode method_14_code 22 = .ok (.ireturn, 1) := by decide +kernel
theorem dL_errors_0 : decode method_15_code 0 = .ok (.aload_n 3, 1) := by decide +kernel
theorem dL_errors_1 : decode method_15_code 1 = .ok (.iconst 0, 1) := by decide +kernel
theorem dL_errors_2 : decode method_15_code 2 = .ok (.aload_n 0, 1) := by decide +kernel
theorem dL_errors_3 : decode method_15_code 3 = .ok (.iload_n 1, 1) := by decide +kernel
theorem dL_errors_4 : decode method_15_code 4 = .ok (.iload_n 2, 1) := by decide +kernel
theorem dL_errors_5 : decode method_15_code 5 = .ok (.invokevirtual 61, 3) := by decide +kernel
theorem dL_errors_8 : decode method_15_code 8 = .ok (.i2l, 1) := by decide +kernel
theorem dL_errors_9 : decode method_15_code 9 = .ok (.lastore, 1) := by decide +kernel
theorem dL_errors_10 : decode method_15_code 10 = .ok (.goto 7, 3) := by decide +kernel
theorem dL_errors_13 : decode method_15_code 13 = .ok (.astore 4, 2) := by decide +kernel
theorem dL_errors_15 : decode method_15_code 15 = .ok (.iconst 1, 1) := by decide +kernel
theorem dL_errors_16 : decode method_15_code 16 = .ok (.ireturn, 1) := by decide +kernel
theorem dL_errors_17 : decode method_15_code 17 = .ok (.iconst 0, 1) := by decide +kernel
theorem dL_errors_18 : decode method_15_code 18 = .ok (.ireturn, 1) := by decide +kernel
theorem dL_watch_0 : decode method_16_code 0 = .ok (.aload_n 0, 1) := by decide +kernel
theorem dL_watch_1 : decode method_16_code 1 = .ok (.iload_n 1, 1) := by decide +kernel
theorem dL_watch_2 : decode method_16_code 2 = .ok (.iload_n 2, 1) := by decide +kernel
theorem dL_watch_3 : decode method_16_code 3 = .ok (.invokevirtual 66, 3) := by decide +kernel
theorem dL_watch_6 : decode method_16_code 6 = .ok (.goto 6, 3) := by decide +kernel
theorem dL_watch_9 : decode method_16_code 9 = .ok (.astore_n 3, 1) := by decide +kernel
theorem dL_watch_10 : decode method_16_code 10 = .ok (.iconst 1, 1) := by decide +kernel
theorem dL_watch_11 : decode method_16_code 11 = .ok (.ireturn, 1) := by decide +kernel
theorem dL_watch_12 : decode method_16_code 12 = .ok (.iconst 0, 1) := by decide +kernel
theorem dL_watch_13 : decode method_16_code 13 = .ok (.ireturn, 1) := by decide +kernel
theorem dL_news_0 : decode method_17_code 0 = .ok (.aload_n 2, 1) := by decide +kernel
theorem dL_news_1 : decode method_17_code 1 = .ok (.iconst 0, 1) := by decide +kernel
theorem dL_news_2 : decode method_17_code 2 = .ok (.aload_n 0, 1) := by decide +kernel
theorem dL_news_3 : decode method_17_code 3 = .ok (.iload_n 1, 1) := by decide +kernel
theorem dL_news_4 : decode method_17_code 4 = .ok (.invokevirtual 69, 3) := by decide +kernel
theorem dL_news_7 : decode method_17_code 7 = .ok (.i2l, 1) := by decide +kernel
theorem dL_news_8 : decode method_17_code 8 = .ok (.lastore, 1) := by decide +kernel
theorem dL_news_9 : decode method_17_code 9 = .ok (.goto 6, 3) := by decide +kernel
theorem dL_news_12 : decode method_17_code 12 = .ok (.astore_n 3, 1) := by decide +kernel
theorem dL_news_13 : decode method_17_code 13 = .ok (.iconst 1, 1) := by decide +kernel
theorem dL_news_14 : decode method_17_code 14 = .ok (.ireturn, 1) := by decide +kernel
theorem dL_news_15 : decode method_17_code 15 = .ok (.iconst 0, 1) := by decide +kernel
theorem dL_news_16 : decode method_17_code 16 = .ok (.ireturn, 1) := by decide +kernel
theorem dL_told_0 : decode method_18_code 0 = .ok (.aload_n 2, 1) := by decide +kernel
theorem dL_told_1 : decode method_18_code 1 = .ok (.iconst 0, 1) := by decide +kernel
theorem dL_told_2 : decode method_18_code 2 = .ok (.aload_n 0, 1) := by decide +kernel
theorem dL_told_3 : decode method_18_code 3 = .ok (.iload_n 1, 1) := by decide +kernel
theorem dL_told_4 : decode method_18_code 4 = .ok (.invokevirtual 72, 3) := by decide +kernel
theorem dL_told_7 : decode method_18_code 7 = .ok (.i2l, 1) := by decide +kernel
theorem dL_told_8 : decode method_18_code 8 = .ok (.lastore, 1) := by decide +kernel
theorem dL_told_9 : decode method_18_code 9 = .ok (.goto 6, 3) := by decide +kernel
theorem dL_told_12 : decode method_18_code 12 = .ok (.astore_n 3, 1) := by decide +kernel
theorem dL_told_13 : decode method_18_code 13 = .ok (.iconst 1, 1) := by decide +kernel
theorem dL_told_14 : decode method_18_code 14 = .ok (.ireturn, 1) := by decide +kernel
theorem dL_told_15 : decode method_18_code 15 = .ok (.iconst 0, 1) := by decide +kernel
theorem dL_told_16 : decode method_18_code 16 = .ok (.ireturn, 1) := by decide +kernel
