theorem d_Grammar_markUseful_83 : decode b_Grammar_markUseful 83 = .ok (.iconst (-1), 1) := by decide +kernel
theorem d_Grammar_markUseful_84 : decode b_Grammar_markUseful 84 = .ok (.ixor, 1) := by decide +kernel
theorem d_Grammar_markUseful_85 : decode b_Grammar_markUseful 85 = .ok (.iand, 1) := by decide +kernel
theorem d_Grammar_markUseful_86 : decode b_Grammar_markUseful 86 = .ok (.ifCond .ne 16, 3) := by decide +kernel
theorem d_Grammar_markUseful_89 : decode b_Grammar_markUseful 89 = .ok (.aload_n 0, 1) := by decide +kernel
theorem d_Grammar_markUseful_90 : decode b_Grammar_markUseful 90 = .ok (.getfield 24, 3) := by decide +kernel
theorem d_Grammar_markUseful_93 : decode b_Grammar_markUseful 93 = .ok (.iload 4, 2) := by decide +kernel
theorem d_Grammar_markUseful_95 : decode b_Grammar_markUseful 95 = .ok (.iconst 1, 1) := by decide +kernel
theorem d_Grammar_markUseful_96 : decode b_Grammar_markUseful 96 = .ok (.bastore, 1) := by decide +kernel
theorem d_Grammar_markUseful_97 : decode b_Grammar_markUseful 97 = .ok (.iload_n 2, 1) := by decide +kernel
theorem d_Grammar_markUseful_98 : decode b_Grammar_markUseful 98 = .ok (.iload 5, 2) := by decide +kernel
theorem d_Grammar_markUseful_100 : decode b_Grammar_markUseful 100 = .ok (.ior, 1) := by decide +kernel
theorem d_Grammar_markUseful_101 : decode b_Grammar_markUseful 101 = .ok (.istore_n 2, 1) := by decide +kernel
theorem d_Grammar_markUseful_102 : decode b_Grammar_markUseful 102 = .ok (.iinc 4 1, 3) := by decide +kernel
theorem d_Grammar_markUseful_105 : decode b_Grammar_markUseful 105 = .ok (.goto (-57), 3) := by decide +kernel
theorem d_Grammar_markUseful_108 : decode b_Grammar_markUseful 108 = .ok (.iinc 3 1, 3) := by decide +kernel
theorem d_Grammar_markUseful_111 : decode b_Grammar_markUseful 111 = .ok (.goto (-71), 3) := by decide +kernel
theorem d_Grammar_markUseful_114 : decode b_Grammar_markUseful 114 = .ok (.return_, 1) := by decide +kernel
theorem d_Grammar_aloneUnder_0 : decode b_Grammar_aloneUnder 0 = .ok (.iconst 0, 1) := by decide +kernel
theorem d_Grammar_aloneUnder_1 : decode b_Grammar_aloneUnder 1 = .ok (.istore_n 2, 1) := by decide +kernel
theorem d_Grammar_aloneUnder_2 : decode b_Grammar_aloneUnder 2 = .ok (.iconst 0, 1) := by decide +kernel
theorem d_Grammar_aloneUnder_3 : decode b_Grammar_aloneUnder 3 = .ok (.istore_n 3, 1) := by decide +kernel
theorem d_Grammar_aloneUnder_4 : decode b_Grammar_aloneUnder 4 = .ok (.iload_n 3, 1) := by decide +kernel
theorem d_Grammar_aloneUnder_5 : decode b_Grammar_aloneUnder 5 = .ok (.aload_n 0, 1) := by decide +kernel
theorem d_Grammar_aloneUnder_6 : decode b_Grammar_aloneUnder 6 = .ok (.getfield 43, 3) := by decide +kernel
theorem d_Grammar_aloneUnder_9 : decode b_Grammar_aloneUnder 9 = .ok (.if_icmp .ge 46, 3) := by decide +kernel
theorem d_Grammar_aloneUnder_12 : decode b_Grammar_aloneUnder 12 = .ok (.aload_n 0, 1) := by decide +kernel
theorem d_Grammar_aloneUnder_13 : decode b_Grammar_aloneUnder 13 = .ok (.getfield 24, 3) := by decide +kernel
theorem d_Grammar_aloneUnder_16 : decode b_Grammar_aloneUnder 16 = .ok (.iload_n 3, 1) := by decide +kernel
theorem d_Grammar_aloneUnder_17 : decode b_Grammar_aloneUnder 17 = .ok (.baload, 1) := by decide +kernel
theorem d_Grammar_aloneUnder_18 : decode b_Grammar_aloneUnder 18 = .ok (.ifCond .eq 31, 3) := by decide +kernel
theorem d_Grammar_aloneUnder_21 : decode b_Grammar_aloneUnder 21 = .ok (.aload_n 0, 1) := by decide +kernel
theorem d_Grammar_aloneUnder_22 : decode b_Grammar_aloneUnder 22 = .ok (.getfield 9, 3) := by decide +kernel
theorem d_Grammar_aloneUnder_25 : decode b_Grammar_aloneUnder 25 = .ok (.iload_n 3, 1) := by decide +kernel
theorem d_Grammar_aloneUnder_26 : decode b_Grammar_aloneUnder 26 = .ok (.iaload, 1) := by decide +kernel
theorem d_Grammar_aloneUnder_27 : decode b_Grammar_aloneUnder 27 = .ok (.iload_n 1, 1) := by decide +kernel
theorem d_Grammar_aloneUnder_28 : decode b_Grammar_aloneUnder 28 = .ok (.if_icmp .ne 21, 3) := by decide +kernel
theorem d_Grammar_aloneUnder_31 : decode b_Grammar_aloneUnder 31 = .ok (.aload_n 0, 1) := by decide +kernel
theorem d_Grammar_aloneUnder_32 : decode b_Grammar_aloneUnder 32 = .ok (.getfield 18, 3) := by decide +kernel
theorem d_Grammar_aloneUnder_35 : decode b_Grammar_aloneUnder 35 = .ok (.iload_n 3, 1) := by decide +kernel
theorem d_Grammar_aloneUnder_36 : decode b_Grammar_aloneUnder 36 = .ok (.iaload, 1) := by decide +kernel
theorem d_Grammar_aloneUnder_37 : decode b_Grammar_aloneUnder 37 = .ok (.iconst 1, 1) := by decide +kernel
theorem d_Grammar_aloneUnder_38 : decode b_Grammar_aloneUnder 38 = .ok (.if_icmp .ne 11, 3) := by decide +kernel
theorem d_Grammar_aloneUnder_41 : decode b_Grammar_aloneUnder 41 = .ok (.iload_n 2, 1) := by decide +kernel
theorem d_Grammar_aloneUnder_42 : decode b_Grammar_aloneUnder 42 = .ok (.aload_n 0, 1) := by decide +kernel
theorem d_Grammar_aloneUnder_43 : decode b_Grammar_aloneUnder 43 = .ok (.iload_n 3, 1) := by decide +kernel
theorem d_Grammar_aloneUnder_44 : decode b_Grammar_aloneUnder 44 = .ok (.invokevirtual 47, 3) := by decide +kernel
theorem d_Grammar_aloneUnder_47 : decode b_Grammar_aloneUnder 47 = .ok (.ior, 1) := by decide +kernel
theorem d_Grammar_aloneUnder_48 : decode b_Grammar_aloneUnder 48 = .ok (.istore_n 2, 1) := by decide +kernel
theorem d_Grammar_aloneUnder_49 : decode b_Grammar_aloneUnder 49 = .ok (.iinc 3 1, 3) := by decide +kernel
theorem d_Grammar_aloneUnder_52 : decode b_Grammar_aloneUnder 52 = .ok (.goto (-48), 3) := by decide +kernel
theorem d_Grammar_aloneUnder_55 : decode b_Grammar_aloneUnder 55 = .ok (.iload_n 2, 1) := by decide +kernel
theorem d_Grammar_aloneUnder_56 : decode b_Grammar_aloneUnder 56 = .ok (.ireturn, 1) := by decide +kernel
theorem d_Grammar_appendUseful_0 : decode b_Grammar_appendUseful 0 = .ok (.iconst 0, 1) := by decide +kernel
theorem d_Grammar_appendUseful_1 : decode b_Grammar_appendUseful 1 = .ok (.istore_n 2, 1) := by decide +kernel
theorem d_Grammar_appendUseful_2 : decode b_Grammar_appendUseful 2 = .ok (.iload_n 2, 1) := by decide +kernel
theorem d_Grammar_appendUseful_3 : decode b_Grammar_appendUseful 3 = .ok (.aload_n 0, 1) := by decide +kernel
theorem d_Grammar_appendUseful_4 : decode b_Grammar_appendUseful 4 = .ok (.getfield 43, 3) := by decide +kernel
theorem d_Grammar_appendUseful_7 : decode b_Grammar_appendUseful 7 = .ok (.if_icmp .ge 57, 3) := by decide +kernel
theorem d_Grammar_appendUseful_10 : decode b_Grammar_appendUseful 10 = .ok (.aload_n 0, 1) := by decide +kernel
theorem d_Grammar_appendUseful_11 : decode b_Grammar_appendUseful 11 = .ok (.getfield 24, 3) := by decide +kernel
theorem d_Grammar_appendUseful_14 : decode b_Grammar_appendUseful 14 = .ok (.iload_n 2, 1) := by decide +kernel
theorem d_Grammar_appendUseful_15 : decode b_Grammar_appendUseful 15 = .ok (.baload, 1) := by decide +kernel
theorem d_Grammar_appendUseful_16 : decode b_Grammar_appendUseful 16 = .ok (.ifCond .eq 42, 3) := by decide +kernel
theorem d_Grammar_appendUseful_19 : decode b_Grammar_appendUseful 19 = .ok (.aload_n 0, 1) := by decide +kernel
theorem d_Grammar_appendUseful_20 : decode b_Grammar_appendUseful 20 = .ok (.getfield 9, 3) := by decide +kernel
theorem d_Grammar_appendUseful_23 : decode b_Grammar_appendUseful 23 = .ok (.iload_n 2, 1) := by decide +kernel
theorem d_Grammar_appendUseful_24 : decode b_Grammar_appendUseful 24 = .ok (.iaload, 1) := by decide +kernel
theorem d_Grammar_appendUseful_25 : decode b_Grammar_appendUseful 25 = .ok (.iload_n 1, 1) := by decide +kernel
theorem d_Grammar_appendUseful_26 : decode b_Grammar_appendUseful 26 = .ok (.if_icmp .ne 32, 3) := by decide +kernel
theorem d_Grammar_appendUseful_29 : decode b_Grammar_appendUseful 29 = .ok (.aload_n 0, 1) := by decide +kernel
theorem d_Grammar_appendUseful_30 : decode b_Grammar_appendUseful 30 = .ok (.getfield 54, 3) := by decide +kernel
theorem d_Grammar_appendUseful_33 : decode b_Grammar_appendUseful 33 = .ok (.bipush 14, 2) := by decide +kernel
theorem d_Grammar_appendUseful_35 : decode b_Grammar_appendUseful 35 = .ok (.if_icmp .ge 23, 3) := by decide +kernel
theorem d_Grammar_appendUseful_38 : decode b_Grammar_appendUseful 38 = .ok (.aload_n 0, 1) := by decide +kernel
theorem d_Grammar_appendUseful_39 : decode b_Grammar_appendUseful 39 = .ok (.getfield 28, 3) := by decide +kernel
theorem d_Grammar_appendUseful_42 : decode b_Grammar_appendUseful 42 = .ok (.aload_n 0, 1) := by decide +kernel
theorem d_Grammar_appendUseful_43 : decode b_Grammar_appendUseful 43 = .ok (.getfield 54, 3) := by decide +kernel
theorem d_Grammar_appendUseful_46 : decode b_Grammar_appendUseful 46 = .ok (.iload_n 2, 1) := by decide +kernel
theorem d_Grammar_appendUseful_47 : decode b_Grammar_appendUseful 47 = .ok (.iastore, 1) := by decide +kernel
theorem d_Grammar_appendUseful_48 : decode b_Grammar_appendUseful 48 = .ok (.aload_n 0, 1) := by decide +kernel
theorem d_Grammar_appendUseful_49 : decode b_Grammar_appendUseful 49 = .ok (.dup, 1) := by decide +kernel
theorem d_Grammar_appendUseful_50 : decode b_Grammar_appendUseful 50 = .ok (.getfield 54, 3) := by decide +kernel
theorem d_Grammar_appendUseful_53 : decode b_Grammar_appendUseful 53 = .ok (.iconst 1, 1) := by decide +kernel
theorem d_Grammar_appendUseful_54 : decode b_Grammar_appendUseful 54 = .ok (.iadd, 1) := by decide +kernel
theorem d_Grammar_appendUseful_55 : decode b_Grammar_appendUseful 55 = .ok (.putfield 54, 3) := by decide +kernel
theorem d_Grammar_appendUseful_58 : decode b_Grammar_appendUseful 58 = .ok (.iinc 2 1, 3) := by decide +kernel
theorem d_Grammar_appendUseful_61 : decode b_Grammar_appendUseful 61 = .ok (.goto (-59), 3) := by decide +kernel
theorem d_Grammar_appendUseful_64 : decode b_Grammar_appendUseful 64 = .ok (.return_, 1) := by decide +kernel
theorem d_Grammar_orderUseful_0 : decode b_Grammar_orderUseful 0 = .ok (.iconst 0, 1) := by decide +kernel
theorem d_Grammar_orderUseful_1 : decode b_Grammar_orderUseful 1 = .ok (.istore_n 1, 1) := by decide +kernel
theorem d_Grammar_orderUseful_2 : decode b_Grammar_orderUseful 2 = .ok (.aload_n 0, 1) := by decide +kernel
theorem d_Grammar_orderUseful_3 : decode b_Grammar_orderUseful 3 = .ok (.iconst 0, 1) := by decide +kernel
theorem d_Grammar_orderUseful_4 : decode b_Grammar_orderUseful 4 = .ok (.putfield 54, 3) := by decide +kernel
theorem d_Grammar_orderUseful_7 : decode b_Grammar_orderUseful 7 = .ok (.iconst 0, 1) := by decide +kernel
theorem d_Grammar_orderUseful_8 : decode b_Grammar_orderUseful 8 = .ok (.istore_n 2, 1) := by decide +kernel
theorem d_Grammar_orderUseful_9 : decode b_Grammar_orderUseful 9 = .ok (.iload_n 2, 1) := by decide +kernel
theorem d_Grammar_orderUseful_10 : decode b_Grammar_orderUseful 10 = .ok (.iconst 5, 1) := by decide +kernel
theorem d_Grammar_orderUseful_11 : decode b_Grammar_orderUseful 11 = .ok (.if_icmp .ge 57, 3) := by decide +kernel
theorem d_Grammar_orderUseful_14 : decode b_Grammar_orderUseful 14 = .ok (.bipush 65, 2) := by decide +kernel
theorem d_Grammar_orderUseful_16 : decode b_Grammar_orderUseful 16 = .ok (.istore_n 3, 1) := by decide +kernel
theorem d_Grammar_orderUseful_17 : decode b_Grammar_orderUseful 17 = .ok (.iload_n 3, 1) := by decide +kernel
theorem d_Grammar_orderUseful_18 : decode b_Grammar_orderUseful 18 = .ok (.bipush 70, 2) := by decide +kernel
theorem d_Grammar_orderUseful_20 : decode b_Grammar_orderUseful 20 = .ok (.if_icmp .ge 42, 3) := by decide +kernel
theorem d_Grammar_orderUseful_23 : decode b_Grammar_orderUseful 23 = .ok (.iload_n 1, 1) := by decide +kernel
theorem d_Grammar_orderUseful_24 : decode b_Grammar_orderUseful 24 = .ok (.iload_n 3, 1) := by decide +kernel
theorem d_Grammar_orderUseful_25 : decode b_Grammar_orderUseful 25 = .ok (.invokestatic 39, 3) := by decide +kernel
theorem d_Grammar_orderUseful_28 : decode b_Grammar_orderUseful 28 = .ok (.iand, 1) := by decide +kernel
theorem d_Grammar_orderUseful_29 : decode b_Grammar_orderUseful 29 = .ok (.ifCond .ne 27, 3) := by decide +kernel
theorem d_Grammar_orderUseful_32 : decode b_Grammar_orderUseful 32 = .ok (.aload_n 0, 1) := by decide +kernel
theorem d_Grammar_orderUseful_33 : decode b_Grammar_orderUseful 33 = .ok (.iload_n 3, 1) := by decide +kernel
theorem d_Grammar_orderUseful_34 : decode b_Grammar_orderUseful 34 = .ok (.invokevirtual 57, 3) := by decide +kernel
theorem d_Grammar_orderUseful_37 : decode b_Grammar_orderUseful 37 = .ok (.iload_n 1, 1) := by decide +kernel
theorem d_Grammar_orderUseful_38 : decode b_Grammar_orderUseful 38 = .ok (.iconst (-1), 1) := by decide +kernel
theorem d_Grammar_orderUseful_39 : decode b_Grammar_orderUseful 39 = .ok (.ixor, 1) := by decide +kernel
theorem d_Grammar_orderUseful_40 : decode b_Grammar_orderUseful 40 = .ok (.iand, 1) := by decide +kernel
theorem d_Grammar_orderUseful_41 : decode b_Grammar_orderUseful 41 = .ok (.ifCond .ne 15, 3) := by decide +kernel
theorem d_Grammar_orderUseful_44 : decode b_Grammar_orderUseful 44 = .ok (.iload_n 1, 1) := by decide +kernel
theorem d_Grammar_orderUseful_45 : decode b_Grammar_orderUseful 45 = .ok (.iload_n 3, 1) := by decide +kernel
theorem d_Grammar_orderUseful_46 : decode b_Grammar_orderUseful 46 = .ok (.invokestatic 39, 3) := by decide +kernel
theorem d_Grammar_orderUseful_49 : decode b_Grammar_orderUseful 49 = .ok (.ior, 1) := by decide +kernel
theorem d_Grammar_orderUseful_50 : decode b_Grammar_orderUseful 50 = .ok (.istore_n 1, 1) := by decide +kernel
theorem d_Grammar_orderUseful_51 : decode b_Grammar_orderUseful 51 = .ok (.aload_n 0, 1) := by decide +kernel
theorem d_Grammar_orderUseful_52 : decode b_Grammar_orderUseful 52 = .ok (.iload_n 3, 1) := by decide +kernel
theorem d_Grammar_orderUseful_53 : decode b_Grammar_orderUseful 53 = .ok (.invokevirtual 60, 3) := by decide +kernel
theorem d_Grammar_orderUseful_56 : decode b_Grammar_orderUseful 56 = .ok (.iinc 3 1, 3) := by decide +kernel
theorem d_Grammar_orderUseful_59 : decode b_Grammar_orderUseful 59 = .ok (.goto (-42), 3) := by decide +kernel
theorem d_Grammar_orderUseful_62 : decode b_Grammar_orderUseful 62 = .ok (.iinc 2 1, 3) := by decide +kernel
theorem d_Grammar_orderUseful_65 : decode b_Grammar_orderUseful 65 = .ok (.goto (-56), 3) := by decide +kernel
theorem d_Grammar_orderUseful_68 : decode b_Grammar_orderUseful 68 = .ok (.iload_n 1, 1) := by decide +kernel
theorem d_Grammar_orderUseful_69 : decode b_Grammar_orderUseful 69 = .ok (.bipush 31, 2) := by decide +kernel
theorem d_Grammar_orderUseful_71 : decode b_Grammar_orderUseful 71 = .ok (.if_icmp .ne 7, 3) := by decide +kernel
theorem d_Grammar_orderUseful_74 : decode b_Grammar_orderUseful 74 = .ok (.iconst 1, 1) := by decide +kernel
theorem d_Grammar_orderUseful_75 : decode b_Grammar_orderUseful 75 = .ok (.goto 4, 3) := by decide +kernel
theorem d_Grammar_orderUseful_78 : decode b_Grammar_orderUseful 78 = .ok (.iconst 0, 1) := by decide +kernel
theorem d_Grammar_orderUseful_79 : decode b_Grammar_orderUseful 79 = .ok (.ireturn, 1) := by decide +kernel
theorem d_Chart_restart_0 : decode b_Chart_restart 0 = .ok (.aload_n 0, 1) := by decide +kernel
theorem d_Chart_restart_1 : decode b_Chart_restart 1 = .ok (.aload_n 1, 1) := by decide +kernel
theorem d_Chart_restart_2 : decode b_Chart_restart 2 = .ok (.putfield 39, 3) := by decide +kernel
theorem d_Chart_restart_5 : decode b_Chart_restart 5 = .ok (.aload_n 0, 1) := by decide +kernel
theorem d_Chart_restart_6 : decode b_Chart_restart 6 = .ok (.iconst 0, 1) := by decide +kernel
theorem d_Chart_restart_7 : decode b_Chart_restart 7 = .ok (.putfield 43, 3) := by decide +kernel
theorem d_Chart_restart_10 : decode b_Chart_restart 10 = .ok (.return_, 1) := by decide +kernel
theorem d_RT_load_0 : decode b_RT_load 0 = .ok (.aload_n 0, 1) := by decide +kernel
theorem d_RT_load_1 : decode b_RT_load 1 = .ok (.getfield 21, 3) := by decide +kernel
theorem d_RT_load_4 : decode b_RT_load 4 = .ok (.aload_n 0, 1) := by decide +kernel
theorem d_RT_load_5 : decode b_RT_load 5 = .ok (.getfield 39, 3) := by decide +kernel
theorem d_RT_load_8 : decode b_RT_load 8 = .ok (.invokevirtual 59, 3) := by decide +kernel
theorem d_RT_load_11 : decode b_RT_load 11 = .ok (.istore_n 1, 1) := by decide +kernel
theorem d_RT_load_12 : decode b_RT_load 12 = .ok (.iload_n 1, 1) := by decide +kernel
theorem d_RT_load_13 : decode b_RT_load 13 = .ok (.ifCond .eq 5, 3) := by decide +kernel
theorem d_RT_load_16 : decode b_RT_load 16 = .ok (.iload_n 1, 1) := by decide +kernel
theorem d_RT_load_17 : decode b_RT_load 17 = .ok (.ireturn, 1) := by decide +kernel
theorem d_RT_load_18 : decode b_RT_load 18 = .ok (.aload_n 0, 1) := by decide +kernel
theorem d_RT_load_19 : decode b_RT_load 19 = .ok (.getfield 39, 3) := by decide +kernel
theorem d_RT_load_22 : decode b_RT_load 22 = .ok (.invokevirtual 63, 3) := by decide +kernel
theorem d_RT_load_25 : decode b_RT_load 25 = .ok (.aload_n 0, 1) := by decide +kernel
theorem d_RT_load_26 : decode b_RT_load 26 = .ok (.getfield 39, 3) := by decide +kernel
theorem d_RT_load_29 : decode b_RT_load 29 = .ok (.invokevirtual 66, 3) := by decide +kernel
theorem d_RT_load_32 : decode b_RT_load 32 = .ok (.ifCond .ne 7, 3) := by decide +kernel
theorem d_RT_load_35 : decode b_RT_load 35 = .ok (.sipush (-1000), 3) := by decide +kernel
theorem d_RT_load_38 : decode b_RT_load 38 = .ok (.ireturn, 1) := by decide +kernel
theorem d_RT_load_39 : decode b_RT_load 39 = .ok (.aload_n 0, 1) := by decide +kernel
theorem d_RT_load_40 : decode b_RT_load 40 = .ok (.getfield 35, 3) := by decide +kernel
theorem d_RT_load_43 : decode b_RT_load 43 = .ok (.astore_n 2, 1) := by decide +kernel
theorem d_RT_load_44 : decode b_RT_load 44 = .ok (.aload_n 0, 1) := by decide +kernel
theorem d_RT_load_45 : decode b_RT_load 45 = .ok (.aload_n 0, 1) := by decide +kernel
theorem d_RT_load_46 : decode b_RT_load 46 = .ok (.getfield 39, 3) := by decide +kernel
theorem d_RT_load_49 : decode b_RT_load 49 = .ok (.putfield 35, 3) := by decide +kernel
theorem d_RT_load_52 : decode b_RT_load 52 = .ok (.aload_n 0, 1) := by decide +kernel
theorem d_RT_load_53 : decode b_RT_load 53 = .ok (.aload_n 2, 1) := by decide +kernel
theorem d_RT_load_54 : decode b_RT_load 54 = .ok (.putfield 39, 3) := by decide +kernel
theorem d_RT_load_57 : decode b_RT_load 57 = .ok (.aload_n 0, 1) := by decide +kernel
theorem d_RT_load_58 : decode b_RT_load 58 = .ok (.getfield 47, 3) := by decide +kernel
theorem d_RT_load_61 : decode b_RT_load 61 = .ok (.aload_n 0, 1) := by decide +kernel
theorem d_RT_load_62 : decode b_RT_load 62 = .ok (.getfield 35, 3) := by decide +kernel
theorem d_RT_load_65 : decode b_RT_load 65 = .ok (.invokevirtual 70, 3) := by decide +kernel
theorem d_RT_load_68 : decode b_RT_load 68 = .ok (.iconst 0, 1) := by decide +kernel
theorem d_RT_load_69 : decode b_RT_load 69 = .ok (.ireturn, 1) := by decide +kernel
theorem d_RT_rules_0 : decode b_RT_rules 0 = .ok (.aload_n 0, 1) := by decide +kernel
theorem d_RT_rules_1 : decode b_RT_rules 1 = .ok (.getfield 35, 3) := by decide +kernel
theorem d_RT_rules_4 : decode b_RT_rules 4 = .ok (.getfield 74, 3) := by decide +kernel
theorem d_RT_rules_7 : decode b_RT_rules 7 = .ok (.ireturn, 1) := by decide +kernel
theorem d_RT_drop_0 : decode b_RT_drop 0 = .ok (.aload_n 0, 1) := by decide +kernel
theorem d_RT_drop_1 : decode b_RT_drop 1 = .ok (.getfield 28, 3) := by decide +kernel
theorem d_RT_drop_4 : decode b_RT_drop 4 = .ok (.getfield 110, 3) := by decide +kernel
theorem d_RT_drop_7 : decode b_RT_drop 7 = .ok (.istore_n 1, 1) := by decide +kernel
theorem d_RT_drop_8 : decode b_RT_drop 8 = .ok (.aload_n 0, 1) := by decide +kernel
theorem d_RT_drop_9 : decode b_RT_drop 9 = .ok (.getfield 28, 3) := by decide +kernel
theorem d_RT_drop_12 : decode b_RT_drop 12 = .ok (.iconst 0, 1) := by decide +kernel
theorem d_RT_drop_13 : decode b_RT_drop 13 = .ok (.putfield 110, 3) := by decide +kernel
theorem d_RT_drop_16 : decode b_RT_drop 16 = .ok (.aload_n 0, 1) := by decide +kernel
theorem d_RT_drop_17 : decode b_RT_drop 17 = .ok (.getfield 47, 3) := by decide +kernel
theorem d_RT_drop_20 : decode b_RT_drop 20 = .ok (.aload_n 0, 1) := by decide +kernel
theorem d_RT_drop_21 : decode b_RT_drop 21 = .ok (.getfield 35, 3) := by decide +kernel
theorem d_RT_drop_24 : decode b_RT_drop 24 = .ok (.invokevirtual 70, 3) := by decide +kernel
theorem d_RT_drop_27 : decode b_RT_drop 27 = .ok (.iload_n 1, 1) := by decide +kernel
theorem d_RT_drop_28 : decode b_RT_drop 28 = .ok (.ireturn, 1) := by decide +kernel
theorem d_RT_spansBefore_0 : decode b_RT_spansBefore 0 = .ok (.iload_n 0, 1) := by decide +kernel
theorem d_RT_spansBefore_1 : decode b_RT_spansBefore 1 = .ok (.iload_n 0, 1) := by decide +kernel
theorem d_RT_spansBefore_2 : decode b_RT_spansBefore 2 = .ok (.iconst 1, 1) := by decide +kernel
theorem d_RT_spansBefore_3 : decode b_RT_spansBefore 3 = .ok (.isub, 1) := by decide +kernel
theorem d_RT_spansBefore_4 : decode b_RT_spansBefore 4 = .ok (.imul, 1) := by decide +kernel
theorem d_RT_spansBefore_5 : decode b_RT_spansBefore 5 = .ok (.iconst 2, 1) := by decide +kernel
theorem d_RT_spansBefore_6 : decode b_RT_spansBefore 6 = .ok (.idiv, 1) := by decide +kernel
theorem d_RT_spansBefore_7 : decode b_RT_spansBefore 7 = .ok (.ireturn, 1) := by decide +kernel
theorem d_RT_cellOf_0 : decode b_RT_cellOf 0 = .ok (.iload_n 2, 1) := by decide +kernel
theorem d_RT_cellOf_1 : decode b_RT_cellOf 1 = .ok (.invokestatic 189, 3) := by decide +kernel
theorem d_RT_cellOf_4 : decode b_RT_cellOf 4 = .ok (.iload_n 1, 1) := by decide +kernel
theorem d_RT_cellOf_5 : decode b_RT_cellOf 5 = .ok (.iadd, 1) := by decide +kernel
theorem d_RT_cellOf_6 : decode b_RT_cellOf 6 = .ok (.iconst 5, 1) := by decide +kernel
theorem d_RT_cellOf_7 : decode b_RT_cellOf 7 = .ok (.imul, 1) := by decide +kernel
theorem d_RT_cellOf_8 : decode b_RT_cellOf 8 = .ok (.iload_n 0, 1) := by decide +kernel
theorem d_RT_cellOf_9 : decode b_RT_cellOf 9 = .ok (.iadd, 1) := by decide +kernel
theorem d_RT_cellOf_10 : decode b_RT_cellOf 10 = .ok (.bipush 65, 2) := by decide +kernel
theorem d_RT_cellOf_12 : decode b_RT_cellOf 12 = .ok (.isub, 1) := by decide +kernel
theorem d_RT_cellOf_13 : decode b_RT_cellOf 13 = .ok (.ireturn, 1) := by decide +kernel
theorem d_RT_startCell_0 : decode b_RT_startCell 0 = .ok (.aload_n 0, 1) := by decide +kernel
theorem d_RT_startCell_1 : decode b_RT_startCell 1 = .ok (.getfield 35, 3) := by decide +kernel
theorem d_RT_startCell_4 : decode b_RT_startCell 4 = .ok (.getfield 84, 3) := by decide +kernel
theorem d_RT_startCell_7 : decode b_RT_startCell 7 = .ok (.iconst 0, 1) := by decide +kernel
theorem d_RT_startCell_8 : decode b_RT_startCell 8 = .ok (.iaload, 1) := by decide +kernel
theorem d_RT_startCell_9 : decode b_RT_startCell 9 = .ok (.iconst 0, 1) := by decide +kernel
theorem d_RT_startCell_10 : decode b_RT_startCell 10 = .ok (.aload_n 0, 1) := by decide +kernel
theorem d_RT_startCell_11 : decode b_RT_startCell 11 = .ok (.getfield 28, 3) := by decide +kernel
theorem d_RT_startCell_14 : decode b_RT_startCell 14 = .ok (.getfield 110, 3) := by decide +kernel
theorem d_RT_startCell_17 : decode b_RT_startCell 17 = .ok (.invokestatic 141, 3) := by decide +kernel
theorem d_RT_startCell_20 : decode b_RT_startCell 20 = .ok (.ireturn, 1) := by decide +kernel
theorem d_RT_toOf_0 : decode b_RT_toOf 0 = .ok (.iload_n 0, 1) := by decide +kernel
theorem d_RT_toOf_1 : decode b_RT_toOf 1 = .ok (.bipush 40, 2) := by decide +kernel
theorem d_RT_toOf_3 : decode b_RT_toOf 3 = .ok (.idiv, 1) := by decide +kernel
theorem d_RT_toOf_4 : decode b_RT_toOf 4 = .ok (.istore_n 1, 1) := by decide +kernel
theorem d_RT_toOf_5 : decode b_RT_toOf 5 = .ok (.iconst 1, 1) := by decide +kernel
theorem d_RT_toOf_6 : decode b_RT_toOf 6 = .ok (.istore_n 2, 1) := by decide +kernel
theorem d_RT_toOf_7 : decode b_RT_toOf 7 = .ok (.iload_n 2, 1) := by decide +kernel
theorem d_RT_toOf_8 : decode b_RT_toOf 8 = .ok (.bipush 6, 2) := by decide +kernel
theorem d_RT_toOf_10 : decode b_RT_toOf 10 = .ok (.if_icmp .ge 19, 3) := by decide +kernel
theorem d_RT_toOf_13 : decode b_RT_toOf 13 = .ok (.iload_n 2, 1) := by decide +kernel
theorem d_RT_toOf_14 : decode b_RT_toOf 14 = .ok (.iconst 1, 1) := by decide +kernel
theorem d_RT_toOf_15 : decode b_RT_toOf 15 = .ok (.iadd, 1) := by decide +kernel
theorem d_RT_toOf_16 : decode b_RT_toOf 16 = .ok (.invokestatic 189, 3) := by decide +kernel
theorem d_RT_toOf_19 : decode b_RT_toOf 19 = .ok (.iload_n 1, 1) := by decide +kernel
theorem d_RT_toOf_20 : decode b_RT_toOf 20 = .ok (.if_icmp .gt 9, 3) := by decide +kernel
theorem d_RT_toOf_23 : decode b_RT_toOf 23 = .ok (.iinc 2 1, 3) := by decide +kernel
theorem d_RT_toOf_26 : decode b_RT_toOf 26 = .ok (.goto (-19), 3) := by decide +kernel
theorem d_RT_toOf_29 : decode b_RT_toOf 29 = .ok (.iload_n 2, 1) := by decide +kernel
theorem d_RT_toOf_30 : decode b_RT_toOf 30 = .ok (.ireturn, 1) := by decide +kernel
theorem d_RT_fromOf_0 : decode b_RT_fromOf 0 = .ok (.iload_n 0, 1) := by decide +kernel
theorem d_RT_fromOf_1 : decode b_RT_fromOf 1 = .ok (.bipush 40, 2) := by decide +kernel
theorem d_RT_fromOf_3 : decode b_RT_fromOf 3 = .ok (.idiv, 1) := by decide +kernel
theorem d_RT_fromOf_4 : decode b_RT_fromOf 4 = .ok (.iload_n 0, 1) := by decide +kernel
theorem d_RT_fromOf_5 : decode b_RT_fromOf 5 = .ok (.invokestatic 172, 3) := by decide +kernel
theorem d_RT_fromOf_8 : decode b_RT_fromOf 8 = .ok (.invokestatic 189, 3) := by decide +kernel
theorem d_RT_fromOf_11 : decode b_RT_fromOf 11 = .ok (.isub, 1) := by decide +kernel
theorem d_RT_fromOf_12 : decode b_RT_fromOf 12 = .ok (.ireturn, 1) := by decide +kernel
theorem d_M_init_0 : decode b_M_init 0 = .ok (.aload_n 0, 1) := by decide +kernel
theorem d_M_init_1 : decode b_M_init 1 = .ok (.invokespecial 1, 3) := by decide +kernel
theorem d_M_init_4 : decode b_M_init 4 = .ok (.aload_n 0, 1) := by decide +kernel
theorem d_M_init_5 : decode b_M_init 5 = .ok (.sipush 240, 3) := by decide +kernel
theorem d_M_init_8 : decode b_M_init 8 = .ok (.newarray .char, 2) := by decide +kernel
theorem d_M_init_10 : decode b_M_init 10 = .ok (.putfield 7, 3) := by decide +kernel
theorem d_M_init_13 : decode b_M_init 13 = .ok (.aload_n 0, 1) := by decide +kernel
theorem d_M_init_14 : decode b_M_init 14 = .ok (.iconst 2, 1) := by decide +kernel
theorem d_M_init_15 : decode b_M_init 15 = .ok (.newarray .int, 2) := by decide +kernel
theorem d_M_init_17 : decode b_M_init 17 = .ok (.putfield 13, 3) := by decide +kernel
theorem d_M_init_20 : decode b_M_init 20 = .ok (.aload_n 0, 1) := by decide +kernel
theorem d_M_init_21 : decode b_M_init 21 = .ok (.bipush 28, 2) := by decide +kernel
theorem d_M_init_23 : decode b_M_init 23 = .ok (.newarray .int, 2) := by decide +kernel
theorem d_M_init_25 : decode b_M_init 25 = .ok (.putfield 17, 3) := by decide +kernel
theorem d_M_init_28 : decode b_M_init 28 = .ok (.aload_n 0, 1) := by decide +kernel
theorem d_M_init_29 : decode b_M_init 29 = .ok (.bipush 28, 2) := by decide +kernel
theorem d_M_init_31 : decode b_M_init 31 = .ok (.newarray .int, 2) := by decide +kernel
theorem d_M_init_33 : decode b_M_init 33 = .ok (.putfield 20, 3) := by decide +kernel
theorem d_M_init_36 : decode b_M_init 36 = .ok (.aload_n 0, 1) := by decide +kernel
theorem d_M_init_37 : decode b_M_init 37 = .ok (.bipush 84, 2) := by decide +kernel
theorem d_M_init_39 : decode b_M_init 39 = .ok (.newarray .char, 2) := by decide +kernel
theorem d_M_init_41 : decode b_M_init 41 = .ok (.putfield 23, 3) := by decide +kernel
theorem d_M_init_44 : decode b_M_init 44 = .ok (.aload_n 0, 1) := by decide +kernel
theorem d_M_init_45 : decode b_M_init 45 = .ok (.bipush 28, 2) := by decide +kernel
theorem d_M_init_47 : decode b_M_init 47 = .ok (.newarray .int, 2) := by decide +kernel
theorem d_M_init_49 : decode b_M_init 49 = .ok (.putfield 26, 3) := by decide +kernel
theorem d_M_init_52 : decode b_M_init 52 = .ok (.aload_n 0, 1) := by decide +kernel
theorem d_M_init_53 : decode b_M_init 53 = .ok (.bipush 28, 2) := by decide +kernel
theorem d_M_init_55 : decode b_M_init 55 = .ok (.newarray .boolean, 2) := by decide +kernel
theorem d_M_init_57 : decode b_M_init 57 = .ok (.putfield 29, 3) := by decide +kernel
theorem d_M_init_60 : decode b_M_init 60 = .ok (.aload_n 0, 1) := by decide +kernel
theorem d_M_init_61 : decode b_M_init 61 = .ok (.iconst 5, 1) := by decide +kernel
theorem d_M_init_62 : decode b_M_init 62 = .ok (.newarray .boolean, 2) := by decide +kernel
theorem d_M_init_64 : decode b_M_init 64 = .ok (.putfield 33, 3) := by decide +kernel
theorem d_M_init_67 : decode b_M_init 67 = .ok (.aload_n 0, 1) := by decide +kernel
theorem d_M_init_68 : decode b_M_init 68 = .ok (.iconst 5, 1) := by decide +kernel
theorem d_M_init_69 : decode b_M_init 69 = .ok (.newarray .boolean, 2) := by decide +kernel
theorem d_M_init_71 : decode b_M_init 71 = .ok (.putfield 36, 3) := by decide +kernel
theorem d_M_init_74 : decode b_M_init 74 = .ok (.aload_n 0, 1) := by decide +kernel
theorem d_M_init_75 : decode b_M_init 75 = .ok (.iconst 5, 1) := by decide +kernel
theorem d_M_init_76 : decode b_M_init 76 = .ok (.newarray .int, 2) := by decide +kernel
theorem d_M_init_78 : decode b_M_init 78 = .ok (.putfield 39, 3) := by decide +kernel
theorem d_M_init_81 : decode b_M_init 81 = .ok (.aload_n 0, 1) := by decide +kernel
theorem d_M_init_82 : decode b_M_init 82 = .ok (.bipush 6, 2) := by decide +kernel
theorem d_M_init_84 : decode b_M_init 84 = .ok (.newarray .char, 2) := by decide +kernel
theorem d_M_init_86 : decode b_M_init 86 = .ok (.putfield 42, 3) := by decide +kernel
theorem d_M_init_89 : decode b_M_init 89 = .ok (.aload_n 0, 1) := by decide +kernel
theorem d_M_init_90 : decode b_M_init 90 = .ok (.sipush 180, 3) := by decide +kernel
theorem d_M_init_93 : decode b_M_init 93 = .ok (.newarray .long, 2) := by decide +kernel
theorem d_M_init_95 : decode b_M_init 95 = .ok (.putfield 45, 3) := by decide +kernel
theorem d_M_init_98 : decode b_M_init 98 = .ok (.aload_n 0, 1) := by decide +kernel
theorem d_M_init_99 : decode b_M_init 99 = .ok (.sipush 180, 3) := by decide +kernel
theorem d_M_init_102 : decode b_M_init 102 = .ok (.newarray .int, 2) := by decide +kernel
theorem d_M_init_104 : decode b_M_init 104 = .ok (.putfield 49, 3) := by decide +kernel
theorem d_M_init_107 : decode b_M_init 107 = .ok (.aload_n 0, 1) := by decide +kernel
theorem d_M_init_108 : decode b_M_init 108 = .ok (.sipush 1440, 3) := by decide +kernel
theorem d_M_init_111 : decode b_M_init 111 = .ok (.newarray .byte, 2) := by decide +kernel
theorem d_M_init_113 : decode b_M_init 113 = .ok (.putfield 52, 3) := by decide +kernel
theorem d_M_init_116 : decode b_M_init 116 = .ok (.aload_n 0, 1) := by decide +kernel
theorem d_M_init_117 : decode b_M_init 117 = .ok (.sipush 1440, 3) := by decide +kernel
theorem d_M_init_120 : decode b_M_init 120 = .ok (.newarray .int, 2) := by decide +kernel
theorem d_M_init_122 : decode b_M_init 122 = .ok (.putfield 56, 3) := by decide +kernel
theorem d_M_init_125 : decode b_M_init 125 = .ok (.aload_n 0, 1) := by decide +kernel
theorem d_M_init_126 : decode b_M_init 126 = .ok (.sipush 1440, 3) := by decide +kernel
theorem d_M_init_129 : decode b_M_init 129 = .ok (.newarray .short, 2) := by decide +kernel
theorem d_M_init_131 : decode b_M_init 131 = .ok (.putfield 59, 3) := by decide +kernel
theorem d_M_init_134 : decode b_M_init 134 = .ok (.aload_n 0, 1) := by decide +kernel
theorem d_M_init_135 : decode b_M_init 135 = .ok (.sipush 1440, 3) := by decide +kernel
theorem d_M_init_138 : decode b_M_init 138 = .ok (.newarray .short, 2) := by decide +kernel
theorem d_M_init_140 : decode b_M_init 140 = .ok (.putfield 63, 3) := by decide +kernel
theorem d_M_init_143 : decode b_M_init 143 = .ok (.aload_n 0, 1) := by decide +kernel
theorem d_M_init_144 : decode b_M_init 144 = .ok (.sipush 1440, 3) := by decide +kernel
theorem d_M_init_147 : decode b_M_init 147 = .ok (.newarray .short, 2) := by decide +kernel
theorem d_M_init_149 : decode b_M_init 149 = .ok (.putfield 66, 3) := by decide +kernel
theorem d_M_init_152 : decode b_M_init 152 = .ok (.aload_n 0, 1) := by decide +kernel
theorem d_M_init_153 : decode b_M_init 153 = .ok (.iconst 2, 1) := by decide +kernel
theorem d_M_init_154 : decode b_M_init 154 = .ok (.newarray .int, 2) := by decide +kernel
theorem d_M_init_156 : decode b_M_init 156 = .ok (.putfield 69, 3) := by decide +kernel
theorem d_M_init_159 : decode b_M_init 159 = .ok (.aload_n 0, 1) := by decide +kernel
theorem d_M_init_160 : decode b_M_init 160 = .ok (.bipush 120, 2) := by decide +kernel
theorem d_M_init_162 : decode b_M_init 162 = .ok (.newarray .int, 2) := by decide +kernel
theorem d_M_init_164 : decode b_M_init 164 = .ok (.putfield 72, 3) := by decide +kernel
theorem d_M_init_167 : decode b_M_init 167 = .ok (.aload_n 0, 1) := by decide +kernel
theorem d_M_init_168 : decode b_M_init 168 = .ok (.bipush 120, 2) := by decide +kernel
theorem d_M_init_170 : decode b_M_init 170 = .ok (.newarray .int, 2) := by decide +kernel
theorem d_M_init_172 : decode b_M_init 172 = .ok (.putfield 75, 3) := by decide +kernel
theorem d_M_init_175 : decode b_M_init 175 = .ok (.aload_n 0, 1) := by decide +kernel
theorem d_M_init_176 : decode b_M_init 176 = .ok (.bipush 120, 2) := by decide +kernel
theorem d_M_init_178 : decode b_M_init 178 = .ok (.newarray .int, 2) := by decide +kernel
theorem d_M_init_180 : decode b_M_init 180 = .ok (.putfield 78, 3) := by decide +kernel
theorem d_M_init_183 : decode b_M_init 183 = .ok (.return_, 1) := by decide +kernel
theorem d_M_thrown_0 : decode b_M_thrown 0 = .ok (.aload_n 0, 1) := by decide +kernel
theorem d_M_thrown_1 : decode b_M_thrown 1 = .ok (.getfield 81, 3) := by decide +kernel
theorem d_M_thrown_4 : decode b_M_thrown 4 = .ok (.ireturn, 1) := by decide +kernel
theorem d_M_write_0 : decode b_M_write 0 = .ok (.aload_n 0, 1) := by decide +kernel
theorem d_M_write_1 : decode b_M_write 1 = .ok (.iconst 0, 1) := by decide +kernel
theorem d_M_write_2 : decode b_M_write 2 = .ok (.putfield 81, 3) := by decide +kernel
theorem d_M_write_5 : decode b_M_write 5 = .ok (.iconst 0, 1) := by decide +kernel
theorem d_M_write_6 : decode b_M_write 6 = .ok (.istore_n 3, 1) := by decide +kernel
theorem d_M_write_7 : decode b_M_write 7 = .ok (.iconst 0, 1) := by decide +kernel
theorem d_M_write_8 : decode b_M_write 8 = .ok (.istore 4, 2) := by decide +kernel
theorem d_M_write_10 : decode b_M_write 10 = .ok (.iload 4, 2) := by decide +kernel
theorem d_M_write_12 : decode b_M_write 12 = .ok (.bipush 8, 2) := by decide +kernel
theorem d_M_write_14 : decode b_M_write 14 = .ok (.if_icmp .ge 57, 3) := by decide +kernel
theorem d_M_write_17 : decode b_M_write 17 = .ok (.lload_n 1, 1) := by decide +kernel
theorem d_M_write_18 : decode b_M_write 18 = .ok (.bipush 8, 2) := by decide +kernel
theorem d_M_write_20 : decode b_M_write 20 = .ok (.iload 4, 2) := by decide +kernel
theorem d_M_write_22 : decode b_M_write 22 = .ok (.imul, 1) := by decide +kernel
theorem d_M_write_23 : decode b_M_write 23 = .ok (.lshr, 1) := by decide +kernel
theorem d_M_write_24 : decode b_M_write 24 = .ok (.ldc2_w 85, 3) := by decide +kernel
theorem d_M_write_27 : decode b_M_write 27 = .ok (.land, 1) := by decide +kernel
theorem d_M_write_28 : decode b_M_write 28 = .ok (.l2i, 1) := by decide +kernel
theorem d_M_write_29 : decode b_M_write 29 = .ok (.istore 5, 2) := by decide +kernel
theorem d_M_write_31 : decode b_M_write 31 = .ok (.iload 5, 2) := by decide +kernel
theorem d_M_write_33 : decode b_M_write 33 = .ok (.ifCond .eq 19, 3) := by decide +kernel
theorem d_M_write_36 : decode b_M_write 36 = .ok (.iload 5, 2) := by decide +kernel
theorem d_M_write_38 : decode b_M_write 38 = .ok (.bipush 32, 2) := by decide +kernel
theorem d_M_write_40 : decode b_M_write 40 = .ok (.if_icmp .lt 10, 3) := by decide +kernel
theorem d_M_write_43 : decode b_M_write 43 = .ok (.iload 5, 2) := by decide +kernel
theorem d_M_write_45 : decode b_M_write 45 = .ok (.bipush 126, 2) := by decide +kernel
theorem d_M_write_47 : decode b_M_write 47 = .ok (.if_icmp .le 5, 3) := by decide +kernel
theorem d_M_write_50 : decode b_M_write 50 = .ok (.iconst 0, 1) := by decide +kernel
theorem d_M_write_51 : decode b_M_write 51 = .ok (.ireturn, 1) := by decide +kernel
theorem d_M_write_52 : decode b_M_write 52 = .ok (.iload_n 3, 1) := by decide +kernel
theorem d_M_write_53 : decode b_M_write 53 = .ok (.iload 5, 2) := by decide +kernel
theorem d_M_write_55 : decode b_M_write 55 = .ok (.ifCond .ne 7, 3) := by decide +kernel
theorem d_M_write_58 : decode b_M_write 58 = .ok (.iconst 0, 1) := by decide +kernel
theorem d_M_write_59 : decode b_M_write 59 = .ok (.goto 4, 3) := by decide +kernel
theorem d_M_write_62 : decode b_M_write 62 = .ok (.iconst 1, 1) := by decide +kernel
theorem d_M_write_63 : decode b_M_write 63 = .ok (.iadd, 1) := by decide +kernel
theorem d_M_write_64 : decode b_M_write 64 = .ok (.istore_n 3, 1) := by decide +kernel
theorem d_M_write_65 : decode b_M_write 65 = .ok (.iinc 4 1, 3) := by decide +kernel
theorem d_M_write_68 : decode b_M_write 68 = .ok (.goto (-58), 3) := by decide +kernel
theorem d_M_write_71 : decode b_M_write 71 = .ok (.aload_n 0, 1) := by decide +kernel
theorem d_M_write_72 : decode b_M_write 72 = .ok (.getfield 87, 3) := by decide +kernel
theorem d_M_write_75 : decode b_M_write 75 = .ok (.iload_n 3, 1) := by decide +kernel
theorem d_M_write_76 : decode b_M_write 76 = .ok (.iadd, 1) := by decide +kernel
theorem d_M_write_77 : decode b_M_write 77 = .ok (.sipush 240, 3) := by decide +kernel
theorem d_M_write_80 : decode b_M_write 80 = .ok (.if_icmp .le 5, 3) := by decide +kernel
theorem d_M_write_83 : decode b_M_write 83 = .ok (.iconst 0, 1) := by decide +kernel
theorem d_M_write_84 : decode b_M_write 84 = .ok (.ireturn, 1) := by decide +kernel
theorem d_M_write_85 : decode b_M_write 85 = .ok (.iconst 0, 1) := by decide +kernel
theorem d_M_write_86 : decode b_M_write 86 = .ok (.istore 4, 2) := by decide +kernel
theorem d_M_write_88 : decode b_M_write 88 = .ok (.iload 4, 2) := by decide +kernel
theorem d_M_write_90 : decode b_M_write 90 = .ok (.bipush 8, 2) := by decide +kernel
theorem d_M_write_92 : decode b_M_write 92 = .ok (.if_icmp .ge 50, 3) := by decide +kernel
theorem d_M_write_95 : decode b_M_write 95 = .ok (.lload_n 1, 1) := by decide +kernel
theorem d_M_write_96 : decode b_M_write 96 = .ok (.bipush 8, 2) := by decide +kernel
theorem d_M_write_98 : decode b_M_write 98 = .ok (.iload 4, 2) := by decide +kernel
theorem d_M_write_100 : decode b_M_write 100 = .ok (.imul, 1) := by decide +kernel
theorem d_M_write_101 : decode b_M_write 101 = .ok (.lshr, 1) := by decide +kernel
theorem d_M_write_102 : decode b_M_write 102 = .ok (.ldc2_w 85, 3) := by decide +kernel
theorem d_M_write_105 : decode b_M_write 105 = .ok (.land, 1) := by decide +kernel
theorem d_M_write_106 : decode b_M_write 106 = .ok (.l2i, 1) := by decide +kernel
theorem d_M_write_107 : decode b_M_write 107 = .ok (.istore 5, 2) := by decide +kernel
theorem d_M_write_109 : decode b_M_write 109 = .ok (.iload 5, 2) := by decide +kernel
theorem d_M_write_111 : decode b_M_write 111 = .ok (.ifCond .eq 25, 3) := by decide +kernel
theorem d_M_write_114 : decode b_M_write 114 = .ok (.aload_n 0, 1) := by decide +kernel
theorem d_M_write_115 : decode b_M_write 115 = .ok (.getfield 7, 3) := by decide +kernel
theorem d_M_write_118 : decode b_M_write 118 = .ok (.aload_n 0, 1) := by decide +kernel
theorem d_M_write_119 : decode b_M_write 119 = .ok (.getfield 87, 3) := by decide +kernel
theorem d_M_write_122 : decode b_M_write 122 = .ok (.iload 5, 2) := by decide +kernel
theorem d_M_write_124 : decode b_M_write 124 = .ok (.i2c, 1) := by decide +kernel
theorem d_M_write_125 : decode b_M_write 125 = .ok (.castore, 1) := by decide +kernel
theorem d_M_write_126 : decode b_M_write 126 = .ok (.aload_n 0, 1) := by decide +kernel
theorem d_M_write_127 : decode b_M_write 127 = .ok (.dup, 1) := by decide +kernel
theorem d_M_write_128 : decode b_M_write 128 = .ok (.getfield 87, 3) := by decide +kernel
theorem d_M_write_131 : decode b_M_write 131 = .ok (.iconst 1, 1) := by decide +kernel
theorem d_M_write_132 : decode b_M_write 132 = .ok (.iadd, 1) := by decide +kernel
theorem d_M_write_133 : decode b_M_write 133 = .ok (.putfield 87, 3) := by decide +kernel
theorem d_M_write_136 : decode b_M_write 136 = .ok (.iinc 4 1, 3) := by decide +kernel
theorem d_M_write_139 : decode b_M_write 139 = .ok (.goto (-51), 3) := by decide +kernel
theorem d_M_write_142 : decode b_M_write 142 = .ok (.iconst 1, 1) := by decide +kernel
theorem d_M_write_143 : decode b_M_write 143 = .ok (.ireturn, 1) := by decide +kernel
theorem d_M_wipe_0 : decode b_M_wipe 0 = .ok (.aload_n 0, 1) := by decide +kernel
theorem d_M_wipe_1 : decode b_M_wipe 1 = .ok (.iconst 0, 1) := by decide +kernel
theorem d_M_wipe_2 : decode b_M_wipe 2 = .ok (.putfield 81, 3) := by decide +kernel
theorem d_M_wipe_5 : decode b_M_wipe 5 = .ok (.aload_n 0, 1) := by decide +kernel
theorem d_M_wipe_6 : decode b_M_wipe 6 = .ok (.iconst 0, 1) := by decide +kernel
theorem d_M_wipe_7 : decode b_M_wipe 7 = .ok (.putfield 87, 3) := by decide +kernel
theorem d_M_wipe_10 : decode b_M_wipe 10 = .ok (.return_, 1) := by decide +kernel
theorem d_M_next_0 : decode b_M_next 0 = .ok (.aload_n 0, 1) := by decide +kernel
theorem d_M_next_1 : decode b_M_next 1 = .ok (.getfield 90, 3) := by decide +kernel
theorem d_M_next_4 : decode b_M_next 4 = .ok (.aload_n 0, 1) := by decide +kernel
theorem d_M_next_5 : decode b_M_next 5 = .ok (.getfield 87, 3) := by decide +kernel
theorem d_M_next_8 : decode b_M_next 8 = .ok (.if_icmp .ge 15, 3) := by decide +kernel
theorem d_M_next_11 : decode b_M_next 11 = .ok (.aload_n 0, 1) := by decide +kernel
theorem d_M_next_12 : decode b_M_next 12 = .ok (.getfield 7, 3) := by decide +kernel
theorem d_M_next_15 : decode b_M_next 15 = .ok (.aload_n 0, 1) := by decide +kernel
theorem d_M_next_16 : decode b_M_next 16 = .ok (.getfield 90, 3) := by decide +kernel
theorem d_M_next_19 : decode b_M_next 19 = .ok (.caload, 1) := by decide +kernel
theorem d_M_next_20 : decode b_M_next 20 = .ok (.goto 4, 3) := by decide +kernel
theorem d_M_next_23 : decode b_M_next 23 = .ok (.iconst 0, 1) := by decide +kernel
theorem d_M_next_24 : decode b_M_next 24 = .ok (.ireturn, 1) := by decide +kernel
theorem d_M_isLetter_0 : decode b_M_isLetter 0 = .ok (.iload_n 0, 1) := by decide +kernel
theorem d_M_isLetter_1 : decode b_M_isLetter 1 = .ok (.bipush 65, 2) := by decide +kernel
theorem d_M_isLetter_3 : decode b_M_isLetter 3 = .ok (.if_icmp .lt 13, 3) := by decide +kernel
theorem d_M_isLetter_6 : decode b_M_isLetter 6 = .ok (.iload_n 0, 1) := by decide +kernel
theorem d_M_isLetter_7 : decode b_M_isLetter 7 = .ok (.bipush 69, 2) := by decide +kernel
theorem d_M_isLetter_9 : decode b_M_isLetter 9 = .ok (.if_icmp .gt 7, 3) := by decide +kernel
theorem d_M_isLetter_12 : decode b_M_isLetter 12 = .ok (.iconst 1, 1) := by decide +kernel
theorem d_M_isLetter_13 : decode b_M_isLetter 13 = .ok (.goto 4, 3) := by decide +kernel
theorem d_M_isLetter_16 : decode b_M_isLetter 16 = .ok (.iconst 0, 1) := by decide +kernel
theorem d_M_isLetter_17 : decode b_M_isLetter 17 = .ok (.ireturn, 1) := by decide +kernel
theorem d_M_isToken_0 : decode b_M_isToken 0 = .ok (.iload_n 0, 1) := by decide +kernel
theorem d_M_isToken_1 : decode b_M_isToken 1 = .ok (.bipush 97, 2) := by decide +kernel
theorem d_M_isToken_3 : decode b_M_isToken 3 = .ok (.if_icmp .lt 13, 3) := by decide +kernel
theorem d_M_isToken_6 : decode b_M_isToken 6 = .ok (.iload_n 0, 1) := by decide +kernel
theorem d_M_isToken_7 : decode b_M_isToken 7 = .ok (.bipush 122, 2) := by decide +kernel
theorem d_M_isToken_9 : decode b_M_isToken 9 = .ok (.if_icmp .gt 7, 3) := by decide +kernel
theorem d_M_isToken_12 : decode b_M_isToken 12 = .ok (.iconst 1, 1) := by decide +kernel
theorem d_M_isToken_13 : decode b_M_isToken 13 = .ok (.goto 4, 3) := by decide +kernel
theorem d_M_isToken_16 : decode b_M_isToken 16 = .ok (.iconst 0, 1) := by decide +kernel
theorem d_M_isToken_17 : decode b_M_isToken 17 = .ok (.ireturn, 1) := by decide +kernel
theorem d_M_digit_0 : decode b_M_digit 0 = .ok (.aload_n 0, 1) := by decide +kernel
theorem d_M_digit_1 : decode b_M_digit 1 = .ok (.invokevirtual 93, 3) := by decide +kernel
theorem d_M_digit_4 : decode b_M_digit 4 = .ok (.bipush 48, 2) := by decide +kernel
theorem d_M_digit_6 : decode b_M_digit 6 = .ok (.if_icmp .lt 16, 3) := by decide +kernel
theorem d_M_digit_9 : decode b_M_digit 9 = .ok (.aload_n 0, 1) := by decide +kernel
theorem d_M_digit_10 : decode b_M_digit 10 = .ok (.invokevirtual 93, 3) := by decide +kernel
theorem d_M_digit_13 : decode b_M_digit 13 = .ok (.bipush 57, 2) := by decide +kernel
theorem d_M_digit_15 : decode b_M_digit 15 = .ok (.if_icmp .gt 7, 3) := by decide +kernel
theorem d_M_digit_18 : decode b_M_digit 18 = .ok (.iconst 1, 1) := by decide +kernel
theorem d_M_digit_19 : decode b_M_digit 19 = .ok (.goto 4, 3) := by decide +kernel
theorem d_M_digit_22 : decode b_M_digit 22 = .ok (.iconst 0, 1) := by decide +kernel
theorem d_M_digit_23 : decode b_M_digit 23 = .ok (.ireturn, 1) := by decide +kernel
theorem d_M_number_0 : decode b_M_number 0 = .ok (.iconst 0, 1) := by decide +kernel
theorem d_M_number_1 : decode b_M_number 1 = .ok (.istore_n 1, 1) := by decide +kernel
theorem d_M_number_2 : decode b_M_number 2 = .ok (.iconst 0, 1) := by decide +kernel
theorem d_M_number_3 : decode b_M_number 3 = .ok (.istore_n 2, 1) := by decide +kernel
theorem d_M_number_4 : decode b_M_number 4 = .ok (.aload_n 0, 1) := by decide +kernel
theorem d_M_number_5 : decode b_M_number 5 = .ok (.invokevirtual 97, 3) := by decide +kernel
theorem d_M_number_8 : decode b_M_number 8 = .ok (.ifCond .eq 37, 3) := by decide +kernel
theorem d_M_number_11 : decode b_M_number 11 = .ok (.iload_n 2, 1) := by decide +kernel
theorem d_M_number_12 : decode b_M_number 12 = .ok (.iconst 4, 1) := by decide +kernel
theorem d_M_number_13 : decode b_M_number 13 = .ok (.if_icmp .ge 32, 3) := by decide +kernel
theorem d_M_number_16 : decode b_M_number 16 = .ok (.bipush 10, 2) := by decide +kernel
theorem d_M_number_18 : decode b_M_number 18 = .ok (.iload_n 1, 1) := by decide +kernel
theorem d_M_number_19 : decode b_M_number 19 = .ok (.imul, 1) := by decide +kernel
theorem d_M_number_20 : decode b_M_number 20 = .ok (.aload_n 0, 1) := by decide +kernel
theorem d_M_number_21 : decode b_M_number 21 = .ok (.invokevirtual 93, 3) := by decide +kernel
theorem d_M_number_24 : decode b_M_number 24 = .ok (.iadd, 1) := by decide +kernel
theorem d_M_number_25 : decode b_M_number 25 = .ok (.bipush 48, 2) := by decide +kernel
theorem d_M_number_27 : decode b_M_number 27 = .ok (.isub, 1) := by decide +kernel
theorem d_M_number_28 : decode b_M_number 28 = .ok (.istore_n 1, 1) := by decide +kernel
theorem d_M_number_29 : decode b_M_number 29 = .ok (.aload_n 0, 1) := by decide +kernel
theorem d_M_number_30 : decode b_M_number 30 = .ok (.dup, 1) := by decide +kernel
theorem d_M_number_31 : decode b_M_number 31 = .ok (.getfield 90, 3) := by decide +kernel
theorem d_M_number_34 : decode b_M_number 34 = .ok (.iconst 1, 1) := by decide +kernel
theorem d_M_number_35 : decode b_M_number 35 = .ok (.iadd, 1) := by decide +kernel
theorem d_M_number_36 : decode b_M_number 36 = .ok (.putfield 90, 3) := by decide +kernel
theorem d_M_number_39 : decode b_M_number 39 = .ok (.iinc 2 1, 3) := by decide +kernel
theorem d_M_number_42 : decode b_M_number 42 = .ok (.goto (-38), 3) := by decide +kernel
theorem d_M_number_45 : decode b_M_number 45 = .ok (.iload_n 2, 1) := by decide +kernel
theorem d_M_number_46 : decode b_M_number 46 = .ok (.ifCond .eq 8, 3) := by decide +kernel
theorem d_M_number_49 : decode b_M_number 49 = .ok (.iload_n 2, 1) := by decide +kernel
theorem d_M_number_50 : decode b_M_number 50 = .ok (.iconst 3, 1) := by decide +kernel
theorem d_M_number_51 : decode b_M_number 51 = .ok (.if_icmp .le 7, 3) := by decide +kernel
theorem d_M_number_54 : decode b_M_number 54 = .ok (.iconst (-1), 1) := by decide +kernel
theorem d_M_number_55 : decode b_M_number 55 = .ok (.goto 4, 3) := by decide +kernel
theorem d_M_number_58 : decode b_M_number 58 = .ok (.iload_n 1, 1) := by decide +kernel
theorem d_M_number_59 : decode b_M_number 59 = .ok (.ireturn, 1) := by decide +kernel
theorem d_M_again_0 : decode b_M_again 0 = .ok (.iconst 0, 1) := by decide +kernel
theorem d_M_again_1 : decode b_M_again 1 = .ok (.istore_n 2, 1) := by decide +kernel
theorem d_M_again_2 : decode b_M_again 2 = .ok (.bipush 14, 2) := by decide +kernel
theorem d_M_again_4 : decode b_M_again 4 = .ok (.istore_n 3, 1) := by decide +kernel
theorem d_M_again_5 : decode b_M_again 5 = .ok (.iload_n 3, 1) := by decide +kernel
theorem d_M_again_6 : decode b_M_again 6 = .ok (.iload_n 1, 1) := by decide +kernel
theorem d_M_again_7 : decode b_M_again 7 = .ok (.if_icmp .ge 118, 3) := by decide +kernel
theorem d_M_again_10 : decode b_M_again 10 = .ok (.aload_n 0, 1) := by decide +kernel
theorem d_M_again_11 : decode b_M_again 11 = .ok (.getfield 17, 3) := by decide +kernel
theorem d_M_again_14 : decode b_M_again 14 = .ok (.iload_n 3, 1) := by decide +kernel
theorem d_M_again_15 : decode b_M_again 15 = .ok (.iaload, 1) := by decide +kernel
theorem d_M_again_16 : decode b_M_again 16 = .ok (.aload_n 0, 1) := by decide +kernel
theorem d_M_again_17 : decode b_M_again 17 = .ok (.getfield 17, 3) := by decide +kernel
theorem d_M_again_20 : decode b_M_again 20 = .ok (.iload_n 1, 1) := by decide +kernel
theorem d_M_again_21 : decode b_M_again 21 = .ok (.iaload, 1) := by decide +kernel
theorem d_M_again_22 : decode b_M_again 22 = .ok (.if_icmp .ne 22, 3) := by decide +kernel
theorem d_M_again_25 : decode b_M_again 25 = .ok (.aload_n 0, 1) := by decide +kernel
theorem d_M_again_26 : decode b_M_again 26 = .ok (.getfield 20, 3) := by decide +kernel
theorem d_M_again_29 : decode b_M_again 29 = .ok (.iload_n 3, 1) := by decide +kernel
theorem d_M_again_30 : decode b_M_again 30 = .ok (.iaload, 1) := by decide +kernel
theorem d_M_again_31 : decode b_M_again 31 = .ok (.aload_n 0, 1) := by decide +kernel
theorem d_M_again_32 : decode b_M_again 32 = .ok (.getfield 20, 3) := by decide +kernel
theorem d_M_again_35 : decode b_M_again 35 = .ok (.iload_n 1, 1) := by decide +kernel
theorem d_M_again_36 : decode b_M_again 36 = .ok (.iaload, 1) := by decide +kernel
theorem d_M_again_37 : decode b_M_again 37 = .ok (.if_icmp .ne 7, 3) := by decide +kernel
theorem d_M_again_40 : decode b_M_again 40 = .ok (.iconst 1, 1) := by decide +kernel
theorem d_M_again_41 : decode b_M_again 41 = .ok (.goto 4, 3) := by decide +kernel
theorem d_M_again_44 : decode b_M_again 44 = .ok (.iconst 0, 1) := by decide +kernel
theorem d_M_again_45 : decode b_M_again 45 = .ok (.istore 4, 2) := by decide +kernel
theorem d_M_again_47 : decode b_M_again 47 = .ok (.iconst 0, 1) := by decide +kernel
theorem d_M_again_48 : decode b_M_again 48 = .ok (.istore 5, 2) := by decide +kernel
theorem d_M_again_50 : decode b_M_again 50 = .ok (.iload 5, 2) := by decide +kernel
theorem d_M_again_52 : decode b_M_again 52 = .ok (.aload_n 0, 1) := by decide +kernel
theorem d_M_again_53 : decode b_M_again 53 = .ok (.getfield 20, 3) := by decide +kernel
theorem d_M_again_56 : decode b_M_again 56 = .ok (.iload_n 1, 1) := by decide +kernel
theorem d_M_again_57 : decode b_M_again 57 = .ok (.iaload, 1) := by decide +kernel
theorem d_M_again_58 : decode b_M_again 58 = .ok (.if_icmp .ge 46, 3) := by decide +kernel
theorem d_M_again_61 : decode b_M_again 61 = .ok (.iload 4, 2) := by decide +kernel
theorem d_M_again_63 : decode b_M_again 63 = .ok (.ifCond .eq 32, 3) := by decide +kernel
theorem d_M_again_66 : decode b_M_again 66 = .ok (.aload_n 0, 1) := by decide +kernel
theorem d_M_again_67 : decode b_M_again 67 = .ok (.getfield 23, 3) := by decide +kernel
theorem d_M_again_70 : decode b_M_again 70 = .ok (.iconst 3, 1) := by decide +kernel
theorem d_M_again_71 : decode b_M_again 71 = .ok (.iload_n 3, 1) := by decide +kernel
theorem d_M_again_72 : decode b_M_again 72 = .ok (.imul, 1) := by decide +kernel
theorem d_M_again_73 : decode b_M_again 73 = .ok (.iload 5, 2) := by decide +kernel
theorem d_M_again_75 : decode b_M_again 75 = .ok (.iadd, 1) := by decide +kernel
theorem d_M_again_76 : decode b_M_again 76 = .ok (.caload, 1) := by decide +kernel
theorem d_M_again_77 : decode b_M_again 77 = .ok (.aload_n 0, 1) := by decide +kernel
theorem d_M_again_78 : decode b_M_again 78 = .ok (.getfield 23, 3) := by decide +kernel
theorem d_M_again_81 : decode b_M_again 81 = .ok (.iconst 3, 1) := by decide +kernel
theorem d_M_again_82 : decode b_M_again 82 = .ok (.iload_n 1, 1) := by decide +kernel
theorem d_M_again_83 : decode b_M_again 83 = .ok (.imul, 1) := by decide +kernel
theorem d_M_again_84 : decode b_M_again 84 = .ok (.iload 5, 2) := by decide +kernel
theorem d_M_again_86 : decode b_M_again 86 = .ok (.iadd, 1) := by decide +kernel
theorem d_M_again_87 : decode b_M_again 87 = .ok (.caload, 1) := by decide +kernel
theorem d_M_again_88 : decode b_M_again 88 = .ok (.if_icmp .ne 7, 3) := by decide +kernel
theorem d_M_again_91 : decode b_M_again 91 = .ok (.iconst 1, 1) := by decide +kernel
theorem d_M_again_92 : decode b_M_again 92 = .ok (.goto 4, 3) := by decide +kernel
theorem d_M_again_95 : decode b_M_again 95 = .ok (.iconst 0, 1) := by decide +kernel
theorem d_M_again_96 : decode b_M_again 96 = .ok (.istore 4, 2) := by decide +kernel
theorem d_M_again_98 : decode b_M_again 98 = .ok (.iinc 5 1, 3) := by decide +kernel
theorem d_M_again_101 : decode b_M_again 101 = .ok (.goto (-51), 3) := by decide +kernel
theorem d_M_again_104 : decode b_M_again 104 = .ok (.iload_n 2, 1) := by decide +kernel
theorem d_M_again_105 : decode b_M_again 105 = .ok (.ifCond .ne 8, 3) := by decide +kernel
theorem d_M_again_108 : decode b_M_again 108 = .ok (.iload 4, 2) := by decide +kernel
theorem d_M_again_110 : decode b_M_again 110 = .ok (.ifCond .eq 7, 3) := by decide +kernel
theorem d_M_again_113 : decode b_M_again 113 = .ok (.iconst 1, 1) := by decide +kernel
theorem d_M_again_114 : decode b_M_again 114 = .ok (.goto 4, 3) := by decide +kernel
theorem d_M_again_117 : decode b_M_again 117 = .ok (.iconst 0, 1) := by decide +kernel
theorem d_M_again_118 : decode b_M_again 118 = .ok (.istore_n 2, 1) := by decide +kernel
theorem d_M_again_119 : decode b_M_again 119 = .ok (.iinc 3 1, 3) := by decide +kernel
theorem d_M_again_122 : decode b_M_again 122 = .ok (.goto (-117), 3) := by decide +kernel
theorem d_M_again_125 : decode b_M_again 125 = .ok (.iload_n 2, 1) := by decide +kernel
theorem d_M_again_126 : decode b_M_again 126 = .ok (.ireturn, 1) := by decide +kernel
theorem d_M_readRule_0 : decode b_M_readRule 0 = .ok (.aload_n 0, 1) := by decide +kernel
theorem d_M_readRule_1 : decode b_M_readRule 1 = .ok (.getfield 13, 3) := by decide +kernel
theorem d_M_readRule_4 : decode b_M_readRule 4 = .ok (.iconst 1, 1) := by decide +kernel
theorem d_M_readRule_5 : decode b_M_readRule 5 = .ok (.iaload, 1) := by decide +kernel
theorem d_M_readRule_6 : decode b_M_readRule 6 = .ok (.bipush 14, 2) := by decide +kernel
theorem d_M_readRule_8 : decode b_M_readRule 8 = .ok (.if_icmp .eq 13, 3) := by decide +kernel
theorem d_M_readRule_11 : decode b_M_readRule 11 = .ok (.aload_n 0, 1) := by decide +kernel
theorem d_M_readRule_12 : decode b_M_readRule 12 = .ok (.invokevirtual 93, 3) := by decide +kernel
theorem d_M_readRule_15 : decode b_M_readRule 15 = .ok (.invokestatic 101, 3) := by decide +kernel
