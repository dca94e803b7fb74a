theorem d_M_tree_61 : decode b_M_tree 61 = .ok (.aload_n 0, 1) := by decide +kernel
theorem d_M_tree_62 : decode b_M_tree 62 = .ok (.invokevirtual 200, 3) := by decide +kernel
theorem d_M_tree_65 : decode b_M_tree 65 = .ok (.iaload, 1) := by decide +kernel
theorem d_M_tree_66 : decode b_M_tree 66 = .ok (.if_icmp .lt 10, 3) := by decide +kernel
theorem d_M_tree_69 : decode b_M_tree 69 = .ok (.aload_n 0, 1) := by decide +kernel
theorem d_M_tree_70 : decode b_M_tree 70 = .ok (.iconst 3, 1) := by decide +kernel
theorem d_M_tree_71 : decode b_M_tree 71 = .ok (.putfield 81, 3) := by decide +kernel
theorem d_M_tree_74 : decode b_M_tree 74 = .ok (.iconst (-1), 1) := by decide +kernel
theorem d_M_tree_75 : decode b_M_tree 75 = .ok (.ireturn, 1) := by decide +kernel
theorem d_M_tree_76 : decode b_M_tree 76 = .ok (.bipush 8, 2) := by decide +kernel
theorem d_M_tree_78 : decode b_M_tree 78 = .ok (.aload_n 0, 1) := by decide +kernel
theorem d_M_tree_79 : decode b_M_tree 79 = .ok (.invokevirtual 200, 3) := by decide +kernel
theorem d_M_tree_82 : decode b_M_tree 82 = .ok (.imul, 1) := by decide +kernel
theorem d_M_tree_83 : decode b_M_tree 83 = .ok (.iload_n 1, 1) := by decide +kernel
theorem d_M_tree_84 : decode b_M_tree 84 = .ok (.iadd, 1) := by decide +kernel
theorem d_M_tree_85 : decode b_M_tree 85 = .ok (.ireturn, 1) := by decide +kernel
theorem d_M_weight_0 : decode b_M_weight 0 = .ok (.aload_n 0, 1) := by decide +kernel
theorem d_M_weight_1 : decode b_M_weight 1 = .ok (.iload_n 1, 1) := by decide +kernel
theorem d_M_weight_2 : decode b_M_weight 2 = .ok (.iconst 1, 1) := by decide +kernel
theorem d_M_weight_3 : decode b_M_weight 3 = .ok (.invokevirtual 203, 3) := by decide +kernel
theorem d_M_weight_6 : decode b_M_weight 6 = .ok (.istore_n 2, 1) := by decide +kernel
theorem d_M_weight_7 : decode b_M_weight 7 = .ok (.iload_n 2, 1) := by decide +kernel
theorem d_M_weight_8 : decode b_M_weight 8 = .ok (.ifCond .ge 7, 3) := by decide +kernel
theorem d_M_weight_11 : decode b_M_weight 11 = .ok (.iconst 0, 1) := by decide +kernel
theorem d_M_weight_12 : decode b_M_weight 12 = .ok (.goto 9, 3) := by decide +kernel
theorem d_M_weight_15 : decode b_M_weight 15 = .ok (.aload_n 0, 1) := by decide +kernel
theorem d_M_weight_16 : decode b_M_weight 16 = .ok (.getfield 56, 3) := by decide +kernel
theorem d_M_weight_19 : decode b_M_weight 19 = .ok (.iload_n 2, 1) := by decide +kernel
theorem d_M_weight_20 : decode b_M_weight 20 = .ok (.iaload, 1) := by decide +kernel
theorem d_M_weight_21 : decode b_M_weight 21 = .ok (.ireturn, 1) := by decide +kernel
theorem d_M_size_0 : decode b_M_size 0 = .ok (.aload_n 0, 1) := by decide +kernel
theorem d_M_size_1 : decode b_M_size 1 = .ok (.iload_n 1, 1) := by decide +kernel
theorem d_M_size_2 : decode b_M_size 2 = .ok (.iconst 1, 1) := by decide +kernel
theorem d_M_size_3 : decode b_M_size 3 = .ok (.invokevirtual 203, 3) := by decide +kernel
theorem d_M_size_6 : decode b_M_size 6 = .ok (.istore_n 2, 1) := by decide +kernel
theorem d_M_size_7 : decode b_M_size 7 = .ok (.iload_n 2, 1) := by decide +kernel
theorem d_M_size_8 : decode b_M_size 8 = .ok (.ifCond .ge 5, 3) := by decide +kernel
theorem d_M_size_11 : decode b_M_size 11 = .ok (.iconst 0, 1) := by decide +kernel
theorem d_M_size_12 : decode b_M_size 12 = .ok (.ireturn, 1) := by decide +kernel
theorem d_M_size_13 : decode b_M_size 13 = .ok (.aload_n 0, 1) := by decide +kernel
theorem d_M_size_14 : decode b_M_size 14 = .ok (.iconst 0, 1) := by decide +kernel
theorem d_M_size_15 : decode b_M_size 15 = .ok (.iconst 0, 1) := by decide +kernel
theorem d_M_size_16 : decode b_M_size 16 = .ok (.iload_n 2, 1) := by decide +kernel
theorem d_M_size_17 : decode b_M_size 17 = .ok (.invokevirtual 152, 3) := by decide +kernel
theorem d_M_size_20 : decode b_M_size 20 = .ok (.aload_n 0, 1) := by decide +kernel
theorem d_M_size_21 : decode b_M_size 21 = .ok (.getfield 69, 3) := by decide +kernel
theorem d_M_size_24 : decode b_M_size 24 = .ok (.iconst 0, 1) := by decide +kernel
theorem d_M_size_25 : decode b_M_size 25 = .ok (.iaload, 1) := by decide +kernel
theorem d_M_size_26 : decode b_M_size 26 = .ok (.ireturn, 1) := by decide +kernel
theorem d_M_at_0 : decode b_M_at 0 = .ok (.aload_n 0, 1) := by decide +kernel
theorem d_M_at_1 : decode b_M_at 1 = .ok (.iload_n 1, 1) := by decide +kernel
theorem d_M_at_2 : decode b_M_at 2 = .ok (.iload_n 3, 1) := by decide +kernel
theorem d_M_at_3 : decode b_M_at 3 = .ok (.ifCond .lt 12, 3) := by decide +kernel
theorem d_M_at_6 : decode b_M_at 6 = .ok (.iload_n 3, 1) := by decide +kernel
theorem d_M_at_7 : decode b_M_at 7 = .ok (.iconst 2, 1) := by decide +kernel
theorem d_M_at_8 : decode b_M_at 8 = .ok (.if_icmp .gt 7, 3) := by decide +kernel
theorem d_M_at_11 : decode b_M_at 11 = .ok (.iconst 1, 1) := by decide +kernel
theorem d_M_at_12 : decode b_M_at 12 = .ok (.goto 4, 3) := by decide +kernel
theorem d_M_at_15 : decode b_M_at 15 = .ok (.iconst 0, 1) := by decide +kernel
theorem d_M_at_16 : decode b_M_at 16 = .ok (.invokevirtual 203, 3) := by decide +kernel
theorem d_M_at_19 : decode b_M_at 19 = .ok (.istore 4, 2) := by decide +kernel
theorem d_M_at_21 : decode b_M_at 21 = .ok (.iload 4, 2) := by decide +kernel
theorem d_M_at_23 : decode b_M_at 23 = .ok (.ifCond .ge 5, 3) := by decide +kernel
theorem d_M_at_26 : decode b_M_at 26 = .ok (.iconst 0, 1) := by decide +kernel
theorem d_M_at_27 : decode b_M_at 27 = .ok (.ireturn, 1) := by decide +kernel
theorem d_M_at_28 : decode b_M_at 28 = .ok (.aload_n 0, 1) := by decide +kernel
theorem d_M_at_29 : decode b_M_at 29 = .ok (.iconst 0, 1) := by decide +kernel
theorem d_M_at_30 : decode b_M_at 30 = .ok (.iconst 0, 1) := by decide +kernel
theorem d_M_at_31 : decode b_M_at 31 = .ok (.iload 4, 2) := by decide +kernel
theorem d_M_at_33 : decode b_M_at 33 = .ok (.invokevirtual 152, 3) := by decide +kernel
theorem d_M_at_36 : decode b_M_at 36 = .ok (.iload_n 2, 1) := by decide +kernel
theorem d_M_at_37 : decode b_M_at 37 = .ok (.ifCond .lt 13, 3) := by decide +kernel
theorem d_M_at_40 : decode b_M_at 40 = .ok (.iload_n 2, 1) := by decide +kernel
theorem d_M_at_41 : decode b_M_at 41 = .ok (.aload_n 0, 1) := by decide +kernel
theorem d_M_at_42 : decode b_M_at 42 = .ok (.getfield 69, 3) := by decide +kernel
theorem d_M_at_45 : decode b_M_at 45 = .ok (.iconst 0, 1) := by decide +kernel
theorem d_M_at_46 : decode b_M_at 46 = .ok (.iaload, 1) := by decide +kernel
theorem d_M_at_47 : decode b_M_at 47 = .ok (.if_icmp .lt 10, 3) := by decide +kernel
theorem d_M_at_50 : decode b_M_at 50 = .ok (.aload_n 0, 1) := by decide +kernel
theorem d_M_at_51 : decode b_M_at 51 = .ok (.iconst 4, 1) := by decide +kernel
theorem d_M_at_52 : decode b_M_at 52 = .ok (.putfield 81, 3) := by decide +kernel
theorem d_M_at_55 : decode b_M_at 55 = .ok (.iconst 0, 1) := by decide +kernel
theorem d_M_at_56 : decode b_M_at 56 = .ok (.ireturn, 1) := by decide +kernel
theorem d_M_at_57 : decode b_M_at 57 = .ok (.aload_n 0, 1) := by decide +kernel
theorem d_M_at_58 : decode b_M_at 58 = .ok (.getfield 75, 3) := by decide +kernel
theorem d_M_at_61 : decode b_M_at 61 = .ok (.iload_n 2, 1) := by decide +kernel
theorem d_M_at_62 : decode b_M_at 62 = .ok (.iaload, 1) := by decide +kernel
theorem d_M_at_63 : decode b_M_at 63 = .ok (.bipush 8, 2) := by decide +kernel
theorem d_M_at_65 : decode b_M_at 65 = .ok (.idiv, 1) := by decide +kernel
theorem d_M_at_66 : decode b_M_at 66 = .ok (.bipush 36, 2) := by decide +kernel
theorem d_M_at_68 : decode b_M_at 68 = .ok (.irem, 1) := by decide +kernel
theorem d_M_at_69 : decode b_M_at 69 = .ok (.istore 5, 2) := by decide +kernel
theorem d_M_at_71 : decode b_M_at 71 = .ok (.iload_n 3, 1) := by decide +kernel
theorem d_M_at_72 : decode b_M_at 72 = .ok (.ifCond .ne 12, 3) := by decide +kernel
theorem d_M_at_75 : decode b_M_at 75 = .ok (.aload_n 0, 1) := by decide +kernel
theorem d_M_at_76 : decode b_M_at 76 = .ok (.getfield 72, 3) := by decide +kernel
theorem d_M_at_79 : decode b_M_at 79 = .ok (.iload_n 2, 1) := by decide +kernel
theorem d_M_at_80 : decode b_M_at 80 = .ok (.iaload, 1) := by decide +kernel
theorem d_M_at_81 : decode b_M_at 81 = .ok (.goto 23, 3) := by decide +kernel
theorem d_M_at_84 : decode b_M_at 84 = .ok (.iload_n 3, 1) := by decide +kernel
theorem d_M_at_85 : decode b_M_at 85 = .ok (.iconst 1, 1) := by decide +kernel
theorem d_M_at_86 : decode b_M_at 86 = .ok (.if_icmp .ne 11, 3) := by decide +kernel
theorem d_M_at_89 : decode b_M_at 89 = .ok (.iload 5, 2) := by decide +kernel
theorem d_M_at_91 : decode b_M_at 91 = .ok (.bipush 6, 2) := by decide +kernel
theorem d_M_at_93 : decode b_M_at 93 = .ok (.idiv, 1) := by decide +kernel
theorem d_M_at_94 : decode b_M_at 94 = .ok (.goto 10, 3) := by decide +kernel
theorem d_M_at_97 : decode b_M_at 97 = .ok (.iload 5, 2) := by decide +kernel
theorem d_M_at_99 : decode b_M_at 99 = .ok (.bipush 6, 2) := by decide +kernel
theorem d_M_at_101 : decode b_M_at 101 = .ok (.irem, 1) := by decide +kernel
theorem d_M_at_102 : decode b_M_at 102 = .ok (.iconst 1, 1) := by decide +kernel
theorem d_M_at_103 : decode b_M_at 103 = .ok (.iadd, 1) := by decide +kernel
theorem d_M_at_104 : decode b_M_at 104 = .ok (.ireturn, 1) := by decide +kernel
theorem d_Chart_clear_0 : decode b_Chart_clear 0 = .ok (.bipush 65, 2) := by decide +kernel
theorem d_Chart_clear_2 : decode b_Chart_clear 2 = .ok (.istore_n 3, 1) := by decide +kernel
theorem d_Chart_clear_3 : decode b_Chart_clear 3 = .ok (.iload_n 3, 1) := by decide +kernel
theorem d_Chart_clear_4 : decode b_Chart_clear 4 = .ok (.bipush 70, 2) := by decide +kernel
theorem d_Chart_clear_6 : decode b_Chart_clear 6 = .ok (.if_icmp .ge 33, 3) := by decide +kernel
theorem d_Chart_clear_9 : decode b_Chart_clear 9 = .ok (.iload_n 3, 1) := by decide +kernel
theorem d_Chart_clear_10 : decode b_Chart_clear 10 = .ok (.iload_n 1, 1) := by decide +kernel
theorem d_Chart_clear_11 : decode b_Chart_clear 11 = .ok (.iload_n 2, 1) := by decide +kernel
theorem d_Chart_clear_12 : decode b_Chart_clear 12 = .ok (.invokestatic 68, 3) := by decide +kernel
theorem d_Chart_clear_15 : decode b_Chart_clear 15 = .ok (.istore 4, 2) := by decide +kernel
theorem d_Chart_clear_17 : decode b_Chart_clear 17 = .ok (.aload_n 0, 1) := by decide +kernel
theorem d_Chart_clear_18 : decode b_Chart_clear 18 = .ok (.getfield 18, 3) := by decide +kernel
theorem d_Chart_clear_21 : decode b_Chart_clear 21 = .ok (.iload 4, 2) := by decide +kernel
theorem d_Chart_clear_23 : decode b_Chart_clear 23 = .ok (.lconst 0, 1) := by decide +kernel
theorem d_Chart_clear_24 : decode b_Chart_clear 24 = .ok (.lastore, 1) := by decide +kernel
theorem d_Chart_clear_25 : decode b_Chart_clear 25 = .ok (.aload_n 0, 1) := by decide +kernel
theorem d_Chart_clear_26 : decode b_Chart_clear 26 = .ok (.getfield 22, 3) := by decide +kernel
theorem d_Chart_clear_29 : decode b_Chart_clear 29 = .ok (.iload 4, 2) := by decide +kernel
theorem d_Chart_clear_31 : decode b_Chart_clear 31 = .ok (.iconst 0, 1) := by decide +kernel
theorem d_Chart_clear_32 : decode b_Chart_clear 32 = .ok (.iastore, 1) := by decide +kernel
theorem d_Chart_clear_33 : decode b_Chart_clear 33 = .ok (.iinc 3 1, 3) := by decide +kernel
theorem d_Chart_clear_36 : decode b_Chart_clear 36 = .ok (.goto (-33), 3) := by decide +kernel
theorem d_Chart_clear_39 : decode b_Chart_clear 39 = .ok (.return_, 1) := by decide +kernel
theorem d_Chart_choose_0 : decode b_Chart_choose 0 = .ok (.aload_n 0, 1) := by decide +kernel
theorem d_Chart_choose_1 : decode b_Chart_choose 1 = .ok (.getfield 29, 3) := by decide +kernel
theorem d_Chart_choose_4 : decode b_Chart_choose 4 = .ok (.iload_n 2, 1) := by decide +kernel
theorem d_Chart_choose_5 : decode b_Chart_choose 5 = .ok (.iconst 1, 1) := by decide +kernel
theorem d_Chart_choose_6 : decode b_Chart_choose 6 = .ok (.iastore, 1) := by decide +kernel
theorem d_Chart_choose_7 : decode b_Chart_choose 7 = .ok (.aload_n 0, 1) := by decide +kernel
theorem d_Chart_choose_8 : decode b_Chart_choose 8 = .ok (.getfield 32, 3) := by decide +kernel
theorem d_Chart_choose_11 : decode b_Chart_choose 11 = .ok (.iload_n 2, 1) := by decide +kernel
theorem d_Chart_choose_12 : decode b_Chart_choose 12 = .ok (.iconst (-1), 1) := by decide +kernel
theorem d_Chart_choose_13 : decode b_Chart_choose 13 = .ok (.iastore, 1) := by decide +kernel
theorem d_Chart_choose_14 : decode b_Chart_choose 14 = .ok (.iload_n 2, 1) := by decide +kernel
theorem d_Chart_choose_15 : decode b_Chart_choose 15 = .ok (.aload_n 0, 1) := by decide +kernel
theorem d_Chart_choose_16 : decode b_Chart_choose 16 = .ok (.getfield 39, 3) := by decide +kernel
theorem d_Chart_choose_19 : decode b_Chart_choose 19 = .ok (.getfield 72, 3) := by decide +kernel
theorem d_Chart_choose_22 : decode b_Chart_choose 22 = .ok (.iload_n 1, 1) := by decide +kernel
theorem d_Chart_choose_23 : decode b_Chart_choose 23 = .ok (.iaload, 1) := by decide +kernel
theorem d_Chart_choose_24 : decode b_Chart_choose 24 = .ok (.if_icmp .lt 5, 3) := by decide +kernel
theorem d_Chart_choose_27 : decode b_Chart_choose 27 = .ok (.lconst 1, 1) := by decide +kernel
theorem d_Chart_choose_28 : decode b_Chart_choose 28 = .ok (.lreturn, 1) := by decide +kernel
theorem d_Chart_choose_29 : decode b_Chart_choose 29 = .ok (.aload_n 0, 1) := by decide +kernel
theorem d_Chart_choose_30 : decode b_Chart_choose 30 = .ok (.getfield 39, 3) := by decide +kernel
theorem d_Chart_choose_33 : decode b_Chart_choose 33 = .ok (.iload_n 1, 1) := by decide +kernel
theorem d_Chart_choose_34 : decode b_Chart_choose 34 = .ok (.iload_n 2, 1) := by decide +kernel
theorem d_Chart_choose_35 : decode b_Chart_choose 35 = .ok (.invokevirtual 89, 3) := by decide +kernel
theorem d_Chart_choose_38 : decode b_Chart_choose 38 = .ok (.istore_n 3, 1) := by decide +kernel
theorem d_Chart_choose_39 : decode b_Chart_choose 39 = .ok (.aload_n 0, 1) := by decide +kernel
theorem d_Chart_choose_40 : decode b_Chart_choose 40 = .ok (.getfield 26, 3) := by decide +kernel
theorem d_Chart_choose_43 : decode b_Chart_choose 43 = .ok (.iload_n 2, 1) := by decide +kernel
theorem d_Chart_choose_44 : decode b_Chart_choose 44 = .ok (.iaload, 1) := by decide +kernel
theorem d_Chart_choose_45 : decode b_Chart_choose 45 = .ok (.istore 4, 2) := by decide +kernel
theorem d_Chart_choose_47 : decode b_Chart_choose 47 = .ok (.aload_n 0, 1) := by decide +kernel
theorem d_Chart_choose_48 : decode b_Chart_choose 48 = .ok (.getfield 26, 3) := by decide +kernel
theorem d_Chart_choose_51 : decode b_Chart_choose 51 = .ok (.iload_n 2, 1) := by decide +kernel
theorem d_Chart_choose_52 : decode b_Chart_choose 52 = .ok (.iconst 1, 1) := by decide +kernel
theorem d_Chart_choose_53 : decode b_Chart_choose 53 = .ok (.iadd, 1) := by decide +kernel
theorem d_Chart_choose_54 : decode b_Chart_choose 54 = .ok (.iaload, 1) := by decide +kernel
theorem d_Chart_choose_55 : decode b_Chart_choose 55 = .ok (.istore 5, 2) := by decide +kernel
theorem d_Chart_choose_57 : decode b_Chart_choose 57 = .ok (.iload_n 3, 1) := by decide +kernel
theorem d_Chart_choose_58 : decode b_Chart_choose 58 = .ok (.invokestatic 93, 3) := by decide +kernel
theorem d_Chart_choose_61 : decode b_Chart_choose 61 = .ok (.ifCond .ne 32, 3) := by decide +kernel
theorem d_Chart_choose_64 : decode b_Chart_choose 64 = .ok (.iload 5, 2) := by decide +kernel
theorem d_Chart_choose_66 : decode b_Chart_choose 66 = .ok (.iload 4, 2) := by decide +kernel
theorem d_Chart_choose_68 : decode b_Chart_choose 68 = .ok (.isub, 1) := by decide +kernel
theorem d_Chart_choose_69 : decode b_Chart_choose 69 = .ok (.iconst 1, 1) := by decide +kernel
theorem d_Chart_choose_70 : decode b_Chart_choose 70 = .ok (.if_icmp .ne 21, 3) := by decide +kernel
theorem d_Chart_choose_73 : decode b_Chart_choose 73 = .ok (.aload_n 0, 1) := by decide +kernel
theorem d_Chart_choose_74 : decode b_Chart_choose 74 = .ok (.getfield 35, 3) := by decide +kernel
theorem d_Chart_choose_77 : decode b_Chart_choose 77 = .ok (.getfield 97, 3) := by decide +kernel
theorem d_Chart_choose_80 : decode b_Chart_choose 80 = .ok (.iload 4, 2) := by decide +kernel
theorem d_Chart_choose_82 : decode b_Chart_choose 82 = .ok (.caload, 1) := by decide +kernel
theorem d_Chart_choose_83 : decode b_Chart_choose 83 = .ok (.iload_n 3, 1) := by decide +kernel
theorem d_Chart_choose_84 : decode b_Chart_choose 84 = .ok (.if_icmp .ne 7, 3) := by decide +kernel
theorem d_Chart_choose_87 : decode b_Chart_choose 87 = .ok (.lconst 1, 1) := by decide +kernel
theorem d_Chart_choose_88 : decode b_Chart_choose 88 = .ok (.goto 4, 3) := by decide +kernel
theorem d_Chart_choose_91 : decode b_Chart_choose 91 = .ok (.lconst 0, 1) := by decide +kernel
theorem d_Chart_choose_92 : decode b_Chart_choose 92 = .ok (.lreturn, 1) := by decide +kernel
theorem d_Chart_choose_93 : decode b_Chart_choose 93 = .ok (.iload_n 3, 1) := by decide +kernel
theorem d_Chart_choose_94 : decode b_Chart_choose 94 = .ok (.iload 4, 2) := by decide +kernel
theorem d_Chart_choose_96 : decode b_Chart_choose 96 = .ok (.iload 5, 2) := by decide +kernel
theorem d_Chart_choose_98 : decode b_Chart_choose 98 = .ok (.invokestatic 68, 3) := by decide +kernel
theorem d_Chart_choose_101 : decode b_Chart_choose 101 = .ok (.istore 6, 2) := by decide +kernel
theorem d_Chart_choose_103 : decode b_Chart_choose 103 = .ok (.aload_n 0, 1) := by decide +kernel
theorem d_Chart_choose_104 : decode b_Chart_choose 104 = .ok (.getfield 29, 3) := by decide +kernel
theorem d_Chart_choose_107 : decode b_Chart_choose 107 = .ok (.iload_n 2, 1) := by decide +kernel
theorem d_Chart_choose_108 : decode b_Chart_choose 108 = .ok (.aload_n 0, 1) := by decide +kernel
theorem d_Chart_choose_109 : decode b_Chart_choose 109 = .ok (.getfield 22, 3) := by decide +kernel
theorem d_Chart_choose_112 : decode b_Chart_choose 112 = .ok (.iload 6, 2) := by decide +kernel
theorem d_Chart_choose_114 : decode b_Chart_choose 114 = .ok (.iaload, 1) := by decide +kernel
theorem d_Chart_choose_115 : decode b_Chart_choose 115 = .ok (.iastore, 1) := by decide +kernel
theorem d_Chart_choose_116 : decode b_Chart_choose 116 = .ok (.aload_n 0, 1) := by decide +kernel
theorem d_Chart_choose_117 : decode b_Chart_choose 117 = .ok (.getfield 32, 3) := by decide +kernel
theorem d_Chart_choose_120 : decode b_Chart_choose 120 = .ok (.iload_n 2, 1) := by decide +kernel
theorem d_Chart_choose_121 : decode b_Chart_choose 121 = .ok (.iload 6, 2) := by decide +kernel
theorem d_Chart_choose_123 : decode b_Chart_choose 123 = .ok (.bipush 8, 2) := by decide +kernel
theorem d_Chart_choose_125 : decode b_Chart_choose 125 = .ok (.imul, 1) := by decide +kernel
theorem d_Chart_choose_126 : decode b_Chart_choose 126 = .ok (.iastore, 1) := by decide +kernel
theorem d_Chart_choose_127 : decode b_Chart_choose 127 = .ok (.aload_n 0, 1) := by decide +kernel
theorem d_Chart_choose_128 : decode b_Chart_choose 128 = .ok (.getfield 18, 3) := by decide +kernel
theorem d_Chart_choose_131 : decode b_Chart_choose 131 = .ok (.iload 6, 2) := by decide +kernel
theorem d_Chart_choose_133 : decode b_Chart_choose 133 = .ok (.laload, 1) := by decide +kernel
theorem d_Chart_choose_134 : decode b_Chart_choose 134 = .ok (.lreturn, 1) := by decide +kernel
theorem d_Forest_beginDraft_0 : decode b_Forest_beginDraft 0 = .ok (.aload_n 0, 1) := by decide +kernel
theorem d_Forest_beginDraft_1 : decode b_Forest_beginDraft 1 = .ok (.getfield 11, 3) := by decide +kernel
theorem d_Forest_beginDraft_4 : decode b_Forest_beginDraft 4 = .ok (.sipush 840, 3) := by decide +kernel
theorem d_Forest_beginDraft_7 : decode b_Forest_beginDraft 7 = .ok (.iload_n 1, 1) := by decide +kernel
theorem d_Forest_beginDraft_8 : decode b_Forest_beginDraft 8 = .ok (.iastore, 1) := by decide +kernel
theorem d_Forest_beginDraft_9 : decode b_Forest_beginDraft 9 = .ok (.aload_n 0, 1) := by decide +kernel
theorem d_Forest_beginDraft_10 : decode b_Forest_beginDraft 10 = .ok (.getfield 15, 3) := by decide +kernel
theorem d_Forest_beginDraft_13 : decode b_Forest_beginDraft 13 = .ok (.sipush 840, 3) := by decide +kernel
theorem d_Forest_beginDraft_16 : decode b_Forest_beginDraft 16 = .ok (.iload_n 2, 1) := by decide +kernel
theorem d_Forest_beginDraft_17 : decode b_Forest_beginDraft 17 = .ok (.iastore, 1) := by decide +kernel
theorem d_Forest_beginDraft_18 : decode b_Forest_beginDraft 18 = .ok (.aload_n 0, 1) := by decide +kernel
theorem d_Forest_beginDraft_19 : decode b_Forest_beginDraft 19 = .ok (.getfield 18, 3) := by decide +kernel
theorem d_Forest_beginDraft_22 : decode b_Forest_beginDraft 22 = .ok (.sipush 840, 3) := by decide +kernel
theorem d_Forest_beginDraft_25 : decode b_Forest_beginDraft 25 = .ok (.iconst 1, 1) := by decide +kernel
theorem d_Forest_beginDraft_26 : decode b_Forest_beginDraft 26 = .ok (.iastore, 1) := by decide +kernel
theorem d_Forest_beginDraft_27 : decode b_Forest_beginDraft 27 = .ok (.return_, 1) := by decide +kernel
theorem d_Chart_chosen_0 : decode b_Chart_chosen 0 = .ok (.aload_n 0, 1) := by decide +kernel
theorem d_Chart_chosen_1 : decode b_Chart_chosen 1 = .ok (.getfield 32, 3) := by decide +kernel
theorem d_Chart_chosen_4 : decode b_Chart_chosen 4 = .ok (.iload_n 1, 1) := by decide +kernel
theorem d_Chart_chosen_5 : decode b_Chart_chosen 5 = .ok (.iaload, 1) := by decide +kernel
theorem d_Chart_chosen_6 : decode b_Chart_chosen 6 = .ok (.iconst (-1), 1) := by decide +kernel
theorem d_Chart_chosen_7 : decode b_Chart_chosen 7 = .ok (.if_icmp .ne 7, 3) := by decide +kernel
theorem d_Chart_chosen_10 : decode b_Chart_chosen 10 = .ok (.iconst (-1), 1) := by decide +kernel
theorem d_Chart_chosen_11 : decode b_Chart_chosen 11 = .ok (.goto 11, 3) := by decide +kernel
theorem d_Chart_chosen_14 : decode b_Chart_chosen 14 = .ok (.aload_n 0, 1) := by decide +kernel
theorem d_Chart_chosen_15 : decode b_Chart_chosen 15 = .ok (.getfield 32, 3) := by decide +kernel
theorem d_Chart_chosen_18 : decode b_Chart_chosen 18 = .ok (.iload_n 1, 1) := by decide +kernel
theorem d_Chart_chosen_19 : decode b_Chart_chosen 19 = .ok (.iaload, 1) := by decide +kernel
theorem d_Chart_chosen_20 : decode b_Chart_chosen 20 = .ok (.iload_n 2, 1) := by decide +kernel
theorem d_Chart_chosen_21 : decode b_Chart_chosen 21 = .ok (.iadd, 1) := by decide +kernel
theorem d_Chart_chosen_22 : decode b_Chart_chosen 22 = .ok (.ireturn, 1) := by decide +kernel
theorem d_Forest_addToDraft_0 : decode b_Forest_addToDraft 0 = .ok (.aload_n 0, 1) := by decide +kernel
theorem d_Forest_addToDraft_1 : decode b_Forest_addToDraft 1 = .ok (.getfield 21, 3) := by decide +kernel
theorem d_Forest_addToDraft_4 : decode b_Forest_addToDraft 4 = .ok (.sipush 2520, 3) := by decide +kernel
theorem d_Forest_addToDraft_7 : decode b_Forest_addToDraft 7 = .ok (.iload_n 1, 1) := by decide +kernel
theorem d_Forest_addToDraft_8 : decode b_Forest_addToDraft 8 = .ok (.iadd, 1) := by decide +kernel
theorem d_Forest_addToDraft_9 : decode b_Forest_addToDraft 9 = .ok (.iload_n 2, 1) := by decide +kernel
theorem d_Forest_addToDraft_10 : decode b_Forest_addToDraft 10 = .ok (.iastore, 1) := by decide +kernel
theorem d_Forest_addToDraft_11 : decode b_Forest_addToDraft 11 = .ok (.iload_n 2, 1) := by decide +kernel
theorem d_Forest_addToDraft_12 : decode b_Forest_addToDraft 12 = .ok (.iconst (-1), 1) := by decide +kernel
theorem d_Forest_addToDraft_13 : decode b_Forest_addToDraft 13 = .ok (.if_icmp .eq 37, 3) := by decide +kernel
theorem d_Forest_addToDraft_16 : decode b_Forest_addToDraft 16 = .ok (.aload_n 0, 1) := by decide +kernel
theorem d_Forest_addToDraft_17 : decode b_Forest_addToDraft 17 = .ok (.getfield 15, 3) := by decide +kernel
theorem d_Forest_addToDraft_20 : decode b_Forest_addToDraft 20 = .ok (.sipush 840, 3) := by decide +kernel
theorem d_Forest_addToDraft_23 : decode b_Forest_addToDraft 23 = .ok (.dup2, 1) := by decide +kernel
theorem d_Forest_addToDraft_24 : decode b_Forest_addToDraft 24 = .ok (.iaload, 1) := by decide +kernel
theorem d_Forest_addToDraft_25 : decode b_Forest_addToDraft 25 = .ok (.aload_n 0, 1) := by decide +kernel
theorem d_Forest_addToDraft_26 : decode b_Forest_addToDraft 26 = .ok (.getfield 15, 3) := by decide +kernel
theorem d_Forest_addToDraft_29 : decode b_Forest_addToDraft 29 = .ok (.iload_n 2, 1) := by decide +kernel
theorem d_Forest_addToDraft_30 : decode b_Forest_addToDraft 30 = .ok (.iaload, 1) := by decide +kernel
theorem d_Forest_addToDraft_31 : decode b_Forest_addToDraft 31 = .ok (.iadd, 1) := by decide +kernel
theorem d_Forest_addToDraft_32 : decode b_Forest_addToDraft 32 = .ok (.iastore, 1) := by decide +kernel
theorem d_Forest_addToDraft_33 : decode b_Forest_addToDraft 33 = .ok (.aload_n 0, 1) := by decide +kernel
theorem d_Forest_addToDraft_34 : decode b_Forest_addToDraft 34 = .ok (.getfield 18, 3) := by decide +kernel
theorem d_Forest_addToDraft_37 : decode b_Forest_addToDraft 37 = .ok (.sipush 840, 3) := by decide +kernel
theorem d_Forest_addToDraft_40 : decode b_Forest_addToDraft 40 = .ok (.dup2, 1) := by decide +kernel
theorem d_Forest_addToDraft_41 : decode b_Forest_addToDraft 41 = .ok (.iaload, 1) := by decide +kernel
theorem d_Forest_addToDraft_42 : decode b_Forest_addToDraft 42 = .ok (.aload_n 0, 1) := by decide +kernel
theorem d_Forest_addToDraft_43 : decode b_Forest_addToDraft 43 = .ok (.getfield 18, 3) := by decide +kernel
theorem d_Forest_addToDraft_46 : decode b_Forest_addToDraft 46 = .ok (.iload_n 2, 1) := by decide +kernel
theorem d_Forest_addToDraft_47 : decode b_Forest_addToDraft 47 = .ok (.iaload, 1) := by decide +kernel
theorem d_Forest_addToDraft_48 : decode b_Forest_addToDraft 48 = .ok (.iadd, 1) := by decide +kernel
theorem d_Forest_addToDraft_49 : decode b_Forest_addToDraft 49 = .ok (.iastore, 1) := by decide +kernel
theorem d_Forest_addToDraft_50 : decode b_Forest_addToDraft 50 = .ok (.return_, 1) := by decide +kernel
theorem d_Forest_compareRules_0 : decode b_Forest_compareRules 0 = .ok (.iload_n 1, 1) := by decide +kernel
theorem d_Forest_compareRules_1 : decode b_Forest_compareRules 1 = .ok (.iload_n 2, 1) := by decide +kernel
theorem d_Forest_compareRules_2 : decode b_Forest_compareRules 2 = .ok (.if_icmp .eq 9, 3) := by decide +kernel
theorem d_Forest_compareRules_5 : decode b_Forest_compareRules 5 = .ok (.iload_n 3, 1) := by decide +kernel
theorem d_Forest_compareRules_6 : decode b_Forest_compareRules 6 = .ok (.bipush 40, 2) := by decide +kernel
theorem d_Forest_compareRules_8 : decode b_Forest_compareRules 8 = .ok (.if_icmp .le 5, 3) := by decide +kernel
theorem d_Forest_compareRules_11 : decode b_Forest_compareRules 11 = .ok (.iconst 0, 1) := by decide +kernel
theorem d_Forest_compareRules_12 : decode b_Forest_compareRules 12 = .ok (.ireturn, 1) := by decide +kernel
theorem d_Forest_compareRules_13 : decode b_Forest_compareRules 13 = .ok (.aload_n 0, 1) := by decide +kernel
theorem d_Forest_compareRules_14 : decode b_Forest_compareRules 14 = .ok (.getfield 11, 3) := by decide +kernel
theorem d_Forest_compareRules_17 : decode b_Forest_compareRules 17 = .ok (.iload_n 1, 1) := by decide +kernel
theorem d_Forest_compareRules_18 : decode b_Forest_compareRules 18 = .ok (.iaload, 1) := by decide +kernel
theorem d_Forest_compareRules_19 : decode b_Forest_compareRules 19 = .ok (.aload_n 0, 1) := by decide +kernel
theorem d_Forest_compareRules_20 : decode b_Forest_compareRules 20 = .ok (.getfield 11, 3) := by decide +kernel
theorem d_Forest_compareRules_23 : decode b_Forest_compareRules 23 = .ok (.iload_n 2, 1) := by decide +kernel
theorem d_Forest_compareRules_24 : decode b_Forest_compareRules 24 = .ok (.iaload, 1) := by decide +kernel
theorem d_Forest_compareRules_25 : decode b_Forest_compareRules 25 = .ok (.isub, 1) := by decide +kernel
theorem d_Forest_compareRules_26 : decode b_Forest_compareRules 26 = .ok (.istore 4, 2) := by decide +kernel
theorem d_Forest_compareRules_28 : decode b_Forest_compareRules 28 = .ok (.iconst 0, 1) := by decide +kernel
theorem d_Forest_compareRules_29 : decode b_Forest_compareRules 29 = .ok (.istore 5, 2) := by decide +kernel
theorem d_Forest_compareRules_31 : decode b_Forest_compareRules 31 = .ok (.iload 5, 2) := by decide +kernel
theorem d_Forest_compareRules_33 : decode b_Forest_compareRules 33 = .ok (.iconst 3, 1) := by decide +kernel
theorem d_Forest_compareRules_34 : decode b_Forest_compareRules 34 = .ok (.if_icmp .ge 65, 3) := by decide +kernel
theorem d_Forest_compareRules_37 : decode b_Forest_compareRules 37 = .ok (.iload 4, 2) := by decide +kernel
theorem d_Forest_compareRules_39 : decode b_Forest_compareRules 39 = .ok (.ifCond .ne 60, 3) := by decide +kernel
theorem d_Forest_compareRules_42 : decode b_Forest_compareRules 42 = .ok (.aload_n 0, 1) := by decide +kernel
theorem d_Forest_compareRules_43 : decode b_Forest_compareRules 43 = .ok (.getfield 21, 3) := by decide +kernel
theorem d_Forest_compareRules_46 : decode b_Forest_compareRules 46 = .ok (.iload_n 1, 1) := by decide +kernel
theorem d_Forest_compareRules_47 : decode b_Forest_compareRules 47 = .ok (.iconst 3, 1) := by decide +kernel
theorem d_Forest_compareRules_48 : decode b_Forest_compareRules 48 = .ok (.imul, 1) := by decide +kernel
theorem d_Forest_compareRules_49 : decode b_Forest_compareRules 49 = .ok (.iload 5, 2) := by decide +kernel
theorem d_Forest_compareRules_51 : decode b_Forest_compareRules 51 = .ok (.iadd, 1) := by decide +kernel
theorem d_Forest_compareRules_52 : decode b_Forest_compareRules 52 = .ok (.iaload, 1) := by decide +kernel
theorem d_Forest_compareRules_53 : decode b_Forest_compareRules 53 = .ok (.istore 6, 2) := by decide +kernel
theorem d_Forest_compareRules_55 : decode b_Forest_compareRules 55 = .ok (.aload_n 0, 1) := by decide +kernel
theorem d_Forest_compareRules_56 : decode b_Forest_compareRules 56 = .ok (.getfield 21, 3) := by decide +kernel
theorem d_Forest_compareRules_59 : decode b_Forest_compareRules 59 = .ok (.iload_n 2, 1) := by decide +kernel
theorem d_Forest_compareRules_60 : decode b_Forest_compareRules 60 = .ok (.iconst 3, 1) := by decide +kernel
theorem d_Forest_compareRules_61 : decode b_Forest_compareRules 61 = .ok (.imul, 1) := by decide +kernel
theorem d_Forest_compareRules_62 : decode b_Forest_compareRules 62 = .ok (.iload 5, 2) := by decide +kernel
theorem d_Forest_compareRules_64 : decode b_Forest_compareRules 64 = .ok (.iadd, 1) := by decide +kernel
theorem d_Forest_compareRules_65 : decode b_Forest_compareRules 65 = .ok (.iaload, 1) := by decide +kernel
theorem d_Forest_compareRules_66 : decode b_Forest_compareRules 66 = .ok (.istore 7, 2) := by decide +kernel
theorem d_Forest_compareRules_68 : decode b_Forest_compareRules 68 = .ok (.iload 6, 2) := by decide +kernel
theorem d_Forest_compareRules_70 : decode b_Forest_compareRules 70 = .ok (.iconst (-1), 1) := by decide +kernel
theorem d_Forest_compareRules_71 : decode b_Forest_compareRules 71 = .ok (.if_icmp .eq 22, 3) := by decide +kernel
theorem d_Forest_compareRules_74 : decode b_Forest_compareRules 74 = .ok (.iload 7, 2) := by decide +kernel
theorem d_Forest_compareRules_76 : decode b_Forest_compareRules 76 = .ok (.iconst (-1), 1) := by decide +kernel
theorem d_Forest_compareRules_77 : decode b_Forest_compareRules 77 = .ok (.if_icmp .eq 16, 3) := by decide +kernel
theorem d_Forest_compareRules_80 : decode b_Forest_compareRules 80 = .ok (.aload_n 0, 1) := by decide +kernel
theorem d_Forest_compareRules_81 : decode b_Forest_compareRules 81 = .ok (.iload 6, 2) := by decide +kernel
theorem d_Forest_compareRules_83 : decode b_Forest_compareRules 83 = .ok (.iload 7, 2) := by decide +kernel
theorem d_Forest_compareRules_85 : decode b_Forest_compareRules 85 = .ok (.iload_n 3, 1) := by decide +kernel
theorem d_Forest_compareRules_86 : decode b_Forest_compareRules 86 = .ok (.iconst 1, 1) := by decide +kernel
theorem d_Forest_compareRules_87 : decode b_Forest_compareRules 87 = .ok (.iadd, 1) := by decide +kernel
theorem d_Forest_compareRules_88 : decode b_Forest_compareRules 88 = .ok (.invokestatic 24, 3) := by decide +kernel
theorem d_Forest_compareRules_91 : decode b_Forest_compareRules 91 = .ok (.istore 4, 2) := by decide +kernel
theorem d_Forest_compareRules_93 : decode b_Forest_compareRules 93 = .ok (.iinc 5 1, 3) := by decide +kernel
theorem d_Forest_compareRules_96 : decode b_Forest_compareRules 96 = .ok (.goto (-65), 3) := by decide +kernel
theorem d_Forest_compareRules_99 : decode b_Forest_compareRules 99 = .ok (.iload 4, 2) := by decide +kernel
theorem d_Forest_compareRules_101 : decode b_Forest_compareRules 101 = .ok (.ireturn, 1) := by decide +kernel
theorem d_Forest_comesBefore_0 : decode b_Forest_comesBefore 0 = .ok (.aload_n 0, 1) := by decide +kernel
theorem d_Forest_comesBefore_1 : decode b_Forest_comesBefore 1 = .ok (.getfield 15, 3) := by decide +kernel
theorem d_Forest_comesBefore_4 : decode b_Forest_comesBefore 4 = .ok (.iload_n 1, 1) := by decide +kernel
theorem d_Forest_comesBefore_5 : decode b_Forest_comesBefore 5 = .ok (.iaload, 1) := by decide +kernel
theorem d_Forest_comesBefore_6 : decode b_Forest_comesBefore 6 = .ok (.aload_n 0, 1) := by decide +kernel
theorem d_Forest_comesBefore_7 : decode b_Forest_comesBefore 7 = .ok (.getfield 15, 3) := by decide +kernel
theorem d_Forest_comesBefore_10 : decode b_Forest_comesBefore 10 = .ok (.iload_n 2, 1) := by decide +kernel
theorem d_Forest_comesBefore_11 : decode b_Forest_comesBefore 11 = .ok (.iaload, 1) := by decide +kernel
theorem d_Forest_comesBefore_12 : decode b_Forest_comesBefore 12 = .ok (.if_icmp .eq 24, 3) := by decide +kernel
theorem d_Forest_comesBefore_15 : decode b_Forest_comesBefore 15 = .ok (.aload_n 0, 1) := by decide +kernel
theorem d_Forest_comesBefore_16 : decode b_Forest_comesBefore 16 = .ok (.getfield 15, 3) := by decide +kernel
theorem d_Forest_comesBefore_19 : decode b_Forest_comesBefore 19 = .ok (.iload_n 1, 1) := by decide +kernel
theorem d_Forest_comesBefore_20 : decode b_Forest_comesBefore 20 = .ok (.iaload, 1) := by decide +kernel
theorem d_Forest_comesBefore_21 : decode b_Forest_comesBefore 21 = .ok (.aload_n 0, 1) := by decide +kernel
theorem d_Forest_comesBefore_22 : decode b_Forest_comesBefore 22 = .ok (.getfield 15, 3) := by decide +kernel
theorem d_Forest_comesBefore_25 : decode b_Forest_comesBefore 25 = .ok (.iload_n 2, 1) := by decide +kernel
theorem d_Forest_comesBefore_26 : decode b_Forest_comesBefore 26 = .ok (.iaload, 1) := by decide +kernel
theorem d_Forest_comesBefore_27 : decode b_Forest_comesBefore 27 = .ok (.if_icmp .ge 7, 3) := by decide +kernel
theorem d_Forest_comesBefore_30 : decode b_Forest_comesBefore 30 = .ok (.iconst 1, 1) := by decide +kernel
theorem d_Forest_comesBefore_31 : decode b_Forest_comesBefore 31 = .ok (.goto 4, 3) := by decide +kernel
theorem d_Forest_comesBefore_34 : decode b_Forest_comesBefore 34 = .ok (.iconst 0, 1) := by decide +kernel
theorem d_Forest_comesBefore_35 : decode b_Forest_comesBefore 35 = .ok (.ireturn, 1) := by decide +kernel
theorem d_Forest_comesBefore_36 : decode b_Forest_comesBefore 36 = .ok (.aload_n 0, 1) := by decide +kernel
theorem d_Forest_comesBefore_37 : decode b_Forest_comesBefore 37 = .ok (.iload_n 1, 1) := by decide +kernel
theorem d_Forest_comesBefore_38 : decode b_Forest_comesBefore 38 = .ok (.iload_n 2, 1) := by decide +kernel
theorem d_Forest_comesBefore_39 : decode b_Forest_comesBefore 39 = .ok (.iconst 0, 1) := by decide +kernel
theorem d_Forest_comesBefore_40 : decode b_Forest_comesBefore 40 = .ok (.invokestatic 24, 3) := by decide +kernel
theorem d_Forest_comesBefore_43 : decode b_Forest_comesBefore 43 = .ok (.ifCond .ge 7, 3) := by decide +kernel
theorem d_Forest_comesBefore_46 : decode b_Forest_comesBefore 46 = .ok (.iconst 1, 1) := by decide +kernel
theorem d_Forest_comesBefore_47 : decode b_Forest_comesBefore 47 = .ok (.goto 4, 3) := by decide +kernel
theorem d_Forest_comesBefore_50 : decode b_Forest_comesBefore 50 = .ok (.iconst 0, 1) := by decide +kernel
theorem d_Forest_comesBefore_51 : decode b_Forest_comesBefore 51 = .ok (.ireturn, 1) := by decide +kernel
theorem d_Forest_copy_0 : decode b_Forest_copy 0 = .ok (.aload_n 0, 1) := by decide +kernel
theorem d_Forest_copy_1 : decode b_Forest_copy 1 = .ok (.getfield 11, 3) := by decide +kernel
theorem d_Forest_copy_4 : decode b_Forest_copy 4 = .ok (.iload_n 2, 1) := by decide +kernel
theorem d_Forest_copy_5 : decode b_Forest_copy 5 = .ok (.aload_n 0, 1) := by decide +kernel
theorem d_Forest_copy_6 : decode b_Forest_copy 6 = .ok (.getfield 11, 3) := by decide +kernel
theorem d_Forest_copy_9 : decode b_Forest_copy 9 = .ok (.iload_n 1, 1) := by decide +kernel
theorem d_Forest_copy_10 : decode b_Forest_copy 10 = .ok (.iaload, 1) := by decide +kernel
theorem d_Forest_copy_11 : decode b_Forest_copy 11 = .ok (.iastore, 1) := by decide +kernel
theorem d_Forest_copy_12 : decode b_Forest_copy 12 = .ok (.aload_n 0, 1) := by decide +kernel
theorem d_Forest_copy_13 : decode b_Forest_copy 13 = .ok (.getfield 15, 3) := by decide +kernel
theorem d_Forest_copy_16 : decode b_Forest_copy 16 = .ok (.iload_n 2, 1) := by decide +kernel
theorem d_Forest_copy_17 : decode b_Forest_copy 17 = .ok (.aload_n 0, 1) := by decide +kernel
theorem d_Forest_copy_18 : decode b_Forest_copy 18 = .ok (.getfield 15, 3) := by decide +kernel
theorem d_Forest_copy_21 : decode b_Forest_copy 21 = .ok (.iload_n 1, 1) := by decide +kernel
theorem d_Forest_copy_22 : decode b_Forest_copy 22 = .ok (.iaload, 1) := by decide +kernel
theorem d_Forest_copy_23 : decode b_Forest_copy 23 = .ok (.iastore, 1) := by decide +kernel
theorem d_Forest_copy_24 : decode b_Forest_copy 24 = .ok (.aload_n 0, 1) := by decide +kernel
theorem d_Forest_copy_25 : decode b_Forest_copy 25 = .ok (.getfield 18, 3) := by decide +kernel
theorem d_Forest_copy_28 : decode b_Forest_copy 28 = .ok (.iload_n 2, 1) := by decide +kernel
theorem d_Forest_copy_29 : decode b_Forest_copy 29 = .ok (.aload_n 0, 1) := by decide +kernel
theorem d_Forest_copy_30 : decode b_Forest_copy 30 = .ok (.getfield 18, 3) := by decide +kernel
theorem d_Forest_copy_33 : decode b_Forest_copy 33 = .ok (.iload_n 1, 1) := by decide +kernel
theorem d_Forest_copy_34 : decode b_Forest_copy 34 = .ok (.iaload, 1) := by decide +kernel
theorem d_Forest_copy_35 : decode b_Forest_copy 35 = .ok (.iastore, 1) := by decide +kernel
theorem d_Forest_copy_36 : decode b_Forest_copy 36 = .ok (.iconst 0, 1) := by decide +kernel
theorem d_Forest_copy_37 : decode b_Forest_copy 37 = .ok (.istore_n 3, 1) := by decide +kernel
theorem d_Forest_copy_38 : decode b_Forest_copy 38 = .ok (.iload_n 3, 1) := by decide +kernel
theorem d_Forest_copy_39 : decode b_Forest_copy 39 = .ok (.iconst 3, 1) := by decide +kernel
theorem d_Forest_copy_40 : decode b_Forest_copy 40 = .ok (.if_icmp .ge 29, 3) := by decide +kernel
theorem d_Forest_copy_43 : decode b_Forest_copy 43 = .ok (.aload_n 0, 1) := by decide +kernel
theorem d_Forest_copy_44 : decode b_Forest_copy 44 = .ok (.getfield 21, 3) := by decide +kernel
theorem d_Forest_copy_47 : decode b_Forest_copy 47 = .ok (.iload_n 2, 1) := by decide +kernel
theorem d_Forest_copy_48 : decode b_Forest_copy 48 = .ok (.iconst 3, 1) := by decide +kernel
theorem d_Forest_copy_49 : decode b_Forest_copy 49 = .ok (.imul, 1) := by decide +kernel
theorem d_Forest_copy_50 : decode b_Forest_copy 50 = .ok (.iload_n 3, 1) := by decide +kernel
theorem d_Forest_copy_51 : decode b_Forest_copy 51 = .ok (.iadd, 1) := by decide +kernel
theorem d_Forest_copy_52 : decode b_Forest_copy 52 = .ok (.aload_n 0, 1) := by decide +kernel
theorem d_Forest_copy_53 : decode b_Forest_copy 53 = .ok (.getfield 21, 3) := by decide +kernel
theorem d_Forest_copy_56 : decode b_Forest_copy 56 = .ok (.iload_n 1, 1) := by decide +kernel
theorem d_Forest_copy_57 : decode b_Forest_copy 57 = .ok (.iconst 3, 1) := by decide +kernel
theorem d_Forest_copy_58 : decode b_Forest_copy 58 = .ok (.imul, 1) := by decide +kernel
theorem d_Forest_copy_59 : decode b_Forest_copy 59 = .ok (.iload_n 3, 1) := by decide +kernel
theorem d_Forest_copy_60 : decode b_Forest_copy 60 = .ok (.iadd, 1) := by decide +kernel
theorem d_Forest_copy_61 : decode b_Forest_copy 61 = .ok (.iaload, 1) := by decide +kernel
theorem d_Forest_copy_62 : decode b_Forest_copy 62 = .ok (.iastore, 1) := by decide +kernel
theorem d_Forest_copy_63 : decode b_Forest_copy 63 = .ok (.iinc 3 1, 3) := by decide +kernel
theorem d_Forest_copy_66 : decode b_Forest_copy 66 = .ok (.goto (-28), 3) := by decide +kernel
theorem d_Forest_copy_69 : decode b_Forest_copy 69 = .ok (.return_, 1) := by decide +kernel
theorem d_Chart_offer_0 : decode b_Chart_offer 0 = .ok (.aload_n 0, 1) := by decide +kernel
theorem d_Chart_offer_1 : decode b_Chart_offer 1 = .ok (.getfield 12, 3) := by decide +kernel
theorem d_Chart_offer_4 : decode b_Chart_offer 4 = .ok (.iload_n 1, 1) := by decide +kernel
theorem d_Chart_offer_5 : decode b_Chart_offer 5 = .ok (.aload_n 0, 1) := by decide +kernel
theorem d_Chart_offer_6 : decode b_Chart_offer 6 = .ok (.getfield 39, 3) := by decide +kernel
theorem d_Chart_offer_9 : decode b_Chart_offer 9 = .ok (.getfield 101, 3) := by decide +kernel
theorem d_Chart_offer_12 : decode b_Chart_offer 12 = .ok (.iload_n 1, 1) := by decide +kernel
theorem d_Chart_offer_13 : decode b_Chart_offer 13 = .ok (.iaload, 1) := by decide +kernel
theorem d_Chart_offer_14 : decode b_Chart_offer 14 = .ok (.invokevirtual 104, 3) := by decide +kernel
theorem d_Chart_offer_17 : decode b_Chart_offer 17 = .ok (.aload_n 0, 1) := by decide +kernel
theorem d_Chart_offer_18 : decode b_Chart_offer 18 = .ok (.getfield 12, 3) := by decide +kernel
theorem d_Chart_offer_21 : decode b_Chart_offer 21 = .ok (.iconst 0, 1) := by decide +kernel
theorem d_Chart_offer_22 : decode b_Chart_offer 22 = .ok (.aload_n 0, 1) := by decide +kernel
theorem d_Chart_offer_23 : decode b_Chart_offer 23 = .ok (.iconst 0, 1) := by decide +kernel
theorem d_Chart_offer_24 : decode b_Chart_offer 24 = .ok (.iload_n 3, 1) := by decide +kernel
theorem d_Chart_offer_25 : decode b_Chart_offer 25 = .ok (.invokevirtual 107, 3) := by decide +kernel
theorem d_Chart_offer_28 : decode b_Chart_offer 28 = .ok (.invokevirtual 110, 3) := by decide +kernel
theorem d_Chart_offer_31 : decode b_Chart_offer 31 = .ok (.aload_n 0, 1) := by decide +kernel
theorem d_Chart_offer_32 : decode b_Chart_offer 32 = .ok (.getfield 12, 3) := by decide +kernel
theorem d_Chart_offer_35 : decode b_Chart_offer 35 = .ok (.iconst 1, 1) := by decide +kernel
theorem d_Chart_offer_36 : decode b_Chart_offer 36 = .ok (.aload_n 0, 1) := by decide +kernel
theorem d_Chart_offer_37 : decode b_Chart_offer 37 = .ok (.iconst 1, 1) := by decide +kernel
theorem d_Chart_offer_38 : decode b_Chart_offer 38 = .ok (.iload 4, 2) := by decide +kernel
theorem d_Chart_offer_40 : decode b_Chart_offer 40 = .ok (.invokevirtual 107, 3) := by decide +kernel
theorem d_Chart_offer_43 : decode b_Chart_offer 43 = .ok (.invokevirtual 110, 3) := by decide +kernel
theorem d_Chart_offer_46 : decode b_Chart_offer 46 = .ok (.aload_n 0, 1) := by decide +kernel
theorem d_Chart_offer_47 : decode b_Chart_offer 47 = .ok (.getfield 12, 3) := by decide +kernel
theorem d_Chart_offer_50 : decode b_Chart_offer 50 = .ok (.iconst 2, 1) := by decide +kernel
theorem d_Chart_offer_51 : decode b_Chart_offer 51 = .ok (.aload_n 0, 1) := by decide +kernel
theorem d_Chart_offer_52 : decode b_Chart_offer 52 = .ok (.iconst 2, 1) := by decide +kernel
theorem d_Chart_offer_53 : decode b_Chart_offer 53 = .ok (.iload 5, 2) := by decide +kernel
theorem d_Chart_offer_55 : decode b_Chart_offer 55 = .ok (.invokevirtual 107, 3) := by decide +kernel
theorem d_Chart_offer_58 : decode b_Chart_offer 58 = .ok (.invokevirtual 110, 3) := by decide +kernel
theorem d_Chart_offer_61 : decode b_Chart_offer 61 = .ok (.iload_n 2, 1) := by decide +kernel
theorem d_Chart_offer_62 : decode b_Chart_offer 62 = .ok (.bipush 8, 2) := by decide +kernel
theorem d_Chart_offer_64 : decode b_Chart_offer 64 = .ok (.imul, 1) := by decide +kernel
theorem d_Chart_offer_65 : decode b_Chart_offer 65 = .ok (.istore 6, 2) := by decide +kernel
theorem d_Chart_offer_67 : decode b_Chart_offer 67 = .ok (.aload_n 0, 1) := by decide +kernel
theorem d_Chart_offer_68 : decode b_Chart_offer 68 = .ok (.getfield 22, 3) := by decide +kernel
theorem d_Chart_offer_71 : decode b_Chart_offer 71 = .ok (.iload_n 2, 1) := by decide +kernel
theorem d_Chart_offer_72 : decode b_Chart_offer 72 = .ok (.iaload, 1) := by decide +kernel
theorem d_Chart_offer_73 : decode b_Chart_offer 73 = .ok (.istore 7, 2) := by decide +kernel
theorem d_Chart_offer_75 : decode b_Chart_offer 75 = .ok (.iload 7, 2) := by decide +kernel
theorem d_Chart_offer_77 : decode b_Chart_offer 77 = .ok (.ifCond .le 29, 3) := by decide +kernel
theorem d_Chart_offer_80 : decode b_Chart_offer 80 = .ok (.aload_n 0, 1) := by decide +kernel
theorem d_Chart_offer_81 : decode b_Chart_offer 81 = .ok (.getfield 12, 3) := by decide +kernel
theorem d_Chart_offer_84 : decode b_Chart_offer 84 = .ok (.sipush 840, 3) := by decide +kernel
theorem d_Chart_offer_87 : decode b_Chart_offer 87 = .ok (.iload 6, 2) := by decide +kernel
theorem d_Chart_offer_89 : decode b_Chart_offer 89 = .ok (.iload 7, 2) := by decide +kernel
theorem d_Chart_offer_91 : decode b_Chart_offer 91 = .ok (.iadd, 1) := by decide +kernel
theorem d_Chart_offer_92 : decode b_Chart_offer 92 = .ok (.iconst 1, 1) := by decide +kernel
theorem d_Chart_offer_93 : decode b_Chart_offer 93 = .ok (.isub, 1) := by decide +kernel
theorem d_Chart_offer_94 : decode b_Chart_offer 94 = .ok (.invokevirtual 113, 3) := by decide +kernel
theorem d_Chart_offer_97 : decode b_Chart_offer 97 = .ok (.ifCond .eq 9, 3) := by decide +kernel
theorem d_Chart_offer_100 : decode b_Chart_offer 100 = .ok (.iinc 7 (-1), 3) := by decide +kernel
theorem d_Chart_offer_103 : decode b_Chart_offer 103 = .ok (.goto (-28), 3) := by decide +kernel
theorem d_Chart_offer_106 : decode b_Chart_offer 106 = .ok (.iload 7, 2) := by decide +kernel
theorem d_Chart_offer_108 : decode b_Chart_offer 108 = .ok (.bipush 8, 2) := by decide +kernel
theorem d_Chart_offer_110 : decode b_Chart_offer 110 = .ok (.if_icmp .lt 5, 3) := by decide +kernel
theorem d_Chart_offer_113 : decode b_Chart_offer 113 = .ok (.iconst 0, 1) := by decide +kernel
theorem d_Chart_offer_114 : decode b_Chart_offer 114 = .ok (.ireturn, 1) := by decide +kernel
theorem d_Chart_offer_115 : decode b_Chart_offer 115 = .ok (.aload_n 0, 1) := by decide +kernel
theorem d_Chart_offer_116 : decode b_Chart_offer 116 = .ok (.getfield 22, 3) := by decide +kernel
theorem d_Chart_offer_119 : decode b_Chart_offer 119 = .ok (.iload_n 2, 1) := by decide +kernel
theorem d_Chart_offer_120 : decode b_Chart_offer 120 = .ok (.iaload, 1) := by decide +kernel
theorem d_Chart_offer_121 : decode b_Chart_offer 121 = .ok (.bipush 8, 2) := by decide +kernel
theorem d_Chart_offer_123 : decode b_Chart_offer 123 = .ok (.if_icmp .ge 13, 3) := by decide +kernel
theorem d_Chart_offer_126 : decode b_Chart_offer 126 = .ok (.aload_n 0, 1) := by decide +kernel
theorem d_Chart_offer_127 : decode b_Chart_offer 127 = .ok (.getfield 22, 3) := by decide +kernel
theorem d_Chart_offer_130 : decode b_Chart_offer 130 = .ok (.iload_n 2, 1) := by decide +kernel
theorem d_Chart_offer_131 : decode b_Chart_offer 131 = .ok (.dup2, 1) := by decide +kernel
theorem d_Chart_offer_132 : decode b_Chart_offer 132 = .ok (.iaload, 1) := by decide +kernel
theorem d_Chart_offer_133 : decode b_Chart_offer 133 = .ok (.iconst 1, 1) := by decide +kernel
theorem d_Chart_offer_134 : decode b_Chart_offer 134 = .ok (.iadd, 1) := by decide +kernel
theorem d_Chart_offer_135 : decode b_Chart_offer 135 = .ok (.iastore, 1) := by decide +kernel
theorem d_Chart_offer_136 : decode b_Chart_offer 136 = .ok (.aload_n 0, 1) := by decide +kernel
theorem d_Chart_offer_137 : decode b_Chart_offer 137 = .ok (.getfield 22, 3) := by decide +kernel
theorem d_Chart_offer_140 : decode b_Chart_offer 140 = .ok (.iload_n 2, 1) := by decide +kernel
theorem d_Chart_offer_141 : decode b_Chart_offer 141 = .ok (.iaload, 1) := by decide +kernel
theorem d_Chart_offer_142 : decode b_Chart_offer 142 = .ok (.iconst 1, 1) := by decide +kernel
theorem d_Chart_offer_143 : decode b_Chart_offer 143 = .ok (.isub, 1) := by decide +kernel
theorem d_Chart_offer_144 : decode b_Chart_offer 144 = .ok (.istore 8, 2) := by decide +kernel
theorem d_Chart_offer_146 : decode b_Chart_offer 146 = .ok (.iload 8, 2) := by decide +kernel
theorem d_Chart_offer_148 : decode b_Chart_offer 148 = .ok (.iload 7, 2) := by decide +kernel
theorem d_Chart_offer_150 : decode b_Chart_offer 150 = .ok (.if_icmp .le 28, 3) := by decide +kernel
theorem d_Chart_offer_153 : decode b_Chart_offer 153 = .ok (.aload_n 0, 1) := by decide +kernel
theorem d_Chart_offer_154 : decode b_Chart_offer 154 = .ok (.getfield 12, 3) := by decide +kernel
theorem d_Chart_offer_157 : decode b_Chart_offer 157 = .ok (.iload 6, 2) := by decide +kernel
theorem d_Chart_offer_159 : decode b_Chart_offer 159 = .ok (.iload 8, 2) := by decide +kernel
theorem d_Chart_offer_161 : decode b_Chart_offer 161 = .ok (.iadd, 1) := by decide +kernel
theorem d_Chart_offer_162 : decode b_Chart_offer 162 = .ok (.iconst 1, 1) := by decide +kernel
theorem d_Chart_offer_163 : decode b_Chart_offer 163 = .ok (.isub, 1) := by decide +kernel
theorem d_Chart_offer_164 : decode b_Chart_offer 164 = .ok (.iload 6, 2) := by decide +kernel
theorem d_Chart_offer_166 : decode b_Chart_offer 166 = .ok (.iload 8, 2) := by decide +kernel
theorem d_Chart_offer_168 : decode b_Chart_offer 168 = .ok (.iadd, 1) := by decide +kernel
theorem d_Chart_offer_169 : decode b_Chart_offer 169 = .ok (.invokevirtual 117, 3) := by decide +kernel
theorem d_Chart_offer_172 : decode b_Chart_offer 172 = .ok (.iinc 8 (-1), 3) := by decide +kernel
theorem d_Chart_offer_175 : decode b_Chart_offer 175 = .ok (.goto (-29), 3) := by decide +kernel
theorem d_Chart_offer_178 : decode b_Chart_offer 178 = .ok (.aload_n 0, 1) := by decide +kernel
theorem d_Chart_offer_179 : decode b_Chart_offer 179 = .ok (.getfield 12, 3) := by decide +kernel
theorem d_Chart_offer_182 : decode b_Chart_offer 182 = .ok (.sipush 840, 3) := by decide +kernel
theorem d_Chart_offer_185 : decode b_Chart_offer 185 = .ok (.iload 6, 2) := by decide +kernel
theorem d_Chart_offer_187 : decode b_Chart_offer 187 = .ok (.iload 7, 2) := by decide +kernel
theorem d_Chart_offer_189 : decode b_Chart_offer 189 = .ok (.iadd, 1) := by decide +kernel
theorem d_Chart_offer_190 : decode b_Chart_offer 190 = .ok (.invokevirtual 117, 3) := by decide +kernel
theorem d_Chart_offer_193 : decode b_Chart_offer 193 = .ok (.iconst 1, 1) := by decide +kernel
theorem d_Chart_offer_194 : decode b_Chart_offer 194 = .ok (.ireturn, 1) := by decide +kernel
theorem d_Chart_join_0 : decode b_Chart_join 0 = .ok (.lconst 1, 1) := by decide +kernel
theorem d_Chart_join_1 : decode b_Chart_join 1 = .ok (.lstore_n 3, 1) := by decide +kernel
theorem d_Chart_join_2 : decode b_Chart_join 2 = .ok (.iconst 0, 1) := by decide +kernel
theorem d_Chart_join_3 : decode b_Chart_join 3 = .ok (.istore 5, 2) := by decide +kernel
theorem d_Chart_join_5 : decode b_Chart_join 5 = .ok (.iload 5, 2) := by decide +kernel
theorem d_Chart_join_7 : decode b_Chart_join 7 = .ok (.iconst 3, 1) := by decide +kernel
theorem d_Chart_join_8 : decode b_Chart_join 8 = .ok (.if_icmp .ge 19, 3) := by decide +kernel
theorem d_Chart_join_11 : decode b_Chart_join 11 = .ok (.lload_n 3, 1) := by decide +kernel
theorem d_Chart_join_12 : decode b_Chart_join 12 = .ok (.aload_n 0, 1) := by decide +kernel
theorem d_Chart_join_13 : decode b_Chart_join 13 = .ok (.iload_n 1, 1) := by decide +kernel
theorem d_Chart_join_14 : decode b_Chart_join 14 = .ok (.iload 5, 2) := by decide +kernel
theorem d_Chart_join_16 : decode b_Chart_join 16 = .ok (.invokevirtual 81, 3) := by decide +kernel
theorem d_Chart_join_19 : decode b_Chart_join 19 = .ok (.lmul, 1) := by decide +kernel
theorem d_Chart_join_20 : decode b_Chart_join 20 = .ok (.lstore_n 3, 1) := by decide +kernel
theorem d_Chart_join_21 : decode b_Chart_join 21 = .ok (.iinc 5 1, 3) := by decide +kernel
theorem d_Chart_join_24 : decode b_Chart_join 24 = .ok (.goto (-19), 3) := by decide +kernel
theorem d_Chart_join_27 : decode b_Chart_join 27 = .ok (.lload_n 3, 1) := by decide +kernel
theorem d_Chart_join_28 : decode b_Chart_join 28 = .ok (.lconst 0, 1) := by decide +kernel
theorem d_Chart_join_29 : decode b_Chart_join 29 = .ok (.lcmp, 1) := by decide +kernel
theorem d_Chart_join_30 : decode b_Chart_join 30 = .ok (.ifCond .ne 4, 3) := by decide +kernel
theorem d_Chart_join_33 : decode b_Chart_join 33 = .ok (.return_, 1) := by decide +kernel
theorem d_Chart_join_34 : decode b_Chart_join 34 = .ok (.aload_n 0, 1) := by decide +kernel
theorem d_Chart_join_35 : decode b_Chart_join 35 = .ok (.getfield 18, 3) := by decide +kernel
theorem d_Chart_join_38 : decode b_Chart_join 38 = .ok (.iload_n 2, 1) := by decide +kernel
theorem d_Chart_join_39 : decode b_Chart_join 39 = .ok (.dup2, 1) := by decide +kernel
theorem d_Chart_join_40 : decode b_Chart_join 40 = .ok (.laload, 1) := by decide +kernel
theorem d_Chart_join_41 : decode b_Chart_join 41 = .ok (.lload_n 3, 1) := by decide +kernel
theorem d_Chart_join_42 : decode b_Chart_join 42 = .ok (.ladd, 1) := by decide +kernel
theorem d_Chart_join_43 : decode b_Chart_join 43 = .ok (.lastore, 1) := by decide +kernel
theorem d_Chart_join_44 : decode b_Chart_join 44 = .ok (.iconst 0, 1) := by decide +kernel
theorem d_Chart_join_45 : decode b_Chart_join 45 = .ok (.istore 5, 2) := by decide +kernel
theorem d_Chart_join_47 : decode b_Chart_join 47 = .ok (.iload 5, 2) := by decide +kernel
theorem d_Chart_join_49 : decode b_Chart_join 49 = .ok (.aload_n 0, 1) := by decide +kernel
theorem d_Chart_join_50 : decode b_Chart_join 50 = .ok (.getfield 29, 3) := by decide +kernel
theorem d_Chart_join_53 : decode b_Chart_join 53 = .ok (.iconst 0, 1) := by decide +kernel
theorem d_Chart_join_54 : decode b_Chart_join 54 = .ok (.iaload, 1) := by decide +kernel
theorem d_Chart_join_55 : decode b_Chart_join 55 = .ok (.if_icmp .ge 88, 3) := by decide +kernel
theorem d_Chart_join_58 : decode b_Chart_join 58 = .ok (.aload_n 0, 1) := by decide +kernel
theorem d_Chart_join_59 : decode b_Chart_join 59 = .ok (.getfield 29, 3) := by decide +kernel
theorem d_Chart_join_62 : decode b_Chart_join 62 = .ok (.iconst 2, 1) := by decide +kernel
theorem d_Chart_join_63 : decode b_Chart_join 63 = .ok (.iaload, 1) := by decide +kernel
theorem d_Chart_join_64 : decode b_Chart_join 64 = .ok (.istore 6, 2) := by decide +kernel
theorem d_Chart_join_66 : decode b_Chart_join 66 = .ok (.iconst 0, 1) := by decide +kernel
theorem d_Chart_join_67 : decode b_Chart_join 67 = .ok (.istore 7, 2) := by decide +kernel
theorem d_Chart_join_69 : decode b_Chart_join 69 = .ok (.iload 7, 2) := by decide +kernel
theorem d_Chart_join_71 : decode b_Chart_join 71 = .ok (.aload_n 0, 1) := by decide +kernel
theorem d_Chart_join_72 : decode b_Chart_join 72 = .ok (.getfield 29, 3) := by decide +kernel
theorem d_Chart_join_75 : decode b_Chart_join 75 = .ok (.iconst 1, 1) := by decide +kernel
theorem d_Chart_join_76 : decode b_Chart_join 76 = .ok (.iaload, 1) := by decide +kernel
theorem d_Chart_join_77 : decode b_Chart_join 77 = .ok (.if_icmp .ge 60, 3) := by decide +kernel
theorem d_Chart_join_80 : decode b_Chart_join 80 = .ok (.iload 6, 2) := by decide +kernel
theorem d_Chart_join_82 : decode b_Chart_join 82 = .ok (.ifCond .le 55, 3) := by decide +kernel
theorem d_Chart_join_85 : decode b_Chart_join 85 = .ok (.iconst 0, 1) := by decide +kernel
theorem d_Chart_join_86 : decode b_Chart_join 86 = .ok (.istore 8, 2) := by decide +kernel
theorem d_Chart_join_88 : decode b_Chart_join 88 = .ok (.iload 8, 2) := by decide +kernel
theorem d_Chart_join_90 : decode b_Chart_join 90 = .ok (.iload 6, 2) := by decide +kernel
theorem d_Chart_join_92 : decode b_Chart_join 92 = .ok (.if_icmp .ge 24, 3) := by decide +kernel
theorem d_Chart_join_95 : decode b_Chart_join 95 = .ok (.aload_n 0, 1) := by decide +kernel
theorem d_Chart_join_96 : decode b_Chart_join 96 = .ok (.iload_n 1, 1) := by decide +kernel
theorem d_Chart_join_97 : decode b_Chart_join 97 = .ok (.iload_n 2, 1) := by decide +kernel
theorem d_Chart_join_98 : decode b_Chart_join 98 = .ok (.iload 5, 2) := by decide +kernel
theorem d_Chart_join_100 : decode b_Chart_join 100 = .ok (.iload 7, 2) := by decide +kernel
theorem d_Chart_join_102 : decode b_Chart_join 102 = .ok (.iload 8, 2) := by decide +kernel
theorem d_Chart_join_104 : decode b_Chart_join 104 = .ok (.invokevirtual 85, 3) := by decide +kernel
theorem d_Chart_join_107 : decode b_Chart_join 107 = .ok (.ifCond .eq 9, 3) := by decide +kernel
theorem d_Chart_join_110 : decode b_Chart_join 110 = .ok (.iinc 8 1, 3) := by decide +kernel
theorem d_Chart_join_113 : decode b_Chart_join 113 = .ok (.goto (-25), 3) := by decide +kernel
theorem d_Chart_join_116 : decode b_Chart_join 116 = .ok (.iload 8, 2) := by decide +kernel
theorem d_Chart_join_118 : decode b_Chart_join 118 = .ok (.istore 6, 2) := by decide +kernel
theorem d_Chart_join_120 : decode b_Chart_join 120 = .ok (.iload 7, 2) := by decide +kernel
theorem d_Chart_join_122 : decode b_Chart_join 122 = .ok (.ifCond .ne 9, 3) := by decide +kernel
theorem d_Chart_join_125 : decode b_Chart_join 125 = .ok (.iload 6, 2) := by decide +kernel
