theorem d_Chart_join_127 : decode b_Chart_join 127 = .ok (.ifCond .ne 4, 3) := by decide +kernel
theorem d_Chart_join_130 : decode b_Chart_join 130 = .ok (.return_, 1) := by decide +kernel
theorem d_Chart_join_131 : decode b_Chart_join 131 = .ok (.iinc 7 1, 3) := by decide +kernel
theorem d_Chart_join_134 : decode b_Chart_join 134 = .ok (.goto (-65), 3) := by decide +kernel
theorem d_Chart_join_137 : decode b_Chart_join 137 = .ok (.iinc 5 1, 3) := by decide +kernel
theorem d_Chart_join_140 : decode b_Chart_join 140 = .ok (.goto (-93), 3) := by decide +kernel
theorem d_Chart_join_143 : decode b_Chart_join 143 = .ok (.return_, 1) := by decide +kernel
theorem d_Chart_divide_0 : decode b_Chart_divide 0 = .ok (.aload_n 0, 1) := by decide +kernel
theorem d_Chart_divide_1 : decode b_Chart_divide 1 = .ok (.getfield 39, 3) := by decide +kernel
theorem d_Chart_divide_4 : decode b_Chart_divide 4 = .ok (.getfield 72, 3) := by decide +kernel
theorem d_Chart_divide_7 : decode b_Chart_divide 7 = .ok (.iload_n 1, 1) := by decide +kernel
theorem d_Chart_divide_8 : decode b_Chart_divide 8 = .ok (.iaload, 1) := by decide +kernel
theorem d_Chart_divide_9 : decode b_Chart_divide 9 = .ok (.istore 4, 2) := by decide +kernel
theorem d_Chart_divide_11 : decode b_Chart_divide 11 = .ok (.aload_n 0, 1) := by decide +kernel
theorem d_Chart_divide_12 : decode b_Chart_divide 12 = .ok (.getfield 39, 3) := by decide +kernel
theorem d_Chart_divide_15 : decode b_Chart_divide 15 = .ok (.getfield 75, 3) := by decide +kernel
theorem d_Chart_divide_18 : decode b_Chart_divide 18 = .ok (.iload_n 1, 1) := by decide +kernel
theorem d_Chart_divide_19 : decode b_Chart_divide 19 = .ok (.iaload, 1) := by decide +kernel
theorem d_Chart_divide_20 : decode b_Chart_divide 20 = .ok (.iload_n 2, 1) := by decide +kernel
theorem d_Chart_divide_21 : decode b_Chart_divide 21 = .ok (.iload_n 3, 1) := by decide +kernel
theorem d_Chart_divide_22 : decode b_Chart_divide 22 = .ok (.invokestatic 68, 3) := by decide +kernel
theorem d_Chart_divide_25 : decode b_Chart_divide 25 = .ok (.istore 5, 2) := by decide +kernel
theorem d_Chart_divide_27 : decode b_Chart_divide 27 = .ok (.aload_n 0, 1) := by decide +kernel
theorem d_Chart_divide_28 : decode b_Chart_divide 28 = .ok (.getfield 26, 3) := by decide +kernel
theorem d_Chart_divide_31 : decode b_Chart_divide 31 = .ok (.iconst 0, 1) := by decide +kernel
theorem d_Chart_divide_32 : decode b_Chart_divide 32 = .ok (.iload_n 2, 1) := by decide +kernel
theorem d_Chart_divide_33 : decode b_Chart_divide 33 = .ok (.iastore, 1) := by decide +kernel
theorem d_Chart_divide_34 : decode b_Chart_divide 34 = .ok (.aload_n 0, 1) := by decide +kernel
theorem d_Chart_divide_35 : decode b_Chart_divide 35 = .ok (.getfield 26, 3) := by decide +kernel
theorem d_Chart_divide_38 : decode b_Chart_divide 38 = .ok (.iload 4, 2) := by decide +kernel
theorem d_Chart_divide_40 : decode b_Chart_divide 40 = .ok (.iload_n 3, 1) := by decide +kernel
theorem d_Chart_divide_41 : decode b_Chart_divide 41 = .ok (.iastore, 1) := by decide +kernel
theorem d_Chart_divide_42 : decode b_Chart_divide 42 = .ok (.iload 4, 2) := by decide +kernel
theorem d_Chart_divide_44 : decode b_Chart_divide 44 = .ok (.iconst 1, 1) := by decide +kernel
theorem d_Chart_divide_45 : decode b_Chart_divide 45 = .ok (.if_icmp .ne 11, 3) := by decide +kernel
theorem d_Chart_divide_48 : decode b_Chart_divide 48 = .ok (.aload_n 0, 1) := by decide +kernel
theorem d_Chart_divide_49 : decode b_Chart_divide 49 = .ok (.iload_n 1, 1) := by decide +kernel
theorem d_Chart_divide_50 : decode b_Chart_divide 50 = .ok (.iload 5, 2) := by decide +kernel
theorem d_Chart_divide_52 : decode b_Chart_divide 52 = .ok (.invokevirtual 78, 3) := by decide +kernel
theorem d_Chart_divide_55 : decode b_Chart_divide 55 = .ok (.return_, 1) := by decide +kernel
theorem d_Chart_divide_56 : decode b_Chart_divide 56 = .ok (.iload_n 3, 1) := by decide +kernel
theorem d_Chart_divide_57 : decode b_Chart_divide 57 = .ok (.iload 4, 2) := by decide +kernel
theorem d_Chart_divide_59 : decode b_Chart_divide 59 = .ok (.isub, 1) := by decide +kernel
theorem d_Chart_divide_60 : decode b_Chart_divide 60 = .ok (.iconst 1, 1) := by decide +kernel
theorem d_Chart_divide_61 : decode b_Chart_divide 61 = .ok (.iadd, 1) := by decide +kernel
theorem d_Chart_divide_62 : decode b_Chart_divide 62 = .ok (.istore 6, 2) := by decide +kernel
theorem d_Chart_divide_64 : decode b_Chart_divide 64 = .ok (.iload_n 2, 1) := by decide +kernel
theorem d_Chart_divide_65 : decode b_Chart_divide 65 = .ok (.iconst 1, 1) := by decide +kernel
theorem d_Chart_divide_66 : decode b_Chart_divide 66 = .ok (.iadd, 1) := by decide +kernel
theorem d_Chart_divide_67 : decode b_Chart_divide 67 = .ok (.istore 7, 2) := by decide +kernel
theorem d_Chart_divide_69 : decode b_Chart_divide 69 = .ok (.iload 7, 2) := by decide +kernel
theorem d_Chart_divide_71 : decode b_Chart_divide 71 = .ok (.iload 6, 2) := by decide +kernel
theorem d_Chart_divide_73 : decode b_Chart_divide 73 = .ok (.if_icmp .gt 66, 3) := by decide +kernel
theorem d_Chart_divide_76 : decode b_Chart_divide 76 = .ok (.aload_n 0, 1) := by decide +kernel
theorem d_Chart_divide_77 : decode b_Chart_divide 77 = .ok (.getfield 26, 3) := by decide +kernel
theorem d_Chart_divide_80 : decode b_Chart_divide 80 = .ok (.iconst 1, 1) := by decide +kernel
theorem d_Chart_divide_81 : decode b_Chart_divide 81 = .ok (.iload 7, 2) := by decide +kernel
theorem d_Chart_divide_83 : decode b_Chart_divide 83 = .ok (.iastore, 1) := by decide +kernel
theorem d_Chart_divide_84 : decode b_Chart_divide 84 = .ok (.iload 4, 2) := by decide +kernel
theorem d_Chart_divide_86 : decode b_Chart_divide 86 = .ok (.iconst 2, 1) := by decide +kernel
theorem d_Chart_divide_87 : decode b_Chart_divide 87 = .ok (.if_icmp .ne 13, 3) := by decide +kernel
theorem d_Chart_divide_90 : decode b_Chart_divide 90 = .ok (.aload_n 0, 1) := by decide +kernel
theorem d_Chart_divide_91 : decode b_Chart_divide 91 = .ok (.iload_n 1, 1) := by decide +kernel
theorem d_Chart_divide_92 : decode b_Chart_divide 92 = .ok (.iload 5, 2) := by decide +kernel
theorem d_Chart_divide_94 : decode b_Chart_divide 94 = .ok (.invokevirtual 78, 3) := by decide +kernel
theorem d_Chart_divide_97 : decode b_Chart_divide 97 = .ok (.goto 36, 3) := by decide +kernel
theorem d_Chart_divide_100 : decode b_Chart_divide 100 = .ok (.iload 7, 2) := by decide +kernel
theorem d_Chart_divide_102 : decode b_Chart_divide 102 = .ok (.iconst 1, 1) := by decide +kernel
theorem d_Chart_divide_103 : decode b_Chart_divide 103 = .ok (.iadd, 1) := by decide +kernel
theorem d_Chart_divide_104 : decode b_Chart_divide 104 = .ok (.istore 8, 2) := by decide +kernel
theorem d_Chart_divide_106 : decode b_Chart_divide 106 = .ok (.iload 8, 2) := by decide +kernel
theorem d_Chart_divide_108 : decode b_Chart_divide 108 = .ok (.iload_n 3, 1) := by decide +kernel
theorem d_Chart_divide_109 : decode b_Chart_divide 109 = .ok (.if_icmp .ge 24, 3) := by decide +kernel
theorem d_Chart_divide_112 : decode b_Chart_divide 112 = .ok (.aload_n 0, 1) := by decide +kernel
theorem d_Chart_divide_113 : decode b_Chart_divide 113 = .ok (.getfield 26, 3) := by decide +kernel
theorem d_Chart_divide_116 : decode b_Chart_divide 116 = .ok (.iconst 2, 1) := by decide +kernel
theorem d_Chart_divide_117 : decode b_Chart_divide 117 = .ok (.iload 8, 2) := by decide +kernel
theorem d_Chart_divide_119 : decode b_Chart_divide 119 = .ok (.iastore, 1) := by decide +kernel
theorem d_Chart_divide_120 : decode b_Chart_divide 120 = .ok (.aload_n 0, 1) := by decide +kernel
theorem d_Chart_divide_121 : decode b_Chart_divide 121 = .ok (.iload_n 1, 1) := by decide +kernel
theorem d_Chart_divide_122 : decode b_Chart_divide 122 = .ok (.iload 5, 2) := by decide +kernel
theorem d_Chart_divide_124 : decode b_Chart_divide 124 = .ok (.invokevirtual 78, 3) := by decide +kernel
theorem d_Chart_divide_127 : decode b_Chart_divide 127 = .ok (.iinc 8 1, 3) := by decide +kernel
theorem d_Chart_divide_130 : decode b_Chart_divide 130 = .ok (.goto (-24), 3) := by decide +kernel
theorem d_Chart_divide_133 : decode b_Chart_divide 133 = .ok (.iinc 7 1, 3) := by decide +kernel
theorem d_Chart_divide_136 : decode b_Chart_divide 136 = .ok (.goto (-67), 3) := by decide +kernel
theorem d_Chart_divide_139 : decode b_Chart_divide 139 = .ok (.return_, 1) := by decide +kernel
theorem d_Chart_complete_0 : decode b_Chart_complete 0 = .ok (.aload_n 0, 1) := by decide +kernel
theorem d_Chart_complete_1 : decode b_Chart_complete 1 = .ok (.getfield 43, 3) := by decide +kernel
theorem d_Chart_complete_4 : decode b_Chart_complete 4 = .ok (.iconst 1, 1) := by decide +kernel
theorem d_Chart_complete_5 : decode b_Chart_complete 5 = .ok (.iadd, 1) := by decide +kernel
theorem d_Chart_complete_6 : decode b_Chart_complete 6 = .ok (.istore_n 1, 1) := by decide +kernel
theorem d_Chart_complete_7 : decode b_Chart_complete 7 = .ok (.iload_n 1, 1) := by decide +kernel
theorem d_Chart_complete_8 : decode b_Chart_complete 8 = .ok (.aload_n 0, 1) := by decide +kernel
theorem d_Chart_complete_9 : decode b_Chart_complete 9 = .ok (.getfield 35, 3) := by decide +kernel
theorem d_Chart_complete_12 : decode b_Chart_complete 12 = .ok (.getfield 47, 3) := by decide +kernel
theorem d_Chart_complete_15 : decode b_Chart_complete 15 = .ok (.if_icmp .gt 63, 3) := by decide +kernel
theorem d_Chart_complete_18 : decode b_Chart_complete 18 = .ok (.iload_n 1, 1) := by decide +kernel
theorem d_Chart_complete_19 : decode b_Chart_complete 19 = .ok (.iconst 1, 1) := by decide +kernel
theorem d_Chart_complete_20 : decode b_Chart_complete 20 = .ok (.isub, 1) := by decide +kernel
theorem d_Chart_complete_21 : decode b_Chart_complete 21 = .ok (.istore_n 2, 1) := by decide +kernel
theorem d_Chart_complete_22 : decode b_Chart_complete 22 = .ok (.iload_n 2, 1) := by decide +kernel
theorem d_Chart_complete_23 : decode b_Chart_complete 23 = .ok (.ifCond .lt 49, 3) := by decide +kernel
theorem d_Chart_complete_26 : decode b_Chart_complete 26 = .ok (.aload_n 0, 1) := by decide +kernel
theorem d_Chart_complete_27 : decode b_Chart_complete 27 = .ok (.iload_n 2, 1) := by decide +kernel
theorem d_Chart_complete_28 : decode b_Chart_complete 28 = .ok (.iload_n 1, 1) := by decide +kernel
theorem d_Chart_complete_29 : decode b_Chart_complete 29 = .ok (.invokevirtual 52, 3) := by decide +kernel
theorem d_Chart_complete_32 : decode b_Chart_complete 32 = .ok (.iconst 0, 1) := by decide +kernel
theorem d_Chart_complete_33 : decode b_Chart_complete 33 = .ok (.istore_n 3, 1) := by decide +kernel
theorem d_Chart_complete_34 : decode b_Chart_complete 34 = .ok (.iload_n 3, 1) := by decide +kernel
theorem d_Chart_complete_35 : decode b_Chart_complete 35 = .ok (.aload_n 0, 1) := by decide +kernel
theorem d_Chart_complete_36 : decode b_Chart_complete 36 = .ok (.getfield 39, 3) := by decide +kernel
theorem d_Chart_complete_39 : decode b_Chart_complete 39 = .ok (.getfield 56, 3) := by decide +kernel
theorem d_Chart_complete_42 : decode b_Chart_complete 42 = .ok (.if_icmp .ge 24, 3) := by decide +kernel
theorem d_Chart_complete_45 : decode b_Chart_complete 45 = .ok (.aload_n 0, 1) := by decide +kernel
theorem d_Chart_complete_46 : decode b_Chart_complete 46 = .ok (.aload_n 0, 1) := by decide +kernel
theorem d_Chart_complete_47 : decode b_Chart_complete 47 = .ok (.getfield 39, 3) := by decide +kernel
theorem d_Chart_complete_50 : decode b_Chart_complete 50 = .ok (.getfield 61, 3) := by decide +kernel
theorem d_Chart_complete_53 : decode b_Chart_complete 53 = .ok (.iload_n 3, 1) := by decide +kernel
theorem d_Chart_complete_54 : decode b_Chart_complete 54 = .ok (.iaload, 1) := by decide +kernel
theorem d_Chart_complete_55 : decode b_Chart_complete 55 = .ok (.iload_n 2, 1) := by decide +kernel
theorem d_Chart_complete_56 : decode b_Chart_complete 56 = .ok (.iload_n 1, 1) := by decide +kernel
theorem d_Chart_complete_57 : decode b_Chart_complete 57 = .ok (.invokevirtual 64, 3) := by decide +kernel
theorem d_Chart_complete_60 : decode b_Chart_complete 60 = .ok (.iinc 3 1, 3) := by decide +kernel
theorem d_Chart_complete_63 : decode b_Chart_complete 63 = .ok (.goto (-29), 3) := by decide +kernel
theorem d_Chart_complete_66 : decode b_Chart_complete 66 = .ok (.iinc 2 (-1), 3) := by decide +kernel
theorem d_Chart_complete_69 : decode b_Chart_complete 69 = .ok (.goto (-47), 3) := by decide +kernel
theorem d_Chart_complete_72 : decode b_Chart_complete 72 = .ok (.iinc 1 1, 3) := by decide +kernel
theorem d_Chart_complete_75 : decode b_Chart_complete 75 = .ok (.goto (-68), 3) := by decide +kernel
theorem d_Chart_complete_78 : decode b_Chart_complete 78 = .ok (.aload_n 0, 1) := by decide +kernel
theorem d_Chart_complete_79 : decode b_Chart_complete 79 = .ok (.aload_n 0, 1) := by decide +kernel
theorem d_Chart_complete_80 : decode b_Chart_complete 80 = .ok (.getfield 35, 3) := by decide +kernel
theorem d_Chart_complete_83 : decode b_Chart_complete 83 = .ok (.getfield 47, 3) := by decide +kernel
theorem d_Chart_complete_86 : decode b_Chart_complete 86 = .ok (.putfield 43, 3) := by decide +kernel
theorem d_Chart_complete_89 : decode b_Chart_complete 89 = .ok (.return_, 1) := by decide +kernel
theorem d_Forest_partAt_0 : decode b_Forest_partAt 0 = .ok (.iload_n 1, 1) := by decide +kernel
theorem d_Forest_partAt_1 : decode b_Forest_partAt 1 = .ok (.istore_n 3, 1) := by decide +kernel
theorem d_Forest_partAt_2 : decode b_Forest_partAt 2 = .ok (.iload_n 2, 1) := by decide +kernel
theorem d_Forest_partAt_3 : decode b_Forest_partAt 3 = .ok (.istore 4, 2) := by decide +kernel
theorem d_Forest_partAt_5 : decode b_Forest_partAt 5 = .ok (.iload 4, 2) := by decide +kernel
theorem d_Forest_partAt_7 : decode b_Forest_partAt 7 = .ok (.ifCond .le 100, 3) := by decide +kernel
theorem d_Forest_partAt_10 : decode b_Forest_partAt 10 = .ok (.iinc 4 (-1), 3) := by decide +kernel
theorem d_Forest_partAt_13 : decode b_Forest_partAt 13 = .ok (.iconst (-1), 1) := by decide +kernel
theorem d_Forest_partAt_14 : decode b_Forest_partAt 14 = .ok (.istore 5, 2) := by decide +kernel
theorem d_Forest_partAt_16 : decode b_Forest_partAt 16 = .ok (.iconst 0, 1) := by decide +kernel
theorem d_Forest_partAt_17 : decode b_Forest_partAt 17 = .ok (.istore 6, 2) := by decide +kernel
theorem d_Forest_partAt_19 : decode b_Forest_partAt 19 = .ok (.iload 6, 2) := by decide +kernel
theorem d_Forest_partAt_21 : decode b_Forest_partAt 21 = .ok (.iconst 3, 1) := by decide +kernel
theorem d_Forest_partAt_22 : decode b_Forest_partAt 22 = .ok (.if_icmp .ge 71, 3) := by decide +kernel
theorem d_Forest_partAt_25 : decode b_Forest_partAt 25 = .ok (.iload 5, 2) := by decide +kernel
theorem d_Forest_partAt_27 : decode b_Forest_partAt 27 = .ok (.iconst (-1), 1) := by decide +kernel
theorem d_Forest_partAt_28 : decode b_Forest_partAt 28 = .ok (.if_icmp .ne 65, 3) := by decide +kernel
theorem d_Forest_partAt_31 : decode b_Forest_partAt 31 = .ok (.aload_n 0, 1) := by decide +kernel
theorem d_Forest_partAt_32 : decode b_Forest_partAt 32 = .ok (.getfield 21, 3) := by decide +kernel
theorem d_Forest_partAt_35 : decode b_Forest_partAt 35 = .ok (.iload_n 3, 1) := by decide +kernel
theorem d_Forest_partAt_36 : decode b_Forest_partAt 36 = .ok (.iconst 3, 1) := by decide +kernel
theorem d_Forest_partAt_37 : decode b_Forest_partAt 37 = .ok (.imul, 1) := by decide +kernel
theorem d_Forest_partAt_38 : decode b_Forest_partAt 38 = .ok (.iload 6, 2) := by decide +kernel
theorem d_Forest_partAt_40 : decode b_Forest_partAt 40 = .ok (.iadd, 1) := by decide +kernel
theorem d_Forest_partAt_41 : decode b_Forest_partAt 41 = .ok (.iaload, 1) := by decide +kernel
theorem d_Forest_partAt_42 : decode b_Forest_partAt 42 = .ok (.istore 7, 2) := by decide +kernel
theorem d_Forest_partAt_44 : decode b_Forest_partAt 44 = .ok (.iload 7, 2) := by decide +kernel
theorem d_Forest_partAt_46 : decode b_Forest_partAt 46 = .ok (.iconst (-1), 1) := by decide +kernel
theorem d_Forest_partAt_47 : decode b_Forest_partAt 47 = .ok (.if_icmp .eq 22, 3) := by decide +kernel
theorem d_Forest_partAt_50 : decode b_Forest_partAt 50 = .ok (.iload 4, 2) := by decide +kernel
theorem d_Forest_partAt_52 : decode b_Forest_partAt 52 = .ok (.aload_n 0, 1) := by decide +kernel
theorem d_Forest_partAt_53 : decode b_Forest_partAt 53 = .ok (.getfield 18, 3) := by decide +kernel
theorem d_Forest_partAt_56 : decode b_Forest_partAt 56 = .ok (.iload 7, 2) := by decide +kernel
theorem d_Forest_partAt_58 : decode b_Forest_partAt 58 = .ok (.iaload, 1) := by decide +kernel
theorem d_Forest_partAt_59 : decode b_Forest_partAt 59 = .ok (.if_icmp .ge 10, 3) := by decide +kernel
theorem d_Forest_partAt_62 : decode b_Forest_partAt 62 = .ok (.iload 7, 2) := by decide +kernel
theorem d_Forest_partAt_64 : decode b_Forest_partAt 64 = .ok (.istore 5, 2) := by decide +kernel
theorem d_Forest_partAt_66 : decode b_Forest_partAt 66 = .ok (.goto 21, 3) := by decide +kernel
theorem d_Forest_partAt_69 : decode b_Forest_partAt 69 = .ok (.iload 7, 2) := by decide +kernel
theorem d_Forest_partAt_71 : decode b_Forest_partAt 71 = .ok (.iconst (-1), 1) := by decide +kernel
theorem d_Forest_partAt_72 : decode b_Forest_partAt 72 = .ok (.if_icmp .eq 15, 3) := by decide +kernel
theorem d_Forest_partAt_75 : decode b_Forest_partAt 75 = .ok (.iload 4, 2) := by decide +kernel
theorem d_Forest_partAt_77 : decode b_Forest_partAt 77 = .ok (.aload_n 0, 1) := by decide +kernel
theorem d_Forest_partAt_78 : decode b_Forest_partAt 78 = .ok (.getfield 18, 3) := by decide +kernel
theorem d_Forest_partAt_81 : decode b_Forest_partAt 81 = .ok (.iload 7, 2) := by decide +kernel
theorem d_Forest_partAt_83 : decode b_Forest_partAt 83 = .ok (.iaload, 1) := by decide +kernel
theorem d_Forest_partAt_84 : decode b_Forest_partAt 84 = .ok (.isub, 1) := by decide +kernel
theorem d_Forest_partAt_85 : decode b_Forest_partAt 85 = .ok (.istore 4, 2) := by decide +kernel
theorem d_Forest_partAt_87 : decode b_Forest_partAt 87 = .ok (.iinc 6 1, 3) := by decide +kernel
theorem d_Forest_partAt_90 : decode b_Forest_partAt 90 = .ok (.goto (-71), 3) := by decide +kernel
theorem d_Forest_partAt_93 : decode b_Forest_partAt 93 = .ok (.iload 5, 2) := by decide +kernel
theorem d_Forest_partAt_95 : decode b_Forest_partAt 95 = .ok (.iconst (-1), 1) := by decide +kernel
theorem d_Forest_partAt_96 : decode b_Forest_partAt 96 = .ok (.if_icmp .ne 5, 3) := by decide +kernel
theorem d_Forest_partAt_99 : decode b_Forest_partAt 99 = .ok (.iload_n 3, 1) := by decide +kernel
theorem d_Forest_partAt_100 : decode b_Forest_partAt 100 = .ok (.ireturn, 1) := by decide +kernel
theorem d_Forest_partAt_101 : decode b_Forest_partAt 101 = .ok (.iload 5, 2) := by decide +kernel
theorem d_Forest_partAt_103 : decode b_Forest_partAt 103 = .ok (.istore_n 3, 1) := by decide +kernel
theorem d_Forest_partAt_104 : decode b_Forest_partAt 104 = .ok (.goto (-99), 3) := by decide +kernel
theorem d_Forest_partAt_107 : decode b_Forest_partAt 107 = .ok (.iload_n 3, 1) := by decide +kernel
theorem d_Forest_partAt_108 : decode b_Forest_partAt 108 = .ok (.ireturn, 1) := by decide +kernel

