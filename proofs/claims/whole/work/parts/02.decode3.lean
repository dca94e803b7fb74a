theorem d_M_load_48 : decode b_M_load 48 = .ok (.iconst 1, 1) := by decide +kernel
theorem d_M_load_49 : decode b_M_load 49 = .ok (.dup2, 1) := by decide +kernel
theorem d_M_load_50 : decode b_M_load 50 = .ok (.iaload, 1) := by decide +kernel
theorem d_M_load_51 : decode b_M_load 51 = .ok (.iconst 1, 1) := by decide +kernel
theorem d_M_load_52 : decode b_M_load 52 = .ok (.iadd, 1) := by decide +kernel
theorem d_M_load_53 : decode b_M_load 53 = .ok (.iastore, 1) := by decide +kernel
theorem d_M_load_54 : decode b_M_load 54 = .ok (.goto (-37), 3) := by decide +kernel
theorem d_M_load_57 : decode b_M_load 57 = .ok (.aload_n 0, 1) := by decide +kernel
theorem d_M_load_58 : decode b_M_load 58 = .ok (.getfield 13, 3) := by decide +kernel
theorem d_M_load_61 : decode b_M_load 61 = .ok (.iconst 1, 1) := by decide +kernel
theorem d_M_load_62 : decode b_M_load 62 = .ok (.iaload, 1) := by decide +kernel
theorem d_M_load_63 : decode b_M_load 63 = .ok (.ifCond .ne 5, 3) := by decide +kernel
theorem d_M_load_66 : decode b_M_load 66 = .ok (.iconst (-1), 1) := by decide +kernel
theorem d_M_load_67 : decode b_M_load 67 = .ok (.ireturn, 1) := by decide +kernel
theorem d_M_load_68 : decode b_M_load 68 = .ok (.aload_n 0, 1) := by decide +kernel
theorem d_M_load_69 : decode b_M_load 69 = .ok (.invokevirtual 129, 3) := by decide +kernel
theorem d_M_load_72 : decode b_M_load 72 = .ok (.aload_n 0, 1) := by decide +kernel
theorem d_M_load_73 : decode b_M_load 73 = .ok (.invokevirtual 132, 3) := by decide +kernel
theorem d_M_load_76 : decode b_M_load 76 = .ok (.ifCond .eq 7, 3) := by decide +kernel
theorem d_M_load_79 : decode b_M_load 79 = .ok (.sipush (-1000), 3) := by decide +kernel
theorem d_M_load_82 : decode b_M_load 82 = .ok (.ireturn, 1) := by decide +kernel
theorem d_M_load_83 : decode b_M_load 83 = .ok (.aload_n 0, 1) := by decide +kernel
theorem d_M_load_84 : decode b_M_load 84 = .ok (.invokevirtual 135, 3) := by decide +kernel
theorem d_M_load_87 : decode b_M_load 87 = .ok (.iconst 0, 1) := by decide +kernel
theorem d_M_load_88 : decode b_M_load 88 = .ok (.ireturn, 1) := by decide +kernel
theorem d_M_rules_0 : decode b_M_rules 0 = .ok (.aload_n 0, 1) := by decide +kernel
theorem d_M_rules_1 : decode b_M_rules 1 = .ok (.iconst 0, 1) := by decide +kernel
theorem d_M_rules_2 : decode b_M_rules 2 = .ok (.putfield 81, 3) := by decide +kernel
theorem d_M_rules_5 : decode b_M_rules 5 = .ok (.aload_n 0, 1) := by decide +kernel
theorem d_M_rules_6 : decode b_M_rules 6 = .ok (.getfield 13, 3) := by decide +kernel
theorem d_M_rules_9 : decode b_M_rules 9 = .ok (.iconst 0, 1) := by decide +kernel
theorem d_M_rules_10 : decode b_M_rules 10 = .ok (.iaload, 1) := by decide +kernel
theorem d_M_rules_11 : decode b_M_rules 11 = .ok (.ireturn, 1) := by decide +kernel
theorem d_M_rule_0 : decode b_M_rule 0 = .ok (.aload_n 0, 1) := by decide +kernel
theorem d_M_rule_1 : decode b_M_rule 1 = .ok (.iload_n 1, 1) := by decide +kernel
theorem d_M_rule_2 : decode b_M_rule 2 = .ok (.ifCond .lt 13, 3) := by decide +kernel
theorem d_M_rule_5 : decode b_M_rule 5 = .ok (.iload_n 1, 1) := by decide +kernel
theorem d_M_rule_6 : decode b_M_rule 6 = .ok (.aload_n 0, 1) := by decide +kernel
theorem d_M_rule_7 : decode b_M_rule 7 = .ok (.getfield 13, 3) := by decide +kernel
theorem d_M_rule_10 : decode b_M_rule 10 = .ok (.iconst 0, 1) := by decide +kernel
theorem d_M_rule_11 : decode b_M_rule 11 = .ok (.iaload, 1) := by decide +kernel
theorem d_M_rule_12 : decode b_M_rule 12 = .ok (.if_icmp .lt 7, 3) := by decide +kernel
theorem d_M_rule_15 : decode b_M_rule 15 = .ok (.iconst 1, 1) := by decide +kernel
theorem d_M_rule_16 : decode b_M_rule 16 = .ok (.goto 17, 3) := by decide +kernel
theorem d_M_rule_19 : decode b_M_rule 19 = .ok (.iload_n 2, 1) := by decide +kernel
theorem d_M_rule_20 : decode b_M_rule 20 = .ok (.ifCond .lt 8, 3) := by decide +kernel
theorem d_M_rule_23 : decode b_M_rule 23 = .ok (.iload_n 2, 1) := by decide +kernel
theorem d_M_rule_24 : decode b_M_rule 24 = .ok (.iconst 5, 1) := by decide +kernel
theorem d_M_rule_25 : decode b_M_rule 25 = .ok (.if_icmp .le 7, 3) := by decide +kernel
theorem d_M_rule_28 : decode b_M_rule 28 = .ok (.iconst 2, 1) := by decide +kernel
theorem d_M_rule_29 : decode b_M_rule 29 = .ok (.goto 4, 3) := by decide +kernel
theorem d_M_rule_32 : decode b_M_rule 32 = .ok (.iconst 0, 1) := by decide +kernel
theorem d_M_rule_33 : decode b_M_rule 33 = .ok (.putfield 81, 3) := by decide +kernel
theorem d_M_rule_36 : decode b_M_rule 36 = .ok (.aload_n 0, 1) := by decide +kernel
theorem d_M_rule_37 : decode b_M_rule 37 = .ok (.getfield 81, 3) := by decide +kernel
theorem d_M_rule_40 : decode b_M_rule 40 = .ok (.ifCond .le 5, 3) := by decide +kernel
theorem d_M_rule_43 : decode b_M_rule 43 = .ok (.iconst 0, 1) := by decide +kernel
theorem d_M_rule_44 : decode b_M_rule 44 = .ok (.ireturn, 1) := by decide +kernel
theorem d_M_rule_45 : decode b_M_rule 45 = .ok (.iload_n 2, 1) := by decide +kernel
theorem d_M_rule_46 : decode b_M_rule 46 = .ok (.ifCond .ne 13, 3) := by decide +kernel
theorem d_M_rule_49 : decode b_M_rule 49 = .ok (.bipush 65, 2) := by decide +kernel
theorem d_M_rule_51 : decode b_M_rule 51 = .ok (.aload_n 0, 1) := by decide +kernel
theorem d_M_rule_52 : decode b_M_rule 52 = .ok (.getfield 17, 3) := by decide +kernel
theorem d_M_rule_55 : decode b_M_rule 55 = .ok (.iload_n 1, 1) := by decide +kernel
theorem d_M_rule_56 : decode b_M_rule 56 = .ok (.iaload, 1) := by decide +kernel
theorem d_M_rule_57 : decode b_M_rule 57 = .ok (.iadd, 1) := by decide +kernel
theorem d_M_rule_58 : decode b_M_rule 58 = .ok (.ireturn, 1) := by decide +kernel
theorem d_M_rule_59 : decode b_M_rule 59 = .ok (.iload_n 2, 1) := by decide +kernel
theorem d_M_rule_60 : decode b_M_rule 60 = .ok (.iconst 4, 1) := by decide +kernel
theorem d_M_rule_61 : decode b_M_rule 61 = .ok (.if_icmp .ge 30, 3) := by decide +kernel
theorem d_M_rule_64 : decode b_M_rule 64 = .ok (.iload_n 2, 1) := by decide +kernel
theorem d_M_rule_65 : decode b_M_rule 65 = .ok (.aload_n 0, 1) := by decide +kernel
theorem d_M_rule_66 : decode b_M_rule 66 = .ok (.getfield 20, 3) := by decide +kernel
theorem d_M_rule_69 : decode b_M_rule 69 = .ok (.iload_n 1, 1) := by decide +kernel
theorem d_M_rule_70 : decode b_M_rule 70 = .ok (.iaload, 1) := by decide +kernel
theorem d_M_rule_71 : decode b_M_rule 71 = .ok (.if_icmp .gt 18, 3) := by decide +kernel
theorem d_M_rule_74 : decode b_M_rule 74 = .ok (.aload_n 0, 1) := by decide +kernel
theorem d_M_rule_75 : decode b_M_rule 75 = .ok (.getfield 23, 3) := by decide +kernel
theorem d_M_rule_78 : decode b_M_rule 78 = .ok (.iconst 3, 1) := by decide +kernel
theorem d_M_rule_79 : decode b_M_rule 79 = .ok (.iload_n 1, 1) := by decide +kernel
theorem d_M_rule_80 : decode b_M_rule 80 = .ok (.imul, 1) := by decide +kernel
theorem d_M_rule_81 : decode b_M_rule 81 = .ok (.iload_n 2, 1) := by decide +kernel
theorem d_M_rule_82 : decode b_M_rule 82 = .ok (.iadd, 1) := by decide +kernel
theorem d_M_rule_83 : decode b_M_rule 83 = .ok (.iconst 1, 1) := by decide +kernel
theorem d_M_rule_84 : decode b_M_rule 84 = .ok (.isub, 1) := by decide +kernel
theorem d_M_rule_85 : decode b_M_rule 85 = .ok (.caload, 1) := by decide +kernel
theorem d_M_rule_86 : decode b_M_rule 86 = .ok (.goto 4, 3) := by decide +kernel
theorem d_M_rule_89 : decode b_M_rule 89 = .ok (.iconst 0, 1) := by decide +kernel
theorem d_M_rule_90 : decode b_M_rule 90 = .ok (.ireturn, 1) := by decide +kernel
theorem d_M_rule_91 : decode b_M_rule 91 = .ok (.iload_n 2, 1) := by decide +kernel
theorem d_M_rule_92 : decode b_M_rule 92 = .ok (.iconst 4, 1) := by decide +kernel
theorem d_M_rule_93 : decode b_M_rule 93 = .ok (.if_icmp .ne 12, 3) := by decide +kernel
theorem d_M_rule_96 : decode b_M_rule 96 = .ok (.aload_n 0, 1) := by decide +kernel
theorem d_M_rule_97 : decode b_M_rule 97 = .ok (.getfield 26, 3) := by decide +kernel
theorem d_M_rule_100 : decode b_M_rule 100 = .ok (.iload_n 1, 1) := by decide +kernel
theorem d_M_rule_101 : decode b_M_rule 101 = .ok (.iaload, 1) := by decide +kernel
theorem d_M_rule_102 : decode b_M_rule 102 = .ok (.goto 17, 3) := by decide +kernel
theorem d_M_rule_105 : decode b_M_rule 105 = .ok (.aload_n 0, 1) := by decide +kernel
theorem d_M_rule_106 : decode b_M_rule 106 = .ok (.getfield 29, 3) := by decide +kernel
theorem d_M_rule_109 : decode b_M_rule 109 = .ok (.iload_n 1, 1) := by decide +kernel
theorem d_M_rule_110 : decode b_M_rule 110 = .ok (.baload, 1) := by decide +kernel
theorem d_M_rule_111 : decode b_M_rule 111 = .ok (.ifCond .eq 7, 3) := by decide +kernel
theorem d_M_rule_114 : decode b_M_rule 114 = .ok (.iconst 1, 1) := by decide +kernel
theorem d_M_rule_115 : decode b_M_rule 115 = .ok (.goto 4, 3) := by decide +kernel
theorem d_M_rule_118 : decode b_M_rule 118 = .ok (.iconst 0, 1) := by decide +kernel
theorem d_M_rule_119 : decode b_M_rule 119 = .ok (.ireturn, 1) := by decide +kernel
theorem d_M_token_0 : decode b_M_token 0 = .ok (.aload_n 0, 1) := by decide +kernel
theorem d_M_token_1 : decode b_M_token 1 = .ok (.iload_n 1, 1) := by decide +kernel
theorem d_M_token_2 : decode b_M_token 2 = .ok (.invokestatic 105, 3) := by decide +kernel
theorem d_M_token_5 : decode b_M_token 5 = .ok (.ifCond .ne 7, 3) := by decide +kernel
theorem d_M_token_8 : decode b_M_token 8 = .ok (.iconst 1, 1) := by decide +kernel
theorem d_M_token_9 : decode b_M_token 9 = .ok (.goto 17, 3) := by decide +kernel
theorem d_M_token_12 : decode b_M_token 12 = .ok (.aload_n 0, 1) := by decide +kernel
theorem d_M_token_13 : decode b_M_token 13 = .ok (.getfield 138, 3) := by decide +kernel
theorem d_M_token_16 : decode b_M_token 16 = .ok (.bipush 6, 2) := by decide +kernel
theorem d_M_token_18 : decode b_M_token 18 = .ok (.if_icmp .ne 7, 3) := by decide +kernel
theorem d_M_token_21 : decode b_M_token 21 = .ok (.iconst 2, 1) := by decide +kernel
theorem d_M_token_22 : decode b_M_token 22 = .ok (.goto 4, 3) := by decide +kernel
theorem d_M_token_25 : decode b_M_token 25 = .ok (.iconst 0, 1) := by decide +kernel
theorem d_M_token_26 : decode b_M_token 26 = .ok (.putfield 81, 3) := by decide +kernel
theorem d_M_token_29 : decode b_M_token 29 = .ok (.aload_n 0, 1) := by decide +kernel
theorem d_M_token_30 : decode b_M_token 30 = .ok (.getfield 81, 3) := by decide +kernel
theorem d_M_token_33 : decode b_M_token 33 = .ok (.ifCond .le 5, 3) := by decide +kernel
theorem d_M_token_36 : decode b_M_token 36 = .ok (.iconst 0, 1) := by decide +kernel
theorem d_M_token_37 : decode b_M_token 37 = .ok (.ireturn, 1) := by decide +kernel
theorem d_M_token_38 : decode b_M_token 38 = .ok (.aload_n 0, 1) := by decide +kernel
theorem d_M_token_39 : decode b_M_token 39 = .ok (.getfield 42, 3) := by decide +kernel
theorem d_M_token_42 : decode b_M_token 42 = .ok (.aload_n 0, 1) := by decide +kernel
theorem d_M_token_43 : decode b_M_token 43 = .ok (.getfield 138, 3) := by decide +kernel
theorem d_M_token_46 : decode b_M_token 46 = .ok (.iload_n 1, 1) := by decide +kernel
theorem d_M_token_47 : decode b_M_token 47 = .ok (.castore, 1) := by decide +kernel
theorem d_M_token_48 : decode b_M_token 48 = .ok (.aload_n 0, 1) := by decide +kernel
theorem d_M_token_49 : decode b_M_token 49 = .ok (.dup, 1) := by decide +kernel
theorem d_M_token_50 : decode b_M_token 50 = .ok (.getfield 138, 3) := by decide +kernel
theorem d_M_token_53 : decode b_M_token 53 = .ok (.iconst 1, 1) := by decide +kernel
theorem d_M_token_54 : decode b_M_token 54 = .ok (.iadd, 1) := by decide +kernel
theorem d_M_token_55 : decode b_M_token 55 = .ok (.putfield 138, 3) := by decide +kernel
theorem d_M_token_58 : decode b_M_token 58 = .ok (.aload_n 0, 1) := by decide +kernel
theorem d_M_token_59 : decode b_M_token 59 = .ok (.iconst 0, 1) := by decide +kernel
theorem d_M_token_60 : decode b_M_token 60 = .ok (.putfield 122, 3) := by decide +kernel
theorem d_M_token_63 : decode b_M_token 63 = .ok (.aload_n 0, 1) := by decide +kernel
theorem d_M_token_64 : decode b_M_token 64 = .ok (.getfield 138, 3) := by decide +kernel
theorem d_M_token_67 : decode b_M_token 67 = .ok (.ireturn, 1) := by decide +kernel
theorem d_M_drop_0 : decode b_M_drop 0 = .ok (.aload_n 0, 1) := by decide +kernel
theorem d_M_drop_1 : decode b_M_drop 1 = .ok (.iconst 0, 1) := by decide +kernel
theorem d_M_drop_2 : decode b_M_drop 2 = .ok (.putfield 81, 3) := by decide +kernel
theorem d_M_drop_5 : decode b_M_drop 5 = .ok (.aload_n 0, 1) := by decide +kernel
theorem d_M_drop_6 : decode b_M_drop 6 = .ok (.getfield 138, 3) := by decide +kernel
theorem d_M_drop_9 : decode b_M_drop 9 = .ok (.istore_n 1, 1) := by decide +kernel
theorem d_M_drop_10 : decode b_M_drop 10 = .ok (.aload_n 0, 1) := by decide +kernel
theorem d_M_drop_11 : decode b_M_drop 11 = .ok (.iconst 0, 1) := by decide +kernel
theorem d_M_drop_12 : decode b_M_drop 12 = .ok (.putfield 138, 3) := by decide +kernel
theorem d_M_drop_15 : decode b_M_drop 15 = .ok (.aload_n 0, 1) := by decide +kernel
theorem d_M_drop_16 : decode b_M_drop 16 = .ok (.iconst 0, 1) := by decide +kernel
theorem d_M_drop_17 : decode b_M_drop 17 = .ok (.putfield 122, 3) := by decide +kernel
theorem d_M_drop_20 : decode b_M_drop 20 = .ok (.iload_n 1, 1) := by decide +kernel
theorem d_M_drop_21 : decode b_M_drop 21 = .ok (.ireturn, 1) := by decide +kernel
theorem d_M_manyFor_0 : decode b_M_manyFor 0 = .ok (.iload_n 1, 1) := by decide +kernel
theorem d_M_manyFor_1 : decode b_M_manyFor 1 = .ok (.invokestatic 105, 3) := by decide +kernel
theorem d_M_manyFor_4 : decode b_M_manyFor 4 = .ok (.ifCond .eq 26, 3) := by decide +kernel
theorem d_M_manyFor_7 : decode b_M_manyFor 7 = .ok (.iload_n 3, 1) := by decide +kernel
theorem d_M_manyFor_8 : decode b_M_manyFor 8 = .ok (.iload_n 2, 1) := by decide +kernel
theorem d_M_manyFor_9 : decode b_M_manyFor 9 = .ok (.iconst 1, 1) := by decide +kernel
theorem d_M_manyFor_10 : decode b_M_manyFor 10 = .ok (.iadd, 1) := by decide +kernel
theorem d_M_manyFor_11 : decode b_M_manyFor 11 = .ok (.if_icmp .ne 17, 3) := by decide +kernel
theorem d_M_manyFor_14 : decode b_M_manyFor 14 = .ok (.aload_n 0, 1) := by decide +kernel
theorem d_M_manyFor_15 : decode b_M_manyFor 15 = .ok (.getfield 42, 3) := by decide +kernel
theorem d_M_manyFor_18 : decode b_M_manyFor 18 = .ok (.iload_n 2, 1) := by decide +kernel
theorem d_M_manyFor_19 : decode b_M_manyFor 19 = .ok (.caload, 1) := by decide +kernel
theorem d_M_manyFor_20 : decode b_M_manyFor 20 = .ok (.iload_n 1, 1) := by decide +kernel
theorem d_M_manyFor_21 : decode b_M_manyFor 21 = .ok (.if_icmp .ne 7, 3) := by decide +kernel
theorem d_M_manyFor_24 : decode b_M_manyFor 24 = .ok (.lconst 1, 1) := by decide +kernel
theorem d_M_manyFor_25 : decode b_M_manyFor 25 = .ok (.goto 4, 3) := by decide +kernel
theorem d_M_manyFor_28 : decode b_M_manyFor 28 = .ok (.lconst 0, 1) := by decide +kernel
theorem d_M_manyFor_29 : decode b_M_manyFor 29 = .ok (.lreturn, 1) := by decide +kernel
theorem d_M_manyFor_30 : decode b_M_manyFor 30 = .ok (.aload_n 0, 1) := by decide +kernel
theorem d_M_manyFor_31 : decode b_M_manyFor 31 = .ok (.getfield 45, 3) := by decide +kernel
theorem d_M_manyFor_34 : decode b_M_manyFor 34 = .ok (.bipush 36, 2) := by decide +kernel
theorem d_M_manyFor_36 : decode b_M_manyFor 36 = .ok (.iload_n 1, 1) := by decide +kernel
theorem d_M_manyFor_37 : decode b_M_manyFor 37 = .ok (.bipush 65, 2) := by decide +kernel
theorem d_M_manyFor_39 : decode b_M_manyFor 39 = .ok (.isub, 1) := by decide +kernel
theorem d_M_manyFor_40 : decode b_M_manyFor 40 = .ok (.imul, 1) := by decide +kernel
theorem d_M_manyFor_41 : decode b_M_manyFor 41 = .ok (.bipush 6, 2) := by decide +kernel
theorem d_M_manyFor_43 : decode b_M_manyFor 43 = .ok (.iload_n 2, 1) := by decide +kernel
theorem d_M_manyFor_44 : decode b_M_manyFor 44 = .ok (.imul, 1) := by decide +kernel
theorem d_M_manyFor_45 : decode b_M_manyFor 45 = .ok (.iadd, 1) := by decide +kernel
theorem d_M_manyFor_46 : decode b_M_manyFor 46 = .ok (.iload_n 3, 1) := by decide +kernel
theorem d_M_manyFor_47 : decode b_M_manyFor 47 = .ok (.iadd, 1) := by decide +kernel
theorem d_M_manyFor_48 : decode b_M_manyFor 48 = .ok (.iconst 1, 1) := by decide +kernel
theorem d_M_manyFor_49 : decode b_M_manyFor 49 = .ok (.isub, 1) := by decide +kernel
theorem d_M_manyFor_50 : decode b_M_manyFor 50 = .ok (.laload, 1) := by decide +kernel
theorem d_M_manyFor_51 : decode b_M_manyFor 51 = .ok (.lreturn, 1) := by decide +kernel
theorem d_M_keptFor_0 : decode b_M_keptFor 0 = .ok (.iload_n 1, 1) := by decide +kernel
theorem d_M_keptFor_1 : decode b_M_keptFor 1 = .ok (.invokestatic 105, 3) := by decide +kernel
theorem d_M_keptFor_4 : decode b_M_keptFor 4 = .ok (.ifCond .eq 21, 3) := by decide +kernel
theorem d_M_keptFor_7 : decode b_M_keptFor 7 = .ok (.aload_n 0, 1) := by decide +kernel
theorem d_M_keptFor_8 : decode b_M_keptFor 8 = .ok (.iload_n 1, 1) := by decide +kernel
theorem d_M_keptFor_9 : decode b_M_keptFor 9 = .ok (.iload_n 2, 1) := by decide +kernel
theorem d_M_keptFor_10 : decode b_M_keptFor 10 = .ok (.iload_n 3, 1) := by decide +kernel
theorem d_M_keptFor_11 : decode b_M_keptFor 11 = .ok (.invokevirtual 141, 3) := by decide +kernel
theorem d_M_keptFor_14 : decode b_M_keptFor 14 = .ok (.lconst 0, 1) := by decide +kernel
theorem d_M_keptFor_15 : decode b_M_keptFor 15 = .ok (.lcmp, 1) := by decide +kernel
theorem d_M_keptFor_16 : decode b_M_keptFor 16 = .ok (.ifCond .le 7, 3) := by decide +kernel
theorem d_M_keptFor_19 : decode b_M_keptFor 19 = .ok (.iconst 1, 1) := by decide +kernel
theorem d_M_keptFor_20 : decode b_M_keptFor 20 = .ok (.goto 4, 3) := by decide +kernel
theorem d_M_keptFor_23 : decode b_M_keptFor 23 = .ok (.iconst 0, 1) := by decide +kernel
theorem d_M_keptFor_24 : decode b_M_keptFor 24 = .ok (.ireturn, 1) := by decide +kernel
theorem d_M_keptFor_25 : decode b_M_keptFor 25 = .ok (.aload_n 0, 1) := by decide +kernel
theorem d_M_keptFor_26 : decode b_M_keptFor 26 = .ok (.getfield 49, 3) := by decide +kernel
theorem d_M_keptFor_29 : decode b_M_keptFor 29 = .ok (.bipush 36, 2) := by decide +kernel
theorem d_M_keptFor_31 : decode b_M_keptFor 31 = .ok (.iload_n 1, 1) := by decide +kernel
theorem d_M_keptFor_32 : decode b_M_keptFor 32 = .ok (.bipush 65, 2) := by decide +kernel
theorem d_M_keptFor_34 : decode b_M_keptFor 34 = .ok (.isub, 1) := by decide +kernel
theorem d_M_keptFor_35 : decode b_M_keptFor 35 = .ok (.imul, 1) := by decide +kernel
theorem d_M_keptFor_36 : decode b_M_keptFor 36 = .ok (.bipush 6, 2) := by decide +kernel
theorem d_M_keptFor_38 : decode b_M_keptFor 38 = .ok (.iload_n 2, 1) := by decide +kernel
theorem d_M_keptFor_39 : decode b_M_keptFor 39 = .ok (.imul, 1) := by decide +kernel
theorem d_M_keptFor_40 : decode b_M_keptFor 40 = .ok (.iadd, 1) := by decide +kernel
theorem d_M_keptFor_41 : decode b_M_keptFor 41 = .ok (.iload_n 3, 1) := by decide +kernel
theorem d_M_keptFor_42 : decode b_M_keptFor 42 = .ok (.iadd, 1) := by decide +kernel
theorem d_M_keptFor_43 : decode b_M_keptFor 43 = .ok (.iconst 1, 1) := by decide +kernel
theorem d_M_keptFor_44 : decode b_M_keptFor 44 = .ok (.isub, 1) := by decide +kernel
theorem d_M_keptFor_45 : decode b_M_keptFor 45 = .ok (.iaload, 1) := by decide +kernel
theorem d_M_keptFor_46 : decode b_M_keptFor 46 = .ok (.ireturn, 1) := by decide +kernel
theorem d_M_treeOf_0 : decode b_M_treeOf 0 = .ok (.iload_n 0, 1) := by decide +kernel
theorem d_M_treeOf_1 : decode b_M_treeOf 1 = .ok (.invokestatic 105, 3) := by decide +kernel
theorem d_M_treeOf_4 : decode b_M_treeOf 4 = .ok (.ifCond .eq 7, 3) := by decide +kernel
theorem d_M_treeOf_7 : decode b_M_treeOf 7 = .ok (.iconst (-1), 1) := by decide +kernel
theorem d_M_treeOf_8 : decode b_M_treeOf 8 = .ok (.goto 24, 3) := by decide +kernel
theorem d_M_treeOf_11 : decode b_M_treeOf 11 = .ok (.bipush 8, 2) := by decide +kernel
theorem d_M_treeOf_13 : decode b_M_treeOf 13 = .ok (.bipush 36, 2) := by decide +kernel
theorem d_M_treeOf_15 : decode b_M_treeOf 15 = .ok (.iload_n 0, 1) := by decide +kernel
theorem d_M_treeOf_16 : decode b_M_treeOf 16 = .ok (.bipush 65, 2) := by decide +kernel
theorem d_M_treeOf_18 : decode b_M_treeOf 18 = .ok (.isub, 1) := by decide +kernel
theorem d_M_treeOf_19 : decode b_M_treeOf 19 = .ok (.imul, 1) := by decide +kernel
theorem d_M_treeOf_20 : decode b_M_treeOf 20 = .ok (.bipush 6, 2) := by decide +kernel
theorem d_M_treeOf_22 : decode b_M_treeOf 22 = .ok (.iload_n 1, 1) := by decide +kernel
theorem d_M_treeOf_23 : decode b_M_treeOf 23 = .ok (.imul, 1) := by decide +kernel
theorem d_M_treeOf_24 : decode b_M_treeOf 24 = .ok (.iadd, 1) := by decide +kernel
theorem d_M_treeOf_25 : decode b_M_treeOf 25 = .ok (.iload_n 2, 1) := by decide +kernel
theorem d_M_treeOf_26 : decode b_M_treeOf 26 = .ok (.iadd, 1) := by decide +kernel
theorem d_M_treeOf_27 : decode b_M_treeOf 27 = .ok (.iconst 1, 1) := by decide +kernel
theorem d_M_treeOf_28 : decode b_M_treeOf 28 = .ok (.isub, 1) := by decide +kernel
theorem d_M_treeOf_29 : decode b_M_treeOf 29 = .ok (.imul, 1) := by decide +kernel
theorem d_M_treeOf_30 : decode b_M_treeOf 30 = .ok (.iload_n 3, 1) := by decide +kernel
theorem d_M_treeOf_31 : decode b_M_treeOf 31 = .ok (.iadd, 1) := by decide +kernel
theorem d_M_treeOf_32 : decode b_M_treeOf 32 = .ok (.ireturn, 1) := by decide +kernel
theorem d_M_sumOf_0 : decode b_M_sumOf 0 = .ok (.iload_n 1, 1) := by decide +kernel
theorem d_M_sumOf_1 : decode b_M_sumOf 1 = .ok (.ifCond .ge 7, 3) := by decide +kernel
theorem d_M_sumOf_4 : decode b_M_sumOf 4 = .ok (.iconst 0, 1) := by decide +kernel
theorem d_M_sumOf_5 : decode b_M_sumOf 5 = .ok (.goto 9, 3) := by decide +kernel
theorem d_M_sumOf_8 : decode b_M_sumOf 8 = .ok (.aload_n 0, 1) := by decide +kernel
theorem d_M_sumOf_9 : decode b_M_sumOf 9 = .ok (.getfield 56, 3) := by decide +kernel
theorem d_M_sumOf_12 : decode b_M_sumOf 12 = .ok (.iload_n 1, 1) := by decide +kernel
theorem d_M_sumOf_13 : decode b_M_sumOf 13 = .ok (.iaload, 1) := by decide +kernel
theorem d_M_sumOf_14 : decode b_M_sumOf 14 = .ok (.ireturn, 1) := by decide +kernel
theorem d_M_push_0 : decode b_M_push 0 = .ok (.iload_n 3, 1) := by decide +kernel
theorem d_M_push_1 : decode b_M_push 1 = .ok (.ifCond .ge 5, 3) := by decide +kernel
theorem d_M_push_4 : decode b_M_push 4 = .ok (.iload_n 2, 1) := by decide +kernel
theorem d_M_push_5 : decode b_M_push 5 = .ok (.ireturn, 1) := by decide +kernel
theorem d_M_push_6 : decode b_M_push 6 = .ok (.aload_n 0, 1) := by decide +kernel
theorem d_M_push_7 : decode b_M_push 7 = .ok (.getfield 78, 3) := by decide +kernel
theorem d_M_push_10 : decode b_M_push 10 = .ok (.bipush 60, 2) := by decide +kernel
theorem d_M_push_12 : decode b_M_push 12 = .ok (.iload_n 1, 1) := by decide +kernel
theorem d_M_push_13 : decode b_M_push 13 = .ok (.imul, 1) := by decide +kernel
theorem d_M_push_14 : decode b_M_push 14 = .ok (.iload_n 2, 1) := by decide +kernel
theorem d_M_push_15 : decode b_M_push 15 = .ok (.iadd, 1) := by decide +kernel
theorem d_M_push_16 : decode b_M_push 16 = .ok (.iload_n 3, 1) := by decide +kernel
theorem d_M_push_17 : decode b_M_push 17 = .ok (.iastore, 1) := by decide +kernel
theorem d_M_push_18 : decode b_M_push 18 = .ok (.iload_n 2, 1) := by decide +kernel
theorem d_M_push_19 : decode b_M_push 19 = .ok (.iconst 1, 1) := by decide +kernel
theorem d_M_push_20 : decode b_M_push 20 = .ok (.iadd, 1) := by decide +kernel
theorem d_M_push_21 : decode b_M_push 21 = .ok (.ireturn, 1) := by decide +kernel
theorem d_M_writeOut_0 : decode b_M_writeOut 0 = .ok (.iload_n 2, 1) := by decide +kernel
theorem d_M_writeOut_1 : decode b_M_writeOut 1 = .ok (.istore 4, 2) := by decide +kernel
theorem d_M_writeOut_3 : decode b_M_writeOut 3 = .ok (.iconst 1, 1) := by decide +kernel
theorem d_M_writeOut_4 : decode b_M_writeOut 4 = .ok (.istore 5, 2) := by decide +kernel
theorem d_M_writeOut_6 : decode b_M_writeOut 6 = .ok (.aload_n 0, 1) := by decide +kernel
theorem d_M_writeOut_7 : decode b_M_writeOut 7 = .ok (.getfield 78, 3) := by decide +kernel
theorem d_M_writeOut_10 : decode b_M_writeOut 10 = .ok (.bipush 60, 2) := by decide +kernel
theorem d_M_writeOut_12 : decode b_M_writeOut 12 = .ok (.iload_n 1, 1) := by decide +kernel
theorem d_M_writeOut_13 : decode b_M_writeOut 13 = .ok (.imul, 1) := by decide +kernel
theorem d_M_writeOut_14 : decode b_M_writeOut 14 = .ok (.iload_n 3, 1) := by decide +kernel
theorem d_M_writeOut_15 : decode b_M_writeOut 15 = .ok (.iastore, 1) := by decide +kernel
theorem d_M_writeOut_16 : decode b_M_writeOut 16 = .ok (.iload 5, 2) := by decide +kernel
theorem d_M_writeOut_18 : decode b_M_writeOut 18 = .ok (.ifCond .le 107, 3) := by decide +kernel
theorem d_M_writeOut_21 : decode b_M_writeOut 21 = .ok (.iinc 5 (-1), 3) := by decide +kernel
theorem d_M_writeOut_24 : decode b_M_writeOut 24 = .ok (.aload_n 0, 1) := by decide +kernel
theorem d_M_writeOut_25 : decode b_M_writeOut 25 = .ok (.getfield 78, 3) := by decide +kernel
theorem d_M_writeOut_28 : decode b_M_writeOut 28 = .ok (.bipush 60, 2) := by decide +kernel
theorem d_M_writeOut_30 : decode b_M_writeOut 30 = .ok (.iload_n 1, 1) := by decide +kernel
theorem d_M_writeOut_31 : decode b_M_writeOut 31 = .ok (.imul, 1) := by decide +kernel
theorem d_M_writeOut_32 : decode b_M_writeOut 32 = .ok (.iload 5, 2) := by decide +kernel
theorem d_M_writeOut_34 : decode b_M_writeOut 34 = .ok (.iadd, 1) := by decide +kernel
theorem d_M_writeOut_35 : decode b_M_writeOut 35 = .ok (.iaload, 1) := by decide +kernel
theorem d_M_writeOut_36 : decode b_M_writeOut 36 = .ok (.istore 6, 2) := by decide +kernel
theorem d_M_writeOut_38 : decode b_M_writeOut 38 = .ok (.aload_n 0, 1) := by decide +kernel
theorem d_M_writeOut_39 : decode b_M_writeOut 39 = .ok (.getfield 72, 3) := by decide +kernel
theorem d_M_writeOut_42 : decode b_M_writeOut 42 = .ok (.bipush 60, 2) := by decide +kernel
theorem d_M_writeOut_44 : decode b_M_writeOut 44 = .ok (.iload_n 1, 1) := by decide +kernel
theorem d_M_writeOut_45 : decode b_M_writeOut 45 = .ok (.imul, 1) := by decide +kernel
theorem d_M_writeOut_46 : decode b_M_writeOut 46 = .ok (.iload 4, 2) := by decide +kernel
theorem d_M_writeOut_48 : decode b_M_writeOut 48 = .ok (.iadd, 1) := by decide +kernel
theorem d_M_writeOut_49 : decode b_M_writeOut 49 = .ok (.aload_n 0, 1) := by decide +kernel
theorem d_M_writeOut_50 : decode b_M_writeOut 50 = .ok (.getfield 52, 3) := by decide +kernel
theorem d_M_writeOut_53 : decode b_M_writeOut 53 = .ok (.iload 6, 2) := by decide +kernel
theorem d_M_writeOut_55 : decode b_M_writeOut 55 = .ok (.baload, 1) := by decide +kernel
theorem d_M_writeOut_56 : decode b_M_writeOut 56 = .ok (.iastore, 1) := by decide +kernel
theorem d_M_writeOut_57 : decode b_M_writeOut 57 = .ok (.aload_n 0, 1) := by decide +kernel
theorem d_M_writeOut_58 : decode b_M_writeOut 58 = .ok (.getfield 75, 3) := by decide +kernel
theorem d_M_writeOut_61 : decode b_M_writeOut 61 = .ok (.bipush 60, 2) := by decide +kernel
theorem d_M_writeOut_63 : decode b_M_writeOut 63 = .ok (.iload_n 1, 1) := by decide +kernel
theorem d_M_writeOut_64 : decode b_M_writeOut 64 = .ok (.imul, 1) := by decide +kernel
theorem d_M_writeOut_65 : decode b_M_writeOut 65 = .ok (.iload 4, 2) := by decide +kernel
theorem d_M_writeOut_67 : decode b_M_writeOut 67 = .ok (.iadd, 1) := by decide +kernel
theorem d_M_writeOut_68 : decode b_M_writeOut 68 = .ok (.iload 6, 2) := by decide +kernel
theorem d_M_writeOut_70 : decode b_M_writeOut 70 = .ok (.iastore, 1) := by decide +kernel
theorem d_M_writeOut_71 : decode b_M_writeOut 71 = .ok (.iinc 4 1, 3) := by decide +kernel
theorem d_M_writeOut_74 : decode b_M_writeOut 74 = .ok (.aload_n 0, 1) := by decide +kernel
theorem d_M_writeOut_75 : decode b_M_writeOut 75 = .ok (.iload_n 1, 1) := by decide +kernel
theorem d_M_writeOut_76 : decode b_M_writeOut 76 = .ok (.iload 5, 2) := by decide +kernel
theorem d_M_writeOut_78 : decode b_M_writeOut 78 = .ok (.aload_n 0, 1) := by decide +kernel
theorem d_M_writeOut_79 : decode b_M_writeOut 79 = .ok (.getfield 66, 3) := by decide +kernel
theorem d_M_writeOut_82 : decode b_M_writeOut 82 = .ok (.iload 6, 2) := by decide +kernel
theorem d_M_writeOut_84 : decode b_M_writeOut 84 = .ok (.saload, 1) := by decide +kernel
theorem d_M_writeOut_85 : decode b_M_writeOut 85 = .ok (.invokevirtual 145, 3) := by decide +kernel
theorem d_M_writeOut_88 : decode b_M_writeOut 88 = .ok (.istore 5, 2) := by decide +kernel
theorem d_M_writeOut_90 : decode b_M_writeOut 90 = .ok (.aload_n 0, 1) := by decide +kernel
theorem d_M_writeOut_91 : decode b_M_writeOut 91 = .ok (.iload_n 1, 1) := by decide +kernel
theorem d_M_writeOut_92 : decode b_M_writeOut 92 = .ok (.iload 5, 2) := by decide +kernel
theorem d_M_writeOut_94 : decode b_M_writeOut 94 = .ok (.aload_n 0, 1) := by decide +kernel
theorem d_M_writeOut_95 : decode b_M_writeOut 95 = .ok (.getfield 63, 3) := by decide +kernel
theorem d_M_writeOut_98 : decode b_M_writeOut 98 = .ok (.iload 6, 2) := by decide +kernel
theorem d_M_writeOut_100 : decode b_M_writeOut 100 = .ok (.saload, 1) := by decide +kernel
theorem d_M_writeOut_101 : decode b_M_writeOut 101 = .ok (.invokevirtual 145, 3) := by decide +kernel
theorem d_M_writeOut_104 : decode b_M_writeOut 104 = .ok (.istore 5, 2) := by decide +kernel
theorem d_M_writeOut_106 : decode b_M_writeOut 106 = .ok (.aload_n 0, 1) := by decide +kernel
theorem d_M_writeOut_107 : decode b_M_writeOut 107 = .ok (.iload_n 1, 1) := by decide +kernel
theorem d_M_writeOut_108 : decode b_M_writeOut 108 = .ok (.iload 5, 2) := by decide +kernel
theorem d_M_writeOut_110 : decode b_M_writeOut 110 = .ok (.aload_n 0, 1) := by decide +kernel
theorem d_M_writeOut_111 : decode b_M_writeOut 111 = .ok (.getfield 59, 3) := by decide +kernel
theorem d_M_writeOut_114 : decode b_M_writeOut 114 = .ok (.iload 6, 2) := by decide +kernel
theorem d_M_writeOut_116 : decode b_M_writeOut 116 = .ok (.saload, 1) := by decide +kernel
theorem d_M_writeOut_117 : decode b_M_writeOut 117 = .ok (.invokevirtual 145, 3) := by decide +kernel
theorem d_M_writeOut_120 : decode b_M_writeOut 120 = .ok (.istore 5, 2) := by decide +kernel
theorem d_M_writeOut_122 : decode b_M_writeOut 122 = .ok (.goto (-106), 3) := by decide +kernel
theorem d_M_writeOut_125 : decode b_M_writeOut 125 = .ok (.aload_n 0, 1) := by decide +kernel
theorem d_M_writeOut_126 : decode b_M_writeOut 126 = .ok (.getfield 69, 3) := by decide +kernel
theorem d_M_writeOut_129 : decode b_M_writeOut 129 = .ok (.iload_n 1, 1) := by decide +kernel
theorem d_M_writeOut_130 : decode b_M_writeOut 130 = .ok (.iload 4, 2) := by decide +kernel
theorem d_M_writeOut_132 : decode b_M_writeOut 132 = .ok (.iastore, 1) := by decide +kernel
theorem d_M_writeOut_133 : decode b_M_writeOut 133 = .ok (.return_, 1) := by decide +kernel
theorem d_M_comesBefore_0 : decode b_M_comesBefore 0 = .ok (.aload_n 0, 1) := by decide +kernel
theorem d_M_comesBefore_1 : decode b_M_comesBefore 1 = .ok (.getfield 149, 3) := by decide +kernel
theorem d_M_comesBefore_4 : decode b_M_comesBefore 4 = .ok (.aload_n 0, 1) := by decide +kernel
theorem d_M_comesBefore_5 : decode b_M_comesBefore 5 = .ok (.getfield 56, 3) := by decide +kernel
theorem d_M_comesBefore_8 : decode b_M_comesBefore 8 = .ok (.iload_n 1, 1) := by decide +kernel
theorem d_M_comesBefore_9 : decode b_M_comesBefore 9 = .ok (.iaload, 1) := by decide +kernel
theorem d_M_comesBefore_10 : decode b_M_comesBefore 10 = .ok (.if_icmp .eq 22, 3) := by decide +kernel
theorem d_M_comesBefore_13 : decode b_M_comesBefore 13 = .ok (.aload_n 0, 1) := by decide +kernel
theorem d_M_comesBefore_14 : decode b_M_comesBefore 14 = .ok (.getfield 149, 3) := by decide +kernel
theorem d_M_comesBefore_17 : decode b_M_comesBefore 17 = .ok (.aload_n 0, 1) := by decide +kernel
theorem d_M_comesBefore_18 : decode b_M_comesBefore 18 = .ok (.getfield 56, 3) := by decide +kernel
theorem d_M_comesBefore_21 : decode b_M_comesBefore 21 = .ok (.iload_n 1, 1) := by decide +kernel
theorem d_M_comesBefore_22 : decode b_M_comesBefore 22 = .ok (.iaload, 1) := by decide +kernel
theorem d_M_comesBefore_23 : decode b_M_comesBefore 23 = .ok (.if_icmp .ge 7, 3) := by decide +kernel
theorem d_M_comesBefore_26 : decode b_M_comesBefore 26 = .ok (.iconst 1, 1) := by decide +kernel
theorem d_M_comesBefore_27 : decode b_M_comesBefore 27 = .ok (.goto 4, 3) := by decide +kernel
theorem d_M_comesBefore_30 : decode b_M_comesBefore 30 = .ok (.iconst 0, 1) := by decide +kernel
theorem d_M_comesBefore_31 : decode b_M_comesBefore 31 = .ok (.ireturn, 1) := by decide +kernel
theorem d_M_comesBefore_32 : decode b_M_comesBefore 32 = .ok (.aload_n 0, 1) := by decide +kernel
theorem d_M_comesBefore_33 : decode b_M_comesBefore 33 = .ok (.iconst 1, 1) := by decide +kernel
theorem d_M_comesBefore_34 : decode b_M_comesBefore 34 = .ok (.iconst 0, 1) := by decide +kernel
theorem d_M_comesBefore_35 : decode b_M_comesBefore 35 = .ok (.iload_n 1, 1) := by decide +kernel
theorem d_M_comesBefore_36 : decode b_M_comesBefore 36 = .ok (.invokevirtual 152, 3) := by decide +kernel
theorem d_M_comesBefore_39 : decode b_M_comesBefore 39 = .ok (.aload_n 0, 1) := by decide +kernel
theorem d_M_comesBefore_40 : decode b_M_comesBefore 40 = .ok (.getfield 72, 3) := by decide +kernel
theorem d_M_comesBefore_43 : decode b_M_comesBefore 43 = .ok (.iconst 0, 1) := by decide +kernel
theorem d_M_comesBefore_44 : decode b_M_comesBefore 44 = .ok (.aload_n 0, 1) := by decide +kernel
theorem d_M_comesBefore_45 : decode b_M_comesBefore 45 = .ok (.getfield 156, 3) := by decide +kernel
theorem d_M_comesBefore_48 : decode b_M_comesBefore 48 = .ok (.iastore, 1) := by decide +kernel
theorem d_M_comesBefore_49 : decode b_M_comesBefore 49 = .ok (.aload_n 0, 1) := by decide +kernel
theorem d_M_comesBefore_50 : decode b_M_comesBefore 50 = .ok (.getfield 69, 3) := by decide +kernel
theorem d_M_comesBefore_53 : decode b_M_comesBefore 53 = .ok (.iconst 0, 1) := by decide +kernel
theorem d_M_comesBefore_54 : decode b_M_comesBefore 54 = .ok (.iconst 1, 1) := by decide +kernel
theorem d_M_comesBefore_55 : decode b_M_comesBefore 55 = .ok (.iastore, 1) := by decide +kernel
theorem d_M_comesBefore_56 : decode b_M_comesBefore 56 = .ok (.iconst 0, 1) := by decide +kernel
theorem d_M_comesBefore_57 : decode b_M_comesBefore 57 = .ok (.istore_n 2, 1) := by decide +kernel
theorem d_M_comesBefore_58 : decode b_M_comesBefore 58 = .ok (.iload_n 2, 1) := by decide +kernel
theorem d_M_comesBefore_59 : decode b_M_comesBefore 59 = .ok (.iconst 3, 1) := by decide +kernel
theorem d_M_comesBefore_60 : decode b_M_comesBefore 60 = .ok (.if_icmp .ge 53, 3) := by decide +kernel
theorem d_M_comesBefore_63 : decode b_M_comesBefore 63 = .ok (.iload_n 2, 1) := by decide +kernel
theorem d_M_comesBefore_64 : decode b_M_comesBefore 64 = .ok (.ifCond .ne 10, 3) := by decide +kernel
theorem d_M_comesBefore_67 : decode b_M_comesBefore 67 = .ok (.aload_n 0, 1) := by decide +kernel
theorem d_M_comesBefore_68 : decode b_M_comesBefore 68 = .ok (.getfield 159, 3) := by decide +kernel
theorem d_M_comesBefore_71 : decode b_M_comesBefore 71 = .ok (.goto 19, 3) := by decide +kernel
theorem d_M_comesBefore_74 : decode b_M_comesBefore 74 = .ok (.iload_n 2, 1) := by decide +kernel
theorem d_M_comesBefore_75 : decode b_M_comesBefore 75 = .ok (.iconst 1, 1) := by decide +kernel
theorem d_M_comesBefore_76 : decode b_M_comesBefore 76 = .ok (.if_icmp .ne 10, 3) := by decide +kernel
theorem d_M_comesBefore_79 : decode b_M_comesBefore 79 = .ok (.aload_n 0, 1) := by decide +kernel
theorem d_M_comesBefore_80 : decode b_M_comesBefore 80 = .ok (.getfield 162, 3) := by decide +kernel
theorem d_M_comesBefore_83 : decode b_M_comesBefore 83 = .ok (.goto 7, 3) := by decide +kernel
theorem d_M_comesBefore_86 : decode b_M_comesBefore 86 = .ok (.aload_n 0, 1) := by decide +kernel
theorem d_M_comesBefore_87 : decode b_M_comesBefore 87 = .ok (.getfield 165, 3) := by decide +kernel
theorem d_M_comesBefore_90 : decode b_M_comesBefore 90 = .ok (.istore_n 3, 1) := by decide +kernel
theorem d_M_comesBefore_91 : decode b_M_comesBefore 91 = .ok (.iload_n 3, 1) := by decide +kernel
theorem d_M_comesBefore_92 : decode b_M_comesBefore 92 = .ok (.ifCond .lt 15, 3) := by decide +kernel
theorem d_M_comesBefore_95 : decode b_M_comesBefore 95 = .ok (.aload_n 0, 1) := by decide +kernel
theorem d_M_comesBefore_96 : decode b_M_comesBefore 96 = .ok (.iconst 0, 1) := by decide +kernel
theorem d_M_comesBefore_97 : decode b_M_comesBefore 97 = .ok (.aload_n 0, 1) := by decide +kernel
theorem d_M_comesBefore_98 : decode b_M_comesBefore 98 = .ok (.getfield 69, 3) := by decide +kernel
theorem d_M_comesBefore_101 : decode b_M_comesBefore 101 = .ok (.iconst 0, 1) := by decide +kernel
theorem d_M_comesBefore_102 : decode b_M_comesBefore 102 = .ok (.iaload, 1) := by decide +kernel
theorem d_M_comesBefore_103 : decode b_M_comesBefore 103 = .ok (.iload_n 3, 1) := by decide +kernel
theorem d_M_comesBefore_104 : decode b_M_comesBefore 104 = .ok (.invokevirtual 152, 3) := by decide +kernel
theorem d_M_comesBefore_107 : decode b_M_comesBefore 107 = .ok (.iinc 2 1, 3) := by decide +kernel
theorem d_M_comesBefore_110 : decode b_M_comesBefore 110 = .ok (.goto (-52), 3) := by decide +kernel
theorem d_M_comesBefore_113 : decode b_M_comesBefore 113 = .ok (.iconst 0, 1) := by decide +kernel
theorem d_M_comesBefore_114 : decode b_M_comesBefore 114 = .ok (.istore_n 2, 1) := by decide +kernel
theorem d_M_comesBefore_115 : decode b_M_comesBefore 115 = .ok (.iload_n 2, 1) := by decide +kernel
theorem d_M_comesBefore_116 : decode b_M_comesBefore 116 = .ok (.aload_n 0, 1) := by decide +kernel
theorem d_M_comesBefore_117 : decode b_M_comesBefore 117 = .ok (.getfield 69, 3) := by decide +kernel
theorem d_M_comesBefore_120 : decode b_M_comesBefore 120 = .ok (.iconst 0, 1) := by decide +kernel
theorem d_M_comesBefore_121 : decode b_M_comesBefore 121 = .ok (.iaload, 1) := by decide +kernel
theorem d_M_comesBefore_122 : decode b_M_comesBefore 122 = .ok (.if_icmp .ge 37, 3) := by decide +kernel
theorem d_M_comesBefore_125 : decode b_M_comesBefore 125 = .ok (.iload_n 2, 1) := by decide +kernel
theorem d_M_comesBefore_126 : decode b_M_comesBefore 126 = .ok (.aload_n 0, 1) := by decide +kernel
theorem d_M_comesBefore_127 : decode b_M_comesBefore 127 = .ok (.getfield 69, 3) := by decide +kernel
theorem d_M_comesBefore_130 : decode b_M_comesBefore 130 = .ok (.iconst 1, 1) := by decide +kernel
theorem d_M_comesBefore_131 : decode b_M_comesBefore 131 = .ok (.iaload, 1) := by decide +kernel
theorem d_M_comesBefore_132 : decode b_M_comesBefore 132 = .ok (.if_icmp .ge 27, 3) := by decide +kernel
theorem d_M_comesBefore_135 : decode b_M_comesBefore 135 = .ok (.aload_n 0, 1) := by decide +kernel
theorem d_M_comesBefore_136 : decode b_M_comesBefore 136 = .ok (.getfield 72, 3) := by decide +kernel
theorem d_M_comesBefore_139 : decode b_M_comesBefore 139 = .ok (.iload_n 2, 1) := by decide +kernel
theorem d_M_comesBefore_140 : decode b_M_comesBefore 140 = .ok (.iaload, 1) := by decide +kernel
theorem d_M_comesBefore_141 : decode b_M_comesBefore 141 = .ok (.aload_n 0, 1) := by decide +kernel
theorem d_M_comesBefore_142 : decode b_M_comesBefore 142 = .ok (.getfield 72, 3) := by decide +kernel
theorem d_M_comesBefore_145 : decode b_M_comesBefore 145 = .ok (.bipush 60, 2) := by decide +kernel
theorem d_M_comesBefore_147 : decode b_M_comesBefore 147 = .ok (.iload_n 2, 1) := by decide +kernel
theorem d_M_comesBefore_148 : decode b_M_comesBefore 148 = .ok (.iadd, 1) := by decide +kernel
theorem d_M_comesBefore_149 : decode b_M_comesBefore 149 = .ok (.iaload, 1) := by decide +kernel
theorem d_M_comesBefore_150 : decode b_M_comesBefore 150 = .ok (.if_icmp .ne 9, 3) := by decide +kernel
theorem d_M_comesBefore_153 : decode b_M_comesBefore 153 = .ok (.iinc 2 1, 3) := by decide +kernel
theorem d_M_comesBefore_156 : decode b_M_comesBefore 156 = .ok (.goto (-41), 3) := by decide +kernel
theorem d_M_comesBefore_159 : decode b_M_comesBefore 159 = .ok (.iload_n 2, 1) := by decide +kernel
theorem d_M_comesBefore_160 : decode b_M_comesBefore 160 = .ok (.aload_n 0, 1) := by decide +kernel
theorem d_M_comesBefore_161 : decode b_M_comesBefore 161 = .ok (.getfield 69, 3) := by decide +kernel
theorem d_M_comesBefore_164 : decode b_M_comesBefore 164 = .ok (.iconst 0, 1) := by decide +kernel
theorem d_M_comesBefore_165 : decode b_M_comesBefore 165 = .ok (.iaload, 1) := by decide +kernel
theorem d_M_comesBefore_166 : decode b_M_comesBefore 166 = .ok (.if_icmp .ge 35, 3) := by decide +kernel
theorem d_M_comesBefore_169 : decode b_M_comesBefore 169 = .ok (.iload_n 2, 1) := by decide +kernel
theorem d_M_comesBefore_170 : decode b_M_comesBefore 170 = .ok (.aload_n 0, 1) := by decide +kernel
theorem d_M_comesBefore_171 : decode b_M_comesBefore 171 = .ok (.getfield 69, 3) := by decide +kernel
theorem d_M_comesBefore_174 : decode b_M_comesBefore 174 = .ok (.iconst 1, 1) := by decide +kernel
theorem d_M_comesBefore_175 : decode b_M_comesBefore 175 = .ok (.iaload, 1) := by decide +kernel
theorem d_M_comesBefore_176 : decode b_M_comesBefore 176 = .ok (.if_icmp .ge 25, 3) := by decide +kernel
theorem d_M_comesBefore_179 : decode b_M_comesBefore 179 = .ok (.aload_n 0, 1) := by decide +kernel
theorem d_M_comesBefore_180 : decode b_M_comesBefore 180 = .ok (.getfield 72, 3) := by decide +kernel
theorem d_M_comesBefore_183 : decode b_M_comesBefore 183 = .ok (.iload_n 2, 1) := by decide +kernel
theorem d_M_comesBefore_184 : decode b_M_comesBefore 184 = .ok (.iaload, 1) := by decide +kernel
theorem d_M_comesBefore_185 : decode b_M_comesBefore 185 = .ok (.aload_n 0, 1) := by decide +kernel
theorem d_M_comesBefore_186 : decode b_M_comesBefore 186 = .ok (.getfield 72, 3) := by decide +kernel
theorem d_M_comesBefore_189 : decode b_M_comesBefore 189 = .ok (.bipush 60, 2) := by decide +kernel
theorem d_M_comesBefore_191 : decode b_M_comesBefore 191 = .ok (.iload_n 2, 1) := by decide +kernel
theorem d_M_comesBefore_192 : decode b_M_comesBefore 192 = .ok (.iadd, 1) := by decide +kernel
theorem d_M_comesBefore_193 : decode b_M_comesBefore 193 = .ok (.iaload, 1) := by decide +kernel
theorem d_M_comesBefore_194 : decode b_M_comesBefore 194 = .ok (.if_icmp .ge 7, 3) := by decide +kernel
theorem d_M_comesBefore_197 : decode b_M_comesBefore 197 = .ok (.iconst 1, 1) := by decide +kernel
theorem d_M_comesBefore_198 : decode b_M_comesBefore 198 = .ok (.goto 4, 3) := by decide +kernel
theorem d_M_comesBefore_201 : decode b_M_comesBefore 201 = .ok (.iconst 0, 1) := by decide +kernel
theorem d_M_comesBefore_202 : decode b_M_comesBefore 202 = .ok (.ireturn, 1) := by decide +kernel
theorem d_M_offer_0 : decode b_M_offer 0 = .ok (.aload_n 0, 1) := by decide +kernel
theorem d_M_offer_1 : decode b_M_offer 1 = .ok (.getfield 49, 3) := by decide +kernel
theorem d_M_offer_4 : decode b_M_offer 4 = .ok (.iload_n 1, 1) := by decide +kernel
theorem d_M_offer_5 : decode b_M_offer 5 = .ok (.iaload, 1) := by decide +kernel
theorem d_M_offer_6 : decode b_M_offer 6 = .ok (.istore_n 2, 1) := by decide +kernel
theorem d_M_offer_7 : decode b_M_offer 7 = .ok (.iload_n 2, 1) := by decide +kernel
theorem d_M_offer_8 : decode b_M_offer 8 = .ok (.ifCond .le 24, 3) := by decide +kernel
theorem d_M_offer_11 : decode b_M_offer 11 = .ok (.aload_n 0, 1) := by decide +kernel
theorem d_M_offer_12 : decode b_M_offer 12 = .ok (.bipush 8, 2) := by decide +kernel
theorem d_M_offer_14 : decode b_M_offer 14 = .ok (.iload_n 1, 1) := by decide +kernel
theorem d_M_offer_15 : decode b_M_offer 15 = .ok (.imul, 1) := by decide +kernel
theorem d_M_offer_16 : decode b_M_offer 16 = .ok (.iload_n 2, 1) := by decide +kernel
theorem d_M_offer_17 : decode b_M_offer 17 = .ok (.iadd, 1) := by decide +kernel
theorem d_M_offer_18 : decode b_M_offer 18 = .ok (.iconst 1, 1) := by decide +kernel
theorem d_M_offer_19 : decode b_M_offer 19 = .ok (.isub, 1) := by decide +kernel
theorem d_M_offer_20 : decode b_M_offer 20 = .ok (.invokevirtual 168, 3) := by decide +kernel
theorem d_M_offer_23 : decode b_M_offer 23 = .ok (.ifCond .eq 9, 3) := by decide +kernel
theorem d_M_offer_26 : decode b_M_offer 26 = .ok (.iinc 2 (-1), 3) := by decide +kernel
theorem d_M_offer_29 : decode b_M_offer 29 = .ok (.goto (-22), 3) := by decide +kernel
theorem d_M_offer_32 : decode b_M_offer 32 = .ok (.iload_n 2, 1) := by decide +kernel
theorem d_M_offer_33 : decode b_M_offer 33 = .ok (.bipush 8, 2) := by decide +kernel
theorem d_M_offer_35 : decode b_M_offer 35 = .ok (.if_icmp .ne 4, 3) := by decide +kernel
theorem d_M_offer_38 : decode b_M_offer 38 = .ok (.return_, 1) := by decide +kernel
theorem d_M_offer_39 : decode b_M_offer 39 = .ok (.aload_n 0, 1) := by decide +kernel
theorem d_M_offer_40 : decode b_M_offer 40 = .ok (.getfield 49, 3) := by decide +kernel
theorem d_M_offer_43 : decode b_M_offer 43 = .ok (.iload_n 1, 1) := by decide +kernel
theorem d_M_offer_44 : decode b_M_offer 44 = .ok (.iaload, 1) := by decide +kernel
theorem d_M_offer_45 : decode b_M_offer 45 = .ok (.bipush 8, 2) := by decide +kernel
theorem d_M_offer_47 : decode b_M_offer 47 = .ok (.if_icmp .ne 8, 3) := by decide +kernel
theorem d_M_offer_50 : decode b_M_offer 50 = .ok (.bipush 7, 2) := by decide +kernel
theorem d_M_offer_52 : decode b_M_offer 52 = .ok (.goto 9, 3) := by decide +kernel
theorem d_M_offer_55 : decode b_M_offer 55 = .ok (.aload_n 0, 1) := by decide +kernel
theorem d_M_offer_56 : decode b_M_offer 56 = .ok (.getfield 49, 3) := by decide +kernel
theorem d_M_offer_59 : decode b_M_offer 59 = .ok (.iload_n 1, 1) := by decide +kernel
theorem d_M_offer_60 : decode b_M_offer 60 = .ok (.iaload, 1) := by decide +kernel
theorem d_M_offer_61 : decode b_M_offer 61 = .ok (.istore_n 3, 1) := by decide +kernel
theorem d_M_offer_62 : decode b_M_offer 62 = .ok (.bipush 8, 2) := by decide +kernel
theorem d_M_offer_64 : decode b_M_offer 64 = .ok (.iload_n 1, 1) := by decide +kernel
theorem d_M_offer_65 : decode b_M_offer 65 = .ok (.imul, 1) := by decide +kernel
theorem d_M_offer_66 : decode b_M_offer 66 = .ok (.iload_n 3, 1) := by decide +kernel
theorem d_M_offer_67 : decode b_M_offer 67 = .ok (.iadd, 1) := by decide +kernel
theorem d_M_offer_68 : decode b_M_offer 68 = .ok (.istore 4, 2) := by decide +kernel
theorem d_M_offer_70 : decode b_M_offer 70 = .ok (.iload 4, 2) := by decide +kernel
theorem d_M_offer_72 : decode b_M_offer 72 = .ok (.bipush 8, 2) := by decide +kernel
theorem d_M_offer_74 : decode b_M_offer 74 = .ok (.iload_n 1, 1) := by decide +kernel
theorem d_M_offer_75 : decode b_M_offer 75 = .ok (.imul, 1) := by decide +kernel
theorem d_M_offer_76 : decode b_M_offer 76 = .ok (.iload_n 2, 1) := by decide +kernel
theorem d_M_offer_77 : decode b_M_offer 77 = .ok (.iadd, 1) := by decide +kernel
theorem d_M_offer_78 : decode b_M_offer 78 = .ok (.if_icmp .le 89, 3) := by decide +kernel
theorem d_M_offer_81 : decode b_M_offer 81 = .ok (.aload_n 0, 1) := by decide +kernel
theorem d_M_offer_82 : decode b_M_offer 82 = .ok (.getfield 52, 3) := by decide +kernel
theorem d_M_offer_85 : decode b_M_offer 85 = .ok (.iload 4, 2) := by decide +kernel
theorem d_M_offer_87 : decode b_M_offer 87 = .ok (.aload_n 0, 1) := by decide +kernel
theorem d_M_offer_88 : decode b_M_offer 88 = .ok (.getfield 52, 3) := by decide +kernel
theorem d_M_offer_91 : decode b_M_offer 91 = .ok (.iload 4, 2) := by decide +kernel
theorem d_M_offer_93 : decode b_M_offer 93 = .ok (.iconst 1, 1) := by decide +kernel
theorem d_M_offer_94 : decode b_M_offer 94 = .ok (.isub, 1) := by decide +kernel
theorem d_M_offer_95 : decode b_M_offer 95 = .ok (.baload, 1) := by decide +kernel
theorem d_M_offer_96 : decode b_M_offer 96 = .ok (.bastore, 1) := by decide +kernel
theorem d_M_offer_97 : decode b_M_offer 97 = .ok (.aload_n 0, 1) := by decide +kernel
theorem d_M_offer_98 : decode b_M_offer 98 = .ok (.getfield 56, 3) := by decide +kernel
theorem d_M_offer_101 : decode b_M_offer 101 = .ok (.iload 4, 2) := by decide +kernel
theorem d_M_offer_103 : decode b_M_offer 103 = .ok (.aload_n 0, 1) := by decide +kernel
theorem d_M_offer_104 : decode b_M_offer 104 = .ok (.getfield 56, 3) := by decide +kernel
theorem d_M_offer_107 : decode b_M_offer 107 = .ok (.iload 4, 2) := by decide +kernel
theorem d_M_offer_109 : decode b_M_offer 109 = .ok (.iconst 1, 1) := by decide +kernel
theorem d_M_offer_110 : decode b_M_offer 110 = .ok (.isub, 1) := by decide +kernel
theorem d_M_offer_111 : decode b_M_offer 111 = .ok (.iaload, 1) := by decide +kernel
theorem d_M_offer_112 : decode b_M_offer 112 = .ok (.iastore, 1) := by decide +kernel
theorem d_M_offer_113 : decode b_M_offer 113 = .ok (.aload_n 0, 1) := by decide +kernel
theorem d_M_offer_114 : decode b_M_offer 114 = .ok (.getfield 59, 3) := by decide +kernel
theorem d_M_offer_117 : decode b_M_offer 117 = .ok (.iload 4, 2) := by decide +kernel
theorem d_M_offer_119 : decode b_M_offer 119 = .ok (.aload_n 0, 1) := by decide +kernel
theorem d_M_offer_120 : decode b_M_offer 120 = .ok (.getfield 59, 3) := by decide +kernel
theorem d_M_offer_123 : decode b_M_offer 123 = .ok (.iload 4, 2) := by decide +kernel
theorem d_M_offer_125 : decode b_M_offer 125 = .ok (.iconst 1, 1) := by decide +kernel
theorem d_M_offer_126 : decode b_M_offer 126 = .ok (.isub, 1) := by decide +kernel
theorem d_M_offer_127 : decode b_M_offer 127 = .ok (.saload, 1) := by decide +kernel
theorem d_M_offer_128 : decode b_M_offer 128 = .ok (.sastore, 1) := by decide +kernel
theorem d_M_offer_129 : decode b_M_offer 129 = .ok (.aload_n 0, 1) := by decide +kernel
theorem d_M_offer_130 : decode b_M_offer 130 = .ok (.getfield 63, 3) := by decide +kernel
theorem d_M_offer_133 : decode b_M_offer 133 = .ok (.iload 4, 2) := by decide +kernel
theorem d_M_offer_135 : decode b_M_offer 135 = .ok (.aload_n 0, 1) := by decide +kernel
theorem d_M_offer_136 : decode b_M_offer 136 = .ok (.getfield 63, 3) := by decide +kernel
theorem d_M_offer_139 : decode b_M_offer 139 = .ok (.iload 4, 2) := by decide +kernel
theorem d_M_offer_141 : decode b_M_offer 141 = .ok (.iconst 1, 1) := by decide +kernel
theorem d_M_offer_142 : decode b_M_offer 142 = .ok (.isub, 1) := by decide +kernel
theorem d_M_offer_143 : decode b_M_offer 143 = .ok (.saload, 1) := by decide +kernel
theorem d_M_offer_144 : decode b_M_offer 144 = .ok (.sastore, 1) := by decide +kernel
theorem d_M_offer_145 : decode b_M_offer 145 = .ok (.aload_n 0, 1) := by decide +kernel
theorem d_M_offer_146 : decode b_M_offer 146 = .ok (.getfield 66, 3) := by decide +kernel
theorem d_M_offer_149 : decode b_M_offer 149 = .ok (.iload 4, 2) := by decide +kernel
theorem d_M_offer_151 : decode b_M_offer 151 = .ok (.aload_n 0, 1) := by decide +kernel
theorem d_M_offer_152 : decode b_M_offer 152 = .ok (.getfield 66, 3) := by decide +kernel
theorem d_M_offer_155 : decode b_M_offer 155 = .ok (.iload 4, 2) := by decide +kernel
theorem d_M_offer_157 : decode b_M_offer 157 = .ok (.iconst 1, 1) := by decide +kernel
theorem d_M_offer_158 : decode b_M_offer 158 = .ok (.isub, 1) := by decide +kernel
theorem d_M_offer_159 : decode b_M_offer 159 = .ok (.saload, 1) := by decide +kernel
theorem d_M_offer_160 : decode b_M_offer 160 = .ok (.sastore, 1) := by decide +kernel
theorem d_M_offer_161 : decode b_M_offer 161 = .ok (.iinc 4 (-1), 3) := by decide +kernel
theorem d_M_offer_164 : decode b_M_offer 164 = .ok (.goto (-94), 3) := by decide +kernel
theorem d_M_offer_167 : decode b_M_offer 167 = .ok (.bipush 8, 2) := by decide +kernel
theorem d_M_offer_169 : decode b_M_offer 169 = .ok (.iload_n 1, 1) := by decide +kernel
theorem d_M_offer_170 : decode b_M_offer 170 = .ok (.imul, 1) := by decide +kernel
theorem d_M_offer_171 : decode b_M_offer 171 = .ok (.iload_n 2, 1) := by decide +kernel
theorem d_M_offer_172 : decode b_M_offer 172 = .ok (.iadd, 1) := by decide +kernel
theorem d_M_offer_173 : decode b_M_offer 173 = .ok (.istore 4, 2) := by decide +kernel
theorem d_M_offer_175 : decode b_M_offer 175 = .ok (.aload_n 0, 1) := by decide +kernel
theorem d_M_offer_176 : decode b_M_offer 176 = .ok (.getfield 52, 3) := by decide +kernel
theorem d_M_offer_179 : decode b_M_offer 179 = .ok (.iload 4, 2) := by decide +kernel
theorem d_M_offer_181 : decode b_M_offer 181 = .ok (.aload_n 0, 1) := by decide +kernel
theorem d_M_offer_182 : decode b_M_offer 182 = .ok (.getfield 156, 3) := by decide +kernel
theorem d_M_offer_185 : decode b_M_offer 185 = .ok (.i2b, 1) := by decide +kernel
theorem d_M_offer_186 : decode b_M_offer 186 = .ok (.bastore, 1) := by decide +kernel
theorem d_M_offer_187 : decode b_M_offer 187 = .ok (.aload_n 0, 1) := by decide +kernel
theorem d_M_offer_188 : decode b_M_offer 188 = .ok (.getfield 56, 3) := by decide +kernel
theorem d_M_offer_191 : decode b_M_offer 191 = .ok (.iload 4, 2) := by decide +kernel
theorem d_M_offer_193 : decode b_M_offer 193 = .ok (.aload_n 0, 1) := by decide +kernel
theorem d_M_offer_194 : decode b_M_offer 194 = .ok (.getfield 149, 3) := by decide +kernel
theorem d_M_offer_197 : decode b_M_offer 197 = .ok (.iastore, 1) := by decide +kernel
theorem d_M_offer_198 : decode b_M_offer 198 = .ok (.aload_n 0, 1) := by decide +kernel
theorem d_M_offer_199 : decode b_M_offer 199 = .ok (.getfield 59, 3) := by decide +kernel
theorem d_M_offer_202 : decode b_M_offer 202 = .ok (.iload 4, 2) := by decide +kernel
theorem d_M_offer_204 : decode b_M_offer 204 = .ok (.aload_n 0, 1) := by decide +kernel
theorem d_M_offer_205 : decode b_M_offer 205 = .ok (.getfield 159, 3) := by decide +kernel
theorem d_M_offer_208 : decode b_M_offer 208 = .ok (.i2s, 1) := by decide +kernel
theorem d_M_offer_209 : decode b_M_offer 209 = .ok (.sastore, 1) := by decide +kernel
theorem d_M_offer_210 : decode b_M_offer 210 = .ok (.aload_n 0, 1) := by decide +kernel
theorem d_M_offer_211 : decode b_M_offer 211 = .ok (.getfield 63, 3) := by decide +kernel
