theorem d_Text_init_0 : decode b_Text_init 0 = .ok (.aload_n 0, 1) := by decide +kernel
theorem d_Text_init_1 : decode b_Text_init 1 = .ok (.invokespecial 3, 3) := by decide +kernel
theorem d_Text_init_4 : decode b_Text_init 4 = .ok (.aload_n 0, 1) := by decide +kernel
theorem d_Text_init_5 : decode b_Text_init 5 = .ok (.sipush 240, 3) := by decide +kernel
theorem d_Text_init_8 : decode b_Text_init 8 = .ok (.newarray .char, 2) := by decide +kernel
theorem d_Text_init_10 : decode b_Text_init 10 = .ok (.putfield 9, 3) := by decide +kernel
theorem d_Text_init_13 : decode b_Text_init 13 = .ok (.return_, 1) := by decide +kernel
theorem d_Reader_init_0 : decode b_Reader_init 0 = .ok (.aload_n 0, 1) := by decide +kernel
theorem d_Reader_init_1 : decode b_Reader_init 1 = .ok (.invokespecial 3, 3) := by decide +kernel
theorem d_Reader_init_4 : decode b_Reader_init 4 = .ok (.aload_n 0, 1) := by decide +kernel
theorem d_Reader_init_5 : decode b_Reader_init 5 = .ok (.aload_n 1, 1) := by decide +kernel
theorem d_Reader_init_6 : decode b_Reader_init 6 = .ok (.putfield 9, 3) := by decide +kernel
theorem d_Reader_init_9 : decode b_Reader_init 9 = .ok (.return_, 1) := by decide +kernel
theorem d_Row_init_0 : decode b_Row_init 0 = .ok (.aload_n 0, 1) := by decide +kernel
theorem d_Row_init_1 : decode b_Row_init 1 = .ok (.invokespecial 3, 3) := by decide +kernel
theorem d_Row_init_4 : decode b_Row_init 4 = .ok (.aload_n 0, 1) := by decide +kernel
theorem d_Row_init_5 : decode b_Row_init 5 = .ok (.bipush 6, 2) := by decide +kernel
theorem d_Row_init_7 : decode b_Row_init 7 = .ok (.newarray .char, 2) := by decide +kernel
theorem d_Row_init_9 : decode b_Row_init 9 = .ok (.putfield 9, 3) := by decide +kernel
theorem d_Row_init_12 : decode b_Row_init 12 = .ok (.return_, 1) := by decide +kernel
theorem d_Grammar_init_0 : decode b_Grammar_init 0 = .ok (.aload_n 0, 1) := by decide +kernel
theorem d_Grammar_init_1 : decode b_Grammar_init 1 = .ok (.invokespecial 3, 3) := by decide +kernel
theorem d_Grammar_init_4 : decode b_Grammar_init 4 = .ok (.aload_n 0, 1) := by decide +kernel
theorem d_Grammar_init_5 : decode b_Grammar_init 5 = .ok (.bipush 14, 2) := by decide +kernel
theorem d_Grammar_init_7 : decode b_Grammar_init 7 = .ok (.newarray .int, 2) := by decide +kernel
theorem d_Grammar_init_9 : decode b_Grammar_init 9 = .ok (.putfield 9, 3) := by decide +kernel
theorem d_Grammar_init_12 : decode b_Grammar_init 12 = .ok (.aload_n 0, 1) := by decide +kernel
theorem d_Grammar_init_13 : decode b_Grammar_init 13 = .ok (.bipush 42, 2) := by decide +kernel
theorem d_Grammar_init_15 : decode b_Grammar_init 15 = .ok (.newarray .int, 2) := by decide +kernel
theorem d_Grammar_init_17 : decode b_Grammar_init 17 = .ok (.putfield 15, 3) := by decide +kernel
theorem d_Grammar_init_20 : decode b_Grammar_init 20 = .ok (.aload_n 0, 1) := by decide +kernel
theorem d_Grammar_init_21 : decode b_Grammar_init 21 = .ok (.bipush 14, 2) := by decide +kernel
theorem d_Grammar_init_23 : decode b_Grammar_init 23 = .ok (.newarray .int, 2) := by decide +kernel
theorem d_Grammar_init_25 : decode b_Grammar_init 25 = .ok (.putfield 18, 3) := by decide +kernel
theorem d_Grammar_init_28 : decode b_Grammar_init 28 = .ok (.aload_n 0, 1) := by decide +kernel
theorem d_Grammar_init_29 : decode b_Grammar_init 29 = .ok (.bipush 14, 2) := by decide +kernel
theorem d_Grammar_init_31 : decode b_Grammar_init 31 = .ok (.newarray .int, 2) := by decide +kernel
theorem d_Grammar_init_33 : decode b_Grammar_init 33 = .ok (.putfield 21, 3) := by decide +kernel
theorem d_Grammar_init_36 : decode b_Grammar_init 36 = .ok (.aload_n 0, 1) := by decide +kernel
theorem d_Grammar_init_37 : decode b_Grammar_init 37 = .ok (.bipush 14, 2) := by decide +kernel
theorem d_Grammar_init_39 : decode b_Grammar_init 39 = .ok (.newarray .boolean, 2) := by decide +kernel
theorem d_Grammar_init_41 : decode b_Grammar_init 41 = .ok (.putfield 24, 3) := by decide +kernel
theorem d_Grammar_init_44 : decode b_Grammar_init 44 = .ok (.aload_n 0, 1) := by decide +kernel
theorem d_Grammar_init_45 : decode b_Grammar_init 45 = .ok (.bipush 14, 2) := by decide +kernel
theorem d_Grammar_init_47 : decode b_Grammar_init 47 = .ok (.newarray .int, 2) := by decide +kernel
theorem d_Grammar_init_49 : decode b_Grammar_init 49 = .ok (.putfield 28, 3) := by decide +kernel
theorem d_Grammar_init_52 : decode b_Grammar_init 52 = .ok (.return_, 1) := by decide +kernel
theorem d_Forest_init_0 : decode b_Forest_init 0 = .ok (.aload_n 0, 1) := by decide +kernel
theorem d_Forest_init_1 : decode b_Forest_init 1 = .ok (.invokespecial 3, 3) := by decide +kernel
theorem d_Forest_init_4 : decode b_Forest_init 4 = .ok (.aload_n 0, 1) := by decide +kernel
theorem d_Forest_init_5 : decode b_Forest_init 5 = .ok (.sipush 841, 3) := by decide +kernel
theorem d_Forest_init_8 : decode b_Forest_init 8 = .ok (.newarray .int, 2) := by decide +kernel
theorem d_Forest_init_10 : decode b_Forest_init 10 = .ok (.putfield 11, 3) := by decide +kernel
theorem d_Forest_init_13 : decode b_Forest_init 13 = .ok (.aload_n 0, 1) := by decide +kernel
theorem d_Forest_init_14 : decode b_Forest_init 14 = .ok (.sipush 841, 3) := by decide +kernel
theorem d_Forest_init_17 : decode b_Forest_init 17 = .ok (.newarray .int, 2) := by decide +kernel
theorem d_Forest_init_19 : decode b_Forest_init 19 = .ok (.putfield 15, 3) := by decide +kernel
theorem d_Forest_init_22 : decode b_Forest_init 22 = .ok (.aload_n 0, 1) := by decide +kernel
theorem d_Forest_init_23 : decode b_Forest_init 23 = .ok (.sipush 841, 3) := by decide +kernel
theorem d_Forest_init_26 : decode b_Forest_init 26 = .ok (.newarray .int, 2) := by decide +kernel
theorem d_Forest_init_28 : decode b_Forest_init 28 = .ok (.putfield 18, 3) := by decide +kernel
theorem d_Forest_init_31 : decode b_Forest_init 31 = .ok (.aload_n 0, 1) := by decide +kernel
theorem d_Forest_init_32 : decode b_Forest_init 32 = .ok (.sipush 2523, 3) := by decide +kernel
theorem d_Forest_init_35 : decode b_Forest_init 35 = .ok (.newarray .int, 2) := by decide +kernel
theorem d_Forest_init_37 : decode b_Forest_init 37 = .ok (.putfield 21, 3) := by decide +kernel
theorem d_Forest_init_40 : decode b_Forest_init 40 = .ok (.return_, 1) := by decide +kernel
theorem d_Chart_init_0 : decode b_Chart_init 0 = .ok (.aload_n 0, 1) := by decide +kernel
theorem d_Chart_init_1 : decode b_Chart_init 1 = .ok (.invokespecial 3, 3) := by decide +kernel
theorem d_Chart_init_4 : decode b_Chart_init 4 = .ok (.aload_n 0, 1) := by decide +kernel
theorem d_Chart_init_5 : decode b_Chart_init 5 = .ok (.new 9, 3) := by decide +kernel
theorem d_Chart_init_8 : decode b_Chart_init 8 = .ok (.dup, 1) := by decide +kernel
theorem d_Chart_init_9 : decode b_Chart_init 9 = .ok (.invokespecial 11, 3) := by decide +kernel
theorem d_Chart_init_12 : decode b_Chart_init 12 = .ok (.putfield 12, 3) := by decide +kernel
theorem d_Chart_init_15 : decode b_Chart_init 15 = .ok (.aload_n 0, 1) := by decide +kernel
theorem d_Chart_init_16 : decode b_Chart_init 16 = .ok (.bipush 105, 2) := by decide +kernel
theorem d_Chart_init_18 : decode b_Chart_init 18 = .ok (.newarray .long, 2) := by decide +kernel
theorem d_Chart_init_20 : decode b_Chart_init 20 = .ok (.putfield 18, 3) := by decide +kernel
theorem d_Chart_init_23 : decode b_Chart_init 23 = .ok (.aload_n 0, 1) := by decide +kernel
theorem d_Chart_init_24 : decode b_Chart_init 24 = .ok (.bipush 105, 2) := by decide +kernel
theorem d_Chart_init_26 : decode b_Chart_init 26 = .ok (.newarray .int, 2) := by decide +kernel
theorem d_Chart_init_28 : decode b_Chart_init 28 = .ok (.putfield 22, 3) := by decide +kernel
theorem d_Chart_init_31 : decode b_Chart_init 31 = .ok (.aload_n 0, 1) := by decide +kernel
theorem d_Chart_init_32 : decode b_Chart_init 32 = .ok (.iconst 4, 1) := by decide +kernel
theorem d_Chart_init_33 : decode b_Chart_init 33 = .ok (.newarray .int, 2) := by decide +kernel
theorem d_Chart_init_35 : decode b_Chart_init 35 = .ok (.putfield 26, 3) := by decide +kernel
theorem d_Chart_init_38 : decode b_Chart_init 38 = .ok (.aload_n 0, 1) := by decide +kernel
theorem d_Chart_init_39 : decode b_Chart_init 39 = .ok (.iconst 3, 1) := by decide +kernel
theorem d_Chart_init_40 : decode b_Chart_init 40 = .ok (.newarray .int, 2) := by decide +kernel
theorem d_Chart_init_42 : decode b_Chart_init 42 = .ok (.putfield 29, 3) := by decide +kernel
theorem d_Chart_init_45 : decode b_Chart_init 45 = .ok (.aload_n 0, 1) := by decide +kernel
theorem d_Chart_init_46 : decode b_Chart_init 46 = .ok (.iconst 3, 1) := by decide +kernel
theorem d_Chart_init_47 : decode b_Chart_init 47 = .ok (.newarray .int, 2) := by decide +kernel
theorem d_Chart_init_49 : decode b_Chart_init 49 = .ok (.putfield 32, 3) := by decide +kernel
theorem d_Chart_init_52 : decode b_Chart_init 52 = .ok (.aload_n 0, 1) := by decide +kernel
theorem d_Chart_init_53 : decode b_Chart_init 53 = .ok (.aload_n 1, 1) := by decide +kernel
theorem d_Chart_init_54 : decode b_Chart_init 54 = .ok (.putfield 35, 3) := by decide +kernel
theorem d_Chart_init_57 : decode b_Chart_init 57 = .ok (.aload_n 0, 1) := by decide +kernel
theorem d_Chart_init_58 : decode b_Chart_init 58 = .ok (.aload_n 2, 1) := by decide +kernel
theorem d_Chart_init_59 : decode b_Chart_init 59 = .ok (.putfield 39, 3) := by decide +kernel
theorem d_Chart_init_62 : decode b_Chart_init 62 = .ok (.return_, 1) := by decide +kernel
theorem d_RT_init_0 : decode b_RT_init 0 = .ok (.aload_n 0, 1) := by decide +kernel
theorem d_RT_init_1 : decode b_RT_init 1 = .ok (.invokespecial 3, 3) := by decide +kernel
theorem d_RT_init_4 : decode b_RT_init 4 = .ok (.aload_n 0, 1) := by decide +kernel
theorem d_RT_init_5 : decode b_RT_init 5 = .ok (.new 9, 3) := by decide +kernel
theorem d_RT_init_8 : decode b_RT_init 8 = .ok (.dup, 1) := by decide +kernel
theorem d_RT_init_9 : decode b_RT_init 9 = .ok (.invokespecial 11, 3) := by decide +kernel
theorem d_RT_init_12 : decode b_RT_init 12 = .ok (.putfield 12, 3) := by decide +kernel
theorem d_RT_init_15 : decode b_RT_init 15 = .ok (.aload_n 0, 1) := by decide +kernel
theorem d_RT_init_16 : decode b_RT_init 16 = .ok (.new 16, 3) := by decide +kernel
theorem d_RT_init_19 : decode b_RT_init 19 = .ok (.dup, 1) := by decide +kernel
theorem d_RT_init_20 : decode b_RT_init 20 = .ok (.aload_n 0, 1) := by decide +kernel
theorem d_RT_init_21 : decode b_RT_init 21 = .ok (.getfield 12, 3) := by decide +kernel
theorem d_RT_init_24 : decode b_RT_init 24 = .ok (.invokespecial 18, 3) := by decide +kernel
theorem d_RT_init_27 : decode b_RT_init 27 = .ok (.putfield 21, 3) := by decide +kernel
theorem d_RT_init_30 : decode b_RT_init 30 = .ok (.aload_n 0, 1) := by decide +kernel
theorem d_RT_init_31 : decode b_RT_init 31 = .ok (.new 25, 3) := by decide +kernel
theorem d_RT_init_34 : decode b_RT_init 34 = .ok (.dup, 1) := by decide +kernel
theorem d_RT_init_35 : decode b_RT_init 35 = .ok (.invokespecial 27, 3) := by decide +kernel
theorem d_RT_init_38 : decode b_RT_init 38 = .ok (.putfield 28, 3) := by decide +kernel
theorem d_RT_init_41 : decode b_RT_init 41 = .ok (.aload_n 0, 1) := by decide +kernel
theorem d_RT_init_42 : decode b_RT_init 42 = .ok (.new 32, 3) := by decide +kernel
theorem d_RT_init_45 : decode b_RT_init 45 = .ok (.dup, 1) := by decide +kernel
theorem d_RT_init_46 : decode b_RT_init 46 = .ok (.invokespecial 34, 3) := by decide +kernel
theorem d_RT_init_49 : decode b_RT_init 49 = .ok (.putfield 35, 3) := by decide +kernel
theorem d_RT_init_52 : decode b_RT_init 52 = .ok (.aload_n 0, 1) := by decide +kernel
theorem d_RT_init_53 : decode b_RT_init 53 = .ok (.new 32, 3) := by decide +kernel
theorem d_RT_init_56 : decode b_RT_init 56 = .ok (.dup, 1) := by decide +kernel
theorem d_RT_init_57 : decode b_RT_init 57 = .ok (.invokespecial 34, 3) := by decide +kernel
theorem d_RT_init_60 : decode b_RT_init 60 = .ok (.putfield 39, 3) := by decide +kernel
theorem d_RT_init_63 : decode b_RT_init 63 = .ok (.aload_n 0, 1) := by decide +kernel
theorem d_RT_init_64 : decode b_RT_init 64 = .ok (.new 42, 3) := by decide +kernel
theorem d_RT_init_67 : decode b_RT_init 67 = .ok (.dup, 1) := by decide +kernel
theorem d_RT_init_68 : decode b_RT_init 68 = .ok (.aload_n 0, 1) := by decide +kernel
theorem d_RT_init_69 : decode b_RT_init 69 = .ok (.getfield 28, 3) := by decide +kernel
theorem d_RT_init_72 : decode b_RT_init 72 = .ok (.aload_n 0, 1) := by decide +kernel
theorem d_RT_init_73 : decode b_RT_init 73 = .ok (.getfield 35, 3) := by decide +kernel
theorem d_RT_init_76 : decode b_RT_init 76 = .ok (.invokespecial 44, 3) := by decide +kernel
theorem d_RT_init_79 : decode b_RT_init 79 = .ok (.putfield 47, 3) := by decide +kernel
theorem d_RT_init_82 : decode b_RT_init 82 = .ok (.return_, 1) := by decide +kernel
theorem d_Text_add_0 : decode b_Text_add 0 = .ok (.aload_n 0, 1) := by decide +kernel
theorem d_Text_add_1 : decode b_Text_add 1 = .ok (.getfield 15, 3) := by decide +kernel
theorem d_Text_add_4 : decode b_Text_add 4 = .ok (.istore_n 3, 1) := by decide +kernel
theorem d_Text_add_5 : decode b_Text_add 5 = .ok (.iconst 0, 1) := by decide +kernel
theorem d_Text_add_6 : decode b_Text_add 6 = .ok (.istore 4, 2) := by decide +kernel
theorem d_Text_add_8 : decode b_Text_add 8 = .ok (.iload 4, 2) := by decide +kernel
theorem d_Text_add_10 : decode b_Text_add 10 = .ok (.bipush 64, 2) := by decide +kernel
theorem d_Text_add_12 : decode b_Text_add 12 = .ok (.if_icmp .ge 63, 3) := by decide +kernel
theorem d_Text_add_15 : decode b_Text_add 15 = .ok (.lload_n 1, 1) := by decide +kernel
theorem d_Text_add_16 : decode b_Text_add 16 = .ok (.iload 4, 2) := by decide +kernel
theorem d_Text_add_18 : decode b_Text_add 18 = .ok (.lushr, 1) := by decide +kernel
theorem d_Text_add_19 : decode b_Text_add 19 = .ok (.l2i, 1) := by decide +kernel
theorem d_Text_add_20 : decode b_Text_add 20 = .ok (.sipush 255, 3) := by decide +kernel
theorem d_Text_add_23 : decode b_Text_add 23 = .ok (.iand, 1) := by decide +kernel
theorem d_Text_add_24 : decode b_Text_add 24 = .ok (.istore 5, 2) := by decide +kernel
theorem d_Text_add_26 : decode b_Text_add 26 = .ok (.iload 5, 2) := by decide +kernel
theorem d_Text_add_28 : decode b_Text_add 28 = .ok (.ifCond .ne 6, 3) := by decide +kernel
theorem d_Text_add_31 : decode b_Text_add 31 = .ok (.goto 38, 3) := by decide +kernel
theorem d_Text_add_34 : decode b_Text_add 34 = .ok (.iload 5, 2) := by decide +kernel
theorem d_Text_add_36 : decode b_Text_add 36 = .ok (.bipush 32, 2) := by decide +kernel
theorem d_Text_add_38 : decode b_Text_add 38 = .ok (.if_icmp .lt 17, 3) := by decide +kernel
theorem d_Text_add_41 : decode b_Text_add 41 = .ok (.iload 5, 2) := by decide +kernel
theorem d_Text_add_43 : decode b_Text_add 43 = .ok (.bipush 126, 2) := by decide +kernel
theorem d_Text_add_45 : decode b_Text_add 45 = .ok (.if_icmp .gt 10, 3) := by decide +kernel
theorem d_Text_add_48 : decode b_Text_add 48 = .ok (.iload_n 3, 1) := by decide +kernel
theorem d_Text_add_49 : decode b_Text_add 49 = .ok (.sipush 240, 3) := by decide +kernel
theorem d_Text_add_52 : decode b_Text_add 52 = .ok (.if_icmp .lt 5, 3) := by decide +kernel
theorem d_Text_add_55 : decode b_Text_add 55 = .ok (.iconst 0, 1) := by decide +kernel
theorem d_Text_add_56 : decode b_Text_add 56 = .ok (.ireturn, 1) := by decide +kernel
theorem d_Text_add_57 : decode b_Text_add 57 = .ok (.aload_n 0, 1) := by decide +kernel
theorem d_Text_add_58 : decode b_Text_add 58 = .ok (.getfield 9, 3) := by decide +kernel
theorem d_Text_add_61 : decode b_Text_add 61 = .ok (.iload_n 3, 1) := by decide +kernel
theorem d_Text_add_62 : decode b_Text_add 62 = .ok (.iload 5, 2) := by decide +kernel
theorem d_Text_add_64 : decode b_Text_add 64 = .ok (.i2c, 1) := by decide +kernel
theorem d_Text_add_65 : decode b_Text_add 65 = .ok (.castore, 1) := by decide +kernel
theorem d_Text_add_66 : decode b_Text_add 66 = .ok (.iinc 3 1, 3) := by decide +kernel
theorem d_Text_add_69 : decode b_Text_add 69 = .ok (.iinc 4 8, 3) := by decide +kernel
theorem d_Text_add_72 : decode b_Text_add 72 = .ok (.goto (-64), 3) := by decide +kernel
theorem d_Text_add_75 : decode b_Text_add 75 = .ok (.aload_n 0, 1) := by decide +kernel
theorem d_Text_add_76 : decode b_Text_add 76 = .ok (.iload_n 3, 1) := by decide +kernel
theorem d_Text_add_77 : decode b_Text_add 77 = .ok (.putfield 15, 3) := by decide +kernel
theorem d_Text_add_80 : decode b_Text_add 80 = .ok (.iconst 1, 1) := by decide +kernel
theorem d_Text_add_81 : decode b_Text_add 81 = .ok (.ireturn, 1) := by decide +kernel
theorem d_RT_write_0 : decode b_RT_write 0 = .ok (.aload_n 0, 1) := by decide +kernel
theorem d_RT_write_1 : decode b_RT_write 1 = .ok (.getfield 12, 3) := by decide +kernel
theorem d_RT_write_4 : decode b_RT_write 4 = .ok (.lload_n 1, 1) := by decide +kernel
theorem d_RT_write_5 : decode b_RT_write 5 = .ok (.invokevirtual 51, 3) := by decide +kernel
theorem d_RT_write_8 : decode b_RT_write 8 = .ok (.ireturn, 1) := by decide +kernel
theorem d_RT_wipe_0 : decode b_RT_wipe 0 = .ok (.aload_n 0, 1) := by decide +kernel
theorem d_RT_wipe_1 : decode b_RT_wipe 1 = .ok (.getfield 12, 3) := by decide +kernel
theorem d_RT_wipe_4 : decode b_RT_wipe 4 = .ok (.iconst 0, 1) := by decide +kernel
theorem d_RT_wipe_5 : decode b_RT_wipe 5 = .ok (.putfield 55, 3) := by decide +kernel
theorem d_RT_wipe_8 : decode b_RT_wipe 8 = .ok (.return_, 1) := by decide +kernel
theorem d_Reader_peek_0 : decode b_Reader_peek 0 = .ok (.aload_n 0, 1) := by decide +kernel
theorem d_Reader_peek_1 : decode b_Reader_peek 1 = .ok (.getfield 21, 3) := by decide +kernel
theorem d_Reader_peek_4 : decode b_Reader_peek 4 = .ok (.aload_n 0, 1) := by decide +kernel
theorem d_Reader_peek_5 : decode b_Reader_peek 5 = .ok (.getfield 9, 3) := by decide +kernel
theorem d_Reader_peek_8 : decode b_Reader_peek 8 = .ok (.getfield 28, 3) := by decide +kernel
theorem d_Reader_peek_11 : decode b_Reader_peek 11 = .ok (.if_icmp .ge 18, 3) := by decide +kernel
theorem d_Reader_peek_14 : decode b_Reader_peek 14 = .ok (.aload_n 0, 1) := by decide +kernel
theorem d_Reader_peek_15 : decode b_Reader_peek 15 = .ok (.getfield 9, 3) := by decide +kernel
theorem d_Reader_peek_18 : decode b_Reader_peek 18 = .ok (.getfield 73, 3) := by decide +kernel
theorem d_Reader_peek_21 : decode b_Reader_peek 21 = .ok (.aload_n 0, 1) := by decide +kernel
theorem d_Reader_peek_22 : decode b_Reader_peek 22 = .ok (.getfield 21, 3) := by decide +kernel
theorem d_Reader_peek_25 : decode b_Reader_peek 25 = .ok (.caload, 1) := by decide +kernel
theorem d_Reader_peek_26 : decode b_Reader_peek 26 = .ok (.goto 4, 3) := by decide +kernel
theorem d_Reader_peek_29 : decode b_Reader_peek 29 = .ok (.iconst 0, 1) := by decide +kernel
theorem d_Reader_peek_30 : decode b_Reader_peek 30 = .ok (.ireturn, 1) := by decide +kernel
theorem d_Reader_take_0 : decode b_Reader_take 0 = .ok (.aload_n 0, 1) := by decide +kernel
theorem d_Reader_take_1 : decode b_Reader_take 1 = .ok (.invokevirtual 58, 3) := by decide +kernel
theorem d_Reader_take_4 : decode b_Reader_take 4 = .ok (.istore_n 1, 1) := by decide +kernel
theorem d_Reader_take_5 : decode b_Reader_take 5 = .ok (.aload_n 0, 1) := by decide +kernel
theorem d_Reader_take_6 : decode b_Reader_take 6 = .ok (.getfield 21, 3) := by decide +kernel
theorem d_Reader_take_9 : decode b_Reader_take 9 = .ok (.aload_n 0, 1) := by decide +kernel
theorem d_Reader_take_10 : decode b_Reader_take 10 = .ok (.getfield 9, 3) := by decide +kernel
theorem d_Reader_take_13 : decode b_Reader_take 13 = .ok (.getfield 28, 3) := by decide +kernel
theorem d_Reader_take_16 : decode b_Reader_take 16 = .ok (.if_icmp .ge 13, 3) := by decide +kernel
theorem d_Reader_take_19 : decode b_Reader_take 19 = .ok (.aload_n 0, 1) := by decide +kernel
theorem d_Reader_take_20 : decode b_Reader_take 20 = .ok (.dup, 1) := by decide +kernel
theorem d_Reader_take_21 : decode b_Reader_take 21 = .ok (.getfield 21, 3) := by decide +kernel
theorem d_Reader_take_24 : decode b_Reader_take 24 = .ok (.iconst 1, 1) := by decide +kernel
theorem d_Reader_take_25 : decode b_Reader_take 25 = .ok (.iadd, 1) := by decide +kernel
theorem d_Reader_take_26 : decode b_Reader_take 26 = .ok (.putfield 21, 3) := by decide +kernel
theorem d_Reader_take_29 : decode b_Reader_take 29 = .ok (.iload_n 1, 1) := by decide +kernel
theorem d_Reader_take_30 : decode b_Reader_take 30 = .ok (.ireturn, 1) := by decide +kernel
theorem d_RT_isLetter_0 : decode b_RT_isLetter 0 = .ok (.iload_n 0, 1) := by decide +kernel
theorem d_RT_isLetter_1 : decode b_RT_isLetter 1 = .ok (.bipush 65, 2) := by decide +kernel
theorem d_RT_isLetter_3 : decode b_RT_isLetter 3 = .ok (.if_icmp .lt 13, 3) := by decide +kernel
theorem d_RT_isLetter_6 : decode b_RT_isLetter 6 = .ok (.iload_n 0, 1) := by decide +kernel
theorem d_RT_isLetter_7 : decode b_RT_isLetter 7 = .ok (.bipush 70, 2) := by decide +kernel
theorem d_RT_isLetter_9 : decode b_RT_isLetter 9 = .ok (.if_icmp .ge 7, 3) := by decide +kernel
theorem d_RT_isLetter_12 : decode b_RT_isLetter 12 = .ok (.iconst 1, 1) := by decide +kernel
theorem d_RT_isLetter_13 : decode b_RT_isLetter 13 = .ok (.goto 4, 3) := by decide +kernel
theorem d_RT_isLetter_16 : decode b_RT_isLetter 16 = .ok (.iconst 0, 1) := by decide +kernel
theorem d_RT_isLetter_17 : decode b_RT_isLetter 17 = .ok (.ireturn, 1) := by decide +kernel
theorem d_RT_isToken_0 : decode b_RT_isToken 0 = .ok (.iload_n 0, 1) := by decide +kernel
theorem d_RT_isToken_1 : decode b_RT_isToken 1 = .ok (.bipush 97, 2) := by decide +kernel
theorem d_RT_isToken_3 : decode b_RT_isToken 3 = .ok (.if_icmp .lt 13, 3) := by decide +kernel
theorem d_RT_isToken_6 : decode b_RT_isToken 6 = .ok (.iload_n 0, 1) := by decide +kernel
theorem d_RT_isToken_7 : decode b_RT_isToken 7 = .ok (.bipush 122, 2) := by decide +kernel
theorem d_RT_isToken_9 : decode b_RT_isToken 9 = .ok (.if_icmp .gt 7, 3) := by decide +kernel
theorem d_RT_isToken_12 : decode b_RT_isToken 12 = .ok (.iconst 1, 1) := by decide +kernel
theorem d_RT_isToken_13 : decode b_RT_isToken 13 = .ok (.goto 4, 3) := by decide +kernel
theorem d_RT_isToken_16 : decode b_RT_isToken 16 = .ok (.iconst 0, 1) := by decide +kernel
theorem d_RT_isToken_17 : decode b_RT_isToken 17 = .ok (.ireturn, 1) := by decide +kernel
theorem d_Reader_readBody_0 : decode b_Reader_readBody 0 = .ok (.iconst 0, 1) := by decide +kernel
theorem d_Reader_readBody_1 : decode b_Reader_readBody 1 = .ok (.istore_n 3, 1) := by decide +kernel
theorem d_Reader_readBody_2 : decode b_Reader_readBody 2 = .ok (.iload_n 3, 1) := by decide +kernel
theorem d_Reader_readBody_3 : decode b_Reader_readBody 3 = .ok (.iconst 3, 1) := by decide +kernel
theorem d_Reader_readBody_4 : decode b_Reader_readBody 4 = .ok (.if_icmp .ge 43, 3) := by decide +kernel
theorem d_Reader_readBody_7 : decode b_Reader_readBody 7 = .ok (.aload_n 0, 1) := by decide +kernel
theorem d_Reader_readBody_8 : decode b_Reader_readBody 8 = .ok (.invokevirtual 58, 3) := by decide +kernel
theorem d_Reader_readBody_11 : decode b_Reader_readBody 11 = .ok (.invokestatic 37, 3) := by decide +kernel
theorem d_Reader_readBody_14 : decode b_Reader_readBody 14 = .ok (.ifCond .ne 13, 3) := by decide +kernel
theorem d_Reader_readBody_17 : decode b_Reader_readBody 17 = .ok (.aload_n 0, 1) := by decide +kernel
theorem d_Reader_readBody_18 : decode b_Reader_readBody 18 = .ok (.invokevirtual 58, 3) := by decide +kernel
theorem d_Reader_readBody_21 : decode b_Reader_readBody 21 = .ok (.invokestatic 61, 3) := by decide +kernel
theorem d_Reader_readBody_24 : decode b_Reader_readBody 24 = .ok (.ifCond .eq 23, 3) := by decide +kernel
theorem d_Reader_readBody_27 : decode b_Reader_readBody 27 = .ok (.aload_n 1, 1) := by decide +kernel
theorem d_Reader_readBody_28 : decode b_Reader_readBody 28 = .ok (.getfield 64, 3) := by decide +kernel
theorem d_Reader_readBody_31 : decode b_Reader_readBody 31 = .ok (.iload_n 2, 1) := by decide +kernel
theorem d_Reader_readBody_32 : decode b_Reader_readBody 32 = .ok (.iconst 3, 1) := by decide +kernel
theorem d_Reader_readBody_33 : decode b_Reader_readBody 33 = .ok (.imul, 1) := by decide +kernel
theorem d_Reader_readBody_34 : decode b_Reader_readBody 34 = .ok (.iload_n 3, 1) := by decide +kernel
theorem d_Reader_readBody_35 : decode b_Reader_readBody 35 = .ok (.iadd, 1) := by decide +kernel
theorem d_Reader_readBody_36 : decode b_Reader_readBody 36 = .ok (.aload_n 0, 1) := by decide +kernel
theorem d_Reader_readBody_37 : decode b_Reader_readBody 37 = .ok (.invokevirtual 33, 3) := by decide +kernel
theorem d_Reader_readBody_40 : decode b_Reader_readBody 40 = .ok (.iastore, 1) := by decide +kernel
theorem d_Reader_readBody_41 : decode b_Reader_readBody 41 = .ok (.iinc 3 1, 3) := by decide +kernel
theorem d_Reader_readBody_44 : decode b_Reader_readBody 44 = .ok (.goto (-42), 3) := by decide +kernel
theorem d_Reader_readBody_47 : decode b_Reader_readBody 47 = .ok (.iload_n 3, 1) := by decide +kernel
theorem d_Reader_readBody_48 : decode b_Reader_readBody 48 = .ok (.istore 4, 2) := by decide +kernel
theorem d_Reader_readBody_50 : decode b_Reader_readBody 50 = .ok (.iload 4, 2) := by decide +kernel
theorem d_Reader_readBody_52 : decode b_Reader_readBody 52 = .ok (.iconst 3, 1) := by decide +kernel
theorem d_Reader_readBody_53 : decode b_Reader_readBody 53 = .ok (.if_icmp .ge 21, 3) := by decide +kernel
theorem d_Reader_readBody_56 : decode b_Reader_readBody 56 = .ok (.aload_n 1, 1) := by decide +kernel
theorem d_Reader_readBody_57 : decode b_Reader_readBody 57 = .ok (.getfield 64, 3) := by decide +kernel
theorem d_Reader_readBody_60 : decode b_Reader_readBody 60 = .ok (.iload_n 2, 1) := by decide +kernel
theorem d_Reader_readBody_61 : decode b_Reader_readBody 61 = .ok (.iconst 3, 1) := by decide +kernel
theorem d_Reader_readBody_62 : decode b_Reader_readBody 62 = .ok (.imul, 1) := by decide +kernel
theorem d_Reader_readBody_63 : decode b_Reader_readBody 63 = .ok (.iload 4, 2) := by decide +kernel
theorem d_Reader_readBody_65 : decode b_Reader_readBody 65 = .ok (.iadd, 1) := by decide +kernel
theorem d_Reader_readBody_66 : decode b_Reader_readBody 66 = .ok (.iconst 0, 1) := by decide +kernel
theorem d_Reader_readBody_67 : decode b_Reader_readBody 67 = .ok (.iastore, 1) := by decide +kernel
theorem d_Reader_readBody_68 : decode b_Reader_readBody 68 = .ok (.iinc 4 1, 3) := by decide +kernel
theorem d_Reader_readBody_71 : decode b_Reader_readBody 71 = .ok (.goto (-21), 3) := by decide +kernel
theorem d_Reader_readBody_74 : decode b_Reader_readBody 74 = .ok (.aload_n 1, 1) := by decide +kernel
theorem d_Reader_readBody_75 : decode b_Reader_readBody 75 = .ok (.getfield 67, 3) := by decide +kernel
theorem d_Reader_readBody_78 : decode b_Reader_readBody 78 = .ok (.iload_n 2, 1) := by decide +kernel
theorem d_Reader_readBody_79 : decode b_Reader_readBody 79 = .ok (.iload_n 3, 1) := by decide +kernel
theorem d_Reader_readBody_80 : decode b_Reader_readBody 80 = .ok (.iastore, 1) := by decide +kernel
theorem d_Reader_readBody_81 : decode b_Reader_readBody 81 = .ok (.iload_n 3, 1) := by decide +kernel
theorem d_Reader_readBody_82 : decode b_Reader_readBody 82 = .ok (.ifCond .le 7, 3) := by decide +kernel
theorem d_Reader_readBody_85 : decode b_Reader_readBody 85 = .ok (.iconst 1, 1) := by decide +kernel
theorem d_Reader_readBody_86 : decode b_Reader_readBody 86 = .ok (.goto 4, 3) := by decide +kernel
theorem d_Reader_readBody_89 : decode b_Reader_readBody 89 = .ok (.iconst 0, 1) := by decide +kernel
theorem d_Reader_readBody_90 : decode b_Reader_readBody 90 = .ok (.ireturn, 1) := by decide +kernel
theorem d_RT_isDigit_0 : decode b_RT_isDigit 0 = .ok (.iload_n 0, 1) := by decide +kernel
theorem d_RT_isDigit_1 : decode b_RT_isDigit 1 = .ok (.bipush 48, 2) := by decide +kernel
theorem d_RT_isDigit_3 : decode b_RT_isDigit 3 = .ok (.if_icmp .lt 13, 3) := by decide +kernel
theorem d_RT_isDigit_6 : decode b_RT_isDigit 6 = .ok (.iload_n 0, 1) := by decide +kernel
theorem d_RT_isDigit_7 : decode b_RT_isDigit 7 = .ok (.bipush 57, 2) := by decide +kernel
theorem d_RT_isDigit_9 : decode b_RT_isDigit 9 = .ok (.if_icmp .gt 7, 3) := by decide +kernel
theorem d_RT_isDigit_12 : decode b_RT_isDigit 12 = .ok (.iconst 1, 1) := by decide +kernel
theorem d_RT_isDigit_13 : decode b_RT_isDigit 13 = .ok (.goto 4, 3) := by decide +kernel
theorem d_RT_isDigit_16 : decode b_RT_isDigit 16 = .ok (.iconst 0, 1) := by decide +kernel
theorem d_RT_isDigit_17 : decode b_RT_isDigit 17 = .ok (.ireturn, 1) := by decide +kernel
theorem d_Reader_readWeight_0 : decode b_Reader_readWeight 0 = .ok (.aload_n 0, 1) := by decide +kernel
theorem d_Reader_readWeight_1 : decode b_Reader_readWeight 1 = .ok (.invokevirtual 58, 3) := by decide +kernel
theorem d_Reader_readWeight_4 : decode b_Reader_readWeight 4 = .ok (.bipush 58, 2) := by decide +kernel
theorem d_Reader_readWeight_6 : decode b_Reader_readWeight 6 = .ok (.if_icmp .eq 5, 3) := by decide +kernel
theorem d_Reader_readWeight_9 : decode b_Reader_readWeight 9 = .ok (.iconst 1, 1) := by decide +kernel
theorem d_Reader_readWeight_10 : decode b_Reader_readWeight 10 = .ok (.ireturn, 1) := by decide +kernel
theorem d_Reader_readWeight_11 : decode b_Reader_readWeight 11 = .ok (.aload_n 0, 1) := by decide +kernel
theorem d_Reader_readWeight_12 : decode b_Reader_readWeight 12 = .ok (.invokevirtual 33, 3) := by decide +kernel
theorem d_Reader_readWeight_15 : decode b_Reader_readWeight 15 = .ok (.pop, 1) := by decide +kernel
theorem d_Reader_readWeight_16 : decode b_Reader_readWeight 16 = .ok (.iconst 0, 1) := by decide +kernel
theorem d_Reader_readWeight_17 : decode b_Reader_readWeight 17 = .ok (.istore_n 1, 1) := by decide +kernel
theorem d_Reader_readWeight_18 : decode b_Reader_readWeight 18 = .ok (.iconst 0, 1) := by decide +kernel
theorem d_Reader_readWeight_19 : decode b_Reader_readWeight 19 = .ok (.istore_n 2, 1) := by decide +kernel
theorem d_Reader_readWeight_20 : decode b_Reader_readWeight 20 = .ok (.iload_n 2, 1) := by decide +kernel
theorem d_Reader_readWeight_21 : decode b_Reader_readWeight 21 = .ok (.iconst 3, 1) := by decide +kernel
theorem d_Reader_readWeight_22 : decode b_Reader_readWeight 22 = .ok (.if_icmp .ge 32, 3) := by decide +kernel
theorem d_Reader_readWeight_25 : decode b_Reader_readWeight 25 = .ok (.aload_n 0, 1) := by decide +kernel
theorem d_Reader_readWeight_26 : decode b_Reader_readWeight 26 = .ok (.invokevirtual 58, 3) := by decide +kernel
theorem d_Reader_readWeight_29 : decode b_Reader_readWeight 29 = .ok (.invokestatic 70, 3) := by decide +kernel
theorem d_Reader_readWeight_32 : decode b_Reader_readWeight 32 = .ok (.ifCond .eq 22, 3) := by decide +kernel
theorem d_Reader_readWeight_35 : decode b_Reader_readWeight 35 = .ok (.iload_n 1, 1) := by decide +kernel
theorem d_Reader_readWeight_36 : decode b_Reader_readWeight 36 = .ok (.bipush 10, 2) := by decide +kernel
theorem d_Reader_readWeight_38 : decode b_Reader_readWeight 38 = .ok (.imul, 1) := by decide +kernel
theorem d_Reader_readWeight_39 : decode b_Reader_readWeight 39 = .ok (.aload_n 0, 1) := by decide +kernel
theorem d_Reader_readWeight_40 : decode b_Reader_readWeight 40 = .ok (.invokevirtual 33, 3) := by decide +kernel
theorem d_Reader_readWeight_43 : decode b_Reader_readWeight 43 = .ok (.iadd, 1) := by decide +kernel
theorem d_Reader_readWeight_44 : decode b_Reader_readWeight 44 = .ok (.bipush 48, 2) := by decide +kernel
theorem d_Reader_readWeight_46 : decode b_Reader_readWeight 46 = .ok (.isub, 1) := by decide +kernel
theorem d_Reader_readWeight_47 : decode b_Reader_readWeight 47 = .ok (.istore_n 1, 1) := by decide +kernel
theorem d_Reader_readWeight_48 : decode b_Reader_readWeight 48 = .ok (.iinc 2 1, 3) := by decide +kernel
theorem d_Reader_readWeight_51 : decode b_Reader_readWeight 51 = .ok (.goto (-31), 3) := by decide +kernel
theorem d_Reader_readWeight_54 : decode b_Reader_readWeight 54 = .ok (.iload_n 2, 1) := by decide +kernel
theorem d_Reader_readWeight_55 : decode b_Reader_readWeight 55 = .ok (.ifCond .ne 7, 3) := by decide +kernel
theorem d_Reader_readWeight_58 : decode b_Reader_readWeight 58 = .ok (.iconst (-1), 1) := by decide +kernel
theorem d_Reader_readWeight_59 : decode b_Reader_readWeight 59 = .ok (.goto 4, 3) := by decide +kernel
theorem d_Reader_readWeight_62 : decode b_Reader_readWeight 62 = .ok (.iload_n 1, 1) := by decide +kernel
theorem d_Reader_readWeight_63 : decode b_Reader_readWeight 63 = .ok (.ireturn, 1) := by decide +kernel
theorem d_Grammar_symbol_0 : decode b_Grammar_symbol 0 = .ok (.aload_n 0, 1) := by decide +kernel
theorem d_Grammar_symbol_1 : decode b_Grammar_symbol 1 = .ok (.getfield 15, 3) := by decide +kernel
theorem d_Grammar_symbol_4 : decode b_Grammar_symbol 4 = .ok (.iload_n 1, 1) := by decide +kernel
theorem d_Grammar_symbol_5 : decode b_Grammar_symbol 5 = .ok (.iconst 3, 1) := by decide +kernel
theorem d_Grammar_symbol_6 : decode b_Grammar_symbol 6 = .ok (.imul, 1) := by decide +kernel
theorem d_Grammar_symbol_7 : decode b_Grammar_symbol 7 = .ok (.iload_n 2, 1) := by decide +kernel
theorem d_Grammar_symbol_8 : decode b_Grammar_symbol 8 = .ok (.iadd, 1) := by decide +kernel
theorem d_Grammar_symbol_9 : decode b_Grammar_symbol 9 = .ok (.iaload, 1) := by decide +kernel
theorem d_Grammar_symbol_10 : decode b_Grammar_symbol 10 = .ok (.ireturn, 1) := by decide +kernel
theorem d_Grammar_hasTwinBefore_0 : decode b_Grammar_hasTwinBefore 0 = .ok (.iconst 0, 1) := by decide +kernel
theorem d_Grammar_hasTwinBefore_1 : decode b_Grammar_hasTwinBefore 1 = .ok (.istore_n 2, 1) := by decide +kernel
theorem d_Grammar_hasTwinBefore_2 : decode b_Grammar_hasTwinBefore 2 = .ok (.iload_n 2, 1) := by decide +kernel
theorem d_Grammar_hasTwinBefore_3 : decode b_Grammar_hasTwinBefore 3 = .ok (.iload_n 1, 1) := by decide +kernel
theorem d_Grammar_hasTwinBefore_4 : decode b_Grammar_hasTwinBefore 4 = .ok (.if_icmp .ge 71, 3) := by decide +kernel
theorem d_Grammar_hasTwinBefore_7 : decode b_Grammar_hasTwinBefore 7 = .ok (.aload_n 0, 1) := by decide +kernel
theorem d_Grammar_hasTwinBefore_8 : decode b_Grammar_hasTwinBefore 8 = .ok (.getfield 9, 3) := by decide +kernel
theorem d_Grammar_hasTwinBefore_11 : decode b_Grammar_hasTwinBefore 11 = .ok (.iload_n 2, 1) := by decide +kernel
theorem d_Grammar_hasTwinBefore_12 : decode b_Grammar_hasTwinBefore 12 = .ok (.iaload, 1) := by decide +kernel
theorem d_Grammar_hasTwinBefore_13 : decode b_Grammar_hasTwinBefore 13 = .ok (.aload_n 0, 1) := by decide +kernel
theorem d_Grammar_hasTwinBefore_14 : decode b_Grammar_hasTwinBefore 14 = .ok (.getfield 9, 3) := by decide +kernel
theorem d_Grammar_hasTwinBefore_17 : decode b_Grammar_hasTwinBefore 17 = .ok (.iload_n 1, 1) := by decide +kernel
theorem d_Grammar_hasTwinBefore_18 : decode b_Grammar_hasTwinBefore 18 = .ok (.iaload, 1) := by decide +kernel
theorem d_Grammar_hasTwinBefore_19 : decode b_Grammar_hasTwinBefore 19 = .ok (.if_icmp .ne 50, 3) := by decide +kernel
theorem d_Grammar_hasTwinBefore_22 : decode b_Grammar_hasTwinBefore 22 = .ok (.aload_n 0, 1) := by decide +kernel
theorem d_Grammar_hasTwinBefore_23 : decode b_Grammar_hasTwinBefore 23 = .ok (.iload_n 2, 1) := by decide +kernel
theorem d_Grammar_hasTwinBefore_24 : decode b_Grammar_hasTwinBefore 24 = .ok (.iconst 0, 1) := by decide +kernel
theorem d_Grammar_hasTwinBefore_25 : decode b_Grammar_hasTwinBefore 25 = .ok (.invokevirtual 31, 3) := by decide +kernel
theorem d_Grammar_hasTwinBefore_28 : decode b_Grammar_hasTwinBefore 28 = .ok (.aload_n 0, 1) := by decide +kernel
theorem d_Grammar_hasTwinBefore_29 : decode b_Grammar_hasTwinBefore 29 = .ok (.iload_n 1, 1) := by decide +kernel
theorem d_Grammar_hasTwinBefore_30 : decode b_Grammar_hasTwinBefore 30 = .ok (.iconst 0, 1) := by decide +kernel
theorem d_Grammar_hasTwinBefore_31 : decode b_Grammar_hasTwinBefore 31 = .ok (.invokevirtual 31, 3) := by decide +kernel
theorem d_Grammar_hasTwinBefore_34 : decode b_Grammar_hasTwinBefore 34 = .ok (.if_icmp .ne 35, 3) := by decide +kernel
theorem d_Grammar_hasTwinBefore_37 : decode b_Grammar_hasTwinBefore 37 = .ok (.aload_n 0, 1) := by decide +kernel
theorem d_Grammar_hasTwinBefore_38 : decode b_Grammar_hasTwinBefore 38 = .ok (.iload_n 2, 1) := by decide +kernel
theorem d_Grammar_hasTwinBefore_39 : decode b_Grammar_hasTwinBefore 39 = .ok (.iconst 1, 1) := by decide +kernel
theorem d_Grammar_hasTwinBefore_40 : decode b_Grammar_hasTwinBefore 40 = .ok (.invokevirtual 31, 3) := by decide +kernel
theorem d_Grammar_hasTwinBefore_43 : decode b_Grammar_hasTwinBefore 43 = .ok (.aload_n 0, 1) := by decide +kernel
theorem d_Grammar_hasTwinBefore_44 : decode b_Grammar_hasTwinBefore 44 = .ok (.iload_n 1, 1) := by decide +kernel
theorem d_Grammar_hasTwinBefore_45 : decode b_Grammar_hasTwinBefore 45 = .ok (.iconst 1, 1) := by decide +kernel
theorem d_Grammar_hasTwinBefore_46 : decode b_Grammar_hasTwinBefore 46 = .ok (.invokevirtual 31, 3) := by decide +kernel
theorem d_Grammar_hasTwinBefore_49 : decode b_Grammar_hasTwinBefore 49 = .ok (.if_icmp .ne 20, 3) := by decide +kernel
theorem d_Grammar_hasTwinBefore_52 : decode b_Grammar_hasTwinBefore 52 = .ok (.aload_n 0, 1) := by decide +kernel
theorem d_Grammar_hasTwinBefore_53 : decode b_Grammar_hasTwinBefore 53 = .ok (.iload_n 2, 1) := by decide +kernel
theorem d_Grammar_hasTwinBefore_54 : decode b_Grammar_hasTwinBefore 54 = .ok (.iconst 2, 1) := by decide +kernel
theorem d_Grammar_hasTwinBefore_55 : decode b_Grammar_hasTwinBefore 55 = .ok (.invokevirtual 31, 3) := by decide +kernel
theorem d_Grammar_hasTwinBefore_58 : decode b_Grammar_hasTwinBefore 58 = .ok (.aload_n 0, 1) := by decide +kernel
theorem d_Grammar_hasTwinBefore_59 : decode b_Grammar_hasTwinBefore 59 = .ok (.iload_n 1, 1) := by decide +kernel
theorem d_Grammar_hasTwinBefore_60 : decode b_Grammar_hasTwinBefore 60 = .ok (.iconst 2, 1) := by decide +kernel
theorem d_Grammar_hasTwinBefore_61 : decode b_Grammar_hasTwinBefore 61 = .ok (.invokevirtual 31, 3) := by decide +kernel
theorem d_Grammar_hasTwinBefore_64 : decode b_Grammar_hasTwinBefore 64 = .ok (.if_icmp .ne 5, 3) := by decide +kernel
theorem d_Grammar_hasTwinBefore_67 : decode b_Grammar_hasTwinBefore 67 = .ok (.iconst 1, 1) := by decide +kernel
theorem d_Grammar_hasTwinBefore_68 : decode b_Grammar_hasTwinBefore 68 = .ok (.ireturn, 1) := by decide +kernel
theorem d_Grammar_hasTwinBefore_69 : decode b_Grammar_hasTwinBefore 69 = .ok (.iinc 2 1, 3) := by decide +kernel
theorem d_Grammar_hasTwinBefore_72 : decode b_Grammar_hasTwinBefore 72 = .ok (.goto (-70), 3) := by decide +kernel
theorem d_Grammar_hasTwinBefore_75 : decode b_Grammar_hasTwinBefore 75 = .ok (.iconst 0, 1) := by decide +kernel
theorem d_Grammar_hasTwinBefore_76 : decode b_Grammar_hasTwinBefore 76 = .ok (.ireturn, 1) := by decide +kernel
theorem d_Reader_readRule_0 : decode b_Reader_readRule 0 = .ok (.aload_n 1, 1) := by decide +kernel
theorem d_Reader_readRule_1 : decode b_Reader_readRule 1 = .ok (.getfield 15, 3) := by decide +kernel
theorem d_Reader_readRule_4 : decode b_Reader_readRule 4 = .ok (.istore_n 2, 1) := by decide +kernel
theorem d_Reader_readRule_5 : decode b_Reader_readRule 5 = .ok (.aload_n 0, 1) := by decide +kernel
theorem d_Reader_readRule_6 : decode b_Reader_readRule 6 = .ok (.invokevirtual 33, 3) := by decide +kernel
theorem d_Reader_readRule_9 : decode b_Reader_readRule 9 = .ok (.istore_n 3, 1) := by decide +kernel
theorem d_Reader_readRule_10 : decode b_Reader_readRule 10 = .ok (.iload_n 3, 1) := by decide +kernel
theorem d_Reader_readRule_11 : decode b_Reader_readRule 11 = .ok (.invokestatic 37, 3) := by decide +kernel
theorem d_Reader_readRule_14 : decode b_Reader_readRule 14 = .ok (.ifCond .eq 21, 3) := by decide +kernel
theorem d_Reader_readRule_17 : decode b_Reader_readRule 17 = .ok (.aload_n 0, 1) := by decide +kernel
theorem d_Reader_readRule_18 : decode b_Reader_readRule 18 = .ok (.invokevirtual 33, 3) := by decide +kernel
theorem d_Reader_readRule_21 : decode b_Reader_readRule 21 = .ok (.bipush 61, 2) := by decide +kernel
theorem d_Reader_readRule_23 : decode b_Reader_readRule 23 = .ok (.if_icmp .ne 12, 3) := by decide +kernel
theorem d_Reader_readRule_26 : decode b_Reader_readRule 26 = .ok (.aload_n 0, 1) := by decide +kernel
theorem d_Reader_readRule_27 : decode b_Reader_readRule 27 = .ok (.aload_n 1, 1) := by decide +kernel
theorem d_Reader_readRule_28 : decode b_Reader_readRule 28 = .ok (.iload_n 2, 1) := by decide +kernel
theorem d_Reader_readRule_29 : decode b_Reader_readRule 29 = .ok (.invokevirtual 41, 3) := by decide +kernel
theorem d_Reader_readRule_32 : decode b_Reader_readRule 32 = .ok (.ifCond .ne 5, 3) := by decide +kernel
theorem d_Reader_readRule_35 : decode b_Reader_readRule 35 = .ok (.iconst 0, 1) := by decide +kernel
theorem d_Reader_readRule_36 : decode b_Reader_readRule 36 = .ok (.ireturn, 1) := by decide +kernel
theorem d_Reader_readRule_37 : decode b_Reader_readRule 37 = .ok (.aload_n 0, 1) := by decide +kernel
theorem d_Reader_readRule_38 : decode b_Reader_readRule 38 = .ok (.invokevirtual 45, 3) := by decide +kernel
theorem d_Reader_readRule_41 : decode b_Reader_readRule 41 = .ok (.istore 4, 2) := by decide +kernel
theorem d_Reader_readRule_43 : decode b_Reader_readRule 43 = .ok (.iload 4, 2) := by decide +kernel
theorem d_Reader_readRule_45 : decode b_Reader_readRule 45 = .ok (.ifCond .lt 12, 3) := by decide +kernel
theorem d_Reader_readRule_48 : decode b_Reader_readRule 48 = .ok (.aload_n 0, 1) := by decide +kernel
theorem d_Reader_readRule_49 : decode b_Reader_readRule 49 = .ok (.invokevirtual 33, 3) := by decide +kernel
theorem d_Reader_readRule_52 : decode b_Reader_readRule 52 = .ok (.bipush 59, 2) := by decide +kernel
theorem d_Reader_readRule_54 : decode b_Reader_readRule 54 = .ok (.if_icmp .eq 5, 3) := by decide +kernel
theorem d_Reader_readRule_57 : decode b_Reader_readRule 57 = .ok (.iconst 0, 1) := by decide +kernel
theorem d_Reader_readRule_58 : decode b_Reader_readRule 58 = .ok (.ireturn, 1) := by decide +kernel
theorem d_Reader_readRule_59 : decode b_Reader_readRule 59 = .ok (.aload_n 1, 1) := by decide +kernel
theorem d_Reader_readRule_60 : decode b_Reader_readRule 60 = .ok (.getfield 48, 3) := by decide +kernel
theorem d_Reader_readRule_63 : decode b_Reader_readRule 63 = .ok (.iload_n 2, 1) := by decide +kernel
theorem d_Reader_readRule_64 : decode b_Reader_readRule 64 = .ok (.iload_n 3, 1) := by decide +kernel
theorem d_Reader_readRule_65 : decode b_Reader_readRule 65 = .ok (.iastore, 1) := by decide +kernel
theorem d_Reader_readRule_66 : decode b_Reader_readRule 66 = .ok (.aload_n 1, 1) := by decide +kernel
theorem d_Reader_readRule_67 : decode b_Reader_readRule 67 = .ok (.getfield 52, 3) := by decide +kernel
theorem d_Reader_readRule_70 : decode b_Reader_readRule 70 = .ok (.iload_n 2, 1) := by decide +kernel
theorem d_Reader_readRule_71 : decode b_Reader_readRule 71 = .ok (.iload 4, 2) := by decide +kernel
theorem d_Reader_readRule_73 : decode b_Reader_readRule 73 = .ok (.iastore, 1) := by decide +kernel
theorem d_Reader_readRule_74 : decode b_Reader_readRule 74 = .ok (.aload_n 1, 1) := by decide +kernel
theorem d_Reader_readRule_75 : decode b_Reader_readRule 75 = .ok (.dup, 1) := by decide +kernel
theorem d_Reader_readRule_76 : decode b_Reader_readRule 76 = .ok (.getfield 15, 3) := by decide +kernel
theorem d_Reader_readRule_79 : decode b_Reader_readRule 79 = .ok (.iconst 1, 1) := by decide +kernel
theorem d_Reader_readRule_80 : decode b_Reader_readRule 80 = .ok (.iadd, 1) := by decide +kernel
theorem d_Reader_readRule_81 : decode b_Reader_readRule 81 = .ok (.putfield 15, 3) := by decide +kernel
theorem d_Reader_readRule_84 : decode b_Reader_readRule 84 = .ok (.aload_n 1, 1) := by decide +kernel
theorem d_Reader_readRule_85 : decode b_Reader_readRule 85 = .ok (.iload_n 2, 1) := by decide +kernel
theorem d_Reader_readRule_86 : decode b_Reader_readRule 86 = .ok (.invokevirtual 55, 3) := by decide +kernel
theorem d_Reader_readRule_89 : decode b_Reader_readRule 89 = .ok (.ifCond .ne 7, 3) := by decide +kernel
theorem d_Reader_readRule_92 : decode b_Reader_readRule 92 = .ok (.iconst 1, 1) := by decide +kernel
theorem d_Reader_readRule_93 : decode b_Reader_readRule 93 = .ok (.goto 4, 3) := by decide +kernel
theorem d_Reader_readRule_96 : decode b_Reader_readRule 96 = .ok (.iconst 0, 1) := by decide +kernel
theorem d_Reader_readRule_97 : decode b_Reader_readRule 97 = .ok (.ireturn, 1) := by decide +kernel
theorem d_Reader_readInto_0 : decode b_Reader_readInto 0 = .ok (.aload_n 1, 1) := by decide +kernel
theorem d_Reader_readInto_1 : decode b_Reader_readInto 1 = .ok (.iconst 0, 1) := by decide +kernel
theorem d_Reader_readInto_2 : decode b_Reader_readInto 2 = .ok (.putfield 15, 3) := by decide +kernel
theorem d_Reader_readInto_5 : decode b_Reader_readInto 5 = .ok (.aload_n 0, 1) := by decide +kernel
theorem d_Reader_readInto_6 : decode b_Reader_readInto 6 = .ok (.iconst 0, 1) := by decide +kernel
theorem d_Reader_readInto_7 : decode b_Reader_readInto 7 = .ok (.putfield 21, 3) := by decide +kernel
theorem d_Reader_readInto_10 : decode b_Reader_readInto 10 = .ok (.iconst 1, 1) := by decide +kernel
theorem d_Reader_readInto_11 : decode b_Reader_readInto 11 = .ok (.istore_n 2, 1) := by decide +kernel
theorem d_Reader_readInto_12 : decode b_Reader_readInto 12 = .ok (.iload_n 2, 1) := by decide +kernel
theorem d_Reader_readInto_13 : decode b_Reader_readInto 13 = .ok (.bipush 14, 2) := by decide +kernel
theorem d_Reader_readInto_15 : decode b_Reader_readInto 15 = .ok (.if_icmp .gt 36, 3) := by decide +kernel
theorem d_Reader_readInto_18 : decode b_Reader_readInto 18 = .ok (.aload_n 0, 1) := by decide +kernel
theorem d_Reader_readInto_19 : decode b_Reader_readInto 19 = .ok (.aload_n 1, 1) := by decide +kernel
theorem d_Reader_readInto_20 : decode b_Reader_readInto 20 = .ok (.invokevirtual 24, 3) := by decide +kernel
theorem d_Reader_readInto_23 : decode b_Reader_readInto 23 = .ok (.ifCond .ne 6, 3) := by decide +kernel
theorem d_Reader_readInto_26 : decode b_Reader_readInto 26 = .ok (.iload_n 2, 1) := by decide +kernel
theorem d_Reader_readInto_27 : decode b_Reader_readInto 27 = .ok (.ineg, 1) := by decide +kernel
theorem d_Reader_readInto_28 : decode b_Reader_readInto 28 = .ok (.ireturn, 1) := by decide +kernel
theorem d_Reader_readInto_29 : decode b_Reader_readInto 29 = .ok (.aload_n 0, 1) := by decide +kernel
theorem d_Reader_readInto_30 : decode b_Reader_readInto 30 = .ok (.getfield 21, 3) := by decide +kernel
theorem d_Reader_readInto_33 : decode b_Reader_readInto 33 = .ok (.aload_n 0, 1) := by decide +kernel
theorem d_Reader_readInto_34 : decode b_Reader_readInto 34 = .ok (.getfield 9, 3) := by decide +kernel
theorem d_Reader_readInto_37 : decode b_Reader_readInto 37 = .ok (.getfield 28, 3) := by decide +kernel
theorem d_Reader_readInto_40 : decode b_Reader_readInto 40 = .ok (.if_icmp .lt 5, 3) := by decide +kernel
theorem d_Reader_readInto_43 : decode b_Reader_readInto 43 = .ok (.iconst 0, 1) := by decide +kernel
theorem d_Reader_readInto_44 : decode b_Reader_readInto 44 = .ok (.ireturn, 1) := by decide +kernel
theorem d_Reader_readInto_45 : decode b_Reader_readInto 45 = .ok (.iinc 2 1, 3) := by decide +kernel
theorem d_Reader_readInto_48 : decode b_Reader_readInto 48 = .ok (.goto (-36), 3) := by decide +kernel
theorem d_Reader_readInto_51 : decode b_Reader_readInto 51 = .ok (.bipush (-15), 2) := by decide +kernel
theorem d_Reader_readInto_53 : decode b_Reader_readInto 53 = .ok (.ireturn, 1) := by decide +kernel
theorem d_RT_bitOf_0 : decode b_RT_bitOf 0 = .ok (.iconst 1, 1) := by decide +kernel
theorem d_RT_bitOf_1 : decode b_RT_bitOf 1 = .ok (.iload_n 0, 1) := by decide +kernel
theorem d_RT_bitOf_2 : decode b_RT_bitOf 2 = .ok (.bipush 65, 2) := by decide +kernel
theorem d_RT_bitOf_4 : decode b_RT_bitOf 4 = .ok (.isub, 1) := by decide +kernel
theorem d_RT_bitOf_5 : decode b_RT_bitOf 5 = .ok (.ishl, 1) := by decide +kernel
theorem d_RT_bitOf_6 : decode b_RT_bitOf 6 = .ok (.ireturn, 1) := by decide +kernel
theorem d_Grammar_lettersIn_0 : decode b_Grammar_lettersIn 0 = .ok (.iconst 0, 1) := by decide +kernel
theorem d_Grammar_lettersIn_1 : decode b_Grammar_lettersIn 1 = .ok (.istore_n 2, 1) := by decide +kernel
theorem d_Grammar_lettersIn_2 : decode b_Grammar_lettersIn 2 = .ok (.iconst 0, 1) := by decide +kernel
theorem d_Grammar_lettersIn_3 : decode b_Grammar_lettersIn 3 = .ok (.istore_n 3, 1) := by decide +kernel
theorem d_Grammar_lettersIn_4 : decode b_Grammar_lettersIn 4 = .ok (.iload_n 3, 1) := by decide +kernel
theorem d_Grammar_lettersIn_5 : decode b_Grammar_lettersIn 5 = .ok (.aload_n 0, 1) := by decide +kernel
theorem d_Grammar_lettersIn_6 : decode b_Grammar_lettersIn 6 = .ok (.getfield 18, 3) := by decide +kernel
theorem d_Grammar_lettersIn_9 : decode b_Grammar_lettersIn 9 = .ok (.iload_n 1, 1) := by decide +kernel
theorem d_Grammar_lettersIn_10 : decode b_Grammar_lettersIn 10 = .ok (.iaload, 1) := by decide +kernel
theorem d_Grammar_lettersIn_11 : decode b_Grammar_lettersIn 11 = .ok (.if_icmp .ge 33, 3) := by decide +kernel
theorem d_Grammar_lettersIn_14 : decode b_Grammar_lettersIn 14 = .ok (.aload_n 0, 1) := by decide +kernel
theorem d_Grammar_lettersIn_15 : decode b_Grammar_lettersIn 15 = .ok (.iload_n 1, 1) := by decide +kernel
theorem d_Grammar_lettersIn_16 : decode b_Grammar_lettersIn 16 = .ok (.iload_n 3, 1) := by decide +kernel
theorem d_Grammar_lettersIn_17 : decode b_Grammar_lettersIn 17 = .ok (.invokevirtual 31, 3) := by decide +kernel
theorem d_Grammar_lettersIn_20 : decode b_Grammar_lettersIn 20 = .ok (.invokestatic 50, 3) := by decide +kernel
theorem d_Grammar_lettersIn_23 : decode b_Grammar_lettersIn 23 = .ok (.ifCond .eq 15, 3) := by decide +kernel
theorem d_Grammar_lettersIn_26 : decode b_Grammar_lettersIn 26 = .ok (.iload_n 2, 1) := by decide +kernel
theorem d_Grammar_lettersIn_27 : decode b_Grammar_lettersIn 27 = .ok (.aload_n 0, 1) := by decide +kernel
theorem d_Grammar_lettersIn_28 : decode b_Grammar_lettersIn 28 = .ok (.iload_n 1, 1) := by decide +kernel
theorem d_Grammar_lettersIn_29 : decode b_Grammar_lettersIn 29 = .ok (.iload_n 3, 1) := by decide +kernel
theorem d_Grammar_lettersIn_30 : decode b_Grammar_lettersIn 30 = .ok (.invokevirtual 31, 3) := by decide +kernel
theorem d_Grammar_lettersIn_33 : decode b_Grammar_lettersIn 33 = .ok (.invokestatic 39, 3) := by decide +kernel
theorem d_Grammar_lettersIn_36 : decode b_Grammar_lettersIn 36 = .ok (.ior, 1) := by decide +kernel
theorem d_Grammar_lettersIn_37 : decode b_Grammar_lettersIn 37 = .ok (.istore_n 2, 1) := by decide +kernel
theorem d_Grammar_lettersIn_38 : decode b_Grammar_lettersIn 38 = .ok (.iinc 3 1, 3) := by decide +kernel
theorem d_Grammar_lettersIn_41 : decode b_Grammar_lettersIn 41 = .ok (.goto (-37), 3) := by decide +kernel
theorem d_Grammar_lettersIn_44 : decode b_Grammar_lettersIn 44 = .ok (.iload_n 2, 1) := by decide +kernel
theorem d_Grammar_lettersIn_45 : decode b_Grammar_lettersIn 45 = .ok (.ireturn, 1) := by decide +kernel
theorem d_Grammar_fertileLetters_0 : decode b_Grammar_fertileLetters 0 = .ok (.iconst 0, 1) := by decide +kernel
theorem d_Grammar_fertileLetters_1 : decode b_Grammar_fertileLetters 1 = .ok (.istore_n 1, 1) := by decide +kernel
theorem d_Grammar_fertileLetters_2 : decode b_Grammar_fertileLetters 2 = .ok (.iconst 0, 1) := by decide +kernel
theorem d_Grammar_fertileLetters_3 : decode b_Grammar_fertileLetters 3 = .ok (.istore_n 2, 1) := by decide +kernel
theorem d_Grammar_fertileLetters_4 : decode b_Grammar_fertileLetters 4 = .ok (.iload_n 2, 1) := by decide +kernel
theorem d_Grammar_fertileLetters_5 : decode b_Grammar_fertileLetters 5 = .ok (.iconst 5, 1) := by decide +kernel
theorem d_Grammar_fertileLetters_6 : decode b_Grammar_fertileLetters 6 = .ok (.if_icmp .ge 49, 3) := by decide +kernel
theorem d_Grammar_fertileLetters_9 : decode b_Grammar_fertileLetters 9 = .ok (.iconst 0, 1) := by decide +kernel
theorem d_Grammar_fertileLetters_10 : decode b_Grammar_fertileLetters 10 = .ok (.istore_n 3, 1) := by decide +kernel
theorem d_Grammar_fertileLetters_11 : decode b_Grammar_fertileLetters 11 = .ok (.iload_n 3, 1) := by decide +kernel
theorem d_Grammar_fertileLetters_12 : decode b_Grammar_fertileLetters 12 = .ok (.aload_n 0, 1) := by decide +kernel
theorem d_Grammar_fertileLetters_13 : decode b_Grammar_fertileLetters 13 = .ok (.getfield 43, 3) := by decide +kernel
theorem d_Grammar_fertileLetters_16 : decode b_Grammar_fertileLetters 16 = .ok (.if_icmp .ge 33, 3) := by decide +kernel
theorem d_Grammar_fertileLetters_19 : decode b_Grammar_fertileLetters 19 = .ok (.aload_n 0, 1) := by decide +kernel
theorem d_Grammar_fertileLetters_20 : decode b_Grammar_fertileLetters 20 = .ok (.iload_n 3, 1) := by decide +kernel
theorem d_Grammar_fertileLetters_21 : decode b_Grammar_fertileLetters 21 = .ok (.invokevirtual 47, 3) := by decide +kernel
theorem d_Grammar_fertileLetters_24 : decode b_Grammar_fertileLetters 24 = .ok (.iload_n 1, 1) := by decide +kernel
theorem d_Grammar_fertileLetters_25 : decode b_Grammar_fertileLetters 25 = .ok (.iconst (-1), 1) := by decide +kernel
theorem d_Grammar_fertileLetters_26 : decode b_Grammar_fertileLetters 26 = .ok (.ixor, 1) := by decide +kernel
theorem d_Grammar_fertileLetters_27 : decode b_Grammar_fertileLetters 27 = .ok (.iand, 1) := by decide +kernel
theorem d_Grammar_fertileLetters_28 : decode b_Grammar_fertileLetters 28 = .ok (.ifCond .ne 15, 3) := by decide +kernel
theorem d_Grammar_fertileLetters_31 : decode b_Grammar_fertileLetters 31 = .ok (.iload_n 1, 1) := by decide +kernel
theorem d_Grammar_fertileLetters_32 : decode b_Grammar_fertileLetters 32 = .ok (.aload_n 0, 1) := by decide +kernel
theorem d_Grammar_fertileLetters_33 : decode b_Grammar_fertileLetters 33 = .ok (.getfield 9, 3) := by decide +kernel
theorem d_Grammar_fertileLetters_36 : decode b_Grammar_fertileLetters 36 = .ok (.iload_n 3, 1) := by decide +kernel
theorem d_Grammar_fertileLetters_37 : decode b_Grammar_fertileLetters 37 = .ok (.iaload, 1) := by decide +kernel
theorem d_Grammar_fertileLetters_38 : decode b_Grammar_fertileLetters 38 = .ok (.invokestatic 39, 3) := by decide +kernel
theorem d_Grammar_fertileLetters_41 : decode b_Grammar_fertileLetters 41 = .ok (.ior, 1) := by decide +kernel
theorem d_Grammar_fertileLetters_42 : decode b_Grammar_fertileLetters 42 = .ok (.istore_n 1, 1) := by decide +kernel
theorem d_Grammar_fertileLetters_43 : decode b_Grammar_fertileLetters 43 = .ok (.iinc 3 1, 3) := by decide +kernel
theorem d_Grammar_fertileLetters_46 : decode b_Grammar_fertileLetters 46 = .ok (.goto (-35), 3) := by decide +kernel
theorem d_Grammar_fertileLetters_49 : decode b_Grammar_fertileLetters 49 = .ok (.iinc 2 1, 3) := by decide +kernel
theorem d_Grammar_fertileLetters_52 : decode b_Grammar_fertileLetters 52 = .ok (.goto (-48), 3) := by decide +kernel
theorem d_Grammar_fertileLetters_55 : decode b_Grammar_fertileLetters 55 = .ok (.iload_n 1, 1) := by decide +kernel
theorem d_Grammar_fertileLetters_56 : decode b_Grammar_fertileLetters 56 = .ok (.ireturn, 1) := by decide +kernel
theorem d_Grammar_markUseful_0 : decode b_Grammar_markUseful 0 = .ok (.aload_n 0, 1) := by decide +kernel
theorem d_Grammar_markUseful_1 : decode b_Grammar_markUseful 1 = .ok (.invokevirtual 35, 3) := by decide +kernel
theorem d_Grammar_markUseful_4 : decode b_Grammar_markUseful 4 = .ok (.istore_n 1, 1) := by decide +kernel
theorem d_Grammar_markUseful_5 : decode b_Grammar_markUseful 5 = .ok (.aload_n 0, 1) := by decide +kernel
theorem d_Grammar_markUseful_6 : decode b_Grammar_markUseful 6 = .ok (.getfield 9, 3) := by decide +kernel
theorem d_Grammar_markUseful_9 : decode b_Grammar_markUseful 9 = .ok (.iconst 0, 1) := by decide +kernel
theorem d_Grammar_markUseful_10 : decode b_Grammar_markUseful 10 = .ok (.iaload, 1) := by decide +kernel
theorem d_Grammar_markUseful_11 : decode b_Grammar_markUseful 11 = .ok (.invokestatic 39, 3) := by decide +kernel
theorem d_Grammar_markUseful_14 : decode b_Grammar_markUseful 14 = .ok (.istore_n 2, 1) := by decide +kernel
theorem d_Grammar_markUseful_15 : decode b_Grammar_markUseful 15 = .ok (.iconst 0, 1) := by decide +kernel
theorem d_Grammar_markUseful_16 : decode b_Grammar_markUseful 16 = .ok (.istore_n 3, 1) := by decide +kernel
theorem d_Grammar_markUseful_17 : decode b_Grammar_markUseful 17 = .ok (.iload_n 3, 1) := by decide +kernel
theorem d_Grammar_markUseful_18 : decode b_Grammar_markUseful 18 = .ok (.aload_n 0, 1) := by decide +kernel
theorem d_Grammar_markUseful_19 : decode b_Grammar_markUseful 19 = .ok (.getfield 43, 3) := by decide +kernel
theorem d_Grammar_markUseful_22 : decode b_Grammar_markUseful 22 = .ok (.if_icmp .ge 16, 3) := by decide +kernel
theorem d_Grammar_markUseful_25 : decode b_Grammar_markUseful 25 = .ok (.aload_n 0, 1) := by decide +kernel
theorem d_Grammar_markUseful_26 : decode b_Grammar_markUseful 26 = .ok (.getfield 24, 3) := by decide +kernel
theorem d_Grammar_markUseful_29 : decode b_Grammar_markUseful 29 = .ok (.iload_n 3, 1) := by decide +kernel
theorem d_Grammar_markUseful_30 : decode b_Grammar_markUseful 30 = .ok (.iconst 0, 1) := by decide +kernel
theorem d_Grammar_markUseful_31 : decode b_Grammar_markUseful 31 = .ok (.bastore, 1) := by decide +kernel
theorem d_Grammar_markUseful_32 : decode b_Grammar_markUseful 32 = .ok (.iinc 3 1, 3) := by decide +kernel
theorem d_Grammar_markUseful_35 : decode b_Grammar_markUseful 35 = .ok (.goto (-18), 3) := by decide +kernel
theorem d_Grammar_markUseful_38 : decode b_Grammar_markUseful 38 = .ok (.iconst 0, 1) := by decide +kernel
theorem d_Grammar_markUseful_39 : decode b_Grammar_markUseful 39 = .ok (.istore_n 3, 1) := by decide +kernel
theorem d_Grammar_markUseful_40 : decode b_Grammar_markUseful 40 = .ok (.iload_n 3, 1) := by decide +kernel
theorem d_Grammar_markUseful_41 : decode b_Grammar_markUseful 41 = .ok (.iconst 5, 1) := by decide +kernel
theorem d_Grammar_markUseful_42 : decode b_Grammar_markUseful 42 = .ok (.if_icmp .ge 72, 3) := by decide +kernel
theorem d_Grammar_markUseful_45 : decode b_Grammar_markUseful 45 = .ok (.iconst 0, 1) := by decide +kernel
theorem d_Grammar_markUseful_46 : decode b_Grammar_markUseful 46 = .ok (.istore 4, 2) := by decide +kernel
theorem d_Grammar_markUseful_48 : decode b_Grammar_markUseful 48 = .ok (.iload 4, 2) := by decide +kernel
theorem d_Grammar_markUseful_50 : decode b_Grammar_markUseful 50 = .ok (.aload_n 0, 1) := by decide +kernel
theorem d_Grammar_markUseful_51 : decode b_Grammar_markUseful 51 = .ok (.getfield 43, 3) := by decide +kernel
theorem d_Grammar_markUseful_54 : decode b_Grammar_markUseful 54 = .ok (.if_icmp .ge 54, 3) := by decide +kernel
theorem d_Grammar_markUseful_57 : decode b_Grammar_markUseful 57 = .ok (.aload_n 0, 1) := by decide +kernel
theorem d_Grammar_markUseful_58 : decode b_Grammar_markUseful 58 = .ok (.iload 4, 2) := by decide +kernel
theorem d_Grammar_markUseful_60 : decode b_Grammar_markUseful 60 = .ok (.invokevirtual 47, 3) := by decide +kernel
theorem d_Grammar_markUseful_63 : decode b_Grammar_markUseful 63 = .ok (.istore 5, 2) := by decide +kernel
theorem d_Grammar_markUseful_65 : decode b_Grammar_markUseful 65 = .ok (.iload_n 2, 1) := by decide +kernel
theorem d_Grammar_markUseful_66 : decode b_Grammar_markUseful 66 = .ok (.aload_n 0, 1) := by decide +kernel
theorem d_Grammar_markUseful_67 : decode b_Grammar_markUseful 67 = .ok (.getfield 9, 3) := by decide +kernel
theorem d_Grammar_markUseful_70 : decode b_Grammar_markUseful 70 = .ok (.iload 4, 2) := by decide +kernel
theorem d_Grammar_markUseful_72 : decode b_Grammar_markUseful 72 = .ok (.iaload, 1) := by decide +kernel
theorem d_Grammar_markUseful_73 : decode b_Grammar_markUseful 73 = .ok (.invokestatic 39, 3) := by decide +kernel
theorem d_Grammar_markUseful_76 : decode b_Grammar_markUseful 76 = .ok (.iand, 1) := by decide +kernel
theorem d_Grammar_markUseful_77 : decode b_Grammar_markUseful 77 = .ok (.ifCond .eq 25, 3) := by decide +kernel
theorem d_Grammar_markUseful_80 : decode b_Grammar_markUseful 80 = .ok (.iload 5, 2) := by decide +kernel
theorem d_Grammar_markUseful_82 : decode b_Grammar_markUseful 82 = .ok (.iload_n 1, 1) := by decide +kernel
