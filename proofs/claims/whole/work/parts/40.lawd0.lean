abbrev b_Law_law : ByteArray := code
theorem tb_42 : (Cond.initialized R_Law) ∈ TB := tb_mem (i := 42) (by decide +kernel) (by decide +kernel)
theorem tb_238 : (Cond.methodLink R_Law 50 y_RT_write) ∈ TB := tb_mem (i := 238) (by decide +kernel) (by decide +kernel)
theorem tb_239 : (Cond.instanceMethod y_RT_write) ∈ TB := tb_mem (i := 239) (by decide +kernel) (by decide +kernel)
theorem tb_240 : (Cond.selects R_RT y_RT_write y_RT_write) ∈ TB := tb_mem (i := 240) (by decide +kernel) (by decide +kernel)
theorem tb_241 : (Cond.code y_RT_write b_RT_write 3 (some .boolean)) ∈ TB := tb_mem (i := 241) (by decide +kernel) (by decide +kernel)
theorem tb_246 : (Cond.methodLink R_Law 55 y_RT_wipe) ∈ TB := tb_mem (i := 246) (by decide +kernel) (by decide +kernel)
theorem tb_247 : (Cond.instanceMethod y_RT_wipe) ∈ TB := tb_mem (i := 247) (by decide +kernel) (by decide +kernel)
theorem tb_248 : (Cond.selects R_RT y_RT_wipe y_RT_wipe) ∈ TB := tb_mem (i := 248) (by decide +kernel) (by decide +kernel)
theorem tb_249 : (Cond.code y_RT_wipe b_RT_wipe 1 none) ∈ TB := tb_mem (i := 249) (by decide +kernel) (by decide +kernel)
theorem tb_250 : (Cond.methodLink R_Law 59 y_RT_load) ∈ TB := tb_mem (i := 250) (by decide +kernel) (by decide +kernel)
theorem tb_251 : (Cond.instanceMethod y_RT_load) ∈ TB := tb_mem (i := 251) (by decide +kernel) (by decide +kernel)
theorem tb_252 : (Cond.selects R_RT y_RT_load y_RT_load) ∈ TB := tb_mem (i := 252) (by decide +kernel) (by decide +kernel)
theorem tb_253 : (Cond.code y_RT_load b_RT_load 3 (some .int)) ∈ TB := tb_mem (i := 253) (by decide +kernel) (by decide +kernel)
theorem tb_327 : (Cond.methodLink R_Law 64 y_RT_rules) ∈ TB := tb_mem (i := 327) (by decide +kernel) (by decide +kernel)
theorem tb_328 : (Cond.instanceMethod y_RT_rules) ∈ TB := tb_mem (i := 328) (by decide +kernel) (by decide +kernel)
theorem tb_329 : (Cond.selects R_RT y_RT_rules y_RT_rules) ∈ TB := tb_mem (i := 329) (by decide +kernel) (by decide +kernel)
theorem tb_330 : (Cond.code y_RT_rules b_RT_rules 1 (some .int)) ∈ TB := tb_mem (i := 330) (by decide +kernel) (by decide +kernel)
theorem tb_331 : (Cond.methodLink R_Law 81 y_RT_drop) ∈ TB := tb_mem (i := 331) (by decide +kernel) (by decide +kernel)
theorem tb_332 : (Cond.instanceMethod y_RT_drop) ∈ TB := tb_mem (i := 332) (by decide +kernel) (by decide +kernel)
theorem tb_333 : (Cond.selects R_RT y_RT_drop y_RT_drop) ∈ TB := tb_mem (i := 333) (by decide +kernel) (by decide +kernel)
theorem tb_334 : (Cond.code y_RT_drop b_RT_drop 2 (some .int)) ∈ TB := tb_mem (i := 334) (by decide +kernel) (by decide +kernel)
theorem tb_335 : (Cond.methodLink R_Law 68 y_Law_rule) ∈ TB := tb_mem (i := 335) (by decide +kernel) (by decide +kernel)
theorem tb_336 : (Cond.static y_Law_rule) ∈ TB := tb_mem (i := 336) (by decide +kernel) (by decide +kernel)
theorem tb_337 : (Cond.codeWith y_Law_rule b_Law_rule 5 (some .int) [(0, 10, 13, 13), (0, 10, 17, 15)]) ∈ TB := tb_mem (i := 337) (by decide +kernel) (by decide +kernel)
theorem tb_430 : (Cond.methodLink R_Law 77 y_Law_token) ∈ TB := tb_mem (i := 430) (by decide +kernel) (by decide +kernel)
theorem tb_431 : (Cond.static y_Law_token) ∈ TB := tb_mem (i := 431) (by decide +kernel) (by decide +kernel)
theorem tb_432 : (Cond.codeWith y_Law_token b_Law_token 4 (some .int) [(0, 9, 12, 15), (0, 9, 15, 21)]) ∈ TB := tb_mem (i := 432) (by decide +kernel) (by decide +kernel)
theorem tb_456 : (Cond.methodLink R_Law 85 y_Law_trees) ∈ TB := tb_mem (i := 456) (by decide +kernel) (by decide +kernel)
theorem tb_457 : (Cond.static y_Law_trees) ∈ TB := tb_mem (i := 457) (by decide +kernel) (by decide +kernel)
theorem tb_458 : (Cond.codeWith y_Law_trees b_Law_trees 3 (some .int) [(0, 7, 10, 21)]) ∈ TB := tb_mem (i := 458) (by decide +kernel) (by decide +kernel)
theorem tb_528 : (Cond.methodLink R_Law 89 y_Law_ways) ∈ TB := tb_mem (i := 528) (by decide +kernel) (by decide +kernel)
theorem tb_529 : (Cond.static y_Law_ways) ∈ TB := tb_mem (i := 529) (by decide +kernel) (by decide +kernel)
theorem tb_530 : (Cond.codeWith y_Law_ways b_Law_ways 6 (some .int) [(0, 11, 14, 21), (0, 11, 18, 15), (0, 11, 22, 13)]) ∈ TB := tb_mem (i := 530) (by decide +kernel) (by decide +kernel)
theorem tb_538 : (Cond.methodLink R_Law 93 y_Law_weight) ∈ TB := tb_mem (i := 538) (by decide +kernel) (by decide +kernel)
theorem tb_539 : (Cond.static y_Law_weight) ∈ TB := tb_mem (i := 539) (by decide +kernel) (by decide +kernel)
theorem tb_540 : (Cond.codeWith y_Law_weight b_Law_weight 4 (some .int) [(0, 9, 12, 21), (0, 9, 15, 15), (0, 9, 18, 35)]) ∈ TB := tb_mem (i := 540) (by decide +kernel) (by decide +kernel)
theorem tb_568 : (Cond.methodLink R_Law 97 y_Law_size) ∈ TB := tb_mem (i := 568) (by decide +kernel) (by decide +kernel)
theorem tb_569 : (Cond.static y_Law_size) ∈ TB := tb_mem (i := 569) (by decide +kernel) (by decide +kernel)
theorem tb_570 : (Cond.codeWith y_Law_size b_Law_size 4 (some .int) [(0, 9, 12, 21), (0, 9, 15, 15), (0, 9, 18, 35)]) ∈ TB := tb_mem (i := 570) (by decide +kernel) (by decide +kernel)
theorem tb_575 : (Cond.methodLink R_Law 100 y_Law_at) ∈ TB := tb_mem (i := 575) (by decide +kernel) (by decide +kernel)
theorem tb_576 : (Cond.static y_Law_at) ∈ TB := tb_mem (i := 576) (by decide +kernel) (by decide +kernel)
theorem tb_577 : (Cond.codeWith y_Law_at b_Law_at 6 (some .int) [(0, 12, 15, 21), (0, 12, 19, 15), (0, 12, 23, 35), (0, 12, 27, 13)]) ∈ TB := tb_mem (i := 577) (by decide +kernel) (by decide +kernel)
theorem tb_698 : (Cond.methodLink R_Law 74 y_M_thrown) ∈ TB := tb_mem (i := 698) (by decide +kernel) (by decide +kernel)
theorem tb_699 : (Cond.instanceMethod y_M_thrown) ∈ TB := tb_mem (i := 699) (by decide +kernel) (by decide +kernel)
theorem tb_700 : (Cond.selects R_M y_M_thrown y_M_thrown) ∈ TB := tb_mem (i := 700) (by decide +kernel) (by decide +kernel)
theorem tb_701 : (Cond.code y_M_thrown b_M_thrown 1 (some .int)) ∈ TB := tb_mem (i := 701) (by decide +kernel) (by decide +kernel)
theorem tb_702 : (Cond.methodLink R_Law 54 y_M_write) ∈ TB := tb_mem (i := 702) (by decide +kernel) (by decide +kernel)
theorem tb_703 : (Cond.instanceMethod y_M_write) ∈ TB := tb_mem (i := 703) (by decide +kernel) (by decide +kernel)
theorem tb_704 : (Cond.selects R_M y_M_write y_M_write) ∈ TB := tb_mem (i := 704) (by decide +kernel) (by decide +kernel)
theorem tb_705 : (Cond.code y_M_write b_M_write 6 (some .boolean)) ∈ TB := tb_mem (i := 705) (by decide +kernel) (by decide +kernel)
theorem tb_707 : (Cond.methodLink R_Law 58 y_M_wipe) ∈ TB := tb_mem (i := 707) (by decide +kernel) (by decide +kernel)
theorem tb_708 : (Cond.instanceMethod y_M_wipe) ∈ TB := tb_mem (i := 708) (by decide +kernel) (by decide +kernel)
theorem tb_709 : (Cond.selects R_M y_M_wipe y_M_wipe) ∈ TB := tb_mem (i := 709) (by decide +kernel) (by decide +kernel)
theorem tb_710 : (Cond.code y_M_wipe b_M_wipe 1 none) ∈ TB := tb_mem (i := 710) (by decide +kernel) (by decide +kernel)
theorem tb_711 : (Cond.methodLink R_Law 63 y_M_load) ∈ TB := tb_mem (i := 711) (by decide +kernel) (by decide +kernel)
theorem tb_712 : (Cond.instanceMethod y_M_load) ∈ TB := tb_mem (i := 712) (by decide +kernel) (by decide +kernel)
theorem tb_713 : (Cond.selects R_M y_M_load y_M_load) ∈ TB := tb_mem (i := 713) (by decide +kernel) (by decide +kernel)
theorem tb_714 : (Cond.code y_M_load b_M_load 1 (some .int)) ∈ TB := tb_mem (i := 714) (by decide +kernel) (by decide +kernel)
theorem tb_761 : (Cond.methodLink R_Law 67 y_M_rules) ∈ TB := tb_mem (i := 761) (by decide +kernel) (by decide +kernel)
theorem tb_762 : (Cond.instanceMethod y_M_rules) ∈ TB := tb_mem (i := 762) (by decide +kernel) (by decide +kernel)
theorem tb_763 : (Cond.selects R_M y_M_rules y_M_rules) ∈ TB := tb_mem (i := 763) (by decide +kernel) (by decide +kernel)
theorem tb_764 : (Cond.code y_M_rules b_M_rules 1 (some .int)) ∈ TB := tb_mem (i := 764) (by decide +kernel) (by decide +kernel)
theorem tb_765 : (Cond.methodLink R_Law 73 y_M_rule) ∈ TB := tb_mem (i := 765) (by decide +kernel) (by decide +kernel)
theorem tb_766 : (Cond.instanceMethod y_M_rule) ∈ TB := tb_mem (i := 766) (by decide +kernel) (by decide +kernel)
theorem tb_767 : (Cond.selects R_M y_M_rule y_M_rule) ∈ TB := tb_mem (i := 767) (by decide +kernel) (by decide +kernel)
theorem tb_768 : (Cond.code y_M_rule b_M_rule 3 (some .int)) ∈ TB := tb_mem (i := 768) (by decide +kernel) (by decide +kernel)
theorem tb_769 : (Cond.methodLink R_Law 80 y_M_token) ∈ TB := tb_mem (i := 769) (by decide +kernel) (by decide +kernel)
theorem tb_770 : (Cond.instanceMethod y_M_token) ∈ TB := tb_mem (i := 770) (by decide +kernel) (by decide +kernel)
theorem tb_771 : (Cond.selects R_M y_M_token y_M_token) ∈ TB := tb_mem (i := 771) (by decide +kernel) (by decide +kernel)
theorem tb_772 : (Cond.code y_M_token b_M_token 2 (some .int)) ∈ TB := tb_mem (i := 772) (by decide +kernel) (by decide +kernel)
theorem tb_773 : (Cond.methodLink R_Law 84 y_M_drop) ∈ TB := tb_mem (i := 773) (by decide +kernel) (by decide +kernel)
theorem tb_774 : (Cond.instanceMethod y_M_drop) ∈ TB := tb_mem (i := 774) (by decide +kernel) (by decide +kernel)
theorem tb_775 : (Cond.selects R_M y_M_drop y_M_drop) ∈ TB := tb_mem (i := 775) (by decide +kernel) (by decide +kernel)
theorem tb_776 : (Cond.code y_M_drop b_M_drop 2 (some .int)) ∈ TB := tb_mem (i := 776) (by decide +kernel) (by decide +kernel)
theorem tb_777 : (Cond.methodLink R_Law 88 y_M_trees) ∈ TB := tb_mem (i := 777) (by decide +kernel) (by decide +kernel)
theorem tb_778 : (Cond.instanceMethod y_M_trees) ∈ TB := tb_mem (i := 778) (by decide +kernel) (by decide +kernel)
theorem tb_779 : (Cond.selects R_M y_M_trees y_M_trees) ∈ TB := tb_mem (i := 779) (by decide +kernel) (by decide +kernel)
theorem tb_780 : (Cond.code y_M_trees b_M_trees 1 (some .long)) ∈ TB := tb_mem (i := 780) (by decide +kernel) (by decide +kernel)
theorem tb_832 : (Cond.methodLink R_Law 92 y_M_ways) ∈ TB := tb_mem (i := 832) (by decide +kernel) (by decide +kernel)
theorem tb_833 : (Cond.instanceMethod y_M_ways) ∈ TB := tb_mem (i := 833) (by decide +kernel) (by decide +kernel)
theorem tb_834 : (Cond.selects R_M y_M_ways y_M_ways) ∈ TB := tb_mem (i := 834) (by decide +kernel) (by decide +kernel)
theorem tb_835 : (Cond.code y_M_ways b_M_ways 4 (some .long)) ∈ TB := tb_mem (i := 835) (by decide +kernel) (by decide +kernel)
theorem tb_836 : (Cond.methodLink R_Law 96 y_M_weight) ∈ TB := tb_mem (i := 836) (by decide +kernel) (by decide +kernel)
theorem tb_837 : (Cond.instanceMethod y_M_weight) ∈ TB := tb_mem (i := 837) (by decide +kernel) (by decide +kernel)
theorem tb_838 : (Cond.selects R_M y_M_weight y_M_weight) ∈ TB := tb_mem (i := 838) (by decide +kernel) (by decide +kernel)
theorem tb_839 : (Cond.code y_M_weight b_M_weight 3 (some .int)) ∈ TB := tb_mem (i := 839) (by decide +kernel) (by decide +kernel)
theorem tb_844 : (Cond.methodLink R_Law 99 y_M_size) ∈ TB := tb_mem (i := 844) (by decide +kernel) (by decide +kernel)
theorem tb_845 : (Cond.instanceMethod y_M_size) ∈ TB := tb_mem (i := 845) (by decide +kernel) (by decide +kernel)
theorem tb_846 : (Cond.selects R_M y_M_size y_M_size) ∈ TB := tb_mem (i := 846) (by decide +kernel) (by decide +kernel)
theorem tb_847 : (Cond.code y_M_size b_M_size 3 (some .int)) ∈ TB := tb_mem (i := 847) (by decide +kernel) (by decide +kernel)
theorem tb_848 : (Cond.methodLink R_Law 103 y_M_at) ∈ TB := tb_mem (i := 848) (by decide +kernel) (by decide +kernel)
theorem tb_849 : (Cond.instanceMethod y_M_at) ∈ TB := tb_mem (i := 849) (by decide +kernel) (by decide +kernel)
theorem tb_850 : (Cond.selects R_M y_M_at y_M_at) ∈ TB := tb_mem (i := 850) (by decide +kernel) (by decide +kernel)
theorem tb_851 : (Cond.code y_M_at b_M_at 6 (some .int)) ∈ TB := tb_mem (i := 851) (by decide +kernel) (by decide +kernel)
theorem tb_852 : (Cond.constantLong R_Law 48 4294967295) ∈ TB := tb_mem (i := 852) (by decide +kernel) (by decide +kernel)
theorem d_Law_law_0 : decode b_Law_law 0 = .ok (.new 8, 3) := by decide +kernel
theorem d_Law_law_3 : decode b_Law_law 3 = .ok (.dup, 1) := by decide +kernel
theorem d_Law_law_4 : decode b_Law_law 4 = .ok (.invokespecial 44, 3) := by decide +kernel
theorem d_Law_law_7 : decode b_Law_law 7 = .ok (.astore_n 1, 1) := by decide +kernel
theorem d_Law_law_8 : decode b_Law_law 8 = .ok (.new 45, 3) := by decide +kernel
theorem d_Law_law_11 : decode b_Law_law 11 = .ok (.dup, 1) := by decide +kernel
theorem d_Law_law_12 : decode b_Law_law 12 = .ok (.invokespecial 47, 3) := by decide +kernel
theorem d_Law_law_15 : decode b_Law_law 15 = .ok (.astore_n 2, 1) := by decide +kernel
theorem d_Law_law_16 : decode b_Law_law 16 = .ok (.iconst 1, 1) := by decide +kernel
theorem d_Law_law_17 : decode b_Law_law 17 = .ok (.newarray .long, 2) := by decide +kernel
theorem d_Law_law_19 : decode b_Law_law 19 = .ok (.astore_n 3, 1) := by decide +kernel
theorem d_Law_law_20 : decode b_Law_law 20 = .ok (.iconst 0, 1) := by decide +kernel
theorem d_Law_law_21 : decode b_Law_law 21 = .ok (.istore 4, 2) := by decide +kernel
theorem d_Law_law_23 : decode b_Law_law 23 = .ok (.iload 4, 2) := by decide +kernel
theorem d_Law_law_25 : decode b_Law_law 25 = .ok (.aload_n 0, 1) := by decide +kernel
theorem d_Law_law_26 : decode b_Law_law 26 = .ok (.arraylength, 1) := by decide +kernel
theorem d_Law_law_27 : decode b_Law_law 27 = .ok (.iconst 4, 1) := by decide +kernel
theorem d_Law_law_28 : decode b_Law_law 28 = .ok (.isub, 1) := by decide +kernel
theorem d_Law_law_29 : decode b_Law_law 29 = .ok (.if_icmp .gt 626, 3) := by decide +kernel
theorem d_Law_law_32 : decode b_Law_law 32 = .ok (.aload_n 0, 1) := by decide +kernel
theorem d_Law_law_33 : decode b_Law_law 33 = .ok (.iload 4, 2) := by decide +kernel
theorem d_Law_law_35 : decode b_Law_law 35 = .ok (.iaload, 1) := by decide +kernel
theorem d_Law_law_36 : decode b_Law_law 36 = .ok (.bipush 15, 2) := by decide +kernel
theorem d_Law_law_38 : decode b_Law_law 38 = .ok (.iand, 1) := by decide +kernel
theorem d_Law_law_39 : decode b_Law_law 39 = .ok (.tableswitch 610 0 11 #[61, 118, 129, 142, 155, 223, 281, 294, 337, 418, 474, 530], 61) := by decide +kernel
theorem d_Law_law_100 : decode b_Law_law 100 = .ok (.aload_n 1, 1) := by decide +kernel
theorem d_Law_law_101 : decode b_Law_law 101 = .ok (.aload_n 0, 1) := by decide +kernel
theorem d_Law_law_102 : decode b_Law_law 102 = .ok (.iload 4, 2) := by decide +kernel
theorem d_Law_law_104 : decode b_Law_law 104 = .ok (.iconst 1, 1) := by decide +kernel
theorem d_Law_law_105 : decode b_Law_law 105 = .ok (.iadd, 1) := by decide +kernel
theorem d_Law_law_106 : decode b_Law_law 106 = .ok (.iaload, 1) := by decide +kernel
theorem d_Law_law_107 : decode b_Law_law 107 = .ok (.i2l, 1) := by decide +kernel
theorem d_Law_law_108 : decode b_Law_law 108 = .ok (.bipush 32, 2) := by decide +kernel
theorem d_Law_law_110 : decode b_Law_law 110 = .ok (.lshl, 1) := by decide +kernel
theorem d_Law_law_111 : decode b_Law_law 111 = .ok (.aload_n 0, 1) := by decide +kernel
theorem d_Law_law_112 : decode b_Law_law 112 = .ok (.iload 4, 2) := by decide +kernel
theorem d_Law_law_114 : decode b_Law_law 114 = .ok (.iconst 2, 1) := by decide +kernel
theorem d_Law_law_115 : decode b_Law_law 115 = .ok (.iadd, 1) := by decide +kernel
theorem d_Law_law_116 : decode b_Law_law 116 = .ok (.iaload, 1) := by decide +kernel
theorem d_Law_law_117 : decode b_Law_law 117 = .ok (.i2l, 1) := by decide +kernel
theorem d_Law_law_118 : decode b_Law_law 118 = .ok (.ldc2_w 48, 3) := by decide +kernel
theorem d_Law_law_121 : decode b_Law_law 121 = .ok (.land, 1) := by decide +kernel
theorem d_Law_law_122 : decode b_Law_law 122 = .ok (.lor, 1) := by decide +kernel
theorem d_Law_law_123 : decode b_Law_law 123 = .ok (.invokevirtual 50, 3) := by decide +kernel
theorem d_Law_law_126 : decode b_Law_law 126 = .ok (.aload_n 2, 1) := by decide +kernel
theorem d_Law_law_127 : decode b_Law_law 127 = .ok (.aload_n 0, 1) := by decide +kernel
theorem d_Law_law_128 : decode b_Law_law 128 = .ok (.iload 4, 2) := by decide +kernel
theorem d_Law_law_130 : decode b_Law_law 130 = .ok (.iconst 1, 1) := by decide +kernel
theorem d_Law_law_131 : decode b_Law_law 131 = .ok (.iadd, 1) := by decide +kernel
theorem d_Law_law_132 : decode b_Law_law 132 = .ok (.iaload, 1) := by decide +kernel
theorem d_Law_law_133 : decode b_Law_law 133 = .ok (.i2l, 1) := by decide +kernel
theorem d_Law_law_134 : decode b_Law_law 134 = .ok (.bipush 32, 2) := by decide +kernel
theorem d_Law_law_136 : decode b_Law_law 136 = .ok (.lshl, 1) := by decide +kernel
theorem d_Law_law_137 : decode b_Law_law 137 = .ok (.aload_n 0, 1) := by decide +kernel
theorem d_Law_law_138 : decode b_Law_law 138 = .ok (.iload 4, 2) := by decide +kernel
theorem d_Law_law_140 : decode b_Law_law 140 = .ok (.iconst 2, 1) := by decide +kernel
theorem d_Law_law_141 : decode b_Law_law 141 = .ok (.iadd, 1) := by decide +kernel
theorem d_Law_law_142 : decode b_Law_law 142 = .ok (.iaload, 1) := by decide +kernel
theorem d_Law_law_143 : decode b_Law_law 143 = .ok (.i2l, 1) := by decide +kernel
theorem d_Law_law_144 : decode b_Law_law 144 = .ok (.ldc2_w 48, 3) := by decide +kernel
theorem d_Law_law_147 : decode b_Law_law 147 = .ok (.land, 1) := by decide +kernel
theorem d_Law_law_148 : decode b_Law_law 148 = .ok (.lor, 1) := by decide +kernel
theorem d_Law_law_149 : decode b_Law_law 149 = .ok (.invokevirtual 54, 3) := by decide +kernel
theorem d_Law_law_152 : decode b_Law_law 152 = .ok (.if_icmp .eq 497, 3) := by decide +kernel
theorem d_Law_law_155 : decode b_Law_law 155 = .ok (.iconst 0, 1) := by decide +kernel
theorem d_Law_law_156 : decode b_Law_law 156 = .ok (.ireturn, 1) := by decide +kernel
theorem d_Law_law_157 : decode b_Law_law 157 = .ok (.aload_n 1, 1) := by decide +kernel
theorem d_Law_law_158 : decode b_Law_law 158 = .ok (.invokevirtual 55, 3) := by decide +kernel
theorem d_Law_law_161 : decode b_Law_law 161 = .ok (.aload_n 2, 1) := by decide +kernel
theorem d_Law_law_162 : decode b_Law_law 162 = .ok (.invokevirtual 58, 3) := by decide +kernel
theorem d_Law_law_165 : decode b_Law_law 165 = .ok (.goto 484, 3) := by decide +kernel
theorem d_Law_law_168 : decode b_Law_law 168 = .ok (.aload_n 1, 1) := by decide +kernel
theorem d_Law_law_169 : decode b_Law_law 169 = .ok (.invokevirtual 59, 3) := by decide +kernel
theorem d_Law_law_172 : decode b_Law_law 172 = .ok (.aload_n 2, 1) := by decide +kernel
theorem d_Law_law_173 : decode b_Law_law 173 = .ok (.invokevirtual 63, 3) := by decide +kernel
theorem d_Law_law_176 : decode b_Law_law 176 = .ok (.if_icmp .eq 473, 3) := by decide +kernel
theorem d_Law_law_179 : decode b_Law_law 179 = .ok (.iconst 0, 1) := by decide +kernel
theorem d_Law_law_180 : decode b_Law_law 180 = .ok (.ireturn, 1) := by decide +kernel
theorem d_Law_law_181 : decode b_Law_law 181 = .ok (.aload_n 1, 1) := by decide +kernel
theorem d_Law_law_182 : decode b_Law_law 182 = .ok (.invokevirtual 64, 3) := by decide +kernel
theorem d_Law_law_185 : decode b_Law_law 185 = .ok (.aload_n 2, 1) := by decide +kernel
theorem d_Law_law_186 : decode b_Law_law 186 = .ok (.invokevirtual 67, 3) := by decide +kernel
theorem d_Law_law_189 : decode b_Law_law 189 = .ok (.if_icmp .eq 460, 3) := by decide +kernel
theorem d_Law_law_192 : decode b_Law_law 192 = .ok (.iconst 0, 1) := by decide +kernel
theorem d_Law_law_193 : decode b_Law_law 193 = .ok (.ireturn, 1) := by decide +kernel
theorem d_Law_law_194 : decode b_Law_law 194 = .ok (.aload_n 1, 1) := by decide +kernel
theorem d_Law_law_195 : decode b_Law_law 195 = .ok (.aload_n 0, 1) := by decide +kernel
theorem d_Law_law_196 : decode b_Law_law 196 = .ok (.iload 4, 2) := by decide +kernel
theorem d_Law_law_198 : decode b_Law_law 198 = .ok (.iconst 1, 1) := by decide +kernel
theorem d_Law_law_199 : decode b_Law_law 199 = .ok (.iadd, 1) := by decide +kernel
theorem d_Law_law_200 : decode b_Law_law 200 = .ok (.iaload, 1) := by decide +kernel
theorem d_Law_law_201 : decode b_Law_law 201 = .ok (.aload_n 0, 1) := by decide +kernel
theorem d_Law_law_202 : decode b_Law_law 202 = .ok (.iload 4, 2) := by decide +kernel
theorem d_Law_law_204 : decode b_Law_law 204 = .ok (.iconst 2, 1) := by decide +kernel
theorem d_Law_law_205 : decode b_Law_law 205 = .ok (.iadd, 1) := by decide +kernel
theorem d_Law_law_206 : decode b_Law_law 206 = .ok (.iaload, 1) := by decide +kernel
theorem d_Law_law_207 : decode b_Law_law 207 = .ok (.aload_n 3, 1) := by decide +kernel
theorem d_Law_law_208 : decode b_Law_law 208 = .ok (.invokestatic 68, 3) := by decide +kernel
theorem d_Law_law_211 : decode b_Law_law 211 = .ok (.istore 5, 2) := by decide +kernel
theorem d_Law_law_213 : decode b_Law_law 213 = .ok (.aload_n 2, 1) := by decide +kernel
theorem d_Law_law_214 : decode b_Law_law 214 = .ok (.aload_n 0, 1) := by decide +kernel
theorem d_Law_law_215 : decode b_Law_law 215 = .ok (.iload 4, 2) := by decide +kernel
theorem d_Law_law_217 : decode b_Law_law 217 = .ok (.iconst 1, 1) := by decide +kernel
theorem d_Law_law_218 : decode b_Law_law 218 = .ok (.iadd, 1) := by decide +kernel
theorem d_Law_law_219 : decode b_Law_law 219 = .ok (.iaload, 1) := by decide +kernel
theorem d_Law_law_220 : decode b_Law_law 220 = .ok (.aload_n 0, 1) := by decide +kernel
theorem d_Law_law_221 : decode b_Law_law 221 = .ok (.iload 4, 2) := by decide +kernel
theorem d_Law_law_223 : decode b_Law_law 223 = .ok (.iconst 2, 1) := by decide +kernel
theorem d_Law_law_224 : decode b_Law_law 224 = .ok (.iadd, 1) := by decide +kernel
theorem d_Law_law_225 : decode b_Law_law 225 = .ok (.iaload, 1) := by decide +kernel
theorem d_Law_law_226 : decode b_Law_law 226 = .ok (.invokevirtual 73, 3) := by decide +kernel
theorem d_Law_law_229 : decode b_Law_law 229 = .ok (.istore 6, 2) := by decide +kernel
theorem d_Law_law_231 : decode b_Law_law 231 = .ok (.aload_n 2, 1) := by decide +kernel
theorem d_Law_law_232 : decode b_Law_law 232 = .ok (.invokevirtual 74, 3) := by decide +kernel
theorem d_Law_law_235 : decode b_Law_law 235 = .ok (.iload 5, 2) := by decide +kernel
theorem d_Law_law_237 : decode b_Law_law 237 = .ok (.if_icmp .eq 5, 3) := by decide +kernel
theorem d_Law_law_240 : decode b_Law_law 240 = .ok (.iconst 0, 1) := by decide +kernel
theorem d_Law_law_241 : decode b_Law_law 241 = .ok (.ireturn, 1) := by decide +kernel
theorem d_Law_law_242 : decode b_Law_law 242 = .ok (.iload 5, 2) := by decide +kernel
theorem d_Law_law_244 : decode b_Law_law 244 = .ok (.ifCond .ne 15, 3) := by decide +kernel
theorem d_Law_law_247 : decode b_Law_law 247 = .ok (.aload_n 3, 1) := by decide +kernel
theorem d_Law_law_248 : decode b_Law_law 248 = .ok (.iconst 0, 1) := by decide +kernel
theorem d_Law_law_249 : decode b_Law_law 249 = .ok (.laload, 1) := by decide +kernel
theorem d_Law_law_250 : decode b_Law_law 250 = .ok (.iload 6, 2) := by decide +kernel
theorem d_Law_law_252 : decode b_Law_law 252 = .ok (.i2l, 1) := by decide +kernel
theorem d_Law_law_253 : decode b_Law_law 253 = .ok (.lcmp, 1) := by decide +kernel
theorem d_Law_law_254 : decode b_Law_law 254 = .ok (.ifCond .eq 5, 3) := by decide +kernel
theorem d_Law_law_257 : decode b_Law_law 257 = .ok (.iconst 0, 1) := by decide +kernel
theorem d_Law_law_258 : decode b_Law_law 258 = .ok (.ireturn, 1) := by decide +kernel
theorem d_Law_law_259 : decode b_Law_law 259 = .ok (.goto 390, 3) := by decide +kernel
