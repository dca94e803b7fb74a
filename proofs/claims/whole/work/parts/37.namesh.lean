theorem d_Law_rule_0 : decode b_Law_rule 0 = .ok (.aload_n 3, 1) := by decide +kernel
theorem d_Law_rule_1 : decode b_Law_rule 1 = .ok (.iconst 0, 1) := by decide +kernel
theorem d_Law_rule_2 : decode b_Law_rule 2 = .ok (.aload_n 0, 1) := by decide +kernel
theorem d_Law_rule_3 : decode b_Law_rule 3 = .ok (.iload_n 1, 1) := by decide +kernel
theorem d_Law_rule_4 : decode b_Law_rule 4 = .ok (.iload_n 2, 1) := by decide +kernel
theorem d_Law_rule_5 : decode b_Law_rule 5 = .ok (.invokevirtual 7, 3) := by decide +kernel
theorem d_Law_rule_8 : decode b_Law_rule 8 = .ok (.i2l, 1) := by decide +kernel
theorem d_Law_rule_9 : decode b_Law_rule 9 = .ok (.lastore, 1) := by decide +kernel
theorem d_Law_rule_10 : decode b_Law_rule 10 = .ok (.goto 11, 3) := by decide +kernel
theorem d_Law_rule_13 : decode b_Law_rule 13 = .ok (.astore 4, 2) := by decide +kernel
theorem d_Law_rule_15 : decode b_Law_rule 15 = .ok (.iconst 1, 1) := by decide +kernel
theorem d_Law_rule_16 : decode b_Law_rule 16 = .ok (.ireturn, 1) := by decide +kernel
theorem d_Law_rule_17 : decode b_Law_rule 17 = .ok (.astore 4, 2) := by decide +kernel
theorem d_Law_rule_19 : decode b_Law_rule 19 = .ok (.iconst 2, 1) := by decide +kernel
theorem d_Law_rule_20 : decode b_Law_rule 20 = .ok (.ireturn, 1) := by decide +kernel
theorem d_Law_rule_21 : decode b_Law_rule 21 = .ok (.iconst 0, 1) := by decide +kernel
theorem d_Law_rule_22 : decode b_Law_rule 22 = .ok (.ireturn, 1) := by decide +kernel
theorem d_Law_token_0 : decode b_Law_token 0 = .ok (.aload_n 2, 1) := by decide +kernel
theorem d_Law_token_1 : decode b_Law_token 1 = .ok (.iconst 0, 1) := by decide +kernel
theorem d_Law_token_2 : decode b_Law_token 2 = .ok (.aload_n 0, 1) := by decide +kernel
theorem d_Law_token_3 : decode b_Law_token 3 = .ok (.iload_n 1, 1) := by decide +kernel
theorem d_Law_token_4 : decode b_Law_token 4 = .ok (.invokevirtual 17, 3) := by decide +kernel
theorem d_Law_token_7 : decode b_Law_token 7 = .ok (.i2l, 1) := by decide +kernel
theorem d_Law_token_8 : decode b_Law_token 8 = .ok (.lastore, 1) := by decide +kernel
theorem d_Law_token_9 : decode b_Law_token 9 = .ok (.goto 9, 3) := by decide +kernel
theorem d_Law_token_12 : decode b_Law_token 12 = .ok (.astore_n 3, 1) := by decide +kernel
theorem d_Law_token_13 : decode b_Law_token 13 = .ok (.iconst 1, 1) := by decide +kernel
theorem d_Law_token_14 : decode b_Law_token 14 = .ok (.ireturn, 1) := by decide +kernel
theorem d_Law_token_15 : decode b_Law_token 15 = .ok (.astore_n 3, 1) := by decide +kernel
theorem d_Law_token_16 : decode b_Law_token 16 = .ok (.iconst 2, 1) := by decide +kernel
theorem d_Law_token_17 : decode b_Law_token 17 = .ok (.ireturn, 1) := by decide +kernel
theorem d_Law_token_18 : decode b_Law_token 18 = .ok (.iconst 0, 1) := by decide +kernel
theorem d_Law_token_19 : decode b_Law_token 19 = .ok (.ireturn, 1) := by decide +kernel
theorem d_Law_trees_0 : decode b_Law_trees 0 = .ok (.aload_n 1, 1) := by decide +kernel
theorem d_Law_trees_1 : decode b_Law_trees 1 = .ok (.iconst 0, 1) := by decide +kernel
theorem d_Law_trees_2 : decode b_Law_trees 2 = .ok (.aload_n 0, 1) := by decide +kernel
theorem d_Law_trees_3 : decode b_Law_trees 3 = .ok (.invokevirtual 23, 3) := by decide +kernel
theorem d_Law_trees_6 : decode b_Law_trees 6 = .ok (.lastore, 1) := by decide +kernel
theorem d_Law_trees_7 : decode b_Law_trees 7 = .ok (.goto 6, 3) := by decide +kernel
theorem d_Law_trees_10 : decode b_Law_trees 10 = .ok (.astore_n 2, 1) := by decide +kernel
theorem d_Law_trees_11 : decode b_Law_trees 11 = .ok (.iconst 1, 1) := by decide +kernel
theorem d_Law_trees_12 : decode b_Law_trees 12 = .ok (.ireturn, 1) := by decide +kernel
theorem d_Law_trees_13 : decode b_Law_trees 13 = .ok (.iconst 0, 1) := by decide +kernel
theorem d_Law_trees_14 : decode b_Law_trees 14 = .ok (.ireturn, 1) := by decide +kernel
theorem d_Law_ways_0 : decode b_Law_ways 0 = .ok (.aload 4, 2) := by decide +kernel
theorem d_Law_ways_2 : decode b_Law_ways 2 = .ok (.iconst 0, 1) := by decide +kernel
theorem d_Law_ways_3 : decode b_Law_ways 3 = .ok (.aload_n 0, 1) := by decide +kernel
theorem d_Law_ways_4 : decode b_Law_ways 4 = .ok (.iload_n 1, 1) := by decide +kernel
theorem d_Law_ways_5 : decode b_Law_ways 5 = .ok (.iload_n 2, 1) := by decide +kernel
theorem d_Law_ways_6 : decode b_Law_ways 6 = .ok (.iload_n 3, 1) := by decide +kernel
theorem d_Law_ways_7 : decode b_Law_ways 7 = .ok (.invokevirtual 27, 3) := by decide +kernel
theorem d_Law_ways_10 : decode b_Law_ways 10 = .ok (.lastore, 1) := by decide +kernel
theorem d_Law_ways_11 : decode b_Law_ways 11 = .ok (.goto 15, 3) := by decide +kernel
theorem d_Law_ways_14 : decode b_Law_ways 14 = .ok (.astore 5, 2) := by decide +kernel
theorem d_Law_ways_16 : decode b_Law_ways 16 = .ok (.iconst 1, 1) := by decide +kernel
theorem d_Law_ways_17 : decode b_Law_ways 17 = .ok (.ireturn, 1) := by decide +kernel
theorem d_Law_ways_18 : decode b_Law_ways 18 = .ok (.astore 5, 2) := by decide +kernel
theorem d_Law_ways_20 : decode b_Law_ways 20 = .ok (.iconst 2, 1) := by decide +kernel
theorem d_Law_ways_21 : decode b_Law_ways 21 = .ok (.ireturn, 1) := by decide +kernel
theorem d_Law_ways_22 : decode b_Law_ways 22 = .ok (.astore 5, 2) := by decide +kernel
theorem d_Law_ways_24 : decode b_Law_ways 24 = .ok (.iconst 3, 1) := by decide +kernel
theorem d_Law_ways_25 : decode b_Law_ways 25 = .ok (.ireturn, 1) := by decide +kernel
theorem d_Law_ways_26 : decode b_Law_ways 26 = .ok (.iconst 0, 1) := by decide +kernel
theorem d_Law_ways_27 : decode b_Law_ways 27 = .ok (.ireturn, 1) := by decide +kernel
theorem d_Law_weight_0 : decode b_Law_weight 0 = .ok (.aload_n 2, 1) := by decide +kernel
theorem d_Law_weight_1 : decode b_Law_weight 1 = .ok (.iconst 0, 1) := by decide +kernel
theorem d_Law_weight_2 : decode b_Law_weight 2 = .ok (.aload_n 0, 1) := by decide +kernel
theorem d_Law_weight_3 : decode b_Law_weight 3 = .ok (.iload_n 1, 1) := by decide +kernel
theorem d_Law_weight_4 : decode b_Law_weight 4 = .ok (.invokevirtual 31, 3) := by decide +kernel
theorem d_Law_weight_7 : decode b_Law_weight 7 = .ok (.i2l, 1) := by decide +kernel
theorem d_Law_weight_8 : decode b_Law_weight 8 = .ok (.lastore, 1) := by decide +kernel
theorem d_Law_weight_9 : decode b_Law_weight 9 = .ok (.goto 12, 3) := by decide +kernel
theorem d_Law_weight_12 : decode b_Law_weight 12 = .ok (.astore_n 3, 1) := by decide +kernel
theorem d_Law_weight_13 : decode b_Law_weight 13 = .ok (.iconst 1, 1) := by decide +kernel
theorem d_Law_weight_14 : decode b_Law_weight 14 = .ok (.ireturn, 1) := by decide +kernel
theorem d_Law_weight_15 : decode b_Law_weight 15 = .ok (.astore_n 3, 1) := by decide +kernel
theorem d_Law_weight_16 : decode b_Law_weight 16 = .ok (.iconst 2, 1) := by decide +kernel
theorem d_Law_weight_17 : decode b_Law_weight 17 = .ok (.ireturn, 1) := by decide +kernel
theorem d_Law_weight_18 : decode b_Law_weight 18 = .ok (.astore_n 3, 1) := by decide +kernel
theorem d_Law_weight_19 : decode b_Law_weight 19 = .ok (.iconst 3, 1) := by decide +kernel
theorem d_Law_weight_20 : decode b_Law_weight 20 = .ok (.ireturn, 1) := by decide +kernel
theorem d_Law_weight_21 : decode b_Law_weight 21 = .ok (.iconst 0, 1) := by decide +kernel
theorem d_Law_weight_22 : decode b_Law_weight 22 = .ok (.ireturn, 1) := by decide +kernel
theorem d_Law_size_0 : decode b_Law_size 0 = .ok (.aload_n 2, 1) := by decide +kernel
theorem d_Law_size_1 : decode b_Law_size 1 = .ok (.iconst 0, 1) := by decide +kernel
theorem d_Law_size_2 : decode b_Law_size 2 = .ok (.aload_n 0, 1) := by decide +kernel
theorem d_Law_size_3 : decode b_Law_size 3 = .ok (.iload_n 1, 1) := by decide +kernel
theorem d_Law_size_4 : decode b_Law_size 4 = .ok (.invokevirtual 37, 3) := by decide +kernel
theorem d_Law_size_7 : decode b_Law_size 7 = .ok (.i2l, 1) := by decide +kernel
theorem d_Law_size_8 : decode b_Law_size 8 = .ok (.lastore, 1) := by decide +kernel
theorem d_Law_size_9 : decode b_Law_size 9 = .ok (.goto 12, 3) := by decide +kernel
theorem d_Law_size_12 : decode b_Law_size 12 = .ok (.astore_n 3, 1) := by decide +kernel
theorem d_Law_size_13 : decode b_Law_size 13 = .ok (.iconst 1, 1) := by decide +kernel
theorem d_Law_size_14 : decode b_Law_size 14 = .ok (.ireturn, 1) := by decide +kernel
theorem d_Law_size_15 : decode b_Law_size 15 = .ok (.astore_n 3, 1) := by decide +kernel
theorem d_Law_size_16 : decode b_Law_size 16 = .ok (.iconst 2, 1) := by decide +kernel
theorem d_Law_size_17 : decode b_Law_size 17 = .ok (.ireturn, 1) := by decide +kernel
theorem d_Law_size_18 : decode b_Law_size 18 = .ok (.astore_n 3, 1) := by decide +kernel
theorem d_Law_size_19 : decode b_Law_size 19 = .ok (.iconst 3, 1) := by decide +kernel
theorem d_Law_size_20 : decode b_Law_size 20 = .ok (.ireturn, 1) := by decide +kernel
theorem d_Law_size_21 : decode b_Law_size 21 = .ok (.iconst 0, 1) := by decide +kernel
theorem d_Law_size_22 : decode b_Law_size 22 = .ok (.ireturn, 1) := by decide +kernel
theorem d_Law_at_0 : decode b_Law_at 0 = .ok (.aload 4, 2) := by decide +kernel
theorem d_Law_at_2 : decode b_Law_at 2 = .ok (.iconst 0, 1) := by decide +kernel
theorem d_Law_at_3 : decode b_Law_at 3 = .ok (.aload_n 0, 1) := by decide +kernel
theorem d_Law_at_4 : decode b_Law_at 4 = .ok (.iload_n 1, 1) := by decide +kernel
theorem d_Law_at_5 : decode b_Law_at 5 = .ok (.iload_n 2, 1) := by decide +kernel
theorem d_Law_at_6 : decode b_Law_at 6 = .ok (.iload_n 3, 1) := by decide +kernel
theorem d_Law_at_7 : decode b_Law_at 7 = .ok (.invokevirtual 40, 3) := by decide +kernel
theorem d_Law_at_10 : decode b_Law_at 10 = .ok (.i2l, 1) := by decide +kernel
theorem d_Law_at_11 : decode b_Law_at 11 = .ok (.lastore, 1) := by decide +kernel
theorem d_Law_at_12 : decode b_Law_at 12 = .ok (.goto 19, 3) := by decide +kernel
theorem d_Law_at_15 : decode b_Law_at 15 = .ok (.astore 5, 2) := by decide +kernel
theorem d_Law_at_17 : decode b_Law_at 17 = .ok (.iconst 1, 1) := by decide +kernel
theorem d_Law_at_18 : decode b_Law_at 18 = .ok (.ireturn, 1) := by decide +kernel
theorem d_Law_at_19 : decode b_Law_at 19 = .ok (.astore 5, 2) := by decide +kernel
theorem d_Law_at_21 : decode b_Law_at 21 = .ok (.iconst 2, 1) := by decide +kernel
theorem d_Law_at_22 : decode b_Law_at 22 = .ok (.ireturn, 1) := by decide +kernel
theorem d_Law_at_23 : decode b_Law_at 23 = .ok (.astore 5, 2) := by decide +kernel
theorem d_Law_at_25 : decode b_Law_at 25 = .ok (.iconst 3, 1) := by decide +kernel
theorem d_Law_at_26 : decode b_Law_at 26 = .ok (.ireturn, 1) := by decide +kernel
theorem d_Law_at_27 : decode b_Law_at 27 = .ok (.astore 5, 2) := by decide +kernel
theorem d_Law_at_29 : decode b_Law_at 29 = .ok (.iconst 4, 1) := by decide +kernel
theorem d_Law_at_30 : decode b_Law_at 30 = .ok (.ireturn, 1) := by decide +kernel
theorem d_Law_at_31 : decode b_Law_at 31 = .ok (.iconst 0, 1) := by decide +kernel
theorem d_Law_at_32 : decode b_Law_at 32 = .ok (.ireturn, 1) := by decide +kernel
theorem tb_338 : (Cond.classLink R_Law 13 "java/lang/IndexOutOfBoundsException") ∈ TB := tb_mem (i := 338) (by decide +kernel) (by decide +kernel)
theorem tb_339 : (Cond.classLink R_Law 15 "java/lang/IllegalArgumentException") ∈ TB := tb_mem (i := 339) (by decide +kernel) (by decide +kernel)
theorem tb_340 : (Cond.methodLink R_Law 7 y_RT_rule) ∈ TB := tb_mem (i := 340) (by decide +kernel) (by decide +kernel)
theorem tb_341 : (Cond.instanceMethod y_RT_rule) ∈ TB := tb_mem (i := 341) (by decide +kernel) (by decide +kernel)
theorem tb_342 : (Cond.selects R_RT y_RT_rule y_RT_rule) ∈ TB := tb_mem (i := 342) (by decide +kernel) (by decide +kernel)
theorem tb_343 : (Cond.code y_RT_rule b_RT_rule 3 (some .int)) ∈ TB := tb_mem (i := 343) (by decide +kernel) (by decide +kernel)
theorem tb_433 : (Cond.classLink R_Law 21 "java/lang/IllegalStateException") ∈ TB := tb_mem (i := 433) (by decide +kernel) (by decide +kernel)
theorem tb_434 : (Cond.methodLink R_Law 17 y_RT_token) ∈ TB := tb_mem (i := 434) (by decide +kernel) (by decide +kernel)
theorem tb_435 : (Cond.instanceMethod y_RT_token) ∈ TB := tb_mem (i := 435) (by decide +kernel) (by decide +kernel)
theorem tb_436 : (Cond.selects R_RT y_RT_token y_RT_token) ∈ TB := tb_mem (i := 436) (by decide +kernel) (by decide +kernel)
theorem tb_437 : (Cond.code y_RT_token b_RT_token 2 (some .int)) ∈ TB := tb_mem (i := 437) (by decide +kernel) (by decide +kernel)
theorem tb_459 : (Cond.methodLink R_Law 23 y_RT_trees) ∈ TB := tb_mem (i := 459) (by decide +kernel) (by decide +kernel)
theorem tb_460 : (Cond.instanceMethod y_RT_trees) ∈ TB := tb_mem (i := 460) (by decide +kernel) (by decide +kernel)
theorem tb_461 : (Cond.selects R_RT y_RT_trees y_RT_trees) ∈ TB := tb_mem (i := 461) (by decide +kernel) (by decide +kernel)
theorem tb_462 : (Cond.code y_RT_trees b_RT_trees 1 (some .long)) ∈ TB := tb_mem (i := 462) (by decide +kernel) (by decide +kernel)
theorem tb_531 : (Cond.methodLink R_Law 27 y_RT_ways) ∈ TB := tb_mem (i := 531) (by decide +kernel) (by decide +kernel)
theorem tb_532 : (Cond.instanceMethod y_RT_ways) ∈ TB := tb_mem (i := 532) (by decide +kernel) (by decide +kernel)
theorem tb_533 : (Cond.selects R_RT y_RT_ways y_RT_ways) ∈ TB := tb_mem (i := 533) (by decide +kernel) (by decide +kernel)
theorem tb_534 : (Cond.code y_RT_ways b_RT_ways 4 (some .long)) ∈ TB := tb_mem (i := 534) (by decide +kernel) (by decide +kernel)
theorem tb_541 : (Cond.classLink R_Law 35 "java/util/NoSuchElementException") ∈ TB := tb_mem (i := 541) (by decide +kernel) (by decide +kernel)
theorem tb_542 : (Cond.methodLink R_Law 31 y_RT_weight) ∈ TB := tb_mem (i := 542) (by decide +kernel) (by decide +kernel)
theorem tb_543 : (Cond.instanceMethod y_RT_weight) ∈ TB := tb_mem (i := 543) (by decide +kernel) (by decide +kernel)
theorem tb_544 : (Cond.selects R_RT y_RT_weight y_RT_weight) ∈ TB := tb_mem (i := 544) (by decide +kernel) (by decide +kernel)
theorem tb_545 : (Cond.code y_RT_weight b_RT_weight 2 (some .int)) ∈ TB := tb_mem (i := 545) (by decide +kernel) (by decide +kernel)
theorem tb_571 : (Cond.methodLink R_Law 37 y_RT_size) ∈ TB := tb_mem (i := 571) (by decide +kernel) (by decide +kernel)
theorem tb_572 : (Cond.instanceMethod y_RT_size) ∈ TB := tb_mem (i := 572) (by decide +kernel) (by decide +kernel)
theorem tb_573 : (Cond.selects R_RT y_RT_size y_RT_size) ∈ TB := tb_mem (i := 573) (by decide +kernel) (by decide +kernel)
theorem tb_574 : (Cond.code y_RT_size b_RT_size 2 (some .int)) ∈ TB := tb_mem (i := 574) (by decide +kernel) (by decide +kernel)
theorem tb_578 : (Cond.methodLink R_Law 40 y_RT_at) ∈ TB := tb_mem (i := 578) (by decide +kernel) (by decide +kernel)
theorem tb_579 : (Cond.instanceMethod y_RT_at) ∈ TB := tb_mem (i := 579) (by decide +kernel) (by decide +kernel)
theorem tb_580 : (Cond.selects R_RT y_RT_at y_RT_at) ∈ TB := tb_mem (i := 580) (by decide +kernel) (by decide +kernel)
theorem tb_581 : (Cond.code y_RT_at b_RT_at 6 (some .int)) ∈ TB := tb_mem (i := 581) (by decide +kernel) (by decide +kernel)
