def xS (U : State) : Prop := (∃ a, vk_R R_RT 79 "no such rule" a U) ∧ (∃ a, vk_R R_RT 101 "what is not 0 .. 5" a U) ∧ (∃ a, vk_R R_RT 108 "no token" a U) ∧ (∃ a, vk_R R_RT 113 "the row is full" a U) ∧ (∃ a, vk_R R_RT 137 "no letter" a U) ∧ (∃ a, vk_R R_RT 139 "no span of the row" a U) ∧ (∃ a, vk_R R_RT 159 "what is not 0 .. 2" a U) ∧ (∃ a, vk_R R_RT 161 "the tree has no such rule" a U) ∧ (∃ a, vk_R R_RT 175 "there is no grammar" a U) ∧ (∃ a, vk_R R_RT 177 "k is not 0 .. 7" a U) ∧ (∃ a, vk_R R_RT 181 "the row is empty" a U) ∧ (∃ a, vk_R R_RT 187 "the row has fewer trees" a U)
theorem xS_79 {U : State} (h : xS U) : ∃ a, vk_R R_RT 79 "no such rule" a U := h.1
theorem xS_101 {U : State} (h : xS U) : ∃ a, vk_R R_RT 101 "what is not 0 .. 5" a U := h.2.1
theorem xS_108 {U : State} (h : xS U) : ∃ a, vk_R R_RT 108 "no token" a U := h.2.2.1
theorem xS_113 {U : State} (h : xS U) : ∃ a, vk_R R_RT 113 "the row is full" a U := h.2.2.2.1
theorem xS_137 {U : State} (h : xS U) : ∃ a, vk_R R_RT 137 "no letter" a U := h.2.2.2.2.1
theorem xS_139 {U : State} (h : xS U) : ∃ a, vk_R R_RT 139 "no span of the row" a U := h.2.2.2.2.2.1
theorem xS_159 {U : State} (h : xS U) : ∃ a, vk_R R_RT 159 "what is not 0 .. 2" a U := h.2.2.2.2.2.2.1
theorem xS_161 {U : State} (h : xS U) : ∃ a, vk_R R_RT 161 "the tree has no such rule" a U := h.2.2.2.2.2.2.2.1
theorem xS_175 {U : State} (h : xS U) : ∃ a, vk_R R_RT 175 "there is no grammar" a U := h.2.2.2.2.2.2.2.2.1
theorem xS_177 {U : State} (h : xS U) : ∃ a, vk_R R_RT 177 "k is not 0 .. 7" a U := h.2.2.2.2.2.2.2.2.2.1
theorem xS_181 {U : State} (h : xS U) : ∃ a, vk_R R_RT 181 "the row is empty" a U := h.2.2.2.2.2.2.2.2.2.2.1
theorem xS_187 {U : State} (h : xS U) : ∃ a, vk_R R_RT 187 "the row has fewer trees" a U := h.2.2.2.2.2.2.2.2.2.2.2
theorem xS1 {k : Nat} {t : String} {s U : State} (hW : s.WarmedH U.vm) (h : ∃ a, vk_R R_RT k t a s) : ∃ a, vk_R R_RT k t a U := h.imp fun _ z => vk_R.warm hW z
theorem xS2 {k : Nat} {t : String} {s U : State} (e : U.vm = s.vm) (h : ∃ a, vk_R R_RT k t a s) : ∃ a, vk_R R_RT k t a U := h.imp fun _ z => vk_R.same e z
theorem xS.moved {s U : State} (hW : s.WarmedH U.vm) (h : xS s) : xS U := ⟨xS1 hW (h.1), xS1 hW (h.2.1), xS1 hW (h.2.2.1), xS1 hW (h.2.2.2.1), xS1 hW (h.2.2.2.2.1), xS1 hW (h.2.2.2.2.2.1), xS1 hW (h.2.2.2.2.2.2.1), xS1 hW (h.2.2.2.2.2.2.2.1), xS1 hW (h.2.2.2.2.2.2.2.2.1), xS1 hW (h.2.2.2.2.2.2.2.2.2.1), xS1 hW (h.2.2.2.2.2.2.2.2.2.2.1), xS1 hW (h.2.2.2.2.2.2.2.2.2.2.2)⟩
theorem xS.same {s U : State} (e : U.vm = s.vm) (h : xS s) : xS U := ⟨xS2 e (h.1), xS2 e (h.2.1), xS2 e (h.2.2.1), xS2 e (h.2.2.2.1), xS2 e (h.2.2.2.2.1), xS2 e (h.2.2.2.2.2.1), xS2 e (h.2.2.2.2.2.2.1), xS2 e (h.2.2.2.2.2.2.2.1), xS2 e (h.2.2.2.2.2.2.2.2.1), xS2 e (h.2.2.2.2.2.2.2.2.2.1), xS2 e (h.2.2.2.2.2.2.2.2.2.2.1), xS2 e (h.2.2.2.2.2.2.2.2.2.2.2)⟩
theorem xThrown_widen {p : Program} {l : Launch} {e : Env} {R : Room} {s : State} {m : MethodId} {args : Array Value} {below : List Frame} {meth : Method} {c : Code} {H : Heap} {locs : List Loc} {cells slots : Nat} {Q : State → Prop} {g : JFrame} {q : Addr} {k n : Nat} (h1 : cells ≤ k) (h2 : slots ≤ n) (kk : xThrown p l e R s m args below meth c H locs k n Q g q) : xThrown p l e R s m args below meth c H locs cells slots Q g q := fun T hT X => kk T hT (stand_widen X h1 h2)
theorem x_out {x : Int32} {n : Nat} (hn : n < 2 ^ 31) (h : ∀ k, k < n → ¬ x = nI k) : x.toInt < 0 ∨ (n : Int) - 1 < x.toInt := by
  by_cases h0 : x < 0
  · left; rw [Int32.lt_iff_toInt_lt, Int32.toInt_zero] at h0; exact h0
  · obtain ⟨j, hj, rfl⟩ := nI_of h0
    right
    have h1 : ¬ j < n := fun z => h j z rfl
    rw [nI_toInt hj]
    omega
theorem x_out6 {x : Int32} (h0 : ¬ x = 0) (h1 : ¬ x = 1) (h2 : ¬ x = 2) (h3 : ¬ x = 3) (h4 : ¬ x = 4) (h5 : ¬ x = 5) : x.toInt < 0 ∨ 5 < x.toInt := x_out (n := 6) (by decide) (fun k hk => by
  rcases (show k = 0 ∨ k = 1 ∨ k = 2 ∨ k = 3 ∨ k = 4 ∨ k = 5 by omega) with rfl | rfl | rfl | rfl | rfl | rfl <;> assumption)
theorem x_out12 {x : Int32} (h0 : ¬ x = 0) (h1 : ¬ x = 1) (h2 : ¬ x = 2) (h3 : ¬ x = 3) (h4 : ¬ x = 4) (h5 : ¬ x = 5) (h6 : ¬ x = 6) (h7 : ¬ x = 7) (h8 : ¬ x = 8) (h9 : ¬ x = 9) (h10 : ¬ x = 10) (h11 : ¬ x = 11) : x.toInt < 0 ∨ 11 < x.toInt := x_out (n := 12) (by decide) (fun k hk => by
  rcases (show k = 0 ∨ k = 1 ∨ k = 2 ∨ k = 3 ∨ k = 4 ∨ k = 5 ∨ k = 6 ∨ k = 7 ∨ k = 8 ∨ k = 9 ∨ k = 10 ∨ k = 11 by omega) with rfl | rfl | rfl | rfl | rfl | rfl | rfl | rfl | rfl | rfl | rfl | rfl <;> assumption)
theorem d_RT_rule_0 : decode b_RT_rule 0 = .ok (.iload_n 1, 1) := by decide +kernel
theorem d_RT_rule_1 : decode b_RT_rule 1 = .ok (.ifCond .lt 14, 3) := by decide +kernel
theorem d_RT_rule_4 : decode b_RT_rule 4 = .ok (.iload_n 1, 1) := by decide +kernel
theorem d_RT_rule_5 : decode b_RT_rule 5 = .ok (.aload_n 0, 1) := by decide +kernel
theorem d_RT_rule_6 : decode b_RT_rule 6 = .ok (.getfield 35, 3) := by decide +kernel
theorem d_RT_rule_9 : decode b_RT_rule 9 = .ok (.getfield 74, 3) := by decide +kernel
theorem d_RT_rule_12 : decode b_RT_rule 12 = .ok (.if_icmp .lt 13, 3) := by decide +kernel
theorem d_RT_rule_15 : decode b_RT_rule 15 = .ok (.new 77, 3) := by decide +kernel
theorem d_RT_rule_18 : decode b_RT_rule 18 = .ok (.dup, 1) := by decide +kernel
theorem d_RT_rule_19 : decode b_RT_rule 19 = .ok (.ldc 79, 2) := by decide +kernel
theorem d_RT_rule_21 : decode b_RT_rule 21 = .ok (.invokespecial 81, 3) := by decide +kernel
theorem d_RT_rule_24 : decode b_RT_rule 24 = .ok (.athrow, 1) := by decide +kernel
theorem d_RT_rule_25 : decode b_RT_rule 25 = .ok (.iload_n 2, 1) := by decide +kernel
theorem d_RT_rule_26 : decode b_RT_rule 26 = .ok (.tableswitch 88 0 5 #[38, 48, 48, 48, 60, 70], 38) := by decide +kernel
theorem d_RT_rule_64 : decode b_RT_rule 64 = .ok (.aload_n 0, 1) := by decide +kernel
theorem d_RT_rule_65 : decode b_RT_rule 65 = .ok (.getfield 35, 3) := by decide +kernel
theorem d_RT_rule_68 : decode b_RT_rule 68 = .ok (.getfield 84, 3) := by decide +kernel
theorem d_RT_rule_71 : decode b_RT_rule 71 = .ok (.iload_n 1, 1) := by decide +kernel
theorem d_RT_rule_72 : decode b_RT_rule 72 = .ok (.iaload, 1) := by decide +kernel
theorem d_RT_rule_73 : decode b_RT_rule 73 = .ok (.ireturn, 1) := by decide +kernel
theorem d_RT_rule_74 : decode b_RT_rule 74 = .ok (.aload_n 0, 1) := by decide +kernel
theorem d_RT_rule_75 : decode b_RT_rule 75 = .ok (.getfield 35, 3) := by decide +kernel
theorem d_RT_rule_78 : decode b_RT_rule 78 = .ok (.iload_n 1, 1) := by decide +kernel
theorem d_RT_rule_79 : decode b_RT_rule 79 = .ok (.iload_n 2, 1) := by decide +kernel
theorem d_RT_rule_80 : decode b_RT_rule 80 = .ok (.iconst 1, 1) := by decide +kernel
theorem d_RT_rule_81 : decode b_RT_rule 81 = .ok (.isub, 1) := by decide +kernel
theorem d_RT_rule_82 : decode b_RT_rule 82 = .ok (.invokevirtual 88, 3) := by decide +kernel
theorem d_RT_rule_85 : decode b_RT_rule 85 = .ok (.ireturn, 1) := by decide +kernel
theorem d_RT_rule_86 : decode b_RT_rule 86 = .ok (.aload_n 0, 1) := by decide +kernel
theorem d_RT_rule_87 : decode b_RT_rule 87 = .ok (.getfield 35, 3) := by decide +kernel
theorem d_RT_rule_90 : decode b_RT_rule 90 = .ok (.getfield 92, 3) := by decide +kernel
theorem d_RT_rule_93 : decode b_RT_rule 93 = .ok (.iload_n 1, 1) := by decide +kernel
theorem d_RT_rule_94 : decode b_RT_rule 94 = .ok (.iaload, 1) := by decide +kernel
theorem d_RT_rule_95 : decode b_RT_rule 95 = .ok (.ireturn, 1) := by decide +kernel
theorem d_RT_rule_96 : decode b_RT_rule 96 = .ok (.aload_n 0, 1) := by decide +kernel
theorem d_RT_rule_97 : decode b_RT_rule 97 = .ok (.getfield 35, 3) := by decide +kernel
theorem d_RT_rule_100 : decode b_RT_rule 100 = .ok (.getfield 95, 3) := by decide +kernel
theorem d_RT_rule_103 : decode b_RT_rule 103 = .ok (.iload_n 1, 1) := by decide +kernel
theorem d_RT_rule_104 : decode b_RT_rule 104 = .ok (.baload, 1) := by decide +kernel
theorem d_RT_rule_105 : decode b_RT_rule 105 = .ok (.ifCond .eq 7, 3) := by decide +kernel
theorem d_RT_rule_108 : decode b_RT_rule 108 = .ok (.iconst 1, 1) := by decide +kernel
theorem d_RT_rule_109 : decode b_RT_rule 109 = .ok (.goto 4, 3) := by decide +kernel
theorem d_RT_rule_112 : decode b_RT_rule 112 = .ok (.iconst 0, 1) := by decide +kernel
theorem d_RT_rule_113 : decode b_RT_rule 113 = .ok (.ireturn, 1) := by decide +kernel
theorem d_RT_rule_114 : decode b_RT_rule 114 = .ok (.new 99, 3) := by decide +kernel
theorem d_RT_rule_117 : decode b_RT_rule 117 = .ok (.dup, 1) := by decide +kernel
theorem d_RT_rule_118 : decode b_RT_rule 118 = .ok (.ldc 101, 2) := by decide +kernel
theorem d_RT_rule_120 : decode b_RT_rule 120 = .ok (.invokespecial 103, 3) := by decide +kernel
theorem d_RT_rule_123 : decode b_RT_rule 123 = .ok (.athrow, 1) := by decide +kernel
theorem d_RT_token_0 : decode b_RT_token 0 = .ok (.iload_n 1, 1) := by decide +kernel
theorem d_RT_token_1 : decode b_RT_token 1 = .ok (.invokestatic 104, 3) := by decide +kernel
theorem d_RT_token_4 : decode b_RT_token 4 = .ok (.ifCond .ne 13, 3) := by decide +kernel
theorem d_RT_token_7 : decode b_RT_token 7 = .ok (.new 99, 3) := by decide +kernel
theorem d_RT_token_10 : decode b_RT_token 10 = .ok (.dup, 1) := by decide +kernel
theorem d_RT_token_11 : decode b_RT_token 11 = .ok (.ldc 108, 2) := by decide +kernel
theorem d_RT_token_13 : decode b_RT_token 13 = .ok (.invokespecial 103, 3) := by decide +kernel
theorem d_RT_token_16 : decode b_RT_token 16 = .ok (.athrow, 1) := by decide +kernel
theorem d_RT_token_17 : decode b_RT_token 17 = .ok (.aload_n 0, 1) := by decide +kernel
theorem d_RT_token_18 : decode b_RT_token 18 = .ok (.getfield 28, 3) := by decide +kernel
theorem d_RT_token_21 : decode b_RT_token 21 = .ok (.getfield 110, 3) := by decide +kernel
theorem d_RT_token_24 : decode b_RT_token 24 = .ok (.bipush 6, 2) := by decide +kernel
theorem d_RT_token_26 : decode b_RT_token 26 = .ok (.if_icmp .lt 13, 3) := by decide +kernel
theorem d_RT_token_29 : decode b_RT_token 29 = .ok (.new 111, 3) := by decide +kernel
theorem d_RT_token_32 : decode b_RT_token 32 = .ok (.dup, 1) := by decide +kernel
theorem d_RT_token_33 : decode b_RT_token 33 = .ok (.ldc 113, 2) := by decide +kernel
theorem d_RT_token_35 : decode b_RT_token 35 = .ok (.invokespecial 115, 3) := by decide +kernel
theorem d_RT_token_38 : decode b_RT_token 38 = .ok (.athrow, 1) := by decide +kernel
theorem d_RT_token_39 : decode b_RT_token 39 = .ok (.aload_n 0, 1) := by decide +kernel
theorem d_RT_token_40 : decode b_RT_token 40 = .ok (.getfield 28, 3) := by decide +kernel
theorem d_RT_token_43 : decode b_RT_token 43 = .ok (.getfield 116, 3) := by decide +kernel
theorem d_RT_token_46 : decode b_RT_token 46 = .ok (.aload_n 0, 1) := by decide +kernel
theorem d_RT_token_47 : decode b_RT_token 47 = .ok (.getfield 28, 3) := by decide +kernel
theorem d_RT_token_50 : decode b_RT_token 50 = .ok (.getfield 110, 3) := by decide +kernel
theorem d_RT_token_53 : decode b_RT_token 53 = .ok (.iload_n 1, 1) := by decide +kernel
theorem d_RT_token_54 : decode b_RT_token 54 = .ok (.castore, 1) := by decide +kernel
theorem d_RT_token_55 : decode b_RT_token 55 = .ok (.aload_n 0, 1) := by decide +kernel
theorem d_RT_token_56 : decode b_RT_token 56 = .ok (.getfield 28, 3) := by decide +kernel
theorem d_RT_token_59 : decode b_RT_token 59 = .ok (.dup, 1) := by decide +kernel
theorem d_RT_token_60 : decode b_RT_token 60 = .ok (.getfield 110, 3) := by decide +kernel
theorem d_RT_token_63 : decode b_RT_token 63 = .ok (.iconst 1, 1) := by decide +kernel
theorem d_RT_token_64 : decode b_RT_token 64 = .ok (.iadd, 1) := by decide +kernel
theorem d_RT_token_65 : decode b_RT_token 65 = .ok (.putfield 110, 3) := by decide +kernel
theorem d_RT_token_68 : decode b_RT_token 68 = .ok (.aload_n 0, 1) := by decide +kernel
theorem d_RT_token_69 : decode b_RT_token 69 = .ok (.getfield 28, 3) := by decide +kernel
theorem d_RT_token_72 : decode b_RT_token 72 = .ok (.getfield 110, 3) := by decide +kernel
theorem d_RT_token_75 : decode b_RT_token 75 = .ok (.ireturn, 1) := by decide +kernel
theorem d_RT_needGrammar_0 : decode b_RT_needGrammar 0 = .ok (.aload_n 0, 1) := by decide +kernel
theorem d_RT_needGrammar_1 : decode b_RT_needGrammar 1 = .ok (.getfield 35, 3) := by decide +kernel
theorem d_RT_needGrammar_4 : decode b_RT_needGrammar 4 = .ok (.getfield 74, 3) := by decide +kernel
theorem d_RT_needGrammar_7 : decode b_RT_needGrammar 7 = .ok (.ifCond .ne 13, 3) := by decide +kernel
theorem d_RT_needGrammar_10 : decode b_RT_needGrammar 10 = .ok (.new 111, 3) := by decide +kernel
theorem d_RT_needGrammar_13 : decode b_RT_needGrammar 13 = .ok (.dup, 1) := by decide +kernel
theorem d_RT_needGrammar_14 : decode b_RT_needGrammar 14 = .ok (.ldc 175, 2) := by decide +kernel
theorem d_RT_needGrammar_16 : decode b_RT_needGrammar 16 = .ok (.invokespecial 115, 3) := by decide +kernel
theorem d_RT_needGrammar_19 : decode b_RT_needGrammar 19 = .ok (.athrow, 1) := by decide +kernel
theorem d_RT_needGrammar_20 : decode b_RT_needGrammar 20 = .ok (.return_, 1) := by decide +kernel
theorem d_RT_trees_0 : decode b_RT_trees 0 = .ok (.aload_n 0, 1) := by decide +kernel
theorem d_RT_trees_1 : decode b_RT_trees 1 = .ok (.invokevirtual 120, 3) := by decide +kernel
theorem d_RT_trees_4 : decode b_RT_trees 4 = .ok (.aload_n 0, 1) := by decide +kernel
theorem d_RT_trees_5 : decode b_RT_trees 5 = .ok (.getfield 28, 3) := by decide +kernel
theorem d_RT_trees_8 : decode b_RT_trees 8 = .ok (.getfield 110, 3) := by decide +kernel
theorem d_RT_trees_11 : decode b_RT_trees 11 = .ok (.ifCond .ne 5, 3) := by decide +kernel
theorem d_RT_trees_14 : decode b_RT_trees 14 = .ok (.lconst 0, 1) := by decide +kernel
theorem d_RT_trees_15 : decode b_RT_trees 15 = .ok (.lreturn, 1) := by decide +kernel
theorem d_RT_trees_16 : decode b_RT_trees 16 = .ok (.aload_n 0, 1) := by decide +kernel
theorem d_RT_trees_17 : decode b_RT_trees 17 = .ok (.getfield 47, 3) := by decide +kernel
theorem d_RT_trees_20 : decode b_RT_trees 20 = .ok (.invokevirtual 123, 3) := by decide +kernel
theorem d_RT_trees_23 : decode b_RT_trees 23 = .ok (.aload_n 0, 1) := by decide +kernel
theorem d_RT_trees_24 : decode b_RT_trees 24 = .ok (.getfield 47, 3) := by decide +kernel
theorem d_RT_trees_27 : decode b_RT_trees 27 = .ok (.getfield 126, 3) := by decide +kernel
theorem d_RT_trees_30 : decode b_RT_trees 30 = .ok (.aload_n 0, 1) := by decide +kernel
theorem d_RT_trees_31 : decode b_RT_trees 31 = .ok (.invokevirtual 130, 3) := by decide +kernel
theorem d_RT_trees_34 : decode b_RT_trees 34 = .ok (.laload, 1) := by decide +kernel
theorem d_RT_trees_35 : decode b_RT_trees 35 = .ok (.lreturn, 1) := by decide +kernel
theorem d_RT_ways_0 : decode b_RT_ways 0 = .ok (.aload_n 0, 1) := by decide +kernel
theorem d_RT_ways_1 : decode b_RT_ways 1 = .ok (.invokevirtual 120, 3) := by decide +kernel
theorem d_RT_ways_4 : decode b_RT_ways 4 = .ok (.iload_n 1, 1) := by decide +kernel
theorem d_RT_ways_5 : decode b_RT_ways 5 = .ok (.invokestatic 134, 3) := by decide +kernel
theorem d_RT_ways_8 : decode b_RT_ways 8 = .ok (.ifCond .ne 13, 3) := by decide +kernel
theorem d_RT_ways_11 : decode b_RT_ways 11 = .ok (.new 99, 3) := by decide +kernel
theorem d_RT_ways_14 : decode b_RT_ways 14 = .ok (.dup, 1) := by decide +kernel
theorem d_RT_ways_15 : decode b_RT_ways 15 = .ok (.ldc 137, 2) := by decide +kernel
theorem d_RT_ways_17 : decode b_RT_ways 17 = .ok (.invokespecial 103, 3) := by decide +kernel
theorem d_RT_ways_20 : decode b_RT_ways 20 = .ok (.athrow, 1) := by decide +kernel
theorem d_RT_ways_21 : decode b_RT_ways 21 = .ok (.iload_n 2, 1) := by decide +kernel
theorem d_RT_ways_22 : decode b_RT_ways 22 = .ok (.ifCond .lt 19, 3) := by decide +kernel
theorem d_RT_ways_25 : decode b_RT_ways 25 = .ok (.iload_n 3, 1) := by decide +kernel
theorem d_RT_ways_26 : decode b_RT_ways 26 = .ok (.aload_n 0, 1) := by decide +kernel
theorem d_RT_ways_27 : decode b_RT_ways 27 = .ok (.getfield 28, 3) := by decide +kernel
theorem d_RT_ways_30 : decode b_RT_ways 30 = .ok (.getfield 110, 3) := by decide +kernel
theorem d_RT_ways_33 : decode b_RT_ways 33 = .ok (.if_icmp .gt 8, 3) := by decide +kernel
theorem d_RT_ways_36 : decode b_RT_ways 36 = .ok (.iload_n 2, 1) := by decide +kernel
theorem d_RT_ways_37 : decode b_RT_ways 37 = .ok (.iload_n 3, 1) := by decide +kernel
theorem d_RT_ways_38 : decode b_RT_ways 38 = .ok (.if_icmp .lt 13, 3) := by decide +kernel
theorem d_RT_ways_41 : decode b_RT_ways 41 = .ok (.new 77, 3) := by decide +kernel
theorem d_RT_ways_44 : decode b_RT_ways 44 = .ok (.dup, 1) := by decide +kernel
theorem d_RT_ways_45 : decode b_RT_ways 45 = .ok (.ldc 139, 2) := by decide +kernel
theorem d_RT_ways_47 : decode b_RT_ways 47 = .ok (.invokespecial 81, 3) := by decide +kernel
theorem d_RT_ways_50 : decode b_RT_ways 50 = .ok (.athrow, 1) := by decide +kernel
theorem d_RT_ways_51 : decode b_RT_ways 51 = .ok (.aload_n 0, 1) := by decide +kernel
theorem d_RT_ways_52 : decode b_RT_ways 52 = .ok (.getfield 47, 3) := by decide +kernel
theorem d_RT_ways_55 : decode b_RT_ways 55 = .ok (.invokevirtual 123, 3) := by decide +kernel
theorem d_RT_ways_58 : decode b_RT_ways 58 = .ok (.aload_n 0, 1) := by decide +kernel
theorem d_RT_ways_59 : decode b_RT_ways 59 = .ok (.getfield 47, 3) := by decide +kernel
theorem d_RT_ways_62 : decode b_RT_ways 62 = .ok (.getfield 126, 3) := by decide +kernel
theorem d_RT_ways_65 : decode b_RT_ways 65 = .ok (.iload_n 1, 1) := by decide +kernel
theorem d_RT_ways_66 : decode b_RT_ways 66 = .ok (.iload_n 2, 1) := by decide +kernel
theorem d_RT_ways_67 : decode b_RT_ways 67 = .ok (.iload_n 3, 1) := by decide +kernel
theorem d_RT_ways_68 : decode b_RT_ways 68 = .ok (.invokestatic 141, 3) := by decide +kernel
theorem d_RT_ways_71 : decode b_RT_ways 71 = .ok (.laload, 1) := by decide +kernel
theorem d_RT_ways_72 : decode b_RT_ways 72 = .ok (.lreturn, 1) := by decide +kernel
theorem d_RT_rankedTree_0 : decode b_RT_rankedTree 0 = .ok (.aload_n 0, 1) := by decide +kernel
theorem d_RT_rankedTree_1 : decode b_RT_rankedTree 1 = .ok (.invokevirtual 120, 3) := by decide +kernel
theorem d_RT_rankedTree_4 : decode b_RT_rankedTree 4 = .ok (.iload_n 1, 1) := by decide +kernel
theorem d_RT_rankedTree_5 : decode b_RT_rankedTree 5 = .ok (.ifCond .lt 9, 3) := by decide +kernel
theorem d_RT_rankedTree_8 : decode b_RT_rankedTree 8 = .ok (.iload_n 1, 1) := by decide +kernel
theorem d_RT_rankedTree_9 : decode b_RT_rankedTree 9 = .ok (.bipush 8, 2) := by decide +kernel
theorem d_RT_rankedTree_11 : decode b_RT_rankedTree 11 = .ok (.if_icmp .lt 13, 3) := by decide +kernel
theorem d_RT_rankedTree_14 : decode b_RT_rankedTree 14 = .ok (.new 99, 3) := by decide +kernel
theorem d_RT_rankedTree_17 : decode b_RT_rankedTree 17 = .ok (.dup, 1) := by decide +kernel
theorem d_RT_rankedTree_18 : decode b_RT_rankedTree 18 = .ok (.ldc 177, 2) := by decide +kernel
theorem d_RT_rankedTree_20 : decode b_RT_rankedTree 20 = .ok (.invokespecial 103, 3) := by decide +kernel
theorem d_RT_rankedTree_23 : decode b_RT_rankedTree 23 = .ok (.athrow, 1) := by decide +kernel
theorem d_RT_rankedTree_24 : decode b_RT_rankedTree 24 = .ok (.aload_n 0, 1) := by decide +kernel
theorem d_RT_rankedTree_25 : decode b_RT_rankedTree 25 = .ok (.getfield 28, 3) := by decide +kernel
theorem d_RT_rankedTree_28 : decode b_RT_rankedTree 28 = .ok (.getfield 110, 3) := by decide +kernel
theorem d_RT_rankedTree_31 : decode b_RT_rankedTree 31 = .ok (.ifCond .ne 13, 3) := by decide +kernel
theorem d_RT_rankedTree_34 : decode b_RT_rankedTree 34 = .ok (.new 179, 3) := by decide +kernel
theorem d_RT_rankedTree_37 : decode b_RT_rankedTree 37 = .ok (.dup, 1) := by decide +kernel
theorem d_RT_rankedTree_38 : decode b_RT_rankedTree 38 = .ok (.ldc 181, 2) := by decide +kernel
theorem d_RT_rankedTree_40 : decode b_RT_rankedTree 40 = .ok (.invokespecial 183, 3) := by decide +kernel
theorem d_RT_rankedTree_43 : decode b_RT_rankedTree 43 = .ok (.athrow, 1) := by decide +kernel
theorem d_RT_rankedTree_44 : decode b_RT_rankedTree 44 = .ok (.aload_n 0, 1) := by decide +kernel
theorem d_RT_rankedTree_45 : decode b_RT_rankedTree 45 = .ok (.getfield 47, 3) := by decide +kernel
theorem d_RT_rankedTree_48 : decode b_RT_rankedTree 48 = .ok (.invokevirtual 123, 3) := by decide +kernel
theorem d_RT_rankedTree_51 : decode b_RT_rankedTree 51 = .ok (.aload_n 0, 1) := by decide +kernel
theorem d_RT_rankedTree_52 : decode b_RT_rankedTree 52 = .ok (.invokevirtual 130, 3) := by decide +kernel
theorem d_RT_rankedTree_55 : decode b_RT_rankedTree 55 = .ok (.istore_n 2, 1) := by decide +kernel
theorem d_RT_rankedTree_56 : decode b_RT_rankedTree 56 = .ok (.iload_n 1, 1) := by decide +kernel
theorem d_RT_rankedTree_57 : decode b_RT_rankedTree 57 = .ok (.aload_n 0, 1) := by decide +kernel
theorem d_RT_rankedTree_58 : decode b_RT_rankedTree 58 = .ok (.getfield 47, 3) := by decide +kernel
theorem d_RT_rankedTree_61 : decode b_RT_rankedTree 61 = .ok (.getfield 184, 3) := by decide +kernel
theorem d_RT_rankedTree_64 : decode b_RT_rankedTree 64 = .ok (.iload_n 2, 1) := by decide +kernel
theorem d_RT_rankedTree_65 : decode b_RT_rankedTree 65 = .ok (.iaload, 1) := by decide +kernel
theorem d_RT_rankedTree_66 : decode b_RT_rankedTree 66 = .ok (.if_icmp .lt 13, 3) := by decide +kernel
theorem d_RT_rankedTree_69 : decode b_RT_rankedTree 69 = .ok (.new 179, 3) := by decide +kernel
theorem d_RT_rankedTree_72 : decode b_RT_rankedTree 72 = .ok (.dup, 1) := by decide +kernel
theorem d_RT_rankedTree_73 : decode b_RT_rankedTree 73 = .ok (.ldc 187, 2) := by decide +kernel
theorem d_RT_rankedTree_75 : decode b_RT_rankedTree 75 = .ok (.invokespecial 183, 3) := by decide +kernel
theorem d_RT_rankedTree_78 : decode b_RT_rankedTree 78 = .ok (.athrow, 1) := by decide +kernel
theorem d_RT_rankedTree_79 : decode b_RT_rankedTree 79 = .ok (.iload_n 2, 1) := by decide +kernel
theorem d_RT_rankedTree_80 : decode b_RT_rankedTree 80 = .ok (.bipush 8, 2) := by decide +kernel
theorem d_RT_rankedTree_82 : decode b_RT_rankedTree 82 = .ok (.imul, 1) := by decide +kernel
theorem d_RT_rankedTree_83 : decode b_RT_rankedTree 83 = .ok (.iload_n 1, 1) := by decide +kernel
theorem d_RT_rankedTree_84 : decode b_RT_rankedTree 84 = .ok (.iadd, 1) := by decide +kernel
theorem d_RT_rankedTree_85 : decode b_RT_rankedTree 85 = .ok (.ireturn, 1) := by decide +kernel
theorem d_RT_weight_0 : decode b_RT_weight 0 = .ok (.aload_n 0, 1) := by decide +kernel
theorem d_RT_weight_1 : decode b_RT_weight 1 = .ok (.getfield 47, 3) := by decide +kernel
theorem d_RT_weight_4 : decode b_RT_weight 4 = .ok (.getfield 145, 3) := by decide +kernel
theorem d_RT_weight_7 : decode b_RT_weight 7 = .ok (.getfield 149, 3) := by decide +kernel
theorem d_RT_weight_10 : decode b_RT_weight 10 = .ok (.aload_n 0, 1) := by decide +kernel
theorem d_RT_weight_11 : decode b_RT_weight 11 = .ok (.iload_n 1, 1) := by decide +kernel
theorem d_RT_weight_12 : decode b_RT_weight 12 = .ok (.invokevirtual 152, 3) := by decide +kernel
theorem d_RT_weight_15 : decode b_RT_weight 15 = .ok (.iaload, 1) := by decide +kernel
theorem d_RT_weight_16 : decode b_RT_weight 16 = .ok (.ireturn, 1) := by decide +kernel
theorem d_RT_size_0 : decode b_RT_size 0 = .ok (.aload_n 0, 1) := by decide +kernel
theorem d_RT_size_1 : decode b_RT_size 1 = .ok (.getfield 47, 3) := by decide +kernel
theorem d_RT_size_4 : decode b_RT_size 4 = .ok (.getfield 145, 3) := by decide +kernel
theorem d_RT_size_7 : decode b_RT_size 7 = .ok (.getfield 156, 3) := by decide +kernel
theorem d_RT_size_10 : decode b_RT_size 10 = .ok (.aload_n 0, 1) := by decide +kernel
theorem d_RT_size_11 : decode b_RT_size 11 = .ok (.iload_n 1, 1) := by decide +kernel
theorem d_RT_size_12 : decode b_RT_size 12 = .ok (.invokevirtual 152, 3) := by decide +kernel
theorem d_RT_size_15 : decode b_RT_size 15 = .ok (.iaload, 1) := by decide +kernel
theorem d_RT_size_16 : decode b_RT_size 16 = .ok (.ireturn, 1) := by decide +kernel
theorem d_RT_at_0 : decode b_RT_at 0 = .ok (.aload_n 0, 1) := by decide +kernel
theorem d_RT_at_1 : decode b_RT_at 1 = .ok (.invokevirtual 120, 3) := by decide +kernel
theorem d_RT_at_4 : decode b_RT_at 4 = .ok (.iload_n 3, 1) := by decide +kernel
theorem d_RT_at_5 : decode b_RT_at 5 = .ok (.ifCond .lt 8, 3) := by decide +kernel
theorem d_RT_at_8 : decode b_RT_at 8 = .ok (.iload_n 3, 1) := by decide +kernel
theorem d_RT_at_9 : decode b_RT_at 9 = .ok (.iconst 2, 1) := by decide +kernel
theorem d_RT_at_10 : decode b_RT_at 10 = .ok (.if_icmp .le 13, 3) := by decide +kernel
theorem d_RT_at_13 : decode b_RT_at 13 = .ok (.new 99, 3) := by decide +kernel
theorem d_RT_at_16 : decode b_RT_at 16 = .ok (.dup, 1) := by decide +kernel
theorem d_RT_at_17 : decode b_RT_at 17 = .ok (.ldc 159, 2) := by decide +kernel
theorem d_RT_at_19 : decode b_RT_at 19 = .ok (.invokespecial 103, 3) := by decide +kernel
theorem d_RT_at_22 : decode b_RT_at 22 = .ok (.athrow, 1) := by decide +kernel
theorem d_RT_at_23 : decode b_RT_at 23 = .ok (.aload_n 0, 1) := by decide +kernel
theorem d_RT_at_24 : decode b_RT_at 24 = .ok (.iload_n 1, 1) := by decide +kernel
theorem d_RT_at_25 : decode b_RT_at 25 = .ok (.invokevirtual 152, 3) := by decide +kernel
theorem d_RT_at_28 : decode b_RT_at 28 = .ok (.istore 4, 2) := by decide +kernel
theorem d_RT_at_30 : decode b_RT_at 30 = .ok (.iload_n 2, 1) := by decide +kernel
theorem d_RT_at_31 : decode b_RT_at 31 = .ok (.ifCond .lt 20, 3) := by decide +kernel
theorem d_RT_at_34 : decode b_RT_at 34 = .ok (.iload_n 2, 1) := by decide +kernel
theorem d_RT_at_35 : decode b_RT_at 35 = .ok (.aload_n 0, 1) := by decide +kernel
theorem d_RT_at_36 : decode b_RT_at 36 = .ok (.getfield 47, 3) := by decide +kernel
theorem d_RT_at_39 : decode b_RT_at 39 = .ok (.getfield 145, 3) := by decide +kernel
theorem d_RT_at_42 : decode b_RT_at 42 = .ok (.getfield 156, 3) := by decide +kernel
theorem d_RT_at_45 : decode b_RT_at 45 = .ok (.iload 4, 2) := by decide +kernel
theorem d_RT_at_47 : decode b_RT_at 47 = .ok (.iaload, 1) := by decide +kernel
theorem d_RT_at_48 : decode b_RT_at 48 = .ok (.if_icmp .lt 13, 3) := by decide +kernel
theorem d_RT_at_51 : decode b_RT_at 51 = .ok (.new 77, 3) := by decide +kernel
theorem d_RT_at_54 : decode b_RT_at 54 = .ok (.dup, 1) := by decide +kernel
theorem d_RT_at_55 : decode b_RT_at 55 = .ok (.ldc 161, 2) := by decide +kernel
theorem d_RT_at_57 : decode b_RT_at 57 = .ok (.invokespecial 81, 3) := by decide +kernel
theorem d_RT_at_60 : decode b_RT_at 60 = .ok (.athrow, 1) := by decide +kernel
theorem d_RT_at_61 : decode b_RT_at 61 = .ok (.aload_n 0, 1) := by decide +kernel
theorem d_RT_at_62 : decode b_RT_at 62 = .ok (.getfield 47, 3) := by decide +kernel
theorem d_RT_at_65 : decode b_RT_at 65 = .ok (.getfield 145, 3) := by decide +kernel
theorem d_RT_at_68 : decode b_RT_at 68 = .ok (.iload 4, 2) := by decide +kernel
theorem d_RT_at_70 : decode b_RT_at 70 = .ok (.iload_n 2, 1) := by decide +kernel
theorem d_RT_at_71 : decode b_RT_at 71 = .ok (.invokevirtual 163, 3) := by decide +kernel
theorem d_RT_at_74 : decode b_RT_at 74 = .ok (.istore 5, 2) := by decide +kernel
theorem d_RT_at_76 : decode b_RT_at 76 = .ok (.iload_n 3, 1) := by decide +kernel
theorem d_RT_at_77 : decode b_RT_at 77 = .ok (.ifCond .ne 17, 3) := by decide +kernel
theorem d_RT_at_80 : decode b_RT_at 80 = .ok (.aload_n 0, 1) := by decide +kernel
theorem d_RT_at_81 : decode b_RT_at 81 = .ok (.getfield 47, 3) := by decide +kernel
theorem d_RT_at_84 : decode b_RT_at 84 = .ok (.getfield 145, 3) := by decide +kernel
theorem d_RT_at_87 : decode b_RT_at 87 = .ok (.getfield 166, 3) := by decide +kernel
theorem d_RT_at_90 : decode b_RT_at 90 = .ok (.iload 5, 2) := by decide +kernel
theorem d_RT_at_92 : decode b_RT_at 92 = .ok (.iaload, 1) := by decide +kernel
theorem d_RT_at_93 : decode b_RT_at 93 = .ok (.ireturn, 1) := by decide +kernel
theorem d_RT_at_94 : decode b_RT_at 94 = .ok (.iload_n 3, 1) := by decide +kernel
theorem d_RT_at_95 : decode b_RT_at 95 = .ok (.iconst 1, 1) := by decide +kernel
theorem d_RT_at_96 : decode b_RT_at 96 = .ok (.if_icmp .ne 11, 3) := by decide +kernel
theorem d_RT_at_99 : decode b_RT_at 99 = .ok (.iload 5, 2) := by decide +kernel
theorem d_RT_at_101 : decode b_RT_at 101 = .ok (.invokestatic 169, 3) := by decide +kernel
theorem d_RT_at_104 : decode b_RT_at 104 = .ok (.goto 8, 3) := by decide +kernel
theorem d_RT_at_107 : decode b_RT_at 107 = .ok (.iload 5, 2) := by decide +kernel
theorem d_RT_at_109 : decode b_RT_at 109 = .ok (.invokestatic 172, 3) := by decide +kernel
theorem d_RT_at_112 : decode b_RT_at 112 = .ok (.ireturn, 1) := by decide +kernel
theorem tb_10 : (Cond.selects R_RT y_RT_needGrammar y_RT_needGrammar) ∈ TB := tb_mem (i := 10) (by decide +kernel) (by decide +kernel)
theorem tb_17 : (Cond.selects R_RT y_RT_startCell y_RT_startCell) ∈ TB := tb_mem (i := 17) (by decide +kernel) (by decide +kernel)
theorem tb_18 : (Cond.selects R_RT y_RT_rankedTree y_RT_rankedTree) ∈ TB := tb_mem (i := 18) (by decide +kernel) (by decide +kernel)
theorem tb_54 : (Cond.initialized "java/lang/IndexOutOfBoundsException") ∈ TB := tb_mem (i := 54) (by decide +kernel) (by decide +kernel)
theorem tb_55 : (Cond.initialized "java/lang/IllegalArgumentException") ∈ TB := tb_mem (i := 55) (by decide +kernel) (by decide +kernel)
theorem tb_56 : (Cond.initialized "java/lang/IllegalStateException") ∈ TB := tb_mem (i := 56) (by decide +kernel) (by decide +kernel)
theorem tb_57 : (Cond.initialized "java/util/NoSuchElementException") ∈ TB := tb_mem (i := 57) (by decide +kernel) (by decide +kernel)
theorem tb_103 : (Cond.fieldLink R_RT 116 "RankedTrees$Row" "tokens" "[C") ∈ TB := tb_mem (i := 103) (by decide +kernel) (by decide +kernel)
theorem tb_132 : (Cond.fieldLink R_RT 92 "RankedTrees$Grammar" "weights" "[I") ∈ TB := tb_mem (i := 132) (by decide +kernel) (by decide +kernel)
theorem tb_135 : (Cond.fieldLink R_RT 95 "RankedTrees$Grammar" "useful" "[Z") ∈ TB := tb_mem (i := 135) (by decide +kernel) (by decide +kernel)
theorem tb_172 : (Cond.fieldLink R_RT 166 "RankedTrees$Forest" "ownRules" "[I") ∈ TB := tb_mem (i := 172) (by decide +kernel) (by decide +kernel)
theorem tb_174 : (Cond.fieldLink R_RT 149 "RankedTrees$Forest" "weights" "[I") ∈ TB := tb_mem (i := 174) (by decide +kernel) (by decide +kernel)
theorem tb_176 : (Cond.fieldLink R_RT 156 "RankedTrees$Forest" "sizes" "[I") ∈ TB := tb_mem (i := 176) (by decide +kernel) (by decide +kernel)
theorem tb_189 : (Cond.fieldLink R_RT 145 "RankedTrees$Chart" "forest" "LRankedTrees$Forest;") ∈ TB := tb_mem (i := 189) (by decide +kernel) (by decide +kernel)
theorem tb_191 : (Cond.fieldLink R_RT 126 "RankedTrees$Chart" "counts" "[J") ∈ TB := tb_mem (i := 191) (by decide +kernel) (by decide +kernel)
theorem tb_193 : (Cond.fieldLink R_RT 184 "RankedTrees$Chart" "kept" "[I") ∈ TB := tb_mem (i := 193) (by decide +kernel) (by decide +kernel)
theorem tb_344 : (Cond.classLink R_RT 77 "java/lang/IndexOutOfBoundsException") ∈ TB := tb_mem (i := 344) (by decide +kernel) (by decide +kernel)
theorem tb_345 : (Cond.instantiable "java/lang/IndexOutOfBoundsException" 6) ∈ TB := tb_mem (i := 345) (by decide +kernel) (by decide +kernel)
theorem tb_413 : (Cond.methodLink R_RT 88 y_Grammar_symbol) ∈ TB := tb_mem (i := 413) (by decide +kernel) (by decide +kernel)
theorem tb_414 : (Cond.classLink R_RT 99 "java/lang/IllegalArgumentException") ∈ TB := tb_mem (i := 414) (by decide +kernel) (by decide +kernel)
theorem tb_415 : (Cond.instantiable "java/lang/IllegalArgumentException" 6) ∈ TB := tb_mem (i := 415) (by decide +kernel) (by decide +kernel)
theorem tb_438 : (Cond.methodLink R_RT 104 y_RT_isToken) ∈ TB := tb_mem (i := 438) (by decide +kernel) (by decide +kernel)
theorem tb_440 : (Cond.classLink R_RT 111 "java/lang/IllegalStateException") ∈ TB := tb_mem (i := 440) (by decide +kernel) (by decide +kernel)
theorem tb_441 : (Cond.instantiable "java/lang/IllegalStateException" 6) ∈ TB := tb_mem (i := 441) (by decide +kernel) (by decide +kernel)
theorem tb_463 : (Cond.methodLink R_RT 120 y_RT_needGrammar) ∈ TB := tb_mem (i := 463) (by decide +kernel) (by decide +kernel)
theorem tb_465 : (Cond.instanceMethod y_RT_needGrammar) ∈ TB := tb_mem (i := 465) (by decide +kernel) (by decide +kernel)
theorem tb_466 : (Cond.code y_RT_needGrammar b_RT_needGrammar 1 none) ∈ TB := tb_mem (i := 466) (by decide +kernel) (by decide +kernel)
theorem tb_468 : (Cond.methodLink R_RT 123 y_Chart_complete) ∈ TB := tb_mem (i := 468) (by decide +kernel) (by decide +kernel)
theorem tb_469 : (Cond.instanceMethod y_Chart_complete) ∈ TB := tb_mem (i := 469) (by decide +kernel) (by decide +kernel)
theorem tb_470 : (Cond.selects R_Chart y_Chart_complete y_Chart_complete) ∈ TB := tb_mem (i := 470) (by decide +kernel) (by decide +kernel)
theorem tb_471 : (Cond.code y_Chart_complete b_Chart_complete 4 none) ∈ TB := tb_mem (i := 471) (by decide +kernel) (by decide +kernel)
theorem tb_523 : (Cond.methodLink R_RT 130 y_RT_startCell) ∈ TB := tb_mem (i := 523) (by decide +kernel) (by decide +kernel)
theorem tb_525 : (Cond.instanceMethod y_RT_startCell) ∈ TB := tb_mem (i := 525) (by decide +kernel) (by decide +kernel)
theorem tb_526 : (Cond.code y_RT_startCell b_RT_startCell 1 (some .int)) ∈ TB := tb_mem (i := 526) (by decide +kernel) (by decide +kernel)
theorem tb_535 : (Cond.methodLink R_RT 134 y_RT_isLetter) ∈ TB := tb_mem (i := 535) (by decide +kernel) (by decide +kernel)
theorem tb_546 : (Cond.methodLink R_RT 152 y_RT_rankedTree) ∈ TB := tb_mem (i := 546) (by decide +kernel) (by decide +kernel)
theorem tb_548 : (Cond.instanceMethod y_RT_rankedTree) ∈ TB := tb_mem (i := 548) (by decide +kernel) (by decide +kernel)
theorem tb_549 : (Cond.code y_RT_rankedTree b_RT_rankedTree 3 (some .int)) ∈ TB := tb_mem (i := 549) (by decide +kernel) (by decide +kernel)
theorem tb_551 : (Cond.classLink R_RT 179 "java/util/NoSuchElementException") ∈ TB := tb_mem (i := 551) (by decide +kernel) (by decide +kernel)
theorem tb_552 : (Cond.instantiable "java/util/NoSuchElementException" 6) ∈ TB := tb_mem (i := 552) (by decide +kernel) (by decide +kernel)
theorem tb_584 : (Cond.methodLink R_RT 163 y_Forest_partAt) ∈ TB := tb_mem (i := 584) (by decide +kernel) (by decide +kernel)
theorem tb_585 : (Cond.instanceMethod y_Forest_partAt) ∈ TB := tb_mem (i := 585) (by decide +kernel) (by decide +kernel)
theorem tb_586 : (Cond.selects R_Forest y_Forest_partAt y_Forest_partAt) ∈ TB := tb_mem (i := 586) (by decide +kernel) (by decide +kernel)
theorem tb_587 : (Cond.code y_Forest_partAt b_Forest_partAt 8 (some .int)) ∈ TB := tb_mem (i := 587) (by decide +kernel) (by decide +kernel)
theorem tb_588 : (Cond.methodLink R_RT 169 y_RT_fromOf) ∈ TB := tb_mem (i := 588) (by decide +kernel) (by decide +kernel)
theorem tb_589 : (Cond.static y_RT_fromOf) ∈ TB := tb_mem (i := 589) (by decide +kernel) (by decide +kernel)
theorem tb_590 : (Cond.code y_RT_fromOf b_RT_fromOf 1 (some .int)) ∈ TB := tb_mem (i := 590) (by decide +kernel) (by decide +kernel)
theorem oa_IllegalArgumentException : ∀ w ∈ Bundle.ownAtoms R_RT 103 "java/lang/IllegalArgumentException" ["java/lang/RuntimeException", "java/lang/Exception"], w ∈ TB ∨ w ∈ [xw1, xw2, xw3, xw4] ++ XF1 := by decide +kernel
theorem oa_IllegalStateException : ∀ w ∈ Bundle.ownAtoms R_RT 115 "java/lang/IllegalStateException" ["java/lang/RuntimeException", "java/lang/Exception"], w ∈ TB ∨ w ∈ [xw1, xw2, xw3, xw4] ++ XF1 := by decide +kernel
theorem oa_IndexOutOfBoundsException : ∀ w ∈ Bundle.ownAtoms R_RT 81 "java/lang/IndexOutOfBoundsException" ["java/lang/RuntimeException", "java/lang/Exception"], w ∈ TB ∨ w ∈ [xw1, xw2, xw3, xw4] ++ XF1 := by decide +kernel
theorem oa_NoSuchElementException : ∀ w ∈ xAtoms R_RT 183 "java/util/NoSuchElementException" "java/lang/RuntimeException" ["java/lang/Exception"], w ∈ TB ∨ w ∈ [xw1, xw2, xw3, xw4] ++ XF1 := by decide +kernel
