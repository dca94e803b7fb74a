theorem d_M_readRule_18 : decode b_M_readRule 18 = .ok (.ifCond .ne 5, 3) := by decide +kernel
theorem d_M_readRule_21 : decode b_M_readRule 21 = .ok (.iconst 0, 1) := by decide +kernel
theorem d_M_readRule_22 : decode b_M_readRule 22 = .ok (.ireturn, 1) := by decide +kernel
theorem d_M_readRule_23 : decode b_M_readRule 23 = .ok (.bipush 14, 2) := by decide +kernel
theorem d_M_readRule_25 : decode b_M_readRule 25 = .ok (.aload_n 0, 1) := by decide +kernel
theorem d_M_readRule_26 : decode b_M_readRule 26 = .ok (.getfield 13, 3) := by decide +kernel
theorem d_M_readRule_29 : decode b_M_readRule 29 = .ok (.iconst 1, 1) := by decide +kernel
theorem d_M_readRule_30 : decode b_M_readRule 30 = .ok (.iaload, 1) := by decide +kernel
theorem d_M_readRule_31 : decode b_M_readRule 31 = .ok (.iadd, 1) := by decide +kernel
theorem d_M_readRule_32 : decode b_M_readRule 32 = .ok (.istore_n 1, 1) := by decide +kernel
theorem d_M_readRule_33 : decode b_M_readRule 33 = .ok (.aload_n 0, 1) := by decide +kernel
theorem d_M_readRule_34 : decode b_M_readRule 34 = .ok (.getfield 17, 3) := by decide +kernel
theorem d_M_readRule_37 : decode b_M_readRule 37 = .ok (.iload_n 1, 1) := by decide +kernel
theorem d_M_readRule_38 : decode b_M_readRule 38 = .ok (.aload_n 0, 1) := by decide +kernel
theorem d_M_readRule_39 : decode b_M_readRule 39 = .ok (.invokevirtual 93, 3) := by decide +kernel
theorem d_M_readRule_42 : decode b_M_readRule 42 = .ok (.bipush 65, 2) := by decide +kernel
theorem d_M_readRule_44 : decode b_M_readRule 44 = .ok (.isub, 1) := by decide +kernel
theorem d_M_readRule_45 : decode b_M_readRule 45 = .ok (.iastore, 1) := by decide +kernel
theorem d_M_readRule_46 : decode b_M_readRule 46 = .ok (.aload_n 0, 1) := by decide +kernel
theorem d_M_readRule_47 : decode b_M_readRule 47 = .ok (.dup, 1) := by decide +kernel
theorem d_M_readRule_48 : decode b_M_readRule 48 = .ok (.getfield 90, 3) := by decide +kernel
theorem d_M_readRule_51 : decode b_M_readRule 51 = .ok (.iconst 1, 1) := by decide +kernel
theorem d_M_readRule_52 : decode b_M_readRule 52 = .ok (.iadd, 1) := by decide +kernel
theorem d_M_readRule_53 : decode b_M_readRule 53 = .ok (.putfield 90, 3) := by decide +kernel
theorem d_M_readRule_56 : decode b_M_readRule 56 = .ok (.aload_n 0, 1) := by decide +kernel
theorem d_M_readRule_57 : decode b_M_readRule 57 = .ok (.invokevirtual 93, 3) := by decide +kernel
theorem d_M_readRule_60 : decode b_M_readRule 60 = .ok (.bipush 61, 2) := by decide +kernel
theorem d_M_readRule_62 : decode b_M_readRule 62 = .ok (.if_icmp .eq 5, 3) := by decide +kernel
theorem d_M_readRule_65 : decode b_M_readRule 65 = .ok (.iconst 0, 1) := by decide +kernel
theorem d_M_readRule_66 : decode b_M_readRule 66 = .ok (.ireturn, 1) := by decide +kernel
theorem d_M_readRule_67 : decode b_M_readRule 67 = .ok (.aload_n 0, 1) := by decide +kernel
theorem d_M_readRule_68 : decode b_M_readRule 68 = .ok (.dup, 1) := by decide +kernel
theorem d_M_readRule_69 : decode b_M_readRule 69 = .ok (.getfield 90, 3) := by decide +kernel
theorem d_M_readRule_72 : decode b_M_readRule 72 = .ok (.iconst 1, 1) := by decide +kernel
theorem d_M_readRule_73 : decode b_M_readRule 73 = .ok (.iadd, 1) := by decide +kernel
theorem d_M_readRule_74 : decode b_M_readRule 74 = .ok (.putfield 90, 3) := by decide +kernel
theorem d_M_readRule_77 : decode b_M_readRule 77 = .ok (.aload_n 0, 1) := by decide +kernel
theorem d_M_readRule_78 : decode b_M_readRule 78 = .ok (.getfield 20, 3) := by decide +kernel
theorem d_M_readRule_81 : decode b_M_readRule 81 = .ok (.iload_n 1, 1) := by decide +kernel
theorem d_M_readRule_82 : decode b_M_readRule 82 = .ok (.iconst 0, 1) := by decide +kernel
theorem d_M_readRule_83 : decode b_M_readRule 83 = .ok (.iastore, 1) := by decide +kernel
theorem d_M_readRule_84 : decode b_M_readRule 84 = .ok (.aload_n 0, 1) := by decide +kernel
theorem d_M_readRule_85 : decode b_M_readRule 85 = .ok (.invokevirtual 93, 3) := by decide +kernel
theorem d_M_readRule_88 : decode b_M_readRule 88 = .ok (.invokestatic 101, 3) := by decide +kernel
theorem d_M_readRule_91 : decode b_M_readRule 91 = .ok (.ifCond .ne 13, 3) := by decide +kernel
theorem d_M_readRule_94 : decode b_M_readRule 94 = .ok (.aload_n 0, 1) := by decide +kernel
theorem d_M_readRule_95 : decode b_M_readRule 95 = .ok (.invokevirtual 93, 3) := by decide +kernel
theorem d_M_readRule_98 : decode b_M_readRule 98 = .ok (.invokestatic 105, 3) := by decide +kernel
theorem d_M_readRule_101 : decode b_M_readRule 101 = .ok (.ifCond .eq 7, 3) := by decide +kernel
theorem d_M_readRule_104 : decode b_M_readRule 104 = .ok (.iconst 1, 1) := by decide +kernel
theorem d_M_readRule_105 : decode b_M_readRule 105 = .ok (.goto 4, 3) := by decide +kernel
theorem d_M_readRule_108 : decode b_M_readRule 108 = .ok (.iconst 0, 1) := by decide +kernel
theorem d_M_readRule_109 : decode b_M_readRule 109 = .ok (.istore_n 2, 1) := by decide +kernel
theorem d_M_readRule_110 : decode b_M_readRule 110 = .ok (.iload_n 2, 1) := by decide +kernel
theorem d_M_readRule_111 : decode b_M_readRule 111 = .ok (.ifCond .eq 81, 3) := by decide +kernel
theorem d_M_readRule_114 : decode b_M_readRule 114 = .ok (.aload_n 0, 1) := by decide +kernel
theorem d_M_readRule_115 : decode b_M_readRule 115 = .ok (.getfield 20, 3) := by decide +kernel
theorem d_M_readRule_118 : decode b_M_readRule 118 = .ok (.iload_n 1, 1) := by decide +kernel
theorem d_M_readRule_119 : decode b_M_readRule 119 = .ok (.iaload, 1) := by decide +kernel
theorem d_M_readRule_120 : decode b_M_readRule 120 = .ok (.iconst 3, 1) := by decide +kernel
theorem d_M_readRule_121 : decode b_M_readRule 121 = .ok (.if_icmp .ge 71, 3) := by decide +kernel
theorem d_M_readRule_124 : decode b_M_readRule 124 = .ok (.aload_n 0, 1) := by decide +kernel
theorem d_M_readRule_125 : decode b_M_readRule 125 = .ok (.getfield 23, 3) := by decide +kernel
theorem d_M_readRule_128 : decode b_M_readRule 128 = .ok (.iconst 3, 1) := by decide +kernel
theorem d_M_readRule_129 : decode b_M_readRule 129 = .ok (.iload_n 1, 1) := by decide +kernel
theorem d_M_readRule_130 : decode b_M_readRule 130 = .ok (.imul, 1) := by decide +kernel
theorem d_M_readRule_131 : decode b_M_readRule 131 = .ok (.aload_n 0, 1) := by decide +kernel
theorem d_M_readRule_132 : decode b_M_readRule 132 = .ok (.getfield 20, 3) := by decide +kernel
theorem d_M_readRule_135 : decode b_M_readRule 135 = .ok (.iload_n 1, 1) := by decide +kernel
theorem d_M_readRule_136 : decode b_M_readRule 136 = .ok (.iaload, 1) := by decide +kernel
theorem d_M_readRule_137 : decode b_M_readRule 137 = .ok (.iadd, 1) := by decide +kernel
theorem d_M_readRule_138 : decode b_M_readRule 138 = .ok (.aload_n 0, 1) := by decide +kernel
theorem d_M_readRule_139 : decode b_M_readRule 139 = .ok (.invokevirtual 93, 3) := by decide +kernel
theorem d_M_readRule_142 : decode b_M_readRule 142 = .ok (.castore, 1) := by decide +kernel
theorem d_M_readRule_143 : decode b_M_readRule 143 = .ok (.aload_n 0, 1) := by decide +kernel
theorem d_M_readRule_144 : decode b_M_readRule 144 = .ok (.getfield 20, 3) := by decide +kernel
theorem d_M_readRule_147 : decode b_M_readRule 147 = .ok (.iload_n 1, 1) := by decide +kernel
theorem d_M_readRule_148 : decode b_M_readRule 148 = .ok (.dup2, 1) := by decide +kernel
theorem d_M_readRule_149 : decode b_M_readRule 149 = .ok (.iaload, 1) := by decide +kernel
theorem d_M_readRule_150 : decode b_M_readRule 150 = .ok (.iconst 1, 1) := by decide +kernel
theorem d_M_readRule_151 : decode b_M_readRule 151 = .ok (.iadd, 1) := by decide +kernel
theorem d_M_readRule_152 : decode b_M_readRule 152 = .ok (.iastore, 1) := by decide +kernel
theorem d_M_readRule_153 : decode b_M_readRule 153 = .ok (.aload_n 0, 1) := by decide +kernel
theorem d_M_readRule_154 : decode b_M_readRule 154 = .ok (.dup, 1) := by decide +kernel
theorem d_M_readRule_155 : decode b_M_readRule 155 = .ok (.getfield 90, 3) := by decide +kernel
theorem d_M_readRule_158 : decode b_M_readRule 158 = .ok (.iconst 1, 1) := by decide +kernel
theorem d_M_readRule_159 : decode b_M_readRule 159 = .ok (.iadd, 1) := by decide +kernel
theorem d_M_readRule_160 : decode b_M_readRule 160 = .ok (.putfield 90, 3) := by decide +kernel
theorem d_M_readRule_163 : decode b_M_readRule 163 = .ok (.aload_n 0, 1) := by decide +kernel
theorem d_M_readRule_164 : decode b_M_readRule 164 = .ok (.invokevirtual 93, 3) := by decide +kernel
theorem d_M_readRule_167 : decode b_M_readRule 167 = .ok (.invokestatic 101, 3) := by decide +kernel
theorem d_M_readRule_170 : decode b_M_readRule 170 = .ok (.ifCond .ne 13, 3) := by decide +kernel
theorem d_M_readRule_173 : decode b_M_readRule 173 = .ok (.aload_n 0, 1) := by decide +kernel
theorem d_M_readRule_174 : decode b_M_readRule 174 = .ok (.invokevirtual 93, 3) := by decide +kernel
theorem d_M_readRule_177 : decode b_M_readRule 177 = .ok (.invokestatic 105, 3) := by decide +kernel
theorem d_M_readRule_180 : decode b_M_readRule 180 = .ok (.ifCond .eq 7, 3) := by decide +kernel
theorem d_M_readRule_183 : decode b_M_readRule 183 = .ok (.iconst 1, 1) := by decide +kernel
theorem d_M_readRule_184 : decode b_M_readRule 184 = .ok (.goto 4, 3) := by decide +kernel
theorem d_M_readRule_187 : decode b_M_readRule 187 = .ok (.iconst 0, 1) := by decide +kernel
theorem d_M_readRule_188 : decode b_M_readRule 188 = .ok (.istore_n 2, 1) := by decide +kernel
theorem d_M_readRule_189 : decode b_M_readRule 189 = .ok (.goto (-79), 3) := by decide +kernel
theorem d_M_readRule_192 : decode b_M_readRule 192 = .ok (.aload_n 0, 1) := by decide +kernel
theorem d_M_readRule_193 : decode b_M_readRule 193 = .ok (.getfield 26, 3) := by decide +kernel
theorem d_M_readRule_196 : decode b_M_readRule 196 = .ok (.iload_n 1, 1) := by decide +kernel
theorem d_M_readRule_197 : decode b_M_readRule 197 = .ok (.iconst 1, 1) := by decide +kernel
theorem d_M_readRule_198 : decode b_M_readRule 198 = .ok (.iastore, 1) := by decide +kernel
theorem d_M_readRule_199 : decode b_M_readRule 199 = .ok (.aload_n 0, 1) := by decide +kernel
theorem d_M_readRule_200 : decode b_M_readRule 200 = .ok (.invokevirtual 93, 3) := by decide +kernel
theorem d_M_readRule_203 : decode b_M_readRule 203 = .ok (.bipush 58, 2) := by decide +kernel
theorem d_M_readRule_205 : decode b_M_readRule 205 = .ok (.if_icmp .ne 23, 3) := by decide +kernel
theorem d_M_readRule_208 : decode b_M_readRule 208 = .ok (.aload_n 0, 1) := by decide +kernel
theorem d_M_readRule_209 : decode b_M_readRule 209 = .ok (.dup, 1) := by decide +kernel
theorem d_M_readRule_210 : decode b_M_readRule 210 = .ok (.getfield 90, 3) := by decide +kernel
theorem d_M_readRule_213 : decode b_M_readRule 213 = .ok (.iconst 1, 1) := by decide +kernel
theorem d_M_readRule_214 : decode b_M_readRule 214 = .ok (.iadd, 1) := by decide +kernel
theorem d_M_readRule_215 : decode b_M_readRule 215 = .ok (.putfield 90, 3) := by decide +kernel
theorem d_M_readRule_218 : decode b_M_readRule 218 = .ok (.aload_n 0, 1) := by decide +kernel
theorem d_M_readRule_219 : decode b_M_readRule 219 = .ok (.getfield 26, 3) := by decide +kernel
theorem d_M_readRule_222 : decode b_M_readRule 222 = .ok (.iload_n 1, 1) := by decide +kernel
theorem d_M_readRule_223 : decode b_M_readRule 223 = .ok (.aload_n 0, 1) := by decide +kernel
theorem d_M_readRule_224 : decode b_M_readRule 224 = .ok (.invokevirtual 108, 3) := by decide +kernel
theorem d_M_readRule_227 : decode b_M_readRule 227 = .ok (.iastore, 1) := by decide +kernel
theorem d_M_readRule_228 : decode b_M_readRule 228 = .ok (.aload_n 0, 1) := by decide +kernel
theorem d_M_readRule_229 : decode b_M_readRule 229 = .ok (.getfield 20, 3) := by decide +kernel
theorem d_M_readRule_232 : decode b_M_readRule 232 = .ok (.iload_n 1, 1) := by decide +kernel
theorem d_M_readRule_233 : decode b_M_readRule 233 = .ok (.iaload, 1) := by decide +kernel
theorem d_M_readRule_234 : decode b_M_readRule 234 = .ok (.ifCond .le 25, 3) := by decide +kernel
theorem d_M_readRule_237 : decode b_M_readRule 237 = .ok (.aload_n 0, 1) := by decide +kernel
theorem d_M_readRule_238 : decode b_M_readRule 238 = .ok (.getfield 26, 3) := by decide +kernel
theorem d_M_readRule_241 : decode b_M_readRule 241 = .ok (.iload_n 1, 1) := by decide +kernel
theorem d_M_readRule_242 : decode b_M_readRule 242 = .ok (.iaload, 1) := by decide +kernel
theorem d_M_readRule_243 : decode b_M_readRule 243 = .ok (.ifCond .lt 16, 3) := by decide +kernel
theorem d_M_readRule_246 : decode b_M_readRule 246 = .ok (.aload_n 0, 1) := by decide +kernel
theorem d_M_readRule_247 : decode b_M_readRule 247 = .ok (.invokevirtual 93, 3) := by decide +kernel
theorem d_M_readRule_250 : decode b_M_readRule 250 = .ok (.bipush 59, 2) := by decide +kernel
theorem d_M_readRule_252 : decode b_M_readRule 252 = .ok (.if_icmp .ne 7, 3) := by decide +kernel
theorem d_M_readRule_255 : decode b_M_readRule 255 = .ok (.iconst 1, 1) := by decide +kernel
theorem d_M_readRule_256 : decode b_M_readRule 256 = .ok (.goto 4, 3) := by decide +kernel
theorem d_M_readRule_259 : decode b_M_readRule 259 = .ok (.iconst 0, 1) := by decide +kernel
theorem d_M_readRule_260 : decode b_M_readRule 260 = .ok (.istore_n 3, 1) := by decide +kernel
theorem d_M_readRule_261 : decode b_M_readRule 261 = .ok (.aload_n 0, 1) := by decide +kernel
theorem d_M_readRule_262 : decode b_M_readRule 262 = .ok (.dup, 1) := by decide +kernel
theorem d_M_readRule_263 : decode b_M_readRule 263 = .ok (.getfield 90, 3) := by decide +kernel
theorem d_M_readRule_266 : decode b_M_readRule 266 = .ok (.iconst 1, 1) := by decide +kernel
theorem d_M_readRule_267 : decode b_M_readRule 267 = .ok (.iadd, 1) := by decide +kernel
theorem d_M_readRule_268 : decode b_M_readRule 268 = .ok (.putfield 90, 3) := by decide +kernel
theorem d_M_readRule_271 : decode b_M_readRule 271 = .ok (.iload_n 3, 1) := by decide +kernel
theorem d_M_readRule_272 : decode b_M_readRule 272 = .ok (.ifCond .eq 15, 3) := by decide +kernel
theorem d_M_readRule_275 : decode b_M_readRule 275 = .ok (.aload_n 0, 1) := by decide +kernel
theorem d_M_readRule_276 : decode b_M_readRule 276 = .ok (.iload_n 1, 1) := by decide +kernel
theorem d_M_readRule_277 : decode b_M_readRule 277 = .ok (.invokevirtual 112, 3) := by decide +kernel
theorem d_M_readRule_280 : decode b_M_readRule 280 = .ok (.ifCond .ne 7, 3) := by decide +kernel
theorem d_M_readRule_283 : decode b_M_readRule 283 = .ok (.iconst 1, 1) := by decide +kernel
theorem d_M_readRule_284 : decode b_M_readRule 284 = .ok (.goto 4, 3) := by decide +kernel
theorem d_M_readRule_287 : decode b_M_readRule 287 = .ok (.iconst 0, 1) := by decide +kernel
theorem d_M_readRule_288 : decode b_M_readRule 288 = .ok (.ireturn, 1) := by decide +kernel
theorem d_M_allProductive_0 : decode b_M_allProductive 0 = .ok (.iconst 1, 1) := by decide +kernel
theorem d_M_allProductive_1 : decode b_M_allProductive 1 = .ok (.istore_n 2, 1) := by decide +kernel
theorem d_M_allProductive_2 : decode b_M_allProductive 2 = .ok (.iconst 0, 1) := by decide +kernel
theorem d_M_allProductive_3 : decode b_M_allProductive 3 = .ok (.istore_n 3, 1) := by decide +kernel
theorem d_M_allProductive_4 : decode b_M_allProductive 4 = .ok (.iload_n 3, 1) := by decide +kernel
theorem d_M_allProductive_5 : decode b_M_allProductive 5 = .ok (.aload_n 0, 1) := by decide +kernel
theorem d_M_allProductive_6 : decode b_M_allProductive 6 = .ok (.getfield 20, 3) := by decide +kernel
theorem d_M_allProductive_9 : decode b_M_allProductive 9 = .ok (.iload_n 1, 1) := by decide +kernel
theorem d_M_allProductive_10 : decode b_M_allProductive 10 = .ok (.iaload, 1) := by decide +kernel
theorem d_M_allProductive_11 : decode b_M_allProductive 11 = .ok (.if_icmp .ge 52, 3) := by decide +kernel
theorem d_M_allProductive_14 : decode b_M_allProductive 14 = .ok (.aload_n 0, 1) := by decide +kernel
theorem d_M_allProductive_15 : decode b_M_allProductive 15 = .ok (.getfield 23, 3) := by decide +kernel
theorem d_M_allProductive_18 : decode b_M_allProductive 18 = .ok (.iconst 3, 1) := by decide +kernel
theorem d_M_allProductive_19 : decode b_M_allProductive 19 = .ok (.iload_n 1, 1) := by decide +kernel
theorem d_M_allProductive_20 : decode b_M_allProductive 20 = .ok (.imul, 1) := by decide +kernel
theorem d_M_allProductive_21 : decode b_M_allProductive 21 = .ok (.iload_n 3, 1) := by decide +kernel
theorem d_M_allProductive_22 : decode b_M_allProductive 22 = .ok (.iadd, 1) := by decide +kernel
theorem d_M_allProductive_23 : decode b_M_allProductive 23 = .ok (.caload, 1) := by decide +kernel
theorem d_M_allProductive_24 : decode b_M_allProductive 24 = .ok (.istore 4, 2) := by decide +kernel
theorem d_M_allProductive_26 : decode b_M_allProductive 26 = .ok (.iload_n 2, 1) := by decide +kernel
theorem d_M_allProductive_27 : decode b_M_allProductive 27 = .ok (.ifCond .eq 28, 3) := by decide +kernel
theorem d_M_allProductive_30 : decode b_M_allProductive 30 = .ok (.iload 4, 2) := by decide +kernel
theorem d_M_allProductive_32 : decode b_M_allProductive 32 = .ok (.invokestatic 105, 3) := by decide +kernel
theorem d_M_allProductive_35 : decode b_M_allProductive 35 = .ok (.ifCond .ne 16, 3) := by decide +kernel
theorem d_M_allProductive_38 : decode b_M_allProductive 38 = .ok (.aload_n 0, 1) := by decide +kernel
theorem d_M_allProductive_39 : decode b_M_allProductive 39 = .ok (.getfield 33, 3) := by decide +kernel
theorem d_M_allProductive_42 : decode b_M_allProductive 42 = .ok (.iload 4, 2) := by decide +kernel
theorem d_M_allProductive_44 : decode b_M_allProductive 44 = .ok (.bipush 65, 2) := by decide +kernel
theorem d_M_allProductive_46 : decode b_M_allProductive 46 = .ok (.isub, 1) := by decide +kernel
theorem d_M_allProductive_47 : decode b_M_allProductive 47 = .ok (.baload, 1) := by decide +kernel
theorem d_M_allProductive_48 : decode b_M_allProductive 48 = .ok (.ifCond .eq 7, 3) := by decide +kernel
theorem d_M_allProductive_51 : decode b_M_allProductive 51 = .ok (.iconst 1, 1) := by decide +kernel
theorem d_M_allProductive_52 : decode b_M_allProductive 52 = .ok (.goto 4, 3) := by decide +kernel
theorem d_M_allProductive_55 : decode b_M_allProductive 55 = .ok (.iconst 0, 1) := by decide +kernel
theorem d_M_allProductive_56 : decode b_M_allProductive 56 = .ok (.istore_n 2, 1) := by decide +kernel
theorem d_M_allProductive_57 : decode b_M_allProductive 57 = .ok (.iinc 3 1, 3) := by decide +kernel
theorem d_M_allProductive_60 : decode b_M_allProductive 60 = .ok (.goto (-56), 3) := by decide +kernel
theorem d_M_allProductive_63 : decode b_M_allProductive 63 = .ok (.iload_n 2, 1) := by decide +kernel
theorem d_M_allProductive_64 : decode b_M_allProductive 64 = .ok (.ireturn, 1) := by decide +kernel
theorem d_M_findUseful_0 : decode b_M_findUseful 0 = .ok (.iconst 0, 1) := by decide +kernel
theorem d_M_findUseful_1 : decode b_M_findUseful 1 = .ok (.istore_n 1, 1) := by decide +kernel
theorem d_M_findUseful_2 : decode b_M_findUseful 2 = .ok (.iload_n 1, 1) := by decide +kernel
theorem d_M_findUseful_3 : decode b_M_findUseful 3 = .ok (.iconst 5, 1) := by decide +kernel
theorem d_M_findUseful_4 : decode b_M_findUseful 4 = .ok (.if_icmp .ge 23, 3) := by decide +kernel
theorem d_M_findUseful_7 : decode b_M_findUseful 7 = .ok (.aload_n 0, 1) := by decide +kernel
theorem d_M_findUseful_8 : decode b_M_findUseful 8 = .ok (.getfield 33, 3) := by decide +kernel
theorem d_M_findUseful_11 : decode b_M_findUseful 11 = .ok (.iload_n 1, 1) := by decide +kernel
theorem d_M_findUseful_12 : decode b_M_findUseful 12 = .ok (.iconst 0, 1) := by decide +kernel
theorem d_M_findUseful_13 : decode b_M_findUseful 13 = .ok (.bastore, 1) := by decide +kernel
theorem d_M_findUseful_14 : decode b_M_findUseful 14 = .ok (.aload_n 0, 1) := by decide +kernel
theorem d_M_findUseful_15 : decode b_M_findUseful 15 = .ok (.getfield 36, 3) := by decide +kernel
theorem d_M_findUseful_18 : decode b_M_findUseful 18 = .ok (.iload_n 1, 1) := by decide +kernel
theorem d_M_findUseful_19 : decode b_M_findUseful 19 = .ok (.iconst 0, 1) := by decide +kernel
theorem d_M_findUseful_20 : decode b_M_findUseful 20 = .ok (.bastore, 1) := by decide +kernel
theorem d_M_findUseful_21 : decode b_M_findUseful 21 = .ok (.iinc 1 1, 3) := by decide +kernel
theorem d_M_findUseful_24 : decode b_M_findUseful 24 = .ok (.goto (-22), 3) := by decide +kernel
theorem d_M_findUseful_27 : decode b_M_findUseful 27 = .ok (.iconst 0, 1) := by decide +kernel
theorem d_M_findUseful_28 : decode b_M_findUseful 28 = .ok (.istore_n 1, 1) := by decide +kernel
theorem d_M_findUseful_29 : decode b_M_findUseful 29 = .ok (.iload_n 1, 1) := by decide +kernel
theorem d_M_findUseful_30 : decode b_M_findUseful 30 = .ok (.iconst 5, 1) := by decide +kernel
theorem d_M_findUseful_31 : decode b_M_findUseful 31 = .ok (.if_icmp .ge 69, 3) := by decide +kernel
theorem d_M_findUseful_34 : decode b_M_findUseful 34 = .ok (.bipush 14, 2) := by decide +kernel
theorem d_M_findUseful_36 : decode b_M_findUseful 36 = .ok (.istore_n 2, 1) := by decide +kernel
theorem d_M_findUseful_37 : decode b_M_findUseful 37 = .ok (.iload_n 2, 1) := by decide +kernel
theorem d_M_findUseful_38 : decode b_M_findUseful 38 = .ok (.bipush 14, 2) := by decide +kernel
theorem d_M_findUseful_40 : decode b_M_findUseful 40 = .ok (.aload_n 0, 1) := by decide +kernel
theorem d_M_findUseful_41 : decode b_M_findUseful 41 = .ok (.getfield 13, 3) := by decide +kernel
theorem d_M_findUseful_44 : decode b_M_findUseful 44 = .ok (.iconst 1, 1) := by decide +kernel
theorem d_M_findUseful_45 : decode b_M_findUseful 45 = .ok (.iaload, 1) := by decide +kernel
theorem d_M_findUseful_46 : decode b_M_findUseful 46 = .ok (.iadd, 1) := by decide +kernel
theorem d_M_findUseful_47 : decode b_M_findUseful 47 = .ok (.if_icmp .ge 47, 3) := by decide +kernel
theorem d_M_findUseful_50 : decode b_M_findUseful 50 = .ok (.aload_n 0, 1) := by decide +kernel
theorem d_M_findUseful_51 : decode b_M_findUseful 51 = .ok (.getfield 33, 3) := by decide +kernel
theorem d_M_findUseful_54 : decode b_M_findUseful 54 = .ok (.aload_n 0, 1) := by decide +kernel
theorem d_M_findUseful_55 : decode b_M_findUseful 55 = .ok (.getfield 17, 3) := by decide +kernel
theorem d_M_findUseful_58 : decode b_M_findUseful 58 = .ok (.iload_n 2, 1) := by decide +kernel
theorem d_M_findUseful_59 : decode b_M_findUseful 59 = .ok (.iaload, 1) := by decide +kernel
theorem d_M_findUseful_60 : decode b_M_findUseful 60 = .ok (.aload_n 0, 1) := by decide +kernel
theorem d_M_findUseful_61 : decode b_M_findUseful 61 = .ok (.getfield 33, 3) := by decide +kernel
theorem d_M_findUseful_64 : decode b_M_findUseful 64 = .ok (.aload_n 0, 1) := by decide +kernel
theorem d_M_findUseful_65 : decode b_M_findUseful 65 = .ok (.getfield 17, 3) := by decide +kernel
theorem d_M_findUseful_68 : decode b_M_findUseful 68 = .ok (.iload_n 2, 1) := by decide +kernel
theorem d_M_findUseful_69 : decode b_M_findUseful 69 = .ok (.iaload, 1) := by decide +kernel
theorem d_M_findUseful_70 : decode b_M_findUseful 70 = .ok (.baload, 1) := by decide +kernel
theorem d_M_findUseful_71 : decode b_M_findUseful 71 = .ok (.ifCond .ne 11, 3) := by decide +kernel
theorem d_M_findUseful_74 : decode b_M_findUseful 74 = .ok (.aload_n 0, 1) := by decide +kernel
theorem d_M_findUseful_75 : decode b_M_findUseful 75 = .ok (.iload_n 2, 1) := by decide +kernel
theorem d_M_findUseful_76 : decode b_M_findUseful 76 = .ok (.invokevirtual 116, 3) := by decide +kernel
theorem d_M_findUseful_79 : decode b_M_findUseful 79 = .ok (.ifCond .eq 7, 3) := by decide +kernel
theorem d_M_findUseful_82 : decode b_M_findUseful 82 = .ok (.iconst 1, 1) := by decide +kernel
theorem d_M_findUseful_83 : decode b_M_findUseful 83 = .ok (.goto 4, 3) := by decide +kernel
theorem d_M_findUseful_86 : decode b_M_findUseful 86 = .ok (.iconst 0, 1) := by decide +kernel
theorem d_M_findUseful_87 : decode b_M_findUseful 87 = .ok (.bastore, 1) := by decide +kernel
theorem d_M_findUseful_88 : decode b_M_findUseful 88 = .ok (.iinc 2 1, 3) := by decide +kernel
theorem d_M_findUseful_91 : decode b_M_findUseful 91 = .ok (.goto (-54), 3) := by decide +kernel
theorem d_M_findUseful_94 : decode b_M_findUseful 94 = .ok (.iinc 1 1, 3) := by decide +kernel
theorem d_M_findUseful_97 : decode b_M_findUseful 97 = .ok (.goto (-68), 3) := by decide +kernel
theorem d_M_findUseful_100 : decode b_M_findUseful 100 = .ok (.aload_n 0, 1) := by decide +kernel
theorem d_M_findUseful_101 : decode b_M_findUseful 101 = .ok (.getfield 36, 3) := by decide +kernel
theorem d_M_findUseful_104 : decode b_M_findUseful 104 = .ok (.aload_n 0, 1) := by decide +kernel
theorem d_M_findUseful_105 : decode b_M_findUseful 105 = .ok (.getfield 17, 3) := by decide +kernel
theorem d_M_findUseful_108 : decode b_M_findUseful 108 = .ok (.bipush 14, 2) := by decide +kernel
theorem d_M_findUseful_110 : decode b_M_findUseful 110 = .ok (.iaload, 1) := by decide +kernel
theorem d_M_findUseful_111 : decode b_M_findUseful 111 = .ok (.aload_n 0, 1) := by decide +kernel
theorem d_M_findUseful_112 : decode b_M_findUseful 112 = .ok (.getfield 33, 3) := by decide +kernel
theorem d_M_findUseful_115 : decode b_M_findUseful 115 = .ok (.aload_n 0, 1) := by decide +kernel
theorem d_M_findUseful_116 : decode b_M_findUseful 116 = .ok (.getfield 17, 3) := by decide +kernel
theorem d_M_findUseful_119 : decode b_M_findUseful 119 = .ok (.bipush 14, 2) := by decide +kernel
theorem d_M_findUseful_121 : decode b_M_findUseful 121 = .ok (.iaload, 1) := by decide +kernel
theorem d_M_findUseful_122 : decode b_M_findUseful 122 = .ok (.baload, 1) := by decide +kernel
theorem d_M_findUseful_123 : decode b_M_findUseful 123 = .ok (.bastore, 1) := by decide +kernel
theorem d_M_findUseful_124 : decode b_M_findUseful 124 = .ok (.iconst 0, 1) := by decide +kernel
theorem d_M_findUseful_125 : decode b_M_findUseful 125 = .ok (.istore_n 1, 1) := by decide +kernel
theorem d_M_findUseful_126 : decode b_M_findUseful 126 = .ok (.iload_n 1, 1) := by decide +kernel
theorem d_M_findUseful_127 : decode b_M_findUseful 127 = .ok (.iconst 5, 1) := by decide +kernel
theorem d_M_findUseful_128 : decode b_M_findUseful 128 = .ok (.if_icmp .ge 135, 3) := by decide +kernel
theorem d_M_findUseful_131 : decode b_M_findUseful 131 = .ok (.bipush 14, 2) := by decide +kernel
theorem d_M_findUseful_133 : decode b_M_findUseful 133 = .ok (.istore_n 2, 1) := by decide +kernel
theorem d_M_findUseful_134 : decode b_M_findUseful 134 = .ok (.iload_n 2, 1) := by decide +kernel
theorem d_M_findUseful_135 : decode b_M_findUseful 135 = .ok (.bipush 14, 2) := by decide +kernel
theorem d_M_findUseful_137 : decode b_M_findUseful 137 = .ok (.aload_n 0, 1) := by decide +kernel
theorem d_M_findUseful_138 : decode b_M_findUseful 138 = .ok (.getfield 13, 3) := by decide +kernel
theorem d_M_findUseful_141 : decode b_M_findUseful 141 = .ok (.iconst 1, 1) := by decide +kernel
theorem d_M_findUseful_142 : decode b_M_findUseful 142 = .ok (.iaload, 1) := by decide +kernel
theorem d_M_findUseful_143 : decode b_M_findUseful 143 = .ok (.iadd, 1) := by decide +kernel
theorem d_M_findUseful_144 : decode b_M_findUseful 144 = .ok (.if_icmp .ge 113, 3) := by decide +kernel
theorem d_M_findUseful_147 : decode b_M_findUseful 147 = .ok (.aload_n 0, 1) := by decide +kernel
theorem d_M_findUseful_148 : decode b_M_findUseful 148 = .ok (.getfield 29, 3) := by decide +kernel
theorem d_M_findUseful_151 : decode b_M_findUseful 151 = .ok (.iload_n 2, 1) := by decide +kernel
theorem d_M_findUseful_152 : decode b_M_findUseful 152 = .ok (.aload_n 0, 1) := by decide +kernel
theorem d_M_findUseful_153 : decode b_M_findUseful 153 = .ok (.getfield 36, 3) := by decide +kernel
theorem d_M_findUseful_156 : decode b_M_findUseful 156 = .ok (.aload_n 0, 1) := by decide +kernel
theorem d_M_findUseful_157 : decode b_M_findUseful 157 = .ok (.getfield 17, 3) := by decide +kernel
theorem d_M_findUseful_160 : decode b_M_findUseful 160 = .ok (.iload_n 2, 1) := by decide +kernel
theorem d_M_findUseful_161 : decode b_M_findUseful 161 = .ok (.iaload, 1) := by decide +kernel
theorem d_M_findUseful_162 : decode b_M_findUseful 162 = .ok (.baload, 1) := by decide +kernel
theorem d_M_findUseful_163 : decode b_M_findUseful 163 = .ok (.ifCond .eq 15, 3) := by decide +kernel
theorem d_M_findUseful_166 : decode b_M_findUseful 166 = .ok (.aload_n 0, 1) := by decide +kernel
theorem d_M_findUseful_167 : decode b_M_findUseful 167 = .ok (.iload_n 2, 1) := by decide +kernel
theorem d_M_findUseful_168 : decode b_M_findUseful 168 = .ok (.invokevirtual 116, 3) := by decide +kernel
theorem d_M_findUseful_171 : decode b_M_findUseful 171 = .ok (.ifCond .eq 7, 3) := by decide +kernel
theorem d_M_findUseful_174 : decode b_M_findUseful 174 = .ok (.iconst 1, 1) := by decide +kernel
theorem d_M_findUseful_175 : decode b_M_findUseful 175 = .ok (.goto 4, 3) := by decide +kernel
theorem d_M_findUseful_178 : decode b_M_findUseful 178 = .ok (.iconst 0, 1) := by decide +kernel
theorem d_M_findUseful_179 : decode b_M_findUseful 179 = .ok (.bastore, 1) := by decide +kernel
theorem d_M_findUseful_180 : decode b_M_findUseful 180 = .ok (.iconst 0, 1) := by decide +kernel
theorem d_M_findUseful_181 : decode b_M_findUseful 181 = .ok (.istore_n 3, 1) := by decide +kernel
theorem d_M_findUseful_182 : decode b_M_findUseful 182 = .ok (.iload_n 3, 1) := by decide +kernel
theorem d_M_findUseful_183 : decode b_M_findUseful 183 = .ok (.aload_n 0, 1) := by decide +kernel
theorem d_M_findUseful_184 : decode b_M_findUseful 184 = .ok (.getfield 20, 3) := by decide +kernel
theorem d_M_findUseful_187 : decode b_M_findUseful 187 = .ok (.iload_n 2, 1) := by decide +kernel
theorem d_M_findUseful_188 : decode b_M_findUseful 188 = .ok (.iaload, 1) := by decide +kernel
theorem d_M_findUseful_189 : decode b_M_findUseful 189 = .ok (.if_icmp .ge 62, 3) := by decide +kernel
theorem d_M_findUseful_192 : decode b_M_findUseful 192 = .ok (.aload_n 0, 1) := by decide +kernel
theorem d_M_findUseful_193 : decode b_M_findUseful 193 = .ok (.getfield 29, 3) := by decide +kernel
theorem d_M_findUseful_196 : decode b_M_findUseful 196 = .ok (.iload_n 2, 1) := by decide +kernel
theorem d_M_findUseful_197 : decode b_M_findUseful 197 = .ok (.baload, 1) := by decide +kernel
theorem d_M_findUseful_198 : decode b_M_findUseful 198 = .ok (.ifCond .eq 53, 3) := by decide +kernel
theorem d_M_findUseful_201 : decode b_M_findUseful 201 = .ok (.aload_n 0, 1) := by decide +kernel
theorem d_M_findUseful_202 : decode b_M_findUseful 202 = .ok (.getfield 23, 3) := by decide +kernel
theorem d_M_findUseful_205 : decode b_M_findUseful 205 = .ok (.iconst 3, 1) := by decide +kernel
theorem d_M_findUseful_206 : decode b_M_findUseful 206 = .ok (.iload_n 2, 1) := by decide +kernel
theorem d_M_findUseful_207 : decode b_M_findUseful 207 = .ok (.imul, 1) := by decide +kernel
theorem d_M_findUseful_208 : decode b_M_findUseful 208 = .ok (.iload_n 3, 1) := by decide +kernel
theorem d_M_findUseful_209 : decode b_M_findUseful 209 = .ok (.iadd, 1) := by decide +kernel
theorem d_M_findUseful_210 : decode b_M_findUseful 210 = .ok (.caload, 1) := by decide +kernel
theorem d_M_findUseful_211 : decode b_M_findUseful 211 = .ok (.istore 4, 2) := by decide +kernel
theorem d_M_findUseful_213 : decode b_M_findUseful 213 = .ok (.iload 4, 2) := by decide +kernel
theorem d_M_findUseful_215 : decode b_M_findUseful 215 = .ok (.invokestatic 101, 3) := by decide +kernel
theorem d_M_findUseful_218 : decode b_M_findUseful 218 = .ok (.ifCond .eq 11, 3) := by decide +kernel
theorem d_M_findUseful_221 : decode b_M_findUseful 221 = .ok (.iload 4, 2) := by decide +kernel
theorem d_M_findUseful_223 : decode b_M_findUseful 223 = .ok (.bipush 65, 2) := by decide +kernel
theorem d_M_findUseful_225 : decode b_M_findUseful 225 = .ok (.isub, 1) := by decide +kernel
theorem d_M_findUseful_226 : decode b_M_findUseful 226 = .ok (.goto 9, 3) := by decide +kernel
theorem d_M_findUseful_229 : decode b_M_findUseful 229 = .ok (.aload_n 0, 1) := by decide +kernel
theorem d_M_findUseful_230 : decode b_M_findUseful 230 = .ok (.getfield 17, 3) := by decide +kernel
theorem d_M_findUseful_233 : decode b_M_findUseful 233 = .ok (.iload_n 2, 1) := by decide +kernel
theorem d_M_findUseful_234 : decode b_M_findUseful 234 = .ok (.iaload, 1) := by decide +kernel
theorem d_M_findUseful_235 : decode b_M_findUseful 235 = .ok (.istore 5, 2) := by decide +kernel
theorem d_M_findUseful_237 : decode b_M_findUseful 237 = .ok (.aload_n 0, 1) := by decide +kernel
theorem d_M_findUseful_238 : decode b_M_findUseful 238 = .ok (.getfield 36, 3) := by decide +kernel
theorem d_M_findUseful_241 : decode b_M_findUseful 241 = .ok (.iload 5, 2) := by decide +kernel
theorem d_M_findUseful_243 : decode b_M_findUseful 243 = .ok (.iconst 1, 1) := by decide +kernel
theorem d_M_findUseful_244 : decode b_M_findUseful 244 = .ok (.bastore, 1) := by decide +kernel
theorem d_M_findUseful_245 : decode b_M_findUseful 245 = .ok (.iinc 3 1, 3) := by decide +kernel
theorem d_M_findUseful_248 : decode b_M_findUseful 248 = .ok (.goto (-66), 3) := by decide +kernel
theorem d_M_findUseful_251 : decode b_M_findUseful 251 = .ok (.iinc 2 1, 3) := by decide +kernel
theorem d_M_findUseful_254 : decode b_M_findUseful 254 = .ok (.goto (-120), 3) := by decide +kernel
theorem d_M_findUseful_257 : decode b_M_findUseful 257 = .ok (.iinc 1 1, 3) := by decide +kernel
theorem d_M_findUseful_260 : decode b_M_findUseful 260 = .ok (.goto (-134), 3) := by decide +kernel
theorem d_M_findUseful_263 : decode b_M_findUseful 263 = .ok (.bipush 14, 2) := by decide +kernel
theorem d_M_findUseful_265 : decode b_M_findUseful 265 = .ok (.istore_n 1, 1) := by decide +kernel
theorem d_M_findUseful_266 : decode b_M_findUseful 266 = .ok (.iload_n 1, 1) := by decide +kernel
theorem d_M_findUseful_267 : decode b_M_findUseful 267 = .ok (.bipush 14, 2) := by decide +kernel
theorem d_M_findUseful_269 : decode b_M_findUseful 269 = .ok (.aload_n 0, 1) := by decide +kernel
theorem d_M_findUseful_270 : decode b_M_findUseful 270 = .ok (.getfield 13, 3) := by decide +kernel
theorem d_M_findUseful_273 : decode b_M_findUseful 273 = .ok (.iconst 1, 1) := by decide +kernel
theorem d_M_findUseful_274 : decode b_M_findUseful 274 = .ok (.iaload, 1) := by decide +kernel
theorem d_M_findUseful_275 : decode b_M_findUseful 275 = .ok (.iadd, 1) := by decide +kernel
theorem d_M_findUseful_276 : decode b_M_findUseful 276 = .ok (.if_icmp .ge 42, 3) := by decide +kernel
theorem d_M_findUseful_279 : decode b_M_findUseful 279 = .ok (.aload_n 0, 1) := by decide +kernel
theorem d_M_findUseful_280 : decode b_M_findUseful 280 = .ok (.getfield 29, 3) := by decide +kernel
theorem d_M_findUseful_283 : decode b_M_findUseful 283 = .ok (.iload_n 1, 1) := by decide +kernel
theorem d_M_findUseful_284 : decode b_M_findUseful 284 = .ok (.aload_n 0, 1) := by decide +kernel
theorem d_M_findUseful_285 : decode b_M_findUseful 285 = .ok (.getfield 36, 3) := by decide +kernel
theorem d_M_findUseful_288 : decode b_M_findUseful 288 = .ok (.aload_n 0, 1) := by decide +kernel
theorem d_M_findUseful_289 : decode b_M_findUseful 289 = .ok (.getfield 17, 3) := by decide +kernel
theorem d_M_findUseful_292 : decode b_M_findUseful 292 = .ok (.iload_n 1, 1) := by decide +kernel
theorem d_M_findUseful_293 : decode b_M_findUseful 293 = .ok (.iaload, 1) := by decide +kernel
theorem d_M_findUseful_294 : decode b_M_findUseful 294 = .ok (.baload, 1) := by decide +kernel
theorem d_M_findUseful_295 : decode b_M_findUseful 295 = .ok (.ifCond .eq 15, 3) := by decide +kernel
theorem d_M_findUseful_298 : decode b_M_findUseful 298 = .ok (.aload_n 0, 1) := by decide +kernel
theorem d_M_findUseful_299 : decode b_M_findUseful 299 = .ok (.iload_n 1, 1) := by decide +kernel
theorem d_M_findUseful_300 : decode b_M_findUseful 300 = .ok (.invokevirtual 116, 3) := by decide +kernel
theorem d_M_findUseful_303 : decode b_M_findUseful 303 = .ok (.ifCond .eq 7, 3) := by decide +kernel
theorem d_M_findUseful_306 : decode b_M_findUseful 306 = .ok (.iconst 1, 1) := by decide +kernel
theorem d_M_findUseful_307 : decode b_M_findUseful 307 = .ok (.goto 4, 3) := by decide +kernel
theorem d_M_findUseful_310 : decode b_M_findUseful 310 = .ok (.iconst 0, 1) := by decide +kernel
theorem d_M_findUseful_311 : decode b_M_findUseful 311 = .ok (.bastore, 1) := by decide +kernel
theorem d_M_findUseful_312 : decode b_M_findUseful 312 = .ok (.iinc 1 1, 3) := by decide +kernel
theorem d_M_findUseful_315 : decode b_M_findUseful 315 = .ok (.goto (-49), 3) := by decide +kernel
theorem d_M_findUseful_318 : decode b_M_findUseful 318 = .ok (.return_, 1) := by decide +kernel
theorem d_M_isUnit_0 : decode b_M_isUnit 0 = .ok (.aload_n 0, 1) := by decide +kernel
theorem d_M_isUnit_1 : decode b_M_isUnit 1 = .ok (.getfield 29, 3) := by decide +kernel
theorem d_M_isUnit_4 : decode b_M_isUnit 4 = .ok (.iload_n 1, 1) := by decide +kernel
theorem d_M_isUnit_5 : decode b_M_isUnit 5 = .ok (.baload, 1) := by decide +kernel
theorem d_M_isUnit_6 : decode b_M_isUnit 6 = .ok (.ifCond .eq 31, 3) := by decide +kernel
theorem d_M_isUnit_9 : decode b_M_isUnit 9 = .ok (.aload_n 0, 1) := by decide +kernel
theorem d_M_isUnit_10 : decode b_M_isUnit 10 = .ok (.getfield 20, 3) := by decide +kernel
theorem d_M_isUnit_13 : decode b_M_isUnit 13 = .ok (.iload_n 1, 1) := by decide +kernel
theorem d_M_isUnit_14 : decode b_M_isUnit 14 = .ok (.iaload, 1) := by decide +kernel
theorem d_M_isUnit_15 : decode b_M_isUnit 15 = .ok (.iconst 1, 1) := by decide +kernel
theorem d_M_isUnit_16 : decode b_M_isUnit 16 = .ok (.if_icmp .ne 21, 3) := by decide +kernel
theorem d_M_isUnit_19 : decode b_M_isUnit 19 = .ok (.aload_n 0, 1) := by decide +kernel
theorem d_M_isUnit_20 : decode b_M_isUnit 20 = .ok (.getfield 23, 3) := by decide +kernel
theorem d_M_isUnit_23 : decode b_M_isUnit 23 = .ok (.iconst 3, 1) := by decide +kernel
theorem d_M_isUnit_24 : decode b_M_isUnit 24 = .ok (.iload_n 1, 1) := by decide +kernel
theorem d_M_isUnit_25 : decode b_M_isUnit 25 = .ok (.imul, 1) := by decide +kernel
theorem d_M_isUnit_26 : decode b_M_isUnit 26 = .ok (.caload, 1) := by decide +kernel
theorem d_M_isUnit_27 : decode b_M_isUnit 27 = .ok (.invokestatic 101, 3) := by decide +kernel
theorem d_M_isUnit_30 : decode b_M_isUnit 30 = .ok (.ifCond .eq 7, 3) := by decide +kernel
theorem d_M_isUnit_33 : decode b_M_isUnit 33 = .ok (.iconst 1, 1) := by decide +kernel
theorem d_M_isUnit_34 : decode b_M_isUnit 34 = .ok (.goto 4, 3) := by decide +kernel
theorem d_M_isUnit_37 : decode b_M_isUnit 37 = .ok (.iconst 0, 1) := by decide +kernel
theorem d_M_isUnit_38 : decode b_M_isUnit 38 = .ok (.ireturn, 1) := by decide +kernel
theorem d_M_isRound_0 : decode b_M_isRound 0 = .ok (.iconst 0, 1) := by decide +kernel
theorem d_M_isRound_1 : decode b_M_isRound 1 = .ok (.istore_n 1, 1) := by decide +kernel
theorem d_M_isRound_2 : decode b_M_isRound 2 = .ok (.iload_n 1, 1) := by decide +kernel
theorem d_M_isRound_3 : decode b_M_isRound 3 = .ok (.iconst 5, 1) := by decide +kernel
theorem d_M_isRound_4 : decode b_M_isRound 4 = .ok (.if_icmp .ge 16, 3) := by decide +kernel
theorem d_M_isRound_7 : decode b_M_isRound 7 = .ok (.aload_n 0, 1) := by decide +kernel
theorem d_M_isRound_8 : decode b_M_isRound 8 = .ok (.getfield 39, 3) := by decide +kernel
theorem d_M_isRound_11 : decode b_M_isRound 11 = .ok (.iload_n 1, 1) := by decide +kernel
theorem d_M_isRound_12 : decode b_M_isRound 12 = .ok (.iconst 0, 1) := by decide +kernel
theorem d_M_isRound_13 : decode b_M_isRound 13 = .ok (.iastore, 1) := by decide +kernel
theorem d_M_isRound_14 : decode b_M_isRound 14 = .ok (.iinc 1 1, 3) := by decide +kernel
theorem d_M_isRound_17 : decode b_M_isRound 17 = .ok (.goto (-15), 3) := by decide +kernel
theorem d_M_isRound_20 : decode b_M_isRound 20 = .ok (.iconst 0, 1) := by decide +kernel
theorem d_M_isRound_21 : decode b_M_isRound 21 = .ok (.istore_n 1, 1) := by decide +kernel
theorem d_M_isRound_22 : decode b_M_isRound 22 = .ok (.iconst 0, 1) := by decide +kernel
theorem d_M_isRound_23 : decode b_M_isRound 23 = .ok (.istore_n 2, 1) := by decide +kernel
theorem d_M_isRound_24 : decode b_M_isRound 24 = .ok (.iload_n 2, 1) := by decide +kernel
theorem d_M_isRound_25 : decode b_M_isRound 25 = .ok (.bipush 6, 2) := by decide +kernel
theorem d_M_isRound_27 : decode b_M_isRound 27 = .ok (.if_icmp .ge 129, 3) := by decide +kernel
theorem d_M_isRound_30 : decode b_M_isRound 30 = .ok (.bipush 14, 2) := by decide +kernel
theorem d_M_isRound_32 : decode b_M_isRound 32 = .ok (.istore_n 3, 1) := by decide +kernel
theorem d_M_isRound_33 : decode b_M_isRound 33 = .ok (.iload_n 3, 1) := by decide +kernel
theorem d_M_isRound_34 : decode b_M_isRound 34 = .ok (.bipush 14, 2) := by decide +kernel
theorem d_M_isRound_36 : decode b_M_isRound 36 = .ok (.aload_n 0, 1) := by decide +kernel
theorem d_M_isRound_37 : decode b_M_isRound 37 = .ok (.getfield 13, 3) := by decide +kernel
theorem d_M_isRound_40 : decode b_M_isRound 40 = .ok (.iconst 1, 1) := by decide +kernel
theorem d_M_isRound_41 : decode b_M_isRound 41 = .ok (.iaload, 1) := by decide +kernel
theorem d_M_isRound_42 : decode b_M_isRound 42 = .ok (.iadd, 1) := by decide +kernel
theorem d_M_isRound_43 : decode b_M_isRound 43 = .ok (.if_icmp .ge 107, 3) := by decide +kernel
theorem d_M_isRound_46 : decode b_M_isRound 46 = .ok (.aload_n 0, 1) := by decide +kernel
theorem d_M_isRound_47 : decode b_M_isRound 47 = .ok (.iload_n 3, 1) := by decide +kernel
theorem d_M_isRound_48 : decode b_M_isRound 48 = .ok (.invokevirtual 119, 3) := by decide +kernel
theorem d_M_isRound_51 : decode b_M_isRound 51 = .ok (.ifCond .eq 93, 3) := by decide +kernel
theorem d_M_isRound_54 : decode b_M_isRound 54 = .ok (.aload_n 0, 1) := by decide +kernel
theorem d_M_isRound_55 : decode b_M_isRound 55 = .ok (.getfield 39, 3) := by decide +kernel
theorem d_M_isRound_58 : decode b_M_isRound 58 = .ok (.aload_n 0, 1) := by decide +kernel
theorem d_M_isRound_59 : decode b_M_isRound 59 = .ok (.getfield 23, 3) := by decide +kernel
theorem d_M_isRound_62 : decode b_M_isRound 62 = .ok (.iconst 3, 1) := by decide +kernel
theorem d_M_isRound_63 : decode b_M_isRound 63 = .ok (.iload_n 3, 1) := by decide +kernel
theorem d_M_isRound_64 : decode b_M_isRound 64 = .ok (.imul, 1) := by decide +kernel
theorem d_M_isRound_65 : decode b_M_isRound 65 = .ok (.caload, 1) := by decide +kernel
theorem d_M_isRound_66 : decode b_M_isRound 66 = .ok (.bipush 65, 2) := by decide +kernel
theorem d_M_isRound_68 : decode b_M_isRound 68 = .ok (.isub, 1) := by decide +kernel
theorem d_M_isRound_69 : decode b_M_isRound 69 = .ok (.iaload, 1) := by decide +kernel
theorem d_M_isRound_70 : decode b_M_isRound 70 = .ok (.istore 4, 2) := by decide +kernel
theorem d_M_isRound_72 : decode b_M_isRound 72 = .ok (.aload_n 0, 1) := by decide +kernel
theorem d_M_isRound_73 : decode b_M_isRound 73 = .ok (.getfield 39, 3) := by decide +kernel
theorem d_M_isRound_76 : decode b_M_isRound 76 = .ok (.aload_n 0, 1) := by decide +kernel
theorem d_M_isRound_77 : decode b_M_isRound 77 = .ok (.getfield 17, 3) := by decide +kernel
theorem d_M_isRound_80 : decode b_M_isRound 80 = .ok (.iload_n 3, 1) := by decide +kernel
theorem d_M_isRound_81 : decode b_M_isRound 81 = .ok (.iaload, 1) := by decide +kernel
theorem d_M_isRound_82 : decode b_M_isRound 82 = .ok (.iload 4, 2) := by decide +kernel
theorem d_M_isRound_84 : decode b_M_isRound 84 = .ok (.iconst 1, 1) := by decide +kernel
theorem d_M_isRound_85 : decode b_M_isRound 85 = .ok (.iadd, 1) := by decide +kernel
theorem d_M_isRound_86 : decode b_M_isRound 86 = .ok (.aload_n 0, 1) := by decide +kernel
theorem d_M_isRound_87 : decode b_M_isRound 87 = .ok (.getfield 39, 3) := by decide +kernel
theorem d_M_isRound_90 : decode b_M_isRound 90 = .ok (.aload_n 0, 1) := by decide +kernel
theorem d_M_isRound_91 : decode b_M_isRound 91 = .ok (.getfield 17, 3) := by decide +kernel
theorem d_M_isRound_94 : decode b_M_isRound 94 = .ok (.iload_n 3, 1) := by decide +kernel
theorem d_M_isRound_95 : decode b_M_isRound 95 = .ok (.iaload, 1) := by decide +kernel
theorem d_M_isRound_96 : decode b_M_isRound 96 = .ok (.iaload, 1) := by decide +kernel
theorem d_M_isRound_97 : decode b_M_isRound 97 = .ok (.if_icmp .le 10, 3) := by decide +kernel
theorem d_M_isRound_100 : decode b_M_isRound 100 = .ok (.iload 4, 2) := by decide +kernel
theorem d_M_isRound_102 : decode b_M_isRound 102 = .ok (.iconst 1, 1) := by decide +kernel
theorem d_M_isRound_103 : decode b_M_isRound 103 = .ok (.iadd, 1) := by decide +kernel
theorem d_M_isRound_104 : decode b_M_isRound 104 = .ok (.goto 14, 3) := by decide +kernel
theorem d_M_isRound_107 : decode b_M_isRound 107 = .ok (.aload_n 0, 1) := by decide +kernel
theorem d_M_isRound_108 : decode b_M_isRound 108 = .ok (.getfield 39, 3) := by decide +kernel
theorem d_M_isRound_111 : decode b_M_isRound 111 = .ok (.aload_n 0, 1) := by decide +kernel
theorem d_M_isRound_112 : decode b_M_isRound 112 = .ok (.getfield 17, 3) := by decide +kernel
theorem d_M_isRound_115 : decode b_M_isRound 115 = .ok (.iload_n 3, 1) := by decide +kernel
theorem d_M_isRound_116 : decode b_M_isRound 116 = .ok (.iaload, 1) := by decide +kernel
theorem d_M_isRound_117 : decode b_M_isRound 117 = .ok (.iaload, 1) := by decide +kernel
theorem d_M_isRound_118 : decode b_M_isRound 118 = .ok (.iastore, 1) := by decide +kernel
theorem d_M_isRound_119 : decode b_M_isRound 119 = .ok (.iload_n 1, 1) := by decide +kernel
theorem d_M_isRound_120 : decode b_M_isRound 120 = .ok (.ifCond .ne 18, 3) := by decide +kernel
theorem d_M_isRound_123 : decode b_M_isRound 123 = .ok (.aload_n 0, 1) := by decide +kernel
theorem d_M_isRound_124 : decode b_M_isRound 124 = .ok (.getfield 39, 3) := by decide +kernel
theorem d_M_isRound_127 : decode b_M_isRound 127 = .ok (.aload_n 0, 1) := by decide +kernel
theorem d_M_isRound_128 : decode b_M_isRound 128 = .ok (.getfield 17, 3) := by decide +kernel
theorem d_M_isRound_131 : decode b_M_isRound 131 = .ok (.iload_n 3, 1) := by decide +kernel
theorem d_M_isRound_132 : decode b_M_isRound 132 = .ok (.iaload, 1) := by decide +kernel
theorem d_M_isRound_133 : decode b_M_isRound 133 = .ok (.iaload, 1) := by decide +kernel
theorem d_M_isRound_134 : decode b_M_isRound 134 = .ok (.iconst 4, 1) := by decide +kernel
theorem d_M_isRound_135 : decode b_M_isRound 135 = .ok (.if_icmp .le 7, 3) := by decide +kernel
theorem d_M_isRound_138 : decode b_M_isRound 138 = .ok (.iconst 1, 1) := by decide +kernel
theorem d_M_isRound_139 : decode b_M_isRound 139 = .ok (.goto 4, 3) := by decide +kernel
theorem d_M_isRound_142 : decode b_M_isRound 142 = .ok (.iconst 0, 1) := by decide +kernel
theorem d_M_isRound_143 : decode b_M_isRound 143 = .ok (.istore_n 1, 1) := by decide +kernel
theorem d_M_isRound_144 : decode b_M_isRound 144 = .ok (.iinc 3 1, 3) := by decide +kernel
theorem d_M_isRound_147 : decode b_M_isRound 147 = .ok (.goto (-114), 3) := by decide +kernel
theorem d_M_isRound_150 : decode b_M_isRound 150 = .ok (.iinc 2 1, 3) := by decide +kernel
theorem d_M_isRound_153 : decode b_M_isRound 153 = .ok (.goto (-129), 3) := by decide +kernel
theorem d_M_isRound_156 : decode b_M_isRound 156 = .ok (.iload_n 1, 1) := by decide +kernel
theorem d_M_isRound_157 : decode b_M_isRound 157 = .ok (.ireturn, 1) := by decide +kernel
theorem d_M_adopt_0 : decode b_M_adopt 0 = .ok (.aload_n 0, 1) := by decide +kernel
theorem d_M_adopt_1 : decode b_M_adopt 1 = .ok (.getfield 13, 3) := by decide +kernel
theorem d_M_adopt_4 : decode b_M_adopt 4 = .ok (.iconst 0, 1) := by decide +kernel
theorem d_M_adopt_5 : decode b_M_adopt 5 = .ok (.aload_n 0, 1) := by decide +kernel
theorem d_M_adopt_6 : decode b_M_adopt 6 = .ok (.getfield 13, 3) := by decide +kernel
theorem d_M_adopt_9 : decode b_M_adopt 9 = .ok (.iconst 1, 1) := by decide +kernel
theorem d_M_adopt_10 : decode b_M_adopt 10 = .ok (.iaload, 1) := by decide +kernel
theorem d_M_adopt_11 : decode b_M_adopt 11 = .ok (.iastore, 1) := by decide +kernel
theorem d_M_adopt_12 : decode b_M_adopt 12 = .ok (.iconst 0, 1) := by decide +kernel
theorem d_M_adopt_13 : decode b_M_adopt 13 = .ok (.istore_n 1, 1) := by decide +kernel
theorem d_M_adopt_14 : decode b_M_adopt 14 = .ok (.iload_n 1, 1) := by decide +kernel
theorem d_M_adopt_15 : decode b_M_adopt 15 = .ok (.bipush 14, 2) := by decide +kernel
theorem d_M_adopt_17 : decode b_M_adopt 17 = .ok (.if_icmp .ge 69, 3) := by decide +kernel
theorem d_M_adopt_20 : decode b_M_adopt 20 = .ok (.aload_n 0, 1) := by decide +kernel
theorem d_M_adopt_21 : decode b_M_adopt 21 = .ok (.getfield 17, 3) := by decide +kernel
theorem d_M_adopt_24 : decode b_M_adopt 24 = .ok (.iload_n 1, 1) := by decide +kernel
theorem d_M_adopt_25 : decode b_M_adopt 25 = .ok (.aload_n 0, 1) := by decide +kernel
theorem d_M_adopt_26 : decode b_M_adopt 26 = .ok (.getfield 17, 3) := by decide +kernel
theorem d_M_adopt_29 : decode b_M_adopt 29 = .ok (.bipush 14, 2) := by decide +kernel
theorem d_M_adopt_31 : decode b_M_adopt 31 = .ok (.iload_n 1, 1) := by decide +kernel
theorem d_M_adopt_32 : decode b_M_adopt 32 = .ok (.iadd, 1) := by decide +kernel
theorem d_M_adopt_33 : decode b_M_adopt 33 = .ok (.iaload, 1) := by decide +kernel
theorem d_M_adopt_34 : decode b_M_adopt 34 = .ok (.iastore, 1) := by decide +kernel
theorem d_M_adopt_35 : decode b_M_adopt 35 = .ok (.aload_n 0, 1) := by decide +kernel
theorem d_M_adopt_36 : decode b_M_adopt 36 = .ok (.getfield 20, 3) := by decide +kernel
theorem d_M_adopt_39 : decode b_M_adopt 39 = .ok (.iload_n 1, 1) := by decide +kernel
theorem d_M_adopt_40 : decode b_M_adopt 40 = .ok (.aload_n 0, 1) := by decide +kernel
theorem d_M_adopt_41 : decode b_M_adopt 41 = .ok (.getfield 20, 3) := by decide +kernel
theorem d_M_adopt_44 : decode b_M_adopt 44 = .ok (.bipush 14, 2) := by decide +kernel
theorem d_M_adopt_46 : decode b_M_adopt 46 = .ok (.iload_n 1, 1) := by decide +kernel
theorem d_M_adopt_47 : decode b_M_adopt 47 = .ok (.iadd, 1) := by decide +kernel
theorem d_M_adopt_48 : decode b_M_adopt 48 = .ok (.iaload, 1) := by decide +kernel
theorem d_M_adopt_49 : decode b_M_adopt 49 = .ok (.iastore, 1) := by decide +kernel
theorem d_M_adopt_50 : decode b_M_adopt 50 = .ok (.aload_n 0, 1) := by decide +kernel
theorem d_M_adopt_51 : decode b_M_adopt 51 = .ok (.getfield 26, 3) := by decide +kernel
theorem d_M_adopt_54 : decode b_M_adopt 54 = .ok (.iload_n 1, 1) := by decide +kernel
theorem d_M_adopt_55 : decode b_M_adopt 55 = .ok (.aload_n 0, 1) := by decide +kernel
theorem d_M_adopt_56 : decode b_M_adopt 56 = .ok (.getfield 26, 3) := by decide +kernel
theorem d_M_adopt_59 : decode b_M_adopt 59 = .ok (.bipush 14, 2) := by decide +kernel
theorem d_M_adopt_61 : decode b_M_adopt 61 = .ok (.iload_n 1, 1) := by decide +kernel
theorem d_M_adopt_62 : decode b_M_adopt 62 = .ok (.iadd, 1) := by decide +kernel
theorem d_M_adopt_63 : decode b_M_adopt 63 = .ok (.iaload, 1) := by decide +kernel
theorem d_M_adopt_64 : decode b_M_adopt 64 = .ok (.iastore, 1) := by decide +kernel
theorem d_M_adopt_65 : decode b_M_adopt 65 = .ok (.aload_n 0, 1) := by decide +kernel
theorem d_M_adopt_66 : decode b_M_adopt 66 = .ok (.getfield 29, 3) := by decide +kernel
theorem d_M_adopt_69 : decode b_M_adopt 69 = .ok (.iload_n 1, 1) := by decide +kernel
theorem d_M_adopt_70 : decode b_M_adopt 70 = .ok (.aload_n 0, 1) := by decide +kernel
theorem d_M_adopt_71 : decode b_M_adopt 71 = .ok (.getfield 29, 3) := by decide +kernel
theorem d_M_adopt_74 : decode b_M_adopt 74 = .ok (.bipush 14, 2) := by decide +kernel
theorem d_M_adopt_76 : decode b_M_adopt 76 = .ok (.iload_n 1, 1) := by decide +kernel
theorem d_M_adopt_77 : decode b_M_adopt 77 = .ok (.iadd, 1) := by decide +kernel
theorem d_M_adopt_78 : decode b_M_adopt 78 = .ok (.baload, 1) := by decide +kernel
theorem d_M_adopt_79 : decode b_M_adopt 79 = .ok (.bastore, 1) := by decide +kernel
theorem d_M_adopt_80 : decode b_M_adopt 80 = .ok (.iinc 1 1, 3) := by decide +kernel
theorem d_M_adopt_83 : decode b_M_adopt 83 = .ok (.goto (-69), 3) := by decide +kernel
theorem d_M_adopt_86 : decode b_M_adopt 86 = .ok (.iconst 0, 1) := by decide +kernel
theorem d_M_adopt_87 : decode b_M_adopt 87 = .ok (.istore_n 1, 1) := by decide +kernel
theorem d_M_adopt_88 : decode b_M_adopt 88 = .ok (.iload_n 1, 1) := by decide +kernel
theorem d_M_adopt_89 : decode b_M_adopt 89 = .ok (.bipush 42, 2) := by decide +kernel
theorem d_M_adopt_91 : decode b_M_adopt 91 = .ok (.if_icmp .ge 24, 3) := by decide +kernel
theorem d_M_adopt_94 : decode b_M_adopt 94 = .ok (.aload_n 0, 1) := by decide +kernel
theorem d_M_adopt_95 : decode b_M_adopt 95 = .ok (.getfield 23, 3) := by decide +kernel
theorem d_M_adopt_98 : decode b_M_adopt 98 = .ok (.iload_n 1, 1) := by decide +kernel
theorem d_M_adopt_99 : decode b_M_adopt 99 = .ok (.aload_n 0, 1) := by decide +kernel
theorem d_M_adopt_100 : decode b_M_adopt 100 = .ok (.getfield 23, 3) := by decide +kernel
theorem d_M_adopt_103 : decode b_M_adopt 103 = .ok (.bipush 42, 2) := by decide +kernel
theorem d_M_adopt_105 : decode b_M_adopt 105 = .ok (.iload_n 1, 1) := by decide +kernel
theorem d_M_adopt_106 : decode b_M_adopt 106 = .ok (.iadd, 1) := by decide +kernel
theorem d_M_adopt_107 : decode b_M_adopt 107 = .ok (.caload, 1) := by decide +kernel
theorem d_M_adopt_108 : decode b_M_adopt 108 = .ok (.castore, 1) := by decide +kernel
theorem d_M_adopt_109 : decode b_M_adopt 109 = .ok (.iinc 1 1, 3) := by decide +kernel
theorem d_M_adopt_112 : decode b_M_adopt 112 = .ok (.goto (-24), 3) := by decide +kernel
theorem d_M_adopt_115 : decode b_M_adopt 115 = .ok (.aload_n 0, 1) := by decide +kernel
theorem d_M_adopt_116 : decode b_M_adopt 116 = .ok (.iconst 0, 1) := by decide +kernel
theorem d_M_adopt_117 : decode b_M_adopt 117 = .ok (.putfield 122, 3) := by decide +kernel
theorem d_M_adopt_120 : decode b_M_adopt 120 = .ok (.return_, 1) := by decide +kernel
theorem d_M_load_0 : decode b_M_load 0 = .ok (.aload_n 0, 1) := by decide +kernel
theorem d_M_load_1 : decode b_M_load 1 = .ok (.iconst 0, 1) := by decide +kernel
theorem d_M_load_2 : decode b_M_load 2 = .ok (.putfield 81, 3) := by decide +kernel
theorem d_M_load_5 : decode b_M_load 5 = .ok (.aload_n 0, 1) := by decide +kernel
theorem d_M_load_6 : decode b_M_load 6 = .ok (.getfield 13, 3) := by decide +kernel
theorem d_M_load_9 : decode b_M_load 9 = .ok (.iconst 1, 1) := by decide +kernel
theorem d_M_load_10 : decode b_M_load 10 = .ok (.iconst 0, 1) := by decide +kernel
theorem d_M_load_11 : decode b_M_load 11 = .ok (.iastore, 1) := by decide +kernel
theorem d_M_load_12 : decode b_M_load 12 = .ok (.aload_n 0, 1) := by decide +kernel
theorem d_M_load_13 : decode b_M_load 13 = .ok (.iconst 0, 1) := by decide +kernel
theorem d_M_load_14 : decode b_M_load 14 = .ok (.putfield 90, 3) := by decide +kernel
theorem d_M_load_17 : decode b_M_load 17 = .ok (.aload_n 0, 1) := by decide +kernel
theorem d_M_load_18 : decode b_M_load 18 = .ok (.getfield 90, 3) := by decide +kernel
theorem d_M_load_21 : decode b_M_load 21 = .ok (.aload_n 0, 1) := by decide +kernel
theorem d_M_load_22 : decode b_M_load 22 = .ok (.getfield 87, 3) := by decide +kernel
theorem d_M_load_25 : decode b_M_load 25 = .ok (.if_icmp .ge 32, 3) := by decide +kernel
theorem d_M_load_28 : decode b_M_load 28 = .ok (.aload_n 0, 1) := by decide +kernel
theorem d_M_load_29 : decode b_M_load 29 = .ok (.invokevirtual 126, 3) := by decide +kernel
theorem d_M_load_32 : decode b_M_load 32 = .ok (.ifCond .ne 12, 3) := by decide +kernel
theorem d_M_load_35 : decode b_M_load 35 = .ok (.iconst (-1), 1) := by decide +kernel
theorem d_M_load_36 : decode b_M_load 36 = .ok (.aload_n 0, 1) := by decide +kernel
theorem d_M_load_37 : decode b_M_load 37 = .ok (.getfield 13, 3) := by decide +kernel
theorem d_M_load_40 : decode b_M_load 40 = .ok (.iconst 1, 1) := by decide +kernel
theorem d_M_load_41 : decode b_M_load 41 = .ok (.iaload, 1) := by decide +kernel
theorem d_M_load_42 : decode b_M_load 42 = .ok (.isub, 1) := by decide +kernel
theorem d_M_load_43 : decode b_M_load 43 = .ok (.ireturn, 1) := by decide +kernel
theorem d_M_load_44 : decode b_M_load 44 = .ok (.aload_n 0, 1) := by decide +kernel
theorem d_M_load_45 : decode b_M_load 45 = .ok (.getfield 13, 3) := by decide +kernel
