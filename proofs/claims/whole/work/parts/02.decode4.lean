theorem d_M_offer_214 : decode b_M_offer 214 = .ok (.iload 4, 2) := by decide +kernel
theorem d_M_offer_216 : decode b_M_offer 216 = .ok (.aload_n 0, 1) := by decide +kernel
theorem d_M_offer_217 : decode b_M_offer 217 = .ok (.getfield 162, 3) := by decide +kernel
theorem d_M_offer_220 : decode b_M_offer 220 = .ok (.i2s, 1) := by decide +kernel
theorem d_M_offer_221 : decode b_M_offer 221 = .ok (.sastore, 1) := by decide +kernel
theorem d_M_offer_222 : decode b_M_offer 222 = .ok (.aload_n 0, 1) := by decide +kernel
theorem d_M_offer_223 : decode b_M_offer 223 = .ok (.getfield 66, 3) := by decide +kernel
theorem d_M_offer_226 : decode b_M_offer 226 = .ok (.iload 4, 2) := by decide +kernel
theorem d_M_offer_228 : decode b_M_offer 228 = .ok (.aload_n 0, 1) := by decide +kernel
theorem d_M_offer_229 : decode b_M_offer 229 = .ok (.getfield 165, 3) := by decide +kernel
theorem d_M_offer_232 : decode b_M_offer 232 = .ok (.i2s, 1) := by decide +kernel
theorem d_M_offer_233 : decode b_M_offer 233 = .ok (.sastore, 1) := by decide +kernel
theorem d_M_offer_234 : decode b_M_offer 234 = .ok (.aload_n 0, 1) := by decide +kernel
theorem d_M_offer_235 : decode b_M_offer 235 = .ok (.getfield 49, 3) := by decide +kernel
theorem d_M_offer_238 : decode b_M_offer 238 = .ok (.iload_n 1, 1) := by decide +kernel
theorem d_M_offer_239 : decode b_M_offer 239 = .ok (.iload_n 3, 1) := by decide +kernel
theorem d_M_offer_240 : decode b_M_offer 240 = .ok (.iconst 1, 1) := by decide +kernel
theorem d_M_offer_241 : decode b_M_offer 241 = .ok (.iadd, 1) := by decide +kernel
theorem d_M_offer_242 : decode b_M_offer 242 = .ok (.iastore, 1) := by decide +kernel
theorem d_M_offer_243 : decode b_M_offer 243 = .ok (.return_, 1) := by decide +kernel
theorem d_M_divide_0 : decode b_M_divide 0 = .ok (.bipush 36, 2) := by decide +kernel
theorem d_M_divide_2 : decode b_M_divide 2 = .ok (.aload_n 0, 1) := by decide +kernel
theorem d_M_divide_3 : decode b_M_divide 3 = .ok (.getfield 17, 3) := by decide +kernel
theorem d_M_divide_6 : decode b_M_divide 6 = .ok (.iload_n 1, 1) := by decide +kernel
theorem d_M_divide_7 : decode b_M_divide 7 = .ok (.iaload, 1) := by decide +kernel
theorem d_M_divide_8 : decode b_M_divide 8 = .ok (.imul, 1) := by decide +kernel
theorem d_M_divide_9 : decode b_M_divide 9 = .ok (.bipush 6, 2) := by decide +kernel
theorem d_M_divide_11 : decode b_M_divide 11 = .ok (.iload_n 2, 1) := by decide +kernel
theorem d_M_divide_12 : decode b_M_divide 12 = .ok (.imul, 1) := by decide +kernel
theorem d_M_divide_13 : decode b_M_divide 13 = .ok (.iadd, 1) := by decide +kernel
theorem d_M_divide_14 : decode b_M_divide 14 = .ok (.iload 5, 2) := by decide +kernel
theorem d_M_divide_16 : decode b_M_divide 16 = .ok (.iadd, 1) := by decide +kernel
theorem d_M_divide_17 : decode b_M_divide 17 = .ok (.iconst 1, 1) := by decide +kernel
theorem d_M_divide_18 : decode b_M_divide 18 = .ok (.isub, 1) := by decide +kernel
theorem d_M_divide_19 : decode b_M_divide 19 = .ok (.istore 6, 2) := by decide +kernel
theorem d_M_divide_21 : decode b_M_divide 21 = .ok (.aload_n 0, 1) := by decide +kernel
theorem d_M_divide_22 : decode b_M_divide 22 = .ok (.getfield 20, 3) := by decide +kernel
theorem d_M_divide_25 : decode b_M_divide 25 = .ok (.iload_n 1, 1) := by decide +kernel
theorem d_M_divide_26 : decode b_M_divide 26 = .ok (.iaload, 1) := by decide +kernel
theorem d_M_divide_27 : decode b_M_divide 27 = .ok (.istore 7, 2) := by decide +kernel
theorem d_M_divide_29 : decode b_M_divide 29 = .ok (.aload_n 0, 1) := by decide +kernel
theorem d_M_divide_30 : decode b_M_divide 30 = .ok (.getfield 23, 3) := by decide +kernel
theorem d_M_divide_33 : decode b_M_divide 33 = .ok (.iconst 3, 1) := by decide +kernel
theorem d_M_divide_34 : decode b_M_divide 34 = .ok (.iload_n 1, 1) := by decide +kernel
theorem d_M_divide_35 : decode b_M_divide 35 = .ok (.imul, 1) := by decide +kernel
theorem d_M_divide_36 : decode b_M_divide 36 = .ok (.caload, 1) := by decide +kernel
theorem d_M_divide_37 : decode b_M_divide 37 = .ok (.istore 8, 2) := by decide +kernel
theorem d_M_divide_39 : decode b_M_divide 39 = .ok (.iload 7, 2) := by decide +kernel
theorem d_M_divide_41 : decode b_M_divide 41 = .ok (.iconst 1, 1) := by decide +kernel
theorem d_M_divide_42 : decode b_M_divide 42 = .ok (.if_icmp .le 16, 3) := by decide +kernel
theorem d_M_divide_45 : decode b_M_divide 45 = .ok (.aload_n 0, 1) := by decide +kernel
theorem d_M_divide_46 : decode b_M_divide 46 = .ok (.getfield 23, 3) := by decide +kernel
theorem d_M_divide_49 : decode b_M_divide 49 = .ok (.iconst 3, 1) := by decide +kernel
theorem d_M_divide_50 : decode b_M_divide 50 = .ok (.iload_n 1, 1) := by decide +kernel
theorem d_M_divide_51 : decode b_M_divide 51 = .ok (.imul, 1) := by decide +kernel
theorem d_M_divide_52 : decode b_M_divide 52 = .ok (.iconst 1, 1) := by decide +kernel
theorem d_M_divide_53 : decode b_M_divide 53 = .ok (.iadd, 1) := by decide +kernel
theorem d_M_divide_54 : decode b_M_divide 54 = .ok (.caload, 1) := by decide +kernel
theorem d_M_divide_55 : decode b_M_divide 55 = .ok (.goto 5, 3) := by decide +kernel
theorem d_M_divide_58 : decode b_M_divide 58 = .ok (.bipush 97, 2) := by decide +kernel
theorem d_M_divide_60 : decode b_M_divide 60 = .ok (.istore 9, 2) := by decide +kernel
theorem d_M_divide_62 : decode b_M_divide 62 = .ok (.iload 7, 2) := by decide +kernel
theorem d_M_divide_64 : decode b_M_divide 64 = .ok (.iconst 2, 1) := by decide +kernel
theorem d_M_divide_65 : decode b_M_divide 65 = .ok (.if_icmp .le 16, 3) := by decide +kernel
theorem d_M_divide_68 : decode b_M_divide 68 = .ok (.aload_n 0, 1) := by decide +kernel
theorem d_M_divide_69 : decode b_M_divide 69 = .ok (.getfield 23, 3) := by decide +kernel
theorem d_M_divide_72 : decode b_M_divide 72 = .ok (.iconst 3, 1) := by decide +kernel
theorem d_M_divide_73 : decode b_M_divide 73 = .ok (.iload_n 1, 1) := by decide +kernel
theorem d_M_divide_74 : decode b_M_divide 74 = .ok (.imul, 1) := by decide +kernel
theorem d_M_divide_75 : decode b_M_divide 75 = .ok (.iconst 2, 1) := by decide +kernel
theorem d_M_divide_76 : decode b_M_divide 76 = .ok (.iadd, 1) := by decide +kernel
theorem d_M_divide_77 : decode b_M_divide 77 = .ok (.caload, 1) := by decide +kernel
theorem d_M_divide_78 : decode b_M_divide 78 = .ok (.goto 5, 3) := by decide +kernel
theorem d_M_divide_81 : decode b_M_divide 81 = .ok (.bipush 97, 2) := by decide +kernel
theorem d_M_divide_83 : decode b_M_divide 83 = .ok (.istore 10, 2) := by decide +kernel
theorem d_M_divide_85 : decode b_M_divide 85 = .ok (.iload 7, 2) := by decide +kernel
theorem d_M_divide_87 : decode b_M_divide 87 = .ok (.iconst 1, 1) := by decide +kernel
theorem d_M_divide_88 : decode b_M_divide 88 = .ok (.if_icmp .ne 8, 3) := by decide +kernel
theorem d_M_divide_91 : decode b_M_divide 91 = .ok (.iload 5, 2) := by decide +kernel
theorem d_M_divide_93 : decode b_M_divide 93 = .ok (.goto 4, 3) := by decide +kernel
theorem d_M_divide_96 : decode b_M_divide 96 = .ok (.iload_n 3, 1) := by decide +kernel
theorem d_M_divide_97 : decode b_M_divide 97 = .ok (.istore 11, 2) := by decide +kernel
theorem d_M_divide_99 : decode b_M_divide 99 = .ok (.iload 7, 2) := by decide +kernel
theorem d_M_divide_101 : decode b_M_divide 101 = .ok (.iconst 2, 1) := by decide +kernel
theorem d_M_divide_102 : decode b_M_divide 102 = .ok (.if_icmp .ne 8, 3) := by decide +kernel
theorem d_M_divide_105 : decode b_M_divide 105 = .ok (.iload 5, 2) := by decide +kernel
theorem d_M_divide_107 : decode b_M_divide 107 = .ok (.goto 5, 3) := by decide +kernel
theorem d_M_divide_110 : decode b_M_divide 110 = .ok (.iload 4, 2) := by decide +kernel
theorem d_M_divide_112 : decode b_M_divide 112 = .ok (.istore 12, 2) := by decide +kernel
theorem d_M_divide_114 : decode b_M_divide 114 = .ok (.aload_n 0, 1) := by decide +kernel
theorem d_M_divide_115 : decode b_M_divide 115 = .ok (.iload 8, 2) := by decide +kernel
theorem d_M_divide_117 : decode b_M_divide 117 = .ok (.iload_n 2, 1) := by decide +kernel
theorem d_M_divide_118 : decode b_M_divide 118 = .ok (.iload 11, 2) := by decide +kernel
theorem d_M_divide_120 : decode b_M_divide 120 = .ok (.invokevirtual 141, 3) := by decide +kernel
theorem d_M_divide_123 : decode b_M_divide 123 = .ok (.lstore 13, 2) := by decide +kernel
theorem d_M_divide_125 : decode b_M_divide 125 = .ok (.iload 7, 2) := by decide +kernel
theorem d_M_divide_127 : decode b_M_divide 127 = .ok (.iconst 1, 1) := by decide +kernel
theorem d_M_divide_128 : decode b_M_divide 128 = .ok (.if_icmp .le 18, 3) := by decide +kernel
theorem d_M_divide_131 : decode b_M_divide 131 = .ok (.lload 13, 2) := by decide +kernel
theorem d_M_divide_133 : decode b_M_divide 133 = .ok (.aload_n 0, 1) := by decide +kernel
theorem d_M_divide_134 : decode b_M_divide 134 = .ok (.iload 9, 2) := by decide +kernel
theorem d_M_divide_136 : decode b_M_divide 136 = .ok (.iload_n 3, 1) := by decide +kernel
theorem d_M_divide_137 : decode b_M_divide 137 = .ok (.iload 12, 2) := by decide +kernel
theorem d_M_divide_139 : decode b_M_divide 139 = .ok (.invokevirtual 141, 3) := by decide +kernel
theorem d_M_divide_142 : decode b_M_divide 142 = .ok (.lmul, 1) := by decide +kernel
theorem d_M_divide_143 : decode b_M_divide 143 = .ok (.goto 5, 3) := by decide +kernel
theorem d_M_divide_146 : decode b_M_divide 146 = .ok (.lload 13, 2) := by decide +kernel
theorem d_M_divide_148 : decode b_M_divide 148 = .ok (.lstore 13, 2) := by decide +kernel
theorem d_M_divide_150 : decode b_M_divide 150 = .ok (.iload 7, 2) := by decide +kernel
theorem d_M_divide_152 : decode b_M_divide 152 = .ok (.iconst 2, 1) := by decide +kernel
theorem d_M_divide_153 : decode b_M_divide 153 = .ok (.if_icmp .le 19, 3) := by decide +kernel
theorem d_M_divide_156 : decode b_M_divide 156 = .ok (.lload 13, 2) := by decide +kernel
theorem d_M_divide_158 : decode b_M_divide 158 = .ok (.aload_n 0, 1) := by decide +kernel
theorem d_M_divide_159 : decode b_M_divide 159 = .ok (.iload 10, 2) := by decide +kernel
theorem d_M_divide_161 : decode b_M_divide 161 = .ok (.iload 4, 2) := by decide +kernel
theorem d_M_divide_163 : decode b_M_divide 163 = .ok (.iload 5, 2) := by decide +kernel
theorem d_M_divide_165 : decode b_M_divide 165 = .ok (.invokevirtual 141, 3) := by decide +kernel
theorem d_M_divide_168 : decode b_M_divide 168 = .ok (.lmul, 1) := by decide +kernel
theorem d_M_divide_169 : decode b_M_divide 169 = .ok (.goto 5, 3) := by decide +kernel
theorem d_M_divide_172 : decode b_M_divide 172 = .ok (.lload 13, 2) := by decide +kernel
theorem d_M_divide_174 : decode b_M_divide 174 = .ok (.lstore 13, 2) := by decide +kernel
theorem d_M_divide_176 : decode b_M_divide 176 = .ok (.aload_n 0, 1) := by decide +kernel
theorem d_M_divide_177 : decode b_M_divide 177 = .ok (.getfield 45, 3) := by decide +kernel
theorem d_M_divide_180 : decode b_M_divide 180 = .ok (.iload 6, 2) := by decide +kernel
theorem d_M_divide_182 : decode b_M_divide 182 = .ok (.dup2, 1) := by decide +kernel
theorem d_M_divide_183 : decode b_M_divide 183 = .ok (.laload, 1) := by decide +kernel
theorem d_M_divide_184 : decode b_M_divide 184 = .ok (.lload 13, 2) := by decide +kernel
theorem d_M_divide_186 : decode b_M_divide 186 = .ok (.ladd, 1) := by decide +kernel
theorem d_M_divide_187 : decode b_M_divide 187 = .ok (.lastore, 1) := by decide +kernel
theorem d_M_divide_188 : decode b_M_divide 188 = .ok (.aload_n 0, 1) := by decide +kernel
theorem d_M_divide_189 : decode b_M_divide 189 = .ok (.iload 8, 2) := by decide +kernel
theorem d_M_divide_191 : decode b_M_divide 191 = .ok (.iload_n 2, 1) := by decide +kernel
theorem d_M_divide_192 : decode b_M_divide 192 = .ok (.iload 11, 2) := by decide +kernel
theorem d_M_divide_194 : decode b_M_divide 194 = .ok (.invokevirtual 171, 3) := by decide +kernel
theorem d_M_divide_197 : decode b_M_divide 197 = .ok (.istore 15, 2) := by decide +kernel
theorem d_M_divide_199 : decode b_M_divide 199 = .ok (.iload 7, 2) := by decide +kernel
theorem d_M_divide_201 : decode b_M_divide 201 = .ok (.iconst 1, 1) := by decide +kernel
theorem d_M_divide_202 : decode b_M_divide 202 = .ok (.if_icmp .le 15, 3) := by decide +kernel
theorem d_M_divide_205 : decode b_M_divide 205 = .ok (.aload_n 0, 1) := by decide +kernel
theorem d_M_divide_206 : decode b_M_divide 206 = .ok (.iload 9, 2) := by decide +kernel
theorem d_M_divide_208 : decode b_M_divide 208 = .ok (.iload_n 3, 1) := by decide +kernel
theorem d_M_divide_209 : decode b_M_divide 209 = .ok (.iload 12, 2) := by decide +kernel
theorem d_M_divide_211 : decode b_M_divide 211 = .ok (.invokevirtual 171, 3) := by decide +kernel
theorem d_M_divide_214 : decode b_M_divide 214 = .ok (.goto 4, 3) := by decide +kernel
theorem d_M_divide_217 : decode b_M_divide 217 = .ok (.iconst 1, 1) := by decide +kernel
theorem d_M_divide_218 : decode b_M_divide 218 = .ok (.istore 16, 2) := by decide +kernel
theorem d_M_divide_220 : decode b_M_divide 220 = .ok (.iload 7, 2) := by decide +kernel
theorem d_M_divide_222 : decode b_M_divide 222 = .ok (.iconst 2, 1) := by decide +kernel
theorem d_M_divide_223 : decode b_M_divide 223 = .ok (.if_icmp .le 16, 3) := by decide +kernel
theorem d_M_divide_226 : decode b_M_divide 226 = .ok (.aload_n 0, 1) := by decide +kernel
theorem d_M_divide_227 : decode b_M_divide 227 = .ok (.iload 10, 2) := by decide +kernel
theorem d_M_divide_229 : decode b_M_divide 229 = .ok (.iload 4, 2) := by decide +kernel
theorem d_M_divide_231 : decode b_M_divide 231 = .ok (.iload 5, 2) := by decide +kernel
theorem d_M_divide_233 : decode b_M_divide 233 = .ok (.invokevirtual 171, 3) := by decide +kernel
theorem d_M_divide_236 : decode b_M_divide 236 = .ok (.goto 4, 3) := by decide +kernel
theorem d_M_divide_239 : decode b_M_divide 239 = .ok (.iconst 1, 1) := by decide +kernel
theorem d_M_divide_240 : decode b_M_divide 240 = .ok (.istore 17, 2) := by decide +kernel
theorem d_M_divide_242 : decode b_M_divide 242 = .ok (.iconst 0, 1) := by decide +kernel
theorem d_M_divide_243 : decode b_M_divide 243 = .ok (.istore 18, 2) := by decide +kernel
theorem d_M_divide_245 : decode b_M_divide 245 = .ok (.iload 18, 2) := by decide +kernel
theorem d_M_divide_247 : decode b_M_divide 247 = .ok (.iload 15, 2) := by decide +kernel
theorem d_M_divide_249 : decode b_M_divide 249 = .ok (.if_icmp .ge 185, 3) := by decide +kernel
theorem d_M_divide_252 : decode b_M_divide 252 = .ok (.iconst 0, 1) := by decide +kernel
theorem d_M_divide_253 : decode b_M_divide 253 = .ok (.istore 19, 2) := by decide +kernel
theorem d_M_divide_255 : decode b_M_divide 255 = .ok (.iload 19, 2) := by decide +kernel
theorem d_M_divide_257 : decode b_M_divide 257 = .ok (.iload 16, 2) := by decide +kernel
theorem d_M_divide_259 : decode b_M_divide 259 = .ok (.if_icmp .ge 169, 3) := by decide +kernel
theorem d_M_divide_262 : decode b_M_divide 262 = .ok (.iload 18, 2) := by decide +kernel
theorem d_M_divide_264 : decode b_M_divide 264 = .ok (.iconst 1, 1) := by decide +kernel
theorem d_M_divide_265 : decode b_M_divide 265 = .ok (.iadd, 1) := by decide +kernel
theorem d_M_divide_266 : decode b_M_divide 266 = .ok (.iload 19, 2) := by decide +kernel
theorem d_M_divide_268 : decode b_M_divide 268 = .ok (.iconst 1, 1) := by decide +kernel
theorem d_M_divide_269 : decode b_M_divide 269 = .ok (.iadd, 1) := by decide +kernel
theorem d_M_divide_270 : decode b_M_divide 270 = .ok (.imul, 1) := by decide +kernel
theorem d_M_divide_271 : decode b_M_divide 271 = .ok (.bipush 8, 2) := by decide +kernel
theorem d_M_divide_273 : decode b_M_divide 273 = .ok (.if_icmp .gt 155, 3) := by decide +kernel
theorem d_M_divide_276 : decode b_M_divide 276 = .ok (.iconst 0, 1) := by decide +kernel
theorem d_M_divide_277 : decode b_M_divide 277 = .ok (.istore 20, 2) := by decide +kernel
theorem d_M_divide_279 : decode b_M_divide 279 = .ok (.iload 20, 2) := by decide +kernel
theorem d_M_divide_281 : decode b_M_divide 281 = .ok (.iload 17, 2) := by decide +kernel
theorem d_M_divide_283 : decode b_M_divide 283 = .ok (.if_icmp .ge 139, 3) := by decide +kernel
theorem d_M_divide_286 : decode b_M_divide 286 = .ok (.iload 18, 2) := by decide +kernel
theorem d_M_divide_288 : decode b_M_divide 288 = .ok (.iconst 1, 1) := by decide +kernel
theorem d_M_divide_289 : decode b_M_divide 289 = .ok (.iadd, 1) := by decide +kernel
theorem d_M_divide_290 : decode b_M_divide 290 = .ok (.iload 19, 2) := by decide +kernel
theorem d_M_divide_292 : decode b_M_divide 292 = .ok (.iconst 1, 1) := by decide +kernel
theorem d_M_divide_293 : decode b_M_divide 293 = .ok (.iadd, 1) := by decide +kernel
theorem d_M_divide_294 : decode b_M_divide 294 = .ok (.imul, 1) := by decide +kernel
theorem d_M_divide_295 : decode b_M_divide 295 = .ok (.iload 20, 2) := by decide +kernel
theorem d_M_divide_297 : decode b_M_divide 297 = .ok (.iconst 1, 1) := by decide +kernel
theorem d_M_divide_298 : decode b_M_divide 298 = .ok (.iadd, 1) := by decide +kernel
theorem d_M_divide_299 : decode b_M_divide 299 = .ok (.imul, 1) := by decide +kernel
theorem d_M_divide_300 : decode b_M_divide 300 = .ok (.bipush 8, 2) := by decide +kernel
theorem d_M_divide_302 : decode b_M_divide 302 = .ok (.if_icmp .gt 120, 3) := by decide +kernel
theorem d_M_divide_305 : decode b_M_divide 305 = .ok (.aload_n 0, 1) := by decide +kernel
theorem d_M_divide_306 : decode b_M_divide 306 = .ok (.iload_n 1, 1) := by decide +kernel
theorem d_M_divide_307 : decode b_M_divide 307 = .ok (.putfield 156, 3) := by decide +kernel
theorem d_M_divide_310 : decode b_M_divide 310 = .ok (.aload_n 0, 1) := by decide +kernel
theorem d_M_divide_311 : decode b_M_divide 311 = .ok (.iload 8, 2) := by decide +kernel
theorem d_M_divide_313 : decode b_M_divide 313 = .ok (.iload_n 2, 1) := by decide +kernel
theorem d_M_divide_314 : decode b_M_divide 314 = .ok (.iload 11, 2) := by decide +kernel
theorem d_M_divide_316 : decode b_M_divide 316 = .ok (.iload 18, 2) := by decide +kernel
theorem d_M_divide_318 : decode b_M_divide 318 = .ok (.invokestatic 175, 3) := by decide +kernel
theorem d_M_divide_321 : decode b_M_divide 321 = .ok (.putfield 159, 3) := by decide +kernel
theorem d_M_divide_324 : decode b_M_divide 324 = .ok (.aload_n 0, 1) := by decide +kernel
theorem d_M_divide_325 : decode b_M_divide 325 = .ok (.iload 7, 2) := by decide +kernel
theorem d_M_divide_327 : decode b_M_divide 327 = .ok (.iconst 1, 1) := by decide +kernel
theorem d_M_divide_328 : decode b_M_divide 328 = .ok (.if_icmp .le 16, 3) := by decide +kernel
theorem d_M_divide_331 : decode b_M_divide 331 = .ok (.iload 9, 2) := by decide +kernel
theorem d_M_divide_333 : decode b_M_divide 333 = .ok (.iload_n 3, 1) := by decide +kernel
theorem d_M_divide_334 : decode b_M_divide 334 = .ok (.iload 12, 2) := by decide +kernel
theorem d_M_divide_336 : decode b_M_divide 336 = .ok (.iload 19, 2) := by decide +kernel
theorem d_M_divide_338 : decode b_M_divide 338 = .ok (.invokestatic 175, 3) := by decide +kernel
theorem d_M_divide_341 : decode b_M_divide 341 = .ok (.goto 4, 3) := by decide +kernel
theorem d_M_divide_344 : decode b_M_divide 344 = .ok (.iconst (-1), 1) := by decide +kernel
theorem d_M_divide_345 : decode b_M_divide 345 = .ok (.putfield 162, 3) := by decide +kernel
theorem d_M_divide_348 : decode b_M_divide 348 = .ok (.aload_n 0, 1) := by decide +kernel
theorem d_M_divide_349 : decode b_M_divide 349 = .ok (.iload 7, 2) := by decide +kernel
theorem d_M_divide_351 : decode b_M_divide 351 = .ok (.iconst 2, 1) := by decide +kernel
theorem d_M_divide_352 : decode b_M_divide 352 = .ok (.if_icmp .le 17, 3) := by decide +kernel
theorem d_M_divide_355 : decode b_M_divide 355 = .ok (.iload 10, 2) := by decide +kernel
theorem d_M_divide_357 : decode b_M_divide 357 = .ok (.iload 4, 2) := by decide +kernel
theorem d_M_divide_359 : decode b_M_divide 359 = .ok (.iload 5, 2) := by decide +kernel
theorem d_M_divide_361 : decode b_M_divide 361 = .ok (.iload 20, 2) := by decide +kernel
theorem d_M_divide_363 : decode b_M_divide 363 = .ok (.invokestatic 175, 3) := by decide +kernel
theorem d_M_divide_366 : decode b_M_divide 366 = .ok (.goto 4, 3) := by decide +kernel
theorem d_M_divide_369 : decode b_M_divide 369 = .ok (.iconst (-1), 1) := by decide +kernel
theorem d_M_divide_370 : decode b_M_divide 370 = .ok (.putfield 165, 3) := by decide +kernel
theorem d_M_divide_373 : decode b_M_divide 373 = .ok (.aload_n 0, 1) := by decide +kernel
theorem d_M_divide_374 : decode b_M_divide 374 = .ok (.aload_n 0, 1) := by decide +kernel
theorem d_M_divide_375 : decode b_M_divide 375 = .ok (.getfield 26, 3) := by decide +kernel
theorem d_M_divide_378 : decode b_M_divide 378 = .ok (.iload_n 1, 1) := by decide +kernel
theorem d_M_divide_379 : decode b_M_divide 379 = .ok (.iaload, 1) := by decide +kernel
theorem d_M_divide_380 : decode b_M_divide 380 = .ok (.aload_n 0, 1) := by decide +kernel
theorem d_M_divide_381 : decode b_M_divide 381 = .ok (.aload_n 0, 1) := by decide +kernel
theorem d_M_divide_382 : decode b_M_divide 382 = .ok (.getfield 159, 3) := by decide +kernel
theorem d_M_divide_385 : decode b_M_divide 385 = .ok (.invokevirtual 179, 3) := by decide +kernel
theorem d_M_divide_388 : decode b_M_divide 388 = .ok (.iadd, 1) := by decide +kernel
theorem d_M_divide_389 : decode b_M_divide 389 = .ok (.aload_n 0, 1) := by decide +kernel
theorem d_M_divide_390 : decode b_M_divide 390 = .ok (.aload_n 0, 1) := by decide +kernel
theorem d_M_divide_391 : decode b_M_divide 391 = .ok (.getfield 162, 3) := by decide +kernel
theorem d_M_divide_394 : decode b_M_divide 394 = .ok (.invokevirtual 179, 3) := by decide +kernel
theorem d_M_divide_397 : decode b_M_divide 397 = .ok (.iadd, 1) := by decide +kernel
theorem d_M_divide_398 : decode b_M_divide 398 = .ok (.aload_n 0, 1) := by decide +kernel
theorem d_M_divide_399 : decode b_M_divide 399 = .ok (.aload_n 0, 1) := by decide +kernel
theorem d_M_divide_400 : decode b_M_divide 400 = .ok (.getfield 165, 3) := by decide +kernel
theorem d_M_divide_403 : decode b_M_divide 403 = .ok (.invokevirtual 179, 3) := by decide +kernel
theorem d_M_divide_406 : decode b_M_divide 406 = .ok (.iadd, 1) := by decide +kernel
theorem d_M_divide_407 : decode b_M_divide 407 = .ok (.putfield 149, 3) := by decide +kernel
theorem d_M_divide_410 : decode b_M_divide 410 = .ok (.aload_n 0, 1) := by decide +kernel
theorem d_M_divide_411 : decode b_M_divide 411 = .ok (.iload 6, 2) := by decide +kernel
theorem d_M_divide_413 : decode b_M_divide 413 = .ok (.invokevirtual 183, 3) := by decide +kernel
theorem d_M_divide_416 : decode b_M_divide 416 = .ok (.iinc 20 1, 3) := by decide +kernel
theorem d_M_divide_419 : decode b_M_divide 419 = .ok (.goto (-140), 3) := by decide +kernel
theorem d_M_divide_422 : decode b_M_divide 422 = .ok (.iinc 19 1, 3) := by decide +kernel
theorem d_M_divide_425 : decode b_M_divide 425 = .ok (.goto (-170), 3) := by decide +kernel
theorem d_M_divide_428 : decode b_M_divide 428 = .ok (.iinc 18 1, 3) := by decide +kernel
theorem d_M_divide_431 : decode b_M_divide 431 = .ok (.goto (-186), 3) := by decide +kernel
theorem d_M_divide_434 : decode b_M_divide 434 = .ok (.return_, 1) := by decide +kernel
theorem d_M_apply_0 : decode b_M_apply 0 = .ok (.aload_n 0, 1) := by decide +kernel
theorem d_M_apply_1 : decode b_M_apply 1 = .ok (.getfield 20, 3) := by decide +kernel
theorem d_M_apply_4 : decode b_M_apply 4 = .ok (.iload_n 1, 1) := by decide +kernel
theorem d_M_apply_5 : decode b_M_apply 5 = .ok (.iaload, 1) := by decide +kernel
theorem d_M_apply_6 : decode b_M_apply 6 = .ok (.iconst 1, 1) := by decide +kernel
theorem d_M_apply_7 : decode b_M_apply 7 = .ok (.if_icmp .ne 15, 3) := by decide +kernel
theorem d_M_apply_10 : decode b_M_apply 10 = .ok (.aload_n 0, 1) := by decide +kernel
theorem d_M_apply_11 : decode b_M_apply 11 = .ok (.iload_n 1, 1) := by decide +kernel
theorem d_M_apply_12 : decode b_M_apply 12 = .ok (.iload_n 2, 1) := by decide +kernel
theorem d_M_apply_13 : decode b_M_apply 13 = .ok (.iconst 0, 1) := by decide +kernel
theorem d_M_apply_14 : decode b_M_apply 14 = .ok (.iconst 0, 1) := by decide +kernel
theorem d_M_apply_15 : decode b_M_apply 15 = .ok (.iload_n 3, 1) := by decide +kernel
theorem d_M_apply_16 : decode b_M_apply 16 = .ok (.invokevirtual 187, 3) := by decide +kernel
theorem d_M_apply_19 : decode b_M_apply 19 = .ok (.goto 89, 3) := by decide +kernel
theorem d_M_apply_22 : decode b_M_apply 22 = .ok (.aload_n 0, 1) := by decide +kernel
theorem d_M_apply_23 : decode b_M_apply 23 = .ok (.getfield 20, 3) := by decide +kernel
theorem d_M_apply_26 : decode b_M_apply 26 = .ok (.iload_n 1, 1) := by decide +kernel
theorem d_M_apply_27 : decode b_M_apply 27 = .ok (.iaload, 1) := by decide +kernel
theorem d_M_apply_28 : decode b_M_apply 28 = .ok (.iconst 2, 1) := by decide +kernel
theorem d_M_apply_29 : decode b_M_apply 29 = .ok (.if_icmp .ne 33, 3) := by decide +kernel
theorem d_M_apply_32 : decode b_M_apply 32 = .ok (.iload_n 2, 1) := by decide +kernel
theorem d_M_apply_33 : decode b_M_apply 33 = .ok (.iconst 1, 1) := by decide +kernel
theorem d_M_apply_34 : decode b_M_apply 34 = .ok (.iadd, 1) := by decide +kernel
theorem d_M_apply_35 : decode b_M_apply 35 = .ok (.istore 4, 2) := by decide +kernel
theorem d_M_apply_37 : decode b_M_apply 37 = .ok (.iload 4, 2) := by decide +kernel
theorem d_M_apply_39 : decode b_M_apply 39 = .ok (.iload_n 3, 1) := by decide +kernel
theorem d_M_apply_40 : decode b_M_apply 40 = .ok (.if_icmp .ge 19, 3) := by decide +kernel
theorem d_M_apply_43 : decode b_M_apply 43 = .ok (.aload_n 0, 1) := by decide +kernel
theorem d_M_apply_44 : decode b_M_apply 44 = .ok (.iload_n 1, 1) := by decide +kernel
theorem d_M_apply_45 : decode b_M_apply 45 = .ok (.iload_n 2, 1) := by decide +kernel
theorem d_M_apply_46 : decode b_M_apply 46 = .ok (.iload 4, 2) := by decide +kernel
theorem d_M_apply_48 : decode b_M_apply 48 = .ok (.iconst 0, 1) := by decide +kernel
theorem d_M_apply_49 : decode b_M_apply 49 = .ok (.iload_n 3, 1) := by decide +kernel
theorem d_M_apply_50 : decode b_M_apply 50 = .ok (.invokevirtual 187, 3) := by decide +kernel
theorem d_M_apply_53 : decode b_M_apply 53 = .ok (.iinc 4 1, 3) := by decide +kernel
theorem d_M_apply_56 : decode b_M_apply 56 = .ok (.goto (-19), 3) := by decide +kernel
theorem d_M_apply_59 : decode b_M_apply 59 = .ok (.goto 49, 3) := by decide +kernel
theorem d_M_apply_62 : decode b_M_apply 62 = .ok (.iload_n 2, 1) := by decide +kernel
theorem d_M_apply_63 : decode b_M_apply 63 = .ok (.iconst 1, 1) := by decide +kernel
theorem d_M_apply_64 : decode b_M_apply 64 = .ok (.iadd, 1) := by decide +kernel
theorem d_M_apply_65 : decode b_M_apply 65 = .ok (.istore 4, 2) := by decide +kernel
theorem d_M_apply_67 : decode b_M_apply 67 = .ok (.iload 4, 2) := by decide +kernel
theorem d_M_apply_69 : decode b_M_apply 69 = .ok (.iload_n 3, 1) := by decide +kernel
theorem d_M_apply_70 : decode b_M_apply 70 = .ok (.if_icmp .ge 38, 3) := by decide +kernel
theorem d_M_apply_73 : decode b_M_apply 73 = .ok (.iload 4, 2) := by decide +kernel
theorem d_M_apply_75 : decode b_M_apply 75 = .ok (.iconst 1, 1) := by decide +kernel
theorem d_M_apply_76 : decode b_M_apply 76 = .ok (.iadd, 1) := by decide +kernel
theorem d_M_apply_77 : decode b_M_apply 77 = .ok (.istore 5, 2) := by decide +kernel
theorem d_M_apply_79 : decode b_M_apply 79 = .ok (.iload 5, 2) := by decide +kernel
theorem d_M_apply_81 : decode b_M_apply 81 = .ok (.iload_n 3, 1) := by decide +kernel
theorem d_M_apply_82 : decode b_M_apply 82 = .ok (.if_icmp .ge 20, 3) := by decide +kernel
theorem d_M_apply_85 : decode b_M_apply 85 = .ok (.aload_n 0, 1) := by decide +kernel
theorem d_M_apply_86 : decode b_M_apply 86 = .ok (.iload_n 1, 1) := by decide +kernel
theorem d_M_apply_87 : decode b_M_apply 87 = .ok (.iload_n 2, 1) := by decide +kernel
theorem d_M_apply_88 : decode b_M_apply 88 = .ok (.iload 4, 2) := by decide +kernel
theorem d_M_apply_90 : decode b_M_apply 90 = .ok (.iload 5, 2) := by decide +kernel
theorem d_M_apply_92 : decode b_M_apply 92 = .ok (.iload_n 3, 1) := by decide +kernel
theorem d_M_apply_93 : decode b_M_apply 93 = .ok (.invokevirtual 187, 3) := by decide +kernel
theorem d_M_apply_96 : decode b_M_apply 96 = .ok (.iinc 5 1, 3) := by decide +kernel
theorem d_M_apply_99 : decode b_M_apply 99 = .ok (.goto (-20), 3) := by decide +kernel
theorem d_M_apply_102 : decode b_M_apply 102 = .ok (.iinc 4 1, 3) := by decide +kernel
theorem d_M_apply_105 : decode b_M_apply 105 = .ok (.goto (-38), 3) := by decide +kernel
theorem d_M_apply_108 : decode b_M_apply 108 = .ok (.return_, 1) := by decide +kernel
theorem d_M_findLevels_0 : decode b_M_findLevels 0 = .ok (.iconst 0, 1) := by decide +kernel
theorem d_M_findLevels_1 : decode b_M_findLevels 1 = .ok (.istore_n 1, 1) := by decide +kernel
theorem d_M_findLevels_2 : decode b_M_findLevels 2 = .ok (.iload_n 1, 1) := by decide +kernel
theorem d_M_findLevels_3 : decode b_M_findLevels 3 = .ok (.iconst 5, 1) := by decide +kernel
theorem d_M_findLevels_4 : decode b_M_findLevels 4 = .ok (.if_icmp .ge 16, 3) := by decide +kernel
theorem d_M_findLevels_7 : decode b_M_findLevels 7 = .ok (.aload_n 0, 1) := by decide +kernel
theorem d_M_findLevels_8 : decode b_M_findLevels 8 = .ok (.getfield 39, 3) := by decide +kernel
theorem d_M_findLevels_11 : decode b_M_findLevels 11 = .ok (.iload_n 1, 1) := by decide +kernel
theorem d_M_findLevels_12 : decode b_M_findLevels 12 = .ok (.iconst 0, 1) := by decide +kernel
theorem d_M_findLevels_13 : decode b_M_findLevels 13 = .ok (.iastore, 1) := by decide +kernel
theorem d_M_findLevels_14 : decode b_M_findLevels 14 = .ok (.iinc 1 1, 3) := by decide +kernel
theorem d_M_findLevels_17 : decode b_M_findLevels 17 = .ok (.goto (-15), 3) := by decide +kernel
theorem d_M_findLevels_20 : decode b_M_findLevels 20 = .ok (.iconst 0, 1) := by decide +kernel
theorem d_M_findLevels_21 : decode b_M_findLevels 21 = .ok (.istore_n 1, 1) := by decide +kernel
theorem d_M_findLevels_22 : decode b_M_findLevels 22 = .ok (.iload_n 1, 1) := by decide +kernel
theorem d_M_findLevels_23 : decode b_M_findLevels 23 = .ok (.bipush 6, 2) := by decide +kernel
theorem d_M_findLevels_25 : decode b_M_findLevels 25 = .ok (.if_icmp .ge 97, 3) := by decide +kernel
theorem d_M_findLevels_28 : decode b_M_findLevels 28 = .ok (.iconst 0, 1) := by decide +kernel
theorem d_M_findLevels_29 : decode b_M_findLevels 29 = .ok (.istore_n 2, 1) := by decide +kernel
theorem d_M_findLevels_30 : decode b_M_findLevels 30 = .ok (.iload_n 2, 1) := by decide +kernel
theorem d_M_findLevels_31 : decode b_M_findLevels 31 = .ok (.aload_n 0, 1) := by decide +kernel
theorem d_M_findLevels_32 : decode b_M_findLevels 32 = .ok (.getfield 13, 3) := by decide +kernel
theorem d_M_findLevels_35 : decode b_M_findLevels 35 = .ok (.iconst 0, 1) := by decide +kernel
theorem d_M_findLevels_36 : decode b_M_findLevels 36 = .ok (.iaload, 1) := by decide +kernel
theorem d_M_findLevels_37 : decode b_M_findLevels 37 = .ok (.if_icmp .ge 79, 3) := by decide +kernel
theorem d_M_findLevels_40 : decode b_M_findLevels 40 = .ok (.aload_n 0, 1) := by decide +kernel
theorem d_M_findLevels_41 : decode b_M_findLevels 41 = .ok (.iload_n 2, 1) := by decide +kernel
theorem d_M_findLevels_42 : decode b_M_findLevels 42 = .ok (.invokevirtual 119, 3) := by decide +kernel
theorem d_M_findLevels_45 : decode b_M_findLevels 45 = .ok (.ifCond .eq 65, 3) := by decide +kernel
theorem d_M_findLevels_48 : decode b_M_findLevels 48 = .ok (.aload_n 0, 1) := by decide +kernel
theorem d_M_findLevels_49 : decode b_M_findLevels 49 = .ok (.getfield 39, 3) := by decide +kernel
theorem d_M_findLevels_52 : decode b_M_findLevels 52 = .ok (.aload_n 0, 1) := by decide +kernel
theorem d_M_findLevels_53 : decode b_M_findLevels 53 = .ok (.getfield 23, 3) := by decide +kernel
theorem d_M_findLevels_56 : decode b_M_findLevels 56 = .ok (.iconst 3, 1) := by decide +kernel
theorem d_M_findLevels_57 : decode b_M_findLevels 57 = .ok (.iload_n 2, 1) := by decide +kernel
theorem d_M_findLevels_58 : decode b_M_findLevels 58 = .ok (.imul, 1) := by decide +kernel
theorem d_M_findLevels_59 : decode b_M_findLevels 59 = .ok (.caload, 1) := by decide +kernel
theorem d_M_findLevels_60 : decode b_M_findLevels 60 = .ok (.bipush 65, 2) := by decide +kernel
theorem d_M_findLevels_62 : decode b_M_findLevels 62 = .ok (.isub, 1) := by decide +kernel
theorem d_M_findLevels_63 : decode b_M_findLevels 63 = .ok (.iaload, 1) := by decide +kernel
theorem d_M_findLevels_64 : decode b_M_findLevels 64 = .ok (.istore_n 3, 1) := by decide +kernel
theorem d_M_findLevels_65 : decode b_M_findLevels 65 = .ok (.aload_n 0, 1) := by decide +kernel
theorem d_M_findLevels_66 : decode b_M_findLevels 66 = .ok (.getfield 39, 3) := by decide +kernel
theorem d_M_findLevels_69 : decode b_M_findLevels 69 = .ok (.aload_n 0, 1) := by decide +kernel
theorem d_M_findLevels_70 : decode b_M_findLevels 70 = .ok (.getfield 17, 3) := by decide +kernel
theorem d_M_findLevels_73 : decode b_M_findLevels 73 = .ok (.iload_n 2, 1) := by decide +kernel
theorem d_M_findLevels_74 : decode b_M_findLevels 74 = .ok (.iaload, 1) := by decide +kernel
theorem d_M_findLevels_75 : decode b_M_findLevels 75 = .ok (.iload_n 3, 1) := by decide +kernel
theorem d_M_findLevels_76 : decode b_M_findLevels 76 = .ok (.iconst 1, 1) := by decide +kernel
theorem d_M_findLevels_77 : decode b_M_findLevels 77 = .ok (.iadd, 1) := by decide +kernel
theorem d_M_findLevels_78 : decode b_M_findLevels 78 = .ok (.aload_n 0, 1) := by decide +kernel
theorem d_M_findLevels_79 : decode b_M_findLevels 79 = .ok (.getfield 39, 3) := by decide +kernel
theorem d_M_findLevels_82 : decode b_M_findLevels 82 = .ok (.aload_n 0, 1) := by decide +kernel
theorem d_M_findLevels_83 : decode b_M_findLevels 83 = .ok (.getfield 17, 3) := by decide +kernel
theorem d_M_findLevels_86 : decode b_M_findLevels 86 = .ok (.iload_n 2, 1) := by decide +kernel
theorem d_M_findLevels_87 : decode b_M_findLevels 87 = .ok (.iaload, 1) := by decide +kernel
theorem d_M_findLevels_88 : decode b_M_findLevels 88 = .ok (.iaload, 1) := by decide +kernel
theorem d_M_findLevels_89 : decode b_M_findLevels 89 = .ok (.if_icmp .le 9, 3) := by decide +kernel
theorem d_M_findLevels_92 : decode b_M_findLevels 92 = .ok (.iload_n 3, 1) := by decide +kernel
theorem d_M_findLevels_93 : decode b_M_findLevels 93 = .ok (.iconst 1, 1) := by decide +kernel
theorem d_M_findLevels_94 : decode b_M_findLevels 94 = .ok (.iadd, 1) := by decide +kernel
theorem d_M_findLevels_95 : decode b_M_findLevels 95 = .ok (.goto 14, 3) := by decide +kernel
theorem d_M_findLevels_98 : decode b_M_findLevels 98 = .ok (.aload_n 0, 1) := by decide +kernel
theorem d_M_findLevels_99 : decode b_M_findLevels 99 = .ok (.getfield 39, 3) := by decide +kernel
theorem d_M_findLevels_102 : decode b_M_findLevels 102 = .ok (.aload_n 0, 1) := by decide +kernel
theorem d_M_findLevels_103 : decode b_M_findLevels 103 = .ok (.getfield 17, 3) := by decide +kernel
theorem d_M_findLevels_106 : decode b_M_findLevels 106 = .ok (.iload_n 2, 1) := by decide +kernel
theorem d_M_findLevels_107 : decode b_M_findLevels 107 = .ok (.iaload, 1) := by decide +kernel
theorem d_M_findLevels_108 : decode b_M_findLevels 108 = .ok (.iaload, 1) := by decide +kernel
theorem d_M_findLevels_109 : decode b_M_findLevels 109 = .ok (.iastore, 1) := by decide +kernel
theorem d_M_findLevels_110 : decode b_M_findLevels 110 = .ok (.iinc 2 1, 3) := by decide +kernel
theorem d_M_findLevels_113 : decode b_M_findLevels 113 = .ok (.goto (-83), 3) := by decide +kernel
theorem d_M_findLevels_116 : decode b_M_findLevels 116 = .ok (.iinc 1 1, 3) := by decide +kernel
theorem d_M_findLevels_119 : decode b_M_findLevels 119 = .ok (.goto (-97), 3) := by decide +kernel
theorem d_M_findLevels_122 : decode b_M_findLevels 122 = .ok (.return_, 1) := by decide +kernel
theorem d_M_work_0 : decode b_M_work 0 = .ok (.aload_n 0, 1) := by decide +kernel
theorem d_M_work_1 : decode b_M_work 1 = .ok (.getfield 122, 3) := by decide +kernel
theorem d_M_work_4 : decode b_M_work 4 = .ok (.ifCond .eq 4, 3) := by decide +kernel
theorem d_M_work_7 : decode b_M_work 7 = .ok (.return_, 1) := by decide +kernel
theorem d_M_work_8 : decode b_M_work 8 = .ok (.aload_n 0, 1) := by decide +kernel
theorem d_M_work_9 : decode b_M_work 9 = .ok (.iconst 1, 1) := by decide +kernel
theorem d_M_work_10 : decode b_M_work 10 = .ok (.putfield 122, 3) := by decide +kernel
theorem d_M_work_13 : decode b_M_work 13 = .ok (.aload_n 0, 1) := by decide +kernel
theorem d_M_work_14 : decode b_M_work 14 = .ok (.invokevirtual 191, 3) := by decide +kernel
theorem d_M_work_17 : decode b_M_work 17 = .ok (.iconst 0, 1) := by decide +kernel
theorem d_M_work_18 : decode b_M_work 18 = .ok (.istore_n 1, 1) := by decide +kernel
theorem d_M_work_19 : decode b_M_work 19 = .ok (.iload_n 1, 1) := by decide +kernel
theorem d_M_work_20 : decode b_M_work 20 = .ok (.sipush 180, 3) := by decide +kernel
theorem d_M_work_23 : decode b_M_work 23 = .ok (.if_icmp .ge 23, 3) := by decide +kernel
theorem d_M_work_26 : decode b_M_work 26 = .ok (.aload_n 0, 1) := by decide +kernel
theorem d_M_work_27 : decode b_M_work 27 = .ok (.getfield 45, 3) := by decide +kernel
theorem d_M_work_30 : decode b_M_work 30 = .ok (.iload_n 1, 1) := by decide +kernel
theorem d_M_work_31 : decode b_M_work 31 = .ok (.lconst 0, 1) := by decide +kernel
theorem d_M_work_32 : decode b_M_work 32 = .ok (.lastore, 1) := by decide +kernel
theorem d_M_work_33 : decode b_M_work 33 = .ok (.aload_n 0, 1) := by decide +kernel
theorem d_M_work_34 : decode b_M_work 34 = .ok (.getfield 49, 3) := by decide +kernel
theorem d_M_work_37 : decode b_M_work 37 = .ok (.iload_n 1, 1) := by decide +kernel
theorem d_M_work_38 : decode b_M_work 38 = .ok (.iconst 0, 1) := by decide +kernel
theorem d_M_work_39 : decode b_M_work 39 = .ok (.iastore, 1) := by decide +kernel
theorem d_M_work_40 : decode b_M_work 40 = .ok (.iinc 1 1, 3) := by decide +kernel
theorem d_M_work_43 : decode b_M_work 43 = .ok (.goto (-24), 3) := by decide +kernel
theorem d_M_work_46 : decode b_M_work 46 = .ok (.iconst 1, 1) := by decide +kernel
theorem d_M_work_47 : decode b_M_work 47 = .ok (.istore_n 1, 1) := by decide +kernel
theorem d_M_work_48 : decode b_M_work 48 = .ok (.iload_n 1, 1) := by decide +kernel
theorem d_M_work_49 : decode b_M_work 49 = .ok (.aload_n 0, 1) := by decide +kernel
theorem d_M_work_50 : decode b_M_work 50 = .ok (.getfield 138, 3) := by decide +kernel
theorem d_M_work_53 : decode b_M_work 53 = .ok (.if_icmp .gt 96, 3) := by decide +kernel
theorem d_M_work_56 : decode b_M_work 56 = .ok (.iconst 0, 1) := by decide +kernel
theorem d_M_work_57 : decode b_M_work 57 = .ok (.istore_n 2, 1) := by decide +kernel
theorem d_M_work_58 : decode b_M_work 58 = .ok (.iload_n 2, 1) := by decide +kernel
theorem d_M_work_59 : decode b_M_work 59 = .ok (.iload_n 1, 1) := by decide +kernel
theorem d_M_work_60 : decode b_M_work 60 = .ok (.iadd, 1) := by decide +kernel
theorem d_M_work_61 : decode b_M_work 61 = .ok (.aload_n 0, 1) := by decide +kernel
theorem d_M_work_62 : decode b_M_work 62 = .ok (.getfield 138, 3) := by decide +kernel
theorem d_M_work_65 : decode b_M_work 65 = .ok (.if_icmp .gt 78, 3) := by decide +kernel
theorem d_M_work_68 : decode b_M_work 68 = .ok (.iconst 0, 1) := by decide +kernel
theorem d_M_work_69 : decode b_M_work 69 = .ok (.istore_n 3, 1) := by decide +kernel
theorem d_M_work_70 : decode b_M_work 70 = .ok (.iload_n 3, 1) := by decide +kernel
theorem d_M_work_71 : decode b_M_work 71 = .ok (.iconst 5, 1) := by decide +kernel
theorem d_M_work_72 : decode b_M_work 72 = .ok (.if_icmp .ge 65, 3) := by decide +kernel
theorem d_M_work_75 : decode b_M_work 75 = .ok (.iconst 0, 1) := by decide +kernel
theorem d_M_work_76 : decode b_M_work 76 = .ok (.istore 4, 2) := by decide +kernel
theorem d_M_work_78 : decode b_M_work 78 = .ok (.iload 4, 2) := by decide +kernel
theorem d_M_work_80 : decode b_M_work 80 = .ok (.aload_n 0, 1) := by decide +kernel
theorem d_M_work_81 : decode b_M_work 81 = .ok (.getfield 13, 3) := by decide +kernel
theorem d_M_work_84 : decode b_M_work 84 = .ok (.iconst 0, 1) := by decide +kernel
theorem d_M_work_85 : decode b_M_work 85 = .ok (.iaload, 1) := by decide +kernel
theorem d_M_work_86 : decode b_M_work 86 = .ok (.if_icmp .ge 45, 3) := by decide +kernel
theorem d_M_work_89 : decode b_M_work 89 = .ok (.aload_n 0, 1) := by decide +kernel
theorem d_M_work_90 : decode b_M_work 90 = .ok (.getfield 29, 3) := by decide +kernel
theorem d_M_work_93 : decode b_M_work 93 = .ok (.iload 4, 2) := by decide +kernel
theorem d_M_work_95 : decode b_M_work 95 = .ok (.baload, 1) := by decide +kernel
theorem d_M_work_96 : decode b_M_work 96 = .ok (.ifCond .eq 29, 3) := by decide +kernel
theorem d_M_work_99 : decode b_M_work 99 = .ok (.aload_n 0, 1) := by decide +kernel
theorem d_M_work_100 : decode b_M_work 100 = .ok (.getfield 39, 3) := by decide +kernel
theorem d_M_work_103 : decode b_M_work 103 = .ok (.aload_n 0, 1) := by decide +kernel
theorem d_M_work_104 : decode b_M_work 104 = .ok (.getfield 17, 3) := by decide +kernel
theorem d_M_work_107 : decode b_M_work 107 = .ok (.iload 4, 2) := by decide +kernel
theorem d_M_work_109 : decode b_M_work 109 = .ok (.iaload, 1) := by decide +kernel
theorem d_M_work_110 : decode b_M_work 110 = .ok (.iaload, 1) := by decide +kernel
theorem d_M_work_111 : decode b_M_work 111 = .ok (.iload_n 3, 1) := by decide +kernel
theorem d_M_work_112 : decode b_M_work 112 = .ok (.if_icmp .ne 13, 3) := by decide +kernel
theorem d_M_work_115 : decode b_M_work 115 = .ok (.aload_n 0, 1) := by decide +kernel
theorem d_M_work_116 : decode b_M_work 116 = .ok (.iload 4, 2) := by decide +kernel
theorem d_M_work_118 : decode b_M_work 118 = .ok (.iload_n 2, 1) := by decide +kernel
theorem d_M_work_119 : decode b_M_work 119 = .ok (.iload_n 2, 1) := by decide +kernel
theorem d_M_work_120 : decode b_M_work 120 = .ok (.iload_n 1, 1) := by decide +kernel
theorem d_M_work_121 : decode b_M_work 121 = .ok (.iadd, 1) := by decide +kernel
theorem d_M_work_122 : decode b_M_work 122 = .ok (.invokevirtual 194, 3) := by decide +kernel
theorem d_M_work_125 : decode b_M_work 125 = .ok (.iinc 4 1, 3) := by decide +kernel
theorem d_M_work_128 : decode b_M_work 128 = .ok (.goto (-50), 3) := by decide +kernel
theorem d_M_work_131 : decode b_M_work 131 = .ok (.iinc 3 1, 3) := by decide +kernel
theorem d_M_work_134 : decode b_M_work 134 = .ok (.goto (-64), 3) := by decide +kernel
theorem d_M_work_137 : decode b_M_work 137 = .ok (.iinc 2 1, 3) := by decide +kernel
theorem d_M_work_140 : decode b_M_work 140 = .ok (.goto (-82), 3) := by decide +kernel
theorem d_M_work_143 : decode b_M_work 143 = .ok (.iinc 1 1, 3) := by decide +kernel
theorem d_M_work_146 : decode b_M_work 146 = .ok (.goto (-98), 3) := by decide +kernel
theorem d_M_work_149 : decode b_M_work 149 = .ok (.return_, 1) := by decide +kernel
theorem d_M_whole_0 : decode b_M_whole 0 = .ok (.bipush 36, 2) := by decide +kernel
theorem d_M_whole_2 : decode b_M_whole 2 = .ok (.aload_n 0, 1) := by decide +kernel
theorem d_M_whole_3 : decode b_M_whole 3 = .ok (.getfield 17, 3) := by decide +kernel
theorem d_M_whole_6 : decode b_M_whole 6 = .ok (.iconst 0, 1) := by decide +kernel
theorem d_M_whole_7 : decode b_M_whole 7 = .ok (.iaload, 1) := by decide +kernel
theorem d_M_whole_8 : decode b_M_whole 8 = .ok (.imul, 1) := by decide +kernel
theorem d_M_whole_9 : decode b_M_whole 9 = .ok (.aload_n 0, 1) := by decide +kernel
theorem d_M_whole_10 : decode b_M_whole 10 = .ok (.getfield 138, 3) := by decide +kernel
theorem d_M_whole_13 : decode b_M_whole 13 = .ok (.iadd, 1) := by decide +kernel
theorem d_M_whole_14 : decode b_M_whole 14 = .ok (.iconst 1, 1) := by decide +kernel
theorem d_M_whole_15 : decode b_M_whole 15 = .ok (.isub, 1) := by decide +kernel
theorem d_M_whole_16 : decode b_M_whole 16 = .ok (.ireturn, 1) := by decide +kernel
theorem d_M_trees_0 : decode b_M_trees 0 = .ok (.aload_n 0, 1) := by decide +kernel
theorem d_M_trees_1 : decode b_M_trees 1 = .ok (.aload_n 0, 1) := by decide +kernel
theorem d_M_trees_2 : decode b_M_trees 2 = .ok (.getfield 13, 3) := by decide +kernel
theorem d_M_trees_5 : decode b_M_trees 5 = .ok (.iconst 0, 1) := by decide +kernel
theorem d_M_trees_6 : decode b_M_trees 6 = .ok (.iaload, 1) := by decide +kernel
theorem d_M_trees_7 : decode b_M_trees 7 = .ok (.ifCond .ne 7, 3) := by decide +kernel
theorem d_M_trees_10 : decode b_M_trees 10 = .ok (.iconst 1, 1) := by decide +kernel
theorem d_M_trees_11 : decode b_M_trees 11 = .ok (.goto 4, 3) := by decide +kernel
theorem d_M_trees_14 : decode b_M_trees 14 = .ok (.iconst 0, 1) := by decide +kernel
theorem d_M_trees_15 : decode b_M_trees 15 = .ok (.putfield 81, 3) := by decide +kernel
theorem d_M_trees_18 : decode b_M_trees 18 = .ok (.aload_n 0, 1) := by decide +kernel
theorem d_M_trees_19 : decode b_M_trees 19 = .ok (.getfield 81, 3) := by decide +kernel
theorem d_M_trees_22 : decode b_M_trees 22 = .ok (.ifCond .gt 10, 3) := by decide +kernel
theorem d_M_trees_25 : decode b_M_trees 25 = .ok (.aload_n 0, 1) := by decide +kernel
theorem d_M_trees_26 : decode b_M_trees 26 = .ok (.getfield 138, 3) := by decide +kernel
theorem d_M_trees_29 : decode b_M_trees 29 = .ok (.ifCond .ne 5, 3) := by decide +kernel
theorem d_M_trees_32 : decode b_M_trees 32 = .ok (.lconst 0, 1) := by decide +kernel
theorem d_M_trees_33 : decode b_M_trees 33 = .ok (.lreturn, 1) := by decide +kernel
theorem d_M_trees_34 : decode b_M_trees 34 = .ok (.aload_n 0, 1) := by decide +kernel
theorem d_M_trees_35 : decode b_M_trees 35 = .ok (.invokevirtual 197, 3) := by decide +kernel
theorem d_M_trees_38 : decode b_M_trees 38 = .ok (.aload_n 0, 1) := by decide +kernel
theorem d_M_trees_39 : decode b_M_trees 39 = .ok (.getfield 45, 3) := by decide +kernel
theorem d_M_trees_42 : decode b_M_trees 42 = .ok (.aload_n 0, 1) := by decide +kernel
theorem d_M_trees_43 : decode b_M_trees 43 = .ok (.invokevirtual 200, 3) := by decide +kernel
theorem d_M_trees_46 : decode b_M_trees 46 = .ok (.laload, 1) := by decide +kernel
theorem d_M_trees_47 : decode b_M_trees 47 = .ok (.lreturn, 1) := by decide +kernel
theorem d_M_ways_0 : decode b_M_ways 0 = .ok (.aload_n 0, 1) := by decide +kernel
theorem d_M_ways_1 : decode b_M_ways 1 = .ok (.aload_n 0, 1) := by decide +kernel
theorem d_M_ways_2 : decode b_M_ways 2 = .ok (.getfield 13, 3) := by decide +kernel
theorem d_M_ways_5 : decode b_M_ways 5 = .ok (.iconst 0, 1) := by decide +kernel
theorem d_M_ways_6 : decode b_M_ways 6 = .ok (.iaload, 1) := by decide +kernel
theorem d_M_ways_7 : decode b_M_ways 7 = .ok (.ifCond .ne 7, 3) := by decide +kernel
theorem d_M_ways_10 : decode b_M_ways 10 = .ok (.iconst 1, 1) := by decide +kernel
theorem d_M_ways_11 : decode b_M_ways 11 = .ok (.goto 36, 3) := by decide +kernel
theorem d_M_ways_14 : decode b_M_ways 14 = .ok (.iload_n 1, 1) := by decide +kernel
theorem d_M_ways_15 : decode b_M_ways 15 = .ok (.invokestatic 101, 3) := by decide +kernel
theorem d_M_ways_18 : decode b_M_ways 18 = .ok (.ifCond .ne 7, 3) := by decide +kernel
theorem d_M_ways_21 : decode b_M_ways 21 = .ok (.iconst 2, 1) := by decide +kernel
theorem d_M_ways_22 : decode b_M_ways 22 = .ok (.goto 25, 3) := by decide +kernel
theorem d_M_ways_25 : decode b_M_ways 25 = .ok (.iload_n 2, 1) := by decide +kernel
theorem d_M_ways_26 : decode b_M_ways 26 = .ok (.ifCond .lt 16, 3) := by decide +kernel
theorem d_M_ways_29 : decode b_M_ways 29 = .ok (.iload_n 2, 1) := by decide +kernel
theorem d_M_ways_30 : decode b_M_ways 30 = .ok (.iload_n 3, 1) := by decide +kernel
theorem d_M_ways_31 : decode b_M_ways 31 = .ok (.if_icmp .ge 11, 3) := by decide +kernel
theorem d_M_ways_34 : decode b_M_ways 34 = .ok (.iload_n 3, 1) := by decide +kernel
theorem d_M_ways_35 : decode b_M_ways 35 = .ok (.aload_n 0, 1) := by decide +kernel
theorem d_M_ways_36 : decode b_M_ways 36 = .ok (.getfield 138, 3) := by decide +kernel
theorem d_M_ways_39 : decode b_M_ways 39 = .ok (.if_icmp .le 7, 3) := by decide +kernel
theorem d_M_ways_42 : decode b_M_ways 42 = .ok (.iconst 3, 1) := by decide +kernel
theorem d_M_ways_43 : decode b_M_ways 43 = .ok (.goto 4, 3) := by decide +kernel
theorem d_M_ways_46 : decode b_M_ways 46 = .ok (.iconst 0, 1) := by decide +kernel
theorem d_M_ways_47 : decode b_M_ways 47 = .ok (.putfield 81, 3) := by decide +kernel
theorem d_M_ways_50 : decode b_M_ways 50 = .ok (.aload_n 0, 1) := by decide +kernel
theorem d_M_ways_51 : decode b_M_ways 51 = .ok (.getfield 81, 3) := by decide +kernel
theorem d_M_ways_54 : decode b_M_ways 54 = .ok (.ifCond .le 5, 3) := by decide +kernel
theorem d_M_ways_57 : decode b_M_ways 57 = .ok (.lconst 0, 1) := by decide +kernel
theorem d_M_ways_58 : decode b_M_ways 58 = .ok (.lreturn, 1) := by decide +kernel
theorem d_M_ways_59 : decode b_M_ways 59 = .ok (.aload_n 0, 1) := by decide +kernel
theorem d_M_ways_60 : decode b_M_ways 60 = .ok (.invokevirtual 197, 3) := by decide +kernel
theorem d_M_ways_63 : decode b_M_ways 63 = .ok (.aload_n 0, 1) := by decide +kernel
theorem d_M_ways_64 : decode b_M_ways 64 = .ok (.getfield 45, 3) := by decide +kernel
theorem d_M_ways_67 : decode b_M_ways 67 = .ok (.bipush 36, 2) := by decide +kernel
theorem d_M_ways_69 : decode b_M_ways 69 = .ok (.iload_n 1, 1) := by decide +kernel
theorem d_M_ways_70 : decode b_M_ways 70 = .ok (.bipush 65, 2) := by decide +kernel
theorem d_M_ways_72 : decode b_M_ways 72 = .ok (.isub, 1) := by decide +kernel
theorem d_M_ways_73 : decode b_M_ways 73 = .ok (.imul, 1) := by decide +kernel
theorem d_M_ways_74 : decode b_M_ways 74 = .ok (.bipush 6, 2) := by decide +kernel
theorem d_M_ways_76 : decode b_M_ways 76 = .ok (.iload_n 2, 1) := by decide +kernel
theorem d_M_ways_77 : decode b_M_ways 77 = .ok (.imul, 1) := by decide +kernel
theorem d_M_ways_78 : decode b_M_ways 78 = .ok (.iadd, 1) := by decide +kernel
theorem d_M_ways_79 : decode b_M_ways 79 = .ok (.iload_n 3, 1) := by decide +kernel
theorem d_M_ways_80 : decode b_M_ways 80 = .ok (.iadd, 1) := by decide +kernel
theorem d_M_ways_81 : decode b_M_ways 81 = .ok (.iconst 1, 1) := by decide +kernel
theorem d_M_ways_82 : decode b_M_ways 82 = .ok (.isub, 1) := by decide +kernel
theorem d_M_ways_83 : decode b_M_ways 83 = .ok (.laload, 1) := by decide +kernel
theorem d_M_ways_84 : decode b_M_ways 84 = .ok (.lreturn, 1) := by decide +kernel
theorem d_M_tree_0 : decode b_M_tree 0 = .ok (.aload_n 0, 1) := by decide +kernel
theorem d_M_tree_1 : decode b_M_tree 1 = .ok (.aload_n 0, 1) := by decide +kernel
theorem d_M_tree_2 : decode b_M_tree 2 = .ok (.getfield 13, 3) := by decide +kernel
theorem d_M_tree_5 : decode b_M_tree 5 = .ok (.iconst 0, 1) := by decide +kernel
theorem d_M_tree_6 : decode b_M_tree 6 = .ok (.iaload, 1) := by decide +kernel
theorem d_M_tree_7 : decode b_M_tree 7 = .ok (.ifCond .ne 7, 3) := by decide +kernel
theorem d_M_tree_10 : decode b_M_tree 10 = .ok (.iconst 1, 1) := by decide +kernel
theorem d_M_tree_11 : decode b_M_tree 11 = .ok (.goto 22, 3) := by decide +kernel
theorem d_M_tree_14 : decode b_M_tree 14 = .ok (.iload_n 1, 1) := by decide +kernel
theorem d_M_tree_15 : decode b_M_tree 15 = .ok (.ifCond .lt 13, 3) := by decide +kernel
theorem d_M_tree_18 : decode b_M_tree 18 = .ok (.iload_n 1, 1) := by decide +kernel
theorem d_M_tree_19 : decode b_M_tree 19 = .ok (.bipush 7, 2) := by decide +kernel
theorem d_M_tree_21 : decode b_M_tree 21 = .ok (.if_icmp .gt 7, 3) := by decide +kernel
theorem d_M_tree_24 : decode b_M_tree 24 = .ok (.iload_n 2, 1) := by decide +kernel
theorem d_M_tree_25 : decode b_M_tree 25 = .ok (.ifCond .ne 7, 3) := by decide +kernel
theorem d_M_tree_28 : decode b_M_tree 28 = .ok (.iconst 2, 1) := by decide +kernel
theorem d_M_tree_29 : decode b_M_tree 29 = .ok (.goto 4, 3) := by decide +kernel
theorem d_M_tree_32 : decode b_M_tree 32 = .ok (.iconst 0, 1) := by decide +kernel
theorem d_M_tree_33 : decode b_M_tree 33 = .ok (.putfield 81, 3) := by decide +kernel
theorem d_M_tree_36 : decode b_M_tree 36 = .ok (.aload_n 0, 1) := by decide +kernel
theorem d_M_tree_37 : decode b_M_tree 37 = .ok (.getfield 81, 3) := by decide +kernel
theorem d_M_tree_40 : decode b_M_tree 40 = .ok (.ifCond .le 5, 3) := by decide +kernel
theorem d_M_tree_43 : decode b_M_tree 43 = .ok (.iconst (-1), 1) := by decide +kernel
theorem d_M_tree_44 : decode b_M_tree 44 = .ok (.ireturn, 1) := by decide +kernel
theorem d_M_tree_45 : decode b_M_tree 45 = .ok (.aload_n 0, 1) := by decide +kernel
theorem d_M_tree_46 : decode b_M_tree 46 = .ok (.invokevirtual 197, 3) := by decide +kernel
theorem d_M_tree_49 : decode b_M_tree 49 = .ok (.aload_n 0, 1) := by decide +kernel
theorem d_M_tree_50 : decode b_M_tree 50 = .ok (.getfield 138, 3) := by decide +kernel
theorem d_M_tree_53 : decode b_M_tree 53 = .ok (.ifCond .eq 16, 3) := by decide +kernel
theorem d_M_tree_56 : decode b_M_tree 56 = .ok (.iload_n 1, 1) := by decide +kernel
theorem d_M_tree_57 : decode b_M_tree 57 = .ok (.aload_n 0, 1) := by decide +kernel
theorem d_M_tree_58 : decode b_M_tree 58 = .ok (.getfield 49, 3) := by decide +kernel
