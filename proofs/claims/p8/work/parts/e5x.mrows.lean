theorem wi_1947 : Cond.code yX14_wayBegins cX14_wayBegins 5 none ∈ zw := zw_in (List.mem_of_getElem? (i := 1947) (by decide +kernel)) (by decide +kernel)
theorem wi_1944 : Cond.methodLink RX14 457 yX14_wayBegins ∈ zw := zw_in (List.mem_of_getElem? (i := 1944) (by decide +kernel)) (by decide +kernel)
theorem wi_1946 : Cond.instanceMethod yX14_wayBegins ∈ zw := zw_in (List.mem_of_getElem? (i := 1946) (by decide +kernel)) (by decide +kernel)
theorem wi_115 : Cond.selects RX14 yX14_wayBegins yX14_wayBegins ∈ zw := zw_in (List.mem_of_getElem? (i := 115) (by decide +kernel)) (by decide +kernel)
theorem wi_1936 : Cond.code yX14_doubles cX14_doubles 3 none ∈ zw := zw_in (List.mem_of_getElem? (i := 1936) (by decide +kernel)) (by decide +kernel)
theorem wi_1933 : Cond.methodLink RX14 441 yX14_doubles ∈ zw := zw_in (List.mem_of_getElem? (i := 1933) (by decide +kernel)) (by decide +kernel)
theorem wi_1935 : Cond.instanceMethod yX14_doubles ∈ zw := zw_in (List.mem_of_getElem? (i := 1935) (by decide +kernel)) (by decide +kernel)
theorem wi_113 : Cond.selects RX14 yX14_doubles yX14_doubles ∈ zw := zw_in (List.mem_of_getElem? (i := 113) (by decide +kernel)) (by decide +kernel)
theorem dX14_matches_0 : decode cX14_matches 0 = .ok (.aload_n 0, 1) := by decide +kernel
theorem dX14_matches_1 : decode cX14_matches 1 = .ok (.getfield 23, 3) := by decide +kernel
theorem dX14_matches_4 : decode cX14_matches 4 = .ok (.getfield 199, 3) := by decide +kernel
theorem dX14_matches_7 : decode cX14_matches 7 = .ok (.iload_n 1, 1) := by decide +kernel
theorem dX14_matches_8 : decode cX14_matches 8 = .ok (.iaload, 1) := by decide +kernel
theorem dX14_matches_9 : decode cX14_matches 9 = .ok (.istore_n 2, 1) := by decide +kernel
theorem dX14_matches_10 : decode cX14_matches 10 = .ok (.aload_n 0, 1) := by decide +kernel
theorem dX14_matches_11 : decode cX14_matches 11 = .ok (.getfield 69, 3) := by decide +kernel
theorem dX14_matches_14 : decode cX14_matches 14 = .ok (.bipush 24, 2) := by decide +kernel
theorem dX14_matches_16 : decode cX14_matches 16 = .ok (.aload_n 0, 1) := by decide +kernel
theorem dX14_matches_17 : decode cX14_matches 17 = .ok (.invokevirtual 417, 3) := by decide +kernel
theorem dX14_matches_20 : decode cX14_matches 20 = .ok (.imul, 1) := by decide +kernel
theorem dX14_matches_21 : decode cX14_matches 21 = .ok (.iload_n 2, 1) := by decide +kernel
theorem dX14_matches_22 : decode cX14_matches 22 = .ok (.iadd, 1) := by decide +kernel
theorem dX14_matches_23 : decode cX14_matches 23 = .ok (.laload, 1) := by decide +kernel
theorem dX14_matches_24 : decode cX14_matches 24 = .ok (.lstore_n 3, 1) := by decide +kernel
theorem dX14_matches_25 : decode cX14_matches 25 = .ok (.lload_n 3, 1) := by decide +kernel
theorem dX14_matches_26 : decode cX14_matches 26 = .ok (.invokestatic 395, 3) := by decide +kernel
theorem dX14_matches_29 : decode cX14_matches 29 = .ok (.ifCond .eq 13, 3) := by decide +kernel
theorem dX14_matches_32 : decode cX14_matches 32 = .ok (.aload_n 0, 1) := by decide +kernel
theorem dX14_matches_33 : decode cX14_matches 33 = .ok (.getfield 38, 3) := by decide +kernel
theorem dX14_matches_36 : decode cX14_matches 36 = .ok (.lload_n 3, 1) := by decide +kernel
theorem dX14_matches_37 : decode cX14_matches 37 = .ok (.l2i, 1) := by decide +kernel
theorem dX14_matches_38 : decode cX14_matches 38 = .ok (.iaload, 1) := by decide +kernel
theorem dX14_matches_39 : decode cX14_matches 39 = .ok (.goto 16, 3) := by decide +kernel
theorem dX14_matches_42 : decode cX14_matches 42 = .ok (.lload_n 3, 1) := by decide +kernel
theorem dX14_matches_43 : decode cX14_matches 43 = .ok (.invokestatic 454, 3) := by decide +kernel
theorem dX14_matches_46 : decode cX14_matches 46 = .ok (.ifCond .eq 7, 3) := by decide +kernel
theorem dX14_matches_49 : decode cX14_matches 49 = .ok (.iconst (-1), 1) := by decide +kernel
theorem dX14_matches_50 : decode cX14_matches 50 = .ok (.goto 5, 3) := by decide +kernel
theorem dX14_matches_53 : decode cX14_matches 53 = .ok (.lload_n 3, 1) := by decide +kernel
theorem dX14_matches_54 : decode cX14_matches 54 = .ok (.l2i, 1) := by decide +kernel
theorem dX14_matches_55 : decode cX14_matches 55 = .ok (.istore 5, 2) := by decide +kernel
theorem dX14_matches_57 : decode cX14_matches 57 = .ok (.aload_n 0, 1) := by decide +kernel
theorem dX14_matches_58 : decode cX14_matches 58 = .ok (.getfield 23, 3) := by decide +kernel
theorem dX14_matches_61 : decode cX14_matches 61 = .ok (.getfield 202, 3) := by decide +kernel
theorem dX14_matches_64 : decode cX14_matches 64 = .ok (.iload_n 1, 1) := by decide +kernel
theorem dX14_matches_65 : decode cX14_matches 65 = .ok (.iaload, 1) := by decide +kernel
theorem dX14_matches_66 : decode cX14_matches 66 = .ok (.istore 6, 2) := by decide +kernel
theorem dX14_matches_68 : decode cX14_matches 68 = .ok (.iload 6, 2) := by decide +kernel
theorem dX14_matches_70 : decode cX14_matches 70 = .ok (.iconst (-1), 1) := by decide +kernel
theorem dX14_matches_71 : decode cX14_matches 71 = .ok (.if_icmp .eq 54, 3) := by decide +kernel
theorem dX14_matches_74 : decode cX14_matches 74 = .ok (.aload_n 0, 1) := by decide +kernel
theorem dX14_matches_75 : decode cX14_matches 75 = .ok (.getfield 23, 3) := by decide +kernel
theorem dX14_matches_78 : decode cX14_matches 78 = .ok (.getfield 199, 3) := by decide +kernel
theorem dX14_matches_81 : decode cX14_matches 81 = .ok (.iload 6, 2) := by decide +kernel
theorem dX14_matches_83 : decode cX14_matches 83 = .ok (.iaload, 1) := by decide +kernel
theorem dX14_matches_84 : decode cX14_matches 84 = .ok (.iconst (-1), 1) := by decide +kernel
theorem dX14_matches_85 : decode cX14_matches 85 = .ok (.if_icmp .eq 40, 3) := by decide +kernel
theorem dX14_matches_88 : decode cX14_matches 88 = .ok (.lload_n 3, 1) := by decide +kernel
theorem dX14_matches_89 : decode cX14_matches 89 = .ok (.invokestatic 454, 3) := by decide +kernel
theorem dX14_matches_92 : decode cX14_matches 92 = .ok (.ifCond .ne 18, 3) := by decide +kernel
theorem dX14_matches_95 : decode cX14_matches 95 = .ok (.aload_n 0, 1) := by decide +kernel
theorem dX14_matches_96 : decode cX14_matches 96 = .ok (.getfield 23, 3) := by decide +kernel
theorem dX14_matches_99 : decode cX14_matches 99 = .ok (.getfield 199, 3) := by decide +kernel
theorem dX14_matches_102 : decode cX14_matches 102 = .ok (.iload 6, 2) := by decide +kernel
theorem dX14_matches_104 : decode cX14_matches 104 = .ok (.iaload, 1) := by decide +kernel
theorem dX14_matches_105 : decode cX14_matches 105 = .ok (.iload 5, 2) := by decide +kernel
theorem dX14_matches_107 : decode cX14_matches 107 = .ok (.if_icmp .eq 18, 3) := by decide +kernel
theorem dX14_matches_110 : decode cX14_matches 110 = .ok (.aload_n 0, 1) := by decide +kernel
theorem dX14_matches_111 : decode cX14_matches 111 = .ok (.getfield 23, 3) := by decide +kernel
theorem dX14_matches_114 : decode cX14_matches 114 = .ok (.getfield 211, 3) := by decide +kernel
theorem dX14_matches_117 : decode cX14_matches 117 = .ok (.iload 6, 2) := by decide +kernel
theorem dX14_matches_119 : decode cX14_matches 119 = .ok (.iaload, 1) := by decide +kernel
theorem dX14_matches_120 : decode cX14_matches 120 = .ok (.istore 6, 2) := by decide +kernel
theorem dX14_matches_122 : decode cX14_matches 122 = .ok (.goto (-54), 3) := by decide +kernel
theorem dX14_matches_125 : decode cX14_matches 125 = .ok (.iload 6, 2) := by decide +kernel
theorem dX14_matches_127 : decode cX14_matches 127 = .ok (.iconst (-1), 1) := by decide +kernel
theorem dX14_matches_128 : decode cX14_matches 128 = .ok (.if_icmp .ne 18, 3) := by decide +kernel
theorem dX14_matches_131 : decode cX14_matches 131 = .ok (.aload_n 0, 1) := by decide +kernel
theorem dX14_matches_132 : decode cX14_matches 132 = .ok (.iconst 2, 1) := by decide +kernel
theorem dX14_matches_133 : decode cX14_matches 133 = .ok (.aload_n 0, 1) := by decide +kernel
theorem dX14_matches_134 : decode cX14_matches 134 = .ok (.getfield 23, 3) := by decide +kernel
theorem dX14_matches_137 : decode cX14_matches 137 = .ok (.getfield 197, 3) := by decide +kernel
theorem dX14_matches_140 : decode cX14_matches 140 = .ok (.iload_n 1, 1) := by decide +kernel
theorem dX14_matches_141 : decode cX14_matches 141 = .ok (.iaload, 1) := by decide +kernel
theorem dX14_matches_142 : decode cX14_matches 142 = .ok (.invokevirtual 181, 3) := by decide +kernel
theorem dX14_matches_145 : decode cX14_matches 145 = .ok (.athrow, 1) := by decide +kernel
theorem dX14_matches_146 : decode cX14_matches 146 = .ok (.aload_n 0, 1) := by decide +kernel
theorem dX14_matches_147 : decode cX14_matches 147 = .ok (.iload_n 1, 1) := by decide +kernel
theorem dX14_matches_148 : decode cX14_matches 148 = .ok (.iload 6, 2) := by decide +kernel
theorem dX14_matches_150 : decode cX14_matches 150 = .ok (.invokevirtual 372, 3) := by decide +kernel
theorem dX14_matches_153 : decode cX14_matches 153 = .ok (.istore 7, 2) := by decide +kernel
theorem dX14_matches_155 : decode cX14_matches 155 = .ok (.aload_n 0, 1) := by decide +kernel
theorem dX14_matches_156 : decode cX14_matches 156 = .ok (.getfield 23, 3) := by decide +kernel
theorem dX14_matches_159 : decode cX14_matches 159 = .ok (.getfield 202, 3) := by decide +kernel
theorem dX14_matches_162 : decode cX14_matches 162 = .ok (.iload 6, 2) := by decide +kernel
theorem dX14_matches_164 : decode cX14_matches 164 = .ok (.iaload, 1) := by decide +kernel
theorem dX14_matches_165 : decode cX14_matches 165 = .ok (.istore 8, 2) := by decide +kernel
theorem dX14_matches_167 : decode cX14_matches 167 = .ok (.iload 7, 2) := by decide +kernel
theorem dX14_matches_169 : decode cX14_matches 169 = .ok (.ifCond .ne 21, 3) := by decide +kernel
theorem dX14_matches_172 : decode cX14_matches 172 = .ok (.aload_n 0, 1) := by decide +kernel
theorem dX14_matches_173 : decode cX14_matches 173 = .ok (.getfield 72, 3) := by decide +kernel
theorem dX14_matches_176 : decode cX14_matches 176 = .ok (.aload_n 0, 1) := by decide +kernel
theorem dX14_matches_177 : decode cX14_matches 177 = .ok (.invokevirtual 417, 3) := by decide +kernel
theorem dX14_matches_180 : decode cX14_matches 180 = .ok (.dup2, 1) := by decide +kernel
theorem dX14_matches_181 : decode cX14_matches 181 = .ok (.iaload, 1) := by decide +kernel
theorem dX14_matches_182 : decode cX14_matches 182 = .ok (.iload_n 2, 1) := by decide +kernel
theorem dX14_matches_183 : decode cX14_matches 183 = .ok (.invokestatic 334, 3) := by decide +kernel
theorem dX14_matches_186 : decode cX14_matches 186 = .ok (.iconst (-1), 1) := by decide +kernel
theorem dX14_matches_187 : decode cX14_matches 187 = .ok (.ixor, 1) := by decide +kernel
theorem dX14_matches_188 : decode cX14_matches 188 = .ok (.iand, 1) := by decide +kernel
theorem dX14_matches_189 : decode cX14_matches 189 = .ok (.iastore, 1) := by decide +kernel
theorem dX14_matches_190 : decode cX14_matches 190 = .ok (.aload_n 0, 1) := by decide +kernel
theorem dX14_matches_191 : decode cX14_matches 191 = .ok (.getfield 23, 3) := by decide +kernel
theorem dX14_matches_194 : decode cX14_matches 194 = .ok (.getfield 199, 3) := by decide +kernel
theorem dX14_matches_197 : decode cX14_matches 197 = .ok (.iload 6, 2) := by decide +kernel
theorem dX14_matches_199 : decode cX14_matches 199 = .ok (.iaload, 1) := by decide +kernel
theorem dX14_matches_200 : decode cX14_matches 200 = .ok (.iconst (-1), 1) := by decide +kernel
theorem dX14_matches_201 : decode cX14_matches 201 = .ok (.if_icmp .eq 10, 3) := by decide +kernel
theorem dX14_matches_204 : decode cX14_matches 204 = .ok (.lload_n 3, 1) := by decide +kernel
theorem dX14_matches_205 : decode cX14_matches 205 = .ok (.invokestatic 395, 3) := by decide +kernel
theorem dX14_matches_208 : decode cX14_matches 208 = .ok (.ifCond .ne 20, 3) := by decide +kernel
theorem dX14_matches_211 : decode cX14_matches 211 = .ok (.iload 7, 2) := by decide +kernel
theorem dX14_matches_213 : decode cX14_matches 213 = .ok (.ifCond .ne 8, 3) := by decide +kernel
theorem dX14_matches_216 : decode cX14_matches 216 = .ok (.aload_n 0, 1) := by decide +kernel
theorem dX14_matches_217 : decode cX14_matches 217 = .ok (.lload_n 3, 1) := by decide +kernel
theorem dX14_matches_218 : decode cX14_matches 218 = .ok (.invokevirtual 413, 3) := by decide +kernel
theorem dX14_matches_221 : decode cX14_matches 221 = .ok (.aload_n 0, 1) := by decide +kernel
theorem dX14_matches_222 : decode cX14_matches 222 = .ok (.iload 8, 2) := by decide +kernel
theorem dX14_matches_224 : decode cX14_matches 224 = .ok (.invokevirtual 457, 3) := by decide +kernel
theorem dX14_matches_227 : decode cX14_matches 227 = .ok (.return_, 1) := by decide +kernel
theorem dX14_matches_228 : decode cX14_matches 228 = .ok (.lload_n 3, 1) := by decide +kernel
theorem dX14_matches_229 : decode cX14_matches 229 = .ok (.l2i, 1) := by decide +kernel
theorem dX14_matches_230 : decode cX14_matches 230 = .ok (.istore 9, 2) := by decide +kernel
theorem dX14_matches_232 : decode cX14_matches 232 = .ok (.aload_n 0, 1) := by decide +kernel
theorem dX14_matches_233 : decode cX14_matches 233 = .ok (.getfield 23, 3) := by decide +kernel
theorem dX14_matches_236 : decode cX14_matches 236 = .ok (.getfield 214, 3) := by decide +kernel
theorem dX14_matches_239 : decode cX14_matches 239 = .ok (.iload 6, 2) := by decide +kernel
theorem dX14_matches_241 : decode cX14_matches 241 = .ok (.iaload, 1) := by decide +kernel
theorem dX14_matches_242 : decode cX14_matches 242 = .ok (.istore 10, 2) := by decide +kernel
theorem dX14_matches_244 : decode cX14_matches 244 = .ok (.iload 7, 2) := by decide +kernel
theorem dX14_matches_246 : decode cX14_matches 246 = .ok (.ifCond .ne 25, 3) := by decide +kernel
theorem dX14_matches_249 : decode cX14_matches 249 = .ok (.aload_n 0, 1) := by decide +kernel
theorem dX14_matches_250 : decode cX14_matches 250 = .ok (.getfield 392, 3) := by decide +kernel
theorem dX14_matches_253 : decode cX14_matches 253 = .ok (.ifCond .ne 18, 3) := by decide +kernel
theorem dX14_matches_256 : decode cX14_matches 256 = .ok (.aload_n 0, 1) := by decide +kernel
theorem dX14_matches_257 : decode cX14_matches 257 = .ok (.getfield 42, 3) := by decide +kernel
theorem dX14_matches_260 : decode cX14_matches 260 = .ok (.iload 9, 2) := by decide +kernel
theorem dX14_matches_262 : decode cX14_matches 262 = .ok (.iaload, 1) := by decide +kernel
theorem dX14_matches_263 : decode cX14_matches 263 = .ok (.iconst 1, 1) := by decide +kernel
theorem dX14_matches_264 : decode cX14_matches 264 = .ok (.if_icmp .ne 7, 3) := by decide +kernel
theorem dX14_matches_267 : decode cX14_matches 267 = .ok (.iconst 1, 1) := by decide +kernel
theorem dX14_matches_268 : decode cX14_matches 268 = .ok (.goto 4, 3) := by decide +kernel
theorem dX14_matches_271 : decode cX14_matches 271 = .ok (.iconst 0, 1) := by decide +kernel
theorem dX14_matches_272 : decode cX14_matches 272 = .ok (.istore 11, 2) := by decide +kernel
theorem dX14_matches_274 : decode cX14_matches 274 = .ok (.iconst 0, 1) := by decide +kernel
theorem dX14_matches_275 : decode cX14_matches 275 = .ok (.istore 12, 2) := by decide +kernel
theorem dX14_matches_277 : decode cX14_matches 277 = .ok (.iload 12, 2) := by decide +kernel
theorem dX14_matches_279 : decode cX14_matches 279 = .ok (.iload 10, 2) := by decide +kernel
theorem dX14_matches_281 : decode cX14_matches 281 = .ok (.if_icmp .ge 110, 3) := by decide +kernel
theorem dX14_matches_284 : decode cX14_matches 284 = .ok (.aload_n 0, 1) := by decide +kernel
theorem dX14_matches_285 : decode cX14_matches 285 = .ok (.getfield 51, 3) := by decide +kernel
theorem dX14_matches_288 : decode cX14_matches 288 = .ok (.iconst 3, 1) := by decide +kernel
theorem dX14_matches_289 : decode cX14_matches 289 = .ok (.iload 9, 2) := by decide +kernel
theorem dX14_matches_291 : decode cX14_matches 291 = .ok (.imul, 1) := by decide +kernel
theorem dX14_matches_292 : decode cX14_matches 292 = .ok (.iload 12, 2) := by decide +kernel
theorem dX14_matches_294 : decode cX14_matches 294 = .ok (.iadd, 1) := by decide +kernel
theorem dX14_matches_295 : decode cX14_matches 295 = .ok (.laload, 1) := by decide +kernel
theorem dX14_matches_296 : decode cX14_matches 296 = .ok (.lstore 13, 2) := by decide +kernel
theorem dX14_matches_298 : decode cX14_matches 298 = .ok (.aload_n 0, 1) := by decide +kernel
theorem dX14_matches_299 : decode cX14_matches 299 = .ok (.getfield 23, 3) := by decide +kernel
theorem dX14_matches_302 : decode cX14_matches 302 = .ok (.getfield 337, 3) := by decide +kernel
theorem dX14_matches_305 : decode cX14_matches 305 = .ok (.iload 8, 2) := by decide +kernel
theorem dX14_matches_307 : decode cX14_matches 307 = .ok (.iaload, 1) := by decide +kernel
theorem dX14_matches_308 : decode cX14_matches 308 = .ok (.aload_n 0, 1) := by decide +kernel
theorem dX14_matches_309 : decode cX14_matches 309 = .ok (.getfield 23, 3) := by decide +kernel
theorem dX14_matches_312 : decode cX14_matches 312 = .ok (.getfield 205, 3) := by decide +kernel
theorem dX14_matches_315 : decode cX14_matches 315 = .ok (.iload 6, 2) := by decide +kernel
theorem dX14_matches_317 : decode cX14_matches 317 = .ok (.iaload, 1) := by decide +kernel
theorem dX14_matches_318 : decode cX14_matches 318 = .ok (.iload 12, 2) := by decide +kernel
theorem dX14_matches_320 : decode cX14_matches 320 = .ok (.iadd, 1) := by decide +kernel
theorem dX14_matches_321 : decode cX14_matches 321 = .ok (.ishr, 1) := by decide +kernel
theorem dX14_matches_322 : decode cX14_matches 322 = .ok (.iconst 1, 1) := by decide +kernel
theorem dX14_matches_323 : decode cX14_matches 323 = .ok (.iand, 1) := by decide +kernel
theorem dX14_matches_324 : decode cX14_matches 324 = .ok (.iconst 1, 1) := by decide +kernel
theorem dX14_matches_325 : decode cX14_matches 325 = .ok (.if_icmp .ne 7, 3) := by decide +kernel
theorem dX14_matches_328 : decode cX14_matches 328 = .ok (.iconst 1, 1) := by decide +kernel
theorem dX14_matches_329 : decode cX14_matches 329 = .ok (.goto 4, 3) := by decide +kernel
theorem dX14_matches_332 : decode cX14_matches 332 = .ok (.iconst 0, 1) := by decide +kernel
theorem dX14_matches_333 : decode cX14_matches 333 = .ok (.istore 15, 2) := by decide +kernel
theorem dX14_matches_335 : decode cX14_matches 335 = .ok (.iload 15, 2) := by decide +kernel
theorem dX14_matches_337 : decode cX14_matches 337 = .ok (.ifCond .eq 37, 3) := by decide +kernel
theorem dX14_matches_340 : decode cX14_matches 340 = .ok (.iload 11, 2) := by decide +kernel
theorem dX14_matches_342 : decode cX14_matches 342 = .ok (.ifCond .ne 9, 3) := by decide +kernel
theorem dX14_matches_345 : decode cX14_matches 345 = .ok (.aload_n 0, 1) := by decide +kernel
theorem dX14_matches_346 : decode cX14_matches 346 = .ok (.lload 13, 2) := by decide +kernel
theorem dX14_matches_348 : decode cX14_matches 348 = .ok (.invokevirtual 441, 3) := by decide +kernel
theorem dX14_matches_351 : decode cX14_matches 351 = .ok (.aload_n 0, 1) := by decide +kernel
theorem dX14_matches_352 : decode cX14_matches 352 = .ok (.aload_n 0, 1) := by decide +kernel
theorem dX14_matches_353 : decode cX14_matches 353 = .ok (.getfield 23, 3) := by decide +kernel
theorem dX14_matches_356 : decode cX14_matches 356 = .ok (.getfield 205, 3) := by decide +kernel
theorem dX14_matches_359 : decode cX14_matches 359 = .ok (.iload 6, 2) := by decide +kernel
theorem dX14_matches_361 : decode cX14_matches 361 = .ok (.iaload, 1) := by decide +kernel
theorem dX14_matches_362 : decode cX14_matches 362 = .ok (.iload 12, 2) := by decide +kernel
theorem dX14_matches_364 : decode cX14_matches 364 = .ok (.iadd, 1) := by decide +kernel
theorem dX14_matches_365 : decode cX14_matches 365 = .ok (.lload 13, 2) := by decide +kernel
theorem dX14_matches_367 : decode cX14_matches 367 = .ok (.iconst 1, 1) := by decide +kernel
theorem dX14_matches_368 : decode cX14_matches 368 = .ok (.invokevirtual 427, 3) := by decide +kernel
theorem dX14_matches_371 : decode cX14_matches 371 = .ok (.goto 14, 3) := by decide +kernel
theorem dX14_matches_374 : decode cX14_matches 374 = .ok (.iload 11, 2) := by decide +kernel
theorem dX14_matches_376 : decode cX14_matches 376 = .ok (.ifCond .eq 9, 3) := by decide +kernel
theorem dX14_matches_379 : decode cX14_matches 379 = .ok (.aload_n 0, 1) := by decide +kernel
theorem dX14_matches_380 : decode cX14_matches 380 = .ok (.lload 13, 2) := by decide +kernel
theorem dX14_matches_382 : decode cX14_matches 382 = .ok (.invokevirtual 413, 3) := by decide +kernel
theorem dX14_matches_385 : decode cX14_matches 385 = .ok (.iinc 12 1, 3) := by decide +kernel
theorem dX14_matches_388 : decode cX14_matches 388 = .ok (.goto (-111), 3) := by decide +kernel
theorem dX14_matches_391 : decode cX14_matches 391 = .ok (.iload 11, 2) := by decide +kernel
theorem dX14_matches_393 : decode cX14_matches 393 = .ok (.ifCond .eq 84, 3) := by decide +kernel
theorem dX14_matches_396 : decode cX14_matches 396 = .ok (.aload_n 0, 1) := by decide +kernel
theorem dX14_matches_397 : decode cX14_matches 397 = .ok (.getfield 42, 3) := by decide +kernel
theorem dX14_matches_400 : decode cX14_matches 400 = .ok (.iload 9, 2) := by decide +kernel
theorem dX14_matches_402 : decode cX14_matches 402 = .ok (.iconst 0, 1) := by decide +kernel
theorem dX14_matches_403 : decode cX14_matches 403 = .ok (.iastore, 1) := by decide +kernel
theorem dX14_matches_404 : decode cX14_matches 404 = .ok (.aload_n 0, 1) := by decide +kernel
theorem dX14_matches_405 : decode cX14_matches 405 = .ok (.iload 6, 2) := by decide +kernel
theorem dX14_matches_407 : decode cX14_matches 407 = .ok (.invokevirtual 376, 3) := by decide +kernel
theorem dX14_matches_410 : decode cX14_matches 410 = .ok (.ifCond .eq 58, 3) := by decide +kernel
theorem dX14_matches_413 : decode cX14_matches 413 = .ok (.aload_n 0, 1) := by decide +kernel
theorem dX14_matches_414 : decode cX14_matches 414 = .ok (.getfield 75, 3) := by decide +kernel
theorem dX14_matches_417 : decode cX14_matches 417 = .ok (.aload_n 0, 1) := by decide +kernel
theorem dX14_matches_418 : decode cX14_matches 418 = .ok (.getfield 478, 3) := by decide +kernel
theorem dX14_matches_421 : decode cX14_matches 421 = .ok (.iload 9, 2) := by decide +kernel
theorem dX14_matches_423 : decode cX14_matches 423 = .ok (.iastore, 1) := by decide +kernel
theorem dX14_matches_424 : decode cX14_matches 424 = .ok (.aload_n 0, 1) := by decide +kernel
theorem dX14_matches_425 : decode cX14_matches 425 = .ok (.getfield 78, 3) := by decide +kernel
theorem dX14_matches_428 : decode cX14_matches 428 = .ok (.aload_n 0, 1) := by decide +kernel
theorem dX14_matches_429 : decode cX14_matches 429 = .ok (.getfield 478, 3) := by decide +kernel
theorem dX14_matches_432 : decode cX14_matches 432 = .ok (.iload 6, 2) := by decide +kernel
theorem dX14_matches_434 : decode cX14_matches 434 = .ok (.iastore, 1) := by decide +kernel
theorem dX14_matches_435 : decode cX14_matches 435 = .ok (.aload_n 0, 1) := by decide +kernel
theorem dX14_matches_436 : decode cX14_matches 436 = .ok (.getfield 81, 3) := by decide +kernel
theorem dX14_matches_439 : decode cX14_matches 439 = .ok (.aload_n 0, 1) := by decide +kernel
theorem dX14_matches_440 : decode cX14_matches 440 = .ok (.getfield 478, 3) := by decide +kernel
theorem dX14_matches_443 : decode cX14_matches 443 = .ok (.aload_n 0, 1) := by decide +kernel
theorem dX14_matches_444 : decode cX14_matches 444 = .ok (.invokevirtual 417, 3) := by decide +kernel
theorem dX14_matches_447 : decode cX14_matches 447 = .ok (.iastore, 1) := by decide +kernel
theorem dX14_matches_448 : decode cX14_matches 448 = .ok (.aload_n 0, 1) := by decide +kernel
theorem dX14_matches_449 : decode cX14_matches 449 = .ok (.dup, 1) := by decide +kernel
theorem dX14_matches_450 : decode cX14_matches 450 = .ok (.getfield 478, 3) := by decide +kernel
theorem dX14_matches_453 : decode cX14_matches 453 = .ok (.iconst 1, 1) := by decide +kernel
theorem dX14_matches_454 : decode cX14_matches 454 = .ok (.iadd, 1) := by decide +kernel
theorem dX14_matches_455 : decode cX14_matches 455 = .ok (.putfield 478, 3) := by decide +kernel
theorem dX14_matches_458 : decode cX14_matches 458 = .ok (.aload_n 0, 1) := by decide +kernel
theorem dX14_matches_459 : decode cX14_matches 459 = .ok (.iconst 2, 1) := by decide +kernel
theorem dX14_matches_460 : decode cX14_matches 460 = .ok (.iload 9, 2) := by decide +kernel
theorem dX14_matches_462 : decode cX14_matches 462 = .ok (.invokevirtual 420, 3) := by decide +kernel
theorem dX14_matches_465 : decode cX14_matches 465 = .ok (.goto 35, 3) := by decide +kernel
theorem dX14_matches_468 : decode cX14_matches 468 = .ok (.aload_n 0, 1) := by decide +kernel
theorem dX14_matches_469 : decode cX14_matches 469 = .ok (.iload 9, 2) := by decide +kernel
theorem dX14_matches_471 : decode cX14_matches 471 = .ok (.invokevirtual 401, 3) := by decide +kernel
theorem dX14_matches_474 : decode cX14_matches 474 = .ok (.goto 26, 3) := by decide +kernel
theorem dX14_matches_477 : decode cX14_matches 477 = .ok (.iload 7, 2) := by decide +kernel
theorem dX14_matches_479 : decode cX14_matches 479 = .ok (.ifCond .ne 21, 3) := by decide +kernel
theorem dX14_matches_482 : decode cX14_matches 482 = .ok (.aload_n 0, 1) := by decide +kernel
theorem dX14_matches_483 : decode cX14_matches 483 = .ok (.getfield 392, 3) := by decide +kernel
theorem dX14_matches_486 : decode cX14_matches 486 = .ok (.ifCond .ne 14, 3) := by decide +kernel
theorem dX14_matches_489 : decode cX14_matches 489 = .ok (.aload_n 0, 1) := by decide +kernel
theorem dX14_matches_490 : decode cX14_matches 490 = .ok (.getfield 42, 3) := by decide +kernel
theorem dX14_matches_493 : decode cX14_matches 493 = .ok (.iload 9, 2) := by decide +kernel
theorem dX14_matches_495 : decode cX14_matches 495 = .ok (.dup2, 1) := by decide +kernel
theorem dX14_matches_496 : decode cX14_matches 496 = .ok (.iaload, 1) := by decide +kernel
theorem dX14_matches_497 : decode cX14_matches 497 = .ok (.iconst 1, 1) := by decide +kernel
theorem dX14_matches_498 : decode cX14_matches 498 = .ok (.isub, 1) := by decide +kernel
theorem dX14_matches_499 : decode cX14_matches 499 = .ok (.iastore, 1) := by decide +kernel
theorem dX14_matches_500 : decode cX14_matches 500 = .ok (.aload_n 0, 1) := by decide +kernel
theorem dX14_matches_501 : decode cX14_matches 501 = .ok (.iload 8, 2) := by decide +kernel
theorem dX14_matches_503 : decode cX14_matches 503 = .ok (.invokevirtual 457, 3) := by decide +kernel
theorem dX14_matches_506 : decode cX14_matches 506 = .ok (.return_, 1) := by decide +kernel
