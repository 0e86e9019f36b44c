set_option maxRecDepth 1000000 in theorem wi_1854 : Cond.code yX14_needed cX14_needed 9 none ∈ zw := zw_in (List.mem_of_getElem? (i := 1854) (by rfl)) (by decide +kernel)
theorem wi_1851 : Cond.methodLink RX14 331 yX14_needed ∈ zw := zw_in (List.mem_of_getElem? (i := 1851) (by decide +kernel)) (by decide +kernel)
theorem wi_1853 : Cond.instanceMethod yX14_needed ∈ zw := zw_in (List.mem_of_getElem? (i := 1853) (by decide +kernel)) (by decide +kernel)
theorem wi_100 : Cond.selects RX14 yX14_needed yX14_needed ∈ zw := zw_in (List.mem_of_getElem? (i := 100) (by decide +kernel)) (by decide +kernel)
theorem wi_1761 : Cond.code yX14_functionOf cX14_functionOf 4 (some .int) ∈ zw := zw_in (List.mem_of_getElem? (i := 1761) (by decide +kernel)) (by decide +kernel)
theorem wi_1759 : Cond.methodLink RX14 318 yX14_functionOf ∈ zw := zw_in (List.mem_of_getElem? (i := 1759) (by decide +kernel)) (by decide +kernel)
theorem wi_1760 : Cond.static yX14_functionOf ∈ zw := zw_in (List.mem_of_getElem? (i := 1760) (by decide +kernel)) (by decide +kernel)
theorem dX14_reads_0 : decode cX14_reads 0 = .ok (.aload_n 0, 1) := by decide +kernel
theorem dX14_reads_1 : decode cX14_reads 1 = .ok (.getfield 27, 3) := by decide +kernel
theorem dX14_reads_4 : decode cX14_reads 4 = .ok (.iconst 0, 1) := by decide +kernel
theorem dX14_reads_5 : decode cX14_reads 5 = .ok (.putfield 191, 3) := by decide +kernel
theorem dX14_reads_8 : decode cX14_reads 8 = .ok (.aload_n 0, 1) := by decide +kernel
theorem dX14_reads_9 : decode cX14_reads 9 = .ok (.getfield 27, 3) := by decide +kernel
theorem dX14_reads_12 : decode cX14_reads 12 = .ok (.iconst 0, 1) := by decide +kernel
theorem dX14_reads_13 : decode cX14_reads 13 = .ok (.putfield 230, 3) := by decide +kernel
theorem dX14_reads_16 : decode cX14_reads 16 = .ok (.aload_n 0, 1) := by decide +kernel
theorem dX14_reads_17 : decode cX14_reads 17 = .ok (.getfield 27, 3) := by decide +kernel
theorem dX14_reads_20 : decode cX14_reads 20 = .ok (.iconst 0, 1) := by decide +kernel
theorem dX14_reads_21 : decode cX14_reads 21 = .ok (.putfield 239, 3) := by decide +kernel
theorem dX14_reads_24 : decode cX14_reads 24 = .ok (.aload_n 0, 1) := by decide +kernel
theorem dX14_reads_25 : decode cX14_reads 25 = .ok (.invokevirtual 184, 3) := by decide +kernel
theorem dX14_reads_28 : decode cX14_reads 28 = .ok (.iconst 1, 1) := by decide +kernel
theorem dX14_reads_29 : decode cX14_reads 29 = .ok (.istore_n 1, 1) := by decide +kernel
theorem dX14_reads_30 : decode cX14_reads 30 = .ok (.iload_n 1, 1) := by decide +kernel
theorem dX14_reads_31 : decode cX14_reads 31 = .ok (.ifCond .eq 277, 3) := by decide +kernel
theorem dX14_reads_34 : decode cX14_reads 34 = .ok (.aload_n 0, 1) := by decide +kernel
theorem dX14_reads_35 : decode cX14_reads 35 = .ok (.ldc 142, 2) := by decide +kernel
theorem dX14_reads_37 : decode cX14_reads 37 = .ok (.invokevirtual 187, 3) := by decide +kernel
theorem dX14_reads_40 : decode cX14_reads 40 = .ok (.ifCond .ne 13, 3) := by decide +kernel
theorem dX14_reads_43 : decode cX14_reads 43 = .ok (.aload_n 0, 1) := by decide +kernel
theorem dX14_reads_44 : decode cX14_reads 44 = .ok (.iconst 1, 1) := by decide +kernel
theorem dX14_reads_45 : decode cX14_reads 45 = .ok (.aload_n 0, 1) := by decide +kernel
theorem dX14_reads_46 : decode cX14_reads 46 = .ok (.getfield 151, 3) := by decide +kernel
theorem dX14_reads_49 : decode cX14_reads 49 = .ok (.invokevirtual 181, 3) := by decide +kernel
theorem dX14_reads_52 : decode cX14_reads 52 = .ok (.athrow, 1) := by decide +kernel
theorem dX14_reads_53 : decode cX14_reads 53 = .ok (.aload_n 0, 1) := by decide +kernel
theorem dX14_reads_54 : decode cX14_reads 54 = .ok (.getfield 27, 3) := by decide +kernel
theorem dX14_reads_57 : decode cX14_reads 57 = .ok (.getfield 230, 3) := by decide +kernel
theorem dX14_reads_60 : decode cX14_reads 60 = .ok (.bipush 30, 2) := by decide +kernel
theorem dX14_reads_62 : decode cX14_reads 62 = .ok (.if_icmp .ne 13, 3) := by decide +kernel
theorem dX14_reads_65 : decode cX14_reads 65 = .ok (.aload_n 0, 1) := by decide +kernel
theorem dX14_reads_66 : decode cX14_reads 66 = .ok (.iconst 5, 1) := by decide +kernel
theorem dX14_reads_67 : decode cX14_reads 67 = .ok (.aload_n 0, 1) := by decide +kernel
theorem dX14_reads_68 : decode cX14_reads 68 = .ok (.getfield 151, 3) := by decide +kernel
theorem dX14_reads_71 : decode cX14_reads 71 = .ok (.invokevirtual 181, 3) := by decide +kernel
theorem dX14_reads_74 : decode cX14_reads 74 = .ok (.athrow, 1) := by decide +kernel
theorem dX14_reads_75 : decode cX14_reads 75 = .ok (.aload_n 0, 1) := by decide +kernel
theorem dX14_reads_76 : decode cX14_reads 76 = .ok (.getfield 27, 3) := by decide +kernel
theorem dX14_reads_79 : decode cX14_reads 79 = .ok (.getfield 230, 3) := by decide +kernel
theorem dX14_reads_82 : decode cX14_reads 82 = .ok (.istore_n 2, 1) := by decide +kernel
theorem dX14_reads_83 : decode cX14_reads 83 = .ok (.aload_n 0, 1) := by decide +kernel
theorem dX14_reads_84 : decode cX14_reads 84 = .ok (.invokevirtual 184, 3) := by decide +kernel
theorem dX14_reads_87 : decode cX14_reads 87 = .ok (.aload_n 0, 1) := by decide +kernel
theorem dX14_reads_88 : decode cX14_reads 88 = .ok (.getfield 152, 3) := by decide +kernel
theorem dX14_reads_91 : decode cX14_reads 91 = .ok (.iconst 2, 1) := by decide +kernel
theorem dX14_reads_92 : decode cX14_reads 92 = .ok (.if_icmp .eq 13, 3) := by decide +kernel
theorem dX14_reads_95 : decode cX14_reads 95 = .ok (.aload_n 0, 1) := by decide +kernel
theorem dX14_reads_96 : decode cX14_reads 96 = .ok (.iconst 1, 1) := by decide +kernel
theorem dX14_reads_97 : decode cX14_reads 97 = .ok (.aload_n 0, 1) := by decide +kernel
theorem dX14_reads_98 : decode cX14_reads 98 = .ok (.getfield 151, 3) := by decide +kernel
theorem dX14_reads_101 : decode cX14_reads 101 = .ok (.invokevirtual 181, 3) := by decide +kernel
theorem dX14_reads_104 : decode cX14_reads 104 = .ok (.athrow, 1) := by decide +kernel
theorem dX14_reads_105 : decode cX14_reads 105 = .ok (.aload_n 0, 1) := by decide +kernel
theorem dX14_reads_106 : decode cX14_reads 106 = .ok (.getfield 27, 3) := by decide +kernel
theorem dX14_reads_109 : decode cX14_reads 109 = .ok (.aload_n 0, 1) := by decide +kernel
theorem dX14_reads_110 : decode cX14_reads 110 = .ok (.getfield 168, 3) := by decide +kernel
theorem dX14_reads_113 : decode cX14_reads 113 = .ok (.invokestatic 318, 3) := by decide +kernel
theorem dX14_reads_116 : decode cX14_reads 116 = .ok (.iconst (-1), 1) := by decide +kernel
theorem dX14_reads_117 : decode cX14_reads 117 = .ok (.if_icmp .eq 13, 3) := by decide +kernel
theorem dX14_reads_120 : decode cX14_reads 120 = .ok (.aload_n 0, 1) := by decide +kernel
theorem dX14_reads_121 : decode cX14_reads 121 = .ok (.iconst 3, 1) := by decide +kernel
theorem dX14_reads_122 : decode cX14_reads 122 = .ok (.aload_n 0, 1) := by decide +kernel
theorem dX14_reads_123 : decode cX14_reads 123 = .ok (.getfield 151, 3) := by decide +kernel
theorem dX14_reads_126 : decode cX14_reads 126 = .ok (.invokevirtual 181, 3) := by decide +kernel
theorem dX14_reads_129 : decode cX14_reads 129 = .ok (.athrow, 1) := by decide +kernel
theorem dX14_reads_130 : decode cX14_reads 130 = .ok (.aload_n 0, 1) := by decide +kernel
theorem dX14_reads_131 : decode cX14_reads 131 = .ok (.getfield 27, 3) := by decide +kernel
theorem dX14_reads_134 : decode cX14_reads 134 = .ok (.getfield 315, 3) := by decide +kernel
theorem dX14_reads_137 : decode cX14_reads 137 = .ok (.iload_n 2, 1) := by decide +kernel
theorem dX14_reads_138 : decode cX14_reads 138 = .ok (.aload_n 0, 1) := by decide +kernel
theorem dX14_reads_139 : decode cX14_reads 139 = .ok (.getfield 168, 3) := by decide +kernel
theorem dX14_reads_142 : decode cX14_reads 142 = .ok (.lastore, 1) := by decide +kernel
theorem dX14_reads_143 : decode cX14_reads 143 = .ok (.aload_n 0, 1) := by decide +kernel
theorem dX14_reads_144 : decode cX14_reads 144 = .ok (.invokevirtual 184, 3) := by decide +kernel
theorem dX14_reads_147 : decode cX14_reads 147 = .ok (.aload_n 0, 1) := by decide +kernel
theorem dX14_reads_148 : decode cX14_reads 148 = .ok (.getfield 27, 3) := by decide +kernel
theorem dX14_reads_151 : decode cX14_reads 151 = .ok (.getfield 322, 3) := by decide +kernel
theorem dX14_reads_154 : decode cX14_reads 154 = .ok (.iload_n 2, 1) := by decide +kernel
theorem dX14_reads_155 : decode cX14_reads 155 = .ok (.aload_n 0, 1) := by decide +kernel
theorem dX14_reads_156 : decode cX14_reads 156 = .ok (.getfield 27, 3) := by decide +kernel
theorem dX14_reads_159 : decode cX14_reads 159 = .ok (.getfield 191, 3) := by decide +kernel
theorem dX14_reads_162 : decode cX14_reads 162 = .ok (.iastore, 1) := by decide +kernel
theorem dX14_reads_163 : decode cX14_reads 163 = .ok (.aload_n 0, 1) := by decide +kernel
theorem dX14_reads_164 : decode cX14_reads 164 = .ok (.getfield 27, 3) := by decide +kernel
theorem dX14_reads_167 : decode cX14_reads 167 = .ok (.getfield 227, 3) := by decide +kernel
theorem dX14_reads_170 : decode cX14_reads 170 = .ok (.iload_n 2, 1) := by decide +kernel
theorem dX14_reads_171 : decode cX14_reads 171 = .ok (.iconst 0, 1) := by decide +kernel
theorem dX14_reads_172 : decode cX14_reads 172 = .ok (.iastore, 1) := by decide +kernel
theorem dX14_reads_173 : decode cX14_reads 173 = .ok (.aload_n 0, 1) := by decide +kernel
theorem dX14_reads_174 : decode cX14_reads 174 = .ok (.iconst 0, 1) := by decide +kernel
theorem dX14_reads_175 : decode cX14_reads 175 = .ok (.putfield 220, 3) := by decide +kernel
theorem dX14_reads_178 : decode cX14_reads 178 = .ok (.aload_n 0, 1) := by decide +kernel
theorem dX14_reads_179 : decode cX14_reads 179 = .ok (.iconst 0, 1) := by decide +kernel
theorem dX14_reads_180 : decode cX14_reads 180 = .ok (.putfield 252, 3) := by decide +kernel
theorem dX14_reads_183 : decode cX14_reads 183 = .ok (.aload_n 0, 1) := by decide +kernel
theorem dX14_reads_184 : decode cX14_reads 184 = .ok (.getfield 152, 3) := by decide +kernel
theorem dX14_reads_187 : decode cX14_reads 187 = .ok (.iconst 2, 1) := by decide +kernel
theorem dX14_reads_188 : decode cX14_reads 188 = .ok (.if_icmp .ne 52, 3) := by decide +kernel
theorem dX14_reads_191 : decode cX14_reads 191 = .ok (.aload_n 0, 1) := by decide +kernel
theorem dX14_reads_192 : decode cX14_reads 192 = .ok (.aload_n 0, 1) := by decide +kernel
theorem dX14_reads_193 : decode cX14_reads 193 = .ok (.getfield 168, 3) := by decide +kernel
theorem dX14_reads_196 : decode cX14_reads 196 = .ok (.invokevirtual 223, 3) := by decide +kernel
theorem dX14_reads_199 : decode cX14_reads 199 = .ok (.iconst (-1), 1) := by decide +kernel
theorem dX14_reads_200 : decode cX14_reads 200 = .ok (.if_icmp .eq 13, 3) := by decide +kernel
theorem dX14_reads_203 : decode cX14_reads 203 = .ok (.aload_n 0, 1) := by decide +kernel
theorem dX14_reads_204 : decode cX14_reads 204 = .ok (.iconst 3, 1) := by decide +kernel
theorem dX14_reads_205 : decode cX14_reads 205 = .ok (.aload_n 0, 1) := by decide +kernel
theorem dX14_reads_206 : decode cX14_reads 206 = .ok (.getfield 151, 3) := by decide +kernel
theorem dX14_reads_209 : decode cX14_reads 209 = .ok (.invokevirtual 181, 3) := by decide +kernel
theorem dX14_reads_212 : decode cX14_reads 212 = .ok (.athrow, 1) := by decide +kernel
theorem dX14_reads_213 : decode cX14_reads 213 = .ok (.aload_n 0, 1) := by decide +kernel
theorem dX14_reads_214 : decode cX14_reads 214 = .ok (.getfield 220, 3) := by decide +kernel
theorem dX14_reads_217 : decode cX14_reads 217 = .ok (.bipush 6, 2) := by decide +kernel
theorem dX14_reads_219 : decode cX14_reads 219 = .ok (.if_icmp .ne 13, 3) := by decide +kernel
theorem dX14_reads_222 : decode cX14_reads 222 = .ok (.aload_n 0, 1) := by decide +kernel
theorem dX14_reads_223 : decode cX14_reads 223 = .ok (.iconst 5, 1) := by decide +kernel
theorem dX14_reads_224 : decode cX14_reads 224 = .ok (.aload_n 0, 1) := by decide +kernel
theorem dX14_reads_225 : decode cX14_reads 225 = .ok (.getfield 151, 3) := by decide +kernel
theorem dX14_reads_228 : decode cX14_reads 228 = .ok (.invokevirtual 181, 3) := by decide +kernel
theorem dX14_reads_231 : decode cX14_reads 231 = .ok (.athrow, 1) := by decide +kernel
theorem dX14_reads_232 : decode cX14_reads 232 = .ok (.aload_n 0, 1) := by decide +kernel
theorem dX14_reads_233 : decode cX14_reads 233 = .ok (.invokevirtual 265, 3) := by decide +kernel
theorem dX14_reads_236 : decode cX14_reads 236 = .ok (.istore_n 3, 1) := by decide +kernel
theorem dX14_reads_237 : decode cX14_reads 237 = .ok (.goto (-54), 3) := by decide +kernel
theorem dX14_reads_240 : decode cX14_reads 240 = .ok (.aload_n 0, 1) := by decide +kernel
theorem dX14_reads_241 : decode cX14_reads 241 = .ok (.getfield 27, 3) := by decide +kernel
theorem dX14_reads_244 : decode cX14_reads 244 = .ok (.getfield 325, 3) := by decide +kernel
theorem dX14_reads_247 : decode cX14_reads 247 = .ok (.iload_n 2, 1) := by decide +kernel
theorem dX14_reads_248 : decode cX14_reads 248 = .ok (.aload_n 0, 1) := by decide +kernel
theorem dX14_reads_249 : decode cX14_reads 249 = .ok (.getfield 220, 3) := by decide +kernel
theorem dX14_reads_252 : decode cX14_reads 252 = .ok (.iastore, 1) := by decide +kernel
theorem dX14_reads_253 : decode cX14_reads 253 = .ok (.aload_n 0, 1) := by decide +kernel
theorem dX14_reads_254 : decode cX14_reads 254 = .ok (.bipush 61, 2) := by decide +kernel
theorem dX14_reads_256 : decode cX14_reads 256 = .ok (.invokevirtual 268, 3) := by decide +kernel
theorem dX14_reads_259 : decode cX14_reads 259 = .ok (.aload_n 0, 1) := by decide +kernel
theorem dX14_reads_260 : decode cX14_reads 260 = .ok (.getfield 27, 3) := by decide +kernel
theorem dX14_reads_263 : decode cX14_reads 263 = .ok (.getfield 328, 3) := by decide +kernel
theorem dX14_reads_266 : decode cX14_reads 266 = .ok (.iload_n 2, 1) := by decide +kernel
theorem dX14_reads_267 : decode cX14_reads 267 = .ok (.aload_n 0, 1) := by decide +kernel
theorem dX14_reads_268 : decode cX14_reads 268 = .ok (.invokevirtual 272, 3) := by decide +kernel
theorem dX14_reads_271 : decode cX14_reads 271 = .ok (.iastore, 1) := by decide +kernel
theorem dX14_reads_272 : decode cX14_reads 272 = .ok (.aload_n 0, 1) := by decide +kernel
theorem dX14_reads_273 : decode cX14_reads 273 = .ok (.bipush 59, 2) := by decide +kernel
theorem dX14_reads_275 : decode cX14_reads 275 = .ok (.invokevirtual 268, 3) := by decide +kernel
theorem dX14_reads_278 : decode cX14_reads 278 = .ok (.aload_n 0, 1) := by decide +kernel
theorem dX14_reads_279 : decode cX14_reads 279 = .ok (.getfield 27, 3) := by decide +kernel
theorem dX14_reads_282 : decode cX14_reads 282 = .ok (.dup, 1) := by decide +kernel
theorem dX14_reads_283 : decode cX14_reads 283 = .ok (.getfield 230, 3) := by decide +kernel
theorem dX14_reads_286 : decode cX14_reads 286 = .ok (.iconst 1, 1) := by decide +kernel
theorem dX14_reads_287 : decode cX14_reads 287 = .ok (.iadd, 1) := by decide +kernel
theorem dX14_reads_288 : decode cX14_reads 288 = .ok (.putfield 230, 3) := by decide +kernel
theorem dX14_reads_291 : decode cX14_reads 291 = .ok (.aload_n 0, 1) := by decide +kernel
theorem dX14_reads_292 : decode cX14_reads 292 = .ok (.getfield 152, 3) := by decide +kernel
theorem dX14_reads_295 : decode cX14_reads 295 = .ok (.iconst 1, 1) := by decide +kernel
theorem dX14_reads_296 : decode cX14_reads 296 = .ok (.if_icmp .eq 7, 3) := by decide +kernel
theorem dX14_reads_299 : decode cX14_reads 299 = .ok (.iconst 1, 1) := by decide +kernel
theorem dX14_reads_300 : decode cX14_reads 300 = .ok (.goto 4, 3) := by decide +kernel
theorem dX14_reads_303 : decode cX14_reads 303 = .ok (.iconst 0, 1) := by decide +kernel
theorem dX14_reads_304 : decode cX14_reads 304 = .ok (.istore_n 1, 1) := by decide +kernel
theorem dX14_reads_305 : decode cX14_reads 305 = .ok (.goto (-275), 3) := by decide +kernel
theorem dX14_reads_308 : decode cX14_reads 308 = .ok (.iconst (-1), 1) := by decide +kernel
theorem dX14_reads_309 : decode cX14_reads 309 = .ok (.istore_n 2, 1) := by decide +kernel
theorem dX14_reads_310 : decode cX14_reads 310 = .ok (.iconst 0, 1) := by decide +kernel
theorem dX14_reads_311 : decode cX14_reads 311 = .ok (.istore_n 3, 1) := by decide +kernel
theorem dX14_reads_312 : decode cX14_reads 312 = .ok (.iload_n 3, 1) := by decide +kernel
theorem dX14_reads_313 : decode cX14_reads 313 = .ok (.aload_n 0, 1) := by decide +kernel
theorem dX14_reads_314 : decode cX14_reads 314 = .ok (.getfield 27, 3) := by decide +kernel
theorem dX14_reads_317 : decode cX14_reads 317 = .ok (.getfield 191, 3) := by decide +kernel
theorem dX14_reads_320 : decode cX14_reads 320 = .ok (.if_icmp .ge 122, 3) := by decide +kernel
theorem dX14_reads_323 : decode cX14_reads 323 = .ok (.aload_n 0, 1) := by decide +kernel
theorem dX14_reads_324 : decode cX14_reads 324 = .ok (.getfield 27, 3) := by decide +kernel
theorem dX14_reads_327 : decode cX14_reads 327 = .ok (.getfield 194, 3) := by decide +kernel
theorem dX14_reads_330 : decode cX14_reads 330 = .ok (.iload_n 3, 1) := by decide +kernel
theorem dX14_reads_331 : decode cX14_reads 331 = .ok (.baload, 1) := by decide +kernel
theorem dX14_reads_332 : decode cX14_reads 332 = .ok (.iconst 3, 1) := by decide +kernel
theorem dX14_reads_333 : decode cX14_reads 333 = .ok (.if_icmp .eq 6, 3) := by decide +kernel
theorem dX14_reads_336 : decode cX14_reads 336 = .ok (.goto 100, 3) := by decide +kernel
theorem dX14_reads_339 : decode cX14_reads 339 = .ok (.aload_n 0, 1) := by decide +kernel
theorem dX14_reads_340 : decode cX14_reads 340 = .ok (.getfield 27, 3) := by decide +kernel
theorem dX14_reads_343 : decode cX14_reads 343 = .ok (.aload_n 0, 1) := by decide +kernel
theorem dX14_reads_344 : decode cX14_reads 344 = .ok (.getfield 27, 3) := by decide +kernel
theorem dX14_reads_347 : decode cX14_reads 347 = .ok (.getfield 217, 3) := by decide +kernel
theorem dX14_reads_350 : decode cX14_reads 350 = .ok (.iload_n 3, 1) := by decide +kernel
theorem dX14_reads_351 : decode cX14_reads 351 = .ok (.laload, 1) := by decide +kernel
theorem dX14_reads_352 : decode cX14_reads 352 = .ok (.invokestatic 318, 3) := by decide +kernel
theorem dX14_reads_355 : decode cX14_reads 355 = .ok (.istore 4, 2) := by decide +kernel
theorem dX14_reads_357 : decode cX14_reads 357 = .ok (.iload 4, 2) := by decide +kernel
theorem dX14_reads_359 : decode cX14_reads 359 = .ok (.iconst (-1), 1) := by decide +kernel
theorem dX14_reads_360 : decode cX14_reads 360 = .ok (.if_icmp .eq 25, 3) := by decide +kernel
theorem dX14_reads_363 : decode cX14_reads 363 = .ok (.aload_n 0, 1) := by decide +kernel
theorem dX14_reads_364 : decode cX14_reads 364 = .ok (.getfield 27, 3) := by decide +kernel
theorem dX14_reads_367 : decode cX14_reads 367 = .ok (.getfield 325, 3) := by decide +kernel
theorem dX14_reads_370 : decode cX14_reads 370 = .ok (.iload 4, 2) := by decide +kernel
theorem dX14_reads_372 : decode cX14_reads 372 = .ok (.iaload, 1) := by decide +kernel
theorem dX14_reads_373 : decode cX14_reads 373 = .ok (.aload_n 0, 1) := by decide +kernel
theorem dX14_reads_374 : decode cX14_reads 374 = .ok (.getfield 27, 3) := by decide +kernel
theorem dX14_reads_377 : decode cX14_reads 377 = .ok (.getfield 214, 3) := by decide +kernel
theorem dX14_reads_380 : decode cX14_reads 380 = .ok (.iload_n 3, 1) := by decide +kernel
theorem dX14_reads_381 : decode cX14_reads 381 = .ok (.iaload, 1) := by decide +kernel
theorem dX14_reads_382 : decode cX14_reads 382 = .ok (.if_icmp .eq 7, 3) := by decide +kernel
theorem dX14_reads_385 : decode cX14_reads 385 = .ok (.iconst 1, 1) := by decide +kernel
theorem dX14_reads_386 : decode cX14_reads 386 = .ok (.goto 4, 3) := by decide +kernel
theorem dX14_reads_389 : decode cX14_reads 389 = .ok (.iconst 0, 1) := by decide +kernel
theorem dX14_reads_390 : decode cX14_reads 390 = .ok (.istore 5, 2) := by decide +kernel
theorem dX14_reads_392 : decode cX14_reads 392 = .ok (.iload 5, 2) := by decide +kernel
theorem dX14_reads_394 : decode cX14_reads 394 = .ok (.ifCond .eq 31, 3) := by decide +kernel
theorem dX14_reads_397 : decode cX14_reads 397 = .ok (.iload_n 2, 1) := by decide +kernel
theorem dX14_reads_398 : decode cX14_reads 398 = .ok (.iconst (-1), 1) := by decide +kernel
theorem dX14_reads_399 : decode cX14_reads 399 = .ok (.if_icmp .eq 24, 3) := by decide +kernel
theorem dX14_reads_402 : decode cX14_reads 402 = .ok (.aload_n 0, 1) := by decide +kernel
theorem dX14_reads_403 : decode cX14_reads 403 = .ok (.getfield 27, 3) := by decide +kernel
theorem dX14_reads_406 : decode cX14_reads 406 = .ok (.getfield 197, 3) := by decide +kernel
theorem dX14_reads_409 : decode cX14_reads 409 = .ok (.iload_n 3, 1) := by decide +kernel
theorem dX14_reads_410 : decode cX14_reads 410 = .ok (.iaload, 1) := by decide +kernel
theorem dX14_reads_411 : decode cX14_reads 411 = .ok (.aload_n 0, 1) := by decide +kernel
theorem dX14_reads_412 : decode cX14_reads 412 = .ok (.getfield 27, 3) := by decide +kernel
theorem dX14_reads_415 : decode cX14_reads 415 = .ok (.getfield 197, 3) := by decide +kernel
theorem dX14_reads_418 : decode cX14_reads 418 = .ok (.iload_n 2, 1) := by decide +kernel
theorem dX14_reads_419 : decode cX14_reads 419 = .ok (.iaload, 1) := by decide +kernel
theorem dX14_reads_420 : decode cX14_reads 420 = .ok (.if_icmp .ge 5, 3) := by decide +kernel
theorem dX14_reads_423 : decode cX14_reads 423 = .ok (.iload_n 3, 1) := by decide +kernel
theorem dX14_reads_424 : decode cX14_reads 424 = .ok (.istore_n 2, 1) := by decide +kernel
theorem dX14_reads_425 : decode cX14_reads 425 = .ok (.aload_n 0, 1) := by decide +kernel
theorem dX14_reads_426 : decode cX14_reads 426 = .ok (.getfield 27, 3) := by decide +kernel
theorem dX14_reads_429 : decode cX14_reads 429 = .ok (.getfield 199, 3) := by decide +kernel
theorem dX14_reads_432 : decode cX14_reads 432 = .ok (.iload_n 3, 1) := by decide +kernel
theorem dX14_reads_433 : decode cX14_reads 433 = .ok (.iload 4, 2) := by decide +kernel
theorem dX14_reads_435 : decode cX14_reads 435 = .ok (.iastore, 1) := by decide +kernel
theorem dX14_reads_436 : decode cX14_reads 436 = .ok (.iinc 3 1, 3) := by decide +kernel
theorem dX14_reads_439 : decode cX14_reads 439 = .ok (.goto (-127), 3) := by decide +kernel
theorem dX14_reads_442 : decode cX14_reads 442 = .ok (.iload_n 2, 1) := by decide +kernel
theorem dX14_reads_443 : decode cX14_reads 443 = .ok (.iconst (-1), 1) := by decide +kernel
theorem dX14_reads_444 : decode cX14_reads 444 = .ok (.if_icmp .eq 35, 3) := by decide +kernel
theorem dX14_reads_447 : decode cX14_reads 447 = .ok (.aload_n 0, 1) := by decide +kernel
theorem dX14_reads_448 : decode cX14_reads 448 = .ok (.aload_n 0, 1) := by decide +kernel
theorem dX14_reads_449 : decode cX14_reads 449 = .ok (.getfield 27, 3) := by decide +kernel
theorem dX14_reads_452 : decode cX14_reads 452 = .ok (.getfield 199, 3) := by decide +kernel
theorem dX14_reads_455 : decode cX14_reads 455 = .ok (.iload_n 2, 1) := by decide +kernel
theorem dX14_reads_456 : decode cX14_reads 456 = .ok (.iaload, 1) := by decide +kernel
theorem dX14_reads_457 : decode cX14_reads 457 = .ok (.iconst (-1), 1) := by decide +kernel
theorem dX14_reads_458 : decode cX14_reads 458 = .ok (.if_icmp .ne 7, 3) := by decide +kernel
theorem dX14_reads_461 : decode cX14_reads 461 = .ok (.iconst 2, 1) := by decide +kernel
theorem dX14_reads_462 : decode cX14_reads 462 = .ok (.goto 4, 3) := by decide +kernel
theorem dX14_reads_465 : decode cX14_reads 465 = .ok (.iconst 4, 1) := by decide +kernel
theorem dX14_reads_466 : decode cX14_reads 466 = .ok (.aload_n 0, 1) := by decide +kernel
theorem dX14_reads_467 : decode cX14_reads 467 = .ok (.getfield 27, 3) := by decide +kernel
theorem dX14_reads_470 : decode cX14_reads 470 = .ok (.getfield 197, 3) := by decide +kernel
theorem dX14_reads_473 : decode cX14_reads 473 = .ok (.iload_n 2, 1) := by decide +kernel
theorem dX14_reads_474 : decode cX14_reads 474 = .ok (.iaload, 1) := by decide +kernel
theorem dX14_reads_475 : decode cX14_reads 475 = .ok (.invokevirtual 181, 3) := by decide +kernel
theorem dX14_reads_478 : decode cX14_reads 478 = .ok (.athrow, 1) := by decide +kernel
theorem dX14_reads_479 : decode cX14_reads 479 = .ok (.iconst 0, 1) := by decide +kernel
theorem dX14_reads_480 : decode cX14_reads 480 = .ok (.istore_n 3, 1) := by decide +kernel
theorem dX14_reads_481 : decode cX14_reads 481 = .ok (.iload_n 3, 1) := by decide +kernel
theorem dX14_reads_482 : decode cX14_reads 482 = .ok (.aload_n 0, 1) := by decide +kernel
theorem dX14_reads_483 : decode cX14_reads 483 = .ok (.getfield 27, 3) := by decide +kernel
theorem dX14_reads_486 : decode cX14_reads 486 = .ok (.getfield 230, 3) := by decide +kernel
theorem dX14_reads_489 : decode cX14_reads 489 = .ok (.if_icmp .ge 14, 3) := by decide +kernel
theorem dX14_reads_492 : decode cX14_reads 492 = .ok (.aload_n 0, 1) := by decide +kernel
theorem dX14_reads_493 : decode cX14_reads 493 = .ok (.iload_n 3, 1) := by decide +kernel
theorem dX14_reads_494 : decode cX14_reads 494 = .ok (.invokevirtual 331, 3) := by decide +kernel
theorem dX14_reads_497 : decode cX14_reads 497 = .ok (.iinc 3 1, 3) := by decide +kernel
theorem dX14_reads_500 : decode cX14_reads 500 = .ok (.goto (-19), 3) := by decide +kernel
theorem dX14_reads_503 : decode cX14_reads 503 = .ok (.return_, 1) := by decide +kernel
theorem zKA_t {S : Nat → Nat → Int32} {u b bo : Nat → Int32} {t t2 f f2 : Nat} (h : zKA S u b bo t f) (e1 : t = t2) (e2 : f = f2) : zKA S u b bo t2 f2 := e1 ▸ e2 ▸ h

