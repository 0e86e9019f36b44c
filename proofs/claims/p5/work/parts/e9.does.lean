theorem wi_1904 : Cond.code yX14_enters cX14_enters 6 none ∈ zw := zw_in (List.mem_of_getElem? (i := 1904) (by decide +kernel)) (by decide +kernel)
theorem wi_1901 : Cond.methodLink RX14 460 yX14_enters ∈ zw := zw_in (List.mem_of_getElem? (i := 1901) (by decide +kernel)) (by decide +kernel)
theorem wi_1903 : Cond.instanceMethod yX14_enters ∈ zw := zw_in (List.mem_of_getElem? (i := 1903) (by decide +kernel)) (by decide +kernel)
theorem wi_106 : Cond.selects RX14 yX14_enters yX14_enters ∈ zw := zw_in (List.mem_of_getElem? (i := 106) (by decide +kernel)) (by decide +kernel)
theorem wi_1959 : Cond.code yX14_pop cX14_pop 1 (some .long) ∈ zw := zw_in (List.mem_of_getElem? (i := 1959) (by decide +kernel)) (by decide +kernel)
theorem wi_1956 : Cond.methodLink RX14 450 yX14_pop ∈ zw := zw_in (List.mem_of_getElem? (i := 1956) (by decide +kernel)) (by decide +kernel)
theorem wi_1958 : Cond.instanceMethod yX14_pop ∈ zw := zw_in (List.mem_of_getElem? (i := 1958) (by decide +kernel)) (by decide +kernel)
theorem wi_118 : Cond.selects RX14 yX14_pop yX14_pop ∈ zw := zw_in (List.mem_of_getElem? (i := 118) (by decide +kernel)) (by decide +kernel)
theorem wi_1963 : Cond.code yX14_makes cX14_makes 5 none ∈ zw := zw_in (List.mem_of_getElem? (i := 1963) (by decide +kernel)) (by decide +kernel)
theorem wi_1960 : Cond.methodLink RX14 463 yX14_makes ∈ zw := zw_in (List.mem_of_getElem? (i := 1960) (by decide +kernel)) (by decide +kernel)
theorem wi_1962 : Cond.instanceMethod yX14_makes ∈ zw := zw_in (List.mem_of_getElem? (i := 1962) (by decide +kernel)) (by decide +kernel)
theorem wi_119 : Cond.selects RX14 yX14_makes yX14_makes ∈ zw := zw_in (List.mem_of_getElem? (i := 119) (by decide +kernel)) (by decide +kernel)
theorem dX14_does_0 : decode cX14_does 0 = .ok (.aload_n 0, 1) := by decide +kernel
theorem dX14_does_1 : decode cX14_does 1 = .ok (.getfield 23, 3) := by decide +kernel
theorem dX14_does_4 : decode cX14_does 4 = .ok (.getfield 194, 3) := by decide +kernel
theorem dX14_does_7 : decode cX14_does 7 = .ok (.iload_n 1, 1) := by decide +kernel
theorem dX14_does_8 : decode cX14_does 8 = .ok (.baload, 1) := by decide +kernel
theorem dX14_does_9 : decode cX14_does 9 = .ok (.tableswitch 321 3 7 #[296, 321, 35, 163, 235], 35) := by decide +kernel
theorem dX14_does_44 : decode cX14_does 44 = .ok (.aload_n 0, 1) := by decide +kernel
theorem dX14_does_45 : decode cX14_does 45 = .ok (.invokevirtual 450, 3) := by decide +kernel
theorem dX14_does_48 : decode cX14_does 48 = .ok (.lstore_n 2, 1) := by decide +kernel
theorem dX14_does_49 : decode cX14_does 49 = .ok (.aload_n 0, 1) := by decide +kernel
theorem dX14_does_50 : decode cX14_does 50 = .ok (.invokevirtual 450, 3) := by decide +kernel
theorem dX14_does_53 : decode cX14_does 53 = .ok (.lstore 4, 2) := by decide +kernel
theorem dX14_does_55 : decode cX14_does 55 = .ok (.lload 4, 2) := by decide +kernel
theorem dX14_does_57 : decode cX14_does 57 = .ok (.invokestatic 454, 3) := by decide +kernel
theorem dX14_does_60 : decode cX14_does 60 = .ok (.ifCond .eq 10, 3) := by decide +kernel
theorem dX14_does_63 : decode cX14_does 63 = .ok (.lload_n 2, 1) := by decide +kernel
theorem dX14_does_64 : decode cX14_does 64 = .ok (.invokestatic 454, 3) := by decide +kernel
theorem dX14_does_67 : decode cX14_does 67 = .ok (.ifCond .ne 18, 3) := by decide +kernel
theorem dX14_does_70 : decode cX14_does 70 = .ok (.aload_n 0, 1) := by decide +kernel
theorem dX14_does_71 : decode cX14_does 71 = .ok (.iconst 2, 1) := by decide +kernel
theorem dX14_does_72 : decode cX14_does 72 = .ok (.aload_n 0, 1) := by decide +kernel
theorem dX14_does_73 : decode cX14_does 73 = .ok (.getfield 23, 3) := by decide +kernel
theorem dX14_does_76 : decode cX14_does 76 = .ok (.getfield 197, 3) := by decide +kernel
theorem dX14_does_79 : decode cX14_does 79 = .ok (.iload_n 1, 1) := by decide +kernel
theorem dX14_does_80 : decode cX14_does 80 = .ok (.iaload, 1) := by decide +kernel
theorem dX14_does_81 : decode cX14_does 81 = .ok (.invokevirtual 181, 3) := by decide +kernel
theorem dX14_does_84 : decode cX14_does 84 = .ok (.athrow, 1) := by decide +kernel
theorem dX14_does_85 : decode cX14_does 85 = .ok (.lload 4, 2) := by decide +kernel
theorem dX14_does_87 : decode cX14_does 87 = .ok (.l2i, 1) := by decide +kernel
theorem dX14_does_88 : decode cX14_does 88 = .ok (.istore 6, 2) := by decide +kernel
theorem dX14_does_90 : decode cX14_does 90 = .ok (.lload_n 2, 1) := by decide +kernel
theorem dX14_does_91 : decode cX14_does 91 = .ok (.l2i, 1) := by decide +kernel
theorem dX14_does_92 : decode cX14_does 92 = .ok (.istore 7, 2) := by decide +kernel
theorem dX14_does_94 : decode cX14_does 94 = .ok (.aload_n 0, 1) := by decide +kernel
theorem dX14_does_95 : decode cX14_does 95 = .ok (.getfield 23, 3) := by decide +kernel
theorem dX14_does_98 : decode cX14_does 98 = .ok (.getfield 199, 3) := by decide +kernel
theorem dX14_does_101 : decode cX14_does 101 = .ok (.iload_n 1, 1) := by decide +kernel
theorem dX14_does_102 : decode cX14_does 102 = .ok (.iaload, 1) := by decide +kernel
theorem dX14_does_103 : decode cX14_does 103 = .ok (.istore 8, 2) := by decide +kernel
theorem dX14_does_105 : decode cX14_does 105 = .ok (.aload_n 0, 1) := by decide +kernel
theorem dX14_does_106 : decode cX14_does 106 = .ok (.iload 8, 2) := by decide +kernel
theorem dX14_does_108 : decode cX14_does 108 = .ok (.bipush 43, 2) := by decide +kernel
theorem dX14_does_110 : decode cX14_does 110 = .ok (.if_icmp .ne 11, 3) := by decide +kernel
theorem dX14_does_113 : decode cX14_does 113 = .ok (.iload 6, 2) := by decide +kernel
theorem dX14_does_115 : decode cX14_does 115 = .ok (.iload 7, 2) := by decide +kernel
theorem dX14_does_117 : decode cX14_does 117 = .ok (.iadd, 1) := by decide +kernel
theorem dX14_does_118 : decode cX14_does 118 = .ok (.goto 45, 3) := by decide +kernel
theorem dX14_does_121 : decode cX14_does 121 = .ok (.iload 8, 2) := by decide +kernel
theorem dX14_does_123 : decode cX14_does 123 = .ok (.bipush 45, 2) := by decide +kernel
theorem dX14_does_125 : decode cX14_does 125 = .ok (.if_icmp .ne 11, 3) := by decide +kernel
theorem dX14_does_128 : decode cX14_does 128 = .ok (.iload 6, 2) := by decide +kernel
theorem dX14_does_130 : decode cX14_does 130 = .ok (.iload 7, 2) := by decide +kernel
theorem dX14_does_132 : decode cX14_does 132 = .ok (.isub, 1) := by decide +kernel
theorem dX14_does_133 : decode cX14_does 133 = .ok (.goto 30, 3) := by decide +kernel
theorem dX14_does_136 : decode cX14_does 136 = .ok (.iload 8, 2) := by decide +kernel
theorem dX14_does_138 : decode cX14_does 138 = .ok (.bipush 42, 2) := by decide +kernel
theorem dX14_does_140 : decode cX14_does 140 = .ok (.if_icmp .ne 11, 3) := by decide +kernel
theorem dX14_does_143 : decode cX14_does 143 = .ok (.iload 6, 2) := by decide +kernel
theorem dX14_does_145 : decode cX14_does 145 = .ok (.iload 7, 2) := by decide +kernel
theorem dX14_does_147 : decode cX14_does 147 = .ok (.imul, 1) := by decide +kernel
theorem dX14_does_148 : decode cX14_does 148 = .ok (.goto 15, 3) := by decide +kernel
theorem dX14_does_151 : decode cX14_does 151 = .ok (.iload 6, 2) := by decide +kernel
theorem dX14_does_153 : decode cX14_does 153 = .ok (.iload 7, 2) := by decide +kernel
theorem dX14_does_155 : decode cX14_does 155 = .ok (.if_icmp .ge 7, 3) := by decide +kernel
theorem dX14_does_158 : decode cX14_does 158 = .ok (.iconst 1, 1) := by decide +kernel
theorem dX14_does_159 : decode cX14_does 159 = .ok (.goto 4, 3) := by decide +kernel
theorem dX14_does_162 : decode cX14_does 162 = .ok (.iconst 0, 1) := by decide +kernel
theorem dX14_does_163 : decode cX14_does 163 = .ok (.invokestatic 434, 3) := by decide +kernel
theorem dX14_does_166 : decode cX14_does 166 = .ok (.invokevirtual 438, 3) := by decide +kernel
theorem dX14_does_169 : decode cX14_does 169 = .ok (.goto 166, 3) := by decide +kernel
theorem dX14_does_172 : decode cX14_does 172 = .ok (.aload_n 0, 1) := by decide +kernel
theorem dX14_does_173 : decode cX14_does 173 = .ok (.aload_n 0, 1) := by decide +kernel
theorem dX14_does_174 : decode cX14_does 174 = .ok (.getfield 23, 3) := by decide +kernel
theorem dX14_does_177 : decode cX14_does 177 = .ok (.getfield 199, 3) := by decide +kernel
theorem dX14_does_180 : decode cX14_does 180 = .ok (.iload_n 1, 1) := by decide +kernel
theorem dX14_does_181 : decode cX14_does 181 = .ok (.iaload, 1) := by decide +kernel
theorem dX14_does_182 : decode cX14_does 182 = .ok (.aload_n 0, 1) := by decide +kernel
theorem dX14_does_183 : decode cX14_does 183 = .ok (.invokevirtual 450, 3) := by decide +kernel
theorem dX14_does_186 : decode cX14_does 186 = .ok (.aload_n 0, 1) := by decide +kernel
theorem dX14_does_187 : decode cX14_does 187 = .ok (.getfield 23, 3) := by decide +kernel
theorem dX14_does_190 : decode cX14_does 190 = .ok (.getfield 337, 3) := by decide +kernel
theorem dX14_does_193 : decode cX14_does 193 = .ok (.aload_n 0, 1) := by decide +kernel
theorem dX14_does_194 : decode cX14_does 194 = .ok (.getfield 23, 3) := by decide +kernel
theorem dX14_does_197 : decode cX14_does 197 = .ok (.getfield 205, 3) := by decide +kernel
theorem dX14_does_200 : decode cX14_does 200 = .ok (.iload_n 1, 1) := by decide +kernel
theorem dX14_does_201 : decode cX14_does 201 = .ok (.iaload, 1) := by decide +kernel
theorem dX14_does_202 : decode cX14_does 202 = .ok (.iaload, 1) := by decide +kernel
theorem dX14_does_203 : decode cX14_does 203 = .ok (.aload_n 0, 1) := by decide +kernel
theorem dX14_does_204 : decode cX14_does 204 = .ok (.getfield 23, 3) := by decide +kernel
theorem dX14_does_207 : decode cX14_does 207 = .ok (.getfield 199, 3) := by decide +kernel
theorem dX14_does_210 : decode cX14_does 210 = .ok (.iload_n 1, 1) := by decide +kernel
theorem dX14_does_211 : decode cX14_does 211 = .ok (.iaload, 1) := by decide +kernel
theorem dX14_does_212 : decode cX14_does 212 = .ok (.ishr, 1) := by decide +kernel
theorem dX14_does_213 : decode cX14_does 213 = .ok (.iconst 1, 1) := by decide +kernel
theorem dX14_does_214 : decode cX14_does 214 = .ok (.iand, 1) := by decide +kernel
theorem dX14_does_215 : decode cX14_does 215 = .ok (.iconst 1, 1) := by decide +kernel
theorem dX14_does_216 : decode cX14_does 216 = .ok (.if_icmp .ne 7, 3) := by decide +kernel
theorem dX14_does_219 : decode cX14_does 219 = .ok (.iconst 1, 1) := by decide +kernel
theorem dX14_does_220 : decode cX14_does 220 = .ok (.goto 4, 3) := by decide +kernel
theorem dX14_does_223 : decode cX14_does 223 = .ok (.iconst 0, 1) := by decide +kernel
theorem dX14_does_224 : decode cX14_does 224 = .ok (.invokevirtual 427, 3) := by decide +kernel
theorem dX14_does_227 : decode cX14_does 227 = .ok (.aload_n 0, 1) := by decide +kernel
theorem dX14_does_228 : decode cX14_does 228 = .ok (.iconst 0, 1) := by decide +kernel
theorem dX14_does_229 : decode cX14_does 229 = .ok (.aload_n 0, 1) := by decide +kernel
theorem dX14_does_230 : decode cX14_does 230 = .ok (.getfield 23, 3) := by decide +kernel
theorem dX14_does_233 : decode cX14_does 233 = .ok (.getfield 205, 3) := by decide +kernel
theorem dX14_does_236 : decode cX14_does 236 = .ok (.iload_n 1, 1) := by decide +kernel
theorem dX14_does_237 : decode cX14_does 237 = .ok (.iaload, 1) := by decide +kernel
theorem dX14_does_238 : decode cX14_does 238 = .ok (.invokevirtual 420, 3) := by decide +kernel
theorem dX14_does_241 : decode cX14_does 241 = .ok (.goto 94, 3) := by decide +kernel
theorem dX14_does_244 : decode cX14_does 244 = .ok (.aload_n 0, 1) := by decide +kernel
theorem dX14_does_245 : decode cX14_does 245 = .ok (.invokevirtual 450, 3) := by decide +kernel
theorem dX14_does_248 : decode cX14_does 248 = .ok (.lstore_n 2, 1) := by decide +kernel
theorem dX14_does_249 : decode cX14_does 249 = .ok (.lload_n 2, 1) := by decide +kernel
theorem dX14_does_250 : decode cX14_does 250 = .ok (.invokestatic 454, 3) := by decide +kernel
theorem dX14_does_253 : decode cX14_does 253 = .ok (.ifCond .ne 18, 3) := by decide +kernel
theorem dX14_does_256 : decode cX14_does 256 = .ok (.aload_n 0, 1) := by decide +kernel
theorem dX14_does_257 : decode cX14_does 257 = .ok (.iconst 2, 1) := by decide +kernel
theorem dX14_does_258 : decode cX14_does 258 = .ok (.aload_n 0, 1) := by decide +kernel
theorem dX14_does_259 : decode cX14_does 259 = .ok (.getfield 23, 3) := by decide +kernel
theorem dX14_does_262 : decode cX14_does 262 = .ok (.getfield 197, 3) := by decide +kernel
theorem dX14_does_265 : decode cX14_does 265 = .ok (.iload_n 1, 1) := by decide +kernel
theorem dX14_does_266 : decode cX14_does 266 = .ok (.iaload, 1) := by decide +kernel
theorem dX14_does_267 : decode cX14_does 267 = .ok (.invokevirtual 181, 3) := by decide +kernel
theorem dX14_does_270 : decode cX14_does 270 = .ok (.athrow, 1) := by decide +kernel
theorem dX14_does_271 : decode cX14_does 271 = .ok (.aload_n 0, 1) := by decide +kernel
theorem dX14_does_272 : decode cX14_does 272 = .ok (.lload_n 2, 1) := by decide +kernel
theorem dX14_does_273 : decode cX14_does 273 = .ok (.lconst 0, 1) := by decide +kernel
theorem dX14_does_274 : decode cX14_does 274 = .ok (.lcmp, 1) := by decide +kernel
theorem dX14_does_275 : decode cX14_does 275 = .ok (.ifCond .eq 15, 3) := by decide +kernel
theorem dX14_does_278 : decode cX14_does 278 = .ok (.aload_n 0, 1) := by decide +kernel
theorem dX14_does_279 : decode cX14_does 279 = .ok (.getfield 23, 3) := by decide +kernel
theorem dX14_does_282 : decode cX14_does 282 = .ok (.getfield 205, 3) := by decide +kernel
theorem dX14_does_285 : decode cX14_does 285 = .ok (.iload_n 1, 1) := by decide +kernel
theorem dX14_does_286 : decode cX14_does 286 = .ok (.iaload, 1) := by decide +kernel
theorem dX14_does_287 : decode cX14_does 287 = .ok (.goto 12, 3) := by decide +kernel
theorem dX14_does_290 : decode cX14_does 290 = .ok (.aload_n 0, 1) := by decide +kernel
theorem dX14_does_291 : decode cX14_does 291 = .ok (.getfield 23, 3) := by decide +kernel
theorem dX14_does_294 : decode cX14_does 294 = .ok (.getfield 208, 3) := by decide +kernel
theorem dX14_does_297 : decode cX14_does 297 = .ok (.iload_n 1, 1) := by decide +kernel
theorem dX14_does_298 : decode cX14_does 298 = .ok (.iaload, 1) := by decide +kernel
theorem dX14_does_299 : decode cX14_does 299 = .ok (.invokevirtual 457, 3) := by decide +kernel
theorem dX14_does_302 : decode cX14_does 302 = .ok (.goto 33, 3) := by decide +kernel
theorem dX14_does_305 : decode cX14_does 305 = .ok (.aload_n 0, 1) := by decide +kernel
theorem dX14_does_306 : decode cX14_does 306 = .ok (.aload_n 0, 1) := by decide +kernel
theorem dX14_does_307 : decode cX14_does 307 = .ok (.getfield 23, 3) := by decide +kernel
theorem dX14_does_310 : decode cX14_does 310 = .ok (.getfield 199, 3) := by decide +kernel
theorem dX14_does_313 : decode cX14_does 313 = .ok (.iload_n 1, 1) := by decide +kernel
theorem dX14_does_314 : decode cX14_does 314 = .ok (.iaload, 1) := by decide +kernel
theorem dX14_does_315 : decode cX14_does 315 = .ok (.aload_n 0, 1) := by decide +kernel
theorem dX14_does_316 : decode cX14_does 316 = .ok (.getfield 23, 3) := by decide +kernel
theorem dX14_does_319 : decode cX14_does 319 = .ok (.getfield 197, 3) := by decide +kernel
theorem dX14_does_322 : decode cX14_does 322 = .ok (.iload_n 1, 1) := by decide +kernel
theorem dX14_does_323 : decode cX14_does 323 = .ok (.iaload, 1) := by decide +kernel
theorem dX14_does_324 : decode cX14_does 324 = .ok (.invokevirtual 460, 3) := by decide +kernel
theorem dX14_does_327 : decode cX14_does 327 = .ok (.goto 8, 3) := by decide +kernel
theorem dX14_does_330 : decode cX14_does 330 = .ok (.aload_n 0, 1) := by decide +kernel
theorem dX14_does_331 : decode cX14_does 331 = .ok (.iload_n 1, 1) := by decide +kernel
theorem dX14_does_332 : decode cX14_does 332 = .ok (.invokevirtual 463, 3) := by decide +kernel
theorem dX14_does_335 : decode cX14_does 335 = .ok (.return_, 1) := by decide +kernel
theorem zTD_w {S : Nat → Nat → Int32} {u b : Nat → Int32} {z : Nat} {pr tw tp : Nat → Int32} {t o h k : Nat} (a : zTD S u b z pr tw tp t o h k) : (S 0 k).toInt = 3 ∨ (S 0 k).toInt = 4 ∨ (S 0 k).toInt = 5 ∨ (S 0 k).toInt = 6 ∨ (S 0 k).toInt = 7 := by
  obtain ⟨M, h', a, hm, hd⟩ := a
  rcases hd with ⟨g, -⟩ | ⟨g, -⟩ | ⟨g, -⟩ | ⟨g, -⟩ <;> omega
