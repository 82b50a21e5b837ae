theorem dL_market_0 : decode cL_market 0 = .ok (.new 25, 3) := by decide +kernel
theorem dL_market_3 : decode cL_market 3 = .ok (.dup, 1) := by decide +kernel
theorem dL_market_4 : decode cL_market 4 = .ok (.invokespecial 27, 3) := by decide +kernel
theorem dL_market_7 : decode cL_market 7 = .ok (.astore_n 2, 1) := by decide +kernel
theorem dL_market_8 : decode cL_market 8 = .ok (.aload_n 2, 1) := by decide +kernel
theorem dL_market_9 : decode cL_market 9 = .ok (.iconst 1, 1) := by decide +kernel
theorem dL_market_10 : decode cL_market 10 = .ok (.aload_n 0, 1) := by decide +kernel
theorem dL_market_11 : decode cL_market 11 = .ok (.iconst 3, 1) := by decide +kernel
theorem dL_market_12 : decode cL_market 12 = .ok (.invokestatic 28, 3) := by decide +kernel
theorem dL_market_15 : decode cL_market 15 = .ok (.iadd, 1) := by decide +kernel
theorem dL_market_16 : decode cL_market 16 = .ok (.putfield 34, 3) := by decide +kernel
theorem dL_market_19 : decode cL_market 19 = .ok (.iconst 0, 1) := by decide +kernel
theorem dL_market_20 : decode cL_market 20 = .ok (.istore_n 3, 1) := by decide +kernel
theorem dL_market_21 : decode cL_market 21 = .ok (.iload_n 3, 1) := by decide +kernel
theorem dL_market_22 : decode cL_market 22 = .ok (.aload_n 2, 1) := by decide +kernel
theorem dL_market_23 : decode cL_market 23 = .ok (.getfield 34, 3) := by decide +kernel
theorem dL_market_26 : decode cL_market 26 = .ok (.if_icmp .ge 16, 3) := by decide +kernel
theorem dL_market_29 : decode cL_market 29 = .ok (.aload_n 1, 1) := by decide +kernel
theorem dL_market_30 : decode cL_market 30 = .ok (.ldc 38, 2) := by decide +kernel
theorem dL_market_32 : decode cL_market 32 = .ok (.invokevirtual 40, 3) := by decide +kernel
theorem dL_market_35 : decode cL_market 35 = .ok (.pop, 1) := by decide +kernel
theorem dL_market_36 : decode cL_market 36 = .ok (.iinc 3 1, 3) := by decide +kernel
theorem dL_market_39 : decode cL_market 39 = .ok (.goto (-18), 3) := by decide +kernel
theorem dL_market_42 : decode cL_market 42 = .ok (.aload_n 2, 1) := by decide +kernel
theorem dL_market_43 : decode cL_market 43 = .ok (.iconst 4, 1) := by decide +kernel
theorem dL_market_44 : decode cL_market 44 = .ok (.iconst 1, 1) := by decide +kernel
theorem dL_market_45 : decode cL_market 45 = .ok (.aload_n 0, 1) := by decide +kernel
theorem dL_market_46 : decode cL_market 46 = .ok (.iconst 4, 1) := by decide +kernel
theorem dL_market_47 : decode cL_market 47 = .ok (.invokestatic 28, 3) := by decide +kernel
theorem dL_market_50 : decode cL_market 50 = .ok (.iadd, 1) := by decide +kernel
theorem dL_market_51 : decode cL_market 51 = .ok (.imul, 1) := by decide +kernel
theorem dL_market_52 : decode cL_market 52 = .ok (.newarray .int, 2) := by decide +kernel
theorem dL_market_54 : decode cL_market 54 = .ok (.putfield 45, 3) := by decide +kernel
theorem dL_market_57 : decode cL_market 57 = .ok (.iconst 0, 1) := by decide +kernel
theorem dL_market_58 : decode cL_market 58 = .ok (.istore_n 3, 1) := by decide +kernel
theorem dL_market_59 : decode cL_market 59 = .ok (.iload_n 3, 1) := by decide +kernel
theorem dL_market_60 : decode cL_market 60 = .ok (.aload_n 2, 1) := by decide +kernel
theorem dL_market_61 : decode cL_market 61 = .ok (.getfield 45, 3) := by decide +kernel
theorem dL_market_64 : decode cL_market 64 = .ok (.arraylength, 1) := by decide +kernel
theorem dL_market_65 : decode cL_market 65 = .ok (.if_icmp .ge 148, 3) := by decide +kernel
theorem dL_market_68 : decode cL_market 68 = .ok (.aload_n 2, 1) := by decide +kernel
theorem dL_market_69 : decode cL_market 69 = .ok (.getfield 45, 3) := by decide +kernel
theorem dL_market_72 : decode cL_market 72 = .ok (.iload_n 3, 1) := by decide +kernel
theorem dL_market_73 : decode cL_market 73 = .ok (.aload_n 0, 1) := by decide +kernel
theorem dL_market_74 : decode cL_market 74 = .ok (.aload_n 2, 1) := by decide +kernel
theorem dL_market_75 : decode cL_market 75 = .ok (.getfield 34, 3) := by decide +kernel
theorem dL_market_78 : decode cL_market 78 = .ok (.invokestatic 28, 3) := by decide +kernel
theorem dL_market_81 : decode cL_market 81 = .ok (.iastore, 1) := by decide +kernel
theorem dL_market_82 : decode cL_market 82 = .ok (.aload_n 2, 1) := by decide +kernel
theorem dL_market_83 : decode cL_market 83 = .ok (.getfield 45, 3) := by decide +kernel
theorem dL_market_86 : decode cL_market 86 = .ok (.iload_n 3, 1) := by decide +kernel
theorem dL_market_87 : decode cL_market 87 = .ok (.iconst 1, 1) := by decide +kernel
theorem dL_market_88 : decode cL_market 88 = .ok (.iadd, 1) := by decide +kernel
theorem dL_market_89 : decode cL_market 89 = .ok (.aload_n 0, 1) := by decide +kernel
theorem dL_market_90 : decode cL_market 90 = .ok (.iconst 3, 1) := by decide +kernel
theorem dL_market_91 : decode cL_market 91 = .ok (.invokestatic 28, 3) := by decide +kernel
theorem dL_market_94 : decode cL_market 94 = .ok (.iastore, 1) := by decide +kernel
theorem dL_market_95 : decode cL_market 95 = .ok (.aload_n 2, 1) := by decide +kernel
theorem dL_market_96 : decode cL_market 96 = .ok (.getfield 45, 3) := by decide +kernel
theorem dL_market_99 : decode cL_market 99 = .ok (.iload_n 3, 1) := by decide +kernel
theorem dL_market_100 : decode cL_market 100 = .ok (.iconst 2, 1) := by decide +kernel
theorem dL_market_101 : decode cL_market 101 = .ok (.iadd, 1) := by decide +kernel
theorem dL_market_102 : decode cL_market 102 = .ok (.iconst 1, 1) := by decide +kernel
theorem dL_market_103 : decode cL_market 103 = .ok (.aload_n 0, 1) := by decide +kernel
theorem dL_market_104 : decode cL_market 104 = .ok (.bipush 9, 2) := by decide +kernel
theorem dL_market_106 : decode cL_market 106 = .ok (.invokestatic 28, 3) := by decide +kernel
theorem dL_market_109 : decode cL_market 109 = .ok (.iadd, 1) := by decide +kernel
theorem dL_market_110 : decode cL_market 110 = .ok (.iastore, 1) := by decide +kernel
theorem dL_market_111 : decode cL_market 111 = .ok (.aload_n 2, 1) := by decide +kernel
theorem dL_market_112 : decode cL_market 112 = .ok (.getfield 45, 3) := by decide +kernel
theorem dL_market_115 : decode cL_market 115 = .ok (.iload_n 3, 1) := by decide +kernel
theorem dL_market_116 : decode cL_market 116 = .ok (.iconst 3, 1) := by decide +kernel
theorem dL_market_117 : decode cL_market 117 = .ok (.iadd, 1) := by decide +kernel
theorem dL_market_118 : decode cL_market 118 = .ok (.bipush 20, 2) := by decide +kernel
theorem dL_market_120 : decode cL_market 120 = .ok (.aload_n 2, 1) := by decide +kernel
theorem dL_market_121 : decode cL_market 121 = .ok (.getfield 45, 3) := by decide +kernel
theorem dL_market_124 : decode cL_market 124 = .ok (.iload_n 3, 1) := by decide +kernel
theorem dL_market_125 : decode cL_market 125 = .ok (.iconst 2, 1) := by decide +kernel
theorem dL_market_126 : decode cL_market 126 = .ok (.iadd, 1) := by decide +kernel
theorem dL_market_127 : decode cL_market 127 = .ok (.iaload, 1) := by decide +kernel
theorem dL_market_128 : decode cL_market 128 = .ok (.imul, 1) := by decide +kernel
theorem dL_market_129 : decode cL_market 129 = .ok (.aload_n 0, 1) := by decide +kernel
theorem dL_market_130 : decode cL_market 130 = .ok (.sipush 4000, 3) := by decide +kernel
theorem dL_market_133 : decode cL_market 133 = .ok (.invokestatic 28, 3) := by decide +kernel
theorem dL_market_136 : decode cL_market 136 = .ok (.iadd, 1) := by decide +kernel
theorem dL_market_137 : decode cL_market 137 = .ok (.iastore, 1) := by decide +kernel
theorem dL_market_138 : decode cL_market 138 = .ok (.aload_n 1, 1) := by decide +kernel
theorem dL_market_139 : decode cL_market 139 = .ok (.ldc 49, 2) := by decide +kernel
theorem dL_market_141 : decode cL_market 141 = .ok (.invokevirtual 40, 3) := by decide +kernel
theorem dL_market_144 : decode cL_market 144 = .ok (.aload_n 2, 1) := by decide +kernel
theorem dL_market_145 : decode cL_market 145 = .ok (.getfield 45, 3) := by decide +kernel
theorem dL_market_148 : decode cL_market 148 = .ok (.iload_n 3, 1) := by decide +kernel
theorem dL_market_149 : decode cL_market 149 = .ok (.iaload, 1) := by decide +kernel
theorem dL_market_150 : decode cL_market 150 = .ok (.invokevirtual 51, 3) := by decide +kernel
theorem dL_market_153 : decode cL_market 153 = .ok (.bipush 32, 2) := by decide +kernel
theorem dL_market_155 : decode cL_market 155 = .ok (.invokevirtual 54, 3) := by decide +kernel
theorem dL_market_158 : decode cL_market 158 = .ok (.aload_n 2, 1) := by decide +kernel
theorem dL_market_159 : decode cL_market 159 = .ok (.getfield 45, 3) := by decide +kernel
theorem dL_market_162 : decode cL_market 162 = .ok (.iload_n 3, 1) := by decide +kernel
theorem dL_market_163 : decode cL_market 163 = .ok (.iconst 1, 1) := by decide +kernel
theorem dL_market_164 : decode cL_market 164 = .ok (.iadd, 1) := by decide +kernel
theorem dL_market_165 : decode cL_market 165 = .ok (.iaload, 1) := by decide +kernel
theorem dL_market_166 : decode cL_market 166 = .ok (.invokevirtual 51, 3) := by decide +kernel
theorem dL_market_169 : decode cL_market 169 = .ok (.bipush 32, 2) := by decide +kernel
theorem dL_market_171 : decode cL_market 171 = .ok (.invokevirtual 54, 3) := by decide +kernel
theorem dL_market_174 : decode cL_market 174 = .ok (.aload_n 2, 1) := by decide +kernel
theorem dL_market_175 : decode cL_market 175 = .ok (.getfield 45, 3) := by decide +kernel
theorem dL_market_178 : decode cL_market 178 = .ok (.iload_n 3, 1) := by decide +kernel
theorem dL_market_179 : decode cL_market 179 = .ok (.iconst 2, 1) := by decide +kernel
theorem dL_market_180 : decode cL_market 180 = .ok (.iadd, 1) := by decide +kernel
theorem dL_market_181 : decode cL_market 181 = .ok (.iaload, 1) := by decide +kernel
theorem dL_market_182 : decode cL_market 182 = .ok (.invokevirtual 51, 3) := by decide +kernel
theorem dL_market_185 : decode cL_market 185 = .ok (.bipush 32, 2) := by decide +kernel
theorem dL_market_187 : decode cL_market 187 = .ok (.invokevirtual 54, 3) := by decide +kernel
theorem dL_market_190 : decode cL_market 190 = .ok (.aload_n 2, 1) := by decide +kernel
theorem dL_market_191 : decode cL_market 191 = .ok (.getfield 45, 3) := by decide +kernel
theorem dL_market_194 : decode cL_market 194 = .ok (.iload_n 3, 1) := by decide +kernel
theorem dL_market_195 : decode cL_market 195 = .ok (.iconst 3, 1) := by decide +kernel
theorem dL_market_196 : decode cL_market 196 = .ok (.iadd, 1) := by decide +kernel
theorem dL_market_197 : decode cL_market 197 = .ok (.iaload, 1) := by decide +kernel
theorem dL_market_198 : decode cL_market 198 = .ok (.invokevirtual 51, 3) := by decide +kernel
theorem dL_market_201 : decode cL_market 201 = .ok (.bipush 59, 2) := by decide +kernel
theorem dL_market_203 : decode cL_market 203 = .ok (.invokevirtual 54, 3) := by decide +kernel
theorem dL_market_206 : decode cL_market 206 = .ok (.pop, 1) := by decide +kernel
theorem dL_market_207 : decode cL_market 207 = .ok (.iinc 3 4, 3) := by decide +kernel
theorem dL_market_210 : decode cL_market 210 = .ok (.goto (-151), 3) := by decide +kernel
theorem dL_market_213 : decode cL_market 213 = .ok (.aload_n 2, 1) := by decide +kernel
theorem dL_market_214 : decode cL_market 214 = .ok (.iconst 3, 1) := by decide +kernel
theorem dL_market_215 : decode cL_market 215 = .ok (.aload_n 0, 1) := by decide +kernel
theorem dL_market_216 : decode cL_market 216 = .ok (.iconst 4, 1) := by decide +kernel
theorem dL_market_217 : decode cL_market 217 = .ok (.invokestatic 28, 3) := by decide +kernel
theorem dL_market_220 : decode cL_market 220 = .ok (.iadd, 1) := by decide +kernel
theorem dL_market_221 : decode cL_market 221 = .ok (.newarray .int, 2) := by decide +kernel
theorem dL_market_223 : decode cL_market 223 = .ok (.putfield 57, 3) := by decide +kernel
theorem dL_market_226 : decode cL_market 226 = .ok (.iconst 0, 1) := by decide +kernel
theorem dL_market_227 : decode cL_market 227 = .ok (.istore_n 3, 1) := by decide +kernel
theorem dL_market_228 : decode cL_market 228 = .ok (.iload_n 3, 1) := by decide +kernel
theorem dL_market_229 : decode cL_market 229 = .ok (.aload_n 2, 1) := by decide +kernel
theorem dL_market_230 : decode cL_market 230 = .ok (.getfield 57, 3) := by decide +kernel
theorem dL_market_233 : decode cL_market 233 = .ok (.arraylength, 1) := by decide +kernel
theorem dL_market_234 : decode cL_market 234 = .ok (.if_icmp .ge 146, 3) := by decide +kernel
theorem dL_market_237 : decode cL_market 237 = .ok (.iconst 1, 1) := by decide +kernel
theorem dL_market_238 : decode cL_market 238 = .ok (.aload_n 0, 1) := by decide +kernel
theorem dL_market_239 : decode cL_market 239 = .ok (.bipush 9, 2) := by decide +kernel
theorem dL_market_241 : decode cL_market 241 = .ok (.invokestatic 28, 3) := by decide +kernel
theorem dL_market_244 : decode cL_market 244 = .ok (.iadd, 1) := by decide +kernel
theorem dL_market_245 : decode cL_market 245 = .ok (.aload_n 0, 1) := by decide +kernel
theorem dL_market_246 : decode cL_market 246 = .ok (.iconst 2, 1) := by decide +kernel
theorem dL_market_247 : decode cL_market 247 = .ok (.invokestatic 28, 3) := by decide +kernel
theorem dL_market_250 : decode cL_market 250 = .ok (.ifCond .ne 8, 3) := by decide +kernel
theorem dL_market_253 : decode cL_market 253 = .ok (.bipush 100, 2) := by decide +kernel
theorem dL_market_255 : decode cL_market 255 = .ok (.goto 13, 3) := by decide +kernel
theorem dL_market_258 : decode cL_market 258 = .ok (.bipush 10, 2) := by decide +kernel
theorem dL_market_260 : decode cL_market 260 = .ok (.aload_n 0, 1) := by decide +kernel
theorem dL_market_261 : decode cL_market 261 = .ok (.sipush 900, 3) := by decide +kernel
theorem dL_market_264 : decode cL_market 264 = .ok (.invokestatic 28, 3) := by decide +kernel
theorem dL_market_267 : decode cL_market 267 = .ok (.iadd, 1) := by decide +kernel
theorem dL_market_268 : decode cL_market 268 = .ok (.iadd, 1) := by decide +kernel
theorem dL_market_269 : decode cL_market 269 = .ok (.istore 4, 2) := by decide +kernel
theorem dL_market_271 : decode cL_market 271 = .ok (.aload_n 0, 1) := by decide +kernel
theorem dL_market_272 : decode cL_market 272 = .ok (.iconst 3, 1) := by decide +kernel
theorem dL_market_273 : decode cL_market 273 = .ok (.invokestatic 28, 3) := by decide +kernel
theorem dL_market_276 : decode cL_market 276 = .ok (.ifCond .ne 12, 3) := by decide +kernel
theorem dL_market_279 : decode cL_market 279 = .ok (.aload_n 0, 1) := by decide +kernel
theorem dL_market_280 : decode cL_market 280 = .ok (.bipush 9, 2) := by decide +kernel
theorem dL_market_282 : decode cL_market 282 = .ok (.invokestatic 28, 3) := by decide +kernel
theorem dL_market_285 : decode cL_market 285 = .ok (.goto 4, 3) := by decide +kernel
theorem dL_market_288 : decode cL_market 288 = .ok (.iconst 0, 1) := by decide +kernel
theorem dL_market_289 : decode cL_market 289 = .ok (.istore 5, 2) := by decide +kernel
theorem dL_market_291 : decode cL_market 291 = .ok (.aload_n 0, 1) := by decide +kernel
theorem dL_market_292 : decode cL_market 292 = .ok (.iconst 2, 1) := by decide +kernel
theorem dL_market_293 : decode cL_market 293 = .ok (.invokestatic 28, 3) := by decide +kernel
theorem dL_market_296 : decode cL_market 296 = .ok (.ifCond .ne 7, 3) := by decide +kernel
theorem dL_market_299 : decode cL_market 299 = .ok (.iconst 1, 1) := by decide +kernel
theorem dL_market_300 : decode cL_market 300 = .ok (.goto 4, 3) := by decide +kernel
theorem dL_market_303 : decode cL_market 303 = .ok (.iconst 0, 1) := by decide +kernel
theorem dL_market_304 : decode cL_market 304 = .ok (.istore 6, 2) := by decide +kernel
theorem dL_market_306 : decode cL_market 306 = .ok (.aload_n 2, 1) := by decide +kernel
theorem dL_market_307 : decode cL_market 307 = .ok (.getfield 57, 3) := by decide +kernel
theorem dL_market_310 : decode cL_market 310 = .ok (.iload_n 3, 1) := by decide +kernel
theorem dL_market_311 : decode cL_market 311 = .ok (.iload 4, 2) := by decide +kernel
theorem dL_market_313 : decode cL_market 313 = .ok (.iload 6, 2) := by decide +kernel
theorem dL_market_315 : decode cL_market 315 = .ok (.ifCond .eq 8, 3) := by decide +kernel
theorem dL_market_318 : decode cL_market 318 = .ok (.iload 5, 2) := by decide +kernel
theorem dL_market_320 : decode cL_market 320 = .ok (.goto 6, 3) := by decide +kernel
theorem dL_market_323 : decode cL_market 323 = .ok (.iload 5, 2) := by decide +kernel
theorem dL_market_325 : decode cL_market 325 = .ok (.ineg, 1) := by decide +kernel
theorem dL_market_326 : decode cL_market 326 = .ok (.iadd, 1) := by decide +kernel
theorem dL_market_327 : decode cL_market 327 = .ok (.iastore, 1) := by decide +kernel
theorem dL_market_328 : decode cL_market 328 = .ok (.aload_n 1, 1) := by decide +kernel
theorem dL_market_329 : decode cL_market 329 = .ok (.ldc 60, 2) := by decide +kernel
theorem dL_market_331 : decode cL_market 331 = .ok (.invokevirtual 40, 3) := by decide +kernel
theorem dL_market_334 : decode cL_market 334 = .ok (.iload 4, 2) := by decide +kernel
theorem dL_market_336 : decode cL_market 336 = .ok (.invokevirtual 51, 3) := by decide +kernel
theorem dL_market_339 : decode cL_market 339 = .ok (.pop, 1) := by decide +kernel
theorem dL_market_340 : decode cL_market 340 = .ok (.iload 5, 2) := by decide +kernel
theorem dL_market_342 : decode cL_market 342 = .ok (.ifCond .le 25, 3) := by decide +kernel
theorem dL_market_345 : decode cL_market 345 = .ok (.aload_n 1, 1) := by decide +kernel
theorem dL_market_346 : decode cL_market 346 = .ok (.iload 6, 2) := by decide +kernel
theorem dL_market_348 : decode cL_market 348 = .ok (.ifCond .eq 8, 3) := by decide +kernel
theorem dL_market_351 : decode cL_market 351 = .ok (.ldc 62, 2) := by decide +kernel
theorem dL_market_353 : decode cL_market 353 = .ok (.goto 5, 3) := by decide +kernel
theorem dL_market_356 : decode cL_market 356 = .ok (.ldc 64, 2) := by decide +kernel
theorem dL_market_358 : decode cL_market 358 = .ok (.invokevirtual 40, 3) := by decide +kernel
theorem dL_market_361 : decode cL_market 361 = .ok (.iload 5, 2) := by decide +kernel
theorem dL_market_363 : decode cL_market 363 = .ok (.invokevirtual 51, 3) := by decide +kernel
theorem dL_market_366 : decode cL_market 366 = .ok (.pop, 1) := by decide +kernel
theorem dL_market_367 : decode cL_market 367 = .ok (.aload_n 1, 1) := by decide +kernel
theorem dL_market_368 : decode cL_market 368 = .ok (.bipush 59, 2) := by decide +kernel
theorem dL_market_370 : decode cL_market 370 = .ok (.invokevirtual 54, 3) := by decide +kernel
theorem dL_market_373 : decode cL_market 373 = .ok (.pop, 1) := by decide +kernel
theorem dL_market_374 : decode cL_market 374 = .ok (.iinc 3 1, 3) := by decide +kernel
theorem dL_market_377 : decode cL_market 377 = .ok (.goto (-149), 3) := by decide +kernel
theorem dL_market_380 : decode cL_market 380 = .ok (.aload_n 2, 1) := by decide +kernel
theorem dL_market_381 : decode cL_market 381 = .ok (.iconst 2, 1) := by decide +kernel
theorem dL_market_382 : decode cL_market 382 = .ok (.iconst 1, 1) := by decide +kernel
theorem dL_market_383 : decode cL_market 383 = .ok (.aload_n 0, 1) := by decide +kernel
theorem dL_market_384 : decode cL_market 384 = .ok (.iconst 2, 1) := by decide +kernel
theorem dL_market_385 : decode cL_market 385 = .ok (.invokestatic 28, 3) := by decide +kernel
theorem dL_market_388 : decode cL_market 388 = .ok (.iadd, 1) := by decide +kernel
theorem dL_market_389 : decode cL_market 389 = .ok (.imul, 1) := by decide +kernel
theorem dL_market_390 : decode cL_market 390 = .ok (.newarray .int, 2) := by decide +kernel
theorem dL_market_392 : decode cL_market 392 = .ok (.putfield 66, 3) := by decide +kernel
theorem dL_market_395 : decode cL_market 395 = .ok (.iconst 0, 1) := by decide +kernel
theorem dL_market_396 : decode cL_market 396 = .ok (.istore_n 3, 1) := by decide +kernel
theorem dL_market_397 : decode cL_market 397 = .ok (.iload_n 3, 1) := by decide +kernel
theorem dL_market_398 : decode cL_market 398 = .ok (.aload_n 2, 1) := by decide +kernel
theorem dL_market_399 : decode cL_market 399 = .ok (.getfield 66, 3) := by decide +kernel
theorem dL_market_402 : decode cL_market 402 = .ok (.arraylength, 1) := by decide +kernel
theorem dL_market_403 : decode cL_market 403 = .ok (.if_icmp .ge 74, 3) := by decide +kernel
theorem dL_market_406 : decode cL_market 406 = .ok (.aload_n 2, 1) := by decide +kernel
theorem dL_market_407 : decode cL_market 407 = .ok (.getfield 66, 3) := by decide +kernel
theorem dL_market_410 : decode cL_market 410 = .ok (.iload_n 3, 1) := by decide +kernel
theorem dL_market_411 : decode cL_market 411 = .ok (.iconst 2, 1) := by decide +kernel
theorem dL_market_412 : decode cL_market 412 = .ok (.aload_n 0, 1) := by decide +kernel
theorem dL_market_413 : decode cL_market 413 = .ok (.bipush 6, 2) := by decide +kernel
theorem dL_market_415 : decode cL_market 415 = .ok (.invokestatic 28, 3) := by decide +kernel
theorem dL_market_418 : decode cL_market 418 = .ok (.iadd, 1) := by decide +kernel
theorem dL_market_419 : decode cL_market 419 = .ok (.iastore, 1) := by decide +kernel
theorem dL_market_420 : decode cL_market 420 = .ok (.aload_n 2, 1) := by decide +kernel
theorem dL_market_421 : decode cL_market 421 = .ok (.getfield 66, 3) := by decide +kernel
theorem dL_market_424 : decode cL_market 424 = .ok (.iload_n 3, 1) := by decide +kernel
theorem dL_market_425 : decode cL_market 425 = .ok (.iconst 1, 1) := by decide +kernel
theorem dL_market_426 : decode cL_market 426 = .ok (.iadd, 1) := by decide +kernel
theorem dL_market_427 : decode cL_market 427 = .ok (.aload_n 0, 1) := by decide +kernel
theorem dL_market_428 : decode cL_market 428 = .ok (.iconst 2, 1) := by decide +kernel
theorem dL_market_429 : decode cL_market 429 = .ok (.invokestatic 28, 3) := by decide +kernel
theorem dL_market_432 : decode cL_market 432 = .ok (.iastore, 1) := by decide +kernel
theorem dL_market_433 : decode cL_market 433 = .ok (.aload_n 1, 1) := by decide +kernel
theorem dL_market_434 : decode cL_market 434 = .ok (.ldc 69, 2) := by decide +kernel
theorem dL_market_436 : decode cL_market 436 = .ok (.invokevirtual 40, 3) := by decide +kernel
theorem dL_market_439 : decode cL_market 439 = .ok (.aload_n 2, 1) := by decide +kernel
theorem dL_market_440 : decode cL_market 440 = .ok (.getfield 66, 3) := by decide +kernel
theorem dL_market_443 : decode cL_market 443 = .ok (.iload_n 3, 1) := by decide +kernel
theorem dL_market_444 : decode cL_market 444 = .ok (.iaload, 1) := by decide +kernel
theorem dL_market_445 : decode cL_market 445 = .ok (.invokevirtual 51, 3) := by decide +kernel
theorem dL_market_448 : decode cL_market 448 = .ok (.aload_n 2, 1) := by decide +kernel
theorem dL_market_449 : decode cL_market 449 = .ok (.getfield 66, 3) := by decide +kernel
theorem dL_market_452 : decode cL_market 452 = .ok (.iload_n 3, 1) := by decide +kernel
theorem dL_market_453 : decode cL_market 453 = .ok (.iconst 1, 1) := by decide +kernel
theorem dL_market_454 : decode cL_market 454 = .ok (.iadd, 1) := by decide +kernel
theorem dL_market_455 : decode cL_market 455 = .ok (.iaload, 1) := by decide +kernel
theorem dL_market_456 : decode cL_market 456 = .ok (.iconst 1, 1) := by decide +kernel
theorem dL_market_457 : decode cL_market 457 = .ok (.if_icmp .ne 8, 3) := by decide +kernel
theorem dL_market_460 : decode cL_market 460 = .ok (.ldc 71, 2) := by decide +kernel
theorem dL_market_462 : decode cL_market 462 = .ok (.goto 5, 3) := by decide +kernel
theorem dL_market_465 : decode cL_market 465 = .ok (.ldc 73, 2) := by decide +kernel
theorem dL_market_467 : decode cL_market 467 = .ok (.invokevirtual 40, 3) := by decide +kernel
theorem dL_market_470 : decode cL_market 470 = .ok (.pop, 1) := by decide +kernel
theorem dL_market_471 : decode cL_market 471 = .ok (.iinc 3 2, 3) := by decide +kernel
theorem dL_market_474 : decode cL_market 474 = .ok (.goto (-77), 3) := by decide +kernel
theorem dL_market_477 : decode cL_market 477 = .ok (.aload_n 2, 1) := by decide +kernel
theorem dL_market_478 : decode cL_market 478 = .ok (.iconst 3, 1) := by decide +kernel
theorem dL_market_479 : decode cL_market 479 = .ok (.newarray .int, 2) := by decide +kernel
theorem dL_market_481 : decode cL_market 481 = .ok (.dup, 1) := by decide +kernel
theorem dL_market_482 : decode cL_market 482 = .ok (.iconst 0, 1) := by decide +kernel
theorem dL_market_483 : decode cL_market 483 = .ok (.iconst 2, 1) := by decide +kernel
theorem dL_market_484 : decode cL_market 484 = .ok (.iastore, 1) := by decide +kernel
theorem dL_market_485 : decode cL_market 485 = .ok (.dup, 1) := by decide +kernel
theorem dL_market_486 : decode cL_market 486 = .ok (.iconst 1, 1) := by decide +kernel
theorem dL_market_487 : decode cL_market 487 = .ok (.iconst 2, 1) := by decide +kernel
theorem dL_market_488 : decode cL_market 488 = .ok (.iastore, 1) := by decide +kernel
theorem dL_market_489 : decode cL_market 489 = .ok (.dup, 1) := by decide +kernel
theorem dL_market_490 : decode cL_market 490 = .ok (.iconst 2, 1) := by decide +kernel
theorem dL_market_491 : decode cL_market 491 = .ok (.iconst 2, 1) := by decide +kernel
theorem dL_market_492 : decode cL_market 492 = .ok (.iastore, 1) := by decide +kernel
theorem dL_market_493 : decode cL_market 493 = .ok (.putfield 75, 3) := by decide +kernel
theorem dL_market_496 : decode cL_market 496 = .ok (.aload_n 0, 1) := by decide +kernel
theorem dL_market_497 : decode cL_market 497 = .ok (.iconst 2, 1) := by decide +kernel
theorem dL_market_498 : decode cL_market 498 = .ok (.invokestatic 28, 3) := by decide +kernel
theorem dL_market_501 : decode cL_market 501 = .ok (.ifCond .ne 37, 3) := by decide +kernel
theorem dL_market_504 : decode cL_market 504 = .ok (.aload_n 2, 1) := by decide +kernel
theorem dL_market_505 : decode cL_market 505 = .ok (.getfield 75, 3) := by decide +kernel
theorem dL_market_508 : decode cL_market 508 = .ok (.iconst 1, 1) := by decide +kernel
theorem dL_market_509 : decode cL_market 509 = .ok (.iconst 1, 1) := by decide +kernel
theorem dL_market_510 : decode cL_market 510 = .ok (.aload_n 0, 1) := by decide +kernel
theorem dL_market_511 : decode cL_market 511 = .ok (.iconst 5, 1) := by decide +kernel
theorem dL_market_512 : decode cL_market 512 = .ok (.invokestatic 28, 3) := by decide +kernel
theorem dL_market_515 : decode cL_market 515 = .ok (.iadd, 1) := by decide +kernel
theorem dL_market_516 : decode cL_market 516 = .ok (.iastore, 1) := by decide +kernel
theorem dL_market_517 : decode cL_market 517 = .ok (.aload_n 1, 1) := by decide +kernel
theorem dL_market_518 : decode cL_market 518 = .ok (.ldc 78, 2) := by decide +kernel
theorem dL_market_520 : decode cL_market 520 = .ok (.invokevirtual 40, 3) := by decide +kernel
theorem dL_market_523 : decode cL_market 523 = .ok (.aload_n 2, 1) := by decide +kernel
theorem dL_market_524 : decode cL_market 524 = .ok (.getfield 75, 3) := by decide +kernel
theorem dL_market_527 : decode cL_market 527 = .ok (.iconst 1, 1) := by decide +kernel
theorem dL_market_528 : decode cL_market 528 = .ok (.iaload, 1) := by decide +kernel
theorem dL_market_529 : decode cL_market 529 = .ok (.invokevirtual 51, 3) := by decide +kernel
theorem dL_market_532 : decode cL_market 532 = .ok (.bipush 59, 2) := by decide +kernel
theorem dL_market_534 : decode cL_market 534 = .ok (.invokevirtual 54, 3) := by decide +kernel
theorem dL_market_537 : decode cL_market 537 = .ok (.pop, 1) := by decide +kernel
theorem dL_market_538 : decode cL_market 538 = .ok (.aload_n 2, 1) := by decide +kernel
theorem dL_market_539 : decode cL_market 539 = .ok (.areturn, 1) := by decide +kernel
def al_L_market : Nat → Bool := fun a => decide (a = 88 ∨ a = 92 ∨ a = 93 ∨ a = 94 ∨ a = 95 ∨ a = 96 ∨ a = 100)
theorem sd_als_L_market_J4_append_15ec4 : ∀ k, al_L_market k = false → al_J4_append_15ec4 k = false := by
  intro k h
  simp only [al_L_market, al_J4_append_15ec4, decide_eq_false_iff_not] at h ⊢
  omega
theorem sd_als_L_market_J4_append_bf812 : ∀ k, al_L_market k = false → al_J4_append_bf812 k = false := by
  intro k h
  simp only [al_L_market, al_J4_append_bf812, decide_eq_false_iff_not] at h ⊢
  omega
theorem sd_als_L_market_J4_append_cf468 : ∀ k, al_L_market k = false → al_J4_append_cf468 k = false := by
  intro k h
  simp only [al_L_market, al_J4_append_cf468, decide_eq_false_iff_not] at h ⊢
  omega
def f_L_market_h538 (F : Nat) (S : si_St) : Option (si_St) :=
  some S
def f_L_market_h537 (F : Nat) (S : si_St) : Option (si_St) :=
  f_L_market_h538 F S
def f_L_market_h532 (F : Nat) (S : si_St) : Option (si_St) :=
  if ¬ (sd_ok S 87) then none else Option.bind (f_J4_append_cf468 F 59 S) fun S1 => f_L_market_h537 F S1
def f_L_market_h523 (F : Nat) (S : si_St) : Option (si_St) :=
  if ¬ (sd_ok S 92 ∧ S.1 92 4 ≠ 0) then none else Option.bind (sd_rd S 96 1) fun v2 => if ¬ (sd_ok S 87) then none else Option.bind (f_J4_append_bf812 F v2 S) fun S3 => f_L_market_h532 F S3
def f_L_market_h515 (F : Nat) (t0 : Int32) (t1 : Int32) (t2 : Int32) (S : si_St) : Option (si_St) :=
  Option.bind (sd_wr S 96 t2 (t1 + t0)) fun S4 => if ¬ (sd_ok S4 87) then none else Option.bind (f_J4_append_15ec4 F 16 S4) fun S5 => f_L_market_h523 F S5
def f_L_market_h501 (F : Nat) (t0 : Int32) (S : si_St) : Option (si_St) :=
  if t0 = 0 then (if ¬ (sd_ok S 92 ∧ S.1 92 4 ≠ 0) then none else Option.bind (f_L_draw F 91 5 S) fun q6 => f_L_market_h515 F q6.1 1 1 q6.2) else (f_L_market_h538 F S)
def f_L_market_h481 (F : Nat) (S : si_St) : Option (si_St) :=
  Option.bind (sd_wr S 96 0 2) fun S7 => Option.bind (sd_wr S7 96 1 2) fun S8 => Option.bind (sd_wr S8 96 2 2) fun S9 => Option.bind (sd_pi S9 92 4 1) fun S10 => Option.bind (f_L_draw F 91 2 S10) fun q11 => f_L_market_h501 F q11.1 q11.2
def f_L_market_h470 (F : Nat) (r397 : Int32 → si_St → Option (si_St)) (x3 : Int32) (S : si_St) : Option (si_St) :=
  Option.bind (some (x3 + 2)) fun v12 => r397 v12 S
def f_L_market_h467 (F : Nat) (r397 : Int32 → si_St → Option (si_St)) (x3 : Int32) (gt0 : Nat) (S : si_St) : Option (si_St) :=
  if ¬ (sd_ok S 87) then none else Option.bind (f_J4_append_15ec4 F gt0 S) fun S13 => f_L_market_h470 F r397 x3 S13
def f_L_market_h448 (F : Nat) (r397 : Int32 → si_St → Option (si_St)) (x3 : Int32) (S : si_St) : Option (si_St) :=
  if ¬ (sd_ok S 92 ∧ S.1 92 3 ≠ 0) then none else Option.bind (sd_rd S 95 (x3 + 1)) fun v14 => if v14 = 1 then (f_L_market_h467 F r397 x3 14 S) else (f_L_market_h467 F r397 x3 15 S)
def f_L_market_h439 (F : Nat) (r397 : Int32 → si_St → Option (si_St)) (x3 : Int32) (S : si_St) : Option (si_St) :=
  if ¬ (sd_ok S 92 ∧ S.1 92 3 ≠ 0) then none else Option.bind (sd_rd S 95 x3) fun v15 => if ¬ (sd_ok S 87) then none else Option.bind (f_J4_append_bf812 F v15 S) fun S16 => f_L_market_h448 F r397 x3 S16
def f_L_market_h432 (F : Nat) (r397 : Int32 → si_St → Option (si_St)) (x3 : Int32) (t0 : Int32) (t1 : Int32) (S : si_St) : Option (si_St) :=
  Option.bind (sd_wr S 95 t1 t0) fun S17 => if ¬ (sd_ok S17 87) then none else Option.bind (f_J4_append_15ec4 F 13 S17) fun S18 => f_L_market_h439 F r397 x3 S18
def f_L_market_h418 (F : Nat) (r397 : Int32 → si_St → Option (si_St)) (x3 : Int32) (t0 : Int32) (t1 : Int32) (t2 : Int32) (S : si_St) : Option (si_St) :=
  Option.bind (sd_wr S 95 t2 (t1 + t0)) fun S19 => if ¬ (sd_ok S19 92 ∧ S19.1 92 3 ≠ 0) then none else Option.bind (f_L_draw F 91 2 S19) fun q20 => f_L_market_h432 F r397 x3 q20.1 (x3 + 1) q20.2
def f_L_market_h397 (F : Nat) (r397 : Int32 → si_St → Option (si_St)) (x3 : Int32) (S : si_St) : Option (si_St) :=
  if ¬ (sd_ok S 92 ∧ S.1 92 3 ≠ 0) then none else Option.bind (sd_al S 95) fun v21 => if v21 ≤ x3 then (Option.bind (sd_na S 96 3) fun S22 => f_L_market_h481 F S22) else (if ¬ (sd_ok S 92 ∧ S.1 92 3 ≠ 0) then none else Option.bind (f_L_draw F 91 6 S) fun q23 => f_L_market_h418 F r397 x3 q23.1 2 x3 q23.2)
def f_L_market_l397 (F : Nat) : Nat → Int32 → si_St → Option (si_St)
 | 0 => fun _ _ => none
 | n + 1 => fun x3 S => f_L_market_h397 F (f_L_market_l397 F n) x3 S
def f_L_market_h392 (F : Nat) (S : si_St) : Option (si_St) :=
  Option.bind (sd_pi S 92 3 1) fun S24 => f_L_market_l397 F F 0 S24
def f_L_market_h388 (F : Nat) (t0 : Int32) (t1 : Int32) (t2 : Int32) (S : si_St) : Option (si_St) :=
  Option.bind (sd_na S 95 (t2 * (t1 + t0))) fun S25 => f_L_market_h392 F S25
def f_L_market_h373 (F : Nat) (r228 : Int32 → si_St → Option (si_St)) (x3 : Int32) (S : si_St) : Option (si_St) :=
  Option.bind (some (x3 + 1)) fun v26 => r228 v26 S
def f_L_market_h367 (F : Nat) (r228 : Int32 → si_St → Option (si_St)) (x3 : Int32) (S : si_St) : Option (si_St) :=
  if ¬ (sd_ok S 87) then none else Option.bind (f_J4_append_cf468 F 59 S) fun S27 => f_L_market_h373 F r228 x3 S27
def f_L_market_h366 (F : Nat) (r228 : Int32 → si_St → Option (si_St)) (x3 : Int32) (S : si_St) : Option (si_St) :=
  f_L_market_h367 F r228 x3 S
def f_L_market_h361 (F : Nat) (r228 : Int32 → si_St → Option (si_St)) (x3 : Int32) (x5 : Int32) (S : si_St) : Option (si_St) :=
  if ¬ (sd_ok S 87) then none else Option.bind (f_J4_append_bf812 F x5 S) fun S28 => f_L_market_h366 F r228 x3 S28
def f_L_market_h358 (F : Nat) (r228 : Int32 → si_St → Option (si_St)) (x3 : Int32) (x5 : Int32) (gt0 : Nat) (S : si_St) : Option (si_St) :=
  if ¬ (sd_ok S 87) then none else Option.bind (f_J4_append_15ec4 F gt0 S) fun S29 => f_L_market_h361 F r228 x3 x5 S29
def f_L_market_h339 (F : Nat) (r228 : Int32 → si_St → Option (si_St)) (x3 : Int32) (x5 : Int32) (x6 : Int32) (S : si_St) : Option (si_St) :=
  if x5 ≤ 0 then (f_L_market_h367 F r228 x3 S) else (if x6 = 0 then (f_L_market_h358 F r228 x3 x5 12 S) else (f_L_market_h358 F r228 x3 x5 11 S))
def f_L_market_h334 (F : Nat) (r228 : Int32 → si_St → Option (si_St)) (x3 : Int32) (x4 : Int32) (x5 : Int32) (x6 : Int32) (S : si_St) : Option (si_St) :=
  if ¬ (sd_ok S 87) then none else Option.bind (f_J4_append_bf812 F x4 S) fun S30 => f_L_market_h339 F r228 x3 x5 x6 S30
def f_L_market_h326 (F : Nat) (r228 : Int32 → si_St → Option (si_St)) (x3 : Int32) (x4 : Int32) (x5 : Int32) (x6 : Int32) (t0 : Int32) (t1 : Int32) (t2 : Int32) (S : si_St) : Option (si_St) :=
  Option.bind (sd_wr S 94 t2 (t1 + t0)) fun S31 => if ¬ (sd_ok S31 87) then none else Option.bind (f_J4_append_15ec4 F 10 S31) fun S32 => f_L_market_h334 F r228 x3 x4 x5 x6 S32
def f_L_market_h304 (F : Nat) (r228 : Int32 → si_St → Option (si_St)) (x3 : Int32) (x4 : Int32) (x5 : Int32) (t0 : Int32) (S : si_St) : Option (si_St) :=
  if ¬ (sd_ok S 92 ∧ S.1 92 2 ≠ 0) then none else if t0 = 0 then (f_L_market_h326 F r228 x3 x4 x5 t0 (-x5) x4 x3 S) else (f_L_market_h326 F r228 x3 x4 x5 t0 x5 x4 x3 S)
def f_L_market_h296 (F : Nat) (r228 : Int32 → si_St → Option (si_St)) (x3 : Int32) (x4 : Int32) (x5 : Int32) (t0 : Int32) (S : si_St) : Option (si_St) :=
  if t0 = 0 then (f_L_market_h304 F r228 x3 x4 x5 1 S) else (f_L_market_h304 F r228 x3 x4 x5 0 S)
def f_L_market_h289 (F : Nat) (r228 : Int32 → si_St → Option (si_St)) (x3 : Int32) (x4 : Int32) (t0 : Int32) (S : si_St) : Option (si_St) :=
  Option.bind (f_L_draw F 91 2 S) fun q33 => f_L_market_h296 F r228 x3 x4 t0 q33.1 q33.2
def f_L_market_h285 (F : Nat) (r228 : Int32 → si_St → Option (si_St)) (x3 : Int32) (x4 : Int32) (t0 : Int32) (S : si_St) : Option (si_St) :=
  f_L_market_h289 F r228 x3 x4 t0 S
def f_L_market_h276 (F : Nat) (r228 : Int32 → si_St → Option (si_St)) (x3 : Int32) (x4 : Int32) (t0 : Int32) (S : si_St) : Option (si_St) :=
  if t0 = 0 then (Option.bind (f_L_draw F 91 9 S) fun q34 => f_L_market_h285 F r228 x3 x4 q34.1 q34.2) else (f_L_market_h289 F r228 x3 x4 0 S)
def f_L_market_h268 (F : Nat) (r228 : Int32 → si_St → Option (si_St)) (x3 : Int32) (t0 : Int32) (t1 : Int32) (S : si_St) : Option (si_St) :=
  Option.bind (some (t1 + t0)) fun v35 => Option.bind (f_L_draw F 91 3 S) fun q36 => f_L_market_h276 F r228 x3 v35 q36.1 q36.2
def f_L_market_h267 (F : Nat) (r228 : Int32 → si_St → Option (si_St)) (x3 : Int32) (t0 : Int32) (t1 : Int32) (t2 : Int32) (S : si_St) : Option (si_St) :=
  f_L_market_h268 F r228 x3 (t1 + t0) t2 S
def f_L_market_h250 (F : Nat) (r228 : Int32 → si_St → Option (si_St)) (x3 : Int32) (t0 : Int32) (t1 : Int32) (S : si_St) : Option (si_St) :=
  if t0 = 0 then (f_L_market_h268 F r228 x3 100 t1 S) else (Option.bind (f_L_draw F 91 900 S) fun q37 => f_L_market_h267 F r228 x3 q37.1 10 t1 q37.2)
def f_L_market_h244 (F : Nat) (r228 : Int32 → si_St → Option (si_St)) (x3 : Int32) (t0 : Int32) (t1 : Int32) (S : si_St) : Option (si_St) :=
  Option.bind (f_L_draw F 91 2 S) fun q38 => f_L_market_h250 F r228 x3 q38.1 (t1 + t0) q38.2
def f_L_market_h228 (F : Nat) (r228 : Int32 → si_St → Option (si_St)) (x3 : Int32) (S : si_St) : Option (si_St) :=
  if ¬ (sd_ok S 92 ∧ S.1 92 2 ≠ 0) then none else Option.bind (sd_al S 94) fun v39 => if v39 ≤ x3 then (Option.bind (f_L_draw F 91 2 S) fun q40 => f_L_market_h388 F q40.1 1 2 q40.2) else (Option.bind (f_L_draw F 91 9 S) fun q41 => f_L_market_h244 F r228 x3 q41.1 1 q41.2)
def f_L_market_l228 (F : Nat) : Nat → Int32 → si_St → Option (si_St)
 | 0 => fun _ _ => none
 | n + 1 => fun x3 S => f_L_market_h228 F (f_L_market_l228 F n) x3 S
def f_L_market_h223 (F : Nat) (S : si_St) : Option (si_St) :=
  Option.bind (sd_pi S 92 2 1) fun S42 => f_L_market_l228 F F 0 S42
def f_L_market_h220 (F : Nat) (t0 : Int32) (t1 : Int32) (S : si_St) : Option (si_St) :=
  Option.bind (sd_na S 94 (t1 + t0)) fun S43 => f_L_market_h223 F S43
def f_L_market_h206 (F : Nat) (r59 : Int32 → si_St → Option (si_St)) (x3 : Int32) (S : si_St) : Option (si_St) :=
  Option.bind (some (x3 + 4)) fun v44 => r59 v44 S
def f_L_market_h201 (F : Nat) (r59 : Int32 → si_St → Option (si_St)) (x3 : Int32) (S : si_St) : Option (si_St) :=
  if ¬ (sd_ok S 87) then none else Option.bind (f_J4_append_cf468 F 59 S) fun S45 => f_L_market_h206 F r59 x3 S45
def f_L_market_h190 (F : Nat) (r59 : Int32 → si_St → Option (si_St)) (x3 : Int32) (S : si_St) : Option (si_St) :=
  if ¬ (sd_ok S 92 ∧ S.1 92 1 ≠ 0) then none else Option.bind (sd_rd S 93 (x3 + 3)) fun v46 => if ¬ (sd_ok S 87) then none else Option.bind (f_J4_append_bf812 F v46 S) fun S47 => f_L_market_h201 F r59 x3 S47
def f_L_market_h185 (F : Nat) (r59 : Int32 → si_St → Option (si_St)) (x3 : Int32) (S : si_St) : Option (si_St) :=
  if ¬ (sd_ok S 87) then none else Option.bind (f_J4_append_cf468 F 32 S) fun S48 => f_L_market_h190 F r59 x3 S48
def f_L_market_h174 (F : Nat) (r59 : Int32 → si_St → Option (si_St)) (x3 : Int32) (S : si_St) : Option (si_St) :=
  if ¬ (sd_ok S 92 ∧ S.1 92 1 ≠ 0) then none else Option.bind (sd_rd S 93 (x3 + 2)) fun v49 => if ¬ (sd_ok S 87) then none else Option.bind (f_J4_append_bf812 F v49 S) fun S50 => f_L_market_h185 F r59 x3 S50
def f_L_market_h169 (F : Nat) (r59 : Int32 → si_St → Option (si_St)) (x3 : Int32) (S : si_St) : Option (si_St) :=
  if ¬ (sd_ok S 87) then none else Option.bind (f_J4_append_cf468 F 32 S) fun S51 => f_L_market_h174 F r59 x3 S51
def f_L_market_h158 (F : Nat) (r59 : Int32 → si_St → Option (si_St)) (x3 : Int32) (S : si_St) : Option (si_St) :=
  if ¬ (sd_ok S 92 ∧ S.1 92 1 ≠ 0) then none else Option.bind (sd_rd S 93 (x3 + 1)) fun v52 => if ¬ (sd_ok S 87) then none else Option.bind (f_J4_append_bf812 F v52 S) fun S53 => f_L_market_h169 F r59 x3 S53
def f_L_market_h153 (F : Nat) (r59 : Int32 → si_St → Option (si_St)) (x3 : Int32) (S : si_St) : Option (si_St) :=
  if ¬ (sd_ok S 87) then none else Option.bind (f_J4_append_cf468 F 32 S) fun S54 => f_L_market_h158 F r59 x3 S54
def f_L_market_h144 (F : Nat) (r59 : Int32 → si_St → Option (si_St)) (x3 : Int32) (S : si_St) : Option (si_St) :=
  if ¬ (sd_ok S 92 ∧ S.1 92 1 ≠ 0) then none else Option.bind (sd_rd S 93 x3) fun v55 => if ¬ (sd_ok S 87) then none else Option.bind (f_J4_append_bf812 F v55 S) fun S56 => f_L_market_h153 F r59 x3 S56
def f_L_market_h136 (F : Nat) (r59 : Int32 → si_St → Option (si_St)) (x3 : Int32) (t0 : Int32) (t1 : Int32) (t2 : Int32) (S : si_St) : Option (si_St) :=
  Option.bind (sd_wr S 93 t2 (t1 + t0)) fun S57 => if ¬ (sd_ok S57 87) then none else Option.bind (f_J4_append_15ec4 F 9 S57) fun S58 => f_L_market_h144 F r59 x3 S58
def f_L_market_h109 (F : Nat) (r59 : Int32 → si_St → Option (si_St)) (x3 : Int32) (t0 : Int32) (t1 : Int32) (t2 : Int32) (S : si_St) : Option (si_St) :=
  Option.bind (sd_wr S 93 t2 (t1 + t0)) fun S59 => if ¬ (sd_ok S59 92 ∧ S59.1 92 1 ≠ 0) then none else if ¬ (sd_ok S59 92 ∧ S59.1 92 1 ≠ 0) then none else Option.bind (sd_rd S59 93 (x3 + 2)) fun v60 => Option.bind (f_L_draw F 91 4000 S59) fun q61 => f_L_market_h136 F r59 x3 q61.1 (20 * v60) (x3 + 3) q61.2
def f_L_market_h94 (F : Nat) (r59 : Int32 → si_St → Option (si_St)) (x3 : Int32) (t0 : Int32) (t1 : Int32) (S : si_St) : Option (si_St) :=
  Option.bind (sd_wr S 93 t1 t0) fun S62 => if ¬ (sd_ok S62 92 ∧ S62.1 92 1 ≠ 0) then none else Option.bind (f_L_draw F 91 9 S62) fun q63 => f_L_market_h109 F r59 x3 q63.1 1 (x3 + 2) q63.2
def f_L_market_h81 (F : Nat) (r59 : Int32 → si_St → Option (si_St)) (x3 : Int32) (t0 : Int32) (t1 : Int32) (S : si_St) : Option (si_St) :=
  Option.bind (sd_wr S 93 t1 t0) fun S64 => if ¬ (sd_ok S64 92 ∧ S64.1 92 1 ≠ 0) then none else Option.bind (f_L_draw F 91 3 S64) fun q65 => f_L_market_h94 F r59 x3 q65.1 (x3 + 1) q65.2
def f_L_market_h59 (F : Nat) (r59 : Int32 → si_St → Option (si_St)) (x3 : Int32) (S : si_St) : Option (si_St) :=
  if ¬ (sd_ok S 92 ∧ S.1 92 1 ≠ 0) then none else Option.bind (sd_al S 93) fun v66 => if v66 ≤ x3 then (Option.bind (f_L_draw F 91 4 S) fun q67 => f_L_market_h220 F q67.1 3 q67.2) else (if ¬ (sd_ok S 92 ∧ S.1 92 1 ≠ 0) then none else Option.bind (sd_gi S 92 0) fun v68 => Option.bind (f_L_draw F 91 v68 S) fun q69 => f_L_market_h81 F r59 x3 q69.1 x3 q69.2)
def f_L_market_l59 (F : Nat) : Nat → Int32 → si_St → Option (si_St)
 | 0 => fun _ _ => none
 | n + 1 => fun x3 S => f_L_market_h59 F (f_L_market_l59 F n) x3 S
def f_L_market_h54 (F : Nat) (S : si_St) : Option (si_St) :=
  Option.bind (sd_pi S 92 1 1) fun S70 => f_L_market_l59 F F 0 S70
def f_L_market_h50 (F : Nat) (t0 : Int32) (t1 : Int32) (t2 : Int32) (S : si_St) : Option (si_St) :=
  Option.bind (sd_na S 93 (t2 * (t1 + t0))) fun S71 => f_L_market_h54 F S71
def f_L_market_h35 (F : Nat) (r21 : Int32 → si_St → Option (si_St)) (x3 : Int32) (S : si_St) : Option (si_St) :=
  Option.bind (some (x3 + 1)) fun v72 => r21 v72 S
def f_L_market_h21 (F : Nat) (r21 : Int32 → si_St → Option (si_St)) (x3 : Int32) (S : si_St) : Option (si_St) :=
  Option.bind (sd_gi S 92 0) fun v73 => if v73 ≤ x3 then (Option.bind (f_L_draw F 91 4 S) fun q74 => f_L_market_h50 F q74.1 1 4 q74.2) else (if ¬ (sd_ok S 87) then none else Option.bind (f_J4_append_15ec4 F 8 S) fun S75 => f_L_market_h35 F r21 x3 S75)
def f_L_market_l21 (F : Nat) : Nat → Int32 → si_St → Option (si_St)
 | 0 => fun _ _ => none
 | n + 1 => fun x3 S => f_L_market_h21 F (f_L_market_l21 F n) x3 S
def f_L_market_h15 (F : Nat) (t0 : Int32) (t1 : Int32) (S : si_St) : Option (si_St) :=
  Option.bind (sd_pi S 92 0 (t1 + t0)) fun S76 => f_L_market_l21 F F 0 S76
def f_L_market_h7 (F : Nat) (S : si_St) : Option (si_St) :=
  Option.bind (f_L_draw F 91 3 S) fun q77 => f_L_market_h15 F q77.1 1 q77.2
def f_L_market_h3 (F : Nat) (S : si_St) : Option (si_St) :=
  Option.bind (f_X10_init F S) fun S78 => f_L_market_h7 F S78
def f_L_market_h0 (F : Nat) (S : si_St) : Option (si_St) :=
  Option.bind (sd_no S 92 5) fun S79 => f_L_market_h3 F S79
def f_L_market (F : Nat) (S : si_St) : Option (si_St) :=
  f_L_market_h0 F S
theorem mo_L_market_h538 (F : Nat) (S : si_St) (o : si_St) (h : f_L_market_h538 F S = some o) : sd_le S o := by
  have g : sd_le S S := sd_le.rf
  unfold f_L_market_h538 at h
  obtain rfl := Option.some.inj h
  exact g
theorem mo_L_market_h537 (F : Nat) (S : si_St) (o : si_St) (h : f_L_market_h537 F S = some o) : sd_le S o := by
  have g : sd_le S S := sd_le.rf
  unfold f_L_market_h537 at h
  exact g.tr (mo_L_market_h538 F _ _ h)
theorem mo_L_market_h532 (F : Nat) (S : si_St) (o : si_St) (h : f_L_market_h532 F S = some o) : sd_le S o := by
  have g : sd_le S S := sd_le.rf
  unfold f_L_market_h532 at h
  have hok534 : sd_ok S 87 := Decidable.byContradiction fun h9 => by rw [if_pos h9] at h; cases h
  have h := si_in (not_not_intro hok534) h
  obtain ⟨S1, eS1, h⟩ := si_ob h
  have g := g.tr (mo_J4_append_cf468 F 59 S S1 eS1)
  exact g.tr (mo_L_market_h537 F _ _ h)
theorem mo_L_market_h523 (F : Nat) (S : si_St) (o : si_St) (h : f_L_market_h523 F S = some o) : sd_le S o := by
  have g : sd_le S S := sd_le.rf
  unfold f_L_market_h523 at h
  have hgr524 : sd_ok S 92 ∧ S.1 92 4 ≠ 0 := Decidable.byContradiction fun h9 => by rw [if_pos h9] at h; cases h
  have h := si_in (not_not_intro hgr524) h
  obtain ⟨v2, ev2, h⟩ := si_ob h
  have hok529 : sd_ok S 87 := Decidable.byContradiction fun h9 => by rw [if_pos h9] at h; cases h
  have h := si_in (not_not_intro hok529) h
  obtain ⟨S3, eS3, h⟩ := si_ob h
  have g := g.tr (mo_J4_append_bf812 F v2 S S3 eS3)
  exact g.tr (mo_L_market_h532 F _ _ h)
theorem mo_L_market_h515 (F : Nat) (t0 : Int32) (t1 : Int32) (t2 : Int32) (S : si_St) (o : si_St) (h : f_L_market_h515 F t0 t1 t2 S = some o) : sd_le S o := by
  have g : sd_le S S := sd_le.rf
  unfold f_L_market_h515 at h
  obtain ⟨S4, eS4, h⟩ := si_ob h
  have g := g.tr (sd_wr_m eS4)
  have hok520 : sd_ok S4 87 := Decidable.byContradiction fun h9 => by rw [if_pos h9] at h; cases h
  have h := si_in (not_not_intro hok520) h
  obtain ⟨S5, eS5, h⟩ := si_ob h
  have g := g.tr (mo_J4_append_15ec4 F 16 (by decide) S4 S5 eS5)
  exact g.tr (mo_L_market_h523 F _ _ h)
theorem mo_L_market_h501 (F : Nat) (t0 : Int32) (S : si_St) (o : si_St) (h : f_L_market_h501 F t0 S = some o) : sd_le S o := by
  have g : sd_le S S := sd_le.rf
  unfold f_L_market_h501 at h
  rcases Decidable.em (t0 = 0) with c501 | c501
  · have h := si_ip c501 h
    have hgr505 : sd_ok S 92 ∧ S.1 92 4 ≠ 0 := Decidable.byContradiction fun h9 => by rw [if_pos h9] at h; cases h
    have h := si_in (not_not_intro hgr505) h
    obtain ⟨q6, eq6, h⟩ := si_ob h
    have g := g.tr (mo_L_draw F 91 rfl 5 S q6 eq6)
    exact g.tr (mo_L_market_h515 F _ _ _ _ _ h)
  · have h := si_in c501 h
    exact g.tr (mo_L_market_h538 F _ _ h)
theorem mo_L_market_h481 (F : Nat) (S : si_St) (o : si_St) (h : f_L_market_h481 F S = some o) : sd_le S o := by
  have g : sd_le S S := sd_le.rf
  unfold f_L_market_h481 at h
  obtain ⟨S7, eS7, h⟩ := si_ob h
  have g := g.tr (sd_wr_m eS7)
  obtain ⟨S8, eS8, h⟩ := si_ob h
  have g := g.tr (sd_wr_m eS8)
  obtain ⟨S9, eS9, h⟩ := si_ob h
  have g := g.tr (sd_wr_m eS9)
  obtain ⟨S10, eS10, h⟩ := si_ob h
  have g := g.tr (sd_pi_m eS10)
  obtain ⟨q11, eq11, h⟩ := si_ob h
  have g := g.tr (mo_L_draw F 91 rfl 2 S10 q11 eq11)
  exact g.tr (mo_L_market_h501 F _ _ _ h)
theorem mo_L_market_h470 (F : Nat) (r397 : Int32 → si_St → Option (si_St)) (hr397 : ∀ (x3 : Int32) (S : si_St) (o : si_St), r397 x3 S = some o → sd_le S o) (x3 : Int32) (S : si_St) (o : si_St) (h : f_L_market_h470 F r397 x3 S = some o) : sd_le S o := by
  have g : sd_le S S := sd_le.rf
  unfold f_L_market_h470 at h
  obtain ⟨v12, ev12, h⟩ := si_ob h
  exact g.tr (hr397 _ _ _ h)
theorem mo_L_market_h467 (F : Nat) (r397 : Int32 → si_St → Option (si_St)) (hr397 : ∀ (x3 : Int32) (S : si_St) (o : si_St), r397 x3 S = some o → sd_le S o) (x3 : Int32) (gt0 : Nat) (hgt0 : gt0 < 17) (S : si_St) (o : si_St) (h : f_L_market_h467 F r397 x3 gt0 S = some o) : sd_le S o := by
  have g : sd_le S S := sd_le.rf
  unfold f_L_market_h467 at h
  have hok467 : sd_ok S 87 := Decidable.byContradiction fun h9 => by rw [if_pos h9] at h; cases h
  have h := si_in (not_not_intro hok467) h
  obtain ⟨S13, eS13, h⟩ := si_ob h
  have g := g.tr (mo_J4_append_15ec4 F gt0 hgt0 S S13 eS13)
  exact g.tr (mo_L_market_h470 F r397 hr397 _ _ _ h)
theorem mo_L_market_h448 (F : Nat) (r397 : Int32 → si_St → Option (si_St)) (hr397 : ∀ (x3 : Int32) (S : si_St) (o : si_St), r397 x3 S = some o → sd_le S o) (x3 : Int32) (S : si_St) (o : si_St) (h : f_L_market_h448 F r397 x3 S = some o) : sd_le S o := by
  have g : sd_le S S := sd_le.rf
  unfold f_L_market_h448 at h
  have hgr449 : sd_ok S 92 ∧ S.1 92 3 ≠ 0 := Decidable.byContradiction fun h9 => by rw [if_pos h9] at h; cases h
  have h := si_in (not_not_intro hgr449) h
  obtain ⟨v14, ev14, h⟩ := si_ob h
  rcases Decidable.em (v14 = 1) with c457 | c457
  · have h := si_ip c457 h
    exact g.tr (mo_L_market_h467 F r397 hr397 _ _ (by decide) _ _ h)
  · have h := si_in c457 h
    exact g.tr (mo_L_market_h467 F r397 hr397 _ _ (by decide) _ _ h)
theorem mo_L_market_h439 (F : Nat) (r397 : Int32 → si_St → Option (si_St)) (hr397 : ∀ (x3 : Int32) (S : si_St) (o : si_St), r397 x3 S = some o → sd_le S o) (x3 : Int32) (S : si_St) (o : si_St) (h : f_L_market_h439 F r397 x3 S = some o) : sd_le S o := by
  have g : sd_le S S := sd_le.rf
  unfold f_L_market_h439 at h
  have hgr440 : sd_ok S 92 ∧ S.1 92 3 ≠ 0 := Decidable.byContradiction fun h9 => by rw [if_pos h9] at h; cases h
  have h := si_in (not_not_intro hgr440) h
  obtain ⟨v15, ev15, h⟩ := si_ob h
  have hok445 : sd_ok S 87 := Decidable.byContradiction fun h9 => by rw [if_pos h9] at h; cases h
  have h := si_in (not_not_intro hok445) h
  obtain ⟨S16, eS16, h⟩ := si_ob h
  have g := g.tr (mo_J4_append_bf812 F v15 S S16 eS16)
  exact g.tr (mo_L_market_h448 F r397 hr397 _ _ _ h)
theorem mo_L_market_h432 (F : Nat) (r397 : Int32 → si_St → Option (si_St)) (hr397 : ∀ (x3 : Int32) (S : si_St) (o : si_St), r397 x3 S = some o → sd_le S o) (x3 : Int32) (t0 : Int32) (t1 : Int32) (S : si_St) (o : si_St) (h : f_L_market_h432 F r397 x3 t0 t1 S = some o) : sd_le S o := by
  have g : sd_le S S := sd_le.rf
  unfold f_L_market_h432 at h
  obtain ⟨S17, eS17, h⟩ := si_ob h
  have g := g.tr (sd_wr_m eS17)
  have hok436 : sd_ok S17 87 := Decidable.byContradiction fun h9 => by rw [if_pos h9] at h; cases h
  have h := si_in (not_not_intro hok436) h
  obtain ⟨S18, eS18, h⟩ := si_ob h
  have g := g.tr (mo_J4_append_15ec4 F 13 (by decide) S17 S18 eS18)
  exact g.tr (mo_L_market_h439 F r397 hr397 _ _ _ h)
theorem mo_L_market_h418 (F : Nat) (r397 : Int32 → si_St → Option (si_St)) (hr397 : ∀ (x3 : Int32) (S : si_St) (o : si_St), r397 x3 S = some o → sd_le S o) (x3 : Int32) (t0 : Int32) (t1 : Int32) (t2 : Int32) (S : si_St) (o : si_St) (h : f_L_market_h418 F r397 x3 t0 t1 t2 S = some o) : sd_le S o := by
  have g : sd_le S S := sd_le.rf
  unfold f_L_market_h418 at h
  obtain ⟨S19, eS19, h⟩ := si_ob h
  have g := g.tr (sd_wr_m eS19)
  have hgr421 : sd_ok S19 92 ∧ S19.1 92 3 ≠ 0 := Decidable.byContradiction fun h9 => by rw [if_pos h9] at h; cases h
  have h := si_in (not_not_intro hgr421) h
  obtain ⟨q20, eq20, h⟩ := si_ob h
  have g := g.tr (mo_L_draw F 91 rfl 2 S19 q20 eq20)
  exact g.tr (mo_L_market_h432 F r397 hr397 _ _ _ _ _ h)
theorem mo_L_market_h397 (F : Nat) (r397 : Int32 → si_St → Option (si_St)) (hr397 : ∀ (x3 : Int32) (S : si_St) (o : si_St), r397 x3 S = some o → sd_le S o) (x3 : Int32) (S : si_St) (o : si_St) (h : f_L_market_h397 F r397 x3 S = some o) : sd_le S o := by
  have g : sd_le S S := sd_le.rf
  unfold f_L_market_h397 at h
  have hgr399 : sd_ok S 92 ∧ S.1 92 3 ≠ 0 := Decidable.byContradiction fun h9 => by rw [if_pos h9] at h; cases h
  have h := si_in (not_not_intro hgr399) h
  obtain ⟨v21, ev21, h⟩ := si_ob h
  rcases Decidable.em (v21 ≤ x3) with c403 | c403
  · have h := si_ip c403 h
    obtain ⟨S22, eS22, h⟩ := si_ob h
    have g := g.tr (sd_na_m eS22)
    exact g.tr (mo_L_market_h481 F _ _ h)
  · have h := si_in c403 h
    have hgr407 : sd_ok S 92 ∧ S.1 92 3 ≠ 0 := Decidable.byContradiction fun h9 => by rw [if_pos h9] at h; cases h
    have h := si_in (not_not_intro hgr407) h
    obtain ⟨q23, eq23, h⟩ := si_ob h
    have g := g.tr (mo_L_draw F 91 rfl 6 S q23 eq23)
    exact g.tr (mo_L_market_h418 F r397 hr397 _ _ _ _ _ _ h)
theorem mo_L_market_l397 (F : Nat) : ∀ (n : Nat) (x3 : Int32) (S : si_St) (o : si_St), f_L_market_l397 F n x3 S = some o → sd_le S o := by
  intro n
  induction n with
  | zero => intro x3 S o h; cases h
  | succ n ih =>
    intro x3 S o h
    exact mo_L_market_h397 F (f_L_market_l397 F n) ih x3 S o h
theorem mo_L_market_h392 (F : Nat) (S : si_St) (o : si_St) (h : f_L_market_h392 F S = some o) : sd_le S o := by
  have g : sd_le S S := sd_le.rf
  unfold f_L_market_h392 at h
  obtain ⟨S24, eS24, h⟩ := si_ob h
  have g := g.tr (sd_pi_m eS24)
  exact g.tr (mo_L_market_l397 F F _ _ _ h)
theorem mo_L_market_h388 (F : Nat) (t0 : Int32) (t1 : Int32) (t2 : Int32) (S : si_St) (o : si_St) (h : f_L_market_h388 F t0 t1 t2 S = some o) : sd_le S o := by
  have g : sd_le S S := sd_le.rf
  unfold f_L_market_h388 at h
  obtain ⟨S25, eS25, h⟩ := si_ob h
  have g := g.tr (sd_na_m eS25)
  exact g.tr (mo_L_market_h392 F _ _ h)
theorem mo_L_market_h373 (F : Nat) (r228 : Int32 → si_St → Option (si_St)) (hr228 : ∀ (x3 : Int32) (S : si_St) (o : si_St), r228 x3 S = some o → sd_le S o) (x3 : Int32) (S : si_St) (o : si_St) (h : f_L_market_h373 F r228 x3 S = some o) : sd_le S o := by
  have g : sd_le S S := sd_le.rf
  unfold f_L_market_h373 at h
  obtain ⟨v26, ev26, h⟩ := si_ob h
  exact g.tr (hr228 _ _ _ h)
theorem mo_L_market_h367 (F : Nat) (r228 : Int32 → si_St → Option (si_St)) (hr228 : ∀ (x3 : Int32) (S : si_St) (o : si_St), r228 x3 S = some o → sd_le S o) (x3 : Int32) (S : si_St) (o : si_St) (h : f_L_market_h367 F r228 x3 S = some o) : sd_le S o := by
  have g : sd_le S S := sd_le.rf
  unfold f_L_market_h367 at h
  have hok370 : sd_ok S 87 := Decidable.byContradiction fun h9 => by rw [if_pos h9] at h; cases h
  have h := si_in (not_not_intro hok370) h
  obtain ⟨S27, eS27, h⟩ := si_ob h
  have g := g.tr (mo_J4_append_cf468 F 59 S S27 eS27)
  exact g.tr (mo_L_market_h373 F r228 hr228 _ _ _ h)
theorem mo_L_market_h366 (F : Nat) (r228 : Int32 → si_St → Option (si_St)) (hr228 : ∀ (x3 : Int32) (S : si_St) (o : si_St), r228 x3 S = some o → sd_le S o) (x3 : Int32) (S : si_St) (o : si_St) (h : f_L_market_h366 F r228 x3 S = some o) : sd_le S o := by
  have g : sd_le S S := sd_le.rf
  unfold f_L_market_h366 at h
  exact g.tr (mo_L_market_h367 F r228 hr228 _ _ _ h)
theorem mo_L_market_h361 (F : Nat) (r228 : Int32 → si_St → Option (si_St)) (hr228 : ∀ (x3 : Int32) (S : si_St) (o : si_St), r228 x3 S = some o → sd_le S o) (x3 : Int32) (x5 : Int32) (S : si_St) (o : si_St) (h : f_L_market_h361 F r228 x3 x5 S = some o) : sd_le S o := by
  have g : sd_le S S := sd_le.rf
  unfold f_L_market_h361 at h
  have hok363 : sd_ok S 87 := Decidable.byContradiction fun h9 => by rw [if_pos h9] at h; cases h
  have h := si_in (not_not_intro hok363) h
  obtain ⟨S28, eS28, h⟩ := si_ob h
  have g := g.tr (mo_J4_append_bf812 F x5 S S28 eS28)
  exact g.tr (mo_L_market_h366 F r228 hr228 _ _ _ h)
theorem mo_L_market_h358 (F : Nat) (r228 : Int32 → si_St → Option (si_St)) (hr228 : ∀ (x3 : Int32) (S : si_St) (o : si_St), r228 x3 S = some o → sd_le S o) (x3 : Int32) (x5 : Int32) (gt0 : Nat) (hgt0 : gt0 < 17) (S : si_St) (o : si_St) (h : f_L_market_h358 F r228 x3 x5 gt0 S = some o) : sd_le S o := by
  have g : sd_le S S := sd_le.rf
  unfold f_L_market_h358 at h
  have hok358 : sd_ok S 87 := Decidable.byContradiction fun h9 => by rw [if_pos h9] at h; cases h
  have h := si_in (not_not_intro hok358) h
  obtain ⟨S29, eS29, h⟩ := si_ob h
  have g := g.tr (mo_J4_append_15ec4 F gt0 hgt0 S S29 eS29)
  exact g.tr (mo_L_market_h361 F r228 hr228 _ _ _ _ h)
theorem mo_L_market_h339 (F : Nat) (r228 : Int32 → si_St → Option (si_St)) (hr228 : ∀ (x3 : Int32) (S : si_St) (o : si_St), r228 x3 S = some o → sd_le S o) (x3 : Int32) (x5 : Int32) (x6 : Int32) (S : si_St) (o : si_St) (h : f_L_market_h339 F r228 x3 x5 x6 S = some o) : sd_le S o := by
  have g : sd_le S S := sd_le.rf
  unfold f_L_market_h339 at h
  rcases Decidable.em (x5 ≤ 0) with c342 | c342
  · have h := si_ip c342 h
    exact g.tr (mo_L_market_h367 F r228 hr228 _ _ _ h)
  · have h := si_in c342 h
    rcases Decidable.em (x6 = 0) with c348 | c348
    · have h := si_ip c348 h
      exact g.tr (mo_L_market_h358 F r228 hr228 _ _ _ (by decide) _ _ h)
    · have h := si_in c348 h
      exact g.tr (mo_L_market_h358 F r228 hr228 _ _ _ (by decide) _ _ h)
theorem mo_L_market_h334 (F : Nat) (r228 : Int32 → si_St → Option (si_St)) (hr228 : ∀ (x3 : Int32) (S : si_St) (o : si_St), r228 x3 S = some o → sd_le S o) (x3 : Int32) (x4 : Int32) (x5 : Int32) (x6 : Int32) (S : si_St) (o : si_St) (h : f_L_market_h334 F r228 x3 x4 x5 x6 S = some o) : sd_le S o := by
  have g : sd_le S S := sd_le.rf
  unfold f_L_market_h334 at h
  have hok336 : sd_ok S 87 := Decidable.byContradiction fun h9 => by rw [if_pos h9] at h; cases h
  have h := si_in (not_not_intro hok336) h
  obtain ⟨S30, eS30, h⟩ := si_ob h
  have g := g.tr (mo_J4_append_bf812 F x4 S S30 eS30)
  exact g.tr (mo_L_market_h339 F r228 hr228 _ _ _ _ _ h)
theorem mo_L_market_h326 (F : Nat) (r228 : Int32 → si_St → Option (si_St)) (hr228 : ∀ (x3 : Int32) (S : si_St) (o : si_St), r228 x3 S = some o → sd_le S o) (x3 : Int32) (x4 : Int32) (x5 : Int32) (x6 : Int32) (t0 : Int32) (t1 : Int32) (t2 : Int32) (S : si_St) (o : si_St) (h : f_L_market_h326 F r228 x3 x4 x5 x6 t0 t1 t2 S = some o) : sd_le S o := by
  have g : sd_le S S := sd_le.rf
  unfold f_L_market_h326 at h
  obtain ⟨S31, eS31, h⟩ := si_ob h
  have g := g.tr (sd_wr_m eS31)
  have hok331 : sd_ok S31 87 := Decidable.byContradiction fun h9 => by rw [if_pos h9] at h; cases h
  have h := si_in (not_not_intro hok331) h
  obtain ⟨S32, eS32, h⟩ := si_ob h
  have g := g.tr (mo_J4_append_15ec4 F 10 (by decide) S31 S32 eS32)
  exact g.tr (mo_L_market_h334 F r228 hr228 _ _ _ _ _ _ h)
theorem mo_L_market_h304 (F : Nat) (r228 : Int32 → si_St → Option (si_St)) (hr228 : ∀ (x3 : Int32) (S : si_St) (o : si_St), r228 x3 S = some o → sd_le S o) (x3 : Int32) (x4 : Int32) (x5 : Int32) (t0 : Int32) (S : si_St) (o : si_St) (h : f_L_market_h304 F r228 x3 x4 x5 t0 S = some o) : sd_le S o := by
  have g : sd_le S S := sd_le.rf
  unfold f_L_market_h304 at h
  have hgr307 : sd_ok S 92 ∧ S.1 92 2 ≠ 0 := Decidable.byContradiction fun h9 => by rw [if_pos h9] at h; cases h
  have h := si_in (not_not_intro hgr307) h
  rcases Decidable.em (t0 = 0) with c315 | c315
  · have h := si_ip c315 h
    exact g.tr (mo_L_market_h326 F r228 hr228 _ _ _ _ _ _ _ _ _ h)
  · have h := si_in c315 h
    exact g.tr (mo_L_market_h326 F r228 hr228 _ _ _ _ _ _ _ _ _ h)
theorem mo_L_market_h296 (F : Nat) (r228 : Int32 → si_St → Option (si_St)) (hr228 : ∀ (x3 : Int32) (S : si_St) (o : si_St), r228 x3 S = some o → sd_le S o) (x3 : Int32) (x4 : Int32) (x5 : Int32) (t0 : Int32) (S : si_St) (o : si_St) (h : f_L_market_h296 F r228 x3 x4 x5 t0 S = some o) : sd_le S o := by
  have g : sd_le S S := sd_le.rf
  unfold f_L_market_h296 at h
  rcases Decidable.em (t0 = 0) with c296 | c296
  · have h := si_ip c296 h
    exact g.tr (mo_L_market_h304 F r228 hr228 _ _ _ _ _ _ h)
  · have h := si_in c296 h
    exact g.tr (mo_L_market_h304 F r228 hr228 _ _ _ _ _ _ h)
theorem mo_L_market_h289 (F : Nat) (r228 : Int32 → si_St → Option (si_St)) (hr228 : ∀ (x3 : Int32) (S : si_St) (o : si_St), r228 x3 S = some o → sd_le S o) (x3 : Int32) (x4 : Int32) (t0 : Int32) (S : si_St) (o : si_St) (h : f_L_market_h289 F r228 x3 x4 t0 S = some o) : sd_le S o := by
  have g : sd_le S S := sd_le.rf
  unfold f_L_market_h289 at h
  obtain ⟨q33, eq33, h⟩ := si_ob h
  have g := g.tr (mo_L_draw F 91 rfl 2 S q33 eq33)
  exact g.tr (mo_L_market_h296 F r228 hr228 _ _ _ _ _ _ h)
theorem mo_L_market_h285 (F : Nat) (r228 : Int32 → si_St → Option (si_St)) (hr228 : ∀ (x3 : Int32) (S : si_St) (o : si_St), r228 x3 S = some o → sd_le S o) (x3 : Int32) (x4 : Int32) (t0 : Int32) (S : si_St) (o : si_St) (h : f_L_market_h285 F r228 x3 x4 t0 S = some o) : sd_le S o := by
  have g : sd_le S S := sd_le.rf
  unfold f_L_market_h285 at h
  exact g.tr (mo_L_market_h289 F r228 hr228 _ _ _ _ _ h)
theorem mo_L_market_h276 (F : Nat) (r228 : Int32 → si_St → Option (si_St)) (hr228 : ∀ (x3 : Int32) (S : si_St) (o : si_St), r228 x3 S = some o → sd_le S o) (x3 : Int32) (x4 : Int32) (t0 : Int32) (S : si_St) (o : si_St) (h : f_L_market_h276 F r228 x3 x4 t0 S = some o) : sd_le S o := by
  have g : sd_le S S := sd_le.rf
  unfold f_L_market_h276 at h
  rcases Decidable.em (t0 = 0) with c276 | c276
  · have h := si_ip c276 h
    obtain ⟨q34, eq34, h⟩ := si_ob h
    have g := g.tr (mo_L_draw F 91 rfl 9 S q34 eq34)
    exact g.tr (mo_L_market_h285 F r228 hr228 _ _ _ _ _ h)
  · have h := si_in c276 h
    exact g.tr (mo_L_market_h289 F r228 hr228 _ _ _ _ _ h)
theorem mo_L_market_h268 (F : Nat) (r228 : Int32 → si_St → Option (si_St)) (hr228 : ∀ (x3 : Int32) (S : si_St) (o : si_St), r228 x3 S = some o → sd_le S o) (x3 : Int32) (t0 : Int32) (t1 : Int32) (S : si_St) (o : si_St) (h : f_L_market_h268 F r228 x3 t0 t1 S = some o) : sd_le S o := by
  have g : sd_le S S := sd_le.rf
  unfold f_L_market_h268 at h
  obtain ⟨v35, ev35, h⟩ := si_ob h
  obtain ⟨q36, eq36, h⟩ := si_ob h
  have g := g.tr (mo_L_draw F 91 rfl 3 S q36 eq36)
  exact g.tr (mo_L_market_h276 F r228 hr228 _ _ _ _ _ h)
theorem mo_L_market_h267 (F : Nat) (r228 : Int32 → si_St → Option (si_St)) (hr228 : ∀ (x3 : Int32) (S : si_St) (o : si_St), r228 x3 S = some o → sd_le S o) (x3 : Int32) (t0 : Int32) (t1 : Int32) (t2 : Int32) (S : si_St) (o : si_St) (h : f_L_market_h267 F r228 x3 t0 t1 t2 S = some o) : sd_le S o := by
  have g : sd_le S S := sd_le.rf
  unfold f_L_market_h267 at h
  exact g.tr (mo_L_market_h268 F r228 hr228 _ _ _ _ _ h)
theorem mo_L_market_h250 (F : Nat) (r228 : Int32 → si_St → Option (si_St)) (hr228 : ∀ (x3 : Int32) (S : si_St) (o : si_St), r228 x3 S = some o → sd_le S o) (x3 : Int32) (t0 : Int32) (t1 : Int32) (S : si_St) (o : si_St) (h : f_L_market_h250 F r228 x3 t0 t1 S = some o) : sd_le S o := by
  have g : sd_le S S := sd_le.rf
  unfold f_L_market_h250 at h
  rcases Decidable.em (t0 = 0) with c250 | c250
  · have h := si_ip c250 h
    exact g.tr (mo_L_market_h268 F r228 hr228 _ _ _ _ _ h)
  · have h := si_in c250 h
    obtain ⟨q37, eq37, h⟩ := si_ob h
    have g := g.tr (mo_L_draw F 91 rfl 900 S q37 eq37)
    exact g.tr (mo_L_market_h267 F r228 hr228 _ _ _ _ _ _ h)
theorem mo_L_market_h244 (F : Nat) (r228 : Int32 → si_St → Option (si_St)) (hr228 : ∀ (x3 : Int32) (S : si_St) (o : si_St), r228 x3 S = some o → sd_le S o) (x3 : Int32) (t0 : Int32) (t1 : Int32) (S : si_St) (o : si_St) (h : f_L_market_h244 F r228 x3 t0 t1 S = some o) : sd_le S o := by
  have g : sd_le S S := sd_le.rf
  unfold f_L_market_h244 at h
  obtain ⟨q38, eq38, h⟩ := si_ob h
  have g := g.tr (mo_L_draw F 91 rfl 2 S q38 eq38)
  exact g.tr (mo_L_market_h250 F r228 hr228 _ _ _ _ _ h)
theorem mo_L_market_h228 (F : Nat) (r228 : Int32 → si_St → Option (si_St)) (hr228 : ∀ (x3 : Int32) (S : si_St) (o : si_St), r228 x3 S = some o → sd_le S o) (x3 : Int32) (S : si_St) (o : si_St) (h : f_L_market_h228 F r228 x3 S = some o) : sd_le S o := by
  have g : sd_le S S := sd_le.rf
  unfold f_L_market_h228 at h
  have hgr230 : sd_ok S 92 ∧ S.1 92 2 ≠ 0 := Decidable.byContradiction fun h9 => by rw [if_pos h9] at h; cases h
  have h := si_in (not_not_intro hgr230) h
  obtain ⟨v39, ev39, h⟩ := si_ob h
  rcases Decidable.em (v39 ≤ x3) with c234 | c234
  · have h := si_ip c234 h
    obtain ⟨q40, eq40, h⟩ := si_ob h
    have g := g.tr (mo_L_draw F 91 rfl 2 S q40 eq40)
    exact g.tr (mo_L_market_h388 F _ _ _ _ _ h)
  · have h := si_in c234 h
    obtain ⟨q41, eq41, h⟩ := si_ob h
    have g := g.tr (mo_L_draw F 91 rfl 9 S q41 eq41)
    exact g.tr (mo_L_market_h244 F r228 hr228 _ _ _ _ _ h)
theorem mo_L_market_l228 (F : Nat) : ∀ (n : Nat) (x3 : Int32) (S : si_St) (o : si_St), f_L_market_l228 F n x3 S = some o → sd_le S o := by
  intro n
  induction n with
  | zero => intro x3 S o h; cases h
  | succ n ih =>
    intro x3 S o h
    exact mo_L_market_h228 F (f_L_market_l228 F n) ih x3 S o h
theorem mo_L_market_h223 (F : Nat) (S : si_St) (o : si_St) (h : f_L_market_h223 F S = some o) : sd_le S o := by
  have g : sd_le S S := sd_le.rf
  unfold f_L_market_h223 at h
  obtain ⟨S42, eS42, h⟩ := si_ob h
  have g := g.tr (sd_pi_m eS42)
  exact g.tr (mo_L_market_l228 F F _ _ _ h)
theorem mo_L_market_h220 (F : Nat) (t0 : Int32) (t1 : Int32) (S : si_St) (o : si_St) (h : f_L_market_h220 F t0 t1 S = some o) : sd_le S o := by
  have g : sd_le S S := sd_le.rf
  unfold f_L_market_h220 at h
  obtain ⟨S43, eS43, h⟩ := si_ob h
  have g := g.tr (sd_na_m eS43)
  exact g.tr (mo_L_market_h223 F _ _ h)
theorem mo_L_market_h206 (F : Nat) (r59 : Int32 → si_St → Option (si_St)) (hr59 : ∀ (x3 : Int32) (S : si_St) (o : si_St), r59 x3 S = some o → sd_le S o) (x3 : Int32) (S : si_St) (o : si_St) (h : f_L_market_h206 F r59 x3 S = some o) : sd_le S o := by
  have g : sd_le S S := sd_le.rf
  unfold f_L_market_h206 at h
  obtain ⟨v44, ev44, h⟩ := si_ob h
  exact g.tr (hr59 _ _ _ h)
theorem mo_L_market_h201 (F : Nat) (r59 : Int32 → si_St → Option (si_St)) (hr59 : ∀ (x3 : Int32) (S : si_St) (o : si_St), r59 x3 S = some o → sd_le S o) (x3 : Int32) (S : si_St) (o : si_St) (h : f_L_market_h201 F r59 x3 S = some o) : sd_le S o := by
  have g : sd_le S S := sd_le.rf
  unfold f_L_market_h201 at h
  have hok203 : sd_ok S 87 := Decidable.byContradiction fun h9 => by rw [if_pos h9] at h; cases h
  have h := si_in (not_not_intro hok203) h
  obtain ⟨S45, eS45, h⟩ := si_ob h
  have g := g.tr (mo_J4_append_cf468 F 59 S S45 eS45)
  exact g.tr (mo_L_market_h206 F r59 hr59 _ _ _ h)
theorem mo_L_market_h190 (F : Nat) (r59 : Int32 → si_St → Option (si_St)) (hr59 : ∀ (x3 : Int32) (S : si_St) (o : si_St), r59 x3 S = some o → sd_le S o) (x3 : Int32) (S : si_St) (o : si_St) (h : f_L_market_h190 F r59 x3 S = some o) : sd_le S o := by
  have g : sd_le S S := sd_le.rf
  unfold f_L_market_h190 at h
  have hgr191 : sd_ok S 92 ∧ S.1 92 1 ≠ 0 := Decidable.byContradiction fun h9 => by rw [if_pos h9] at h; cases h
  have h := si_in (not_not_intro hgr191) h
  obtain ⟨v46, ev46, h⟩ := si_ob h
  have hok198 : sd_ok S 87 := Decidable.byContradiction fun h9 => by rw [if_pos h9] at h; cases h
  have h := si_in (not_not_intro hok198) h
  obtain ⟨S47, eS47, h⟩ := si_ob h
  have g := g.tr (mo_J4_append_bf812 F v46 S S47 eS47)
  exact g.tr (mo_L_market_h201 F r59 hr59 _ _ _ h)
theorem mo_L_market_h185 (F : Nat) (r59 : Int32 → si_St → Option (si_St)) (hr59 : ∀ (x3 : Int32) (S : si_St) (o : si_St), r59 x3 S = some o → sd_le S o) (x3 : Int32) (S : si_St) (o : si_St) (h : f_L_market_h185 F r59 x3 S = some o) : sd_le S o := by
  have g : sd_le S S := sd_le.rf
  unfold f_L_market_h185 at h
  have hok187 : sd_ok S 87 := Decidable.byContradiction fun h9 => by rw [if_pos h9] at h; cases h
  have h := si_in (not_not_intro hok187) h
  obtain ⟨S48, eS48, h⟩ := si_ob h
  have g := g.tr (mo_J4_append_cf468 F 32 S S48 eS48)
  exact g.tr (mo_L_market_h190 F r59 hr59 _ _ _ h)
theorem mo_L_market_h174 (F : Nat) (r59 : Int32 → si_St → Option (si_St)) (hr59 : ∀ (x3 : Int32) (S : si_St) (o : si_St), r59 x3 S = some o → sd_le S o) (x3 : Int32) (S : si_St) (o : si_St) (h : f_L_market_h174 F r59 x3 S = some o) : sd_le S o := by
  have g : sd_le S S := sd_le.rf
  unfold f_L_market_h174 at h
  have hgr175 : sd_ok S 92 ∧ S.1 92 1 ≠ 0 := Decidable.byContradiction fun h9 => by rw [if_pos h9] at h; cases h
  have h := si_in (not_not_intro hgr175) h
  obtain ⟨v49, ev49, h⟩ := si_ob h
  have hok182 : sd_ok S 87 := Decidable.byContradiction fun h9 => by rw [if_pos h9] at h; cases h
  have h := si_in (not_not_intro hok182) h
  obtain ⟨S50, eS50, h⟩ := si_ob h
  have g := g.tr (mo_J4_append_bf812 F v49 S S50 eS50)
  exact g.tr (mo_L_market_h185 F r59 hr59 _ _ _ h)
theorem mo_L_market_h169 (F : Nat) (r59 : Int32 → si_St → Option (si_St)) (hr59 : ∀ (x3 : Int32) (S : si_St) (o : si_St), r59 x3 S = some o → sd_le S o) (x3 : Int32) (S : si_St) (o : si_St) (h : f_L_market_h169 F r59 x3 S = some o) : sd_le S o := by
  have g : sd_le S S := sd_le.rf
  unfold f_L_market_h169 at h
  have hok171 : sd_ok S 87 := Decidable.byContradiction fun h9 => by rw [if_pos h9] at h; cases h
  have h := si_in (not_not_intro hok171) h
  obtain ⟨S51, eS51, h⟩ := si_ob h
  have g := g.tr (mo_J4_append_cf468 F 32 S S51 eS51)
  exact g.tr (mo_L_market_h174 F r59 hr59 _ _ _ h)
theorem mo_L_market_h158 (F : Nat) (r59 : Int32 → si_St → Option (si_St)) (hr59 : ∀ (x3 : Int32) (S : si_St) (o : si_St), r59 x3 S = some o → sd_le S o) (x3 : Int32) (S : si_St) (o : si_St) (h : f_L_market_h158 F r59 x3 S = some o) : sd_le S o := by
  have g : sd_le S S := sd_le.rf
  unfold f_L_market_h158 at h
  have hgr159 : sd_ok S 92 ∧ S.1 92 1 ≠ 0 := Decidable.byContradiction fun h9 => by rw [if_pos h9] at h; cases h
  have h := si_in (not_not_intro hgr159) h
  obtain ⟨v52, ev52, h⟩ := si_ob h
  have hok166 : sd_ok S 87 := Decidable.byContradiction fun h9 => by rw [if_pos h9] at h; cases h
  have h := si_in (not_not_intro hok166) h
  obtain ⟨S53, eS53, h⟩ := si_ob h
  have g := g.tr (mo_J4_append_bf812 F v52 S S53 eS53)
  exact g.tr (mo_L_market_h169 F r59 hr59 _ _ _ h)
theorem mo_L_market_h153 (F : Nat) (r59 : Int32 → si_St → Option (si_St)) (hr59 : ∀ (x3 : Int32) (S : si_St) (o : si_St), r59 x3 S = some o → sd_le S o) (x3 : Int32) (S : si_St) (o : si_St) (h : f_L_market_h153 F r59 x3 S = some o) : sd_le S o := by
  have g : sd_le S S := sd_le.rf
  unfold f_L_market_h153 at h
  have hok155 : sd_ok S 87 := Decidable.byContradiction fun h9 => by rw [if_pos h9] at h; cases h
  have h := si_in (not_not_intro hok155) h
  obtain ⟨S54, eS54, h⟩ := si_ob h
  have g := g.tr (mo_J4_append_cf468 F 32 S S54 eS54)
  exact g.tr (mo_L_market_h158 F r59 hr59 _ _ _ h)
theorem mo_L_market_h144 (F : Nat) (r59 : Int32 → si_St → Option (si_St)) (hr59 : ∀ (x3 : Int32) (S : si_St) (o : si_St), r59 x3 S = some o → sd_le S o) (x3 : Int32) (S : si_St) (o : si_St) (h : f_L_market_h144 F r59 x3 S = some o) : sd_le S o := by
  have g : sd_le S S := sd_le.rf
  unfold f_L_market_h144 at h
  have hgr145 : sd_ok S 92 ∧ S.1 92 1 ≠ 0 := Decidable.byContradiction fun h9 => by rw [if_pos h9] at h; cases h
  have h := si_in (not_not_intro hgr145) h
  obtain ⟨v55, ev55, h⟩ := si_ob h
  have hok150 : sd_ok S 87 := Decidable.byContradiction fun h9 => by rw [if_pos h9] at h; cases h
  have h := si_in (not_not_intro hok150) h
  obtain ⟨S56, eS56, h⟩ := si_ob h
  have g := g.tr (mo_J4_append_bf812 F v55 S S56 eS56)
  exact g.tr (mo_L_market_h153 F r59 hr59 _ _ _ h)
theorem mo_L_market_h136 (F : Nat) (r59 : Int32 → si_St → Option (si_St)) (hr59 : ∀ (x3 : Int32) (S : si_St) (o : si_St), r59 x3 S = some o → sd_le S o) (x3 : Int32) (t0 : Int32) (t1 : Int32) (t2 : Int32) (S : si_St) (o : si_St) (h : f_L_market_h136 F r59 x3 t0 t1 t2 S = some o) : sd_le S o := by
  have g : sd_le S S := sd_le.rf
  unfold f_L_market_h136 at h
  obtain ⟨S57, eS57, h⟩ := si_ob h
  have g := g.tr (sd_wr_m eS57)
  have hok141 : sd_ok S57 87 := Decidable.byContradiction fun h9 => by rw [if_pos h9] at h; cases h
  have h := si_in (not_not_intro hok141) h
  obtain ⟨S58, eS58, h⟩ := si_ob h
  have g := g.tr (mo_J4_append_15ec4 F 9 (by decide) S57 S58 eS58)
  exact g.tr (mo_L_market_h144 F r59 hr59 _ _ _ h)
theorem mo_L_market_h109 (F : Nat) (r59 : Int32 → si_St → Option (si_St)) (hr59 : ∀ (x3 : Int32) (S : si_St) (o : si_St), r59 x3 S = some o → sd_le S o) (x3 : Int32) (t0 : Int32) (t1 : Int32) (t2 : Int32) (S : si_St) (o : si_St) (h : f_L_market_h109 F r59 x3 t0 t1 t2 S = some o) : sd_le S o := by
  have g : sd_le S S := sd_le.rf
  unfold f_L_market_h109 at h
  obtain ⟨S59, eS59, h⟩ := si_ob h
  have g := g.tr (sd_wr_m eS59)
  have hgr112 : sd_ok S59 92 ∧ S59.1 92 1 ≠ 0 := Decidable.byContradiction fun h9 => by rw [if_pos h9] at h; cases h
  have h := si_in (not_not_intro hgr112) h
  have hgr121 : sd_ok S59 92 ∧ S59.1 92 1 ≠ 0 := Decidable.byContradiction fun h9 => by rw [if_pos h9] at h; cases h
  have h := si_in (not_not_intro hgr121) h
  obtain ⟨v60, ev60, h⟩ := si_ob h
  obtain ⟨q61, eq61, h⟩ := si_ob h
  have g := g.tr (mo_L_draw F 91 rfl 4000 S59 q61 eq61)
  exact g.tr (mo_L_market_h136 F r59 hr59 _ _ _ _ _ _ h)
theorem mo_L_market_h94 (F : Nat) (r59 : Int32 → si_St → Option (si_St)) (hr59 : ∀ (x3 : Int32) (S : si_St) (o : si_St), r59 x3 S = some o → sd_le S o) (x3 : Int32) (t0 : Int32) (t1 : Int32) (S : si_St) (o : si_St) (h : f_L_market_h94 F r59 x3 t0 t1 S = some o) : sd_le S o := by
  have g : sd_le S S := sd_le.rf
  unfold f_L_market_h94 at h
  obtain ⟨S62, eS62, h⟩ := si_ob h
  have g := g.tr (sd_wr_m eS62)
  have hgr96 : sd_ok S62 92 ∧ S62.1 92 1 ≠ 0 := Decidable.byContradiction fun h9 => by rw [if_pos h9] at h; cases h
  have h := si_in (not_not_intro hgr96) h
  obtain ⟨q63, eq63, h⟩ := si_ob h
  have g := g.tr (mo_L_draw F 91 rfl 9 S62 q63 eq63)
  exact g.tr (mo_L_market_h109 F r59 hr59 _ _ _ _ _ _ h)
theorem mo_L_market_h81 (F : Nat) (r59 : Int32 → si_St → Option (si_St)) (hr59 : ∀ (x3 : Int32) (S : si_St) (o : si_St), r59 x3 S = some o → sd_le S o) (x3 : Int32) (t0 : Int32) (t1 : Int32) (S : si_St) (o : si_St) (h : f_L_market_h81 F r59 x3 t0 t1 S = some o) : sd_le S o := by
  have g : sd_le S S := sd_le.rf
  unfold f_L_market_h81 at h
  obtain ⟨S64, eS64, h⟩ := si_ob h
  have g := g.tr (sd_wr_m eS64)
  have hgr83 : sd_ok S64 92 ∧ S64.1 92 1 ≠ 0 := Decidable.byContradiction fun h9 => by rw [if_pos h9] at h; cases h
  have h := si_in (not_not_intro hgr83) h
  obtain ⟨q65, eq65, h⟩ := si_ob h
  have g := g.tr (mo_L_draw F 91 rfl 3 S64 q65 eq65)
  exact g.tr (mo_L_market_h94 F r59 hr59 _ _ _ _ _ h)
theorem mo_L_market_h59 (F : Nat) (r59 : Int32 → si_St → Option (si_St)) (hr59 : ∀ (x3 : Int32) (S : si_St) (o : si_St), r59 x3 S = some o → sd_le S o) (x3 : Int32) (S : si_St) (o : si_St) (h : f_L_market_h59 F r59 x3 S = some o) : sd_le S o := by
  have g : sd_le S S := sd_le.rf
  unfold f_L_market_h59 at h
  have hgr61 : sd_ok S 92 ∧ S.1 92 1 ≠ 0 := Decidable.byContradiction fun h9 => by rw [if_pos h9] at h; cases h
  have h := si_in (not_not_intro hgr61) h
  obtain ⟨v66, ev66, h⟩ := si_ob h
  rcases Decidable.em (v66 ≤ x3) with c65 | c65
  · have h := si_ip c65 h
    obtain ⟨q67, eq67, h⟩ := si_ob h
    have g := g.tr (mo_L_draw F 91 rfl 4 S q67 eq67)
    exact g.tr (mo_L_market_h220 F _ _ _ _ h)
  · have h := si_in c65 h
    have hgr69 : sd_ok S 92 ∧ S.1 92 1 ≠ 0 := Decidable.byContradiction fun h9 => by rw [if_pos h9] at h; cases h
    have h := si_in (not_not_intro hgr69) h
    obtain ⟨v68, ev68, h⟩ := si_ob h
    obtain ⟨q69, eq69, h⟩ := si_ob h
    have g := g.tr (mo_L_draw F 91 rfl v68 S q69 eq69)
    exact g.tr (mo_L_market_h81 F r59 hr59 _ _ _ _ _ h)
theorem mo_L_market_l59 (F : Nat) : ∀ (n : Nat) (x3 : Int32) (S : si_St) (o : si_St), f_L_market_l59 F n x3 S = some o → sd_le S o := by
  intro n
  induction n with
  | zero => intro x3 S o h; cases h
  | succ n ih =>
    intro x3 S o h
    exact mo_L_market_h59 F (f_L_market_l59 F n) ih x3 S o h
theorem mo_L_market_h54 (F : Nat) (S : si_St) (o : si_St) (h : f_L_market_h54 F S = some o) : sd_le S o := by
  have g : sd_le S S := sd_le.rf
  unfold f_L_market_h54 at h
  obtain ⟨S70, eS70, h⟩ := si_ob h
  have g := g.tr (sd_pi_m eS70)
  exact g.tr (mo_L_market_l59 F F _ _ _ h)
theorem mo_L_market_h50 (F : Nat) (t0 : Int32) (t1 : Int32) (t2 : Int32) (S : si_St) (o : si_St) (h : f_L_market_h50 F t0 t1 t2 S = some o) : sd_le S o := by
  have g : sd_le S S := sd_le.rf
  unfold f_L_market_h50 at h
  obtain ⟨S71, eS71, h⟩ := si_ob h
  have g := g.tr (sd_na_m eS71)
  exact g.tr (mo_L_market_h54 F _ _ h)
theorem mo_L_market_h35 (F : Nat) (r21 : Int32 → si_St → Option (si_St)) (hr21 : ∀ (x3 : Int32) (S : si_St) (o : si_St), r21 x3 S = some o → sd_le S o) (x3 : Int32) (S : si_St) (o : si_St) (h : f_L_market_h35 F r21 x3 S = some o) : sd_le S o := by
  have g : sd_le S S := sd_le.rf
  unfold f_L_market_h35 at h
  obtain ⟨v72, ev72, h⟩ := si_ob h
  exact g.tr (hr21 _ _ _ h)
theorem mo_L_market_h21 (F : Nat) (r21 : Int32 → si_St → Option (si_St)) (hr21 : ∀ (x3 : Int32) (S : si_St) (o : si_St), r21 x3 S = some o → sd_le S o) (x3 : Int32) (S : si_St) (o : si_St) (h : f_L_market_h21 F r21 x3 S = some o) : sd_le S o := by
  have g : sd_le S S := sd_le.rf
  unfold f_L_market_h21 at h
  obtain ⟨v73, ev73, h⟩ := si_ob h
  rcases Decidable.em (v73 ≤ x3) with c26 | c26
  · have h := si_ip c26 h
    obtain ⟨q74, eq74, h⟩ := si_ob h
    have g := g.tr (mo_L_draw F 91 rfl 4 S q74 eq74)
    exact g.tr (mo_L_market_h50 F _ _ _ _ _ h)
  · have h := si_in c26 h
    have hok32 : sd_ok S 87 := Decidable.byContradiction fun h9 => by rw [if_pos h9] at h; cases h
    have h := si_in (not_not_intro hok32) h
    obtain ⟨S75, eS75, h⟩ := si_ob h
    have g := g.tr (mo_J4_append_15ec4 F 8 (by decide) S S75 eS75)
    exact g.tr (mo_L_market_h35 F r21 hr21 _ _ _ h)
theorem mo_L_market_l21 (F : Nat) : ∀ (n : Nat) (x3 : Int32) (S : si_St) (o : si_St), f_L_market_l21 F n x3 S = some o → sd_le S o := by
  intro n
  induction n with
  | zero => intro x3 S o h; cases h
  | succ n ih =>
    intro x3 S o h
    exact mo_L_market_h21 F (f_L_market_l21 F n) ih x3 S o h
theorem mo_L_market_h15 (F : Nat) (t0 : Int32) (t1 : Int32) (S : si_St) (o : si_St) (h : f_L_market_h15 F t0 t1 S = some o) : sd_le S o := by
  have g : sd_le S S := sd_le.rf
  unfold f_L_market_h15 at h
  obtain ⟨S76, eS76, h⟩ := si_ob h
  have g := g.tr (sd_pi_m eS76)
  exact g.tr (mo_L_market_l21 F F _ _ _ h)
theorem mo_L_market_h7 (F : Nat) (S : si_St) (o : si_St) (h : f_L_market_h7 F S = some o) : sd_le S o := by
  have g : sd_le S S := sd_le.rf
  unfold f_L_market_h7 at h
  obtain ⟨q77, eq77, h⟩ := si_ob h
  have g := g.tr (mo_L_draw F 91 rfl 3 S q77 eq77)
  exact g.tr (mo_L_market_h15 F _ _ _ _ h)
theorem mo_L_market_h3 (F : Nat) (S : si_St) (o : si_St) (h : f_L_market_h3 F S = some o) : sd_le S o := by
  have g : sd_le S S := sd_le.rf
  unfold f_L_market_h3 at h
  obtain ⟨S78, eS78, h⟩ := si_ob h
  have g := g.tr (mo_X10_init F S S78 eS78)
  exact g.tr (mo_L_market_h7 F _ _ h)
theorem mo_L_market_h0 (F : Nat) (S : si_St) (o : si_St) (h : f_L_market_h0 F S = some o) : sd_le S o := by
  have g : sd_le S S := sd_le.rf
  unfold f_L_market_h0 at h
  obtain ⟨S79, eS79, h⟩ := si_ob h
  have g := g.tr (sd_no_m eS79)
  exact g.tr (mo_L_market_h3 F _ _ h)
theorem mo_L_market (F : Nat) (S : si_St) (o : si_St) (h : f_L_market F S = some o) : sd_le S o := by
  have g : sd_le S S := sd_le.rf
  unfold f_L_market at h
  exact g.tr (mo_L_market_h0 F _ _ h)
abbrev fr_L_market : Nat := 6
abbrev lo_L_market : Nat := 137
set_option maxHeartbeats 400000000 in
set_option maxRecDepth 100000 in
theorem c_L_market (l : Launch) (E0 : si_Ev) (F : Nat) (S0 : si_St) (o : si_St) (hf : f_L_market F S0 = some o) : sd_Mr l al_L_market E0 yL_market cL_market 7 (some (.object "ScaleInspectionLaw$Market")) fr_L_market lo_L_market [.ref (E0.2.1 91), .ref (E0.2.1 87)] S0 92 o := by
  refine sd_ofWr (Or.inl ⟨_, rfl⟩) (plainFor_of_name (by decide +kernel)) (Nat.le_of_ble_eq_true rfl) ?_
  intro p e s m args below meth c ls Q A X hmn hw hA hl hret
  have hl : lv_has ls 7 [(0, .ref (E0.2.1 91)), (1, .ref (E0.2.1 87))] := hl
  have hR : sd_RR (sd_R fr_L_market lo_L_market S0 o) S0 o := ⟨Nat.le_refl _, Nat.le_refl _⟩
  have hE : sd_EE al_L_market E0 E0 := sd_EE.rf
  have hc : sd_Ct S0 S0 0 0 := ⟨Nat.le_refl _, Nat.le_refl _⟩
  have B538 : ∀ (E : si_Ev) (S : si_St) (H : Heap) (locs : List Loc) (ls : Array Slot) (cs ss : Nat), f_L_market_h538 F S = some o → sd_EE al_L_market E0 E → si_Cx p s m args c cL_market 7 yL_market.cls E A → si_Ws E A s.heap S H locs → sd_Ct S0 S cs ss → lv_has ls 7 [(2, .ref (E.2.1 92))] → W p l e (sd_R fr_L_market lo_L_market S0 o) s m args below meth c H locs cs ss Q (F0 m 538 ls []) := by
    intro   E S H locs ls cs ss hf hE X hw hc hl
    have hcs := sd_room hc (mo_L_market_h538 F _ _ hf) hR
    unfold f_L_market_h538 at hf
    refine lv_aload_n X.1 X.2.1 dL_market_538 rfl (lv_at hl 0 rfl) ?_
    exact hret _ _ _ _ _ _ _ _ hf ⟨hE, hw, hc⟩ dL_market_539
  have B537 : ∀ (E : si_Ev) (S : si_St) (H : Heap) (locs : List Loc) (ls : Array Slot) (cs ss : Nat), f_L_market_h537 F S = some o → sd_EE al_L_market E0 E → si_Cx p s m args c cL_market 7 yL_market.cls E A → si_Ws E A s.heap S H locs → sd_Ct S0 S cs ss → lv_has ls 7 [(2, .ref (E.2.1 92))] → W p l e (sd_R fr_L_market lo_L_market S0 o) s m args below meth c H locs cs ss Q (F0 m 537 ls [.ref (E.2.1 87)]) := by
    intro   E S H locs ls cs ss hf hE X hw hc hl
    have hcs := sd_room hc (mo_L_market_h537 F _ _ hf) hR
    unfold f_L_market_h537 at hf
    refine lv_pop X.1 X.2.1 dL_market_537 rfl ?_
    exact B538 _ _ _ _ _ _ _ hf hE X hw hc (lv_sub hl [0] rfl)
  have B532 : ∀ (E : si_Ev) (S : si_St) (H : Heap) (locs : List Loc) (ls : Array Slot) (cs ss : Nat), f_L_market_h532 F S = some o → sd_EE al_L_market E0 E → si_Cx p s m args c cL_market 7 yL_market.cls E A → si_Ws E A s.heap S H locs → sd_Ct S0 S cs ss → lv_has ls 7 [(2, .ref (E.2.1 92))] → W p l e (sd_R fr_L_market lo_L_market S0 o) s m args below meth c H locs cs ss Q (F0 m 532 ls [.ref (E.2.1 87)]) := by
    intro   E S H locs ls cs ss hf hE X hw hc hl
    have hcs := sd_room hc (mo_L_market_h532 F _ _ hf) hR
    unfold f_L_market_h532 at hf
    refine lv_bipush (v := 59) X.1 X.2.1 dL_market_532 (by decide) ?_
    have hok534 : sd_ok S 87 := Decidable.byContradiction fun h9 => by rw [if_pos h9] at hf; cases hf
    have hf := si_in (not_not_intro hok534) hf
    obtain ⟨S1, eS1, hf⟩ := si_ob hf
    refine sd_gor (sd_runV (As := [.int 59]) (rest := []) sd_cl20 rfl hok534 cal_J4_append_cf468 gm_RL_54 X hw hA hl.1 ((c_J4_append_cf468 l E F 59 S S1 eS1) H.size) ⟨Nat.le_of_ble_eq_true rfl, Nat.le_of_ble_eq_true rfl⟩ rfl (Nat.le_of_ble_eq_true rfl) (sd_room2 hc (mo_J4_append_cf468 F 59 S S1 eS1) (mo_L_market_h537 F _ _ hf) hR) dL_market_534) X hw hA hE hc (mo_J4_append_cf468 F 59 S S1 eS1) (sd_als_L_market_J4_append_cf468) (fun E H locs cs ss hZ hE X hw hc => ?_)
    rw [← hZ.at 92 rfl] at hl
    exact B537 _ _ _ _ _ _ _ hf hE X hw hc (lv_sub hl [0] rfl)
  have B523 : ∀ (E : si_Ev) (S : si_St) (H : Heap) (locs : List Loc) (ls : Array Slot) (cs ss : Nat), f_L_market_h523 F S = some o → sd_EE al_L_market E0 E → si_Cx p s m args c cL_market 7 yL_market.cls E A → si_Ws E A s.heap S H locs → sd_Ct S0 S cs ss → lv_has ls 7 [(2, .ref (E.2.1 92))] → W p l e (sd_R fr_L_market lo_L_market S0 o) s m args below meth c H locs cs ss Q (F0 m 523 ls [.ref (E.2.1 87)]) := by
    intro   E S H locs ls cs ss hf hE X hw hc hl
    have hcs := sd_room hc (mo_L_market_h523 F _ _ hf) hR
    unfold f_L_market_h523 at hf
    refine lv_aload_n X.1 X.2.1 dL_market_523 rfl (lv_at hl 0 rfl) ?_
    have hgr524 : sd_ok S 92 ∧ S.1 92 4 ≠ 0 := Decidable.byContradiction fun h9 => by rw [if_pos h9] at hf; cases hf
    have hf := si_in (not_not_intro hgr524) hf
    refine sd_getR X hw sd_cl22 4 (by decide) (Or.inr ⟨_, List.mem_of_getElem? (i := 16) rfl⟩) rfl rfl rfl hgr524 dL_market_524 ?_
    refine lv_iconst (v := 1) X.1 X.2.1 dL_market_527 (by decide) ?_
    obtain ⟨v2, ev2, hf⟩ := si_ob hf
    refine sd_iald X hw rfl ev2 dL_market_528 ?_
    have hok529 : sd_ok S 87 := Decidable.byContradiction fun h9 => by rw [if_pos h9] at hf; cases hf
    have hf := si_in (not_not_intro hok529) hf
    obtain ⟨S3, eS3, hf⟩ := si_ob hf
    refine sd_gor (sd_runV (As := [.int v2]) (rest := []) sd_cl20 rfl hok529 cal_J4_append_bf812 gm_RL_51 X hw hA hl.1 ((c_J4_append_bf812 l E F v2 S S3 eS3) H.size) ⟨Nat.le_of_ble_eq_true rfl, Nat.le_of_ble_eq_true rfl⟩ rfl (Nat.le_of_ble_eq_true rfl) (sd_room2 hc (mo_J4_append_bf812 F v2 S S3 eS3) (mo_L_market_h532 F _ _ hf) hR) dL_market_529) X hw hA hE hc (mo_J4_append_bf812 F v2 S S3 eS3) (sd_als_L_market_J4_append_bf812) (fun E H locs cs ss hZ hE X hw hc => ?_)
    rw [← hZ.at 92 rfl] at hl
    exact B532 _ _ _ _ _ _ _ hf hE X hw hc (lv_sub hl [0] rfl)
  have B515 : ∀ (t0 : Int32) (t1 : Int32) (t2 : Int32) (E : si_Ev) (S : si_St) (H : Heap) (locs : List Loc) (ls : Array Slot) (cs ss : Nat), f_L_market_h515 F t0 t1 t2 S = some o → sd_EE al_L_market E0 E → si_Cx p s m args c cL_market 7 yL_market.cls E A → si_Ws E A s.heap S H locs → sd_Ct S0 S cs ss → lv_has ls 7 [(1, .ref (E.2.1 87)), (2, .ref (E.2.1 92))] → W p l e (sd_R fr_L_market lo_L_market S0 o) s m args below meth c H locs cs ss Q (F0 m 515 ls [.int t0, .int t1, .int t2, .ref (E.2.1 96)]) := by
    intro t0 t1 t2  E S H locs ls cs ss hf hE X hw hc hl
    have hcs := sd_room hc (mo_L_market_h515 F _ _ _ _ _ hf) hR
    unfold f_L_market_h515 at hf
    refine lv_iadd X.1 X.2.1 dL_market_515 ?_
    obtain ⟨S4, eS4, hf⟩ := si_ob hf
    refine sd_iast X hw rfl eS4 dL_market_516 (fun H locs hw => ?_)
    have hc := hc.up (sd_wr_m eS4)
    refine lv_aload_n X.1 X.2.1 dL_market_517 rfl (lv_at hl 0 rfl) ?_
    refine si_ldcS X (si_sr 8 rfl) rfl dL_market_518 ?_
    have hok520 : sd_ok S4 87 := Decidable.byContradiction fun h9 => by rw [if_pos h9] at hf; cases hf
    have hf := si_in (not_not_intro hok520) hf
    obtain ⟨S5, eS5, hf⟩ := si_ob hf
    refine sd_gor (sd_runV (As := [.ref (E.2.2.2.1 16)]) (rest := []) sd_cl20 rfl hok520 cal_J4_append_15ec4 gm_RL_40 X hw hA hl.1 ((c_J4_append_15ec4 l E F 16 (by decide) S4 S5 eS5) H.size) ⟨Nat.le_of_ble_eq_true rfl, Nat.le_of_ble_eq_true rfl⟩ rfl (Nat.le_of_ble_eq_true rfl) (sd_room2 hc (mo_J4_append_15ec4 F 16 (by decide) S4 S5 eS5) (mo_L_market_h523 F _ _ hf) hR) dL_market_520) X hw hA hE hc (mo_J4_append_15ec4 F 16 (by decide) S4 S5 eS5) (sd_als_L_market_J4_append_15ec4) (fun E H locs cs ss hZ hE X hw hc => ?_)
    rw [← hZ.at 87 rfl] at hl
    rw [← hZ.at 92 rfl] at hl
    exact B523 _ _ _ _ _ _ _ hf hE X hw hc (lv_sub hl [1] rfl)
  have B501 : ∀ (t0 : Int32) (E : si_Ev) (S : si_St) (H : Heap) (locs : List Loc) (ls : Array Slot) (cs ss : Nat), f_L_market_h501 F t0 S = some o → sd_EE al_L_market E0 E → si_Cx p s m args c cL_market 7 yL_market.cls E A → si_Ws E A s.heap S H locs → sd_Ct S0 S cs ss → lv_has ls 7 [(0, .ref (E.2.1 91)), (1, .ref (E.2.1 87)), (2, .ref (E.2.1 92))] → W p l e (sd_R fr_L_market lo_L_market S0 o) s m args below meth c H locs cs ss Q (F0 m 501 ls [.int t0]) := by
    intro t0  E S H locs ls cs ss hf hE X hw hc hl
    have hcs := sd_room hc (mo_L_market_h501 F _ _ _ hf) hR
    unfold f_L_market_h501 at hf
    refine lv_if_ne (tgt := 538) X.1 X.2.1 dL_market_501 (by decide) (fun c501 => ?_) (fun c501 => ?_)
    · have hf := si_in c501 hf
      exact B538 _ _ _ _ _ _ _ hf hE X hw hc (lv_sub hl [2] rfl)
    · have hf := si_ip c501 hf
      refine lv_aload_n X.1 X.2.1 dL_market_504 rfl (lv_at hl 2 rfl) ?_
      have hgr505 : sd_ok S 92 ∧ S.1 92 4 ≠ 0 := Decidable.byContradiction fun h9 => by rw [if_pos h9] at hf; cases hf
      have hf := si_in (not_not_intro hgr505) hf
      refine sd_getR X hw sd_cl22 4 (by decide) (Or.inr ⟨_, List.mem_of_getElem? (i := 16) rfl⟩) rfl rfl rfl hgr505 dL_market_505 ?_
      refine lv_iconst (v := 1) X.1 X.2.1 dL_market_508 (by decide) ?_
      refine lv_iconst (v := 1) X.1 X.2.1 dL_market_509 (by decide) ?_
      refine lv_aload_n X.1 X.2.1 dL_market_510 rfl (lv_at hl 0 rfl) ?_
      refine lv_iconst (v := 5) X.1 X.2.1 dL_market_511 (by decide) ?_
      obtain ⟨q6, eq6, hf⟩ := si_ob hf
      refine sd_goi (sd_runS (As := [.ref (E.2.1 91), .int 5]) (rest := [.int 1, .int 1, .ref (E.2.1 96)]) cal_L_draw gm_RL_28 X hw hA hl.1 ((c_L_draw l E F 91 rfl 5 S q6 eq6) H.size) ⟨Nat.le_of_ble_eq_true rfl, Nat.le_of_ble_eq_true rfl⟩ rfl (Nat.le_of_ble_eq_true rfl) (sd_room2 hc (mo_L_draw F 91 rfl 5 S q6 eq6) (mo_L_market_h515 F _ _ _ _ _ hf) hR) dL_market_512) X hw hA hE hc (mo_L_draw F 91 rfl 5 S q6 eq6) (fun _ _ => rfl) (fun E H locs cs ss hZ hE X hw hc => ?_)
      rw [← hZ.at 91 rfl] at hl
      rw [← hZ.at 87 rfl] at hl
      rw [← hZ.at 92 rfl] at hl
      rw [← hZ.at 96 rfl]
      exact B515 _ _ _ _ _ _ _ _ _ _ hf hE X hw hc (lv_sub hl [1, 2] rfl)
  have B481 : ∀ (E : si_Ev) (S : si_St) (H : Heap) (locs : List Loc) (ls : Array Slot) (cs ss : Nat), f_L_market_h481 F S = some o → sd_EE al_L_market E0 E → si_Cx p s m args c cL_market 7 yL_market.cls E A → si_Ws E A s.heap S H locs → sd_Ct S0 S cs ss → lv_has ls 7 [(0, .ref (E.2.1 91)), (1, .ref (E.2.1 87)), (2, .ref (E.2.1 92))] → W p l e (sd_R fr_L_market lo_L_market S0 o) s m args below meth c H locs cs ss Q (F0 m 481 ls [.ref (E.2.1 96), .ref (E.2.1 92)]) := by
    intro   E S H locs ls cs ss hf hE X hw hc hl
    have hcs := sd_room hc (mo_L_market_h481 F _ _ hf) hR
    unfold f_L_market_h481 at hf
    refine lv_dup X.1 X.2.1 dL_market_481 rfl ?_
    refine lv_iconst (v := 0) X.1 X.2.1 dL_market_482 (by decide) ?_
    refine lv_iconst (v := 2) X.1 X.2.1 dL_market_483 (by decide) ?_
    obtain ⟨S7, eS7, hf⟩ := si_ob hf
    refine sd_iast X hw rfl eS7 dL_market_484 (fun H locs hw => ?_)
    have hc := hc.up (sd_wr_m eS7)
    refine lv_dup X.1 X.2.1 dL_market_485 rfl ?_
    refine lv_iconst (v := 1) X.1 X.2.1 dL_market_486 (by decide) ?_
    refine lv_iconst (v := 2) X.1 X.2.1 dL_market_487 (by decide) ?_
    obtain ⟨S8, eS8, hf⟩ := si_ob hf
    refine sd_iast X hw rfl eS8 dL_market_488 (fun H locs hw => ?_)
    have hc := hc.up (sd_wr_m eS8)
    refine lv_dup X.1 X.2.1 dL_market_489 rfl ?_
    refine lv_iconst (v := 2) X.1 X.2.1 dL_market_490 (by decide) ?_
    refine lv_iconst (v := 2) X.1 X.2.1 dL_market_491 (by decide) ?_
    obtain ⟨S9, eS9, hf⟩ := si_ob hf
    refine sd_iast X hw rfl eS9 dL_market_492 (fun H locs hw => ?_)
    have hc := hc.up (sd_wr_m eS9)
    obtain ⟨S10, eS10, hf⟩ := si_ob hf
    refine sd_putR X hw sd_cl22 4 (by decide) (Or.inr ⟨_, List.mem_of_getElem? (i := 16) rfl⟩) rfl (Or.inl rfl) rfl rfl (tyX10_ok 4 (by decide)) ⟨_, rfl⟩ eS10 dL_market_493 (fun H locs hw => ?_)
    have hc := hc.up (sd_pi_m eS10)
    refine lv_aload_n X.1 X.2.1 dL_market_496 rfl (lv_at hl 0 rfl) ?_
    refine lv_iconst (v := 2) X.1 X.2.1 dL_market_497 (by decide) ?_
    obtain ⟨q11, eq11, hf⟩ := si_ob hf
    refine sd_goi (sd_runS (As := [.ref (E.2.1 91), .int 2]) (rest := []) cal_L_draw gm_RL_28 X hw hA hl.1 ((c_L_draw l E F 91 rfl 2 S10 q11 eq11) H.size) ⟨Nat.le_of_ble_eq_true rfl, Nat.le_of_ble_eq_true rfl⟩ rfl (Nat.le_of_ble_eq_true rfl) (sd_room2 hc (mo_L_draw F 91 rfl 2 S10 q11 eq11) (mo_L_market_h501 F _ _ _ hf) hR) dL_market_498) X hw hA hE hc (mo_L_draw F 91 rfl 2 S10 q11 eq11) (fun _ _ => rfl) (fun E H locs cs ss hZ hE X hw hc => ?_)
    rw [← hZ.at 91 rfl] at hl
    rw [← hZ.at 87 rfl] at hl
    rw [← hZ.at 92 rfl] at hl
    exact B501 _ _ _ _ _ _ _ _ hf hE X hw hc (lv_sub hl [0, 1, 2] rfl)
  have B397 : ∀ (n397 : Nat) (x3 : Int32) (E : si_Ev) (S : si_St) (H : Heap) (locs : List Loc) (ls : Array Slot) (cs ss : Nat), f_L_market_l397 F n397 x3 S = some o → sd_EE al_L_market E0 E → si_Cx p s m args c cL_market 7 yL_market.cls E A → si_Ws E A s.heap S H locs → sd_Ct S0 S cs ss → lv_has ls 7 [(0, .ref (E.2.1 91)), (1, .ref (E.2.1 87)), (2, .ref (E.2.1 92)), (3, .int x3)] → W p l e (sd_R fr_L_market lo_L_market S0 o) s m args below meth c H locs cs ss Q (F0 m 397 ls []) := by
    intro n397
    induction n397 with
    | zero => intro x3  E S H locs ls cs ss hf; cases hf
    | succ n397 ih397 =>
      have B470 : ∀ (x3 : Int32) (E : si_Ev) (S : si_St) (H : Heap) (locs : List Loc) (ls : Array Slot) (cs ss : Nat), f_L_market_h470 F (f_L_market_l397 F n397) x3 S = some o → sd_EE al_L_market E0 E → si_Cx p s m args c cL_market 7 yL_market.cls E A → si_Ws E A s.heap S H locs → sd_Ct S0 S cs ss → lv_has ls 7 [(0, .ref (E.2.1 91)), (1, .ref (E.2.1 87)), (2, .ref (E.2.1 92)), (3, .int x3)] → W p l e (sd_R fr_L_market lo_L_market S0 o) s m args below meth c H locs cs ss Q (F0 m 470 ls [.ref (E.2.1 87)]) := by
        intro x3  E S H locs ls cs ss hf hE X hw hc hl
        have hcs := sd_room hc (mo_L_market_h470 F (f_L_market_l397 F n397) (mo_L_market_l397 F n397) _ _ _ hf) hR
        unfold f_L_market_h470 at hf
        refine lv_pop X.1 X.2.1 dL_market_470 rfl ?_
        obtain ⟨v12, ev12, hf⟩ := si_ob hf
        refine lv_iinc (v := v12) (lv' := [(3, .int v12), (0, .ref (E.2.1 91)), (1, .ref (E.2.1 87)), (2, .ref (E.2.1 92))]) X.1 X.2.1 dL_market_471 hl (k := 3) rfl (Option.some.inj ev12) (by decide) rfl (fun ls hl => ?_)
        refine lv_goto (tgt := 397) X.1 X.2.1 dL_market_474 (by decide) ?_
        exact ih397 _ _ _ _ _ _ _ _ hf hE X hw hc (lv_sub hl [1, 2, 3, 0] rfl)
      have B467 : ∀ (x3 : Int32) (gt0 : Nat) (hgt0 : gt0 < 17) (E : si_Ev) (S : si_St) (H : Heap) (locs : List Loc) (ls : Array Slot) (cs ss : Nat), f_L_market_h467 F (f_L_market_l397 F n397) x3 gt0 S = some o → sd_EE al_L_market E0 E → si_Cx p s m args c cL_market 7 yL_market.cls E A → si_Ws E A s.heap S H locs → sd_Ct S0 S cs ss → lv_has ls 7 [(0, .ref (E.2.1 91)), (1, .ref (E.2.1 87)), (2, .ref (E.2.1 92)), (3, .int x3)] → W p l e (sd_R fr_L_market lo_L_market S0 o) s m args below meth c H locs cs ss Q (F0 m 467 ls [.ref (E.2.2.2.1 gt0), .ref (E.2.1 87)]) := by
        intro x3 gt0 hgt0 E S H locs ls cs ss hf hE X hw hc hl
        have hcs := sd_room hc (mo_L_market_h467 F (f_L_market_l397 F n397) (mo_L_market_l397 F n397) _ _ hgt0 _ _ hf) hR
        unfold f_L_market_h467 at hf
        have hok467 : sd_ok S 87 := Decidable.byContradiction fun h9 => by rw [if_pos h9] at hf; cases hf
        have hf := si_in (not_not_intro hok467) hf
        obtain ⟨S13, eS13, hf⟩ := si_ob hf
        refine sd_gor (sd_runV (As := [.ref (E.2.2.2.1 gt0)]) (rest := []) sd_cl20 rfl hok467 cal_J4_append_15ec4 gm_RL_40 X hw hA hl.1 ((c_J4_append_15ec4 l E F gt0 hgt0 S S13 eS13) H.size) ⟨Nat.le_of_ble_eq_true rfl, Nat.le_of_ble_eq_true rfl⟩ rfl (Nat.le_of_ble_eq_true rfl) (sd_room2 hc (mo_J4_append_15ec4 F gt0 hgt0 S S13 eS13) (mo_L_market_h470 F (f_L_market_l397 F n397) (mo_L_market_l397 F n397) _ _ _ hf) hR) dL_market_467) X hw hA hE hc (mo_J4_append_15ec4 F gt0 hgt0 S S13 eS13) (sd_als_L_market_J4_append_15ec4) (fun E H locs cs ss hZ hE X hw hc => ?_)
        rw [← hZ.at 91 rfl] at hl
        rw [← hZ.at 87 rfl] at hl
        rw [← hZ.at 92 rfl] at hl
        exact B470 _ _ _ _ _ _ _ _ hf hE X hw hc (lv_sub hl [0, 1, 2, 3] rfl)
      have B448 : ∀ (x3 : Int32) (E : si_Ev) (S : si_St) (H : Heap) (locs : List Loc) (ls : Array Slot) (cs ss : Nat), f_L_market_h448 F (f_L_market_l397 F n397) x3 S = some o → sd_EE al_L_market E0 E → si_Cx p s m args c cL_market 7 yL_market.cls E A → si_Ws E A s.heap S H locs → sd_Ct S0 S cs ss → lv_has ls 7 [(0, .ref (E.2.1 91)), (1, .ref (E.2.1 87)), (2, .ref (E.2.1 92)), (3, .int x3)] → W p l e (sd_R fr_L_market lo_L_market S0 o) s m args below meth c H locs cs ss Q (F0 m 448 ls [.ref (E.2.1 87)]) := by
        intro x3  E S H locs ls cs ss hf hE X hw hc hl
        have hcs := sd_room hc (mo_L_market_h448 F (f_L_market_l397 F n397) (mo_L_market_l397 F n397) _ _ _ hf) hR
        unfold f_L_market_h448 at hf
        refine lv_aload_n X.1 X.2.1 dL_market_448 rfl (lv_at hl 2 rfl) ?_
        have hgr449 : sd_ok S 92 ∧ S.1 92 3 ≠ 0 := Decidable.byContradiction fun h9 => by rw [if_pos h9] at hf; cases hf
        have hf := si_in (not_not_intro hgr449) hf
        refine sd_getR X hw sd_cl22 3 (by decide) (Or.inr ⟨_, List.mem_of_getElem? (i := 15) rfl⟩) rfl rfl rfl hgr449 dL_market_449 ?_
        refine lv_iload_n X.1 X.2.1 dL_market_452 rfl (lv_at hl 3 rfl) ?_
        refine lv_iconst (v := 1) X.1 X.2.1 dL_market_453 (by decide) ?_
        refine lv_iadd X.1 X.2.1 dL_market_454 ?_
        obtain ⟨v14, ev14, hf⟩ := si_ob hf
        refine sd_iald X hw rfl ev14 dL_market_455 ?_
        refine lv_iconst (v := 1) X.1 X.2.1 dL_market_456 (by decide) ?_
        refine lv_icmp_ne (tgt := 465) X.1 X.2.1 dL_market_457 (by decide) (fun c457 => ?_) (fun c457 => ?_)
        · have hf := si_in c457 hf
          refine si_ldcS X (si_sr 7 rfl) rfl dL_market_465 ?_
          exact B467 _ _ (by decide) _ _ _ _ _ _ _ hf hE X hw hc (lv_sub hl [0, 1, 2, 3] rfl)
        · have hf := si_ip c457 hf
          refine si_ldcS X (si_sr 6 rfl) rfl dL_market_460 ?_
          refine lv_goto (tgt := 467) X.1 X.2.1 dL_market_462 (by decide) ?_
          exact B467 _ _ (by decide) _ _ _ _ _ _ _ hf hE X hw hc (lv_sub hl [0, 1, 2, 3] rfl)
      have B439 : ∀ (x3 : Int32) (E : si_Ev) (S : si_St) (H : Heap) (locs : List Loc) (ls : Array Slot) (cs ss : Nat), f_L_market_h439 F (f_L_market_l397 F n397) x3 S = some o → sd_EE al_L_market E0 E → si_Cx p s m args c cL_market 7 yL_market.cls E A → si_Ws E A s.heap S H locs → sd_Ct S0 S cs ss → lv_has ls 7 [(0, .ref (E.2.1 91)), (1, .ref (E.2.1 87)), (2, .ref (E.2.1 92)), (3, .int x3)] → W p l e (sd_R fr_L_market lo_L_market S0 o) s m args below meth c H locs cs ss Q (F0 m 439 ls [.ref (E.2.1 87)]) := by
        intro x3  E S H locs ls cs ss hf hE X hw hc hl
        have hcs := sd_room hc (mo_L_market_h439 F (f_L_market_l397 F n397) (mo_L_market_l397 F n397) _ _ _ hf) hR
        unfold f_L_market_h439 at hf
        refine lv_aload_n X.1 X.2.1 dL_market_439 rfl (lv_at hl 2 rfl) ?_
        have hgr440 : sd_ok S 92 ∧ S.1 92 3 ≠ 0 := Decidable.byContradiction fun h9 => by rw [if_pos h9] at hf; cases hf
        have hf := si_in (not_not_intro hgr440) hf
        refine sd_getR X hw sd_cl22 3 (by decide) (Or.inr ⟨_, List.mem_of_getElem? (i := 15) rfl⟩) rfl rfl rfl hgr440 dL_market_440 ?_
        refine lv_iload_n X.1 X.2.1 dL_market_443 rfl (lv_at hl 3 rfl) ?_
        obtain ⟨v15, ev15, hf⟩ := si_ob hf
        refine sd_iald X hw rfl ev15 dL_market_444 ?_
        have hok445 : sd_ok S 87 := Decidable.byContradiction fun h9 => by rw [if_pos h9] at hf; cases hf
        have hf := si_in (not_not_intro hok445) hf
        obtain ⟨S16, eS16, hf⟩ := si_ob hf
        refine sd_gor (sd_runV (As := [.int v15]) (rest := []) sd_cl20 rfl hok445 cal_J4_append_bf812 gm_RL_51 X hw hA hl.1 ((c_J4_append_bf812 l E F v15 S S16 eS16) H.size) ⟨Nat.le_of_ble_eq_true rfl, Nat.le_of_ble_eq_true rfl⟩ rfl (Nat.le_of_ble_eq_true rfl) (sd_room2 hc (mo_J4_append_bf812 F v15 S S16 eS16) (mo_L_market_h448 F (f_L_market_l397 F n397) (mo_L_market_l397 F n397) _ _ _ hf) hR) dL_market_445) X hw hA hE hc (mo_J4_append_bf812 F v15 S S16 eS16) (sd_als_L_market_J4_append_bf812) (fun E H locs cs ss hZ hE X hw hc => ?_)
        rw [← hZ.at 91 rfl] at hl
        rw [← hZ.at 87 rfl] at hl
        rw [← hZ.at 92 rfl] at hl
        exact B448 _ _ _ _ _ _ _ _ hf hE X hw hc (lv_sub hl [0, 1, 2, 3] rfl)
      have B432 : ∀ (x3 : Int32) (t0 : Int32) (t1 : Int32) (E : si_Ev) (S : si_St) (H : Heap) (locs : List Loc) (ls : Array Slot) (cs ss : Nat), f_L_market_h432 F (f_L_market_l397 F n397) x3 t0 t1 S = some o → sd_EE al_L_market E0 E → si_Cx p s m args c cL_market 7 yL_market.cls E A → si_Ws E A s.heap S H locs → sd_Ct S0 S cs ss → lv_has ls 7 [(0, .ref (E.2.1 91)), (1, .ref (E.2.1 87)), (2, .ref (E.2.1 92)), (3, .int x3)] → W p l e (sd_R fr_L_market lo_L_market S0 o) s m args below meth c H locs cs ss Q (F0 m 432 ls [.int t0, .int t1, .ref (E.2.1 95)]) := by
        intro x3 t0 t1  E S H locs ls cs ss hf hE X hw hc hl
        have hcs := sd_room hc (mo_L_market_h432 F (f_L_market_l397 F n397) (mo_L_market_l397 F n397) _ _ _ _ _ hf) hR
        unfold f_L_market_h432 at hf
        obtain ⟨S17, eS17, hf⟩ := si_ob hf
        refine sd_iast X hw rfl eS17 dL_market_432 (fun H locs hw => ?_)
        have hc := hc.up (sd_wr_m eS17)
        refine lv_aload_n X.1 X.2.1 dL_market_433 rfl (lv_at hl 1 rfl) ?_
        refine si_ldcS X (si_sr 5 rfl) rfl dL_market_434 ?_
        have hok436 : sd_ok S17 87 := Decidable.byContradiction fun h9 => by rw [if_pos h9] at hf; cases hf
        have hf := si_in (not_not_intro hok436) hf
        obtain ⟨S18, eS18, hf⟩ := si_ob hf
        refine sd_gor (sd_runV (As := [.ref (E.2.2.2.1 13)]) (rest := []) sd_cl20 rfl hok436 cal_J4_append_15ec4 gm_RL_40 X hw hA hl.1 ((c_J4_append_15ec4 l E F 13 (by decide) S17 S18 eS18) H.size) ⟨Nat.le_of_ble_eq_true rfl, Nat.le_of_ble_eq_true rfl⟩ rfl (Nat.le_of_ble_eq_true rfl) (sd_room2 hc (mo_J4_append_15ec4 F 13 (by decide) S17 S18 eS18) (mo_L_market_h439 F (f_L_market_l397 F n397) (mo_L_market_l397 F n397) _ _ _ hf) hR) dL_market_436) X hw hA hE hc (mo_J4_append_15ec4 F 13 (by decide) S17 S18 eS18) (sd_als_L_market_J4_append_15ec4) (fun E H locs cs ss hZ hE X hw hc => ?_)
        rw [← hZ.at 91 rfl] at hl
        rw [← hZ.at 87 rfl] at hl
        rw [← hZ.at 92 rfl] at hl
        exact B439 _ _ _ _ _ _ _ _ hf hE X hw hc (lv_sub hl [0, 1, 2, 3] rfl)
      have B418 : ∀ (x3 : Int32) (t0 : Int32) (t1 : Int32) (t2 : Int32) (E : si_Ev) (S : si_St) (H : Heap) (locs : List Loc) (ls : Array Slot) (cs ss : Nat), f_L_market_h418 F (f_L_market_l397 F n397) x3 t0 t1 t2 S = some o → sd_EE al_L_market E0 E → si_Cx p s m args c cL_market 7 yL_market.cls E A → si_Ws E A s.heap S H locs → sd_Ct S0 S cs ss → lv_has ls 7 [(0, .ref (E.2.1 91)), (1, .ref (E.2.1 87)), (2, .ref (E.2.1 92)), (3, .int x3)] → W p l e (sd_R fr_L_market lo_L_market S0 o) s m args below meth c H locs cs ss Q (F0 m 418 ls [.int t0, .int t1, .int t2, .ref (E.2.1 95)]) := by
        intro x3 t0 t1 t2  E S H locs ls cs ss hf hE X hw hc hl
        have hcs := sd_room hc (mo_L_market_h418 F (f_L_market_l397 F n397) (mo_L_market_l397 F n397) _ _ _ _ _ _ hf) hR
        unfold f_L_market_h418 at hf
        refine lv_iadd X.1 X.2.1 dL_market_418 ?_
        obtain ⟨S19, eS19, hf⟩ := si_ob hf
        refine sd_iast X hw rfl eS19 dL_market_419 (fun H locs hw => ?_)
        have hc := hc.up (sd_wr_m eS19)
        refine lv_aload_n X.1 X.2.1 dL_market_420 rfl (lv_at hl 2 rfl) ?_
        have hgr421 : sd_ok S19 92 ∧ S19.1 92 3 ≠ 0 := Decidable.byContradiction fun h9 => by rw [if_pos h9] at hf; cases hf
        have hf := si_in (not_not_intro hgr421) hf
        refine sd_getR X hw sd_cl22 3 (by decide) (Or.inr ⟨_, List.mem_of_getElem? (i := 15) rfl⟩) rfl rfl rfl hgr421 dL_market_421 ?_
        refine lv_iload_n X.1 X.2.1 dL_market_424 rfl (lv_at hl 3 rfl) ?_
        refine lv_iconst (v := 1) X.1 X.2.1 dL_market_425 (by decide) ?_
        refine lv_iadd X.1 X.2.1 dL_market_426 ?_
        refine lv_aload_n X.1 X.2.1 dL_market_427 rfl (lv_at hl 0 rfl) ?_
        refine lv_iconst (v := 2) X.1 X.2.1 dL_market_428 (by decide) ?_
        obtain ⟨q20, eq20, hf⟩ := si_ob hf
        refine sd_goi (sd_runS (As := [.ref (E.2.1 91), .int 2]) (rest := [.int (x3 + 1), .ref (E.2.1 95)]) cal_L_draw gm_RL_28 X hw hA hl.1 ((c_L_draw l E F 91 rfl 2 S19 q20 eq20) H.size) ⟨Nat.le_of_ble_eq_true rfl, Nat.le_of_ble_eq_true rfl⟩ rfl (Nat.le_of_ble_eq_true rfl) (sd_room2 hc (mo_L_draw F 91 rfl 2 S19 q20 eq20) (mo_L_market_h432 F (f_L_market_l397 F n397) (mo_L_market_l397 F n397) _ _ _ _ _ hf) hR) dL_market_429) X hw hA hE hc (mo_L_draw F 91 rfl 2 S19 q20 eq20) (fun _ _ => rfl) (fun E H locs cs ss hZ hE X hw hc => ?_)
        rw [← hZ.at 91 rfl] at hl
        rw [← hZ.at 87 rfl] at hl
        rw [← hZ.at 92 rfl] at hl
        rw [← hZ.at 95 rfl]
        exact B432 _ _ _ _ _ _ _ _ _ _ hf hE X hw hc (lv_sub hl [0, 1, 2, 3] rfl)
      intro x3  E S H locs ls cs ss hf hE X hw hc hl
      have hf : f_L_market_h397 F (f_L_market_l397 F n397) x3 S = some o := hf
      have ih_mo := mo_L_market_l397 F n397
      have hcs := sd_room hc (mo_L_market_h397 F (f_L_market_l397 F n397) ih_mo _ _ _ hf) hR
      unfold f_L_market_h397 at hf
      refine lv_iload_n X.1 X.2.1 dL_market_397 rfl (lv_at hl 3 rfl) ?_
      refine lv_aload_n X.1 X.2.1 dL_market_398 rfl (lv_at hl 2 rfl) ?_
      have hgr399 : sd_ok S 92 ∧ S.1 92 3 ≠ 0 := Decidable.byContradiction fun h9 => by rw [if_pos h9] at hf; cases hf
      have hf := si_in (not_not_intro hgr399) hf
      refine sd_getR X hw sd_cl22 3 (by decide) (Or.inr ⟨_, List.mem_of_getElem? (i := 15) rfl⟩) rfl rfl rfl hgr399 dL_market_399 ?_
      obtain ⟨v21, ev21, hf⟩ := si_ob hf
      refine sd_alen X hw (Or.inr rfl) ev21 dL_market_402 ?_
      refine lv_icmp_ge (tgt := 477) X.1 X.2.1 dL_market_403 (by decide) (fun c403 => ?_) (fun c403 => ?_)
      · have hf := si_ip c403 hf
        refine lv_aload_n X.1 X.2.1 dL_market_477 rfl (lv_at hl 2 rfl) ?_
        refine lv_iconst (v := 3) X.1 X.2.1 dL_market_478 (by decide) ?_
        obtain ⟨S22, eS22, hf⟩ := si_ob hf
        refine sd_newI X hw hA hE hc hR ga_int rfl rfl eS22 (mo_L_market_h481 F _ _ hf) dL_market_479 (fun E H cs ss hZ hE X hw hc => ?_)
        rw [← hZ.at 91 rfl] at hl
        rw [← hZ.at 87 rfl] at hl
        rw [← hZ.at 92 rfl] at hl
        rw [← hZ.at 92 rfl]
        exact B481 _ _ _ _ _ _ _ hf hE X hw hc (lv_sub hl [0, 1, 2] rfl)
      · have hf := si_in c403 hf
        refine lv_aload_n X.1 X.2.1 dL_market_406 rfl (lv_at hl 2 rfl) ?_
        have hgr407 : sd_ok S 92 ∧ S.1 92 3 ≠ 0 := Decidable.byContradiction fun h9 => by rw [if_pos h9] at hf; cases hf
        have hf := si_in (not_not_intro hgr407) hf
        refine sd_getR X hw sd_cl22 3 (by decide) (Or.inr ⟨_, List.mem_of_getElem? (i := 15) rfl⟩) rfl rfl rfl hgr407 dL_market_407 ?_
        refine lv_iload_n X.1 X.2.1 dL_market_410 rfl (lv_at hl 3 rfl) ?_
        refine lv_iconst (v := 2) X.1 X.2.1 dL_market_411 (by decide) ?_
        refine lv_aload_n X.1 X.2.1 dL_market_412 rfl (lv_at hl 0 rfl) ?_
        refine lv_bipush (v := 6) X.1 X.2.1 dL_market_413 (by decide) ?_
        obtain ⟨q23, eq23, hf⟩ := si_ob hf
        refine sd_goi (sd_runS (As := [.ref (E.2.1 91), .int 6]) (rest := [.int 2, .int x3, .ref (E.2.1 95)]) cal_L_draw gm_RL_28 X hw hA hl.1 ((c_L_draw l E F 91 rfl 6 S q23 eq23) H.size) ⟨Nat.le_of_ble_eq_true rfl, Nat.le_of_ble_eq_true rfl⟩ rfl (Nat.le_of_ble_eq_true rfl) (sd_room2 hc (mo_L_draw F 91 rfl 6 S q23 eq23) (mo_L_market_h418 F (f_L_market_l397 F n397) (mo_L_market_l397 F n397) _ _ _ _ _ _ hf) hR) dL_market_415) X hw hA hE hc (mo_L_draw F 91 rfl 6 S q23 eq23) (fun _ _ => rfl) (fun E H locs cs ss hZ hE X hw hc => ?_)
        rw [← hZ.at 91 rfl] at hl
        rw [← hZ.at 87 rfl] at hl
        rw [← hZ.at 92 rfl] at hl
        rw [← hZ.at 95 rfl]
        exact B418 _ _ _ _ _ _ _ _ _ _ _ hf hE X hw hc (lv_sub hl [0, 1, 2, 3] rfl)
  have B392 : ∀ (E : si_Ev) (S : si_St) (H : Heap) (locs : List Loc) (ls : Array Slot) (cs ss : Nat), f_L_market_h392 F S = some o → sd_EE al_L_market E0 E → si_Cx p s m args c cL_market 7 yL_market.cls E A → si_Ws E A s.heap S H locs → sd_Ct S0 S cs ss → lv_has ls 7 [(0, .ref (E.2.1 91)), (1, .ref (E.2.1 87)), (2, .ref (E.2.1 92))] → W p l e (sd_R fr_L_market lo_L_market S0 o) s m args below meth c H locs cs ss Q (F0 m 392 ls [.ref (E.2.1 95), .ref (E.2.1 92)]) := by
    intro   E S H locs ls cs ss hf hE X hw hc hl
    have hcs := sd_room hc (mo_L_market_h392 F _ _ hf) hR
    unfold f_L_market_h392 at hf
    obtain ⟨S24, eS24, hf⟩ := si_ob hf
    refine sd_putR X hw sd_cl22 3 (by decide) (Or.inr ⟨_, List.mem_of_getElem? (i := 15) rfl⟩) rfl (Or.inl rfl) rfl rfl (tyX10_ok 3 (by decide)) ⟨_, rfl⟩ eS24 dL_market_392 (fun H locs hw => ?_)
    have hc := hc.up (sd_pi_m eS24)
    refine lv_iconst (v := 0) X.1 X.2.1 dL_market_395 (by decide) ?_
    refine lv_istore_n (lv' := [(3, .int 0), (0, .ref (E.2.1 91)), (1, .ref (E.2.1 87)), (2, .ref (E.2.1 92))]) X.1 X.2.1 dL_market_396 rfl hl (by decide) rfl (fun ls hl => ?_)
    exact B397 F _ _ _ _ _ _ _ _ hf hE X hw hc (lv_sub hl [1, 2, 3, 0] rfl)
  have B388 : ∀ (t0 : Int32) (t1 : Int32) (t2 : Int32) (E : si_Ev) (S : si_St) (H : Heap) (locs : List Loc) (ls : Array Slot) (cs ss : Nat), f_L_market_h388 F t0 t1 t2 S = some o → sd_EE al_L_market E0 E → si_Cx p s m args c cL_market 7 yL_market.cls E A → si_Ws E A s.heap S H locs → sd_Ct S0 S cs ss → lv_has ls 7 [(0, .ref (E.2.1 91)), (1, .ref (E.2.1 87)), (2, .ref (E.2.1 92))] → W p l e (sd_R fr_L_market lo_L_market S0 o) s m args below meth c H locs cs ss Q (F0 m 388 ls [.int t0, .int t1, .int t2, .ref (E.2.1 92)]) := by
    intro t0 t1 t2  E S H locs ls cs ss hf hE X hw hc hl
    have hcs := sd_room hc (mo_L_market_h388 F _ _ _ _ _ hf) hR
    unfold f_L_market_h388 at hf
    refine lv_iadd X.1 X.2.1 dL_market_388 ?_
    refine lv_imul X.1 X.2.1 dL_market_389 ?_
    obtain ⟨S25, eS25, hf⟩ := si_ob hf
    refine sd_newI X hw hA hE hc hR ga_int rfl rfl eS25 (mo_L_market_h392 F _ _ hf) dL_market_390 (fun E H cs ss hZ hE X hw hc => ?_)
    rw [← hZ.at 91 rfl] at hl
    rw [← hZ.at 87 rfl] at hl
    rw [← hZ.at 92 rfl] at hl
    rw [← hZ.at 92 rfl]
    exact B392 _ _ _ _ _ _ _ hf hE X hw hc (lv_sub hl [0, 1, 2] rfl)
  have B228 : ∀ (n228 : Nat) (x3 : Int32) (E : si_Ev) (S : si_St) (H : Heap) (locs : List Loc) (ls : Array Slot) (cs ss : Nat), f_L_market_l228 F n228 x3 S = some o → sd_EE al_L_market E0 E → si_Cx p s m args c cL_market 7 yL_market.cls E A → si_Ws E A s.heap S H locs → sd_Ct S0 S cs ss → lv_has ls 7 [(0, .ref (E.2.1 91)), (1, .ref (E.2.1 87)), (2, .ref (E.2.1 92)), (3, .int x3)] → W p l e (sd_R fr_L_market lo_L_market S0 o) s m args below meth c H locs cs ss Q (F0 m 228 ls []) := by
    intro n228
    induction n228 with
    | zero => intro x3  E S H locs ls cs ss hf; cases hf
    | succ n228 ih228 =>
      have B373 : ∀ (x3 : Int32) (E : si_Ev) (S : si_St) (H : Heap) (locs : List Loc) (ls : Array Slot) (cs ss : Nat), f_L_market_h373 F (f_L_market_l228 F n228) x3 S = some o → sd_EE al_L_market E0 E → si_Cx p s m args c cL_market 7 yL_market.cls E A → si_Ws E A s.heap S H locs → sd_Ct S0 S cs ss → lv_has ls 7 [(0, .ref (E.2.1 91)), (1, .ref (E.2.1 87)), (2, .ref (E.2.1 92)), (3, .int x3)] → W p l e (sd_R fr_L_market lo_L_market S0 o) s m args below meth c H locs cs ss Q (F0 m 373 ls [.ref (E.2.1 87)]) := by
        intro x3  E S H locs ls cs ss hf hE X hw hc hl
        have hcs := sd_room hc (mo_L_market_h373 F (f_L_market_l228 F n228) (mo_L_market_l228 F n228) _ _ _ hf) hR
        unfold f_L_market_h373 at hf
        refine lv_pop X.1 X.2.1 dL_market_373 rfl ?_
        obtain ⟨v26, ev26, hf⟩ := si_ob hf
        refine lv_iinc (v := v26) (lv' := [(3, .int v26), (0, .ref (E.2.1 91)), (1, .ref (E.2.1 87)), (2, .ref (E.2.1 92))]) X.1 X.2.1 dL_market_374 hl (k := 3) rfl (Option.some.inj ev26) (by decide) rfl (fun ls hl => ?_)
        refine lv_goto (tgt := 228) X.1 X.2.1 dL_market_377 (by decide) ?_
        exact ih228 _ _ _ _ _ _ _ _ hf hE X hw hc (lv_sub hl [1, 2, 3, 0] rfl)
      have B367 : ∀ (x3 : Int32) (E : si_Ev) (S : si_St) (H : Heap) (locs : List Loc) (ls : Array Slot) (cs ss : Nat), f_L_market_h367 F (f_L_market_l228 F n228) x3 S = some o → sd_EE al_L_market E0 E → si_Cx p s m args c cL_market 7 yL_market.cls E A → si_Ws E A s.heap S H locs → sd_Ct S0 S cs ss → lv_has ls 7 [(0, .ref (E.2.1 91)), (1, .ref (E.2.1 87)), (2, .ref (E.2.1 92)), (3, .int x3)] → W p l e (sd_R fr_L_market lo_L_market S0 o) s m args below meth c H locs cs ss Q (F0 m 367 ls []) := by
        intro x3  E S H locs ls cs ss hf hE X hw hc hl
        have hcs := sd_room hc (mo_L_market_h367 F (f_L_market_l228 F n228) (mo_L_market_l228 F n228) _ _ _ hf) hR
        unfold f_L_market_h367 at hf
        refine lv_aload_n X.1 X.2.1 dL_market_367 rfl (lv_at hl 1 rfl) ?_
        refine lv_bipush (v := 59) X.1 X.2.1 dL_market_368 (by decide) ?_
        have hok370 : sd_ok S 87 := Decidable.byContradiction fun h9 => by rw [if_pos h9] at hf; cases hf
        have hf := si_in (not_not_intro hok370) hf
        obtain ⟨S27, eS27, hf⟩ := si_ob hf
        refine sd_gor (sd_runV (As := [.int 59]) (rest := []) sd_cl20 rfl hok370 cal_J4_append_cf468 gm_RL_54 X hw hA hl.1 ((c_J4_append_cf468 l E F 59 S S27 eS27) H.size) ⟨Nat.le_of_ble_eq_true rfl, Nat.le_of_ble_eq_true rfl⟩ rfl (Nat.le_of_ble_eq_true rfl) (sd_room2 hc (mo_J4_append_cf468 F 59 S S27 eS27) (mo_L_market_h373 F (f_L_market_l228 F n228) (mo_L_market_l228 F n228) _ _ _ hf) hR) dL_market_370) X hw hA hE hc (mo_J4_append_cf468 F 59 S S27 eS27) (sd_als_L_market_J4_append_cf468) (fun E H locs cs ss hZ hE X hw hc => ?_)
        rw [← hZ.at 91 rfl] at hl
        rw [← hZ.at 87 rfl] at hl
        rw [← hZ.at 92 rfl] at hl
        exact B373 _ _ _ _ _ _ _ _ hf hE X hw hc (lv_sub hl [0, 1, 2, 3] rfl)
      have B366 : ∀ (x3 : Int32) (E : si_Ev) (S : si_St) (H : Heap) (locs : List Loc) (ls : Array Slot) (cs ss : Nat), f_L_market_h366 F (f_L_market_l228 F n228) x3 S = some o → sd_EE al_L_market E0 E → si_Cx p s m args c cL_market 7 yL_market.cls E A → si_Ws E A s.heap S H locs → sd_Ct S0 S cs ss → lv_has ls 7 [(0, .ref (E.2.1 91)), (1, .ref (E.2.1 87)), (2, .ref (E.2.1 92)), (3, .int x3)] → W p l e (sd_R fr_L_market lo_L_market S0 o) s m args below meth c H locs cs ss Q (F0 m 366 ls [.ref (E.2.1 87)]) := by
        intro x3  E S H locs ls cs ss hf hE X hw hc hl
        have hcs := sd_room hc (mo_L_market_h366 F (f_L_market_l228 F n228) (mo_L_market_l228 F n228) _ _ _ hf) hR
        unfold f_L_market_h366 at hf
        refine lv_pop X.1 X.2.1 dL_market_366 rfl ?_
        exact B367 _ _ _ _ _ _ _ _ hf hE X hw hc (lv_sub hl [0, 1, 2, 3] rfl)
      have B361 : ∀ (x3 : Int32) (x5 : Int32) (E : si_Ev) (S : si_St) (H : Heap) (locs : List Loc) (ls : Array Slot) (cs ss : Nat), f_L_market_h361 F (f_L_market_l228 F n228) x3 x5 S = some o → sd_EE al_L_market E0 E → si_Cx p s m args c cL_market 7 yL_market.cls E A → si_Ws E A s.heap S H locs → sd_Ct S0 S cs ss → lv_has ls 7 [(0, .ref (E.2.1 91)), (1, .ref (E.2.1 87)), (2, .ref (E.2.1 92)), (3, .int x3), (5, .int x5)] → W p l e (sd_R fr_L_market lo_L_market S0 o) s m args below meth c H locs cs ss Q (F0 m 361 ls [.ref (E.2.1 87)]) := by
        intro x3 x5  E S H locs ls cs ss hf hE X hw hc hl
        have hcs := sd_room hc (mo_L_market_h361 F (f_L_market_l228 F n228) (mo_L_market_l228 F n228) _ _ _ _ hf) hR
        unfold f_L_market_h361 at hf
        refine lv_iload X.1 X.2.1 dL_market_361 (lv_at hl 4 rfl) ?_
        have hok363 : sd_ok S 87 := Decidable.byContradiction fun h9 => by rw [if_pos h9] at hf; cases hf
        have hf := si_in (not_not_intro hok363) hf
        obtain ⟨S28, eS28, hf⟩ := si_ob hf
        refine sd_gor (sd_runV (As := [.int x5]) (rest := []) sd_cl20 rfl hok363 cal_J4_append_bf812 gm_RL_51 X hw hA hl.1 ((c_J4_append_bf812 l E F x5 S S28 eS28) H.size) ⟨Nat.le_of_ble_eq_true rfl, Nat.le_of_ble_eq_true rfl⟩ rfl (Nat.le_of_ble_eq_true rfl) (sd_room2 hc (mo_J4_append_bf812 F x5 S S28 eS28) (mo_L_market_h366 F (f_L_market_l228 F n228) (mo_L_market_l228 F n228) _ _ _ hf) hR) dL_market_363) X hw hA hE hc (mo_J4_append_bf812 F x5 S S28 eS28) (sd_als_L_market_J4_append_bf812) (fun E H locs cs ss hZ hE X hw hc => ?_)
        rw [← hZ.at 91 rfl] at hl
        rw [← hZ.at 87 rfl] at hl
        rw [← hZ.at 92 rfl] at hl
        exact B366 _ _ _ _ _ _ _ _ hf hE X hw hc (lv_sub hl [0, 1, 2, 3] rfl)
      have B358 : ∀ (x3 : Int32) (x5 : Int32) (gt0 : Nat) (hgt0 : gt0 < 17) (E : si_Ev) (S : si_St) (H : Heap) (locs : List Loc) (ls : Array Slot) (cs ss : Nat), f_L_market_h358 F (f_L_market_l228 F n228) x3 x5 gt0 S = some o → sd_EE al_L_market E0 E → si_Cx p s m args c cL_market 7 yL_market.cls E A → si_Ws E A s.heap S H locs → sd_Ct S0 S cs ss → lv_has ls 7 [(0, .ref (E.2.1 91)), (1, .ref (E.2.1 87)), (2, .ref (E.2.1 92)), (3, .int x3), (5, .int x5)] → W p l e (sd_R fr_L_market lo_L_market S0 o) s m args below meth c H locs cs ss Q (F0 m 358 ls [.ref (E.2.2.2.1 gt0), .ref (E.2.1 87)]) := by
        intro x3 x5 gt0 hgt0 E S H locs ls cs ss hf hE X hw hc hl
        have hcs := sd_room hc (mo_L_market_h358 F (f_L_market_l228 F n228) (mo_L_market_l228 F n228) _ _ _ hgt0 _ _ hf) hR
        unfold f_L_market_h358 at hf
        have hok358 : sd_ok S 87 := Decidable.byContradiction fun h9 => by rw [if_pos h9] at hf; cases hf
        have hf := si_in (not_not_intro hok358) hf
        obtain ⟨S29, eS29, hf⟩ := si_ob hf
        refine sd_gor (sd_runV (As := [.ref (E.2.2.2.1 gt0)]) (rest := []) sd_cl20 rfl hok358 cal_J4_append_15ec4 gm_RL_40 X hw hA hl.1 ((c_J4_append_15ec4 l E F gt0 hgt0 S S29 eS29) H.size) ⟨Nat.le_of_ble_eq_true rfl, Nat.le_of_ble_eq_true rfl⟩ rfl (Nat.le_of_ble_eq_true rfl) (sd_room2 hc (mo_J4_append_15ec4 F gt0 hgt0 S S29 eS29) (mo_L_market_h361 F (f_L_market_l228 F n228) (mo_L_market_l228 F n228) _ _ _ _ hf) hR) dL_market_358) X hw hA hE hc (mo_J4_append_15ec4 F gt0 hgt0 S S29 eS29) (sd_als_L_market_J4_append_15ec4) (fun E H locs cs ss hZ hE X hw hc => ?_)
        rw [← hZ.at 91 rfl] at hl
        rw [← hZ.at 87 rfl] at hl
        rw [← hZ.at 92 rfl] at hl
        exact B361 _ _ _ _ _ _ _ _ _ hf hE X hw hc (lv_sub hl [0, 1, 2, 3, 4] rfl)
      have B339 : ∀ (x3 : Int32) (x5 : Int32) (x6 : Int32) (E : si_Ev) (S : si_St) (H : Heap) (locs : List Loc) (ls : Array Slot) (cs ss : Nat), f_L_market_h339 F (f_L_market_l228 F n228) x3 x5 x6 S = some o → sd_EE al_L_market E0 E → si_Cx p s m args c cL_market 7 yL_market.cls E A → si_Ws E A s.heap S H locs → sd_Ct S0 S cs ss → lv_has ls 7 [(0, .ref (E.2.1 91)), (1, .ref (E.2.1 87)), (2, .ref (E.2.1 92)), (3, .int x3), (5, .int x5), (6, .int x6)] → W p l e (sd_R fr_L_market lo_L_market S0 o) s m args below meth c H locs cs ss Q (F0 m 339 ls [.ref (E.2.1 87)]) := by
        intro x3 x5 x6  E S H locs ls cs ss hf hE X hw hc hl
        have hcs := sd_room hc (mo_L_market_h339 F (f_L_market_l228 F n228) (mo_L_market_l228 F n228) _ _ _ _ _ hf) hR
        unfold f_L_market_h339 at hf
        refine lv_pop X.1 X.2.1 dL_market_339 rfl ?_
        refine lv_iload X.1 X.2.1 dL_market_340 (lv_at hl 4 rfl) ?_
        refine lv_if_le (tgt := 367) X.1 X.2.1 dL_market_342 (by decide) (fun c342 => ?_) (fun c342 => ?_)
        · have hf := si_ip c342 hf
          exact B367 _ _ _ _ _ _ _ _ hf hE X hw hc (lv_sub hl [0, 1, 2, 3] rfl)
        · have hf := si_in c342 hf
          refine lv_aload_n X.1 X.2.1 dL_market_345 rfl (lv_at hl 1 rfl) ?_
          refine lv_iload X.1 X.2.1 dL_market_346 (lv_at hl 5 rfl) ?_
          refine lv_if_eq (tgt := 356) X.1 X.2.1 dL_market_348 (by decide) (fun c348 => ?_) (fun c348 => ?_)
          · have hf := si_ip c348 hf
            refine si_ldcS X (si_sr 4 rfl) rfl dL_market_356 ?_
            exact B358 _ _ _ (by decide) _ _ _ _ _ _ _ hf hE X hw hc (lv_sub hl [0, 1, 2, 3, 4] rfl)
          · have hf := si_in c348 hf
            refine si_ldcS X (si_sr 3 rfl) rfl dL_market_351 ?_
            refine lv_goto (tgt := 358) X.1 X.2.1 dL_market_353 (by decide) ?_
            exact B358 _ _ _ (by decide) _ _ _ _ _ _ _ hf hE X hw hc (lv_sub hl [0, 1, 2, 3, 4] rfl)
      have B334 : ∀ (x3 : Int32) (x4 : Int32) (x5 : Int32) (x6 : Int32) (E : si_Ev) (S : si_St) (H : Heap) (locs : List Loc) (ls : Array Slot) (cs ss : Nat), f_L_market_h334 F (f_L_market_l228 F n228) x3 x4 x5 x6 S = some o → sd_EE al_L_market E0 E → si_Cx p s m args c cL_market 7 yL_market.cls E A → si_Ws E A s.heap S H locs → sd_Ct S0 S cs ss → lv_has ls 7 [(0, .ref (E.2.1 91)), (1, .ref (E.2.1 87)), (2, .ref (E.2.1 92)), (3, .int x3), (4, .int x4), (5, .int x5), (6, .int x6)] → W p l e (sd_R fr_L_market lo_L_market S0 o) s m args below meth c H locs cs ss Q (F0 m 334 ls [.ref (E.2.1 87)]) := by
        intro x3 x4 x5 x6  E S H locs ls cs ss hf hE X hw hc hl
        have hcs := sd_room hc (mo_L_market_h334 F (f_L_market_l228 F n228) (mo_L_market_l228 F n228) _ _ _ _ _ _ hf) hR
        unfold f_L_market_h334 at hf
        refine lv_iload X.1 X.2.1 dL_market_334 (lv_at hl 4 rfl) ?_
        have hok336 : sd_ok S 87 := Decidable.byContradiction fun h9 => by rw [if_pos h9] at hf; cases hf
        have hf := si_in (not_not_intro hok336) hf
        obtain ⟨S30, eS30, hf⟩ := si_ob hf
        refine sd_gor (sd_runV (As := [.int x4]) (rest := []) sd_cl20 rfl hok336 cal_J4_append_bf812 gm_RL_51 X hw hA hl.1 ((c_J4_append_bf812 l E F x4 S S30 eS30) H.size) ⟨Nat.le_of_ble_eq_true rfl, Nat.le_of_ble_eq_true rfl⟩ rfl (Nat.le_of_ble_eq_true rfl) (sd_room2 hc (mo_J4_append_bf812 F x4 S S30 eS30) (mo_L_market_h339 F (f_L_market_l228 F n228) (mo_L_market_l228 F n228) _ _ _ _ _ hf) hR) dL_market_336) X hw hA hE hc (mo_J4_append_bf812 F x4 S S30 eS30) (sd_als_L_market_J4_append_bf812) (fun E H locs cs ss hZ hE X hw hc => ?_)
        rw [← hZ.at 91 rfl] at hl
        rw [← hZ.at 87 rfl] at hl
        rw [← hZ.at 92 rfl] at hl
        exact B339 _ _ _ _ _ _ _ _ _ _ hf hE X hw hc (lv_sub hl [0, 1, 2, 3, 5, 6] rfl)
      have B326 : ∀ (x3 : Int32) (x4 : Int32) (x5 : Int32) (x6 : Int32) (t0 : Int32) (t1 : Int32) (t2 : Int32) (E : si_Ev) (S : si_St) (H : Heap) (locs : List Loc) (ls : Array Slot) (cs ss : Nat), f_L_market_h326 F (f_L_market_l228 F n228) x3 x4 x5 x6 t0 t1 t2 S = some o → sd_EE al_L_market E0 E → si_Cx p s m args c cL_market 7 yL_market.cls E A → si_Ws E A s.heap S H locs → sd_Ct S0 S cs ss → lv_has ls 7 [(0, .ref (E.2.1 91)), (1, .ref (E.2.1 87)), (2, .ref (E.2.1 92)), (3, .int x3), (4, .int x4), (5, .int x5), (6, .int x6)] → W p l e (sd_R fr_L_market lo_L_market S0 o) s m args below meth c H locs cs ss Q (F0 m 326 ls [.int t0, .int t1, .int t2, .ref (E.2.1 94)]) := by
        intro x3 x4 x5 x6 t0 t1 t2  E S H locs ls cs ss hf hE X hw hc hl
        have hcs := sd_room hc (mo_L_market_h326 F (f_L_market_l228 F n228) (mo_L_market_l228 F n228) _ _ _ _ _ _ _ _ _ hf) hR
        unfold f_L_market_h326 at hf
        refine lv_iadd X.1 X.2.1 dL_market_326 ?_
        obtain ⟨S31, eS31, hf⟩ := si_ob hf
        refine sd_iast X hw rfl eS31 dL_market_327 (fun H locs hw => ?_)
        have hc := hc.up (sd_wr_m eS31)
        refine lv_aload_n X.1 X.2.1 dL_market_328 rfl (lv_at hl 1 rfl) ?_
        refine si_ldcS X (si_sr 2 rfl) rfl dL_market_329 ?_
        have hok331 : sd_ok S31 87 := Decidable.byContradiction fun h9 => by rw [if_pos h9] at hf; cases hf
        have hf := si_in (not_not_intro hok331) hf
        obtain ⟨S32, eS32, hf⟩ := si_ob hf
        refine sd_gor (sd_runV (As := [.ref (E.2.2.2.1 10)]) (rest := []) sd_cl20 rfl hok331 cal_J4_append_15ec4 gm_RL_40 X hw hA hl.1 ((c_J4_append_15ec4 l E F 10 (by decide) S31 S32 eS32) H.size) ⟨Nat.le_of_ble_eq_true rfl, Nat.le_of_ble_eq_true rfl⟩ rfl (Nat.le_of_ble_eq_true rfl) (sd_room2 hc (mo_J4_append_15ec4 F 10 (by decide) S31 S32 eS32) (mo_L_market_h334 F (f_L_market_l228 F n228) (mo_L_market_l228 F n228) _ _ _ _ _ _ hf) hR) dL_market_331) X hw hA hE hc (mo_J4_append_15ec4 F 10 (by decide) S31 S32 eS32) (sd_als_L_market_J4_append_15ec4) (fun E H locs cs ss hZ hE X hw hc => ?_)
        rw [← hZ.at 91 rfl] at hl
        rw [← hZ.at 87 rfl] at hl
        rw [← hZ.at 92 rfl] at hl
        exact B334 _ _ _ _ _ _ _ _ _ _ _ hf hE X hw hc (lv_sub hl [0, 1, 2, 3, 4, 5, 6] rfl)
      have B304 : ∀ (x3 : Int32) (x4 : Int32) (x5 : Int32) (t0 : Int32) (E : si_Ev) (S : si_St) (H : Heap) (locs : List Loc) (ls : Array Slot) (cs ss : Nat), f_L_market_h304 F (f_L_market_l228 F n228) x3 x4 x5 t0 S = some o → sd_EE al_L_market E0 E → si_Cx p s m args c cL_market 7 yL_market.cls E A → si_Ws E A s.heap S H locs → sd_Ct S0 S cs ss → lv_has ls 7 [(0, .ref (E.2.1 91)), (1, .ref (E.2.1 87)), (2, .ref (E.2.1 92)), (3, .int x3), (4, .int x4), (5, .int x5)] → W p l e (sd_R fr_L_market lo_L_market S0 o) s m args below meth c H locs cs ss Q (F0 m 304 ls [.int t0]) := by
        intro x3 x4 x5 t0  E S H locs ls cs ss hf hE X hw hc hl
        have hcs := sd_room hc (mo_L_market_h304 F (f_L_market_l228 F n228) (mo_L_market_l228 F n228) _ _ _ _ _ _ hf) hR
        unfold f_L_market_h304 at hf
        refine lv_istore (lv' := [(6, .int t0), (0, .ref (E.2.1 91)), (1, .ref (E.2.1 87)), (2, .ref (E.2.1 92)), (3, .int x3), (4, .int x4), (5, .int x5)]) X.1 X.2.1 dL_market_304 hl (by decide) rfl (fun ls hl => ?_)
        refine lv_aload_n X.1 X.2.1 dL_market_306 rfl (lv_at hl 3 rfl) ?_
        have hgr307 : sd_ok S 92 ∧ S.1 92 2 ≠ 0 := Decidable.byContradiction fun h9 => by rw [if_pos h9] at hf; cases hf
        have hf := si_in (not_not_intro hgr307) hf
        refine sd_getR X hw sd_cl22 2 (by decide) (Or.inr ⟨_, List.mem_of_getElem? (i := 14) rfl⟩) rfl rfl rfl hgr307 dL_market_307 ?_
        refine lv_iload_n X.1 X.2.1 dL_market_310 rfl (lv_at hl 4 rfl) ?_
        refine lv_iload X.1 X.2.1 dL_market_311 (lv_at hl 5 rfl) ?_
        refine lv_iload X.1 X.2.1 dL_market_313 (lv_at hl 0 rfl) ?_
        refine lv_if_eq (tgt := 323) X.1 X.2.1 dL_market_315 (by decide) (fun c315 => ?_) (fun c315 => ?_)
        · have hf := si_ip c315 hf
          refine lv_iload X.1 X.2.1 dL_market_323 (lv_at hl 6 rfl) ?_
          refine lv_ineg X.1 X.2.1 dL_market_325 ?_
          exact B326 _ _ _ _ _ _ _ _ _ _ _ _ _ _ hf hE X hw hc (lv_sub hl [1, 2, 3, 4, 5, 6, 0] rfl)
        · have hf := si_in c315 hf
          refine lv_iload X.1 X.2.1 dL_market_318 (lv_at hl 6 rfl) ?_
          refine lv_goto (tgt := 326) X.1 X.2.1 dL_market_320 (by decide) ?_
          exact B326 _ _ _ _ _ _ _ _ _ _ _ _ _ _ hf hE X hw hc (lv_sub hl [1, 2, 3, 4, 5, 6, 0] rfl)
      have B296 : ∀ (x3 : Int32) (x4 : Int32) (x5 : Int32) (t0 : Int32) (E : si_Ev) (S : si_St) (H : Heap) (locs : List Loc) (ls : Array Slot) (cs ss : Nat), f_L_market_h296 F (f_L_market_l228 F n228) x3 x4 x5 t0 S = some o → sd_EE al_L_market E0 E → si_Cx p s m args c cL_market 7 yL_market.cls E A → si_Ws E A s.heap S H locs → sd_Ct S0 S cs ss → lv_has ls 7 [(0, .ref (E.2.1 91)), (1, .ref (E.2.1 87)), (2, .ref (E.2.1 92)), (3, .int x3), (4, .int x4), (5, .int x5)] → W p l e (sd_R fr_L_market lo_L_market S0 o) s m args below meth c H locs cs ss Q (F0 m 296 ls [.int t0]) := by
        intro x3 x4 x5 t0  E S H locs ls cs ss hf hE X hw hc hl
        have hcs := sd_room hc (mo_L_market_h296 F (f_L_market_l228 F n228) (mo_L_market_l228 F n228) _ _ _ _ _ _ hf) hR
        unfold f_L_market_h296 at hf
        refine lv_if_ne (tgt := 303) X.1 X.2.1 dL_market_296 (by decide) (fun c296 => ?_) (fun c296 => ?_)
        · have hf := si_in c296 hf
          refine lv_iconst (v := 0) X.1 X.2.1 dL_market_303 (by decide) ?_
          exact B304 _ _ _ _ _ _ _ _ _ _ _ hf hE X hw hc (lv_sub hl [0, 1, 2, 3, 4, 5] rfl)
        · have hf := si_ip c296 hf
          refine lv_iconst (v := 1) X.1 X.2.1 dL_market_299 (by decide) ?_
          refine lv_goto (tgt := 304) X.1 X.2.1 dL_market_300 (by decide) ?_
          exact B304 _ _ _ _ _ _ _ _ _ _ _ hf hE X hw hc (lv_sub hl [0, 1, 2, 3, 4, 5] rfl)
      have B289 : ∀ (x3 : Int32) (x4 : Int32) (t0 : Int32) (E : si_Ev) (S : si_St) (H : Heap) (locs : List Loc) (ls : Array Slot) (cs ss : Nat), f_L_market_h289 F (f_L_market_l228 F n228) x3 x4 t0 S = some o → sd_EE al_L_market E0 E → si_Cx p s m args c cL_market 7 yL_market.cls E A → si_Ws E A s.heap S H locs → sd_Ct S0 S cs ss → lv_has ls 7 [(0, .ref (E.2.1 91)), (1, .ref (E.2.1 87)), (2, .ref (E.2.1 92)), (3, .int x3), (4, .int x4)] → W p l e (sd_R fr_L_market lo_L_market S0 o) s m args below meth c H locs cs ss Q (F0 m 289 ls [.int t0]) := by
        intro x3 x4 t0  E S H locs ls cs ss hf hE X hw hc hl
        have hcs := sd_room hc (mo_L_market_h289 F (f_L_market_l228 F n228) (mo_L_market_l228 F n228) _ _ _ _ _ hf) hR
        unfold f_L_market_h289 at hf
        refine lv_istore (lv' := [(5, .int t0), (0, .ref (E.2.1 91)), (1, .ref (E.2.1 87)), (2, .ref (E.2.1 92)), (3, .int x3), (4, .int x4)]) X.1 X.2.1 dL_market_289 hl (by decide) rfl (fun ls hl => ?_)
        refine lv_aload_n X.1 X.2.1 dL_market_291 rfl (lv_at hl 1 rfl) ?_
        refine lv_iconst (v := 2) X.1 X.2.1 dL_market_292 (by decide) ?_
        obtain ⟨q33, eq33, hf⟩ := si_ob hf
        refine sd_goi (sd_runS (As := [.ref (E.2.1 91), .int 2]) (rest := []) cal_L_draw gm_RL_28 X hw hA hl.1 ((c_L_draw l E F 91 rfl 2 S q33 eq33) H.size) ⟨Nat.le_of_ble_eq_true rfl, Nat.le_of_ble_eq_true rfl⟩ rfl (Nat.le_of_ble_eq_true rfl) (sd_room2 hc (mo_L_draw F 91 rfl 2 S q33 eq33) (mo_L_market_h296 F (f_L_market_l228 F n228) (mo_L_market_l228 F n228) _ _ _ _ _ _ hf) hR) dL_market_293) X hw hA hE hc (mo_L_draw F 91 rfl 2 S q33 eq33) (fun _ _ => rfl) (fun E H locs cs ss hZ hE X hw hc => ?_)
        rw [← hZ.at 91 rfl] at hl
        rw [← hZ.at 87 rfl] at hl
        rw [← hZ.at 92 rfl] at hl
        exact B296 _ _ _ _ _ _ _ _ _ _ _ hf hE X hw hc (lv_sub hl [1, 2, 3, 4, 5, 0] rfl)
      have B285 : ∀ (x3 : Int32) (x4 : Int32) (t0 : Int32) (E : si_Ev) (S : si_St) (H : Heap) (locs : List Loc) (ls : Array Slot) (cs ss : Nat), f_L_market_h285 F (f_L_market_l228 F n228) x3 x4 t0 S = some o → sd_EE al_L_market E0 E → si_Cx p s m args c cL_market 7 yL_market.cls E A → si_Ws E A s.heap S H locs → sd_Ct S0 S cs ss → lv_has ls 7 [(0, .ref (E.2.1 91)), (1, .ref (E.2.1 87)), (2, .ref (E.2.1 92)), (3, .int x3), (4, .int x4)] → W p l e (sd_R fr_L_market lo_L_market S0 o) s m args below meth c H locs cs ss Q (F0 m 285 ls [.int t0]) := by
        intro x3 x4 t0  E S H locs ls cs ss hf hE X hw hc hl
        have hcs := sd_room hc (mo_L_market_h285 F (f_L_market_l228 F n228) (mo_L_market_l228 F n228) _ _ _ _ _ hf) hR
        unfold f_L_market_h285 at hf
        refine lv_goto (tgt := 289) X.1 X.2.1 dL_market_285 (by decide) ?_
        exact B289 _ _ _ _ _ _ _ _ _ _ hf hE X hw hc (lv_sub hl [0, 1, 2, 3, 4] rfl)
      have B276 : ∀ (x3 : Int32) (x4 : Int32) (t0 : Int32) (E : si_Ev) (S : si_St) (H : Heap) (locs : List Loc) (ls : Array Slot) (cs ss : Nat), f_L_market_h276 F (f_L_market_l228 F n228) x3 x4 t0 S = some o → sd_EE al_L_market E0 E → si_Cx p s m args c cL_market 7 yL_market.cls E A → si_Ws E A s.heap S H locs → sd_Ct S0 S cs ss → lv_has ls 7 [(0, .ref (E.2.1 91)), (1, .ref (E.2.1 87)), (2, .ref (E.2.1 92)), (3, .int x3), (4, .int x4)] → W p l e (sd_R fr_L_market lo_L_market S0 o) s m args below meth c H locs cs ss Q (F0 m 276 ls [.int t0]) := by
        intro x3 x4 t0  E S H locs ls cs ss hf hE X hw hc hl
        have hcs := sd_room hc (mo_L_market_h276 F (f_L_market_l228 F n228) (mo_L_market_l228 F n228) _ _ _ _ _ hf) hR
        unfold f_L_market_h276 at hf
        refine lv_if_ne (tgt := 288) X.1 X.2.1 dL_market_276 (by decide) (fun c276 => ?_) (fun c276 => ?_)
        · have hf := si_in c276 hf
          refine lv_iconst (v := 0) X.1 X.2.1 dL_market_288 (by decide) ?_
          exact B289 _ _ _ _ _ _ _ _ _ _ hf hE X hw hc (lv_sub hl [0, 1, 2, 3, 4] rfl)
        · have hf := si_ip c276 hf
          refine lv_aload_n X.1 X.2.1 dL_market_279 rfl (lv_at hl 0 rfl) ?_
          refine lv_bipush (v := 9) X.1 X.2.1 dL_market_280 (by decide) ?_
          obtain ⟨q34, eq34, hf⟩ := si_ob hf
          refine sd_goi (sd_runS (As := [.ref (E.2.1 91), .int 9]) (rest := []) cal_L_draw gm_RL_28 X hw hA hl.1 ((c_L_draw l E F 91 rfl 9 S q34 eq34) H.size) ⟨Nat.le_of_ble_eq_true rfl, Nat.le_of_ble_eq_true rfl⟩ rfl (Nat.le_of_ble_eq_true rfl) (sd_room2 hc (mo_L_draw F 91 rfl 9 S q34 eq34) (mo_L_market_h285 F (f_L_market_l228 F n228) (mo_L_market_l228 F n228) _ _ _ _ _ hf) hR) dL_market_282) X hw hA hE hc (mo_L_draw F 91 rfl 9 S q34 eq34) (fun _ _ => rfl) (fun E H locs cs ss hZ hE X hw hc => ?_)
          rw [← hZ.at 91 rfl] at hl
          rw [← hZ.at 87 rfl] at hl
          rw [← hZ.at 92 rfl] at hl
          exact B285 _ _ _ _ _ _ _ _ _ _ hf hE X hw hc (lv_sub hl [0, 1, 2, 3, 4] rfl)
      have B268 : ∀ (x3 : Int32) (t0 : Int32) (t1 : Int32) (E : si_Ev) (S : si_St) (H : Heap) (locs : List Loc) (ls : Array Slot) (cs ss : Nat), f_L_market_h268 F (f_L_market_l228 F n228) x3 t0 t1 S = some o → sd_EE al_L_market E0 E → si_Cx p s m args c cL_market 7 yL_market.cls E A → si_Ws E A s.heap S H locs → sd_Ct S0 S cs ss → lv_has ls 7 [(0, .ref (E.2.1 91)), (1, .ref (E.2.1 87)), (2, .ref (E.2.1 92)), (3, .int x3)] → W p l e (sd_R fr_L_market lo_L_market S0 o) s m args below meth c H locs cs ss Q (F0 m 268 ls [.int t0, .int t1]) := by
        intro x3 t0 t1  E S H locs ls cs ss hf hE X hw hc hl
        have hcs := sd_room hc (mo_L_market_h268 F (f_L_market_l228 F n228) (mo_L_market_l228 F n228) _ _ _ _ _ hf) hR
        unfold f_L_market_h268 at hf
        refine lv_iadd X.1 X.2.1 dL_market_268 ?_
        obtain ⟨v35, ev35, hf⟩ := si_ob hf
        refine si_nmI ev35 ?_
        refine lv_istore (lv' := [(4, .int v35), (0, .ref (E.2.1 91)), (1, .ref (E.2.1 87)), (2, .ref (E.2.1 92)), (3, .int x3)]) X.1 X.2.1 dL_market_269 hl (by decide) rfl (fun ls hl => ?_)
        refine lv_aload_n X.1 X.2.1 dL_market_271 rfl (lv_at hl 1 rfl) ?_
        refine lv_iconst (v := 3) X.1 X.2.1 dL_market_272 (by decide) ?_
        obtain ⟨q36, eq36, hf⟩ := si_ob hf
        refine sd_goi (sd_runS (As := [.ref (E.2.1 91), .int 3]) (rest := []) cal_L_draw gm_RL_28 X hw hA hl.1 ((c_L_draw l E F 91 rfl 3 S q36 eq36) H.size) ⟨Nat.le_of_ble_eq_true rfl, Nat.le_of_ble_eq_true rfl⟩ rfl (Nat.le_of_ble_eq_true rfl) (sd_room2 hc (mo_L_draw F 91 rfl 3 S q36 eq36) (mo_L_market_h276 F (f_L_market_l228 F n228) (mo_L_market_l228 F n228) _ _ _ _ _ hf) hR) dL_market_273) X hw hA hE hc (mo_L_draw F 91 rfl 3 S q36 eq36) (fun _ _ => rfl) (fun E H locs cs ss hZ hE X hw hc => ?_)
        rw [← hZ.at 91 rfl] at hl
        rw [← hZ.at 87 rfl] at hl
        rw [← hZ.at 92 rfl] at hl
        exact B276 _ _ _ _ _ _ _ _ _ _ hf hE X hw hc (lv_sub hl [1, 2, 3, 4, 0] rfl)
      have B267 : ∀ (x3 : Int32) (t0 : Int32) (t1 : Int32) (t2 : Int32) (E : si_Ev) (S : si_St) (H : Heap) (locs : List Loc) (ls : Array Slot) (cs ss : Nat), f_L_market_h267 F (f_L_market_l228 F n228) x3 t0 t1 t2 S = some o → sd_EE al_L_market E0 E → si_Cx p s m args c cL_market 7 yL_market.cls E A → si_Ws E A s.heap S H locs → sd_Ct S0 S cs ss → lv_has ls 7 [(0, .ref (E.2.1 91)), (1, .ref (E.2.1 87)), (2, .ref (E.2.1 92)), (3, .int x3)] → W p l e (sd_R fr_L_market lo_L_market S0 o) s m args below meth c H locs cs ss Q (F0 m 267 ls [.int t0, .int t1, .int t2]) := by
        intro x3 t0 t1 t2  E S H locs ls cs ss hf hE X hw hc hl
        have hcs := sd_room hc (mo_L_market_h267 F (f_L_market_l228 F n228) (mo_L_market_l228 F n228) _ _ _ _ _ _ hf) hR
        unfold f_L_market_h267 at hf
        refine lv_iadd X.1 X.2.1 dL_market_267 ?_
        exact B268 _ _ _ _ _ _ _ _ _ _ hf hE X hw hc (lv_sub hl [0, 1, 2, 3] rfl)
      have B250 : ∀ (x3 : Int32) (t0 : Int32) (t1 : Int32) (E : si_Ev) (S : si_St) (H : Heap) (locs : List Loc) (ls : Array Slot) (cs ss : Nat), f_L_market_h250 F (f_L_market_l228 F n228) x3 t0 t1 S = some o → sd_EE al_L_market E0 E → si_Cx p s m args c cL_market 7 yL_market.cls E A → si_Ws E A s.heap S H locs → sd_Ct S0 S cs ss → lv_has ls 7 [(0, .ref (E.2.1 91)), (1, .ref (E.2.1 87)), (2, .ref (E.2.1 92)), (3, .int x3)] → W p l e (sd_R fr_L_market lo_L_market S0 o) s m args below meth c H locs cs ss Q (F0 m 250 ls [.int t0, .int t1]) := by
        intro x3 t0 t1  E S H locs ls cs ss hf hE X hw hc hl
        have hcs := sd_room hc (mo_L_market_h250 F (f_L_market_l228 F n228) (mo_L_market_l228 F n228) _ _ _ _ _ hf) hR
        unfold f_L_market_h250 at hf
        refine lv_if_ne (tgt := 258) X.1 X.2.1 dL_market_250 (by decide) (fun c250 => ?_) (fun c250 => ?_)
        · have hf := si_in c250 hf
          refine lv_bipush (v := 10) X.1 X.2.1 dL_market_258 (by decide) ?_
          refine lv_aload_n X.1 X.2.1 dL_market_260 rfl (lv_at hl 0 rfl) ?_
          refine lv_sipush (v := 900) X.1 X.2.1 dL_market_261 (by decide) ?_
          obtain ⟨q37, eq37, hf⟩ := si_ob hf
          refine sd_goi (sd_runS (As := [.ref (E.2.1 91), .int 900]) (rest := [.int 10, .int t1]) cal_L_draw gm_RL_28 X hw hA hl.1 ((c_L_draw l E F 91 rfl 900 S q37 eq37) H.size) ⟨Nat.le_of_ble_eq_true rfl, Nat.le_of_ble_eq_true rfl⟩ rfl (Nat.le_of_ble_eq_true rfl) (sd_room2 hc (mo_L_draw F 91 rfl 900 S q37 eq37) (mo_L_market_h267 F (f_L_market_l228 F n228) (mo_L_market_l228 F n228) _ _ _ _ _ _ hf) hR) dL_market_264) X hw hA hE hc (mo_L_draw F 91 rfl 900 S q37 eq37) (fun _ _ => rfl) (fun E H locs cs ss hZ hE X hw hc => ?_)
          rw [← hZ.at 91 rfl] at hl
          rw [← hZ.at 87 rfl] at hl
          rw [← hZ.at 92 rfl] at hl
          exact B267 _ _ _ _ _ _ _ _ _ _ _ hf hE X hw hc (lv_sub hl [0, 1, 2, 3] rfl)
        · have hf := si_ip c250 hf
          refine lv_bipush (v := 100) X.1 X.2.1 dL_market_253 (by decide) ?_
          refine lv_goto (tgt := 268) X.1 X.2.1 dL_market_255 (by decide) ?_
          exact B268 _ _ _ _ _ _ _ _ _ _ hf hE X hw hc (lv_sub hl [0, 1, 2, 3] rfl)
      have B244 : ∀ (x3 : Int32) (t0 : Int32) (t1 : Int32) (E : si_Ev) (S : si_St) (H : Heap) (locs : List Loc) (ls : Array Slot) (cs ss : Nat), f_L_market_h244 F (f_L_market_l228 F n228) x3 t0 t1 S = some o → sd_EE al_L_market E0 E → si_Cx p s m args c cL_market 7 yL_market.cls E A → si_Ws E A s.heap S H locs → sd_Ct S0 S cs ss → lv_has ls 7 [(0, .ref (E.2.1 91)), (1, .ref (E.2.1 87)), (2, .ref (E.2.1 92)), (3, .int x3)] → W p l e (sd_R fr_L_market lo_L_market S0 o) s m args below meth c H locs cs ss Q (F0 m 244 ls [.int t0, .int t1]) := by
        intro x3 t0 t1  E S H locs ls cs ss hf hE X hw hc hl
        have hcs := sd_room hc (mo_L_market_h244 F (f_L_market_l228 F n228) (mo_L_market_l228 F n228) _ _ _ _ _ hf) hR
        unfold f_L_market_h244 at hf
        refine lv_iadd X.1 X.2.1 dL_market_244 ?_
        refine lv_aload_n X.1 X.2.1 dL_market_245 rfl (lv_at hl 0 rfl) ?_
        refine lv_iconst (v := 2) X.1 X.2.1 dL_market_246 (by decide) ?_
        obtain ⟨q38, eq38, hf⟩ := si_ob hf
        refine sd_goi (sd_runS (As := [.ref (E.2.1 91), .int 2]) (rest := [.int (t1 + t0)]) cal_L_draw gm_RL_28 X hw hA hl.1 ((c_L_draw l E F 91 rfl 2 S q38 eq38) H.size) ⟨Nat.le_of_ble_eq_true rfl, Nat.le_of_ble_eq_true rfl⟩ rfl (Nat.le_of_ble_eq_true rfl) (sd_room2 hc (mo_L_draw F 91 rfl 2 S q38 eq38) (mo_L_market_h250 F (f_L_market_l228 F n228) (mo_L_market_l228 F n228) _ _ _ _ _ hf) hR) dL_market_247) X hw hA hE hc (mo_L_draw F 91 rfl 2 S q38 eq38) (fun _ _ => rfl) (fun E H locs cs ss hZ hE X hw hc => ?_)
        rw [← hZ.at 91 rfl] at hl
        rw [← hZ.at 87 rfl] at hl
        rw [← hZ.at 92 rfl] at hl
        exact B250 _ _ _ _ _ _ _ _ _ _ hf hE X hw hc (lv_sub hl [0, 1, 2, 3] rfl)
      intro x3  E S H locs ls cs ss hf hE X hw hc hl
      have hf : f_L_market_h228 F (f_L_market_l228 F n228) x3 S = some o := hf
      have ih_mo := mo_L_market_l228 F n228
      have hcs := sd_room hc (mo_L_market_h228 F (f_L_market_l228 F n228) ih_mo _ _ _ hf) hR
      unfold f_L_market_h228 at hf
      refine lv_iload_n X.1 X.2.1 dL_market_228 rfl (lv_at hl 3 rfl) ?_
      refine lv_aload_n X.1 X.2.1 dL_market_229 rfl (lv_at hl 2 rfl) ?_
      have hgr230 : sd_ok S 92 ∧ S.1 92 2 ≠ 0 := Decidable.byContradiction fun h9 => by rw [if_pos h9] at hf; cases hf
      have hf := si_in (not_not_intro hgr230) hf
      refine sd_getR X hw sd_cl22 2 (by decide) (Or.inr ⟨_, List.mem_of_getElem? (i := 14) rfl⟩) rfl rfl rfl hgr230 dL_market_230 ?_
      obtain ⟨v39, ev39, hf⟩ := si_ob hf
      refine sd_alen X hw (Or.inr rfl) ev39 dL_market_233 ?_
      refine lv_icmp_ge (tgt := 380) X.1 X.2.1 dL_market_234 (by decide) (fun c234 => ?_) (fun c234 => ?_)
      · have hf := si_ip c234 hf
        refine lv_aload_n X.1 X.2.1 dL_market_380 rfl (lv_at hl 2 rfl) ?_
        refine lv_iconst (v := 2) X.1 X.2.1 dL_market_381 (by decide) ?_
        refine lv_iconst (v := 1) X.1 X.2.1 dL_market_382 (by decide) ?_
        refine lv_aload_n X.1 X.2.1 dL_market_383 rfl (lv_at hl 0 rfl) ?_
        refine lv_iconst (v := 2) X.1 X.2.1 dL_market_384 (by decide) ?_
        obtain ⟨q40, eq40, hf⟩ := si_ob hf
        refine sd_goi (sd_runS (As := [.ref (E.2.1 91), .int 2]) (rest := [.int 1, .int 2, .ref (E.2.1 92)]) cal_L_draw gm_RL_28 X hw hA hl.1 ((c_L_draw l E F 91 rfl 2 S q40 eq40) H.size) ⟨Nat.le_of_ble_eq_true rfl, Nat.le_of_ble_eq_true rfl⟩ rfl (Nat.le_of_ble_eq_true rfl) (sd_room2 hc (mo_L_draw F 91 rfl 2 S q40 eq40) (mo_L_market_h388 F _ _ _ _ _ hf) hR) dL_market_385) X hw hA hE hc (mo_L_draw F 91 rfl 2 S q40 eq40) (fun _ _ => rfl) (fun E H locs cs ss hZ hE X hw hc => ?_)
        rw [← hZ.at 91 rfl] at hl
        rw [← hZ.at 87 rfl] at hl
        rw [← hZ.at 92 rfl] at hl
        rw [← hZ.at 92 rfl]
        exact B388 _ _ _ _ _ _ _ _ _ _ hf hE X hw hc (lv_sub hl [0, 1, 2] rfl)
      · have hf := si_in c234 hf
        refine lv_iconst (v := 1) X.1 X.2.1 dL_market_237 (by decide) ?_
        refine lv_aload_n X.1 X.2.1 dL_market_238 rfl (lv_at hl 0 rfl) ?_
        refine lv_bipush (v := 9) X.1 X.2.1 dL_market_239 (by decide) ?_
        obtain ⟨q41, eq41, hf⟩ := si_ob hf
        refine sd_goi (sd_runS (As := [.ref (E.2.1 91), .int 9]) (rest := [.int 1]) cal_L_draw gm_RL_28 X hw hA hl.1 ((c_L_draw l E F 91 rfl 9 S q41 eq41) H.size) ⟨Nat.le_of_ble_eq_true rfl, Nat.le_of_ble_eq_true rfl⟩ rfl (Nat.le_of_ble_eq_true rfl) (sd_room2 hc (mo_L_draw F 91 rfl 9 S q41 eq41) (mo_L_market_h244 F (f_L_market_l228 F n228) (mo_L_market_l228 F n228) _ _ _ _ _ hf) hR) dL_market_241) X hw hA hE hc (mo_L_draw F 91 rfl 9 S q41 eq41) (fun _ _ => rfl) (fun E H locs cs ss hZ hE X hw hc => ?_)
        rw [← hZ.at 91 rfl] at hl
        rw [← hZ.at 87 rfl] at hl
        rw [← hZ.at 92 rfl] at hl
        exact B244 _ _ _ _ _ _ _ _ _ _ hf hE X hw hc (lv_sub hl [0, 1, 2, 3] rfl)
  have B223 : ∀ (E : si_Ev) (S : si_St) (H : Heap) (locs : List Loc) (ls : Array Slot) (cs ss : Nat), f_L_market_h223 F S = some o → sd_EE al_L_market E0 E → si_Cx p s m args c cL_market 7 yL_market.cls E A → si_Ws E A s.heap S H locs → sd_Ct S0 S cs ss → lv_has ls 7 [(0, .ref (E.2.1 91)), (1, .ref (E.2.1 87)), (2, .ref (E.2.1 92))] → W p l e (sd_R fr_L_market lo_L_market S0 o) s m args below meth c H locs cs ss Q (F0 m 223 ls [.ref (E.2.1 94), .ref (E.2.1 92)]) := by
    intro   E S H locs ls cs ss hf hE X hw hc hl
    have hcs := sd_room hc (mo_L_market_h223 F _ _ hf) hR
    unfold f_L_market_h223 at hf
    obtain ⟨S42, eS42, hf⟩ := si_ob hf
    refine sd_putR X hw sd_cl22 2 (by decide) (Or.inr ⟨_, List.mem_of_getElem? (i := 14) rfl⟩) rfl (Or.inl rfl) rfl rfl (tyX10_ok 2 (by decide)) ⟨_, rfl⟩ eS42 dL_market_223 (fun H locs hw => ?_)
    have hc := hc.up (sd_pi_m eS42)
    refine lv_iconst (v := 0) X.1 X.2.1 dL_market_226 (by decide) ?_
    refine lv_istore_n (lv' := [(3, .int 0), (0, .ref (E.2.1 91)), (1, .ref (E.2.1 87)), (2, .ref (E.2.1 92))]) X.1 X.2.1 dL_market_227 rfl hl (by decide) rfl (fun ls hl => ?_)
    exact B228 F _ _ _ _ _ _ _ _ hf hE X hw hc (lv_sub hl [1, 2, 3, 0] rfl)
  have B220 : ∀ (t0 : Int32) (t1 : Int32) (E : si_Ev) (S : si_St) (H : Heap) (locs : List Loc) (ls : Array Slot) (cs ss : Nat), f_L_market_h220 F t0 t1 S = some o → sd_EE al_L_market E0 E → si_Cx p s m args c cL_market 7 yL_market.cls E A → si_Ws E A s.heap S H locs → sd_Ct S0 S cs ss → lv_has ls 7 [(0, .ref (E.2.1 91)), (1, .ref (E.2.1 87)), (2, .ref (E.2.1 92))] → W p l e (sd_R fr_L_market lo_L_market S0 o) s m args below meth c H locs cs ss Q (F0 m 220 ls [.int t0, .int t1, .ref (E.2.1 92)]) := by
    intro t0 t1  E S H locs ls cs ss hf hE X hw hc hl
    have hcs := sd_room hc (mo_L_market_h220 F _ _ _ _ hf) hR
    unfold f_L_market_h220 at hf
    refine lv_iadd X.1 X.2.1 dL_market_220 ?_
    obtain ⟨S43, eS43, hf⟩ := si_ob hf
    refine sd_newI X hw hA hE hc hR ga_int rfl rfl eS43 (mo_L_market_h223 F _ _ hf) dL_market_221 (fun E H cs ss hZ hE X hw hc => ?_)
    rw [← hZ.at 91 rfl] at hl
    rw [← hZ.at 87 rfl] at hl
    rw [← hZ.at 92 rfl] at hl
    rw [← hZ.at 92 rfl]
    exact B223 _ _ _ _ _ _ _ hf hE X hw hc (lv_sub hl [0, 1, 2] rfl)
  have B59 : ∀ (n59 : Nat) (x3 : Int32) (E : si_Ev) (S : si_St) (H : Heap) (locs : List Loc) (ls : Array Slot) (cs ss : Nat), f_L_market_l59 F n59 x3 S = some o → sd_EE al_L_market E0 E → si_Cx p s m args c cL_market 7 yL_market.cls E A → si_Ws E A s.heap S H locs → sd_Ct S0 S cs ss → lv_has ls 7 [(0, .ref (E.2.1 91)), (1, .ref (E.2.1 87)), (2, .ref (E.2.1 92)), (3, .int x3)] → W p l e (sd_R fr_L_market lo_L_market S0 o) s m args below meth c H locs cs ss Q (F0 m 59 ls []) := by
    intro n59
    induction n59 with
    | zero => intro x3  E S H locs ls cs ss hf; cases hf
    | succ n59 ih59 =>
      have B206 : ∀ (x3 : Int32) (E : si_Ev) (S : si_St) (H : Heap) (locs : List Loc) (ls : Array Slot) (cs ss : Nat), f_L_market_h206 F (f_L_market_l59 F n59) x3 S = some o → sd_EE al_L_market E0 E → si_Cx p s m args c cL_market 7 yL_market.cls E A → si_Ws E A s.heap S H locs → sd_Ct S0 S cs ss → lv_has ls 7 [(0, .ref (E.2.1 91)), (1, .ref (E.2.1 87)), (2, .ref (E.2.1 92)), (3, .int x3)] → W p l e (sd_R fr_L_market lo_L_market S0 o) s m args below meth c H locs cs ss Q (F0 m 206 ls [.ref (E.2.1 87)]) := by
        intro x3  E S H locs ls cs ss hf hE X hw hc hl
        have hcs := sd_room hc (mo_L_market_h206 F (f_L_market_l59 F n59) (mo_L_market_l59 F n59) _ _ _ hf) hR
        unfold f_L_market_h206 at hf
        refine lv_pop X.1 X.2.1 dL_market_206 rfl ?_
        obtain ⟨v44, ev44, hf⟩ := si_ob hf
        refine lv_iinc (v := v44) (lv' := [(3, .int v44), (0, .ref (E.2.1 91)), (1, .ref (E.2.1 87)), (2, .ref (E.2.1 92))]) X.1 X.2.1 dL_market_207 hl (k := 3) rfl (Option.some.inj ev44) (by decide) rfl (fun ls hl => ?_)
        refine lv_goto (tgt := 59) X.1 X.2.1 dL_market_210 (by decide) ?_
        exact ih59 _ _ _ _ _ _ _ _ hf hE X hw hc (lv_sub hl [1, 2, 3, 0] rfl)
      have B201 : ∀ (x3 : Int32) (E : si_Ev) (S : si_St) (H : Heap) (locs : List Loc) (ls : Array Slot) (cs ss : Nat), f_L_market_h201 F (f_L_market_l59 F n59) x3 S = some o → sd_EE al_L_market E0 E → si_Cx p s m args c cL_market 7 yL_market.cls E A → si_Ws E A s.heap S H locs → sd_Ct S0 S cs ss → lv_has ls 7 [(0, .ref (E.2.1 91)), (1, .ref (E.2.1 87)), (2, .ref (E.2.1 92)), (3, .int x3)] → W p l e (sd_R fr_L_market lo_L_market S0 o) s m args below meth c H locs cs ss Q (F0 m 201 ls [.ref (E.2.1 87)]) := by
        intro x3  E S H locs ls cs ss hf hE X hw hc hl
        have hcs := sd_room hc (mo_L_market_h201 F (f_L_market_l59 F n59) (mo_L_market_l59 F n59) _ _ _ hf) hR
        unfold f_L_market_h201 at hf
        refine lv_bipush (v := 59) X.1 X.2.1 dL_market_201 (by decide) ?_
        have hok203 : sd_ok S 87 := Decidable.byContradiction fun h9 => by rw [if_pos h9] at hf; cases hf
        have hf := si_in (not_not_intro hok203) hf
        obtain ⟨S45, eS45, hf⟩ := si_ob hf
        refine sd_gor (sd_runV (As := [.int 59]) (rest := []) sd_cl20 rfl hok203 cal_J4_append_cf468 gm_RL_54 X hw hA hl.1 ((c_J4_append_cf468 l E F 59 S S45 eS45) H.size) ⟨Nat.le_of_ble_eq_true rfl, Nat.le_of_ble_eq_true rfl⟩ rfl (Nat.le_of_ble_eq_true rfl) (sd_room2 hc (mo_J4_append_cf468 F 59 S S45 eS45) (mo_L_market_h206 F (f_L_market_l59 F n59) (mo_L_market_l59 F n59) _ _ _ hf) hR) dL_market_203) X hw hA hE hc (mo_J4_append_cf468 F 59 S S45 eS45) (sd_als_L_market_J4_append_cf468) (fun E H locs cs ss hZ hE X hw hc => ?_)
        rw [← hZ.at 91 rfl] at hl
        rw [← hZ.at 87 rfl] at hl
        rw [← hZ.at 92 rfl] at hl
        exact B206 _ _ _ _ _ _ _ _ hf hE X hw hc (lv_sub hl [0, 1, 2, 3] rfl)
      have B190 : ∀ (x3 : Int32) (E : si_Ev) (S : si_St) (H : Heap) (locs : List Loc) (ls : Array Slot) (cs ss : Nat), f_L_market_h190 F (f_L_market_l59 F n59) x3 S = some o → sd_EE al_L_market E0 E → si_Cx p s m args c cL_market 7 yL_market.cls E A → si_Ws E A s.heap S H locs → sd_Ct S0 S cs ss → lv_has ls 7 [(0, .ref (E.2.1 91)), (1, .ref (E.2.1 87)), (2, .ref (E.2.1 92)), (3, .int x3)] → W p l e (sd_R fr_L_market lo_L_market S0 o) s m args below meth c H locs cs ss Q (F0 m 190 ls [.ref (E.2.1 87)]) := by
        intro x3  E S H locs ls cs ss hf hE X hw hc hl
        have hcs := sd_room hc (mo_L_market_h190 F (f_L_market_l59 F n59) (mo_L_market_l59 F n59) _ _ _ hf) hR
        unfold f_L_market_h190 at hf
        refine lv_aload_n X.1 X.2.1 dL_market_190 rfl (lv_at hl 2 rfl) ?_
        have hgr191 : sd_ok S 92 ∧ S.1 92 1 ≠ 0 := Decidable.byContradiction fun h9 => by rw [if_pos h9] at hf; cases hf
        have hf := si_in (not_not_intro hgr191) hf
        refine sd_getR X hw sd_cl22 1 (by decide) (Or.inr ⟨_, List.mem_of_getElem? (i := 13) rfl⟩) rfl rfl rfl hgr191 dL_market_191 ?_
        refine lv_iload_n X.1 X.2.1 dL_market_194 rfl (lv_at hl 3 rfl) ?_
        refine lv_iconst (v := 3) X.1 X.2.1 dL_market_195 (by decide) ?_
        refine lv_iadd X.1 X.2.1 dL_market_196 ?_
        obtain ⟨v46, ev46, hf⟩ := si_ob hf
        refine sd_iald X hw rfl ev46 dL_market_197 ?_
        have hok198 : sd_ok S 87 := Decidable.byContradiction fun h9 => by rw [if_pos h9] at hf; cases hf
        have hf := si_in (not_not_intro hok198) hf
        obtain ⟨S47, eS47, hf⟩ := si_ob hf
        refine sd_gor (sd_runV (As := [.int v46]) (rest := []) sd_cl20 rfl hok198 cal_J4_append_bf812 gm_RL_51 X hw hA hl.1 ((c_J4_append_bf812 l E F v46 S S47 eS47) H.size) ⟨Nat.le_of_ble_eq_true rfl, Nat.le_of_ble_eq_true rfl⟩ rfl (Nat.le_of_ble_eq_true rfl) (sd_room2 hc (mo_J4_append_bf812 F v46 S S47 eS47) (mo_L_market_h201 F (f_L_market_l59 F n59) (mo_L_market_l59 F n59) _ _ _ hf) hR) dL_market_198) X hw hA hE hc (mo_J4_append_bf812 F v46 S S47 eS47) (sd_als_L_market_J4_append_bf812) (fun E H locs cs ss hZ hE X hw hc => ?_)
        rw [← hZ.at 91 rfl] at hl
        rw [← hZ.at 87 rfl] at hl
        rw [← hZ.at 92 rfl] at hl
        exact B201 _ _ _ _ _ _ _ _ hf hE X hw hc (lv_sub hl [0, 1, 2, 3] rfl)
      have B185 : ∀ (x3 : Int32) (E : si_Ev) (S : si_St) (H : Heap) (locs : List Loc) (ls : Array Slot) (cs ss : Nat), f_L_market_h185 F (f_L_market_l59 F n59) x3 S = some o → sd_EE al_L_market E0 E → si_Cx p s m args c cL_market 7 yL_market.cls E A → si_Ws E A s.heap S H locs → sd_Ct S0 S cs ss → lv_has ls 7 [(0, .ref (E.2.1 91)), (1, .ref (E.2.1 87)), (2, .ref (E.2.1 92)), (3, .int x3)] → W p l e (sd_R fr_L_market lo_L_market S0 o) s m args below meth c H locs cs ss Q (F0 m 185 ls [.ref (E.2.1 87)]) := by
        intro x3  E S H locs ls cs ss hf hE X hw hc hl
        have hcs := sd_room hc (mo_L_market_h185 F (f_L_market_l59 F n59) (mo_L_market_l59 F n59) _ _ _ hf) hR
        unfold f_L_market_h185 at hf
        refine lv_bipush (v := 32) X.1 X.2.1 dL_market_185 (by decide) ?_
        have hok187 : sd_ok S 87 := Decidable.byContradiction fun h9 => by rw [if_pos h9] at hf; cases hf
        have hf := si_in (not_not_intro hok187) hf
        obtain ⟨S48, eS48, hf⟩ := si_ob hf
        refine sd_gor (sd_runV (As := [.int 32]) (rest := []) sd_cl20 rfl hok187 cal_J4_append_cf468 gm_RL_54 X hw hA hl.1 ((c_J4_append_cf468 l E F 32 S S48 eS48) H.size) ⟨Nat.le_of_ble_eq_true rfl, Nat.le_of_ble_eq_true rfl⟩ rfl (Nat.le_of_ble_eq_true rfl) (sd_room2 hc (mo_J4_append_cf468 F 32 S S48 eS48) (mo_L_market_h190 F (f_L_market_l59 F n59) (mo_L_market_l59 F n59) _ _ _ hf) hR) dL_market_187) X hw hA hE hc (mo_J4_append_cf468 F 32 S S48 eS48) (sd_als_L_market_J4_append_cf468) (fun E H locs cs ss hZ hE X hw hc => ?_)
        rw [← hZ.at 91 rfl] at hl
        rw [← hZ.at 87 rfl] at hl
        rw [← hZ.at 92 rfl] at hl
        exact B190 _ _ _ _ _ _ _ _ hf hE X hw hc (lv_sub hl [0, 1, 2, 3] rfl)
      have B174 : ∀ (x3 : Int32) (E : si_Ev) (S : si_St) (H : Heap) (locs : List Loc) (ls : Array Slot) (cs ss : Nat), f_L_market_h174 F (f_L_market_l59 F n59) x3 S = some o → sd_EE al_L_market E0 E → si_Cx p s m args c cL_market 7 yL_market.cls E A → si_Ws E A s.heap S H locs → sd_Ct S0 S cs ss → lv_has ls 7 [(0, .ref (E.2.1 91)), (1, .ref (E.2.1 87)), (2, .ref (E.2.1 92)), (3, .int x3)] → W p l e (sd_R fr_L_market lo_L_market S0 o) s m args below meth c H locs cs ss Q (F0 m 174 ls [.ref (E.2.1 87)]) := by
        intro x3  E S H locs ls cs ss hf hE X hw hc hl
        have hcs := sd_room hc (mo_L_market_h174 F (f_L_market_l59 F n59) (mo_L_market_l59 F n59) _ _ _ hf) hR
        unfold f_L_market_h174 at hf
        refine lv_aload_n X.1 X.2.1 dL_market_174 rfl (lv_at hl 2 rfl) ?_
        have hgr175 : sd_ok S 92 ∧ S.1 92 1 ≠ 0 := Decidable.byContradiction fun h9 => by rw [if_pos h9] at hf; cases hf
        have hf := si_in (not_not_intro hgr175) hf
        refine sd_getR X hw sd_cl22 1 (by decide) (Or.inr ⟨_, List.mem_of_getElem? (i := 13) rfl⟩) rfl rfl rfl hgr175 dL_market_175 ?_
        refine lv_iload_n X.1 X.2.1 dL_market_178 rfl (lv_at hl 3 rfl) ?_
        refine lv_iconst (v := 2) X.1 X.2.1 dL_market_179 (by decide) ?_
        refine lv_iadd X.1 X.2.1 dL_market_180 ?_
        obtain ⟨v49, ev49, hf⟩ := si_ob hf
        refine sd_iald X hw rfl ev49 dL_market_181 ?_
        have hok182 : sd_ok S 87 := Decidable.byContradiction fun h9 => by rw [if_pos h9] at hf; cases hf
        have hf := si_in (not_not_intro hok182) hf
        obtain ⟨S50, eS50, hf⟩ := si_ob hf
        refine sd_gor (sd_runV (As := [.int v49]) (rest := []) sd_cl20 rfl hok182 cal_J4_append_bf812 gm_RL_51 X hw hA hl.1 ((c_J4_append_bf812 l E F v49 S S50 eS50) H.size) ⟨Nat.le_of_ble_eq_true rfl, Nat.le_of_ble_eq_true rfl⟩ rfl (Nat.le_of_ble_eq_true rfl) (sd_room2 hc (mo_J4_append_bf812 F v49 S S50 eS50) (mo_L_market_h185 F (f_L_market_l59 F n59) (mo_L_market_l59 F n59) _ _ _ hf) hR) dL_market_182) X hw hA hE hc (mo_J4_append_bf812 F v49 S S50 eS50) (sd_als_L_market_J4_append_bf812) (fun E H locs cs ss hZ hE X hw hc => ?_)
        rw [← hZ.at 91 rfl] at hl
        rw [← hZ.at 87 rfl] at hl
        rw [← hZ.at 92 rfl] at hl
        exact B185 _ _ _ _ _ _ _ _ hf hE X hw hc (lv_sub hl [0, 1, 2, 3] rfl)
      have B169 : ∀ (x3 : Int32) (E : si_Ev) (S : si_St) (H : Heap) (locs : List Loc) (ls : Array Slot) (cs ss : Nat), f_L_market_h169 F (f_L_market_l59 F n59) x3 S = some o → sd_EE al_L_market E0 E → si_Cx p s m args c cL_market 7 yL_market.cls E A → si_Ws E A s.heap S H locs → sd_Ct S0 S cs ss → lv_has ls 7 [(0, .ref (E.2.1 91)), (1, .ref (E.2.1 87)), (2, .ref (E.2.1 92)), (3, .int x3)] → W p l e (sd_R fr_L_market lo_L_market S0 o) s m args below meth c H locs cs ss Q (F0 m 169 ls [.ref (E.2.1 87)]) := by
        intro x3  E S H locs ls cs ss hf hE X hw hc hl
        have hcs := sd_room hc (mo_L_market_h169 F (f_L_market_l59 F n59) (mo_L_market_l59 F n59) _ _ _ hf) hR
        unfold f_L_market_h169 at hf
        refine lv_bipush (v := 32) X.1 X.2.1 dL_market_169 (by decide) ?_
        have hok171 : sd_ok S 87 := Decidable.byContradiction fun h9 => by rw [if_pos h9] at hf; cases hf
        have hf := si_in (not_not_intro hok171) hf
        obtain ⟨S51, eS51, hf⟩ := si_ob hf
        refine sd_gor (sd_runV (As := [.int 32]) (rest := []) sd_cl20 rfl hok171 cal_J4_append_cf468 gm_RL_54 X hw hA hl.1 ((c_J4_append_cf468 l E F 32 S S51 eS51) H.size) ⟨Nat.le_of_ble_eq_true rfl, Nat.le_of_ble_eq_true rfl⟩ rfl (Nat.le_of_ble_eq_true rfl) (sd_room2 hc (mo_J4_append_cf468 F 32 S S51 eS51) (mo_L_market_h174 F (f_L_market_l59 F n59) (mo_L_market_l59 F n59) _ _ _ hf) hR) dL_market_171) X hw hA hE hc (mo_J4_append_cf468 F 32 S S51 eS51) (sd_als_L_market_J4_append_cf468) (fun E H locs cs ss hZ hE X hw hc => ?_)
        rw [← hZ.at 91 rfl] at hl
        rw [← hZ.at 87 rfl] at hl
        rw [← hZ.at 92 rfl] at hl
        exact B174 _ _ _ _ _ _ _ _ hf hE X hw hc (lv_sub hl [0, 1, 2, 3] rfl)
      have B158 : ∀ (x3 : Int32) (E : si_Ev) (S : si_St) (H : Heap) (locs : List Loc) (ls : Array Slot) (cs ss : Nat), f_L_market_h158 F (f_L_market_l59 F n59) x3 S = some o → sd_EE al_L_market E0 E → si_Cx p s m args c cL_market 7 yL_market.cls E A → si_Ws E A s.heap S H locs → sd_Ct S0 S cs ss → lv_has ls 7 [(0, .ref (E.2.1 91)), (1, .ref (E.2.1 87)), (2, .ref (E.2.1 92)), (3, .int x3)] → W p l e (sd_R fr_L_market lo_L_market S0 o) s m args below meth c H locs cs ss Q (F0 m 158 ls [.ref (E.2.1 87)]) := by
        intro x3  E S H locs ls cs ss hf hE X hw hc hl
        have hcs := sd_room hc (mo_L_market_h158 F (f_L_market_l59 F n59) (mo_L_market_l59 F n59) _ _ _ hf) hR
        unfold f_L_market_h158 at hf
        refine lv_aload_n X.1 X.2.1 dL_market_158 rfl (lv_at hl 2 rfl) ?_
        have hgr159 : sd_ok S 92 ∧ S.1 92 1 ≠ 0 := Decidable.byContradiction fun h9 => by rw [if_pos h9] at hf; cases hf
        have hf := si_in (not_not_intro hgr159) hf
        refine sd_getR X hw sd_cl22 1 (by decide) (Or.inr ⟨_, List.mem_of_getElem? (i := 13) rfl⟩) rfl rfl rfl hgr159 dL_market_159 ?_
        refine lv_iload_n X.1 X.2.1 dL_market_162 rfl (lv_at hl 3 rfl) ?_
        refine lv_iconst (v := 1) X.1 X.2.1 dL_market_163 (by decide) ?_
        refine lv_iadd X.1 X.2.1 dL_market_164 ?_
        obtain ⟨v52, ev52, hf⟩ := si_ob hf
        refine sd_iald X hw rfl ev52 dL_market_165 ?_
        have hok166 : sd_ok S 87 := Decidable.byContradiction fun h9 => by rw [if_pos h9] at hf; cases hf
        have hf := si_in (not_not_intro hok166) hf
        obtain ⟨S53, eS53, hf⟩ := si_ob hf
        refine sd_gor (sd_runV (As := [.int v52]) (rest := []) sd_cl20 rfl hok166 cal_J4_append_bf812 gm_RL_51 X hw hA hl.1 ((c_J4_append_bf812 l E F v52 S S53 eS53) H.size) ⟨Nat.le_of_ble_eq_true rfl, Nat.le_of_ble_eq_true rfl⟩ rfl (Nat.le_of_ble_eq_true rfl) (sd_room2 hc (mo_J4_append_bf812 F v52 S S53 eS53) (mo_L_market_h169 F (f_L_market_l59 F n59) (mo_L_market_l59 F n59) _ _ _ hf) hR) dL_market_166) X hw hA hE hc (mo_J4_append_bf812 F v52 S S53 eS53) (sd_als_L_market_J4_append_bf812) (fun E H locs cs ss hZ hE X hw hc => ?_)
        rw [← hZ.at 91 rfl] at hl
        rw [← hZ.at 87 rfl] at hl
        rw [← hZ.at 92 rfl] at hl
        exact B169 _ _ _ _ _ _ _ _ hf hE X hw hc (lv_sub hl [0, 1, 2, 3] rfl)
      have B153 : ∀ (x3 : Int32) (E : si_Ev) (S : si_St) (H : Heap) (locs : List Loc) (ls : Array Slot) (cs ss : Nat), f_L_market_h153 F (f_L_market_l59 F n59) x3 S = some o → sd_EE al_L_market E0 E → si_Cx p s m args c cL_market 7 yL_market.cls E A → si_Ws E A s.heap S H locs → sd_Ct S0 S cs ss → lv_has ls 7 [(0, .ref (E.2.1 91)), (1, .ref (E.2.1 87)), (2, .ref (E.2.1 92)), (3, .int x3)] → W p l e (sd_R fr_L_market lo_L_market S0 o) s m args below meth c H locs cs ss Q (F0 m 153 ls [.ref (E.2.1 87)]) := by
        intro x3  E S H locs ls cs ss hf hE X hw hc hl
        have hcs := sd_room hc (mo_L_market_h153 F (f_L_market_l59 F n59) (mo_L_market_l59 F n59) _ _ _ hf) hR
        unfold f_L_market_h153 at hf
        refine lv_bipush (v := 32) X.1 X.2.1 dL_market_153 (by decide) ?_
        have hok155 : sd_ok S 87 := Decidable.byContradiction fun h9 => by rw [if_pos h9] at hf; cases hf
        have hf := si_in (not_not_intro hok155) hf
        obtain ⟨S54, eS54, hf⟩ := si_ob hf
        refine sd_gor (sd_runV (As := [.int 32]) (rest := []) sd_cl20 rfl hok155 cal_J4_append_cf468 gm_RL_54 X hw hA hl.1 ((c_J4_append_cf468 l E F 32 S S54 eS54) H.size) ⟨Nat.le_of_ble_eq_true rfl, Nat.le_of_ble_eq_true rfl⟩ rfl (Nat.le_of_ble_eq_true rfl) (sd_room2 hc (mo_J4_append_cf468 F 32 S S54 eS54) (mo_L_market_h158 F (f_L_market_l59 F n59) (mo_L_market_l59 F n59) _ _ _ hf) hR) dL_market_155) X hw hA hE hc (mo_J4_append_cf468 F 32 S S54 eS54) (sd_als_L_market_J4_append_cf468) (fun E H locs cs ss hZ hE X hw hc => ?_)
        rw [← hZ.at 91 rfl] at hl
        rw [← hZ.at 87 rfl] at hl
        rw [← hZ.at 92 rfl] at hl
        exact B158 _ _ _ _ _ _ _ _ hf hE X hw hc (lv_sub hl [0, 1, 2, 3] rfl)
      have B144 : ∀ (x3 : Int32) (E : si_Ev) (S : si_St) (H : Heap) (locs : List Loc) (ls : Array Slot) (cs ss : Nat), f_L_market_h144 F (f_L_market_l59 F n59) x3 S = some o → sd_EE al_L_market E0 E → si_Cx p s m args c cL_market 7 yL_market.cls E A → si_Ws E A s.heap S H locs → sd_Ct S0 S cs ss → lv_has ls 7 [(0, .ref (E.2.1 91)), (1, .ref (E.2.1 87)), (2, .ref (E.2.1 92)), (3, .int x3)] → W p l e (sd_R fr_L_market lo_L_market S0 o) s m args below meth c H locs cs ss Q (F0 m 144 ls [.ref (E.2.1 87)]) := by
        intro x3  E S H locs ls cs ss hf hE X hw hc hl
        have hcs := sd_room hc (mo_L_market_h144 F (f_L_market_l59 F n59) (mo_L_market_l59 F n59) _ _ _ hf) hR
        unfold f_L_market_h144 at hf
        refine lv_aload_n X.1 X.2.1 dL_market_144 rfl (lv_at hl 2 rfl) ?_
        have hgr145 : sd_ok S 92 ∧ S.1 92 1 ≠ 0 := Decidable.byContradiction fun h9 => by rw [if_pos h9] at hf; cases hf
        have hf := si_in (not_not_intro hgr145) hf
        refine sd_getR X hw sd_cl22 1 (by decide) (Or.inr ⟨_, List.mem_of_getElem? (i := 13) rfl⟩) rfl rfl rfl hgr145 dL_market_145 ?_
        refine lv_iload_n X.1 X.2.1 dL_market_148 rfl (lv_at hl 3 rfl) ?_
        obtain ⟨v55, ev55, hf⟩ := si_ob hf
        refine sd_iald X hw rfl ev55 dL_market_149 ?_
        have hok150 : sd_ok S 87 := Decidable.byContradiction fun h9 => by rw [if_pos h9] at hf; cases hf
        have hf := si_in (not_not_intro hok150) hf
        obtain ⟨S56, eS56, hf⟩ := si_ob hf
        refine sd_gor (sd_runV (As := [.int v55]) (rest := []) sd_cl20 rfl hok150 cal_J4_append_bf812 gm_RL_51 X hw hA hl.1 ((c_J4_append_bf812 l E F v55 S S56 eS56) H.size) ⟨Nat.le_of_ble_eq_true rfl, Nat.le_of_ble_eq_true rfl⟩ rfl (Nat.le_of_ble_eq_true rfl) (sd_room2 hc (mo_J4_append_bf812 F v55 S S56 eS56) (mo_L_market_h153 F (f_L_market_l59 F n59) (mo_L_market_l59 F n59) _ _ _ hf) hR) dL_market_150) X hw hA hE hc (mo_J4_append_bf812 F v55 S S56 eS56) (sd_als_L_market_J4_append_bf812) (fun E H locs cs ss hZ hE X hw hc => ?_)
        rw [← hZ.at 91 rfl] at hl
        rw [← hZ.at 87 rfl] at hl
        rw [← hZ.at 92 rfl] at hl
        exact B153 _ _ _ _ _ _ _ _ hf hE X hw hc (lv_sub hl [0, 1, 2, 3] rfl)
      have B136 : ∀ (x3 : Int32) (t0 : Int32) (t1 : Int32) (t2 : Int32) (E : si_Ev) (S : si_St) (H : Heap) (locs : List Loc) (ls : Array Slot) (cs ss : Nat), f_L_market_h136 F (f_L_market_l59 F n59) x3 t0 t1 t2 S = some o → sd_EE al_L_market E0 E → si_Cx p s m args c cL_market 7 yL_market.cls E A → si_Ws E A s.heap S H locs → sd_Ct S0 S cs ss → lv_has ls 7 [(0, .ref (E.2.1 91)), (1, .ref (E.2.1 87)), (2, .ref (E.2.1 92)), (3, .int x3)] → W p l e (sd_R fr_L_market lo_L_market S0 o) s m args below meth c H locs cs ss Q (F0 m 136 ls [.int t0, .int t1, .int t2, .ref (E.2.1 93)]) := by
        intro x3 t0 t1 t2  E S H locs ls cs ss hf hE X hw hc hl
        have hcs := sd_room hc (mo_L_market_h136 F (f_L_market_l59 F n59) (mo_L_market_l59 F n59) _ _ _ _ _ _ hf) hR
        unfold f_L_market_h136 at hf
        refine lv_iadd X.1 X.2.1 dL_market_136 ?_
        obtain ⟨S57, eS57, hf⟩ := si_ob hf
        refine sd_iast X hw rfl eS57 dL_market_137 (fun H locs hw => ?_)
        have hc := hc.up (sd_wr_m eS57)
        refine lv_aload_n X.1 X.2.1 dL_market_138 rfl (lv_at hl 1 rfl) ?_
        refine si_ldcS X (si_sr 1 rfl) rfl dL_market_139 ?_
        have hok141 : sd_ok S57 87 := Decidable.byContradiction fun h9 => by rw [if_pos h9] at hf; cases hf
        have hf := si_in (not_not_intro hok141) hf
        obtain ⟨S58, eS58, hf⟩ := si_ob hf
        refine sd_gor (sd_runV (As := [.ref (E.2.2.2.1 9)]) (rest := []) sd_cl20 rfl hok141 cal_J4_append_15ec4 gm_RL_40 X hw hA hl.1 ((c_J4_append_15ec4 l E F 9 (by decide) S57 S58 eS58) H.size) ⟨Nat.le_of_ble_eq_true rfl, Nat.le_of_ble_eq_true rfl⟩ rfl (Nat.le_of_ble_eq_true rfl) (sd_room2 hc (mo_J4_append_15ec4 F 9 (by decide) S57 S58 eS58) (mo_L_market_h144 F (f_L_market_l59 F n59) (mo_L_market_l59 F n59) _ _ _ hf) hR) dL_market_141) X hw hA hE hc (mo_J4_append_15ec4 F 9 (by decide) S57 S58 eS58) (sd_als_L_market_J4_append_15ec4) (fun E H locs cs ss hZ hE X hw hc => ?_)
        rw [← hZ.at 91 rfl] at hl
        rw [← hZ.at 87 rfl] at hl
        rw [← hZ.at 92 rfl] at hl
        exact B144 _ _ _ _ _ _ _ _ hf hE X hw hc (lv_sub hl [0, 1, 2, 3] rfl)
      have B109 : ∀ (x3 : Int32) (t0 : Int32) (t1 : Int32) (t2 : Int32) (E : si_Ev) (S : si_St) (H : Heap) (locs : List Loc) (ls : Array Slot) (cs ss : Nat), f_L_market_h109 F (f_L_market_l59 F n59) x3 t0 t1 t2 S = some o → sd_EE al_L_market E0 E → si_Cx p s m args c cL_market 7 yL_market.cls E A → si_Ws E A s.heap S H locs → sd_Ct S0 S cs ss → lv_has ls 7 [(0, .ref (E.2.1 91)), (1, .ref (E.2.1 87)), (2, .ref (E.2.1 92)), (3, .int x3)] → W p l e (sd_R fr_L_market lo_L_market S0 o) s m args below meth c H locs cs ss Q (F0 m 109 ls [.int t0, .int t1, .int t2, .ref (E.2.1 93)]) := by
        intro x3 t0 t1 t2  E S H locs ls cs ss hf hE X hw hc hl
        have hcs := sd_room hc (mo_L_market_h109 F (f_L_market_l59 F n59) (mo_L_market_l59 F n59) _ _ _ _ _ _ hf) hR
        unfold f_L_market_h109 at hf
        refine lv_iadd X.1 X.2.1 dL_market_109 ?_
        obtain ⟨S59, eS59, hf⟩ := si_ob hf
        refine sd_iast X hw rfl eS59 dL_market_110 (fun H locs hw => ?_)
        have hc := hc.up (sd_wr_m eS59)
        refine lv_aload_n X.1 X.2.1 dL_market_111 rfl (lv_at hl 2 rfl) ?_
        have hgr112 : sd_ok S59 92 ∧ S59.1 92 1 ≠ 0 := Decidable.byContradiction fun h9 => by rw [if_pos h9] at hf; cases hf
        have hf := si_in (not_not_intro hgr112) hf
        refine sd_getR X hw sd_cl22 1 (by decide) (Or.inr ⟨_, List.mem_of_getElem? (i := 13) rfl⟩) rfl rfl rfl hgr112 dL_market_112 ?_
        refine lv_iload_n X.1 X.2.1 dL_market_115 rfl (lv_at hl 3 rfl) ?_
        refine lv_iconst (v := 3) X.1 X.2.1 dL_market_116 (by decide) ?_
        refine lv_iadd X.1 X.2.1 dL_market_117 ?_
        refine lv_bipush (v := 20) X.1 X.2.1 dL_market_118 (by decide) ?_
        refine lv_aload_n X.1 X.2.1 dL_market_120 rfl (lv_at hl 2 rfl) ?_
        have hgr121 : sd_ok S59 92 ∧ S59.1 92 1 ≠ 0 := Decidable.byContradiction fun h9 => by rw [if_pos h9] at hf; cases hf
        have hf := si_in (not_not_intro hgr121) hf
        refine sd_getR X hw sd_cl22 1 (by decide) (Or.inr ⟨_, List.mem_of_getElem? (i := 13) rfl⟩) rfl rfl rfl hgr121 dL_market_121 ?_
        refine lv_iload_n X.1 X.2.1 dL_market_124 rfl (lv_at hl 3 rfl) ?_
        refine lv_iconst (v := 2) X.1 X.2.1 dL_market_125 (by decide) ?_
        refine lv_iadd X.1 X.2.1 dL_market_126 ?_
        obtain ⟨v60, ev60, hf⟩ := si_ob hf
        refine sd_iald X hw rfl ev60 dL_market_127 ?_
        refine lv_imul X.1 X.2.1 dL_market_128 ?_
        refine lv_aload_n X.1 X.2.1 dL_market_129 rfl (lv_at hl 0 rfl) ?_
        refine lv_sipush (v := 4000) X.1 X.2.1 dL_market_130 (by decide) ?_
        obtain ⟨q61, eq61, hf⟩ := si_ob hf
        refine sd_goi (sd_runS (As := [.ref (E.2.1 91), .int 4000]) (rest := [.int (20 * v60), .int (x3 + 3), .ref (E.2.1 93)]) cal_L_draw gm_RL_28 X hw hA hl.1 ((c_L_draw l E F 91 rfl 4000 S59 q61 eq61) H.size) ⟨Nat.le_of_ble_eq_true rfl, Nat.le_of_ble_eq_true rfl⟩ rfl (Nat.le_of_ble_eq_true rfl) (sd_room2 hc (mo_L_draw F 91 rfl 4000 S59 q61 eq61) (mo_L_market_h136 F (f_L_market_l59 F n59) (mo_L_market_l59 F n59) _ _ _ _ _ _ hf) hR) dL_market_133) X hw hA hE hc (mo_L_draw F 91 rfl 4000 S59 q61 eq61) (fun _ _ => rfl) (fun E H locs cs ss hZ hE X hw hc => ?_)
        rw [← hZ.at 91 rfl] at hl
        rw [← hZ.at 87 rfl] at hl
        rw [← hZ.at 92 rfl] at hl
        rw [← hZ.at 93 rfl]
        exact B136 _ _ _ _ _ _ _ _ _ _ _ hf hE X hw hc (lv_sub hl [0, 1, 2, 3] rfl)
      have B94 : ∀ (x3 : Int32) (t0 : Int32) (t1 : Int32) (E : si_Ev) (S : si_St) (H : Heap) (locs : List Loc) (ls : Array Slot) (cs ss : Nat), f_L_market_h94 F (f_L_market_l59 F n59) x3 t0 t1 S = some o → sd_EE al_L_market E0 E → si_Cx p s m args c cL_market 7 yL_market.cls E A → si_Ws E A s.heap S H locs → sd_Ct S0 S cs ss → lv_has ls 7 [(0, .ref (E.2.1 91)), (1, .ref (E.2.1 87)), (2, .ref (E.2.1 92)), (3, .int x3)] → W p l e (sd_R fr_L_market lo_L_market S0 o) s m args below meth c H locs cs ss Q (F0 m 94 ls [.int t0, .int t1, .ref (E.2.1 93)]) := by
        intro x3 t0 t1  E S H locs ls cs ss hf hE X hw hc hl
        have hcs := sd_room hc (mo_L_market_h94 F (f_L_market_l59 F n59) (mo_L_market_l59 F n59) _ _ _ _ _ hf) hR
        unfold f_L_market_h94 at hf
        obtain ⟨S62, eS62, hf⟩ := si_ob hf
        refine sd_iast X hw rfl eS62 dL_market_94 (fun H locs hw => ?_)
        have hc := hc.up (sd_wr_m eS62)
        refine lv_aload_n X.1 X.2.1 dL_market_95 rfl (lv_at hl 2 rfl) ?_
        have hgr96 : sd_ok S62 92 ∧ S62.1 92 1 ≠ 0 := Decidable.byContradiction fun h9 => by rw [if_pos h9] at hf; cases hf
        have hf := si_in (not_not_intro hgr96) hf
        refine sd_getR X hw sd_cl22 1 (by decide) (Or.inr ⟨_, List.mem_of_getElem? (i := 13) rfl⟩) rfl rfl rfl hgr96 dL_market_96 ?_
        refine lv_iload_n X.1 X.2.1 dL_market_99 rfl (lv_at hl 3 rfl) ?_
        refine lv_iconst (v := 2) X.1 X.2.1 dL_market_100 (by decide) ?_
        refine lv_iadd X.1 X.2.1 dL_market_101 ?_
        refine lv_iconst (v := 1) X.1 X.2.1 dL_market_102 (by decide) ?_
        refine lv_aload_n X.1 X.2.1 dL_market_103 rfl (lv_at hl 0 rfl) ?_
        refine lv_bipush (v := 9) X.1 X.2.1 dL_market_104 (by decide) ?_
        obtain ⟨q63, eq63, hf⟩ := si_ob hf
        refine sd_goi (sd_runS (As := [.ref (E.2.1 91), .int 9]) (rest := [.int 1, .int (x3 + 2), .ref (E.2.1 93)]) cal_L_draw gm_RL_28 X hw hA hl.1 ((c_L_draw l E F 91 rfl 9 S62 q63 eq63) H.size) ⟨Nat.le_of_ble_eq_true rfl, Nat.le_of_ble_eq_true rfl⟩ rfl (Nat.le_of_ble_eq_true rfl) (sd_room2 hc (mo_L_draw F 91 rfl 9 S62 q63 eq63) (mo_L_market_h109 F (f_L_market_l59 F n59) (mo_L_market_l59 F n59) _ _ _ _ _ _ hf) hR) dL_market_106) X hw hA hE hc (mo_L_draw F 91 rfl 9 S62 q63 eq63) (fun _ _ => rfl) (fun E H locs cs ss hZ hE X hw hc => ?_)
        rw [← hZ.at 91 rfl] at hl
        rw [← hZ.at 87 rfl] at hl
        rw [← hZ.at 92 rfl] at hl
        rw [← hZ.at 93 rfl]
        exact B109 _ _ _ _ _ _ _ _ _ _ _ hf hE X hw hc (lv_sub hl [0, 1, 2, 3] rfl)
      have B81 : ∀ (x3 : Int32) (t0 : Int32) (t1 : Int32) (E : si_Ev) (S : si_St) (H : Heap) (locs : List Loc) (ls : Array Slot) (cs ss : Nat), f_L_market_h81 F (f_L_market_l59 F n59) x3 t0 t1 S = some o → sd_EE al_L_market E0 E → si_Cx p s m args c cL_market 7 yL_market.cls E A → si_Ws E A s.heap S H locs → sd_Ct S0 S cs ss → lv_has ls 7 [(0, .ref (E.2.1 91)), (1, .ref (E.2.1 87)), (2, .ref (E.2.1 92)), (3, .int x3)] → W p l e (sd_R fr_L_market lo_L_market S0 o) s m args below meth c H locs cs ss Q (F0 m 81 ls [.int t0, .int t1, .ref (E.2.1 93)]) := by
        intro x3 t0 t1  E S H locs ls cs ss hf hE X hw hc hl
        have hcs := sd_room hc (mo_L_market_h81 F (f_L_market_l59 F n59) (mo_L_market_l59 F n59) _ _ _ _ _ hf) hR
        unfold f_L_market_h81 at hf
        obtain ⟨S64, eS64, hf⟩ := si_ob hf
        refine sd_iast X hw rfl eS64 dL_market_81 (fun H locs hw => ?_)
        have hc := hc.up (sd_wr_m eS64)
        refine lv_aload_n X.1 X.2.1 dL_market_82 rfl (lv_at hl 2 rfl) ?_
        have hgr83 : sd_ok S64 92 ∧ S64.1 92 1 ≠ 0 := Decidable.byContradiction fun h9 => by rw [if_pos h9] at hf; cases hf
        have hf := si_in (not_not_intro hgr83) hf
        refine sd_getR X hw sd_cl22 1 (by decide) (Or.inr ⟨_, List.mem_of_getElem? (i := 13) rfl⟩) rfl rfl rfl hgr83 dL_market_83 ?_
        refine lv_iload_n X.1 X.2.1 dL_market_86 rfl (lv_at hl 3 rfl) ?_
        refine lv_iconst (v := 1) X.1 X.2.1 dL_market_87 (by decide) ?_
        refine lv_iadd X.1 X.2.1 dL_market_88 ?_
        refine lv_aload_n X.1 X.2.1 dL_market_89 rfl (lv_at hl 0 rfl) ?_
        refine lv_iconst (v := 3) X.1 X.2.1 dL_market_90 (by decide) ?_
        obtain ⟨q65, eq65, hf⟩ := si_ob hf
        refine sd_goi (sd_runS (As := [.ref (E.2.1 91), .int 3]) (rest := [.int (x3 + 1), .ref (E.2.1 93)]) cal_L_draw gm_RL_28 X hw hA hl.1 ((c_L_draw l E F 91 rfl 3 S64 q65 eq65) H.size) ⟨Nat.le_of_ble_eq_true rfl, Nat.le_of_ble_eq_true rfl⟩ rfl (Nat.le_of_ble_eq_true rfl) (sd_room2 hc (mo_L_draw F 91 rfl 3 S64 q65 eq65) (mo_L_market_h94 F (f_L_market_l59 F n59) (mo_L_market_l59 F n59) _ _ _ _ _ hf) hR) dL_market_91) X hw hA hE hc (mo_L_draw F 91 rfl 3 S64 q65 eq65) (fun _ _ => rfl) (fun E H locs cs ss hZ hE X hw hc => ?_)
        rw [← hZ.at 91 rfl] at hl
        rw [← hZ.at 87 rfl] at hl
        rw [← hZ.at 92 rfl] at hl
        rw [← hZ.at 93 rfl]
        exact B94 _ _ _ _ _ _ _ _ _ _ hf hE X hw hc (lv_sub hl [0, 1, 2, 3] rfl)
      intro x3  E S H locs ls cs ss hf hE X hw hc hl
      have hf : f_L_market_h59 F (f_L_market_l59 F n59) x3 S = some o := hf
      have ih_mo := mo_L_market_l59 F n59
      have hcs := sd_room hc (mo_L_market_h59 F (f_L_market_l59 F n59) ih_mo _ _ _ hf) hR
      unfold f_L_market_h59 at hf
      refine lv_iload_n X.1 X.2.1 dL_market_59 rfl (lv_at hl 3 rfl) ?_
      refine lv_aload_n X.1 X.2.1 dL_market_60 rfl (lv_at hl 2 rfl) ?_
      have hgr61 : sd_ok S 92 ∧ S.1 92 1 ≠ 0 := Decidable.byContradiction fun h9 => by rw [if_pos h9] at hf; cases hf
      have hf := si_in (not_not_intro hgr61) hf
      refine sd_getR X hw sd_cl22 1 (by decide) (Or.inr ⟨_, List.mem_of_getElem? (i := 13) rfl⟩) rfl rfl rfl hgr61 dL_market_61 ?_
      obtain ⟨v66, ev66, hf⟩ := si_ob hf
      refine sd_alen X hw (Or.inr rfl) ev66 dL_market_64 ?_
      refine lv_icmp_ge (tgt := 213) X.1 X.2.1 dL_market_65 (by decide) (fun c65 => ?_) (fun c65 => ?_)
      · have hf := si_ip c65 hf
        refine lv_aload_n X.1 X.2.1 dL_market_213 rfl (lv_at hl 2 rfl) ?_
        refine lv_iconst (v := 3) X.1 X.2.1 dL_market_214 (by decide) ?_
        refine lv_aload_n X.1 X.2.1 dL_market_215 rfl (lv_at hl 0 rfl) ?_
        refine lv_iconst (v := 4) X.1 X.2.1 dL_market_216 (by decide) ?_
        obtain ⟨q67, eq67, hf⟩ := si_ob hf
        refine sd_goi (sd_runS (As := [.ref (E.2.1 91), .int 4]) (rest := [.int 3, .ref (E.2.1 92)]) cal_L_draw gm_RL_28 X hw hA hl.1 ((c_L_draw l E F 91 rfl 4 S q67 eq67) H.size) ⟨Nat.le_of_ble_eq_true rfl, Nat.le_of_ble_eq_true rfl⟩ rfl (Nat.le_of_ble_eq_true rfl) (sd_room2 hc (mo_L_draw F 91 rfl 4 S q67 eq67) (mo_L_market_h220 F _ _ _ _ hf) hR) dL_market_217) X hw hA hE hc (mo_L_draw F 91 rfl 4 S q67 eq67) (fun _ _ => rfl) (fun E H locs cs ss hZ hE X hw hc => ?_)
        rw [← hZ.at 91 rfl] at hl
        rw [← hZ.at 87 rfl] at hl
        rw [← hZ.at 92 rfl] at hl
        rw [← hZ.at 92 rfl]
        exact B220 _ _ _ _ _ _ _ _ _ hf hE X hw hc (lv_sub hl [0, 1, 2] rfl)
      · have hf := si_in c65 hf
        refine lv_aload_n X.1 X.2.1 dL_market_68 rfl (lv_at hl 2 rfl) ?_
        have hgr69 : sd_ok S 92 ∧ S.1 92 1 ≠ 0 := Decidable.byContradiction fun h9 => by rw [if_pos h9] at hf; cases hf
        have hf := si_in (not_not_intro hgr69) hf
        refine sd_getR X hw sd_cl22 1 (by decide) (Or.inr ⟨_, List.mem_of_getElem? (i := 13) rfl⟩) rfl rfl rfl hgr69 dL_market_69 ?_
        refine lv_iload_n X.1 X.2.1 dL_market_72 rfl (lv_at hl 3 rfl) ?_
        refine lv_aload_n X.1 X.2.1 dL_market_73 rfl (lv_at hl 0 rfl) ?_
        refine lv_aload_n X.1 X.2.1 dL_market_74 rfl (lv_at hl 2 rfl) ?_
        obtain ⟨v68, ev68, hf⟩ := si_ob hf
        refine sd_getI X hw sd_cl22 0 (by decide) (Or.inr ⟨_, List.mem_of_getElem? (i := 12) rfl⟩) rfl rfl rfl ev68 dL_market_75 ?_
        obtain ⟨q69, eq69, hf⟩ := si_ob hf
        refine sd_goi (sd_runS (As := [.ref (E.2.1 91), .int v68]) (rest := [.int x3, .ref (E.2.1 93)]) cal_L_draw gm_RL_28 X hw hA hl.1 ((c_L_draw l E F 91 rfl v68 S q69 eq69) H.size) ⟨Nat.le_of_ble_eq_true rfl, Nat.le_of_ble_eq_true rfl⟩ rfl (Nat.le_of_ble_eq_true rfl) (sd_room2 hc (mo_L_draw F 91 rfl v68 S q69 eq69) (mo_L_market_h81 F (f_L_market_l59 F n59) (mo_L_market_l59 F n59) _ _ _ _ _ hf) hR) dL_market_78) X hw hA hE hc (mo_L_draw F 91 rfl v68 S q69 eq69) (fun _ _ => rfl) (fun E H locs cs ss hZ hE X hw hc => ?_)
        rw [← hZ.at 91 rfl] at hl
        rw [← hZ.at 87 rfl] at hl
        rw [← hZ.at 92 rfl] at hl
        rw [← hZ.at 93 rfl]
        exact B81 _ _ _ _ _ _ _ _ _ _ hf hE X hw hc (lv_sub hl [0, 1, 2, 3] rfl)
  have B54 : ∀ (E : si_Ev) (S : si_St) (H : Heap) (locs : List Loc) (ls : Array Slot) (cs ss : Nat), f_L_market_h54 F S = some o → sd_EE al_L_market E0 E → si_Cx p s m args c cL_market 7 yL_market.cls E A → si_Ws E A s.heap S H locs → sd_Ct S0 S cs ss → lv_has ls 7 [(0, .ref (E.2.1 91)), (1, .ref (E.2.1 87)), (2, .ref (E.2.1 92))] → W p l e (sd_R fr_L_market lo_L_market S0 o) s m args below meth c H locs cs ss Q (F0 m 54 ls [.ref (E.2.1 93), .ref (E.2.1 92)]) := by
    intro   E S H locs ls cs ss hf hE X hw hc hl
    have hcs := sd_room hc (mo_L_market_h54 F _ _ hf) hR
    unfold f_L_market_h54 at hf
    obtain ⟨S70, eS70, hf⟩ := si_ob hf
    refine sd_putR X hw sd_cl22 1 (by decide) (Or.inr ⟨_, List.mem_of_getElem? (i := 13) rfl⟩) rfl (Or.inl rfl) rfl rfl (tyX10_ok 1 (by decide)) ⟨_, rfl⟩ eS70 dL_market_54 (fun H locs hw => ?_)
    have hc := hc.up (sd_pi_m eS70)
    refine lv_iconst (v := 0) X.1 X.2.1 dL_market_57 (by decide) ?_
    refine lv_istore_n (lv' := [(3, .int 0), (0, .ref (E.2.1 91)), (1, .ref (E.2.1 87)), (2, .ref (E.2.1 92))]) X.1 X.2.1 dL_market_58 rfl hl (by decide) rfl (fun ls hl => ?_)
    exact B59 F _ _ _ _ _ _ _ _ hf hE X hw hc (lv_sub hl [1, 2, 3, 0] rfl)
  have B50 : ∀ (t0 : Int32) (t1 : Int32) (t2 : Int32) (E : si_Ev) (S : si_St) (H : Heap) (locs : List Loc) (ls : Array Slot) (cs ss : Nat), f_L_market_h50 F t0 t1 t2 S = some o → sd_EE al_L_market E0 E → si_Cx p s m args c cL_market 7 yL_market.cls E A → si_Ws E A s.heap S H locs → sd_Ct S0 S cs ss → lv_has ls 7 [(0, .ref (E.2.1 91)), (1, .ref (E.2.1 87)), (2, .ref (E.2.1 92))] → W p l e (sd_R fr_L_market lo_L_market S0 o) s m args below meth c H locs cs ss Q (F0 m 50 ls [.int t0, .int t1, .int t2, .ref (E.2.1 92)]) := by
    intro t0 t1 t2  E S H locs ls cs ss hf hE X hw hc hl
    have hcs := sd_room hc (mo_L_market_h50 F _ _ _ _ _ hf) hR
    unfold f_L_market_h50 at hf
    refine lv_iadd X.1 X.2.1 dL_market_50 ?_
    refine lv_imul X.1 X.2.1 dL_market_51 ?_
    obtain ⟨S71, eS71, hf⟩ := si_ob hf
    refine sd_newI X hw hA hE hc hR ga_int rfl rfl eS71 (mo_L_market_h54 F _ _ hf) dL_market_52 (fun E H cs ss hZ hE X hw hc => ?_)
    rw [← hZ.at 91 rfl] at hl
    rw [← hZ.at 87 rfl] at hl
    rw [← hZ.at 92 rfl] at hl
    rw [← hZ.at 92 rfl]
    exact B54 _ _ _ _ _ _ _ hf hE X hw hc (lv_sub hl [0, 1, 2] rfl)
  have B21 : ∀ (n21 : Nat) (x3 : Int32) (E : si_Ev) (S : si_St) (H : Heap) (locs : List Loc) (ls : Array Slot) (cs ss : Nat), f_L_market_l21 F n21 x3 S = some o → sd_EE al_L_market E0 E → si_Cx p s m args c cL_market 7 yL_market.cls E A → si_Ws E A s.heap S H locs → sd_Ct S0 S cs ss → lv_has ls 7 [(0, .ref (E.2.1 91)), (1, .ref (E.2.1 87)), (2, .ref (E.2.1 92)), (3, .int x3)] → W p l e (sd_R fr_L_market lo_L_market S0 o) s m args below meth c H locs cs ss Q (F0 m 21 ls []) := by
    intro n21
    induction n21 with
    | zero => intro x3  E S H locs ls cs ss hf; cases hf
    | succ n21 ih21 =>
      have B35 : ∀ (x3 : Int32) (E : si_Ev) (S : si_St) (H : Heap) (locs : List Loc) (ls : Array Slot) (cs ss : Nat), f_L_market_h35 F (f_L_market_l21 F n21) x3 S = some o → sd_EE al_L_market E0 E → si_Cx p s m args c cL_market 7 yL_market.cls E A → si_Ws E A s.heap S H locs → sd_Ct S0 S cs ss → lv_has ls 7 [(0, .ref (E.2.1 91)), (1, .ref (E.2.1 87)), (2, .ref (E.2.1 92)), (3, .int x3)] → W p l e (sd_R fr_L_market lo_L_market S0 o) s m args below meth c H locs cs ss Q (F0 m 35 ls [.ref (E.2.1 87)]) := by
        intro x3  E S H locs ls cs ss hf hE X hw hc hl
        have hcs := sd_room hc (mo_L_market_h35 F (f_L_market_l21 F n21) (mo_L_market_l21 F n21) _ _ _ hf) hR
        unfold f_L_market_h35 at hf
        refine lv_pop X.1 X.2.1 dL_market_35 rfl ?_
        obtain ⟨v72, ev72, hf⟩ := si_ob hf
        refine lv_iinc (v := v72) (lv' := [(3, .int v72), (0, .ref (E.2.1 91)), (1, .ref (E.2.1 87)), (2, .ref (E.2.1 92))]) X.1 X.2.1 dL_market_36 hl (k := 3) rfl (Option.some.inj ev72) (by decide) rfl (fun ls hl => ?_)
        refine lv_goto (tgt := 21) X.1 X.2.1 dL_market_39 (by decide) ?_
        exact ih21 _ _ _ _ _ _ _ _ hf hE X hw hc (lv_sub hl [1, 2, 3, 0] rfl)
      intro x3  E S H locs ls cs ss hf hE X hw hc hl
      have hf : f_L_market_h21 F (f_L_market_l21 F n21) x3 S = some o := hf
      have ih_mo := mo_L_market_l21 F n21
      have hcs := sd_room hc (mo_L_market_h21 F (f_L_market_l21 F n21) ih_mo _ _ _ hf) hR
      unfold f_L_market_h21 at hf
      refine lv_iload_n X.1 X.2.1 dL_market_21 rfl (lv_at hl 3 rfl) ?_
      refine lv_aload_n X.1 X.2.1 dL_market_22 rfl (lv_at hl 2 rfl) ?_
      obtain ⟨v73, ev73, hf⟩ := si_ob hf
      refine sd_getI X hw sd_cl22 0 (by decide) (Or.inr ⟨_, List.mem_of_getElem? (i := 12) rfl⟩) rfl rfl rfl ev73 dL_market_23 ?_
      refine lv_icmp_ge (tgt := 42) X.1 X.2.1 dL_market_26 (by decide) (fun c26 => ?_) (fun c26 => ?_)
      · have hf := si_ip c26 hf
        refine lv_aload_n X.1 X.2.1 dL_market_42 rfl (lv_at hl 2 rfl) ?_
        refine lv_iconst (v := 4) X.1 X.2.1 dL_market_43 (by decide) ?_
        refine lv_iconst (v := 1) X.1 X.2.1 dL_market_44 (by decide) ?_
        refine lv_aload_n X.1 X.2.1 dL_market_45 rfl (lv_at hl 0 rfl) ?_
        refine lv_iconst (v := 4) X.1 X.2.1 dL_market_46 (by decide) ?_
        obtain ⟨q74, eq74, hf⟩ := si_ob hf
        refine sd_goi (sd_runS (As := [.ref (E.2.1 91), .int 4]) (rest := [.int 1, .int 4, .ref (E.2.1 92)]) cal_L_draw gm_RL_28 X hw hA hl.1 ((c_L_draw l E F 91 rfl 4 S q74 eq74) H.size) ⟨Nat.le_of_ble_eq_true rfl, Nat.le_of_ble_eq_true rfl⟩ rfl (Nat.le_of_ble_eq_true rfl) (sd_room2 hc (mo_L_draw F 91 rfl 4 S q74 eq74) (mo_L_market_h50 F _ _ _ _ _ hf) hR) dL_market_47) X hw hA hE hc (mo_L_draw F 91 rfl 4 S q74 eq74) (fun _ _ => rfl) (fun E H locs cs ss hZ hE X hw hc => ?_)
        rw [← hZ.at 91 rfl] at hl
        rw [← hZ.at 87 rfl] at hl
        rw [← hZ.at 92 rfl] at hl
        rw [← hZ.at 92 rfl]
        exact B50 _ _ _ _ _ _ _ _ _ _ hf hE X hw hc (lv_sub hl [0, 1, 2] rfl)
      · have hf := si_in c26 hf
        refine lv_aload_n X.1 X.2.1 dL_market_29 rfl (lv_at hl 1 rfl) ?_
        refine si_ldcS X (si_sr 0 rfl) rfl dL_market_30 ?_
        have hok32 : sd_ok S 87 := Decidable.byContradiction fun h9 => by rw [if_pos h9] at hf; cases hf
        have hf := si_in (not_not_intro hok32) hf
        obtain ⟨S75, eS75, hf⟩ := si_ob hf
        refine sd_gor (sd_runV (As := [.ref (E.2.2.2.1 8)]) (rest := []) sd_cl20 rfl hok32 cal_J4_append_15ec4 gm_RL_40 X hw hA hl.1 ((c_J4_append_15ec4 l E F 8 (by decide) S S75 eS75) H.size) ⟨Nat.le_of_ble_eq_true rfl, Nat.le_of_ble_eq_true rfl⟩ rfl (Nat.le_of_ble_eq_true rfl) (sd_room2 hc (mo_J4_append_15ec4 F 8 (by decide) S S75 eS75) (mo_L_market_h35 F (f_L_market_l21 F n21) (mo_L_market_l21 F n21) _ _ _ hf) hR) dL_market_32) X hw hA hE hc (mo_J4_append_15ec4 F 8 (by decide) S S75 eS75) (sd_als_L_market_J4_append_15ec4) (fun E H locs cs ss hZ hE X hw hc => ?_)
        rw [← hZ.at 91 rfl] at hl
        rw [← hZ.at 87 rfl] at hl
        rw [← hZ.at 92 rfl] at hl
        exact B35 _ _ _ _ _ _ _ _ hf hE X hw hc (lv_sub hl [0, 1, 2, 3] rfl)
  have B15 : ∀ (t0 : Int32) (t1 : Int32) (E : si_Ev) (S : si_St) (H : Heap) (locs : List Loc) (ls : Array Slot) (cs ss : Nat), f_L_market_h15 F t0 t1 S = some o → sd_EE al_L_market E0 E → si_Cx p s m args c cL_market 7 yL_market.cls E A → si_Ws E A s.heap S H locs → sd_Ct S0 S cs ss → lv_has ls 7 [(0, .ref (E.2.1 91)), (1, .ref (E.2.1 87)), (2, .ref (E.2.1 92))] → W p l e (sd_R fr_L_market lo_L_market S0 o) s m args below meth c H locs cs ss Q (F0 m 15 ls [.int t0, .int t1, .ref (E.2.1 92)]) := by
    intro t0 t1  E S H locs ls cs ss hf hE X hw hc hl
    have hcs := sd_room hc (mo_L_market_h15 F _ _ _ _ hf) hR
    unfold f_L_market_h15 at hf
    refine lv_iadd X.1 X.2.1 dL_market_15 ?_
    obtain ⟨S76, eS76, hf⟩ := si_ob hf
    refine sd_putI X hw sd_cl22 0 (by decide) (Or.inr ⟨_, List.mem_of_getElem? (i := 12) rfl⟩) rfl (Or.inl rfl) rfl rfl (tyX10_ok 0 (by decide)) rfl rfl eS76 dL_market_16 (fun H locs hw => ?_)
    have hc := hc.up (sd_pi_m eS76)
    refine lv_iconst (v := 0) X.1 X.2.1 dL_market_19 (by decide) ?_
    refine lv_istore_n (lv' := [(3, .int 0), (0, .ref (E.2.1 91)), (1, .ref (E.2.1 87)), (2, .ref (E.2.1 92))]) X.1 X.2.1 dL_market_20 rfl hl (by decide) rfl (fun ls hl => ?_)
    exact B21 F _ _ _ _ _ _ _ _ hf hE X hw hc (lv_sub hl [1, 2, 3, 0] rfl)
  have B7 : ∀ (E : si_Ev) (S : si_St) (H : Heap) (locs : List Loc) (ls : Array Slot) (cs ss : Nat), f_L_market_h7 F S = some o → sd_EE al_L_market E0 E → si_Cx p s m args c cL_market 7 yL_market.cls E A → si_Ws E A s.heap S H locs → sd_Ct S0 S cs ss → lv_has ls 7 [(0, .ref (E.2.1 91)), (1, .ref (E.2.1 87))] → W p l e (sd_R fr_L_market lo_L_market S0 o) s m args below meth c H locs cs ss Q (F0 m 7 ls [.ref (E.2.1 92)]) := by
    intro   E S H locs ls cs ss hf hE X hw hc hl
    have hcs := sd_room hc (mo_L_market_h7 F _ _ hf) hR
    unfold f_L_market_h7 at hf
    refine lv_astore_n (lv' := [(2, .ref (E.2.1 92)), (0, .ref (E.2.1 91)), (1, .ref (E.2.1 87))]) X.1 X.2.1 dL_market_7 rfl hl (by decide) rfl (fun ls hl => ?_)
    refine lv_aload_n X.1 X.2.1 dL_market_8 rfl (lv_at hl 0 rfl) ?_
    refine lv_iconst (v := 1) X.1 X.2.1 dL_market_9 (by decide) ?_
    refine lv_aload_n X.1 X.2.1 dL_market_10 rfl (lv_at hl 1 rfl) ?_
    refine lv_iconst (v := 3) X.1 X.2.1 dL_market_11 (by decide) ?_
    obtain ⟨q77, eq77, hf⟩ := si_ob hf
    refine sd_goi (sd_runS (As := [.ref (E.2.1 91), .int 3]) (rest := [.int 1, .ref (E.2.1 92)]) cal_L_draw gm_RL_28 X hw hA hl.1 ((c_L_draw l E F 91 rfl 3 S q77 eq77) H.size) ⟨Nat.le_of_ble_eq_true rfl, Nat.le_of_ble_eq_true rfl⟩ rfl (Nat.le_of_ble_eq_true rfl) (sd_room2 hc (mo_L_draw F 91 rfl 3 S q77 eq77) (mo_L_market_h15 F _ _ _ _ hf) hR) dL_market_12) X hw hA hE hc (mo_L_draw F 91 rfl 3 S q77 eq77) (fun _ _ => rfl) (fun E H locs cs ss hZ hE X hw hc => ?_)
    rw [← hZ.at 92 rfl] at hl
    rw [← hZ.at 91 rfl] at hl
    rw [← hZ.at 87 rfl] at hl
    rw [← hZ.at 92 rfl]
    exact B15 _ _ _ _ _ _ _ _ _ hf hE X hw hc (lv_sub hl [1, 2, 0] rfl)
  have B3 : ∀ (E : si_Ev) (S : si_St) (H : Heap) (locs : List Loc) (ls : Array Slot) (cs ss : Nat), f_L_market_h3 F S = some o → sd_EE al_L_market E0 E → si_Cx p s m args c cL_market 7 yL_market.cls E A → si_Ws E A s.heap S H locs → sd_Ct S0 S cs ss → lv_has ls 7 [(0, .ref (E.2.1 91)), (1, .ref (E.2.1 87))] → W p l e (sd_R fr_L_market lo_L_market S0 o) s m args below meth c H locs cs ss Q (F0 m 3 ls [.ref (E.2.1 92)]) := by
    intro   E S H locs ls cs ss hf hE X hw hc hl
    have hcs := sd_room hc (mo_L_market_h3 F _ _ hf) hR
    unfold f_L_market_h3 at hf
    refine lv_dup X.1 X.2.1 dL_market_3 rfl ?_
    obtain ⟨S78, eS78, hf⟩ := si_ob hf
    refine sd_gov (sd_runIN (As := []) (rest := [.ref (E.2.1 92)]) (k := 92) c0_X10_init gn_X10_init rfl (List.mem_of_getElem? (i := 11) rfl) X hw hA hl.1 ((c_X10_init l E F S S78 eS78) H.size) ⟨Nat.le_of_ble_eq_true rfl, Nat.le_of_ble_eq_true rfl⟩ rfl (Nat.le_of_ble_eq_true rfl) (sd_room2 hc (mo_X10_init F S S78 eS78) (mo_L_market_h7 F _ _ hf) hR) dL_market_4) X hw hA hE hc (mo_X10_init F S S78 eS78) (fun _ _ => rfl) (fun E H locs cs ss hZ hE X hw hc => ?_)
    rw [← hZ.at 91 rfl] at hl
    rw [← hZ.at 87 rfl] at hl
    rw [← hZ.at 92 rfl]
    exact B7 _ _ _ _ _ _ _ hf hE X hw hc (lv_sub hl [0, 1] rfl)
  have B0 : ∀ (E : si_Ev) (S : si_St) (H : Heap) (locs : List Loc) (ls : Array Slot) (cs ss : Nat), f_L_market_h0 F S = some o → sd_EE al_L_market E0 E → si_Cx p s m args c cL_market 7 yL_market.cls E A → si_Ws E A s.heap S H locs → sd_Ct S0 S cs ss → lv_has ls 7 [(0, .ref (E.2.1 91)), (1, .ref (E.2.1 87))] → W p l e (sd_R fr_L_market lo_L_market S0 o) s m args below meth c H locs cs ss Q (F0 m 0 ls []) := by
    intro   E S H locs ls cs ss hf hE X hw hc hl
    have hcs := sd_room hc (mo_L_market_h0 F _ _ hf) hR
    unfold f_L_market_h0 at hf
    obtain ⟨S79, eS79, hf⟩ := si_ob hf
    refine sd_newO X hw hA hE hc hR sd_cl22 tyX10 tyX10_ok gq_RL_25 gz_d22 gi_RX10 sd_zv22 rfl rfl eS79 (mo_L_market_h3 F _ _ hf) dL_market_0 (fun E H cs ss hZ hE X hw hc => ?_)
    rw [← hZ.at 91 rfl] at hl
    rw [← hZ.at 87 rfl] at hl
    exact B3 _ _ _ _ _ _ _ hf hE X hw hc (lv_sub hl [0, 1] rfl)
  unfold f_L_market at hf
  exact B0 _ _ _ _ _ _ _ hf hE X hw hc (lv_sub hl [0, 1] rfl)
