-- ===== OdometryDeskLaw.way(LOdometryDesk;)Z ['0']
theorem dL_way_0 : decode cL_way 0 = .ok (.iconst 5, 1) := by decide +kernel
theorem dL_way_1 : decode cL_way 1 = .ok (.newarray .int, 2) := by decide +kernel
theorem dL_way_3 : decode cL_way 3 = .ok (.astore_n 1, 1) := by decide +kernel
theorem dL_way_4 : decode cL_way 4 = .ok (.iconst 0, 1) := by decide +kernel
theorem dL_way_5 : decode cL_way 5 = .ok (.istore_n 2, 1) := by decide +kernel
theorem dL_way_6 : decode cL_way 6 = .ok (.lconst 0, 1) := by decide +kernel
theorem dL_way_7 : decode cL_way 7 = .ok (.lstore_n 3, 1) := by decide +kernel
theorem dL_way_8 : decode cL_way 8 = .ok (.iconst 0, 1) := by decide +kernel
theorem dL_way_9 : decode cL_way 9 = .ok (.istore 5, 2) := by decide +kernel
theorem dL_way_11 : decode cL_way 11 = .ok (.iload 5, 2) := by decide +kernel
theorem dL_way_13 : decode cL_way 13 = .ok (.aload_n 0, 1) := by decide +kernel
theorem dL_way_14 : decode cL_way 14 = .ok (.iconst 0, 1) := by decide +kernel
theorem dL_way_15 : decode cL_way 15 = .ok (.invokevirtual 65, 3) := by decide +kernel
theorem dL_way_18 : decode cL_way 18 = .ok (.if_icmp .ge 378, 3) := by decide +kernel
theorem dL_way_21 : decode cL_way 21 = .ok (.aload_n 0, 1) := by decide +kernel
theorem dL_way_22 : decode cL_way 22 = .ok (.iload 5, 2) := by decide +kernel
theorem dL_way_24 : decode cL_way 24 = .ok (.iconst 0, 1) := by decide +kernel
theorem dL_way_25 : decode cL_way 25 = .ok (.invokevirtual 75, 3) := by decide +kernel
theorem dL_way_28 : decode cL_way 28 = .ok (.istore 6, 2) := by decide +kernel
theorem dL_way_30 : decode cL_way 30 = .ok (.aload_n 1, 1) := by decide +kernel
theorem dL_way_31 : decode cL_way 31 = .ok (.iload 6, 2) := by decide +kernel
theorem dL_way_33 : decode cL_way 33 = .ok (.dup2, 1) := by decide +kernel
theorem dL_way_34 : decode cL_way 34 = .ok (.iaload, 1) := by decide +kernel
theorem dL_way_35 : decode cL_way 35 = .ok (.iconst 1, 1) := by decide +kernel
theorem dL_way_36 : decode cL_way 36 = .ok (.iadd, 1) := by decide +kernel
theorem dL_way_37 : decode cL_way 37 = .ok (.iastore, 1) := by decide +kernel
theorem dL_way_38 : decode cL_way 38 = .ok (.aload_n 0, 1) := by decide +kernel
theorem dL_way_39 : decode cL_way 39 = .ok (.iload 5, 2) := by decide +kernel
theorem dL_way_41 : decode cL_way 41 = .ok (.iconst 0, 1) := by decide +kernel
theorem dL_way_42 : decode cL_way 42 = .ok (.invokevirtual 69, 3) := by decide +kernel
theorem dL_way_45 : decode cL_way 45 = .ok (.aload_n 0, 1) := by decide +kernel
theorem dL_way_46 : decode cL_way 46 = .ok (.iload 5, 2) := by decide +kernel
theorem dL_way_48 : decode cL_way 48 = .ok (.iconst 1, 1) := by decide +kernel
theorem dL_way_49 : decode cL_way 49 = .ok (.isub, 1) := by decide +kernel
theorem dL_way_50 : decode cL_way 50 = .ok (.iconst 0, 1) := by decide +kernel
theorem dL_way_51 : decode cL_way 51 = .ok (.invokevirtual 69, 3) := by decide +kernel
theorem dL_way_54 : decode cL_way 54 = .ok (.isub, 1) := by decide +kernel
theorem dL_way_55 : decode cL_way 55 = .ok (.istore 7, 2) := by decide +kernel
theorem dL_way_57 : decode cL_way 57 = .ok (.aload_n 0, 1) := by decide +kernel
theorem dL_way_58 : decode cL_way 58 = .ok (.iload 5, 2) := by decide +kernel
theorem dL_way_60 : decode cL_way 60 = .ok (.iconst 1, 1) := by decide +kernel
theorem dL_way_61 : decode cL_way 61 = .ok (.invokevirtual 69, 3) := by decide +kernel
theorem dL_way_64 : decode cL_way 64 = .ok (.aload_n 0, 1) := by decide +kernel
theorem dL_way_65 : decode cL_way 65 = .ok (.iload 5, 2) := by decide +kernel
theorem dL_way_67 : decode cL_way 67 = .ok (.iconst 1, 1) := by decide +kernel
theorem dL_way_68 : decode cL_way 68 = .ok (.isub, 1) := by decide +kernel
theorem dL_way_69 : decode cL_way 69 = .ok (.iconst 1, 1) := by decide +kernel
theorem dL_way_70 : decode cL_way 70 = .ok (.invokevirtual 69, 3) := by decide +kernel
theorem dL_way_73 : decode cL_way 73 = .ok (.isub, 1) := by decide +kernel
theorem dL_way_74 : decode cL_way 74 = .ok (.istore 8, 2) := by decide +kernel
theorem dL_way_76 : decode cL_way 76 = .ok (.aload_n 0, 1) := by decide +kernel
theorem dL_way_77 : decode cL_way 77 = .ok (.iload 5, 2) := by decide +kernel
theorem dL_way_79 : decode cL_way 79 = .ok (.iconst 3, 1) := by decide +kernel
theorem dL_way_80 : decode cL_way 80 = .ok (.invokevirtual 69, 3) := by decide +kernel
theorem dL_way_83 : decode cL_way 83 = .ok (.aload_n 0, 1) := by decide +kernel
theorem dL_way_84 : decode cL_way 84 = .ok (.iload 5, 2) := by decide +kernel
theorem dL_way_86 : decode cL_way 86 = .ok (.iconst 1, 1) := by decide +kernel
theorem dL_way_87 : decode cL_way 87 = .ok (.isub, 1) := by decide +kernel
theorem dL_way_88 : decode cL_way 88 = .ok (.iconst 3, 1) := by decide +kernel
theorem dL_way_89 : decode cL_way 89 = .ok (.invokevirtual 69, 3) := by decide +kernel
theorem dL_way_92 : decode cL_way 92 = .ok (.isub, 1) := by decide +kernel
theorem dL_way_93 : decode cL_way 93 = .ok (.istore 9, 2) := by decide +kernel
theorem dL_way_95 : decode cL_way 95 = .ok (.aload_n 0, 1) := by decide +kernel
theorem dL_way_96 : decode cL_way 96 = .ok (.iload 5, 2) := by decide +kernel
theorem dL_way_98 : decode cL_way 98 = .ok (.iconst 1, 1) := by decide +kernel
theorem dL_way_99 : decode cL_way 99 = .ok (.isub, 1) := by decide +kernel
theorem dL_way_100 : decode cL_way 100 = .ok (.iconst 4, 1) := by decide +kernel
theorem dL_way_101 : decode cL_way 101 = .ok (.invokevirtual 69, 3) := by decide +kernel
theorem dL_way_104 : decode cL_way 104 = .ok (.istore 10, 2) := by decide +kernel
theorem dL_way_106 : decode cL_way 106 = .ok (.aload_n 0, 1) := by decide +kernel
theorem dL_way_107 : decode cL_way 107 = .ok (.iload 5, 2) := by decide +kernel
theorem dL_way_109 : decode cL_way 109 = .ok (.iconst 1, 1) := by decide +kernel
theorem dL_way_110 : decode cL_way 110 = .ok (.isub, 1) := by decide +kernel
theorem dL_way_111 : decode cL_way 111 = .ok (.iconst 2, 1) := by decide +kernel
theorem dL_way_112 : decode cL_way 112 = .ok (.invokevirtual 69, 3) := by decide +kernel
theorem dL_way_115 : decode cL_way 115 = .ok (.istore 11, 2) := by decide +kernel
theorem dL_way_117 : decode cL_way 117 = .ok (.iload 6, 2) := by decide +kernel
theorem dL_way_119 : decode cL_way 119 = .ok (.iconst 4, 1) := by decide +kernel
theorem dL_way_120 : decode cL_way 120 = .ok (.if_icmp .ne 118, 3) := by decide +kernel
theorem dL_way_123 : decode cL_way 123 = .ok (.lload_n 3, 1) := by decide +kernel
theorem dL_way_124 : decode cL_way 124 = .ok (.aload_n 0, 1) := by decide +kernel
theorem dL_way_125 : decode cL_way 125 = .ok (.iload 5, 2) := by decide +kernel
theorem dL_way_127 : decode cL_way 127 = .ok (.bipush 9, 2) := by decide +kernel
theorem dL_way_129 : decode cL_way 129 = .ok (.invokevirtual 75, 3) := by decide +kernel
theorem dL_way_132 : decode cL_way 132 = .ok (.invokestatic 88, 3) := by decide +kernel
theorem dL_way_135 : decode cL_way 135 = .ok (.i2l, 1) := by decide +kernel
theorem dL_way_136 : decode cL_way 136 = .ok (.aload_n 0, 1) := by decide +kernel
theorem dL_way_137 : decode cL_way 137 = .ok (.iload 5, 2) := by decide +kernel
theorem dL_way_139 : decode cL_way 139 = .ok (.bipush 10, 2) := by decide +kernel
theorem dL_way_141 : decode cL_way 141 = .ok (.invokevirtual 75, 3) := by decide +kernel
theorem dL_way_144 : decode cL_way 144 = .ok (.invokestatic 88, 3) := by decide +kernel
theorem dL_way_147 : decode cL_way 147 = .ok (.i2l, 1) := by decide +kernel
theorem dL_way_148 : decode cL_way 148 = .ok (.ladd, 1) := by decide +kernel
theorem dL_way_149 : decode cL_way 149 = .ok (.ladd, 1) := by decide +kernel
theorem dL_way_150 : decode cL_way 150 = .ok (.lstore_n 3, 1) := by decide +kernel
theorem dL_way_151 : decode cL_way 151 = .ok (.iload 9, 2) := by decide +kernel
theorem dL_way_153 : decode cL_way 153 = .ok (.ifCond .ne 83, 3) := by decide +kernel
theorem dL_way_156 : decode cL_way 156 = .ok (.aload_n 0, 1) := by decide +kernel
theorem dL_way_157 : decode cL_way 157 = .ok (.iload 5, 2) := by decide +kernel
theorem dL_way_159 : decode cL_way 159 = .ok (.iconst 4, 1) := by decide +kernel
theorem dL_way_160 : decode cL_way 160 = .ok (.invokevirtual 69, 3) := by decide +kernel
theorem dL_way_163 : decode cL_way 163 = .ok (.iload 10, 2) := by decide +kernel
theorem dL_way_165 : decode cL_way 165 = .ok (.if_icmp .ne 71, 3) := by decide +kernel
theorem dL_way_168 : decode cL_way 168 = .ok (.aload_n 0, 1) := by decide +kernel
theorem dL_way_169 : decode cL_way 169 = .ok (.iload 5, 2) := by decide +kernel
theorem dL_way_171 : decode cL_way 171 = .ok (.iconst 2, 1) := by decide +kernel
theorem dL_way_172 : decode cL_way 172 = .ok (.invokevirtual 69, 3) := by decide +kernel
theorem dL_way_175 : decode cL_way 175 = .ok (.iload 11, 2) := by decide +kernel
theorem dL_way_177 : decode cL_way 177 = .ok (.if_icmp .ne 59, 3) := by decide +kernel
theorem dL_way_180 : decode cL_way 180 = .ok (.iload 7, 2) := by decide +kernel
theorem dL_way_182 : decode cL_way 182 = .ok (.aload_n 0, 1) := by decide +kernel
theorem dL_way_183 : decode cL_way 183 = .ok (.iload 5, 2) := by decide +kernel
theorem dL_way_185 : decode cL_way 185 = .ok (.bipush 9, 2) := by decide +kernel
theorem dL_way_187 : decode cL_way 187 = .ok (.invokevirtual 75, 3) := by decide +kernel
theorem dL_way_190 : decode cL_way 190 = .ok (.ineg, 1) := by decide +kernel
theorem dL_way_191 : decode cL_way 191 = .ok (.if_icmp .ne 45, 3) := by decide +kernel
theorem dL_way_194 : decode cL_way 194 = .ok (.iload 8, 2) := by decide +kernel
theorem dL_way_196 : decode cL_way 196 = .ok (.aload_n 0, 1) := by decide +kernel
theorem dL_way_197 : decode cL_way 197 = .ok (.iload 5, 2) := by decide +kernel
theorem dL_way_199 : decode cL_way 199 = .ok (.bipush 10, 2) := by decide +kernel
theorem dL_way_201 : decode cL_way 201 = .ok (.invokevirtual 75, 3) := by decide +kernel
theorem dL_way_204 : decode cL_way 204 = .ok (.ineg, 1) := by decide +kernel
theorem dL_way_205 : decode cL_way 205 = .ok (.if_icmp .ne 31, 3) := by decide +kernel
theorem dL_way_208 : decode cL_way 208 = .ok (.aload_n 0, 1) := by decide +kernel
theorem dL_way_209 : decode cL_way 209 = .ok (.iload 5, 2) := by decide +kernel
theorem dL_way_211 : decode cL_way 211 = .ok (.iconst 0, 1) := by decide +kernel
theorem dL_way_212 : decode cL_way 212 = .ok (.invokevirtual 69, 3) := by decide +kernel
theorem dL_way_215 : decode cL_way 215 = .ok (.sipush 1000, 3) := by decide +kernel
theorem dL_way_218 : decode cL_way 218 = .ok (.irem, 1) := by decide +kernel
theorem dL_way_219 : decode cL_way 219 = .ok (.ifCond .ne 17, 3) := by decide +kernel
theorem dL_way_222 : decode cL_way 222 = .ok (.aload_n 0, 1) := by decide +kernel
theorem dL_way_223 : decode cL_way 223 = .ok (.iload 5, 2) := by decide +kernel
theorem dL_way_225 : decode cL_way 225 = .ok (.iconst 1, 1) := by decide +kernel
theorem dL_way_226 : decode cL_way 226 = .ok (.invokevirtual 69, 3) := by decide +kernel
theorem dL_way_229 : decode cL_way 229 = .ok (.sipush 1000, 3) := by decide +kernel
theorem dL_way_232 : decode cL_way 232 = .ok (.irem, 1) := by decide +kernel
theorem dL_way_233 : decode cL_way 233 = .ok (.ifCond .eq 157, 3) := by decide +kernel
theorem dL_way_236 : decode cL_way 236 = .ok (.iconst 0, 1) := by decide +kernel
theorem dL_way_237 : decode cL_way 237 = .ok (.ireturn, 1) := by decide +kernel
theorem dL_way_238 : decode cL_way 238 = .ok (.iload 6, 2) := by decide +kernel
theorem dL_way_240 : decode cL_way 240 = .ok (.ifCond .ne 85, 3) := by decide +kernel
theorem dL_way_243 : decode cL_way 243 = .ok (.iload 7, 2) := by decide +kernel
theorem dL_way_245 : decode cL_way 245 = .ok (.ifCond .ne 78, 3) := by decide +kernel
theorem dL_way_248 : decode cL_way 248 = .ok (.iload 8, 2) := by decide +kernel
theorem dL_way_250 : decode cL_way 250 = .ok (.ifCond .ne 73, 3) := by decide +kernel
theorem dL_way_253 : decode cL_way 253 = .ok (.iload 9, 2) := by decide +kernel
theorem dL_way_255 : decode cL_way 255 = .ok (.ifCond .ne 68, 3) := by decide +kernel
theorem dL_way_258 : decode cL_way 258 = .ok (.aload_n 0, 1) := by decide +kernel
theorem dL_way_259 : decode cL_way 259 = .ok (.iload 5, 2) := by decide +kernel
theorem dL_way_261 : decode cL_way 261 = .ok (.iconst 2, 1) := by decide +kernel
theorem dL_way_262 : decode cL_way 262 = .ok (.invokevirtual 69, 3) := by decide +kernel
theorem dL_way_265 : decode cL_way 265 = .ok (.iload 11, 2) := by decide +kernel
theorem dL_way_267 : decode cL_way 267 = .ok (.if_icmp .ne 56, 3) := by decide +kernel
theorem dL_way_270 : decode cL_way 270 = .ok (.aload_n 0, 1) := by decide +kernel
theorem dL_way_271 : decode cL_way 271 = .ok (.iload 5, 2) := by decide +kernel
theorem dL_way_273 : decode cL_way 273 = .ok (.iconst 4, 1) := by decide +kernel
theorem dL_way_274 : decode cL_way 274 = .ok (.invokevirtual 69, 3) := by decide +kernel
theorem dL_way_277 : decode cL_way 277 = .ok (.iload 10, 2) := by decide +kernel
theorem dL_way_279 : decode cL_way 279 = .ok (.bipush 16, 2) := by decide +kernel
theorem dL_way_281 : decode cL_way 281 = .ok (.aload_n 0, 1) := by decide +kernel
theorem dL_way_282 : decode cL_way 282 = .ok (.iload 5, 2) := by decide +kernel
theorem dL_way_284 : decode cL_way 284 = .ok (.iconst 3, 1) := by decide +kernel
theorem dL_way_285 : decode cL_way 285 = .ok (.invokevirtual 75, 3) := by decide +kernel
theorem dL_way_288 : decode cL_way 288 = .ok (.imul, 1) := by decide +kernel
theorem dL_way_289 : decode cL_way 289 = .ok (.iload 10, 2) := by decide +kernel
theorem dL_way_291 : decode cL_way 291 = .ok (.isub, 1) := by decide +kernel
theorem dL_way_292 : decode cL_way 292 = .ok (.aload_n 0, 1) := by decide +kernel
theorem dL_way_293 : decode cL_way 293 = .ok (.bipush 17, 2) := by decide +kernel
theorem dL_way_295 : decode cL_way 295 = .ok (.invokevirtual 65, 3) := by decide +kernel
theorem dL_way_298 : decode cL_way 298 = .ok (.idiv, 1) := by decide +kernel
theorem dL_way_299 : decode cL_way 299 = .ok (.iadd, 1) := by decide +kernel
theorem dL_way_300 : decode cL_way 300 = .ok (.if_icmp .ne 23, 3) := by decide +kernel
theorem dL_way_303 : decode cL_way 303 = .ok (.aload_n 0, 1) := by decide +kernel
theorem dL_way_304 : decode cL_way 304 = .ok (.iload 5, 2) := by decide +kernel
theorem dL_way_306 : decode cL_way 306 = .ok (.iconst 1, 1) := by decide +kernel
theorem dL_way_307 : decode cL_way 307 = .ok (.invokevirtual 75, 3) := by decide +kernel
theorem dL_way_310 : decode cL_way 310 = .ok (.ifCond .ne 13, 3) := by decide +kernel
theorem dL_way_313 : decode cL_way 313 = .ok (.aload_n 0, 1) := by decide +kernel
theorem dL_way_314 : decode cL_way 314 = .ok (.iload 5, 2) := by decide +kernel
theorem dL_way_316 : decode cL_way 316 = .ok (.iconst 2, 1) := by decide +kernel
theorem dL_way_317 : decode cL_way 317 = .ok (.invokevirtual 75, 3) := by decide +kernel
theorem dL_way_320 : decode cL_way 320 = .ok (.ifCond .eq 70, 3) := by decide +kernel
theorem dL_way_323 : decode cL_way 323 = .ok (.iconst 0, 1) := by decide +kernel
theorem dL_way_324 : decode cL_way 324 = .ok (.ireturn, 1) := by decide +kernel
theorem dL_way_325 : decode cL_way 325 = .ok (.iload_n 2, 1) := by decide +kernel
theorem dL_way_326 : decode cL_way 326 = .ok (.aload_n 0, 1) := by decide +kernel
theorem dL_way_327 : decode cL_way 327 = .ok (.iload 5, 2) := by decide +kernel
theorem dL_way_329 : decode cL_way 329 = .ok (.bipush 7, 2) := by decide +kernel
theorem dL_way_331 : decode cL_way 331 = .ok (.invokevirtual 75, 3) := by decide +kernel
theorem dL_way_334 : decode cL_way 334 = .ok (.ifCond .lt 7, 3) := by decide +kernel
theorem dL_way_337 : decode cL_way 337 = .ok (.iconst 1, 1) := by decide +kernel
theorem dL_way_338 : decode cL_way 338 = .ok (.goto 4, 3) := by decide +kernel
theorem dL_way_341 : decode cL_way 341 = .ok (.iconst 0, 1) := by decide +kernel
theorem dL_way_342 : decode cL_way 342 = .ok (.iadd, 1) := by decide +kernel
theorem dL_way_343 : decode cL_way 343 = .ok (.istore_n 2, 1) := by decide +kernel
theorem dL_way_344 : decode cL_way 344 = .ok (.aload_n 0, 1) := by decide +kernel
theorem dL_way_345 : decode cL_way 345 = .ok (.iload 5, 2) := by decide +kernel
theorem dL_way_347 : decode cL_way 347 = .ok (.iconst 4, 1) := by decide +kernel
theorem dL_way_348 : decode cL_way 348 = .ok (.invokevirtual 69, 3) := by decide +kernel
theorem dL_way_351 : decode cL_way 351 = .ok (.iload 10, 2) := by decide +kernel
theorem dL_way_353 : decode cL_way 353 = .ok (.if_icmp .ne 35, 3) := by decide +kernel
theorem dL_way_356 : decode cL_way 356 = .ok (.aload_n 0, 1) := by decide +kernel
theorem dL_way_357 : decode cL_way 357 = .ok (.iload 5, 2) := by decide +kernel
theorem dL_way_359 : decode cL_way 359 = .ok (.iload 6, 2) := by decide +kernel
theorem dL_way_361 : decode cL_way 361 = .ok (.iload 10, 2) := by decide +kernel
theorem dL_way_363 : decode cL_way 363 = .ok (.iload 11, 2) := by decide +kernel
theorem dL_way_365 : decode cL_way 365 = .ok (.invokestatic 91, 3) := by decide +kernel
theorem dL_way_368 : decode cL_way 368 = .ok (.ifCond .eq 20, 3) := by decide +kernel
theorem dL_way_371 : decode cL_way 371 = .ok (.aload_n 0, 1) := by decide +kernel
theorem dL_way_372 : decode cL_way 372 = .ok (.iload 5, 2) := by decide +kernel
theorem dL_way_374 : decode cL_way 374 = .ok (.iload 11, 2) := by decide +kernel
theorem dL_way_376 : decode cL_way 376 = .ok (.iload 7, 2) := by decide +kernel
theorem dL_way_378 : decode cL_way 378 = .ok (.iload 8, 2) := by decide +kernel
theorem dL_way_380 : decode cL_way 380 = .ok (.iload 9, 2) := by decide +kernel
theorem dL_way_382 : decode cL_way 382 = .ok (.invokestatic 95, 3) := by decide +kernel
theorem dL_way_385 : decode cL_way 385 = .ok (.ifCond .ne 5, 3) := by decide +kernel
theorem dL_way_388 : decode cL_way 388 = .ok (.iconst 0, 1) := by decide +kernel
theorem dL_way_389 : decode cL_way 389 = .ok (.ireturn, 1) := by decide +kernel
theorem dL_way_390 : decode cL_way 390 = .ok (.iinc 5 1, 3) := by decide +kernel
theorem dL_way_393 : decode cL_way 393 = .ok (.goto (-382), 3) := by decide +kernel
theorem dL_way_396 : decode cL_way 396 = .ok (.iconst 0, 1) := by decide +kernel
theorem dL_way_397 : decode cL_way 397 = .ok (.istore 5, 2) := by decide +kernel
theorem dL_way_399 : decode cL_way 399 = .ok (.iload 5, 2) := by decide +kernel
theorem dL_way_401 : decode cL_way 401 = .ok (.iconst 5, 1) := by decide +kernel
theorem dL_way_402 : decode cL_way 402 = .ok (.if_icmp .ge 26, 3) := by decide +kernel
theorem dL_way_405 : decode cL_way 405 = .ok (.aload_n 0, 1) := by decide +kernel
theorem dL_way_406 : decode cL_way 406 = .ok (.iconst 1, 1) := by decide +kernel
theorem dL_way_407 : decode cL_way 407 = .ok (.iload 5, 2) := by decide +kernel
theorem dL_way_409 : decode cL_way 409 = .ok (.iadd, 1) := by decide +kernel
theorem dL_way_410 : decode cL_way 410 = .ok (.invokevirtual 65, 3) := by decide +kernel
theorem dL_way_413 : decode cL_way 413 = .ok (.aload_n 1, 1) := by decide +kernel
theorem dL_way_414 : decode cL_way 414 = .ok (.iload 5, 2) := by decide +kernel
theorem dL_way_416 : decode cL_way 416 = .ok (.iaload, 1) := by decide +kernel
theorem dL_way_417 : decode cL_way 417 = .ok (.if_icmp .eq 5, 3) := by decide +kernel
theorem dL_way_420 : decode cL_way 420 = .ok (.iconst 0, 1) := by decide +kernel
theorem dL_way_421 : decode cL_way 421 = .ok (.ireturn, 1) := by decide +kernel
theorem dL_way_422 : decode cL_way 422 = .ok (.iinc 5 1, 3) := by decide +kernel
theorem dL_way_425 : decode cL_way 425 = .ok (.goto (-26), 3) := by decide +kernel
theorem dL_way_428 : decode cL_way 428 = .ok (.aload_n 0, 1) := by decide +kernel
theorem dL_way_429 : decode cL_way 429 = .ok (.bipush 6, 2) := by decide +kernel
theorem dL_way_431 : decode cL_way 431 = .ok (.invokevirtual 65, 3) := by decide +kernel
theorem dL_way_434 : decode cL_way 434 = .ok (.iload_n 2, 1) := by decide +kernel
theorem dL_way_435 : decode cL_way 435 = .ok (.if_icmp .ne 53, 3) := by decide +kernel
theorem dL_way_438 : decode cL_way 438 = .ok (.aload_n 0, 1) := by decide +kernel
theorem dL_way_439 : decode cL_way 439 = .ok (.bipush 7, 2) := by decide +kernel
theorem dL_way_441 : decode cL_way 441 = .ok (.invokevirtual 65, 3) := by decide +kernel
theorem dL_way_444 : decode cL_way 444 = .ok (.lload_n 3, 1) := by decide +kernel
theorem dL_way_445 : decode cL_way 445 = .ok (.ldc2_w 99, 3) := by decide +kernel
theorem dL_way_448 : decode cL_way 448 = .ok (.lcmp, 1) := by decide +kernel
theorem dL_way_449 : decode cL_way 449 = .ok (.ifCond .le 9, 3) := by decide +kernel
theorem dL_way_452 : decode cL_way 452 = .ok (.ldc2_w 99, 3) := by decide +kernel
theorem dL_way_455 : decode cL_way 455 = .ok (.goto 4, 3) := by decide +kernel
theorem dL_way_458 : decode cL_way 458 = .ok (.lload_n 3, 1) := by decide +kernel
theorem dL_way_459 : decode cL_way 459 = .ok (.l2i, 1) := by decide +kernel
theorem dL_way_460 : decode cL_way 460 = .ok (.if_icmp .ne 28, 3) := by decide +kernel
theorem dL_way_463 : decode cL_way 463 = .ok (.aload_n 0, 1) := by decide +kernel
theorem dL_way_464 : decode cL_way 464 = .ok (.bipush 8, 2) := by decide +kernel
theorem dL_way_466 : decode cL_way 466 = .ok (.invokevirtual 65, 3) := by decide +kernel
theorem dL_way_469 : decode cL_way 469 = .ok (.aload_n 0, 1) := by decide +kernel
theorem dL_way_470 : decode cL_way 470 = .ok (.aload_n 0, 1) := by decide +kernel
theorem dL_way_471 : decode cL_way 471 = .ok (.iconst 0, 1) := by decide +kernel
theorem dL_way_472 : decode cL_way 472 = .ok (.invokevirtual 65, 3) := by decide +kernel
theorem dL_way_475 : decode cL_way 475 = .ok (.iconst 1, 1) := by decide +kernel
theorem dL_way_476 : decode cL_way 476 = .ok (.isub, 1) := by decide +kernel
theorem dL_way_477 : decode cL_way 477 = .ok (.iconst 3, 1) := by decide +kernel
theorem dL_way_478 : decode cL_way 478 = .ok (.invokevirtual 69, 3) := by decide +kernel
theorem dL_way_481 : decode cL_way 481 = .ok (.if_icmp .ne 7, 3) := by decide +kernel
theorem dL_way_484 : decode cL_way 484 = .ok (.iconst 1, 1) := by decide +kernel
theorem dL_way_485 : decode cL_way 485 = .ok (.goto 4, 3) := by decide +kernel
theorem dL_way_488 : decode cL_way 488 = .ok (.iconst 0, 1) := by decide +kernel
theorem dL_way_489 : decode cL_way 489 = .ok (.ireturn, 1) := by decide +kernel
abbrev wL_way : List Cond := .code yL_way cL_way 12 (some .boolean) :: lw_gd
theorem hdL_way : (yL_way.cls ≠ "java/lang/invoke/MethodHandle" ∧ yL_way.cls ≠ "java/lang/invoke/VarHandle" ∧ (parseMethodDescriptor yL_way.desc).map (fun d => d.parameters.length) = some 1) := by decide +kernel
def fL_way_390  (k11 : Int32 → Int64 → Int32 → xm_M → Option (Int32 × xm_M)) (b2 : Int32) (b3 : Int64) (b5 : Int32) (M : xm_M) : Option (Int32 × xm_M) :=
  xm_lt (b5 + Int32.ofInt 1) (fun x51 => k11 b2 b3 x51 M)
set_option maxRecDepth 20000 in
theorem tfL_way_390 {p : Program} {l : Launch} {e : Env} {s : State} {m : MethodId} {args : Array Value} {below : List Frame} {meth : Method} {c : Code} {D : va_G} {g : xm_G} {A : Nat → Prop}  (hX : xm_X p m meth c cL_way 12 s args wL_way RL (some .boolean) D cLw g A)  (k11 : Int32 → Int64 → Int32 → xm_M → Option (Int32 × xm_M)) (h11 : ∀ (b2 : Int32), ∀ (b3 : Int64), ∀ (b5 : Int32), ∀ (M : xm_M), xm_J p l e ({ frames := 7, cells := 1, slots := 5, locals := 195 }) s m args below meth c 12 D cLw g A (xm_FW below args s D g A) 11 [(0, .ref (g.1 0)), (1, .ref (g.1 73)), (2, .int b2), (3, .long b3), (5, .int b5)] [] M (k11 b2 b3 b5 M)) : ∀ (b2 : Int32), ∀ (b3 : Int64), ∀ (b5 : Int32), ∀ (M : xm_M), xm_J p l e ({ frames := 7, cells := 1, slots := 5, locals := 195 }) s m args below meth c 12 D cLw g A (xm_FW below args s D g A) 390 [(0, .ref (g.1 0)), (1, .ref (g.1 73)), (2, .int b2), (3, .long b3), (5, .int b5)] [] M (fL_way_390 k11 b2 b3 b5 M) := by
  intro b2 b3 b5 M
  unfold fL_way_390
  refine xm_iinc hX (lv2 := fun x51 => [(5, .int x51), (0, .ref (g.1 0)), (1, .ref (g.1 73)), (2, .int b2), (3, .long b3)]) 4 dL_way_390 rfl (by decide) (fun _ => rfl) (fun x51 => ?_)
  refine xm_goto hX (tgt := 11) dL_way_393 rfl ?_
  refine xm_weak [1, 2, 3, 4, 0] (lv' := [(0, .ref (g.1 0)), (1, .ref (g.1 73)), (2, .int b2), (3, .long b3), (5, .int x51)]) rfl ?_
  exact h11 b2 b3 x51 M
def fL_way_342  (k11 : Int32 → Int64 → Int32 → xm_M → Option (Int32 × xm_M)) (b3 : Int64) (b5 : Int32) (b6 : Int32) (b7 : Int32) (b8 : Int32) (b9 : Int32) (b10 : Int32) (b11 : Int32) (s0 : Int32) (s1 : Int32) (M : xm_M) : Option (Int32 × xm_M) :=
  xm_lt (s1 + s0) (fun x44 => xm_bi (fX3_pose b5 (4 : Int32) M) (fun x46 M45 => if x46 = b10 then xm_bi (fL_turns b5 b6 b10 b11 M45) (fun x48 M47 => if x48 = 0 then some ((0 : Int32), M47) else xm_bi (fL_goes b5 b11 b7 b8 b9 M47) (fun x50 M49 => if x50 = 0 then some ((0 : Int32), M49) else fL_way_390 k11 x44 b3 b5 M49)) else some ((0 : Int32), M45)))
set_option maxRecDepth 20000 in
theorem tfL_way_342 {p : Program} {l : Launch} {e : Env} {s : State} {m : MethodId} {args : Array Value} {below : List Frame} {meth : Method} {c : Code} {D : va_G} {g : xm_G} {A : Nat → Prop}  (hX : xm_X p m meth c cL_way 12 s args wL_way RL (some .boolean) D cLw g A)  (k11 : Int32 → Int64 → Int32 → xm_M → Option (Int32 × xm_M)) (h11 : ∀ (b2 : Int32), ∀ (b3 : Int64), ∀ (b5 : Int32), ∀ (M : xm_M), xm_J p l e ({ frames := 7, cells := 1, slots := 5, locals := 195 }) s m args below meth c 12 D cLw g A (xm_FW below args s D g A) 11 [(0, .ref (g.1 0)), (1, .ref (g.1 73)), (2, .int b2), (3, .long b3), (5, .int b5)] [] M (k11 b2 b3 b5 M)) : ∀ (b3 : Int64), ∀ (b5 : Int32), ∀ (b6 : Int32), ∀ (b7 : Int32), ∀ (b8 : Int32), ∀ (b9 : Int32), ∀ (b10 : Int32), ∀ (b11 : Int32), ∀ (s0 : Int32), ∀ (s1 : Int32), ∀ (M : xm_M), xm_J p l e ({ frames := 7, cells := 1, slots := 5, locals := 195 }) s m args below meth c 12 D cLw g A (xm_FW below args s D g A) 342 [(0, .ref (g.1 0)), (1, .ref (g.1 73)), (3, .long b3), (5, .int b5), (6, .int b6), (7, .int b7), (8, .int b8), (9, .int b9), (10, .int b10), (11, .int b11)] [.int s0, .int s1] M (fL_way_342 k11 b3 b5 b6 b7 b8 b9 b10 b11 s0 s1 M) := by
  intro b3 b5 b6 b7 b8 b9 b10 b11 s0 s1 M
  unfold fL_way_342
  refine xm_iadd hX dL_way_342 ?_
  refine xm_nmi (fun x44 => ?_)
  refine xm_istore_n hX (lv' := [(2, .int x44), (0, .ref (g.1 0)), (1, .ref (g.1 73)), (3, .long b3), (5, .int b5), (6, .int b6), (7, .int b7), (8, .int b8), (9, .int b9), (10, .int b10), (11, .int b11)]) dL_way_343 rfl (by decide) rfl ?_
  refine xm_aload_n hX 1 dL_way_344 rfl rfl ?_
  refine xm_iload hX 4 dL_way_345 rfl ?_
  refine xm_iconst hX (v := 4) rfl dL_way_347 ?_
  refine xm_calli hX (xm_runV hX (k := 0) (ci := 3) (As := (fun g => [.int b5, .int (4 : Int32)])) (kX3_pose cLw_pre b5 (4 : Int32) M) (cLw_pre _ _ cL_0) rfl (xm_gV gm_283 gm_284 gm_285 gm_1 gm_286) rfl ⟨rfl, rfl⟩ ⟨rfl, hdX3_pose⟩ ⟨Nat.le_of_ble_eq_true rfl, Nat.le_of_ble_eq_true rfl⟩ rfl (Nat.le_of_ble_eq_true rfl) rfl ⟨Nat.le_of_ble_eq_true rfl, Nat.le_of_ble_eq_true rfl⟩ dL_way_348) (fun x46 M45 => ?_)
  refine xm_iload hX 9 dL_way_351 rfl ?_
  refine xm_icmp_ne hX (tgt := 388) dL_way_353 rfl ?_ ?_
  · refine xm_iconst hX (v := 0) rfl dL_way_388 ?_
    exact xm_zretW hX (by decide) dL_way_389
  · refine xm_aload_n hX 1 dL_way_356 rfl rfl ?_
    refine xm_iload hX 4 dL_way_357 rfl ?_
    refine xm_iload hX 5 dL_way_359 rfl ?_
    refine xm_iload hX 9 dL_way_361 rfl ?_
    refine xm_iload hX 10 dL_way_363 rfl ?_
    refine xm_calli hX (xm_runS hX (As := (fun g => [.ref (g.1 0), .int b5, .int b6, .int b10, .int b11])) (kL_turns cLw_pre b5 b6 b10 b11 M45) (xm_gS gm_339 gm_340 gm_0 gm_341) rfl ⟨rfl, rfl⟩ hdL_turns ⟨Nat.le_of_ble_eq_true rfl, Nat.le_of_ble_eq_true rfl⟩ rfl (Nat.le_of_ble_eq_true rfl) rfl ⟨Nat.le_of_ble_eq_true rfl, Nat.le_of_ble_eq_true rfl⟩ dL_way_365) (fun x48 M47 => ?_)
    refine xm_if_eq hX (tgt := 388) dL_way_368 rfl ?_ ?_
    · refine xm_iconst hX (v := 0) rfl dL_way_388 ?_
      exact xm_zretW hX (by decide) dL_way_389
    · refine xm_aload_n hX 1 dL_way_371 rfl rfl ?_
      refine xm_iload hX 4 dL_way_372 rfl ?_
      refine xm_iload hX 10 dL_way_374 rfl ?_
      refine xm_iload hX 6 dL_way_376 rfl ?_
      refine xm_iload hX 7 dL_way_378 rfl ?_
      refine xm_iload hX 8 dL_way_380 rfl ?_
      refine xm_calli hX (xm_runS hX (As := (fun g => [.ref (g.1 0), .int b5, .int b11, .int b7, .int b8, .int b9])) (kL_goes cLw_pre b5 b11 b7 b8 b9 M47) (xm_gS gm_352 gm_353 gm_0 gm_354) rfl ⟨rfl, rfl⟩ hdL_goes ⟨Nat.le_of_ble_eq_true rfl, Nat.le_of_ble_eq_true rfl⟩ rfl (Nat.le_of_ble_eq_true rfl) rfl ⟨Nat.le_of_ble_eq_true rfl, Nat.le_of_ble_eq_true rfl⟩ dL_way_382) (fun x50 M49 => ?_)
      refine xm_if_ne hX (tgt := 390) dL_way_385 rfl ?_ ?_
      · refine xm_weak [1, 2, 0, 3, 4] (lv' := [(0, .ref (g.1 0)), (1, .ref (g.1 73)), (2, .int x44), (3, .long b3), (5, .int b5)]) rfl ?_
        exact tfL_way_390 hX k11 h11 x44 b3 b5 M49
      · refine xm_iconst hX (v := 0) rfl dL_way_388 ?_
        exact xm_zretW hX (by decide) dL_way_389
def fL_way_459   (s0 : Int64) (s1 : Int32) (M : xm_M) : Option (Int32 × xm_M) :=
  if s1 = s0.toInt32 then xm_bi (fX3_count (8 : Int32) M) (fun x12 M11 => xm_bi (fX3_count (0 : Int32) M11) (fun x14 M13 => xm_bi (fX3_pose (x14 - (1 : Int32)) (3 : Int32) M13) (fun x16 M15 => if x12 = x16 then some ((1 : Int32), M15) else some ((0 : Int32), M15)))) else some ((0 : Int32), M)
set_option maxRecDepth 20000 in
theorem tfL_way_459 {p : Program} {l : Launch} {e : Env} {s : State} {m : MethodId} {args : Array Value} {below : List Frame} {meth : Method} {c : Code} {D : va_G} {g : xm_G} {A : Nat → Prop}  (hX : xm_X p m meth c cL_way 12 s args wL_way RL (some .boolean) D cLw g A)    : ∀ (s0 : Int64), ∀ (s1 : Int32), ∀ (M : xm_M), xm_J p l e ({ frames := 7, cells := 1, slots := 5, locals := 195 }) s m args below meth c 12 D cLw g A (xm_FW below args s D g A) 459 [(0, .ref (g.1 0))] [.long s0, .int s1] M (fL_way_459 s0 s1 M) := by
  intro s0 s1 M
  unfold fL_way_459
  refine xm_l2i hX dL_way_459 ?_
  refine xm_icmp_ne hX (tgt := 488) dL_way_460 rfl ?_ ?_
  · refine xm_iconst hX (v := 0) rfl dL_way_488 ?_
    exact xm_zretW hX (by decide) dL_way_489
  · refine xm_aload_n hX 0 dL_way_463 rfl rfl ?_
    refine xm_bipush hX (v := 8) rfl dL_way_464 ?_
    refine xm_calli hX (xm_runV hX (k := 0) (ci := 3) (As := (fun g => [.int (8 : Int32)])) (kX3_count cLw_pre (8 : Int32) M) (cLw_pre _ _ cL_0) rfl (xm_gV gm_196 gm_197 gm_198 gm_1 gm_199) rfl ⟨rfl, rfl⟩ ⟨rfl, hdX3_count⟩ ⟨Nat.le_of_ble_eq_true rfl, Nat.le_of_ble_eq_true rfl⟩ rfl (Nat.le_of_ble_eq_true rfl) rfl ⟨Nat.le_of_ble_eq_true rfl, Nat.le_of_ble_eq_true rfl⟩ dL_way_466) (fun x12 M11 => ?_)
    refine xm_aload_n hX 0 dL_way_469 rfl rfl ?_
    refine xm_aload_n hX 0 dL_way_470 rfl rfl ?_
    refine xm_iconst hX (v := 0) rfl dL_way_471 ?_
    refine xm_calli hX (xm_runV hX (k := 0) (ci := 3) (As := (fun g => [.int (0 : Int32)])) (kX3_count cLw_pre (0 : Int32) M11) (cLw_pre _ _ cL_0) rfl (xm_gV gm_196 gm_197 gm_198 gm_1 gm_199) rfl ⟨rfl, rfl⟩ ⟨rfl, hdX3_count⟩ ⟨Nat.le_of_ble_eq_true rfl, Nat.le_of_ble_eq_true rfl⟩ rfl (Nat.le_of_ble_eq_true rfl) rfl ⟨Nat.le_of_ble_eq_true rfl, Nat.le_of_ble_eq_true rfl⟩ dL_way_472) (fun x14 M13 => ?_)
    refine xm_iconst hX (v := 1) rfl dL_way_475 ?_
    refine xm_isub hX dL_way_476 ?_
    refine xm_iconst hX (v := 3) rfl dL_way_477 ?_
    refine xm_calli hX (xm_runV hX (k := 0) (ci := 3) (As := (fun g => [.int (x14 - (1 : Int32)), .int (3 : Int32)])) (kX3_pose cLw_pre (x14 - (1 : Int32)) (3 : Int32) M13) (cLw_pre _ _ cL_0) rfl (xm_gV gm_283 gm_284 gm_285 gm_1 gm_286) rfl ⟨rfl, rfl⟩ ⟨rfl, hdX3_pose⟩ ⟨Nat.le_of_ble_eq_true rfl, Nat.le_of_ble_eq_true rfl⟩ rfl (Nat.le_of_ble_eq_true rfl) rfl ⟨Nat.le_of_ble_eq_true rfl, Nat.le_of_ble_eq_true rfl⟩ dL_way_478) (fun x16 M15 => ?_)
    refine xm_icmp_ne hX (tgt := 488) dL_way_481 rfl ?_ ?_
    · refine xm_iconst hX (v := 0) rfl dL_way_488 ?_
      exact xm_zretW hX (by decide) dL_way_489
    · refine xm_iconst hX (v := 1) rfl dL_way_484 ?_
      refine xm_goto hX (tgt := 489) dL_way_485 rfl ?_
      exact xm_zretW hX (by decide) dL_way_489
def fL_way_399  (k399 : Int32 → Int64 → Int32 → xm_M → Option (Int32 × xm_M)) (b2 : Int32) (b3 : Int64) (b5 : Int32) (M : xm_M) : Option (Int32 × xm_M) :=
  if (5 : Int32) ≤ b5 then xm_bi (fX3_count (6 : Int32) M) (fun x8 M7 => if x8 = b2 then xm_bi (fX3_count (7 : Int32) M7) (fun x10 M9 => if (lg_cmp b3 (2000000000 : Int64)) ≤ 0 then fL_way_459 b3 x10 M9 else fL_way_459 (2000000000 : Int64) x10 M9) else some ((0 : Int32), M7)) else xm_bi (fX3_count ((1 : Int32) + b5) M) (fun x18 M17 => if b5 < 0 ∨ 5 ≤ b5.toNatClampNeg then none else if x18 = (M17.1 73 b5.toNatClampNeg) then xm_lt (b5 + Int32.ofInt 1) (fun x19 => k399 b2 b3 x19 M17) else some ((0 : Int32), M17))
set_option maxRecDepth 20000 in
theorem tfL_way_399 {p : Program} {l : Launch} {e : Env} {s : State} {m : MethodId} {args : Array Value} {below : List Frame} {meth : Method} {c : Code} {D : va_G} {g : xm_G} {A : Nat → Prop}  (hX : xm_X p m meth c cL_way 12 s args wL_way RL (some .boolean) D cLw g A)  (k399 : Int32 → Int64 → Int32 → xm_M → Option (Int32 × xm_M)) (h399 : ∀ (b2 : Int32), ∀ (b3 : Int64), ∀ (b5 : Int32), ∀ (M : xm_M), xm_J p l e ({ frames := 7, cells := 1, slots := 5, locals := 195 }) s m args below meth c 12 D cLw g A (xm_FW below args s D g A) 399 [(0, .ref (g.1 0)), (1, .ref (g.1 73)), (2, .int b2), (3, .long b3), (5, .int b5)] [] M (k399 b2 b3 b5 M)) : ∀ (b2 : Int32), ∀ (b3 : Int64), ∀ (b5 : Int32), ∀ (M : xm_M), xm_J p l e ({ frames := 7, cells := 1, slots := 5, locals := 195 }) s m args below meth c 12 D cLw g A (xm_FW below args s D g A) 399 [(0, .ref (g.1 0)), (1, .ref (g.1 73)), (2, .int b2), (3, .long b3), (5, .int b5)] [] M (fL_way_399 k399 b2 b3 b5 M) := by
  intro b2 b3 b5 M
  unfold fL_way_399
  refine xm_iload hX 4 dL_way_399 rfl ?_
  refine xm_iconst hX (v := 5) rfl dL_way_401 ?_
  refine xm_icmp_ge hX (tgt := 428) dL_way_402 rfl ?_ ?_
  · refine xm_aload_n hX 0 dL_way_428 rfl rfl ?_
    refine xm_bipush hX (v := 6) rfl dL_way_429 ?_
    refine xm_calli hX (xm_runV hX (k := 0) (ci := 3) (As := (fun g => [.int (6 : Int32)])) (kX3_count cLw_pre (6 : Int32) M) (cLw_pre _ _ cL_0) rfl (xm_gV gm_196 gm_197 gm_198 gm_1 gm_199) rfl ⟨rfl, rfl⟩ ⟨rfl, hdX3_count⟩ ⟨Nat.le_of_ble_eq_true rfl, Nat.le_of_ble_eq_true rfl⟩ rfl (Nat.le_of_ble_eq_true rfl) rfl ⟨Nat.le_of_ble_eq_true rfl, Nat.le_of_ble_eq_true rfl⟩ dL_way_431) (fun x8 M7 => ?_)
    refine xm_iload_n hX 2 dL_way_434 rfl rfl ?_
    refine xm_icmp_ne hX (tgt := 488) dL_way_435 rfl ?_ ?_
    · refine xm_iconst hX (v := 0) rfl dL_way_488 ?_
      exact xm_zretW hX (by decide) dL_way_489
    · refine xm_aload_n hX 0 dL_way_438 rfl rfl ?_
      refine xm_bipush hX (v := 7) rfl dL_way_439 ?_
      refine xm_calli hX (xm_runV hX (k := 0) (ci := 3) (As := (fun g => [.int (7 : Int32)])) (kX3_count cLw_pre (7 : Int32) M7) (cLw_pre _ _ cL_0) rfl (xm_gV gm_196 gm_197 gm_198 gm_1 gm_199) rfl ⟨rfl, rfl⟩ ⟨rfl, hdX3_count⟩ ⟨Nat.le_of_ble_eq_true rfl, Nat.le_of_ble_eq_true rfl⟩ rfl (Nat.le_of_ble_eq_true rfl) rfl ⟨Nat.le_of_ble_eq_true rfl, Nat.le_of_ble_eq_true rfl⟩ dL_way_441) (fun x10 M9 => ?_)
      refine xm_lload_n hX 3 dL_way_444 rfl rfl ?_
      refine xm_ldc2 hX (v := 2000000000) (List.mem_cons_of_mem _ gm_364) dL_way_445 ?_
      refine xm_lcmp hX dL_way_448 ?_
      refine xm_if_le hX (tgt := 458) dL_way_449 rfl ?_ ?_
      · refine xm_lload_n hX 3 dL_way_458 rfl rfl ?_
        refine xm_weak [0] (lv' := [(0, .ref (g.1 0))]) rfl ?_
        exact tfL_way_459 hX b3 x10 M9
      · refine xm_ldc2 hX (v := 2000000000) (List.mem_cons_of_mem _ gm_364) dL_way_452 ?_
        refine xm_goto hX (tgt := 459) dL_way_455 rfl ?_
        refine xm_weak [0] (lv' := [(0, .ref (g.1 0))]) rfl ?_
        exact tfL_way_459 hX (2000000000 : Int64) x10 M9
  · refine xm_aload_n hX 0 dL_way_405 rfl rfl ?_
    refine xm_iconst hX (v := 1) rfl dL_way_406 ?_
    refine xm_iload hX 4 dL_way_407 rfl ?_
    refine xm_iadd hX dL_way_409 ?_
    refine xm_calli hX (xm_runV hX (k := 0) (ci := 3) (As := (fun g => [.int ((1 : Int32) + b5)])) (kX3_count cLw_pre ((1 : Int32) + b5) M) (cLw_pre _ _ cL_0) rfl (xm_gV gm_196 gm_197 gm_198 gm_1 gm_199) rfl ⟨rfl, rfl⟩ ⟨rfl, hdX3_count⟩ ⟨Nat.le_of_ble_eq_true rfl, Nat.le_of_ble_eq_true rfl⟩ rfl (Nat.le_of_ble_eq_true rfl) rfl ⟨Nat.le_of_ble_eq_true rfl, Nat.le_of_ble_eq_true rfl⟩ dL_way_410) (fun x18 M17 => ?_)
    refine xm_aload_n hX 1 dL_way_413 rfl rfl ?_
    refine xm_iload hX 4 dL_way_414 rfl ?_
    refine xm_iald hX (n := 5) cLw_73 dL_way_416 ?_
    refine xm_icmp_eq hX (tgt := 422) dL_way_417 rfl ?_ ?_
    · refine xm_iinc hX (lv2 := fun x19 => [(5, .int x19), (0, .ref (g.1 0)), (1, .ref (g.1 73)), (2, .int b2), (3, .long b3)]) 4 dL_way_422 rfl (by decide) (fun _ => rfl) (fun x19 => ?_)
      refine xm_goto hX (tgt := 399) dL_way_425 rfl ?_
      refine xm_weak [1, 2, 3, 4, 0] (lv' := [(0, .ref (g.1 0)), (1, .ref (g.1 73)), (2, .int b2), (3, .long b3), (5, .int x19)]) rfl ?_
      exact h399 b2 b3 x19 M17
    · refine xm_iconst hX (v := 0) rfl dL_way_420 ?_
      exact xm_zretW hX (by decide) dL_way_421
def fL_way_399_it   (nq : Nat) : Int32 → Int64 → Int32 → xm_M → Option (Int32 × xm_M) := xm_it (fun kq => fL_way_399 kq) (fun _ _ _ _ => none) nq
theorem tfL_way_399_it {p : Program} {l : Launch} {e : Env} {s : State} {m : MethodId} {args : Array Value} {below : List Frame} {meth : Method} {c : Code} {D : va_G} {g : xm_G} {A : Nat → Prop}  (hX : xm_X p m meth c cL_way 12 s args wL_way RL (some .boolean) D cLw g A)    : ∀ (nq : Nat), ∀ (b2 : Int32), ∀ (b3 : Int64), ∀ (b5 : Int32), ∀ (M : xm_M), xm_J p l e ({ frames := 7, cells := 1, slots := 5, locals := 195 }) s m args below meth c 12 D cLw g A (xm_FW below args s D g A) 399 [(0, .ref (g.1 0)), (1, .ref (g.1 73)), (2, .int b2), (3, .long b3), (5, .int b5)] [] M (fL_way_399_it  nq b2 b3 b5 M) := by
  intro nq
  induction nq with
  | zero => exact fun _ _ _ _ => xm_none
  | succ nq ih => exact tfL_way_399 hX _ ih
def fL_way_11  (k11 : Int32 → Int64 → Int32 → xm_M → Option (Int32 × xm_M)) (b2 : Int32) (b3 : Int64) (b5 : Int32) (M : xm_M) : Option (Int32 × xm_M) :=
  xm_bi (fX3_count (0 : Int32) M) (fun x5 M4 => if x5 ≤ b5 then xm_lt ((0 : Int32)) (fun x6 => fL_way_399_it xm_N b2 b3 x6 M4) else xm_bi (fX3_about b5 (0 : Int32) M4) (fun x21 M20 => if x21 < 0 ∨ 5 ≤ x21.toNatClampNeg then none else if x21 < 0 ∨ 5 ≤ x21.toNatClampNeg then none else xm_lt (xm_s M20 73 x21.toNatClampNeg ((M20.1 73 x21.toNatClampNeg) + (1 : Int32))) (fun M22 => xm_bi (fX3_pose b5 (0 : Int32) M22) (fun x24 M23 => xm_bi (fX3_pose (b5 - (1 : Int32)) (0 : Int32) M23) (fun x26 M25 => xm_lt (x24 - x26) (fun x27 => xm_bi (fX3_pose b5 (1 : Int32) M25) (fun x29 M28 => xm_bi (fX3_pose (b5 - (1 : Int32)) (1 : Int32) M28) (fun x31 M30 => xm_lt (x29 - x31) (fun x32 => xm_bi (fX3_pose b5 (3 : Int32) M30) (fun x34 M33 => xm_bi (fX3_pose (b5 - (1 : Int32)) (3 : Int32) M33) (fun x36 M35 => xm_lt (x34 - x36) (fun x37 => xm_bi (fX3_pose (b5 - (1 : Int32)) (4 : Int32) M35) (fun x39 M38 => xm_bi (fX3_pose (b5 - (1 : Int32)) (2 : Int32) M38) (fun x41 M40 => if x21 = (4 : Int32) then xm_bi (fX3_about b5 (9 : Int32) M40) (fun x65 M64 => xm_bi (fL_size x65 M64) (fun x67 M66 => xm_bi (fX3_about b5 (10 : Int32) M66) (fun x69 M68 => xm_bi (fL_size x69 M68) (fun x71 M70 => xm_lt (b3 + (x67.toInt64 + x71.toInt64)) (fun x72 => if x37 = 0 then xm_bi (fX3_pose b5 (4 : Int32) M70) (fun x74 M73 => if x74 = x39 then xm_bi (fX3_pose b5 (2 : Int32) M73) (fun x76 M75 => if x76 = x41 then xm_bi (fX3_about b5 (9 : Int32) M75) (fun x78 M77 => if x27 = (-x78) then xm_bi (fX3_about b5 (10 : Int32) M77) (fun x80 M79 => if x32 = (-x80) then xm_bi (fX3_pose b5 (0 : Int32) M79) (fun x82 M81 => if (x82 - x82 / (1000 : Int32) * (1000 : Int32)) = 0 then xm_bi (fX3_pose b5 (1 : Int32) M81) (fun x84 M83 => if (x84 - x84 / (1000 : Int32) * (1000 : Int32)) = 0 then fL_way_390 k11 b2 x72 b5 M83 else some ((0 : Int32), M83)) else some ((0 : Int32), M81)) else some ((0 : Int32), M79)) else some ((0 : Int32), M77)) else some ((0 : Int32), M75)) else some ((0 : Int32), M73)) else some ((0 : Int32), M70)))))) else if x21 = 0 then if x27 = 0 then if x32 = 0 then if x37 = 0 then xm_bi (fX3_pose b5 (2 : Int32) M40) (fun x53 M52 => if x53 = x41 then xm_bi (fX3_pose b5 (4 : Int32) M52) (fun x55 M54 => xm_bi (fX3_about b5 (3 : Int32) M54) (fun x57 M56 => xm_bi (fX3_count (17 : Int32) M56) (fun x59 M58 => if x59 = 0 then none else if x55 = (x39 + ((((16 : Int32) * x57) - x39) / x59)) then xm_bi (fX3_about b5 (1 : Int32) M58) (fun x61 M60 => if x61 = 0 then xm_bi (fX3_about b5 (2 : Int32) M60) (fun x63 M62 => if x63 = 0 then fL_way_390 k11 b2 b3 b5 M62 else some ((0 : Int32), M62)) else some ((0 : Int32), M60)) else some ((0 : Int32), M58)))) else some ((0 : Int32), M52)) else some ((0 : Int32), M40) else some ((0 : Int32), M40) else some ((0 : Int32), M40) else xm_bi (fX3_about b5 (7 : Int32) M40) (fun x43 M42 => if x43 < 0 then fL_way_342 k11 b3 b5 x21 x27 x32 x37 x39 x41 (0 : Int32) b2 M42 else fL_way_342 k11 b3 b5 x21 x27 x32 x37 x39 x41 (1 : Int32) b2 M42)))))))))))))))
set_option maxRecDepth 20000 in
theorem tfL_way_11 {p : Program} {l : Launch} {e : Env} {s : State} {m : MethodId} {args : Array Value} {below : List Frame} {meth : Method} {c : Code} {D : va_G} {g : xm_G} {A : Nat → Prop}  (hX : xm_X p m meth c cL_way 12 s args wL_way RL (some .boolean) D cLw g A)  (k11 : Int32 → Int64 → Int32 → xm_M → Option (Int32 × xm_M)) (h11 : ∀ (b2 : Int32), ∀ (b3 : Int64), ∀ (b5 : Int32), ∀ (M : xm_M), xm_J p l e ({ frames := 7, cells := 1, slots := 5, locals := 195 }) s m args below meth c 12 D cLw g A (xm_FW below args s D g A) 11 [(0, .ref (g.1 0)), (1, .ref (g.1 73)), (2, .int b2), (3, .long b3), (5, .int b5)] [] M (k11 b2 b3 b5 M)) : ∀ (b2 : Int32), ∀ (b3 : Int64), ∀ (b5 : Int32), ∀ (M : xm_M), xm_J p l e ({ frames := 7, cells := 1, slots := 5, locals := 195 }) s m args below meth c 12 D cLw g A (xm_FW below args s D g A) 11 [(0, .ref (g.1 0)), (1, .ref (g.1 73)), (2, .int b2), (3, .long b3), (5, .int b5)] [] M (fL_way_11 k11 b2 b3 b5 M) := by
  intro b2 b3 b5 M
  unfold fL_way_11
  refine xm_iload hX 4 dL_way_11 rfl ?_
  refine xm_aload_n hX 0 dL_way_13 rfl rfl ?_
  refine xm_iconst hX (v := 0) rfl dL_way_14 ?_
  refine xm_calli hX (xm_runV hX (k := 0) (ci := 3) (As := (fun g => [.int (0 : Int32)])) (kX3_count cLw_pre (0 : Int32) M) (cLw_pre _ _ cL_0) rfl (xm_gV gm_196 gm_197 gm_198 gm_1 gm_199) rfl ⟨rfl, rfl⟩ ⟨rfl, hdX3_count⟩ ⟨Nat.le_of_ble_eq_true rfl, Nat.le_of_ble_eq_true rfl⟩ rfl (Nat.le_of_ble_eq_true rfl) rfl ⟨Nat.le_of_ble_eq_true rfl, Nat.le_of_ble_eq_true rfl⟩ dL_way_15) (fun x5 M4 => ?_)
  refine xm_icmp_ge hX (tgt := 396) dL_way_18 rfl ?_ ?_
  · refine xm_iconst hX (v := 0) rfl dL_way_396 ?_
    refine xm_nmi (fun x6 => ?_)
    refine xm_istore hX (lv' := [(5, .int x6), (0, .ref (g.1 0)), (1, .ref (g.1 73)), (2, .int b2), (3, .long b3)]) dL_way_397 (by decide) rfl ?_
    refine xm_weak [1, 2, 3, 4, 0] (lv' := [(0, .ref (g.1 0)), (1, .ref (g.1 73)), (2, .int b2), (3, .long b3), (5, .int x6)]) rfl ?_
    exact tfL_way_399_it hX xm_N b2 b3 x6 M4
  · refine xm_aload_n hX 0 dL_way_21 rfl rfl ?_
    refine xm_iload hX 4 dL_way_22 rfl ?_
    refine xm_iconst hX (v := 0) rfl dL_way_24 ?_
    refine xm_calli hX (xm_runV hX (k := 0) (ci := 3) (As := (fun g => [.int b5, .int (0 : Int32)])) (kX3_about cLw_pre b5 (0 : Int32) M4) (cLw_pre _ _ cL_0) rfl (xm_gV gm_312 gm_313 gm_314 gm_1 gm_315) rfl ⟨rfl, rfl⟩ ⟨rfl, hdX3_about⟩ ⟨Nat.le_of_ble_eq_true rfl, Nat.le_of_ble_eq_true rfl⟩ rfl (Nat.le_of_ble_eq_true rfl) rfl ⟨Nat.le_of_ble_eq_true rfl, Nat.le_of_ble_eq_true rfl⟩ dL_way_25) (fun x21 M20 => ?_)
    refine xm_istore hX (lv' := [(6, .int x21), (0, .ref (g.1 0)), (1, .ref (g.1 73)), (2, .int b2), (3, .long b3), (5, .int b5)]) dL_way_28 (by decide) rfl ?_
    refine xm_aload_n hX 2 dL_way_30 rfl rfl ?_
    refine xm_iload hX 0 dL_way_31 rfl ?_
    refine xm_dup2_11 hX rfl rfl dL_way_33 ?_
    refine xm_iald hX (n := 5) cLw_73 dL_way_34 ?_
    refine xm_iconst hX (v := 1) rfl dL_way_35 ?_
    refine xm_iadd hX dL_way_36 ?_
    refine xm_iast hX (n := 5) cLw_73 dL_way_37 (fun M22 => ?_)
    refine xm_aload_n hX 1 dL_way_38 rfl rfl ?_
    refine xm_iload hX 5 dL_way_39 rfl ?_
    refine xm_iconst hX (v := 0) rfl dL_way_41 ?_
    refine xm_calli hX (xm_runV hX (k := 0) (ci := 3) (As := (fun g => [.int b5, .int (0 : Int32)])) (kX3_pose cLw_pre b5 (0 : Int32) M22) (cLw_pre _ _ cL_0) rfl (xm_gV gm_283 gm_284 gm_285 gm_1 gm_286) rfl ⟨rfl, rfl⟩ ⟨rfl, hdX3_pose⟩ ⟨Nat.le_of_ble_eq_true rfl, Nat.le_of_ble_eq_true rfl⟩ rfl (Nat.le_of_ble_eq_true rfl) rfl ⟨Nat.le_of_ble_eq_true rfl, Nat.le_of_ble_eq_true rfl⟩ dL_way_42) (fun x24 M23 => ?_)
    refine xm_aload_n hX 1 dL_way_45 rfl rfl ?_
    refine xm_iload hX 5 dL_way_46 rfl ?_
    refine xm_iconst hX (v := 1) rfl dL_way_48 ?_
    refine xm_isub hX dL_way_49 ?_
    refine xm_iconst hX (v := 0) rfl dL_way_50 ?_
    refine xm_calli hX (xm_runV hX (k := 0) (ci := 3) (As := (fun g => [.int (b5 - (1 : Int32)), .int (0 : Int32)])) (kX3_pose cLw_pre (b5 - (1 : Int32)) (0 : Int32) M23) (cLw_pre _ _ cL_0) rfl (xm_gV gm_283 gm_284 gm_285 gm_1 gm_286) rfl ⟨rfl, rfl⟩ ⟨rfl, hdX3_pose⟩ ⟨Nat.le_of_ble_eq_true rfl, Nat.le_of_ble_eq_true rfl⟩ rfl (Nat.le_of_ble_eq_true rfl) rfl ⟨Nat.le_of_ble_eq_true rfl, Nat.le_of_ble_eq_true rfl⟩ dL_way_51) (fun x26 M25 => ?_)
    refine xm_isub hX dL_way_54 ?_
    refine xm_nmi (fun x27 => ?_)
    refine xm_istore hX (lv' := [(7, .int x27), (6, .int x21), (0, .ref (g.1 0)), (1, .ref (g.1 73)), (2, .int b2), (3, .long b3), (5, .int b5)]) dL_way_55 (by decide) rfl ?_
    refine xm_aload_n hX 2 dL_way_57 rfl rfl ?_
    refine xm_iload hX 6 dL_way_58 rfl ?_
    refine xm_iconst hX (v := 1) rfl dL_way_60 ?_
    refine xm_calli hX (xm_runV hX (k := 0) (ci := 3) (As := (fun g => [.int b5, .int (1 : Int32)])) (kX3_pose cLw_pre b5 (1 : Int32) M25) (cLw_pre _ _ cL_0) rfl (xm_gV gm_283 gm_284 gm_285 gm_1 gm_286) rfl ⟨rfl, rfl⟩ ⟨rfl, hdX3_pose⟩ ⟨Nat.le_of_ble_eq_true rfl, Nat.le_of_ble_eq_true rfl⟩ rfl (Nat.le_of_ble_eq_true rfl) rfl ⟨Nat.le_of_ble_eq_true rfl, Nat.le_of_ble_eq_true rfl⟩ dL_way_61) (fun x29 M28 => ?_)
    refine xm_aload_n hX 2 dL_way_64 rfl rfl ?_
    refine xm_iload hX 6 dL_way_65 rfl ?_
    refine xm_iconst hX (v := 1) rfl dL_way_67 ?_
    refine xm_isub hX dL_way_68 ?_
    refine xm_iconst hX (v := 1) rfl dL_way_69 ?_
    refine xm_calli hX (xm_runV hX (k := 0) (ci := 3) (As := (fun g => [.int (b5 - (1 : Int32)), .int (1 : Int32)])) (kX3_pose cLw_pre (b5 - (1 : Int32)) (1 : Int32) M28) (cLw_pre _ _ cL_0) rfl (xm_gV gm_283 gm_284 gm_285 gm_1 gm_286) rfl ⟨rfl, rfl⟩ ⟨rfl, hdX3_pose⟩ ⟨Nat.le_of_ble_eq_true rfl, Nat.le_of_ble_eq_true rfl⟩ rfl (Nat.le_of_ble_eq_true rfl) rfl ⟨Nat.le_of_ble_eq_true rfl, Nat.le_of_ble_eq_true rfl⟩ dL_way_70) (fun x31 M30 => ?_)
    refine xm_isub hX dL_way_73 ?_
    refine xm_nmi (fun x32 => ?_)
    refine xm_istore hX (lv' := [(8, .int x32), (7, .int x27), (6, .int x21), (0, .ref (g.1 0)), (1, .ref (g.1 73)), (2, .int b2), (3, .long b3), (5, .int b5)]) dL_way_74 (by decide) rfl ?_
    refine xm_aload_n hX 3 dL_way_76 rfl rfl ?_
    refine xm_iload hX 7 dL_way_77 rfl ?_
    refine xm_iconst hX (v := 3) rfl dL_way_79 ?_
    refine xm_calli hX (xm_runV hX (k := 0) (ci := 3) (As := (fun g => [.int b5, .int (3 : Int32)])) (kX3_pose cLw_pre b5 (3 : Int32) M30) (cLw_pre _ _ cL_0) rfl (xm_gV gm_283 gm_284 gm_285 gm_1 gm_286) rfl ⟨rfl, rfl⟩ ⟨rfl, hdX3_pose⟩ ⟨Nat.le_of_ble_eq_true rfl, Nat.le_of_ble_eq_true rfl⟩ rfl (Nat.le_of_ble_eq_true rfl) rfl ⟨Nat.le_of_ble_eq_true rfl, Nat.le_of_ble_eq_true rfl⟩ dL_way_80) (fun x34 M33 => ?_)
    refine xm_aload_n hX 3 dL_way_83 rfl rfl ?_
    refine xm_iload hX 7 dL_way_84 rfl ?_
    refine xm_iconst hX (v := 1) rfl dL_way_86 ?_
    refine xm_isub hX dL_way_87 ?_
    refine xm_iconst hX (v := 3) rfl dL_way_88 ?_
    refine xm_calli hX (xm_runV hX (k := 0) (ci := 3) (As := (fun g => [.int (b5 - (1 : Int32)), .int (3 : Int32)])) (kX3_pose cLw_pre (b5 - (1 : Int32)) (3 : Int32) M33) (cLw_pre _ _ cL_0) rfl (xm_gV gm_283 gm_284 gm_285 gm_1 gm_286) rfl ⟨rfl, rfl⟩ ⟨rfl, hdX3_pose⟩ ⟨Nat.le_of_ble_eq_true rfl, Nat.le_of_ble_eq_true rfl⟩ rfl (Nat.le_of_ble_eq_true rfl) rfl ⟨Nat.le_of_ble_eq_true rfl, Nat.le_of_ble_eq_true rfl⟩ dL_way_89) (fun x36 M35 => ?_)
    refine xm_isub hX dL_way_92 ?_
    refine xm_nmi (fun x37 => ?_)
    refine xm_istore hX (lv' := [(9, .int x37), (8, .int x32), (7, .int x27), (6, .int x21), (0, .ref (g.1 0)), (1, .ref (g.1 73)), (2, .int b2), (3, .long b3), (5, .int b5)]) dL_way_93 (by decide) rfl ?_
    refine xm_aload_n hX 4 dL_way_95 rfl rfl ?_
    refine xm_iload hX 8 dL_way_96 rfl ?_
    refine xm_iconst hX (v := 1) rfl dL_way_98 ?_
    refine xm_isub hX dL_way_99 ?_
    refine xm_iconst hX (v := 4) rfl dL_way_100 ?_
    refine xm_calli hX (xm_runV hX (k := 0) (ci := 3) (As := (fun g => [.int (b5 - (1 : Int32)), .int (4 : Int32)])) (kX3_pose cLw_pre (b5 - (1 : Int32)) (4 : Int32) M35) (cLw_pre _ _ cL_0) rfl (xm_gV gm_283 gm_284 gm_285 gm_1 gm_286) rfl ⟨rfl, rfl⟩ ⟨rfl, hdX3_pose⟩ ⟨Nat.le_of_ble_eq_true rfl, Nat.le_of_ble_eq_true rfl⟩ rfl (Nat.le_of_ble_eq_true rfl) rfl ⟨Nat.le_of_ble_eq_true rfl, Nat.le_of_ble_eq_true rfl⟩ dL_way_101) (fun x39 M38 => ?_)
    refine xm_istore hX (lv' := [(10, .int x39), (9, .int x37), (8, .int x32), (7, .int x27), (6, .int x21), (0, .ref (g.1 0)), (1, .ref (g.1 73)), (2, .int b2), (3, .long b3), (5, .int b5)]) dL_way_104 (by decide) rfl ?_
    refine xm_aload_n hX 5 dL_way_106 rfl rfl ?_
    refine xm_iload hX 9 dL_way_107 rfl ?_
    refine xm_iconst hX (v := 1) rfl dL_way_109 ?_
    refine xm_isub hX dL_way_110 ?_
    refine xm_iconst hX (v := 2) rfl dL_way_111 ?_
    refine xm_calli hX (xm_runV hX (k := 0) (ci := 3) (As := (fun g => [.int (b5 - (1 : Int32)), .int (2 : Int32)])) (kX3_pose cLw_pre (b5 - (1 : Int32)) (2 : Int32) M38) (cLw_pre _ _ cL_0) rfl (xm_gV gm_283 gm_284 gm_285 gm_1 gm_286) rfl ⟨rfl, rfl⟩ ⟨rfl, hdX3_pose⟩ ⟨Nat.le_of_ble_eq_true rfl, Nat.le_of_ble_eq_true rfl⟩ rfl (Nat.le_of_ble_eq_true rfl) rfl ⟨Nat.le_of_ble_eq_true rfl, Nat.le_of_ble_eq_true rfl⟩ dL_way_112) (fun x41 M40 => ?_)
    refine xm_istore hX (lv' := [(11, .int x41), (10, .int x39), (9, .int x37), (8, .int x32), (7, .int x27), (6, .int x21), (0, .ref (g.1 0)), (1, .ref (g.1 73)), (2, .int b2), (3, .long b3), (5, .int b5)]) dL_way_115 (by decide) rfl ?_
    refine xm_iload hX 5 dL_way_117 rfl ?_
    refine xm_iconst hX (v := 4) rfl dL_way_119 ?_
    refine xm_icmp_ne hX (tgt := 238) dL_way_120 rfl ?_ ?_
    · refine xm_iload hX 5 dL_way_238 rfl ?_
      refine xm_if_ne hX (tgt := 325) dL_way_240 rfl ?_ ?_
      · refine xm_iload_n hX 8 dL_way_325 rfl rfl ?_
        refine xm_aload_n hX 6 dL_way_326 rfl rfl ?_
        refine xm_iload hX 10 dL_way_327 rfl ?_
        refine xm_bipush hX (v := 7) rfl dL_way_329 ?_
        refine xm_calli hX (xm_runV hX (k := 0) (ci := 3) (As := (fun g => [.int b5, .int (7 : Int32)])) (kX3_about cLw_pre b5 (7 : Int32) M40) (cLw_pre _ _ cL_0) rfl (xm_gV gm_312 gm_313 gm_314 gm_1 gm_315) rfl ⟨rfl, rfl⟩ ⟨rfl, hdX3_about⟩ ⟨Nat.le_of_ble_eq_true rfl, Nat.le_of_ble_eq_true rfl⟩ rfl (Nat.le_of_ble_eq_true rfl) rfl ⟨Nat.le_of_ble_eq_true rfl, Nat.le_of_ble_eq_true rfl⟩ dL_way_331) (fun x43 M42 => ?_)
        refine xm_if_lt hX (tgt := 341) dL_way_334 rfl ?_ ?_
        · refine xm_iconst hX (v := 0) rfl dL_way_341 ?_
          refine xm_weak [6, 7, 9, 10, 5, 4, 3, 2, 1, 0] (lv' := [(0, .ref (g.1 0)), (1, .ref (g.1 73)), (3, .long b3), (5, .int b5), (6, .int x21), (7, .int x27), (8, .int x32), (9, .int x37), (10, .int x39), (11, .int x41)]) rfl ?_
          exact tfL_way_342 hX k11 h11 b3 b5 x21 x27 x32 x37 x39 x41 (0 : Int32) b2 M42
        · refine xm_iconst hX (v := 1) rfl dL_way_337 ?_
          refine xm_goto hX (tgt := 342) dL_way_338 rfl ?_
          refine xm_weak [6, 7, 9, 10, 5, 4, 3, 2, 1, 0] (lv' := [(0, .ref (g.1 0)), (1, .ref (g.1 73)), (3, .long b3), (5, .int b5), (6, .int x21), (7, .int x27), (8, .int x32), (9, .int x37), (10, .int x39), (11, .int x41)]) rfl ?_
          exact tfL_way_342 hX k11 h11 b3 b5 x21 x27 x32 x37 x39 x41 (1 : Int32) b2 M42
      · refine xm_iload hX 4 dL_way_243 rfl ?_
        refine xm_if_ne hX (tgt := 323) dL_way_245 rfl ?_ ?_
        · refine xm_iconst hX (v := 0) rfl dL_way_323 ?_
          exact xm_zretW hX (by decide) dL_way_324
        · refine xm_iload hX 3 dL_way_248 rfl ?_
          refine xm_if_ne hX (tgt := 323) dL_way_250 rfl ?_ ?_
          · refine xm_iconst hX (v := 0) rfl dL_way_323 ?_
            exact xm_zretW hX (by decide) dL_way_324
          · refine xm_iload hX 2 dL_way_253 rfl ?_
            refine xm_if_ne hX (tgt := 323) dL_way_255 rfl ?_ ?_
            · refine xm_iconst hX (v := 0) rfl dL_way_323 ?_
              exact xm_zretW hX (by decide) dL_way_324
            · refine xm_aload_n hX 6 dL_way_258 rfl rfl ?_
              refine xm_iload hX 10 dL_way_259 rfl ?_
              refine xm_iconst hX (v := 2) rfl dL_way_261 ?_
              refine xm_calli hX (xm_runV hX (k := 0) (ci := 3) (As := (fun g => [.int b5, .int (2 : Int32)])) (kX3_pose cLw_pre b5 (2 : Int32) M40) (cLw_pre _ _ cL_0) rfl (xm_gV gm_283 gm_284 gm_285 gm_1 gm_286) rfl ⟨rfl, rfl⟩ ⟨rfl, hdX3_pose⟩ ⟨Nat.le_of_ble_eq_true rfl, Nat.le_of_ble_eq_true rfl⟩ rfl (Nat.le_of_ble_eq_true rfl) rfl ⟨Nat.le_of_ble_eq_true rfl, Nat.le_of_ble_eq_true rfl⟩ dL_way_262) (fun x53 M52 => ?_)
              refine xm_iload hX 0 dL_way_265 rfl ?_
              refine xm_icmp_ne hX (tgt := 323) dL_way_267 rfl ?_ ?_
              · refine xm_iconst hX (v := 0) rfl dL_way_323 ?_
                exact xm_zretW hX (by decide) dL_way_324
              · refine xm_aload_n hX 6 dL_way_270 rfl rfl ?_
                refine xm_iload hX 10 dL_way_271 rfl ?_
                refine xm_iconst hX (v := 4) rfl dL_way_273 ?_
                refine xm_calli hX (xm_runV hX (k := 0) (ci := 3) (As := (fun g => [.int b5, .int (4 : Int32)])) (kX3_pose cLw_pre b5 (4 : Int32) M52) (cLw_pre _ _ cL_0) rfl (xm_gV gm_283 gm_284 gm_285 gm_1 gm_286) rfl ⟨rfl, rfl⟩ ⟨rfl, hdX3_pose⟩ ⟨Nat.le_of_ble_eq_true rfl, Nat.le_of_ble_eq_true rfl⟩ rfl (Nat.le_of_ble_eq_true rfl) rfl ⟨Nat.le_of_ble_eq_true rfl, Nat.le_of_ble_eq_true rfl⟩ dL_way_274) (fun x55 M54 => ?_)
                refine xm_iload hX 1 dL_way_277 rfl ?_
                refine xm_bipush hX (v := 16) rfl dL_way_279 ?_
                refine xm_aload_n hX 6 dL_way_281 rfl rfl ?_
                refine xm_iload hX 10 dL_way_282 rfl ?_
                refine xm_iconst hX (v := 3) rfl dL_way_284 ?_
                refine xm_calli hX (xm_runV hX (k := 0) (ci := 3) (As := (fun g => [.int b5, .int (3 : Int32)])) (kX3_about cLw_pre b5 (3 : Int32) M54) (cLw_pre _ _ cL_0) rfl (xm_gV gm_312 gm_313 gm_314 gm_1 gm_315) rfl ⟨rfl, rfl⟩ ⟨rfl, hdX3_about⟩ ⟨Nat.le_of_ble_eq_true rfl, Nat.le_of_ble_eq_true rfl⟩ rfl (Nat.le_of_ble_eq_true rfl) rfl ⟨Nat.le_of_ble_eq_true rfl, Nat.le_of_ble_eq_true rfl⟩ dL_way_285) (fun x57 M56 => ?_)
                refine xm_imul hX dL_way_288 ?_
                refine xm_iload hX 1 dL_way_289 rfl ?_
                refine xm_isub hX dL_way_291 ?_
                refine xm_aload_n hX 6 dL_way_292 rfl rfl ?_
                refine xm_bipush hX (v := 17) rfl dL_way_293 ?_
                refine xm_calli hX (xm_runV hX (k := 0) (ci := 3) (As := (fun g => [.int (17 : Int32)])) (kX3_count cLw_pre (17 : Int32) M56) (cLw_pre _ _ cL_0) rfl (xm_gV gm_196 gm_197 gm_198 gm_1 gm_199) rfl ⟨rfl, rfl⟩ ⟨rfl, hdX3_count⟩ ⟨Nat.le_of_ble_eq_true rfl, Nat.le_of_ble_eq_true rfl⟩ rfl (Nat.le_of_ble_eq_true rfl) rfl ⟨Nat.le_of_ble_eq_true rfl, Nat.le_of_ble_eq_true rfl⟩ dL_way_295) (fun x59 M58 => ?_)
                refine xm_idiv hX dL_way_298 ?_
                refine xm_iadd hX dL_way_299 ?_
                refine xm_icmp_ne hX (tgt := 323) dL_way_300 rfl ?_ ?_
                · refine xm_iconst hX (v := 0) rfl dL_way_323 ?_
                  exact xm_zretW hX (by decide) dL_way_324
                · refine xm_aload_n hX 6 dL_way_303 rfl rfl ?_
                  refine xm_iload hX 10 dL_way_304 rfl ?_
                  refine xm_iconst hX (v := 1) rfl dL_way_306 ?_
                  refine xm_calli hX (xm_runV hX (k := 0) (ci := 3) (As := (fun g => [.int b5, .int (1 : Int32)])) (kX3_about cLw_pre b5 (1 : Int32) M58) (cLw_pre _ _ cL_0) rfl (xm_gV gm_312 gm_313 gm_314 gm_1 gm_315) rfl ⟨rfl, rfl⟩ ⟨rfl, hdX3_about⟩ ⟨Nat.le_of_ble_eq_true rfl, Nat.le_of_ble_eq_true rfl⟩ rfl (Nat.le_of_ble_eq_true rfl) rfl ⟨Nat.le_of_ble_eq_true rfl, Nat.le_of_ble_eq_true rfl⟩ dL_way_307) (fun x61 M60 => ?_)
                  refine xm_if_ne hX (tgt := 323) dL_way_310 rfl ?_ ?_
                  · refine xm_iconst hX (v := 0) rfl dL_way_323 ?_
                    exact xm_zretW hX (by decide) dL_way_324
                  · refine xm_aload_n hX 6 dL_way_313 rfl rfl ?_
                    refine xm_iload hX 10 dL_way_314 rfl ?_
                    refine xm_iconst hX (v := 2) rfl dL_way_316 ?_
                    refine xm_calli hX (xm_runV hX (k := 0) (ci := 3) (As := (fun g => [.int b5, .int (2 : Int32)])) (kX3_about cLw_pre b5 (2 : Int32) M60) (cLw_pre _ _ cL_0) rfl (xm_gV gm_312 gm_313 gm_314 gm_1 gm_315) rfl ⟨rfl, rfl⟩ ⟨rfl, hdX3_about⟩ ⟨Nat.le_of_ble_eq_true rfl, Nat.le_of_ble_eq_true rfl⟩ rfl (Nat.le_of_ble_eq_true rfl) rfl ⟨Nat.le_of_ble_eq_true rfl, Nat.le_of_ble_eq_true rfl⟩ dL_way_317) (fun x63 M62 => ?_)
                    refine xm_if_eq hX (tgt := 390) dL_way_320 rfl ?_ ?_
                    · refine xm_weak [6, 7, 8, 9, 10] (lv' := [(0, .ref (g.1 0)), (1, .ref (g.1 73)), (2, .int b2), (3, .long b3), (5, .int b5)]) rfl ?_
                      exact tfL_way_390 hX k11 h11 b2 b3 b5 M62
                    · refine xm_iconst hX (v := 0) rfl dL_way_323 ?_
                      exact xm_zretW hX (by decide) dL_way_324
    · refine xm_lload_n hX 9 dL_way_123 rfl rfl ?_
      refine xm_aload_n hX 6 dL_way_124 rfl rfl ?_
      refine xm_iload hX 10 dL_way_125 rfl ?_
      refine xm_bipush hX (v := 9) rfl dL_way_127 ?_
      refine xm_calli hX (xm_runV hX (k := 0) (ci := 3) (As := (fun g => [.int b5, .int (9 : Int32)])) (kX3_about cLw_pre b5 (9 : Int32) M40) (cLw_pre _ _ cL_0) rfl (xm_gV gm_312 gm_313 gm_314 gm_1 gm_315) rfl ⟨rfl, rfl⟩ ⟨rfl, hdX3_about⟩ ⟨Nat.le_of_ble_eq_true rfl, Nat.le_of_ble_eq_true rfl⟩ rfl (Nat.le_of_ble_eq_true rfl) rfl ⟨Nat.le_of_ble_eq_true rfl, Nat.le_of_ble_eq_true rfl⟩ dL_way_129) (fun x65 M64 => ?_)
      refine xm_calli hX (xm_runS hX (As := (fun g => [.int x65])) (kL_size cLw_pre x65 M64) (xm_gS gm_336 gm_337 gm_0 gm_338) rfl ⟨rfl, rfl⟩ hdL_size ⟨Nat.le_of_ble_eq_true rfl, Nat.le_of_ble_eq_true rfl⟩ rfl (Nat.le_of_ble_eq_true rfl) rfl ⟨Nat.le_of_ble_eq_true rfl, Nat.le_of_ble_eq_true rfl⟩ dL_way_132) (fun x67 M66 => ?_)
      refine xm_i2l hX dL_way_135 ?_
      refine xm_aload_n hX 6 dL_way_136 rfl rfl ?_
      refine xm_iload hX 10 dL_way_137 rfl ?_
      refine xm_bipush hX (v := 10) rfl dL_way_139 ?_
      refine xm_calli hX (xm_runV hX (k := 0) (ci := 3) (As := (fun g => [.int b5, .int (10 : Int32)])) (kX3_about cLw_pre b5 (10 : Int32) M66) (cLw_pre _ _ cL_0) rfl (xm_gV gm_312 gm_313 gm_314 gm_1 gm_315) rfl ⟨rfl, rfl⟩ ⟨rfl, hdX3_about⟩ ⟨Nat.le_of_ble_eq_true rfl, Nat.le_of_ble_eq_true rfl⟩ rfl (Nat.le_of_ble_eq_true rfl) rfl ⟨Nat.le_of_ble_eq_true rfl, Nat.le_of_ble_eq_true rfl⟩ dL_way_141) (fun x69 M68 => ?_)
      refine xm_calli hX (xm_runS hX (As := (fun g => [.int x69])) (kL_size cLw_pre x69 M68) (xm_gS gm_336 gm_337 gm_0 gm_338) rfl ⟨rfl, rfl⟩ hdL_size ⟨Nat.le_of_ble_eq_true rfl, Nat.le_of_ble_eq_true rfl⟩ rfl (Nat.le_of_ble_eq_true rfl) rfl ⟨Nat.le_of_ble_eq_true rfl, Nat.le_of_ble_eq_true rfl⟩ dL_way_144) (fun x71 M70 => ?_)
      refine xm_i2l hX dL_way_147 ?_
      refine xm_ladd hX dL_way_148 ?_
      refine xm_ladd hX dL_way_149 ?_
      refine xm_nml (fun x72 => ?_)
      refine xm_lstore_n hX (lv' := [(3, .long x72), (11, .int x41), (10, .int x39), (9, .int x37), (8, .int x32), (7, .int x27), (6, .int x21), (0, .ref (g.1 0)), (1, .ref (g.1 73)), (2, .int b2), (5, .int b5)]) dL_way_150 rfl (by decide) rfl ?_
      refine xm_iload hX 3 dL_way_151 rfl ?_
      refine xm_if_ne hX (tgt := 236) dL_way_153 rfl ?_ ?_
      · refine xm_iconst hX (v := 0) rfl dL_way_236 ?_
        exact xm_zretW hX (by decide) dL_way_237
      · refine xm_aload_n hX 7 dL_way_156 rfl rfl ?_
        refine xm_iload hX 10 dL_way_157 rfl ?_
        refine xm_iconst hX (v := 4) rfl dL_way_159 ?_
        refine xm_calli hX (xm_runV hX (k := 0) (ci := 3) (As := (fun g => [.int b5, .int (4 : Int32)])) (kX3_pose cLw_pre b5 (4 : Int32) M70) (cLw_pre _ _ cL_0) rfl (xm_gV gm_283 gm_284 gm_285 gm_1 gm_286) rfl ⟨rfl, rfl⟩ ⟨rfl, hdX3_pose⟩ ⟨Nat.le_of_ble_eq_true rfl, Nat.le_of_ble_eq_true rfl⟩ rfl (Nat.le_of_ble_eq_true rfl) rfl ⟨Nat.le_of_ble_eq_true rfl, Nat.le_of_ble_eq_true rfl⟩ dL_way_160) (fun x74 M73 => ?_)
        refine xm_iload hX 2 dL_way_163 rfl ?_
        refine xm_icmp_ne hX (tgt := 236) dL_way_165 rfl ?_ ?_
        · refine xm_iconst hX (v := 0) rfl dL_way_236 ?_
          exact xm_zretW hX (by decide) dL_way_237
        · refine xm_aload_n hX 7 dL_way_168 rfl rfl ?_
          refine xm_iload hX 10 dL_way_169 rfl ?_
          refine xm_iconst hX (v := 2) rfl dL_way_171 ?_
          refine xm_calli hX (xm_runV hX (k := 0) (ci := 3) (As := (fun g => [.int b5, .int (2 : Int32)])) (kX3_pose cLw_pre b5 (2 : Int32) M73) (cLw_pre _ _ cL_0) rfl (xm_gV gm_283 gm_284 gm_285 gm_1 gm_286) rfl ⟨rfl, rfl⟩ ⟨rfl, hdX3_pose⟩ ⟨Nat.le_of_ble_eq_true rfl, Nat.le_of_ble_eq_true rfl⟩ rfl (Nat.le_of_ble_eq_true rfl) rfl ⟨Nat.le_of_ble_eq_true rfl, Nat.le_of_ble_eq_true rfl⟩ dL_way_172) (fun x76 M75 => ?_)
          refine xm_iload hX 1 dL_way_175 rfl ?_
          refine xm_icmp_ne hX (tgt := 236) dL_way_177 rfl ?_ ?_
          · refine xm_iconst hX (v := 0) rfl dL_way_236 ?_
            exact xm_zretW hX (by decide) dL_way_237
          · refine xm_iload hX 5 dL_way_180 rfl ?_
            refine xm_aload_n hX 7 dL_way_182 rfl rfl ?_
            refine xm_iload hX 10 dL_way_183 rfl ?_
            refine xm_bipush hX (v := 9) rfl dL_way_185 ?_
            refine xm_calli hX (xm_runV hX (k := 0) (ci := 3) (As := (fun g => [.int b5, .int (9 : Int32)])) (kX3_about cLw_pre b5 (9 : Int32) M75) (cLw_pre _ _ cL_0) rfl (xm_gV gm_312 gm_313 gm_314 gm_1 gm_315) rfl ⟨rfl, rfl⟩ ⟨rfl, hdX3_about⟩ ⟨Nat.le_of_ble_eq_true rfl, Nat.le_of_ble_eq_true rfl⟩ rfl (Nat.le_of_ble_eq_true rfl) rfl ⟨Nat.le_of_ble_eq_true rfl, Nat.le_of_ble_eq_true rfl⟩ dL_way_187) (fun x78 M77 => ?_)
            refine xm_ineg hX dL_way_190 ?_
            refine xm_icmp_ne hX (tgt := 236) dL_way_191 rfl ?_ ?_
            · refine xm_iconst hX (v := 0) rfl dL_way_236 ?_
              exact xm_zretW hX (by decide) dL_way_237
            · refine xm_iload hX 4 dL_way_194 rfl ?_
              refine xm_aload_n hX 7 dL_way_196 rfl rfl ?_
              refine xm_iload hX 10 dL_way_197 rfl ?_
              refine xm_bipush hX (v := 10) rfl dL_way_199 ?_
              refine xm_calli hX (xm_runV hX (k := 0) (ci := 3) (As := (fun g => [.int b5, .int (10 : Int32)])) (kX3_about cLw_pre b5 (10 : Int32) M77) (cLw_pre _ _ cL_0) rfl (xm_gV gm_312 gm_313 gm_314 gm_1 gm_315) rfl ⟨rfl, rfl⟩ ⟨rfl, hdX3_about⟩ ⟨Nat.le_of_ble_eq_true rfl, Nat.le_of_ble_eq_true rfl⟩ rfl (Nat.le_of_ble_eq_true rfl) rfl ⟨Nat.le_of_ble_eq_true rfl, Nat.le_of_ble_eq_true rfl⟩ dL_way_201) (fun x80 M79 => ?_)
              refine xm_ineg hX dL_way_204 ?_
              refine xm_icmp_ne hX (tgt := 236) dL_way_205 rfl ?_ ?_
              · refine xm_iconst hX (v := 0) rfl dL_way_236 ?_
                exact xm_zretW hX (by decide) dL_way_237
              · refine xm_aload_n hX 7 dL_way_208 rfl rfl ?_
                refine xm_iload hX 10 dL_way_209 rfl ?_
                refine xm_iconst hX (v := 0) rfl dL_way_211 ?_
                refine xm_calli hX (xm_runV hX (k := 0) (ci := 3) (As := (fun g => [.int b5, .int (0 : Int32)])) (kX3_pose cLw_pre b5 (0 : Int32) M79) (cLw_pre _ _ cL_0) rfl (xm_gV gm_283 gm_284 gm_285 gm_1 gm_286) rfl ⟨rfl, rfl⟩ ⟨rfl, hdX3_pose⟩ ⟨Nat.le_of_ble_eq_true rfl, Nat.le_of_ble_eq_true rfl⟩ rfl (Nat.le_of_ble_eq_true rfl) rfl ⟨Nat.le_of_ble_eq_true rfl, Nat.le_of_ble_eq_true rfl⟩ dL_way_212) (fun x82 M81 => ?_)
                refine xm_sipush hX (v := 1000) rfl dL_way_215 ?_
                refine xm_iremL hX (by decide) dL_way_218 ?_
                refine xm_if_ne hX (tgt := 236) dL_way_219 rfl ?_ ?_
                · refine xm_iconst hX (v := 0) rfl dL_way_236 ?_
                  exact xm_zretW hX (by decide) dL_way_237
                · refine xm_aload_n hX 7 dL_way_222 rfl rfl ?_
                  refine xm_iload hX 10 dL_way_223 rfl ?_
                  refine xm_iconst hX (v := 1) rfl dL_way_225 ?_
                  refine xm_calli hX (xm_runV hX (k := 0) (ci := 3) (As := (fun g => [.int b5, .int (1 : Int32)])) (kX3_pose cLw_pre b5 (1 : Int32) M81) (cLw_pre _ _ cL_0) rfl (xm_gV gm_283 gm_284 gm_285 gm_1 gm_286) rfl ⟨rfl, rfl⟩ ⟨rfl, hdX3_pose⟩ ⟨Nat.le_of_ble_eq_true rfl, Nat.le_of_ble_eq_true rfl⟩ rfl (Nat.le_of_ble_eq_true rfl) rfl ⟨Nat.le_of_ble_eq_true rfl, Nat.le_of_ble_eq_true rfl⟩ dL_way_226) (fun x84 M83 => ?_)
                  refine xm_sipush hX (v := 1000) rfl dL_way_229 ?_
                  refine xm_iremL hX (by decide) dL_way_232 ?_
                  refine xm_if_eq hX (tgt := 390) dL_way_233 rfl ?_ ?_
                  · refine xm_weak [7, 8, 9, 0, 10] (lv' := [(0, .ref (g.1 0)), (1, .ref (g.1 73)), (2, .int b2), (3, .long x72), (5, .int b5)]) rfl ?_
                    exact tfL_way_390 hX k11 h11 b2 x72 b5 M83
                  · refine xm_iconst hX (v := 0) rfl dL_way_236 ?_
                    exact xm_zretW hX (by decide) dL_way_237
def fL_way_11_it   (nq : Nat) : Int32 → Int64 → Int32 → xm_M → Option (Int32 × xm_M) := xm_it (fun kq => fL_way_11 kq) (fun _ _ _ _ => none) nq
theorem fL_way_11_its (nq : Nat) : fL_way_11_it (nq + 1) = fL_way_11 (fL_way_11_it nq) := rfl
set_option maxRecDepth 100000 in
theorem tfL_way_11_it {p : Program} {l : Launch} {e : Env} {s : State} {m : MethodId} {args : Array Value} {below : List Frame} {meth : Method} {c : Code} {D : va_G} {g : xm_G} {A : Nat → Prop}  (hX : xm_X p m meth c cL_way 12 s args wL_way RL (some .boolean) D cLw g A)    : ∀ (nq : Nat), ∀ (b2 : Int32), ∀ (b3 : Int64), ∀ (b5 : Int32), ∀ (M : xm_M), xm_J p l e ({ frames := 7, cells := 1, slots := 5, locals := 195 }) s m args below meth c 12 D cLw g A (xm_FW below args s D g A) 11 [(0, .ref (g.1 0)), (1, .ref (g.1 73)), (2, .int b2), (3, .long b3), (5, .int b5)] [] M (fL_way_11_it  nq b2 b3 b5 M) := by
  intro nq
  induction nq with
  | zero => exact fun _ _ _ _ => xm_none
  | succ nq ih => rw [fL_way_11_its]; exact tfL_way_11 hX _ ih
def fL_way   (M : xm_M) : Option (Int32 × xm_M) :=
  xm_lt ((0 : Int32)) (fun x1 => xm_lt ((0 : Int64)) (fun x2 => xm_lt ((0 : Int32)) (fun x3 => fL_way_11_it xm_N x1 x2 x3 M)))
set_option maxRecDepth 20000 in
theorem kL_way_w {p : Program} {l : Launch} {e : Env} {s : State} {m : MethodId} {args : Array Value} {below : List Frame} {meth : Method} {c : Code} {D : va_G} {g : xm_G} {A : Nat → Prop}  (hX : xm_X p m meth c cL_way 12 s args wL_way RL (some .boolean) D cLw g A) (M : xm_M) : xm_J p l e ({ frames := 7, cells := 1, slots := 5, locals := 195 }) s m args below meth c 12 D cLw g A (xm_FW below args s D g A) 3 [(0, .ref (g.1 0))] [.ref (g.1 73)] M (fL_way  M) := by
  unfold fL_way
  refine xm_astore_n hX (lv' := [(1, .ref (g.1 73)), (0, .ref (g.1 0))]) dL_way_3 rfl (by decide) rfl ?_
  refine xm_iconst hX (v := 0) rfl dL_way_4 ?_
  refine xm_nmi (fun x1 => ?_)
  refine xm_istore_n hX (lv' := [(2, .int x1), (1, .ref (g.1 73)), (0, .ref (g.1 0))]) dL_way_5 rfl (by decide) rfl ?_
  refine xm_lconst hX (v := 0) rfl dL_way_6 ?_
  refine xm_nml (fun x2 => ?_)
  refine xm_lstore_n hX (lv' := [(3, .long x2), (2, .int x1), (1, .ref (g.1 73)), (0, .ref (g.1 0))]) dL_way_7 rfl (by decide) rfl ?_
  refine xm_iconst hX (v := 0) rfl dL_way_8 ?_
  refine xm_nmi (fun x3 => ?_)
  refine xm_istore hX (lv' := [(5, .int x3), (3, .long x2), (2, .int x1), (1, .ref (g.1 73)), (0, .ref (g.1 0))]) dL_way_9 (by decide) rfl ?_
  refine xm_weak [4, 3, 2, 1, 0] (lv' := [(0, .ref (g.1 0)), (1, .ref (g.1 73)), (2, .int x1), (3, .long x2), (5, .int x3)]) rfl ?_
  exact tfL_way_11_it hX xm_N x1 x2 x3 M
theorem xs_r {D : va_G} {wr wc : va_W} {H : Heap} (hP : va_P D vwCl (wr ++ wc) H) : va_P D vwCl wc H := fun k q h => hP (wr.length + k) q (by rw [List.getElem?_append_right (by omega), show wr.length + k - wr.length = k by omega]; exact h)
theorem xs_l {D : va_G} {wr wc : va_W} {H : Heap} (hP : va_P D vwCl (wr ++ wc) H) : va_P D vwCl wr H := fun k q h => hP k q (by rw [List.getElem?_append_left (List.getElem?_eq_some_iff.mp h).1]; exact h)
theorem xs_rD {A : Nat → Prop} {wr wc : va_W} (hD : va_D A (wr ++ wc)) : va_D A wc := by
  have key : ∀ (k : Nat) (q : Nat × va_E), wc[k]? = some q → (wr ++ wc)[wr.length + k]? = some q := fun k q h => by rw [List.getElem?_append_right (by omega), show wr.length + k - wr.length = k by omega]; exact h
  exact ⟨fun i j x y hi hj hxy => by have := hD.1 _ _ x y (key i x hi) (key j y hj) hxy; omega, fun k q h => hD.2 _ q (key k q h)⟩
theorem xs_lD {A : Nat → Prop} {wr wc : va_W} (hD : va_D A (wr ++ wc)) : va_D A wr := by
  have key : ∀ (k : Nat) (q : Nat × va_E), wr[k]? = some q → (wr ++ wc)[k]? = some q := fun k q h => by rw [List.getElem?_append_left (List.getElem?_eq_some_iff.mp h).1]; exact h
  exact ⟨fun i j x y hi hj hxy => hD.1 _ _ x y (key i x hi) (key j y hj) hxy, fun k q h => hD.2 _ q (key k q h)⟩
theorem xs_F {s : State} {wc : va_W} {H : Heap} {locs : List Loc} (hD : va_D (fun q : Nat => s.heap.size ≤ q) wc) (hS : va_S (fun q : Nat => s.heap.size ≤ q) s.heap H locs) : ∀ q, va_A wc H.size q → s.heap.size ≤ q := fun q h => by
  rcases h with ⟨k, e, h⟩ | h
  · exact hD.2 k (q, e) h
  · exact Nat.le_trans hS.1 h
theorem xs_inj {A : Nat → Prop} {L : List xm_Sh} {g : xm_G} {M : xm_M} (hD : va_D A (xm_w L g M)) : xm_inj L g ∧ ∀ k, k < L.length → A (g.1 k) := by
  refine ⟨fun i j hi hj h => hD.1 i j _ _ (xm_w_at (List.getElem?_eq_getElem hi)) (xm_w_at (List.getElem?_eq_getElem hj)) h, fun k hk => hD.2 k _ (xm_w_at (List.getElem?_eq_getElem hk))⟩
theorem xs_dis {A : Nat → Prop} {L1 L2 : List xm_Sh} {g1 g2 : xm_G} {M N : xm_M} (hD : va_D A (xm_w L1 g1 M ++ xm_w L2 g2 N)) : ∀ k j, k < L1.length → j < L2.length → g1.1 k ≠ g2.1 j := fun k j hk hj h => by
  have h1 : (xm_w L1 g1 M ++ xm_w L2 g2 N)[k]? = some (g1.1 k, xm_cell g1 L1[k] (M.1 k) (M.2 k)) := by
    rw [List.getElem?_append_left (by rw [xm_w_len]; exact hk)]; exact xm_w_at (List.getElem?_eq_getElem hk)
  have h2 : (xm_w L1 g1 M ++ xm_w L2 g2 N)[L1.length + j]? = some (g2.1 j, xm_cell g2 L2[j] (N.1 j) (N.2 j)) := by
    rw [List.getElem?_append_right (by rw [xm_w_len]; omega), xm_w_len, show L1.length + j - L1.length = j by omega]; exact xm_w_at (List.getElem?_eq_getElem hj)
  have := hD.1 _ _ _ _ h1 h2 h
  omega
/-! the row that 'way' makes -/
def xm_rf (sh : xm_Sh) : Bool := match sh with
  | .inl _ => true
  | .inr (.inl b) => decide (b.2 + b.1 ≤ 73)
  | .inr (.inr q) => q.2.all (fun x => decide (x.2 < 73))
theorem cL_rf : cL.all xm_rf = true := by decide +kernel
theorem xm_cell_g {g g2 : xm_G} (h2 : g2.2 = g.2) (h1 : ∀ k, k < 73 → g2.1 k = g.1 k) {sh : xm_Sh} (hr : xm_rf sh = true) (f : Nat → Int32) (h : Nat → Int64) : xm_cell g2 sh f h = xm_cell g sh f h := by
  match sh, hr with
  | .inl a, _ => show (Sum.inl _ : va_E) = Sum.inl _; unfold xm_cid; rw [h2]
  | .inr (.inl b), hr =>
    have hb : b.2 + b.1 ≤ 73 := of_decide_eq_true hr
    have e : xm_rows g2 b = xm_rows g b := funext fun i => by
      unfold xm_rows
      by_cases hi : i < b.1
      · rw [if_pos hi, if_pos hi, h1 _ (by omega)]
      · rw [if_neg hi, if_neg hi]
    show (Sum.inl _ : va_E) = Sum.inl _
    unfold xm_cid
    rw [e, h2]
  | .inr (.inr q), hr =>
    have e : xm_fs g2 f h q.2 = xm_fs g f h q.2 := by
      unfold xm_fs
      apply List.ext_getElem?
      intro j
      rw [List.getElem?_mapIdx, List.getElem?_mapIdx]
      cases hq : q.2[j]? with
      | none => rfl
      | some x =>
        have hx : x.2 < 73 := of_decide_eq_true (List.all_eq_true.mp hr x (List.mem_of_getElem? hq))
        show some _ = some _
        unfold xm_fv
        rw [h1 _ hx]
    show (Sum.inr _ : va_E) = Sum.inr _
    rw [e]
theorem cL_len : cL.length = 73 := rfl
theorem xm_w_g {g g2 : xm_G} (h2 : g2.2 = g.2) (h1 : ∀ k, k < 73 → g2.1 k = g.1 k) {M M2 : xm_M} (hM : ∀ k, k < 73 → M2.1 k = M.1 k ∧ M2.2 k = M.2 k) : xm_w cL g2 M2 = xm_w cL g M := by
  apply List.ext_getElem?
  intro j
  unfold xm_w
  rw [List.getElem?_mapIdx, List.getElem?_mapIdx]
  cases hq : cL[j]? with
  | none => rfl
  | some x =>
    have hj : j < 73 := by have := (List.getElem?_eq_some_iff.mp hq).1; rw [cL_len] at this; exact this
    show some _ = some _
    rw [(hM j hj).1, (hM j hj).2, h1 j hj]
    show some (g.1 j, xm_cell g2 x (M.1 j) (M.2 j)) = some (g.1 j, xm_cell g x (M.1 j) (M.2 j))
    rw [xm_cell_g h2 h1 (List.all_eq_true.mp cL_rf x (List.mem_of_getElem? hq))]
/-- 'way', from its entry: the row is new and full of zeros -/
def fL_wayN (M : xm_M) : Option (Int32 × xm_M) := fL_way (xm_r M 73 (fun _ => 0))
set_option maxHeartbeats 1000000 in
theorem kL_way {l : Launch} (M : xm_M) : xm_CM l yL_way wL_way ({ frames := 7, cells := 1, slots := 5, locals := 195 }) cL (fun g => [.ref (g.1 0)]) M xm_Fi (fL_wayN M) 1 5 := by
  intro D g sz r hr
  refine Met.ofW (by decide) rfl ?_
  intro p e s m args below meth c s₁ B hml hv
  obtain ⟨rfl, hsz, hP, hK, hN, hI, hT, hSt⟩ := hv
  subst hsz
  have hts := atoms_spec (ws := wL_way) B.pre
  have hA : ∀ q : Nat, s.heap.size ≤ q → xm_A cL g s.heap.size q := fun q h => Or.inr h
  have hAg : ∀ k, k < cL.length → xm_A cL g s.heap.size (g.1 k) := fun k hk => Or.inl ⟨k, hk, rfl⟩
  have hD : va_D (xm_A cL g s.heap.size) (xm_w cL g M) := xm_D hI hAg M
  have hS : va_S (xm_A cL g s.heap.size) s.heap s.heap [] := va_S.rf
  rw [lg_entry_eq]
  have hl := lv_entry ([.ref (g.1 0)]) (n := 12) (Nat.le_of_ble_eq_true rfl)
  generalize (lg_sl ([.ref (g.1 0)]) ++ List.replicate (12 - (lg_sl ([.ref (g.1 0)])).length) Slot.unset).toArray = ls at hl ⊢
  have hl : lv_has ls 12 [(0, .ref (g.1 0))] := hl
  have hc0 : g.2[0]? = some (xm_cid g 0, .int) := hT 2 _ cL_2
  refine lv_iconst (v := 5) B.exec B.bytes dL_way_0 (by decide) ?_
  refine va_newa (atype := .int) (ty := .int) (a0 := (5, .inl (fun _ => 0))) B.exec B.bytes (hts _ (List.mem_cons_of_mem _ gm_67)) rfl hK hP hD hS hA (N' := 5) (fun _ => rfl) (by decide) (by decide) (Nat.le_of_ble_eq_true rfl) (Nat.le_of_ble_eq_true rfl) (Nat.le_of_ble_eq_true rfl) dL_way_1 (fun q cA H hK2 hP hD hS => ?_)
  have n1 := (hK2.2 g.2.length (cA, .int) (by rw [List.getElem?_append_right (Nat.le_refl _), Nat.sub_self]; rfl)).2
  have n0 := (hK.2 0 _ hc0).2
  have ec : cA = xm_cid g 0 := Option.some.inj (n1.symm.trans n0)
  subst ec
  obtain ⟨g2, eg⟩ : ∃ g2 : xm_G, g2 = (fun k => if k = 73 then q else g.1 k, g.2) := ⟨_, rfl⟩
  have g22 : g2.2 = g.2 := by rw [eg]
  have g21 : ∀ k, k < 73 → g2.1 k = g.1 k := fun k hk => by rw [eg]; exact if_neg (by omega)
  have g273 : g2.1 73 = q := by rw [eg]; show (if (73 : Nat) = 73 then q else g.1 73) = q; exact if_pos rfl
  obtain ⟨M2, eM⟩ : ∃ M2 : xm_M, M2 = xm_r M 73 (fun _ => 0) := ⟨_, rfl⟩
  have hM : ∀ k, k < 73 → M2.1 k = M.1 k ∧ M2.2 k = M.2 k := fun k hk => by rw [eM]; exact xm_r_o k (by omega)
  have hM73 : M2.1 73 = fun _ => 0 := by rw [eM]; exact xm_r_at
  have ew : xm_w cLw g2 M2 = xm_w cL g M ++ [(q, .inl (xm_cid g 0, 5, .inl (fun _ => 0)))] := by
    have e1 : xm_w cLw g2 M2 = xm_w cL g2 M2 ++ [(g2.1 73, xm_cell g2 (.inl (0, .int, 5)) (M2.1 73) (M2.2 73))] := by
      unfold xm_w cLw
      rw [List.mapIdx_append]
      rfl
    rw [e1, xm_w_g g22 g21 hM, g273, hM73]
    show _ ++ [(q, (Sum.inl (xm_cid g2 0, 5, .inl (fun _ => 0)) : va_E))] = _
    unfold xm_cid
    rw [g22]
  rw [← ew] at hP hD
  have hI2 := xs_inj hD
  have hT2 : xm_tyok cLw g2 := fun k sh hk => by
    by_cases h : k < 73
    · have h1 : cL[k]? = some sh := by
        unfold cLw at hk
        rw [List.getElem?_append_left (by rw [cL_len]; exact h)] at hk
        exact hk
      have h2 := hT k sh h1
      match sh, h2 with
      | .inl a, h2 => show g2.2[a.1]? = some (xm_cid g2 a.1, a.2.1); unfold xm_cid; rw [g22]; exact h2
      | .inr (.inl b), h2 => show g2.2[1]? = some (xm_cid g2 1, .array .int); unfold xm_cid; rw [g22]; exact h2
      | .inr (.inr q), _ => trivial
    · have h1 := (List.getElem?_eq_some_iff.mp hk).1
      have h3 : cLw.length = 74 := rfl
      have e3 : k = 73 := by omega
      subst e3
      rw [cLw_73] at hk
      cases hk
      show g2.2[0]? = some (xm_cid g2 0, .int)
      unfold xm_cid
      rw [g22]
      exact hc0
  have hX : xm_X p m meth c cL_way 12 s [Value.ref (g.1 0)].toArray wL_way RL (some .boolean) D cLw g2 (xm_A cL g s.heap.size) := ⟨⟨B.exec, B.bytes, hml, findClass_of_methodNamed B.named, hts⟩, B.returns, B.notSynchronized, by rw [g22]; exact hK, hN, hI2.1, hT2, hI2.2, hA, hSt⟩
  have hr2 : fL_way M2 = some r := by rw [eM]; exact hr
  have h := kL_way_w (below := below) (l := l) (e := e) hX M2 r hr2 ls H [] (by rw [g21 0 (by omega)]; exact hl) hP hS
  rw [g273] at h
  have eq : xm_Q D cL g2 (xm_A cL g s.heap.size) (xm_Fi g2 r) = xm_Q D cL g (xm_A cL g s.heap.size) (xm_Fi g r) := by
    unfold xm_Q
    rw [xm_w_g g22 g21 (M := (xm_Fi g r).2) (M2 := (xm_Fi g2 r).2) (fun k _ => ⟨rfl, rfl⟩)]
  have h2 : W p l e ({ frames := 7, cells := 1, slots := 5, locals := 195 }) s m [Value.ref (g.1 0)].toArray below meth c H [] 1 5 (MQ below (xm_Q D cL g2 (xm_A cL g s.heap.size) (xm_Fi g2 r)) [Value.ref (g.1 0)].toArray s 1 5 (xm_A cL g s.heap.size)) (F0 m 3 ls [.ref q]) := h
  rw [eq] at h2
  exact h2
