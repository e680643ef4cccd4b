def R_law : String := "OdometryDeskLaw"
def lw_P (b : Addr) (xs : List Int32) (args : Array Value) (s : State) : Prop := args = #[.ref b] ∧ s.IntsAt b xs ∧ xs.length ≤ 260 ∧ (Jvm.Cond.and given_1 narrow_1).before args s = true
def lw_Q (_ : Array Value) (s : State) (o : Outcome) (t : State) : Prop := o = .returned (some (.int 1)) ∧ Framed s o t [] 600000 7302250
def lw_Z (below : List Frame) (a : Array Value) (s : State) : State → Prop := fun t => ∃ o, t.status = .running ∧ Ended t below o ∧ lw_Q a s o t
/-- the law's own end, with 1 on the stack, nothing written that was there before, its room as the claim has it -/
theorem lw_ret {p : Program} {l : Launch} {e : Env} {s : State} {m : MethodId} {below : List Frame} {meth : Method} {c : Code} {b : Nat} (hx : p.tables.exec = Jvm.exec) (hb : c.code = code) (hr : meth.sig.returnType = ret) (hlocks : meth.locks = false) {pc : Nat} {H : Heap} {ls : Array Slot} (hdg : decode code pc = .ok (.ireturn, 1)) : W p l e room_1 s m #[Value.ref b] below meth c H [] 600000 7302250 (lw_Z below #[Value.ref b] s) (F0 m pc ls [.int 1]) := by
  intro T hT X
  obtain ⟨fs, hret, hrun, hended, hW, hframe⟩ := X.leave (v := some (.int 1)) (hlocks := hlocks) (fun h => by rw [hr] at h; cases h)
  have hmeth' : T.vm.method? m = some meth := X.method'
  refine ⟨T.setFrames fs, ?_, .returned (some (.int 1)), hrun, hended, rfl, ⟨_, rfl⟩, hW, hframe⟩
  jvm_step X.here [X.here.top, hx, hb, hdg, hmeth', hr, ret, narrow_b1]
  (try refine ⟨rfl, ?_⟩); (try refine ⟨rfl, ?_⟩)
  first | (intro acts; rw [hret _ acts rfl rfl rfl]) | rw [hret _ _ rfl rfl rfl]
  exact Steps.refl _
/-- what holds at the law's entry: the machine, the code, the tables' words (any of lw_tbl by 'hts w (by decide +kernel)'), the script of L ints xs at the cell b, what the Statement gives of the start (any of its parts by flat_of_before) -/
def lw_At (p : Program) (s : State) (m : MethodId) (meth : Method) (c : Code) (b L : Nat) (xs : Nat → Int32) : Prop :=
  p.tables.exec = Jvm.exec ∧ c.code = code ∧ meth.sig.returnType = ret ∧ c.maxLocals = 7 ∧ s.vm.findClass R_law = some m.cls ∧ (∀ w ∈ lw_tbl, w.before #[Value.ref b] s = true) ∧ va_X b L xs s s.heap ∧ b < s.heap.size ∧ meth.locks = false ∧ (Jvm.Cond.and given_1 narrow_1).before #[Value.ref b] s = true

theorem dL_law_0 : decode code 0 = .ok (.new 9, 3) := by decide +kernel
theorem dL_law_3 : decode code 3 = .ok (.dup, 1) := by decide +kernel
theorem dL_law_4 : decode code 4 = .ok (.invokespecial 11, 3) := by decide +kernel
theorem dL_law_7 : decode code 7 = .ok (.astore_n 1, 1) := by decide +kernel
theorem dL_law_8 : decode code 8 = .ok (.iconst 0, 1) := by decide +kernel
theorem dL_law_9 : decode code 9 = .ok (.istore_n 2, 1) := by decide +kernel
theorem dL_law_10 : decode code 10 = .ok (.aload_n 1, 1) := by decide +kernel
theorem dL_law_11 : decode code 11 = .ok (.aload_n 0, 1) := by decide +kernel
theorem dL_law_12 : decode code 12 = .ok (.iload_n 2, 1) := by decide +kernel
theorem dL_law_13 : decode code 13 = .ok (.iinc 2 1, 3) := by decide +kernel
theorem dL_law_16 : decode code 16 = .ok (.invokestatic 12, 3) := by decide +kernel
theorem dL_law_19 : decode code 19 = .ok (.invokestatic 18, 3) := by decide +kernel
theorem dL_law_22 : decode code 22 = .ok (.ifCond .ne 5, 3) := by decide +kernel
theorem dL_law_25 : decode code 25 = .ok (.iconst 0, 1) := by decide +kernel
theorem dL_law_26 : decode code 26 = .ok (.ireturn, 1) := by decide +kernel
theorem dL_law_27 : decode code 27 = .ok (.aload_n 0, 1) := by decide +kernel
theorem dL_law_28 : decode code 28 = .ok (.iload_n 2, 1) := by decide +kernel
theorem dL_law_29 : decode code 29 = .ok (.iinc 2 1, 3) := by decide +kernel
theorem dL_law_32 : decode code 32 = .ok (.invokestatic 12, 3) := by decide +kernel
theorem dL_law_35 : decode code 35 = .ok (.istore_n 3, 1) := by decide +kernel
theorem dL_law_36 : decode code 36 = .ok (.aload_n 1, 1) := by decide +kernel
theorem dL_law_37 : decode code 37 = .ok (.iconst 0, 1) := by decide +kernel
theorem dL_law_38 : decode code 38 = .ok (.sipush 300, 3) := by decide +kernel
theorem dL_law_41 : decode code 41 = .ok (.iload_n 3, 1) := by decide +kernel
theorem dL_law_42 : decode code 42 = .ok (.sipush 900, 3) := by decide +kernel
theorem dL_law_45 : decode code 45 = .ok (.invokestatic 22, 3) := by decide +kernel
theorem dL_law_48 : decode code 48 = .ok (.iadd, 1) := by decide +kernel
theorem dL_law_49 : decode code 49 = .ok (.invokevirtual 26, 3) := by decide +kernel
theorem dL_law_52 : decode code 52 = .ok (.pop, 1) := by decide +kernel
theorem dL_law_53 : decode code 53 = .ok (.aload_n 1, 1) := by decide +kernel
theorem dL_law_54 : decode code 54 = .ok (.iconst 1, 1) := by decide +kernel
theorem dL_law_55 : decode code 55 = .ok (.sipush 300, 3) := by decide +kernel
theorem dL_law_58 : decode code 58 = .ok (.iload_n 3, 1) := by decide +kernel
theorem dL_law_59 : decode code 59 = .ok (.iconst 3, 1) := by decide +kernel
theorem dL_law_60 : decode code 60 = .ok (.ishr, 1) := by decide +kernel
theorem dL_law_61 : decode code 61 = .ok (.sipush 900, 3) := by decide +kernel
theorem dL_law_64 : decode code 64 = .ok (.invokestatic 22, 3) := by decide +kernel
theorem dL_law_67 : decode code 67 = .ok (.iadd, 1) := by decide +kernel
theorem dL_law_68 : decode code 68 = .ok (.invokevirtual 26, 3) := by decide +kernel
theorem dL_law_71 : decode code 71 = .ok (.pop, 1) := by decide +kernel
theorem dL_law_72 : decode code 72 = .ok (.aload_n 1, 1) := by decide +kernel
theorem dL_law_73 : decode code 73 = .ok (.iconst 2, 1) := by decide +kernel
theorem dL_law_74 : decode code 74 = .ok (.bipush 100, 2) := by decide +kernel
theorem dL_law_76 : decode code 76 = .ok (.iload_n 3, 1) := by decide +kernel
theorem dL_law_77 : decode code 77 = .ok (.iconst 5, 1) := by decide +kernel
theorem dL_law_78 : decode code 78 = .ok (.ishr, 1) := by decide +kernel
theorem dL_law_79 : decode code 79 = .ok (.sipush 900, 3) := by decide +kernel
theorem dL_law_82 : decode code 82 = .ok (.invokestatic 22, 3) := by decide +kernel
theorem dL_law_85 : decode code 85 = .ok (.iadd, 1) := by decide +kernel
theorem dL_law_86 : decode code 86 = .ok (.invokevirtual 26, 3) := by decide +kernel
theorem dL_law_89 : decode code 89 = .ok (.pop, 1) := by decide +kernel
theorem dL_law_90 : decode code 90 = .ok (.aload_n 1, 1) := by decide +kernel
theorem dL_law_91 : decode code 91 = .ok (.iconst 4, 1) := by decide +kernel
theorem dL_law_92 : decode code 92 = .ok (.iload_n 3, 1) := by decide +kernel
theorem dL_law_93 : decode code 93 = .ok (.bipush 7, 2) := by decide +kernel
theorem dL_law_95 : decode code 95 = .ok (.ishr, 1) := by decide +kernel
theorem dL_law_96 : decode code 96 = .ok (.bipush 101, 2) := by decide +kernel
theorem dL_law_98 : decode code 98 = .ok (.invokestatic 22, 3) := by decide +kernel
theorem dL_law_101 : decode code 101 = .ok (.invokevirtual 26, 3) := by decide +kernel
theorem dL_law_104 : decode code 104 = .ok (.pop, 1) := by decide +kernel
theorem dL_law_105 : decode code 105 = .ok (.aload_n 1, 1) := by decide +kernel
theorem dL_law_106 : decode code 106 = .ok (.bipush 6, 2) := by decide +kernel
theorem dL_law_108 : decode code 108 = .ok (.iload_n 3, 1) := by decide +kernel
theorem dL_law_109 : decode code 109 = .ok (.bipush 9, 2) := by decide +kernel
theorem dL_law_111 : decode code 111 = .ok (.ishr, 1) := by decide +kernel
theorem dL_law_112 : decode code 112 = .ok (.bipush 101, 2) := by decide +kernel
theorem dL_law_114 : decode code 114 = .ok (.invokestatic 22, 3) := by decide +kernel
theorem dL_law_117 : decode code 117 = .ok (.invokevirtual 26, 3) := by decide +kernel
theorem dL_law_120 : decode code 120 = .ok (.pop, 1) := by decide +kernel
theorem dL_law_121 : decode code 121 = .ok (.aload_n 1, 1) := by decide +kernel
theorem dL_law_122 : decode code 122 = .ok (.bipush 8, 2) := by decide +kernel
theorem dL_law_124 : decode code 124 = .ok (.iload_n 3, 1) := by decide +kernel
theorem dL_law_125 : decode code 125 = .ok (.iconst 2, 1) := by decide +kernel
theorem dL_law_126 : decode code 126 = .ok (.ishr, 1) := by decide +kernel
theorem dL_law_127 : decode code 127 = .ok (.ldc 29, 2) := by decide +kernel
theorem dL_law_129 : decode code 129 = .ok (.invokestatic 22, 3) := by decide +kernel
theorem dL_law_132 : decode code 132 = .ok (.invokevirtual 26, 3) := by decide +kernel
theorem dL_law_135 : decode code 135 = .ok (.pop, 1) := by decide +kernel
theorem dL_law_136 : decode code 136 = .ok (.aload_n 1, 1) := by decide +kernel
theorem dL_law_137 : decode code 137 = .ok (.iload_n 3, 1) := by decide +kernel
theorem dL_law_138 : decode code 138 = .ok (.sipush 2001, 3) := by decide +kernel
theorem dL_law_141 : decode code 141 = .ok (.invokestatic 22, 3) := by decide +kernel
theorem dL_law_144 : decode code 144 = .ok (.sipush 1000, 3) := by decide +kernel
theorem dL_law_147 : decode code 147 = .ok (.isub, 1) := by decide +kernel
theorem dL_law_148 : decode code 148 = .ok (.iload_n 3, 1) := by decide +kernel
theorem dL_law_149 : decode code 149 = .ok (.iconst 4, 1) := by decide +kernel
theorem dL_law_150 : decode code 150 = .ok (.ishr, 1) := by decide +kernel
theorem dL_law_151 : decode code 151 = .ok (.sipush 2001, 3) := by decide +kernel
theorem dL_law_154 : decode code 154 = .ok (.invokestatic 22, 3) := by decide +kernel
theorem dL_law_157 : decode code 157 = .ok (.sipush 1000, 3) := by decide +kernel
theorem dL_law_160 : decode code 160 = .ok (.isub, 1) := by decide +kernel
theorem dL_law_161 : decode code 161 = .ok (.iload_n 3, 1) := by decide +kernel
theorem dL_law_162 : decode code 162 = .ok (.ldc 30, 2) := by decide +kernel
theorem dL_law_164 : decode code 164 = .ok (.invokestatic 22, 3) := by decide +kernel
theorem dL_law_167 : decode code 167 = .ok (.invokevirtual 31, 3) := by decide +kernel
theorem dL_law_170 : decode code 170 = .ok (.pop, 1) := by decide +kernel
theorem dL_law_171 : decode code 171 = .ok (.iconst 0, 1) := by decide +kernel
theorem dL_law_172 : decode code 172 = .ok (.istore 4, 2) := by decide +kernel
theorem dL_law_174 : decode code 174 = .ok (.iload 4, 2) := by decide +kernel
theorem dL_law_176 : decode code 176 = .ok (.iconst 3, 1) := by decide +kernel
theorem dL_law_177 : decode code 177 = .ok (.if_icmp .ge 132, 3) := by decide +kernel
theorem dL_law_180 : decode code 180 = .ok (.aload_n 0, 1) := by decide +kernel
theorem dL_law_181 : decode code 181 = .ok (.iload_n 2, 1) := by decide +kernel
theorem dL_law_182 : decode code 182 = .ok (.iinc 2 1, 3) := by decide +kernel
theorem dL_law_185 : decode code 185 = .ok (.invokestatic 12, 3) := by decide +kernel
theorem dL_law_188 : decode code 188 = .ok (.istore 5, 2) := by decide +kernel
theorem dL_law_190 : decode code 190 = .ok (.aload_n 1, 1) := by decide +kernel
theorem dL_law_191 : decode code 191 = .ok (.iload 5, 2) := by decide +kernel
theorem dL_law_193 : decode code 193 = .ok (.sipush 4001, 3) := by decide +kernel
theorem dL_law_196 : decode code 196 = .ok (.invokestatic 22, 3) := by decide +kernel
theorem dL_law_199 : decode code 199 = .ok (.sipush 2000, 3) := by decide +kernel
theorem dL_law_202 : decode code 202 = .ok (.isub, 1) := by decide +kernel
theorem dL_law_203 : decode code 203 = .ok (.iload 5, 2) := by decide +kernel
theorem dL_law_205 : decode code 205 = .ok (.bipush 12, 2) := by decide +kernel
theorem dL_law_207 : decode code 207 = .ok (.ishr, 1) := by decide +kernel
theorem dL_law_208 : decode code 208 = .ok (.sipush 4001, 3) := by decide +kernel
theorem dL_law_211 : decode code 211 = .ok (.invokestatic 22, 3) := by decide +kernel
theorem dL_law_214 : decode code 214 = .ok (.sipush 2000, 3) := by decide +kernel
theorem dL_law_217 : decode code 217 = .ok (.isub, 1) := by decide +kernel
theorem dL_law_218 : decode code 218 = .ok (.invokevirtual 35, 3) := by decide +kernel
theorem dL_law_221 : decode code 221 = .ok (.pop, 1) := by decide +kernel
theorem dL_law_222 : decode code 222 = .ok (.aload_n 0, 1) := by decide +kernel
theorem dL_law_223 : decode code 223 = .ok (.iload_n 2, 1) := by decide +kernel
theorem dL_law_224 : decode code 224 = .ok (.iinc 2 1, 3) := by decide +kernel
theorem dL_law_227 : decode code 227 = .ok (.invokestatic 12, 3) := by decide +kernel
theorem dL_law_230 : decode code 230 = .ok (.istore 6, 2) := by decide +kernel
theorem dL_law_232 : decode code 232 = .ok (.aload_n 1, 1) := by decide +kernel
theorem dL_law_233 : decode code 233 = .ok (.iload 5, 2) := by decide +kernel
theorem dL_law_235 : decode code 235 = .ok (.iconst 3, 1) := by decide +kernel
theorem dL_law_236 : decode code 236 = .ok (.ishr, 1) := by decide +kernel
theorem dL_law_237 : decode code 237 = .ok (.sipush 4001, 3) := by decide +kernel
theorem dL_law_240 : decode code 240 = .ok (.invokestatic 22, 3) := by decide +kernel
theorem dL_law_243 : decode code 243 = .ok (.sipush 2000, 3) := by decide +kernel
theorem dL_law_246 : decode code 246 = .ok (.isub, 1) := by decide +kernel
theorem dL_law_247 : decode code 247 = .ok (.iload 5, 2) := by decide +kernel
theorem dL_law_249 : decode code 249 = .ok (.bipush 9, 2) := by decide +kernel
theorem dL_law_251 : decode code 251 = .ok (.ishr, 1) := by decide +kernel
theorem dL_law_252 : decode code 252 = .ok (.sipush 4001, 3) := by decide +kernel
theorem dL_law_255 : decode code 255 = .ok (.invokestatic 22, 3) := by decide +kernel
theorem dL_law_258 : decode code 258 = .ok (.sipush 2000, 3) := by decide +kernel
theorem dL_law_261 : decode code 261 = .ok (.isub, 1) := by decide +kernel
theorem dL_law_262 : decode code 262 = .ok (.iload 6, 2) := by decide +kernel
theorem dL_law_264 : decode code 264 = .ok (.sipush 4001, 3) := by decide +kernel
theorem dL_law_267 : decode code 267 = .ok (.invokestatic 22, 3) := by decide +kernel
theorem dL_law_270 : decode code 270 = .ok (.sipush 2000, 3) := by decide +kernel
theorem dL_law_273 : decode code 273 = .ok (.isub, 1) := by decide +kernel
theorem dL_law_274 : decode code 274 = .ok (.iload 6, 2) := by decide +kernel
theorem dL_law_276 : decode code 276 = .ok (.bipush 9, 2) := by decide +kernel
theorem dL_law_278 : decode code 278 = .ok (.ishr, 1) := by decide +kernel
theorem dL_law_279 : decode code 279 = .ok (.sipush 4001, 3) := by decide +kernel
theorem dL_law_282 : decode code 282 = .ok (.invokestatic 22, 3) := by decide +kernel
theorem dL_law_285 : decode code 285 = .ok (.sipush 2000, 3) := by decide +kernel
theorem dL_law_288 : decode code 288 = .ok (.isub, 1) := by decide +kernel
theorem dL_law_289 : decode code 289 = .ok (.iload 6, 2) := by decide +kernel
theorem dL_law_291 : decode code 291 = .ok (.iconst 3, 1) := by decide +kernel
theorem dL_law_292 : decode code 292 = .ok (.ishr, 1) := by decide +kernel
theorem dL_law_293 : decode code 293 = .ok (.sipush 18000, 3) := by decide +kernel
theorem dL_law_296 : decode code 296 = .ok (.invokestatic 22, 3) := by decide +kernel
theorem dL_law_299 : decode code 299 = .ok (.invokevirtual 38, 3) := by decide +kernel
theorem dL_law_302 : decode code 302 = .ok (.pop, 1) := by decide +kernel
theorem dL_law_303 : decode code 303 = .ok (.iinc 4 1, 3) := by decide +kernel
theorem dL_law_306 : decode code 306 = .ok (.goto (-132), 3) := by decide +kernel
theorem dL_law_309 : decode code 309 = .ok (.iconst 0, 1) := by decide +kernel
theorem dL_law_310 : decode code 310 = .ok (.istore 4, 2) := by decide +kernel
theorem dL_law_312 : decode code 312 = .ok (.iload 4, 2) := by decide +kernel
theorem dL_law_314 : decode code 314 = .ok (.bipush 26, 2) := by decide +kernel
theorem dL_law_316 : decode code 316 = .ok (.if_icmp .ge 36, 3) := by decide +kernel
theorem dL_law_319 : decode code 319 = .ok (.aload_n 0, 1) := by decide +kernel
theorem dL_law_320 : decode code 320 = .ok (.iload_n 2, 1) := by decide +kernel
theorem dL_law_321 : decode code 321 = .ok (.iinc 2 1, 3) := by decide +kernel
theorem dL_law_324 : decode code 324 = .ok (.invokestatic 12, 3) := by decide +kernel
theorem dL_law_327 : decode code 327 = .ok (.istore_n 3, 1) := by decide +kernel
theorem dL_law_328 : decode code 328 = .ok (.aload_n 1, 1) := by decide +kernel
theorem dL_law_329 : decode code 329 = .ok (.iload_n 3, 1) := by decide +kernel
theorem dL_law_330 : decode code 330 = .ok (.aload_n 0, 1) := by decide +kernel
theorem dL_law_331 : decode code 331 = .ok (.iload_n 2, 1) := by decide +kernel
theorem dL_law_332 : decode code 332 = .ok (.iinc 2 1, 3) := by decide +kernel
theorem dL_law_335 : decode code 335 = .ok (.invokestatic 12, 3) := by decide +kernel
theorem dL_law_338 : decode code 338 = .ok (.invokestatic 42, 3) := by decide +kernel
theorem dL_law_341 : decode code 341 = .ok (.ifCond .ne 5, 3) := by decide +kernel
theorem dL_law_344 : decode code 344 = .ok (.iconst 0, 1) := by decide +kernel
theorem dL_law_345 : decode code 345 = .ok (.ireturn, 1) := by decide +kernel
theorem dL_law_346 : decode code 346 = .ok (.iinc 4 1, 3) := by decide +kernel
theorem dL_law_349 : decode code 349 = .ok (.goto (-37), 3) := by decide +kernel
theorem dL_law_352 : decode code 352 = .ok (.aload_n 1, 1) := by decide +kernel
theorem dL_law_353 : decode code 353 = .ok (.invokestatic 46, 3) := by decide +kernel
theorem dL_law_356 : decode code 356 = .ok (.ifCond .eq 73, 3) := by decide +kernel
theorem dL_law_359 : decode code 359 = .ok (.aload_n 1, 1) := by decide +kernel
theorem dL_law_360 : decode code 360 = .ok (.invokestatic 50, 3) := by decide +kernel
theorem dL_law_363 : decode code 363 = .ok (.ifCond .eq 66, 3) := by decide +kernel
theorem dL_law_366 : decode code 366 = .ok (.aload_n 1, 1) := by decide +kernel
theorem dL_law_367 : decode code 367 = .ok (.aload_n 0, 1) := by decide +kernel
theorem dL_law_368 : decode code 368 = .ok (.iload_n 2, 1) := by decide +kernel
theorem dL_law_369 : decode code 369 = .ok (.iinc 2 1, 3) := by decide +kernel
theorem dL_law_372 : decode code 372 = .ok (.invokestatic 12, 3) := by decide +kernel
theorem dL_law_375 : decode code 375 = .ok (.invokestatic 53, 3) := by decide +kernel
theorem dL_law_378 : decode code 378 = .ok (.ifCond .eq 51, 3) := by decide +kernel
theorem dL_law_381 : decode code 381 = .ok (.aload_n 1, 1) := by decide +kernel
theorem dL_law_382 : decode code 382 = .ok (.invokestatic 56, 3) := by decide +kernel
theorem dL_law_385 : decode code 385 = .ok (.ifCond .eq 44, 3) := by decide +kernel
theorem dL_law_388 : decode code 388 = .ok (.aload_n 1, 1) := by decide +kernel
theorem dL_law_389 : decode code 389 = .ok (.aload_n 0, 1) := by decide +kernel
theorem dL_law_390 : decode code 390 = .ok (.iload_n 2, 1) := by decide +kernel
theorem dL_law_391 : decode code 391 = .ok (.iinc 2 1, 3) := by decide +kernel
theorem dL_law_394 : decode code 394 = .ok (.invokestatic 12, 3) := by decide +kernel
theorem dL_law_397 : decode code 397 = .ok (.invokestatic 59, 3) := by decide +kernel
theorem dL_law_400 : decode code 400 = .ok (.ifCond .eq 29, 3) := by decide +kernel
theorem dL_law_403 : decode code 403 = .ok (.aload_n 1, 1) := by decide +kernel
theorem dL_law_404 : decode code 404 = .ok (.aload_n 0, 1) := by decide +kernel
theorem dL_law_405 : decode code 405 = .ok (.iload_n 2, 1) := by decide +kernel
theorem dL_law_406 : decode code 406 = .ok (.iinc 2 1, 3) := by decide +kernel
theorem dL_law_409 : decode code 409 = .ok (.invokestatic 12, 3) := by decide +kernel
theorem dL_law_412 : decode code 412 = .ok (.invokestatic 62, 3) := by decide +kernel
theorem dL_law_415 : decode code 415 = .ok (.ifCond .eq 14, 3) := by decide +kernel
theorem dL_law_418 : decode code 418 = .ok (.aload_n 1, 1) := by decide +kernel
theorem dL_law_419 : decode code 419 = .ok (.invokestatic 46, 3) := by decide +kernel
theorem dL_law_422 : decode code 422 = .ok (.ifCond .eq 7, 3) := by decide +kernel
theorem dL_law_425 : decode code 425 = .ok (.iconst 1, 1) := by decide +kernel
theorem dL_law_426 : decode code 426 = .ok (.goto 4, 3) := by decide +kernel
theorem dL_law_429 : decode code 429 = .ok (.iconst 0, 1) := by decide +kernel
theorem dL_law_430 : decode code 430 = .ok (.ireturn, 1) := by decide +kernel
theorem xl_gV {own C : String} {index : Nat} {y : MethodName} {bytes : ByteArray} {maxL : Nat} {rt : Option FieldType} (h1 : Cond.methodLink own index y ∈ lw_gd) (h2 : Cond.instanceMethod y ∈ lw_gd) (h3 : Cond.selects C y y ∈ lw_gd) (h0 : Cond.initialized C ∈ lw_gd) (h4 : Cond.code y bytes maxL rt ∈ lw_gd) : GoodIn lw_tbl (wsV own index C y (Cond.code y bytes maxL rt :: lw_gd)) := by
  intro w hw
  have hm : w ∈ lw_gd := by
    rcases List.mem_append.mp hw with h | h
    · rcases List.mem_cons.mp h with rfl | h
      · exact h1
      · rcases List.mem_cons.mp h with rfl | h
        · exact h2
        · rcases List.mem_cons.mp h with rfl | h
          · exact h3
          · rw [List.mem_singleton.mp h]; exact h0
    · rcases List.mem_cons.mp h with rfl | h
      · exact h4
      · exact h
  exact ⟨lw_gd_in w hm, lw_gd_good w hm⟩
theorem xl_gI {y : MethodName} {bytes : ByteArray} {maxL : Nat} {rt : Option FieldType} (h4 : Cond.code y bytes maxL rt ∈ lw_gd) : GoodIn lw_tbl (Cond.code y bytes maxL rt :: lw_gd) := by
  intro w hw
  have hm : w ∈ lw_gd := by
    rcases List.mem_cons.mp hw with rfl | h
    · exact h4
    · exact h
  exact ⟨lw_gd_in w hm, lw_gd_good w hm⟩
theorem xl_gS {own : String} {index : Nat} {y : MethodName} {bytes : ByteArray} {maxL : Nat} {rt : Option FieldType} (h1 : Cond.methodLink own index y ∈ lw_gd) (h2 : Cond.static y ∈ lw_gd) (h3 : Cond.initialized y.cls ∈ lw_gd) (h4 : Cond.code y bytes maxL rt ∈ lw_gd) : GoodIn lw_tbl (va_wsS own index y (Cond.code y bytes maxL rt :: lw_gd)) := by
  intro w hw
  have hm : w ∈ lw_gd := by
    rcases List.mem_append.mp hw with h | h
    · rcases List.mem_cons.mp h with rfl | h
      · exact h1
      · rcases List.mem_cons.mp h with rfl | h
        · exact h2
        · rw [List.mem_singleton.mp h]; exact h3
    · rcases List.mem_cons.mp h with rfl | h
      · exact h4
      · exact h
  exact ⟨lw_gd_in w hm, lw_gd_good w hm⟩
/-- the law's end -/
abbrev xm_FL (below : List Frame) (b : Nat) (s : State) (nC nS : Nat) : (Int32 × xm_M → State → Prop) × Nat × Nat := (fun _ => lw_Z below #[Value.ref b] s, nC, nS)
theorem xm_retL {p : Program} {l : Launch} {e : Env} {s : State} {m : MethodId} {below : List Frame} {meth : Method} {c : Code} {b : Nat} {D : va_G} {g : xm_G} {pc : Nat} {lv : List (Nat × Value)} {M : xm_M} (hX : xm_X p m meth c code 7 s #[Value.ref b] lw_tbl RL ret D cL g (fun q : Nat => s.heap.size ≤ q)) {nC nS : Nat} (h1 : nC ≤ 600000) (h2 : nS ≤ 7302250) (hdg : decode code pc = .ok (.ireturn, 1)) : xm_J p l e room_1 s m #[Value.ref b] below meth c 7 D cL g (fun q : Nat => s.heap.size ≤ q) ((fun _ => lw_Z below #[Value.ref b] s, nC, nS) : (Int32 × xm_M → State → Prop) × Nat × Nat) pc lv [.int 1] M (some ((1 : Int32), M)) := fun r hr ls H locs hl hP hS => by
  refine W.widen (k := 600000) (n := 7302250) h1 h2 ?_
  refine va_forget (fun q hq => hS.2.2 q hq) ?_
  exact lw_ret hX.1.1 hX.1.2.1 hX.2.1 hX.2.2.1 hdg
/-- the end of 'way' -/
abbrev xm_FW (below : List Frame) (args : Array Value) (s : State) (D : va_G) (g : xm_G) (A : Nat → Prop) : (Int32 × xm_M → State → Prop) × Nat × Nat := (fun r => MQ below (xm_Q D cL g A (xm_Fi g r)) args s 1 5 A, 1, 5)
theorem xm_cut {D : va_G} {g : xm_G} {M : xm_M} {H : Heap} (hP : va_P D vwCl (xm_w cLw g M) H) : va_P D vwCl (xm_w cL g M) H := fun k q h => by
  refine hP k q ?_
  have hk := (List.getElem?_eq_some_iff.mp h).1
  rw [← h]
  unfold xm_w cLw at *
  rw [List.mapIdx_append, List.getElem?_append_left hk]
theorem xm_zretW {p : Program} {l : Launch} {e : Env} {R : Room} {s : State} {m : MethodId} {args : Array Value} {below : List Frame} {meth : Method} {c : Code} {cc : ByteArray} {nL : Nat} {Ts : List Cond} {own : String} {D : va_G} {g : xm_G} {A : Nat → Prop} {pc : Nat} {lv : List (Nat × Value)} {M : xm_M} (hX : xm_X p m meth c cc nL s args Ts own (some .boolean) D cLw g A) {v : Int32} (h : v = 0 ∨ v = 1) (hdg : decode cc pc = .ok (.ireturn, 1)) : xm_J p l e R s m args below meth c nL D cLw g A (xm_FW below args s D g A) pc lv [.int v] M (some (v, M)) := fun r hr ls H locs hl hP hSS => by
  cases hr
  exact W.zret (v := v) hX.1.1 hX.1.2.1 hX.2.1 (by rcases h with rfl | rfl <;> rfl) (fun t ht hW => ⟨rfl, by rw [ht]; exact xm_cut hP, hSS.F ht⟩) hSS.2.2 hdg hX.2.2.1
/-- a contract of a method that makes cells -/
def xm_CM {ρ : Type} (l : Launch) (y : MethodName) (ws : List Cond) (rm : Room) (L : List xm_Sh) (As : xm_G → List Value) (M : xm_M) (Fn : xm_G → ρ → Option Value × xm_M) (X : Option ρ) (mc ms : Nat) : Prop :=
  ∀ (D : va_G) (g : xm_G) (sz : Nat) (r : ρ), X = some r → Met l y ws rm (va_Pc (As g) (xm_Pre D L g M sz)) (xm_Q D L g (xm_A L g sz) (Fn g r)) mc ms (xm_A L g sz)
section XQ
variable {p : Program} {l : Launch} {e : Env} {R : Room} {s : State} {m : MethodId} {args : Array Value} {below : List Frame} {meth : Method} {c : Code} {cc : ByteArray} {nL : Nat} {Ts : List Cond} {own : String} {ret : Option FieldType} {D : va_G} {L : List xm_Sh} {g : xm_G} {A : Nat → Prop}
variable {pc : Nat} {lv lv' : List (Nat × Value)} {rest : List Value} {M : xm_M}
theorem xm_runSM {mc ms nC nS : Nat} {σ : Type} {Fc : xm_G → σ → Option Value × xm_M} {st0 : List Value} {f : Option σ} {y : MethodName} {ws2 ws3 : List Cond} {rm : Room} {bytes : ByteArray} {maxL n index : Nat} {rt : Option FieldType} {As : xm_G → List Value} (hX : xm_X p m meth c cc nL s args Ts own ret D L g A) (hC : xm_CM l y ws2 rm L As M Fc f mc ms) (hG : GoodIn Ts (va_wsS own index y ws2)) (hw : ws2 = Cond.code y bytes maxL rt :: ws3) (hr0 : rm.cells = mc ∧ rm.slots = ms)
    (hd : y.cls ≠ "java/lang/invoke/MethodHandle" ∧ y.cls ≠ "java/lang/invoke/VarHandle" ∧ (parseMethodDescriptor y.desc).map (fun d => d.parameters.length) = some n) (hR : rm.frames + 1 ≤ R.frames ∧ 8 + (maxL + 11) + rm.locals ≤ R.locals) (hn : (As g).length = n) (hq : (rest.map fun v => v.category).sum ≤ 8) (hst : st0 = (As g).reverse ++ rest) (hF : nC + mc ≤ R.cells ∧ nS + ms ≤ R.slots) (hdg : decode cc pc = .ok (.invokestatic index, 3)) :
    ∀ r1, f = some r1 → ∀ (ls : Array Slot) (H : Heap) (locs : List Loc), lv_has ls nL lv → va_P D vwCl (xm_w L g M) H → va_S A s.heap H locs → va_Run p l e R s m args below meth c H locs nC nS mc ms (F0 m pc ls st0) rest (xm_Q D L g (xm_A L g H.size) (Fc g r1) (As g).toArray) (xm_A L g H.size) := fun r1 h1 ls H locs hl hP hS =>
  va_runS hX.1 (hC D g H.size r1 h1) (va_cwS n hX.1.2.2.2.2 hG hw hr0.1 hr0.2 hd hR) ⟨xm_blind, xm_preU hX hP hS⟩ rfl hn hl.1 hst (lv_room hq) hdg hF
end XQ
theorem dL_cell_0 : decode cL_cell 0 = .ok (.iload_n 1, 1) := by decide +kernel
theorem dL_cell_1 : decode cL_cell 1 = .ok (.aload_n 0, 1) := by decide +kernel
theorem dL_cell_2 : decode cL_cell 2 = .ok (.arraylength, 1) := by decide +kernel
theorem dL_cell_3 : decode cL_cell 3 = .ok (.if_icmp .ge 9, 3) := by decide +kernel
theorem dL_cell_6 : decode cL_cell 6 = .ok (.aload_n 0, 1) := by decide +kernel
theorem dL_cell_7 : decode cL_cell 7 = .ok (.iload_n 1, 1) := by decide +kernel
theorem dL_cell_8 : decode cL_cell 8 = .ok (.iaload, 1) := by decide +kernel
theorem dL_cell_9 : decode cL_cell 9 = .ok (.goto 11, 3) := by decide +kernel
theorem dL_cell_12 : decode cL_cell 12 = .ok (.ldc 7, 2) := by decide +kernel
theorem dL_cell_14 : decode cL_cell 14 = .ok (.iload_n 1, 1) := by decide +kernel
theorem dL_cell_15 : decode cL_cell 15 = .ok (.sipush 1597, 3) := by decide +kernel
theorem dL_cell_18 : decode cL_cell 18 = .ok (.iadd, 1) := by decide +kernel
theorem dL_cell_19 : decode cL_cell 19 = .ok (.imul, 1) := by decide +kernel
theorem dL_cell_20 : decode cL_cell 20 = .ok (.ireturn, 1) := by decide +kernel
abbrev wL_cell : List Cond := .code yL_cell cL_cell 2 (some .int) :: lw_gd
theorem hdL_cell : (yL_cell.cls ≠ "java/lang/invoke/MethodHandle" ∧ yL_cell.cls ≠ "java/lang/invoke/VarHandle" ∧ (parseMethodDescriptor yL_cell.desc).map (fun d => d.parameters.length) = some 2) := by decide +kernel
theorem xl_vpin {k : Int32} {Ls : Nat} (hL : Ls ≤ 260) (h0 : ¬ k < 0) (hk : k < Int32.ofNat Ls) : vp_in k Ls := by
  have e1 : (Int32.ofNat Ls).toInt = (Ls : Int) := nI_toInt (n := Ls) (by omega)
  rw [Int32.lt_iff_toInt_lt, e1] at hk
  have h1 : (0 : Int) ≤ k.toInt := by
    have := Int32.not_lt.mp h0
    rw [Int32.le_iff_toInt_le] at this
    exact this
  have h3 : k.toNatClampNeg = k.toInt.toNat := rfl
  intro h
  rcases h with h | h
  · exact h0 h
  · omega
/-- a number of the script, or one in its stead behind the script's end -/
def fL_cell (xs : Nat → Int32) (Ls : Nat) (k : Int32) (M : xm_M) : Option (Int32 × xm_M) := if k < Int32.ofNat Ls then (if k < 0 then none else some (xs k.toNatClampNeg, M)) else some ((73244475 : Int32) * (k + 1597), M)
def xm_CS (l : Launch) (b Ls : Nat) (xs : Nat → Int32) (k : Int32) (L : List xm_Sh) (M : xm_M) (X : Option (Int32 × xm_M)) : Prop :=
  ∀ (D : va_G) (g : xm_G) (sz : Nat) (r : Int32 × xm_M), X = some r → Met l yL_cell wL_cell ({ frames := 0, cells := 0, slots := 0, locals := 0 }) (va_Pc [.ref b, .int k] (fun U => xm_Pre D L g M sz U ∧ va_X b Ls xs U U.heap ∧ b < sz ∧ ¬ xm_A L g sz b ∧ Ls ≤ 260)) (xm_Q D L g (xm_A L g sz) (xm_Fi g r)) 0 0 (xm_A L g sz)
theorem kL_cell {l : Launch} {L : List xm_Sh} (b Ls : Nat) (xs : Nat → Int32) (k : Int32) (M : xm_M) : xm_CS l b Ls xs k L M (fL_cell xs Ls k M) := by
  intro D g sz r hr
  refine Met.ofW (by decide) rfl ?_
  intro p e s m args below meth c s₁ B hml hv
  obtain ⟨rfl, ⟨hsz, hP, hK, hN, hI, hT, hSt⟩, hXs, hb, hA, hL⟩ := hv
  subst hsz
  have hX : xm_X p m meth c cL_cell 2 s [Value.ref b, .int k].toArray wL_cell RL (some .int) D L g (xm_A L g s.heap.size) := ⟨⟨B.exec, B.bytes, hml, findClass_of_methodNamed B.named, atoms_spec (ws := wL_cell) B.pre⟩, B.returns, B.notSynchronized, hK, hN, hI, hT, fun k hk => Or.inl ⟨k, hk, rfl⟩, fun q hq => Or.inr hq, hSt⟩
  have hs : xm_Sc b Ls xs s (xm_A L g s.heap.size) := ⟨hXs, hb, hA, hL⟩
  have h : xm_J p l e ({ frames := 0, cells := 0, slots := 0, locals := 0 }) s m [Value.ref b, .int k].toArray below meth c 2 D L g (xm_A L g s.heap.size) (xm_Z below [Value.ref b, .int k].toArray s D L g (xm_A L g s.heap.size) (xm_Fi g)) 0 [(0, .ref b), (1, .int k)] [] M (fL_cell xs Ls k M) := by
    unfold fL_cell
    refine xm_iload_n hX 1 dL_cell_0 rfl rfl ?_
    refine xm_aload_n hX 0 dL_cell_1 rfl rfl ?_
    refine xm_slen hX hs dL_cell_2 ?_
    by_cases hk : k < Int32.ofNat Ls
    · rw [if_pos hk]
      refine xm_ite (fun _ => xm_none) (fun h0 => ?_)
      have h9 := xm_icmp_ge (p := p) (l := l) (e := e) (R := { frames := 0, cells := 0, slots := 0, locals := 0 }) (below := below) (Fn := xm_Z below [Value.ref b, .int k].toArray s D L g (xm_A L g s.heap.size) (xm_Fi g)) (lv := [(0, .ref b), (1, .int k)]) (rest := []) (M := M) (x := k) (y := Int32.ofNat Ls) (X := none) (Y := some (xs k.toNatClampNeg, M)) hX (tgt := 12) dL_cell_3 rfl xm_none ?_
      · rw [if_neg (Int32.not_le.mpr hk)] at h9; exact h9
      · refine xm_aload_n hX 0 dL_cell_6 rfl rfl ?_
        refine xm_iload_n hX 1 dL_cell_7 rfl rfl ?_
        refine xm_sld hX hs (xl_vpin hL h0 hk) dL_cell_8 ?_
        refine xm_goto hX (tgt := 20) dL_cell_9 rfl ?_
        exact xm_iret hX dL_cell_20
    · rw [if_neg hk]
      have h9 := xm_icmp_ge (p := p) (l := l) (e := e) (R := { frames := 0, cells := 0, slots := 0, locals := 0 }) (below := below) (Fn := xm_Z below [Value.ref b, .int k].toArray s D L g (xm_A L g s.heap.size) (xm_Fi g)) (lv := [(0, .ref b), (1, .int k)]) (rest := []) (M := M) (x := k) (y := Int32.ofNat Ls) (X := some ((73244475 : Int32) * (k + 1597), M)) (Y := none) hX (tgt := 12) dL_cell_3 rfl ?_ xm_none
      · rw [if_pos (Int32.not_lt.mp hk)] at h9; exact h9
      · refine xm_ldc hX (v := 73244475) (List.mem_cons_of_mem _ gm_188) dL_cell_12 ?_
        refine xm_iload_n hX 1 dL_cell_14 rfl rfl ?_
        refine xm_sipush hX (v := 1597) rfl dL_cell_15 ?_
        refine xm_iadd hX dL_cell_18 ?_
        refine xm_imul hX dL_cell_19 ?_
        exact xm_iret hX dL_cell_20
  rw [lg_entry_eq]
  exact h r hr _ _ _ (lv_entry [Value.ref b, .int k] (Nat.le_of_ble_eq_true rfl)) hP va_S.rf
theorem xm_runCell {nC nS : Nat} {p : Program} {l : Launch} {e : Env} {s : State} {m : MethodId} {below : List Frame} {meth : Method} {c : Code} {b Ls : Nat} {xs : Nat → Int32} {D : va_G} {g : xm_G} {pc : Nat} {lv : List (Nat × Value)} {rest st0 : List Value} {M : xm_M} (hX : xm_X p m meth c code 7 s #[Value.ref b] lw_tbl RL ret D cL g (fun q : Nat => s.heap.size ≤ q)) (hs : xm_Sc b Ls xs s (fun q : Nat => s.heap.size ≤ q)) {k : Int32} (hst : st0 = .int k :: .ref b :: rest) (hF : nC ≤ room_1.cells ∧ nS ≤ room_1.slots) (hq : (List.map (fun v : Value => v.category) rest).sum.ble 8 = true) (hdg : decode code pc = .ok (.invokestatic 12, 3)) :
    ∀ r1, fL_cell xs Ls k M = some r1 → ∀ (ls : Array Slot) (H : Heap) (locs : List Loc), lv_has ls 7 lv → va_P D vwCl (xm_w cL g M) H → va_S (fun q : Nat => s.heap.size ≤ q) s.heap H locs → va_Run p l e room_1 s m #[Value.ref b] below meth c H locs nC nS 0 0 (F0 m pc ls st0) rest (xm_Q D cL g (xm_A cL g H.size) (xm_Fi g r1) [Value.ref b, .int k].toArray) (xm_A cL g H.size) := fun r1 h1 ls H locs hl hP hS => by
  have hnb : ¬ xm_A cL g H.size b := fun h => hs.2.2.1 (xm_sub hX hS b h)
  have hbH : b < H.size := Nat.lt_of_lt_of_le hs.2.1 hS.1
  refine va_runS (As := [Value.ref b, .int k]) hX.1 (kL_cell (L := cL) b Ls xs k M D g H.size r1 h1) (va_cwS 2 hX.1.2.2.2.2 (xl_gS gm_185 gm_186 gm_0 gm_187) rfl rfl rfl hdL_cell ⟨Nat.le_of_ble_eq_true rfl, Nat.le_of_ble_eq_true rfl⟩) ⟨?_, ?_⟩ rfl rfl hl.1 hst (lv_room (Nat.le_of_ble_eq_true hq)) hdg hF
  · exact fun a U fr mk q => ⟨q.1, (xm_blind (As := [Value.ref b, .int k]) a U fr mk ⟨q.1, q.2.1⟩).2, (va_X.moved (u := U) (U := U.calling fr mk a) (Vm.Alike.refl U.vm) q.2.2.1), q.2.2.2⟩
  · exact fun U hU hW => ⟨rfl, (xm_preU hX hP hS (As := [Value.ref b, .int k]) U hU hW).2, by rw [hU]; exact (hs.1.moved hW.alike).kept (hS.2.1 b hs.2.1 hs.2.2.1), hbH, hnb, hs.2.2.2⟩
