-- ===== OdometryDeskLaw.told(LOdometryDesk;I)Z ['0']
theorem dL_told_0 : decode cL_told 0 = .ok (.iload_n 1, 1) := by decide +kernel
theorem dL_told_1 : decode cL_told 1 = .ok (.bipush 10, 2) := by decide +kernel
theorem dL_told_3 : decode cL_told 3 = .ok (.invokestatic 22, 3) := by decide +kernel
theorem dL_told_6 : decode cL_told 6 = .ok (.istore_n 2, 1) := by decide +kernel
theorem dL_told_7 : decode cL_told 7 = .ok (.iload_n 1, 1) := by decide +kernel
theorem dL_told_8 : decode cL_told 8 = .ok (.iconst 4, 1) := by decide +kernel
theorem dL_told_9 : decode cL_told 9 = .ok (.ishr, 1) := by decide +kernel
theorem dL_told_10 : decode cL_told 10 = .ok (.bipush 10, 2) := by decide +kernel
theorem dL_told_12 : decode cL_told 12 = .ok (.invokestatic 22, 3) := by decide +kernel
theorem dL_told_15 : decode cL_told 15 = .ok (.istore_n 3, 1) := by decide +kernel
theorem dL_told_16 : decode cL_told 16 = .ok (.iload_n 1, 1) := by decide +kernel
theorem dL_told_17 : decode cL_told 17 = .ok (.bipush 8, 2) := by decide +kernel
theorem dL_told_19 : decode cL_told 19 = .ok (.ishr, 1) := by decide +kernel
theorem dL_told_20 : decode cL_told 20 = .ok (.bipush 10, 2) := by decide +kernel
theorem dL_told_22 : decode cL_told 22 = .ok (.invokestatic 22, 3) := by decide +kernel
theorem dL_told_25 : decode cL_told 25 = .ok (.istore 4, 2) := by decide +kernel
theorem dL_told_27 : decode cL_told 27 = .ok (.iload_n 1, 1) := by decide +kernel
theorem dL_told_28 : decode cL_told 28 = .ok (.bipush 12, 2) := by decide +kernel
theorem dL_told_30 : decode cL_told 30 = .ok (.ishr, 1) := by decide +kernel
theorem dL_told_31 : decode cL_told 31 = .ok (.bipush 6, 2) := by decide +kernel
theorem dL_told_33 : decode cL_told 33 = .ok (.invokestatic 22, 3) := by decide +kernel
theorem dL_told_36 : decode cL_told 36 = .ok (.istore 5, 2) := by decide +kernel
theorem dL_told_38 : decode cL_told 38 = .ok (.aload_n 0, 1) := by decide +kernel
theorem dL_told_39 : decode cL_told 39 = .ok (.iconst 0, 1) := by decide +kernel
theorem dL_told_40 : decode cL_told 40 = .ok (.invokevirtual 136, 3) := by decide +kernel
theorem dL_told_43 : decode cL_told 43 = .ok (.istore 6, 2) := by decide +kernel
theorem dL_told_45 : decode cL_told 45 = .ok (.aload_n 0, 1) := by decide +kernel
theorem dL_told_46 : decode cL_told 46 = .ok (.invokevirtual 139, 3) := by decide +kernel
theorem dL_told_49 : decode cL_told 49 = .ok (.pop, 1) := by decide +kernel
theorem dL_told_50 : decode cL_told 50 = .ok (.aload_n 0, 1) := by decide +kernel
theorem dL_told_51 : decode cL_told 51 = .ok (.ldc2_w 142, 3) := by decide +kernel
theorem dL_told_54 : decode cL_told 54 = .ok (.bipush 48, 2) := by decide +kernel
theorem dL_told_56 : decode cL_told 56 = .ok (.iload_n 2, 1) := by decide +kernel
theorem dL_told_57 : decode cL_told 57 = .ok (.iadd, 1) := by decide +kernel
theorem dL_told_58 : decode cL_told 58 = .ok (.i2l, 1) := by decide +kernel
theorem dL_told_59 : decode cL_told 59 = .ok (.bipush 40, 2) := by decide +kernel
theorem dL_told_61 : decode cL_told 61 = .ok (.lshl, 1) := by decide +kernel
theorem dL_told_62 : decode cL_told 62 = .ok (.lor, 1) := by decide +kernel
theorem dL_told_63 : decode cL_told 63 = .ok (.ldc2_w 144, 3) := by decide +kernel
theorem dL_told_66 : decode cL_told 66 = .ok (.lor, 1) := by decide +kernel
theorem dL_told_67 : decode cL_told 67 = .ok (.ldc2_w 146, 3) := by decide +kernel
theorem dL_told_70 : decode cL_told 70 = .ok (.lor, 1) := by decide +kernel
theorem dL_told_71 : decode cL_told 71 = .ok (.bipush 48, 2) := by decide +kernel
theorem dL_told_73 : decode cL_told 73 = .ok (.iload_n 3, 1) := by decide +kernel
theorem dL_told_74 : decode cL_told 74 = .ok (.iadd, 1) := by decide +kernel
theorem dL_told_75 : decode cL_told 75 = .ok (.i2l, 1) := by decide +kernel
theorem dL_told_76 : decode cL_told 76 = .ok (.bipush 16, 2) := by decide +kernel
theorem dL_told_78 : decode cL_told 78 = .ok (.lshl, 1) := by decide +kernel
theorem dL_told_79 : decode cL_told 79 = .ok (.lor, 1) := by decide +kernel
theorem dL_told_80 : decode cL_told 80 = .ok (.ldc2_w 148, 3) := by decide +kernel
theorem dL_told_83 : decode cL_told 83 = .ok (.lor, 1) := by decide +kernel
theorem dL_told_84 : decode cL_told 84 = .ok (.ldc2_w 150, 3) := by decide +kernel
theorem dL_told_87 : decode cL_told 87 = .ok (.lor, 1) := by decide +kernel
theorem dL_told_88 : decode cL_told 88 = .ok (.invokevirtual 152, 3) := by decide +kernel
theorem dL_told_91 : decode cL_told 91 = .ok (.pop, 1) := by decide +kernel
theorem dL_told_92 : decode cL_told 92 = .ok (.aload_n 0, 1) := by decide +kernel
theorem dL_told_93 : decode cL_told 93 = .ok (.invokevirtual 155, 3) := by decide +kernel
theorem dL_told_96 : decode cL_told 96 = .ok (.bipush 7, 2) := by decide +kernel
theorem dL_told_98 : decode cL_told 98 = .ok (.if_icmp .ne 12, 3) := by decide +kernel
theorem dL_told_101 : decode cL_told 101 = .ok (.aload_n 0, 1) := by decide +kernel
theorem dL_told_102 : decode cL_told 102 = .ok (.invokevirtual 158, 3) := by decide +kernel
theorem dL_told_105 : decode cL_told 105 = .ok (.bipush (-3), 2) := by decide +kernel
theorem dL_told_107 : decode cL_told 107 = .ok (.if_icmp .eq 5, 3) := by decide +kernel
theorem dL_told_110 : decode cL_told 110 = .ok (.iconst 0, 1) := by decide +kernel
theorem dL_told_111 : decode cL_told 111 = .ok (.ireturn, 1) := by decide +kernel
theorem dL_told_112 : decode cL_told 112 = .ok (.aload_n 0, 1) := by decide +kernel
theorem dL_told_113 : decode cL_told 113 = .ok (.ldc2_w 161, 3) := by decide +kernel
theorem dL_told_116 : decode cL_told 116 = .ok (.bipush 48, 2) := by decide +kernel
theorem dL_told_118 : decode cL_told 118 = .ok (.iload 4, 2) := by decide +kernel
theorem dL_told_120 : decode cL_told 120 = .ok (.iadd, 1) := by decide +kernel
theorem dL_told_121 : decode cL_told 121 = .ok (.i2l, 1) := by decide +kernel
theorem dL_told_122 : decode cL_told 122 = .ok (.bipush 24, 2) := by decide +kernel
theorem dL_told_124 : decode cL_told 124 = .ok (.lshl, 1) := by decide +kernel
theorem dL_told_125 : decode cL_told 125 = .ok (.lor, 1) := by decide +kernel
theorem dL_told_126 : decode cL_told 126 = .ok (.ldc2_w 163, 3) := by decide +kernel
theorem dL_told_129 : decode cL_told 129 = .ok (.lor, 1) := by decide +kernel
theorem dL_told_130 : decode cL_told 130 = .ok (.ldc2_w 165, 3) := by decide +kernel
theorem dL_told_133 : decode cL_told 133 = .ok (.lor, 1) := by decide +kernel
theorem dL_told_134 : decode cL_told 134 = .ok (.bipush 48, 2) := by decide +kernel
theorem dL_told_136 : decode cL_told 136 = .ok (.iload 5, 2) := by decide +kernel
theorem dL_told_138 : decode cL_told 138 = .ok (.iadd, 1) := by decide +kernel
theorem dL_told_139 : decode cL_told 139 = .ok (.i2l, 1) := by decide +kernel
theorem dL_told_140 : decode cL_told 140 = .ok (.lor, 1) := by decide +kernel
theorem dL_told_141 : decode cL_told 141 = .ok (.invokevirtual 152, 3) := by decide +kernel
theorem dL_told_144 : decode cL_told 144 = .ok (.pop, 1) := by decide +kernel
theorem dL_told_145 : decode cL_told 145 = .ok (.aload_n 0, 1) := by decide +kernel
theorem dL_told_146 : decode cL_told 146 = .ok (.invokevirtual 155, 3) := by decide +kernel
theorem dL_told_149 : decode cL_told 149 = .ok (.bipush (-6), 2) := by decide +kernel
theorem dL_told_151 : decode cL_told 151 = .ok (.if_icmp .eq 5, 3) := by decide +kernel
theorem dL_told_154 : decode cL_told 154 = .ok (.iconst 0, 1) := by decide +kernel
theorem dL_told_155 : decode cL_told 155 = .ok (.ireturn, 1) := by decide +kernel
theorem dL_told_156 : decode cL_told 156 = .ok (.aload_n 0, 1) := by decide +kernel
theorem dL_told_157 : decode cL_told 157 = .ok (.invokevirtual 158, 3) := by decide +kernel
theorem dL_told_160 : decode cL_told 160 = .ok (.istore 7, 2) := by decide +kernel
theorem dL_told_162 : decode cL_told 162 = .ok (.iload 7, 2) := by decide +kernel
theorem dL_told_164 : decode cL_told 164 = .ok (.iload 5, 2) := by decide +kernel
theorem dL_told_166 : decode cL_told 166 = .ok (.aload_n 0, 1) := by decide +kernel
theorem dL_told_167 : decode cL_told 167 = .ok (.bipush 10, 2) := by decide +kernel
theorem dL_told_169 : decode cL_told 169 = .ok (.invokevirtual 65, 3) := by decide +kernel
theorem dL_told_172 : decode cL_told 172 = .ok (.if_icmp .ge 7, 3) := by decide +kernel
theorem dL_told_175 : decode cL_told 175 = .ok (.iconst 2, 1) := by decide +kernel
theorem dL_told_176 : decode cL_told 176 = .ok (.goto 4, 3) := by decide +kernel
theorem dL_told_179 : decode cL_told 179 = .ok (.iconst 1, 1) := by decide +kernel
theorem dL_told_180 : decode cL_told 180 = .ok (.if_icmp .ne 25, 3) := by decide +kernel
theorem dL_told_183 : decode cL_told 183 = .ok (.aload_n 0, 1) := by decide +kernel
theorem dL_told_184 : decode cL_told 184 = .ok (.iconst 0, 1) := by decide +kernel
theorem dL_told_185 : decode cL_told 185 = .ok (.invokevirtual 65, 3) := by decide +kernel
theorem dL_told_188 : decode cL_told 188 = .ok (.iload 6, 2) := by decide +kernel
theorem dL_told_190 : decode cL_told 190 = .ok (.iload 7, 2) := by decide +kernel
theorem dL_told_192 : decode cL_told 192 = .ok (.iadd, 1) := by decide +kernel
theorem dL_told_193 : decode cL_told 193 = .ok (.if_icmp .ne 12, 3) := by decide +kernel
theorem dL_told_196 : decode cL_told 196 = .ok (.aload_n 0, 1) := by decide +kernel
theorem dL_told_197 : decode cL_told 197 = .ok (.bipush 11, 2) := by decide +kernel
theorem dL_told_199 : decode cL_told 199 = .ok (.invokevirtual 65, 3) := by decide +kernel
theorem dL_told_202 : decode cL_told 202 = .ok (.ifCond .eq 5, 3) := by decide +kernel
theorem dL_told_205 : decode cL_told 205 = .ok (.iconst 0, 1) := by decide +kernel
theorem dL_told_206 : decode cL_told 206 = .ok (.ireturn, 1) := by decide +kernel
theorem dL_told_207 : decode cL_told 207 = .ok (.aload_n 0, 1) := by decide +kernel
theorem dL_told_208 : decode cL_told 208 = .ok (.iload 6, 2) := by decide +kernel
theorem dL_told_210 : decode cL_told 210 = .ok (.iconst 0, 1) := by decide +kernel
theorem dL_told_211 : decode cL_told 211 = .ok (.invokevirtual 69, 3) := by decide +kernel
theorem dL_told_214 : decode cL_told 214 = .ok (.istore 8, 2) := by decide +kernel
theorem dL_told_216 : decode cL_told 216 = .ok (.aload_n 0, 1) := by decide +kernel
theorem dL_told_217 : decode cL_told 217 = .ok (.iload 6, 2) := by decide +kernel
theorem dL_told_219 : decode cL_told 219 = .ok (.iconst 2, 1) := by decide +kernel
theorem dL_told_220 : decode cL_told 220 = .ok (.invokevirtual 69, 3) := by decide +kernel
theorem dL_told_223 : decode cL_told 223 = .ok (.istore 9, 2) := by decide +kernel
theorem dL_told_225 : decode cL_told 225 = .ok (.aload_n 0, 1) := by decide +kernel
theorem dL_told_226 : decode cL_told 226 = .ok (.iload 6, 2) := by decide +kernel
theorem dL_told_228 : decode cL_told 228 = .ok (.iconst 1, 1) := by decide +kernel
theorem dL_told_229 : decode cL_told 229 = .ok (.invokevirtual 75, 3) := by decide +kernel
theorem dL_told_232 : decode cL_told 232 = .ok (.iload_n 2, 1) := by decide +kernel
theorem dL_told_233 : decode cL_told 233 = .ok (.ineg, 1) := by decide +kernel
theorem dL_told_234 : decode cL_told 234 = .ok (.if_icmp .ne 56, 3) := by decide +kernel
theorem dL_told_237 : decode cL_told 237 = .ok (.aload_n 0, 1) := by decide +kernel
theorem dL_told_238 : decode cL_told 238 = .ok (.iload 6, 2) := by decide +kernel
theorem dL_told_240 : decode cL_told 240 = .ok (.iconst 2, 1) := by decide +kernel
theorem dL_told_241 : decode cL_told 241 = .ok (.invokevirtual 75, 3) := by decide +kernel
theorem dL_told_244 : decode cL_told 244 = .ok (.bipush 10, 2) := by decide +kernel
theorem dL_told_246 : decode cL_told 246 = .ok (.iload_n 3, 1) := by decide +kernel
theorem dL_told_247 : decode cL_told 247 = .ok (.iadd, 1) := by decide +kernel
theorem dL_told_248 : decode cL_told 248 = .ok (.if_icmp .ne 42, 3) := by decide +kernel
theorem dL_told_251 : decode cL_told 251 = .ok (.aload_n 0, 1) := by decide +kernel
theorem dL_told_252 : decode cL_told 252 = .ok (.iload 6, 2) := by decide +kernel
theorem dL_told_254 : decode cL_told 254 = .ok (.iconst 3, 1) := by decide +kernel
theorem dL_told_255 : decode cL_told 255 = .ok (.invokevirtual 75, 3) := by decide +kernel
theorem dL_told_258 : decode cL_told 258 = .ok (.bipush (-90), 2) := by decide +kernel
theorem dL_told_260 : decode cL_told 260 = .ok (.iload 4, 2) := by decide +kernel
theorem dL_told_262 : decode cL_told 262 = .ok (.isub, 1) := by decide +kernel
theorem dL_told_263 : decode cL_told 263 = .ok (.if_icmp .ne 27, 3) := by decide +kernel
theorem dL_told_266 : decode cL_told 266 = .ok (.iload 7, 2) := by decide +kernel
theorem dL_told_268 : decode cL_told 268 = .ok (.iconst 1, 1) := by decide +kernel
theorem dL_told_269 : decode cL_told 269 = .ok (.if_icmp .eq 17, 3) := by decide +kernel
theorem dL_told_272 : decode cL_told 272 = .ok (.aload_n 0, 1) := by decide +kernel
theorem dL_told_273 : decode cL_told 273 = .ok (.iload 6, 2) := by decide +kernel
theorem dL_told_275 : decode cL_told 275 = .ok (.iconst 1, 1) := by decide +kernel
theorem dL_told_276 : decode cL_told 276 = .ok (.iadd, 1) := by decide +kernel
theorem dL_told_277 : decode cL_told 277 = .ok (.iconst 1, 1) := by decide +kernel
theorem dL_told_278 : decode cL_told 278 = .ok (.invokevirtual 75, 3) := by decide +kernel
theorem dL_told_281 : decode cL_told 281 = .ok (.iload 5, 2) := by decide +kernel
theorem dL_told_283 : decode cL_told 283 = .ok (.if_icmp .ne 7, 3) := by decide +kernel
theorem dL_told_286 : decode cL_told 286 = .ok (.iconst 1, 1) := by decide +kernel
theorem dL_told_287 : decode cL_told 287 = .ok (.goto 4, 3) := by decide +kernel
theorem dL_told_290 : decode cL_told 290 = .ok (.iconst 0, 1) := by decide +kernel
theorem dL_told_291 : decode cL_told 291 = .ok (.istore 10, 2) := by decide +kernel
theorem dL_told_293 : decode cL_told 293 = .ok (.iload 10, 2) := by decide +kernel
theorem dL_told_295 : decode cL_told 295 = .ok (.ifCond .eq 73, 3) := by decide +kernel
theorem dL_told_298 : decode cL_told 298 = .ok (.aload_n 0, 1) := by decide +kernel
theorem dL_told_299 : decode cL_told 299 = .ok (.iconst 0, 1) := by decide +kernel
theorem dL_told_300 : decode cL_told 300 = .ok (.invokevirtual 167, 3) := by decide +kernel
theorem dL_told_303 : decode cL_told 303 = .ok (.iload 6, 2) := by decide +kernel
theorem dL_told_305 : decode cL_told 305 = .ok (.if_icmp .ne 63, 3) := by decide +kernel
theorem dL_told_308 : decode cL_told 308 = .ok (.aload_n 0, 1) := by decide +kernel
theorem dL_told_309 : decode cL_told 309 = .ok (.iload_n 2, 1) := by decide +kernel
theorem dL_told_310 : decode cL_told 310 = .ok (.ineg, 1) := by decide +kernel
theorem dL_told_311 : decode cL_told 311 = .ok (.bipush 10, 2) := by decide +kernel
theorem dL_told_313 : decode cL_told 313 = .ok (.iload_n 3, 1) := by decide +kernel
theorem dL_told_314 : decode cL_told 314 = .ok (.iadd, 1) := by decide +kernel
theorem dL_told_315 : decode cL_told 315 = .ok (.bipush (-90), 2) := by decide +kernel
theorem dL_told_317 : decode cL_told 317 = .ok (.iload 4, 2) := by decide +kernel
theorem dL_told_319 : decode cL_told 319 = .ok (.isub, 1) := by decide +kernel
theorem dL_told_320 : decode cL_told 320 = .ok (.invokevirtual 78, 3) := by decide +kernel
theorem dL_told_323 : decode cL_told 323 = .ok (.iload 6, 2) := by decide +kernel
theorem dL_told_325 : decode cL_told 325 = .ok (.iconst 1, 1) := by decide +kernel
theorem dL_told_326 : decode cL_told 326 = .ok (.iadd, 1) := by decide +kernel
theorem dL_told_327 : decode cL_told 327 = .ok (.if_icmp .ne 41, 3) := by decide +kernel
theorem dL_told_330 : decode cL_told 330 = .ok (.aload_n 0, 1) := by decide +kernel
theorem dL_told_331 : decode cL_told 331 = .ok (.iload 6, 2) := by decide +kernel
theorem dL_told_333 : decode cL_told 333 = .ok (.iconst 0, 1) := by decide +kernel
theorem dL_told_334 : decode cL_told 334 = .ok (.invokevirtual 69, 3) := by decide +kernel
theorem dL_told_337 : decode cL_told 337 = .ok (.iload 8, 2) := by decide +kernel
theorem dL_told_339 : decode cL_told 339 = .ok (.if_icmp .ne 29, 3) := by decide +kernel
theorem dL_told_342 : decode cL_told 342 = .ok (.aload_n 0, 1) := by decide +kernel
theorem dL_told_343 : decode cL_told 343 = .ok (.iload 6, 2) := by decide +kernel
theorem dL_told_345 : decode cL_told 345 = .ok (.iconst 2, 1) := by decide +kernel
theorem dL_told_346 : decode cL_told 346 = .ok (.invokevirtual 69, 3) := by decide +kernel
theorem dL_told_349 : decode cL_told 349 = .ok (.iload 9, 2) := by decide +kernel
theorem dL_told_351 : decode cL_told 351 = .ok (.if_icmp .ne 17, 3) := by decide +kernel
theorem dL_told_354 : decode cL_told 354 = .ok (.aload_n 0, 1) := by decide +kernel
theorem dL_told_355 : decode cL_told 355 = .ok (.iconst 1, 1) := by decide +kernel
theorem dL_told_356 : decode cL_told 356 = .ok (.invokevirtual 81, 3) := by decide +kernel
theorem dL_told_359 : decode cL_told 359 = .ok (.iload 6, 2) := by decide +kernel
theorem dL_told_361 : decode cL_told 361 = .ok (.if_icmp .ne 7, 3) := by decide +kernel
theorem dL_told_364 : decode cL_told 364 = .ok (.iconst 1, 1) := by decide +kernel
theorem dL_told_365 : decode cL_told 365 = .ok (.goto 4, 3) := by decide +kernel
theorem dL_told_368 : decode cL_told 368 = .ok (.iconst 0, 1) := by decide +kernel
theorem dL_told_369 : decode cL_told 369 = .ok (.ireturn, 1) := by decide +kernel
abbrev wL_told : List Cond := .code yL_told cL_told 11 (some .boolean) :: lw_gd
theorem hdL_told : (yL_told.cls ≠ "java/lang/invoke/MethodHandle" ∧ yL_told.cls ≠ "java/lang/invoke/VarHandle" ∧ (parseMethodDescriptor yL_told.desc).map (fun d => d.parameters.length) = some 2) := by decide +kernel
def fL_told_291   (b2 : Int32) (b3 : Int32) (b4 : Int32) (b6 : Int32) (b8 : Int32) (b9 : Int32) (s0 : Int32) (M : xm_M) : Option (Int32 × xm_M) :=
  if s0 = 0 then some ((0 : Int32), M) else xm_bi (fX3_restore (0 : Int32) M) (fun x38 M37 => if x38 = b6 then xm_bi (fX3_step (-b2) ((10 : Int32) + b3) ((-90 : Int32) - b4) M37) (fun x40 M39 => if x40 = (b6 + (1 : Int32)) then xm_bi (fX3_pose b6 (0 : Int32) M39) (fun x42 M41 => if x42 = b8 then xm_bi (fX3_pose b6 (2 : Int32) M41) (fun x44 M43 => if x44 = b9 then xm_bi (fX3_cut (1 : Int32) M43) (fun x46 M45 => if x46 = b6 then some ((1 : Int32), M45) else some ((0 : Int32), M45)) else some ((0 : Int32), M43)) else some ((0 : Int32), M41)) else some ((0 : Int32), M39)) else some ((0 : Int32), M37))
set_option maxRecDepth 20000 in
theorem tfL_told_291 {p : Program} {l : Launch} {e : Env} {s : State} {m : MethodId} {args : Array Value} {below : List Frame} {meth : Method} {c : Code} {D : va_G} {g : xm_G} {A : Nat → Prop}  {L : List xm_Sh} (hL : xm_pre L) (hX : xm_X p m meth c cL_told 11 s args wL_told RL (some .boolean) D L g A)    : ∀ (b2 : Int32), ∀ (b3 : Int32), ∀ (b4 : Int32), ∀ (b6 : Int32), ∀ (b8 : Int32), ∀ (b9 : Int32), ∀ (s0 : Int32), ∀ (M : xm_M), xm_J p l e ({ frames := 7, cells := 0, slots := 0, locals := 152 }) s m args below meth c 11 D L g A (xm_Z below args s D L g A (xm_Fi g)) 291 [(0, .ref (g.1 0)), (2, .int b2), (3, .int b3), (4, .int b4), (6, .int b6), (8, .int b8), (9, .int b9)] [.int s0] M (fL_told_291 b2 b3 b4 b6 b8 b9 s0 M) := by
  intro b2 b3 b4 b6 b8 b9 s0 M
  unfold fL_told_291
  refine xm_istore hX (lv' := [(10, .int s0), (0, .ref (g.1 0)), (2, .int b2), (3, .int b3), (4, .int b4), (6, .int b6), (8, .int b8), (9, .int b9)]) dL_told_291 (by decide) rfl ?_
  refine xm_iload hX 0 dL_told_293 rfl ?_
  refine xm_if_eq hX (tgt := 368) dL_told_295 rfl ?_ ?_
  · refine xm_iconst hX (v := 0) rfl dL_told_368 ?_
    exact xm_zretL hX (by decide) dL_told_369
  · refine xm_aload_n hX 1 dL_told_298 rfl rfl ?_
    refine xm_iconst hX (v := 0) rfl dL_told_299 ?_
    refine xm_calli hX (xm_runV hX (k := 0) (ci := 3) (As := (fun g => [.int (0 : Int32)])) (kX3_restore hL (0 : Int32) M) (hL _ _ cL_0) rfl (xm_gV gm_480 gm_481 gm_482 gm_1 gm_483) rfl ⟨rfl, rfl⟩ ⟨rfl, hdX3_restore⟩ ⟨Nat.le_of_ble_eq_true rfl, Nat.le_of_ble_eq_true rfl⟩ rfl (Nat.le_of_ble_eq_true rfl) rfl ⟨Nat.le_of_ble_eq_true rfl, Nat.le_of_ble_eq_true rfl⟩ dL_told_300) (fun x38 M37 => ?_)
    refine xm_iload hX 5 dL_told_303 rfl ?_
    refine xm_icmp_ne hX (tgt := 368) dL_told_305 rfl ?_ ?_
    · refine xm_iconst hX (v := 0) rfl dL_told_368 ?_
      exact xm_zretL hX (by decide) dL_told_369
    · refine xm_aload_n hX 1 dL_told_308 rfl rfl ?_
      refine xm_iload_n hX 2 dL_told_309 rfl rfl ?_
      refine xm_ineg hX dL_told_310 ?_
      refine xm_bipush hX (v := 10) rfl dL_told_311 ?_
      refine xm_iload_n hX 3 dL_told_313 rfl rfl ?_
      refine xm_iadd hX dL_told_314 ?_
      refine xm_bipush hX (v := -90) rfl dL_told_315 ?_
      refine xm_iload hX 4 dL_told_317 rfl ?_
      refine xm_isub hX dL_told_319 ?_
      refine xm_calli hX (xm_runV hX (k := 0) (ci := 3) (As := (fun g => [.int (-b2), .int ((10 : Int32) + b3), .int ((-90 : Int32) - b4)])) (kX3_step hL (-b2) ((10 : Int32) + b3) ((-90 : Int32) - b4) M37) (hL _ _ cL_0) rfl (xm_gV gm_317 gm_318 gm_319 gm_1 gm_320) rfl ⟨rfl, rfl⟩ ⟨rfl, hdX3_step⟩ ⟨Nat.le_of_ble_eq_true rfl, Nat.le_of_ble_eq_true rfl⟩ rfl (Nat.le_of_ble_eq_true rfl) rfl ⟨Nat.le_of_ble_eq_true rfl, Nat.le_of_ble_eq_true rfl⟩ dL_told_320) (fun x40 M39 => ?_)
      refine xm_iload hX 5 dL_told_323 rfl ?_
      refine xm_iconst hX (v := 1) rfl dL_told_325 ?_
      refine xm_iadd hX dL_told_326 ?_
      refine xm_icmp_ne hX (tgt := 368) dL_told_327 rfl ?_ ?_
      · refine xm_iconst hX (v := 0) rfl dL_told_368 ?_
        exact xm_zretL hX (by decide) dL_told_369
      · refine xm_aload_n hX 1 dL_told_330 rfl rfl ?_
        refine xm_iload hX 5 dL_told_331 rfl ?_
        refine xm_iconst hX (v := 0) rfl dL_told_333 ?_
        refine xm_calli hX (xm_runV hX (k := 0) (ci := 3) (As := (fun g => [.int b6, .int (0 : Int32)])) (kX3_pose hL b6 (0 : Int32) M39) (hL _ _ cL_0) rfl (xm_gV gm_283 gm_284 gm_285 gm_1 gm_286) rfl ⟨rfl, rfl⟩ ⟨rfl, hdX3_pose⟩ ⟨Nat.le_of_ble_eq_true rfl, Nat.le_of_ble_eq_true rfl⟩ rfl (Nat.le_of_ble_eq_true rfl) rfl ⟨Nat.le_of_ble_eq_true rfl, Nat.le_of_ble_eq_true rfl⟩ dL_told_334) (fun x42 M41 => ?_)
        refine xm_iload hX 6 dL_told_337 rfl ?_
        refine xm_icmp_ne hX (tgt := 368) dL_told_339 rfl ?_ ?_
        · refine xm_iconst hX (v := 0) rfl dL_told_368 ?_
          exact xm_zretL hX (by decide) dL_told_369
        · refine xm_aload_n hX 1 dL_told_342 rfl rfl ?_
          refine xm_iload hX 5 dL_told_343 rfl ?_
          refine xm_iconst hX (v := 2) rfl dL_told_345 ?_
          refine xm_calli hX (xm_runV hX (k := 0) (ci := 3) (As := (fun g => [.int b6, .int (2 : Int32)])) (kX3_pose hL b6 (2 : Int32) M41) (hL _ _ cL_0) rfl (xm_gV gm_283 gm_284 gm_285 gm_1 gm_286) rfl ⟨rfl, rfl⟩ ⟨rfl, hdX3_pose⟩ ⟨Nat.le_of_ble_eq_true rfl, Nat.le_of_ble_eq_true rfl⟩ rfl (Nat.le_of_ble_eq_true rfl) rfl ⟨Nat.le_of_ble_eq_true rfl, Nat.le_of_ble_eq_true rfl⟩ dL_told_346) (fun x44 M43 => ?_)
          refine xm_iload hX 7 dL_told_349 rfl ?_
          refine xm_icmp_ne hX (tgt := 368) dL_told_351 rfl ?_ ?_
          · refine xm_iconst hX (v := 0) rfl dL_told_368 ?_
            exact xm_zretL hX (by decide) dL_told_369
          · refine xm_aload_n hX 1 dL_told_354 rfl rfl ?_
            refine xm_iconst hX (v := 1) rfl dL_told_355 ?_
            refine xm_calli hX (xm_runV hX (k := 0) (ci := 3) (As := (fun g => [.int (1 : Int32)])) (kX3_cut hL (1 : Int32) M43) (hL _ _ cL_0) rfl (xm_gV gm_327 gm_328 gm_329 gm_1 gm_330) rfl ⟨rfl, rfl⟩ ⟨rfl, hdX3_cut⟩ ⟨Nat.le_of_ble_eq_true rfl, Nat.le_of_ble_eq_true rfl⟩ rfl (Nat.le_of_ble_eq_true rfl) rfl ⟨Nat.le_of_ble_eq_true rfl, Nat.le_of_ble_eq_true rfl⟩ dL_told_356) (fun x46 M45 => ?_)
            refine xm_iload hX 5 dL_told_359 rfl ?_
            refine xm_icmp_ne hX (tgt := 368) dL_told_361 rfl ?_ ?_
            · refine xm_iconst hX (v := 0) rfl dL_told_368 ?_
              exact xm_zretL hX (by decide) dL_told_369
            · refine xm_iconst hX (v := 1) rfl dL_told_364 ?_
              refine xm_goto hX (tgt := 369) dL_told_365 rfl ?_
              exact xm_zretL hX (by decide) dL_told_369
def fL_told_290   (b2 : Int32) (b3 : Int32) (b4 : Int32) (b6 : Int32) (b8 : Int32) (b9 : Int32) (M : xm_M) : Option (Int32 × xm_M) :=
  fL_told_291 b2 b3 b4 b6 b8 b9 (0 : Int32) M
set_option maxRecDepth 20000 in
theorem tfL_told_290 {p : Program} {l : Launch} {e : Env} {s : State} {m : MethodId} {args : Array Value} {below : List Frame} {meth : Method} {c : Code} {D : va_G} {g : xm_G} {A : Nat → Prop}  {L : List xm_Sh} (hL : xm_pre L) (hX : xm_X p m meth c cL_told 11 s args wL_told RL (some .boolean) D L g A)    : ∀ (b2 : Int32), ∀ (b3 : Int32), ∀ (b4 : Int32), ∀ (b6 : Int32), ∀ (b8 : Int32), ∀ (b9 : Int32), ∀ (M : xm_M), xm_J p l e ({ frames := 7, cells := 0, slots := 0, locals := 152 }) s m args below meth c 11 D L g A (xm_Z below args s D L g A (xm_Fi g)) 290 [(0, .ref (g.1 0)), (2, .int b2), (3, .int b3), (4, .int b4), (6, .int b6), (8, .int b8), (9, .int b9)] [] M (fL_told_290 b2 b3 b4 b6 b8 b9 M) := by
  intro b2 b3 b4 b6 b8 b9 M
  unfold fL_told_290
  refine xm_iconst hX (v := 0) rfl dL_told_290 ?_
  exact tfL_told_291 hL hX b2 b3 b4 b6 b8 b9 (0 : Int32) M
def fL_told_286   (b2 : Int32) (b3 : Int32) (b4 : Int32) (b6 : Int32) (b8 : Int32) (b9 : Int32) (M : xm_M) : Option (Int32 × xm_M) :=
  fL_told_291 b2 b3 b4 b6 b8 b9 (1 : Int32) M
set_option maxRecDepth 20000 in
theorem tfL_told_286 {p : Program} {l : Launch} {e : Env} {s : State} {m : MethodId} {args : Array Value} {below : List Frame} {meth : Method} {c : Code} {D : va_G} {g : xm_G} {A : Nat → Prop}  {L : List xm_Sh} (hL : xm_pre L) (hX : xm_X p m meth c cL_told 11 s args wL_told RL (some .boolean) D L g A)    : ∀ (b2 : Int32), ∀ (b3 : Int32), ∀ (b4 : Int32), ∀ (b6 : Int32), ∀ (b8 : Int32), ∀ (b9 : Int32), ∀ (M : xm_M), xm_J p l e ({ frames := 7, cells := 0, slots := 0, locals := 152 }) s m args below meth c 11 D L g A (xm_Z below args s D L g A (xm_Fi g)) 286 [(0, .ref (g.1 0)), (2, .int b2), (3, .int b3), (4, .int b4), (6, .int b6), (8, .int b8), (9, .int b9)] [] M (fL_told_286 b2 b3 b4 b6 b8 b9 M) := by
  intro b2 b3 b4 b6 b8 b9 M
  unfold fL_told_286
  refine xm_iconst hX (v := 1) rfl dL_told_286 ?_
  refine xm_goto hX (tgt := 291) dL_told_287 rfl ?_
  exact tfL_told_291 hL hX b2 b3 b4 b6 b8 b9 (1 : Int32) M
def fL_told_180   (b2 : Int32) (b3 : Int32) (b4 : Int32) (b5 : Int32) (b6 : Int32) (b7 : Int32) (s0 : Int32) (s1 : Int32) (M : xm_M) : Option (Int32 × xm_M) :=
  if s1 = s0 then xm_bi (fX3_count (0 : Int32) M) (fun x28 M27 => if x28 = (b6 + b7) then xm_bi (fX3_count (11 : Int32) M27) (fun x30 M29 => if x30 = 0 then xm_bi (fX3_pose b6 (0 : Int32) M29) (fun x32 M31 => xm_bi (fX3_pose b6 (2 : Int32) M31) (fun x34 M33 => xm_bi (fX3_about b6 (1 : Int32) M33) (fun x36 M35 => if x36 = (-b2) then xm_bi (fX3_about b6 (2 : Int32) M35) (fun x48 M47 => if x48 = ((10 : Int32) + b3) then xm_bi (fX3_about b6 (3 : Int32) M47) (fun x50 M49 => if x50 = ((-90 : Int32) - b4) then if b7 = (1 : Int32) then fL_told_286 b2 b3 b4 b6 x32 x34 M49 else xm_bi (fX3_about (b6 + (1 : Int32)) (1 : Int32) M49) (fun x52 M51 => if x52 = b5 then fL_told_286 b2 b3 b4 b6 x32 x34 M51 else fL_told_290 b2 b3 b4 b6 x32 x34 M51) else fL_told_290 b2 b3 b4 b6 x32 x34 M49) else fL_told_290 b2 b3 b4 b6 x32 x34 M47) else fL_told_290 b2 b3 b4 b6 x32 x34 M35))) else some ((0 : Int32), M29)) else some ((0 : Int32), M27)) else some ((0 : Int32), M)
set_option maxRecDepth 20000 in
theorem tfL_told_180 {p : Program} {l : Launch} {e : Env} {s : State} {m : MethodId} {args : Array Value} {below : List Frame} {meth : Method} {c : Code} {D : va_G} {g : xm_G} {A : Nat → Prop}  {L : List xm_Sh} (hL : xm_pre L) (hX : xm_X p m meth c cL_told 11 s args wL_told RL (some .boolean) D L g A)    : ∀ (b2 : Int32), ∀ (b3 : Int32), ∀ (b4 : Int32), ∀ (b5 : Int32), ∀ (b6 : Int32), ∀ (b7 : Int32), ∀ (s0 : Int32), ∀ (s1 : Int32), ∀ (M : xm_M), xm_J p l e ({ frames := 7, cells := 0, slots := 0, locals := 152 }) s m args below meth c 11 D L g A (xm_Z below args s D L g A (xm_Fi g)) 180 [(0, .ref (g.1 0)), (2, .int b2), (3, .int b3), (4, .int b4), (5, .int b5), (6, .int b6), (7, .int b7)] [.int s0, .int s1] M (fL_told_180 b2 b3 b4 b5 b6 b7 s0 s1 M) := by
  intro b2 b3 b4 b5 b6 b7 s0 s1 M
  unfold fL_told_180
  refine xm_icmp_ne hX (tgt := 205) dL_told_180 rfl ?_ ?_
  · refine xm_iconst hX (v := 0) rfl dL_told_205 ?_
    exact xm_zretL hX (by decide) dL_told_206
  · refine xm_aload_n hX 0 dL_told_183 rfl rfl ?_
    refine xm_iconst hX (v := 0) rfl dL_told_184 ?_
    refine xm_calli hX (xm_runV hX (k := 0) (ci := 3) (As := (fun g => [.int (0 : Int32)])) (kX3_count hL (0 : Int32) M) (hL _ _ cL_0) rfl (xm_gV gm_196 gm_197 gm_198 gm_1 gm_199) rfl ⟨rfl, rfl⟩ ⟨rfl, hdX3_count⟩ ⟨Nat.le_of_ble_eq_true rfl, Nat.le_of_ble_eq_true rfl⟩ rfl (Nat.le_of_ble_eq_true rfl) rfl ⟨Nat.le_of_ble_eq_true rfl, Nat.le_of_ble_eq_true rfl⟩ dL_told_185) (fun x28 M27 => ?_)
    refine xm_iload hX 5 dL_told_188 rfl ?_
    refine xm_iload hX 6 dL_told_190 rfl ?_
    refine xm_iadd hX dL_told_192 ?_
    refine xm_icmp_ne hX (tgt := 205) dL_told_193 rfl ?_ ?_
    · refine xm_iconst hX (v := 0) rfl dL_told_205 ?_
      exact xm_zretL hX (by decide) dL_told_206
    · refine xm_aload_n hX 0 dL_told_196 rfl rfl ?_
      refine xm_bipush hX (v := 11) rfl dL_told_197 ?_
      refine xm_calli hX (xm_runV hX (k := 0) (ci := 3) (As := (fun g => [.int (11 : Int32)])) (kX3_count hL (11 : Int32) M27) (hL _ _ cL_0) rfl (xm_gV gm_196 gm_197 gm_198 gm_1 gm_199) rfl ⟨rfl, rfl⟩ ⟨rfl, hdX3_count⟩ ⟨Nat.le_of_ble_eq_true rfl, Nat.le_of_ble_eq_true rfl⟩ rfl (Nat.le_of_ble_eq_true rfl) rfl ⟨Nat.le_of_ble_eq_true rfl, Nat.le_of_ble_eq_true rfl⟩ dL_told_199) (fun x30 M29 => ?_)
      refine xm_if_eq hX (tgt := 207) dL_told_202 rfl ?_ ?_
      · refine xm_aload_n hX 0 dL_told_207 rfl rfl ?_
        refine xm_iload hX 5 dL_told_208 rfl ?_
        refine xm_iconst hX (v := 0) rfl dL_told_210 ?_
        refine xm_calli hX (xm_runV hX (k := 0) (ci := 3) (As := (fun g => [.int b6, .int (0 : Int32)])) (kX3_pose hL b6 (0 : Int32) M29) (hL _ _ cL_0) rfl (xm_gV gm_283 gm_284 gm_285 gm_1 gm_286) rfl ⟨rfl, rfl⟩ ⟨rfl, hdX3_pose⟩ ⟨Nat.le_of_ble_eq_true rfl, Nat.le_of_ble_eq_true rfl⟩ rfl (Nat.le_of_ble_eq_true rfl) rfl ⟨Nat.le_of_ble_eq_true rfl, Nat.le_of_ble_eq_true rfl⟩ dL_told_211) (fun x32 M31 => ?_)
        refine xm_istore hX (lv' := [(8, .int x32), (0, .ref (g.1 0)), (2, .int b2), (3, .int b3), (4, .int b4), (5, .int b5), (6, .int b6), (7, .int b7)]) dL_told_214 (by decide) rfl ?_
        refine xm_aload_n hX 1 dL_told_216 rfl rfl ?_
        refine xm_iload hX 6 dL_told_217 rfl ?_
        refine xm_iconst hX (v := 2) rfl dL_told_219 ?_
        refine xm_calli hX (xm_runV hX (k := 0) (ci := 3) (As := (fun g => [.int b6, .int (2 : Int32)])) (kX3_pose hL b6 (2 : Int32) M31) (hL _ _ cL_0) rfl (xm_gV gm_283 gm_284 gm_285 gm_1 gm_286) rfl ⟨rfl, rfl⟩ ⟨rfl, hdX3_pose⟩ ⟨Nat.le_of_ble_eq_true rfl, Nat.le_of_ble_eq_true rfl⟩ rfl (Nat.le_of_ble_eq_true rfl) rfl ⟨Nat.le_of_ble_eq_true rfl, Nat.le_of_ble_eq_true rfl⟩ dL_told_220) (fun x34 M33 => ?_)
        refine xm_istore hX (lv' := [(9, .int x34), (8, .int x32), (0, .ref (g.1 0)), (2, .int b2), (3, .int b3), (4, .int b4), (5, .int b5), (6, .int b6), (7, .int b7)]) dL_told_223 (by decide) rfl ?_
        refine xm_aload_n hX 2 dL_told_225 rfl rfl ?_
        refine xm_iload hX 7 dL_told_226 rfl ?_
        refine xm_iconst hX (v := 1) rfl dL_told_228 ?_
        refine xm_calli hX (xm_runV hX (k := 0) (ci := 3) (As := (fun g => [.int b6, .int (1 : Int32)])) (kX3_about hL b6 (1 : Int32) M33) (hL _ _ cL_0) rfl (xm_gV gm_312 gm_313 gm_314 gm_1 gm_315) rfl ⟨rfl, rfl⟩ ⟨rfl, hdX3_about⟩ ⟨Nat.le_of_ble_eq_true rfl, Nat.le_of_ble_eq_true rfl⟩ rfl (Nat.le_of_ble_eq_true rfl) rfl ⟨Nat.le_of_ble_eq_true rfl, Nat.le_of_ble_eq_true rfl⟩ dL_told_229) (fun x36 M35 => ?_)
        refine xm_iload_n hX 3 dL_told_232 rfl rfl ?_
        refine xm_ineg hX dL_told_233 ?_
        refine xm_icmp_ne hX (tgt := 290) dL_told_234 rfl ?_ ?_
        · refine xm_weak [2, 3, 4, 5, 7, 1, 0] (lv' := [(0, .ref (g.1 0)), (2, .int b2), (3, .int b3), (4, .int b4), (6, .int b6), (8, .int x32), (9, .int x34)]) rfl ?_
          exact tfL_told_290 hL hX b2 b3 b4 b6 x32 x34 M35
        · refine xm_aload_n hX 2 dL_told_237 rfl rfl ?_
          refine xm_iload hX 7 dL_told_238 rfl ?_
          refine xm_iconst hX (v := 2) rfl dL_told_240 ?_
          refine xm_calli hX (xm_runV hX (k := 0) (ci := 3) (As := (fun g => [.int b6, .int (2 : Int32)])) (kX3_about hL b6 (2 : Int32) M35) (hL _ _ cL_0) rfl (xm_gV gm_312 gm_313 gm_314 gm_1 gm_315) rfl ⟨rfl, rfl⟩ ⟨rfl, hdX3_about⟩ ⟨Nat.le_of_ble_eq_true rfl, Nat.le_of_ble_eq_true rfl⟩ rfl (Nat.le_of_ble_eq_true rfl) rfl ⟨Nat.le_of_ble_eq_true rfl, Nat.le_of_ble_eq_true rfl⟩ dL_told_241) (fun x48 M47 => ?_)
          refine xm_bipush hX (v := 10) rfl dL_told_244 ?_
          refine xm_iload_n hX 4 dL_told_246 rfl rfl ?_
          refine xm_iadd hX dL_told_247 ?_
          refine xm_icmp_ne hX (tgt := 290) dL_told_248 rfl ?_ ?_
          · refine xm_weak [2, 3, 4, 5, 7, 1, 0] (lv' := [(0, .ref (g.1 0)), (2, .int b2), (3, .int b3), (4, .int b4), (6, .int b6), (8, .int x32), (9, .int x34)]) rfl ?_
            exact tfL_told_290 hL hX b2 b3 b4 b6 x32 x34 M47
          · refine xm_aload_n hX 2 dL_told_251 rfl rfl ?_
            refine xm_iload hX 7 dL_told_252 rfl ?_
            refine xm_iconst hX (v := 3) rfl dL_told_254 ?_
            refine xm_calli hX (xm_runV hX (k := 0) (ci := 3) (As := (fun g => [.int b6, .int (3 : Int32)])) (kX3_about hL b6 (3 : Int32) M47) (hL _ _ cL_0) rfl (xm_gV gm_312 gm_313 gm_314 gm_1 gm_315) rfl ⟨rfl, rfl⟩ ⟨rfl, hdX3_about⟩ ⟨Nat.le_of_ble_eq_true rfl, Nat.le_of_ble_eq_true rfl⟩ rfl (Nat.le_of_ble_eq_true rfl) rfl ⟨Nat.le_of_ble_eq_true rfl, Nat.le_of_ble_eq_true rfl⟩ dL_told_255) (fun x50 M49 => ?_)
            refine xm_bipush hX (v := -90) rfl dL_told_258 ?_
            refine xm_iload hX 5 dL_told_260 rfl ?_
            refine xm_isub hX dL_told_262 ?_
            refine xm_icmp_ne hX (tgt := 290) dL_told_263 rfl ?_ ?_
            · refine xm_weak [2, 3, 4, 5, 7, 1, 0] (lv' := [(0, .ref (g.1 0)), (2, .int b2), (3, .int b3), (4, .int b4), (6, .int b6), (8, .int x32), (9, .int x34)]) rfl ?_
              exact tfL_told_290 hL hX b2 b3 b4 b6 x32 x34 M49
            · refine xm_iload hX 8 dL_told_266 rfl ?_
              refine xm_iconst hX (v := 1) rfl dL_told_268 ?_
              refine xm_icmp_eq hX (tgt := 286) dL_told_269 rfl ?_ ?_
              · refine xm_weak [2, 3, 4, 5, 7, 1, 0] (lv' := [(0, .ref (g.1 0)), (2, .int b2), (3, .int b3), (4, .int b4), (6, .int b6), (8, .int x32), (9, .int x34)]) rfl ?_
                exact tfL_told_286 hL hX b2 b3 b4 b6 x32 x34 M49
              · refine xm_aload_n hX 2 dL_told_272 rfl rfl ?_
                refine xm_iload hX 7 dL_told_273 rfl ?_
                refine xm_iconst hX (v := 1) rfl dL_told_275 ?_
                refine xm_iadd hX dL_told_276 ?_
                refine xm_iconst hX (v := 1) rfl dL_told_277 ?_
                refine xm_calli hX (xm_runV hX (k := 0) (ci := 3) (As := (fun g => [.int (b6 + (1 : Int32)), .int (1 : Int32)])) (kX3_about hL (b6 + (1 : Int32)) (1 : Int32) M49) (hL _ _ cL_0) rfl (xm_gV gm_312 gm_313 gm_314 gm_1 gm_315) rfl ⟨rfl, rfl⟩ ⟨rfl, hdX3_about⟩ ⟨Nat.le_of_ble_eq_true rfl, Nat.le_of_ble_eq_true rfl⟩ rfl (Nat.le_of_ble_eq_true rfl) rfl ⟨Nat.le_of_ble_eq_true rfl, Nat.le_of_ble_eq_true rfl⟩ dL_told_278) (fun x52 M51 => ?_)
                refine xm_iload hX 6 dL_told_281 rfl ?_
                refine xm_icmp_ne hX (tgt := 290) dL_told_283 rfl ?_ ?_
                · refine xm_weak [2, 3, 4, 5, 7, 1, 0] (lv' := [(0, .ref (g.1 0)), (2, .int b2), (3, .int b3), (4, .int b4), (6, .int b6), (8, .int x32), (9, .int x34)]) rfl ?_
                  exact tfL_told_290 hL hX b2 b3 b4 b6 x32 x34 M51
                · refine xm_weak [2, 3, 4, 5, 7, 1, 0] (lv' := [(0, .ref (g.1 0)), (2, .int b2), (3, .int b3), (4, .int b4), (6, .int b6), (8, .int x32), (9, .int x34)]) rfl ?_
                  exact tfL_told_286 hL hX b2 b3 b4 b6 x32 x34 M51
      · refine xm_iconst hX (v := 0) rfl dL_told_205 ?_
        exact xm_zretL hX (by decide) dL_told_206
def fL_told  (a1 : Int32) (M : xm_M) : Option (Int32 × xm_M) :=
  xm_bi (fL_up a1 (10 : Int32) M) (fun x2 M1 => xm_bi (fL_up (a1 >>> ((4 : Int32) &&& 31)) (10 : Int32) M1) (fun x4 M3 => xm_bi (fL_up (a1 >>> ((8 : Int32) &&& 31)) (10 : Int32) M3) (fun x6 M5 => xm_bi (fL_up (a1 >>> ((12 : Int32) &&& 31)) (6 : Int32) M5) (fun x8 M7 => xm_bi (fX3_save (0 : Int32) M7) (fun x10 M9 => xm_bi (fX3_wipe M9) (fun x12 M11 => xm_bi (fX3_put (((((((12666373951979520 : Int64) ||| ((((48 : Int32) + x2).toInt64) <<< ((40 : Int32).toInt64 &&& 63))) ||| (188978561024 : Int64)) ||| (822083584 : Int64)) ||| ((((48 : Int32) + x4).toInt64) <<< ((16 : Int32).toInt64 &&& 63))) ||| (11264 : Int64)) ||| (45 : Int64)) M11) (fun x14 M13 => xm_bi (fX3_fault M13) (fun x16 M15 => if x16 = (7 : Int32) then xm_bi (fX3_load M15) (fun x18 M17 => if x18 = (-3 : Int32) then xm_bi (fX3_put (((((244813135872 : Int64) ||| ((((48 : Int32) + x6).toInt64) <<< ((24 : Int32).toInt64 &&& 63))) ||| (3866624 : Int64)) ||| (27904 : Int64)) ||| (((48 : Int32) + x8).toInt64)) M17) (fun x20 M19 => xm_bi (fX3_fault M19) (fun x22 M21 => if x22 = (-6 : Int32) then xm_bi (fX3_load M21) (fun x24 M23 => xm_bi (fX3_count (10 : Int32) M23) (fun x26 M25 => if x26 ≤ x8 then fL_told_180 x2 x4 x6 x8 x10 x24 (1 : Int32) x24 M25 else fL_told_180 x2 x4 x6 x8 x10 x24 (2 : Int32) x24 M25)) else some ((0 : Int32), M21))) else some ((0 : Int32), M17)) else some ((0 : Int32), M15)))))))))
set_option maxRecDepth 20000 in
theorem kL_told {l : Launch} {L : List xm_Sh} (hL : xm_pre L)   (a1 : Int32) (M : xm_M) : xm_C l yL_told wL_told ({ frames := 7, cells := 0, slots := 0, locals := 152 }) L (fun g => [.ref (g.1 0), .int a1]) M xm_Fi (fL_told  a1 M) := by
  refine xm_C.of (by decide) rfl (fun g => Nat.le_of_ble_eq_true rfl) ?_
  intro p e s m args below meth c D g A hX
  refine xm_lv (lv' := [(0, .ref (g.1 0)), (1, .int a1)]) rfl ?_
  unfold fL_told
  refine xm_iload_n hX 1 dL_told_0 rfl rfl ?_
  refine xm_bipush hX (v := 10) rfl dL_told_1 ?_
  refine xm_calli hX (xm_runS hX (As := (fun g => [.int a1, .int (10 : Int32)])) (kL_up hL a1 (10 : Int32) M) (xm_gS gm_189 gm_190 gm_0 gm_191) rfl ⟨rfl, rfl⟩ hdL_up ⟨Nat.le_of_ble_eq_true rfl, Nat.le_of_ble_eq_true rfl⟩ rfl (Nat.le_of_ble_eq_true rfl) rfl ⟨Nat.le_of_ble_eq_true rfl, Nat.le_of_ble_eq_true rfl⟩ dL_told_3) (fun x2 M1 => ?_)
  refine xm_istore_n hX (lv' := [(2, .int x2), (0, .ref (g.1 0)), (1, .int a1)]) dL_told_6 rfl (by decide) rfl ?_
  refine xm_iload_n hX 2 dL_told_7 rfl rfl ?_
  refine xm_iconst hX (v := 4) rfl dL_told_8 ?_
  refine xm_ishr hX dL_told_9 ?_
  refine xm_bipush hX (v := 10) rfl dL_told_10 ?_
  refine xm_calli hX (xm_runS hX (As := (fun g => [.int (a1 >>> ((4 : Int32) &&& 31)), .int (10 : Int32)])) (kL_up hL (a1 >>> ((4 : Int32) &&& 31)) (10 : Int32) M1) (xm_gS gm_189 gm_190 gm_0 gm_191) rfl ⟨rfl, rfl⟩ hdL_up ⟨Nat.le_of_ble_eq_true rfl, Nat.le_of_ble_eq_true rfl⟩ rfl (Nat.le_of_ble_eq_true rfl) rfl ⟨Nat.le_of_ble_eq_true rfl, Nat.le_of_ble_eq_true rfl⟩ dL_told_12) (fun x4 M3 => ?_)
  refine xm_istore_n hX (lv' := [(3, .int x4), (2, .int x2), (0, .ref (g.1 0)), (1, .int a1)]) dL_told_15 rfl (by decide) rfl ?_
  refine xm_iload_n hX 3 dL_told_16 rfl rfl ?_
  refine xm_bipush hX (v := 8) rfl dL_told_17 ?_
  refine xm_ishr hX dL_told_19 ?_
  refine xm_bipush hX (v := 10) rfl dL_told_20 ?_
  refine xm_calli hX (xm_runS hX (As := (fun g => [.int (a1 >>> ((8 : Int32) &&& 31)), .int (10 : Int32)])) (kL_up hL (a1 >>> ((8 : Int32) &&& 31)) (10 : Int32) M3) (xm_gS gm_189 gm_190 gm_0 gm_191) rfl ⟨rfl, rfl⟩ hdL_up ⟨Nat.le_of_ble_eq_true rfl, Nat.le_of_ble_eq_true rfl⟩ rfl (Nat.le_of_ble_eq_true rfl) rfl ⟨Nat.le_of_ble_eq_true rfl, Nat.le_of_ble_eq_true rfl⟩ dL_told_22) (fun x6 M5 => ?_)
  refine xm_istore hX (lv' := [(4, .int x6), (3, .int x4), (2, .int x2), (0, .ref (g.1 0)), (1, .int a1)]) dL_told_25 (by decide) rfl ?_
  refine xm_iload_n hX 4 dL_told_27 rfl rfl ?_
  refine xm_bipush hX (v := 12) rfl dL_told_28 ?_
  refine xm_ishr hX dL_told_30 ?_
  refine xm_bipush hX (v := 6) rfl dL_told_31 ?_
  refine xm_calli hX (xm_runS hX (As := (fun g => [.int (a1 >>> ((12 : Int32) &&& 31)), .int (6 : Int32)])) (kL_up hL (a1 >>> ((12 : Int32) &&& 31)) (6 : Int32) M5) (xm_gS gm_189 gm_190 gm_0 gm_191) rfl ⟨rfl, rfl⟩ hdL_up ⟨Nat.le_of_ble_eq_true rfl, Nat.le_of_ble_eq_true rfl⟩ rfl (Nat.le_of_ble_eq_true rfl) rfl ⟨Nat.le_of_ble_eq_true rfl, Nat.le_of_ble_eq_true rfl⟩ dL_told_33) (fun x8 M7 => ?_)
  refine xm_istore hX (lv' := [(5, .int x8), (4, .int x6), (3, .int x4), (2, .int x2), (0, .ref (g.1 0)), (1, .int a1)]) dL_told_36 (by decide) rfl ?_
  refine xm_aload_n hX 4 dL_told_38 rfl rfl ?_
  refine xm_iconst hX (v := 0) rfl dL_told_39 ?_
  refine xm_calli hX (xm_runV hX (k := 0) (ci := 3) (As := (fun g => [.int (0 : Int32)])) (kX3_save hL (0 : Int32) M7) (hL _ _ cL_0) rfl (xm_gV gm_408 gm_409 gm_410 gm_1 gm_411) rfl ⟨rfl, rfl⟩ ⟨rfl, hdX3_save⟩ ⟨Nat.le_of_ble_eq_true rfl, Nat.le_of_ble_eq_true rfl⟩ rfl (Nat.le_of_ble_eq_true rfl) rfl ⟨Nat.le_of_ble_eq_true rfl, Nat.le_of_ble_eq_true rfl⟩ dL_told_40) (fun x10 M9 => ?_)
  refine xm_istore hX (lv' := [(6, .int x10), (5, .int x8), (4, .int x6), (3, .int x4), (2, .int x2), (0, .ref (g.1 0)), (1, .int a1)]) dL_told_43 (by decide) rfl ?_
  refine xm_aload_n hX 5 dL_told_45 rfl rfl ?_
  refine xm_calli hX (xm_runV hX (k := 0) (ci := 3) (As := (fun g => [])) (kX3_wipe hL M9) (hL _ _ cL_0) rfl (xm_gV gm_421 gm_422 gm_423 gm_1 gm_424) rfl ⟨rfl, rfl⟩ ⟨rfl, hdX3_wipe⟩ ⟨Nat.le_of_ble_eq_true rfl, Nat.le_of_ble_eq_true rfl⟩ rfl (Nat.le_of_ble_eq_true rfl) rfl ⟨Nat.le_of_ble_eq_true rfl, Nat.le_of_ble_eq_true rfl⟩ dL_told_46) (fun x12 M11 => ?_)
  refine xm_pop hX rfl dL_told_49 ?_
  refine xm_aload_n hX 5 dL_told_50 rfl rfl ?_
  refine xm_ldc2 hX (v := 12666373951979520) (List.mem_cons_of_mem _ gm_425) dL_told_51 ?_
  refine xm_bipush hX (v := 48) rfl dL_told_54 ?_
  refine xm_iload_n hX 4 dL_told_56 rfl rfl ?_
  refine xm_iadd hX dL_told_57 ?_
  refine xm_i2l hX dL_told_58 ?_
  refine xm_bipush hX (v := 40) rfl dL_told_59 ?_
  refine xm_lshl hX dL_told_61 ?_
  refine xm_lor hX dL_told_62 ?_
  refine xm_ldc2 hX (v := 188978561024) (List.mem_cons_of_mem _ gm_426) dL_told_63 ?_
  refine xm_lor hX dL_told_66 ?_
  refine xm_ldc2 hX (v := 822083584) (List.mem_cons_of_mem _ gm_427) dL_told_67 ?_
  refine xm_lor hX dL_told_70 ?_
  refine xm_bipush hX (v := 48) rfl dL_told_71 ?_
  refine xm_iload_n hX 3 dL_told_73 rfl rfl ?_
  refine xm_iadd hX dL_told_74 ?_
  refine xm_i2l hX dL_told_75 ?_
  refine xm_bipush hX (v := 16) rfl dL_told_76 ?_
  refine xm_lshl hX dL_told_78 ?_
  refine xm_lor hX dL_told_79 ?_
  refine xm_ldc2 hX (v := 11264) (List.mem_cons_of_mem _ gm_428) dL_told_80 ?_
  refine xm_lor hX dL_told_83 ?_
  refine xm_ldc2 hX (v := 45) (List.mem_cons_of_mem _ gm_429) dL_told_84 ?_
  refine xm_lor hX dL_told_87 ?_
  refine xm_calli hX (xm_runV hX (k := 0) (ci := 3) (As := (fun g => [.long (((((((12666373951979520 : Int64) ||| ((((48 : Int32) + x2).toInt64) <<< ((40 : Int32).toInt64 &&& 63))) ||| (188978561024 : Int64)) ||| (822083584 : Int64)) ||| ((((48 : Int32) + x4).toInt64) <<< ((16 : Int32).toInt64 &&& 63))) ||| (11264 : Int64)) ||| (45 : Int64))])) (kX3_put hL (((((((12666373951979520 : Int64) ||| ((((48 : Int32) + x2).toInt64) <<< ((40 : Int32).toInt64 &&& 63))) ||| (188978561024 : Int64)) ||| (822083584 : Int64)) ||| ((((48 : Int32) + x4).toInt64) <<< ((16 : Int32).toInt64 &&& 63))) ||| (11264 : Int64)) ||| (45 : Int64)) M11) (hL _ _ cL_0) rfl (xm_gV gm_430 gm_431 gm_432 gm_1 gm_433) rfl ⟨rfl, rfl⟩ ⟨rfl, hdX3_put⟩ ⟨Nat.le_of_ble_eq_true rfl, Nat.le_of_ble_eq_true rfl⟩ rfl (Nat.le_of_ble_eq_true rfl) rfl ⟨Nat.le_of_ble_eq_true rfl, Nat.le_of_ble_eq_true rfl⟩ dL_told_88) (fun x14 M13 => ?_)
  refine xm_pop hX rfl dL_told_91 ?_
  refine xm_aload_n hX 5 dL_told_92 rfl rfl ?_
  refine xm_calli hX (xm_runV hX (k := 0) (ci := 3) (As := (fun g => [])) (kX3_fault hL M13) (hL _ _ cL_0) rfl (xm_gV gm_442 gm_443 gm_444 gm_1 gm_445) rfl ⟨rfl, rfl⟩ ⟨rfl, hdX3_fault⟩ ⟨Nat.le_of_ble_eq_true rfl, Nat.le_of_ble_eq_true rfl⟩ rfl (Nat.le_of_ble_eq_true rfl) rfl ⟨Nat.le_of_ble_eq_true rfl, Nat.le_of_ble_eq_true rfl⟩ dL_told_93) (fun x16 M15 => ?_)
  refine xm_bipush hX (v := 7) rfl dL_told_96 ?_
  refine xm_icmp_ne hX (tgt := 110) dL_told_98 rfl ?_ ?_
  · refine xm_iconst hX (v := 0) rfl dL_told_110 ?_
    exact xm_zretL hX (by decide) dL_told_111
  · refine xm_aload_n hX 5 dL_told_101 rfl rfl ?_
    refine xm_calli hX (xm_runV hX (k := 0) (ci := 3) (As := (fun g => [])) (kX3_load hL M15) (hL _ _ cL_0) rfl (xm_gV gm_468 gm_469 gm_470 gm_1 gm_471) rfl ⟨rfl, rfl⟩ ⟨rfl, hdX3_load⟩ ⟨Nat.le_of_ble_eq_true rfl, Nat.le_of_ble_eq_true rfl⟩ rfl (Nat.le_of_ble_eq_true rfl) rfl ⟨Nat.le_of_ble_eq_true rfl, Nat.le_of_ble_eq_true rfl⟩ dL_told_102) (fun x18 M17 => ?_)
    refine xm_bipush hX (v := -3) rfl dL_told_105 ?_
    refine xm_icmp_eq hX (tgt := 112) dL_told_107 rfl ?_ ?_
    · refine xm_aload_n hX 5 dL_told_112 rfl rfl ?_
      refine xm_ldc2 hX (v := 244813135872) (List.mem_cons_of_mem _ gm_477) dL_told_113 ?_
      refine xm_bipush hX (v := 48) rfl dL_told_116 ?_
      refine xm_iload hX 2 dL_told_118 rfl ?_
      refine xm_iadd hX dL_told_120 ?_
      refine xm_i2l hX dL_told_121 ?_
      refine xm_bipush hX (v := 24) rfl dL_told_122 ?_
      refine xm_lshl hX dL_told_124 ?_
      refine xm_lor hX dL_told_125 ?_
      refine xm_ldc2 hX (v := 3866624) (List.mem_cons_of_mem _ gm_478) dL_told_126 ?_
      refine xm_lor hX dL_told_129 ?_
      refine xm_ldc2 hX (v := 27904) (List.mem_cons_of_mem _ gm_479) dL_told_130 ?_
      refine xm_lor hX dL_told_133 ?_
      refine xm_bipush hX (v := 48) rfl dL_told_134 ?_
      refine xm_iload hX 1 dL_told_136 rfl ?_
      refine xm_iadd hX dL_told_138 ?_
      refine xm_i2l hX dL_told_139 ?_
      refine xm_lor hX dL_told_140 ?_
      refine xm_calli hX (xm_runV hX (k := 0) (ci := 3) (As := (fun g => [.long (((((244813135872 : Int64) ||| ((((48 : Int32) + x6).toInt64) <<< ((24 : Int32).toInt64 &&& 63))) ||| (3866624 : Int64)) ||| (27904 : Int64)) ||| (((48 : Int32) + x8).toInt64))])) (kX3_put hL (((((244813135872 : Int64) ||| ((((48 : Int32) + x6).toInt64) <<< ((24 : Int32).toInt64 &&& 63))) ||| (3866624 : Int64)) ||| (27904 : Int64)) ||| (((48 : Int32) + x8).toInt64)) M17) (hL _ _ cL_0) rfl (xm_gV gm_430 gm_431 gm_432 gm_1 gm_433) rfl ⟨rfl, rfl⟩ ⟨rfl, hdX3_put⟩ ⟨Nat.le_of_ble_eq_true rfl, Nat.le_of_ble_eq_true rfl⟩ rfl (Nat.le_of_ble_eq_true rfl) rfl ⟨Nat.le_of_ble_eq_true rfl, Nat.le_of_ble_eq_true rfl⟩ dL_told_141) (fun x20 M19 => ?_)
      refine xm_pop hX rfl dL_told_144 ?_
      refine xm_aload_n hX 5 dL_told_145 rfl rfl ?_
      refine xm_calli hX (xm_runV hX (k := 0) (ci := 3) (As := (fun g => [])) (kX3_fault hL M19) (hL _ _ cL_0) rfl (xm_gV gm_442 gm_443 gm_444 gm_1 gm_445) rfl ⟨rfl, rfl⟩ ⟨rfl, hdX3_fault⟩ ⟨Nat.le_of_ble_eq_true rfl, Nat.le_of_ble_eq_true rfl⟩ rfl (Nat.le_of_ble_eq_true rfl) rfl ⟨Nat.le_of_ble_eq_true rfl, Nat.le_of_ble_eq_true rfl⟩ dL_told_146) (fun x22 M21 => ?_)
      refine xm_bipush hX (v := -6) rfl dL_told_149 ?_
      refine xm_icmp_eq hX (tgt := 156) dL_told_151 rfl ?_ ?_
      · refine xm_aload_n hX 5 dL_told_156 rfl rfl ?_
        refine xm_calli hX (xm_runV hX (k := 0) (ci := 3) (As := (fun g => [])) (kX3_load hL M21) (hL _ _ cL_0) rfl (xm_gV gm_468 gm_469 gm_470 gm_1 gm_471) rfl ⟨rfl, rfl⟩ ⟨rfl, hdX3_load⟩ ⟨Nat.le_of_ble_eq_true rfl, Nat.le_of_ble_eq_true rfl⟩ rfl (Nat.le_of_ble_eq_true rfl) rfl ⟨Nat.le_of_ble_eq_true rfl, Nat.le_of_ble_eq_true rfl⟩ dL_told_157) (fun x24 M23 => ?_)
        refine xm_istore hX (lv' := [(7, .int x24), (6, .int x10), (5, .int x8), (4, .int x6), (3, .int x4), (2, .int x2), (0, .ref (g.1 0)), (1, .int a1)]) dL_told_160 (by decide) rfl ?_
        refine xm_iload hX 0 dL_told_162 rfl ?_
        refine xm_iload hX 2 dL_told_164 rfl ?_
        refine xm_aload_n hX 6 dL_told_166 rfl rfl ?_
        refine xm_bipush hX (v := 10) rfl dL_told_167 ?_
        refine xm_calli hX (xm_runV hX (k := 0) (ci := 3) (As := (fun g => [.int (10 : Int32)])) (kX3_count hL (10 : Int32) M23) (hL _ _ cL_0) rfl (xm_gV gm_196 gm_197 gm_198 gm_1 gm_199) rfl ⟨rfl, rfl⟩ ⟨rfl, hdX3_count⟩ ⟨Nat.le_of_ble_eq_true rfl, Nat.le_of_ble_eq_true rfl⟩ rfl (Nat.le_of_ble_eq_true rfl) rfl ⟨Nat.le_of_ble_eq_true rfl, Nat.le_of_ble_eq_true rfl⟩ dL_told_169) (fun x26 M25 => ?_)
        refine xm_icmp_ge hX (tgt := 179) dL_told_172 rfl ?_ ?_
        · refine xm_iconst hX (v := 1) rfl dL_told_179 ?_
          refine xm_weak [6, 5, 4, 3, 2, 1, 0] (lv' := [(0, .ref (g.1 0)), (2, .int x2), (3, .int x4), (4, .int x6), (5, .int x8), (6, .int x10), (7, .int x24)]) rfl ?_
          exact tfL_told_180 hL hX x2 x4 x6 x8 x10 x24 (1 : Int32) x24 M25
        · refine xm_iconst hX (v := 2) rfl dL_told_175 ?_
          refine xm_goto hX (tgt := 180) dL_told_176 rfl ?_
          refine xm_weak [6, 5, 4, 3, 2, 1, 0] (lv' := [(0, .ref (g.1 0)), (2, .int x2), (3, .int x4), (4, .int x6), (5, .int x8), (6, .int x10), (7, .int x24)]) rfl ?_
          exact tfL_told_180 hL hX x2 x4 x6 x8 x10 x24 (2 : Int32) x24 M25
      · refine xm_iconst hX (v := 0) rfl dL_told_154 ?_
        exact xm_zretL hX (by decide) dL_told_155
    · refine xm_iconst hX (v := 0) rfl dL_told_110 ?_
      exact xm_zretL hX (by decide) dL_told_111
-- ===== OdometryDeskLaw.kept(LOdometryDesk;I)Z ['0']
theorem dL_kept_0 : decode cL_kept 0 = .ok (.aload_n 0, 1) := by decide +kernel
theorem dL_kept_1 : decode cL_kept 1 = .ok (.iconst 1, 1) := by decide +kernel
theorem dL_kept_2 : decode cL_kept 2 = .ok (.invokevirtual 136, 3) := by decide +kernel
theorem dL_kept_5 : decode cL_kept 5 = .ok (.istore_n 2, 1) := by decide +kernel
theorem dL_kept_6 : decode cL_kept 6 = .ok (.iload_n 2, 1) := by decide +kernel
theorem dL_kept_7 : decode cL_kept 7 = .ok (.ifCond .ne 17, 3) := by decide +kernel
theorem dL_kept_10 : decode cL_kept 10 = .ok (.aload_n 0, 1) := by decide +kernel
theorem dL_kept_11 : decode cL_kept 11 = .ok (.iconst 1, 1) := by decide +kernel
theorem dL_kept_12 : decode cL_kept 12 = .ok (.invokevirtual 167, 3) := by decide +kernel
theorem dL_kept_15 : decode cL_kept 15 = .ok (.ifCond .ne 7, 3) := by decide +kernel
theorem dL_kept_18 : decode cL_kept 18 = .ok (.iconst 1, 1) := by decide +kernel
theorem dL_kept_19 : decode cL_kept 19 = .ok (.goto 4, 3) := by decide +kernel
theorem dL_kept_22 : decode cL_kept 22 = .ok (.iconst 0, 1) := by decide +kernel
theorem dL_kept_23 : decode cL_kept 23 = .ok (.ireturn, 1) := by decide +kernel
theorem dL_kept_24 : decode cL_kept 24 = .ok (.aload_n 0, 1) := by decide +kernel
theorem dL_kept_25 : decode cL_kept 25 = .ok (.iload_n 2, 1) := by decide +kernel
theorem dL_kept_26 : decode cL_kept 26 = .ok (.iconst 1, 1) := by decide +kernel
theorem dL_kept_27 : decode cL_kept 27 = .ok (.isub, 1) := by decide +kernel
theorem dL_kept_28 : decode cL_kept 28 = .ok (.iconst 0, 1) := by decide +kernel
theorem dL_kept_29 : decode cL_kept 29 = .ok (.invokevirtual 69, 3) := by decide +kernel
theorem dL_kept_32 : decode cL_kept 32 = .ok (.istore_n 3, 1) := by decide +kernel
theorem dL_kept_33 : decode cL_kept 33 = .ok (.aload_n 0, 1) := by decide +kernel
theorem dL_kept_34 : decode cL_kept 34 = .ok (.iload_n 2, 1) := by decide +kernel
theorem dL_kept_35 : decode cL_kept 35 = .ok (.iconst 1, 1) := by decide +kernel
theorem dL_kept_36 : decode cL_kept 36 = .ok (.isub, 1) := by decide +kernel
theorem dL_kept_37 : decode cL_kept 37 = .ok (.bipush 6, 2) := by decide +kernel
theorem dL_kept_39 : decode cL_kept 39 = .ok (.invokevirtual 69, 3) := by decide +kernel
theorem dL_kept_42 : decode cL_kept 42 = .ok (.istore 4, 2) := by decide +kernel
theorem dL_kept_44 : decode cL_kept 44 = .ok (.aload_n 0, 1) := by decide +kernel
theorem dL_kept_45 : decode cL_kept 45 = .ok (.bipush 8, 2) := by decide +kernel
theorem dL_kept_47 : decode cL_kept 47 = .ok (.invokevirtual 65, 3) := by decide +kernel
theorem dL_kept_50 : decode cL_kept 50 = .ok (.istore 5, 2) := by decide +kernel
theorem dL_kept_52 : decode cL_kept 52 = .ok (.aload_n 0, 1) := by decide +kernel
theorem dL_kept_53 : decode cL_kept 53 = .ok (.bipush 14, 2) := by decide +kernel
theorem dL_kept_55 : decode cL_kept 55 = .ok (.invokevirtual 65, 3) := by decide +kernel
theorem dL_kept_58 : decode cL_kept 58 = .ok (.istore 6, 2) := by decide +kernel
theorem dL_kept_60 : decode cL_kept 60 = .ok (.aload_n 0, 1) := by decide +kernel
theorem dL_kept_61 : decode cL_kept 61 = .ok (.bipush 9, 2) := by decide +kernel
theorem dL_kept_63 : decode cL_kept 63 = .ok (.invokevirtual 65, 3) := by decide +kernel
theorem dL_kept_66 : decode cL_kept 66 = .ok (.istore 7, 2) := by decide +kernel
theorem dL_kept_68 : decode cL_kept 68 = .ok (.aload_n 0, 1) := by decide +kernel
theorem dL_kept_69 : decode cL_kept 69 = .ok (.bipush 7, 2) := by decide +kernel
theorem dL_kept_71 : decode cL_kept 71 = .ok (.invokevirtual 65, 3) := by decide +kernel
theorem dL_kept_74 : decode cL_kept 74 = .ok (.istore 8, 2) := by decide +kernel
theorem dL_kept_76 : decode cL_kept 76 = .ok (.aload_n 0, 1) := by decide +kernel
theorem dL_kept_77 : decode cL_kept 77 = .ok (.iload_n 1, 1) := by decide +kernel
theorem dL_kept_78 : decode cL_kept 78 = .ok (.sipush 300, 3) := by decide +kernel
theorem dL_kept_81 : decode cL_kept 81 = .ok (.invokestatic 22, 3) := by decide +kernel
theorem dL_kept_84 : decode cL_kept 84 = .ok (.iload_n 1, 1) := by decide +kernel
theorem dL_kept_85 : decode cL_kept 85 = .ok (.iconst 4, 1) := by decide +kernel
theorem dL_kept_86 : decode cL_kept 86 = .ok (.ishr, 1) := by decide +kernel
theorem dL_kept_87 : decode cL_kept 87 = .ok (.sipush 300, 3) := by decide +kernel
theorem dL_kept_90 : decode cL_kept 90 = .ok (.invokestatic 22, 3) := by decide +kernel
theorem dL_kept_93 : decode cL_kept 93 = .ok (.iload_n 1, 1) := by decide +kernel
theorem dL_kept_94 : decode cL_kept 94 = .ok (.bipush 9, 2) := by decide +kernel
theorem dL_kept_96 : decode cL_kept 96 = .ok (.ishr, 1) := by decide +kernel
theorem dL_kept_97 : decode cL_kept 97 = .ok (.ldc 170, 2) := by decide +kernel
theorem dL_kept_99 : decode cL_kept 99 = .ok (.invokestatic 22, 3) := by decide +kernel
theorem dL_kept_102 : decode cL_kept 102 = .ok (.invokevirtual 78, 3) := by decide +kernel
theorem dL_kept_105 : decode cL_kept 105 = .ok (.pop, 1) := by decide +kernel
theorem dL_kept_106 : decode cL_kept 106 = .ok (.aload_n 0, 1) := by decide +kernel
theorem dL_kept_107 : decode cL_kept 107 = .ok (.iconst 2, 1) := by decide +kernel
theorem dL_kept_108 : decode cL_kept 108 = .ok (.bipush 100, 2) := by decide +kernel
theorem dL_kept_110 : decode cL_kept 110 = .ok (.iload_n 1, 1) := by decide +kernel
theorem dL_kept_111 : decode cL_kept 111 = .ok (.iconst 3, 1) := by decide +kernel
theorem dL_kept_112 : decode cL_kept 112 = .ok (.ishr, 1) := by decide +kernel
theorem dL_kept_113 : decode cL_kept 113 = .ok (.sipush 901, 3) := by decide +kernel
theorem dL_kept_116 : decode cL_kept 116 = .ok (.invokestatic 22, 3) := by decide +kernel
theorem dL_kept_119 : decode cL_kept 119 = .ok (.iadd, 1) := by decide +kernel
theorem dL_kept_120 : decode cL_kept 120 = .ok (.invokevirtual 26, 3) := by decide +kernel
theorem dL_kept_123 : decode cL_kept 123 = .ok (.pop, 1) := by decide +kernel
theorem dL_kept_124 : decode cL_kept 124 = .ok (.aload_n 0, 1) := by decide +kernel
theorem dL_kept_125 : decode cL_kept 125 = .ok (.iload_n 1, 1) := by decide +kernel
theorem dL_kept_126 : decode cL_kept 126 = .ok (.bipush 100, 2) := by decide +kernel
theorem dL_kept_128 : decode cL_kept 128 = .ok (.invokestatic 22, 3) := by decide +kernel
theorem dL_kept_131 : decode cL_kept 131 = .ok (.bipush 7, 2) := by decide +kernel
theorem dL_kept_133 : decode cL_kept 133 = .ok (.invokevirtual 35, 3) := by decide +kernel
theorem dL_kept_136 : decode cL_kept 136 = .ok (.pop, 1) := by decide +kernel
theorem dL_kept_137 : decode cL_kept 137 = .ok (.iload 7, 2) := by decide +kernel
theorem dL_kept_139 : decode cL_kept 139 = .ok (.ifCond .le 8, 3) := by decide +kernel
theorem dL_kept_142 : decode cL_kept 142 = .ok (.aload_n 0, 1) := by decide +kernel
theorem dL_kept_143 : decode cL_kept 143 = .ok (.invokevirtual 171, 3) := by decide +kernel
theorem dL_kept_146 : decode cL_kept 146 = .ok (.pop, 1) := by decide +kernel
theorem dL_kept_147 : decode cL_kept 147 = .ok (.aload_n 0, 1) := by decide +kernel
theorem dL_kept_148 : decode cL_kept 148 = .ok (.iload_n 1, 1) := by decide +kernel
theorem dL_kept_149 : decode cL_kept 149 = .ok (.sipush 1000, 3) := by decide +kernel
theorem dL_kept_152 : decode cL_kept 152 = .ok (.invokestatic 22, 3) := by decide +kernel
theorem dL_kept_155 : decode cL_kept 155 = .ok (.iconst 5, 1) := by decide +kernel
theorem dL_kept_156 : decode cL_kept 156 = .ok (.iload_n 1, 1) := by decide +kernel
theorem dL_kept_157 : decode cL_kept 157 = .ok (.ldc 30, 2) := by decide +kernel
theorem dL_kept_159 : decode cL_kept 159 = .ok (.invokestatic 22, 3) := by decide +kernel
theorem dL_kept_162 : decode cL_kept 162 = .ok (.invokevirtual 31, 3) := by decide +kernel
theorem dL_kept_165 : decode cL_kept 165 = .ok (.pop, 1) := by decide +kernel
theorem dL_kept_166 : decode cL_kept 166 = .ok (.aload_n 0, 1) := by decide +kernel
theorem dL_kept_167 : decode cL_kept 167 = .ok (.iconst 1, 1) := by decide +kernel
theorem dL_kept_168 : decode cL_kept 168 = .ok (.iload_n 1, 1) := by decide +kernel
theorem dL_kept_169 : decode cL_kept 169 = .ok (.iload_n 2, 1) := by decide +kernel
theorem dL_kept_170 : decode cL_kept 170 = .ok (.invokestatic 22, 3) := by decide +kernel
theorem dL_kept_173 : decode cL_kept 173 = .ok (.iadd, 1) := by decide +kernel
theorem dL_kept_174 : decode cL_kept 174 = .ok (.invokevirtual 81, 3) := by decide +kernel
theorem dL_kept_177 : decode cL_kept 177 = .ok (.pop, 1) := by decide +kernel
theorem dL_kept_178 : decode cL_kept 178 = .ok (.aload_n 0, 1) := by decide +kernel
theorem dL_kept_179 : decode cL_kept 179 = .ok (.iconst 1, 1) := by decide +kernel
theorem dL_kept_180 : decode cL_kept 180 = .ok (.invokevirtual 167, 3) := by decide +kernel
theorem dL_kept_183 : decode cL_kept 183 = .ok (.iload_n 2, 1) := by decide +kernel
theorem dL_kept_184 : decode cL_kept 184 = .ok (.if_icmp .ne 96, 3) := by decide +kernel
theorem dL_kept_187 : decode cL_kept 187 = .ok (.aload_n 0, 1) := by decide +kernel
theorem dL_kept_188 : decode cL_kept 188 = .ok (.iconst 0, 1) := by decide +kernel
theorem dL_kept_189 : decode cL_kept 189 = .ok (.invokevirtual 65, 3) := by decide +kernel
theorem dL_kept_192 : decode cL_kept 192 = .ok (.iload_n 2, 1) := by decide +kernel
theorem dL_kept_193 : decode cL_kept 193 = .ok (.if_icmp .ne 87, 3) := by decide +kernel
theorem dL_kept_196 : decode cL_kept 196 = .ok (.aload_n 0, 1) := by decide +kernel
theorem dL_kept_197 : decode cL_kept 197 = .ok (.iload_n 2, 1) := by decide +kernel
theorem dL_kept_198 : decode cL_kept 198 = .ok (.iconst 1, 1) := by decide +kernel
theorem dL_kept_199 : decode cL_kept 199 = .ok (.isub, 1) := by decide +kernel
theorem dL_kept_200 : decode cL_kept 200 = .ok (.iconst 0, 1) := by decide +kernel
theorem dL_kept_201 : decode cL_kept 201 = .ok (.invokevirtual 69, 3) := by decide +kernel
theorem dL_kept_204 : decode cL_kept 204 = .ok (.iload_n 3, 1) := by decide +kernel
theorem dL_kept_205 : decode cL_kept 205 = .ok (.if_icmp .ne 75, 3) := by decide +kernel
theorem dL_kept_208 : decode cL_kept 208 = .ok (.aload_n 0, 1) := by decide +kernel
theorem dL_kept_209 : decode cL_kept 209 = .ok (.iload_n 2, 1) := by decide +kernel
theorem dL_kept_210 : decode cL_kept 210 = .ok (.iconst 1, 1) := by decide +kernel
theorem dL_kept_211 : decode cL_kept 211 = .ok (.isub, 1) := by decide +kernel
theorem dL_kept_212 : decode cL_kept 212 = .ok (.bipush 6, 2) := by decide +kernel
theorem dL_kept_214 : decode cL_kept 214 = .ok (.invokevirtual 69, 3) := by decide +kernel
theorem dL_kept_217 : decode cL_kept 217 = .ok (.iload 4, 2) := by decide +kernel
theorem dL_kept_219 : decode cL_kept 219 = .ok (.if_icmp .ne 61, 3) := by decide +kernel
theorem dL_kept_222 : decode cL_kept 222 = .ok (.aload_n 0, 1) := by decide +kernel
theorem dL_kept_223 : decode cL_kept 223 = .ok (.bipush 8, 2) := by decide +kernel
theorem dL_kept_225 : decode cL_kept 225 = .ok (.invokevirtual 65, 3) := by decide +kernel
theorem dL_kept_228 : decode cL_kept 228 = .ok (.iload 5, 2) := by decide +kernel
theorem dL_kept_230 : decode cL_kept 230 = .ok (.if_icmp .ne 50, 3) := by decide +kernel
theorem dL_kept_233 : decode cL_kept 233 = .ok (.aload_n 0, 1) := by decide +kernel
theorem dL_kept_234 : decode cL_kept 234 = .ok (.bipush 14, 2) := by decide +kernel
theorem dL_kept_236 : decode cL_kept 236 = .ok (.invokevirtual 65, 3) := by decide +kernel
theorem dL_kept_239 : decode cL_kept 239 = .ok (.iload 6, 2) := by decide +kernel
theorem dL_kept_241 : decode cL_kept 241 = .ok (.if_icmp .ne 39, 3) := by decide +kernel
theorem dL_kept_244 : decode cL_kept 244 = .ok (.aload_n 0, 1) := by decide +kernel
theorem dL_kept_245 : decode cL_kept 245 = .ok (.bipush 9, 2) := by decide +kernel
theorem dL_kept_247 : decode cL_kept 247 = .ok (.invokevirtual 65, 3) := by decide +kernel
theorem dL_kept_250 : decode cL_kept 250 = .ok (.iload 7, 2) := by decide +kernel
theorem dL_kept_252 : decode cL_kept 252 = .ok (.if_icmp .ne 28, 3) := by decide +kernel
theorem dL_kept_255 : decode cL_kept 255 = .ok (.aload_n 0, 1) := by decide +kernel
theorem dL_kept_256 : decode cL_kept 256 = .ok (.bipush 10, 2) := by decide +kernel
theorem dL_kept_258 : decode cL_kept 258 = .ok (.invokevirtual 65, 3) := by decide +kernel
theorem dL_kept_261 : decode cL_kept 261 = .ok (.iconst 3, 1) := by decide +kernel
theorem dL_kept_262 : decode cL_kept 262 = .ok (.if_icmp .ne 18, 3) := by decide +kernel
theorem dL_kept_265 : decode cL_kept 265 = .ok (.aload_n 0, 1) := by decide +kernel
theorem dL_kept_266 : decode cL_kept 266 = .ok (.bipush 7, 2) := by decide +kernel
theorem dL_kept_268 : decode cL_kept 268 = .ok (.invokevirtual 65, 3) := by decide +kernel
theorem dL_kept_271 : decode cL_kept 271 = .ok (.iload 8, 2) := by decide +kernel
theorem dL_kept_273 : decode cL_kept 273 = .ok (.if_icmp .ne 7, 3) := by decide +kernel
theorem dL_kept_276 : decode cL_kept 276 = .ok (.iconst 1, 1) := by decide +kernel
theorem dL_kept_277 : decode cL_kept 277 = .ok (.goto 4, 3) := by decide +kernel
theorem dL_kept_280 : decode cL_kept 280 = .ok (.iconst 0, 1) := by decide +kernel
theorem dL_kept_281 : decode cL_kept 281 = .ok (.ireturn, 1) := by decide +kernel
abbrev wL_kept : List Cond := .code yL_kept cL_kept 9 (some .boolean) :: lw_gd
theorem hdL_kept : (yL_kept.cls ≠ "java/lang/invoke/MethodHandle" ∧ yL_kept.cls ≠ "java/lang/invoke/VarHandle" ∧ (parseMethodDescriptor yL_kept.desc).map (fun d => d.parameters.length) = some 2) := by decide +kernel
def fL_kept_147   (b1 : Int32) (b2 : Int32) (b3 : Int32) (b4 : Int32) (b5 : Int32) (b6 : Int32) (b7 : Int32) (b8 : Int32) (M : xm_M) : Option (Int32 × xm_M) :=
  xm_bi (fL_up b1 (1000 : Int32) M) (fun x32 M31 => xm_bi (fL_up b1 (3600000 : Int32) M31) (fun x34 M33 => xm_bi (fX3_begin x32 (5 : Int32) x34 M33) (fun x36 M35 => xm_bi (fL_up b1 b2 M35) (fun x38 M37 => xm_bi (fX3_cut ((1 : Int32) + x38) M37) (fun x40 M39 => xm_bi (fX3_restore (1 : Int32) M39) (fun x42 M41 => if x42 = b2 then xm_bi (fX3_count (0 : Int32) M41) (fun x44 M43 => if x44 = b2 then xm_bi (fX3_pose (b2 - (1 : Int32)) (0 : Int32) M43) (fun x46 M45 => if x46 = b3 then xm_bi (fX3_pose (b2 - (1 : Int32)) (6 : Int32) M45) (fun x48 M47 => if x48 = b4 then xm_bi (fX3_count (8 : Int32) M47) (fun x50 M49 => if x50 = b5 then xm_bi (fX3_count (14 : Int32) M49) (fun x52 M51 => if x52 = b6 then xm_bi (fX3_count (9 : Int32) M51) (fun x54 M53 => if x54 = b7 then xm_bi (fX3_count (10 : Int32) M53) (fun x56 M55 => if x56 = (3 : Int32) then xm_bi (fX3_count (7 : Int32) M55) (fun x58 M57 => if x58 = b8 then some ((1 : Int32), M57) else some ((0 : Int32), M57)) else some ((0 : Int32), M55)) else some ((0 : Int32), M53)) else some ((0 : Int32), M51)) else some ((0 : Int32), M49)) else some ((0 : Int32), M47)) else some ((0 : Int32), M45)) else some ((0 : Int32), M43)) else some ((0 : Int32), M41)))))))
set_option maxRecDepth 20000 in
theorem tfL_kept_147 {p : Program} {l : Launch} {e : Env} {s : State} {m : MethodId} {args : Array Value} {below : List Frame} {meth : Method} {c : Code} {D : va_G} {g : xm_G} {A : Nat → Prop}  {L : List xm_Sh} (hL : xm_pre L) (hX : xm_X p m meth c cL_kept 9 s args wL_kept RL (some .boolean) D L g A)    : ∀ (b1 : Int32), ∀ (b2 : Int32), ∀ (b3 : Int32), ∀ (b4 : Int32), ∀ (b5 : Int32), ∀ (b6 : Int32), ∀ (b7 : Int32), ∀ (b8 : Int32), ∀ (M : xm_M), xm_J p l e ({ frames := 6, cells := 0, slots := 0, locals := 151 }) s m args below meth c 9 D L g A (xm_Z below args s D L g A (xm_Fi g)) 147 [(0, .ref (g.1 0)), (1, .int b1), (2, .int b2), (3, .int b3), (4, .int b4), (5, .int b5), (6, .int b6), (7, .int b7), (8, .int b8)] [] M (fL_kept_147 b1 b2 b3 b4 b5 b6 b7 b8 M) := by
  intro b1 b2 b3 b4 b5 b6 b7 b8 M
  unfold fL_kept_147
  refine xm_aload_n hX 0 dL_kept_147 rfl rfl ?_
  refine xm_iload_n hX 1 dL_kept_148 rfl rfl ?_
  refine xm_sipush hX (v := 1000) rfl dL_kept_149 ?_
  refine xm_calli hX (xm_runS hX (As := (fun g => [.int b1, .int (1000 : Int32)])) (kL_up hL b1 (1000 : Int32) M) (xm_gS gm_189 gm_190 gm_0 gm_191) rfl ⟨rfl, rfl⟩ hdL_up ⟨Nat.le_of_ble_eq_true rfl, Nat.le_of_ble_eq_true rfl⟩ rfl (Nat.le_of_ble_eq_true rfl) rfl ⟨Nat.le_of_ble_eq_true rfl, Nat.le_of_ble_eq_true rfl⟩ dL_kept_152) (fun x32 M31 => ?_)
  refine xm_iconst hX (v := 5) rfl dL_kept_155 ?_
  refine xm_iload_n hX 1 dL_kept_156 rfl rfl ?_
  refine xm_ldc hX (v := 3600000) (List.mem_cons_of_mem _ gm_492) dL_kept_157 ?_
  refine xm_calli hX (xm_runS hX (As := (fun g => [.int b1, .int (3600000 : Int32)])) (kL_up hL b1 (3600000 : Int32) M31) (xm_gS gm_189 gm_190 gm_0 gm_191) rfl ⟨rfl, rfl⟩ hdL_up ⟨Nat.le_of_ble_eq_true rfl, Nat.le_of_ble_eq_true rfl⟩ rfl (Nat.le_of_ble_eq_true rfl) rfl ⟨Nat.le_of_ble_eq_true rfl, Nat.le_of_ble_eq_true rfl⟩ dL_kept_159) (fun x34 M33 => ?_)
  refine xm_calli hX (xm_runV hX (k := 0) (ci := 3) (As := (fun g => [.int x32, .int (5 : Int32), .int x34])) (kX3_begin hL x32 (5 : Int32) x34 M33) (hL _ _ cL_0) rfl (xm_gV gm_180 gm_181 gm_182 gm_1 gm_183) rfl ⟨rfl, rfl⟩ ⟨rfl, hdX3_begin⟩ ⟨Nat.le_of_ble_eq_true rfl, Nat.le_of_ble_eq_true rfl⟩ rfl (Nat.le_of_ble_eq_true rfl) rfl ⟨Nat.le_of_ble_eq_true rfl, Nat.le_of_ble_eq_true rfl⟩ dL_kept_162) (fun x36 M35 => ?_)
  refine xm_pop hX rfl dL_kept_165 ?_
  refine xm_aload_n hX 0 dL_kept_166 rfl rfl ?_
  refine xm_iconst hX (v := 1) rfl dL_kept_167 ?_
  refine xm_iload_n hX 1 dL_kept_168 rfl rfl ?_
  refine xm_iload_n hX 2 dL_kept_169 rfl rfl ?_
  refine xm_calli hX (xm_runS hX (As := (fun g => [.int b1, .int b2])) (kL_up hL b1 b2 M35) (xm_gS gm_189 gm_190 gm_0 gm_191) rfl ⟨rfl, rfl⟩ hdL_up ⟨Nat.le_of_ble_eq_true rfl, Nat.le_of_ble_eq_true rfl⟩ rfl (Nat.le_of_ble_eq_true rfl) rfl ⟨Nat.le_of_ble_eq_true rfl, Nat.le_of_ble_eq_true rfl⟩ dL_kept_170) (fun x38 M37 => ?_)
  refine xm_iadd hX dL_kept_173 ?_
  refine xm_calli hX (xm_runV hX (k := 0) (ci := 3) (As := (fun g => [.int ((1 : Int32) + x38)])) (kX3_cut hL ((1 : Int32) + x38) M37) (hL _ _ cL_0) rfl (xm_gV gm_327 gm_328 gm_329 gm_1 gm_330) rfl ⟨rfl, rfl⟩ ⟨rfl, hdX3_cut⟩ ⟨Nat.le_of_ble_eq_true rfl, Nat.le_of_ble_eq_true rfl⟩ rfl (Nat.le_of_ble_eq_true rfl) rfl ⟨Nat.le_of_ble_eq_true rfl, Nat.le_of_ble_eq_true rfl⟩ dL_kept_174) (fun x40 M39 => ?_)
  refine xm_pop hX rfl dL_kept_177 ?_
  refine xm_aload_n hX 0 dL_kept_178 rfl rfl ?_
  refine xm_iconst hX (v := 1) rfl dL_kept_179 ?_
  refine xm_calli hX (xm_runV hX (k := 0) (ci := 3) (As := (fun g => [.int (1 : Int32)])) (kX3_restore hL (1 : Int32) M39) (hL _ _ cL_0) rfl (xm_gV gm_480 gm_481 gm_482 gm_1 gm_483) rfl ⟨rfl, rfl⟩ ⟨rfl, hdX3_restore⟩ ⟨Nat.le_of_ble_eq_true rfl, Nat.le_of_ble_eq_true rfl⟩ rfl (Nat.le_of_ble_eq_true rfl) rfl ⟨Nat.le_of_ble_eq_true rfl, Nat.le_of_ble_eq_true rfl⟩ dL_kept_180) (fun x42 M41 => ?_)
  refine xm_iload_n hX 2 dL_kept_183 rfl rfl ?_
  refine xm_icmp_ne hX (tgt := 280) dL_kept_184 rfl ?_ ?_
  · refine xm_iconst hX (v := 0) rfl dL_kept_280 ?_
    exact xm_zretL hX (by decide) dL_kept_281
  · refine xm_aload_n hX 0 dL_kept_187 rfl rfl ?_
    refine xm_iconst hX (v := 0) rfl dL_kept_188 ?_
    refine xm_calli hX (xm_runV hX (k := 0) (ci := 3) (As := (fun g => [.int (0 : Int32)])) (kX3_count hL (0 : Int32) M41) (hL _ _ cL_0) rfl (xm_gV gm_196 gm_197 gm_198 gm_1 gm_199) rfl ⟨rfl, rfl⟩ ⟨rfl, hdX3_count⟩ ⟨Nat.le_of_ble_eq_true rfl, Nat.le_of_ble_eq_true rfl⟩ rfl (Nat.le_of_ble_eq_true rfl) rfl ⟨Nat.le_of_ble_eq_true rfl, Nat.le_of_ble_eq_true rfl⟩ dL_kept_189) (fun x44 M43 => ?_)
    refine xm_iload_n hX 2 dL_kept_192 rfl rfl ?_
    refine xm_icmp_ne hX (tgt := 280) dL_kept_193 rfl ?_ ?_
    · refine xm_iconst hX (v := 0) rfl dL_kept_280 ?_
      exact xm_zretL hX (by decide) dL_kept_281
    · refine xm_aload_n hX 0 dL_kept_196 rfl rfl ?_
      refine xm_iload_n hX 2 dL_kept_197 rfl rfl ?_
      refine xm_iconst hX (v := 1) rfl dL_kept_198 ?_
      refine xm_isub hX dL_kept_199 ?_
      refine xm_iconst hX (v := 0) rfl dL_kept_200 ?_
      refine xm_calli hX (xm_runV hX (k := 0) (ci := 3) (As := (fun g => [.int (b2 - (1 : Int32)), .int (0 : Int32)])) (kX3_pose hL (b2 - (1 : Int32)) (0 : Int32) M43) (hL _ _ cL_0) rfl (xm_gV gm_283 gm_284 gm_285 gm_1 gm_286) rfl ⟨rfl, rfl⟩ ⟨rfl, hdX3_pose⟩ ⟨Nat.le_of_ble_eq_true rfl, Nat.le_of_ble_eq_true rfl⟩ rfl (Nat.le_of_ble_eq_true rfl) rfl ⟨Nat.le_of_ble_eq_true rfl, Nat.le_of_ble_eq_true rfl⟩ dL_kept_201) (fun x46 M45 => ?_)
      refine xm_iload_n hX 3 dL_kept_204 rfl rfl ?_
      refine xm_icmp_ne hX (tgt := 280) dL_kept_205 rfl ?_ ?_
      · refine xm_iconst hX (v := 0) rfl dL_kept_280 ?_
        exact xm_zretL hX (by decide) dL_kept_281
      · refine xm_aload_n hX 0 dL_kept_208 rfl rfl ?_
        refine xm_iload_n hX 2 dL_kept_209 rfl rfl ?_
        refine xm_iconst hX (v := 1) rfl dL_kept_210 ?_
        refine xm_isub hX dL_kept_211 ?_
        refine xm_bipush hX (v := 6) rfl dL_kept_212 ?_
        refine xm_calli hX (xm_runV hX (k := 0) (ci := 3) (As := (fun g => [.int (b2 - (1 : Int32)), .int (6 : Int32)])) (kX3_pose hL (b2 - (1 : Int32)) (6 : Int32) M45) (hL _ _ cL_0) rfl (xm_gV gm_283 gm_284 gm_285 gm_1 gm_286) rfl ⟨rfl, rfl⟩ ⟨rfl, hdX3_pose⟩ ⟨Nat.le_of_ble_eq_true rfl, Nat.le_of_ble_eq_true rfl⟩ rfl (Nat.le_of_ble_eq_true rfl) rfl ⟨Nat.le_of_ble_eq_true rfl, Nat.le_of_ble_eq_true rfl⟩ dL_kept_214) (fun x48 M47 => ?_)
        refine xm_iload hX 4 dL_kept_217 rfl ?_
        refine xm_icmp_ne hX (tgt := 280) dL_kept_219 rfl ?_ ?_
        · refine xm_iconst hX (v := 0) rfl dL_kept_280 ?_
          exact xm_zretL hX (by decide) dL_kept_281
        · refine xm_aload_n hX 0 dL_kept_222 rfl rfl ?_
          refine xm_bipush hX (v := 8) rfl dL_kept_223 ?_
          refine xm_calli hX (xm_runV hX (k := 0) (ci := 3) (As := (fun g => [.int (8 : Int32)])) (kX3_count hL (8 : Int32) M47) (hL _ _ cL_0) rfl (xm_gV gm_196 gm_197 gm_198 gm_1 gm_199) rfl ⟨rfl, rfl⟩ ⟨rfl, hdX3_count⟩ ⟨Nat.le_of_ble_eq_true rfl, Nat.le_of_ble_eq_true rfl⟩ rfl (Nat.le_of_ble_eq_true rfl) rfl ⟨Nat.le_of_ble_eq_true rfl, Nat.le_of_ble_eq_true rfl⟩ dL_kept_225) (fun x50 M49 => ?_)
          refine xm_iload hX 5 dL_kept_228 rfl ?_
          refine xm_icmp_ne hX (tgt := 280) dL_kept_230 rfl ?_ ?_
          · refine xm_iconst hX (v := 0) rfl dL_kept_280 ?_
            exact xm_zretL hX (by decide) dL_kept_281
          · refine xm_aload_n hX 0 dL_kept_233 rfl rfl ?_
            refine xm_bipush hX (v := 14) rfl dL_kept_234 ?_
            refine xm_calli hX (xm_runV hX (k := 0) (ci := 3) (As := (fun g => [.int (14 : Int32)])) (kX3_count hL (14 : Int32) M49) (hL _ _ cL_0) rfl (xm_gV gm_196 gm_197 gm_198 gm_1 gm_199) rfl ⟨rfl, rfl⟩ ⟨rfl, hdX3_count⟩ ⟨Nat.le_of_ble_eq_true rfl, Nat.le_of_ble_eq_true rfl⟩ rfl (Nat.le_of_ble_eq_true rfl) rfl ⟨Nat.le_of_ble_eq_true rfl, Nat.le_of_ble_eq_true rfl⟩ dL_kept_236) (fun x52 M51 => ?_)
            refine xm_iload hX 6 dL_kept_239 rfl ?_
            refine xm_icmp_ne hX (tgt := 280) dL_kept_241 rfl ?_ ?_
            · refine xm_iconst hX (v := 0) rfl dL_kept_280 ?_
              exact xm_zretL hX (by decide) dL_kept_281
            · refine xm_aload_n hX 0 dL_kept_244 rfl rfl ?_
              refine xm_bipush hX (v := 9) rfl dL_kept_245 ?_
              refine xm_calli hX (xm_runV hX (k := 0) (ci := 3) (As := (fun g => [.int (9 : Int32)])) (kX3_count hL (9 : Int32) M51) (hL _ _ cL_0) rfl (xm_gV gm_196 gm_197 gm_198 gm_1 gm_199) rfl ⟨rfl, rfl⟩ ⟨rfl, hdX3_count⟩ ⟨Nat.le_of_ble_eq_true rfl, Nat.le_of_ble_eq_true rfl⟩ rfl (Nat.le_of_ble_eq_true rfl) rfl ⟨Nat.le_of_ble_eq_true rfl, Nat.le_of_ble_eq_true rfl⟩ dL_kept_247) (fun x54 M53 => ?_)
              refine xm_iload hX 7 dL_kept_250 rfl ?_
              refine xm_icmp_ne hX (tgt := 280) dL_kept_252 rfl ?_ ?_
              · refine xm_iconst hX (v := 0) rfl dL_kept_280 ?_
                exact xm_zretL hX (by decide) dL_kept_281
              · refine xm_aload_n hX 0 dL_kept_255 rfl rfl ?_
                refine xm_bipush hX (v := 10) rfl dL_kept_256 ?_
                refine xm_calli hX (xm_runV hX (k := 0) (ci := 3) (As := (fun g => [.int (10 : Int32)])) (kX3_count hL (10 : Int32) M53) (hL _ _ cL_0) rfl (xm_gV gm_196 gm_197 gm_198 gm_1 gm_199) rfl ⟨rfl, rfl⟩ ⟨rfl, hdX3_count⟩ ⟨Nat.le_of_ble_eq_true rfl, Nat.le_of_ble_eq_true rfl⟩ rfl (Nat.le_of_ble_eq_true rfl) rfl ⟨Nat.le_of_ble_eq_true rfl, Nat.le_of_ble_eq_true rfl⟩ dL_kept_258) (fun x56 M55 => ?_)
                refine xm_iconst hX (v := 3) rfl dL_kept_261 ?_
                refine xm_icmp_ne hX (tgt := 280) dL_kept_262 rfl ?_ ?_
                · refine xm_iconst hX (v := 0) rfl dL_kept_280 ?_
                  exact xm_zretL hX (by decide) dL_kept_281
                · refine xm_aload_n hX 0 dL_kept_265 rfl rfl ?_
                  refine xm_bipush hX (v := 7) rfl dL_kept_266 ?_
                  refine xm_calli hX (xm_runV hX (k := 0) (ci := 3) (As := (fun g => [.int (7 : Int32)])) (kX3_count hL (7 : Int32) M55) (hL _ _ cL_0) rfl (xm_gV gm_196 gm_197 gm_198 gm_1 gm_199) rfl ⟨rfl, rfl⟩ ⟨rfl, hdX3_count⟩ ⟨Nat.le_of_ble_eq_true rfl, Nat.le_of_ble_eq_true rfl⟩ rfl (Nat.le_of_ble_eq_true rfl) rfl ⟨Nat.le_of_ble_eq_true rfl, Nat.le_of_ble_eq_true rfl⟩ dL_kept_268) (fun x58 M57 => ?_)
                  refine xm_iload hX 8 dL_kept_271 rfl ?_
                  refine xm_icmp_ne hX (tgt := 280) dL_kept_273 rfl ?_ ?_
                  · refine xm_iconst hX (v := 0) rfl dL_kept_280 ?_
                    exact xm_zretL hX (by decide) dL_kept_281
                  · refine xm_iconst hX (v := 1) rfl dL_kept_276 ?_
                    refine xm_goto hX (tgt := 281) dL_kept_277 rfl ?_
                    exact xm_zretL hX (by decide) dL_kept_281
def fL_kept  (a1 : Int32) (M : xm_M) : Option (Int32 × xm_M) :=
  xm_bi (fX3_save (1 : Int32) M) (fun x2 M1 => if x2 = 0 then xm_bi (fX3_restore (1 : Int32) M1) (fun x62 M61 => if x62 = 0 then some ((1 : Int32), M61) else some ((0 : Int32), M61)) else xm_bi (fX3_pose (x2 - (1 : Int32)) (0 : Int32) M1) (fun x4 M3 => xm_bi (fX3_pose (x2 - (1 : Int32)) (6 : Int32) M3) (fun x6 M5 => xm_bi (fX3_count (8 : Int32) M5) (fun x8 M7 => xm_bi (fX3_count (14 : Int32) M7) (fun x10 M9 => xm_bi (fX3_count (9 : Int32) M9) (fun x12 M11 => xm_bi (fX3_count (7 : Int32) M11) (fun x14 M13 => xm_bi (fL_up a1 (300 : Int32) M13) (fun x16 M15 => xm_bi (fL_up (a1 >>> ((4 : Int32) &&& 31)) (300 : Int32) M15) (fun x18 M17 => xm_bi (fL_up (a1 >>> ((9 : Int32) &&& 31)) (300000 : Int32) M17) (fun x20 M19 => xm_bi (fX3_step x16 x18 x20 M19) (fun x22 M21 => xm_bi (fL_up (a1 >>> ((3 : Int32) &&& 31)) (901 : Int32) M21) (fun x24 M23 => xm_bi (fX3_set (2 : Int32) ((100 : Int32) + x24) M23) (fun x26 M25 => xm_bi (fL_up a1 (100 : Int32) M25) (fun x28 M27 => xm_bi (fX3_marker x28 (7 : Int32) M27) (fun x30 M29 => if x12 ≤ 0 then fL_kept_147 a1 x2 x4 x6 x8 x10 x12 x14 M29 else xm_bi (fX3_closeCorridor M29) (fun x60 M59 => fL_kept_147 a1 x2 x4 x6 x8 x10 x12 x14 M59))))))))))))))))
set_option maxRecDepth 20000 in
theorem kL_kept {l : Launch} {L : List xm_Sh} (hL : xm_pre L)   (a1 : Int32) (M : xm_M) : xm_C l yL_kept wL_kept ({ frames := 6, cells := 0, slots := 0, locals := 151 }) L (fun g => [.ref (g.1 0), .int a1]) M xm_Fi (fL_kept  a1 M) := by
  refine xm_C.of (by decide) rfl (fun g => Nat.le_of_ble_eq_true rfl) ?_
  intro p e s m args below meth c D g A hX
  refine xm_lv (lv' := [(0, .ref (g.1 0)), (1, .int a1)]) rfl ?_
  unfold fL_kept
  refine xm_aload_n hX 0 dL_kept_0 rfl rfl ?_
  refine xm_iconst hX (v := 1) rfl dL_kept_1 ?_
  refine xm_calli hX (xm_runV hX (k := 0) (ci := 3) (As := (fun g => [.int (1 : Int32)])) (kX3_save hL (1 : Int32) M) (hL _ _ cL_0) rfl (xm_gV gm_408 gm_409 gm_410 gm_1 gm_411) rfl ⟨rfl, rfl⟩ ⟨rfl, hdX3_save⟩ ⟨Nat.le_of_ble_eq_true rfl, Nat.le_of_ble_eq_true rfl⟩ rfl (Nat.le_of_ble_eq_true rfl) rfl ⟨Nat.le_of_ble_eq_true rfl, Nat.le_of_ble_eq_true rfl⟩ dL_kept_2) (fun x2 M1 => ?_)
  refine xm_istore_n hX (lv' := [(2, .int x2), (0, .ref (g.1 0)), (1, .int a1)]) dL_kept_5 rfl (by decide) rfl ?_
  refine xm_iload_n hX 0 dL_kept_6 rfl rfl ?_
  refine xm_if_ne hX (tgt := 24) dL_kept_7 rfl ?_ ?_
  · refine xm_aload_n hX 1 dL_kept_24 rfl rfl ?_
    refine xm_iload_n hX 0 dL_kept_25 rfl rfl ?_
    refine xm_iconst hX (v := 1) rfl dL_kept_26 ?_
    refine xm_isub hX dL_kept_27 ?_
    refine xm_iconst hX (v := 0) rfl dL_kept_28 ?_
    refine xm_calli hX (xm_runV hX (k := 0) (ci := 3) (As := (fun g => [.int (x2 - (1 : Int32)), .int (0 : Int32)])) (kX3_pose hL (x2 - (1 : Int32)) (0 : Int32) M1) (hL _ _ cL_0) rfl (xm_gV gm_283 gm_284 gm_285 gm_1 gm_286) rfl ⟨rfl, rfl⟩ ⟨rfl, hdX3_pose⟩ ⟨Nat.le_of_ble_eq_true rfl, Nat.le_of_ble_eq_true rfl⟩ rfl (Nat.le_of_ble_eq_true rfl) rfl ⟨Nat.le_of_ble_eq_true rfl, Nat.le_of_ble_eq_true rfl⟩ dL_kept_29) (fun x4 M3 => ?_)
    refine xm_istore_n hX (lv' := [(3, .int x4), (2, .int x2), (0, .ref (g.1 0)), (1, .int a1)]) dL_kept_32 rfl (by decide) rfl ?_
    refine xm_aload_n hX 2 dL_kept_33 rfl rfl ?_
    refine xm_iload_n hX 1 dL_kept_34 rfl rfl ?_
    refine xm_iconst hX (v := 1) rfl dL_kept_35 ?_
    refine xm_isub hX dL_kept_36 ?_
    refine xm_bipush hX (v := 6) rfl dL_kept_37 ?_
    refine xm_calli hX (xm_runV hX (k := 0) (ci := 3) (As := (fun g => [.int (x2 - (1 : Int32)), .int (6 : Int32)])) (kX3_pose hL (x2 - (1 : Int32)) (6 : Int32) M3) (hL _ _ cL_0) rfl (xm_gV gm_283 gm_284 gm_285 gm_1 gm_286) rfl ⟨rfl, rfl⟩ ⟨rfl, hdX3_pose⟩ ⟨Nat.le_of_ble_eq_true rfl, Nat.le_of_ble_eq_true rfl⟩ rfl (Nat.le_of_ble_eq_true rfl) rfl ⟨Nat.le_of_ble_eq_true rfl, Nat.le_of_ble_eq_true rfl⟩ dL_kept_39) (fun x6 M5 => ?_)
    refine xm_istore hX (lv' := [(4, .int x6), (3, .int x4), (2, .int x2), (0, .ref (g.1 0)), (1, .int a1)]) dL_kept_42 (by decide) rfl ?_
    refine xm_aload_n hX 3 dL_kept_44 rfl rfl ?_
    refine xm_bipush hX (v := 8) rfl dL_kept_45 ?_
    refine xm_calli hX (xm_runV hX (k := 0) (ci := 3) (As := (fun g => [.int (8 : Int32)])) (kX3_count hL (8 : Int32) M5) (hL _ _ cL_0) rfl (xm_gV gm_196 gm_197 gm_198 gm_1 gm_199) rfl ⟨rfl, rfl⟩ ⟨rfl, hdX3_count⟩ ⟨Nat.le_of_ble_eq_true rfl, Nat.le_of_ble_eq_true rfl⟩ rfl (Nat.le_of_ble_eq_true rfl) rfl ⟨Nat.le_of_ble_eq_true rfl, Nat.le_of_ble_eq_true rfl⟩ dL_kept_47) (fun x8 M7 => ?_)
    refine xm_istore hX (lv' := [(5, .int x8), (4, .int x6), (3, .int x4), (2, .int x2), (0, .ref (g.1 0)), (1, .int a1)]) dL_kept_50 (by decide) rfl ?_
    refine xm_aload_n hX 4 dL_kept_52 rfl rfl ?_
    refine xm_bipush hX (v := 14) rfl dL_kept_53 ?_
    refine xm_calli hX (xm_runV hX (k := 0) (ci := 3) (As := (fun g => [.int (14 : Int32)])) (kX3_count hL (14 : Int32) M7) (hL _ _ cL_0) rfl (xm_gV gm_196 gm_197 gm_198 gm_1 gm_199) rfl ⟨rfl, rfl⟩ ⟨rfl, hdX3_count⟩ ⟨Nat.le_of_ble_eq_true rfl, Nat.le_of_ble_eq_true rfl⟩ rfl (Nat.le_of_ble_eq_true rfl) rfl ⟨Nat.le_of_ble_eq_true rfl, Nat.le_of_ble_eq_true rfl⟩ dL_kept_55) (fun x10 M9 => ?_)
    refine xm_istore hX (lv' := [(6, .int x10), (5, .int x8), (4, .int x6), (3, .int x4), (2, .int x2), (0, .ref (g.1 0)), (1, .int a1)]) dL_kept_58 (by decide) rfl ?_
    refine xm_aload_n hX 5 dL_kept_60 rfl rfl ?_
    refine xm_bipush hX (v := 9) rfl dL_kept_61 ?_
    refine xm_calli hX (xm_runV hX (k := 0) (ci := 3) (As := (fun g => [.int (9 : Int32)])) (kX3_count hL (9 : Int32) M9) (hL _ _ cL_0) rfl (xm_gV gm_196 gm_197 gm_198 gm_1 gm_199) rfl ⟨rfl, rfl⟩ ⟨rfl, hdX3_count⟩ ⟨Nat.le_of_ble_eq_true rfl, Nat.le_of_ble_eq_true rfl⟩ rfl (Nat.le_of_ble_eq_true rfl) rfl ⟨Nat.le_of_ble_eq_true rfl, Nat.le_of_ble_eq_true rfl⟩ dL_kept_63) (fun x12 M11 => ?_)
    refine xm_istore hX (lv' := [(7, .int x12), (6, .int x10), (5, .int x8), (4, .int x6), (3, .int x4), (2, .int x2), (0, .ref (g.1 0)), (1, .int a1)]) dL_kept_66 (by decide) rfl ?_
    refine xm_aload_n hX 6 dL_kept_68 rfl rfl ?_
    refine xm_bipush hX (v := 7) rfl dL_kept_69 ?_
    refine xm_calli hX (xm_runV hX (k := 0) (ci := 3) (As := (fun g => [.int (7 : Int32)])) (kX3_count hL (7 : Int32) M11) (hL _ _ cL_0) rfl (xm_gV gm_196 gm_197 gm_198 gm_1 gm_199) rfl ⟨rfl, rfl⟩ ⟨rfl, hdX3_count⟩ ⟨Nat.le_of_ble_eq_true rfl, Nat.le_of_ble_eq_true rfl⟩ rfl (Nat.le_of_ble_eq_true rfl) rfl ⟨Nat.le_of_ble_eq_true rfl, Nat.le_of_ble_eq_true rfl⟩ dL_kept_71) (fun x14 M13 => ?_)
    refine xm_istore hX (lv' := [(8, .int x14), (7, .int x12), (6, .int x10), (5, .int x8), (4, .int x6), (3, .int x4), (2, .int x2), (0, .ref (g.1 0)), (1, .int a1)]) dL_kept_74 (by decide) rfl ?_
    refine xm_aload_n hX 7 dL_kept_76 rfl rfl ?_
    refine xm_iload_n hX 8 dL_kept_77 rfl rfl ?_
    refine xm_sipush hX (v := 300) rfl dL_kept_78 ?_
    refine xm_calli hX (xm_runS hX (As := (fun g => [.int a1, .int (300 : Int32)])) (kL_up hL a1 (300 : Int32) M13) (xm_gS gm_189 gm_190 gm_0 gm_191) rfl ⟨rfl, rfl⟩ hdL_up ⟨Nat.le_of_ble_eq_true rfl, Nat.le_of_ble_eq_true rfl⟩ rfl (Nat.le_of_ble_eq_true rfl) rfl ⟨Nat.le_of_ble_eq_true rfl, Nat.le_of_ble_eq_true rfl⟩ dL_kept_81) (fun x16 M15 => ?_)
    refine xm_iload_n hX 8 dL_kept_84 rfl rfl ?_
    refine xm_iconst hX (v := 4) rfl dL_kept_85 ?_
    refine xm_ishr hX dL_kept_86 ?_
    refine xm_sipush hX (v := 300) rfl dL_kept_87 ?_
    refine xm_calli hX (xm_runS hX (As := (fun g => [.int (a1 >>> ((4 : Int32) &&& 31)), .int (300 : Int32)])) (kL_up hL (a1 >>> ((4 : Int32) &&& 31)) (300 : Int32) M15) (xm_gS gm_189 gm_190 gm_0 gm_191) rfl ⟨rfl, rfl⟩ hdL_up ⟨Nat.le_of_ble_eq_true rfl, Nat.le_of_ble_eq_true rfl⟩ rfl (Nat.le_of_ble_eq_true rfl) rfl ⟨Nat.le_of_ble_eq_true rfl, Nat.le_of_ble_eq_true rfl⟩ dL_kept_90) (fun x18 M17 => ?_)
    refine xm_iload_n hX 8 dL_kept_93 rfl rfl ?_
    refine xm_bipush hX (v := 9) rfl dL_kept_94 ?_
    refine xm_ishr hX dL_kept_96 ?_
    refine xm_ldc hX (v := 300000) (List.mem_cons_of_mem _ gm_487) dL_kept_97 ?_
    refine xm_calli hX (xm_runS hX (As := (fun g => [.int (a1 >>> ((9 : Int32) &&& 31)), .int (300000 : Int32)])) (kL_up hL (a1 >>> ((9 : Int32) &&& 31)) (300000 : Int32) M17) (xm_gS gm_189 gm_190 gm_0 gm_191) rfl ⟨rfl, rfl⟩ hdL_up ⟨Nat.le_of_ble_eq_true rfl, Nat.le_of_ble_eq_true rfl⟩ rfl (Nat.le_of_ble_eq_true rfl) rfl ⟨Nat.le_of_ble_eq_true rfl, Nat.le_of_ble_eq_true rfl⟩ dL_kept_99) (fun x20 M19 => ?_)
    refine xm_calli hX (xm_runV hX (k := 0) (ci := 3) (As := (fun g => [.int x16, .int x18, .int x20])) (kX3_step hL x16 x18 x20 M19) (hL _ _ cL_0) rfl (xm_gV gm_317 gm_318 gm_319 gm_1 gm_320) rfl ⟨rfl, rfl⟩ ⟨rfl, hdX3_step⟩ ⟨Nat.le_of_ble_eq_true rfl, Nat.le_of_ble_eq_true rfl⟩ rfl (Nat.le_of_ble_eq_true rfl) rfl ⟨Nat.le_of_ble_eq_true rfl, Nat.le_of_ble_eq_true rfl⟩ dL_kept_102) (fun x22 M21 => ?_)
    refine xm_pop hX rfl dL_kept_105 ?_
    refine xm_aload_n hX 7 dL_kept_106 rfl rfl ?_
    refine xm_iconst hX (v := 2) rfl dL_kept_107 ?_
    refine xm_bipush hX (v := 100) rfl dL_kept_108 ?_
    refine xm_iload_n hX 8 dL_kept_110 rfl rfl ?_
    refine xm_iconst hX (v := 3) rfl dL_kept_111 ?_
    refine xm_ishr hX dL_kept_112 ?_
    refine xm_sipush hX (v := 901) rfl dL_kept_113 ?_
    refine xm_calli hX (xm_runS hX (As := (fun g => [.int (a1 >>> ((3 : Int32) &&& 31)), .int (901 : Int32)])) (kL_up hL (a1 >>> ((3 : Int32) &&& 31)) (901 : Int32) M21) (xm_gS gm_189 gm_190 gm_0 gm_191) rfl ⟨rfl, rfl⟩ hdL_up ⟨Nat.le_of_ble_eq_true rfl, Nat.le_of_ble_eq_true rfl⟩ rfl (Nat.le_of_ble_eq_true rfl) rfl ⟨Nat.le_of_ble_eq_true rfl, Nat.le_of_ble_eq_true rfl⟩ dL_kept_116) (fun x24 M23 => ?_)
    refine xm_iadd hX dL_kept_119 ?_
    refine xm_calli hX (xm_runV hX (k := 0) (ci := 3) (As := (fun g => [.int (2 : Int32), .int ((100 : Int32) + x24)])) (kX3_set hL (2 : Int32) ((100 : Int32) + x24) M23) (hL _ _ cL_0) rfl (xm_gV gm_140 gm_141 gm_142 gm_1 gm_143) rfl ⟨rfl, rfl⟩ ⟨rfl, hdX3_set⟩ ⟨Nat.le_of_ble_eq_true rfl, Nat.le_of_ble_eq_true rfl⟩ rfl (Nat.le_of_ble_eq_true rfl) rfl ⟨Nat.le_of_ble_eq_true rfl, Nat.le_of_ble_eq_true rfl⟩ dL_kept_120) (fun x26 M25 => ?_)
    refine xm_pop hX rfl dL_kept_123 ?_
    refine xm_aload_n hX 7 dL_kept_124 rfl rfl ?_
    refine xm_iload_n hX 8 dL_kept_125 rfl rfl ?_
    refine xm_bipush hX (v := 100) rfl dL_kept_126 ?_
    refine xm_calli hX (xm_runS hX (As := (fun g => [.int a1, .int (100 : Int32)])) (kL_up hL a1 (100 : Int32) M25) (xm_gS gm_189 gm_190 gm_0 gm_191) rfl ⟨rfl, rfl⟩ hdL_up ⟨Nat.le_of_ble_eq_true rfl, Nat.le_of_ble_eq_true rfl⟩ rfl (Nat.le_of_ble_eq_true rfl) rfl ⟨Nat.le_of_ble_eq_true rfl, Nat.le_of_ble_eq_true rfl⟩ dL_kept_128) (fun x28 M27 => ?_)
    refine xm_bipush hX (v := 7) rfl dL_kept_131 ?_
    refine xm_calli hX (xm_runV hX (k := 0) (ci := 3) (As := (fun g => [.int x28, .int (7 : Int32)])) (kX3_marker hL x28 (7 : Int32) M27) (hL _ _ cL_0) rfl (xm_gV gm_176 gm_177 gm_178 gm_1 gm_179) rfl ⟨rfl, rfl⟩ ⟨rfl, hdX3_marker⟩ ⟨Nat.le_of_ble_eq_true rfl, Nat.le_of_ble_eq_true rfl⟩ rfl (Nat.le_of_ble_eq_true rfl) rfl ⟨Nat.le_of_ble_eq_true rfl, Nat.le_of_ble_eq_true rfl⟩ dL_kept_133) (fun x30 M29 => ?_)
    refine xm_pop hX rfl dL_kept_136 ?_
    refine xm_iload hX 1 dL_kept_137 rfl ?_
    refine xm_if_le hX (tgt := 147) dL_kept_139 rfl ?_ ?_
    · refine xm_weak [7, 8, 6, 5, 4, 3, 2, 1, 0] (lv' := [(0, .ref (g.1 0)), (1, .int a1), (2, .int x2), (3, .int x4), (4, .int x6), (5, .int x8), (6, .int x10), (7, .int x12), (8, .int x14)]) rfl ?_
      exact tfL_kept_147 hL hX a1 x2 x4 x6 x8 x10 x12 x14 M29
    · refine xm_aload_n hX 7 dL_kept_142 rfl rfl ?_
      refine xm_calli hX (xm_runV hX (k := 0) (ci := 3) (As := (fun g => [])) (kX3_closeCorridor hL M29) (hL _ _ cL_0) rfl (xm_gV gm_488 gm_489 gm_490 gm_1 gm_491) rfl ⟨rfl, rfl⟩ ⟨rfl, hdX3_closeCorridor⟩ ⟨Nat.le_of_ble_eq_true rfl, Nat.le_of_ble_eq_true rfl⟩ rfl (Nat.le_of_ble_eq_true rfl) rfl ⟨Nat.le_of_ble_eq_true rfl, Nat.le_of_ble_eq_true rfl⟩ dL_kept_143) (fun x60 M59 => ?_)
      refine xm_pop hX rfl dL_kept_146 ?_
      refine xm_weak [7, 8, 6, 5, 4, 3, 2, 1, 0] (lv' := [(0, .ref (g.1 0)), (1, .int a1), (2, .int x2), (3, .int x4), (4, .int x6), (5, .int x8), (6, .int x10), (7, .int x12), (8, .int x14)]) rfl ?_
      exact tfL_kept_147 hL hX a1 x2 x4 x6 x8 x10 x12 x14 M59
  · refine xm_aload_n hX 1 dL_kept_10 rfl rfl ?_
    refine xm_iconst hX (v := 1) rfl dL_kept_11 ?_
    refine xm_calli hX (xm_runV hX (k := 0) (ci := 3) (As := (fun g => [.int (1 : Int32)])) (kX3_restore hL (1 : Int32) M1) (hL _ _ cL_0) rfl (xm_gV gm_480 gm_481 gm_482 gm_1 gm_483) rfl ⟨rfl, rfl⟩ ⟨rfl, hdX3_restore⟩ ⟨Nat.le_of_ble_eq_true rfl, Nat.le_of_ble_eq_true rfl⟩ rfl (Nat.le_of_ble_eq_true rfl) rfl ⟨Nat.le_of_ble_eq_true rfl, Nat.le_of_ble_eq_true rfl⟩ dL_kept_12) (fun x62 M61 => ?_)
    refine xm_if_ne hX (tgt := 22) dL_kept_15 rfl ?_ ?_
    · refine xm_iconst hX (v := 0) rfl dL_kept_22 ?_
      exact xm_zretL hX (by decide) dL_kept_23
    · refine xm_iconst hX (v := 1) rfl dL_kept_18 ?_
      refine xm_goto hX (tgt := 23) dL_kept_19 rfl ?_
      exact xm_zretL hX (by decide) dL_kept_23
-- ===== OdometryDeskLaw.adds(LOdometryDesk;II)Z ['0']
theorem dL_adds_0 : decode cL_adds 0 = .ok (.aload_n 0, 1) := by decide +kernel
theorem dL_adds_1 : decode cL_adds 1 = .ok (.iconst 0, 1) := by decide +kernel
theorem dL_adds_2 : decode cL_adds 2 = .ok (.invokevirtual 65, 3) := by decide +kernel
theorem dL_adds_5 : decode cL_adds 5 = .ok (.istore_n 3, 1) := by decide +kernel
theorem dL_adds_6 : decode cL_adds 6 = .ok (.iload_n 3, 1) := by decide +kernel
theorem dL_adds_7 : decode cL_adds 7 = .ok (.ifCond .ne 12, 3) := by decide +kernel
theorem dL_adds_10 : decode cL_adds 10 = .ok (.aload_n 0, 1) := by decide +kernel
theorem dL_adds_11 : decode cL_adds 11 = .ok (.iconst (-1), 1) := by decide +kernel
theorem dL_adds_12 : decode cL_adds 12 = .ok (.iconst 0, 1) := by decide +kernel
theorem dL_adds_13 : decode cL_adds 13 = .ok (.invokevirtual 69, 3) := by decide +kernel
theorem dL_adds_16 : decode cL_adds 16 = .ok (.goto 11, 3) := by decide +kernel
theorem dL_adds_19 : decode cL_adds 19 = .ok (.aload_n 0, 1) := by decide +kernel
theorem dL_adds_20 : decode cL_adds 20 = .ok (.iload_n 3, 1) := by decide +kernel
theorem dL_adds_21 : decode cL_adds 21 = .ok (.iconst 1, 1) := by decide +kernel
theorem dL_adds_22 : decode cL_adds 22 = .ok (.isub, 1) := by decide +kernel
theorem dL_adds_23 : decode cL_adds 23 = .ok (.iconst 0, 1) := by decide +kernel
theorem dL_adds_24 : decode cL_adds 24 = .ok (.invokevirtual 69, 3) := by decide +kernel
theorem dL_adds_27 : decode cL_adds 27 = .ok (.istore 4, 2) := by decide +kernel
theorem dL_adds_29 : decode cL_adds 29 = .ok (.aload_n 0, 1) := by decide +kernel
theorem dL_adds_30 : decode cL_adds 30 = .ok (.iload_n 3, 1) := by decide +kernel
theorem dL_adds_31 : decode cL_adds 31 = .ok (.iconst 1, 1) := by decide +kernel
theorem dL_adds_32 : decode cL_adds 32 = .ok (.isub, 1) := by decide +kernel
theorem dL_adds_33 : decode cL_adds 33 = .ok (.iconst 2, 1) := by decide +kernel
theorem dL_adds_34 : decode cL_adds 34 = .ok (.invokevirtual 69, 3) := by decide +kernel
theorem dL_adds_37 : decode cL_adds 37 = .ok (.istore 5, 2) := by decide +kernel
theorem dL_adds_39 : decode cL_adds 39 = .ok (.iload_n 1, 1) := by decide +kernel
theorem dL_adds_40 : decode cL_adds 40 = .ok (.bipush 8, 2) := by decide +kernel
theorem dL_adds_42 : decode cL_adds 42 = .ok (.invokestatic 22, 3) := by decide +kernel
theorem dL_adds_45 : decode cL_adds 45 = .ok (.tableswitch 274 0 2 #[27, 100, 180], 27) := by decide +kernel
theorem dL_adds_72 : decode cL_adds 72 = .ok (.aload_n 0, 1) := by decide +kernel
theorem dL_adds_73 : decode cL_adds 73 = .ok (.iload_n 2, 1) := by decide +kernel
theorem dL_adds_74 : decode cL_adds 74 = .ok (.iconst 3, 1) := by decide +kernel
theorem dL_adds_75 : decode cL_adds 75 = .ok (.invokestatic 22, 3) := by decide +kernel
theorem dL_adds_78 : decode cL_adds 78 = .ok (.invokevirtual 72, 3) := by decide +kernel
theorem dL_adds_81 : decode cL_adds 81 = .ok (.iload_n 3, 1) := by decide +kernel
theorem dL_adds_82 : decode cL_adds 82 = .ok (.iconst 1, 1) := by decide +kernel
theorem dL_adds_83 : decode cL_adds 83 = .ok (.iadd, 1) := by decide +kernel
theorem dL_adds_84 : decode cL_adds 84 = .ok (.if_icmp .ne 59, 3) := by decide +kernel
theorem dL_adds_87 : decode cL_adds 87 = .ok (.aload_n 0, 1) := by decide +kernel
theorem dL_adds_88 : decode cL_adds 88 = .ok (.iload_n 3, 1) := by decide +kernel
theorem dL_adds_89 : decode cL_adds 89 = .ok (.iconst 0, 1) := by decide +kernel
theorem dL_adds_90 : decode cL_adds 90 = .ok (.invokevirtual 75, 3) := by decide +kernel
theorem dL_adds_93 : decode cL_adds 93 = .ok (.iconst 4, 1) := by decide +kernel
theorem dL_adds_94 : decode cL_adds 94 = .ok (.if_icmp .ne 49, 3) := by decide +kernel
theorem dL_adds_97 : decode cL_adds 97 = .ok (.aload_n 0, 1) := by decide +kernel
theorem dL_adds_98 : decode cL_adds 98 = .ok (.iload_n 3, 1) := by decide +kernel
theorem dL_adds_99 : decode cL_adds 99 = .ok (.iconst 1, 1) := by decide +kernel
theorem dL_adds_100 : decode cL_adds 100 = .ok (.invokevirtual 75, 3) := by decide +kernel
theorem dL_adds_103 : decode cL_adds 103 = .ok (.iload_n 2, 1) := by decide +kernel
theorem dL_adds_104 : decode cL_adds 104 = .ok (.iconst 3, 1) := by decide +kernel
theorem dL_adds_105 : decode cL_adds 105 = .ok (.invokestatic 22, 3) := by decide +kernel
theorem dL_adds_108 : decode cL_adds 108 = .ok (.if_icmp .ne 35, 3) := by decide +kernel
theorem dL_adds_111 : decode cL_adds 111 = .ok (.aload_n 0, 1) := by decide +kernel
theorem dL_adds_112 : decode cL_adds 112 = .ok (.iload_n 3, 1) := by decide +kernel
theorem dL_adds_113 : decode cL_adds 113 = .ok (.iconst 2, 1) := by decide +kernel
theorem dL_adds_114 : decode cL_adds 114 = .ok (.invokevirtual 69, 3) := by decide +kernel
theorem dL_adds_117 : decode cL_adds 117 = .ok (.iload 5, 2) := by decide +kernel
theorem dL_adds_119 : decode cL_adds 119 = .ok (.if_icmp .ne 24, 3) := by decide +kernel
theorem dL_adds_122 : decode cL_adds 122 = .ok (.iload_n 3, 1) := by decide +kernel
theorem dL_adds_123 : decode cL_adds 123 = .ok (.ifCond .eq 16, 3) := by decide +kernel
theorem dL_adds_126 : decode cL_adds 126 = .ok (.aload_n 0, 1) := by decide +kernel
theorem dL_adds_127 : decode cL_adds 127 = .ok (.iload_n 3, 1) := by decide +kernel
theorem dL_adds_128 : decode cL_adds 128 = .ok (.iconst 1, 1) := by decide +kernel
theorem dL_adds_129 : decode cL_adds 129 = .ok (.isub, 1) := by decide +kernel
theorem dL_adds_130 : decode cL_adds 130 = .ok (.iconst 0, 1) := by decide +kernel
theorem dL_adds_131 : decode cL_adds 131 = .ok (.invokevirtual 69, 3) := by decide +kernel
theorem dL_adds_134 : decode cL_adds 134 = .ok (.iload 4, 2) := by decide +kernel
theorem dL_adds_136 : decode cL_adds 136 = .ok (.if_icmp .ne 7, 3) := by decide +kernel
theorem dL_adds_139 : decode cL_adds 139 = .ok (.iconst 1, 1) := by decide +kernel
theorem dL_adds_140 : decode cL_adds 140 = .ok (.goto 4, 3) := by decide +kernel
theorem dL_adds_143 : decode cL_adds 143 = .ok (.iconst 0, 1) := by decide +kernel
theorem dL_adds_144 : decode cL_adds 144 = .ok (.ireturn, 1) := by decide +kernel
theorem dL_adds_145 : decode cL_adds 145 = .ok (.aload_n 0, 1) := by decide +kernel
theorem dL_adds_146 : decode cL_adds 146 = .ok (.iconst 0, 1) := by decide +kernel
theorem dL_adds_147 : decode cL_adds 147 = .ok (.iconst 0, 1) := by decide +kernel
theorem dL_adds_148 : decode cL_adds 148 = .ok (.iload_n 2, 1) := by decide +kernel
theorem dL_adds_149 : decode cL_adds 149 = .ok (.sipush 6001, 3) := by decide +kernel
theorem dL_adds_152 : decode cL_adds 152 = .ok (.invokestatic 22, 3) := by decide +kernel
theorem dL_adds_155 : decode cL_adds 155 = .ok (.sipush 3000, 3) := by decide +kernel
theorem dL_adds_158 : decode cL_adds 158 = .ok (.isub, 1) := by decide +kernel
theorem dL_adds_159 : decode cL_adds 159 = .ok (.invokevirtual 78, 3) := by decide +kernel
theorem dL_adds_162 : decode cL_adds 162 = .ok (.iload_n 3, 1) := by decide +kernel
theorem dL_adds_163 : decode cL_adds 163 = .ok (.iconst 1, 1) := by decide +kernel
theorem dL_adds_164 : decode cL_adds 164 = .ok (.iadd, 1) := by decide +kernel
theorem dL_adds_165 : decode cL_adds 165 = .ok (.if_icmp .ne 58, 3) := by decide +kernel
theorem dL_adds_168 : decode cL_adds 168 = .ok (.aload_n 0, 1) := by decide +kernel
theorem dL_adds_169 : decode cL_adds 169 = .ok (.iload_n 3, 1) := by decide +kernel
theorem dL_adds_170 : decode cL_adds 170 = .ok (.iconst 0, 1) := by decide +kernel
theorem dL_adds_171 : decode cL_adds 171 = .ok (.invokevirtual 75, 3) := by decide +kernel
theorem dL_adds_174 : decode cL_adds 174 = .ok (.ifCond .ne 49, 3) := by decide +kernel
theorem dL_adds_177 : decode cL_adds 177 = .ok (.aload_n 0, 1) := by decide +kernel
theorem dL_adds_178 : decode cL_adds 178 = .ok (.iload_n 3, 1) := by decide +kernel
theorem dL_adds_179 : decode cL_adds 179 = .ok (.iconst 0, 1) := by decide +kernel
theorem dL_adds_180 : decode cL_adds 180 = .ok (.invokevirtual 69, 3) := by decide +kernel
theorem dL_adds_183 : decode cL_adds 183 = .ok (.iload 4, 2) := by decide +kernel
theorem dL_adds_185 : decode cL_adds 185 = .ok (.if_icmp .ne 38, 3) := by decide +kernel
theorem dL_adds_188 : decode cL_adds 188 = .ok (.aload_n 0, 1) := by decide +kernel
theorem dL_adds_189 : decode cL_adds 189 = .ok (.iload_n 3, 1) := by decide +kernel
theorem dL_adds_190 : decode cL_adds 190 = .ok (.iconst 2, 1) := by decide +kernel
theorem dL_adds_191 : decode cL_adds 191 = .ok (.invokevirtual 69, 3) := by decide +kernel
theorem dL_adds_194 : decode cL_adds 194 = .ok (.iload 5, 2) := by decide +kernel
theorem dL_adds_196 : decode cL_adds 196 = .ok (.if_icmp .ne 27, 3) := by decide +kernel
theorem dL_adds_199 : decode cL_adds 199 = .ok (.aload_n 0, 1) := by decide +kernel
theorem dL_adds_200 : decode cL_adds 200 = .ok (.iload_n 3, 1) := by decide +kernel
theorem dL_adds_201 : decode cL_adds 201 = .ok (.iconst 3, 1) := by decide +kernel
theorem dL_adds_202 : decode cL_adds 202 = .ok (.invokevirtual 75, 3) := by decide +kernel
theorem dL_adds_205 : decode cL_adds 205 = .ok (.iload_n 2, 1) := by decide +kernel
theorem dL_adds_206 : decode cL_adds 206 = .ok (.sipush 6001, 3) := by decide +kernel
theorem dL_adds_209 : decode cL_adds 209 = .ok (.invokestatic 22, 3) := by decide +kernel
theorem dL_adds_212 : decode cL_adds 212 = .ok (.sipush 3000, 3) := by decide +kernel
theorem dL_adds_215 : decode cL_adds 215 = .ok (.isub, 1) := by decide +kernel
theorem dL_adds_216 : decode cL_adds 216 = .ok (.if_icmp .ne 7, 3) := by decide +kernel
theorem dL_adds_219 : decode cL_adds 219 = .ok (.iconst 1, 1) := by decide +kernel
theorem dL_adds_220 : decode cL_adds 220 = .ok (.goto 4, 3) := by decide +kernel
theorem dL_adds_223 : decode cL_adds 223 = .ok (.iconst 0, 1) := by decide +kernel
theorem dL_adds_224 : decode cL_adds 224 = .ok (.ireturn, 1) := by decide +kernel
theorem dL_adds_225 : decode cL_adds 225 = .ok (.iload_n 3, 1) := by decide +kernel
theorem dL_adds_226 : decode cL_adds 226 = .ok (.iconst 3, 1) := by decide +kernel
theorem dL_adds_227 : decode cL_adds 227 = .ok (.if_icmp .ge 5, 3) := by decide +kernel
theorem dL_adds_230 : decode cL_adds 230 = .ok (.iconst 1, 1) := by decide +kernel
theorem dL_adds_231 : decode cL_adds 231 = .ok (.ireturn, 1) := by decide +kernel
theorem dL_adds_232 : decode cL_adds 232 = .ok (.aload_n 0, 1) := by decide +kernel
theorem dL_adds_233 : decode cL_adds 233 = .ok (.iconst 5, 1) := by decide +kernel
theorem dL_adds_234 : decode cL_adds 234 = .ok (.invokevirtual 65, 3) := by decide +kernel
theorem dL_adds_237 : decode cL_adds 237 = .ok (.istore 6, 2) := by decide +kernel
theorem dL_adds_239 : decode cL_adds 239 = .ok (.aload_n 0, 1) := by decide +kernel
theorem dL_adds_240 : decode cL_adds 240 = .ok (.iload_n 3, 1) := by decide +kernel
theorem dL_adds_241 : decode cL_adds 241 = .ok (.iconst 2, 1) := by decide +kernel
theorem dL_adds_242 : decode cL_adds 242 = .ok (.isub, 1) := by decide +kernel
theorem dL_adds_243 : decode cL_adds 243 = .ok (.iconst 0, 1) := by decide +kernel
theorem dL_adds_244 : decode cL_adds 244 = .ok (.invokevirtual 69, 3) := by decide +kernel
theorem dL_adds_247 : decode cL_adds 247 = .ok (.istore 7, 2) := by decide +kernel
theorem dL_adds_249 : decode cL_adds 249 = .ok (.aload_n 0, 1) := by decide +kernel
theorem dL_adds_250 : decode cL_adds 250 = .ok (.iload_n 3, 1) := by decide +kernel
theorem dL_adds_251 : decode cL_adds 251 = .ok (.iconst 1, 1) := by decide +kernel
theorem dL_adds_252 : decode cL_adds 252 = .ok (.isub, 1) := by decide +kernel
theorem dL_adds_253 : decode cL_adds 253 = .ok (.iconst 0, 1) := by decide +kernel
theorem dL_adds_254 : decode cL_adds 254 = .ok (.invokevirtual 75, 3) := by decide +kernel
theorem dL_adds_257 : decode cL_adds 257 = .ok (.iconst 4, 1) := by decide +kernel
theorem dL_adds_258 : decode cL_adds 258 = .ok (.if_icmp .ne 7, 3) := by decide +kernel
theorem dL_adds_261 : decode cL_adds 261 = .ok (.iconst 1, 1) := by decide +kernel
theorem dL_adds_262 : decode cL_adds 262 = .ok (.goto 4, 3) := by decide +kernel
theorem dL_adds_265 : decode cL_adds 265 = .ok (.iconst 0, 1) := by decide +kernel
theorem dL_adds_266 : decode cL_adds 266 = .ok (.istore 8, 2) := by decide +kernel
theorem dL_adds_268 : decode cL_adds 268 = .ok (.aload_n 0, 1) := by decide +kernel
theorem dL_adds_269 : decode cL_adds 269 = .ok (.iconst 1, 1) := by decide +kernel
theorem dL_adds_270 : decode cL_adds 270 = .ok (.invokevirtual 81, 3) := by decide +kernel
theorem dL_adds_273 : decode cL_adds 273 = .ok (.iload_n 3, 1) := by decide +kernel
theorem dL_adds_274 : decode cL_adds 274 = .ok (.iconst 1, 1) := by decide +kernel
theorem dL_adds_275 : decode cL_adds 275 = .ok (.isub, 1) := by decide +kernel
theorem dL_adds_276 : decode cL_adds 276 = .ok (.if_icmp .ne 41, 3) := by decide +kernel
theorem dL_adds_279 : decode cL_adds 279 = .ok (.aload_n 0, 1) := by decide +kernel
theorem dL_adds_280 : decode cL_adds 280 = .ok (.iconst 5, 1) := by decide +kernel
theorem dL_adds_281 : decode cL_adds 281 = .ok (.invokevirtual 65, 3) := by decide +kernel
theorem dL_adds_284 : decode cL_adds 284 = .ok (.iload 6, 2) := by decide +kernel
theorem dL_adds_286 : decode cL_adds 286 = .ok (.iload 8, 2) := by decide +kernel
theorem dL_adds_288 : decode cL_adds 288 = .ok (.ifCond .eq 7, 3) := by decide +kernel
theorem dL_adds_291 : decode cL_adds 291 = .ok (.iconst 1, 1) := by decide +kernel
theorem dL_adds_292 : decode cL_adds 292 = .ok (.goto 4, 3) := by decide +kernel
theorem dL_adds_295 : decode cL_adds 295 = .ok (.iconst 0, 1) := by decide +kernel
theorem dL_adds_296 : decode cL_adds 296 = .ok (.isub, 1) := by decide +kernel
theorem dL_adds_297 : decode cL_adds 297 = .ok (.if_icmp .ne 20, 3) := by decide +kernel
theorem dL_adds_300 : decode cL_adds 300 = .ok (.aload_n 0, 1) := by decide +kernel
theorem dL_adds_301 : decode cL_adds 301 = .ok (.iload_n 3, 1) := by decide +kernel
theorem dL_adds_302 : decode cL_adds 302 = .ok (.iconst 2, 1) := by decide +kernel
theorem dL_adds_303 : decode cL_adds 303 = .ok (.isub, 1) := by decide +kernel
theorem dL_adds_304 : decode cL_adds 304 = .ok (.iconst 0, 1) := by decide +kernel
theorem dL_adds_305 : decode cL_adds 305 = .ok (.invokevirtual 69, 3) := by decide +kernel
theorem dL_adds_308 : decode cL_adds 308 = .ok (.iload 7, 2) := by decide +kernel
theorem dL_adds_310 : decode cL_adds 310 = .ok (.if_icmp .ne 7, 3) := by decide +kernel
theorem dL_adds_313 : decode cL_adds 313 = .ok (.iconst 1, 1) := by decide +kernel
theorem dL_adds_314 : decode cL_adds 314 = .ok (.goto 4, 3) := by decide +kernel
theorem dL_adds_317 : decode cL_adds 317 = .ok (.iconst 0, 1) := by decide +kernel
theorem dL_adds_318 : decode cL_adds 318 = .ok (.ireturn, 1) := by decide +kernel
theorem dL_adds_319 : decode cL_adds 319 = .ok (.iload_n 2, 1) := by decide +kernel
theorem dL_adds_320 : decode cL_adds 320 = .ok (.sipush 401, 3) := by decide +kernel
theorem dL_adds_323 : decode cL_adds 323 = .ok (.invokestatic 22, 3) := by decide +kernel
theorem dL_adds_326 : decode cL_adds 326 = .ok (.sipush 200, 3) := by decide +kernel
theorem dL_adds_329 : decode cL_adds 329 = .ok (.isub, 1) := by decide +kernel
theorem dL_adds_330 : decode cL_adds 330 = .ok (.istore 6, 2) := by decide +kernel
theorem dL_adds_332 : decode cL_adds 332 = .ok (.iload 6, 2) := by decide +kernel
theorem dL_adds_334 : decode cL_adds 334 = .ok (.iload_n 2, 1) := by decide +kernel
theorem dL_adds_335 : decode cL_adds 335 = .ok (.bipush 9, 2) := by decide +kernel
theorem dL_adds_337 : decode cL_adds 337 = .ok (.ishr, 1) := by decide +kernel
theorem dL_adds_338 : decode cL_adds 338 = .ok (.bipush 81, 2) := by decide +kernel
theorem dL_adds_340 : decode cL_adds 340 = .ok (.invokestatic 22, 3) := by decide +kernel
theorem dL_adds_343 : decode cL_adds 343 = .ok (.iadd, 1) := by decide +kernel
theorem dL_adds_344 : decode cL_adds 344 = .ok (.bipush 40, 2) := by decide +kernel
theorem dL_adds_346 : decode cL_adds 346 = .ok (.isub, 1) := by decide +kernel
theorem dL_adds_347 : decode cL_adds 347 = .ok (.istore 7, 2) := by decide +kernel
theorem dL_adds_349 : decode cL_adds 349 = .ok (.iload_n 1, 1) := by decide +kernel
theorem dL_adds_350 : decode cL_adds 350 = .ok (.iconst 4, 1) := by decide +kernel
theorem dL_adds_351 : decode cL_adds 351 = .ok (.ishr, 1) := by decide +kernel
theorem dL_adds_352 : decode cL_adds 352 = .ok (.iconst 3, 1) := by decide +kernel
theorem dL_adds_353 : decode cL_adds 353 = .ok (.invokestatic 22, 3) := by decide +kernel
theorem dL_adds_356 : decode cL_adds 356 = .ok (.ifCond .ne 18, 3) := by decide +kernel
theorem dL_adds_359 : decode cL_adds 359 = .ok (.iload_n 1, 1) := by decide +kernel
theorem dL_adds_360 : decode cL_adds 360 = .ok (.bipush 6, 2) := by decide +kernel
theorem dL_adds_362 : decode cL_adds 362 = .ok (.ishr, 1) := by decide +kernel
theorem dL_adds_363 : decode cL_adds 363 = .ok (.ldc 84, 2) := by decide +kernel
theorem dL_adds_365 : decode cL_adds 365 = .ok (.invokestatic 22, 3) := by decide +kernel
theorem dL_adds_368 : decode cL_adds 368 = .ok (.ldc 85, 2) := by decide +kernel
theorem dL_adds_370 : decode cL_adds 370 = .ok (.isub, 1) := by decide +kernel
theorem dL_adds_371 : decode cL_adds 371 = .ok (.goto 12, 3) := by decide +kernel
theorem dL_adds_374 : decode cL_adds 374 = .ok (.iload 7, 2) := by decide +kernel
theorem dL_adds_376 : decode cL_adds 376 = .ok (.iload 6, 2) := by decide +kernel
theorem dL_adds_378 : decode cL_adds 378 = .ok (.isub, 1) := by decide +kernel
theorem dL_adds_379 : decode cL_adds 379 = .ok (.sipush 900, 3) := by decide +kernel
theorem dL_adds_382 : decode cL_adds 382 = .ok (.imul, 1) := by decide +kernel
theorem dL_adds_383 : decode cL_adds 383 = .ok (.istore 8, 2) := by decide +kernel
theorem dL_adds_385 : decode cL_adds 385 = .ok (.aload_n 0, 1) := by decide +kernel
theorem dL_adds_386 : decode cL_adds 386 = .ok (.iload 6, 2) := by decide +kernel
theorem dL_adds_388 : decode cL_adds 388 = .ok (.iload 7, 2) := by decide +kernel
theorem dL_adds_390 : decode cL_adds 390 = .ok (.iload 8, 2) := by decide +kernel
theorem dL_adds_392 : decode cL_adds 392 = .ok (.invokevirtual 78, 3) := by decide +kernel
theorem dL_adds_395 : decode cL_adds 395 = .ok (.iload_n 3, 1) := by decide +kernel
theorem dL_adds_396 : decode cL_adds 396 = .ok (.iconst 1, 1) := by decide +kernel
theorem dL_adds_397 : decode cL_adds 397 = .ok (.iadd, 1) := by decide +kernel
theorem dL_adds_398 : decode cL_adds 398 = .ok (.if_icmp .ne 57, 3) := by decide +kernel
theorem dL_adds_401 : decode cL_adds 401 = .ok (.aload_n 0, 1) := by decide +kernel
theorem dL_adds_402 : decode cL_adds 402 = .ok (.iload_n 3, 1) := by decide +kernel
theorem dL_adds_403 : decode cL_adds 403 = .ok (.iconst 1, 1) := by decide +kernel
theorem dL_adds_404 : decode cL_adds 404 = .ok (.invokevirtual 75, 3) := by decide +kernel
theorem dL_adds_407 : decode cL_adds 407 = .ok (.iload 6, 2) := by decide +kernel
theorem dL_adds_409 : decode cL_adds 409 = .ok (.if_icmp .ne 46, 3) := by decide +kernel
theorem dL_adds_412 : decode cL_adds 412 = .ok (.aload_n 0, 1) := by decide +kernel
theorem dL_adds_413 : decode cL_adds 413 = .ok (.iload_n 3, 1) := by decide +kernel
theorem dL_adds_414 : decode cL_adds 414 = .ok (.iconst 2, 1) := by decide +kernel
theorem dL_adds_415 : decode cL_adds 415 = .ok (.invokevirtual 75, 3) := by decide +kernel
theorem dL_adds_418 : decode cL_adds 418 = .ok (.iload 7, 2) := by decide +kernel
theorem dL_adds_420 : decode cL_adds 420 = .ok (.if_icmp .ne 35, 3) := by decide +kernel
theorem dL_adds_423 : decode cL_adds 423 = .ok (.aload_n 0, 1) := by decide +kernel
theorem dL_adds_424 : decode cL_adds 424 = .ok (.iload_n 3, 1) := by decide +kernel
theorem dL_adds_425 : decode cL_adds 425 = .ok (.iconst 3, 1) := by decide +kernel
theorem dL_adds_426 : decode cL_adds 426 = .ok (.invokevirtual 75, 3) := by decide +kernel
theorem dL_adds_429 : decode cL_adds 429 = .ok (.iload 8, 2) := by decide +kernel
theorem dL_adds_431 : decode cL_adds 431 = .ok (.if_icmp .ne 24, 3) := by decide +kernel
theorem dL_adds_434 : decode cL_adds 434 = .ok (.iload_n 3, 1) := by decide +kernel
theorem dL_adds_435 : decode cL_adds 435 = .ok (.ifCond .eq 16, 3) := by decide +kernel
theorem dL_adds_438 : decode cL_adds 438 = .ok (.aload_n 0, 1) := by decide +kernel
theorem dL_adds_439 : decode cL_adds 439 = .ok (.iload_n 3, 1) := by decide +kernel
theorem dL_adds_440 : decode cL_adds 440 = .ok (.iconst 1, 1) := by decide +kernel
theorem dL_adds_441 : decode cL_adds 441 = .ok (.isub, 1) := by decide +kernel
theorem dL_adds_442 : decode cL_adds 442 = .ok (.iconst 0, 1) := by decide +kernel
theorem dL_adds_443 : decode cL_adds 443 = .ok (.invokevirtual 69, 3) := by decide +kernel
theorem dL_adds_446 : decode cL_adds 446 = .ok (.iload 4, 2) := by decide +kernel
theorem dL_adds_448 : decode cL_adds 448 = .ok (.if_icmp .ne 7, 3) := by decide +kernel
theorem dL_adds_451 : decode cL_adds 451 = .ok (.iconst 1, 1) := by decide +kernel
theorem dL_adds_452 : decode cL_adds 452 = .ok (.goto 4, 3) := by decide +kernel
theorem dL_adds_455 : decode cL_adds 455 = .ok (.iconst 0, 1) := by decide +kernel
theorem dL_adds_456 : decode cL_adds 456 = .ok (.ireturn, 1) := by decide +kernel
abbrev wL_adds : List Cond := .code yL_adds cL_adds 9 (some .boolean) :: lw_gd
theorem hdL_adds : (yL_adds.cls ≠ "java/lang/invoke/MethodHandle" ∧ yL_adds.cls ≠ "java/lang/invoke/VarHandle" ∧ (parseMethodDescriptor yL_adds.desc).map (fun d => d.parameters.length) = some 3) := by decide +kernel
def fL_adds_296   (b3 : Int32) (b7 : Int32) (s0 : Int32) (s1 : Int32) (s2 : Int32) (M : xm_M) : Option (Int32 × xm_M) :=
  if s2 = (s1 - s0) then xm_bi (fX3_pose (b3 - (2 : Int32)) (0 : Int32) M) (fun x50 M49 => if x50 = b7 then some ((1 : Int32), M49) else some ((0 : Int32), M49)) else some ((0 : Int32), M)
set_option maxRecDepth 20000 in
theorem tfL_adds_296 {p : Program} {l : Launch} {e : Env} {s : State} {m : MethodId} {args : Array Value} {below : List Frame} {meth : Method} {c : Code} {D : va_G} {g : xm_G} {A : Nat → Prop}  {L : List xm_Sh} (hL : xm_pre L) (hX : xm_X p m meth c cL_adds 9 s args wL_adds RL (some .boolean) D L g A)    : ∀ (b3 : Int32), ∀ (b7 : Int32), ∀ (s0 : Int32), ∀ (s1 : Int32), ∀ (s2 : Int32), ∀ (M : xm_M), xm_J p l e ({ frames := 6, cells := 0, slots := 0, locals := 151 }) s m args below meth c 9 D L g A (xm_Z below args s D L g A (xm_Fi g)) 296 [(0, .ref (g.1 0)), (3, .int b3), (7, .int b7)] [.int s0, .int s1, .int s2] M (fL_adds_296 b3 b7 s0 s1 s2 M) := by
  intro b3 b7 s0 s1 s2 M
  unfold fL_adds_296
  refine xm_isub hX dL_adds_296 ?_
  refine xm_icmp_ne hX (tgt := 317) dL_adds_297 rfl ?_ ?_
  · refine xm_iconst hX (v := 0) rfl dL_adds_317 ?_
    exact xm_zretL hX (by decide) dL_adds_318
  · refine xm_aload_n hX 0 dL_adds_300 rfl rfl ?_
    refine xm_iload_n hX 1 dL_adds_301 rfl rfl ?_
    refine xm_iconst hX (v := 2) rfl dL_adds_302 ?_
    refine xm_isub hX dL_adds_303 ?_
    refine xm_iconst hX (v := 0) rfl dL_adds_304 ?_
    refine xm_calli hX (xm_runV hX (k := 0) (ci := 3) (As := (fun g => [.int (b3 - (2 : Int32)), .int (0 : Int32)])) (kX3_pose hL (b3 - (2 : Int32)) (0 : Int32) M) (hL _ _ cL_0) rfl (xm_gV gm_283 gm_284 gm_285 gm_1 gm_286) rfl ⟨rfl, rfl⟩ ⟨rfl, hdX3_pose⟩ ⟨Nat.le_of_ble_eq_true rfl, Nat.le_of_ble_eq_true rfl⟩ rfl (Nat.le_of_ble_eq_true rfl) rfl ⟨Nat.le_of_ble_eq_true rfl, Nat.le_of_ble_eq_true rfl⟩ dL_adds_305) (fun x50 M49 => ?_)
    refine xm_iload hX 2 dL_adds_308 rfl ?_
    refine xm_icmp_ne hX (tgt := 317) dL_adds_310 rfl ?_ ?_
    · refine xm_iconst hX (v := 0) rfl dL_adds_317 ?_
      exact xm_zretL hX (by decide) dL_adds_318
    · refine xm_iconst hX (v := 1) rfl dL_adds_313 ?_
      refine xm_goto hX (tgt := 318) dL_adds_314 rfl ?_
      exact xm_zretL hX (by decide) dL_adds_318
def fL_adds_266   (b3 : Int32) (b6 : Int32) (b7 : Int32) (s0 : Int32) (M : xm_M) : Option (Int32 × xm_M) :=
  xm_bi (fX3_cut (1 : Int32) M) (fun x46 M45 => if x46 = (b3 - (1 : Int32)) then xm_bi (fX3_count (5 : Int32) M45) (fun x48 M47 => if s0 = 0 then fL_adds_296 b3 b7 (0 : Int32) b6 x48 M47 else fL_adds_296 b3 b7 (1 : Int32) b6 x48 M47) else some ((0 : Int32), M45))
set_option maxRecDepth 20000 in
theorem tfL_adds_266 {p : Program} {l : Launch} {e : Env} {s : State} {m : MethodId} {args : Array Value} {below : List Frame} {meth : Method} {c : Code} {D : va_G} {g : xm_G} {A : Nat → Prop}  {L : List xm_Sh} (hL : xm_pre L) (hX : xm_X p m meth c cL_adds 9 s args wL_adds RL (some .boolean) D L g A)    : ∀ (b3 : Int32), ∀ (b6 : Int32), ∀ (b7 : Int32), ∀ (s0 : Int32), ∀ (M : xm_M), xm_J p l e ({ frames := 6, cells := 0, slots := 0, locals := 151 }) s m args below meth c 9 D L g A (xm_Z below args s D L g A (xm_Fi g)) 266 [(0, .ref (g.1 0)), (3, .int b3), (6, .int b6), (7, .int b7)] [.int s0] M (fL_adds_266 b3 b6 b7 s0 M) := by
  intro b3 b6 b7 s0 M
  unfold fL_adds_266
  refine xm_istore hX (lv' := [(8, .int s0), (0, .ref (g.1 0)), (3, .int b3), (6, .int b6), (7, .int b7)]) dL_adds_266 (by decide) rfl ?_
  refine xm_aload_n hX 1 dL_adds_268 rfl rfl ?_
  refine xm_iconst hX (v := 1) rfl dL_adds_269 ?_
  refine xm_calli hX (xm_runV hX (k := 0) (ci := 3) (As := (fun g => [.int (1 : Int32)])) (kX3_cut hL (1 : Int32) M) (hL _ _ cL_0) rfl (xm_gV gm_327 gm_328 gm_329 gm_1 gm_330) rfl ⟨rfl, rfl⟩ ⟨rfl, hdX3_cut⟩ ⟨Nat.le_of_ble_eq_true rfl, Nat.le_of_ble_eq_true rfl⟩ rfl (Nat.le_of_ble_eq_true rfl) rfl ⟨Nat.le_of_ble_eq_true rfl, Nat.le_of_ble_eq_true rfl⟩ dL_adds_270) (fun x46 M45 => ?_)
  refine xm_iload_n hX 2 dL_adds_273 rfl rfl ?_
  refine xm_iconst hX (v := 1) rfl dL_adds_274 ?_
  refine xm_isub hX dL_adds_275 ?_
  refine xm_icmp_ne hX (tgt := 317) dL_adds_276 rfl ?_ ?_
  · refine xm_iconst hX (v := 0) rfl dL_adds_317 ?_
    exact xm_zretL hX (by decide) dL_adds_318
  · refine xm_aload_n hX 1 dL_adds_279 rfl rfl ?_
    refine xm_iconst hX (v := 5) rfl dL_adds_280 ?_
    refine xm_calli hX (xm_runV hX (k := 0) (ci := 3) (As := (fun g => [.int (5 : Int32)])) (kX3_count hL (5 : Int32) M45) (hL _ _ cL_0) rfl (xm_gV gm_196 gm_197 gm_198 gm_1 gm_199) rfl ⟨rfl, rfl⟩ ⟨rfl, hdX3_count⟩ ⟨Nat.le_of_ble_eq_true rfl, Nat.le_of_ble_eq_true rfl⟩ rfl (Nat.le_of_ble_eq_true rfl) rfl ⟨Nat.le_of_ble_eq_true rfl, Nat.le_of_ble_eq_true rfl⟩ dL_adds_281) (fun x48 M47 => ?_)
    refine xm_iload hX 3 dL_adds_284 rfl ?_
    refine xm_iload hX 0 dL_adds_286 rfl ?_
    refine xm_if_eq hX (tgt := 295) dL_adds_288 rfl ?_ ?_
    · refine xm_iconst hX (v := 0) rfl dL_adds_295 ?_
      refine xm_weak [1, 2, 4] (lv' := [(0, .ref (g.1 0)), (3, .int b3), (7, .int b7)]) rfl ?_
      exact tfL_adds_296 hL hX b3 b7 (0 : Int32) b6 x48 M47
    · refine xm_iconst hX (v := 1) rfl dL_adds_291 ?_
      refine xm_goto hX (tgt := 296) dL_adds_292 rfl ?_
      refine xm_weak [1, 2, 4] (lv' := [(0, .ref (g.1 0)), (3, .int b3), (7, .int b7)]) rfl ?_
      exact tfL_adds_296 hL hX b3 b7 (1 : Int32) b6 x48 M47
def fL_adds_139    (M : xm_M) : Option (Int32 × xm_M) :=
  some ((1 : Int32), M)
set_option maxRecDepth 20000 in
theorem tfL_adds_139 {p : Program} {l : Launch} {e : Env} {s : State} {m : MethodId} {args : Array Value} {below : List Frame} {meth : Method} {c : Code} {D : va_G} {g : xm_G} {A : Nat → Prop}  {L : List xm_Sh} (hL : xm_pre L) (hX : xm_X p m meth c cL_adds 9 s args wL_adds RL (some .boolean) D L g A)    : ∀ (M : xm_M), xm_J p l e ({ frames := 6, cells := 0, slots := 0, locals := 151 }) s m args below meth c 9 D L g A (xm_Z below args s D L g A (xm_Fi g)) 139 [] [] M (fL_adds_139  M) := by
  intro  M
  unfold fL_adds_139
  refine xm_iconst hX (v := 1) rfl dL_adds_139 ?_
  refine xm_goto hX (tgt := 144) dL_adds_140 rfl ?_
  exact xm_zretL hX (by decide) dL_adds_144
def fL_adds_451    (M : xm_M) : Option (Int32 × xm_M) :=
  some ((1 : Int32), M)
set_option maxRecDepth 20000 in
theorem tfL_adds_451 {p : Program} {l : Launch} {e : Env} {s : State} {m : MethodId} {args : Array Value} {below : List Frame} {meth : Method} {c : Code} {D : va_G} {g : xm_G} {A : Nat → Prop}  {L : List xm_Sh} (hL : xm_pre L) (hX : xm_X p m meth c cL_adds 9 s args wL_adds RL (some .boolean) D L g A)    : ∀ (M : xm_M), xm_J p l e ({ frames := 6, cells := 0, slots := 0, locals := 151 }) s m args below meth c 9 D L g A (xm_Z below args s D L g A (xm_Fi g)) 451 [] [] M (fL_adds_451  M) := by
  intro  M
  unfold fL_adds_451
  refine xm_iconst hX (v := 1) rfl dL_adds_451 ?_
  refine xm_goto hX (tgt := 456) dL_adds_452 rfl ?_
  exact xm_zretL hX (by decide) dL_adds_456
def fL_adds_383   (b3 : Int32) (b4 : Int32) (b6 : Int32) (b7 : Int32) (s0 : Int32) (M : xm_M) : Option (Int32 × xm_M) :=
  xm_bi (fX3_step b6 b7 s0 M) (fun x61 M60 => if x61 = (b3 + (1 : Int32)) then xm_bi (fX3_about b3 (1 : Int32) M60) (fun x63 M62 => if x63 = b6 then xm_bi (fX3_about b3 (2 : Int32) M62) (fun x65 M64 => if x65 = b7 then xm_bi (fX3_about b3 (3 : Int32) M64) (fun x67 M66 => if x67 = s0 then if b3 = 0 then fL_adds_451 M66 else xm_bi (fX3_pose (b3 - (1 : Int32)) (0 : Int32) M66) (fun x69 M68 => if x69 = b4 then fL_adds_451 M68 else some ((0 : Int32), M68)) else some ((0 : Int32), M66)) else some ((0 : Int32), M64)) else some ((0 : Int32), M62)) else some ((0 : Int32), M60))
set_option maxRecDepth 20000 in
theorem tfL_adds_383 {p : Program} {l : Launch} {e : Env} {s : State} {m : MethodId} {args : Array Value} {below : List Frame} {meth : Method} {c : Code} {D : va_G} {g : xm_G} {A : Nat → Prop}  {L : List xm_Sh} (hL : xm_pre L) (hX : xm_X p m meth c cL_adds 9 s args wL_adds RL (some .boolean) D L g A)    : ∀ (b3 : Int32), ∀ (b4 : Int32), ∀ (b6 : Int32), ∀ (b7 : Int32), ∀ (s0 : Int32), ∀ (M : xm_M), xm_J p l e ({ frames := 6, cells := 0, slots := 0, locals := 151 }) s m args below meth c 9 D L g A (xm_Z below args s D L g A (xm_Fi g)) 383 [(0, .ref (g.1 0)), (3, .int b3), (4, .int b4), (6, .int b6), (7, .int b7)] [.int s0] M (fL_adds_383 b3 b4 b6 b7 s0 M) := by
  intro b3 b4 b6 b7 s0 M
  unfold fL_adds_383
  refine xm_istore hX (lv' := [(8, .int s0), (0, .ref (g.1 0)), (3, .int b3), (4, .int b4), (6, .int b6), (7, .int b7)]) dL_adds_383 (by decide) rfl ?_
  refine xm_aload_n hX 1 dL_adds_385 rfl rfl ?_
  refine xm_iload hX 4 dL_adds_386 rfl ?_
  refine xm_iload hX 5 dL_adds_388 rfl ?_
  refine xm_iload hX 0 dL_adds_390 rfl ?_
  refine xm_calli hX (xm_runV hX (k := 0) (ci := 3) (As := (fun g => [.int b6, .int b7, .int s0])) (kX3_step hL b6 b7 s0 M) (hL _ _ cL_0) rfl (xm_gV gm_317 gm_318 gm_319 gm_1 gm_320) rfl ⟨rfl, rfl⟩ ⟨rfl, hdX3_step⟩ ⟨Nat.le_of_ble_eq_true rfl, Nat.le_of_ble_eq_true rfl⟩ rfl (Nat.le_of_ble_eq_true rfl) rfl ⟨Nat.le_of_ble_eq_true rfl, Nat.le_of_ble_eq_true rfl⟩ dL_adds_392) (fun x61 M60 => ?_)
  refine xm_iload_n hX 2 dL_adds_395 rfl rfl ?_
  refine xm_iconst hX (v := 1) rfl dL_adds_396 ?_
  refine xm_iadd hX dL_adds_397 ?_
  refine xm_icmp_ne hX (tgt := 455) dL_adds_398 rfl ?_ ?_
  · refine xm_iconst hX (v := 0) rfl dL_adds_455 ?_
    exact xm_zretL hX (by decide) dL_adds_456
  · refine xm_aload_n hX 1 dL_adds_401 rfl rfl ?_
    refine xm_iload_n hX 2 dL_adds_402 rfl rfl ?_
    refine xm_iconst hX (v := 1) rfl dL_adds_403 ?_
    refine xm_calli hX (xm_runV hX (k := 0) (ci := 3) (As := (fun g => [.int b3, .int (1 : Int32)])) (kX3_about hL b3 (1 : Int32) M60) (hL _ _ cL_0) rfl (xm_gV gm_312 gm_313 gm_314 gm_1 gm_315) rfl ⟨rfl, rfl⟩ ⟨rfl, hdX3_about⟩ ⟨Nat.le_of_ble_eq_true rfl, Nat.le_of_ble_eq_true rfl⟩ rfl (Nat.le_of_ble_eq_true rfl) rfl ⟨Nat.le_of_ble_eq_true rfl, Nat.le_of_ble_eq_true rfl⟩ dL_adds_404) (fun x63 M62 => ?_)
    refine xm_iload hX 4 dL_adds_407 rfl ?_
    refine xm_icmp_ne hX (tgt := 455) dL_adds_409 rfl ?_ ?_
    · refine xm_iconst hX (v := 0) rfl dL_adds_455 ?_
      exact xm_zretL hX (by decide) dL_adds_456
    · refine xm_aload_n hX 1 dL_adds_412 rfl rfl ?_
      refine xm_iload_n hX 2 dL_adds_413 rfl rfl ?_
      refine xm_iconst hX (v := 2) rfl dL_adds_414 ?_
      refine xm_calli hX (xm_runV hX (k := 0) (ci := 3) (As := (fun g => [.int b3, .int (2 : Int32)])) (kX3_about hL b3 (2 : Int32) M62) (hL _ _ cL_0) rfl (xm_gV gm_312 gm_313 gm_314 gm_1 gm_315) rfl ⟨rfl, rfl⟩ ⟨rfl, hdX3_about⟩ ⟨Nat.le_of_ble_eq_true rfl, Nat.le_of_ble_eq_true rfl⟩ rfl (Nat.le_of_ble_eq_true rfl) rfl ⟨Nat.le_of_ble_eq_true rfl, Nat.le_of_ble_eq_true rfl⟩ dL_adds_415) (fun x65 M64 => ?_)
      refine xm_iload hX 5 dL_adds_418 rfl ?_
      refine xm_icmp_ne hX (tgt := 455) dL_adds_420 rfl ?_ ?_
      · refine xm_iconst hX (v := 0) rfl dL_adds_455 ?_
        exact xm_zretL hX (by decide) dL_adds_456
      · refine xm_aload_n hX 1 dL_adds_423 rfl rfl ?_
        refine xm_iload_n hX 2 dL_adds_424 rfl rfl ?_
        refine xm_iconst hX (v := 3) rfl dL_adds_425 ?_
        refine xm_calli hX (xm_runV hX (k := 0) (ci := 3) (As := (fun g => [.int b3, .int (3 : Int32)])) (kX3_about hL b3 (3 : Int32) M64) (hL _ _ cL_0) rfl (xm_gV gm_312 gm_313 gm_314 gm_1 gm_315) rfl ⟨rfl, rfl⟩ ⟨rfl, hdX3_about⟩ ⟨Nat.le_of_ble_eq_true rfl, Nat.le_of_ble_eq_true rfl⟩ rfl (Nat.le_of_ble_eq_true rfl) rfl ⟨Nat.le_of_ble_eq_true rfl, Nat.le_of_ble_eq_true rfl⟩ dL_adds_426) (fun x67 M66 => ?_)
        refine xm_iload hX 0 dL_adds_429 rfl ?_
        refine xm_icmp_ne hX (tgt := 455) dL_adds_431 rfl ?_ ?_
        · refine xm_iconst hX (v := 0) rfl dL_adds_455 ?_
          exact xm_zretL hX (by decide) dL_adds_456
        · refine xm_iload_n hX 2 dL_adds_434 rfl rfl ?_
          refine xm_if_eq hX (tgt := 451) dL_adds_435 rfl ?_ ?_
          · refine xm_weak [] (lv' := []) rfl ?_
            exact tfL_adds_451 hL hX M66
          · refine xm_aload_n hX 1 dL_adds_438 rfl rfl ?_
            refine xm_iload_n hX 2 dL_adds_439 rfl rfl ?_
            refine xm_iconst hX (v := 1) rfl dL_adds_440 ?_
            refine xm_isub hX dL_adds_441 ?_
            refine xm_iconst hX (v := 0) rfl dL_adds_442 ?_
            refine xm_calli hX (xm_runV hX (k := 0) (ci := 3) (As := (fun g => [.int (b3 - (1 : Int32)), .int (0 : Int32)])) (kX3_pose hL (b3 - (1 : Int32)) (0 : Int32) M66) (hL _ _ cL_0) rfl (xm_gV gm_283 gm_284 gm_285 gm_1 gm_286) rfl ⟨rfl, rfl⟩ ⟨rfl, hdX3_pose⟩ ⟨Nat.le_of_ble_eq_true rfl, Nat.le_of_ble_eq_true rfl⟩ rfl (Nat.le_of_ble_eq_true rfl) rfl ⟨Nat.le_of_ble_eq_true rfl, Nat.le_of_ble_eq_true rfl⟩ dL_adds_443) (fun x69 M68 => ?_)
            refine xm_iload hX 3 dL_adds_446 rfl ?_
            refine xm_icmp_ne hX (tgt := 455) dL_adds_448 rfl ?_ ?_
            · refine xm_iconst hX (v := 0) rfl dL_adds_455 ?_
              exact xm_zretL hX (by decide) dL_adds_456
            · refine xm_weak [] (lv' := []) rfl ?_
              exact tfL_adds_451 hL hX M68
def fL_adds_27   (b1 : Int32) (b2 : Int32) (b3 : Int32) (s0 : Int32) (M : xm_M) : Option (Int32 × xm_M) :=
  xm_bi (fX3_pose (b3 - (1 : Int32)) (2 : Int32) M) (fun x6 M5 => xm_bi (fL_up b1 (8 : Int32) M5) (fun x8 M7 => if x8 = 0 then xm_bi (fL_up b2 (3 : Int32) M7) (fun x10 M9 => xm_bi (fX3_see x10 M9) (fun x12 M11 => if x12 = (b3 + (1 : Int32)) then xm_bi (fX3_about b3 (0 : Int32) M11) (fun x14 M13 => if x14 = (4 : Int32) then xm_bi (fX3_about b3 (1 : Int32) M13) (fun x16 M15 => xm_bi (fL_up b2 (3 : Int32) M15) (fun x18 M17 => if x16 = x18 then xm_bi (fX3_pose b3 (2 : Int32) M17) (fun x20 M19 => if x20 = x6 then if b3 = 0 then fL_adds_139 M19 else xm_bi (fX3_pose (b3 - (1 : Int32)) (0 : Int32) M19) (fun x22 M21 => if x22 = s0 then fL_adds_139 M21 else some ((0 : Int32), M21)) else some ((0 : Int32), M19)) else some ((0 : Int32), M17))) else some ((0 : Int32), M13)) else some ((0 : Int32), M11))) else if x8 = 1 then xm_bi (fL_up b2 (6001 : Int32) M7) (fun x25 M24 => xm_bi (fX3_step (0 : Int32) (0 : Int32) (x25 - (3000 : Int32)) M24) (fun x27 M26 => if x27 = (b3 + (1 : Int32)) then xm_bi (fX3_about b3 (0 : Int32) M26) (fun x29 M28 => if x29 = 0 then xm_bi (fX3_pose b3 (0 : Int32) M28) (fun x31 M30 => if x31 = s0 then xm_bi (fX3_pose b3 (2 : Int32) M30) (fun x33 M32 => if x33 = x6 then xm_bi (fX3_about b3 (3 : Int32) M32) (fun x35 M34 => xm_bi (fL_up b2 (6001 : Int32) M34) (fun x37 M36 => if x35 = (x37 - (3000 : Int32)) then some ((1 : Int32), M36) else some ((0 : Int32), M36))) else some ((0 : Int32), M32)) else some ((0 : Int32), M30)) else some ((0 : Int32), M28)) else some ((0 : Int32), M26))) else if x8 = 2 then if (3 : Int32) ≤ b3 then xm_bi (fX3_count (5 : Int32) M7) (fun x40 M39 => xm_bi (fX3_pose (b3 - (2 : Int32)) (0 : Int32) M39) (fun x42 M41 => xm_bi (fX3_about (b3 - (1 : Int32)) (0 : Int32) M41) (fun x44 M43 => if x44 = (4 : Int32) then fL_adds_266 b3 x40 x42 (1 : Int32) M43 else fL_adds_266 b3 x40 x42 (0 : Int32) M43))) else some ((1 : Int32), M7) else xm_bi (fL_up b2 (401 : Int32) M7) (fun x53 M52 => xm_lt (x53 - (200 : Int32)) (fun x54 => xm_bi (fL_up (b2 >>> ((9 : Int32) &&& 31)) (81 : Int32) M52) (fun x56 M55 => xm_lt ((x54 + x56) - (40 : Int32)) (fun x57 => xm_bi (fL_up (b1 >>> ((4 : Int32) &&& 31)) (3 : Int32) M55) (fun x59 M58 => if x59 = 0 then xm_bi (fL_up (b1 >>> ((6 : Int32) &&& 31)) (200001 : Int32) M58) (fun x71 M70 => fL_adds_383 b3 s0 x54 x57 (x71 - (100000 : Int32)) M70) else fL_adds_383 b3 s0 x54 x57 ((x57 - x54) * (900 : Int32)) M58)))))))
set_option maxRecDepth 20000 in
theorem tfL_adds_27 {p : Program} {l : Launch} {e : Env} {s : State} {m : MethodId} {args : Array Value} {below : List Frame} {meth : Method} {c : Code} {D : va_G} {g : xm_G} {A : Nat → Prop}  {L : List xm_Sh} (hL : xm_pre L) (hX : xm_X p m meth c cL_adds 9 s args wL_adds RL (some .boolean) D L g A)    : ∀ (b1 : Int32), ∀ (b2 : Int32), ∀ (b3 : Int32), ∀ (s0 : Int32), ∀ (M : xm_M), xm_J p l e ({ frames := 6, cells := 0, slots := 0, locals := 151 }) s m args below meth c 9 D L g A (xm_Z below args s D L g A (xm_Fi g)) 27 [(0, .ref (g.1 0)), (1, .int b1), (2, .int b2), (3, .int b3)] [.int s0] M (fL_adds_27 b1 b2 b3 s0 M) := by
  intro b1 b2 b3 s0 M
  unfold fL_adds_27
  refine xm_istore hX (lv' := [(4, .int s0), (0, .ref (g.1 0)), (1, .int b1), (2, .int b2), (3, .int b3)]) dL_adds_27 (by decide) rfl ?_
  refine xm_aload_n hX 1 dL_adds_29 rfl rfl ?_
  refine xm_iload_n hX 4 dL_adds_30 rfl rfl ?_
  refine xm_iconst hX (v := 1) rfl dL_adds_31 ?_
  refine xm_isub hX dL_adds_32 ?_
  refine xm_iconst hX (v := 2) rfl dL_adds_33 ?_
  refine xm_calli hX (xm_runV hX (k := 0) (ci := 3) (As := (fun g => [.int (b3 - (1 : Int32)), .int (2 : Int32)])) (kX3_pose hL (b3 - (1 : Int32)) (2 : Int32) M) (hL _ _ cL_0) rfl (xm_gV gm_283 gm_284 gm_285 gm_1 gm_286) rfl ⟨rfl, rfl⟩ ⟨rfl, hdX3_pose⟩ ⟨Nat.le_of_ble_eq_true rfl, Nat.le_of_ble_eq_true rfl⟩ rfl (Nat.le_of_ble_eq_true rfl) rfl ⟨Nat.le_of_ble_eq_true rfl, Nat.le_of_ble_eq_true rfl⟩ dL_adds_34) (fun x6 M5 => ?_)
  refine xm_istore hX (lv' := [(5, .int x6), (4, .int s0), (0, .ref (g.1 0)), (1, .int b1), (2, .int b2), (3, .int b3)]) dL_adds_37 (by decide) rfl ?_
  refine xm_iload_n hX 3 dL_adds_39 rfl rfl ?_
  refine xm_bipush hX (v := 8) rfl dL_adds_40 ?_
  refine xm_calli hX (xm_runS hX (As := (fun g => [.int b1, .int (8 : Int32)])) (kL_up hL b1 (8 : Int32) M5) (xm_gS gm_189 gm_190 gm_0 gm_191) rfl ⟨rfl, rfl⟩ hdL_up ⟨Nat.le_of_ble_eq_true rfl, Nat.le_of_ble_eq_true rfl⟩ rfl (Nat.le_of_ble_eq_true rfl) rfl ⟨Nat.le_of_ble_eq_true rfl, Nat.le_of_ble_eq_true rfl⟩ dL_adds_42) (fun x8 M7 => ?_)
  refine xm_ite (fun z23 => ?_) (fun z23 => ?_)
  · refine xm_tsIn hX (tgt := 72) dL_adds_45 z23 (by decide) (by decide) rfl rfl ?_
    refine xm_aload_n hX 2 dL_adds_72 rfl rfl ?_
    refine xm_iload_n hX 4 dL_adds_73 rfl rfl ?_
    refine xm_iconst hX (v := 3) rfl dL_adds_74 ?_
    refine xm_calli hX (xm_runS hX (As := (fun g => [.int b2, .int (3 : Int32)])) (kL_up hL b2 (3 : Int32) M7) (xm_gS gm_189 gm_190 gm_0 gm_191) rfl ⟨rfl, rfl⟩ hdL_up ⟨Nat.le_of_ble_eq_true rfl, Nat.le_of_ble_eq_true rfl⟩ rfl (Nat.le_of_ble_eq_true rfl) rfl ⟨Nat.le_of_ble_eq_true rfl, Nat.le_of_ble_eq_true rfl⟩ dL_adds_75) (fun x10 M9 => ?_)
    refine xm_calli hX (xm_runV hX (k := 0) (ci := 3) (As := (fun g => [.int x10])) (kX3_see hL x10 M9) (hL _ _ cL_0) rfl (xm_gV gm_304 gm_305 gm_306 gm_1 gm_307) rfl ⟨rfl, rfl⟩ ⟨rfl, hdX3_see⟩ ⟨Nat.le_of_ble_eq_true rfl, Nat.le_of_ble_eq_true rfl⟩ rfl (Nat.le_of_ble_eq_true rfl) rfl ⟨Nat.le_of_ble_eq_true rfl, Nat.le_of_ble_eq_true rfl⟩ dL_adds_78) (fun x12 M11 => ?_)
    refine xm_iload_n hX 5 dL_adds_81 rfl rfl ?_
    refine xm_iconst hX (v := 1) rfl dL_adds_82 ?_
    refine xm_iadd hX dL_adds_83 ?_
    refine xm_icmp_ne hX (tgt := 143) dL_adds_84 rfl ?_ ?_
    · refine xm_iconst hX (v := 0) rfl dL_adds_143 ?_
      exact xm_zretL hX (by decide) dL_adds_144
    · refine xm_aload_n hX 2 dL_adds_87 rfl rfl ?_
      refine xm_iload_n hX 5 dL_adds_88 rfl rfl ?_
      refine xm_iconst hX (v := 0) rfl dL_adds_89 ?_
      refine xm_calli hX (xm_runV hX (k := 0) (ci := 3) (As := (fun g => [.int b3, .int (0 : Int32)])) (kX3_about hL b3 (0 : Int32) M11) (hL _ _ cL_0) rfl (xm_gV gm_312 gm_313 gm_314 gm_1 gm_315) rfl ⟨rfl, rfl⟩ ⟨rfl, hdX3_about⟩ ⟨Nat.le_of_ble_eq_true rfl, Nat.le_of_ble_eq_true rfl⟩ rfl (Nat.le_of_ble_eq_true rfl) rfl ⟨Nat.le_of_ble_eq_true rfl, Nat.le_of_ble_eq_true rfl⟩ dL_adds_90) (fun x14 M13 => ?_)
      refine xm_iconst hX (v := 4) rfl dL_adds_93 ?_
      refine xm_icmp_ne hX (tgt := 143) dL_adds_94 rfl ?_ ?_
      · refine xm_iconst hX (v := 0) rfl dL_adds_143 ?_
        exact xm_zretL hX (by decide) dL_adds_144
      · refine xm_aload_n hX 2 dL_adds_97 rfl rfl ?_
        refine xm_iload_n hX 5 dL_adds_98 rfl rfl ?_
        refine xm_iconst hX (v := 1) rfl dL_adds_99 ?_
        refine xm_calli hX (xm_runV hX (k := 0) (ci := 3) (As := (fun g => [.int b3, .int (1 : Int32)])) (kX3_about hL b3 (1 : Int32) M13) (hL _ _ cL_0) rfl (xm_gV gm_312 gm_313 gm_314 gm_1 gm_315) rfl ⟨rfl, rfl⟩ ⟨rfl, hdX3_about⟩ ⟨Nat.le_of_ble_eq_true rfl, Nat.le_of_ble_eq_true rfl⟩ rfl (Nat.le_of_ble_eq_true rfl) rfl ⟨Nat.le_of_ble_eq_true rfl, Nat.le_of_ble_eq_true rfl⟩ dL_adds_100) (fun x16 M15 => ?_)
        refine xm_iload_n hX 4 dL_adds_103 rfl rfl ?_
        refine xm_iconst hX (v := 3) rfl dL_adds_104 ?_
        refine xm_calli hX (xm_runS hX (As := (fun g => [.int b2, .int (3 : Int32)])) (kL_up hL b2 (3 : Int32) M15) (xm_gS gm_189 gm_190 gm_0 gm_191) rfl ⟨rfl, rfl⟩ hdL_up ⟨Nat.le_of_ble_eq_true rfl, Nat.le_of_ble_eq_true rfl⟩ rfl (Nat.le_of_ble_eq_true rfl) rfl ⟨Nat.le_of_ble_eq_true rfl, Nat.le_of_ble_eq_true rfl⟩ dL_adds_105) (fun x18 M17 => ?_)
        refine xm_icmp_ne hX (tgt := 143) dL_adds_108 rfl ?_ ?_
        · refine xm_iconst hX (v := 0) rfl dL_adds_143 ?_
          exact xm_zretL hX (by decide) dL_adds_144
        · refine xm_aload_n hX 2 dL_adds_111 rfl rfl ?_
          refine xm_iload_n hX 5 dL_adds_112 rfl rfl ?_
          refine xm_iconst hX (v := 2) rfl dL_adds_113 ?_
          refine xm_calli hX (xm_runV hX (k := 0) (ci := 3) (As := (fun g => [.int b3, .int (2 : Int32)])) (kX3_pose hL b3 (2 : Int32) M17) (hL _ _ cL_0) rfl (xm_gV gm_283 gm_284 gm_285 gm_1 gm_286) rfl ⟨rfl, rfl⟩ ⟨rfl, hdX3_pose⟩ ⟨Nat.le_of_ble_eq_true rfl, Nat.le_of_ble_eq_true rfl⟩ rfl (Nat.le_of_ble_eq_true rfl) rfl ⟨Nat.le_of_ble_eq_true rfl, Nat.le_of_ble_eq_true rfl⟩ dL_adds_114) (fun x20 M19 => ?_)
          refine xm_iload hX 0 dL_adds_117 rfl ?_
          refine xm_icmp_ne hX (tgt := 143) dL_adds_119 rfl ?_ ?_
          · refine xm_iconst hX (v := 0) rfl dL_adds_143 ?_
            exact xm_zretL hX (by decide) dL_adds_144
          · refine xm_iload_n hX 5 dL_adds_122 rfl rfl ?_
            refine xm_if_eq hX (tgt := 139) dL_adds_123 rfl ?_ ?_
            · refine xm_weak [] (lv' := []) rfl ?_
              exact tfL_adds_139 hL hX M19
            · refine xm_aload_n hX 2 dL_adds_126 rfl rfl ?_
              refine xm_iload_n hX 5 dL_adds_127 rfl rfl ?_
              refine xm_iconst hX (v := 1) rfl dL_adds_128 ?_
              refine xm_isub hX dL_adds_129 ?_
              refine xm_iconst hX (v := 0) rfl dL_adds_130 ?_
              refine xm_calli hX (xm_runV hX (k := 0) (ci := 3) (As := (fun g => [.int (b3 - (1 : Int32)), .int (0 : Int32)])) (kX3_pose hL (b3 - (1 : Int32)) (0 : Int32) M19) (hL _ _ cL_0) rfl (xm_gV gm_283 gm_284 gm_285 gm_1 gm_286) rfl ⟨rfl, rfl⟩ ⟨rfl, hdX3_pose⟩ ⟨Nat.le_of_ble_eq_true rfl, Nat.le_of_ble_eq_true rfl⟩ rfl (Nat.le_of_ble_eq_true rfl) rfl ⟨Nat.le_of_ble_eq_true rfl, Nat.le_of_ble_eq_true rfl⟩ dL_adds_131) (fun x22 M21 => ?_)
              refine xm_iload hX 1 dL_adds_134 rfl ?_
              refine xm_icmp_ne hX (tgt := 143) dL_adds_136 rfl ?_ ?_
              · refine xm_iconst hX (v := 0) rfl dL_adds_143 ?_
                exact xm_zretL hX (by decide) dL_adds_144
              · refine xm_weak [] (lv' := []) rfl ?_
                exact tfL_adds_139 hL hX M21
  refine xm_ite (fun z38 => ?_) (fun z38 => ?_)
  · refine xm_tsIn hX (tgt := 145) dL_adds_45 z38 (by decide) (by decide) rfl rfl ?_
    refine xm_aload_n hX 2 dL_adds_145 rfl rfl ?_
    refine xm_iconst hX (v := 0) rfl dL_adds_146 ?_
    refine xm_iconst hX (v := 0) rfl dL_adds_147 ?_
    refine xm_iload_n hX 4 dL_adds_148 rfl rfl ?_
    refine xm_sipush hX (v := 6001) rfl dL_adds_149 ?_
    refine xm_calli hX (xm_runS hX (As := (fun g => [.int b2, .int (6001 : Int32)])) (kL_up hL b2 (6001 : Int32) M7) (xm_gS gm_189 gm_190 gm_0 gm_191) rfl ⟨rfl, rfl⟩ hdL_up ⟨Nat.le_of_ble_eq_true rfl, Nat.le_of_ble_eq_true rfl⟩ rfl (Nat.le_of_ble_eq_true rfl) rfl ⟨Nat.le_of_ble_eq_true rfl, Nat.le_of_ble_eq_true rfl⟩ dL_adds_152) (fun x25 M24 => ?_)
    refine xm_sipush hX (v := 3000) rfl dL_adds_155 ?_
    refine xm_isub hX dL_adds_158 ?_
    refine xm_calli hX (xm_runV hX (k := 0) (ci := 3) (As := (fun g => [.int (0 : Int32), .int (0 : Int32), .int (x25 - (3000 : Int32))])) (kX3_step hL (0 : Int32) (0 : Int32) (x25 - (3000 : Int32)) M24) (hL _ _ cL_0) rfl (xm_gV gm_317 gm_318 gm_319 gm_1 gm_320) rfl ⟨rfl, rfl⟩ ⟨rfl, hdX3_step⟩ ⟨Nat.le_of_ble_eq_true rfl, Nat.le_of_ble_eq_true rfl⟩ rfl (Nat.le_of_ble_eq_true rfl) rfl ⟨Nat.le_of_ble_eq_true rfl, Nat.le_of_ble_eq_true rfl⟩ dL_adds_159) (fun x27 M26 => ?_)
    refine xm_iload_n hX 5 dL_adds_162 rfl rfl ?_
    refine xm_iconst hX (v := 1) rfl dL_adds_163 ?_
    refine xm_iadd hX dL_adds_164 ?_
    refine xm_icmp_ne hX (tgt := 223) dL_adds_165 rfl ?_ ?_
    · refine xm_iconst hX (v := 0) rfl dL_adds_223 ?_
      exact xm_zretL hX (by decide) dL_adds_224
    · refine xm_aload_n hX 2 dL_adds_168 rfl rfl ?_
      refine xm_iload_n hX 5 dL_adds_169 rfl rfl ?_
      refine xm_iconst hX (v := 0) rfl dL_adds_170 ?_
      refine xm_calli hX (xm_runV hX (k := 0) (ci := 3) (As := (fun g => [.int b3, .int (0 : Int32)])) (kX3_about hL b3 (0 : Int32) M26) (hL _ _ cL_0) rfl (xm_gV gm_312 gm_313 gm_314 gm_1 gm_315) rfl ⟨rfl, rfl⟩ ⟨rfl, hdX3_about⟩ ⟨Nat.le_of_ble_eq_true rfl, Nat.le_of_ble_eq_true rfl⟩ rfl (Nat.le_of_ble_eq_true rfl) rfl ⟨Nat.le_of_ble_eq_true rfl, Nat.le_of_ble_eq_true rfl⟩ dL_adds_171) (fun x29 M28 => ?_)
      refine xm_if_ne hX (tgt := 223) dL_adds_174 rfl ?_ ?_
      · refine xm_iconst hX (v := 0) rfl dL_adds_223 ?_
        exact xm_zretL hX (by decide) dL_adds_224
      · refine xm_aload_n hX 2 dL_adds_177 rfl rfl ?_
        refine xm_iload_n hX 5 dL_adds_178 rfl rfl ?_
        refine xm_iconst hX (v := 0) rfl dL_adds_179 ?_
        refine xm_calli hX (xm_runV hX (k := 0) (ci := 3) (As := (fun g => [.int b3, .int (0 : Int32)])) (kX3_pose hL b3 (0 : Int32) M28) (hL _ _ cL_0) rfl (xm_gV gm_283 gm_284 gm_285 gm_1 gm_286) rfl ⟨rfl, rfl⟩ ⟨rfl, hdX3_pose⟩ ⟨Nat.le_of_ble_eq_true rfl, Nat.le_of_ble_eq_true rfl⟩ rfl (Nat.le_of_ble_eq_true rfl) rfl ⟨Nat.le_of_ble_eq_true rfl, Nat.le_of_ble_eq_true rfl⟩ dL_adds_180) (fun x31 M30 => ?_)
        refine xm_iload hX 1 dL_adds_183 rfl ?_
        refine xm_icmp_ne hX (tgt := 223) dL_adds_185 rfl ?_ ?_
        · refine xm_iconst hX (v := 0) rfl dL_adds_223 ?_
          exact xm_zretL hX (by decide) dL_adds_224
        · refine xm_aload_n hX 2 dL_adds_188 rfl rfl ?_
          refine xm_iload_n hX 5 dL_adds_189 rfl rfl ?_
          refine xm_iconst hX (v := 2) rfl dL_adds_190 ?_
          refine xm_calli hX (xm_runV hX (k := 0) (ci := 3) (As := (fun g => [.int b3, .int (2 : Int32)])) (kX3_pose hL b3 (2 : Int32) M30) (hL _ _ cL_0) rfl (xm_gV gm_283 gm_284 gm_285 gm_1 gm_286) rfl ⟨rfl, rfl⟩ ⟨rfl, hdX3_pose⟩ ⟨Nat.le_of_ble_eq_true rfl, Nat.le_of_ble_eq_true rfl⟩ rfl (Nat.le_of_ble_eq_true rfl) rfl ⟨Nat.le_of_ble_eq_true rfl, Nat.le_of_ble_eq_true rfl⟩ dL_adds_191) (fun x33 M32 => ?_)
          refine xm_iload hX 0 dL_adds_194 rfl ?_
          refine xm_icmp_ne hX (tgt := 223) dL_adds_196 rfl ?_ ?_
          · refine xm_iconst hX (v := 0) rfl dL_adds_223 ?_
            exact xm_zretL hX (by decide) dL_adds_224
          · refine xm_aload_n hX 2 dL_adds_199 rfl rfl ?_
            refine xm_iload_n hX 5 dL_adds_200 rfl rfl ?_
            refine xm_iconst hX (v := 3) rfl dL_adds_201 ?_
            refine xm_calli hX (xm_runV hX (k := 0) (ci := 3) (As := (fun g => [.int b3, .int (3 : Int32)])) (kX3_about hL b3 (3 : Int32) M32) (hL _ _ cL_0) rfl (xm_gV gm_312 gm_313 gm_314 gm_1 gm_315) rfl ⟨rfl, rfl⟩ ⟨rfl, hdX3_about⟩ ⟨Nat.le_of_ble_eq_true rfl, Nat.le_of_ble_eq_true rfl⟩ rfl (Nat.le_of_ble_eq_true rfl) rfl ⟨Nat.le_of_ble_eq_true rfl, Nat.le_of_ble_eq_true rfl⟩ dL_adds_202) (fun x35 M34 => ?_)
            refine xm_iload_n hX 4 dL_adds_205 rfl rfl ?_
            refine xm_sipush hX (v := 6001) rfl dL_adds_206 ?_
            refine xm_calli hX (xm_runS hX (As := (fun g => [.int b2, .int (6001 : Int32)])) (kL_up hL b2 (6001 : Int32) M34) (xm_gS gm_189 gm_190 gm_0 gm_191) rfl ⟨rfl, rfl⟩ hdL_up ⟨Nat.le_of_ble_eq_true rfl, Nat.le_of_ble_eq_true rfl⟩ rfl (Nat.le_of_ble_eq_true rfl) rfl ⟨Nat.le_of_ble_eq_true rfl, Nat.le_of_ble_eq_true rfl⟩ dL_adds_209) (fun x37 M36 => ?_)
            refine xm_sipush hX (v := 3000) rfl dL_adds_212 ?_
            refine xm_isub hX dL_adds_215 ?_
            refine xm_icmp_ne hX (tgt := 223) dL_adds_216 rfl ?_ ?_
            · refine xm_iconst hX (v := 0) rfl dL_adds_223 ?_
              exact xm_zretL hX (by decide) dL_adds_224
            · refine xm_iconst hX (v := 1) rfl dL_adds_219 ?_
              refine xm_goto hX (tgt := 224) dL_adds_220 rfl ?_
              exact xm_zretL hX (by decide) dL_adds_224
  refine xm_ite (fun z51 => ?_) (fun z51 => ?_)
  · refine xm_tsIn hX (tgt := 225) dL_adds_45 z51 (by decide) (by decide) rfl rfl ?_
    refine xm_iload_n hX 5 dL_adds_225 rfl rfl ?_
    refine xm_iconst hX (v := 3) rfl dL_adds_226 ?_
    refine xm_icmp_ge hX (tgt := 232) dL_adds_227 rfl ?_ ?_
    · refine xm_aload_n hX 2 dL_adds_232 rfl rfl ?_
      refine xm_iconst hX (v := 5) rfl dL_adds_233 ?_
      refine xm_calli hX (xm_runV hX (k := 0) (ci := 3) (As := (fun g => [.int (5 : Int32)])) (kX3_count hL (5 : Int32) M7) (hL _ _ cL_0) rfl (xm_gV gm_196 gm_197 gm_198 gm_1 gm_199) rfl ⟨rfl, rfl⟩ ⟨rfl, hdX3_count⟩ ⟨Nat.le_of_ble_eq_true rfl, Nat.le_of_ble_eq_true rfl⟩ rfl (Nat.le_of_ble_eq_true rfl) rfl ⟨Nat.le_of_ble_eq_true rfl, Nat.le_of_ble_eq_true rfl⟩ dL_adds_234) (fun x40 M39 => ?_)
      refine xm_istore hX (lv' := [(6, .int x40), (5, .int x6), (4, .int s0), (0, .ref (g.1 0)), (1, .int b1), (2, .int b2), (3, .int b3)]) dL_adds_237 (by decide) rfl ?_
      refine xm_aload_n hX 3 dL_adds_239 rfl rfl ?_
      refine xm_iload_n hX 6 dL_adds_240 rfl rfl ?_
      refine xm_iconst hX (v := 2) rfl dL_adds_241 ?_
      refine xm_isub hX dL_adds_242 ?_
      refine xm_iconst hX (v := 0) rfl dL_adds_243 ?_
      refine xm_calli hX (xm_runV hX (k := 0) (ci := 3) (As := (fun g => [.int (b3 - (2 : Int32)), .int (0 : Int32)])) (kX3_pose hL (b3 - (2 : Int32)) (0 : Int32) M39) (hL _ _ cL_0) rfl (xm_gV gm_283 gm_284 gm_285 gm_1 gm_286) rfl ⟨rfl, rfl⟩ ⟨rfl, hdX3_pose⟩ ⟨Nat.le_of_ble_eq_true rfl, Nat.le_of_ble_eq_true rfl⟩ rfl (Nat.le_of_ble_eq_true rfl) rfl ⟨Nat.le_of_ble_eq_true rfl, Nat.le_of_ble_eq_true rfl⟩ dL_adds_244) (fun x42 M41 => ?_)
      refine xm_istore hX (lv' := [(7, .int x42), (6, .int x40), (5, .int x6), (4, .int s0), (0, .ref (g.1 0)), (1, .int b1), (2, .int b2), (3, .int b3)]) dL_adds_247 (by decide) rfl ?_
      refine xm_aload_n hX 4 dL_adds_249 rfl rfl ?_
      refine xm_iload_n hX 7 dL_adds_250 rfl rfl ?_
      refine xm_iconst hX (v := 1) rfl dL_adds_251 ?_
      refine xm_isub hX dL_adds_252 ?_
      refine xm_iconst hX (v := 0) rfl dL_adds_253 ?_
      refine xm_calli hX (xm_runV hX (k := 0) (ci := 3) (As := (fun g => [.int (b3 - (1 : Int32)), .int (0 : Int32)])) (kX3_about hL (b3 - (1 : Int32)) (0 : Int32) M41) (hL _ _ cL_0) rfl (xm_gV gm_312 gm_313 gm_314 gm_1 gm_315) rfl ⟨rfl, rfl⟩ ⟨rfl, hdX3_about⟩ ⟨Nat.le_of_ble_eq_true rfl, Nat.le_of_ble_eq_true rfl⟩ rfl (Nat.le_of_ble_eq_true rfl) rfl ⟨Nat.le_of_ble_eq_true rfl, Nat.le_of_ble_eq_true rfl⟩ dL_adds_254) (fun x44 M43 => ?_)
      refine xm_iconst hX (v := 4) rfl dL_adds_257 ?_
      refine xm_icmp_ne hX (tgt := 265) dL_adds_258 rfl ?_ ?_
      · refine xm_iconst hX (v := 0) rfl dL_adds_265 ?_
        refine xm_weak [4, 7, 1, 0] (lv' := [(0, .ref (g.1 0)), (3, .int b3), (6, .int x40), (7, .int x42)]) rfl ?_
        exact tfL_adds_266 hL hX b3 x40 x42 (0 : Int32) M43
      · refine xm_iconst hX (v := 1) rfl dL_adds_261 ?_
        refine xm_goto hX (tgt := 266) dL_adds_262 rfl ?_
        refine xm_weak [4, 7, 1, 0] (lv' := [(0, .ref (g.1 0)), (3, .int b3), (6, .int x40), (7, .int x42)]) rfl ?_
        exact tfL_adds_266 hL hX b3 x40 x42 (1 : Int32) M43
    · refine xm_iconst hX (v := 1) rfl dL_adds_230 ?_
      exact xm_zretL hX (by decide) dL_adds_231
  refine xm_tsOut hX (tgt := 319) dL_adds_45 (by have qz23 := lv_neT (a := 0) z23 rfl; have qz38 := lv_neT (a := 1) z38 rfl; have qz51 := lv_neT (a := 2) z51 rfl; omega) rfl ?_
  refine xm_iload_n hX 4 dL_adds_319 rfl rfl ?_
  refine xm_sipush hX (v := 401) rfl dL_adds_320 ?_
  refine xm_calli hX (xm_runS hX (As := (fun g => [.int b2, .int (401 : Int32)])) (kL_up hL b2 (401 : Int32) M7) (xm_gS gm_189 gm_190 gm_0 gm_191) rfl ⟨rfl, rfl⟩ hdL_up ⟨Nat.le_of_ble_eq_true rfl, Nat.le_of_ble_eq_true rfl⟩ rfl (Nat.le_of_ble_eq_true rfl) rfl ⟨Nat.le_of_ble_eq_true rfl, Nat.le_of_ble_eq_true rfl⟩ dL_adds_323) (fun x53 M52 => ?_)
  refine xm_sipush hX (v := 200) rfl dL_adds_326 ?_
  refine xm_isub hX dL_adds_329 ?_
  refine xm_nmi (fun x54 => ?_)
  refine xm_istore hX (lv' := [(6, .int x54), (5, .int x6), (4, .int s0), (0, .ref (g.1 0)), (1, .int b1), (2, .int b2), (3, .int b3)]) dL_adds_330 (by decide) rfl ?_
  refine xm_iload hX 0 dL_adds_332 rfl ?_
  refine xm_iload_n hX 5 dL_adds_334 rfl rfl ?_
  refine xm_bipush hX (v := 9) rfl dL_adds_335 ?_
  refine xm_ishr hX dL_adds_337 ?_
  refine xm_bipush hX (v := 81) rfl dL_adds_338 ?_
  refine xm_calli hX (xm_runS hX (As := (fun g => [.int (b2 >>> ((9 : Int32) &&& 31)), .int (81 : Int32)])) (kL_up hL (b2 >>> ((9 : Int32) &&& 31)) (81 : Int32) M52) (xm_gS gm_189 gm_190 gm_0 gm_191) rfl ⟨rfl, rfl⟩ hdL_up ⟨Nat.le_of_ble_eq_true rfl, Nat.le_of_ble_eq_true rfl⟩ rfl (Nat.le_of_ble_eq_true rfl) rfl ⟨Nat.le_of_ble_eq_true rfl, Nat.le_of_ble_eq_true rfl⟩ dL_adds_340) (fun x56 M55 => ?_)
  refine xm_iadd hX dL_adds_343 ?_
  refine xm_bipush hX (v := 40) rfl dL_adds_344 ?_
  refine xm_isub hX dL_adds_346 ?_
  refine xm_nmi (fun x57 => ?_)
  refine xm_istore hX (lv' := [(7, .int x57), (6, .int x54), (5, .int x6), (4, .int s0), (0, .ref (g.1 0)), (1, .int b1), (2, .int b2), (3, .int b3)]) dL_adds_347 (by decide) rfl ?_
  refine xm_iload_n hX 5 dL_adds_349 rfl rfl ?_
  refine xm_iconst hX (v := 4) rfl dL_adds_350 ?_
  refine xm_ishr hX dL_adds_351 ?_
  refine xm_iconst hX (v := 3) rfl dL_adds_352 ?_
  refine xm_calli hX (xm_runS hX (As := (fun g => [.int (b1 >>> ((4 : Int32) &&& 31)), .int (3 : Int32)])) (kL_up hL (b1 >>> ((4 : Int32) &&& 31)) (3 : Int32) M55) (xm_gS gm_189 gm_190 gm_0 gm_191) rfl ⟨rfl, rfl⟩ hdL_up ⟨Nat.le_of_ble_eq_true rfl, Nat.le_of_ble_eq_true rfl⟩ rfl (Nat.le_of_ble_eq_true rfl) rfl ⟨Nat.le_of_ble_eq_true rfl, Nat.le_of_ble_eq_true rfl⟩ dL_adds_353) (fun x59 M58 => ?_)
  refine xm_if_ne hX (tgt := 374) dL_adds_356 rfl ?_ ?_
  · refine xm_iload hX 0 dL_adds_374 rfl ?_
    refine xm_iload hX 1 dL_adds_376 rfl ?_
    refine xm_isub hX dL_adds_378 ?_
    refine xm_sipush hX (v := 900) rfl dL_adds_379 ?_
    refine xm_imul hX dL_adds_382 ?_
    refine xm_weak [4, 7, 3, 1, 0] (lv' := [(0, .ref (g.1 0)), (3, .int b3), (4, .int s0), (6, .int x54), (7, .int x57)]) rfl ?_
    exact tfL_adds_383 hL hX b3 s0 x54 x57 ((x57 - x54) * (900 : Int32)) M58
  · refine xm_iload_n hX 5 dL_adds_359 rfl rfl ?_
    refine xm_bipush hX (v := 6) rfl dL_adds_360 ?_
    refine xm_ishr hX dL_adds_362 ?_
    refine xm_ldc hX (v := 200001) (List.mem_cons_of_mem _ gm_331) dL_adds_363 ?_
    refine xm_calli hX (xm_runS hX (As := (fun g => [.int (b1 >>> ((6 : Int32) &&& 31)), .int (200001 : Int32)])) (kL_up hL (b1 >>> ((6 : Int32) &&& 31)) (200001 : Int32) M58) (xm_gS gm_189 gm_190 gm_0 gm_191) rfl ⟨rfl, rfl⟩ hdL_up ⟨Nat.le_of_ble_eq_true rfl, Nat.le_of_ble_eq_true rfl⟩ rfl (Nat.le_of_ble_eq_true rfl) rfl ⟨Nat.le_of_ble_eq_true rfl, Nat.le_of_ble_eq_true rfl⟩ dL_adds_365) (fun x71 M70 => ?_)
    refine xm_ldc hX (v := 100000) (List.mem_cons_of_mem _ gm_332) dL_adds_368 ?_
    refine xm_isub hX dL_adds_370 ?_
    refine xm_goto hX (tgt := 383) dL_adds_371 rfl ?_
    refine xm_weak [4, 7, 3, 1, 0] (lv' := [(0, .ref (g.1 0)), (3, .int b3), (4, .int s0), (6, .int x54), (7, .int x57)]) rfl ?_
    exact tfL_adds_383 hL hX b3 s0 x54 x57 (x71 - (100000 : Int32)) M70
def fL_adds  (a1 : Int32) (a2 : Int32) (M : xm_M) : Option (Int32 × xm_M) :=
  xm_bi (fX3_count (0 : Int32) M) (fun x2 M1 => if x2 = 0 then xm_bi (fX3_pose (-1 : Int32) (0 : Int32) M1) (fun x73 M72 => fL_adds_27 a1 a2 x2 x73 M72) else xm_bi (fX3_pose (x2 - (1 : Int32)) (0 : Int32) M1) (fun x4 M3 => fL_adds_27 a1 a2 x2 x4 M3))
set_option maxRecDepth 20000 in
theorem kL_adds {l : Launch} {L : List xm_Sh} (hL : xm_pre L)   (a1 : Int32) (a2 : Int32) (M : xm_M) : xm_C l yL_adds wL_adds ({ frames := 6, cells := 0, slots := 0, locals := 151 }) L (fun g => [.ref (g.1 0), .int a1, .int a2]) M xm_Fi (fL_adds  a1 a2 M) := by
  refine xm_C.of (by decide) rfl (fun g => Nat.le_of_ble_eq_true rfl) ?_
  intro p e s m args below meth c D g A hX
  refine xm_lv (lv' := [(0, .ref (g.1 0)), (1, .int a1), (2, .int a2)]) rfl ?_
  unfold fL_adds
  refine xm_aload_n hX 0 dL_adds_0 rfl rfl ?_
  refine xm_iconst hX (v := 0) rfl dL_adds_1 ?_
  refine xm_calli hX (xm_runV hX (k := 0) (ci := 3) (As := (fun g => [.int (0 : Int32)])) (kX3_count hL (0 : Int32) M) (hL _ _ cL_0) rfl (xm_gV gm_196 gm_197 gm_198 gm_1 gm_199) rfl ⟨rfl, rfl⟩ ⟨rfl, hdX3_count⟩ ⟨Nat.le_of_ble_eq_true rfl, Nat.le_of_ble_eq_true rfl⟩ rfl (Nat.le_of_ble_eq_true rfl) rfl ⟨Nat.le_of_ble_eq_true rfl, Nat.le_of_ble_eq_true rfl⟩ dL_adds_2) (fun x2 M1 => ?_)
  refine xm_istore_n hX (lv' := [(3, .int x2), (0, .ref (g.1 0)), (1, .int a1), (2, .int a2)]) dL_adds_5 rfl (by decide) rfl ?_
  refine xm_iload_n hX 0 dL_adds_6 rfl rfl ?_
  refine xm_if_ne hX (tgt := 19) dL_adds_7 rfl ?_ ?_
  · refine xm_aload_n hX 1 dL_adds_19 rfl rfl ?_
    refine xm_iload_n hX 0 dL_adds_20 rfl rfl ?_
    refine xm_iconst hX (v := 1) rfl dL_adds_21 ?_
    refine xm_isub hX dL_adds_22 ?_
    refine xm_iconst hX (v := 0) rfl dL_adds_23 ?_
    refine xm_calli hX (xm_runV hX (k := 0) (ci := 3) (As := (fun g => [.int (x2 - (1 : Int32)), .int (0 : Int32)])) (kX3_pose hL (x2 - (1 : Int32)) (0 : Int32) M1) (hL _ _ cL_0) rfl (xm_gV gm_283 gm_284 gm_285 gm_1 gm_286) rfl ⟨rfl, rfl⟩ ⟨rfl, hdX3_pose⟩ ⟨Nat.le_of_ble_eq_true rfl, Nat.le_of_ble_eq_true rfl⟩ rfl (Nat.le_of_ble_eq_true rfl) rfl ⟨Nat.le_of_ble_eq_true rfl, Nat.le_of_ble_eq_true rfl⟩ dL_adds_24) (fun x4 M3 => ?_)
    refine xm_weak [1, 2, 3, 0] (lv' := [(0, .ref (g.1 0)), (1, .int a1), (2, .int a2), (3, .int x2)]) rfl ?_
    exact tfL_adds_27 hL hX a1 a2 x2 x4 M3
  · refine xm_aload_n hX 1 dL_adds_10 rfl rfl ?_
    refine xm_iconst hX (v := -1) rfl dL_adds_11 ?_
    refine xm_iconst hX (v := 0) rfl dL_adds_12 ?_
    refine xm_calli hX (xm_runV hX (k := 0) (ci := 3) (As := (fun g => [.int (-1 : Int32), .int (0 : Int32)])) (kX3_pose hL (-1 : Int32) (0 : Int32) M1) (hL _ _ cL_0) rfl (xm_gV gm_283 gm_284 gm_285 gm_1 gm_286) rfl ⟨rfl, rfl⟩ ⟨rfl, hdX3_pose⟩ ⟨Nat.le_of_ble_eq_true rfl, Nat.le_of_ble_eq_true rfl⟩ rfl (Nat.le_of_ble_eq_true rfl) rfl ⟨Nat.le_of_ble_eq_true rfl, Nat.le_of_ble_eq_true rfl⟩ dL_adds_13) (fun x73 M72 => ?_)
    refine xm_goto hX (tgt := 27) dL_adds_16 rfl ?_
    refine xm_weak [1, 2, 3, 0] (lv' := [(0, .ref (g.1 0)), (1, .int a1), (2, .int a2), (3, .int x2)]) rfl ?_
    exact tfL_adds_27 hL hX a1 a2 x2 x73 M72
