-- ===== OdometryDeskLaw.up(II)I
theorem dL_up_0 : decode cL_up 0 = .ok (.iload_n 0, 1) := by decide +kernel
theorem dL_up_1 : decode cL_up 1 = .ok (.ldc 8, 2) := by decide +kernel
theorem dL_up_3 : decode cL_up 3 = .ok (.iand, 1) := by decide +kernel
theorem dL_up_4 : decode cL_up 4 = .ok (.iload_n 1, 1) := by decide +kernel
theorem dL_up_5 : decode cL_up 5 = .ok (.irem, 1) := by decide +kernel
theorem dL_up_6 : decode cL_up 6 = .ok (.ireturn, 1) := by decide +kernel
abbrev wL_up : List Cond := .code yL_up cL_up 2 (some .int) :: lw_gd
theorem hdL_up : (yL_up.cls ≠ "java/lang/invoke/MethodHandle" ∧ yL_up.cls ≠ "java/lang/invoke/VarHandle" ∧ (parseMethodDescriptor yL_up.desc).map (fun d => d.parameters.length) = some 2) := by decide +kernel
def fL_up  (a0 : Int32) (a1 : Int32) (M : xm_M) : Option (Int32 × xm_M) :=
  if a1 = 0 then none else some ((a0 &&& (2147483647 : Int32)) - (a0 &&& (2147483647 : Int32)) / a1 * a1, M)
set_option maxRecDepth 20000 in
theorem kL_up {l : Launch} {L : List xm_Sh} (hL : xm_pre L)   (a0 : Int32) (a1 : Int32) (M : xm_M) : xm_C l yL_up wL_up ({ frames := 0, cells := 0, slots := 0, locals := 0 }) L (fun g => [.int a0, .int a1]) M xm_Fi (fL_up  a0 a1 M) := by
  refine xm_C.of (by decide) rfl (fun g => Nat.le_of_ble_eq_true rfl) ?_
  intro p e s m args below meth c D g A hX
  refine xm_lv (lv' := [(0, .int a0), (1, .int a1)]) rfl ?_
  unfold fL_up
  refine xm_iload_n hX 0 dL_up_0 rfl rfl ?_
  refine xm_ldc hX (v := 2147483647) (List.mem_cons_of_mem _ gm_192) dL_up_1 ?_
  refine xm_iand hX dL_up_3 ?_
  refine xm_iload_n hX 1 dL_up_4 rfl rfl ?_
  refine xm_irem hX dL_up_5 ?_
  exact xm_iret hX dL_up_6
-- ===== OdometryDeskLaw.refused(LOdometryDesk;I)Z ['0']
theorem dL_refused_0 : decode cL_refused 0 = .ok (.iload_n 1, 1) := by decide +kernel
theorem dL_refused_1 : decode cL_refused 1 = .ok (.ifCond .ge 15, 3) := by decide +kernel
theorem dL_refused_4 : decode cL_refused 4 = .ok (.ldc 174, 2) := by decide +kernel
theorem dL_refused_6 : decode cL_refused 6 = .ok (.iload_n 1, 1) := by decide +kernel
theorem dL_refused_7 : decode cL_refused 7 = .ok (.ldc 175, 2) := by decide +kernel
theorem dL_refused_9 : decode cL_refused 9 = .ok (.invokestatic 22, 3) := by decide +kernel
theorem dL_refused_12 : decode cL_refused 12 = .ok (.isub, 1) := by decide +kernel
theorem dL_refused_13 : decode cL_refused 13 = .ok (.goto 10, 3) := by decide +kernel
theorem dL_refused_16 : decode cL_refused 16 = .ok (.iload_n 1, 1) := by decide +kernel
theorem dL_refused_17 : decode cL_refused 17 = .ok (.ldc 175, 2) := by decide +kernel
theorem dL_refused_19 : decode cL_refused 19 = .ok (.irem, 1) := by decide +kernel
theorem dL_refused_20 : decode cL_refused 20 = .ok (.ldc 30, 2) := by decide +kernel
theorem dL_refused_22 : decode cL_refused 22 = .ok (.iadd, 1) := by decide +kernel
theorem dL_refused_23 : decode cL_refused 23 = .ok (.istore_n 2, 1) := by decide +kernel
theorem dL_refused_24 : decode cL_refused 24 = .ok (.aload_n 0, 1) := by decide +kernel
theorem dL_refused_25 : decode cL_refused 25 = .ok (.iload_n 2, 1) := by decide +kernel
theorem dL_refused_26 : decode cL_refused 26 = .ok (.bipush 100, 2) := by decide +kernel
theorem dL_refused_28 : decode cL_refused 28 = .ok (.invokevirtual 26, 3) := by decide +kernel
theorem dL_refused_31 : decode cL_refused 31 = .ok (.bipush (-2), 2) := by decide +kernel
theorem dL_refused_33 : decode cL_refused 33 = .ok (.if_icmp .ne 355, 3) := by decide +kernel
theorem dL_refused_36 : decode cL_refused 36 = .ok (.aload_n 0, 1) := by decide +kernel
theorem dL_refused_37 : decode cL_refused 37 = .ok (.iconst 0, 1) := by decide +kernel
theorem dL_refused_38 : decode cL_refused 38 = .ok (.iload_n 2, 1) := by decide +kernel
theorem dL_refused_39 : decode cL_refused 39 = .ok (.invokevirtual 26, 3) := by decide +kernel
theorem dL_refused_42 : decode cL_refused 42 = .ok (.bipush (-2), 2) := by decide +kernel
theorem dL_refused_44 : decode cL_refused 44 = .ok (.if_icmp .ne 344, 3) := by decide +kernel
theorem dL_refused_47 : decode cL_refused 47 = .ok (.aload_n 0, 1) := by decide +kernel
theorem dL_refused_48 : decode cL_refused 48 = .ok (.bipush 8, 2) := by decide +kernel
theorem dL_refused_50 : decode cL_refused 50 = .ok (.iload_n 2, 1) := by decide +kernel
theorem dL_refused_51 : decode cL_refused 51 = .ok (.invokevirtual 26, 3) := by decide +kernel
theorem dL_refused_54 : decode cL_refused 54 = .ok (.bipush (-2), 2) := by decide +kernel
theorem dL_refused_56 : decode cL_refused 56 = .ok (.if_icmp .ne 332, 3) := by decide +kernel
theorem dL_refused_59 : decode cL_refused 59 = .ok (.aload_n 0, 1) := by decide +kernel
theorem dL_refused_60 : decode cL_refused 60 = .ok (.iload_n 2, 1) := by decide +kernel
theorem dL_refused_61 : decode cL_refused 61 = .ok (.iconst 0, 1) := by decide +kernel
theorem dL_refused_62 : decode cL_refused 62 = .ok (.iconst 0, 1) := by decide +kernel
theorem dL_refused_63 : decode cL_refused 63 = .ok (.iconst 0, 1) := by decide +kernel
theorem dL_refused_64 : decode cL_refused 64 = .ok (.iconst 0, 1) := by decide +kernel
theorem dL_refused_65 : decode cL_refused 65 = .ok (.invokevirtual 38, 3) := by decide +kernel
theorem dL_refused_68 : decode cL_refused 68 = .ok (.bipush (-2), 2) := by decide +kernel
theorem dL_refused_70 : decode cL_refused 70 = .ok (.if_icmp .ne 318, 3) := by decide +kernel
theorem dL_refused_73 : decode cL_refused 73 = .ok (.aload_n 0, 1) := by decide +kernel
theorem dL_refused_74 : decode cL_refused 74 = .ok (.iconst 0, 1) := by decide +kernel
theorem dL_refused_75 : decode cL_refused 75 = .ok (.iload_n 2, 1) := by decide +kernel
theorem dL_refused_76 : decode cL_refused 76 = .ok (.iconst 0, 1) := by decide +kernel
theorem dL_refused_77 : decode cL_refused 77 = .ok (.iconst 0, 1) := by decide +kernel
theorem dL_refused_78 : decode cL_refused 78 = .ok (.iconst 0, 1) := by decide +kernel
theorem dL_refused_79 : decode cL_refused 79 = .ok (.invokevirtual 38, 3) := by decide +kernel
theorem dL_refused_82 : decode cL_refused 82 = .ok (.bipush (-2), 2) := by decide +kernel
theorem dL_refused_84 : decode cL_refused 84 = .ok (.if_icmp .ne 304, 3) := by decide +kernel
theorem dL_refused_87 : decode cL_refused 87 = .ok (.aload_n 0, 1) := by decide +kernel
theorem dL_refused_88 : decode cL_refused 88 = .ok (.iconst 0, 1) := by decide +kernel
theorem dL_refused_89 : decode cL_refused 89 = .ok (.iconst 0, 1) := by decide +kernel
theorem dL_refused_90 : decode cL_refused 90 = .ok (.iload_n 2, 1) := by decide +kernel
theorem dL_refused_91 : decode cL_refused 91 = .ok (.iconst 0, 1) := by decide +kernel
theorem dL_refused_92 : decode cL_refused 92 = .ok (.iconst 0, 1) := by decide +kernel
theorem dL_refused_93 : decode cL_refused 93 = .ok (.invokevirtual 38, 3) := by decide +kernel
theorem dL_refused_96 : decode cL_refused 96 = .ok (.bipush (-2), 2) := by decide +kernel
theorem dL_refused_98 : decode cL_refused 98 = .ok (.if_icmp .ne 290, 3) := by decide +kernel
theorem dL_refused_101 : decode cL_refused 101 = .ok (.aload_n 0, 1) := by decide +kernel
theorem dL_refused_102 : decode cL_refused 102 = .ok (.iconst 0, 1) := by decide +kernel
theorem dL_refused_103 : decode cL_refused 103 = .ok (.iconst 0, 1) := by decide +kernel
theorem dL_refused_104 : decode cL_refused 104 = .ok (.iconst 0, 1) := by decide +kernel
theorem dL_refused_105 : decode cL_refused 105 = .ok (.iload_n 2, 1) := by decide +kernel
theorem dL_refused_106 : decode cL_refused 106 = .ok (.iconst 0, 1) := by decide +kernel
theorem dL_refused_107 : decode cL_refused 107 = .ok (.invokevirtual 38, 3) := by decide +kernel
theorem dL_refused_110 : decode cL_refused 110 = .ok (.bipush (-2), 2) := by decide +kernel
theorem dL_refused_112 : decode cL_refused 112 = .ok (.if_icmp .ne 276, 3) := by decide +kernel
theorem dL_refused_115 : decode cL_refused 115 = .ok (.aload_n 0, 1) := by decide +kernel
theorem dL_refused_116 : decode cL_refused 116 = .ok (.iconst 0, 1) := by decide +kernel
theorem dL_refused_117 : decode cL_refused 117 = .ok (.iconst 0, 1) := by decide +kernel
theorem dL_refused_118 : decode cL_refused 118 = .ok (.iconst 0, 1) := by decide +kernel
theorem dL_refused_119 : decode cL_refused 119 = .ok (.iconst 0, 1) := by decide +kernel
theorem dL_refused_120 : decode cL_refused 120 = .ok (.iload_n 2, 1) := by decide +kernel
theorem dL_refused_121 : decode cL_refused 121 = .ok (.invokevirtual 38, 3) := by decide +kernel
theorem dL_refused_124 : decode cL_refused 124 = .ok (.bipush (-2), 2) := by decide +kernel
theorem dL_refused_126 : decode cL_refused 126 = .ok (.if_icmp .ne 262, 3) := by decide +kernel
theorem dL_refused_129 : decode cL_refused 129 = .ok (.aload_n 0, 1) := by decide +kernel
theorem dL_refused_130 : decode cL_refused 130 = .ok (.iload_n 2, 1) := by decide +kernel
theorem dL_refused_131 : decode cL_refused 131 = .ok (.iconst 0, 1) := by decide +kernel
theorem dL_refused_132 : decode cL_refused 132 = .ok (.invokevirtual 35, 3) := by decide +kernel
theorem dL_refused_135 : decode cL_refused 135 = .ok (.bipush (-2), 2) := by decide +kernel
theorem dL_refused_137 : decode cL_refused 137 = .ok (.if_icmp .ne 251, 3) := by decide +kernel
theorem dL_refused_140 : decode cL_refused 140 = .ok (.aload_n 0, 1) := by decide +kernel
theorem dL_refused_141 : decode cL_refused 141 = .ok (.iconst 0, 1) := by decide +kernel
theorem dL_refused_142 : decode cL_refused 142 = .ok (.iload_n 2, 1) := by decide +kernel
theorem dL_refused_143 : decode cL_refused 143 = .ok (.invokevirtual 35, 3) := by decide +kernel
theorem dL_refused_146 : decode cL_refused 146 = .ok (.bipush (-2), 2) := by decide +kernel
theorem dL_refused_148 : decode cL_refused 148 = .ok (.if_icmp .ne 240, 3) := by decide +kernel
theorem dL_refused_151 : decode cL_refused 151 = .ok (.aload_n 0, 1) := by decide +kernel
theorem dL_refused_152 : decode cL_refused 152 = .ok (.invokevirtual 171, 3) := by decide +kernel
theorem dL_refused_155 : decode cL_refused 155 = .ok (.bipush (-5), 2) := by decide +kernel
theorem dL_refused_157 : decode cL_refused 157 = .ok (.if_icmp .ne 231, 3) := by decide +kernel
theorem dL_refused_160 : decode cL_refused 160 = .ok (.aload_n 0, 1) := by decide +kernel
theorem dL_refused_161 : decode cL_refused 161 = .ok (.iload_n 2, 1) := by decide +kernel
theorem dL_refused_162 : decode cL_refused 162 = .ok (.iconst 0, 1) := by decide +kernel
theorem dL_refused_163 : decode cL_refused 163 = .ok (.iconst 0, 1) := by decide +kernel
theorem dL_refused_164 : decode cL_refused 164 = .ok (.invokevirtual 31, 3) := by decide +kernel
theorem dL_refused_167 : decode cL_refused 167 = .ok (.bipush (-2), 2) := by decide +kernel
theorem dL_refused_169 : decode cL_refused 169 = .ok (.if_icmp .ne 219, 3) := by decide +kernel
theorem dL_refused_172 : decode cL_refused 172 = .ok (.aload_n 0, 1) := by decide +kernel
theorem dL_refused_173 : decode cL_refused 173 = .ok (.iconst 0, 1) := by decide +kernel
theorem dL_refused_174 : decode cL_refused 174 = .ok (.iload_n 2, 1) := by decide +kernel
theorem dL_refused_175 : decode cL_refused 175 = .ok (.iconst 0, 1) := by decide +kernel
theorem dL_refused_176 : decode cL_refused 176 = .ok (.invokevirtual 31, 3) := by decide +kernel
theorem dL_refused_179 : decode cL_refused 179 = .ok (.bipush (-2), 2) := by decide +kernel
theorem dL_refused_181 : decode cL_refused 181 = .ok (.if_icmp .ne 207, 3) := by decide +kernel
theorem dL_refused_184 : decode cL_refused 184 = .ok (.aload_n 0, 1) := by decide +kernel
theorem dL_refused_185 : decode cL_refused 185 = .ok (.iconst 0, 1) := by decide +kernel
theorem dL_refused_186 : decode cL_refused 186 = .ok (.iconst 0, 1) := by decide +kernel
theorem dL_refused_187 : decode cL_refused 187 = .ok (.iload_n 2, 1) := by decide +kernel
theorem dL_refused_188 : decode cL_refused 188 = .ok (.invokevirtual 31, 3) := by decide +kernel
theorem dL_refused_191 : decode cL_refused 191 = .ok (.bipush (-2), 2) := by decide +kernel
theorem dL_refused_193 : decode cL_refused 193 = .ok (.if_icmp .ne 195, 3) := by decide +kernel
theorem dL_refused_196 : decode cL_refused 196 = .ok (.aload_n 0, 1) := by decide +kernel
theorem dL_refused_197 : decode cL_refused 197 = .ok (.iload_n 2, 1) := by decide +kernel
theorem dL_refused_198 : decode cL_refused 198 = .ok (.iconst 0, 1) := by decide +kernel
theorem dL_refused_199 : decode cL_refused 199 = .ok (.iconst 0, 1) := by decide +kernel
theorem dL_refused_200 : decode cL_refused 200 = .ok (.invokevirtual 78, 3) := by decide +kernel
theorem dL_refused_203 : decode cL_refused 203 = .ok (.bipush (-2), 2) := by decide +kernel
theorem dL_refused_205 : decode cL_refused 205 = .ok (.if_icmp .ne 183, 3) := by decide +kernel
theorem dL_refused_208 : decode cL_refused 208 = .ok (.aload_n 0, 1) := by decide +kernel
theorem dL_refused_209 : decode cL_refused 209 = .ok (.iconst 0, 1) := by decide +kernel
theorem dL_refused_210 : decode cL_refused 210 = .ok (.iload_n 2, 1) := by decide +kernel
theorem dL_refused_211 : decode cL_refused 211 = .ok (.iconst 0, 1) := by decide +kernel
theorem dL_refused_212 : decode cL_refused 212 = .ok (.invokevirtual 78, 3) := by decide +kernel
theorem dL_refused_215 : decode cL_refused 215 = .ok (.bipush (-2), 2) := by decide +kernel
theorem dL_refused_217 : decode cL_refused 217 = .ok (.if_icmp .ne 171, 3) := by decide +kernel
theorem dL_refused_220 : decode cL_refused 220 = .ok (.aload_n 0, 1) := by decide +kernel
theorem dL_refused_221 : decode cL_refused 221 = .ok (.iconst 0, 1) := by decide +kernel
theorem dL_refused_222 : decode cL_refused 222 = .ok (.iconst 0, 1) := by decide +kernel
theorem dL_refused_223 : decode cL_refused 223 = .ok (.iload_n 2, 1) := by decide +kernel
theorem dL_refused_224 : decode cL_refused 224 = .ok (.invokevirtual 78, 3) := by decide +kernel
theorem dL_refused_227 : decode cL_refused 227 = .ok (.bipush (-2), 2) := by decide +kernel
theorem dL_refused_229 : decode cL_refused 229 = .ok (.if_icmp .ne 159, 3) := by decide +kernel
theorem dL_refused_232 : decode cL_refused 232 = .ok (.aload_n 0, 1) := by decide +kernel
theorem dL_refused_233 : decode cL_refused 233 = .ok (.iload_n 2, 1) := by decide +kernel
theorem dL_refused_234 : decode cL_refused 234 = .ok (.invokevirtual 72, 3) := by decide +kernel
theorem dL_refused_237 : decode cL_refused 237 = .ok (.iconst (-1), 1) := by decide +kernel
theorem dL_refused_238 : decode cL_refused 238 = .ok (.if_icmp .ne 150, 3) := by decide +kernel
theorem dL_refused_241 : decode cL_refused 241 = .ok (.aload_n 0, 1) := by decide +kernel
theorem dL_refused_242 : decode cL_refused 242 = .ok (.iload_n 2, 1) := by decide +kernel
theorem dL_refused_243 : decode cL_refused 243 = .ok (.invokevirtual 81, 3) := by decide +kernel
theorem dL_refused_246 : decode cL_refused 246 = .ok (.bipush (-2), 2) := by decide +kernel
theorem dL_refused_248 : decode cL_refused 248 = .ok (.if_icmp .ne 140, 3) := by decide +kernel
theorem dL_refused_251 : decode cL_refused 251 = .ok (.aload_n 0, 1) := by decide +kernel
theorem dL_refused_252 : decode cL_refused 252 = .ok (.iload_n 2, 1) := by decide +kernel
theorem dL_refused_253 : decode cL_refused 253 = .ok (.iconst 0, 1) := by decide +kernel
theorem dL_refused_254 : decode cL_refused 254 = .ok (.invokevirtual 69, 3) := by decide +kernel
theorem dL_refused_257 : decode cL_refused 257 = .ok (.ldc 176, 2) := by decide +kernel
theorem dL_refused_259 : decode cL_refused 259 = .ok (.if_icmp .ne 129, 3) := by decide +kernel
theorem dL_refused_262 : decode cL_refused 262 = .ok (.aload_n 0, 1) := by decide +kernel
theorem dL_refused_263 : decode cL_refused 263 = .ok (.iconst (-1), 1) := by decide +kernel
theorem dL_refused_264 : decode cL_refused 264 = .ok (.iload_n 2, 1) := by decide +kernel
theorem dL_refused_265 : decode cL_refused 265 = .ok (.invokevirtual 69, 3) := by decide +kernel
theorem dL_refused_268 : decode cL_refused 268 = .ok (.ldc 177, 2) := by decide +kernel
theorem dL_refused_270 : decode cL_refused 270 = .ok (.if_icmp .ne 118, 3) := by decide +kernel
theorem dL_refused_273 : decode cL_refused 273 = .ok (.aload_n 0, 1) := by decide +kernel
theorem dL_refused_274 : decode cL_refused 274 = .ok (.iload_n 2, 1) := by decide +kernel
theorem dL_refused_275 : decode cL_refused 275 = .ok (.iconst 0, 1) := by decide +kernel
theorem dL_refused_276 : decode cL_refused 276 = .ok (.invokevirtual 75, 3) := by decide +kernel
theorem dL_refused_279 : decode cL_refused 279 = .ok (.ldc 176, 2) := by decide +kernel
theorem dL_refused_281 : decode cL_refused 281 = .ok (.if_icmp .ne 107, 3) := by decide +kernel
theorem dL_refused_284 : decode cL_refused 284 = .ok (.aload_n 0, 1) := by decide +kernel
theorem dL_refused_285 : decode cL_refused 285 = .ok (.iload_n 2, 1) := by decide +kernel
theorem dL_refused_286 : decode cL_refused 286 = .ok (.invokevirtual 65, 3) := by decide +kernel
theorem dL_refused_289 : decode cL_refused 289 = .ok (.bipush (-2), 2) := by decide +kernel
theorem dL_refused_291 : decode cL_refused 291 = .ok (.if_icmp .ne 97, 3) := by decide +kernel
theorem dL_refused_294 : decode cL_refused 294 = .ok (.aload_n 0, 1) := by decide +kernel
theorem dL_refused_295 : decode cL_refused 295 = .ok (.iload_n 2, 1) := by decide +kernel
theorem dL_refused_296 : decode cL_refused 296 = .ok (.iconst 0, 1) := by decide +kernel
theorem dL_refused_297 : decode cL_refused 297 = .ok (.invokevirtual 115, 3) := by decide +kernel
theorem dL_refused_300 : decode cL_refused 300 = .ok (.ldc 177, 2) := by decide +kernel
theorem dL_refused_302 : decode cL_refused 302 = .ok (.if_icmp .ne 86, 3) := by decide +kernel
theorem dL_refused_305 : decode cL_refused 305 = .ok (.aload_n 0, 1) := by decide +kernel
theorem dL_refused_306 : decode cL_refused 306 = .ok (.iload_n 2, 1) := by decide +kernel
theorem dL_refused_307 : decode cL_refused 307 = .ok (.iconst 1, 1) := by decide +kernel
theorem dL_refused_308 : decode cL_refused 308 = .ok (.iconst 0, 1) := by decide +kernel
theorem dL_refused_309 : decode cL_refused 309 = .ok (.invokevirtual 125, 3) := by decide +kernel
theorem dL_refused_312 : decode cL_refused 312 = .ok (.ldc 177, 2) := by decide +kernel
theorem dL_refused_314 : decode cL_refused 314 = .ok (.if_icmp .ne 74, 3) := by decide +kernel
theorem dL_refused_317 : decode cL_refused 317 = .ok (.aload_n 0, 1) := by decide +kernel
theorem dL_refused_318 : decode cL_refused 318 = .ok (.iconst 0, 1) := by decide +kernel
theorem dL_refused_319 : decode cL_refused 319 = .ok (.iload_n 2, 1) := by decide +kernel
theorem dL_refused_320 : decode cL_refused 320 = .ok (.iconst 0, 1) := by decide +kernel
theorem dL_refused_321 : decode cL_refused 321 = .ok (.invokevirtual 125, 3) := by decide +kernel
theorem dL_refused_324 : decode cL_refused 324 = .ok (.ldc 177, 2) := by decide +kernel
theorem dL_refused_326 : decode cL_refused 326 = .ok (.if_icmp .ne 62, 3) := by decide +kernel
theorem dL_refused_329 : decode cL_refused 329 = .ok (.aload_n 0, 1) := by decide +kernel
theorem dL_refused_330 : decode cL_refused 330 = .ok (.invokevirtual 128, 3) := by decide +kernel
theorem dL_refused_333 : decode cL_refused 333 = .ok (.bipush (-6), 2) := by decide +kernel
theorem dL_refused_335 : decode cL_refused 335 = .ok (.if_icmp .ne 53, 3) := by decide +kernel
theorem dL_refused_338 : decode cL_refused 338 = .ok (.aload_n 0, 1) := by decide +kernel
theorem dL_refused_339 : decode cL_refused 339 = .ok (.invokevirtual 132, 3) := by decide +kernel
theorem dL_refused_342 : decode cL_refused 342 = .ok (.bipush (-6), 2) := by decide +kernel
theorem dL_refused_344 : decode cL_refused 344 = .ok (.if_icmp .ne 44, 3) := by decide +kernel
theorem dL_refused_347 : decode cL_refused 347 = .ok (.aload_n 0, 1) := by decide +kernel
theorem dL_refused_348 : decode cL_refused 348 = .ok (.invokevirtual 158, 3) := by decide +kernel
theorem dL_refused_351 : decode cL_refused 351 = .ok (.bipush (-3), 2) := by decide +kernel
theorem dL_refused_353 : decode cL_refused 353 = .ok (.if_icmp .ne 35, 3) := by decide +kernel
theorem dL_refused_356 : decode cL_refused 356 = .ok (.aload_n 0, 1) := by decide +kernel
theorem dL_refused_357 : decode cL_refused 357 = .ok (.iload_n 2, 1) := by decide +kernel
theorem dL_refused_358 : decode cL_refused 358 = .ok (.invokevirtual 136, 3) := by decide +kernel
theorem dL_refused_361 : decode cL_refused 361 = .ok (.bipush (-2), 2) := by decide +kernel
theorem dL_refused_363 : decode cL_refused 363 = .ok (.if_icmp .ne 25, 3) := by decide +kernel
theorem dL_refused_366 : decode cL_refused 366 = .ok (.aload_n 0, 1) := by decide +kernel
theorem dL_refused_367 : decode cL_refused 367 = .ok (.iload_n 2, 1) := by decide +kernel
theorem dL_refused_368 : decode cL_refused 368 = .ok (.invokevirtual 167, 3) := by decide +kernel
theorem dL_refused_371 : decode cL_refused 371 = .ok (.bipush (-2), 2) := by decide +kernel
theorem dL_refused_373 : decode cL_refused 373 = .ok (.if_icmp .ne 15, 3) := by decide +kernel
theorem dL_refused_376 : decode cL_refused 376 = .ok (.aload_n 0, 1) := by decide +kernel
theorem dL_refused_377 : decode cL_refused 377 = .ok (.iconst 0, 1) := by decide +kernel
theorem dL_refused_378 : decode cL_refused 378 = .ok (.invokevirtual 65, 3) := by decide +kernel
theorem dL_refused_381 : decode cL_refused 381 = .ok (.ifCond .ne 7, 3) := by decide +kernel
theorem dL_refused_384 : decode cL_refused 384 = .ok (.iconst 1, 1) := by decide +kernel
theorem dL_refused_385 : decode cL_refused 385 = .ok (.goto 4, 3) := by decide +kernel
theorem dL_refused_388 : decode cL_refused 388 = .ok (.iconst 0, 1) := by decide +kernel
theorem dL_refused_389 : decode cL_refused 389 = .ok (.ireturn, 1) := by decide +kernel
abbrev wL_refused : List Cond := .code yL_refused cL_refused 3 (some .boolean) :: lw_gd
theorem hdL_refused : (yL_refused.cls ≠ "java/lang/invoke/MethodHandle" ∧ yL_refused.cls ≠ "java/lang/invoke/VarHandle" ∧ (parseMethodDescriptor yL_refused.desc).map (fun d => d.parameters.length) = some 2) := by decide +kernel
def fL_refused_23   (s0 : Int32) (M : xm_M) : Option (Int32 × xm_M) :=
  xm_bi (fX3_set s0 (100 : Int32) M) (fun x2 M1 => if x2 = (-2 : Int32) then xm_bi (fX3_set (0 : Int32) s0 M1) (fun x4 M3 => if x4 = (-2 : Int32) then xm_bi (fX3_set (8 : Int32) s0 M3) (fun x6 M5 => if x6 = (-2 : Int32) then xm_bi (fX3_corridor s0 (0 : Int32) (0 : Int32) (0 : Int32) (0 : Int32) M5) (fun x8 M7 => if x8 = (-2 : Int32) then xm_bi (fX3_corridor (0 : Int32) s0 (0 : Int32) (0 : Int32) (0 : Int32) M7) (fun x10 M9 => if x10 = (-2 : Int32) then xm_bi (fX3_corridor (0 : Int32) (0 : Int32) s0 (0 : Int32) (0 : Int32) M9) (fun x12 M11 => if x12 = (-2 : Int32) then xm_bi (fX3_corridor (0 : Int32) (0 : Int32) (0 : Int32) s0 (0 : Int32) M11) (fun x14 M13 => if x14 = (-2 : Int32) then xm_bi (fX3_corridor (0 : Int32) (0 : Int32) (0 : Int32) (0 : Int32) s0 M13) (fun x16 M15 => if x16 = (-2 : Int32) then xm_bi (fX3_marker s0 (0 : Int32) M15) (fun x18 M17 => if x18 = (-2 : Int32) then xm_bi (fX3_marker (0 : Int32) s0 M17) (fun x20 M19 => if x20 = (-2 : Int32) then xm_bi (fX3_closeCorridor M19) (fun x22 M21 => if x22 = (-5 : Int32) then xm_bi (fX3_begin s0 (0 : Int32) (0 : Int32) M21) (fun x24 M23 => if x24 = (-2 : Int32) then xm_bi (fX3_begin (0 : Int32) s0 (0 : Int32) M23) (fun x26 M25 => if x26 = (-2 : Int32) then xm_bi (fX3_begin (0 : Int32) (0 : Int32) s0 M25) (fun x28 M27 => if x28 = (-2 : Int32) then xm_bi (fX3_step s0 (0 : Int32) (0 : Int32) M27) (fun x30 M29 => if x30 = (-2 : Int32) then xm_bi (fX3_step (0 : Int32) s0 (0 : Int32) M29) (fun x32 M31 => if x32 = (-2 : Int32) then xm_bi (fX3_step (0 : Int32) (0 : Int32) s0 M31) (fun x34 M33 => if x34 = (-2 : Int32) then xm_bi (fX3_see s0 M33) (fun x36 M35 => if x36 = (-1 : Int32) then xm_bi (fX3_cut s0 M35) (fun x38 M37 => if x38 = (-2 : Int32) then xm_bi (fX3_pose s0 (0 : Int32) M37) (fun x40 M39 => if x40 = (-1000000001 : Int32) then xm_bi (fX3_pose (-1 : Int32) s0 M39) (fun x42 M41 => if x42 = (-1000000002 : Int32) then xm_bi (fX3_about s0 (0 : Int32) M41) (fun x44 M43 => if x44 = (-1000000001 : Int32) then xm_bi (fX3_count s0 M43) (fun x46 M45 => if x46 = (-2 : Int32) then xm_bi (fX3_wave s0 (0 : Int32) M45) (fun x48 M47 => if x48 = (-1000000002 : Int32) then xm_bi (fX3_ifSet s0 (1 : Int32) (0 : Int32) M47) (fun x50 M49 => if x50 = (-1000000002 : Int32) then xm_bi (fX3_ifSet (0 : Int32) s0 (0 : Int32) M49) (fun x52 M51 => if x52 = (-1000000002 : Int32) then xm_bi (fX3_bestBase M51) (fun x54 M53 => if x54 = (-6 : Int32) then xm_bi (fX3_bestTrust M53) (fun x56 M55 => if x56 = (-6 : Int32) then xm_bi (fX3_load M55) (fun x58 M57 => if x58 = (-3 : Int32) then xm_bi (fX3_save s0 M57) (fun x60 M59 => if x60 = (-2 : Int32) then xm_bi (fX3_restore s0 M59) (fun x62 M61 => if x62 = (-2 : Int32) then xm_bi (fX3_count (0 : Int32) M61) (fun x64 M63 => if x64 = 0 then some ((1 : Int32), M63) else some ((0 : Int32), M63)) else some ((0 : Int32), M61)) else some ((0 : Int32), M59)) else some ((0 : Int32), M57)) else some ((0 : Int32), M55)) else some ((0 : Int32), M53)) else some ((0 : Int32), M51)) else some ((0 : Int32), M49)) else some ((0 : Int32), M47)) else some ((0 : Int32), M45)) else some ((0 : Int32), M43)) else some ((0 : Int32), M41)) else some ((0 : Int32), M39)) else some ((0 : Int32), M37)) else some ((0 : Int32), M35)) else some ((0 : Int32), M33)) else some ((0 : Int32), M31)) else some ((0 : Int32), M29)) else some ((0 : Int32), M27)) else some ((0 : Int32), M25)) else some ((0 : Int32), M23)) else some ((0 : Int32), M21)) else some ((0 : Int32), M19)) else some ((0 : Int32), M17)) else some ((0 : Int32), M15)) else some ((0 : Int32), M13)) else some ((0 : Int32), M11)) else some ((0 : Int32), M9)) else some ((0 : Int32), M7)) else some ((0 : Int32), M5)) else some ((0 : Int32), M3)) else some ((0 : Int32), M1))
set_option maxRecDepth 20000 in
theorem tfL_refused_23 {p : Program} {l : Launch} {e : Env} {s : State} {m : MethodId} {args : Array Value} {below : List Frame} {meth : Method} {c : Code} {D : va_G} {g : xm_G} {A : Nat → Prop}  {L : List xm_Sh} (hL : xm_pre L) (hX : xm_X p m meth c cL_refused 3 s args wL_refused RL (some .boolean) D L g A)    : ∀ (s0 : Int32), ∀ (M : xm_M), xm_J p l e ({ frames := 7, cells := 0, slots := 0, locals := 179 }) s m args below meth c 3 D L g A (xm_Z below args s D L g A (xm_Fi g)) 23 [(0, .ref (g.1 0))] [.int s0] M (fL_refused_23 s0 M) := by
  intro s0 M
  unfold fL_refused_23
  refine xm_istore_n hX (lv' := [(2, .int s0), (0, .ref (g.1 0))]) dL_refused_23 rfl (by decide) rfl ?_
  refine xm_aload_n hX 1 dL_refused_24 rfl rfl ?_
  refine xm_iload_n hX 0 dL_refused_25 rfl rfl ?_
  refine xm_bipush hX (v := 100) rfl dL_refused_26 ?_
  refine xm_calli hX (xm_runV hX (k := 0) (ci := 3) (As := (fun g => [.int s0, .int (100 : Int32)])) (kX3_set hL s0 (100 : Int32) M) (hL _ _ cL_0) rfl (xm_gV gm_140 gm_141 gm_142 gm_1 gm_143) rfl ⟨rfl, rfl⟩ ⟨rfl, hdX3_set⟩ ⟨Nat.le_of_ble_eq_true rfl, Nat.le_of_ble_eq_true rfl⟩ rfl (Nat.le_of_ble_eq_true rfl) rfl ⟨Nat.le_of_ble_eq_true rfl, Nat.le_of_ble_eq_true rfl⟩ dL_refused_28) (fun x2 M1 => ?_)
  refine xm_bipush hX (v := -2) rfl dL_refused_31 ?_
  refine xm_icmp_ne hX (tgt := 388) dL_refused_33 rfl ?_ ?_
  · refine xm_iconst hX (v := 0) rfl dL_refused_388 ?_
    exact xm_zretL hX (by decide) dL_refused_389
  · refine xm_aload_n hX 1 dL_refused_36 rfl rfl ?_
    refine xm_iconst hX (v := 0) rfl dL_refused_37 ?_
    refine xm_iload_n hX 0 dL_refused_38 rfl rfl ?_
    refine xm_calli hX (xm_runV hX (k := 0) (ci := 3) (As := (fun g => [.int (0 : Int32), .int s0])) (kX3_set hL (0 : Int32) s0 M1) (hL _ _ cL_0) rfl (xm_gV gm_140 gm_141 gm_142 gm_1 gm_143) rfl ⟨rfl, rfl⟩ ⟨rfl, hdX3_set⟩ ⟨Nat.le_of_ble_eq_true rfl, Nat.le_of_ble_eq_true rfl⟩ rfl (Nat.le_of_ble_eq_true rfl) rfl ⟨Nat.le_of_ble_eq_true rfl, Nat.le_of_ble_eq_true rfl⟩ dL_refused_39) (fun x4 M3 => ?_)
    refine xm_bipush hX (v := -2) rfl dL_refused_42 ?_
    refine xm_icmp_ne hX (tgt := 388) dL_refused_44 rfl ?_ ?_
    · refine xm_iconst hX (v := 0) rfl dL_refused_388 ?_
      exact xm_zretL hX (by decide) dL_refused_389
    · refine xm_aload_n hX 1 dL_refused_47 rfl rfl ?_
      refine xm_bipush hX (v := 8) rfl dL_refused_48 ?_
      refine xm_iload_n hX 0 dL_refused_50 rfl rfl ?_
      refine xm_calli hX (xm_runV hX (k := 0) (ci := 3) (As := (fun g => [.int (8 : Int32), .int s0])) (kX3_set hL (8 : Int32) s0 M3) (hL _ _ cL_0) rfl (xm_gV gm_140 gm_141 gm_142 gm_1 gm_143) rfl ⟨rfl, rfl⟩ ⟨rfl, hdX3_set⟩ ⟨Nat.le_of_ble_eq_true rfl, Nat.le_of_ble_eq_true rfl⟩ rfl (Nat.le_of_ble_eq_true rfl) rfl ⟨Nat.le_of_ble_eq_true rfl, Nat.le_of_ble_eq_true rfl⟩ dL_refused_51) (fun x6 M5 => ?_)
      refine xm_bipush hX (v := -2) rfl dL_refused_54 ?_
      refine xm_icmp_ne hX (tgt := 388) dL_refused_56 rfl ?_ ?_
      · refine xm_iconst hX (v := 0) rfl dL_refused_388 ?_
        exact xm_zretL hX (by decide) dL_refused_389
      · refine xm_aload_n hX 1 dL_refused_59 rfl rfl ?_
        refine xm_iload_n hX 0 dL_refused_60 rfl rfl ?_
        refine xm_iconst hX (v := 0) rfl dL_refused_61 ?_
        refine xm_iconst hX (v := 0) rfl dL_refused_62 ?_
        refine xm_iconst hX (v := 0) rfl dL_refused_63 ?_
        refine xm_iconst hX (v := 0) rfl dL_refused_64 ?_
        refine xm_calli hX (xm_runV hX (k := 0) (ci := 3) (As := (fun g => [.int s0, .int (0 : Int32), .int (0 : Int32), .int (0 : Int32), .int (0 : Int32)])) (kX3_corridor hL s0 (0 : Int32) (0 : Int32) (0 : Int32) (0 : Int32) M5) (hL _ _ cL_0) rfl (xm_gV gm_158 gm_159 gm_160 gm_1 gm_161) rfl ⟨rfl, rfl⟩ ⟨rfl, hdX3_corridor⟩ ⟨Nat.le_of_ble_eq_true rfl, Nat.le_of_ble_eq_true rfl⟩ rfl (Nat.le_of_ble_eq_true rfl) rfl ⟨Nat.le_of_ble_eq_true rfl, Nat.le_of_ble_eq_true rfl⟩ dL_refused_65) (fun x8 M7 => ?_)
        refine xm_bipush hX (v := -2) rfl dL_refused_68 ?_
        refine xm_icmp_ne hX (tgt := 388) dL_refused_70 rfl ?_ ?_
        · refine xm_iconst hX (v := 0) rfl dL_refused_388 ?_
          exact xm_zretL hX (by decide) dL_refused_389
        · refine xm_aload_n hX 1 dL_refused_73 rfl rfl ?_
          refine xm_iconst hX (v := 0) rfl dL_refused_74 ?_
          refine xm_iload_n hX 0 dL_refused_75 rfl rfl ?_
          refine xm_iconst hX (v := 0) rfl dL_refused_76 ?_
          refine xm_iconst hX (v := 0) rfl dL_refused_77 ?_
          refine xm_iconst hX (v := 0) rfl dL_refused_78 ?_
          refine xm_calli hX (xm_runV hX (k := 0) (ci := 3) (As := (fun g => [.int (0 : Int32), .int s0, .int (0 : Int32), .int (0 : Int32), .int (0 : Int32)])) (kX3_corridor hL (0 : Int32) s0 (0 : Int32) (0 : Int32) (0 : Int32) M7) (hL _ _ cL_0) rfl (xm_gV gm_158 gm_159 gm_160 gm_1 gm_161) rfl ⟨rfl, rfl⟩ ⟨rfl, hdX3_corridor⟩ ⟨Nat.le_of_ble_eq_true rfl, Nat.le_of_ble_eq_true rfl⟩ rfl (Nat.le_of_ble_eq_true rfl) rfl ⟨Nat.le_of_ble_eq_true rfl, Nat.le_of_ble_eq_true rfl⟩ dL_refused_79) (fun x10 M9 => ?_)
          refine xm_bipush hX (v := -2) rfl dL_refused_82 ?_
          refine xm_icmp_ne hX (tgt := 388) dL_refused_84 rfl ?_ ?_
          · refine xm_iconst hX (v := 0) rfl dL_refused_388 ?_
            exact xm_zretL hX (by decide) dL_refused_389
          · refine xm_aload_n hX 1 dL_refused_87 rfl rfl ?_
            refine xm_iconst hX (v := 0) rfl dL_refused_88 ?_
            refine xm_iconst hX (v := 0) rfl dL_refused_89 ?_
            refine xm_iload_n hX 0 dL_refused_90 rfl rfl ?_
            refine xm_iconst hX (v := 0) rfl dL_refused_91 ?_
            refine xm_iconst hX (v := 0) rfl dL_refused_92 ?_
            refine xm_calli hX (xm_runV hX (k := 0) (ci := 3) (As := (fun g => [.int (0 : Int32), .int (0 : Int32), .int s0, .int (0 : Int32), .int (0 : Int32)])) (kX3_corridor hL (0 : Int32) (0 : Int32) s0 (0 : Int32) (0 : Int32) M9) (hL _ _ cL_0) rfl (xm_gV gm_158 gm_159 gm_160 gm_1 gm_161) rfl ⟨rfl, rfl⟩ ⟨rfl, hdX3_corridor⟩ ⟨Nat.le_of_ble_eq_true rfl, Nat.le_of_ble_eq_true rfl⟩ rfl (Nat.le_of_ble_eq_true rfl) rfl ⟨Nat.le_of_ble_eq_true rfl, Nat.le_of_ble_eq_true rfl⟩ dL_refused_93) (fun x12 M11 => ?_)
            refine xm_bipush hX (v := -2) rfl dL_refused_96 ?_
            refine xm_icmp_ne hX (tgt := 388) dL_refused_98 rfl ?_ ?_
            · refine xm_iconst hX (v := 0) rfl dL_refused_388 ?_
              exact xm_zretL hX (by decide) dL_refused_389
            · refine xm_aload_n hX 1 dL_refused_101 rfl rfl ?_
              refine xm_iconst hX (v := 0) rfl dL_refused_102 ?_
              refine xm_iconst hX (v := 0) rfl dL_refused_103 ?_
              refine xm_iconst hX (v := 0) rfl dL_refused_104 ?_
              refine xm_iload_n hX 0 dL_refused_105 rfl rfl ?_
              refine xm_iconst hX (v := 0) rfl dL_refused_106 ?_
              refine xm_calli hX (xm_runV hX (k := 0) (ci := 3) (As := (fun g => [.int (0 : Int32), .int (0 : Int32), .int (0 : Int32), .int s0, .int (0 : Int32)])) (kX3_corridor hL (0 : Int32) (0 : Int32) (0 : Int32) s0 (0 : Int32) M11) (hL _ _ cL_0) rfl (xm_gV gm_158 gm_159 gm_160 gm_1 gm_161) rfl ⟨rfl, rfl⟩ ⟨rfl, hdX3_corridor⟩ ⟨Nat.le_of_ble_eq_true rfl, Nat.le_of_ble_eq_true rfl⟩ rfl (Nat.le_of_ble_eq_true rfl) rfl ⟨Nat.le_of_ble_eq_true rfl, Nat.le_of_ble_eq_true rfl⟩ dL_refused_107) (fun x14 M13 => ?_)
              refine xm_bipush hX (v := -2) rfl dL_refused_110 ?_
              refine xm_icmp_ne hX (tgt := 388) dL_refused_112 rfl ?_ ?_
              · refine xm_iconst hX (v := 0) rfl dL_refused_388 ?_
                exact xm_zretL hX (by decide) dL_refused_389
              · refine xm_aload_n hX 1 dL_refused_115 rfl rfl ?_
                refine xm_iconst hX (v := 0) rfl dL_refused_116 ?_
                refine xm_iconst hX (v := 0) rfl dL_refused_117 ?_
                refine xm_iconst hX (v := 0) rfl dL_refused_118 ?_
                refine xm_iconst hX (v := 0) rfl dL_refused_119 ?_
                refine xm_iload_n hX 0 dL_refused_120 rfl rfl ?_
                refine xm_calli hX (xm_runV hX (k := 0) (ci := 3) (As := (fun g => [.int (0 : Int32), .int (0 : Int32), .int (0 : Int32), .int (0 : Int32), .int s0])) (kX3_corridor hL (0 : Int32) (0 : Int32) (0 : Int32) (0 : Int32) s0 M13) (hL _ _ cL_0) rfl (xm_gV gm_158 gm_159 gm_160 gm_1 gm_161) rfl ⟨rfl, rfl⟩ ⟨rfl, hdX3_corridor⟩ ⟨Nat.le_of_ble_eq_true rfl, Nat.le_of_ble_eq_true rfl⟩ rfl (Nat.le_of_ble_eq_true rfl) rfl ⟨Nat.le_of_ble_eq_true rfl, Nat.le_of_ble_eq_true rfl⟩ dL_refused_121) (fun x16 M15 => ?_)
                refine xm_bipush hX (v := -2) rfl dL_refused_124 ?_
                refine xm_icmp_ne hX (tgt := 388) dL_refused_126 rfl ?_ ?_
                · refine xm_iconst hX (v := 0) rfl dL_refused_388 ?_
                  exact xm_zretL hX (by decide) dL_refused_389
                · refine xm_aload_n hX 1 dL_refused_129 rfl rfl ?_
                  refine xm_iload_n hX 0 dL_refused_130 rfl rfl ?_
                  refine xm_iconst hX (v := 0) rfl dL_refused_131 ?_
                  refine xm_calli hX (xm_runV hX (k := 0) (ci := 3) (As := (fun g => [.int s0, .int (0 : Int32)])) (kX3_marker hL s0 (0 : Int32) M15) (hL _ _ cL_0) rfl (xm_gV gm_176 gm_177 gm_178 gm_1 gm_179) rfl ⟨rfl, rfl⟩ ⟨rfl, hdX3_marker⟩ ⟨Nat.le_of_ble_eq_true rfl, Nat.le_of_ble_eq_true rfl⟩ rfl (Nat.le_of_ble_eq_true rfl) rfl ⟨Nat.le_of_ble_eq_true rfl, Nat.le_of_ble_eq_true rfl⟩ dL_refused_132) (fun x18 M17 => ?_)
                  refine xm_bipush hX (v := -2) rfl dL_refused_135 ?_
                  refine xm_icmp_ne hX (tgt := 388) dL_refused_137 rfl ?_ ?_
                  · refine xm_iconst hX (v := 0) rfl dL_refused_388 ?_
                    exact xm_zretL hX (by decide) dL_refused_389
                  · refine xm_aload_n hX 1 dL_refused_140 rfl rfl ?_
                    refine xm_iconst hX (v := 0) rfl dL_refused_141 ?_
                    refine xm_iload_n hX 0 dL_refused_142 rfl rfl ?_
                    refine xm_calli hX (xm_runV hX (k := 0) (ci := 3) (As := (fun g => [.int (0 : Int32), .int s0])) (kX3_marker hL (0 : Int32) s0 M17) (hL _ _ cL_0) rfl (xm_gV gm_176 gm_177 gm_178 gm_1 gm_179) rfl ⟨rfl, rfl⟩ ⟨rfl, hdX3_marker⟩ ⟨Nat.le_of_ble_eq_true rfl, Nat.le_of_ble_eq_true rfl⟩ rfl (Nat.le_of_ble_eq_true rfl) rfl ⟨Nat.le_of_ble_eq_true rfl, Nat.le_of_ble_eq_true rfl⟩ dL_refused_143) (fun x20 M19 => ?_)
                    refine xm_bipush hX (v := -2) rfl dL_refused_146 ?_
                    refine xm_icmp_ne hX (tgt := 388) dL_refused_148 rfl ?_ ?_
                    · refine xm_iconst hX (v := 0) rfl dL_refused_388 ?_
                      exact xm_zretL hX (by decide) dL_refused_389
                    · refine xm_aload_n hX 1 dL_refused_151 rfl rfl ?_
                      refine xm_calli hX (xm_runV hX (k := 0) (ci := 3) (As := (fun g => [])) (kX3_closeCorridor hL M19) (hL _ _ cL_0) rfl (xm_gV gm_488 gm_489 gm_490 gm_1 gm_491) rfl ⟨rfl, rfl⟩ ⟨rfl, hdX3_closeCorridor⟩ ⟨Nat.le_of_ble_eq_true rfl, Nat.le_of_ble_eq_true rfl⟩ rfl (Nat.le_of_ble_eq_true rfl) rfl ⟨Nat.le_of_ble_eq_true rfl, Nat.le_of_ble_eq_true rfl⟩ dL_refused_152) (fun x22 M21 => ?_)
                      refine xm_bipush hX (v := -5) rfl dL_refused_155 ?_
                      refine xm_icmp_ne hX (tgt := 388) dL_refused_157 rfl ?_ ?_
                      · refine xm_iconst hX (v := 0) rfl dL_refused_388 ?_
                        exact xm_zretL hX (by decide) dL_refused_389
                      · refine xm_aload_n hX 1 dL_refused_160 rfl rfl ?_
                        refine xm_iload_n hX 0 dL_refused_161 rfl rfl ?_
                        refine xm_iconst hX (v := 0) rfl dL_refused_162 ?_
                        refine xm_iconst hX (v := 0) rfl dL_refused_163 ?_
                        refine xm_calli hX (xm_runV hX (k := 0) (ci := 3) (As := (fun g => [.int s0, .int (0 : Int32), .int (0 : Int32)])) (kX3_begin hL s0 (0 : Int32) (0 : Int32) M21) (hL _ _ cL_0) rfl (xm_gV gm_180 gm_181 gm_182 gm_1 gm_183) rfl ⟨rfl, rfl⟩ ⟨rfl, hdX3_begin⟩ ⟨Nat.le_of_ble_eq_true rfl, Nat.le_of_ble_eq_true rfl⟩ rfl (Nat.le_of_ble_eq_true rfl) rfl ⟨Nat.le_of_ble_eq_true rfl, Nat.le_of_ble_eq_true rfl⟩ dL_refused_164) (fun x24 M23 => ?_)
                        refine xm_bipush hX (v := -2) rfl dL_refused_167 ?_
                        refine xm_icmp_ne hX (tgt := 388) dL_refused_169 rfl ?_ ?_
                        · refine xm_iconst hX (v := 0) rfl dL_refused_388 ?_
                          exact xm_zretL hX (by decide) dL_refused_389
                        · refine xm_aload_n hX 1 dL_refused_172 rfl rfl ?_
                          refine xm_iconst hX (v := 0) rfl dL_refused_173 ?_
                          refine xm_iload_n hX 0 dL_refused_174 rfl rfl ?_
                          refine xm_iconst hX (v := 0) rfl dL_refused_175 ?_
                          refine xm_calli hX (xm_runV hX (k := 0) (ci := 3) (As := (fun g => [.int (0 : Int32), .int s0, .int (0 : Int32)])) (kX3_begin hL (0 : Int32) s0 (0 : Int32) M23) (hL _ _ cL_0) rfl (xm_gV gm_180 gm_181 gm_182 gm_1 gm_183) rfl ⟨rfl, rfl⟩ ⟨rfl, hdX3_begin⟩ ⟨Nat.le_of_ble_eq_true rfl, Nat.le_of_ble_eq_true rfl⟩ rfl (Nat.le_of_ble_eq_true rfl) rfl ⟨Nat.le_of_ble_eq_true rfl, Nat.le_of_ble_eq_true rfl⟩ dL_refused_176) (fun x26 M25 => ?_)
                          refine xm_bipush hX (v := -2) rfl dL_refused_179 ?_
                          refine xm_icmp_ne hX (tgt := 388) dL_refused_181 rfl ?_ ?_
                          · refine xm_iconst hX (v := 0) rfl dL_refused_388 ?_
                            exact xm_zretL hX (by decide) dL_refused_389
                          · refine xm_aload_n hX 1 dL_refused_184 rfl rfl ?_
                            refine xm_iconst hX (v := 0) rfl dL_refused_185 ?_
                            refine xm_iconst hX (v := 0) rfl dL_refused_186 ?_
                            refine xm_iload_n hX 0 dL_refused_187 rfl rfl ?_
                            refine xm_calli hX (xm_runV hX (k := 0) (ci := 3) (As := (fun g => [.int (0 : Int32), .int (0 : Int32), .int s0])) (kX3_begin hL (0 : Int32) (0 : Int32) s0 M25) (hL _ _ cL_0) rfl (xm_gV gm_180 gm_181 gm_182 gm_1 gm_183) rfl ⟨rfl, rfl⟩ ⟨rfl, hdX3_begin⟩ ⟨Nat.le_of_ble_eq_true rfl, Nat.le_of_ble_eq_true rfl⟩ rfl (Nat.le_of_ble_eq_true rfl) rfl ⟨Nat.le_of_ble_eq_true rfl, Nat.le_of_ble_eq_true rfl⟩ dL_refused_188) (fun x28 M27 => ?_)
                            refine xm_bipush hX (v := -2) rfl dL_refused_191 ?_
                            refine xm_icmp_ne hX (tgt := 388) dL_refused_193 rfl ?_ ?_
                            · refine xm_iconst hX (v := 0) rfl dL_refused_388 ?_
                              exact xm_zretL hX (by decide) dL_refused_389
                            · refine xm_aload_n hX 1 dL_refused_196 rfl rfl ?_
                              refine xm_iload_n hX 0 dL_refused_197 rfl rfl ?_
                              refine xm_iconst hX (v := 0) rfl dL_refused_198 ?_
                              refine xm_iconst hX (v := 0) rfl dL_refused_199 ?_
                              refine xm_calli hX (xm_runV hX (k := 0) (ci := 3) (As := (fun g => [.int s0, .int (0 : Int32), .int (0 : Int32)])) (kX3_step hL s0 (0 : Int32) (0 : Int32) M27) (hL _ _ cL_0) rfl (xm_gV gm_317 gm_318 gm_319 gm_1 gm_320) rfl ⟨rfl, rfl⟩ ⟨rfl, hdX3_step⟩ ⟨Nat.le_of_ble_eq_true rfl, Nat.le_of_ble_eq_true rfl⟩ rfl (Nat.le_of_ble_eq_true rfl) rfl ⟨Nat.le_of_ble_eq_true rfl, Nat.le_of_ble_eq_true rfl⟩ dL_refused_200) (fun x30 M29 => ?_)
                              refine xm_bipush hX (v := -2) rfl dL_refused_203 ?_
                              refine xm_icmp_ne hX (tgt := 388) dL_refused_205 rfl ?_ ?_
                              · refine xm_iconst hX (v := 0) rfl dL_refused_388 ?_
                                exact xm_zretL hX (by decide) dL_refused_389
                              · refine xm_aload_n hX 1 dL_refused_208 rfl rfl ?_
                                refine xm_iconst hX (v := 0) rfl dL_refused_209 ?_
                                refine xm_iload_n hX 0 dL_refused_210 rfl rfl ?_
                                refine xm_iconst hX (v := 0) rfl dL_refused_211 ?_
                                refine xm_calli hX (xm_runV hX (k := 0) (ci := 3) (As := (fun g => [.int (0 : Int32), .int s0, .int (0 : Int32)])) (kX3_step hL (0 : Int32) s0 (0 : Int32) M29) (hL _ _ cL_0) rfl (xm_gV gm_317 gm_318 gm_319 gm_1 gm_320) rfl ⟨rfl, rfl⟩ ⟨rfl, hdX3_step⟩ ⟨Nat.le_of_ble_eq_true rfl, Nat.le_of_ble_eq_true rfl⟩ rfl (Nat.le_of_ble_eq_true rfl) rfl ⟨Nat.le_of_ble_eq_true rfl, Nat.le_of_ble_eq_true rfl⟩ dL_refused_212) (fun x32 M31 => ?_)
                                refine xm_bipush hX (v := -2) rfl dL_refused_215 ?_
                                refine xm_icmp_ne hX (tgt := 388) dL_refused_217 rfl ?_ ?_
                                · refine xm_iconst hX (v := 0) rfl dL_refused_388 ?_
                                  exact xm_zretL hX (by decide) dL_refused_389
                                · refine xm_aload_n hX 1 dL_refused_220 rfl rfl ?_
                                  refine xm_iconst hX (v := 0) rfl dL_refused_221 ?_
                                  refine xm_iconst hX (v := 0) rfl dL_refused_222 ?_
                                  refine xm_iload_n hX 0 dL_refused_223 rfl rfl ?_
                                  refine xm_calli hX (xm_runV hX (k := 0) (ci := 3) (As := (fun g => [.int (0 : Int32), .int (0 : Int32), .int s0])) (kX3_step hL (0 : Int32) (0 : Int32) s0 M31) (hL _ _ cL_0) rfl (xm_gV gm_317 gm_318 gm_319 gm_1 gm_320) rfl ⟨rfl, rfl⟩ ⟨rfl, hdX3_step⟩ ⟨Nat.le_of_ble_eq_true rfl, Nat.le_of_ble_eq_true rfl⟩ rfl (Nat.le_of_ble_eq_true rfl) rfl ⟨Nat.le_of_ble_eq_true rfl, Nat.le_of_ble_eq_true rfl⟩ dL_refused_224) (fun x34 M33 => ?_)
                                  refine xm_bipush hX (v := -2) rfl dL_refused_227 ?_
                                  refine xm_icmp_ne hX (tgt := 388) dL_refused_229 rfl ?_ ?_
                                  · refine xm_iconst hX (v := 0) rfl dL_refused_388 ?_
                                    exact xm_zretL hX (by decide) dL_refused_389
                                  · refine xm_aload_n hX 1 dL_refused_232 rfl rfl ?_
                                    refine xm_iload_n hX 0 dL_refused_233 rfl rfl ?_
                                    refine xm_calli hX (xm_runV hX (k := 0) (ci := 3) (As := (fun g => [.int s0])) (kX3_see hL s0 M33) (hL _ _ cL_0) rfl (xm_gV gm_304 gm_305 gm_306 gm_1 gm_307) rfl ⟨rfl, rfl⟩ ⟨rfl, hdX3_see⟩ ⟨Nat.le_of_ble_eq_true rfl, Nat.le_of_ble_eq_true rfl⟩ rfl (Nat.le_of_ble_eq_true rfl) rfl ⟨Nat.le_of_ble_eq_true rfl, Nat.le_of_ble_eq_true rfl⟩ dL_refused_234) (fun x36 M35 => ?_)
                                    refine xm_iconst hX (v := -1) rfl dL_refused_237 ?_
                                    refine xm_icmp_ne hX (tgt := 388) dL_refused_238 rfl ?_ ?_
                                    · refine xm_iconst hX (v := 0) rfl dL_refused_388 ?_
                                      exact xm_zretL hX (by decide) dL_refused_389
                                    · refine xm_aload_n hX 1 dL_refused_241 rfl rfl ?_
                                      refine xm_iload_n hX 0 dL_refused_242 rfl rfl ?_
                                      refine xm_calli hX (xm_runV hX (k := 0) (ci := 3) (As := (fun g => [.int s0])) (kX3_cut hL s0 M35) (hL _ _ cL_0) rfl (xm_gV gm_327 gm_328 gm_329 gm_1 gm_330) rfl ⟨rfl, rfl⟩ ⟨rfl, hdX3_cut⟩ ⟨Nat.le_of_ble_eq_true rfl, Nat.le_of_ble_eq_true rfl⟩ rfl (Nat.le_of_ble_eq_true rfl) rfl ⟨Nat.le_of_ble_eq_true rfl, Nat.le_of_ble_eq_true rfl⟩ dL_refused_243) (fun x38 M37 => ?_)
                                      refine xm_bipush hX (v := -2) rfl dL_refused_246 ?_
                                      refine xm_icmp_ne hX (tgt := 388) dL_refused_248 rfl ?_ ?_
                                      · refine xm_iconst hX (v := 0) rfl dL_refused_388 ?_
                                        exact xm_zretL hX (by decide) dL_refused_389
                                      · refine xm_aload_n hX 1 dL_refused_251 rfl rfl ?_
                                        refine xm_iload_n hX 0 dL_refused_252 rfl rfl ?_
                                        refine xm_iconst hX (v := 0) rfl dL_refused_253 ?_
                                        refine xm_calli hX (xm_runV hX (k := 0) (ci := 3) (As := (fun g => [.int s0, .int (0 : Int32)])) (kX3_pose hL s0 (0 : Int32) M37) (hL _ _ cL_0) rfl (xm_gV gm_283 gm_284 gm_285 gm_1 gm_286) rfl ⟨rfl, rfl⟩ ⟨rfl, hdX3_pose⟩ ⟨Nat.le_of_ble_eq_true rfl, Nat.le_of_ble_eq_true rfl⟩ rfl (Nat.le_of_ble_eq_true rfl) rfl ⟨Nat.le_of_ble_eq_true rfl, Nat.le_of_ble_eq_true rfl⟩ dL_refused_254) (fun x40 M39 => ?_)
                                        refine xm_ldc hX (v := -1000000001) (List.mem_cons_of_mem _ gm_498) dL_refused_257 ?_
                                        refine xm_icmp_ne hX (tgt := 388) dL_refused_259 rfl ?_ ?_
                                        · refine xm_iconst hX (v := 0) rfl dL_refused_388 ?_
                                          exact xm_zretL hX (by decide) dL_refused_389
                                        · refine xm_aload_n hX 1 dL_refused_262 rfl rfl ?_
                                          refine xm_iconst hX (v := -1) rfl dL_refused_263 ?_
                                          refine xm_iload_n hX 0 dL_refused_264 rfl rfl ?_
                                          refine xm_calli hX (xm_runV hX (k := 0) (ci := 3) (As := (fun g => [.int (-1 : Int32), .int s0])) (kX3_pose hL (-1 : Int32) s0 M39) (hL _ _ cL_0) rfl (xm_gV gm_283 gm_284 gm_285 gm_1 gm_286) rfl ⟨rfl, rfl⟩ ⟨rfl, hdX3_pose⟩ ⟨Nat.le_of_ble_eq_true rfl, Nat.le_of_ble_eq_true rfl⟩ rfl (Nat.le_of_ble_eq_true rfl) rfl ⟨Nat.le_of_ble_eq_true rfl, Nat.le_of_ble_eq_true rfl⟩ dL_refused_265) (fun x42 M41 => ?_)
                                          refine xm_ldc hX (v := -1000000002) (List.mem_cons_of_mem _ gm_499) dL_refused_268 ?_
                                          refine xm_icmp_ne hX (tgt := 388) dL_refused_270 rfl ?_ ?_
                                          · refine xm_iconst hX (v := 0) rfl dL_refused_388 ?_
                                            exact xm_zretL hX (by decide) dL_refused_389
                                          · refine xm_aload_n hX 1 dL_refused_273 rfl rfl ?_
                                            refine xm_iload_n hX 0 dL_refused_274 rfl rfl ?_
                                            refine xm_iconst hX (v := 0) rfl dL_refused_275 ?_
                                            refine xm_calli hX (xm_runV hX (k := 0) (ci := 3) (As := (fun g => [.int s0, .int (0 : Int32)])) (kX3_about hL s0 (0 : Int32) M41) (hL _ _ cL_0) rfl (xm_gV gm_312 gm_313 gm_314 gm_1 gm_315) rfl ⟨rfl, rfl⟩ ⟨rfl, hdX3_about⟩ ⟨Nat.le_of_ble_eq_true rfl, Nat.le_of_ble_eq_true rfl⟩ rfl (Nat.le_of_ble_eq_true rfl) rfl ⟨Nat.le_of_ble_eq_true rfl, Nat.le_of_ble_eq_true rfl⟩ dL_refused_276) (fun x44 M43 => ?_)
                                            refine xm_ldc hX (v := -1000000001) (List.mem_cons_of_mem _ gm_498) dL_refused_279 ?_
                                            refine xm_icmp_ne hX (tgt := 388) dL_refused_281 rfl ?_ ?_
                                            · refine xm_iconst hX (v := 0) rfl dL_refused_388 ?_
                                              exact xm_zretL hX (by decide) dL_refused_389
                                            · refine xm_aload_n hX 1 dL_refused_284 rfl rfl ?_
                                              refine xm_iload_n hX 0 dL_refused_285 rfl rfl ?_
                                              refine xm_calli hX (xm_runV hX (k := 0) (ci := 3) (As := (fun g => [.int s0])) (kX3_count hL s0 M43) (hL _ _ cL_0) rfl (xm_gV gm_196 gm_197 gm_198 gm_1 gm_199) rfl ⟨rfl, rfl⟩ ⟨rfl, hdX3_count⟩ ⟨Nat.le_of_ble_eq_true rfl, Nat.le_of_ble_eq_true rfl⟩ rfl (Nat.le_of_ble_eq_true rfl) rfl ⟨Nat.le_of_ble_eq_true rfl, Nat.le_of_ble_eq_true rfl⟩ dL_refused_286) (fun x46 M45 => ?_)
                                              refine xm_bipush hX (v := -2) rfl dL_refused_289 ?_
                                              refine xm_icmp_ne hX (tgt := 388) dL_refused_291 rfl ?_ ?_
                                              · refine xm_iconst hX (v := 0) rfl dL_refused_388 ?_
                                                exact xm_zretL hX (by decide) dL_refused_389
                                              · refine xm_aload_n hX 1 dL_refused_294 rfl rfl ?_
                                                refine xm_iload_n hX 0 dL_refused_295 rfl rfl ?_
                                                refine xm_iconst hX (v := 0) rfl dL_refused_296 ?_
                                                refine xm_calli hX (xm_runV hX (k := 0) (ci := 3) (As := (fun g => [.int s0, .int (0 : Int32)])) (kX3_wave hL s0 (0 : Int32) M45) (hL _ _ cL_0) rfl (xm_gV gm_355 gm_356 gm_357 gm_1 gm_358) rfl ⟨rfl, rfl⟩ ⟨rfl, hdX3_wave⟩ ⟨Nat.le_of_ble_eq_true rfl, Nat.le_of_ble_eq_true rfl⟩ rfl (Nat.le_of_ble_eq_true rfl) rfl ⟨Nat.le_of_ble_eq_true rfl, Nat.le_of_ble_eq_true rfl⟩ dL_refused_297) (fun x48 M47 => ?_)
                                                refine xm_ldc hX (v := -1000000002) (List.mem_cons_of_mem _ gm_499) dL_refused_300 ?_
                                                refine xm_icmp_ne hX (tgt := 388) dL_refused_302 rfl ?_ ?_
                                                · refine xm_iconst hX (v := 0) rfl dL_refused_388 ?_
                                                  exact xm_zretL hX (by decide) dL_refused_389
                                                · refine xm_aload_n hX 1 dL_refused_305 rfl rfl ?_
                                                  refine xm_iload_n hX 0 dL_refused_306 rfl rfl ?_
                                                  refine xm_iconst hX (v := 1) rfl dL_refused_307 ?_
                                                  refine xm_iconst hX (v := 0) rfl dL_refused_308 ?_
                                                  refine xm_calli hX (xm_runV hX (k := 0) (ci := 3) (As := (fun g => [.int s0, .int (1 : Int32), .int (0 : Int32)])) (kX3_ifSet hL s0 (1 : Int32) (0 : Int32) M47) (hL _ _ cL_0) rfl (xm_gV gm_375 gm_376 gm_377 gm_1 gm_378) rfl ⟨rfl, rfl⟩ ⟨rfl, hdX3_ifSet⟩ ⟨Nat.le_of_ble_eq_true rfl, Nat.le_of_ble_eq_true rfl⟩ rfl (Nat.le_of_ble_eq_true rfl) rfl ⟨Nat.le_of_ble_eq_true rfl, Nat.le_of_ble_eq_true rfl⟩ dL_refused_309) (fun x50 M49 => ?_)
                                                  refine xm_ldc hX (v := -1000000002) (List.mem_cons_of_mem _ gm_499) dL_refused_312 ?_
                                                  refine xm_icmp_ne hX (tgt := 388) dL_refused_314 rfl ?_ ?_
                                                  · refine xm_iconst hX (v := 0) rfl dL_refused_388 ?_
                                                    exact xm_zretL hX (by decide) dL_refused_389
                                                  · refine xm_aload_n hX 1 dL_refused_317 rfl rfl ?_
                                                    refine xm_iconst hX (v := 0) rfl dL_refused_318 ?_
                                                    refine xm_iload_n hX 0 dL_refused_319 rfl rfl ?_
                                                    refine xm_iconst hX (v := 0) rfl dL_refused_320 ?_
                                                    refine xm_calli hX (xm_runV hX (k := 0) (ci := 3) (As := (fun g => [.int (0 : Int32), .int s0, .int (0 : Int32)])) (kX3_ifSet hL (0 : Int32) s0 (0 : Int32) M49) (hL _ _ cL_0) rfl (xm_gV gm_375 gm_376 gm_377 gm_1 gm_378) rfl ⟨rfl, rfl⟩ ⟨rfl, hdX3_ifSet⟩ ⟨Nat.le_of_ble_eq_true rfl, Nat.le_of_ble_eq_true rfl⟩ rfl (Nat.le_of_ble_eq_true rfl) rfl ⟨Nat.le_of_ble_eq_true rfl, Nat.le_of_ble_eq_true rfl⟩ dL_refused_321) (fun x52 M51 => ?_)
                                                    refine xm_ldc hX (v := -1000000002) (List.mem_cons_of_mem _ gm_499) dL_refused_324 ?_
                                                    refine xm_icmp_ne hX (tgt := 388) dL_refused_326 rfl ?_ ?_
                                                    · refine xm_iconst hX (v := 0) rfl dL_refused_388 ?_
                                                      exact xm_zretL hX (by decide) dL_refused_389
                                                    · refine xm_aload_n hX 1 dL_refused_329 rfl rfl ?_
                                                      refine xm_calli hX (xm_runV hX (k := 0) (ci := 3) (As := (fun g => [])) (kX3_bestBase hL M51) (hL _ _ cL_0) rfl (xm_gV gm_391 gm_392 gm_393 gm_1 gm_394) rfl ⟨rfl, rfl⟩ ⟨rfl, hdX3_bestBase⟩ ⟨Nat.le_of_ble_eq_true rfl, Nat.le_of_ble_eq_true rfl⟩ rfl (Nat.le_of_ble_eq_true rfl) rfl ⟨Nat.le_of_ble_eq_true rfl, Nat.le_of_ble_eq_true rfl⟩ dL_refused_330) (fun x54 M53 => ?_)
                                                      refine xm_bipush hX (v := -6) rfl dL_refused_333 ?_
                                                      refine xm_icmp_ne hX (tgt := 388) dL_refused_335 rfl ?_ ?_
                                                      · refine xm_iconst hX (v := 0) rfl dL_refused_388 ?_
                                                        exact xm_zretL hX (by decide) dL_refused_389
                                                      · refine xm_aload_n hX 1 dL_refused_338 rfl rfl ?_
                                                        refine xm_calli hX (xm_runV hX (k := 0) (ci := 3) (As := (fun g => [])) (kX3_bestTrust hL M53) (hL _ _ cL_0) rfl (xm_gV gm_400 gm_401 gm_402 gm_1 gm_403) rfl ⟨rfl, rfl⟩ ⟨rfl, hdX3_bestTrust⟩ ⟨Nat.le_of_ble_eq_true rfl, Nat.le_of_ble_eq_true rfl⟩ rfl (Nat.le_of_ble_eq_true rfl) rfl ⟨Nat.le_of_ble_eq_true rfl, Nat.le_of_ble_eq_true rfl⟩ dL_refused_339) (fun x56 M55 => ?_)
                                                        refine xm_bipush hX (v := -6) rfl dL_refused_342 ?_
                                                        refine xm_icmp_ne hX (tgt := 388) dL_refused_344 rfl ?_ ?_
                                                        · refine xm_iconst hX (v := 0) rfl dL_refused_388 ?_
                                                          exact xm_zretL hX (by decide) dL_refused_389
                                                        · refine xm_aload_n hX 1 dL_refused_347 rfl rfl ?_
                                                          refine xm_calli hX (xm_runV hX (k := 0) (ci := 3) (As := (fun g => [])) (kX3_load hL M55) (hL _ _ cL_0) rfl (xm_gV gm_468 gm_469 gm_470 gm_1 gm_471) rfl ⟨rfl, rfl⟩ ⟨rfl, hdX3_load⟩ ⟨Nat.le_of_ble_eq_true rfl, Nat.le_of_ble_eq_true rfl⟩ rfl (Nat.le_of_ble_eq_true rfl) rfl ⟨Nat.le_of_ble_eq_true rfl, Nat.le_of_ble_eq_true rfl⟩ dL_refused_348) (fun x58 M57 => ?_)
                                                          refine xm_bipush hX (v := -3) rfl dL_refused_351 ?_
                                                          refine xm_icmp_ne hX (tgt := 388) dL_refused_353 rfl ?_ ?_
                                                          · refine xm_iconst hX (v := 0) rfl dL_refused_388 ?_
                                                            exact xm_zretL hX (by decide) dL_refused_389
                                                          · refine xm_aload_n hX 1 dL_refused_356 rfl rfl ?_
                                                            refine xm_iload_n hX 0 dL_refused_357 rfl rfl ?_
                                                            refine xm_calli hX (xm_runV hX (k := 0) (ci := 3) (As := (fun g => [.int s0])) (kX3_save hL s0 M57) (hL _ _ cL_0) rfl (xm_gV gm_408 gm_409 gm_410 gm_1 gm_411) rfl ⟨rfl, rfl⟩ ⟨rfl, hdX3_save⟩ ⟨Nat.le_of_ble_eq_true rfl, Nat.le_of_ble_eq_true rfl⟩ rfl (Nat.le_of_ble_eq_true rfl) rfl ⟨Nat.le_of_ble_eq_true rfl, Nat.le_of_ble_eq_true rfl⟩ dL_refused_358) (fun x60 M59 => ?_)
                                                            refine xm_bipush hX (v := -2) rfl dL_refused_361 ?_
                                                            refine xm_icmp_ne hX (tgt := 388) dL_refused_363 rfl ?_ ?_
                                                            · refine xm_iconst hX (v := 0) rfl dL_refused_388 ?_
                                                              exact xm_zretL hX (by decide) dL_refused_389
                                                            · refine xm_aload_n hX 1 dL_refused_366 rfl rfl ?_
                                                              refine xm_iload_n hX 0 dL_refused_367 rfl rfl ?_
                                                              refine xm_calli hX (xm_runV hX (k := 0) (ci := 3) (As := (fun g => [.int s0])) (kX3_restore hL s0 M59) (hL _ _ cL_0) rfl (xm_gV gm_480 gm_481 gm_482 gm_1 gm_483) rfl ⟨rfl, rfl⟩ ⟨rfl, hdX3_restore⟩ ⟨Nat.le_of_ble_eq_true rfl, Nat.le_of_ble_eq_true rfl⟩ rfl (Nat.le_of_ble_eq_true rfl) rfl ⟨Nat.le_of_ble_eq_true rfl, Nat.le_of_ble_eq_true rfl⟩ dL_refused_368) (fun x62 M61 => ?_)
                                                              refine xm_bipush hX (v := -2) rfl dL_refused_371 ?_
                                                              refine xm_icmp_ne hX (tgt := 388) dL_refused_373 rfl ?_ ?_
                                                              · refine xm_iconst hX (v := 0) rfl dL_refused_388 ?_
                                                                exact xm_zretL hX (by decide) dL_refused_389
                                                              · refine xm_aload_n hX 1 dL_refused_376 rfl rfl ?_
                                                                refine xm_iconst hX (v := 0) rfl dL_refused_377 ?_
                                                                refine xm_calli hX (xm_runV hX (k := 0) (ci := 3) (As := (fun g => [.int (0 : Int32)])) (kX3_count hL (0 : Int32) M61) (hL _ _ cL_0) rfl (xm_gV gm_196 gm_197 gm_198 gm_1 gm_199) rfl ⟨rfl, rfl⟩ ⟨rfl, hdX3_count⟩ ⟨Nat.le_of_ble_eq_true rfl, Nat.le_of_ble_eq_true rfl⟩ rfl (Nat.le_of_ble_eq_true rfl) rfl ⟨Nat.le_of_ble_eq_true rfl, Nat.le_of_ble_eq_true rfl⟩ dL_refused_378) (fun x64 M63 => ?_)
                                                                refine xm_if_ne hX (tgt := 388) dL_refused_381 rfl ?_ ?_
                                                                · refine xm_iconst hX (v := 0) rfl dL_refused_388 ?_
                                                                  exact xm_zretL hX (by decide) dL_refused_389
                                                                · refine xm_iconst hX (v := 1) rfl dL_refused_384 ?_
                                                                  refine xm_goto hX (tgt := 389) dL_refused_385 rfl ?_
                                                                  exact xm_zretL hX (by decide) dL_refused_389
def fL_refused  (a1 : Int32) (M : xm_M) : Option (Int32 × xm_M) :=
  if 0 ≤ a1 then fL_refused_23 ((a1 - a1 / (1000000 : Int32) * (1000000 : Int32)) + (3600000 : Int32)) M else xm_bi (fL_up a1 (1000000 : Int32) M) (fun x66 M65 => fL_refused_23 ((-300001 : Int32) - x66) M65)
set_option maxRecDepth 20000 in
theorem kL_refused {l : Launch} {L : List xm_Sh} (hL : xm_pre L)   (a1 : Int32) (M : xm_M) : xm_C l yL_refused wL_refused ({ frames := 7, cells := 0, slots := 0, locals := 179 }) L (fun g => [.ref (g.1 0), .int a1]) M xm_Fi (fL_refused  a1 M) := by
  refine xm_C.of (by decide) rfl (fun g => Nat.le_of_ble_eq_true rfl) ?_
  intro p e s m args below meth c D g A hX
  refine xm_lv (lv' := [(0, .ref (g.1 0)), (1, .int a1)]) rfl ?_
  unfold fL_refused
  refine xm_iload_n hX 1 dL_refused_0 rfl rfl ?_
  refine xm_if_ge hX (tgt := 16) dL_refused_1 rfl ?_ ?_
  · refine xm_iload_n hX 1 dL_refused_16 rfl rfl ?_
    refine xm_ldc hX (v := 1000000) (List.mem_cons_of_mem _ gm_497) dL_refused_17 ?_
    refine xm_iremL hX (by decide) dL_refused_19 ?_
    refine xm_ldc hX (v := 3600000) (List.mem_cons_of_mem _ gm_492) dL_refused_20 ?_
    refine xm_iadd hX dL_refused_22 ?_
    refine xm_weak [0] (lv' := [(0, .ref (g.1 0))]) rfl ?_
    exact tfL_refused_23 hL hX ((a1 - a1 / (1000000 : Int32) * (1000000 : Int32)) + (3600000 : Int32)) M
  · refine xm_ldc hX (v := -300001) (List.mem_cons_of_mem _ gm_496) dL_refused_4 ?_
    refine xm_iload_n hX 1 dL_refused_6 rfl rfl ?_
    refine xm_ldc hX (v := 1000000) (List.mem_cons_of_mem _ gm_497) dL_refused_7 ?_
    refine xm_calli hX (xm_runS hX (As := (fun g => [.int a1, .int (1000000 : Int32)])) (kL_up hL a1 (1000000 : Int32) M) (xm_gS gm_189 gm_190 gm_0 gm_191) rfl ⟨rfl, rfl⟩ hdL_up ⟨Nat.le_of_ble_eq_true rfl, Nat.le_of_ble_eq_true rfl⟩ rfl (Nat.le_of_ble_eq_true rfl) rfl ⟨Nat.le_of_ble_eq_true rfl, Nat.le_of_ble_eq_true rfl⟩ dL_refused_9) (fun x66 M65 => ?_)
    refine xm_isub hX dL_refused_12 ?_
    refine xm_goto hX (tgt := 23) dL_refused_13 rfl ?_
    refine xm_weak [0] (lv' := [(0, .ref (g.1 0))]) rfl ?_
    exact tfL_refused_23 hL hX ((-300001 : Int32) - x66) M65
-- ===== OdometryDeskLaw.round(J)I
theorem dL_round_0 : decode cL_round 0 = .ok (.lload_n 0, 1) := by decide +kernel
theorem dL_round_1 : decode cL_round 1 = .ok (.ldc2_w 86, 3) := by decide +kernel
theorem dL_round_4 : decode cL_round 4 = .ok (.lrem, 1) := by decide +kernel
theorem dL_round_5 : decode cL_round 5 = .ok (.ldc2_w 86, 3) := by decide +kernel
theorem dL_round_8 : decode cL_round 8 = .ok (.ladd, 1) := by decide +kernel
theorem dL_round_9 : decode cL_round 9 = .ok (.ldc2_w 86, 3) := by decide +kernel
theorem dL_round_12 : decode cL_round 12 = .ok (.lrem, 1) := by decide +kernel
theorem dL_round_13 : decode cL_round 13 = .ok (.l2i, 1) := by decide +kernel
theorem dL_round_14 : decode cL_round 14 = .ok (.ireturn, 1) := by decide +kernel
abbrev wL_round : List Cond := .code yL_round cL_round 2 (some .int) :: lw_gd
theorem hdL_round : (yL_round.cls ≠ "java/lang/invoke/MethodHandle" ∧ yL_round.cls ≠ "java/lang/invoke/VarHandle" ∧ (parseMethodDescriptor yL_round.desc).map (fun d => d.parameters.length) = some 1) := by decide +kernel
def fL_round  (a0 : Int64) (M : xm_M) : Option (Int32 × xm_M) :=
  some ((((a0 - a0 / (3600000 : Int64) * (3600000 : Int64)) + (3600000 : Int64)) - ((a0 - a0 / (3600000 : Int64) * (3600000 : Int64)) + (3600000 : Int64)) / (3600000 : Int64) * (3600000 : Int64)).toInt32, M)
set_option maxRecDepth 20000 in
theorem kL_round {l : Launch} {L : List xm_Sh} (hL : xm_pre L)   (a0 : Int64) (M : xm_M) : xm_C l yL_round wL_round ({ frames := 0, cells := 0, slots := 0, locals := 0 }) L (fun g => [.long a0]) M xm_Fi (fL_round  a0 M) := by
  refine xm_C.of (by decide) rfl (fun g => Nat.le_of_ble_eq_true rfl) ?_
  intro p e s m args below meth c D g A hX
  refine xm_lv (lv' := [(0, .long a0)]) rfl ?_
  unfold fL_round
  refine xm_lload_n hX 0 dL_round_0 rfl rfl ?_
  refine xm_ldc2 hX (v := 3600000) (List.mem_cons_of_mem _ gm_349) dL_round_1 ?_
  refine xm_lremL hX (by decide) dL_round_4 ?_
  refine xm_ldc2 hX (v := 3600000) (List.mem_cons_of_mem _ gm_349) dL_round_5 ?_
  refine xm_ladd hX dL_round_8 ?_
  refine xm_ldc2 hX (v := 3600000) (List.mem_cons_of_mem _ gm_349) dL_round_9 ?_
  refine xm_lremL hX (by decide) dL_round_12 ?_
  refine xm_l2i hX dL_round_13 ?_
  exact xm_iret hX dL_round_14
-- ===== OdometryDeskLaw.size(I)I
theorem dL_size_0 : decode cL_size 0 = .ok (.iload_n 0, 1) := by decide +kernel
theorem dL_size_1 : decode cL_size 1 = .ok (.ifCond .ge 8, 3) := by decide +kernel
theorem dL_size_4 : decode cL_size 4 = .ok (.iload_n 0, 1) := by decide +kernel
theorem dL_size_5 : decode cL_size 5 = .ok (.ineg, 1) := by decide +kernel
theorem dL_size_6 : decode cL_size 6 = .ok (.goto 4, 3) := by decide +kernel
theorem dL_size_9 : decode cL_size 9 = .ok (.iload_n 0, 1) := by decide +kernel
theorem dL_size_10 : decode cL_size 10 = .ok (.ireturn, 1) := by decide +kernel
abbrev wL_size : List Cond := .code yL_size cL_size 1 (some .int) :: lw_gd
theorem hdL_size : (yL_size.cls ≠ "java/lang/invoke/MethodHandle" ∧ yL_size.cls ≠ "java/lang/invoke/VarHandle" ∧ (parseMethodDescriptor yL_size.desc).map (fun d => d.parameters.length) = some 1) := by decide +kernel
def fL_size  (a0 : Int32) (M : xm_M) : Option (Int32 × xm_M) :=
  if 0 ≤ a0 then some (a0, M) else some (-a0, M)
set_option maxRecDepth 20000 in
theorem kL_size {l : Launch} {L : List xm_Sh} (hL : xm_pre L)   (a0 : Int32) (M : xm_M) : xm_C l yL_size wL_size ({ frames := 0, cells := 0, slots := 0, locals := 0 }) L (fun g => [.int a0]) M xm_Fi (fL_size  a0 M) := by
  refine xm_C.of (by decide) rfl (fun g => Nat.le_of_ble_eq_true rfl) ?_
  intro p e s m args below meth c D g A hX
  refine xm_lv (lv' := [(0, .int a0)]) rfl ?_
  unfold fL_size
  refine xm_iload_n hX 0 dL_size_0 rfl rfl ?_
  refine xm_if_ge hX (tgt := 9) dL_size_1 rfl ?_ ?_
  · refine xm_iload_n hX 0 dL_size_9 rfl rfl ?_
    exact xm_iret hX dL_size_10
  · refine xm_iload_n hX 0 dL_size_4 rfl rfl ?_
    refine xm_ineg hX dL_size_5 ?_
    refine xm_goto hX (tgt := 10) dL_size_6 rfl ?_
    exact xm_iret hX dL_size_10
-- ===== OdometryDeskLaw.turns(LOdometryDesk;IIII)Z ['0']
theorem dL_turns_0 : decode cL_turns 0 = .ok (.aload_n 0, 1) := by decide +kernel
theorem dL_turns_1 : decode cL_turns 1 = .ok (.bipush 12, 2) := by decide +kernel
theorem dL_turns_3 : decode cL_turns 3 = .ok (.invokevirtual 65, 3) := by decide +kernel
theorem dL_turns_6 : decode cL_turns 6 = .ok (.i2l, 1) := by decide +kernel
theorem dL_turns_7 : decode cL_turns 7 = .ok (.aload_n 0, 1) := by decide +kernel
theorem dL_turns_8 : decode cL_turns 8 = .ok (.iload_n 1, 1) := by decide +kernel
theorem dL_turns_9 : decode cL_turns 9 = .ok (.iconst 1, 1) := by decide +kernel
theorem dL_turns_10 : decode cL_turns 10 = .ok (.invokevirtual 75, 3) := by decide +kernel
theorem dL_turns_13 : decode cL_turns 13 = .ok (.i2l, 1) := by decide +kernel
theorem dL_turns_14 : decode cL_turns 14 = .ok (.lmul, 1) := by decide +kernel
theorem dL_turns_15 : decode cL_turns 15 = .ok (.lstore 5, 2) := by decide +kernel
theorem dL_turns_17 : decode cL_turns 17 = .ok (.aload_n 0, 1) := by decide +kernel
theorem dL_turns_18 : decode cL_turns 18 = .ok (.bipush 13, 2) := by decide +kernel
theorem dL_turns_20 : decode cL_turns 20 = .ok (.invokevirtual 65, 3) := by decide +kernel
theorem dL_turns_23 : decode cL_turns 23 = .ok (.i2l, 1) := by decide +kernel
theorem dL_turns_24 : decode cL_turns 24 = .ok (.aload_n 0, 1) := by decide +kernel
theorem dL_turns_25 : decode cL_turns 25 = .ok (.iload_n 1, 1) := by decide +kernel
theorem dL_turns_26 : decode cL_turns 26 = .ok (.iconst 2, 1) := by decide +kernel
theorem dL_turns_27 : decode cL_turns 27 = .ok (.invokevirtual 75, 3) := by decide +kernel
theorem dL_turns_30 : decode cL_turns 30 = .ok (.i2l, 1) := by decide +kernel
theorem dL_turns_31 : decode cL_turns 31 = .ok (.lmul, 1) := by decide +kernel
theorem dL_turns_32 : decode cL_turns 32 = .ok (.lstore 7, 2) := by decide +kernel
theorem dL_turns_34 : decode cL_turns 34 = .ok (.ldc2_w 101, 3) := by decide +kernel
theorem dL_turns_37 : decode cL_turns 37 = .ok (.aload_n 0, 1) := by decide +kernel
theorem dL_turns_38 : decode cL_turns 38 = .ok (.bipush 14, 2) := by decide +kernel
theorem dL_turns_40 : decode cL_turns 40 = .ok (.invokevirtual 65, 3) := by decide +kernel
theorem dL_turns_43 : decode cL_turns 43 = .ok (.i2l, 1) := by decide +kernel
theorem dL_turns_44 : decode cL_turns 44 = .ok (.lmul, 1) := by decide +kernel
theorem dL_turns_45 : decode cL_turns 45 = .ok (.lstore 9, 2) := by decide +kernel
theorem dL_turns_47 : decode cL_turns 47 = .ok (.lload 7, 2) := by decide +kernel
theorem dL_turns_49 : decode cL_turns 49 = .ok (.lload 5, 2) := by decide +kernel
theorem dL_turns_51 : decode cL_turns 51 = .ok (.lsub, 1) := by decide +kernel
theorem dL_turns_52 : decode cL_turns 52 = .ok (.ldc2_w 103, 3) := by decide +kernel
theorem dL_turns_55 : decode cL_turns 55 = .ok (.lmul, 1) := by decide +kernel
theorem dL_turns_56 : decode cL_turns 56 = .ok (.lload 9, 2) := by decide +kernel
theorem dL_turns_58 : decode cL_turns 58 = .ok (.ldiv, 1) := by decide +kernel
theorem dL_turns_59 : decode cL_turns 59 = .ok (.lstore 11, 2) := by decide +kernel
theorem dL_turns_61 : decode cL_turns 61 = .ok (.aload_n 0, 1) := by decide +kernel
theorem dL_turns_62 : decode cL_turns 62 = .ok (.iload_n 1, 1) := by decide +kernel
theorem dL_turns_63 : decode cL_turns 63 = .ok (.iconst 3, 1) := by decide +kernel
theorem dL_turns_64 : decode cL_turns 64 = .ok (.invokevirtual 75, 3) := by decide +kernel
theorem dL_turns_67 : decode cL_turns 67 = .ok (.iload_n 3, 1) := by decide +kernel
theorem dL_turns_68 : decode cL_turns 68 = .ok (.bipush 16, 2) := by decide +kernel
theorem dL_turns_70 : decode cL_turns 70 = .ok (.idiv, 1) := by decide +kernel
theorem dL_turns_71 : decode cL_turns 71 = .ok (.isub, 1) := by decide +kernel
theorem dL_turns_72 : decode cL_turns 72 = .ok (.i2l, 1) := by decide +kernel
theorem dL_turns_73 : decode cL_turns 73 = .ok (.lstore 13, 2) := by decide +kernel
theorem dL_turns_75 : decode cL_turns 75 = .ok (.lload 11, 2) := by decide +kernel
theorem dL_turns_77 : decode cL_turns 77 = .ok (.lload 13, 2) := by decide +kernel
theorem dL_turns_79 : decode cL_turns 79 = .ok (.lsub, 1) := by decide +kernel
theorem dL_turns_80 : decode cL_turns 80 = .ok (.aload_n 0, 1) := by decide +kernel
theorem dL_turns_81 : decode cL_turns 81 = .ok (.bipush 15, 2) := by decide +kernel
theorem dL_turns_83 : decode cL_turns 83 = .ok (.invokevirtual 65, 3) := by decide +kernel
theorem dL_turns_86 : decode cL_turns 86 = .ok (.i2l, 1) := by decide +kernel
theorem dL_turns_87 : decode cL_turns 87 = .ok (.lcmp, 1) := by decide +kernel
theorem dL_turns_88 : decode cL_turns 88 = .ok (.ifCond .gt 19, 3) := by decide +kernel
theorem dL_turns_91 : decode cL_turns 91 = .ok (.lload 13, 2) := by decide +kernel
theorem dL_turns_93 : decode cL_turns 93 = .ok (.lload 11, 2) := by decide +kernel
theorem dL_turns_95 : decode cL_turns 95 = .ok (.lsub, 1) := by decide +kernel
theorem dL_turns_96 : decode cL_turns 96 = .ok (.aload_n 0, 1) := by decide +kernel
theorem dL_turns_97 : decode cL_turns 97 = .ok (.bipush 15, 2) := by decide +kernel
theorem dL_turns_99 : decode cL_turns 99 = .ok (.invokevirtual 65, 3) := by decide +kernel
theorem dL_turns_102 : decode cL_turns 102 = .ok (.i2l, 1) := by decide +kernel
theorem dL_turns_103 : decode cL_turns 103 = .ok (.lcmp, 1) := by decide +kernel
theorem dL_turns_104 : decode cL_turns 104 = .ok (.ifCond .le 7, 3) := by decide +kernel
theorem dL_turns_107 : decode cL_turns 107 = .ok (.iconst 1, 1) := by decide +kernel
theorem dL_turns_108 : decode cL_turns 108 = .ok (.goto 4, 3) := by decide +kernel
theorem dL_turns_111 : decode cL_turns 111 = .ok (.iconst 0, 1) := by decide +kernel
theorem dL_turns_112 : decode cL_turns 112 = .ok (.istore 15, 2) := by decide +kernel
theorem dL_turns_114 : decode cL_turns 114 = .ok (.aload_n 0, 1) := by decide +kernel
theorem dL_turns_115 : decode cL_turns 115 = .ok (.iload_n 1, 1) := by decide +kernel
theorem dL_turns_116 : decode cL_turns 116 = .ok (.iconst 4, 1) := by decide +kernel
theorem dL_turns_117 : decode cL_turns 117 = .ok (.invokevirtual 75, 3) := by decide +kernel
theorem dL_turns_120 : decode cL_turns 120 = .ok (.i2l, 1) := by decide +kernel
theorem dL_turns_121 : decode cL_turns 121 = .ok (.lload 11, 2) := by decide +kernel
theorem dL_turns_123 : decode cL_turns 123 = .ok (.lcmp, 1) := by decide +kernel
theorem dL_turns_124 : decode cL_turns 124 = .ok (.ifCond .ne 49, 3) := by decide +kernel
theorem dL_turns_127 : decode cL_turns 127 = .ok (.iload 15, 2) := by decide +kernel
theorem dL_turns_129 : decode cL_turns 129 = .ok (.iload_n 2, 1) := by decide +kernel
theorem dL_turns_130 : decode cL_turns 130 = .ok (.iconst 1, 1) := by decide +kernel
theorem dL_turns_131 : decode cL_turns 131 = .ok (.if_icmp .le 7, 3) := by decide +kernel
theorem dL_turns_134 : decode cL_turns 134 = .ok (.iconst 1, 1) := by decide +kernel
theorem dL_turns_135 : decode cL_turns 135 = .ok (.goto 4, 3) := by decide +kernel
theorem dL_turns_138 : decode cL_turns 138 = .ok (.iconst 0, 1) := by decide +kernel
theorem dL_turns_139 : decode cL_turns 139 = .ok (.if_icmp .ne 34, 3) := by decide +kernel
theorem dL_turns_142 : decode cL_turns 142 = .ok (.iload 15, 2) := by decide +kernel
theorem dL_turns_144 : decode cL_turns 144 = .ok (.ifCond .eq 31, 3) := by decide +kernel
theorem dL_turns_147 : decode cL_turns 147 = .ok (.iload_n 2, 1) := by decide +kernel
theorem dL_turns_148 : decode cL_turns 148 = .ok (.iconst 3, 1) := by decide +kernel
theorem dL_turns_149 : decode cL_turns 149 = .ok (.if_icmp .ne 7, 3) := by decide +kernel
theorem dL_turns_152 : decode cL_turns 152 = .ok (.iconst 1, 1) := by decide +kernel
theorem dL_turns_153 : decode cL_turns 153 = .ok (.goto 4, 3) := by decide +kernel
theorem dL_turns_156 : decode cL_turns 156 = .ok (.iconst 0, 1) := by decide +kernel
theorem dL_turns_157 : decode cL_turns 157 = .ok (.lload 11, 2) := by decide +kernel
theorem dL_turns_159 : decode cL_turns 159 = .ok (.lload 13, 2) := by decide +kernel
theorem dL_turns_161 : decode cL_turns 161 = .ok (.lcmp, 1) := by decide +kernel
theorem dL_turns_162 : decode cL_turns 162 = .ok (.ifCond .le 7, 3) := by decide +kernel
theorem dL_turns_165 : decode cL_turns 165 = .ok (.iconst 1, 1) := by decide +kernel
theorem dL_turns_166 : decode cL_turns 166 = .ok (.goto 4, 3) := by decide +kernel
theorem dL_turns_169 : decode cL_turns 169 = .ok (.iconst 0, 1) := by decide +kernel
theorem dL_turns_170 : decode cL_turns 170 = .ok (.if_icmp .eq 5, 3) := by decide +kernel
theorem dL_turns_173 : decode cL_turns 173 = .ok (.iconst 0, 1) := by decide +kernel
theorem dL_turns_174 : decode cL_turns 174 = .ok (.ireturn, 1) := by decide +kernel
theorem dL_turns_175 : decode cL_turns 175 = .ok (.iload 15, 2) := by decide +kernel
theorem dL_turns_177 : decode cL_turns 177 = .ok (.ifCond .eq 8, 3) := by decide +kernel
theorem dL_turns_180 : decode cL_turns 180 = .ok (.lload 13, 2) := by decide +kernel
theorem dL_turns_182 : decode cL_turns 182 = .ok (.goto 31, 3) := by decide +kernel
theorem dL_turns_185 : decode cL_turns 185 = .ok (.aload_n 0, 1) := by decide +kernel
theorem dL_turns_186 : decode cL_turns 186 = .ok (.bipush 16, 2) := by decide +kernel
theorem dL_turns_188 : decode cL_turns 188 = .ok (.invokevirtual 65, 3) := by decide +kernel
theorem dL_turns_191 : decode cL_turns 191 = .ok (.i2l, 1) := by decide +kernel
theorem dL_turns_192 : decode cL_turns 192 = .ok (.lload 11, 2) := by decide +kernel
theorem dL_turns_194 : decode cL_turns 194 = .ok (.lmul, 1) := by decide +kernel
theorem dL_turns_195 : decode cL_turns 195 = .ok (.bipush 100, 2) := by decide +kernel
theorem dL_turns_197 : decode cL_turns 197 = .ok (.aload_n 0, 1) := by decide +kernel
theorem dL_turns_198 : decode cL_turns 198 = .ok (.bipush 16, 2) := by decide +kernel
theorem dL_turns_200 : decode cL_turns 200 = .ok (.invokevirtual 65, 3) := by decide +kernel
theorem dL_turns_203 : decode cL_turns 203 = .ok (.isub, 1) := by decide +kernel
theorem dL_turns_204 : decode cL_turns 204 = .ok (.i2l, 1) := by decide +kernel
theorem dL_turns_205 : decode cL_turns 205 = .ok (.lload 13, 2) := by decide +kernel
theorem dL_turns_207 : decode cL_turns 207 = .ok (.lmul, 1) := by decide +kernel
theorem dL_turns_208 : decode cL_turns 208 = .ok (.ladd, 1) := by decide +kernel
theorem dL_turns_209 : decode cL_turns 209 = .ok (.ldc2_w 105, 3) := by decide +kernel
theorem dL_turns_212 : decode cL_turns 212 = .ok (.ldiv, 1) := by decide +kernel
theorem dL_turns_213 : decode cL_turns 213 = .ok (.lstore 16, 2) := by decide +kernel
theorem dL_turns_215 : decode cL_turns 215 = .ok (.aload_n 0, 1) := by decide +kernel
theorem dL_turns_216 : decode cL_turns 216 = .ok (.iload_n 1, 1) := by decide +kernel
theorem dL_turns_217 : decode cL_turns 217 = .ok (.iconst 5, 1) := by decide +kernel
theorem dL_turns_218 : decode cL_turns 218 = .ok (.invokevirtual 75, 3) := by decide +kernel
theorem dL_turns_221 : decode cL_turns 221 = .ok (.i2l, 1) := by decide +kernel
theorem dL_turns_222 : decode cL_turns 222 = .ok (.lload 16, 2) := by decide +kernel
theorem dL_turns_224 : decode cL_turns 224 = .ok (.lcmp, 1) := by decide +kernel
theorem dL_turns_225 : decode cL_turns 225 = .ok (.ifCond .ne 40, 3) := by decide +kernel
theorem dL_turns_228 : decode cL_turns 228 = .ok (.iload 15, 2) := by decide +kernel
theorem dL_turns_230 : decode cL_turns 230 = .ok (.ifCond .ne 37, 3) := by decide +kernel
theorem dL_turns_233 : decode cL_turns 233 = .ok (.lload 16, 2) := by decide +kernel
theorem dL_turns_235 : decode cL_turns 235 = .ok (.lload 11, 2) := by decide +kernel
theorem dL_turns_237 : decode cL_turns 237 = .ok (.lcmp, 1) := by decide +kernel
theorem dL_turns_238 : decode cL_turns 238 = .ok (.ifCond .le 11, 3) := by decide +kernel
theorem dL_turns_241 : decode cL_turns 241 = .ok (.lload 16, 2) := by decide +kernel
theorem dL_turns_243 : decode cL_turns 243 = .ok (.lload 13, 2) := by decide +kernel
theorem dL_turns_245 : decode cL_turns 245 = .ok (.lcmp, 1) := by decide +kernel
theorem dL_turns_246 : decode cL_turns 246 = .ok (.ifCond .gt 19, 3) := by decide +kernel
theorem dL_turns_249 : decode cL_turns 249 = .ok (.lload 16, 2) := by decide +kernel
theorem dL_turns_251 : decode cL_turns 251 = .ok (.lload 11, 2) := by decide +kernel
theorem dL_turns_253 : decode cL_turns 253 = .ok (.lcmp, 1) := by decide +kernel
theorem dL_turns_254 : decode cL_turns 254 = .ok (.ifCond .ge 13, 3) := by decide +kernel
theorem dL_turns_257 : decode cL_turns 257 = .ok (.lload 16, 2) := by decide +kernel
theorem dL_turns_259 : decode cL_turns 259 = .ok (.lload 13, 2) := by decide +kernel
theorem dL_turns_261 : decode cL_turns 261 = .ok (.lcmp, 1) := by decide +kernel
theorem dL_turns_262 : decode cL_turns 262 = .ok (.ifCond .ge 5, 3) := by decide +kernel
theorem dL_turns_265 : decode cL_turns 265 = .ok (.iconst 0, 1) := by decide +kernel
theorem dL_turns_266 : decode cL_turns 266 = .ok (.ireturn, 1) := by decide +kernel
theorem dL_turns_267 : decode cL_turns 267 = .ok (.lload 13, 2) := by decide +kernel
theorem dL_turns_269 : decode cL_turns 269 = .ok (.lload 9, 2) := by decide +kernel
theorem dL_turns_271 : decode cL_turns 271 = .ok (.lmul, 1) := by decide +kernel
theorem dL_turns_272 : decode cL_turns 272 = .ok (.ldc2_w 103, 3) := by decide +kernel
theorem dL_turns_275 : decode cL_turns 275 = .ok (.ldiv, 1) := by decide +kernel
theorem dL_turns_276 : decode cL_turns 276 = .ok (.lstore 18, 2) := by decide +kernel
theorem dL_turns_278 : decode cL_turns 278 = .ok (.iload_n 2, 1) := by decide +kernel
theorem dL_turns_279 : decode cL_turns 279 = .ok (.iconst 3, 1) := by decide +kernel
theorem dL_turns_280 : decode cL_turns 280 = .ok (.if_icmp .ne 19, 3) := by decide +kernel
theorem dL_turns_283 : decode cL_turns 283 = .ok (.ldc2_w 107, 3) := by decide +kernel
theorem dL_turns_286 : decode cL_turns 286 = .ok (.lload 5, 2) := by decide +kernel
theorem dL_turns_288 : decode cL_turns 288 = .ok (.lmul, 1) := by decide +kernel
theorem dL_turns_289 : decode cL_turns 289 = .ok (.lload 18, 2) := by decide +kernel
theorem dL_turns_291 : decode cL_turns 291 = .ok (.ladd, 1) := by decide +kernel
theorem dL_turns_292 : decode cL_turns 292 = .ok (.ldc2_w 107, 3) := by decide +kernel
theorem dL_turns_295 : decode cL_turns 295 = .ok (.ldiv, 1) := by decide +kernel
theorem dL_turns_296 : decode cL_turns 296 = .ok (.goto 33, 3) := by decide +kernel
theorem dL_turns_299 : decode cL_turns 299 = .ok (.iload_n 2, 1) := by decide +kernel
theorem dL_turns_300 : decode cL_turns 300 = .ok (.iconst 2, 1) := by decide +kernel
theorem dL_turns_301 : decode cL_turns 301 = .ok (.if_icmp .ne 19, 3) := by decide +kernel
theorem dL_turns_304 : decode cL_turns 304 = .ok (.ldc2_w 107, 3) := by decide +kernel
theorem dL_turns_307 : decode cL_turns 307 = .ok (.lload 7, 2) := by decide +kernel
theorem dL_turns_309 : decode cL_turns 309 = .ok (.lmul, 1) := by decide +kernel
theorem dL_turns_310 : decode cL_turns 310 = .ok (.lload 18, 2) := by decide +kernel
theorem dL_turns_312 : decode cL_turns 312 = .ok (.lsub, 1) := by decide +kernel
theorem dL_turns_313 : decode cL_turns 313 = .ok (.ldc2_w 107, 3) := by decide +kernel
theorem dL_turns_316 : decode cL_turns 316 = .ok (.ldiv, 1) := by decide +kernel
theorem dL_turns_317 : decode cL_turns 317 = .ok (.goto 12, 3) := by decide +kernel
theorem dL_turns_320 : decode cL_turns 320 = .ok (.lload 5, 2) := by decide +kernel
theorem dL_turns_322 : decode cL_turns 322 = .ok (.lload 7, 2) := by decide +kernel
theorem dL_turns_324 : decode cL_turns 324 = .ok (.ladd, 1) := by decide +kernel
theorem dL_turns_325 : decode cL_turns 325 = .ok (.ldc2_w 107, 3) := by decide +kernel
theorem dL_turns_328 : decode cL_turns 328 = .ok (.ldiv, 1) := by decide +kernel
theorem dL_turns_329 : decode cL_turns 329 = .ok (.lstore 20, 2) := by decide +kernel
theorem dL_turns_331 : decode cL_turns 331 = .ok (.aload_n 0, 1) := by decide +kernel
theorem dL_turns_332 : decode cL_turns 332 = .ok (.iload_n 1, 1) := by decide +kernel
theorem dL_turns_333 : decode cL_turns 333 = .ok (.bipush 6, 2) := by decide +kernel
theorem dL_turns_335 : decode cL_turns 335 = .ok (.invokevirtual 75, 3) := by decide +kernel
theorem dL_turns_338 : decode cL_turns 338 = .ok (.i2l, 1) := by decide +kernel
theorem dL_turns_339 : decode cL_turns 339 = .ok (.lload 20, 2) := by decide +kernel
theorem dL_turns_341 : decode cL_turns 341 = .ok (.lcmp, 1) := by decide +kernel
theorem dL_turns_342 : decode cL_turns 342 = .ok (.ifCond .eq 5, 3) := by decide +kernel
theorem dL_turns_345 : decode cL_turns 345 = .ok (.iconst 0, 1) := by decide +kernel
theorem dL_turns_346 : decode cL_turns 346 = .ok (.ireturn, 1) := by decide +kernel
theorem dL_turns_347 : decode cL_turns 347 = .ok (.aload_n 0, 1) := by decide +kernel
theorem dL_turns_348 : decode cL_turns 348 = .ok (.iload_n 1, 1) := by decide +kernel
theorem dL_turns_349 : decode cL_turns 349 = .ok (.bipush 7, 2) := by decide +kernel
theorem dL_turns_351 : decode cL_turns 351 = .ok (.invokevirtual 75, 3) := by decide +kernel
theorem dL_turns_354 : decode cL_turns 354 = .ok (.istore 22, 2) := by decide +kernel
theorem dL_turns_356 : decode cL_turns 356 = .ok (.iload 4, 2) := by decide +kernel
theorem dL_turns_358 : decode cL_turns 358 = .ok (.i2l, 1) := by decide +kernel
theorem dL_turns_359 : decode cL_turns 359 = .ok (.lload 16, 2) := by decide +kernel
theorem dL_turns_361 : decode cL_turns 361 = .ok (.ladd, 1) := by decide +kernel
theorem dL_turns_362 : decode cL_turns 362 = .ok (.invokestatic 109, 3) := by decide +kernel
theorem dL_turns_365 : decode cL_turns 365 = .ok (.istore 23, 2) := by decide +kernel
theorem dL_turns_367 : decode cL_turns 367 = .ok (.iload 22, 2) := by decide +kernel
theorem dL_turns_369 : decode cL_turns 369 = .ok (.ifCond .ge 39, 3) := by decide +kernel
theorem dL_turns_372 : decode cL_turns 372 = .ok (.iload 22, 2) := by decide +kernel
theorem dL_turns_374 : decode cL_turns 374 = .ok (.ldc 113, 2) := by decide +kernel
theorem dL_turns_376 : decode cL_turns 376 = .ok (.if_icmp .ne 30, 3) := by decide +kernel
theorem dL_turns_379 : decode cL_turns 379 = .ok (.aload_n 0, 1) := by decide +kernel
theorem dL_turns_380 : decode cL_turns 380 = .ok (.iload_n 1, 1) := by decide +kernel
theorem dL_turns_381 : decode cL_turns 381 = .ok (.bipush 8, 2) := by decide +kernel
theorem dL_turns_383 : decode cL_turns 383 = .ok (.invokevirtual 75, 3) := by decide +kernel
theorem dL_turns_386 : decode cL_turns 386 = .ok (.ldc 113, 2) := by decide +kernel
theorem dL_turns_388 : decode cL_turns 388 = .ok (.if_icmp .ne 18, 3) := by decide +kernel
theorem dL_turns_391 : decode cL_turns 391 = .ok (.aload_n 0, 1) := by decide +kernel
theorem dL_turns_392 : decode cL_turns 392 = .ok (.iload_n 1, 1) := by decide +kernel
theorem dL_turns_393 : decode cL_turns 393 = .ok (.iconst 2, 1) := by decide +kernel
theorem dL_turns_394 : decode cL_turns 394 = .ok (.invokevirtual 69, 3) := by decide +kernel
theorem dL_turns_397 : decode cL_turns 397 = .ok (.iload 23, 2) := by decide +kernel
theorem dL_turns_399 : decode cL_turns 399 = .ok (.if_icmp .ne 7, 3) := by decide +kernel
theorem dL_turns_402 : decode cL_turns 402 = .ok (.iconst 1, 1) := by decide +kernel
theorem dL_turns_403 : decode cL_turns 403 = .ok (.goto 4, 3) := by decide +kernel
theorem dL_turns_406 : decode cL_turns 406 = .ok (.iconst 0, 1) := by decide +kernel
theorem dL_turns_407 : decode cL_turns 407 = .ok (.ireturn, 1) := by decide +kernel
theorem dL_turns_408 : decode cL_turns 408 = .ok (.aload_n 0, 1) := by decide +kernel
theorem dL_turns_409 : decode cL_turns 409 = .ok (.iload_n 1, 1) := by decide +kernel
theorem dL_turns_410 : decode cL_turns 410 = .ok (.bipush 8, 2) := by decide +kernel
theorem dL_turns_412 : decode cL_turns 412 = .ok (.invokevirtual 75, 3) := by decide +kernel
theorem dL_turns_415 : decode cL_turns 415 = .ok (.istore 24, 2) := by decide +kernel
theorem dL_turns_417 : decode cL_turns 417 = .ok (.iload 22, 2) := by decide +kernel
theorem dL_turns_419 : decode cL_turns 419 = .ok (.aload_n 0, 1) := by decide +kernel
theorem dL_turns_420 : decode cL_turns 420 = .ok (.bipush 9, 2) := by decide +kernel
theorem dL_turns_422 : decode cL_turns 422 = .ok (.invokevirtual 65, 3) := by decide +kernel
theorem dL_turns_425 : decode cL_turns 425 = .ok (.if_icmp .ge 50, 3) := by decide +kernel
theorem dL_turns_428 : decode cL_turns 428 = .ok (.iload 24, 2) := by decide +kernel
theorem dL_turns_430 : decode cL_turns 430 = .ok (.invokestatic 88, 3) := by decide +kernel
theorem dL_turns_433 : decode cL_turns 433 = .ok (.aload_n 0, 1) := by decide +kernel
theorem dL_turns_434 : decode cL_turns 434 = .ok (.bipush 20, 2) := by decide +kernel
theorem dL_turns_436 : decode cL_turns 436 = .ok (.invokevirtual 65, 3) := by decide +kernel
theorem dL_turns_439 : decode cL_turns 439 = .ok (.if_icmp .gt 36, 3) := by decide +kernel
theorem dL_turns_442 : decode cL_turns 442 = .ok (.aload_n 0, 1) := by decide +kernel
theorem dL_turns_443 : decode cL_turns 443 = .ok (.iload_n 1, 1) := by decide +kernel
theorem dL_turns_444 : decode cL_turns 444 = .ok (.iconst 2, 1) := by decide +kernel
theorem dL_turns_445 : decode cL_turns 445 = .ok (.invokevirtual 69, 3) := by decide +kernel
theorem dL_turns_448 : decode cL_turns 448 = .ok (.iload 23, 2) := by decide +kernel
theorem dL_turns_450 : decode cL_turns 450 = .ok (.i2l, 1) := by decide +kernel
theorem dL_turns_451 : decode cL_turns 451 = .ok (.iload 24, 2) := by decide +kernel
theorem dL_turns_453 : decode cL_turns 453 = .ok (.i2l, 1) := by decide +kernel
theorem dL_turns_454 : decode cL_turns 454 = .ok (.lsub, 1) := by decide +kernel
theorem dL_turns_455 : decode cL_turns 455 = .ok (.invokestatic 109, 3) := by decide +kernel
theorem dL_turns_458 : decode cL_turns 458 = .ok (.if_icmp .ne 17, 3) := by decide +kernel
theorem dL_turns_461 : decode cL_turns 461 = .ok (.iload 24, 2) := by decide +kernel
theorem dL_turns_463 : decode cL_turns 463 = .ok (.invokestatic 88, 3) := by decide +kernel
theorem dL_turns_466 : decode cL_turns 466 = .ok (.ldc 114, 2) := by decide +kernel
theorem dL_turns_468 : decode cL_turns 468 = .ok (.if_icmp .gt 7, 3) := by decide +kernel
theorem dL_turns_471 : decode cL_turns 471 = .ok (.iconst 1, 1) := by decide +kernel
theorem dL_turns_472 : decode cL_turns 472 = .ok (.goto 4, 3) := by decide +kernel
theorem dL_turns_475 : decode cL_turns 475 = .ok (.iconst 0, 1) := by decide +kernel
theorem dL_turns_476 : decode cL_turns 476 = .ok (.ireturn, 1) := by decide +kernel
abbrev wL_turns : List Cond := .code yL_turns cL_turns 25 (some .boolean) :: lw_gd
theorem hdL_turns : (yL_turns.cls ≠ "java/lang/invoke/MethodHandle" ∧ yL_turns.cls ≠ "java/lang/invoke/VarHandle" ∧ (parseMethodDescriptor yL_turns.desc).map (fun d => d.parameters.length) = some 5) := by decide +kernel
def fL_turns_329   (b1 : Int32) (b4 : Int32) (b16 : Int64) (s0 : Int64) (M : xm_M) : Option (Int32 × xm_M) :=
  xm_bi (fX3_about b1 (6 : Int32) M) (fun x30 M29 => if (lg_cmp x30.toInt64 s0) = 0 then xm_bi (fX3_about b1 (7 : Int32) M29) (fun x32 M31 => xm_bi (fL_round (b4.toInt64 + b16) M31) (fun x34 M33 => if 0 ≤ x32 then xm_bi (fX3_about b1 (8 : Int32) M33) (fun x36 M35 => xm_bi (fX3_count (9 : Int32) M35) (fun x38 M37 => if x38 ≤ x32 then some ((0 : Int32), M37) else xm_bi (fL_size x36 M37) (fun x40 M39 => xm_bi (fX3_count (20 : Int32) M39) (fun x42 M41 => if x42 < x40 then some ((0 : Int32), M41) else xm_bi (fX3_pose b1 (2 : Int32) M41) (fun x44 M43 => xm_bi (fL_round (x34.toInt64 - x36.toInt64) M43) (fun x46 M45 => if x44 = x46 then xm_bi (fL_size x36 M45) (fun x48 M47 => if (900000 : Int32) < x48 then some ((0 : Int32), M47) else some ((1 : Int32), M47)) else some ((0 : Int32), M45))))))) else if x32 = (-1000000006 : Int32) then xm_bi (fX3_about b1 (8 : Int32) M33) (fun x50 M49 => if x50 = (-1000000006 : Int32) then xm_bi (fX3_pose b1 (2 : Int32) M49) (fun x52 M51 => if x52 = x34 then some ((1 : Int32), M51) else some ((0 : Int32), M51)) else some ((0 : Int32), M49)) else some ((0 : Int32), M33))) else some ((0 : Int32), M29))
set_option maxRecDepth 20000 in
theorem tfL_turns_329 {p : Program} {l : Launch} {e : Env} {s : State} {m : MethodId} {args : Array Value} {below : List Frame} {meth : Method} {c : Code} {D : va_G} {g : xm_G} {A : Nat → Prop}  {L : List xm_Sh} (hL : xm_pre L) (hX : xm_X p m meth c cL_turns 25 s args wL_turns RL (some .boolean) D L g A)    : ∀ (b1 : Int32), ∀ (b4 : Int32), ∀ (b16 : Int64), ∀ (s0 : Int64), ∀ (M : xm_M), xm_J p l e ({ frames := 6, cells := 0, slots := 0, locals := 151 }) s m args below meth c 25 D L g A (xm_Z below args s D L g A (xm_Fi g)) 329 [(0, .ref (g.1 0)), (1, .int b1), (4, .int b4), (16, .long b16)] [.long s0] M (fL_turns_329 b1 b4 b16 s0 M) := by
  intro b1 b4 b16 s0 M
  unfold fL_turns_329
  refine xm_lstore hX (lv' := [(20, .long s0), (0, .ref (g.1 0)), (1, .int b1), (4, .int b4), (16, .long b16)]) dL_turns_329 (by decide) rfl ?_
  refine xm_aload_n hX 1 dL_turns_331 rfl rfl ?_
  refine xm_iload_n hX 2 dL_turns_332 rfl rfl ?_
  refine xm_bipush hX (v := 6) rfl dL_turns_333 ?_
  refine xm_calli hX (xm_runV hX (k := 0) (ci := 3) (As := (fun g => [.int b1, .int (6 : Int32)])) (kX3_about hL b1 (6 : Int32) M) (hL _ _ cL_0) rfl (xm_gV gm_312 gm_313 gm_314 gm_1 gm_315) rfl ⟨rfl, rfl⟩ ⟨rfl, hdX3_about⟩ ⟨Nat.le_of_ble_eq_true rfl, Nat.le_of_ble_eq_true rfl⟩ rfl (Nat.le_of_ble_eq_true rfl) rfl ⟨Nat.le_of_ble_eq_true rfl, Nat.le_of_ble_eq_true rfl⟩ dL_turns_335) (fun x30 M29 => ?_)
  refine xm_i2l hX dL_turns_338 ?_
  refine xm_lload hX 0 dL_turns_339 rfl ?_
  refine xm_lcmp hX dL_turns_341 ?_
  refine xm_if_eq hX (tgt := 347) dL_turns_342 rfl ?_ ?_
  · refine xm_aload_n hX 1 dL_turns_347 rfl rfl ?_
    refine xm_iload_n hX 2 dL_turns_348 rfl rfl ?_
    refine xm_bipush hX (v := 7) rfl dL_turns_349 ?_
    refine xm_calli hX (xm_runV hX (k := 0) (ci := 3) (As := (fun g => [.int b1, .int (7 : Int32)])) (kX3_about hL b1 (7 : Int32) M29) (hL _ _ cL_0) rfl (xm_gV gm_312 gm_313 gm_314 gm_1 gm_315) rfl ⟨rfl, rfl⟩ ⟨rfl, hdX3_about⟩ ⟨Nat.le_of_ble_eq_true rfl, Nat.le_of_ble_eq_true rfl⟩ rfl (Nat.le_of_ble_eq_true rfl) rfl ⟨Nat.le_of_ble_eq_true rfl, Nat.le_of_ble_eq_true rfl⟩ dL_turns_351) (fun x32 M31 => ?_)
    refine xm_istore hX (lv' := [(22, .int x32), (20, .long s0), (0, .ref (g.1 0)), (1, .int b1), (4, .int b4), (16, .long b16)]) dL_turns_354 (by decide) rfl ?_
    refine xm_iload hX 4 dL_turns_356 rfl ?_
    refine xm_i2l hX dL_turns_358 ?_
    refine xm_lload hX 5 dL_turns_359 rfl ?_
    refine xm_ladd hX dL_turns_361 ?_
    refine xm_calli hX (xm_runS hX (As := (fun g => [.long (b4.toInt64 + b16)])) (kL_round hL (b4.toInt64 + b16) M31) (xm_gS gm_346 gm_347 gm_0 gm_348) rfl ⟨rfl, rfl⟩ hdL_round ⟨Nat.le_of_ble_eq_true rfl, Nat.le_of_ble_eq_true rfl⟩ rfl (Nat.le_of_ble_eq_true rfl) rfl ⟨Nat.le_of_ble_eq_true rfl, Nat.le_of_ble_eq_true rfl⟩ dL_turns_362) (fun x34 M33 => ?_)
    refine xm_istore hX (lv' := [(23, .int x34), (22, .int x32), (20, .long s0), (0, .ref (g.1 0)), (1, .int b1), (4, .int b4), (16, .long b16)]) dL_turns_365 (by decide) rfl ?_
    refine xm_iload hX 1 dL_turns_367 rfl ?_
    refine xm_if_ge hX (tgt := 408) dL_turns_369 rfl ?_ ?_
    · refine xm_aload_n hX 3 dL_turns_408 rfl rfl ?_
      refine xm_iload_n hX 4 dL_turns_409 rfl rfl ?_
      refine xm_bipush hX (v := 8) rfl dL_turns_410 ?_
      refine xm_calli hX (xm_runV hX (k := 0) (ci := 3) (As := (fun g => [.int b1, .int (8 : Int32)])) (kX3_about hL b1 (8 : Int32) M33) (hL _ _ cL_0) rfl (xm_gV gm_312 gm_313 gm_314 gm_1 gm_315) rfl ⟨rfl, rfl⟩ ⟨rfl, hdX3_about⟩ ⟨Nat.le_of_ble_eq_true rfl, Nat.le_of_ble_eq_true rfl⟩ rfl (Nat.le_of_ble_eq_true rfl) rfl ⟨Nat.le_of_ble_eq_true rfl, Nat.le_of_ble_eq_true rfl⟩ dL_turns_412) (fun x36 M35 => ?_)
      refine xm_istore hX (lv' := [(24, .int x36), (23, .int x34), (22, .int x32), (20, .long s0), (0, .ref (g.1 0)), (1, .int b1), (4, .int b4), (16, .long b16)]) dL_turns_415 (by decide) rfl ?_
      refine xm_iload hX 2 dL_turns_417 rfl ?_
      refine xm_aload_n hX 4 dL_turns_419 rfl rfl ?_
      refine xm_bipush hX (v := 9) rfl dL_turns_420 ?_
      refine xm_calli hX (xm_runV hX (k := 0) (ci := 3) (As := (fun g => [.int (9 : Int32)])) (kX3_count hL (9 : Int32) M35) (hL _ _ cL_0) rfl (xm_gV gm_196 gm_197 gm_198 gm_1 gm_199) rfl ⟨rfl, rfl⟩ ⟨rfl, hdX3_count⟩ ⟨Nat.le_of_ble_eq_true rfl, Nat.le_of_ble_eq_true rfl⟩ rfl (Nat.le_of_ble_eq_true rfl) rfl ⟨Nat.le_of_ble_eq_true rfl, Nat.le_of_ble_eq_true rfl⟩ dL_turns_422) (fun x38 M37 => ?_)
      refine xm_icmp_ge hX (tgt := 475) dL_turns_425 rfl ?_ ?_
      · refine xm_iconst hX (v := 0) rfl dL_turns_475 ?_
        exact xm_zretL hX (by decide) dL_turns_476
      · refine xm_iload hX 0 dL_turns_428 rfl ?_
        refine xm_calli hX (xm_runS hX (As := (fun g => [.int x36])) (kL_size hL x36 M37) (xm_gS gm_336 gm_337 gm_0 gm_338) rfl ⟨rfl, rfl⟩ hdL_size ⟨Nat.le_of_ble_eq_true rfl, Nat.le_of_ble_eq_true rfl⟩ rfl (Nat.le_of_ble_eq_true rfl) rfl ⟨Nat.le_of_ble_eq_true rfl, Nat.le_of_ble_eq_true rfl⟩ dL_turns_430) (fun x40 M39 => ?_)
        refine xm_aload_n hX 4 dL_turns_433 rfl rfl ?_
        refine xm_bipush hX (v := 20) rfl dL_turns_434 ?_
        refine xm_calli hX (xm_runV hX (k := 0) (ci := 3) (As := (fun g => [.int (20 : Int32)])) (kX3_count hL (20 : Int32) M39) (hL _ _ cL_0) rfl (xm_gV gm_196 gm_197 gm_198 gm_1 gm_199) rfl ⟨rfl, rfl⟩ ⟨rfl, hdX3_count⟩ ⟨Nat.le_of_ble_eq_true rfl, Nat.le_of_ble_eq_true rfl⟩ rfl (Nat.le_of_ble_eq_true rfl) rfl ⟨Nat.le_of_ble_eq_true rfl, Nat.le_of_ble_eq_true rfl⟩ dL_turns_436) (fun x42 M41 => ?_)
        refine xm_icmp_gt hX (tgt := 475) dL_turns_439 rfl ?_ ?_
        · refine xm_iconst hX (v := 0) rfl dL_turns_475 ?_
          exact xm_zretL hX (by decide) dL_turns_476
        · refine xm_aload_n hX 4 dL_turns_442 rfl rfl ?_
          refine xm_iload_n hX 5 dL_turns_443 rfl rfl ?_
          refine xm_iconst hX (v := 2) rfl dL_turns_444 ?_
          refine xm_calli hX (xm_runV hX (k := 0) (ci := 3) (As := (fun g => [.int b1, .int (2 : Int32)])) (kX3_pose hL b1 (2 : Int32) M41) (hL _ _ cL_0) rfl (xm_gV gm_283 gm_284 gm_285 gm_1 gm_286) rfl ⟨rfl, rfl⟩ ⟨rfl, hdX3_pose⟩ ⟨Nat.le_of_ble_eq_true rfl, Nat.le_of_ble_eq_true rfl⟩ rfl (Nat.le_of_ble_eq_true rfl) rfl ⟨Nat.le_of_ble_eq_true rfl, Nat.le_of_ble_eq_true rfl⟩ dL_turns_445) (fun x44 M43 => ?_)
          refine xm_iload hX 1 dL_turns_448 rfl ?_
          refine xm_i2l hX dL_turns_450 ?_
          refine xm_iload hX 0 dL_turns_451 rfl ?_
          refine xm_i2l hX dL_turns_453 ?_
          refine xm_lsub hX dL_turns_454 ?_
          refine xm_calli hX (xm_runS hX (As := (fun g => [.long (x34.toInt64 - x36.toInt64)])) (kL_round hL (x34.toInt64 - x36.toInt64) M43) (xm_gS gm_346 gm_347 gm_0 gm_348) rfl ⟨rfl, rfl⟩ hdL_round ⟨Nat.le_of_ble_eq_true rfl, Nat.le_of_ble_eq_true rfl⟩ rfl (Nat.le_of_ble_eq_true rfl) rfl ⟨Nat.le_of_ble_eq_true rfl, Nat.le_of_ble_eq_true rfl⟩ dL_turns_455) (fun x46 M45 => ?_)
          refine xm_icmp_ne hX (tgt := 475) dL_turns_458 rfl ?_ ?_
          · refine xm_iconst hX (v := 0) rfl dL_turns_475 ?_
            exact xm_zretL hX (by decide) dL_turns_476
          · refine xm_iload hX 0 dL_turns_461 rfl ?_
            refine xm_calli hX (xm_runS hX (As := (fun g => [.int x36])) (kL_size hL x36 M45) (xm_gS gm_336 gm_337 gm_0 gm_338) rfl ⟨rfl, rfl⟩ hdL_size ⟨Nat.le_of_ble_eq_true rfl, Nat.le_of_ble_eq_true rfl⟩ rfl (Nat.le_of_ble_eq_true rfl) rfl ⟨Nat.le_of_ble_eq_true rfl, Nat.le_of_ble_eq_true rfl⟩ dL_turns_463) (fun x48 M47 => ?_)
            refine xm_ldc hX (v := 900000) (List.mem_cons_of_mem _ gm_351) dL_turns_466 ?_
            refine xm_icmp_gt hX (tgt := 475) dL_turns_468 rfl ?_ ?_
            · refine xm_iconst hX (v := 0) rfl dL_turns_475 ?_
              exact xm_zretL hX (by decide) dL_turns_476
            · refine xm_iconst hX (v := 1) rfl dL_turns_471 ?_
              refine xm_goto hX (tgt := 476) dL_turns_472 rfl ?_
              exact xm_zretL hX (by decide) dL_turns_476
    · refine xm_iload hX 1 dL_turns_372 rfl ?_
      refine xm_ldc hX (v := -1000000006) (List.mem_cons_of_mem _ gm_350) dL_turns_374 ?_
      refine xm_icmp_ne hX (tgt := 406) dL_turns_376 rfl ?_ ?_
      · refine xm_iconst hX (v := 0) rfl dL_turns_406 ?_
        exact xm_zretL hX (by decide) dL_turns_407
      · refine xm_aload_n hX 3 dL_turns_379 rfl rfl ?_
        refine xm_iload_n hX 4 dL_turns_380 rfl rfl ?_
        refine xm_bipush hX (v := 8) rfl dL_turns_381 ?_
        refine xm_calli hX (xm_runV hX (k := 0) (ci := 3) (As := (fun g => [.int b1, .int (8 : Int32)])) (kX3_about hL b1 (8 : Int32) M33) (hL _ _ cL_0) rfl (xm_gV gm_312 gm_313 gm_314 gm_1 gm_315) rfl ⟨rfl, rfl⟩ ⟨rfl, hdX3_about⟩ ⟨Nat.le_of_ble_eq_true rfl, Nat.le_of_ble_eq_true rfl⟩ rfl (Nat.le_of_ble_eq_true rfl) rfl ⟨Nat.le_of_ble_eq_true rfl, Nat.le_of_ble_eq_true rfl⟩ dL_turns_383) (fun x50 M49 => ?_)
        refine xm_ldc hX (v := -1000000006) (List.mem_cons_of_mem _ gm_350) dL_turns_386 ?_
        refine xm_icmp_ne hX (tgt := 406) dL_turns_388 rfl ?_ ?_
        · refine xm_iconst hX (v := 0) rfl dL_turns_406 ?_
          exact xm_zretL hX (by decide) dL_turns_407
        · refine xm_aload_n hX 3 dL_turns_391 rfl rfl ?_
          refine xm_iload_n hX 4 dL_turns_392 rfl rfl ?_
          refine xm_iconst hX (v := 2) rfl dL_turns_393 ?_
          refine xm_calli hX (xm_runV hX (k := 0) (ci := 3) (As := (fun g => [.int b1, .int (2 : Int32)])) (kX3_pose hL b1 (2 : Int32) M49) (hL _ _ cL_0) rfl (xm_gV gm_283 gm_284 gm_285 gm_1 gm_286) rfl ⟨rfl, rfl⟩ ⟨rfl, hdX3_pose⟩ ⟨Nat.le_of_ble_eq_true rfl, Nat.le_of_ble_eq_true rfl⟩ rfl (Nat.le_of_ble_eq_true rfl) rfl ⟨Nat.le_of_ble_eq_true rfl, Nat.le_of_ble_eq_true rfl⟩ dL_turns_394) (fun x52 M51 => ?_)
          refine xm_iload hX 0 dL_turns_397 rfl ?_
          refine xm_icmp_ne hX (tgt := 406) dL_turns_399 rfl ?_ ?_
          · refine xm_iconst hX (v := 0) rfl dL_turns_406 ?_
            exact xm_zretL hX (by decide) dL_turns_407
          · refine xm_iconst hX (v := 1) rfl dL_turns_402 ?_
            refine xm_goto hX (tgt := 407) dL_turns_403 rfl ?_
            exact xm_zretL hX (by decide) dL_turns_407
  · refine xm_iconst hX (v := 0) rfl dL_turns_345 ?_
    exact xm_zretL hX (by decide) dL_turns_346
def fL_turns_267   (b1 : Int32) (b2 : Int32) (b4 : Int32) (b5 : Int64) (b7 : Int64) (b9 : Int64) (b13 : Int64) (b16 : Int64) (M : xm_M) : Option (Int32 × xm_M) :=
  xm_lt ((b13 * b9) / (572958 : Int64)) (fun x28 => if b2 = (3 : Int32) then fL_turns_329 b1 b4 b16 ((((2 : Int64) * b5) + x28) / (2 : Int64)) M else if b2 = (2 : Int32) then fL_turns_329 b1 b4 b16 ((((2 : Int64) * b7) - x28) / (2 : Int64)) M else fL_turns_329 b1 b4 b16 ((b5 + b7) / (2 : Int64)) M)
set_option maxRecDepth 20000 in
theorem tfL_turns_267 {p : Program} {l : Launch} {e : Env} {s : State} {m : MethodId} {args : Array Value} {below : List Frame} {meth : Method} {c : Code} {D : va_G} {g : xm_G} {A : Nat → Prop}  {L : List xm_Sh} (hL : xm_pre L) (hX : xm_X p m meth c cL_turns 25 s args wL_turns RL (some .boolean) D L g A)    : ∀ (b1 : Int32), ∀ (b2 : Int32), ∀ (b4 : Int32), ∀ (b5 : Int64), ∀ (b7 : Int64), ∀ (b9 : Int64), ∀ (b13 : Int64), ∀ (b16 : Int64), ∀ (M : xm_M), xm_J p l e ({ frames := 6, cells := 0, slots := 0, locals := 151 }) s m args below meth c 25 D L g A (xm_Z below args s D L g A (xm_Fi g)) 267 [(0, .ref (g.1 0)), (1, .int b1), (2, .int b2), (4, .int b4), (5, .long b5), (7, .long b7), (9, .long b9), (13, .long b13), (16, .long b16)] [] M (fL_turns_267 b1 b2 b4 b5 b7 b9 b13 b16 M) := by
  intro b1 b2 b4 b5 b7 b9 b13 b16 M
  unfold fL_turns_267
  refine xm_lload hX 7 dL_turns_267 rfl ?_
  refine xm_lload hX 6 dL_turns_269 rfl ?_
  refine xm_lmul hX dL_turns_271 ?_
  refine xm_ldc2 hX (v := 572958) (List.mem_cons_of_mem _ gm_343) dL_turns_272 ?_
  refine xm_ldivL hX (by decide) dL_turns_275 ?_
  refine xm_nml (fun x28 => ?_)
  refine xm_lstore hX (lv' := [(18, .long x28), (0, .ref (g.1 0)), (1, .int b1), (2, .int b2), (4, .int b4), (5, .long b5), (7, .long b7), (9, .long b9), (13, .long b13), (16, .long b16)]) dL_turns_276 (by decide) rfl ?_
  refine xm_iload_n hX 3 dL_turns_278 rfl rfl ?_
  refine xm_iconst hX (v := 3) rfl dL_turns_279 ?_
  refine xm_icmp_ne hX (tgt := 299) dL_turns_280 rfl ?_ ?_
  · refine xm_iload_n hX 3 dL_turns_299 rfl rfl ?_
    refine xm_iconst hX (v := 2) rfl dL_turns_300 ?_
    refine xm_icmp_ne hX (tgt := 320) dL_turns_301 rfl ?_ ?_
    · refine xm_lload hX 5 dL_turns_320 rfl ?_
      refine xm_lload hX 6 dL_turns_322 rfl ?_
      refine xm_ladd hX dL_turns_324 ?_
      refine xm_ldc2 hX (v := 2) (List.mem_cons_of_mem _ gm_345) dL_turns_325 ?_
      refine xm_ldivL hX (by decide) dL_turns_328 ?_
      refine xm_weak [1, 2, 4, 9] (lv' := [(0, .ref (g.1 0)), (1, .int b1), (4, .int b4), (16, .long b16)]) rfl ?_
      exact tfL_turns_329 hL hX b1 b4 b16 ((b5 + b7) / (2 : Int64)) M
    · refine xm_ldc2 hX (v := 2) (List.mem_cons_of_mem _ gm_345) dL_turns_304 ?_
      refine xm_lload hX 6 dL_turns_307 rfl ?_
      refine xm_lmul hX dL_turns_309 ?_
      refine xm_lload hX 0 dL_turns_310 rfl ?_
      refine xm_lsub hX dL_turns_312 ?_
      refine xm_ldc2 hX (v := 2) (List.mem_cons_of_mem _ gm_345) dL_turns_313 ?_
      refine xm_ldivL hX (by decide) dL_turns_316 ?_
      refine xm_goto hX (tgt := 329) dL_turns_317 rfl ?_
      refine xm_weak [1, 2, 4, 9] (lv' := [(0, .ref (g.1 0)), (1, .int b1), (4, .int b4), (16, .long b16)]) rfl ?_
      exact tfL_turns_329 hL hX b1 b4 b16 ((((2 : Int64) * b7) - x28) / (2 : Int64)) M
  · refine xm_ldc2 hX (v := 2) (List.mem_cons_of_mem _ gm_345) dL_turns_283 ?_
    refine xm_lload hX 5 dL_turns_286 rfl ?_
    refine xm_lmul hX dL_turns_288 ?_
    refine xm_lload hX 0 dL_turns_289 rfl ?_
    refine xm_ladd hX dL_turns_291 ?_
    refine xm_ldc2 hX (v := 2) (List.mem_cons_of_mem _ gm_345) dL_turns_292 ?_
    refine xm_ldivL hX (by decide) dL_turns_295 ?_
    refine xm_goto hX (tgt := 329) dL_turns_296 rfl ?_
    refine xm_weak [1, 2, 4, 9] (lv' := [(0, .ref (g.1 0)), (1, .int b1), (4, .int b4), (16, .long b16)]) rfl ?_
    exact tfL_turns_329 hL hX b1 b4 b16 ((((2 : Int64) * b5) + x28) / (2 : Int64)) M
def fL_turns_249   (b1 : Int32) (b2 : Int32) (b4 : Int32) (b5 : Int64) (b7 : Int64) (b9 : Int64) (b11 : Int64) (b13 : Int64) (b16 : Int64) (M : xm_M) : Option (Int32 × xm_M) :=
  if 0 ≤ (lg_cmp b16 b11) then fL_turns_267 b1 b2 b4 b5 b7 b9 b13 b16 M else if 0 ≤ (lg_cmp b16 b13) then fL_turns_267 b1 b2 b4 b5 b7 b9 b13 b16 M else some ((0 : Int32), M)
set_option maxRecDepth 20000 in
theorem tfL_turns_249 {p : Program} {l : Launch} {e : Env} {s : State} {m : MethodId} {args : Array Value} {below : List Frame} {meth : Method} {c : Code} {D : va_G} {g : xm_G} {A : Nat → Prop}  {L : List xm_Sh} (hL : xm_pre L) (hX : xm_X p m meth c cL_turns 25 s args wL_turns RL (some .boolean) D L g A)    : ∀ (b1 : Int32), ∀ (b2 : Int32), ∀ (b4 : Int32), ∀ (b5 : Int64), ∀ (b7 : Int64), ∀ (b9 : Int64), ∀ (b11 : Int64), ∀ (b13 : Int64), ∀ (b16 : Int64), ∀ (M : xm_M), xm_J p l e ({ frames := 6, cells := 0, slots := 0, locals := 151 }) s m args below meth c 25 D L g A (xm_Z below args s D L g A (xm_Fi g)) 249 [(0, .ref (g.1 0)), (1, .int b1), (2, .int b2), (4, .int b4), (5, .long b5), (7, .long b7), (9, .long b9), (11, .long b11), (13, .long b13), (16, .long b16)] [] M (fL_turns_249 b1 b2 b4 b5 b7 b9 b11 b13 b16 M) := by
  intro b1 b2 b4 b5 b7 b9 b11 b13 b16 M
  unfold fL_turns_249
  refine xm_lload hX 9 dL_turns_249 rfl ?_
  refine xm_lload hX 7 dL_turns_251 rfl ?_
  refine xm_lcmp hX dL_turns_253 ?_
  refine xm_if_ge hX (tgt := 267) dL_turns_254 rfl ?_ ?_
  · refine xm_weak [0, 1, 2, 3, 4, 5, 6, 8, 9] (lv' := [(0, .ref (g.1 0)), (1, .int b1), (2, .int b2), (4, .int b4), (5, .long b5), (7, .long b7), (9, .long b9), (13, .long b13), (16, .long b16)]) rfl ?_
    exact tfL_turns_267 hL hX b1 b2 b4 b5 b7 b9 b13 b16 M
  · refine xm_lload hX 9 dL_turns_257 rfl ?_
    refine xm_lload hX 8 dL_turns_259 rfl ?_
    refine xm_lcmp hX dL_turns_261 ?_
    refine xm_if_ge hX (tgt := 267) dL_turns_262 rfl ?_ ?_
    · refine xm_weak [0, 1, 2, 3, 4, 5, 6, 8, 9] (lv' := [(0, .ref (g.1 0)), (1, .int b1), (2, .int b2), (4, .int b4), (5, .long b5), (7, .long b7), (9, .long b9), (13, .long b13), (16, .long b16)]) rfl ?_
      exact tfL_turns_267 hL hX b1 b2 b4 b5 b7 b9 b13 b16 M
    · refine xm_iconst hX (v := 0) rfl dL_turns_265 ?_
      exact xm_zretL hX (by decide) dL_turns_266
def fL_turns_213   (b1 : Int32) (b2 : Int32) (b4 : Int32) (b5 : Int64) (b7 : Int64) (b9 : Int64) (b11 : Int64) (b13 : Int64) (b15 : Int32) (s0 : Int64) (M : xm_M) : Option (Int32 × xm_M) :=
  xm_bi (fX3_about b1 (5 : Int32) M) (fun x27 M26 => if (lg_cmp x27.toInt64 s0) = 0 then if b15 = 0 then if (lg_cmp s0 b11) ≤ 0 then fL_turns_249 b1 b2 b4 b5 b7 b9 b11 b13 s0 M26 else if 0 < (lg_cmp s0 b13) then some ((0 : Int32), M26) else fL_turns_249 b1 b2 b4 b5 b7 b9 b11 b13 s0 M26 else fL_turns_267 b1 b2 b4 b5 b7 b9 b13 s0 M26 else some ((0 : Int32), M26))
set_option maxRecDepth 20000 in
theorem tfL_turns_213 {p : Program} {l : Launch} {e : Env} {s : State} {m : MethodId} {args : Array Value} {below : List Frame} {meth : Method} {c : Code} {D : va_G} {g : xm_G} {A : Nat → Prop}  {L : List xm_Sh} (hL : xm_pre L) (hX : xm_X p m meth c cL_turns 25 s args wL_turns RL (some .boolean) D L g A)    : ∀ (b1 : Int32), ∀ (b2 : Int32), ∀ (b4 : Int32), ∀ (b5 : Int64), ∀ (b7 : Int64), ∀ (b9 : Int64), ∀ (b11 : Int64), ∀ (b13 : Int64), ∀ (b15 : Int32), ∀ (s0 : Int64), ∀ (M : xm_M), xm_J p l e ({ frames := 6, cells := 0, slots := 0, locals := 151 }) s m args below meth c 25 D L g A (xm_Z below args s D L g A (xm_Fi g)) 213 [(0, .ref (g.1 0)), (1, .int b1), (2, .int b2), (4, .int b4), (5, .long b5), (7, .long b7), (9, .long b9), (11, .long b11), (13, .long b13), (15, .int b15)] [.long s0] M (fL_turns_213 b1 b2 b4 b5 b7 b9 b11 b13 b15 s0 M) := by
  intro b1 b2 b4 b5 b7 b9 b11 b13 b15 s0 M
  unfold fL_turns_213
  refine xm_lstore hX (lv' := [(16, .long s0), (0, .ref (g.1 0)), (1, .int b1), (2, .int b2), (4, .int b4), (5, .long b5), (7, .long b7), (9, .long b9), (11, .long b11), (13, .long b13), (15, .int b15)]) dL_turns_213 (by decide) rfl ?_
  refine xm_aload_n hX 1 dL_turns_215 rfl rfl ?_
  refine xm_iload_n hX 2 dL_turns_216 rfl rfl ?_
  refine xm_iconst hX (v := 5) rfl dL_turns_217 ?_
  refine xm_calli hX (xm_runV hX (k := 0) (ci := 3) (As := (fun g => [.int b1, .int (5 : Int32)])) (kX3_about hL b1 (5 : Int32) M) (hL _ _ cL_0) rfl (xm_gV gm_312 gm_313 gm_314 gm_1 gm_315) rfl ⟨rfl, rfl⟩ ⟨rfl, hdX3_about⟩ ⟨Nat.le_of_ble_eq_true rfl, Nat.le_of_ble_eq_true rfl⟩ rfl (Nat.le_of_ble_eq_true rfl) rfl ⟨Nat.le_of_ble_eq_true rfl, Nat.le_of_ble_eq_true rfl⟩ dL_turns_218) (fun x27 M26 => ?_)
  refine xm_i2l hX dL_turns_221 ?_
  refine xm_lload hX 0 dL_turns_222 rfl ?_
  refine xm_lcmp hX dL_turns_224 ?_
  refine xm_if_ne hX (tgt := 265) dL_turns_225 rfl ?_ ?_
  · refine xm_iconst hX (v := 0) rfl dL_turns_265 ?_
    exact xm_zretL hX (by decide) dL_turns_266
  · refine xm_iload hX 10 dL_turns_228 rfl ?_
    refine xm_if_ne hX (tgt := 267) dL_turns_230 rfl ?_ ?_
    · refine xm_weak [1, 2, 3, 4, 5, 6, 7, 9, 0] (lv' := [(0, .ref (g.1 0)), (1, .int b1), (2, .int b2), (4, .int b4), (5, .long b5), (7, .long b7), (9, .long b9), (13, .long b13), (16, .long s0)]) rfl ?_
      exact tfL_turns_267 hL hX b1 b2 b4 b5 b7 b9 b13 s0 M26
    · refine xm_lload hX 0 dL_turns_233 rfl ?_
      refine xm_lload hX 8 dL_turns_235 rfl ?_
      refine xm_lcmp hX dL_turns_237 ?_
      refine xm_if_le hX (tgt := 249) dL_turns_238 rfl ?_ ?_
      · refine xm_weak [1, 2, 3, 4, 5, 6, 7, 8, 9, 0] (lv' := [(0, .ref (g.1 0)), (1, .int b1), (2, .int b2), (4, .int b4), (5, .long b5), (7, .long b7), (9, .long b9), (11, .long b11), (13, .long b13), (16, .long s0)]) rfl ?_
        exact tfL_turns_249 hL hX b1 b2 b4 b5 b7 b9 b11 b13 s0 M26
      · refine xm_lload hX 0 dL_turns_241 rfl ?_
        refine xm_lload hX 9 dL_turns_243 rfl ?_
        refine xm_lcmp hX dL_turns_245 ?_
        refine xm_if_gt hX (tgt := 265) dL_turns_246 rfl ?_ ?_
        · refine xm_iconst hX (v := 0) rfl dL_turns_265 ?_
          exact xm_zretL hX (by decide) dL_turns_266
        · refine xm_weak [1, 2, 3, 4, 5, 6, 7, 8, 9, 0] (lv' := [(0, .ref (g.1 0)), (1, .int b1), (2, .int b2), (4, .int b4), (5, .long b5), (7, .long b7), (9, .long b9), (11, .long b11), (13, .long b13), (16, .long s0)]) rfl ?_
          exact tfL_turns_249 hL hX b1 b2 b4 b5 b7 b9 b11 b13 s0 M26
def fL_turns_175   (b1 : Int32) (b2 : Int32) (b4 : Int32) (b5 : Int64) (b7 : Int64) (b9 : Int64) (b11 : Int64) (b13 : Int64) (b15 : Int32) (M : xm_M) : Option (Int32 × xm_M) :=
  if b15 = 0 then xm_bi (fX3_count (16 : Int32) M) (fun x23 M22 => xm_bi (fX3_count (16 : Int32) M22) (fun x25 M24 => fL_turns_213 b1 b2 b4 b5 b7 b9 b11 b13 b15 (((x23.toInt64 * b11) + ((((100 : Int32) - x25).toInt64) * b13)) / (100 : Int64)) M24)) else fL_turns_213 b1 b2 b4 b5 b7 b9 b11 b13 b15 b13 M
set_option maxRecDepth 20000 in
theorem tfL_turns_175 {p : Program} {l : Launch} {e : Env} {s : State} {m : MethodId} {args : Array Value} {below : List Frame} {meth : Method} {c : Code} {D : va_G} {g : xm_G} {A : Nat → Prop}  {L : List xm_Sh} (hL : xm_pre L) (hX : xm_X p m meth c cL_turns 25 s args wL_turns RL (some .boolean) D L g A)    : ∀ (b1 : Int32), ∀ (b2 : Int32), ∀ (b4 : Int32), ∀ (b5 : Int64), ∀ (b7 : Int64), ∀ (b9 : Int64), ∀ (b11 : Int64), ∀ (b13 : Int64), ∀ (b15 : Int32), ∀ (M : xm_M), xm_J p l e ({ frames := 6, cells := 0, slots := 0, locals := 151 }) s m args below meth c 25 D L g A (xm_Z below args s D L g A (xm_Fi g)) 175 [(0, .ref (g.1 0)), (1, .int b1), (2, .int b2), (4, .int b4), (5, .long b5), (7, .long b7), (9, .long b9), (11, .long b11), (13, .long b13), (15, .int b15)] [] M (fL_turns_175 b1 b2 b4 b5 b7 b9 b11 b13 b15 M) := by
  intro b1 b2 b4 b5 b7 b9 b11 b13 b15 M
  unfold fL_turns_175
  refine xm_iload hX 9 dL_turns_175 rfl ?_
  refine xm_if_eq hX (tgt := 185) dL_turns_177 rfl ?_ ?_
  · refine xm_aload_n hX 0 dL_turns_185 rfl rfl ?_
    refine xm_bipush hX (v := 16) rfl dL_turns_186 ?_
    refine xm_calli hX (xm_runV hX (k := 0) (ci := 3) (As := (fun g => [.int (16 : Int32)])) (kX3_count hL (16 : Int32) M) (hL _ _ cL_0) rfl (xm_gV gm_196 gm_197 gm_198 gm_1 gm_199) rfl ⟨rfl, rfl⟩ ⟨rfl, hdX3_count⟩ ⟨Nat.le_of_ble_eq_true rfl, Nat.le_of_ble_eq_true rfl⟩ rfl (Nat.le_of_ble_eq_true rfl) rfl ⟨Nat.le_of_ble_eq_true rfl, Nat.le_of_ble_eq_true rfl⟩ dL_turns_188) (fun x23 M22 => ?_)
    refine xm_i2l hX dL_turns_191 ?_
    refine xm_lload hX 7 dL_turns_192 rfl ?_
    refine xm_lmul hX dL_turns_194 ?_
    refine xm_bipush hX (v := 100) rfl dL_turns_195 ?_
    refine xm_aload_n hX 0 dL_turns_197 rfl rfl ?_
    refine xm_bipush hX (v := 16) rfl dL_turns_198 ?_
    refine xm_calli hX (xm_runV hX (k := 0) (ci := 3) (As := (fun g => [.int (16 : Int32)])) (kX3_count hL (16 : Int32) M22) (hL _ _ cL_0) rfl (xm_gV gm_196 gm_197 gm_198 gm_1 gm_199) rfl ⟨rfl, rfl⟩ ⟨rfl, hdX3_count⟩ ⟨Nat.le_of_ble_eq_true rfl, Nat.le_of_ble_eq_true rfl⟩ rfl (Nat.le_of_ble_eq_true rfl) rfl ⟨Nat.le_of_ble_eq_true rfl, Nat.le_of_ble_eq_true rfl⟩ dL_turns_200) (fun x25 M24 => ?_)
    refine xm_isub hX dL_turns_203 ?_
    refine xm_i2l hX dL_turns_204 ?_
    refine xm_lload hX 8 dL_turns_205 rfl ?_
    refine xm_lmul hX dL_turns_207 ?_
    refine xm_ladd hX dL_turns_208 ?_
    refine xm_ldc2 hX (v := 100) (List.mem_cons_of_mem _ gm_344) dL_turns_209 ?_
    refine xm_ldivL hX (by decide) dL_turns_212 ?_
    exact tfL_turns_213 hL hX b1 b2 b4 b5 b7 b9 b11 b13 b15 (((x23.toInt64 * b11) + ((((100 : Int32) - x25).toInt64) * b13)) / (100 : Int64)) M24
  · refine xm_lload hX 8 dL_turns_180 rfl ?_
    refine xm_goto hX (tgt := 213) dL_turns_182 rfl ?_
    exact tfL_turns_213 hL hX b1 b2 b4 b5 b7 b9 b11 b13 b15 b13 M
def fL_turns_170   (b1 : Int32) (b2 : Int32) (b4 : Int32) (b5 : Int64) (b7 : Int64) (b9 : Int64) (b11 : Int64) (b13 : Int64) (b15 : Int32) (s0 : Int32) (s1 : Int32) (M : xm_M) : Option (Int32 × xm_M) :=
  if s1 = s0 then fL_turns_175 b1 b2 b4 b5 b7 b9 b11 b13 b15 M else some ((0 : Int32), M)
set_option maxRecDepth 20000 in
theorem tfL_turns_170 {p : Program} {l : Launch} {e : Env} {s : State} {m : MethodId} {args : Array Value} {below : List Frame} {meth : Method} {c : Code} {D : va_G} {g : xm_G} {A : Nat → Prop}  {L : List xm_Sh} (hL : xm_pre L) (hX : xm_X p m meth c cL_turns 25 s args wL_turns RL (some .boolean) D L g A)    : ∀ (b1 : Int32), ∀ (b2 : Int32), ∀ (b4 : Int32), ∀ (b5 : Int64), ∀ (b7 : Int64), ∀ (b9 : Int64), ∀ (b11 : Int64), ∀ (b13 : Int64), ∀ (b15 : Int32), ∀ (s0 : Int32), ∀ (s1 : Int32), ∀ (M : xm_M), xm_J p l e ({ frames := 6, cells := 0, slots := 0, locals := 151 }) s m args below meth c 25 D L g A (xm_Z below args s D L g A (xm_Fi g)) 170 [(0, .ref (g.1 0)), (1, .int b1), (2, .int b2), (4, .int b4), (5, .long b5), (7, .long b7), (9, .long b9), (11, .long b11), (13, .long b13), (15, .int b15)] [.int s0, .int s1] M (fL_turns_170 b1 b2 b4 b5 b7 b9 b11 b13 b15 s0 s1 M) := by
  intro b1 b2 b4 b5 b7 b9 b11 b13 b15 s0 s1 M
  unfold fL_turns_170
  refine xm_icmp_eq hX (tgt := 175) dL_turns_170 rfl ?_ ?_
  · exact tfL_turns_175 hL hX b1 b2 b4 b5 b7 b9 b11 b13 b15 M
  · refine xm_iconst hX (v := 0) rfl dL_turns_173 ?_
    exact xm_zretL hX (by decide) dL_turns_174
def fL_turns_157   (b1 : Int32) (b2 : Int32) (b4 : Int32) (b5 : Int64) (b7 : Int64) (b9 : Int64) (b11 : Int64) (b13 : Int64) (b15 : Int32) (s0 : Int32) (M : xm_M) : Option (Int32 × xm_M) :=
  if (lg_cmp b11 b13) ≤ 0 then fL_turns_170 b1 b2 b4 b5 b7 b9 b11 b13 b15 (0 : Int32) s0 M else fL_turns_170 b1 b2 b4 b5 b7 b9 b11 b13 b15 (1 : Int32) s0 M
set_option maxRecDepth 20000 in
theorem tfL_turns_157 {p : Program} {l : Launch} {e : Env} {s : State} {m : MethodId} {args : Array Value} {below : List Frame} {meth : Method} {c : Code} {D : va_G} {g : xm_G} {A : Nat → Prop}  {L : List xm_Sh} (hL : xm_pre L) (hX : xm_X p m meth c cL_turns 25 s args wL_turns RL (some .boolean) D L g A)    : ∀ (b1 : Int32), ∀ (b2 : Int32), ∀ (b4 : Int32), ∀ (b5 : Int64), ∀ (b7 : Int64), ∀ (b9 : Int64), ∀ (b11 : Int64), ∀ (b13 : Int64), ∀ (b15 : Int32), ∀ (s0 : Int32), ∀ (M : xm_M), xm_J p l e ({ frames := 6, cells := 0, slots := 0, locals := 151 }) s m args below meth c 25 D L g A (xm_Z below args s D L g A (xm_Fi g)) 157 [(0, .ref (g.1 0)), (1, .int b1), (2, .int b2), (4, .int b4), (5, .long b5), (7, .long b7), (9, .long b9), (11, .long b11), (13, .long b13), (15, .int b15)] [.int s0] M (fL_turns_157 b1 b2 b4 b5 b7 b9 b11 b13 b15 s0 M) := by
  intro b1 b2 b4 b5 b7 b9 b11 b13 b15 s0 M
  unfold fL_turns_157
  refine xm_lload hX 7 dL_turns_157 rfl ?_
  refine xm_lload hX 8 dL_turns_159 rfl ?_
  refine xm_lcmp hX dL_turns_161 ?_
  refine xm_if_le hX (tgt := 169) dL_turns_162 rfl ?_ ?_
  · refine xm_iconst hX (v := 0) rfl dL_turns_169 ?_
    exact tfL_turns_170 hL hX b1 b2 b4 b5 b7 b9 b11 b13 b15 (0 : Int32) s0 M
  · refine xm_iconst hX (v := 1) rfl dL_turns_165 ?_
    refine xm_goto hX (tgt := 170) dL_turns_166 rfl ?_
    exact tfL_turns_170 hL hX b1 b2 b4 b5 b7 b9 b11 b13 b15 (1 : Int32) s0 M
def fL_turns_139   (b1 : Int32) (b2 : Int32) (b4 : Int32) (b5 : Int64) (b7 : Int64) (b9 : Int64) (b11 : Int64) (b13 : Int64) (b15 : Int32) (s0 : Int32) (s1 : Int32) (M : xm_M) : Option (Int32 × xm_M) :=
  if s1 = s0 then if b15 = 0 then fL_turns_175 b1 b2 b4 b5 b7 b9 b11 b13 b15 M else if b2 = (3 : Int32) then fL_turns_157 b1 b2 b4 b5 b7 b9 b11 b13 b15 (1 : Int32) M else fL_turns_157 b1 b2 b4 b5 b7 b9 b11 b13 b15 (0 : Int32) M else some ((0 : Int32), M)
set_option maxRecDepth 20000 in
theorem tfL_turns_139 {p : Program} {l : Launch} {e : Env} {s : State} {m : MethodId} {args : Array Value} {below : List Frame} {meth : Method} {c : Code} {D : va_G} {g : xm_G} {A : Nat → Prop}  {L : List xm_Sh} (hL : xm_pre L) (hX : xm_X p m meth c cL_turns 25 s args wL_turns RL (some .boolean) D L g A)    : ∀ (b1 : Int32), ∀ (b2 : Int32), ∀ (b4 : Int32), ∀ (b5 : Int64), ∀ (b7 : Int64), ∀ (b9 : Int64), ∀ (b11 : Int64), ∀ (b13 : Int64), ∀ (b15 : Int32), ∀ (s0 : Int32), ∀ (s1 : Int32), ∀ (M : xm_M), xm_J p l e ({ frames := 6, cells := 0, slots := 0, locals := 151 }) s m args below meth c 25 D L g A (xm_Z below args s D L g A (xm_Fi g)) 139 [(0, .ref (g.1 0)), (1, .int b1), (2, .int b2), (4, .int b4), (5, .long b5), (7, .long b7), (9, .long b9), (11, .long b11), (13, .long b13), (15, .int b15)] [.int s0, .int s1] M (fL_turns_139 b1 b2 b4 b5 b7 b9 b11 b13 b15 s0 s1 M) := by
  intro b1 b2 b4 b5 b7 b9 b11 b13 b15 s0 s1 M
  unfold fL_turns_139
  refine xm_icmp_ne hX (tgt := 173) dL_turns_139 rfl ?_ ?_
  · refine xm_iconst hX (v := 0) rfl dL_turns_173 ?_
    exact xm_zretL hX (by decide) dL_turns_174
  · refine xm_iload hX 9 dL_turns_142 rfl ?_
    refine xm_if_eq hX (tgt := 175) dL_turns_144 rfl ?_ ?_
    · exact tfL_turns_175 hL hX b1 b2 b4 b5 b7 b9 b11 b13 b15 M
    · refine xm_iload_n hX 2 dL_turns_147 rfl rfl ?_
      refine xm_iconst hX (v := 3) rfl dL_turns_148 ?_
      refine xm_icmp_ne hX (tgt := 156) dL_turns_149 rfl ?_ ?_
      · refine xm_iconst hX (v := 0) rfl dL_turns_156 ?_
        exact tfL_turns_157 hL hX b1 b2 b4 b5 b7 b9 b11 b13 b15 (0 : Int32) M
      · refine xm_iconst hX (v := 1) rfl dL_turns_152 ?_
        refine xm_goto hX (tgt := 157) dL_turns_153 rfl ?_
        exact tfL_turns_157 hL hX b1 b2 b4 b5 b7 b9 b11 b13 b15 (1 : Int32) M
def fL_turns_112   (b1 : Int32) (b2 : Int32) (b4 : Int32) (b5 : Int64) (b7 : Int64) (b9 : Int64) (b11 : Int64) (b13 : Int64) (s0 : Int32) (M : xm_M) : Option (Int32 × xm_M) :=
  xm_bi (fX3_about b1 (4 : Int32) M) (fun x21 M20 => if (lg_cmp x21.toInt64 b11) = 0 then if b2 ≤ (1 : Int32) then fL_turns_139 b1 b2 b4 b5 b7 b9 b11 b13 s0 (0 : Int32) s0 M20 else fL_turns_139 b1 b2 b4 b5 b7 b9 b11 b13 s0 (1 : Int32) s0 M20 else some ((0 : Int32), M20))
set_option maxRecDepth 20000 in
theorem tfL_turns_112 {p : Program} {l : Launch} {e : Env} {s : State} {m : MethodId} {args : Array Value} {below : List Frame} {meth : Method} {c : Code} {D : va_G} {g : xm_G} {A : Nat → Prop}  {L : List xm_Sh} (hL : xm_pre L) (hX : xm_X p m meth c cL_turns 25 s args wL_turns RL (some .boolean) D L g A)    : ∀ (b1 : Int32), ∀ (b2 : Int32), ∀ (b4 : Int32), ∀ (b5 : Int64), ∀ (b7 : Int64), ∀ (b9 : Int64), ∀ (b11 : Int64), ∀ (b13 : Int64), ∀ (s0 : Int32), ∀ (M : xm_M), xm_J p l e ({ frames := 6, cells := 0, slots := 0, locals := 151 }) s m args below meth c 25 D L g A (xm_Z below args s D L g A (xm_Fi g)) 112 [(0, .ref (g.1 0)), (1, .int b1), (2, .int b2), (4, .int b4), (5, .long b5), (7, .long b7), (9, .long b9), (11, .long b11), (13, .long b13)] [.int s0] M (fL_turns_112 b1 b2 b4 b5 b7 b9 b11 b13 s0 M) := by
  intro b1 b2 b4 b5 b7 b9 b11 b13 s0 M
  unfold fL_turns_112
  refine xm_istore hX (lv' := [(15, .int s0), (0, .ref (g.1 0)), (1, .int b1), (2, .int b2), (4, .int b4), (5, .long b5), (7, .long b7), (9, .long b9), (11, .long b11), (13, .long b13)]) dL_turns_112 (by decide) rfl ?_
  refine xm_aload_n hX 1 dL_turns_114 rfl rfl ?_
  refine xm_iload_n hX 2 dL_turns_115 rfl rfl ?_
  refine xm_iconst hX (v := 4) rfl dL_turns_116 ?_
  refine xm_calli hX (xm_runV hX (k := 0) (ci := 3) (As := (fun g => [.int b1, .int (4 : Int32)])) (kX3_about hL b1 (4 : Int32) M) (hL _ _ cL_0) rfl (xm_gV gm_312 gm_313 gm_314 gm_1 gm_315) rfl ⟨rfl, rfl⟩ ⟨rfl, hdX3_about⟩ ⟨Nat.le_of_ble_eq_true rfl, Nat.le_of_ble_eq_true rfl⟩ rfl (Nat.le_of_ble_eq_true rfl) rfl ⟨Nat.le_of_ble_eq_true rfl, Nat.le_of_ble_eq_true rfl⟩ dL_turns_117) (fun x21 M20 => ?_)
  refine xm_i2l hX dL_turns_120 ?_
  refine xm_lload hX 8 dL_turns_121 rfl ?_
  refine xm_lcmp hX dL_turns_123 ?_
  refine xm_if_ne hX (tgt := 173) dL_turns_124 rfl ?_ ?_
  · refine xm_iconst hX (v := 0) rfl dL_turns_173 ?_
    exact xm_zretL hX (by decide) dL_turns_174
  · refine xm_iload hX 0 dL_turns_127 rfl ?_
    refine xm_iload_n hX 3 dL_turns_129 rfl rfl ?_
    refine xm_iconst hX (v := 1) rfl dL_turns_130 ?_
    refine xm_icmp_le hX (tgt := 138) dL_turns_131 rfl ?_ ?_
    · refine xm_iconst hX (v := 0) rfl dL_turns_138 ?_
      refine xm_weak [1, 2, 3, 4, 5, 6, 7, 8, 9, 0] (lv' := [(0, .ref (g.1 0)), (1, .int b1), (2, .int b2), (4, .int b4), (5, .long b5), (7, .long b7), (9, .long b9), (11, .long b11), (13, .long b13), (15, .int s0)]) rfl ?_
      exact tfL_turns_139 hL hX b1 b2 b4 b5 b7 b9 b11 b13 s0 (0 : Int32) s0 M20
    · refine xm_iconst hX (v := 1) rfl dL_turns_134 ?_
      refine xm_goto hX (tgt := 139) dL_turns_135 rfl ?_
      refine xm_weak [1, 2, 3, 4, 5, 6, 7, 8, 9, 0] (lv' := [(0, .ref (g.1 0)), (1, .int b1), (2, .int b2), (4, .int b4), (5, .long b5), (7, .long b7), (9, .long b9), (11, .long b11), (13, .long b13), (15, .int s0)]) rfl ?_
      exact tfL_turns_139 hL hX b1 b2 b4 b5 b7 b9 b11 b13 s0 (1 : Int32) s0 M20
def fL_turns_107   (b1 : Int32) (b2 : Int32) (b4 : Int32) (b5 : Int64) (b7 : Int64) (b9 : Int64) (b11 : Int64) (b13 : Int64) (M : xm_M) : Option (Int32 × xm_M) :=
  fL_turns_112 b1 b2 b4 b5 b7 b9 b11 b13 (1 : Int32) M
set_option maxRecDepth 20000 in
theorem tfL_turns_107 {p : Program} {l : Launch} {e : Env} {s : State} {m : MethodId} {args : Array Value} {below : List Frame} {meth : Method} {c : Code} {D : va_G} {g : xm_G} {A : Nat → Prop}  {L : List xm_Sh} (hL : xm_pre L) (hX : xm_X p m meth c cL_turns 25 s args wL_turns RL (some .boolean) D L g A)    : ∀ (b1 : Int32), ∀ (b2 : Int32), ∀ (b4 : Int32), ∀ (b5 : Int64), ∀ (b7 : Int64), ∀ (b9 : Int64), ∀ (b11 : Int64), ∀ (b13 : Int64), ∀ (M : xm_M), xm_J p l e ({ frames := 6, cells := 0, slots := 0, locals := 151 }) s m args below meth c 25 D L g A (xm_Z below args s D L g A (xm_Fi g)) 107 [(0, .ref (g.1 0)), (1, .int b1), (2, .int b2), (4, .int b4), (5, .long b5), (7, .long b7), (9, .long b9), (11, .long b11), (13, .long b13)] [] M (fL_turns_107 b1 b2 b4 b5 b7 b9 b11 b13 M) := by
  intro b1 b2 b4 b5 b7 b9 b11 b13 M
  unfold fL_turns_107
  refine xm_iconst hX (v := 1) rfl dL_turns_107 ?_
  refine xm_goto hX (tgt := 112) dL_turns_108 rfl ?_
  exact tfL_turns_112 hL hX b1 b2 b4 b5 b7 b9 b11 b13 (1 : Int32) M
def fL_turns  (a1 : Int32) (a2 : Int32) (a3 : Int32) (a4 : Int32) (M : xm_M) : Option (Int32 × xm_M) :=
  xm_bi (fX3_count (12 : Int32) M) (fun x2 M1 => xm_bi (fX3_about a1 (1 : Int32) M1) (fun x4 M3 => xm_lt (x2.toInt64 * x4.toInt64) (fun x5 => xm_bi (fX3_count (13 : Int32) M3) (fun x7 M6 => xm_bi (fX3_about a1 (2 : Int32) M6) (fun x9 M8 => xm_lt (x7.toInt64 * x9.toInt64) (fun x10 => xm_bi (fX3_count (14 : Int32) M8) (fun x12 M11 => xm_lt ((1000 : Int64) * x12.toInt64) (fun x13 => if x13 = 0 then none else xm_lt (((x10 - x5) * (572958 : Int64)) / x13) (fun x14 => xm_bi (fX3_about a1 (3 : Int32) M11) (fun x16 M15 => xm_lt ((x16 - (a3 / (16 : Int32))).toInt64) (fun x17 => xm_bi (fX3_count (15 : Int32) M15) (fun x19 M18 => if 0 < (lg_cmp (x14 - x17) x19.toInt64) then fL_turns_107 a1 a2 a4 x5 x10 x13 x14 x17 M18 else xm_bi (fX3_count (15 : Int32) M18) (fun x54 M53 => if (lg_cmp (x17 - x14) x54.toInt64) ≤ 0 then fL_turns_112 a1 a2 a4 x5 x10 x13 x14 x17 (0 : Int32) M53 else fL_turns_107 a1 a2 a4 x5 x10 x13 x14 x17 M53)))))))))))))
set_option maxRecDepth 20000 in
theorem kL_turns {l : Launch} {L : List xm_Sh} (hL : xm_pre L)   (a1 : Int32) (a2 : Int32) (a3 : Int32) (a4 : Int32) (M : xm_M) : xm_C l yL_turns wL_turns ({ frames := 6, cells := 0, slots := 0, locals := 151 }) L (fun g => [.ref (g.1 0), .int a1, .int a2, .int a3, .int a4]) M xm_Fi (fL_turns  a1 a2 a3 a4 M) := by
  refine xm_C.of (by decide) rfl (fun g => Nat.le_of_ble_eq_true rfl) ?_
  intro p e s m args below meth c D g A hX
  refine xm_lv (lv' := [(0, .ref (g.1 0)), (1, .int a1), (2, .int a2), (3, .int a3), (4, .int a4)]) rfl ?_
  unfold fL_turns
  refine xm_aload_n hX 0 dL_turns_0 rfl rfl ?_
  refine xm_bipush hX (v := 12) rfl dL_turns_1 ?_
  refine xm_calli hX (xm_runV hX (k := 0) (ci := 3) (As := (fun g => [.int (12 : Int32)])) (kX3_count hL (12 : Int32) M) (hL _ _ cL_0) rfl (xm_gV gm_196 gm_197 gm_198 gm_1 gm_199) rfl ⟨rfl, rfl⟩ ⟨rfl, hdX3_count⟩ ⟨Nat.le_of_ble_eq_true rfl, Nat.le_of_ble_eq_true rfl⟩ rfl (Nat.le_of_ble_eq_true rfl) rfl ⟨Nat.le_of_ble_eq_true rfl, Nat.le_of_ble_eq_true rfl⟩ dL_turns_3) (fun x2 M1 => ?_)
  refine xm_i2l hX dL_turns_6 ?_
  refine xm_aload_n hX 0 dL_turns_7 rfl rfl ?_
  refine xm_iload_n hX 1 dL_turns_8 rfl rfl ?_
  refine xm_iconst hX (v := 1) rfl dL_turns_9 ?_
  refine xm_calli hX (xm_runV hX (k := 0) (ci := 3) (As := (fun g => [.int a1, .int (1 : Int32)])) (kX3_about hL a1 (1 : Int32) M1) (hL _ _ cL_0) rfl (xm_gV gm_312 gm_313 gm_314 gm_1 gm_315) rfl ⟨rfl, rfl⟩ ⟨rfl, hdX3_about⟩ ⟨Nat.le_of_ble_eq_true rfl, Nat.le_of_ble_eq_true rfl⟩ rfl (Nat.le_of_ble_eq_true rfl) rfl ⟨Nat.le_of_ble_eq_true rfl, Nat.le_of_ble_eq_true rfl⟩ dL_turns_10) (fun x4 M3 => ?_)
  refine xm_i2l hX dL_turns_13 ?_
  refine xm_lmul hX dL_turns_14 ?_
  refine xm_nml (fun x5 => ?_)
  refine xm_lstore hX (lv' := [(5, .long x5), (0, .ref (g.1 0)), (1, .int a1), (2, .int a2), (3, .int a3), (4, .int a4)]) dL_turns_15 (by decide) rfl ?_
  refine xm_aload_n hX 1 dL_turns_17 rfl rfl ?_
  refine xm_bipush hX (v := 13) rfl dL_turns_18 ?_
  refine xm_calli hX (xm_runV hX (k := 0) (ci := 3) (As := (fun g => [.int (13 : Int32)])) (kX3_count hL (13 : Int32) M3) (hL _ _ cL_0) rfl (xm_gV gm_196 gm_197 gm_198 gm_1 gm_199) rfl ⟨rfl, rfl⟩ ⟨rfl, hdX3_count⟩ ⟨Nat.le_of_ble_eq_true rfl, Nat.le_of_ble_eq_true rfl⟩ rfl (Nat.le_of_ble_eq_true rfl) rfl ⟨Nat.le_of_ble_eq_true rfl, Nat.le_of_ble_eq_true rfl⟩ dL_turns_20) (fun x7 M6 => ?_)
  refine xm_i2l hX dL_turns_23 ?_
  refine xm_aload_n hX 1 dL_turns_24 rfl rfl ?_
  refine xm_iload_n hX 2 dL_turns_25 rfl rfl ?_
  refine xm_iconst hX (v := 2) rfl dL_turns_26 ?_
  refine xm_calli hX (xm_runV hX (k := 0) (ci := 3) (As := (fun g => [.int a1, .int (2 : Int32)])) (kX3_about hL a1 (2 : Int32) M6) (hL _ _ cL_0) rfl (xm_gV gm_312 gm_313 gm_314 gm_1 gm_315) rfl ⟨rfl, rfl⟩ ⟨rfl, hdX3_about⟩ ⟨Nat.le_of_ble_eq_true rfl, Nat.le_of_ble_eq_true rfl⟩ rfl (Nat.le_of_ble_eq_true rfl) rfl ⟨Nat.le_of_ble_eq_true rfl, Nat.le_of_ble_eq_true rfl⟩ dL_turns_27) (fun x9 M8 => ?_)
  refine xm_i2l hX dL_turns_30 ?_
  refine xm_lmul hX dL_turns_31 ?_
  refine xm_nml (fun x10 => ?_)
  refine xm_lstore hX (lv' := [(7, .long x10), (5, .long x5), (0, .ref (g.1 0)), (1, .int a1), (2, .int a2), (3, .int a3), (4, .int a4)]) dL_turns_32 (by decide) rfl ?_
  refine xm_ldc2 hX (v := 1000) (List.mem_cons_of_mem _ gm_342) dL_turns_34 ?_
  refine xm_aload_n hX 2 dL_turns_37 rfl rfl ?_
  refine xm_bipush hX (v := 14) rfl dL_turns_38 ?_
  refine xm_calli hX (xm_runV hX (k := 0) (ci := 3) (As := (fun g => [.int (14 : Int32)])) (kX3_count hL (14 : Int32) M8) (hL _ _ cL_0) rfl (xm_gV gm_196 gm_197 gm_198 gm_1 gm_199) rfl ⟨rfl, rfl⟩ ⟨rfl, hdX3_count⟩ ⟨Nat.le_of_ble_eq_true rfl, Nat.le_of_ble_eq_true rfl⟩ rfl (Nat.le_of_ble_eq_true rfl) rfl ⟨Nat.le_of_ble_eq_true rfl, Nat.le_of_ble_eq_true rfl⟩ dL_turns_40) (fun x12 M11 => ?_)
  refine xm_i2l hX dL_turns_43 ?_
  refine xm_lmul hX dL_turns_44 ?_
  refine xm_nml (fun x13 => ?_)
  refine xm_lstore hX (lv' := [(9, .long x13), (7, .long x10), (5, .long x5), (0, .ref (g.1 0)), (1, .int a1), (2, .int a2), (3, .int a3), (4, .int a4)]) dL_turns_45 (by decide) rfl ?_
  refine xm_lload hX 1 dL_turns_47 rfl ?_
  refine xm_lload hX 2 dL_turns_49 rfl ?_
  refine xm_lsub hX dL_turns_51 ?_
  refine xm_ldc2 hX (v := 572958) (List.mem_cons_of_mem _ gm_343) dL_turns_52 ?_
  refine xm_lmul hX dL_turns_55 ?_
  refine xm_lload hX 0 dL_turns_56 rfl ?_
  refine xm_ldiv hX dL_turns_58 ?_
  refine xm_nml (fun x14 => ?_)
  refine xm_lstore hX (lv' := [(11, .long x14), (9, .long x13), (7, .long x10), (5, .long x5), (0, .ref (g.1 0)), (1, .int a1), (2, .int a2), (3, .int a3), (4, .int a4)]) dL_turns_59 (by decide) rfl ?_
  refine xm_aload_n hX 4 dL_turns_61 rfl rfl ?_
  refine xm_iload_n hX 5 dL_turns_62 rfl rfl ?_
  refine xm_iconst hX (v := 3) rfl dL_turns_63 ?_
  refine xm_calli hX (xm_runV hX (k := 0) (ci := 3) (As := (fun g => [.int a1, .int (3 : Int32)])) (kX3_about hL a1 (3 : Int32) M11) (hL _ _ cL_0) rfl (xm_gV gm_312 gm_313 gm_314 gm_1 gm_315) rfl ⟨rfl, rfl⟩ ⟨rfl, hdX3_about⟩ ⟨Nat.le_of_ble_eq_true rfl, Nat.le_of_ble_eq_true rfl⟩ rfl (Nat.le_of_ble_eq_true rfl) rfl ⟨Nat.le_of_ble_eq_true rfl, Nat.le_of_ble_eq_true rfl⟩ dL_turns_64) (fun x16 M15 => ?_)
  refine xm_iload_n hX 7 dL_turns_67 rfl rfl ?_
  refine xm_bipush hX (v := 16) rfl dL_turns_68 ?_
  refine xm_idivL hX (by decide) dL_turns_70 ?_
  refine xm_isub hX dL_turns_71 ?_
  refine xm_i2l hX dL_turns_72 ?_
  refine xm_nml (fun x17 => ?_)
  refine xm_lstore hX (lv' := [(13, .long x17), (11, .long x14), (9, .long x13), (7, .long x10), (5, .long x5), (0, .ref (g.1 0)), (1, .int a1), (2, .int a2), (3, .int a3), (4, .int a4)]) dL_turns_73 (by decide) rfl ?_
  refine xm_lload hX 1 dL_turns_75 rfl ?_
  refine xm_lload hX 0 dL_turns_77 rfl ?_
  refine xm_lsub hX dL_turns_79 ?_
  refine xm_aload_n hX 5 dL_turns_80 rfl rfl ?_
  refine xm_bipush hX (v := 15) rfl dL_turns_81 ?_
  refine xm_calli hX (xm_runV hX (k := 0) (ci := 3) (As := (fun g => [.int (15 : Int32)])) (kX3_count hL (15 : Int32) M15) (hL _ _ cL_0) rfl (xm_gV gm_196 gm_197 gm_198 gm_1 gm_199) rfl ⟨rfl, rfl⟩ ⟨rfl, hdX3_count⟩ ⟨Nat.le_of_ble_eq_true rfl, Nat.le_of_ble_eq_true rfl⟩ rfl (Nat.le_of_ble_eq_true rfl) rfl ⟨Nat.le_of_ble_eq_true rfl, Nat.le_of_ble_eq_true rfl⟩ dL_turns_83) (fun x19 M18 => ?_)
  refine xm_i2l hX dL_turns_86 ?_
  refine xm_lcmp hX dL_turns_87 ?_
  refine xm_if_gt hX (tgt := 107) dL_turns_88 rfl ?_ ?_
  · refine xm_weak [5, 6, 7, 9, 4, 3, 2, 1, 0] (lv' := [(0, .ref (g.1 0)), (1, .int a1), (2, .int a2), (4, .int a4), (5, .long x5), (7, .long x10), (9, .long x13), (11, .long x14), (13, .long x17)]) rfl ?_
    exact tfL_turns_107 hL hX a1 a2 a4 x5 x10 x13 x14 x17 M18
  · refine xm_lload hX 0 dL_turns_91 rfl ?_
    refine xm_lload hX 1 dL_turns_93 rfl ?_
    refine xm_lsub hX dL_turns_95 ?_
    refine xm_aload_n hX 5 dL_turns_96 rfl rfl ?_
    refine xm_bipush hX (v := 15) rfl dL_turns_97 ?_
    refine xm_calli hX (xm_runV hX (k := 0) (ci := 3) (As := (fun g => [.int (15 : Int32)])) (kX3_count hL (15 : Int32) M18) (hL _ _ cL_0) rfl (xm_gV gm_196 gm_197 gm_198 gm_1 gm_199) rfl ⟨rfl, rfl⟩ ⟨rfl, hdX3_count⟩ ⟨Nat.le_of_ble_eq_true rfl, Nat.le_of_ble_eq_true rfl⟩ rfl (Nat.le_of_ble_eq_true rfl) rfl ⟨Nat.le_of_ble_eq_true rfl, Nat.le_of_ble_eq_true rfl⟩ dL_turns_99) (fun x54 M53 => ?_)
    refine xm_i2l hX dL_turns_102 ?_
    refine xm_lcmp hX dL_turns_103 ?_
    refine xm_if_le hX (tgt := 111) dL_turns_104 rfl ?_ ?_
    · refine xm_iconst hX (v := 0) rfl dL_turns_111 ?_
      refine xm_weak [5, 6, 7, 9, 4, 3, 2, 1, 0] (lv' := [(0, .ref (g.1 0)), (1, .int a1), (2, .int a2), (4, .int a4), (5, .long x5), (7, .long x10), (9, .long x13), (11, .long x14), (13, .long x17)]) rfl ?_
      exact tfL_turns_112 hL hX a1 a2 a4 x5 x10 x13 x14 x17 (0 : Int32) M53
    · refine xm_weak [5, 6, 7, 9, 4, 3, 2, 1, 0] (lv' := [(0, .ref (g.1 0)), (1, .int a1), (2, .int a2), (4, .int a4), (5, .long x5), (7, .long x10), (9, .long x13), (11, .long x14), (13, .long x17)]) rfl ?_
      exact tfL_turns_107 hL hX a1 a2 a4 x5 x10 x13 x14 x17 M53
