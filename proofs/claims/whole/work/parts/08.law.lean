def R_law : String := "OdometryDeskLaw"
def lw_P (b : Addr) (xs : List Int32) (args : Array Value) (s : State) : Prop := args = #[.ref b] ∧ s.IntsAt b xs ∧ xs.length ≤ 3072 ∧ (Jvm.Cond.and given_1 narrow_1).before args s = true
def lw_Q (_ : Array Value) (s : State) (o : Outcome) (t : State) : Prop := o = .returned (some (.int 1)) ∧ Framed s o t [] 600000 7302250
def lw_Z (below : List Frame) (a : Array Value) (s : State) : State → Prop := fun t => ∃ o, t.status = .running ∧ Ended t below o ∧ lw_Q a s o t
/-- the law's own end, with 1 on the stack, nothing written that was there before, its room as the claim has it -/
theorem lw_ret {p : Program} {l : Launch} {e : Env} {s : State} {m : MethodId} {below : List Frame} {meth : Method} {c : Code} {b : Nat} (hx : p.tables.exec = Jvm.exec) (hb : c.code = code) (hr : meth.sig.returnType = ret) (hlocks : meth.locks = false) {pc : Nat} {H : Heap} {ls : Array Slot} (hdg : decode code pc = .ok (.ireturn, 1)) : W p l e room_1 s m #[Value.ref b] below meth c H [] 600000 7302250 (lw_Z below #[Value.ref b] s) (F0 m pc ls [.int 1]) := by
  intro T hT X
  obtain ⟨fs, hret, hrun, hended, hW, hframe⟩ := X.leave (v := some (.int 1)) (hlocks := hlocks) (fun h => by rw [hr] at h; cases h)
  have hmeth' : T.vm.method? m = some meth := X.method'
  refine ⟨T.setFrames fs, ?_, .returned (some (.int 1)), hrun, hended, rfl, ⟨_, rfl⟩, hW, hframe⟩
  jvm_step X.here [X.here.top, hx, hb, hdg, hmeth', hr, ret, narrow_b1]
  (try refine ⟨rfl, ?_⟩); (try refine ⟨rfl, ?_⟩)
  first | (intro acts; rw [hret _ acts rfl rfl rfl]) | rw [hret _ _ rfl rfl rfl]
  exact Steps.refl _
/-- what holds at the law's entry: the machine, the code, the tables' words (any of lw_tbl by 'hts w (by decide +kernel)'), the script of L ints xs at the cell b, what the Statement gives of the start (any of its parts by flat_of_before) -/
def lw_At (p : Program) (s : State) (m : MethodId) (meth : Method) (c : Code) (b L : Nat) (xs : Nat → Int32) : Prop :=
  p.tables.exec = Jvm.exec ∧ c.code = code ∧ meth.sig.returnType = ret ∧ c.maxLocals = 4 ∧ s.vm.findClass R_law = some m.cls ∧ (∀ w ∈ lw_tbl, w.before #[Value.ref b] s = true) ∧ va_X b L xs s s.heap ∧ b < s.heap.size ∧ meth.locks = false ∧ (Jvm.Cond.and given_1 narrow_1).before #[Value.ref b] s = true

theorem dL_law_0 : decode code 0 = .ok (.new 7, 3) := by decide +kernel
theorem dL_law_3 : decode code 3 = .ok (.dup, 1) := by decide +kernel
theorem dL_law_4 : decode code 4 = .ok (.invokespecial 9, 3) := by decide +kernel
theorem dL_law_7 : decode code 7 = .ok (.astore_n 1, 1) := by decide +kernel
theorem dL_law_8 : decode code 8 = .ok (.new 10, 3) := by decide +kernel
theorem dL_law_11 : decode code 11 = .ok (.dup, 1) := by decide +kernel
theorem dL_law_12 : decode code 12 = .ok (.invokespecial 12, 3) := by decide +kernel
theorem dL_law_15 : decode code 15 = .ok (.astore_n 2, 1) := by decide +kernel
theorem dL_law_16 : decode code 16 = .ok (.iconst 0, 1) := by decide +kernel
theorem dL_law_17 : decode code 17 = .ok (.istore_n 3, 1) := by decide +kernel
theorem dL_law_18 : decode code 18 = .ok (.iload_n 3, 1) := by decide +kernel
theorem dL_law_19 : decode code 19 = .ok (.aload_n 0, 1) := by decide +kernel
theorem dL_law_20 : decode code 20 = .ok (.arraylength, 1) := by decide +kernel
theorem dL_law_21 : decode code 21 = .ok (.bipush 6, 2) := by decide +kernel
theorem dL_law_23 : decode code 23 = .ok (.isub, 1) := by decide +kernel
theorem dL_law_24 : decode code 24 = .ok (.if_icmp .gt 717, 3) := by decide +kernel
theorem dL_law_27 : decode code 27 = .ok (.aload_n 0, 1) := by decide +kernel
theorem dL_law_28 : decode code 28 = .ok (.iload_n 3, 1) := by decide +kernel
theorem dL_law_29 : decode code 29 = .ok (.iaload, 1) := by decide +kernel
theorem dL_law_30 : decode code 30 = .ok (.bipush 31, 2) := by decide +kernel
theorem dL_law_32 : decode code 32 = .ok (.iand, 1) := by decide +kernel
theorem dL_law_33 : decode code 33 = .ok (.tableswitch 702 0 20 #[99, 132, 195, 228, 241, 284, 327, 350, 373, 406, 439, 462, 495, 538, 551, 564, 617, 630, 643, 656, 679], 99) := by decide +kernel
theorem dL_law_132 : decode code 132 = .ok (.aload_n 1, 1) := by decide +kernel
theorem dL_law_133 : decode code 133 = .ok (.aload_n 0, 1) := by decide +kernel
theorem dL_law_134 : decode code 134 = .ok (.iload_n 3, 1) := by decide +kernel
theorem dL_law_135 : decode code 135 = .ok (.iconst 1, 1) := by decide +kernel
theorem dL_law_136 : decode code 136 = .ok (.iadd, 1) := by decide +kernel
theorem dL_law_137 : decode code 137 = .ok (.iaload, 1) := by decide +kernel
theorem dL_law_138 : decode code 138 = .ok (.aload_n 0, 1) := by decide +kernel
theorem dL_law_139 : decode code 139 = .ok (.iload_n 3, 1) := by decide +kernel
theorem dL_law_140 : decode code 140 = .ok (.iconst 2, 1) := by decide +kernel
theorem dL_law_141 : decode code 141 = .ok (.iadd, 1) := by decide +kernel
theorem dL_law_142 : decode code 142 = .ok (.iaload, 1) := by decide +kernel
theorem dL_law_143 : decode code 143 = .ok (.invokevirtual 13, 3) := by decide +kernel
theorem dL_law_146 : decode code 146 = .ok (.aload_n 2, 1) := by decide +kernel
theorem dL_law_147 : decode code 147 = .ok (.aload_n 0, 1) := by decide +kernel
theorem dL_law_148 : decode code 148 = .ok (.iload_n 3, 1) := by decide +kernel
theorem dL_law_149 : decode code 149 = .ok (.iconst 1, 1) := by decide +kernel
theorem dL_law_150 : decode code 150 = .ok (.iadd, 1) := by decide +kernel
theorem dL_law_151 : decode code 151 = .ok (.iaload, 1) := by decide +kernel
theorem dL_law_152 : decode code 152 = .ok (.aload_n 0, 1) := by decide +kernel
theorem dL_law_153 : decode code 153 = .ok (.iload_n 3, 1) := by decide +kernel
theorem dL_law_154 : decode code 154 = .ok (.iconst 2, 1) := by decide +kernel
theorem dL_law_155 : decode code 155 = .ok (.iadd, 1) := by decide +kernel
theorem dL_law_156 : decode code 156 = .ok (.iaload, 1) := by decide +kernel
theorem dL_law_157 : decode code 157 = .ok (.invokevirtual 17, 3) := by decide +kernel
theorem dL_law_160 : decode code 160 = .ok (.if_icmp .eq 575, 3) := by decide +kernel
theorem dL_law_163 : decode code 163 = .ok (.iconst 0, 1) := by decide +kernel
theorem dL_law_164 : decode code 164 = .ok (.ireturn, 1) := by decide +kernel
theorem dL_law_165 : decode code 165 = .ok (.aload_n 1, 1) := by decide +kernel
theorem dL_law_166 : decode code 166 = .ok (.aload_n 0, 1) := by decide +kernel
theorem dL_law_167 : decode code 167 = .ok (.iload_n 3, 1) := by decide +kernel
theorem dL_law_168 : decode code 168 = .ok (.iconst 1, 1) := by decide +kernel
theorem dL_law_169 : decode code 169 = .ok (.iadd, 1) := by decide +kernel
theorem dL_law_170 : decode code 170 = .ok (.iaload, 1) := by decide +kernel
theorem dL_law_171 : decode code 171 = .ok (.aload_n 0, 1) := by decide +kernel
theorem dL_law_172 : decode code 172 = .ok (.iload_n 3, 1) := by decide +kernel
theorem dL_law_173 : decode code 173 = .ok (.iconst 2, 1) := by decide +kernel
theorem dL_law_174 : decode code 174 = .ok (.iadd, 1) := by decide +kernel
theorem dL_law_175 : decode code 175 = .ok (.iaload, 1) := by decide +kernel
theorem dL_law_176 : decode code 176 = .ok (.aload_n 0, 1) := by decide +kernel
theorem dL_law_177 : decode code 177 = .ok (.iload_n 3, 1) := by decide +kernel
theorem dL_law_178 : decode code 178 = .ok (.iconst 3, 1) := by decide +kernel
theorem dL_law_179 : decode code 179 = .ok (.iadd, 1) := by decide +kernel
theorem dL_law_180 : decode code 180 = .ok (.iaload, 1) := by decide +kernel
theorem dL_law_181 : decode code 181 = .ok (.aload_n 0, 1) := by decide +kernel
theorem dL_law_182 : decode code 182 = .ok (.iload_n 3, 1) := by decide +kernel
theorem dL_law_183 : decode code 183 = .ok (.iconst 4, 1) := by decide +kernel
theorem dL_law_184 : decode code 184 = .ok (.iadd, 1) := by decide +kernel
theorem dL_law_185 : decode code 185 = .ok (.iaload, 1) := by decide +kernel
theorem dL_law_186 : decode code 186 = .ok (.aload_n 0, 1) := by decide +kernel
theorem dL_law_187 : decode code 187 = .ok (.iload_n 3, 1) := by decide +kernel
theorem dL_law_188 : decode code 188 = .ok (.iconst 5, 1) := by decide +kernel
theorem dL_law_189 : decode code 189 = .ok (.iadd, 1) := by decide +kernel
theorem dL_law_190 : decode code 190 = .ok (.iaload, 1) := by decide +kernel
theorem dL_law_191 : decode code 191 = .ok (.invokevirtual 18, 3) := by decide +kernel
theorem dL_law_194 : decode code 194 = .ok (.aload_n 2, 1) := by decide +kernel
theorem dL_law_195 : decode code 195 = .ok (.aload_n 0, 1) := by decide +kernel
theorem dL_law_196 : decode code 196 = .ok (.iload_n 3, 1) := by decide +kernel
theorem dL_law_197 : decode code 197 = .ok (.iconst 1, 1) := by decide +kernel
theorem dL_law_198 : decode code 198 = .ok (.iadd, 1) := by decide +kernel
theorem dL_law_199 : decode code 199 = .ok (.iaload, 1) := by decide +kernel
theorem dL_law_200 : decode code 200 = .ok (.aload_n 0, 1) := by decide +kernel
theorem dL_law_201 : decode code 201 = .ok (.iload_n 3, 1) := by decide +kernel
theorem dL_law_202 : decode code 202 = .ok (.iconst 2, 1) := by decide +kernel
theorem dL_law_203 : decode code 203 = .ok (.iadd, 1) := by decide +kernel
theorem dL_law_204 : decode code 204 = .ok (.iaload, 1) := by decide +kernel
theorem dL_law_205 : decode code 205 = .ok (.aload_n 0, 1) := by decide +kernel
theorem dL_law_206 : decode code 206 = .ok (.iload_n 3, 1) := by decide +kernel
theorem dL_law_207 : decode code 207 = .ok (.iconst 3, 1) := by decide +kernel
theorem dL_law_208 : decode code 208 = .ok (.iadd, 1) := by decide +kernel
theorem dL_law_209 : decode code 209 = .ok (.iaload, 1) := by decide +kernel
theorem dL_law_210 : decode code 210 = .ok (.aload_n 0, 1) := by decide +kernel
theorem dL_law_211 : decode code 211 = .ok (.iload_n 3, 1) := by decide +kernel
theorem dL_law_212 : decode code 212 = .ok (.iconst 4, 1) := by decide +kernel
theorem dL_law_213 : decode code 213 = .ok (.iadd, 1) := by decide +kernel
theorem dL_law_214 : decode code 214 = .ok (.iaload, 1) := by decide +kernel
theorem dL_law_215 : decode code 215 = .ok (.aload_n 0, 1) := by decide +kernel
theorem dL_law_216 : decode code 216 = .ok (.iload_n 3, 1) := by decide +kernel
theorem dL_law_217 : decode code 217 = .ok (.iconst 5, 1) := by decide +kernel
theorem dL_law_218 : decode code 218 = .ok (.iadd, 1) := by decide +kernel
theorem dL_law_219 : decode code 219 = .ok (.iaload, 1) := by decide +kernel
theorem dL_law_220 : decode code 220 = .ok (.invokevirtual 22, 3) := by decide +kernel
theorem dL_law_223 : decode code 223 = .ok (.if_icmp .eq 512, 3) := by decide +kernel
theorem dL_law_226 : decode code 226 = .ok (.iconst 0, 1) := by decide +kernel
theorem dL_law_227 : decode code 227 = .ok (.ireturn, 1) := by decide +kernel
theorem dL_law_228 : decode code 228 = .ok (.aload_n 1, 1) := by decide +kernel
theorem dL_law_229 : decode code 229 = .ok (.aload_n 0, 1) := by decide +kernel
theorem dL_law_230 : decode code 230 = .ok (.iload_n 3, 1) := by decide +kernel
theorem dL_law_231 : decode code 231 = .ok (.iconst 1, 1) := by decide +kernel
theorem dL_law_232 : decode code 232 = .ok (.iadd, 1) := by decide +kernel
theorem dL_law_233 : decode code 233 = .ok (.iaload, 1) := by decide +kernel
theorem dL_law_234 : decode code 234 = .ok (.aload_n 0, 1) := by decide +kernel
theorem dL_law_235 : decode code 235 = .ok (.iload_n 3, 1) := by decide +kernel
theorem dL_law_236 : decode code 236 = .ok (.iconst 2, 1) := by decide +kernel
theorem dL_law_237 : decode code 237 = .ok (.iadd, 1) := by decide +kernel
theorem dL_law_238 : decode code 238 = .ok (.iaload, 1) := by decide +kernel
theorem dL_law_239 : decode code 239 = .ok (.invokevirtual 23, 3) := by decide +kernel
theorem dL_law_242 : decode code 242 = .ok (.aload_n 2, 1) := by decide +kernel
theorem dL_law_243 : decode code 243 = .ok (.aload_n 0, 1) := by decide +kernel
theorem dL_law_244 : decode code 244 = .ok (.iload_n 3, 1) := by decide +kernel
theorem dL_law_245 : decode code 245 = .ok (.iconst 1, 1) := by decide +kernel
theorem dL_law_246 : decode code 246 = .ok (.iadd, 1) := by decide +kernel
theorem dL_law_247 : decode code 247 = .ok (.iaload, 1) := by decide +kernel
theorem dL_law_248 : decode code 248 = .ok (.aload_n 0, 1) := by decide +kernel
theorem dL_law_249 : decode code 249 = .ok (.iload_n 3, 1) := by decide +kernel
theorem dL_law_250 : decode code 250 = .ok (.iconst 2, 1) := by decide +kernel
theorem dL_law_251 : decode code 251 = .ok (.iadd, 1) := by decide +kernel
theorem dL_law_252 : decode code 252 = .ok (.iaload, 1) := by decide +kernel
theorem dL_law_253 : decode code 253 = .ok (.invokevirtual 26, 3) := by decide +kernel
theorem dL_law_256 : decode code 256 = .ok (.if_icmp .eq 479, 3) := by decide +kernel
theorem dL_law_259 : decode code 259 = .ok (.iconst 0, 1) := by decide +kernel
theorem dL_law_260 : decode code 260 = .ok (.ireturn, 1) := by decide +kernel
theorem dL_law_261 : decode code 261 = .ok (.aload_n 1, 1) := by decide +kernel
theorem dL_law_262 : decode code 262 = .ok (.invokevirtual 27, 3) := by decide +kernel
theorem dL_law_265 : decode code 265 = .ok (.aload_n 2, 1) := by decide +kernel
theorem dL_law_266 : decode code 266 = .ok (.invokevirtual 31, 3) := by decide +kernel
theorem dL_law_269 : decode code 269 = .ok (.if_icmp .eq 466, 3) := by decide +kernel
theorem dL_law_272 : decode code 272 = .ok (.iconst 0, 1) := by decide +kernel
theorem dL_law_273 : decode code 273 = .ok (.ireturn, 1) := by decide +kernel
theorem dL_law_274 : decode code 274 = .ok (.aload_n 1, 1) := by decide +kernel
theorem dL_law_275 : decode code 275 = .ok (.aload_n 0, 1) := by decide +kernel
theorem dL_law_276 : decode code 276 = .ok (.iload_n 3, 1) := by decide +kernel
theorem dL_law_277 : decode code 277 = .ok (.iconst 1, 1) := by decide +kernel
theorem dL_law_278 : decode code 278 = .ok (.iadd, 1) := by decide +kernel
theorem dL_law_279 : decode code 279 = .ok (.iaload, 1) := by decide +kernel
theorem dL_law_280 : decode code 280 = .ok (.aload_n 0, 1) := by decide +kernel
theorem dL_law_281 : decode code 281 = .ok (.iload_n 3, 1) := by decide +kernel
theorem dL_law_282 : decode code 282 = .ok (.iconst 2, 1) := by decide +kernel
theorem dL_law_283 : decode code 283 = .ok (.iadd, 1) := by decide +kernel
theorem dL_law_284 : decode code 284 = .ok (.iaload, 1) := by decide +kernel
theorem dL_law_285 : decode code 285 = .ok (.aload_n 0, 1) := by decide +kernel
theorem dL_law_286 : decode code 286 = .ok (.iload_n 3, 1) := by decide +kernel
theorem dL_law_287 : decode code 287 = .ok (.iconst 3, 1) := by decide +kernel
theorem dL_law_288 : decode code 288 = .ok (.iadd, 1) := by decide +kernel
theorem dL_law_289 : decode code 289 = .ok (.iaload, 1) := by decide +kernel
theorem dL_law_290 : decode code 290 = .ok (.invokevirtual 32, 3) := by decide +kernel
theorem dL_law_293 : decode code 293 = .ok (.aload_n 2, 1) := by decide +kernel
theorem dL_law_294 : decode code 294 = .ok (.aload_n 0, 1) := by decide +kernel
theorem dL_law_295 : decode code 295 = .ok (.iload_n 3, 1) := by decide +kernel
theorem dL_law_296 : decode code 296 = .ok (.iconst 1, 1) := by decide +kernel
theorem dL_law_297 : decode code 297 = .ok (.iadd, 1) := by decide +kernel
theorem dL_law_298 : decode code 298 = .ok (.iaload, 1) := by decide +kernel
theorem dL_law_299 : decode code 299 = .ok (.aload_n 0, 1) := by decide +kernel
theorem dL_law_300 : decode code 300 = .ok (.iload_n 3, 1) := by decide +kernel
theorem dL_law_301 : decode code 301 = .ok (.iconst 2, 1) := by decide +kernel
theorem dL_law_302 : decode code 302 = .ok (.iadd, 1) := by decide +kernel
theorem dL_law_303 : decode code 303 = .ok (.iaload, 1) := by decide +kernel
theorem dL_law_304 : decode code 304 = .ok (.aload_n 0, 1) := by decide +kernel
theorem dL_law_305 : decode code 305 = .ok (.iload_n 3, 1) := by decide +kernel
theorem dL_law_306 : decode code 306 = .ok (.iconst 3, 1) := by decide +kernel
theorem dL_law_307 : decode code 307 = .ok (.iadd, 1) := by decide +kernel
theorem dL_law_308 : decode code 308 = .ok (.iaload, 1) := by decide +kernel
theorem dL_law_309 : decode code 309 = .ok (.invokevirtual 36, 3) := by decide +kernel
theorem dL_law_312 : decode code 312 = .ok (.if_icmp .eq 423, 3) := by decide +kernel
theorem dL_law_315 : decode code 315 = .ok (.iconst 0, 1) := by decide +kernel
theorem dL_law_316 : decode code 316 = .ok (.ireturn, 1) := by decide +kernel
theorem dL_law_317 : decode code 317 = .ok (.aload_n 1, 1) := by decide +kernel
theorem dL_law_318 : decode code 318 = .ok (.aload_n 0, 1) := by decide +kernel
theorem dL_law_319 : decode code 319 = .ok (.iload_n 3, 1) := by decide +kernel
theorem dL_law_320 : decode code 320 = .ok (.iconst 1, 1) := by decide +kernel
theorem dL_law_321 : decode code 321 = .ok (.iadd, 1) := by decide +kernel
theorem dL_law_322 : decode code 322 = .ok (.iaload, 1) := by decide +kernel
theorem dL_law_323 : decode code 323 = .ok (.aload_n 0, 1) := by decide +kernel
theorem dL_law_324 : decode code 324 = .ok (.iload_n 3, 1) := by decide +kernel
theorem dL_law_325 : decode code 325 = .ok (.iconst 2, 1) := by decide +kernel
theorem dL_law_326 : decode code 326 = .ok (.iadd, 1) := by decide +kernel
theorem dL_law_327 : decode code 327 = .ok (.iaload, 1) := by decide +kernel
theorem dL_law_328 : decode code 328 = .ok (.aload_n 0, 1) := by decide +kernel
theorem dL_law_329 : decode code 329 = .ok (.iload_n 3, 1) := by decide +kernel
theorem dL_law_330 : decode code 330 = .ok (.iconst 3, 1) := by decide +kernel
theorem dL_law_331 : decode code 331 = .ok (.iadd, 1) := by decide +kernel
theorem dL_law_332 : decode code 332 = .ok (.iaload, 1) := by decide +kernel
theorem dL_law_333 : decode code 333 = .ok (.invokevirtual 37, 3) := by decide +kernel
theorem dL_law_336 : decode code 336 = .ok (.aload_n 2, 1) := by decide +kernel
theorem dL_law_337 : decode code 337 = .ok (.aload_n 0, 1) := by decide +kernel
theorem dL_law_338 : decode code 338 = .ok (.iload_n 3, 1) := by decide +kernel
theorem dL_law_339 : decode code 339 = .ok (.iconst 1, 1) := by decide +kernel
theorem dL_law_340 : decode code 340 = .ok (.iadd, 1) := by decide +kernel
theorem dL_law_341 : decode code 341 = .ok (.iaload, 1) := by decide +kernel
theorem dL_law_342 : decode code 342 = .ok (.aload_n 0, 1) := by decide +kernel
theorem dL_law_343 : decode code 343 = .ok (.iload_n 3, 1) := by decide +kernel
theorem dL_law_344 : decode code 344 = .ok (.iconst 2, 1) := by decide +kernel
theorem dL_law_345 : decode code 345 = .ok (.iadd, 1) := by decide +kernel
theorem dL_law_346 : decode code 346 = .ok (.iaload, 1) := by decide +kernel
theorem dL_law_347 : decode code 347 = .ok (.aload_n 0, 1) := by decide +kernel
theorem dL_law_348 : decode code 348 = .ok (.iload_n 3, 1) := by decide +kernel
theorem dL_law_349 : decode code 349 = .ok (.iconst 3, 1) := by decide +kernel
theorem dL_law_350 : decode code 350 = .ok (.iadd, 1) := by decide +kernel
theorem dL_law_351 : decode code 351 = .ok (.iaload, 1) := by decide +kernel
theorem dL_law_352 : decode code 352 = .ok (.invokevirtual 40, 3) := by decide +kernel
theorem dL_law_355 : decode code 355 = .ok (.if_icmp .eq 380, 3) := by decide +kernel
theorem dL_law_358 : decode code 358 = .ok (.iconst 0, 1) := by decide +kernel
theorem dL_law_359 : decode code 359 = .ok (.ireturn, 1) := by decide +kernel
theorem dL_law_360 : decode code 360 = .ok (.aload_n 1, 1) := by decide +kernel
theorem dL_law_361 : decode code 361 = .ok (.aload_n 0, 1) := by decide +kernel
theorem dL_law_362 : decode code 362 = .ok (.iload_n 3, 1) := by decide +kernel
theorem dL_law_363 : decode code 363 = .ok (.iconst 1, 1) := by decide +kernel
theorem dL_law_364 : decode code 364 = .ok (.iadd, 1) := by decide +kernel
theorem dL_law_365 : decode code 365 = .ok (.iaload, 1) := by decide +kernel
theorem dL_law_366 : decode code 366 = .ok (.invokevirtual 41, 3) := by decide +kernel
theorem dL_law_369 : decode code 369 = .ok (.aload_n 2, 1) := by decide +kernel
theorem dL_law_370 : decode code 370 = .ok (.aload_n 0, 1) := by decide +kernel
theorem dL_law_371 : decode code 371 = .ok (.iload_n 3, 1) := by decide +kernel
theorem dL_law_372 : decode code 372 = .ok (.iconst 1, 1) := by decide +kernel
theorem dL_law_373 : decode code 373 = .ok (.iadd, 1) := by decide +kernel
theorem dL_law_374 : decode code 374 = .ok (.iaload, 1) := by decide +kernel
theorem dL_law_375 : decode code 375 = .ok (.invokevirtual 45, 3) := by decide +kernel
theorem dL_law_378 : decode code 378 = .ok (.if_icmp .eq 357, 3) := by decide +kernel
theorem dL_law_381 : decode code 381 = .ok (.iconst 0, 1) := by decide +kernel
theorem dL_law_382 : decode code 382 = .ok (.ireturn, 1) := by decide +kernel
theorem dL_law_383 : decode code 383 = .ok (.aload_n 1, 1) := by decide +kernel
theorem dL_law_384 : decode code 384 = .ok (.aload_n 0, 1) := by decide +kernel
theorem dL_law_385 : decode code 385 = .ok (.iload_n 3, 1) := by decide +kernel
theorem dL_law_386 : decode code 386 = .ok (.iconst 1, 1) := by decide +kernel
theorem dL_law_387 : decode code 387 = .ok (.iadd, 1) := by decide +kernel
theorem dL_law_388 : decode code 388 = .ok (.iaload, 1) := by decide +kernel
theorem dL_law_389 : decode code 389 = .ok (.invokevirtual 46, 3) := by decide +kernel
theorem dL_law_392 : decode code 392 = .ok (.aload_n 2, 1) := by decide +kernel
theorem dL_law_393 : decode code 393 = .ok (.aload_n 0, 1) := by decide +kernel
theorem dL_law_394 : decode code 394 = .ok (.iload_n 3, 1) := by decide +kernel
theorem dL_law_395 : decode code 395 = .ok (.iconst 1, 1) := by decide +kernel
theorem dL_law_396 : decode code 396 = .ok (.iadd, 1) := by decide +kernel
theorem dL_law_397 : decode code 397 = .ok (.iaload, 1) := by decide +kernel
theorem dL_law_398 : decode code 398 = .ok (.invokevirtual 49, 3) := by decide +kernel
theorem dL_law_401 : decode code 401 = .ok (.if_icmp .eq 334, 3) := by decide +kernel
theorem dL_law_404 : decode code 404 = .ok (.iconst 0, 1) := by decide +kernel
theorem dL_law_405 : decode code 405 = .ok (.ireturn, 1) := by decide +kernel
theorem dL_law_406 : decode code 406 = .ok (.aload_n 1, 1) := by decide +kernel
theorem dL_law_407 : decode code 407 = .ok (.aload_n 0, 1) := by decide +kernel
theorem dL_law_408 : decode code 408 = .ok (.iload_n 3, 1) := by decide +kernel
theorem dL_law_409 : decode code 409 = .ok (.iconst 1, 1) := by decide +kernel
theorem dL_law_410 : decode code 410 = .ok (.iadd, 1) := by decide +kernel
theorem dL_law_411 : decode code 411 = .ok (.iaload, 1) := by decide +kernel
theorem dL_law_412 : decode code 412 = .ok (.aload_n 0, 1) := by decide +kernel
theorem dL_law_413 : decode code 413 = .ok (.iload_n 3, 1) := by decide +kernel
theorem dL_law_414 : decode code 414 = .ok (.iconst 2, 1) := by decide +kernel
theorem dL_law_415 : decode code 415 = .ok (.iadd, 1) := by decide +kernel
theorem dL_law_416 : decode code 416 = .ok (.iaload, 1) := by decide +kernel
theorem dL_law_417 : decode code 417 = .ok (.invokevirtual 50, 3) := by decide +kernel
theorem dL_law_420 : decode code 420 = .ok (.aload_n 2, 1) := by decide +kernel
theorem dL_law_421 : decode code 421 = .ok (.aload_n 0, 1) := by decide +kernel
theorem dL_law_422 : decode code 422 = .ok (.iload_n 3, 1) := by decide +kernel
theorem dL_law_423 : decode code 423 = .ok (.iconst 1, 1) := by decide +kernel
theorem dL_law_424 : decode code 424 = .ok (.iadd, 1) := by decide +kernel
theorem dL_law_425 : decode code 425 = .ok (.iaload, 1) := by decide +kernel
theorem dL_law_426 : decode code 426 = .ok (.aload_n 0, 1) := by decide +kernel
theorem dL_law_427 : decode code 427 = .ok (.iload_n 3, 1) := by decide +kernel
theorem dL_law_428 : decode code 428 = .ok (.iconst 2, 1) := by decide +kernel
theorem dL_law_429 : decode code 429 = .ok (.iadd, 1) := by decide +kernel
theorem dL_law_430 : decode code 430 = .ok (.iaload, 1) := by decide +kernel
theorem dL_law_431 : decode code 431 = .ok (.invokevirtual 53, 3) := by decide +kernel
theorem dL_law_434 : decode code 434 = .ok (.if_icmp .eq 301, 3) := by decide +kernel
theorem dL_law_437 : decode code 437 = .ok (.iconst 0, 1) := by decide +kernel
theorem dL_law_438 : decode code 438 = .ok (.ireturn, 1) := by decide +kernel
theorem dL_law_439 : decode code 439 = .ok (.aload_n 1, 1) := by decide +kernel
theorem dL_law_440 : decode code 440 = .ok (.aload_n 0, 1) := by decide +kernel
theorem dL_law_441 : decode code 441 = .ok (.iload_n 3, 1) := by decide +kernel
theorem dL_law_442 : decode code 442 = .ok (.iconst 1, 1) := by decide +kernel
theorem dL_law_443 : decode code 443 = .ok (.iadd, 1) := by decide +kernel
theorem dL_law_444 : decode code 444 = .ok (.iaload, 1) := by decide +kernel
theorem dL_law_445 : decode code 445 = .ok (.aload_n 0, 1) := by decide +kernel
theorem dL_law_446 : decode code 446 = .ok (.iload_n 3, 1) := by decide +kernel
theorem dL_law_447 : decode code 447 = .ok (.iconst 2, 1) := by decide +kernel
theorem dL_law_448 : decode code 448 = .ok (.iadd, 1) := by decide +kernel
theorem dL_law_449 : decode code 449 = .ok (.iaload, 1) := by decide +kernel
theorem dL_law_450 : decode code 450 = .ok (.invokevirtual 54, 3) := by decide +kernel
theorem dL_law_453 : decode code 453 = .ok (.aload_n 2, 1) := by decide +kernel
theorem dL_law_454 : decode code 454 = .ok (.aload_n 0, 1) := by decide +kernel
theorem dL_law_455 : decode code 455 = .ok (.iload_n 3, 1) := by decide +kernel
theorem dL_law_456 : decode code 456 = .ok (.iconst 1, 1) := by decide +kernel
theorem dL_law_457 : decode code 457 = .ok (.iadd, 1) := by decide +kernel
theorem dL_law_458 : decode code 458 = .ok (.iaload, 1) := by decide +kernel
theorem dL_law_459 : decode code 459 = .ok (.aload_n 0, 1) := by decide +kernel
theorem dL_law_460 : decode code 460 = .ok (.iload_n 3, 1) := by decide +kernel
theorem dL_law_461 : decode code 461 = .ok (.iconst 2, 1) := by decide +kernel
theorem dL_law_462 : decode code 462 = .ok (.iadd, 1) := by decide +kernel
theorem dL_law_463 : decode code 463 = .ok (.iaload, 1) := by decide +kernel
theorem dL_law_464 : decode code 464 = .ok (.invokevirtual 57, 3) := by decide +kernel
theorem dL_law_467 : decode code 467 = .ok (.if_icmp .eq 268, 3) := by decide +kernel
theorem dL_law_470 : decode code 470 = .ok (.iconst 0, 1) := by decide +kernel
theorem dL_law_471 : decode code 471 = .ok (.ireturn, 1) := by decide +kernel
theorem dL_law_472 : decode code 472 = .ok (.aload_n 1, 1) := by decide +kernel
theorem dL_law_473 : decode code 473 = .ok (.aload_n 0, 1) := by decide +kernel
theorem dL_law_474 : decode code 474 = .ok (.iload_n 3, 1) := by decide +kernel
theorem dL_law_475 : decode code 475 = .ok (.iconst 1, 1) := by decide +kernel
theorem dL_law_476 : decode code 476 = .ok (.iadd, 1) := by decide +kernel
theorem dL_law_477 : decode code 477 = .ok (.iaload, 1) := by decide +kernel
theorem dL_law_478 : decode code 478 = .ok (.invokevirtual 58, 3) := by decide +kernel
theorem dL_law_481 : decode code 481 = .ok (.aload_n 2, 1) := by decide +kernel
theorem dL_law_482 : decode code 482 = .ok (.aload_n 0, 1) := by decide +kernel
theorem dL_law_483 : decode code 483 = .ok (.iload_n 3, 1) := by decide +kernel
theorem dL_law_484 : decode code 484 = .ok (.iconst 1, 1) := by decide +kernel
theorem dL_law_485 : decode code 485 = .ok (.iadd, 1) := by decide +kernel
theorem dL_law_486 : decode code 486 = .ok (.iaload, 1) := by decide +kernel
theorem dL_law_487 : decode code 487 = .ok (.invokevirtual 61, 3) := by decide +kernel
theorem dL_law_490 : decode code 490 = .ok (.if_icmp .eq 245, 3) := by decide +kernel
theorem dL_law_493 : decode code 493 = .ok (.iconst 0, 1) := by decide +kernel
theorem dL_law_494 : decode code 494 = .ok (.ireturn, 1) := by decide +kernel
theorem dL_law_495 : decode code 495 = .ok (.aload_n 1, 1) := by decide +kernel
theorem dL_law_496 : decode code 496 = .ok (.aload_n 0, 1) := by decide +kernel
theorem dL_law_497 : decode code 497 = .ok (.iload_n 3, 1) := by decide +kernel
theorem dL_law_498 : decode code 498 = .ok (.iconst 1, 1) := by decide +kernel
theorem dL_law_499 : decode code 499 = .ok (.iadd, 1) := by decide +kernel
theorem dL_law_500 : decode code 500 = .ok (.iaload, 1) := by decide +kernel
theorem dL_law_501 : decode code 501 = .ok (.aload_n 0, 1) := by decide +kernel
theorem dL_law_502 : decode code 502 = .ok (.iload_n 3, 1) := by decide +kernel
theorem dL_law_503 : decode code 503 = .ok (.iconst 2, 1) := by decide +kernel
theorem dL_law_504 : decode code 504 = .ok (.iadd, 1) := by decide +kernel
theorem dL_law_505 : decode code 505 = .ok (.iaload, 1) := by decide +kernel
theorem dL_law_506 : decode code 506 = .ok (.invokevirtual 62, 3) := by decide +kernel
theorem dL_law_509 : decode code 509 = .ok (.aload_n 2, 1) := by decide +kernel
theorem dL_law_510 : decode code 510 = .ok (.aload_n 0, 1) := by decide +kernel
theorem dL_law_511 : decode code 511 = .ok (.iload_n 3, 1) := by decide +kernel
theorem dL_law_512 : decode code 512 = .ok (.iconst 1, 1) := by decide +kernel
theorem dL_law_513 : decode code 513 = .ok (.iadd, 1) := by decide +kernel
theorem dL_law_514 : decode code 514 = .ok (.iaload, 1) := by decide +kernel
theorem dL_law_515 : decode code 515 = .ok (.aload_n 0, 1) := by decide +kernel
theorem dL_law_516 : decode code 516 = .ok (.iload_n 3, 1) := by decide +kernel
theorem dL_law_517 : decode code 517 = .ok (.iconst 2, 1) := by decide +kernel
theorem dL_law_518 : decode code 518 = .ok (.iadd, 1) := by decide +kernel
theorem dL_law_519 : decode code 519 = .ok (.iaload, 1) := by decide +kernel
theorem dL_law_520 : decode code 520 = .ok (.invokevirtual 65, 3) := by decide +kernel
theorem dL_law_523 : decode code 523 = .ok (.if_icmp .eq 212, 3) := by decide +kernel
theorem dL_law_526 : decode code 526 = .ok (.iconst 0, 1) := by decide +kernel
theorem dL_law_527 : decode code 527 = .ok (.ireturn, 1) := by decide +kernel
theorem dL_law_528 : decode code 528 = .ok (.aload_n 1, 1) := by decide +kernel
theorem dL_law_529 : decode code 529 = .ok (.aload_n 0, 1) := by decide +kernel
theorem dL_law_530 : decode code 530 = .ok (.iload_n 3, 1) := by decide +kernel
theorem dL_law_531 : decode code 531 = .ok (.iconst 1, 1) := by decide +kernel
theorem dL_law_532 : decode code 532 = .ok (.iadd, 1) := by decide +kernel
theorem dL_law_533 : decode code 533 = .ok (.iaload, 1) := by decide +kernel
theorem dL_law_534 : decode code 534 = .ok (.aload_n 0, 1) := by decide +kernel
theorem dL_law_535 : decode code 535 = .ok (.iload_n 3, 1) := by decide +kernel
theorem dL_law_536 : decode code 536 = .ok (.iconst 2, 1) := by decide +kernel
theorem dL_law_537 : decode code 537 = .ok (.iadd, 1) := by decide +kernel
theorem dL_law_538 : decode code 538 = .ok (.iaload, 1) := by decide +kernel
theorem dL_law_539 : decode code 539 = .ok (.aload_n 0, 1) := by decide +kernel
theorem dL_law_540 : decode code 540 = .ok (.iload_n 3, 1) := by decide +kernel
theorem dL_law_541 : decode code 541 = .ok (.iconst 3, 1) := by decide +kernel
theorem dL_law_542 : decode code 542 = .ok (.iadd, 1) := by decide +kernel
theorem dL_law_543 : decode code 543 = .ok (.iaload, 1) := by decide +kernel
theorem dL_law_544 : decode code 544 = .ok (.invokevirtual 66, 3) := by decide +kernel
theorem dL_law_547 : decode code 547 = .ok (.aload_n 2, 1) := by decide +kernel
theorem dL_law_548 : decode code 548 = .ok (.aload_n 0, 1) := by decide +kernel
theorem dL_law_549 : decode code 549 = .ok (.iload_n 3, 1) := by decide +kernel
theorem dL_law_550 : decode code 550 = .ok (.iconst 1, 1) := by decide +kernel
theorem dL_law_551 : decode code 551 = .ok (.iadd, 1) := by decide +kernel
theorem dL_law_552 : decode code 552 = .ok (.iaload, 1) := by decide +kernel
theorem dL_law_553 : decode code 553 = .ok (.aload_n 0, 1) := by decide +kernel
theorem dL_law_554 : decode code 554 = .ok (.iload_n 3, 1) := by decide +kernel
theorem dL_law_555 : decode code 555 = .ok (.iconst 2, 1) := by decide +kernel
theorem dL_law_556 : decode code 556 = .ok (.iadd, 1) := by decide +kernel
theorem dL_law_557 : decode code 557 = .ok (.iaload, 1) := by decide +kernel
theorem dL_law_558 : decode code 558 = .ok (.aload_n 0, 1) := by decide +kernel
theorem dL_law_559 : decode code 559 = .ok (.iload_n 3, 1) := by decide +kernel
theorem dL_law_560 : decode code 560 = .ok (.iconst 3, 1) := by decide +kernel
theorem dL_law_561 : decode code 561 = .ok (.iadd, 1) := by decide +kernel
theorem dL_law_562 : decode code 562 = .ok (.iaload, 1) := by decide +kernel
theorem dL_law_563 : decode code 563 = .ok (.invokevirtual 69, 3) := by decide +kernel
theorem dL_law_566 : decode code 566 = .ok (.if_icmp .eq 169, 3) := by decide +kernel
theorem dL_law_569 : decode code 569 = .ok (.iconst 0, 1) := by decide +kernel
theorem dL_law_570 : decode code 570 = .ok (.ireturn, 1) := by decide +kernel
theorem dL_law_571 : decode code 571 = .ok (.aload_n 1, 1) := by decide +kernel
theorem dL_law_572 : decode code 572 = .ok (.invokevirtual 70, 3) := by decide +kernel
theorem dL_law_575 : decode code 575 = .ok (.aload_n 2, 1) := by decide +kernel
theorem dL_law_576 : decode code 576 = .ok (.invokevirtual 73, 3) := by decide +kernel
theorem dL_law_579 : decode code 579 = .ok (.if_icmp .eq 156, 3) := by decide +kernel
theorem dL_law_582 : decode code 582 = .ok (.iconst 0, 1) := by decide +kernel
theorem dL_law_583 : decode code 583 = .ok (.ireturn, 1) := by decide +kernel
theorem dL_law_584 : decode code 584 = .ok (.aload_n 1, 1) := by decide +kernel
theorem dL_law_585 : decode code 585 = .ok (.invokevirtual 74, 3) := by decide +kernel
theorem dL_law_588 : decode code 588 = .ok (.aload_n 2, 1) := by decide +kernel
theorem dL_law_589 : decode code 589 = .ok (.invokevirtual 77, 3) := by decide +kernel
theorem dL_law_592 : decode code 592 = .ok (.if_icmp .eq 143, 3) := by decide +kernel
theorem dL_law_595 : decode code 595 = .ok (.iconst 0, 1) := by decide +kernel
theorem dL_law_596 : decode code 596 = .ok (.ireturn, 1) := by decide +kernel
theorem dL_law_597 : decode code 597 = .ok (.aload_n 1, 1) := by decide +kernel
theorem dL_law_598 : decode code 598 = .ok (.aload_n 0, 1) := by decide +kernel
theorem dL_law_599 : decode code 599 = .ok (.iload_n 3, 1) := by decide +kernel
theorem dL_law_600 : decode code 600 = .ok (.iconst 1, 1) := by decide +kernel
theorem dL_law_601 : decode code 601 = .ok (.iadd, 1) := by decide +kernel
theorem dL_law_602 : decode code 602 = .ok (.iaload, 1) := by decide +kernel
theorem dL_law_603 : decode code 603 = .ok (.i2l, 1) := by decide +kernel
theorem dL_law_604 : decode code 604 = .ok (.bipush 32, 2) := by decide +kernel
theorem dL_law_606 : decode code 606 = .ok (.lshl, 1) := by decide +kernel
theorem dL_law_607 : decode code 607 = .ok (.aload_n 0, 1) := by decide +kernel
theorem dL_law_608 : decode code 608 = .ok (.iload_n 3, 1) := by decide +kernel
theorem dL_law_609 : decode code 609 = .ok (.iconst 2, 1) := by decide +kernel
theorem dL_law_610 : decode code 610 = .ok (.iadd, 1) := by decide +kernel
theorem dL_law_611 : decode code 611 = .ok (.iaload, 1) := by decide +kernel
theorem dL_law_612 : decode code 612 = .ok (.i2l, 1) := by decide +kernel
theorem dL_law_613 : decode code 613 = .ok (.ldc2_w 78, 3) := by decide +kernel
theorem dL_law_616 : decode code 616 = .ok (.land, 1) := by decide +kernel
theorem dL_law_617 : decode code 617 = .ok (.lor, 1) := by decide +kernel
theorem dL_law_618 : decode code 618 = .ok (.invokevirtual 80, 3) := by decide +kernel
theorem dL_law_621 : decode code 621 = .ok (.aload_n 2, 1) := by decide +kernel
theorem dL_law_622 : decode code 622 = .ok (.aload_n 0, 1) := by decide +kernel
theorem dL_law_623 : decode code 623 = .ok (.iload_n 3, 1) := by decide +kernel
theorem dL_law_624 : decode code 624 = .ok (.iconst 1, 1) := by decide +kernel
theorem dL_law_625 : decode code 625 = .ok (.iadd, 1) := by decide +kernel
theorem dL_law_626 : decode code 626 = .ok (.iaload, 1) := by decide +kernel
theorem dL_law_627 : decode code 627 = .ok (.i2l, 1) := by decide +kernel
theorem dL_law_628 : decode code 628 = .ok (.bipush 32, 2) := by decide +kernel
theorem dL_law_630 : decode code 630 = .ok (.lshl, 1) := by decide +kernel
theorem dL_law_631 : decode code 631 = .ok (.aload_n 0, 1) := by decide +kernel
theorem dL_law_632 : decode code 632 = .ok (.iload_n 3, 1) := by decide +kernel
theorem dL_law_633 : decode code 633 = .ok (.iconst 2, 1) := by decide +kernel
theorem dL_law_634 : decode code 634 = .ok (.iadd, 1) := by decide +kernel
theorem dL_law_635 : decode code 635 = .ok (.iaload, 1) := by decide +kernel
theorem dL_law_636 : decode code 636 = .ok (.i2l, 1) := by decide +kernel
theorem dL_law_637 : decode code 637 = .ok (.ldc2_w 78, 3) := by decide +kernel
theorem dL_law_640 : decode code 640 = .ok (.land, 1) := by decide +kernel
theorem dL_law_641 : decode code 641 = .ok (.lor, 1) := by decide +kernel
theorem dL_law_642 : decode code 642 = .ok (.invokevirtual 84, 3) := by decide +kernel
theorem dL_law_645 : decode code 645 = .ok (.if_icmp .eq 90, 3) := by decide +kernel
theorem dL_law_648 : decode code 648 = .ok (.iconst 0, 1) := by decide +kernel
theorem dL_law_649 : decode code 649 = .ok (.ireturn, 1) := by decide +kernel
theorem dL_law_650 : decode code 650 = .ok (.aload_n 1, 1) := by decide +kernel
theorem dL_law_651 : decode code 651 = .ok (.invokevirtual 85, 3) := by decide +kernel
theorem dL_law_654 : decode code 654 = .ok (.aload_n 2, 1) := by decide +kernel
theorem dL_law_655 : decode code 655 = .ok (.invokevirtual 88, 3) := by decide +kernel
theorem dL_law_658 : decode code 658 = .ok (.if_icmp .eq 77, 3) := by decide +kernel
theorem dL_law_661 : decode code 661 = .ok (.iconst 0, 1) := by decide +kernel
theorem dL_law_662 : decode code 662 = .ok (.ireturn, 1) := by decide +kernel
theorem dL_law_663 : decode code 663 = .ok (.aload_n 1, 1) := by decide +kernel
theorem dL_law_664 : decode code 664 = .ok (.invokevirtual 89, 3) := by decide +kernel
theorem dL_law_667 : decode code 667 = .ok (.aload_n 2, 1) := by decide +kernel
theorem dL_law_668 : decode code 668 = .ok (.invokevirtual 92, 3) := by decide +kernel
theorem dL_law_671 : decode code 671 = .ok (.if_icmp .eq 64, 3) := by decide +kernel
theorem dL_law_674 : decode code 674 = .ok (.iconst 0, 1) := by decide +kernel
theorem dL_law_675 : decode code 675 = .ok (.ireturn, 1) := by decide +kernel
theorem dL_law_676 : decode code 676 = .ok (.aload_n 1, 1) := by decide +kernel
theorem dL_law_677 : decode code 677 = .ok (.invokevirtual 93, 3) := by decide +kernel
theorem dL_law_680 : decode code 680 = .ok (.aload_n 2, 1) := by decide +kernel
theorem dL_law_681 : decode code 681 = .ok (.invokevirtual 96, 3) := by decide +kernel
theorem dL_law_684 : decode code 684 = .ok (.if_icmp .eq 51, 3) := by decide +kernel
theorem dL_law_687 : decode code 687 = .ok (.iconst 0, 1) := by decide +kernel
theorem dL_law_688 : decode code 688 = .ok (.ireturn, 1) := by decide +kernel
theorem dL_law_689 : decode code 689 = .ok (.aload_n 1, 1) := by decide +kernel
theorem dL_law_690 : decode code 690 = .ok (.aload_n 0, 1) := by decide +kernel
theorem dL_law_691 : decode code 691 = .ok (.iload_n 3, 1) := by decide +kernel
theorem dL_law_692 : decode code 692 = .ok (.iconst 1, 1) := by decide +kernel
theorem dL_law_693 : decode code 693 = .ok (.iadd, 1) := by decide +kernel
theorem dL_law_694 : decode code 694 = .ok (.iaload, 1) := by decide +kernel
theorem dL_law_695 : decode code 695 = .ok (.invokevirtual 97, 3) := by decide +kernel
theorem dL_law_698 : decode code 698 = .ok (.aload_n 2, 1) := by decide +kernel
theorem dL_law_699 : decode code 699 = .ok (.aload_n 0, 1) := by decide +kernel
theorem dL_law_700 : decode code 700 = .ok (.iload_n 3, 1) := by decide +kernel
theorem dL_law_701 : decode code 701 = .ok (.iconst 1, 1) := by decide +kernel
theorem dL_law_702 : decode code 702 = .ok (.iadd, 1) := by decide +kernel
theorem dL_law_703 : decode code 703 = .ok (.iaload, 1) := by decide +kernel
theorem dL_law_704 : decode code 704 = .ok (.invokevirtual 100, 3) := by decide +kernel
theorem dL_law_707 : decode code 707 = .ok (.if_icmp .eq 28, 3) := by decide +kernel
theorem dL_law_710 : decode code 710 = .ok (.iconst 0, 1) := by decide +kernel
theorem dL_law_711 : decode code 711 = .ok (.ireturn, 1) := by decide +kernel
theorem dL_law_712 : decode code 712 = .ok (.aload_n 1, 1) := by decide +kernel
theorem dL_law_713 : decode code 713 = .ok (.aload_n 0, 1) := by decide +kernel
theorem dL_law_714 : decode code 714 = .ok (.iload_n 3, 1) := by decide +kernel
theorem dL_law_715 : decode code 715 = .ok (.iconst 1, 1) := by decide +kernel
theorem dL_law_716 : decode code 716 = .ok (.iadd, 1) := by decide +kernel
theorem dL_law_717 : decode code 717 = .ok (.iaload, 1) := by decide +kernel
theorem dL_law_718 : decode code 718 = .ok (.invokevirtual 101, 3) := by decide +kernel
theorem dL_law_721 : decode code 721 = .ok (.aload_n 2, 1) := by decide +kernel
theorem dL_law_722 : decode code 722 = .ok (.aload_n 0, 1) := by decide +kernel
theorem dL_law_723 : decode code 723 = .ok (.iload_n 3, 1) := by decide +kernel
theorem dL_law_724 : decode code 724 = .ok (.iconst 1, 1) := by decide +kernel
theorem dL_law_725 : decode code 725 = .ok (.iadd, 1) := by decide +kernel
theorem dL_law_726 : decode code 726 = .ok (.iaload, 1) := by decide +kernel
theorem dL_law_727 : decode code 727 = .ok (.invokevirtual 104, 3) := by decide +kernel
theorem dL_law_730 : decode code 730 = .ok (.if_icmp .eq 5, 3) := by decide +kernel
theorem dL_law_733 : decode code 733 = .ok (.iconst 0, 1) := by decide +kernel
theorem dL_law_734 : decode code 734 = .ok (.ireturn, 1) := by decide +kernel
theorem dL_law_735 : decode code 735 = .ok (.iinc 3 6, 3) := by decide +kernel
theorem dL_law_738 : decode code 738 = .ok (.goto (-720), 3) := by decide +kernel
theorem dL_law_741 : decode code 741 = .ok (.iconst 1, 1) := by decide +kernel
theorem dL_law_742 : decode code 742 = .ok (.ireturn, 1) := by decide +kernel
theorem xl_gV {own C : String} {index : Nat} {y : MethodName} {bytes : ByteArray} {maxL : Nat} {rt : Option FieldType} (h1 : Cond.methodLink own index y ∈ lw_gd) (h2 : Cond.instanceMethod y ∈ lw_gd) (h3 : Cond.selects C y y ∈ lw_gd) (h0 : Cond.initialized C ∈ lw_gd) (h4 : Cond.code y bytes maxL rt ∈ lw_gd) : GoodIn lw_tbl (wsV own index C y (Cond.code y bytes maxL rt :: lw_gd)) := by
  intro w hw
  have hm : w ∈ lw_gd := by
    rcases List.mem_append.mp hw with h | h
    · rcases List.mem_cons.mp h with rfl | h
      · exact h1
      · rcases List.mem_cons.mp h with rfl | h
        · exact h2
        · rcases List.mem_cons.mp h with rfl | h
          · exact h3
          · rw [List.mem_singleton.mp h]; exact h0
    · rcases List.mem_cons.mp h with rfl | h
      · exact h4
      · exact h
  exact ⟨lw_gd_in w hm, lw_gd_good w hm⟩
theorem xl_gI {y : MethodName} {bytes : ByteArray} {maxL : Nat} {rt : Option FieldType} (h4 : Cond.code y bytes maxL rt ∈ lw_gd) : GoodIn lw_tbl (Cond.code y bytes maxL rt :: lw_gd) := by
  intro w hw
  have hm : w ∈ lw_gd := by
    rcases List.mem_cons.mp hw with rfl | h
    · exact h4
    · exact h
  exact ⟨lw_gd_in w hm, lw_gd_good w hm⟩
/-- what holds throughout the law, with the two worlds made -/
def xl_C (p : Program) (s : State) (m : MethodId) (meth : Method) (c : Code) (b L : Nat) (xs : Nat → Int32) (D : va_G) (g g2 : xm_G) : Prop :=
  CallFix p m c code 4 s #[Value.ref b] lw_tbl RL ∧ meth.sig.returnType = ret ∧ meth.locks = false ∧ va_X b L xs s s.heap ∧ b < s.heap.size ∧ L ≤ 3072 ∧ va_K D vwCl g.2 s ∧ g2.2 = g.2 ∧ xm_Nx s ∧ xm_St (fun q : Nat => s.heap.size ≤ q) s s.heap ∧ xm_inj cL g ∧ xm_inj mL g2 ∧ xm_tyok cL g ∧ xm_tyok mL g2 ∧ (∀ k, k < cL.length → s.heap.size ≤ g.1 k) ∧ (∀ k, k < mL.length → s.heap.size ≤ g2.1 k) ∧ ∀ k j, k < cL.length → j < mL.length → g.1 k ≠ g2.1 j
section XL
variable {p : Program} {l : Launch} {e : Env} {s : State} {m : MethodId} {below : List Frame} {meth : Method} {c : Code} {b L : Nat} {xs : Nat → Int32} {D : va_G} {g g2 : xm_G} {H : Heap} {locs : List Loc} {Q : State → Prop} {pc : Nat} {ls : Array Slot} {rest : List Value}
/-- a call of an object of one of two worlds: the other stays -/
theorem xl_call {L1 L2 : List xm_Sh} {h1 h2 : xm_G} {M M1 N : xm_M} {r : Int32} {y : MethodName} {C : String} {ws2 ws3 : List Cond} {rm : Room} {bytes : ByteArray} {maxL n index ci : Nat} {fs : List (Nat × Nat)} {T : u_T} {NN : Nat} {rt : Option FieldType} {As : List Value} {st0 : List Value}
    (hX : CallFix p m c code 4 s #[Value.ref b] lw_tbl RL) (hK : va_K D vwCl h1.2 s) (hN : xm_Nx s) (hSt : xm_St (fun q : Nat => s.heap.size ≤ q) s s.heap) (hI : xm_inj L1 h1) (hT : xm_tyok L1 h1) (hA1 : ∀ k, k < L1.length → s.heap.size ≤ h1.1 k) (hdis : ∀ k j, k < L1.length → j < L2.length → h1.1 k ≠ h2.1 j)
    (hC : xm_C l y ws2 rm L1 (fun g => .ref (g.1 0) :: As) M xm_Fi (some (r, M1))) (hSk : L1[0]? = some (.inr (.inr (ci, fs)))) (hc : vwCl[ci]? = some (C, T, NN)) (hG : GoodIn lw_tbl (wsV RL index C y ws2)) (hw : ws2 = Cond.code y bytes maxL rt :: ws3) (hr0 : rm.cells = 0 ∧ rm.slots = 0)
    (hd : y.cls = C ∧ y.cls ≠ "java/lang/invoke/MethodHandle" ∧ y.cls ≠ "java/lang/invoke/VarHandle" ∧ (parseMethodDescriptor y.desc).map (fun d => d.parameters.length) = some n) (hR : rm.frames + 1 ≤ room_1.frames ∧ 8 + (maxL + 11) + rm.locals ≤ room_1.locals) (hn : As.length = n) (hq : (rest.map fun v => v.category).sum ≤ 8) (hst : st0 = As.reverse ++ .ref (h1.1 0) :: rest) (hdg : decode code pc = .ok (.invokevirtual index, 3)) (hsz : ls.size = 4)
    (hP : va_P D vwCl (xm_w L1 h1 M) H) (hP2 : va_P D vwCl (xm_w L2 h2 N) H) (hS : va_S (fun q : Nat => s.heap.size ≤ q) s.heap H locs)
    (kk : ∀ (H1 : Heap) (locs1 : List Loc), va_P D vwCl (xm_w L1 h1 M1) H1 → va_P D vwCl (xm_w L2 h2 N) H1 → va_S (fun q : Nat => s.heap.size ≤ q) s.heap H1 locs1 → W p l e room_1 s m #[Value.ref b] below meth c H1 locs1 600000 7302250 Q (F0 m (pc + 3) ls (.int r :: rest))) :
    W p l e room_1 s m #[Value.ref b] below meth c H locs 600000 7302250 Q (F0 m pc ls st0) := by
  have hsub : ∀ q, xm_A L1 h1 H.size q → s.heap.size ≤ q := fun q h => by
    rcases h with ⟨k, hk, rfl⟩ | h
    · exact hA1 k hk
    · exact Nat.le_trans hS.1 h
  have hrun := va_runV (l := l) (e := e) (R := room_1) (below := below) (meth := meth) (H := H) (locs := locs) (cells := 600000) (slots := 7302250) (g := F0 m pc ls st0) (As := As) (rest := rest) (b := h1.1 0) hX (hC D h1 H.size (r, M1) rfl) (cwV n hX.2.2.2.2 hG hw hr0.1 hr0.2 hd hR) ⟨xm_blind, va_recv hK hP (ci := ci) (q0 := 0) hc (xm_w_at hSk), fun U hU hW => ⟨rfl, by rw [hU], by rw [hU]; exact hP, va_K.moved hW.alike hK, hN.warm hW, hI, hT, by rw [hU]; exact ((hSt.moved hW.alike).kept (fun a h1 h2 => hS.2.1 a h1 h2)).narrow hsub⟩⟩ rfl hn hsz hst (lv_room hq) hdg ⟨Nat.le_of_ble_eq_true rfl, Nat.le_of_ble_eq_true rfl⟩
  intro T9 hT9 X9
  obtain ⟨v, st₀, t, T', L', h0, X', hL, e1, e2, ⟨hv, hP1, hz, hk⟩, stp⟩ := hrun T9 hT9 X9
  rw [h0] at hz hk
  cases hv
  obtain ⟨t2, a1, b1⟩ := kk T'.heap (locs ++ L') (by rw [e1]; exact hP1) (hP2.kept (fun k q hq2 => by
      rw [e1]
      have hs := xm_w_spec hq2
      refine hk q.1 (hP2 k q hq2).lt (fun z => ?_)
      rcases z with ⟨j, hj, hz2⟩ | z
      · exact hdis j k hj hs.1 (by rw [← hz2, hs.2])
      · exact absurd (hP2 k q hq2).lt (Nat.not_lt.mpr z)))
    ⟨Nat.le_trans hS.1 (by rw [e1]; exact hz), fun q h1 h2 => by rw [e1, hk q (Nat.lt_of_lt_of_le h1 hS.1) (fun z => h2 (hsub q z))]; exact hS.2.1 q h1 h2, fun q hq => by
      rcases List.mem_append.mp hq with h | h
      · exact hS.2.2 q h
      · exact hsub _ (hL q h)⟩ T' rfl X'
  exact ⟨t2, stp t2 a1, b1⟩
end XL
/-- every method answers alike in both, and leaves the two alike -/
def xl_Sim (R : xm_M → xm_M → Prop) : Prop := (∀ (a0 : Int32) (a1 : Int32) (M N : xm_M), R M N → ∃ (r : Int32) (M1 N1 : xm_M), fX3_set a0 a1 M = some (r, M1) ∧ fX4_set a0 a1 N = some (r, N1) ∧ R M1 N1) ∧
  (∀ (a0 : Int32) (a1 : Int32) (a2 : Int32) (a3 : Int32) (a4 : Int32) (M N : xm_M), R M N → ∃ (r : Int32) (M1 N1 : xm_M), fX3_corridor a0 a1 a2 a3 a4 M = some (r, M1) ∧ fX4_corridor a0 a1 a2 a3 a4 N = some (r, N1) ∧ R M1 N1) ∧
  (∀ (a0 : Int32) (a1 : Int32) (M N : xm_M), R M N → ∃ (r : Int32) (M1 N1 : xm_M), fX3_marker a0 a1 M = some (r, M1) ∧ fX4_marker a0 a1 N = some (r, N1) ∧ R M1 N1) ∧
  (∀  (M N : xm_M), R M N → ∃ (r : Int32) (M1 N1 : xm_M), fX3_closeCorridor  M = some (r, M1) ∧ fX4_closeCorridor  N = some (r, N1) ∧ R M1 N1) ∧
  (∀ (a0 : Int32) (a1 : Int32) (a2 : Int32) (M N : xm_M), R M N → ∃ (r : Int32) (M1 N1 : xm_M), fX3_begin a0 a1 a2 M = some (r, M1) ∧ fX4_begin a0 a1 a2 N = some (r, N1) ∧ R M1 N1) ∧
  (∀ (a0 : Int32) (a1 : Int32) (a2 : Int32) (M N : xm_M), R M N → ∃ (r : Int32) (M1 N1 : xm_M), fX3_step a0 a1 a2 M = some (r, M1) ∧ fX4_step a0 a1 a2 N = some (r, N1) ∧ R M1 N1) ∧
  (∀ (a0 : Int32) (M N : xm_M), R M N → ∃ (r : Int32) (M1 N1 : xm_M), fX3_see a0 M = some (r, M1) ∧ fX4_see a0 N = some (r, N1) ∧ R M1 N1) ∧
  (∀ (a0 : Int32) (M N : xm_M), R M N → ∃ (r : Int32) (M1 N1 : xm_M), fX3_cut a0 M = some (r, M1) ∧ fX4_cut a0 N = some (r, N1) ∧ R M1 N1) ∧
  (∀ (a0 : Int32) (a1 : Int32) (M N : xm_M), R M N → ∃ (r : Int32) (M1 N1 : xm_M), fX3_pose a0 a1 M = some (r, M1) ∧ fX4_pose a0 a1 N = some (r, N1) ∧ R M1 N1) ∧
  (∀ (a0 : Int32) (a1 : Int32) (M N : xm_M), R M N → ∃ (r : Int32) (M1 N1 : xm_M), fX3_about a0 a1 M = some (r, M1) ∧ fX4_about a0 a1 N = some (r, N1) ∧ R M1 N1) ∧
  (∀ (a0 : Int32) (M N : xm_M), R M N → ∃ (r : Int32) (M1 N1 : xm_M), fX3_count a0 M = some (r, M1) ∧ fX4_count a0 N = some (r, N1) ∧ R M1 N1) ∧
  (∀ (a0 : Int32) (a1 : Int32) (M N : xm_M), R M N → ∃ (r : Int32) (M1 N1 : xm_M), fX3_wave a0 a1 M = some (r, M1) ∧ fX4_wave a0 a1 N = some (r, N1) ∧ R M1 N1) ∧
  (∀ (a0 : Int32) (a1 : Int32) (a2 : Int32) (M N : xm_M), R M N → ∃ (r : Int32) (M1 N1 : xm_M), fX3_ifSet a0 a1 a2 M = some (r, M1) ∧ fX4_ifSet a0 a1 a2 N = some (r, N1) ∧ R M1 N1) ∧
  (∀  (M N : xm_M), R M N → ∃ (r : Int32) (M1 N1 : xm_M), fX3_bestBase  M = some (r, M1) ∧ fX4_bestBase  N = some (r, N1) ∧ R M1 N1) ∧
  (∀  (M N : xm_M), R M N → ∃ (r : Int32) (M1 N1 : xm_M), fX3_bestTrust  M = some (r, M1) ∧ fX4_bestTrust  N = some (r, N1) ∧ R M1 N1) ∧
  (∀ (a0 : Int64) (M N : xm_M), R M N → ∃ (r : Int32) (M1 N1 : xm_M), fX3_put a0 M = some (r, M1) ∧ fX4_put a0 N = some (r, N1) ∧ R M1 N1) ∧
  (∀  (M N : xm_M), R M N → ∃ (r : Int32) (M1 N1 : xm_M), fX3_wipe  M = some (r, M1) ∧ fX4_wipe  N = some (r, N1) ∧ R M1 N1) ∧
  (∀  (M N : xm_M), R M N → ∃ (r : Int32) (M1 N1 : xm_M), fX3_fault  M = some (r, M1) ∧ fX4_fault  N = some (r, N1) ∧ R M1 N1) ∧
  (∀  (M N : xm_M), R M N → ∃ (r : Int32) (M1 N1 : xm_M), fX3_load  M = some (r, M1) ∧ fX4_load  N = some (r, N1) ∧ R M1 N1) ∧
  (∀ (a0 : Int32) (M N : xm_M), R M N → ∃ (r : Int32) (M1 N1 : xm_M), fX3_save a0 M = some (r, M1) ∧ fX4_save a0 N = some (r, N1) ∧ R M1 N1) ∧
  (∀ (a0 : Int32) (M N : xm_M), R M N → ∃ (r : Int32) (M1 N1 : xm_M), fX3_restore a0 M = some (r, M1) ∧ fX4_restore a0 N = some (r, N1) ∧ R M1 N1)
set_option maxHeartbeats 4000000 in
set_option maxRecDepth 100000 in
theorem law_case_0 {p : Program} {l : Launch} {e : Env} {s : State} {m : MethodId} {below : List Frame} {meth : Method} {c : Code} {b L : Nat} {xs : Nat → Int32} {D : va_G} {g g2 : xm_G} {R : xm_M → xm_M → Prop} (hsim : xl_Sim R) (C0 : xl_C p s m meth c b L xs D g g2) {x3 : Int32} (hi0 : vp_in (x3 + 0) L) (hi1 : vp_in (x3 + 1) L) (hi2 : vp_in (x3 + 2) L) (hi3 : vp_in (x3 + 3) L) (hi4 : vp_in (x3 + 4) L) (hi5 : vp_in (x3 + 5) L) {ls : Array Slot} (hl : lv_has ls 4 [(0, .ref b), (1, .ref (g.1 0)), (2, .ref (g2.1 0)), (3, .int x3)]) {M N : xm_M} (hR : R M N)
    (hend : ∀ (M N : xm_M), R M N → ∀ (H : Heap) (locs : List Loc), va_P D vwCl (xm_w cL g M) H → va_P D vwCl (xm_w mL g2 N) H → va_S (fun q : Nat => s.heap.size ≤ q) s.heap H locs → W p l e room_1 s m #[Value.ref b] below meth c H locs 600000 7302250 (lw_Z below #[Value.ref b] s) (F0 m 735 ls []))
    {H : Heap} {locs : List Loc} (hPc : va_P D vwCl (xm_w cL g M) H) (hPm : va_P D vwCl (xm_w mL g2 N) H) (hS : va_S (fun q : Nat => s.heap.size ≤ q) s.heap H locs) : W p l e room_1 s m #[Value.ref b] below meth c H locs 600000 7302250 (lw_Z below #[Value.ref b] s) (F0 m 132 ls []) := by
  obtain ⟨⟨hx, hb, hml, hown, hts⟩, hr, hlocks, hX, hbl, hL, hK, hg2, hN, hSt, hI1, hI2, hT1, hT2, hA1, hA2, hdis⟩ := C0
  have hbA : ¬ (fun q : Nat => s.heap.size ≤ q) b := Nat.not_le.mpr hbl
  refine lv_aload_n hx hb dL_law_132 rfl (lv_at hl 1 rfl) ?_
  refine lv_aload_n hx hb dL_law_133 rfl (lv_at hl 0 rfl) ?_
  refine lv_iload_n hx hb dL_law_134 rfl (lv_at hl 3 rfl) ?_
  refine lv_iconst (v := 1) hx hb dL_law_135 (by decide) ?_
  refine lv_iadd hx hb dL_law_136 ?_
  refine va_sld hx hb hX hbl hbA hS hi1 dL_law_137 ?_
  refine lv_aload_n hx hb dL_law_138 rfl (lv_at hl 0 rfl) ?_
  refine lv_iload_n hx hb dL_law_139 rfl (lv_at hl 3 rfl) ?_
  refine lv_iconst (v := 2) hx hb dL_law_140 (by decide) ?_
  refine lv_iadd hx hb dL_law_141 ?_
  refine va_sld hx hb hX hbl hbA hS hi2 dL_law_142 ?_
  obtain ⟨r, M1, N1, hf, hf2, hR1⟩ := hsim.1 (xs (x3 + 1).toNatClampNeg) (xs (x3 + 2).toNatClampNeg) M N hR
  refine xl_call (L1 := cL) (L2 := mL) (h1 := g) (h2 := g2) (M := M) (M1 := M1) (N := N) (r := r) (As := [.int (xs (x3 + 1).toNatClampNeg), .int (xs (x3 + 2).toNatClampNeg)]) ⟨hx, hb, hml, hown, hts⟩ hK hN hSt hI1 hT1 hA1 hdis (by have := kX3_set (l := l) (xs (x3 + 1).toNatClampNeg) (xs (x3 + 2).toNatClampNeg) M; rw [hf] at this; exact this) cL_0 rfl (xl_gV gm_141 gm_142 gm_143 gm_1 gm_144) rfl ⟨rfl, rfl⟩ ⟨rfl, hdX3_set⟩ ⟨(Nat.le_of_ble_eq_true rfl), (Nat.le_of_ble_eq_true rfl)⟩ rfl (Nat.le_of_ble_eq_true rfl) rfl dL_law_143 hl.1 hPc hPm hS (fun H locs hPc hPm hS => ?_)
  refine lv_aload_n hx hb dL_law_146 rfl (lv_at hl 2 rfl) ?_
  refine lv_aload_n hx hb dL_law_147 rfl (lv_at hl 0 rfl) ?_
  refine lv_iload_n hx hb dL_law_148 rfl (lv_at hl 3 rfl) ?_
  refine lv_iconst (v := 1) hx hb dL_law_149 (by decide) ?_
  refine lv_iadd hx hb dL_law_150 ?_
  refine va_sld hx hb hX hbl hbA hS hi1 dL_law_151 ?_
  refine lv_aload_n hx hb dL_law_152 rfl (lv_at hl 0 rfl) ?_
  refine lv_iload_n hx hb dL_law_153 rfl (lv_at hl 3 rfl) ?_
  refine lv_iconst (v := 2) hx hb dL_law_154 (by decide) ?_
  refine lv_iadd hx hb dL_law_155 ?_
  refine va_sld hx hb hX hbl hbA hS hi2 dL_law_156 ?_
  refine xl_call (L1 := mL) (L2 := cL) (h1 := g2) (h2 := g) (M := N) (M1 := N1) (N := M1) (r := r) (As := [.int (xs (x3 + 1).toNatClampNeg), .int (xs (x3 + 2).toNatClampNeg)]) ⟨hx, hb, hml, hown, hts⟩ (hg2 ▸ hK) hN hSt hI2 hT2 hA2 (fun i j hi hj h => hdis j i hj hi h.symm) (by have := kX4_set (l := l) (xs (x3 + 1).toNatClampNeg) (xs (x3 + 2).toNatClampNeg) N; rw [hf2] at this; exact this) mL_0 rfl (xl_gV gm_488 gm_489 gm_490 gm_5 gm_491) rfl ⟨rfl, rfl⟩ ⟨rfl, hdX4_set⟩ ⟨(Nat.le_of_ble_eq_true rfl), (Nat.le_of_ble_eq_true rfl)⟩ rfl (Nat.le_of_ble_eq_true rfl) rfl dL_law_157 hl.1 hPm hPc hS (fun H locs hPm hPc hS => ?_)
  refine lv_icmp_eq (tgt := 735) hx hb dL_law_160 (by decide) (fun _ => ?_) (fun h => absurd rfl h)
  exact hend M1 N1 hR1 H locs hPc hPm hS
set_option maxHeartbeats 4000000 in
set_option maxRecDepth 100000 in
theorem law_case_1 {p : Program} {l : Launch} {e : Env} {s : State} {m : MethodId} {below : List Frame} {meth : Method} {c : Code} {b L : Nat} {xs : Nat → Int32} {D : va_G} {g g2 : xm_G} {R : xm_M → xm_M → Prop} (hsim : xl_Sim R) (C0 : xl_C p s m meth c b L xs D g g2) {x3 : Int32} (hi0 : vp_in (x3 + 0) L) (hi1 : vp_in (x3 + 1) L) (hi2 : vp_in (x3 + 2) L) (hi3 : vp_in (x3 + 3) L) (hi4 : vp_in (x3 + 4) L) (hi5 : vp_in (x3 + 5) L) {ls : Array Slot} (hl : lv_has ls 4 [(0, .ref b), (1, .ref (g.1 0)), (2, .ref (g2.1 0)), (3, .int x3)]) {M N : xm_M} (hR : R M N)
    (hend : ∀ (M N : xm_M), R M N → ∀ (H : Heap) (locs : List Loc), va_P D vwCl (xm_w cL g M) H → va_P D vwCl (xm_w mL g2 N) H → va_S (fun q : Nat => s.heap.size ≤ q) s.heap H locs → W p l e room_1 s m #[Value.ref b] below meth c H locs 600000 7302250 (lw_Z below #[Value.ref b] s) (F0 m 735 ls []))
    {H : Heap} {locs : List Loc} (hPc : va_P D vwCl (xm_w cL g M) H) (hPm : va_P D vwCl (xm_w mL g2 N) H) (hS : va_S (fun q : Nat => s.heap.size ≤ q) s.heap H locs) : W p l e room_1 s m #[Value.ref b] below meth c H locs 600000 7302250 (lw_Z below #[Value.ref b] s) (F0 m 165 ls []) := by
  obtain ⟨⟨hx, hb, hml, hown, hts⟩, hr, hlocks, hX, hbl, hL, hK, hg2, hN, hSt, hI1, hI2, hT1, hT2, hA1, hA2, hdis⟩ := C0
  have hbA : ¬ (fun q : Nat => s.heap.size ≤ q) b := Nat.not_le.mpr hbl
  refine lv_aload_n hx hb dL_law_165 rfl (lv_at hl 1 rfl) ?_
  refine lv_aload_n hx hb dL_law_166 rfl (lv_at hl 0 rfl) ?_
  refine lv_iload_n hx hb dL_law_167 rfl (lv_at hl 3 rfl) ?_
  refine lv_iconst (v := 1) hx hb dL_law_168 (by decide) ?_
  refine lv_iadd hx hb dL_law_169 ?_
  refine va_sld hx hb hX hbl hbA hS hi1 dL_law_170 ?_
  refine lv_aload_n hx hb dL_law_171 rfl (lv_at hl 0 rfl) ?_
  refine lv_iload_n hx hb dL_law_172 rfl (lv_at hl 3 rfl) ?_
  refine lv_iconst (v := 2) hx hb dL_law_173 (by decide) ?_
  refine lv_iadd hx hb dL_law_174 ?_
  refine va_sld hx hb hX hbl hbA hS hi2 dL_law_175 ?_
  refine lv_aload_n hx hb dL_law_176 rfl (lv_at hl 0 rfl) ?_
  refine lv_iload_n hx hb dL_law_177 rfl (lv_at hl 3 rfl) ?_
  refine lv_iconst (v := 3) hx hb dL_law_178 (by decide) ?_
  refine lv_iadd hx hb dL_law_179 ?_
  refine va_sld hx hb hX hbl hbA hS hi3 dL_law_180 ?_
  refine lv_aload_n hx hb dL_law_181 rfl (lv_at hl 0 rfl) ?_
  refine lv_iload_n hx hb dL_law_182 rfl (lv_at hl 3 rfl) ?_
  refine lv_iconst (v := 4) hx hb dL_law_183 (by decide) ?_
  refine lv_iadd hx hb dL_law_184 ?_
  refine va_sld hx hb hX hbl hbA hS hi4 dL_law_185 ?_
  refine lv_aload_n hx hb dL_law_186 rfl (lv_at hl 0 rfl) ?_
  refine lv_iload_n hx hb dL_law_187 rfl (lv_at hl 3 rfl) ?_
  refine lv_iconst (v := 5) hx hb dL_law_188 (by decide) ?_
  refine lv_iadd hx hb dL_law_189 ?_
  refine va_sld hx hb hX hbl hbA hS hi5 dL_law_190 ?_
  obtain ⟨r, M1, N1, hf, hf2, hR1⟩ := hsim.2.1 (xs (x3 + 1).toNatClampNeg) (xs (x3 + 2).toNatClampNeg) (xs (x3 + 3).toNatClampNeg) (xs (x3 + 4).toNatClampNeg) (xs (x3 + 5).toNatClampNeg) M N hR
  refine xl_call (L1 := cL) (L2 := mL) (h1 := g) (h2 := g2) (M := M) (M1 := M1) (N := N) (r := r) (As := [.int (xs (x3 + 1).toNatClampNeg), .int (xs (x3 + 2).toNatClampNeg), .int (xs (x3 + 3).toNatClampNeg), .int (xs (x3 + 4).toNatClampNeg), .int (xs (x3 + 5).toNatClampNeg)]) ⟨hx, hb, hml, hown, hts⟩ hK hN hSt hI1 hT1 hA1 hdis (by have := kX3_corridor (l := l) (xs (x3 + 1).toNatClampNeg) (xs (x3 + 2).toNatClampNeg) (xs (x3 + 3).toNatClampNeg) (xs (x3 + 4).toNatClampNeg) (xs (x3 + 5).toNatClampNeg) M; rw [hf] at this; exact this) cL_0 rfl (xl_gV gm_159 gm_160 gm_161 gm_1 gm_162) rfl ⟨rfl, rfl⟩ ⟨rfl, hdX3_corridor⟩ ⟨(Nat.le_of_ble_eq_true rfl), (Nat.le_of_ble_eq_true rfl)⟩ rfl (Nat.le_of_ble_eq_true rfl) rfl dL_law_191 hl.1 hPc hPm hS (fun H locs hPc hPm hS => ?_)
  refine lv_aload_n hx hb dL_law_194 rfl (lv_at hl 2 rfl) ?_
  refine lv_aload_n hx hb dL_law_195 rfl (lv_at hl 0 rfl) ?_
  refine lv_iload_n hx hb dL_law_196 rfl (lv_at hl 3 rfl) ?_
  refine lv_iconst (v := 1) hx hb dL_law_197 (by decide) ?_
  refine lv_iadd hx hb dL_law_198 ?_
  refine va_sld hx hb hX hbl hbA hS hi1 dL_law_199 ?_
  refine lv_aload_n hx hb dL_law_200 rfl (lv_at hl 0 rfl) ?_
  refine lv_iload_n hx hb dL_law_201 rfl (lv_at hl 3 rfl) ?_
  refine lv_iconst (v := 2) hx hb dL_law_202 (by decide) ?_
  refine lv_iadd hx hb dL_law_203 ?_
  refine va_sld hx hb hX hbl hbA hS hi2 dL_law_204 ?_
  refine lv_aload_n hx hb dL_law_205 rfl (lv_at hl 0 rfl) ?_
  refine lv_iload_n hx hb dL_law_206 rfl (lv_at hl 3 rfl) ?_
  refine lv_iconst (v := 3) hx hb dL_law_207 (by decide) ?_
  refine lv_iadd hx hb dL_law_208 ?_
  refine va_sld hx hb hX hbl hbA hS hi3 dL_law_209 ?_
  refine lv_aload_n hx hb dL_law_210 rfl (lv_at hl 0 rfl) ?_
  refine lv_iload_n hx hb dL_law_211 rfl (lv_at hl 3 rfl) ?_
  refine lv_iconst (v := 4) hx hb dL_law_212 (by decide) ?_
  refine lv_iadd hx hb dL_law_213 ?_
  refine va_sld hx hb hX hbl hbA hS hi4 dL_law_214 ?_
  refine lv_aload_n hx hb dL_law_215 rfl (lv_at hl 0 rfl) ?_
  refine lv_iload_n hx hb dL_law_216 rfl (lv_at hl 3 rfl) ?_
  refine lv_iconst (v := 5) hx hb dL_law_217 (by decide) ?_
  refine lv_iadd hx hb dL_law_218 ?_
  refine va_sld hx hb hX hbl hbA hS hi5 dL_law_219 ?_
  refine xl_call (L1 := mL) (L2 := cL) (h1 := g2) (h2 := g) (M := N) (M1 := N1) (N := M1) (r := r) (As := [.int (xs (x3 + 1).toNatClampNeg), .int (xs (x3 + 2).toNatClampNeg), .int (xs (x3 + 3).toNatClampNeg), .int (xs (x3 + 4).toNatClampNeg), .int (xs (x3 + 5).toNatClampNeg)]) ⟨hx, hb, hml, hown, hts⟩ (hg2 ▸ hK) hN hSt hI2 hT2 hA2 (fun i j hi hj h => hdis j i hj hi h.symm) (by have := kX4_corridor (l := l) (xs (x3 + 1).toNatClampNeg) (xs (x3 + 2).toNatClampNeg) (xs (x3 + 3).toNatClampNeg) (xs (x3 + 4).toNatClampNeg) (xs (x3 + 5).toNatClampNeg) N; rw [hf2] at this; exact this) mL_0 rfl (xl_gV gm_503 gm_504 gm_505 gm_5 gm_506) rfl ⟨rfl, rfl⟩ ⟨rfl, hdX4_corridor⟩ ⟨(Nat.le_of_ble_eq_true rfl), (Nat.le_of_ble_eq_true rfl)⟩ rfl (Nat.le_of_ble_eq_true rfl) rfl dL_law_220 hl.1 hPm hPc hS (fun H locs hPm hPc hS => ?_)
  refine lv_icmp_eq (tgt := 735) hx hb dL_law_223 (by decide) (fun _ => ?_) (fun h => absurd rfl h)
  exact hend M1 N1 hR1 H locs hPc hPm hS
set_option maxHeartbeats 4000000 in
set_option maxRecDepth 100000 in
theorem law_case_2 {p : Program} {l : Launch} {e : Env} {s : State} {m : MethodId} {below : List Frame} {meth : Method} {c : Code} {b L : Nat} {xs : Nat → Int32} {D : va_G} {g g2 : xm_G} {R : xm_M → xm_M → Prop} (hsim : xl_Sim R) (C0 : xl_C p s m meth c b L xs D g g2) {x3 : Int32} (hi0 : vp_in (x3 + 0) L) (hi1 : vp_in (x3 + 1) L) (hi2 : vp_in (x3 + 2) L) (hi3 : vp_in (x3 + 3) L) (hi4 : vp_in (x3 + 4) L) (hi5 : vp_in (x3 + 5) L) {ls : Array Slot} (hl : lv_has ls 4 [(0, .ref b), (1, .ref (g.1 0)), (2, .ref (g2.1 0)), (3, .int x3)]) {M N : xm_M} (hR : R M N)
    (hend : ∀ (M N : xm_M), R M N → ∀ (H : Heap) (locs : List Loc), va_P D vwCl (xm_w cL g M) H → va_P D vwCl (xm_w mL g2 N) H → va_S (fun q : Nat => s.heap.size ≤ q) s.heap H locs → W p l e room_1 s m #[Value.ref b] below meth c H locs 600000 7302250 (lw_Z below #[Value.ref b] s) (F0 m 735 ls []))
    {H : Heap} {locs : List Loc} (hPc : va_P D vwCl (xm_w cL g M) H) (hPm : va_P D vwCl (xm_w mL g2 N) H) (hS : va_S (fun q : Nat => s.heap.size ≤ q) s.heap H locs) : W p l e room_1 s m #[Value.ref b] below meth c H locs 600000 7302250 (lw_Z below #[Value.ref b] s) (F0 m 228 ls []) := by
  obtain ⟨⟨hx, hb, hml, hown, hts⟩, hr, hlocks, hX, hbl, hL, hK, hg2, hN, hSt, hI1, hI2, hT1, hT2, hA1, hA2, hdis⟩ := C0
  have hbA : ¬ (fun q : Nat => s.heap.size ≤ q) b := Nat.not_le.mpr hbl
  refine lv_aload_n hx hb dL_law_228 rfl (lv_at hl 1 rfl) ?_
  refine lv_aload_n hx hb dL_law_229 rfl (lv_at hl 0 rfl) ?_
  refine lv_iload_n hx hb dL_law_230 rfl (lv_at hl 3 rfl) ?_
  refine lv_iconst (v := 1) hx hb dL_law_231 (by decide) ?_
  refine lv_iadd hx hb dL_law_232 ?_
  refine va_sld hx hb hX hbl hbA hS hi1 dL_law_233 ?_
  refine lv_aload_n hx hb dL_law_234 rfl (lv_at hl 0 rfl) ?_
  refine lv_iload_n hx hb dL_law_235 rfl (lv_at hl 3 rfl) ?_
  refine lv_iconst (v := 2) hx hb dL_law_236 (by decide) ?_
  refine lv_iadd hx hb dL_law_237 ?_
  refine va_sld hx hb hX hbl hbA hS hi2 dL_law_238 ?_
  obtain ⟨r, M1, N1, hf, hf2, hR1⟩ := hsim.2.2.1 (xs (x3 + 1).toNatClampNeg) (xs (x3 + 2).toNatClampNeg) M N hR
  refine xl_call (L1 := cL) (L2 := mL) (h1 := g) (h2 := g2) (M := M) (M1 := M1) (N := N) (r := r) (As := [.int (xs (x3 + 1).toNatClampNeg), .int (xs (x3 + 2).toNatClampNeg)]) ⟨hx, hb, hml, hown, hts⟩ hK hN hSt hI1 hT1 hA1 hdis (by have := kX3_marker (l := l) (xs (x3 + 1).toNatClampNeg) (xs (x3 + 2).toNatClampNeg) M; rw [hf] at this; exact this) cL_0 rfl (xl_gV gm_177 gm_178 gm_179 gm_1 gm_180) rfl ⟨rfl, rfl⟩ ⟨rfl, hdX3_marker⟩ ⟨(Nat.le_of_ble_eq_true rfl), (Nat.le_of_ble_eq_true rfl)⟩ rfl (Nat.le_of_ble_eq_true rfl) rfl dL_law_239 hl.1 hPc hPm hS (fun H locs hPc hPm hS => ?_)
  refine lv_aload_n hx hb dL_law_242 rfl (lv_at hl 2 rfl) ?_
  refine lv_aload_n hx hb dL_law_243 rfl (lv_at hl 0 rfl) ?_
  refine lv_iload_n hx hb dL_law_244 rfl (lv_at hl 3 rfl) ?_
  refine lv_iconst (v := 1) hx hb dL_law_245 (by decide) ?_
  refine lv_iadd hx hb dL_law_246 ?_
  refine va_sld hx hb hX hbl hbA hS hi1 dL_law_247 ?_
  refine lv_aload_n hx hb dL_law_248 rfl (lv_at hl 0 rfl) ?_
  refine lv_iload_n hx hb dL_law_249 rfl (lv_at hl 3 rfl) ?_
  refine lv_iconst (v := 2) hx hb dL_law_250 (by decide) ?_
  refine lv_iadd hx hb dL_law_251 ?_
  refine va_sld hx hb hX hbl hbA hS hi2 dL_law_252 ?_
  refine xl_call (L1 := mL) (L2 := cL) (h1 := g2) (h2 := g) (M := N) (M1 := N1) (N := M1) (r := r) (As := [.int (xs (x3 + 1).toNatClampNeg), .int (xs (x3 + 2).toNatClampNeg)]) ⟨hx, hb, hml, hown, hts⟩ (hg2 ▸ hK) hN hSt hI2 hT2 hA2 (fun i j hi hj h => hdis j i hj hi h.symm) (by have := kX4_marker (l := l) (xs (x3 + 1).toNatClampNeg) (xs (x3 + 2).toNatClampNeg) N; rw [hf2] at this; exact this) mL_0 rfl (xl_gV gm_511 gm_512 gm_513 gm_5 gm_514) rfl ⟨rfl, rfl⟩ ⟨rfl, hdX4_marker⟩ ⟨(Nat.le_of_ble_eq_true rfl), (Nat.le_of_ble_eq_true rfl)⟩ rfl (Nat.le_of_ble_eq_true rfl) rfl dL_law_253 hl.1 hPm hPc hS (fun H locs hPm hPc hS => ?_)
  refine lv_icmp_eq (tgt := 735) hx hb dL_law_256 (by decide) (fun _ => ?_) (fun h => absurd rfl h)
  exact hend M1 N1 hR1 H locs hPc hPm hS
set_option maxHeartbeats 4000000 in
set_option maxRecDepth 100000 in
theorem law_case_3 {p : Program} {l : Launch} {e : Env} {s : State} {m : MethodId} {below : List Frame} {meth : Method} {c : Code} {b L : Nat} {xs : Nat → Int32} {D : va_G} {g g2 : xm_G} {R : xm_M → xm_M → Prop} (hsim : xl_Sim R) (C0 : xl_C p s m meth c b L xs D g g2) {x3 : Int32} (hi0 : vp_in (x3 + 0) L) (hi1 : vp_in (x3 + 1) L) (hi2 : vp_in (x3 + 2) L) (hi3 : vp_in (x3 + 3) L) (hi4 : vp_in (x3 + 4) L) (hi5 : vp_in (x3 + 5) L) {ls : Array Slot} (hl : lv_has ls 4 [(0, .ref b), (1, .ref (g.1 0)), (2, .ref (g2.1 0)), (3, .int x3)]) {M N : xm_M} (hR : R M N)
    (hend : ∀ (M N : xm_M), R M N → ∀ (H : Heap) (locs : List Loc), va_P D vwCl (xm_w cL g M) H → va_P D vwCl (xm_w mL g2 N) H → va_S (fun q : Nat => s.heap.size ≤ q) s.heap H locs → W p l e room_1 s m #[Value.ref b] below meth c H locs 600000 7302250 (lw_Z below #[Value.ref b] s) (F0 m 735 ls []))
    {H : Heap} {locs : List Loc} (hPc : va_P D vwCl (xm_w cL g M) H) (hPm : va_P D vwCl (xm_w mL g2 N) H) (hS : va_S (fun q : Nat => s.heap.size ≤ q) s.heap H locs) : W p l e room_1 s m #[Value.ref b] below meth c H locs 600000 7302250 (lw_Z below #[Value.ref b] s) (F0 m 261 ls []) := by
  obtain ⟨⟨hx, hb, hml, hown, hts⟩, hr, hlocks, hX, hbl, hL, hK, hg2, hN, hSt, hI1, hI2, hT1, hT2, hA1, hA2, hdis⟩ := C0
  have hbA : ¬ (fun q : Nat => s.heap.size ≤ q) b := Nat.not_le.mpr hbl
  refine lv_aload_n hx hb dL_law_261 rfl (lv_at hl 1 rfl) ?_
  obtain ⟨r, M1, N1, hf, hf2, hR1⟩ := hsim.2.2.2.1  M N hR
  refine xl_call (L1 := cL) (L2 := mL) (h1 := g) (h2 := g2) (M := M) (M1 := M1) (N := N) (r := r) (As := []) ⟨hx, hb, hml, hown, hts⟩ hK hN hSt hI1 hT1 hA1 hdis (by have := kX3_closeCorridor (l := l)  M; rw [hf] at this; exact this) cL_0 rfl (xl_gV gm_181 gm_182 gm_183 gm_1 gm_184) rfl ⟨rfl, rfl⟩ ⟨rfl, hdX3_closeCorridor⟩ ⟨(Nat.le_of_ble_eq_true rfl), (Nat.le_of_ble_eq_true rfl)⟩ rfl (Nat.le_of_ble_eq_true rfl) rfl dL_law_262 hl.1 hPc hPm hS (fun H locs hPc hPm hS => ?_)
  refine lv_aload_n hx hb dL_law_265 rfl (lv_at hl 2 rfl) ?_
  refine xl_call (L1 := mL) (L2 := cL) (h1 := g2) (h2 := g) (M := N) (M1 := N1) (N := M1) (r := r) (As := []) ⟨hx, hb, hml, hown, hts⟩ (hg2 ▸ hK) hN hSt hI2 hT2 hA2 (fun i j hi hj h => hdis j i hj hi h.symm) (by have := kX4_closeCorridor (l := l)  N; rw [hf2] at this; exact this) mL_0 rfl (xl_gV gm_515 gm_516 gm_517 gm_5 gm_518) rfl ⟨rfl, rfl⟩ ⟨rfl, hdX4_closeCorridor⟩ ⟨(Nat.le_of_ble_eq_true rfl), (Nat.le_of_ble_eq_true rfl)⟩ rfl (Nat.le_of_ble_eq_true rfl) rfl dL_law_266 hl.1 hPm hPc hS (fun H locs hPm hPc hS => ?_)
  refine lv_icmp_eq (tgt := 735) hx hb dL_law_269 (by decide) (fun _ => ?_) (fun h => absurd rfl h)
  exact hend M1 N1 hR1 H locs hPc hPm hS
set_option maxHeartbeats 4000000 in
set_option maxRecDepth 100000 in
theorem law_case_4 {p : Program} {l : Launch} {e : Env} {s : State} {m : MethodId} {below : List Frame} {meth : Method} {c : Code} {b L : Nat} {xs : Nat → Int32} {D : va_G} {g g2 : xm_G} {R : xm_M → xm_M → Prop} (hsim : xl_Sim R) (C0 : xl_C p s m meth c b L xs D g g2) {x3 : Int32} (hi0 : vp_in (x3 + 0) L) (hi1 : vp_in (x3 + 1) L) (hi2 : vp_in (x3 + 2) L) (hi3 : vp_in (x3 + 3) L) (hi4 : vp_in (x3 + 4) L) (hi5 : vp_in (x3 + 5) L) {ls : Array Slot} (hl : lv_has ls 4 [(0, .ref b), (1, .ref (g.1 0)), (2, .ref (g2.1 0)), (3, .int x3)]) {M N : xm_M} (hR : R M N)
    (hend : ∀ (M N : xm_M), R M N → ∀ (H : Heap) (locs : List Loc), va_P D vwCl (xm_w cL g M) H → va_P D vwCl (xm_w mL g2 N) H → va_S (fun q : Nat => s.heap.size ≤ q) s.heap H locs → W p l e room_1 s m #[Value.ref b] below meth c H locs 600000 7302250 (lw_Z below #[Value.ref b] s) (F0 m 735 ls []))
    {H : Heap} {locs : List Loc} (hPc : va_P D vwCl (xm_w cL g M) H) (hPm : va_P D vwCl (xm_w mL g2 N) H) (hS : va_S (fun q : Nat => s.heap.size ≤ q) s.heap H locs) : W p l e room_1 s m #[Value.ref b] below meth c H locs 600000 7302250 (lw_Z below #[Value.ref b] s) (F0 m 274 ls []) := by
  obtain ⟨⟨hx, hb, hml, hown, hts⟩, hr, hlocks, hX, hbl, hL, hK, hg2, hN, hSt, hI1, hI2, hT1, hT2, hA1, hA2, hdis⟩ := C0
  have hbA : ¬ (fun q : Nat => s.heap.size ≤ q) b := Nat.not_le.mpr hbl
  refine lv_aload_n hx hb dL_law_274 rfl (lv_at hl 1 rfl) ?_
  refine lv_aload_n hx hb dL_law_275 rfl (lv_at hl 0 rfl) ?_
  refine lv_iload_n hx hb dL_law_276 rfl (lv_at hl 3 rfl) ?_
  refine lv_iconst (v := 1) hx hb dL_law_277 (by decide) ?_
  refine lv_iadd hx hb dL_law_278 ?_
  refine va_sld hx hb hX hbl hbA hS hi1 dL_law_279 ?_
  refine lv_aload_n hx hb dL_law_280 rfl (lv_at hl 0 rfl) ?_
  refine lv_iload_n hx hb dL_law_281 rfl (lv_at hl 3 rfl) ?_
  refine lv_iconst (v := 2) hx hb dL_law_282 (by decide) ?_
  refine lv_iadd hx hb dL_law_283 ?_
  refine va_sld hx hb hX hbl hbA hS hi2 dL_law_284 ?_
  refine lv_aload_n hx hb dL_law_285 rfl (lv_at hl 0 rfl) ?_
  refine lv_iload_n hx hb dL_law_286 rfl (lv_at hl 3 rfl) ?_
  refine lv_iconst (v := 3) hx hb dL_law_287 (by decide) ?_
  refine lv_iadd hx hb dL_law_288 ?_
  refine va_sld hx hb hX hbl hbA hS hi3 dL_law_289 ?_
  obtain ⟨r, M1, N1, hf, hf2, hR1⟩ := hsim.2.2.2.2.1 (xs (x3 + 1).toNatClampNeg) (xs (x3 + 2).toNatClampNeg) (xs (x3 + 3).toNatClampNeg) M N hR
  refine xl_call (L1 := cL) (L2 := mL) (h1 := g) (h2 := g2) (M := M) (M1 := M1) (N := N) (r := r) (As := [.int (xs (x3 + 1).toNatClampNeg), .int (xs (x3 + 2).toNatClampNeg), .int (xs (x3 + 3).toNatClampNeg)]) ⟨hx, hb, hml, hown, hts⟩ hK hN hSt hI1 hT1 hA1 hdis (by have := kX3_begin (l := l) (xs (x3 + 1).toNatClampNeg) (xs (x3 + 2).toNatClampNeg) (xs (x3 + 3).toNatClampNeg) M; rw [hf] at this; exact this) cL_0 rfl (xl_gV gm_185 gm_186 gm_187 gm_1 gm_188) rfl ⟨rfl, rfl⟩ ⟨rfl, hdX3_begin⟩ ⟨(Nat.le_of_ble_eq_true rfl), (Nat.le_of_ble_eq_true rfl)⟩ rfl (Nat.le_of_ble_eq_true rfl) rfl dL_law_290 hl.1 hPc hPm hS (fun H locs hPc hPm hS => ?_)
  refine lv_aload_n hx hb dL_law_293 rfl (lv_at hl 2 rfl) ?_
  refine lv_aload_n hx hb dL_law_294 rfl (lv_at hl 0 rfl) ?_
  refine lv_iload_n hx hb dL_law_295 rfl (lv_at hl 3 rfl) ?_
  refine lv_iconst (v := 1) hx hb dL_law_296 (by decide) ?_
  refine lv_iadd hx hb dL_law_297 ?_
  refine va_sld hx hb hX hbl hbA hS hi1 dL_law_298 ?_
  refine lv_aload_n hx hb dL_law_299 rfl (lv_at hl 0 rfl) ?_
  refine lv_iload_n hx hb dL_law_300 rfl (lv_at hl 3 rfl) ?_
  refine lv_iconst (v := 2) hx hb dL_law_301 (by decide) ?_
  refine lv_iadd hx hb dL_law_302 ?_
  refine va_sld hx hb hX hbl hbA hS hi2 dL_law_303 ?_
  refine lv_aload_n hx hb dL_law_304 rfl (lv_at hl 0 rfl) ?_
  refine lv_iload_n hx hb dL_law_305 rfl (lv_at hl 3 rfl) ?_
  refine lv_iconst (v := 3) hx hb dL_law_306 (by decide) ?_
  refine lv_iadd hx hb dL_law_307 ?_
  refine va_sld hx hb hX hbl hbA hS hi3 dL_law_308 ?_
  refine xl_call (L1 := mL) (L2 := cL) (h1 := g2) (h2 := g) (M := N) (M1 := N1) (N := M1) (r := r) (As := [.int (xs (x3 + 1).toNatClampNeg), .int (xs (x3 + 2).toNatClampNeg), .int (xs (x3 + 3).toNatClampNeg)]) ⟨hx, hb, hml, hown, hts⟩ (hg2 ▸ hK) hN hSt hI2 hT2 hA2 (fun i j hi hj h => hdis j i hj hi h.symm) (by have := kX4_begin (l := l) (xs (x3 + 1).toNatClampNeg) (xs (x3 + 2).toNatClampNeg) (xs (x3 + 3).toNatClampNeg) N; rw [hf2] at this; exact this) mL_0 rfl (xl_gV gm_519 gm_520 gm_521 gm_5 gm_522) rfl ⟨rfl, rfl⟩ ⟨rfl, hdX4_begin⟩ ⟨(Nat.le_of_ble_eq_true rfl), (Nat.le_of_ble_eq_true rfl)⟩ rfl (Nat.le_of_ble_eq_true rfl) rfl dL_law_309 hl.1 hPm hPc hS (fun H locs hPm hPc hS => ?_)
  refine lv_icmp_eq (tgt := 735) hx hb dL_law_312 (by decide) (fun _ => ?_) (fun h => absurd rfl h)
  exact hend M1 N1 hR1 H locs hPc hPm hS
set_option maxHeartbeats 4000000 in
set_option maxRecDepth 100000 in
theorem law_case_5 {p : Program} {l : Launch} {e : Env} {s : State} {m : MethodId} {below : List Frame} {meth : Method} {c : Code} {b L : Nat} {xs : Nat → Int32} {D : va_G} {g g2 : xm_G} {R : xm_M → xm_M → Prop} (hsim : xl_Sim R) (C0 : xl_C p s m meth c b L xs D g g2) {x3 : Int32} (hi0 : vp_in (x3 + 0) L) (hi1 : vp_in (x3 + 1) L) (hi2 : vp_in (x3 + 2) L) (hi3 : vp_in (x3 + 3) L) (hi4 : vp_in (x3 + 4) L) (hi5 : vp_in (x3 + 5) L) {ls : Array Slot} (hl : lv_has ls 4 [(0, .ref b), (1, .ref (g.1 0)), (2, .ref (g2.1 0)), (3, .int x3)]) {M N : xm_M} (hR : R M N)
    (hend : ∀ (M N : xm_M), R M N → ∀ (H : Heap) (locs : List Loc), va_P D vwCl (xm_w cL g M) H → va_P D vwCl (xm_w mL g2 N) H → va_S (fun q : Nat => s.heap.size ≤ q) s.heap H locs → W p l e room_1 s m #[Value.ref b] below meth c H locs 600000 7302250 (lw_Z below #[Value.ref b] s) (F0 m 735 ls []))
    {H : Heap} {locs : List Loc} (hPc : va_P D vwCl (xm_w cL g M) H) (hPm : va_P D vwCl (xm_w mL g2 N) H) (hS : va_S (fun q : Nat => s.heap.size ≤ q) s.heap H locs) : W p l e room_1 s m #[Value.ref b] below meth c H locs 600000 7302250 (lw_Z below #[Value.ref b] s) (F0 m 317 ls []) := by
  obtain ⟨⟨hx, hb, hml, hown, hts⟩, hr, hlocks, hX, hbl, hL, hK, hg2, hN, hSt, hI1, hI2, hT1, hT2, hA1, hA2, hdis⟩ := C0
  have hbA : ¬ (fun q : Nat => s.heap.size ≤ q) b := Nat.not_le.mpr hbl
  refine lv_aload_n hx hb dL_law_317 rfl (lv_at hl 1 rfl) ?_
  refine lv_aload_n hx hb dL_law_318 rfl (lv_at hl 0 rfl) ?_
  refine lv_iload_n hx hb dL_law_319 rfl (lv_at hl 3 rfl) ?_
  refine lv_iconst (v := 1) hx hb dL_law_320 (by decide) ?_
  refine lv_iadd hx hb dL_law_321 ?_
  refine va_sld hx hb hX hbl hbA hS hi1 dL_law_322 ?_
  refine lv_aload_n hx hb dL_law_323 rfl (lv_at hl 0 rfl) ?_
  refine lv_iload_n hx hb dL_law_324 rfl (lv_at hl 3 rfl) ?_
  refine lv_iconst (v := 2) hx hb dL_law_325 (by decide) ?_
  refine lv_iadd hx hb dL_law_326 ?_
  refine va_sld hx hb hX hbl hbA hS hi2 dL_law_327 ?_
  refine lv_aload_n hx hb dL_law_328 rfl (lv_at hl 0 rfl) ?_
  refine lv_iload_n hx hb dL_law_329 rfl (lv_at hl 3 rfl) ?_
  refine lv_iconst (v := 3) hx hb dL_law_330 (by decide) ?_
  refine lv_iadd hx hb dL_law_331 ?_
  refine va_sld hx hb hX hbl hbA hS hi3 dL_law_332 ?_
  obtain ⟨r, M1, N1, hf, hf2, hR1⟩ := hsim.2.2.2.2.2.1 (xs (x3 + 1).toNatClampNeg) (xs (x3 + 2).toNatClampNeg) (xs (x3 + 3).toNatClampNeg) M N hR
  refine xl_call (L1 := cL) (L2 := mL) (h1 := g) (h2 := g2) (M := M) (M1 := M1) (N := N) (r := r) (As := [.int (xs (x3 + 1).toNatClampNeg), .int (xs (x3 + 2).toNatClampNeg), .int (xs (x3 + 3).toNatClampNeg)]) ⟨hx, hb, hml, hown, hts⟩ hK hN hSt hI1 hT1 hA1 hdis (by have := kX3_step (l := l) (xs (x3 + 1).toNatClampNeg) (xs (x3 + 2).toNatClampNeg) (xs (x3 + 3).toNatClampNeg) M; rw [hf] at this; exact this) cL_0 rfl (xl_gV gm_190 gm_191 gm_192 gm_1 gm_193) rfl ⟨rfl, rfl⟩ ⟨rfl, hdX3_step⟩ ⟨(Nat.le_of_ble_eq_true rfl), (Nat.le_of_ble_eq_true rfl)⟩ rfl (Nat.le_of_ble_eq_true rfl) rfl dL_law_333 hl.1 hPc hPm hS (fun H locs hPc hPm hS => ?_)
  refine lv_aload_n hx hb dL_law_336 rfl (lv_at hl 2 rfl) ?_
  refine lv_aload_n hx hb dL_law_337 rfl (lv_at hl 0 rfl) ?_
  refine lv_iload_n hx hb dL_law_338 rfl (lv_at hl 3 rfl) ?_
  refine lv_iconst (v := 1) hx hb dL_law_339 (by decide) ?_
  refine lv_iadd hx hb dL_law_340 ?_
  refine va_sld hx hb hX hbl hbA hS hi1 dL_law_341 ?_
  refine lv_aload_n hx hb dL_law_342 rfl (lv_at hl 0 rfl) ?_
  refine lv_iload_n hx hb dL_law_343 rfl (lv_at hl 3 rfl) ?_
  refine lv_iconst (v := 2) hx hb dL_law_344 (by decide) ?_
  refine lv_iadd hx hb dL_law_345 ?_
  refine va_sld hx hb hX hbl hbA hS hi2 dL_law_346 ?_
  refine lv_aload_n hx hb dL_law_347 rfl (lv_at hl 0 rfl) ?_
  refine lv_iload_n hx hb dL_law_348 rfl (lv_at hl 3 rfl) ?_
  refine lv_iconst (v := 3) hx hb dL_law_349 (by decide) ?_
  refine lv_iadd hx hb dL_law_350 ?_
  refine va_sld hx hb hX hbl hbA hS hi3 dL_law_351 ?_
  refine xl_call (L1 := mL) (L2 := cL) (h1 := g2) (h2 := g) (M := N) (M1 := N1) (N := M1) (r := r) (As := [.int (xs (x3 + 1).toNatClampNeg), .int (xs (x3 + 2).toNatClampNeg), .int (xs (x3 + 3).toNatClampNeg)]) ⟨hx, hb, hml, hown, hts⟩ (hg2 ▸ hK) hN hSt hI2 hT2 hA2 (fun i j hi hj h => hdis j i hj hi h.symm) (by have := kX4_step (l := l) (xs (x3 + 1).toNatClampNeg) (xs (x3 + 2).toNatClampNeg) (xs (x3 + 3).toNatClampNeg) N; rw [hf2] at this; exact this) mL_0 rfl (xl_gV gm_524 gm_525 gm_526 gm_5 gm_527) rfl ⟨rfl, rfl⟩ ⟨rfl, hdX4_step⟩ ⟨(Nat.le_of_ble_eq_true rfl), (Nat.le_of_ble_eq_true rfl)⟩ rfl (Nat.le_of_ble_eq_true rfl) rfl dL_law_352 hl.1 hPm hPc hS (fun H locs hPm hPc hS => ?_)
  refine lv_icmp_eq (tgt := 735) hx hb dL_law_355 (by decide) (fun _ => ?_) (fun h => absurd rfl h)
  exact hend M1 N1 hR1 H locs hPc hPm hS
set_option maxHeartbeats 4000000 in
set_option maxRecDepth 100000 in
theorem law_case_6 {p : Program} {l : Launch} {e : Env} {s : State} {m : MethodId} {below : List Frame} {meth : Method} {c : Code} {b L : Nat} {xs : Nat → Int32} {D : va_G} {g g2 : xm_G} {R : xm_M → xm_M → Prop} (hsim : xl_Sim R) (C0 : xl_C p s m meth c b L xs D g g2) {x3 : Int32} (hi0 : vp_in (x3 + 0) L) (hi1 : vp_in (x3 + 1) L) (hi2 : vp_in (x3 + 2) L) (hi3 : vp_in (x3 + 3) L) (hi4 : vp_in (x3 + 4) L) (hi5 : vp_in (x3 + 5) L) {ls : Array Slot} (hl : lv_has ls 4 [(0, .ref b), (1, .ref (g.1 0)), (2, .ref (g2.1 0)), (3, .int x3)]) {M N : xm_M} (hR : R M N)
    (hend : ∀ (M N : xm_M), R M N → ∀ (H : Heap) (locs : List Loc), va_P D vwCl (xm_w cL g M) H → va_P D vwCl (xm_w mL g2 N) H → va_S (fun q : Nat => s.heap.size ≤ q) s.heap H locs → W p l e room_1 s m #[Value.ref b] below meth c H locs 600000 7302250 (lw_Z below #[Value.ref b] s) (F0 m 735 ls []))
    {H : Heap} {locs : List Loc} (hPc : va_P D vwCl (xm_w cL g M) H) (hPm : va_P D vwCl (xm_w mL g2 N) H) (hS : va_S (fun q : Nat => s.heap.size ≤ q) s.heap H locs) : W p l e room_1 s m #[Value.ref b] below meth c H locs 600000 7302250 (lw_Z below #[Value.ref b] s) (F0 m 360 ls []) := by
  obtain ⟨⟨hx, hb, hml, hown, hts⟩, hr, hlocks, hX, hbl, hL, hK, hg2, hN, hSt, hI1, hI2, hT1, hT2, hA1, hA2, hdis⟩ := C0
  have hbA : ¬ (fun q : Nat => s.heap.size ≤ q) b := Nat.not_le.mpr hbl
  refine lv_aload_n hx hb dL_law_360 rfl (lv_at hl 1 rfl) ?_
  refine lv_aload_n hx hb dL_law_361 rfl (lv_at hl 0 rfl) ?_
  refine lv_iload_n hx hb dL_law_362 rfl (lv_at hl 3 rfl) ?_
  refine lv_iconst (v := 1) hx hb dL_law_363 (by decide) ?_
  refine lv_iadd hx hb dL_law_364 ?_
  refine va_sld hx hb hX hbl hbA hS hi1 dL_law_365 ?_
  obtain ⟨r, M1, N1, hf, hf2, hR1⟩ := hsim.2.2.2.2.2.2.1 (xs (x3 + 1).toNatClampNeg) M N hR
  refine xl_call (L1 := cL) (L2 := mL) (h1 := g) (h2 := g2) (M := M) (M1 := M1) (N := N) (r := r) (As := [.int (xs (x3 + 1).toNatClampNeg)]) ⟨hx, hb, hml, hown, hts⟩ hK hN hSt hI1 hT1 hA1 hdis (by have := kX3_see (l := l) (xs (x3 + 1).toNatClampNeg) M; rw [hf] at this; exact this) cL_0 rfl (xl_gV gm_200 gm_201 gm_202 gm_1 gm_203) rfl ⟨rfl, rfl⟩ ⟨rfl, hdX3_see⟩ ⟨(Nat.le_of_ble_eq_true rfl), (Nat.le_of_ble_eq_true rfl)⟩ rfl (Nat.le_of_ble_eq_true rfl) rfl dL_law_366 hl.1 hPc hPm hS (fun H locs hPc hPm hS => ?_)
  refine lv_aload_n hx hb dL_law_369 rfl (lv_at hl 2 rfl) ?_
  refine lv_aload_n hx hb dL_law_370 rfl (lv_at hl 0 rfl) ?_
  refine lv_iload_n hx hb dL_law_371 rfl (lv_at hl 3 rfl) ?_
  refine lv_iconst (v := 1) hx hb dL_law_372 (by decide) ?_
  refine lv_iadd hx hb dL_law_373 ?_
  refine va_sld hx hb hX hbl hbA hS hi1 dL_law_374 ?_
  refine xl_call (L1 := mL) (L2 := cL) (h1 := g2) (h2 := g) (M := N) (M1 := N1) (N := M1) (r := r) (As := [.int (xs (x3 + 1).toNatClampNeg)]) ⟨hx, hb, hml, hown, hts⟩ (hg2 ▸ hK) hN hSt hI2 hT2 hA2 (fun i j hi hj h => hdis j i hj hi h.symm) (by have := kX4_see (l := l) (xs (x3 + 1).toNatClampNeg) N; rw [hf2] at this; exact this) mL_0 rfl (xl_gV gm_533 gm_534 gm_535 gm_5 gm_536) rfl ⟨rfl, rfl⟩ ⟨rfl, hdX4_see⟩ ⟨(Nat.le_of_ble_eq_true rfl), (Nat.le_of_ble_eq_true rfl)⟩ rfl (Nat.le_of_ble_eq_true rfl) rfl dL_law_375 hl.1 hPm hPc hS (fun H locs hPm hPc hS => ?_)
  refine lv_icmp_eq (tgt := 735) hx hb dL_law_378 (by decide) (fun _ => ?_) (fun h => absurd rfl h)
  exact hend M1 N1 hR1 H locs hPc hPm hS
set_option maxHeartbeats 4000000 in
set_option maxRecDepth 100000 in
theorem law_case_7 {p : Program} {l : Launch} {e : Env} {s : State} {m : MethodId} {below : List Frame} {meth : Method} {c : Code} {b L : Nat} {xs : Nat → Int32} {D : va_G} {g g2 : xm_G} {R : xm_M → xm_M → Prop} (hsim : xl_Sim R) (C0 : xl_C p s m meth c b L xs D g g2) {x3 : Int32} (hi0 : vp_in (x3 + 0) L) (hi1 : vp_in (x3 + 1) L) (hi2 : vp_in (x3 + 2) L) (hi3 : vp_in (x3 + 3) L) (hi4 : vp_in (x3 + 4) L) (hi5 : vp_in (x3 + 5) L) {ls : Array Slot} (hl : lv_has ls 4 [(0, .ref b), (1, .ref (g.1 0)), (2, .ref (g2.1 0)), (3, .int x3)]) {M N : xm_M} (hR : R M N)
    (hend : ∀ (M N : xm_M), R M N → ∀ (H : Heap) (locs : List Loc), va_P D vwCl (xm_w cL g M) H → va_P D vwCl (xm_w mL g2 N) H → va_S (fun q : Nat => s.heap.size ≤ q) s.heap H locs → W p l e room_1 s m #[Value.ref b] below meth c H locs 600000 7302250 (lw_Z below #[Value.ref b] s) (F0 m 735 ls []))
    {H : Heap} {locs : List Loc} (hPc : va_P D vwCl (xm_w cL g M) H) (hPm : va_P D vwCl (xm_w mL g2 N) H) (hS : va_S (fun q : Nat => s.heap.size ≤ q) s.heap H locs) : W p l e room_1 s m #[Value.ref b] below meth c H locs 600000 7302250 (lw_Z below #[Value.ref b] s) (F0 m 383 ls []) := by
  obtain ⟨⟨hx, hb, hml, hown, hts⟩, hr, hlocks, hX, hbl, hL, hK, hg2, hN, hSt, hI1, hI2, hT1, hT2, hA1, hA2, hdis⟩ := C0
  have hbA : ¬ (fun q : Nat => s.heap.size ≤ q) b := Nat.not_le.mpr hbl
  refine lv_aload_n hx hb dL_law_383 rfl (lv_at hl 1 rfl) ?_
  refine lv_aload_n hx hb dL_law_384 rfl (lv_at hl 0 rfl) ?_
  refine lv_iload_n hx hb dL_law_385 rfl (lv_at hl 3 rfl) ?_
  refine lv_iconst (v := 1) hx hb dL_law_386 (by decide) ?_
  refine lv_iadd hx hb dL_law_387 ?_
  refine va_sld hx hb hX hbl hbA hS hi1 dL_law_388 ?_
  obtain ⟨r, M1, N1, hf, hf2, hR1⟩ := hsim.2.2.2.2.2.2.2.1 (xs (x3 + 1).toNatClampNeg) M N hR
  refine xl_call (L1 := cL) (L2 := mL) (h1 := g) (h2 := g2) (M := M) (M1 := M1) (N := N) (r := r) (As := [.int (xs (x3 + 1).toNatClampNeg)]) ⟨hx, hb, hml, hown, hts⟩ hK hN hSt hI1 hT1 hA1 hdis (by have := kX3_cut (l := l) (xs (x3 + 1).toNatClampNeg) M; rw [hf] at this; exact this) cL_0 rfl (xl_gV gm_208 gm_209 gm_210 gm_1 gm_211) rfl ⟨rfl, rfl⟩ ⟨rfl, hdX3_cut⟩ ⟨(Nat.le_of_ble_eq_true rfl), (Nat.le_of_ble_eq_true rfl)⟩ rfl (Nat.le_of_ble_eq_true rfl) rfl dL_law_389 hl.1 hPc hPm hS (fun H locs hPc hPm hS => ?_)
  refine lv_aload_n hx hb dL_law_392 rfl (lv_at hl 2 rfl) ?_
  refine lv_aload_n hx hb dL_law_393 rfl (lv_at hl 0 rfl) ?_
  refine lv_iload_n hx hb dL_law_394 rfl (lv_at hl 3 rfl) ?_
  refine lv_iconst (v := 1) hx hb dL_law_395 (by decide) ?_
  refine lv_iadd hx hb dL_law_396 ?_
  refine va_sld hx hb hX hbl hbA hS hi1 dL_law_397 ?_
  refine xl_call (L1 := mL) (L2 := cL) (h1 := g2) (h2 := g) (M := N) (M1 := N1) (N := M1) (r := r) (As := [.int (xs (x3 + 1).toNatClampNeg)]) ⟨hx, hb, hml, hown, hts⟩ (hg2 ▸ hK) hN hSt hI2 hT2 hA2 (fun i j hi hj h => hdis j i hj hi h.symm) (by have := kX4_cut (l := l) (xs (x3 + 1).toNatClampNeg) N; rw [hf2] at this; exact this) mL_0 rfl (xl_gV gm_537 gm_538 gm_539 gm_5 gm_540) rfl ⟨rfl, rfl⟩ ⟨rfl, hdX4_cut⟩ ⟨(Nat.le_of_ble_eq_true rfl), (Nat.le_of_ble_eq_true rfl)⟩ rfl (Nat.le_of_ble_eq_true rfl) rfl dL_law_398 hl.1 hPm hPc hS (fun H locs hPm hPc hS => ?_)
  refine lv_icmp_eq (tgt := 735) hx hb dL_law_401 (by decide) (fun _ => ?_) (fun h => absurd rfl h)
  exact hend M1 N1 hR1 H locs hPc hPm hS
set_option maxHeartbeats 4000000 in
set_option maxRecDepth 100000 in
theorem law_case_8 {p : Program} {l : Launch} {e : Env} {s : State} {m : MethodId} {below : List Frame} {meth : Method} {c : Code} {b L : Nat} {xs : Nat → Int32} {D : va_G} {g g2 : xm_G} {R : xm_M → xm_M → Prop} (hsim : xl_Sim R) (C0 : xl_C p s m meth c b L xs D g g2) {x3 : Int32} (hi0 : vp_in (x3 + 0) L) (hi1 : vp_in (x3 + 1) L) (hi2 : vp_in (x3 + 2) L) (hi3 : vp_in (x3 + 3) L) (hi4 : vp_in (x3 + 4) L) (hi5 : vp_in (x3 + 5) L) {ls : Array Slot} (hl : lv_has ls 4 [(0, .ref b), (1, .ref (g.1 0)), (2, .ref (g2.1 0)), (3, .int x3)]) {M N : xm_M} (hR : R M N)
    (hend : ∀ (M N : xm_M), R M N → ∀ (H : Heap) (locs : List Loc), va_P D vwCl (xm_w cL g M) H → va_P D vwCl (xm_w mL g2 N) H → va_S (fun q : Nat => s.heap.size ≤ q) s.heap H locs → W p l e room_1 s m #[Value.ref b] below meth c H locs 600000 7302250 (lw_Z below #[Value.ref b] s) (F0 m 735 ls []))
    {H : Heap} {locs : List Loc} (hPc : va_P D vwCl (xm_w cL g M) H) (hPm : va_P D vwCl (xm_w mL g2 N) H) (hS : va_S (fun q : Nat => s.heap.size ≤ q) s.heap H locs) : W p l e room_1 s m #[Value.ref b] below meth c H locs 600000 7302250 (lw_Z below #[Value.ref b] s) (F0 m 406 ls []) := by
  obtain ⟨⟨hx, hb, hml, hown, hts⟩, hr, hlocks, hX, hbl, hL, hK, hg2, hN, hSt, hI1, hI2, hT1, hT2, hA1, hA2, hdis⟩ := C0
  have hbA : ¬ (fun q : Nat => s.heap.size ≤ q) b := Nat.not_le.mpr hbl
  refine lv_aload_n hx hb dL_law_406 rfl (lv_at hl 1 rfl) ?_
  refine lv_aload_n hx hb dL_law_407 rfl (lv_at hl 0 rfl) ?_
  refine lv_iload_n hx hb dL_law_408 rfl (lv_at hl 3 rfl) ?_
  refine lv_iconst (v := 1) hx hb dL_law_409 (by decide) ?_
  refine lv_iadd hx hb dL_law_410 ?_
  refine va_sld hx hb hX hbl hbA hS hi1 dL_law_411 ?_
  refine lv_aload_n hx hb dL_law_412 rfl (lv_at hl 0 rfl) ?_
  refine lv_iload_n hx hb dL_law_413 rfl (lv_at hl 3 rfl) ?_
  refine lv_iconst (v := 2) hx hb dL_law_414 (by decide) ?_
  refine lv_iadd hx hb dL_law_415 ?_
  refine va_sld hx hb hX hbl hbA hS hi2 dL_law_416 ?_
  obtain ⟨r, M1, N1, hf, hf2, hR1⟩ := hsim.2.2.2.2.2.2.2.2.1 (xs (x3 + 1).toNatClampNeg) (xs (x3 + 2).toNatClampNeg) M N hR
  refine xl_call (L1 := cL) (L2 := mL) (h1 := g) (h2 := g2) (M := M) (M1 := M1) (N := N) (r := r) (As := [.int (xs (x3 + 1).toNatClampNeg), .int (xs (x3 + 2).toNatClampNeg)]) ⟨hx, hb, hml, hown, hts⟩ hK hN hSt hI1 hT1 hA1 hdis (by have := kX3_pose (l := l) (xs (x3 + 1).toNatClampNeg) (xs (x3 + 2).toNatClampNeg) M; rw [hf] at this; exact this) cL_0 rfl (xl_gV gm_212 gm_213 gm_214 gm_1 gm_215) rfl ⟨rfl, rfl⟩ ⟨rfl, hdX3_pose⟩ ⟨(Nat.le_of_ble_eq_true rfl), (Nat.le_of_ble_eq_true rfl)⟩ rfl (Nat.le_of_ble_eq_true rfl) rfl dL_law_417 hl.1 hPc hPm hS (fun H locs hPc hPm hS => ?_)
  refine lv_aload_n hx hb dL_law_420 rfl (lv_at hl 2 rfl) ?_
  refine lv_aload_n hx hb dL_law_421 rfl (lv_at hl 0 rfl) ?_
  refine lv_iload_n hx hb dL_law_422 rfl (lv_at hl 3 rfl) ?_
  refine lv_iconst (v := 1) hx hb dL_law_423 (by decide) ?_
  refine lv_iadd hx hb dL_law_424 ?_
  refine va_sld hx hb hX hbl hbA hS hi1 dL_law_425 ?_
  refine lv_aload_n hx hb dL_law_426 rfl (lv_at hl 0 rfl) ?_
  refine lv_iload_n hx hb dL_law_427 rfl (lv_at hl 3 rfl) ?_
  refine lv_iconst (v := 2) hx hb dL_law_428 (by decide) ?_
  refine lv_iadd hx hb dL_law_429 ?_
  refine va_sld hx hb hX hbl hbA hS hi2 dL_law_430 ?_
  refine xl_call (L1 := mL) (L2 := cL) (h1 := g2) (h2 := g) (M := N) (M1 := N1) (N := M1) (r := r) (As := [.int (xs (x3 + 1).toNatClampNeg), .int (xs (x3 + 2).toNatClampNeg)]) ⟨hx, hb, hml, hown, hts⟩ (hg2 ▸ hK) hN hSt hI2 hT2 hA2 (fun i j hi hj h => hdis j i hj hi h.symm) (by have := kX4_pose (l := l) (xs (x3 + 1).toNatClampNeg) (xs (x3 + 2).toNatClampNeg) N; rw [hf2] at this; exact this) mL_0 rfl (xl_gV gm_541 gm_542 gm_543 gm_5 gm_544) rfl ⟨rfl, rfl⟩ ⟨rfl, hdX4_pose⟩ ⟨(Nat.le_of_ble_eq_true rfl), (Nat.le_of_ble_eq_true rfl)⟩ rfl (Nat.le_of_ble_eq_true rfl) rfl dL_law_431 hl.1 hPm hPc hS (fun H locs hPm hPc hS => ?_)
  refine lv_icmp_eq (tgt := 735) hx hb dL_law_434 (by decide) (fun _ => ?_) (fun h => absurd rfl h)
  exact hend M1 N1 hR1 H locs hPc hPm hS
set_option maxHeartbeats 4000000 in
set_option maxRecDepth 100000 in
theorem law_case_9 {p : Program} {l : Launch} {e : Env} {s : State} {m : MethodId} {below : List Frame} {meth : Method} {c : Code} {b L : Nat} {xs : Nat → Int32} {D : va_G} {g g2 : xm_G} {R : xm_M → xm_M → Prop} (hsim : xl_Sim R) (C0 : xl_C p s m meth c b L xs D g g2) {x3 : Int32} (hi0 : vp_in (x3 + 0) L) (hi1 : vp_in (x3 + 1) L) (hi2 : vp_in (x3 + 2) L) (hi3 : vp_in (x3 + 3) L) (hi4 : vp_in (x3 + 4) L) (hi5 : vp_in (x3 + 5) L) {ls : Array Slot} (hl : lv_has ls 4 [(0, .ref b), (1, .ref (g.1 0)), (2, .ref (g2.1 0)), (3, .int x3)]) {M N : xm_M} (hR : R M N)
    (hend : ∀ (M N : xm_M), R M N → ∀ (H : Heap) (locs : List Loc), va_P D vwCl (xm_w cL g M) H → va_P D vwCl (xm_w mL g2 N) H → va_S (fun q : Nat => s.heap.size ≤ q) s.heap H locs → W p l e room_1 s m #[Value.ref b] below meth c H locs 600000 7302250 (lw_Z below #[Value.ref b] s) (F0 m 735 ls []))
    {H : Heap} {locs : List Loc} (hPc : va_P D vwCl (xm_w cL g M) H) (hPm : va_P D vwCl (xm_w mL g2 N) H) (hS : va_S (fun q : Nat => s.heap.size ≤ q) s.heap H locs) : W p l e room_1 s m #[Value.ref b] below meth c H locs 600000 7302250 (lw_Z below #[Value.ref b] s) (F0 m 439 ls []) := by
  obtain ⟨⟨hx, hb, hml, hown, hts⟩, hr, hlocks, hX, hbl, hL, hK, hg2, hN, hSt, hI1, hI2, hT1, hT2, hA1, hA2, hdis⟩ := C0
  have hbA : ¬ (fun q : Nat => s.heap.size ≤ q) b := Nat.not_le.mpr hbl
  refine lv_aload_n hx hb dL_law_439 rfl (lv_at hl 1 rfl) ?_
  refine lv_aload_n hx hb dL_law_440 rfl (lv_at hl 0 rfl) ?_
  refine lv_iload_n hx hb dL_law_441 rfl (lv_at hl 3 rfl) ?_
  refine lv_iconst (v := 1) hx hb dL_law_442 (by decide) ?_
  refine lv_iadd hx hb dL_law_443 ?_
  refine va_sld hx hb hX hbl hbA hS hi1 dL_law_444 ?_
  refine lv_aload_n hx hb dL_law_445 rfl (lv_at hl 0 rfl) ?_
  refine lv_iload_n hx hb dL_law_446 rfl (lv_at hl 3 rfl) ?_
  refine lv_iconst (v := 2) hx hb dL_law_447 (by decide) ?_
  refine lv_iadd hx hb dL_law_448 ?_
  refine va_sld hx hb hX hbl hbA hS hi2 dL_law_449 ?_
  obtain ⟨r, M1, N1, hf, hf2, hR1⟩ := hsim.2.2.2.2.2.2.2.2.2.1 (xs (x3 + 1).toNatClampNeg) (xs (x3 + 2).toNatClampNeg) M N hR
  refine xl_call (L1 := cL) (L2 := mL) (h1 := g) (h2 := g2) (M := M) (M1 := M1) (N := N) (r := r) (As := [.int (xs (x3 + 1).toNatClampNeg), .int (xs (x3 + 2).toNatClampNeg)]) ⟨hx, hb, hml, hown, hts⟩ hK hN hSt hI1 hT1 hA1 hdis (by have := kX3_about (l := l) (xs (x3 + 1).toNatClampNeg) (xs (x3 + 2).toNatClampNeg) M; rw [hf] at this; exact this) cL_0 rfl (xl_gV gm_308 gm_309 gm_310 gm_1 gm_311) rfl ⟨rfl, rfl⟩ ⟨rfl, hdX3_about⟩ ⟨(Nat.le_of_ble_eq_true rfl), (Nat.le_of_ble_eq_true rfl)⟩ rfl (Nat.le_of_ble_eq_true rfl) rfl dL_law_450 hl.1 hPc hPm hS (fun H locs hPc hPm hS => ?_)
  refine lv_aload_n hx hb dL_law_453 rfl (lv_at hl 2 rfl) ?_
  refine lv_aload_n hx hb dL_law_454 rfl (lv_at hl 0 rfl) ?_
  refine lv_iload_n hx hb dL_law_455 rfl (lv_at hl 3 rfl) ?_
  refine lv_iconst (v := 1) hx hb dL_law_456 (by decide) ?_
  refine lv_iadd hx hb dL_law_457 ?_
  refine va_sld hx hb hX hbl hbA hS hi1 dL_law_458 ?_
  refine lv_aload_n hx hb dL_law_459 rfl (lv_at hl 0 rfl) ?_
  refine lv_iload_n hx hb dL_law_460 rfl (lv_at hl 3 rfl) ?_
  refine lv_iconst (v := 2) hx hb dL_law_461 (by decide) ?_
  refine lv_iadd hx hb dL_law_462 ?_
  refine va_sld hx hb hX hbl hbA hS hi2 dL_law_463 ?_
  refine xl_call (L1 := mL) (L2 := cL) (h1 := g2) (h2 := g) (M := N) (M1 := N1) (N := M1) (r := r) (As := [.int (xs (x3 + 1).toNatClampNeg), .int (xs (x3 + 2).toNatClampNeg)]) ⟨hx, hb, hml, hown, hts⟩ (hg2 ▸ hK) hN hSt hI2 hT2 hA2 (fun i j hi hj h => hdis j i hj hi h.symm) (by have := kX4_about (l := l) (xs (x3 + 1).toNatClampNeg) (xs (x3 + 2).toNatClampNeg) N; rw [hf2] at this; exact this) mL_0 rfl (xl_gV gm_601 gm_602 gm_603 gm_5 gm_604) rfl ⟨rfl, rfl⟩ ⟨rfl, hdX4_about⟩ ⟨(Nat.le_of_ble_eq_true rfl), (Nat.le_of_ble_eq_true rfl)⟩ rfl (Nat.le_of_ble_eq_true rfl) rfl dL_law_464 hl.1 hPm hPc hS (fun H locs hPm hPc hS => ?_)
  refine lv_icmp_eq (tgt := 735) hx hb dL_law_467 (by decide) (fun _ => ?_) (fun h => absurd rfl h)
  exact hend M1 N1 hR1 H locs hPc hPm hS
set_option maxHeartbeats 4000000 in
set_option maxRecDepth 100000 in
theorem law_case_10 {p : Program} {l : Launch} {e : Env} {s : State} {m : MethodId} {below : List Frame} {meth : Method} {c : Code} {b L : Nat} {xs : Nat → Int32} {D : va_G} {g g2 : xm_G} {R : xm_M → xm_M → Prop} (hsim : xl_Sim R) (C0 : xl_C p s m meth c b L xs D g g2) {x3 : Int32} (hi0 : vp_in (x3 + 0) L) (hi1 : vp_in (x3 + 1) L) (hi2 : vp_in (x3 + 2) L) (hi3 : vp_in (x3 + 3) L) (hi4 : vp_in (x3 + 4) L) (hi5 : vp_in (x3 + 5) L) {ls : Array Slot} (hl : lv_has ls 4 [(0, .ref b), (1, .ref (g.1 0)), (2, .ref (g2.1 0)), (3, .int x3)]) {M N : xm_M} (hR : R M N)
    (hend : ∀ (M N : xm_M), R M N → ∀ (H : Heap) (locs : List Loc), va_P D vwCl (xm_w cL g M) H → va_P D vwCl (xm_w mL g2 N) H → va_S (fun q : Nat => s.heap.size ≤ q) s.heap H locs → W p l e room_1 s m #[Value.ref b] below meth c H locs 600000 7302250 (lw_Z below #[Value.ref b] s) (F0 m 735 ls []))
    {H : Heap} {locs : List Loc} (hPc : va_P D vwCl (xm_w cL g M) H) (hPm : va_P D vwCl (xm_w mL g2 N) H) (hS : va_S (fun q : Nat => s.heap.size ≤ q) s.heap H locs) : W p l e room_1 s m #[Value.ref b] below meth c H locs 600000 7302250 (lw_Z below #[Value.ref b] s) (F0 m 472 ls []) := by
  obtain ⟨⟨hx, hb, hml, hown, hts⟩, hr, hlocks, hX, hbl, hL, hK, hg2, hN, hSt, hI1, hI2, hT1, hT2, hA1, hA2, hdis⟩ := C0
  have hbA : ¬ (fun q : Nat => s.heap.size ≤ q) b := Nat.not_le.mpr hbl
  refine lv_aload_n hx hb dL_law_472 rfl (lv_at hl 1 rfl) ?_
  refine lv_aload_n hx hb dL_law_473 rfl (lv_at hl 0 rfl) ?_
  refine lv_iload_n hx hb dL_law_474 rfl (lv_at hl 3 rfl) ?_
  refine lv_iconst (v := 1) hx hb dL_law_475 (by decide) ?_
  refine lv_iadd hx hb dL_law_476 ?_
  refine va_sld hx hb hX hbl hbA hS hi1 dL_law_477 ?_
  obtain ⟨r, M1, N1, hf, hf2, hR1⟩ := hsim.2.2.2.2.2.2.2.2.2.2.1 (xs (x3 + 1).toNatClampNeg) M N hR
  refine xl_call (L1 := cL) (L2 := mL) (h1 := g) (h2 := g2) (M := M) (M1 := M1) (N := N) (r := r) (As := [.int (xs (x3 + 1).toNatClampNeg)]) ⟨hx, hb, hml, hown, hts⟩ hK hN hSt hI1 hT1 hA1 hdis (by have := kX3_count (l := l) (xs (x3 + 1).toNatClampNeg) M; rw [hf] at this; exact this) cL_0 rfl (xl_gV gm_313 gm_314 gm_315 gm_1 gm_316) rfl ⟨rfl, rfl⟩ ⟨rfl, hdX3_count⟩ ⟨(Nat.le_of_ble_eq_true rfl), (Nat.le_of_ble_eq_true rfl)⟩ rfl (Nat.le_of_ble_eq_true rfl) rfl dL_law_478 hl.1 hPc hPm hS (fun H locs hPc hPm hS => ?_)
  refine lv_aload_n hx hb dL_law_481 rfl (lv_at hl 2 rfl) ?_
  refine lv_aload_n hx hb dL_law_482 rfl (lv_at hl 0 rfl) ?_
  refine lv_iload_n hx hb dL_law_483 rfl (lv_at hl 3 rfl) ?_
  refine lv_iconst (v := 1) hx hb dL_law_484 (by decide) ?_
  refine lv_iadd hx hb dL_law_485 ?_
  refine va_sld hx hb hX hbl hbA hS hi1 dL_law_486 ?_
  refine xl_call (L1 := mL) (L2 := cL) (h1 := g2) (h2 := g) (M := N) (M1 := N1) (N := M1) (r := r) (As := [.int (xs (x3 + 1).toNatClampNeg)]) ⟨hx, hb, hml, hown, hts⟩ (hg2 ▸ hK) hN hSt hI2 hT2 hA2 (fun i j hi hj h => hdis j i hj hi h.symm) (by have := kX4_count (l := l) (xs (x3 + 1).toNatClampNeg) N; rw [hf2] at this; exact this) mL_0 rfl (xl_gV gm_612 gm_613 gm_614 gm_5 gm_615) rfl ⟨rfl, rfl⟩ ⟨rfl, hdX4_count⟩ ⟨(Nat.le_of_ble_eq_true rfl), (Nat.le_of_ble_eq_true rfl)⟩ rfl (Nat.le_of_ble_eq_true rfl) rfl dL_law_487 hl.1 hPm hPc hS (fun H locs hPm hPc hS => ?_)
  refine lv_icmp_eq (tgt := 735) hx hb dL_law_490 (by decide) (fun _ => ?_) (fun h => absurd rfl h)
  exact hend M1 N1 hR1 H locs hPc hPm hS
set_option maxHeartbeats 4000000 in
set_option maxRecDepth 100000 in
theorem law_case_11 {p : Program} {l : Launch} {e : Env} {s : State} {m : MethodId} {below : List Frame} {meth : Method} {c : Code} {b L : Nat} {xs : Nat → Int32} {D : va_G} {g g2 : xm_G} {R : xm_M → xm_M → Prop} (hsim : xl_Sim R) (C0 : xl_C p s m meth c b L xs D g g2) {x3 : Int32} (hi0 : vp_in (x3 + 0) L) (hi1 : vp_in (x3 + 1) L) (hi2 : vp_in (x3 + 2) L) (hi3 : vp_in (x3 + 3) L) (hi4 : vp_in (x3 + 4) L) (hi5 : vp_in (x3 + 5) L) {ls : Array Slot} (hl : lv_has ls 4 [(0, .ref b), (1, .ref (g.1 0)), (2, .ref (g2.1 0)), (3, .int x3)]) {M N : xm_M} (hR : R M N)
    (hend : ∀ (M N : xm_M), R M N → ∀ (H : Heap) (locs : List Loc), va_P D vwCl (xm_w cL g M) H → va_P D vwCl (xm_w mL g2 N) H → va_S (fun q : Nat => s.heap.size ≤ q) s.heap H locs → W p l e room_1 s m #[Value.ref b] below meth c H locs 600000 7302250 (lw_Z below #[Value.ref b] s) (F0 m 735 ls []))
    {H : Heap} {locs : List Loc} (hPc : va_P D vwCl (xm_w cL g M) H) (hPm : va_P D vwCl (xm_w mL g2 N) H) (hS : va_S (fun q : Nat => s.heap.size ≤ q) s.heap H locs) : W p l e room_1 s m #[Value.ref b] below meth c H locs 600000 7302250 (lw_Z below #[Value.ref b] s) (F0 m 495 ls []) := by
  obtain ⟨⟨hx, hb, hml, hown, hts⟩, hr, hlocks, hX, hbl, hL, hK, hg2, hN, hSt, hI1, hI2, hT1, hT2, hA1, hA2, hdis⟩ := C0
  have hbA : ¬ (fun q : Nat => s.heap.size ≤ q) b := Nat.not_le.mpr hbl
  refine lv_aload_n hx hb dL_law_495 rfl (lv_at hl 1 rfl) ?_
  refine lv_aload_n hx hb dL_law_496 rfl (lv_at hl 0 rfl) ?_
  refine lv_iload_n hx hb dL_law_497 rfl (lv_at hl 3 rfl) ?_
  refine lv_iconst (v := 1) hx hb dL_law_498 (by decide) ?_
  refine lv_iadd hx hb dL_law_499 ?_
  refine va_sld hx hb hX hbl hbA hS hi1 dL_law_500 ?_
  refine lv_aload_n hx hb dL_law_501 rfl (lv_at hl 0 rfl) ?_
  refine lv_iload_n hx hb dL_law_502 rfl (lv_at hl 3 rfl) ?_
  refine lv_iconst (v := 2) hx hb dL_law_503 (by decide) ?_
  refine lv_iadd hx hb dL_law_504 ?_
  refine va_sld hx hb hX hbl hbA hS hi2 dL_law_505 ?_
  obtain ⟨r, M1, N1, hf, hf2, hR1⟩ := hsim.2.2.2.2.2.2.2.2.2.2.2.1 (xs (x3 + 1).toNatClampNeg) (xs (x3 + 2).toNatClampNeg) M N hR
  refine xl_call (L1 := cL) (L2 := mL) (h1 := g) (h2 := g2) (M := M) (M1 := M1) (N := N) (r := r) (As := [.int (xs (x3 + 1).toNatClampNeg), .int (xs (x3 + 2).toNatClampNeg)]) ⟨hx, hb, hml, hown, hts⟩ hK hN hSt hI1 hT1 hA1 hdis (by have := kX3_wave (l := l) (xs (x3 + 1).toNatClampNeg) (xs (x3 + 2).toNatClampNeg) M; rw [hf] at this; exact this) cL_0 rfl (xl_gV gm_325 gm_326 gm_327 gm_1 gm_328) rfl ⟨rfl, rfl⟩ ⟨rfl, hdX3_wave⟩ ⟨(Nat.le_of_ble_eq_true rfl), (Nat.le_of_ble_eq_true rfl)⟩ rfl (Nat.le_of_ble_eq_true rfl) rfl dL_law_506 hl.1 hPc hPm hS (fun H locs hPc hPm hS => ?_)
  refine lv_aload_n hx hb dL_law_509 rfl (lv_at hl 2 rfl) ?_
  refine lv_aload_n hx hb dL_law_510 rfl (lv_at hl 0 rfl) ?_
  refine lv_iload_n hx hb dL_law_511 rfl (lv_at hl 3 rfl) ?_
  refine lv_iconst (v := 1) hx hb dL_law_512 (by decide) ?_
  refine lv_iadd hx hb dL_law_513 ?_
  refine va_sld hx hb hX hbl hbA hS hi1 dL_law_514 ?_
  refine lv_aload_n hx hb dL_law_515 rfl (lv_at hl 0 rfl) ?_
  refine lv_iload_n hx hb dL_law_516 rfl (lv_at hl 3 rfl) ?_
  refine lv_iconst (v := 2) hx hb dL_law_517 (by decide) ?_
  refine lv_iadd hx hb dL_law_518 ?_
  refine va_sld hx hb hX hbl hbA hS hi2 dL_law_519 ?_
  refine xl_call (L1 := mL) (L2 := cL) (h1 := g2) (h2 := g) (M := N) (M1 := N1) (N := M1) (r := r) (As := [.int (xs (x3 + 1).toNatClampNeg), .int (xs (x3 + 2).toNatClampNeg)]) ⟨hx, hb, hml, hown, hts⟩ (hg2 ▸ hK) hN hSt hI2 hT2 hA2 (fun i j hi hj h => hdis j i hj hi h.symm) (by have := kX4_wave (l := l) (xs (x3 + 1).toNatClampNeg) (xs (x3 + 2).toNatClampNeg) N; rw [hf2] at this; exact this) mL_0 rfl (xl_gV gm_630 gm_631 gm_632 gm_5 gm_633) rfl ⟨rfl, rfl⟩ ⟨rfl, hdX4_wave⟩ ⟨(Nat.le_of_ble_eq_true rfl), (Nat.le_of_ble_eq_true rfl)⟩ rfl (Nat.le_of_ble_eq_true rfl) rfl dL_law_520 hl.1 hPm hPc hS (fun H locs hPm hPc hS => ?_)
  refine lv_icmp_eq (tgt := 735) hx hb dL_law_523 (by decide) (fun _ => ?_) (fun h => absurd rfl h)
  exact hend M1 N1 hR1 H locs hPc hPm hS
set_option maxHeartbeats 4000000 in
set_option maxRecDepth 100000 in
theorem law_case_12 {p : Program} {l : Launch} {e : Env} {s : State} {m : MethodId} {below : List Frame} {meth : Method} {c : Code} {b L : Nat} {xs : Nat → Int32} {D : va_G} {g g2 : xm_G} {R : xm_M → xm_M → Prop} (hsim : xl_Sim R) (C0 : xl_C p s m meth c b L xs D g g2) {x3 : Int32} (hi0 : vp_in (x3 + 0) L) (hi1 : vp_in (x3 + 1) L) (hi2 : vp_in (x3 + 2) L) (hi3 : vp_in (x3 + 3) L) (hi4 : vp_in (x3 + 4) L) (hi5 : vp_in (x3 + 5) L) {ls : Array Slot} (hl : lv_has ls 4 [(0, .ref b), (1, .ref (g.1 0)), (2, .ref (g2.1 0)), (3, .int x3)]) {M N : xm_M} (hR : R M N)
    (hend : ∀ (M N : xm_M), R M N → ∀ (H : Heap) (locs : List Loc), va_P D vwCl (xm_w cL g M) H → va_P D vwCl (xm_w mL g2 N) H → va_S (fun q : Nat => s.heap.size ≤ q) s.heap H locs → W p l e room_1 s m #[Value.ref b] below meth c H locs 600000 7302250 (lw_Z below #[Value.ref b] s) (F0 m 735 ls []))
    {H : Heap} {locs : List Loc} (hPc : va_P D vwCl (xm_w cL g M) H) (hPm : va_P D vwCl (xm_w mL g2 N) H) (hS : va_S (fun q : Nat => s.heap.size ≤ q) s.heap H locs) : W p l e room_1 s m #[Value.ref b] below meth c H locs 600000 7302250 (lw_Z below #[Value.ref b] s) (F0 m 528 ls []) := by
  obtain ⟨⟨hx, hb, hml, hown, hts⟩, hr, hlocks, hX, hbl, hL, hK, hg2, hN, hSt, hI1, hI2, hT1, hT2, hA1, hA2, hdis⟩ := C0
  have hbA : ¬ (fun q : Nat => s.heap.size ≤ q) b := Nat.not_le.mpr hbl
  refine lv_aload_n hx hb dL_law_528 rfl (lv_at hl 1 rfl) ?_
  refine lv_aload_n hx hb dL_law_529 rfl (lv_at hl 0 rfl) ?_
  refine lv_iload_n hx hb dL_law_530 rfl (lv_at hl 3 rfl) ?_
  refine lv_iconst (v := 1) hx hb dL_law_531 (by decide) ?_
  refine lv_iadd hx hb dL_law_532 ?_
  refine va_sld hx hb hX hbl hbA hS hi1 dL_law_533 ?_
  refine lv_aload_n hx hb dL_law_534 rfl (lv_at hl 0 rfl) ?_
  refine lv_iload_n hx hb dL_law_535 rfl (lv_at hl 3 rfl) ?_
  refine lv_iconst (v := 2) hx hb dL_law_536 (by decide) ?_
  refine lv_iadd hx hb dL_law_537 ?_
  refine va_sld hx hb hX hbl hbA hS hi2 dL_law_538 ?_
  refine lv_aload_n hx hb dL_law_539 rfl (lv_at hl 0 rfl) ?_
  refine lv_iload_n hx hb dL_law_540 rfl (lv_at hl 3 rfl) ?_
  refine lv_iconst (v := 3) hx hb dL_law_541 (by decide) ?_
  refine lv_iadd hx hb dL_law_542 ?_
  refine va_sld hx hb hX hbl hbA hS hi3 dL_law_543 ?_
  obtain ⟨r, M1, N1, hf, hf2, hR1⟩ := hsim.2.2.2.2.2.2.2.2.2.2.2.2.1 (xs (x3 + 1).toNatClampNeg) (xs (x3 + 2).toNatClampNeg) (xs (x3 + 3).toNatClampNeg) M N hR
  refine xl_call (L1 := cL) (L2 := mL) (h1 := g) (h2 := g2) (M := M) (M1 := M1) (N := N) (r := r) (As := [.int (xs (x3 + 1).toNatClampNeg), .int (xs (x3 + 2).toNatClampNeg), .int (xs (x3 + 3).toNatClampNeg)]) ⟨hx, hb, hml, hown, hts⟩ hK hN hSt hI1 hT1 hA1 hdis (by have := kX3_ifSet (l := l) (xs (x3 + 1).toNatClampNeg) (xs (x3 + 2).toNatClampNeg) (xs (x3 + 3).toNatClampNeg) M; rw [hf] at this; exact this) cL_0 rfl (xl_gV gm_332 gm_333 gm_334 gm_1 gm_335) rfl ⟨rfl, rfl⟩ ⟨rfl, hdX3_ifSet⟩ ⟨(Nat.le_of_ble_eq_true rfl), (Nat.le_of_ble_eq_true rfl)⟩ rfl (Nat.le_of_ble_eq_true rfl) rfl dL_law_544 hl.1 hPc hPm hS (fun H locs hPc hPm hS => ?_)
  refine lv_aload_n hx hb dL_law_547 rfl (lv_at hl 2 rfl) ?_
  refine lv_aload_n hx hb dL_law_548 rfl (lv_at hl 0 rfl) ?_
  refine lv_iload_n hx hb dL_law_549 rfl (lv_at hl 3 rfl) ?_
  refine lv_iconst (v := 1) hx hb dL_law_550 (by decide) ?_
  refine lv_iadd hx hb dL_law_551 ?_
  refine va_sld hx hb hX hbl hbA hS hi1 dL_law_552 ?_
  refine lv_aload_n hx hb dL_law_553 rfl (lv_at hl 0 rfl) ?_
  refine lv_iload_n hx hb dL_law_554 rfl (lv_at hl 3 rfl) ?_
  refine lv_iconst (v := 2) hx hb dL_law_555 (by decide) ?_
  refine lv_iadd hx hb dL_law_556 ?_
  refine va_sld hx hb hX hbl hbA hS hi2 dL_law_557 ?_
  refine lv_aload_n hx hb dL_law_558 rfl (lv_at hl 0 rfl) ?_
  refine lv_iload_n hx hb dL_law_559 rfl (lv_at hl 3 rfl) ?_
  refine lv_iconst (v := 3) hx hb dL_law_560 (by decide) ?_
  refine lv_iadd hx hb dL_law_561 ?_
  refine va_sld hx hb hX hbl hbA hS hi3 dL_law_562 ?_
  refine xl_call (L1 := mL) (L2 := cL) (h1 := g2) (h2 := g) (M := N) (M1 := N1) (N := M1) (r := r) (As := [.int (xs (x3 + 1).toNatClampNeg), .int (xs (x3 + 2).toNatClampNeg), .int (xs (x3 + 3).toNatClampNeg)]) ⟨hx, hb, hml, hown, hts⟩ (hg2 ▸ hK) hN hSt hI2 hT2 hA2 (fun i j hi hj h => hdis j i hj hi h.symm) (by have := kX4_ifSet (l := l) (xs (x3 + 1).toNatClampNeg) (xs (x3 + 2).toNatClampNeg) (xs (x3 + 3).toNatClampNeg) N; rw [hf2] at this; exact this) mL_0 rfl (xl_gV gm_635 gm_636 gm_637 gm_5 gm_638) rfl ⟨rfl, rfl⟩ ⟨rfl, hdX4_ifSet⟩ ⟨(Nat.le_of_ble_eq_true rfl), (Nat.le_of_ble_eq_true rfl)⟩ rfl (Nat.le_of_ble_eq_true rfl) rfl dL_law_563 hl.1 hPm hPc hS (fun H locs hPm hPc hS => ?_)
  refine lv_icmp_eq (tgt := 735) hx hb dL_law_566 (by decide) (fun _ => ?_) (fun h => absurd rfl h)
  exact hend M1 N1 hR1 H locs hPc hPm hS
set_option maxHeartbeats 4000000 in
set_option maxRecDepth 100000 in
theorem law_case_13 {p : Program} {l : Launch} {e : Env} {s : State} {m : MethodId} {below : List Frame} {meth : Method} {c : Code} {b L : Nat} {xs : Nat → Int32} {D : va_G} {g g2 : xm_G} {R : xm_M → xm_M → Prop} (hsim : xl_Sim R) (C0 : xl_C p s m meth c b L xs D g g2) {x3 : Int32} (hi0 : vp_in (x3 + 0) L) (hi1 : vp_in (x3 + 1) L) (hi2 : vp_in (x3 + 2) L) (hi3 : vp_in (x3 + 3) L) (hi4 : vp_in (x3 + 4) L) (hi5 : vp_in (x3 + 5) L) {ls : Array Slot} (hl : lv_has ls 4 [(0, .ref b), (1, .ref (g.1 0)), (2, .ref (g2.1 0)), (3, .int x3)]) {M N : xm_M} (hR : R M N)
    (hend : ∀ (M N : xm_M), R M N → ∀ (H : Heap) (locs : List Loc), va_P D vwCl (xm_w cL g M) H → va_P D vwCl (xm_w mL g2 N) H → va_S (fun q : Nat => s.heap.size ≤ q) s.heap H locs → W p l e room_1 s m #[Value.ref b] below meth c H locs 600000 7302250 (lw_Z below #[Value.ref b] s) (F0 m 735 ls []))
    {H : Heap} {locs : List Loc} (hPc : va_P D vwCl (xm_w cL g M) H) (hPm : va_P D vwCl (xm_w mL g2 N) H) (hS : va_S (fun q : Nat => s.heap.size ≤ q) s.heap H locs) : W p l e room_1 s m #[Value.ref b] below meth c H locs 600000 7302250 (lw_Z below #[Value.ref b] s) (F0 m 571 ls []) := by
  obtain ⟨⟨hx, hb, hml, hown, hts⟩, hr, hlocks, hX, hbl, hL, hK, hg2, hN, hSt, hI1, hI2, hT1, hT2, hA1, hA2, hdis⟩ := C0
  have hbA : ¬ (fun q : Nat => s.heap.size ≤ q) b := Nat.not_le.mpr hbl
  refine lv_aload_n hx hb dL_law_571 rfl (lv_at hl 1 rfl) ?_
  obtain ⟨r, M1, N1, hf, hf2, hR1⟩ := hsim.2.2.2.2.2.2.2.2.2.2.2.2.2.1  M N hR
  refine xl_call (L1 := cL) (L2 := mL) (h1 := g) (h2 := g2) (M := M) (M1 := M1) (N := N) (r := r) (As := []) ⟨hx, hb, hml, hown, hts⟩ hK hN hSt hI1 hT1 hA1 hdis (by have := kX3_bestBase (l := l)  M; rw [hf] at this; exact this) cL_0 rfl (xl_gV gm_345 gm_346 gm_347 gm_1 gm_348) rfl ⟨rfl, rfl⟩ ⟨rfl, hdX3_bestBase⟩ ⟨(Nat.le_of_ble_eq_true rfl), (Nat.le_of_ble_eq_true rfl)⟩ rfl (Nat.le_of_ble_eq_true rfl) rfl dL_law_572 hl.1 hPc hPm hS (fun H locs hPc hPm hS => ?_)
  refine lv_aload_n hx hb dL_law_575 rfl (lv_at hl 2 rfl) ?_
  refine xl_call (L1 := mL) (L2 := cL) (h1 := g2) (h2 := g) (M := N) (M1 := N1) (N := M1) (r := r) (As := []) ⟨hx, hb, hml, hown, hts⟩ (hg2 ▸ hK) hN hSt hI2 hT2 hA2 (fun i j hi hj h => hdis j i hj hi h.symm) (by have := kX4_bestBase (l := l)  N; rw [hf2] at this; exact this) mL_0 rfl (xl_gV gm_639 gm_640 gm_641 gm_5 gm_642) rfl ⟨rfl, rfl⟩ ⟨rfl, hdX4_bestBase⟩ ⟨(Nat.le_of_ble_eq_true rfl), (Nat.le_of_ble_eq_true rfl)⟩ rfl (Nat.le_of_ble_eq_true rfl) rfl dL_law_576 hl.1 hPm hPc hS (fun H locs hPm hPc hS => ?_)
  refine lv_icmp_eq (tgt := 735) hx hb dL_law_579 (by decide) (fun _ => ?_) (fun h => absurd rfl h)
  exact hend M1 N1 hR1 H locs hPc hPm hS
set_option maxHeartbeats 4000000 in
set_option maxRecDepth 100000 in
theorem law_case_14 {p : Program} {l : Launch} {e : Env} {s : State} {m : MethodId} {below : List Frame} {meth : Method} {c : Code} {b L : Nat} {xs : Nat → Int32} {D : va_G} {g g2 : xm_G} {R : xm_M → xm_M → Prop} (hsim : xl_Sim R) (C0 : xl_C p s m meth c b L xs D g g2) {x3 : Int32} (hi0 : vp_in (x3 + 0) L) (hi1 : vp_in (x3 + 1) L) (hi2 : vp_in (x3 + 2) L) (hi3 : vp_in (x3 + 3) L) (hi4 : vp_in (x3 + 4) L) (hi5 : vp_in (x3 + 5) L) {ls : Array Slot} (hl : lv_has ls 4 [(0, .ref b), (1, .ref (g.1 0)), (2, .ref (g2.1 0)), (3, .int x3)]) {M N : xm_M} (hR : R M N)
    (hend : ∀ (M N : xm_M), R M N → ∀ (H : Heap) (locs : List Loc), va_P D vwCl (xm_w cL g M) H → va_P D vwCl (xm_w mL g2 N) H → va_S (fun q : Nat => s.heap.size ≤ q) s.heap H locs → W p l e room_1 s m #[Value.ref b] below meth c H locs 600000 7302250 (lw_Z below #[Value.ref b] s) (F0 m 735 ls []))
    {H : Heap} {locs : List Loc} (hPc : va_P D vwCl (xm_w cL g M) H) (hPm : va_P D vwCl (xm_w mL g2 N) H) (hS : va_S (fun q : Nat => s.heap.size ≤ q) s.heap H locs) : W p l e room_1 s m #[Value.ref b] below meth c H locs 600000 7302250 (lw_Z below #[Value.ref b] s) (F0 m 584 ls []) := by
  obtain ⟨⟨hx, hb, hml, hown, hts⟩, hr, hlocks, hX, hbl, hL, hK, hg2, hN, hSt, hI1, hI2, hT1, hT2, hA1, hA2, hdis⟩ := C0
  have hbA : ¬ (fun q : Nat => s.heap.size ≤ q) b := Nat.not_le.mpr hbl
  refine lv_aload_n hx hb dL_law_584 rfl (lv_at hl 1 rfl) ?_
  obtain ⟨r, M1, N1, hf, hf2, hR1⟩ := hsim.2.2.2.2.2.2.2.2.2.2.2.2.2.2.1  M N hR
  refine xl_call (L1 := cL) (L2 := mL) (h1 := g) (h2 := g2) (M := M) (M1 := M1) (N := N) (r := r) (As := []) ⟨hx, hb, hml, hown, hts⟩ hK hN hSt hI1 hT1 hA1 hdis (by have := kX3_bestTrust (l := l)  M; rw [hf] at this; exact this) cL_0 rfl (xl_gV gm_354 gm_355 gm_356 gm_1 gm_357) rfl ⟨rfl, rfl⟩ ⟨rfl, hdX3_bestTrust⟩ ⟨(Nat.le_of_ble_eq_true rfl), (Nat.le_of_ble_eq_true rfl)⟩ rfl (Nat.le_of_ble_eq_true rfl) rfl dL_law_585 hl.1 hPc hPm hS (fun H locs hPc hPm hS => ?_)
  refine lv_aload_n hx hb dL_law_588 rfl (lv_at hl 2 rfl) ?_
  refine xl_call (L1 := mL) (L2 := cL) (h1 := g2) (h2 := g) (M := N) (M1 := N1) (N := M1) (r := r) (As := []) ⟨hx, hb, hml, hown, hts⟩ (hg2 ▸ hK) hN hSt hI2 hT2 hA2 (fun i j hi hj h => hdis j i hj hi h.symm) (by have := kX4_bestTrust (l := l)  N; rw [hf2] at this; exact this) mL_0 rfl (xl_gV gm_649 gm_650 gm_651 gm_5 gm_652) rfl ⟨rfl, rfl⟩ ⟨rfl, hdX4_bestTrust⟩ ⟨(Nat.le_of_ble_eq_true rfl), (Nat.le_of_ble_eq_true rfl)⟩ rfl (Nat.le_of_ble_eq_true rfl) rfl dL_law_589 hl.1 hPm hPc hS (fun H locs hPm hPc hS => ?_)
  refine lv_icmp_eq (tgt := 735) hx hb dL_law_592 (by decide) (fun _ => ?_) (fun h => absurd rfl h)
  exact hend M1 N1 hR1 H locs hPc hPm hS
set_option maxHeartbeats 4000000 in
set_option maxRecDepth 100000 in
theorem law_case_15 {p : Program} {l : Launch} {e : Env} {s : State} {m : MethodId} {below : List Frame} {meth : Method} {c : Code} {b L : Nat} {xs : Nat → Int32} {D : va_G} {g g2 : xm_G} {R : xm_M → xm_M → Prop} (hsim : xl_Sim R) (C0 : xl_C p s m meth c b L xs D g g2) {x3 : Int32} (hi0 : vp_in (x3 + 0) L) (hi1 : vp_in (x3 + 1) L) (hi2 : vp_in (x3 + 2) L) (hi3 : vp_in (x3 + 3) L) (hi4 : vp_in (x3 + 4) L) (hi5 : vp_in (x3 + 5) L) {ls : Array Slot} (hl : lv_has ls 4 [(0, .ref b), (1, .ref (g.1 0)), (2, .ref (g2.1 0)), (3, .int x3)]) {M N : xm_M} (hR : R M N)
    (hend : ∀ (M N : xm_M), R M N → ∀ (H : Heap) (locs : List Loc), va_P D vwCl (xm_w cL g M) H → va_P D vwCl (xm_w mL g2 N) H → va_S (fun q : Nat => s.heap.size ≤ q) s.heap H locs → W p l e room_1 s m #[Value.ref b] below meth c H locs 600000 7302250 (lw_Z below #[Value.ref b] s) (F0 m 735 ls []))
    {H : Heap} {locs : List Loc} (hPc : va_P D vwCl (xm_w cL g M) H) (hPm : va_P D vwCl (xm_w mL g2 N) H) (hS : va_S (fun q : Nat => s.heap.size ≤ q) s.heap H locs) : W p l e room_1 s m #[Value.ref b] below meth c H locs 600000 7302250 (lw_Z below #[Value.ref b] s) (F0 m 597 ls []) := by
  obtain ⟨⟨hx, hb, hml, hown, hts⟩, hr, hlocks, hX, hbl, hL, hK, hg2, hN, hSt, hI1, hI2, hT1, hT2, hA1, hA2, hdis⟩ := C0
  have hbA : ¬ (fun q : Nat => s.heap.size ≤ q) b := Nat.not_le.mpr hbl
  refine lv_aload_n hx hb dL_law_597 rfl (lv_at hl 1 rfl) ?_
  refine lv_aload_n hx hb dL_law_598 rfl (lv_at hl 0 rfl) ?_
  refine lv_iload_n hx hb dL_law_599 rfl (lv_at hl 3 rfl) ?_
  refine lv_iconst (v := 1) hx hb dL_law_600 (by decide) ?_
  refine lv_iadd hx hb dL_law_601 ?_
  refine va_sld hx hb hX hbl hbA hS hi1 dL_law_602 ?_
  refine lv_i2l hx hb dL_law_603 rfl ?_
  refine lv_bipush (v := 32) hx hb dL_law_604 (by decide) ?_
  refine lv_lshl hx hb dL_law_606 rfl ?_
  refine lv_aload_n hx hb dL_law_607 rfl (lv_at hl 0 rfl) ?_
  refine lv_iload_n hx hb dL_law_608 rfl (lv_at hl 3 rfl) ?_
  refine lv_iconst (v := 2) hx hb dL_law_609 (by decide) ?_
  refine lv_iadd hx hb dL_law_610 ?_
  refine va_sld hx hb hX hbl hbA hS hi2 dL_law_611 ?_
  refine lv_i2l hx hb dL_law_612 rfl ?_
  refine lv_ldc2 (v := 4294967295) hx hb hown (hts _ (lw_gd_in _ gm_696)) dL_law_613 ?_
  refine lv_land hx hb dL_law_616 ?_
  refine lv_lor hx hb dL_law_617 ?_
  obtain ⟨r, M1, N1, hf, hf2, hR1⟩ := hsim.2.2.2.2.2.2.2.2.2.2.2.2.2.2.2.1 (((xs (x3 + 1).toNatClampNeg).toInt64 <<< ((32 : Int32).toInt64 &&& 63)) ||| ((xs (x3 + 2).toNatClampNeg).toInt64 &&& (4294967295 : Int64))) M N hR
  refine xl_call (L1 := cL) (L2 := mL) (h1 := g) (h2 := g2) (M := M) (M1 := M1) (N := N) (r := r) (As := [.long (((xs (x3 + 1).toNatClampNeg).toInt64 <<< ((32 : Int32).toInt64 &&& 63)) ||| ((xs (x3 + 2).toNatClampNeg).toInt64 &&& (4294967295 : Int64)))]) ⟨hx, hb, hml, hown, hts⟩ hK hN hSt hI1 hT1 hA1 hdis (by have := kX3_put (l := l) (((xs (x3 + 1).toNatClampNeg).toInt64 <<< ((32 : Int32).toInt64 &&& 63)) ||| ((xs (x3 + 2).toNatClampNeg).toInt64 &&& (4294967295 : Int64))) M; rw [hf] at this; exact this) cL_0 rfl (xl_gV gm_358 gm_359 gm_360 gm_1 gm_361) rfl ⟨rfl, rfl⟩ ⟨rfl, hdX3_put⟩ ⟨(Nat.le_of_ble_eq_true rfl), (Nat.le_of_ble_eq_true rfl)⟩ rfl (Nat.le_of_ble_eq_true rfl) rfl dL_law_618 hl.1 hPc hPm hS (fun H locs hPc hPm hS => ?_)
  refine lv_aload_n hx hb dL_law_621 rfl (lv_at hl 2 rfl) ?_
  refine lv_aload_n hx hb dL_law_622 rfl (lv_at hl 0 rfl) ?_
  refine lv_iload_n hx hb dL_law_623 rfl (lv_at hl 3 rfl) ?_
  refine lv_iconst (v := 1) hx hb dL_law_624 (by decide) ?_
  refine lv_iadd hx hb dL_law_625 ?_
  refine va_sld hx hb hX hbl hbA hS hi1 dL_law_626 ?_
  refine lv_i2l hx hb dL_law_627 rfl ?_
  refine lv_bipush (v := 32) hx hb dL_law_628 (by decide) ?_
  refine lv_lshl hx hb dL_law_630 rfl ?_
  refine lv_aload_n hx hb dL_law_631 rfl (lv_at hl 0 rfl) ?_
  refine lv_iload_n hx hb dL_law_632 rfl (lv_at hl 3 rfl) ?_
  refine lv_iconst (v := 2) hx hb dL_law_633 (by decide) ?_
  refine lv_iadd hx hb dL_law_634 ?_
  refine va_sld hx hb hX hbl hbA hS hi2 dL_law_635 ?_
  refine lv_i2l hx hb dL_law_636 rfl ?_
  refine lv_ldc2 (v := 4294967295) hx hb hown (hts _ (lw_gd_in _ gm_696)) dL_law_637 ?_
  refine lv_land hx hb dL_law_640 ?_
  refine lv_lor hx hb dL_law_641 ?_
  refine xl_call (L1 := mL) (L2 := cL) (h1 := g2) (h2 := g) (M := N) (M1 := N1) (N := M1) (r := r) (As := [.long (((xs (x3 + 1).toNatClampNeg).toInt64 <<< ((32 : Int32).toInt64 &&& 63)) ||| ((xs (x3 + 2).toNatClampNeg).toInt64 &&& (4294967295 : Int64)))]) ⟨hx, hb, hml, hown, hts⟩ (hg2 ▸ hK) hN hSt hI2 hT2 hA2 (fun i j hi hj h => hdis j i hj hi h.symm) (by have := kX4_put (l := l) (((xs (x3 + 1).toNatClampNeg).toInt64 <<< ((32 : Int32).toInt64 &&& 63)) ||| ((xs (x3 + 2).toNatClampNeg).toInt64 &&& (4294967295 : Int64))) N; rw [hf2] at this; exact this) mL_0 rfl (xl_gV gm_653 gm_654 gm_655 gm_5 gm_656) rfl ⟨rfl, rfl⟩ ⟨rfl, hdX4_put⟩ ⟨(Nat.le_of_ble_eq_true rfl), (Nat.le_of_ble_eq_true rfl)⟩ rfl (Nat.le_of_ble_eq_true rfl) rfl dL_law_642 hl.1 hPm hPc hS (fun H locs hPm hPc hS => ?_)
  refine lv_icmp_eq (tgt := 735) hx hb dL_law_645 (by decide) (fun _ => ?_) (fun h => absurd rfl h)
  exact hend M1 N1 hR1 H locs hPc hPm hS
set_option maxHeartbeats 4000000 in
set_option maxRecDepth 100000 in
theorem law_case_16 {p : Program} {l : Launch} {e : Env} {s : State} {m : MethodId} {below : List Frame} {meth : Method} {c : Code} {b L : Nat} {xs : Nat → Int32} {D : va_G} {g g2 : xm_G} {R : xm_M → xm_M → Prop} (hsim : xl_Sim R) (C0 : xl_C p s m meth c b L xs D g g2) {x3 : Int32} (hi0 : vp_in (x3 + 0) L) (hi1 : vp_in (x3 + 1) L) (hi2 : vp_in (x3 + 2) L) (hi3 : vp_in (x3 + 3) L) (hi4 : vp_in (x3 + 4) L) (hi5 : vp_in (x3 + 5) L) {ls : Array Slot} (hl : lv_has ls 4 [(0, .ref b), (1, .ref (g.1 0)), (2, .ref (g2.1 0)), (3, .int x3)]) {M N : xm_M} (hR : R M N)
    (hend : ∀ (M N : xm_M), R M N → ∀ (H : Heap) (locs : List Loc), va_P D vwCl (xm_w cL g M) H → va_P D vwCl (xm_w mL g2 N) H → va_S (fun q : Nat => s.heap.size ≤ q) s.heap H locs → W p l e room_1 s m #[Value.ref b] below meth c H locs 600000 7302250 (lw_Z below #[Value.ref b] s) (F0 m 735 ls []))
    {H : Heap} {locs : List Loc} (hPc : va_P D vwCl (xm_w cL g M) H) (hPm : va_P D vwCl (xm_w mL g2 N) H) (hS : va_S (fun q : Nat => s.heap.size ≤ q) s.heap H locs) : W p l e room_1 s m #[Value.ref b] below meth c H locs 600000 7302250 (lw_Z below #[Value.ref b] s) (F0 m 650 ls []) := by
  obtain ⟨⟨hx, hb, hml, hown, hts⟩, hr, hlocks, hX, hbl, hL, hK, hg2, hN, hSt, hI1, hI2, hT1, hT2, hA1, hA2, hdis⟩ := C0
  have hbA : ¬ (fun q : Nat => s.heap.size ≤ q) b := Nat.not_le.mpr hbl
  refine lv_aload_n hx hb dL_law_650 rfl (lv_at hl 1 rfl) ?_
  obtain ⟨r, M1, N1, hf, hf2, hR1⟩ := hsim.2.2.2.2.2.2.2.2.2.2.2.2.2.2.2.2.1  M N hR
  refine xl_call (L1 := cL) (L2 := mL) (h1 := g) (h2 := g2) (M := M) (M1 := M1) (N := N) (r := r) (As := []) ⟨hx, hb, hml, hown, hts⟩ hK hN hSt hI1 hT1 hA1 hdis (by have := kX3_wipe (l := l)  M; rw [hf] at this; exact this) cL_0 rfl (xl_gV gm_370 gm_371 gm_372 gm_1 gm_373) rfl ⟨rfl, rfl⟩ ⟨rfl, hdX3_wipe⟩ ⟨(Nat.le_of_ble_eq_true rfl), (Nat.le_of_ble_eq_true rfl)⟩ rfl (Nat.le_of_ble_eq_true rfl) rfl dL_law_651 hl.1 hPc hPm hS (fun H locs hPc hPm hS => ?_)
  refine lv_aload_n hx hb dL_law_654 rfl (lv_at hl 2 rfl) ?_
  refine xl_call (L1 := mL) (L2 := cL) (h1 := g2) (h2 := g) (M := N) (M1 := N1) (N := M1) (r := r) (As := []) ⟨hx, hb, hml, hown, hts⟩ (hg2 ▸ hK) hN hSt hI2 hT2 hA2 (fun i j hi hj h => hdis j i hj hi h.symm) (by have := kX4_wipe (l := l)  N; rw [hf2] at this; exact this) mL_0 rfl (xl_gV gm_658 gm_659 gm_660 gm_5 gm_661) rfl ⟨rfl, rfl⟩ ⟨rfl, hdX4_wipe⟩ ⟨(Nat.le_of_ble_eq_true rfl), (Nat.le_of_ble_eq_true rfl)⟩ rfl (Nat.le_of_ble_eq_true rfl) rfl dL_law_655 hl.1 hPm hPc hS (fun H locs hPm hPc hS => ?_)
  refine lv_icmp_eq (tgt := 735) hx hb dL_law_658 (by decide) (fun _ => ?_) (fun h => absurd rfl h)
  exact hend M1 N1 hR1 H locs hPc hPm hS
set_option maxHeartbeats 4000000 in
set_option maxRecDepth 100000 in
theorem law_case_17 {p : Program} {l : Launch} {e : Env} {s : State} {m : MethodId} {below : List Frame} {meth : Method} {c : Code} {b L : Nat} {xs : Nat → Int32} {D : va_G} {g g2 : xm_G} {R : xm_M → xm_M → Prop} (hsim : xl_Sim R) (C0 : xl_C p s m meth c b L xs D g g2) {x3 : Int32} (hi0 : vp_in (x3 + 0) L) (hi1 : vp_in (x3 + 1) L) (hi2 : vp_in (x3 + 2) L) (hi3 : vp_in (x3 + 3) L) (hi4 : vp_in (x3 + 4) L) (hi5 : vp_in (x3 + 5) L) {ls : Array Slot} (hl : lv_has ls 4 [(0, .ref b), (1, .ref (g.1 0)), (2, .ref (g2.1 0)), (3, .int x3)]) {M N : xm_M} (hR : R M N)
    (hend : ∀ (M N : xm_M), R M N → ∀ (H : Heap) (locs : List Loc), va_P D vwCl (xm_w cL g M) H → va_P D vwCl (xm_w mL g2 N) H → va_S (fun q : Nat => s.heap.size ≤ q) s.heap H locs → W p l e room_1 s m #[Value.ref b] below meth c H locs 600000 7302250 (lw_Z below #[Value.ref b] s) (F0 m 735 ls []))
    {H : Heap} {locs : List Loc} (hPc : va_P D vwCl (xm_w cL g M) H) (hPm : va_P D vwCl (xm_w mL g2 N) H) (hS : va_S (fun q : Nat => s.heap.size ≤ q) s.heap H locs) : W p l e room_1 s m #[Value.ref b] below meth c H locs 600000 7302250 (lw_Z below #[Value.ref b] s) (F0 m 663 ls []) := by
  obtain ⟨⟨hx, hb, hml, hown, hts⟩, hr, hlocks, hX, hbl, hL, hK, hg2, hN, hSt, hI1, hI2, hT1, hT2, hA1, hA2, hdis⟩ := C0
  have hbA : ¬ (fun q : Nat => s.heap.size ≤ q) b := Nat.not_le.mpr hbl
  refine lv_aload_n hx hb dL_law_663 rfl (lv_at hl 1 rfl) ?_
  obtain ⟨r, M1, N1, hf, hf2, hR1⟩ := hsim.2.2.2.2.2.2.2.2.2.2.2.2.2.2.2.2.2.1  M N hR
  refine xl_call (L1 := cL) (L2 := mL) (h1 := g) (h2 := g2) (M := M) (M1 := M1) (N := N) (r := r) (As := []) ⟨hx, hb, hml, hown, hts⟩ hK hN hSt hI1 hT1 hA1 hdis (by have := kX3_fault (l := l)  M; rw [hf] at this; exact this) cL_0 rfl (xl_gV gm_374 gm_375 gm_376 gm_1 gm_377) rfl ⟨rfl, rfl⟩ ⟨rfl, hdX3_fault⟩ ⟨(Nat.le_of_ble_eq_true rfl), (Nat.le_of_ble_eq_true rfl)⟩ rfl (Nat.le_of_ble_eq_true rfl) rfl dL_law_664 hl.1 hPc hPm hS (fun H locs hPc hPm hS => ?_)
  refine lv_aload_n hx hb dL_law_667 rfl (lv_at hl 2 rfl) ?_
  refine xl_call (L1 := mL) (L2 := cL) (h1 := g2) (h2 := g) (M := N) (M1 := N1) (N := M1) (r := r) (As := []) ⟨hx, hb, hml, hown, hts⟩ (hg2 ▸ hK) hN hSt hI2 hT2 hA2 (fun i j hi hj h => hdis j i hj hi h.symm) (by have := kX4_fault (l := l)  N; rw [hf2] at this; exact this) mL_0 rfl (xl_gV gm_662 gm_663 gm_664 gm_5 gm_665) rfl ⟨rfl, rfl⟩ ⟨rfl, hdX4_fault⟩ ⟨(Nat.le_of_ble_eq_true rfl), (Nat.le_of_ble_eq_true rfl)⟩ rfl (Nat.le_of_ble_eq_true rfl) rfl dL_law_668 hl.1 hPm hPc hS (fun H locs hPm hPc hS => ?_)
  refine lv_icmp_eq (tgt := 735) hx hb dL_law_671 (by decide) (fun _ => ?_) (fun h => absurd rfl h)
  exact hend M1 N1 hR1 H locs hPc hPm hS
set_option maxHeartbeats 4000000 in
set_option maxRecDepth 100000 in
theorem law_case_18 {p : Program} {l : Launch} {e : Env} {s : State} {m : MethodId} {below : List Frame} {meth : Method} {c : Code} {b L : Nat} {xs : Nat → Int32} {D : va_G} {g g2 : xm_G} {R : xm_M → xm_M → Prop} (hsim : xl_Sim R) (C0 : xl_C p s m meth c b L xs D g g2) {x3 : Int32} (hi0 : vp_in (x3 + 0) L) (hi1 : vp_in (x3 + 1) L) (hi2 : vp_in (x3 + 2) L) (hi3 : vp_in (x3 + 3) L) (hi4 : vp_in (x3 + 4) L) (hi5 : vp_in (x3 + 5) L) {ls : Array Slot} (hl : lv_has ls 4 [(0, .ref b), (1, .ref (g.1 0)), (2, .ref (g2.1 0)), (3, .int x3)]) {M N : xm_M} (hR : R M N)
    (hend : ∀ (M N : xm_M), R M N → ∀ (H : Heap) (locs : List Loc), va_P D vwCl (xm_w cL g M) H → va_P D vwCl (xm_w mL g2 N) H → va_S (fun q : Nat => s.heap.size ≤ q) s.heap H locs → W p l e room_1 s m #[Value.ref b] below meth c H locs 600000 7302250 (lw_Z below #[Value.ref b] s) (F0 m 735 ls []))
    {H : Heap} {locs : List Loc} (hPc : va_P D vwCl (xm_w cL g M) H) (hPm : va_P D vwCl (xm_w mL g2 N) H) (hS : va_S (fun q : Nat => s.heap.size ≤ q) s.heap H locs) : W p l e room_1 s m #[Value.ref b] below meth c H locs 600000 7302250 (lw_Z below #[Value.ref b] s) (F0 m 676 ls []) := by
  obtain ⟨⟨hx, hb, hml, hown, hts⟩, hr, hlocks, hX, hbl, hL, hK, hg2, hN, hSt, hI1, hI2, hT1, hT2, hA1, hA2, hdis⟩ := C0
  have hbA : ¬ (fun q : Nat => s.heap.size ≤ q) b := Nat.not_le.mpr hbl
  refine lv_aload_n hx hb dL_law_676 rfl (lv_at hl 1 rfl) ?_
  obtain ⟨r, M1, N1, hf, hf2, hR1⟩ := hsim.2.2.2.2.2.2.2.2.2.2.2.2.2.2.2.2.2.2.1  M N hR
  refine xl_call (L1 := cL) (L2 := mL) (h1 := g) (h2 := g2) (M := M) (M1 := M1) (N := N) (r := r) (As := []) ⟨hx, hb, hml, hown, hts⟩ hK hN hSt hI1 hT1 hA1 hdis (by have := kX3_load (l := l)  M; rw [hf] at this; exact this) cL_0 rfl (xl_gV gm_400 gm_401 gm_402 gm_1 gm_403) rfl ⟨rfl, rfl⟩ ⟨rfl, hdX3_load⟩ ⟨(Nat.le_of_ble_eq_true rfl), (Nat.le_of_ble_eq_true rfl)⟩ rfl (Nat.le_of_ble_eq_true rfl) rfl dL_law_677 hl.1 hPc hPm hS (fun H locs hPc hPm hS => ?_)
  refine lv_aload_n hx hb dL_law_680 rfl (lv_at hl 2 rfl) ?_
  refine xl_call (L1 := mL) (L2 := cL) (h1 := g2) (h2 := g) (M := N) (M1 := N1) (N := M1) (r := r) (As := []) ⟨hx, hb, hml, hown, hts⟩ (hg2 ▸ hK) hN hSt hI2 hT2 hA2 (fun i j hi hj h => hdis j i hj hi h.symm) (by have := kX4_load (l := l)  N; rw [hf2] at this; exact this) mL_0 rfl (xl_gV gm_681 gm_682 gm_683 gm_5 gm_684) rfl ⟨rfl, rfl⟩ ⟨rfl, hdX4_load⟩ ⟨(Nat.le_of_ble_eq_true rfl), (Nat.le_of_ble_eq_true rfl)⟩ rfl (Nat.le_of_ble_eq_true rfl) rfl dL_law_681 hl.1 hPm hPc hS (fun H locs hPm hPc hS => ?_)
  refine lv_icmp_eq (tgt := 735) hx hb dL_law_684 (by decide) (fun _ => ?_) (fun h => absurd rfl h)
  exact hend M1 N1 hR1 H locs hPc hPm hS
set_option maxHeartbeats 4000000 in
set_option maxRecDepth 100000 in
theorem law_case_19 {p : Program} {l : Launch} {e : Env} {s : State} {m : MethodId} {below : List Frame} {meth : Method} {c : Code} {b L : Nat} {xs : Nat → Int32} {D : va_G} {g g2 : xm_G} {R : xm_M → xm_M → Prop} (hsim : xl_Sim R) (C0 : xl_C p s m meth c b L xs D g g2) {x3 : Int32} (hi0 : vp_in (x3 + 0) L) (hi1 : vp_in (x3 + 1) L) (hi2 : vp_in (x3 + 2) L) (hi3 : vp_in (x3 + 3) L) (hi4 : vp_in (x3 + 4) L) (hi5 : vp_in (x3 + 5) L) {ls : Array Slot} (hl : lv_has ls 4 [(0, .ref b), (1, .ref (g.1 0)), (2, .ref (g2.1 0)), (3, .int x3)]) {M N : xm_M} (hR : R M N)
    (hend : ∀ (M N : xm_M), R M N → ∀ (H : Heap) (locs : List Loc), va_P D vwCl (xm_w cL g M) H → va_P D vwCl (xm_w mL g2 N) H → va_S (fun q : Nat => s.heap.size ≤ q) s.heap H locs → W p l e room_1 s m #[Value.ref b] below meth c H locs 600000 7302250 (lw_Z below #[Value.ref b] s) (F0 m 735 ls []))
    {H : Heap} {locs : List Loc} (hPc : va_P D vwCl (xm_w cL g M) H) (hPm : va_P D vwCl (xm_w mL g2 N) H) (hS : va_S (fun q : Nat => s.heap.size ≤ q) s.heap H locs) : W p l e room_1 s m #[Value.ref b] below meth c H locs 600000 7302250 (lw_Z below #[Value.ref b] s) (F0 m 689 ls []) := by
  obtain ⟨⟨hx, hb, hml, hown, hts⟩, hr, hlocks, hX, hbl, hL, hK, hg2, hN, hSt, hI1, hI2, hT1, hT2, hA1, hA2, hdis⟩ := C0
  have hbA : ¬ (fun q : Nat => s.heap.size ≤ q) b := Nat.not_le.mpr hbl
  refine lv_aload_n hx hb dL_law_689 rfl (lv_at hl 1 rfl) ?_
  refine lv_aload_n hx hb dL_law_690 rfl (lv_at hl 0 rfl) ?_
  refine lv_iload_n hx hb dL_law_691 rfl (lv_at hl 3 rfl) ?_
  refine lv_iconst (v := 1) hx hb dL_law_692 (by decide) ?_
  refine lv_iadd hx hb dL_law_693 ?_
  refine va_sld hx hb hX hbl hbA hS hi1 dL_law_694 ?_
  obtain ⟨r, M1, N1, hf, hf2, hR1⟩ := hsim.2.2.2.2.2.2.2.2.2.2.2.2.2.2.2.2.2.2.2.1 (xs (x3 + 1).toNatClampNeg) M N hR
  refine xl_call (L1 := cL) (L2 := mL) (h1 := g) (h2 := g2) (M := M) (M1 := M1) (N := N) (r := r) (As := [.int (xs (x3 + 1).toNatClampNeg)]) ⟨hx, hb, hml, hown, hts⟩ hK hN hSt hI1 hT1 hA1 hdis (by have := kX3_save (l := l) (xs (x3 + 1).toNatClampNeg) M; rw [hf] at this; exact this) cL_0 rfl (xl_gV gm_409 gm_410 gm_411 gm_1 gm_412) rfl ⟨rfl, rfl⟩ ⟨rfl, hdX3_save⟩ ⟨(Nat.le_of_ble_eq_true rfl), (Nat.le_of_ble_eq_true rfl)⟩ rfl (Nat.le_of_ble_eq_true rfl) rfl dL_law_695 hl.1 hPc hPm hS (fun H locs hPc hPm hS => ?_)
  refine lv_aload_n hx hb dL_law_698 rfl (lv_at hl 2 rfl) ?_
  refine lv_aload_n hx hb dL_law_699 rfl (lv_at hl 0 rfl) ?_
  refine lv_iload_n hx hb dL_law_700 rfl (lv_at hl 3 rfl) ?_
  refine lv_iconst (v := 1) hx hb dL_law_701 (by decide) ?_
  refine lv_iadd hx hb dL_law_702 ?_
  refine va_sld hx hb hX hbl hbA hS hi1 dL_law_703 ?_
  refine xl_call (L1 := mL) (L2 := cL) (h1 := g2) (h2 := g) (M := N) (M1 := N1) (N := M1) (r := r) (As := [.int (xs (x3 + 1).toNatClampNeg)]) ⟨hx, hb, hml, hown, hts⟩ (hg2 ▸ hK) hN hSt hI2 hT2 hA2 (fun i j hi hj h => hdis j i hj hi h.symm) (by have := kX4_save (l := l) (xs (x3 + 1).toNatClampNeg) N; rw [hf2] at this; exact this) mL_0 rfl (xl_gV gm_688 gm_689 gm_690 gm_5 gm_691) rfl ⟨rfl, rfl⟩ ⟨rfl, hdX4_save⟩ ⟨(Nat.le_of_ble_eq_true rfl), (Nat.le_of_ble_eq_true rfl)⟩ rfl (Nat.le_of_ble_eq_true rfl) rfl dL_law_704 hl.1 hPm hPc hS (fun H locs hPm hPc hS => ?_)
  refine lv_icmp_eq (tgt := 735) hx hb dL_law_707 (by decide) (fun _ => ?_) (fun h => absurd rfl h)
  exact hend M1 N1 hR1 H locs hPc hPm hS
set_option maxHeartbeats 4000000 in
set_option maxRecDepth 100000 in
theorem law_case_20 {p : Program} {l : Launch} {e : Env} {s : State} {m : MethodId} {below : List Frame} {meth : Method} {c : Code} {b L : Nat} {xs : Nat → Int32} {D : va_G} {g g2 : xm_G} {R : xm_M → xm_M → Prop} (hsim : xl_Sim R) (C0 : xl_C p s m meth c b L xs D g g2) {x3 : Int32} (hi0 : vp_in (x3 + 0) L) (hi1 : vp_in (x3 + 1) L) (hi2 : vp_in (x3 + 2) L) (hi3 : vp_in (x3 + 3) L) (hi4 : vp_in (x3 + 4) L) (hi5 : vp_in (x3 + 5) L) {ls : Array Slot} (hl : lv_has ls 4 [(0, .ref b), (1, .ref (g.1 0)), (2, .ref (g2.1 0)), (3, .int x3)]) {M N : xm_M} (hR : R M N)
    (hend : ∀ (M N : xm_M), R M N → ∀ (H : Heap) (locs : List Loc), va_P D vwCl (xm_w cL g M) H → va_P D vwCl (xm_w mL g2 N) H → va_S (fun q : Nat => s.heap.size ≤ q) s.heap H locs → W p l e room_1 s m #[Value.ref b] below meth c H locs 600000 7302250 (lw_Z below #[Value.ref b] s) (F0 m 735 ls []))
    {H : Heap} {locs : List Loc} (hPc : va_P D vwCl (xm_w cL g M) H) (hPm : va_P D vwCl (xm_w mL g2 N) H) (hS : va_S (fun q : Nat => s.heap.size ≤ q) s.heap H locs) : W p l e room_1 s m #[Value.ref b] below meth c H locs 600000 7302250 (lw_Z below #[Value.ref b] s) (F0 m 712 ls []) := by
  obtain ⟨⟨hx, hb, hml, hown, hts⟩, hr, hlocks, hX, hbl, hL, hK, hg2, hN, hSt, hI1, hI2, hT1, hT2, hA1, hA2, hdis⟩ := C0
  have hbA : ¬ (fun q : Nat => s.heap.size ≤ q) b := Nat.not_le.mpr hbl
  refine lv_aload_n hx hb dL_law_712 rfl (lv_at hl 1 rfl) ?_
  refine lv_aload_n hx hb dL_law_713 rfl (lv_at hl 0 rfl) ?_
  refine lv_iload_n hx hb dL_law_714 rfl (lv_at hl 3 rfl) ?_
  refine lv_iconst (v := 1) hx hb dL_law_715 (by decide) ?_
  refine lv_iadd hx hb dL_law_716 ?_
  refine va_sld hx hb hX hbl hbA hS hi1 dL_law_717 ?_
  obtain ⟨r, M1, N1, hf, hf2, hR1⟩ := hsim.2.2.2.2.2.2.2.2.2.2.2.2.2.2.2.2.2.2.2.2 (xs (x3 + 1).toNatClampNeg) M N hR
  refine xl_call (L1 := cL) (L2 := mL) (h1 := g) (h2 := g2) (M := M) (M1 := M1) (N := N) (r := r) (As := [.int (xs (x3 + 1).toNatClampNeg)]) ⟨hx, hb, hml, hown, hts⟩ hK hN hSt hI1 hT1 hA1 hdis (by have := kX3_restore (l := l) (xs (x3 + 1).toNatClampNeg) M; rw [hf] at this; exact this) cL_0 rfl (xl_gV gm_422 gm_423 gm_424 gm_1 gm_425) rfl ⟨rfl, rfl⟩ ⟨rfl, hdX3_restore⟩ ⟨(Nat.le_of_ble_eq_true rfl), (Nat.le_of_ble_eq_true rfl)⟩ rfl (Nat.le_of_ble_eq_true rfl) rfl dL_law_718 hl.1 hPc hPm hS (fun H locs hPc hPm hS => ?_)
  refine lv_aload_n hx hb dL_law_721 rfl (lv_at hl 2 rfl) ?_
  refine lv_aload_n hx hb dL_law_722 rfl (lv_at hl 0 rfl) ?_
  refine lv_iload_n hx hb dL_law_723 rfl (lv_at hl 3 rfl) ?_
  refine lv_iconst (v := 1) hx hb dL_law_724 (by decide) ?_
  refine lv_iadd hx hb dL_law_725 ?_
  refine va_sld hx hb hX hbl hbA hS hi1 dL_law_726 ?_
  refine xl_call (L1 := mL) (L2 := cL) (h1 := g2) (h2 := g) (M := N) (M1 := N1) (N := M1) (r := r) (As := [.int (xs (x3 + 1).toNatClampNeg)]) ⟨hx, hb, hml, hown, hts⟩ (hg2 ▸ hK) hN hSt hI2 hT2 hA2 (fun i j hi hj h => hdis j i hj hi h.symm) (by have := kX4_restore (l := l) (xs (x3 + 1).toNatClampNeg) N; rw [hf2] at this; exact this) mL_0 rfl (xl_gV gm_692 gm_693 gm_694 gm_5 gm_695) rfl ⟨rfl, rfl⟩ ⟨rfl, hdX4_restore⟩ ⟨(Nat.le_of_ble_eq_true rfl), (Nat.le_of_ble_eq_true rfl)⟩ rfl (Nat.le_of_ble_eq_true rfl) rfl dL_law_727 hl.1 hPm hPc hS (fun H locs hPm hPc hS => ?_)
  refine lv_icmp_eq (tgt := 735) hx hb dL_law_730 (by decide) (fun _ => ?_) (fun h => absurd rfl h)
  exact hend M1 N1 hR1 H locs hPc hPm hS
set_option maxHeartbeats 4000000 in
set_option maxRecDepth 100000 in
theorem law_loop {p : Program} {l : Launch} {e : Env} {s : State} {m : MethodId} {below : List Frame} {meth : Method} {c : Code} {b L : Nat} {xs : Nat → Int32} {D : va_G} {g g2 : xm_G} {R : xm_M → xm_M → Prop} (hsim : xl_Sim R) (C0 : xl_C p s m meth c b L xs D g g2) : ∀ (n i : Nat) (x3 : Int32), L + 6 ≤ i + n → i ≤ L → x3 = nI i → ∀ (M N : xm_M), R M N → ∀ (ls : Array Slot), lv_has ls 4 [(0, .ref b), (1, .ref (g.1 0)), (2, .ref (g2.1 0)), (3, .int x3)] → ∀ (H : Heap) (locs : List Loc), va_P D vwCl (xm_w cL g M) H → va_P D vwCl (xm_w mL g2 N) H → va_S (fun q : Nat => s.heap.size ≤ q) s.heap H locs → W p l e room_1 s m #[Value.ref b] below meth c H locs 600000 7302250 (lw_Z below #[Value.ref b] s) (F0 m 18 ls []) := by
  obtain ⟨⟨hx, hb, hml, hown, hts⟩, hr, hlocks, hX, hbl, hL, hK, hg2, hN, hSt, hI1, hI2, hT1, hT2, hA1, hA2, hdis⟩ := id C0
  have hbA : ¬ (fun q : Nat => s.heap.size ≤ q) b := Nat.not_le.mpr hbl
  intro n
  induction n with
  | zero =>
    intro i x3 h1 h2
    exact absurd h1 (by omega)
  | succ n ih =>
    intro i x3 hin hiL ex3 M N hR ls hl H locs hPc hPm hS
    refine lv_iload_n hx hb dL_law_18 rfl (lv_at hl 3 rfl) ?_
    refine lv_aload_n hx hb dL_law_19 rfl (lv_at hl 0 rfl) ?_
    refine va_slen hx hb hX hbl hbA hS dL_law_20 ?_
    refine lv_bipush (v := 6) hx hb dL_law_21 (by decide) ?_
    refine lv_isub hx hb dL_law_23 ?_
    refine lv_icmp_gt (tgt := 741) hx hb dL_law_24 (by decide) (fun _ => ?_) (fun c_1 => ?_)
    · refine lv_iconst (v := 1) hx hb dL_law_741 (by decide) ?_
      refine va_forget (fun q hq => hS.2.2 q hq) ?_
      exact lw_ret hx hb hr hlocks dL_law_742
    · have hlt : i + 5 < L := by
        have e1 : (Int32.ofNat L).toInt = (L : Int) := nI_toInt (n := L) (by omega)
        have e2 : (Int32.ofNat L - 6).toInt = (L : Int) - 6 := by
          rw [Int32.toInt_sub, e1, show (6 : Int32).toInt = 6 from rfl]
          exact Int.bmod_eq_of_le (by omega) (by omega)
        have e3 : x3.toInt = (i : Int) := by rw [ex3]; exact nI_toInt (by omega)
        have e4 := Int32.not_lt.mp c_1
        rw [Int32.le_iff_toInt_le, e2, e3] at e4
        omega
      have hik : ∀ (j : Nat) (y : Int32), y = nI j → j < 6 → vp_in (x3 + y) L := fun j y hy hj => by rw [ex3, hy, nI_add]; exact vp_in_nI (by omega) (by omega)
      have hi0 := hik 0 0 rfl (by omega)
      have hi1 := hik 1 1 rfl (by omega)
      have hi2 := hik 2 2 rfl (by omega)
      have hi3 := hik 3 3 rfl (by omega)
      have hi4 := hik 4 4 rfl (by omega)
      have hi5 := hik 5 5 rfl (by omega)
      have hi : vp_in x3 L := by rw [ex3]; exact vp_in_nI (by omega) (by omega)
      have hend : ∀ (M N : xm_M), R M N → ∀ (H : Heap) (locs : List Loc), va_P D vwCl (xm_w cL g M) H → va_P D vwCl (xm_w mL g2 N) H → va_S (fun q : Nat => s.heap.size ≤ q) s.heap H locs → W p l e room_1 s m #[Value.ref b] below meth c H locs 600000 7302250 (lw_Z below #[Value.ref b] s) (F0 m 735 ls []) := by
        intro M N hR H locs hPc hPm hS
        obtain ⟨x4, ex4⟩ : ∃ y : Int32, y = x3 + 6 := ⟨_, rfl⟩
        refine lv_iinc (v := x4) (lv' := [(3, .int x4), (0, .ref b), (1, .ref (g.1 0)), (2, .ref (g2.1 0))]) hx hb dL_law_735 hl (k := 3) rfl (by rw [ex4]; rfl) (by decide) rfl (fun ls hl => ?_)
        refine lv_goto (tgt := 18) hx hb dL_law_738 (by decide) ?_
        exact ih (i + 6) x4 (by omega) (by omega) (by rw [ex4, ex3, ← nI_add]; rfl) M N hR ls (lv_sub hl [1, 2, 3, 0] rfl) H locs hPc hPm hS
      refine lv_aload_n hx hb dL_law_27 rfl (lv_at hl 0 rfl) ?_
      refine lv_iload_n hx hb dL_law_28 rfl (lv_at hl 3 rfl) ?_
      refine va_sld hx hb hX hbl hbA hS hi dL_law_29 ?_
      refine lv_bipush (v := 31) hx hb dL_law_30 (by decide) ?_
      refine lv_iand hx hb dL_law_32 ?_
      by_cases z0 : xs x3.toNatClampNeg &&& 31 = 0
      · refine lv_tableIn (tgt := 132) (off := 99) hx hb dL_law_33 (by rw [z0]; decide) (by rw [z0]; decide) (by rw [z0]; rfl) rfl ?_
        exact law_case_0 hsim C0 hi0 hi1 hi2 hi3 hi4 hi5 hl hR hend hPc hPm hS
      by_cases z1 : xs x3.toNatClampNeg &&& 31 = 1
      · refine lv_tableIn (tgt := 165) (off := 132) hx hb dL_law_33 (by rw [z1]; decide) (by rw [z1]; decide) (by rw [z1]; rfl) rfl ?_
        exact law_case_1 hsim C0 hi0 hi1 hi2 hi3 hi4 hi5 hl hR hend hPc hPm hS
      by_cases z2 : xs x3.toNatClampNeg &&& 31 = 2
      · refine lv_tableIn (tgt := 228) (off := 195) hx hb dL_law_33 (by rw [z2]; decide) (by rw [z2]; decide) (by rw [z2]; rfl) rfl ?_
        exact law_case_2 hsim C0 hi0 hi1 hi2 hi3 hi4 hi5 hl hR hend hPc hPm hS
      by_cases z3 : xs x3.toNatClampNeg &&& 31 = 3
      · refine lv_tableIn (tgt := 261) (off := 228) hx hb dL_law_33 (by rw [z3]; decide) (by rw [z3]; decide) (by rw [z3]; rfl) rfl ?_
        exact law_case_3 hsim C0 hi0 hi1 hi2 hi3 hi4 hi5 hl hR hend hPc hPm hS
      by_cases z4 : xs x3.toNatClampNeg &&& 31 = 4
      · refine lv_tableIn (tgt := 274) (off := 241) hx hb dL_law_33 (by rw [z4]; decide) (by rw [z4]; decide) (by rw [z4]; rfl) rfl ?_
        exact law_case_4 hsim C0 hi0 hi1 hi2 hi3 hi4 hi5 hl hR hend hPc hPm hS
      by_cases z5 : xs x3.toNatClampNeg &&& 31 = 5
      · refine lv_tableIn (tgt := 317) (off := 284) hx hb dL_law_33 (by rw [z5]; decide) (by rw [z5]; decide) (by rw [z5]; rfl) rfl ?_
        exact law_case_5 hsim C0 hi0 hi1 hi2 hi3 hi4 hi5 hl hR hend hPc hPm hS
      by_cases z6 : xs x3.toNatClampNeg &&& 31 = 6
      · refine lv_tableIn (tgt := 360) (off := 327) hx hb dL_law_33 (by rw [z6]; decide) (by rw [z6]; decide) (by rw [z6]; rfl) rfl ?_
        exact law_case_6 hsim C0 hi0 hi1 hi2 hi3 hi4 hi5 hl hR hend hPc hPm hS
      by_cases z7 : xs x3.toNatClampNeg &&& 31 = 7
      · refine lv_tableIn (tgt := 383) (off := 350) hx hb dL_law_33 (by rw [z7]; decide) (by rw [z7]; decide) (by rw [z7]; rfl) rfl ?_
        exact law_case_7 hsim C0 hi0 hi1 hi2 hi3 hi4 hi5 hl hR hend hPc hPm hS
      by_cases z8 : xs x3.toNatClampNeg &&& 31 = 8
      · refine lv_tableIn (tgt := 406) (off := 373) hx hb dL_law_33 (by rw [z8]; decide) (by rw [z8]; decide) (by rw [z8]; rfl) rfl ?_
        exact law_case_8 hsim C0 hi0 hi1 hi2 hi3 hi4 hi5 hl hR hend hPc hPm hS
      by_cases z9 : xs x3.toNatClampNeg &&& 31 = 9
      · refine lv_tableIn (tgt := 439) (off := 406) hx hb dL_law_33 (by rw [z9]; decide) (by rw [z9]; decide) (by rw [z9]; rfl) rfl ?_
        exact law_case_9 hsim C0 hi0 hi1 hi2 hi3 hi4 hi5 hl hR hend hPc hPm hS
      by_cases z10 : xs x3.toNatClampNeg &&& 31 = 10
      · refine lv_tableIn (tgt := 472) (off := 439) hx hb dL_law_33 (by rw [z10]; decide) (by rw [z10]; decide) (by rw [z10]; rfl) rfl ?_
        exact law_case_10 hsim C0 hi0 hi1 hi2 hi3 hi4 hi5 hl hR hend hPc hPm hS
      by_cases z11 : xs x3.toNatClampNeg &&& 31 = 11
      · refine lv_tableIn (tgt := 495) (off := 462) hx hb dL_law_33 (by rw [z11]; decide) (by rw [z11]; decide) (by rw [z11]; rfl) rfl ?_
        exact law_case_11 hsim C0 hi0 hi1 hi2 hi3 hi4 hi5 hl hR hend hPc hPm hS
      by_cases z12 : xs x3.toNatClampNeg &&& 31 = 12
      · refine lv_tableIn (tgt := 528) (off := 495) hx hb dL_law_33 (by rw [z12]; decide) (by rw [z12]; decide) (by rw [z12]; rfl) rfl ?_
        exact law_case_12 hsim C0 hi0 hi1 hi2 hi3 hi4 hi5 hl hR hend hPc hPm hS
      by_cases z13 : xs x3.toNatClampNeg &&& 31 = 13
      · refine lv_tableIn (tgt := 571) (off := 538) hx hb dL_law_33 (by rw [z13]; decide) (by rw [z13]; decide) (by rw [z13]; rfl) rfl ?_
        exact law_case_13 hsim C0 hi0 hi1 hi2 hi3 hi4 hi5 hl hR hend hPc hPm hS
      by_cases z14 : xs x3.toNatClampNeg &&& 31 = 14
      · refine lv_tableIn (tgt := 584) (off := 551) hx hb dL_law_33 (by rw [z14]; decide) (by rw [z14]; decide) (by rw [z14]; rfl) rfl ?_
        exact law_case_14 hsim C0 hi0 hi1 hi2 hi3 hi4 hi5 hl hR hend hPc hPm hS
      by_cases z15 : xs x3.toNatClampNeg &&& 31 = 15
      · refine lv_tableIn (tgt := 597) (off := 564) hx hb dL_law_33 (by rw [z15]; decide) (by rw [z15]; decide) (by rw [z15]; rfl) rfl ?_
        exact law_case_15 hsim C0 hi0 hi1 hi2 hi3 hi4 hi5 hl hR hend hPc hPm hS
      by_cases z16 : xs x3.toNatClampNeg &&& 31 = 16
      · refine lv_tableIn (tgt := 650) (off := 617) hx hb dL_law_33 (by rw [z16]; decide) (by rw [z16]; decide) (by rw [z16]; rfl) rfl ?_
        exact law_case_16 hsim C0 hi0 hi1 hi2 hi3 hi4 hi5 hl hR hend hPc hPm hS
      by_cases z17 : xs x3.toNatClampNeg &&& 31 = 17
      · refine lv_tableIn (tgt := 663) (off := 630) hx hb dL_law_33 (by rw [z17]; decide) (by rw [z17]; decide) (by rw [z17]; rfl) rfl ?_
        exact law_case_17 hsim C0 hi0 hi1 hi2 hi3 hi4 hi5 hl hR hend hPc hPm hS
      by_cases z18 : xs x3.toNatClampNeg &&& 31 = 18
      · refine lv_tableIn (tgt := 676) (off := 643) hx hb dL_law_33 (by rw [z18]; decide) (by rw [z18]; decide) (by rw [z18]; rfl) rfl ?_
        exact law_case_18 hsim C0 hi0 hi1 hi2 hi3 hi4 hi5 hl hR hend hPc hPm hS
      by_cases z19 : xs x3.toNatClampNeg &&& 31 = 19
      · refine lv_tableIn (tgt := 689) (off := 656) hx hb dL_law_33 (by rw [z19]; decide) (by rw [z19]; decide) (by rw [z19]; rfl) rfl ?_
        exact law_case_19 hsim C0 hi0 hi1 hi2 hi3 hi4 hi5 hl hR hend hPc hPm hS
      by_cases z20 : xs x3.toNatClampNeg &&& 31 = 20
      · refine lv_tableIn (tgt := 712) (off := 679) hx hb dL_law_33 (by rw [z20]; decide) (by rw [z20]; decide) (by rw [z20]; rfl) rfl ?_
        exact law_case_20 hsim C0 hi0 hi1 hi2 hi3 hi4 hi5 hl hR hend hPc hPm hS
      refine lv_tableOut (tgt := 735) hx hb dL_law_33 (by have q0 := lv_neT (a := 0) z0 rfl; have q1 := lv_neT (a := 1) z1 rfl; have q2 := lv_neT (a := 2) z2 rfl; have q3 := lv_neT (a := 3) z3 rfl; have q4 := lv_neT (a := 4) z4 rfl; have q5 := lv_neT (a := 5) z5 rfl; have q6 := lv_neT (a := 6) z6 rfl; have q7 := lv_neT (a := 7) z7 rfl; have q8 := lv_neT (a := 8) z8 rfl; have q9 := lv_neT (a := 9) z9 rfl; have q10 := lv_neT (a := 10) z10 rfl; have q11 := lv_neT (a := 11) z11 rfl; have q12 := lv_neT (a := 12) z12 rfl; have q13 := lv_neT (a := 13) z13 rfl; have q14 := lv_neT (a := 14) z14 rfl; have q15 := lv_neT (a := 15) z15 rfl; have q16 := lv_neT (a := 16) z16 rfl; have q17 := lv_neT (a := 17) z17 rfl; have q18 := lv_neT (a := 18) z18 rfl; have q19 := lv_neT (a := 19) z19 rfl; have q20 := lv_neT (a := 20) z20 rfl; omega) (by decide) ?_
      exact hend M N hR H locs hPc hPm hS
