-- ===== OdometryDeskModel.findAll()V ['0']
theorem dX4_findAll_0 : decode cX4_findAll 0 = .ok (.aload_n 0, 1) := by decide +kernel
theorem dX4_findAll_1 : decode cX4_findAll 1 = .ok (.sipush 1000, 3) := by decide +kernel
theorem dX4_findAll_4 : decode cX4_findAll 4 = .ok (.aload_n 0, 1) := by decide +kernel
theorem dX4_findAll_5 : decode cX4_findAll 5 = .ok (.getfield 7, 3) := by decide +kernel
theorem dX4_findAll_8 : decode cX4_findAll 8 = .ok (.bipush 12, 2) := by decide +kernel
theorem dX4_findAll_10 : decode cX4_findAll 10 = .ok (.iaload, 1) := by decide +kernel
theorem dX4_findAll_11 : decode cX4_findAll 11 = .ok (.imul, 1) := by decide +kernel
theorem dX4_findAll_12 : decode cX4_findAll 12 = .ok (.putfield 105, 3) := by decide +kernel
theorem dX4_findAll_15 : decode cX4_findAll 15 = .ok (.aload_n 0, 1) := by decide +kernel
theorem dX4_findAll_16 : decode cX4_findAll 16 = .ok (.sipush 1000, 3) := by decide +kernel
theorem dX4_findAll_19 : decode cX4_findAll 19 = .ok (.aload_n 0, 1) := by decide +kernel
theorem dX4_findAll_20 : decode cX4_findAll 20 = .ok (.getfield 7, 3) := by decide +kernel
theorem dX4_findAll_23 : decode cX4_findAll 23 = .ok (.bipush 13, 2) := by decide +kernel
theorem dX4_findAll_25 : decode cX4_findAll 25 = .ok (.iaload, 1) := by decide +kernel
theorem dX4_findAll_26 : decode cX4_findAll 26 = .ok (.imul, 1) := by decide +kernel
theorem dX4_findAll_27 : decode cX4_findAll 27 = .ok (.putfield 109, 3) := by decide +kernel
theorem dX4_findAll_30 : decode cX4_findAll 30 = .ok (.aload_n 0, 1) := by decide +kernel
theorem dX4_findAll_31 : decode cX4_findAll 31 = .ok (.aload_n 0, 1) := by decide +kernel
theorem dX4_findAll_32 : decode cX4_findAll 32 = .ok (.getfield 7, 3) := by decide +kernel
theorem dX4_findAll_35 : decode cX4_findAll 35 = .ok (.bipush 14, 2) := by decide +kernel
theorem dX4_findAll_37 : decode cX4_findAll 37 = .ok (.iaload, 1) := by decide +kernel
theorem dX4_findAll_38 : decode cX4_findAll 38 = .ok (.putfield 112, 3) := by decide +kernel
theorem dX4_findAll_41 : decode cX4_findAll 41 = .ok (.aload_n 0, 1) := by decide +kernel
theorem dX4_findAll_42 : decode cX4_findAll 42 = .ok (.iconst 0, 1) := by decide +kernel
theorem dX4_findAll_43 : decode cX4_findAll 43 = .ok (.putfield 115, 3) := by decide +kernel
theorem dX4_findAll_46 : decode cX4_findAll 46 = .ok (.aload_n 0, 1) := by decide +kernel
theorem dX4_findAll_47 : decode cX4_findAll 47 = .ok (.iconst 0, 1) := by decide +kernel
theorem dX4_findAll_48 : decode cX4_findAll 48 = .ok (.putfield 118, 3) := by decide +kernel
theorem dX4_findAll_51 : decode cX4_findAll 51 = .ok (.iconst 0, 1) := by decide +kernel
theorem dX4_findAll_52 : decode cX4_findAll 52 = .ok (.istore_n 1, 1) := by decide +kernel
theorem dX4_findAll_53 : decode cX4_findAll 53 = .ok (.iload_n 1, 1) := by decide +kernel
theorem dX4_findAll_54 : decode cX4_findAll 54 = .ok (.aload_n 0, 1) := by decide +kernel
theorem dX4_findAll_55 : decode cX4_findAll 55 = .ok (.getfield 7, 3) := by decide +kernel
theorem dX4_findAll_58 : decode cX4_findAll 58 = .ok (.bipush 11, 2) := by decide +kernel
theorem dX4_findAll_60 : decode cX4_findAll 60 = .ok (.iaload, 1) := by decide +kernel
theorem dX4_findAll_61 : decode cX4_findAll 61 = .ok (.if_icmp .ge 152, 3) := by decide +kernel
theorem dX4_findAll_64 : decode cX4_findAll 64 = .ok (.aload_n 0, 1) := by decide +kernel
theorem dX4_findAll_65 : decode cX4_findAll 65 = .ok (.getfield 50, 3) := by decide +kernel
theorem dX4_findAll_68 : decode cX4_findAll 68 = .ok (.iload_n 1, 1) := by decide +kernel
theorem dX4_findAll_69 : decode cX4_findAll 69 = .ok (.bipush (-6), 2) := by decide +kernel
theorem dX4_findAll_71 : decode cX4_findAll 71 = .ok (.iastore, 1) := by decide +kernel
theorem dX4_findAll_72 : decode cX4_findAll 72 = .ok (.aload_n 0, 1) := by decide +kernel
theorem dX4_findAll_73 : decode cX4_findAll 73 = .ok (.iload_n 1, 1) := by decide +kernel
theorem dX4_findAll_74 : decode cX4_findAll 74 = .ok (.iconst 0, 1) := by decide +kernel
theorem dX4_findAll_75 : decode cX4_findAll 75 = .ok (.invokevirtual 121, 3) := by decide +kernel
theorem dX4_findAll_78 : decode cX4_findAll 78 = .ok (.iconst 1, 1) := by decide +kernel
theorem dX4_findAll_79 : decode cX4_findAll 79 = .ok (.if_icmp .ne 11, 3) := by decide +kernel
theorem dX4_findAll_82 : decode cX4_findAll 82 = .ok (.aload_n 0, 1) := by decide +kernel
theorem dX4_findAll_83 : decode cX4_findAll 83 = .ok (.iload_n 1, 1) := by decide +kernel
theorem dX4_findAll_84 : decode cX4_findAll 84 = .ok (.invokevirtual 125, 3) := by decide +kernel
theorem dX4_findAll_87 : decode cX4_findAll 87 = .ok (.goto 70, 3) := by decide +kernel
theorem dX4_findAll_90 : decode cX4_findAll 90 = .ok (.aload_n 0, 1) := by decide +kernel
theorem dX4_findAll_91 : decode cX4_findAll 91 = .ok (.iload_n 1, 1) := by decide +kernel
theorem dX4_findAll_92 : decode cX4_findAll 92 = .ok (.iconst 1, 1) := by decide +kernel
theorem dX4_findAll_93 : decode cX4_findAll 93 = .ok (.invokevirtual 121, 3) := by decide +kernel
theorem dX4_findAll_96 : decode cX4_findAll 96 = .ok (.ifCond .ne 51, 3) := by decide +kernel
theorem dX4_findAll_99 : decode cX4_findAll 99 = .ok (.aload_n 0, 1) := by decide +kernel
theorem dX4_findAll_100 : decode cX4_findAll 100 = .ok (.iload_n 1, 1) := by decide +kernel
theorem dX4_findAll_101 : decode cX4_findAll 101 = .ok (.iconst 2, 1) := by decide +kernel
theorem dX4_findAll_102 : decode cX4_findAll 102 = .ok (.invokevirtual 121, 3) := by decide +kernel
theorem dX4_findAll_105 : decode cX4_findAll 105 = .ok (.ifCond .ne 42, 3) := by decide +kernel
theorem dX4_findAll_108 : decode cX4_findAll 108 = .ok (.aload_n 0, 1) := by decide +kernel
theorem dX4_findAll_109 : decode cX4_findAll 109 = .ok (.getfield 23, 3) := by decide +kernel
theorem dX4_findAll_112 : decode cX4_findAll 112 = .ok (.iload_n 1, 1) := by decide +kernel
theorem dX4_findAll_113 : decode cX4_findAll 113 = .ok (.iconst 0, 1) := by decide +kernel
theorem dX4_findAll_114 : decode cX4_findAll 114 = .ok (.iastore, 1) := by decide +kernel
theorem dX4_findAll_115 : decode cX4_findAll 115 = .ok (.aload_n 0, 1) := by decide +kernel
theorem dX4_findAll_116 : decode cX4_findAll 116 = .ok (.dup, 1) := by decide +kernel
theorem dX4_findAll_117 : decode cX4_findAll 117 = .ok (.getfield 118, 3) := by decide +kernel
theorem dX4_findAll_120 : decode cX4_findAll 120 = .ok (.bipush 16, 2) := by decide +kernel
theorem dX4_findAll_122 : decode cX4_findAll 122 = .ok (.aload_n 0, 1) := by decide +kernel
theorem dX4_findAll_123 : decode cX4_findAll 123 = .ok (.iload_n 1, 1) := by decide +kernel
theorem dX4_findAll_124 : decode cX4_findAll 124 = .ok (.iconst 3, 1) := by decide +kernel
theorem dX4_findAll_125 : decode cX4_findAll 125 = .ok (.invokevirtual 121, 3) := by decide +kernel
theorem dX4_findAll_128 : decode cX4_findAll 128 = .ok (.imul, 1) := by decide +kernel
theorem dX4_findAll_129 : decode cX4_findAll 129 = .ok (.aload_n 0, 1) := by decide +kernel
theorem dX4_findAll_130 : decode cX4_findAll 130 = .ok (.getfield 118, 3) := by decide +kernel
theorem dX4_findAll_133 : decode cX4_findAll 133 = .ok (.isub, 1) := by decide +kernel
theorem dX4_findAll_134 : decode cX4_findAll 134 = .ok (.aload_n 0, 1) := by decide +kernel
theorem dX4_findAll_135 : decode cX4_findAll 135 = .ok (.iconst 5, 1) := by decide +kernel
theorem dX4_findAll_136 : decode cX4_findAll 136 = .ok (.invokevirtual 77, 3) := by decide +kernel
theorem dX4_findAll_139 : decode cX4_findAll 139 = .ok (.idiv, 1) := by decide +kernel
theorem dX4_findAll_140 : decode cX4_findAll 140 = .ok (.iadd, 1) := by decide +kernel
theorem dX4_findAll_141 : decode cX4_findAll 141 = .ok (.putfield 118, 3) := by decide +kernel
theorem dX4_findAll_144 : decode cX4_findAll 144 = .ok (.goto 13, 3) := by decide +kernel
theorem dX4_findAll_147 : decode cX4_findAll 147 = .ok (.aload_n 0, 1) := by decide +kernel
theorem dX4_findAll_148 : decode cX4_findAll 148 = .ok (.iload_n 1, 1) := by decide +kernel
theorem dX4_findAll_149 : decode cX4_findAll 149 = .ok (.invokevirtual 129, 3) := by decide +kernel
theorem dX4_findAll_152 : decode cX4_findAll 152 = .ok (.aload_n 0, 1) := by decide +kernel
theorem dX4_findAll_153 : decode cX4_findAll 153 = .ok (.iload_n 1, 1) := by decide +kernel
theorem dX4_findAll_154 : decode cX4_findAll 154 = .ok (.invokevirtual 132, 3) := by decide +kernel
theorem dX4_findAll_157 : decode cX4_findAll 157 = .ok (.aload_n 0, 1) := by decide +kernel
theorem dX4_findAll_158 : decode cX4_findAll 158 = .ok (.getfield 26, 3) := by decide +kernel
theorem dX4_findAll_161 : decode cX4_findAll 161 = .ok (.iload_n 1, 1) := by decide +kernel
theorem dX4_findAll_162 : decode cX4_findAll 162 = .ok (.aload_n 0, 1) := by decide +kernel
theorem dX4_findAll_163 : decode cX4_findAll 163 = .ok (.getfield 105, 3) := by decide +kernel
theorem dX4_findAll_166 : decode cX4_findAll 166 = .ok (.iastore, 1) := by decide +kernel
theorem dX4_findAll_167 : decode cX4_findAll 167 = .ok (.aload_n 0, 1) := by decide +kernel
theorem dX4_findAll_168 : decode cX4_findAll 168 = .ok (.getfield 29, 3) := by decide +kernel
theorem dX4_findAll_171 : decode cX4_findAll 171 = .ok (.iload_n 1, 1) := by decide +kernel
theorem dX4_findAll_172 : decode cX4_findAll 172 = .ok (.aload_n 0, 1) := by decide +kernel
theorem dX4_findAll_173 : decode cX4_findAll 173 = .ok (.getfield 109, 3) := by decide +kernel
theorem dX4_findAll_176 : decode cX4_findAll 176 = .ok (.iastore, 1) := by decide +kernel
theorem dX4_findAll_177 : decode cX4_findAll 177 = .ok (.aload_n 0, 1) := by decide +kernel
theorem dX4_findAll_178 : decode cX4_findAll 178 = .ok (.getfield 32, 3) := by decide +kernel
theorem dX4_findAll_181 : decode cX4_findAll 181 = .ok (.iload_n 1, 1) := by decide +kernel
theorem dX4_findAll_182 : decode cX4_findAll 182 = .ok (.aload_n 0, 1) := by decide +kernel
theorem dX4_findAll_183 : decode cX4_findAll 183 = .ok (.getfield 112, 3) := by decide +kernel
theorem dX4_findAll_186 : decode cX4_findAll 186 = .ok (.iastore, 1) := by decide +kernel
theorem dX4_findAll_187 : decode cX4_findAll 187 = .ok (.aload_n 0, 1) := by decide +kernel
theorem dX4_findAll_188 : decode cX4_findAll 188 = .ok (.getfield 35, 3) := by decide +kernel
theorem dX4_findAll_191 : decode cX4_findAll 191 = .ok (.iload_n 1, 1) := by decide +kernel
theorem dX4_findAll_192 : decode cX4_findAll 192 = .ok (.aload_n 0, 1) := by decide +kernel
theorem dX4_findAll_193 : decode cX4_findAll 193 = .ok (.getfield 115, 3) := by decide +kernel
theorem dX4_findAll_196 : decode cX4_findAll 196 = .ok (.iastore, 1) := by decide +kernel
theorem dX4_findAll_197 : decode cX4_findAll 197 = .ok (.aload_n 0, 1) := by decide +kernel
theorem dX4_findAll_198 : decode cX4_findAll 198 = .ok (.getfield 38, 3) := by decide +kernel
theorem dX4_findAll_201 : decode cX4_findAll 201 = .ok (.iload_n 1, 1) := by decide +kernel
theorem dX4_findAll_202 : decode cX4_findAll 202 = .ok (.aload_n 0, 1) := by decide +kernel
theorem dX4_findAll_203 : decode cX4_findAll 203 = .ok (.getfield 118, 3) := by decide +kernel
theorem dX4_findAll_206 : decode cX4_findAll 206 = .ok (.iastore, 1) := by decide +kernel
theorem dX4_findAll_207 : decode cX4_findAll 207 = .ok (.iinc 1 1, 3) := by decide +kernel
theorem dX4_findAll_210 : decode cX4_findAll 210 = .ok (.goto (-157), 3) := by decide +kernel
theorem dX4_findAll_213 : decode cX4_findAll 213 = .ok (.return_, 1) := by decide +kernel
abbrev wX4_findAll : List Cond := .code yX4_findAll cX4_findAll 2 none :: lw_gd
theorem hdX4_findAll : (yX4_findAll.cls ≠ "java/lang/invoke/MethodHandle" ∧ yX4_findAll.cls ≠ "java/lang/invoke/VarHandle" ∧ (parseMethodDescriptor yX4_findAll.desc).map (fun d => d.parameters.length) = some 0) := by decide +kernel
def fX4_findAll_157  (k53 : Int32 → xm_M → Option xm_M) (b1 : Int32) (M : xm_M) : Option xm_M :=
  if b1 < 0 ∨ 120 ≤ b1.toNatClampNeg then none else xm_lt (xm_s M 6 b1.toNatClampNeg (M.1 0 18)) (fun M14 => if b1 < 0 ∨ 120 ≤ b1.toNatClampNeg then none else xm_lt (xm_s M14 7 b1.toNatClampNeg (M14.1 0 19)) (fun M15 => if b1 < 0 ∨ 120 ≤ b1.toNatClampNeg then none else xm_lt (xm_s M15 8 b1.toNatClampNeg (M15.1 0 20)) (fun M16 => if b1 < 0 ∨ 120 ≤ b1.toNatClampNeg then none else xm_lt (xm_s M16 9 b1.toNatClampNeg (M16.1 0 21)) (fun M17 => if b1 < 0 ∨ 120 ≤ b1.toNatClampNeg then none else xm_lt (xm_s M17 10 b1.toNatClampNeg (M17.1 0 22)) (fun M18 => xm_lt (b1 + Int32.ofInt 1) (fun x19 => k53 x19 M18))))))
set_option maxRecDepth 20000 in
theorem tfX4_findAll_157 {p : Program} {l : Launch} {e : Env} {s : State} {m : MethodId} {args : Array Value} {below : List Frame} {meth : Method} {c : Code} {D : va_G} {g : xm_G} {A : Nat → Prop} (hX : xm_X p m meth c cX4_findAll 2 s args wX4_findAll RX4 none D mL g A)   (k53 : Int32 → xm_M → Option xm_M) (h53 : ∀ (b1 : Int32), ∀ (M : xm_M), xm_J p l e ({ frames := 4, cells := 0, slots := 0, locals := 100 }) s m args below meth c 2 D mL g A (xm_Fv g) 53 [(0, .ref (g.1 0)), (1, .int b1)] [] M (k53 b1 M)) : ∀ (b1 : Int32), ∀ (M : xm_M), xm_J p l e ({ frames := 4, cells := 0, slots := 0, locals := 100 }) s m args below meth c 2 D mL g A (xm_Fv g) 157 [(0, .ref (g.1 0)), (1, .int b1)] [] M (fX4_findAll_157 k53 b1 M) := by
  intro b1 M
  unfold fX4_findAll_157
  refine xm_aload_n hX 0 dX4_findAll_157 rfl rfl ?_
  refine xm_get hX (k := 0) (ci := 4) (j := 6) (C := RX4) (T := TX4) (N := 27) (v := .ref (g.1 6)) mL_0 rfl rfl rfl (by decide) (fun z hz => List.mem_cons_of_mem _ (iw_X4 z hz)) (List.mem_cons_of_mem _ gm_439) dX4_findAll_158 ?_
  refine xm_iload_n hX 1 dX4_findAll_161 rfl rfl ?_
  refine xm_aload_n hX 0 dX4_findAll_162 rfl rfl ?_
  refine xm_get hX (k := 0) (ci := 4) (j := 18) (C := RX4) (T := TX4) (N := 27) (v := .int (M.1 0 18)) mL_0 rfl rfl rfl (by decide) (fun z hz => List.mem_cons_of_mem _ (iw_X4 z hz)) (List.mem_cons_of_mem _ gm_451) dX4_findAll_163 ?_
  refine xm_iast hX (n := 120) mL_6 dX4_findAll_166 (fun M14 => ?_)
  refine xm_aload_n hX 0 dX4_findAll_167 rfl rfl ?_
  refine xm_get hX (k := 0) (ci := 4) (j := 7) (C := RX4) (T := TX4) (N := 27) (v := .ref (g.1 7)) mL_0 rfl rfl rfl (by decide) (fun z hz => List.mem_cons_of_mem _ (iw_X4 z hz)) (List.mem_cons_of_mem _ gm_440) dX4_findAll_168 ?_
  refine xm_iload_n hX 1 dX4_findAll_171 rfl rfl ?_
  refine xm_aload_n hX 0 dX4_findAll_172 rfl rfl ?_
  refine xm_get hX (k := 0) (ci := 4) (j := 19) (C := RX4) (T := TX4) (N := 27) (v := .int (M14.1 0 19)) mL_0 rfl rfl rfl (by decide) (fun z hz => List.mem_cons_of_mem _ (iw_X4 z hz)) (List.mem_cons_of_mem _ gm_452) dX4_findAll_173 ?_
  refine xm_iast hX (n := 120) mL_7 dX4_findAll_176 (fun M15 => ?_)
  refine xm_aload_n hX 0 dX4_findAll_177 rfl rfl ?_
  refine xm_get hX (k := 0) (ci := 4) (j := 8) (C := RX4) (T := TX4) (N := 27) (v := .ref (g.1 8)) mL_0 rfl rfl rfl (by decide) (fun z hz => List.mem_cons_of_mem _ (iw_X4 z hz)) (List.mem_cons_of_mem _ gm_441) dX4_findAll_178 ?_
  refine xm_iload_n hX 1 dX4_findAll_181 rfl rfl ?_
  refine xm_aload_n hX 0 dX4_findAll_182 rfl rfl ?_
  refine xm_get hX (k := 0) (ci := 4) (j := 20) (C := RX4) (T := TX4) (N := 27) (v := .int (M15.1 0 20)) mL_0 rfl rfl rfl (by decide) (fun z hz => List.mem_cons_of_mem _ (iw_X4 z hz)) (List.mem_cons_of_mem _ gm_453) dX4_findAll_183 ?_
  refine xm_iast hX (n := 120) mL_8 dX4_findAll_186 (fun M16 => ?_)
  refine xm_aload_n hX 0 dX4_findAll_187 rfl rfl ?_
  refine xm_get hX (k := 0) (ci := 4) (j := 9) (C := RX4) (T := TX4) (N := 27) (v := .ref (g.1 9)) mL_0 rfl rfl rfl (by decide) (fun z hz => List.mem_cons_of_mem _ (iw_X4 z hz)) (List.mem_cons_of_mem _ gm_442) dX4_findAll_188 ?_
  refine xm_iload_n hX 1 dX4_findAll_191 rfl rfl ?_
  refine xm_aload_n hX 0 dX4_findAll_192 rfl rfl ?_
  refine xm_get hX (k := 0) (ci := 4) (j := 21) (C := RX4) (T := TX4) (N := 27) (v := .int (M16.1 0 21)) mL_0 rfl rfl rfl (by decide) (fun z hz => List.mem_cons_of_mem _ (iw_X4 z hz)) (List.mem_cons_of_mem _ gm_454) dX4_findAll_193 ?_
  refine xm_iast hX (n := 120) mL_9 dX4_findAll_196 (fun M17 => ?_)
  refine xm_aload_n hX 0 dX4_findAll_197 rfl rfl ?_
  refine xm_get hX (k := 0) (ci := 4) (j := 10) (C := RX4) (T := TX4) (N := 27) (v := .ref (g.1 10)) mL_0 rfl rfl rfl (by decide) (fun z hz => List.mem_cons_of_mem _ (iw_X4 z hz)) (List.mem_cons_of_mem _ gm_443) dX4_findAll_198 ?_
  refine xm_iload_n hX 1 dX4_findAll_201 rfl rfl ?_
  refine xm_aload_n hX 0 dX4_findAll_202 rfl rfl ?_
  refine xm_get hX (k := 0) (ci := 4) (j := 22) (C := RX4) (T := TX4) (N := 27) (v := .int (M17.1 0 22)) mL_0 rfl rfl rfl (by decide) (fun z hz => List.mem_cons_of_mem _ (iw_X4 z hz)) (List.mem_cons_of_mem _ gm_455) dX4_findAll_203 ?_
  refine xm_iast hX (n := 120) mL_10 dX4_findAll_206 (fun M18 => ?_)
  refine xm_iinc hX (lv2 := fun x19 => [(1, .int x19), (0, .ref (g.1 0))]) 1 dX4_findAll_207 rfl (by decide) (fun _ => rfl) (fun x19 => ?_)
  refine xm_goto hX (tgt := 53) dX4_findAll_210 rfl ?_
  refine xm_weak [1, 0] (lv' := [(0, .ref (g.1 0)), (1, .int x19)]) rfl ?_
  exact h53 x19 M18
def fX4_findAll_147  (k53 : Int32 → xm_M → Option xm_M) (b1 : Int32) (M : xm_M) : Option xm_M :=
  xm_bv (fX4_findStep b1 M) (fun M12 => xm_bv (fX4_findPull b1 M12) (fun M13 => fX4_findAll_157 k53 b1 M13))
set_option maxRecDepth 20000 in
theorem tfX4_findAll_147 {p : Program} {l : Launch} {e : Env} {s : State} {m : MethodId} {args : Array Value} {below : List Frame} {meth : Method} {c : Code} {D : va_G} {g : xm_G} {A : Nat → Prop} (hX : xm_X p m meth c cX4_findAll 2 s args wX4_findAll RX4 none D mL g A)   (k53 : Int32 → xm_M → Option xm_M) (h53 : ∀ (b1 : Int32), ∀ (M : xm_M), xm_J p l e ({ frames := 4, cells := 0, slots := 0, locals := 100 }) s m args below meth c 2 D mL g A (xm_Fv g) 53 [(0, .ref (g.1 0)), (1, .int b1)] [] M (k53 b1 M)) : ∀ (b1 : Int32), ∀ (M : xm_M), xm_J p l e ({ frames := 4, cells := 0, slots := 0, locals := 100 }) s m args below meth c 2 D mL g A (xm_Fv g) 147 [(0, .ref (g.1 0)), (1, .int b1)] [] M (fX4_findAll_147 k53 b1 M) := by
  intro b1 M
  unfold fX4_findAll_147
  refine xm_aload_n hX 0 dX4_findAll_147 rfl rfl ?_
  refine xm_iload_n hX 1 dX4_findAll_148 rfl rfl ?_
  refine xm_callv hX (xm_runV hX (k := 0) (ci := 4) (As := (fun g => [.int b1])) (kX4_findStep b1 M) mL_0 rfl (xm_gV gm_559 gm_560 gm_719 gm_5 gm_561) rfl ⟨rfl, rfl⟩ ⟨rfl, hdX4_findStep⟩ ⟨Nat.le_of_ble_eq_true rfl, Nat.le_of_ble_eq_true rfl⟩ rfl (Nat.le_of_ble_eq_true rfl) rfl dX4_findAll_149) (fun M12 => ?_)
  refine xm_aload_n hX 0 dX4_findAll_152 rfl rfl ?_
  refine xm_iload_n hX 1 dX4_findAll_153 rfl rfl ?_
  refine xm_callv hX (xm_runV hX (k := 0) (ci := 4) (As := (fun g => [.int b1])) (kX4_findPull b1 M12) mL_0 rfl (xm_gV gm_583 gm_584 gm_720 gm_5 gm_585) rfl ⟨rfl, rfl⟩ ⟨rfl, hdX4_findPull⟩ ⟨Nat.le_of_ble_eq_true rfl, Nat.le_of_ble_eq_true rfl⟩ rfl (Nat.le_of_ble_eq_true rfl) rfl dX4_findAll_154) (fun M13 => ?_)
  exact tfX4_findAll_157 hX k53 h53 b1 M13
def fX4_findAll_53  (k53 : Int32 → xm_M → Option xm_M) (b1 : Int32) (M : xm_M) : Option xm_M :=
  if (M.1 1 11) ≤ b1 then some M else if b1 < 0 ∨ 120 ≤ b1.toNatClampNeg then none else xm_lt (xm_s M 14 b1.toNatClampNeg (-6 : Int32)) (fun M7 => xm_bi (fX4_ofEntry b1 (0 : Int32) M7) (fun x9 M8 => if x9 = (1 : Int32) then xm_bv (fX4_findSight b1 M8) (fun M28 => fX4_findAll_157 k53 b1 M28) else xm_bi (fX4_ofEntry b1 (1 : Int32) M8) (fun x11 M10 => if x11 = 0 then xm_bi (fX4_ofEntry b1 (2 : Int32) M10) (fun x21 M20 => if x21 = 0 then if b1 < 0 ∨ 120 ≤ b1.toNatClampNeg then none else xm_lt (xm_s M20 5 b1.toNatClampNeg (0 : Int32)) (fun M22 => xm_bi (fX4_ofEntry b1 (3 : Int32) M22) (fun x24 M23 => xm_bi (fX4_setting (5 : Int32) M23) (fun x26 M25 => if x26 = 0 then none else xm_lt (xm_s M25 0 22 ((M22.1 0 22) + ((((16 : Int32) * x24) - (M23.1 0 22)) / x26))) (fun M27 => fX4_findAll_157 k53 b1 M27)))) else fX4_findAll_147 k53 b1 M20) else fX4_findAll_147 k53 b1 M10)))
set_option maxRecDepth 20000 in
theorem tfX4_findAll_53 {p : Program} {l : Launch} {e : Env} {s : State} {m : MethodId} {args : Array Value} {below : List Frame} {meth : Method} {c : Code} {D : va_G} {g : xm_G} {A : Nat → Prop} (hX : xm_X p m meth c cX4_findAll 2 s args wX4_findAll RX4 none D mL g A)   (k53 : Int32 → xm_M → Option xm_M) (h53 : ∀ (b1 : Int32), ∀ (M : xm_M), xm_J p l e ({ frames := 4, cells := 0, slots := 0, locals := 100 }) s m args below meth c 2 D mL g A (xm_Fv g) 53 [(0, .ref (g.1 0)), (1, .int b1)] [] M (k53 b1 M)) : ∀ (b1 : Int32), ∀ (M : xm_M), xm_J p l e ({ frames := 4, cells := 0, slots := 0, locals := 100 }) s m args below meth c 2 D mL g A (xm_Fv g) 53 [(0, .ref (g.1 0)), (1, .int b1)] [] M (fX4_findAll_53 k53 b1 M) := by
  intro b1 M
  unfold fX4_findAll_53
  refine xm_iload_n hX 1 dX4_findAll_53 rfl rfl ?_
  refine xm_aload_n hX 0 dX4_findAll_54 rfl rfl ?_
  refine xm_get hX (k := 0) (ci := 4) (j := 0) (C := RX4) (T := TX4) (N := 27) (v := .ref (g.1 1)) mL_0 rfl rfl rfl (by decide) (fun z hz => List.mem_cons_of_mem _ (iw_X4 z hz)) (List.mem_cons_of_mem _ gm_433) dX4_findAll_55 ?_
  refine xm_bipush hX (v := 11) rfl dX4_findAll_58 ?_
  refine xm_ialdL hX (n := 547) (j := 11) mL_1 (by decide) rfl dX4_findAll_60 ?_
  refine xm_icmp_ge hX (tgt := 213) dX4_findAll_61 rfl ?_ ?_
  · exact xm_vret hX dX4_findAll_213
  · refine xm_aload_n hX 0 dX4_findAll_64 rfl rfl ?_
    refine xm_get hX (k := 0) (ci := 4) (j := 14) (C := RX4) (T := TX4) (N := 27) (v := .ref (g.1 14)) mL_0 rfl rfl rfl (by decide) (fun z hz => List.mem_cons_of_mem _ (iw_X4 z hz)) (List.mem_cons_of_mem _ gm_447) dX4_findAll_65 ?_
    refine xm_iload_n hX 1 dX4_findAll_68 rfl rfl ?_
    refine xm_bipush hX (v := -6) rfl dX4_findAll_69 ?_
    refine xm_iast hX (n := 120) mL_14 dX4_findAll_71 (fun M7 => ?_)
    refine xm_aload_n hX 0 dX4_findAll_72 rfl rfl ?_
    refine xm_iload_n hX 1 dX4_findAll_73 rfl rfl ?_
    refine xm_iconst hX (v := 0) rfl dX4_findAll_74 ?_
    refine xm_calli hX (xm_runV hX (k := 0) (ci := 4) (As := (fun g => [.int b1, .int (0 : Int32)])) (kX4_ofEntry b1 (0 : Int32) M7) mL_0 rfl (xm_gV gm_553 gm_554 gm_717 gm_5 gm_555) rfl ⟨rfl, rfl⟩ ⟨rfl, hdX4_ofEntry⟩ ⟨Nat.le_of_ble_eq_true rfl, Nat.le_of_ble_eq_true rfl⟩ rfl (Nat.le_of_ble_eq_true rfl) rfl dX4_findAll_75) (fun x9 M8 => ?_)
    refine xm_iconst hX (v := 1) rfl dX4_findAll_78 ?_
    refine xm_icmp_ne hX (tgt := 90) dX4_findAll_79 rfl ?_ ?_
    · refine xm_aload_n hX 0 dX4_findAll_90 rfl rfl ?_
      refine xm_iload_n hX 1 dX4_findAll_91 rfl rfl ?_
      refine xm_iconst hX (v := 1) rfl dX4_findAll_92 ?_
      refine xm_calli hX (xm_runV hX (k := 0) (ci := 4) (As := (fun g => [.int b1, .int (1 : Int32)])) (kX4_ofEntry b1 (1 : Int32) M8) mL_0 rfl (xm_gV gm_553 gm_554 gm_717 gm_5 gm_555) rfl ⟨rfl, rfl⟩ ⟨rfl, hdX4_ofEntry⟩ ⟨Nat.le_of_ble_eq_true rfl, Nat.le_of_ble_eq_true rfl⟩ rfl (Nat.le_of_ble_eq_true rfl) rfl dX4_findAll_93) (fun x11 M10 => ?_)
      refine xm_if_ne hX (tgt := 147) dX4_findAll_96 rfl ?_ ?_
      · exact tfX4_findAll_147 hX k53 h53 b1 M10
      · refine xm_aload_n hX 0 dX4_findAll_99 rfl rfl ?_
        refine xm_iload_n hX 1 dX4_findAll_100 rfl rfl ?_
        refine xm_iconst hX (v := 2) rfl dX4_findAll_101 ?_
        refine xm_calli hX (xm_runV hX (k := 0) (ci := 4) (As := (fun g => [.int b1, .int (2 : Int32)])) (kX4_ofEntry b1 (2 : Int32) M10) mL_0 rfl (xm_gV gm_553 gm_554 gm_717 gm_5 gm_555) rfl ⟨rfl, rfl⟩ ⟨rfl, hdX4_ofEntry⟩ ⟨Nat.le_of_ble_eq_true rfl, Nat.le_of_ble_eq_true rfl⟩ rfl (Nat.le_of_ble_eq_true rfl) rfl dX4_findAll_102) (fun x21 M20 => ?_)
        refine xm_if_ne hX (tgt := 147) dX4_findAll_105 rfl ?_ ?_
        · exact tfX4_findAll_147 hX k53 h53 b1 M20
        · refine xm_aload_n hX 0 dX4_findAll_108 rfl rfl ?_
          refine xm_get hX (k := 0) (ci := 4) (j := 5) (C := RX4) (T := TX4) (N := 27) (v := .ref (g.1 5)) mL_0 rfl rfl rfl (by decide) (fun z hz => List.mem_cons_of_mem _ (iw_X4 z hz)) (List.mem_cons_of_mem _ gm_438) dX4_findAll_109 ?_
          refine xm_iload_n hX 1 dX4_findAll_112 rfl rfl ?_
          refine xm_iconst hX (v := 0) rfl dX4_findAll_113 ?_
          refine xm_iast hX (n := 120) mL_5 dX4_findAll_114 (fun M22 => ?_)
          refine xm_aload_n hX 0 dX4_findAll_115 rfl rfl ?_
          refine xm_dup hX rfl dX4_findAll_116 ?_
          refine xm_get hX (k := 0) (ci := 4) (j := 22) (C := RX4) (T := TX4) (N := 27) (v := .int (M22.1 0 22)) mL_0 rfl rfl rfl (by decide) (fun z hz => List.mem_cons_of_mem _ (iw_X4 z hz)) (List.mem_cons_of_mem _ gm_455) dX4_findAll_117 ?_
          refine xm_bipush hX (v := 16) rfl dX4_findAll_120 ?_
          refine xm_aload_n hX 0 dX4_findAll_122 rfl rfl ?_
          refine xm_iload_n hX 1 dX4_findAll_123 rfl rfl ?_
          refine xm_iconst hX (v := 3) rfl dX4_findAll_124 ?_
          refine xm_calli hX (xm_runV hX (k := 0) (ci := 4) (As := (fun g => [.int b1, .int (3 : Int32)])) (kX4_ofEntry b1 (3 : Int32) M22) mL_0 rfl (xm_gV gm_553 gm_554 gm_717 gm_5 gm_555) rfl ⟨rfl, rfl⟩ ⟨rfl, hdX4_ofEntry⟩ ⟨Nat.le_of_ble_eq_true rfl, Nat.le_of_ble_eq_true rfl⟩ rfl (Nat.le_of_ble_eq_true rfl) rfl dX4_findAll_125) (fun x24 M23 => ?_)
          refine xm_imul hX dX4_findAll_128 ?_
          refine xm_aload_n hX 0 dX4_findAll_129 rfl rfl ?_
          refine xm_get hX (k := 0) (ci := 4) (j := 22) (C := RX4) (T := TX4) (N := 27) (v := .int (M23.1 0 22)) mL_0 rfl rfl rfl (by decide) (fun z hz => List.mem_cons_of_mem _ (iw_X4 z hz)) (List.mem_cons_of_mem _ gm_455) dX4_findAll_130 ?_
          refine xm_isub hX dX4_findAll_133 ?_
          refine xm_aload_n hX 0 dX4_findAll_134 rfl rfl ?_
          refine xm_iconst hX (v := 5) rfl dX4_findAll_135 ?_
          refine xm_calli hX (xm_runV hX (k := 0) (ci := 4) (As := (fun g => [.int (5 : Int32)])) (kX4_setting (5 : Int32) M23) mL_0 rfl (xm_gV gm_500 gm_501 gm_713 gm_5 gm_502) rfl ⟨rfl, rfl⟩ ⟨rfl, hdX4_setting⟩ ⟨Nat.le_of_ble_eq_true rfl, Nat.le_of_ble_eq_true rfl⟩ rfl (Nat.le_of_ble_eq_true rfl) rfl dX4_findAll_136) (fun x26 M25 => ?_)
          refine xm_idiv hX dX4_findAll_139 ?_
          refine xm_iadd hX dX4_findAll_140 ?_
          refine xm_puti hX (k := 0) (ci := 4) (j := 22) (C := RX4) (T := TX4) (N := 27) (t0 := tyX4) mL_0 rfl rfl (by decide) (fun z hz => List.mem_cons_of_mem _ (iw_X4 z hz)) tyX4_ok nmX4 rfl rfl (List.mem_cons_of_mem _ gm_455) dX4_findAll_141 (fun M27 => ?_)
          refine xm_goto hX (tgt := 157) dX4_findAll_144 rfl ?_
          exact tfX4_findAll_157 hX k53 h53 b1 M27
    · refine xm_aload_n hX 0 dX4_findAll_82 rfl rfl ?_
      refine xm_iload_n hX 1 dX4_findAll_83 rfl rfl ?_
      refine xm_callv hX (xm_runV hX (k := 0) (ci := 4) (As := (fun g => [.int b1])) (kX4_findSight b1 M8) mL_0 rfl (xm_gV gm_556 gm_557 gm_718 gm_5 gm_558) rfl ⟨rfl, rfl⟩ ⟨rfl, hdX4_findSight⟩ ⟨Nat.le_of_ble_eq_true rfl, Nat.le_of_ble_eq_true rfl⟩ rfl (Nat.le_of_ble_eq_true rfl) rfl dX4_findAll_84) (fun M28 => ?_)
      refine xm_goto hX (tgt := 157) dX4_findAll_87 rfl ?_
      exact tfX4_findAll_157 hX k53 h53 b1 M28
def fX4_findAll_53_it   (nq : Nat) : Int32 → xm_M → Option xm_M := xm_it (fun kq => fX4_findAll_53 kq) (fun _ _ => none) nq
theorem tfX4_findAll_53_it {p : Program} {l : Launch} {e : Env} {s : State} {m : MethodId} {args : Array Value} {below : List Frame} {meth : Method} {c : Code} {D : va_G} {g : xm_G} {A : Nat → Prop} (hX : xm_X p m meth c cX4_findAll 2 s args wX4_findAll RX4 none D mL g A)     : ∀ (nq : Nat), ∀ (b1 : Int32), ∀ (M : xm_M), xm_J p l e ({ frames := 4, cells := 0, slots := 0, locals := 100 }) s m args below meth c 2 D mL g A (xm_Fv g) 53 [(0, .ref (g.1 0)), (1, .int b1)] [] M (fX4_findAll_53_it  nq b1 M) := by
  intro nq
  induction nq with
  | zero => exact fun _ _ => xm_none
  | succ nq ih => exact tfX4_findAll_53 hX _ ih
def fX4_findAll   (M : xm_M) : Option xm_M :=
  xm_lt (xm_s M 0 18 ((1000 : Int32) * (M.1 1 12))) (fun M1 => xm_lt (xm_s M1 0 19 ((1000 : Int32) * (M1.1 1 13))) (fun M2 => xm_lt (xm_s M2 0 20 (M2.1 1 14)) (fun M3 => xm_lt (xm_s M3 0 21 (0 : Int32)) (fun M4 => xm_lt (xm_s M4 0 22 (0 : Int32)) (fun M5 => xm_lt ((0 : Int32)) (fun x6 => fX4_findAll_53_it xm_N x6 M5))))))
set_option maxRecDepth 20000 in
theorem kX4_findAll {l : Launch}    (M : xm_M) : xm_C l yX4_findAll wX4_findAll ({ frames := 4, cells := 0, slots := 0, locals := 100 }) mL (fun g => [.ref (g.1 0)]) M xm_Fv (fX4_findAll   M) := by
  refine xm_C.of (by decide) rfl (fun g => Nat.le_of_ble_eq_true rfl) ?_
  intro p e s m args below meth c D g A hX
  refine xm_lv (lv' := [(0, .ref (g.1 0))]) rfl ?_
  unfold fX4_findAll
  refine xm_aload_n hX 0 dX4_findAll_0 rfl rfl ?_
  refine xm_sipush hX (v := 1000) rfl dX4_findAll_1 ?_
  refine xm_aload_n hX 0 dX4_findAll_4 rfl rfl ?_
  refine xm_get hX (k := 0) (ci := 4) (j := 0) (C := RX4) (T := TX4) (N := 27) (v := .ref (g.1 1)) mL_0 rfl rfl rfl (by decide) (fun z hz => List.mem_cons_of_mem _ (iw_X4 z hz)) (List.mem_cons_of_mem _ gm_433) dX4_findAll_5 ?_
  refine xm_bipush hX (v := 12) rfl dX4_findAll_8 ?_
  refine xm_ialdL hX (n := 547) (j := 12) mL_1 (by decide) rfl dX4_findAll_10 ?_
  refine xm_imul hX dX4_findAll_11 ?_
  refine xm_puti hX (k := 0) (ci := 4) (j := 18) (C := RX4) (T := TX4) (N := 27) (t0 := tyX4) mL_0 rfl rfl (by decide) (fun z hz => List.mem_cons_of_mem _ (iw_X4 z hz)) tyX4_ok nmX4 rfl rfl (List.mem_cons_of_mem _ gm_451) dX4_findAll_12 (fun M1 => ?_)
  refine xm_aload_n hX 0 dX4_findAll_15 rfl rfl ?_
  refine xm_sipush hX (v := 1000) rfl dX4_findAll_16 ?_
  refine xm_aload_n hX 0 dX4_findAll_19 rfl rfl ?_
  refine xm_get hX (k := 0) (ci := 4) (j := 0) (C := RX4) (T := TX4) (N := 27) (v := .ref (g.1 1)) mL_0 rfl rfl rfl (by decide) (fun z hz => List.mem_cons_of_mem _ (iw_X4 z hz)) (List.mem_cons_of_mem _ gm_433) dX4_findAll_20 ?_
  refine xm_bipush hX (v := 13) rfl dX4_findAll_23 ?_
  refine xm_ialdL hX (n := 547) (j := 13) mL_1 (by decide) rfl dX4_findAll_25 ?_
  refine xm_imul hX dX4_findAll_26 ?_
  refine xm_puti hX (k := 0) (ci := 4) (j := 19) (C := RX4) (T := TX4) (N := 27) (t0 := tyX4) mL_0 rfl rfl (by decide) (fun z hz => List.mem_cons_of_mem _ (iw_X4 z hz)) tyX4_ok nmX4 rfl rfl (List.mem_cons_of_mem _ gm_452) dX4_findAll_27 (fun M2 => ?_)
  refine xm_aload_n hX 0 dX4_findAll_30 rfl rfl ?_
  refine xm_aload_n hX 0 dX4_findAll_31 rfl rfl ?_
  refine xm_get hX (k := 0) (ci := 4) (j := 0) (C := RX4) (T := TX4) (N := 27) (v := .ref (g.1 1)) mL_0 rfl rfl rfl (by decide) (fun z hz => List.mem_cons_of_mem _ (iw_X4 z hz)) (List.mem_cons_of_mem _ gm_433) dX4_findAll_32 ?_
  refine xm_bipush hX (v := 14) rfl dX4_findAll_35 ?_
  refine xm_ialdL hX (n := 547) (j := 14) mL_1 (by decide) rfl dX4_findAll_37 ?_
  refine xm_puti hX (k := 0) (ci := 4) (j := 20) (C := RX4) (T := TX4) (N := 27) (t0 := tyX4) mL_0 rfl rfl (by decide) (fun z hz => List.mem_cons_of_mem _ (iw_X4 z hz)) tyX4_ok nmX4 rfl rfl (List.mem_cons_of_mem _ gm_453) dX4_findAll_38 (fun M3 => ?_)
  refine xm_aload_n hX 0 dX4_findAll_41 rfl rfl ?_
  refine xm_iconst hX (v := 0) rfl dX4_findAll_42 ?_
  refine xm_puti hX (k := 0) (ci := 4) (j := 21) (C := RX4) (T := TX4) (N := 27) (t0 := tyX4) mL_0 rfl rfl (by decide) (fun z hz => List.mem_cons_of_mem _ (iw_X4 z hz)) tyX4_ok nmX4 rfl rfl (List.mem_cons_of_mem _ gm_454) dX4_findAll_43 (fun M4 => ?_)
  refine xm_aload_n hX 0 dX4_findAll_46 rfl rfl ?_
  refine xm_iconst hX (v := 0) rfl dX4_findAll_47 ?_
  refine xm_puti hX (k := 0) (ci := 4) (j := 22) (C := RX4) (T := TX4) (N := 27) (t0 := tyX4) mL_0 rfl rfl (by decide) (fun z hz => List.mem_cons_of_mem _ (iw_X4 z hz)) tyX4_ok nmX4 rfl rfl (List.mem_cons_of_mem _ gm_455) dX4_findAll_48 (fun M5 => ?_)
  refine xm_iconst hX (v := 0) rfl dX4_findAll_51 ?_
  refine xm_nmi (fun x6 => ?_)
  refine xm_istore_n hX (lv' := [(1, .int x6), (0, .ref (g.1 0))]) dX4_findAll_52 rfl (by decide) rfl ?_
  refine xm_weak [1, 0] (lv' := [(0, .ref (g.1 0)), (1, .int x6)]) rfl ?_
  exact tfX4_findAll_53_it hX xm_N x6 M5
-- ===== OdometryDeskModel.hasNumber(II)Z ['0']
theorem dX4_hasNumber_0 : decode cX4_hasNumber 0 = .ok (.aload_n 0, 1) := by decide +kernel
theorem dX4_hasNumber_1 : decode cX4_hasNumber 1 = .ok (.getfield 23, 3) := by decide +kernel
theorem dX4_hasNumber_4 : decode cX4_hasNumber 4 = .ok (.iload_n 1, 1) := by decide +kernel
theorem dX4_hasNumber_5 : decode cX4_hasNumber 5 = .ok (.iaload, 1) := by decide +kernel
theorem dX4_hasNumber_6 : decode cX4_hasNumber 6 = .ok (.istore_n 3, 1) := by decide +kernel
theorem dX4_hasNumber_7 : decode cX4_hasNumber 7 = .ok (.iload_n 2, 1) := by decide +kernel
theorem dX4_hasNumber_8 : decode cX4_hasNumber 8 = .ok (.iconst 2, 1) := by decide +kernel
theorem dX4_hasNumber_9 : decode cX4_hasNumber 9 = .ok (.if_icmp .ge 5, 3) := by decide +kernel
theorem dX4_hasNumber_12 : decode cX4_hasNumber 12 = .ok (.iconst 1, 1) := by decide +kernel
theorem dX4_hasNumber_13 : decode cX4_hasNumber 13 = .ok (.ireturn, 1) := by decide +kernel
theorem dX4_hasNumber_14 : decode cX4_hasNumber 14 = .ok (.iload_n 2, 1) := by decide +kernel
theorem dX4_hasNumber_15 : decode cX4_hasNumber 15 = .ok (.iconst 4, 1) := by decide +kernel
theorem dX4_hasNumber_16 : decode cX4_hasNumber 16 = .ok (.if_icmp .ge 14, 3) := by decide +kernel
theorem dX4_hasNumber_19 : decode cX4_hasNumber 19 = .ok (.iload_n 3, 1) := by decide +kernel
theorem dX4_hasNumber_20 : decode cX4_hasNumber 20 = .ok (.iconst 4, 1) := by decide +kernel
theorem dX4_hasNumber_21 : decode cX4_hasNumber 21 = .ok (.if_icmp .eq 7, 3) := by decide +kernel
theorem dX4_hasNumber_24 : decode cX4_hasNumber 24 = .ok (.iconst 1, 1) := by decide +kernel
theorem dX4_hasNumber_25 : decode cX4_hasNumber 25 = .ok (.goto 4, 3) := by decide +kernel
theorem dX4_hasNumber_28 : decode cX4_hasNumber 28 = .ok (.iconst 0, 1) := by decide +kernel
theorem dX4_hasNumber_29 : decode cX4_hasNumber 29 = .ok (.ireturn, 1) := by decide +kernel
theorem dX4_hasNumber_30 : decode cX4_hasNumber 30 = .ok (.iload_n 2, 1) := by decide +kernel
theorem dX4_hasNumber_31 : decode cX4_hasNumber 31 = .ok (.bipush 8, 2) := by decide +kernel
theorem dX4_hasNumber_33 : decode cX4_hasNumber 33 = .ok (.if_icmp .le 16, 3) := by decide +kernel
theorem dX4_hasNumber_36 : decode cX4_hasNumber 36 = .ok (.iload_n 3, 1) := by decide +kernel
theorem dX4_hasNumber_37 : decode cX4_hasNumber 37 = .ok (.iconst 4, 1) := by decide +kernel
theorem dX4_hasNumber_38 : decode cX4_hasNumber 38 = .ok (.if_icmp .ne 7, 3) := by decide +kernel
theorem dX4_hasNumber_41 : decode cX4_hasNumber 41 = .ok (.iconst 1, 1) := by decide +kernel
theorem dX4_hasNumber_42 : decode cX4_hasNumber 42 = .ok (.goto 36, 3) := by decide +kernel
theorem dX4_hasNumber_45 : decode cX4_hasNumber 45 = .ok (.iconst 0, 1) := by decide +kernel
theorem dX4_hasNumber_46 : decode cX4_hasNumber 46 = .ok (.goto 32, 3) := by decide +kernel
theorem dX4_hasNumber_49 : decode cX4_hasNumber 49 = .ok (.iload_n 3, 1) := by decide +kernel
theorem dX4_hasNumber_50 : decode cX4_hasNumber 50 = .ok (.iconst 4, 1) := by decide +kernel
theorem dX4_hasNumber_51 : decode cX4_hasNumber 51 = .ok (.if_icmp .eq 26, 3) := by decide +kernel
theorem dX4_hasNumber_54 : decode cX4_hasNumber 54 = .ok (.iload_n 3, 1) := by decide +kernel
theorem dX4_hasNumber_55 : decode cX4_hasNumber 55 = .ok (.ifCond .eq 22, 3) := by decide +kernel
theorem dX4_hasNumber_58 : decode cX4_hasNumber 58 = .ok (.iload_n 2, 1) := by decide +kernel
theorem dX4_hasNumber_59 : decode cX4_hasNumber 59 = .ok (.bipush 7, 2) := by decide +kernel
theorem dX4_hasNumber_61 : decode cX4_hasNumber 61 = .ok (.if_icmp .lt 12, 3) := by decide +kernel
theorem dX4_hasNumber_64 : decode cX4_hasNumber 64 = .ok (.aload_n 0, 1) := by decide +kernel
theorem dX4_hasNumber_65 : decode cX4_hasNumber 65 = .ok (.getfield 50, 3) := by decide +kernel
theorem dX4_hasNumber_68 : decode cX4_hasNumber 68 = .ok (.iload_n 1, 1) := by decide +kernel
theorem dX4_hasNumber_69 : decode cX4_hasNumber 69 = .ok (.iaload, 1) := by decide +kernel
theorem dX4_hasNumber_70 : decode cX4_hasNumber 70 = .ok (.ifCond .lt 7, 3) := by decide +kernel
theorem dX4_hasNumber_73 : decode cX4_hasNumber 73 = .ok (.iconst 1, 1) := by decide +kernel
theorem dX4_hasNumber_74 : decode cX4_hasNumber 74 = .ok (.goto 4, 3) := by decide +kernel
theorem dX4_hasNumber_77 : decode cX4_hasNumber 77 = .ok (.iconst 0, 1) := by decide +kernel
theorem dX4_hasNumber_78 : decode cX4_hasNumber 78 = .ok (.ireturn, 1) := by decide +kernel
abbrev wX4_hasNumber : List Cond := .code yX4_hasNumber cX4_hasNumber 4 (some .boolean) :: lw_gd
theorem hdX4_hasNumber : (yX4_hasNumber.cls ≠ "java/lang/invoke/MethodHandle" ∧ yX4_hasNumber.cls ≠ "java/lang/invoke/VarHandle" ∧ (parseMethodDescriptor yX4_hasNumber.desc).map (fun d => d.parameters.length) = some 2) := by decide +kernel
def fX4_hasNumber_73    (M : xm_M) : Option (Int32 × xm_M) :=
  some ((1 : Int32), M)
set_option maxRecDepth 20000 in
theorem tfX4_hasNumber_73 {p : Program} {l : Launch} {e : Env} {s : State} {m : MethodId} {args : Array Value} {below : List Frame} {meth : Method} {c : Code} {D : va_G} {g : xm_G} {A : Nat → Prop} (hX : xm_X p m meth c cX4_hasNumber 4 s args wX4_hasNumber RX4 (some .boolean) D mL g A)     : ∀ (M : xm_M), xm_J p l e ({ frames := 0, cells := 0, slots := 0, locals := 0 }) s m args below meth c 4 D mL g A (xm_Fi g) 73 [] [] M (fX4_hasNumber_73  M) := by
  intro  M
  unfold fX4_hasNumber_73
  refine xm_iconst hX (v := 1) rfl dX4_hasNumber_73 ?_
  refine xm_goto hX (tgt := 78) dX4_hasNumber_74 rfl ?_
  exact xm_zretL hX (by decide) dX4_hasNumber_78
def fX4_hasNumber  (a1 : Int32) (a2 : Int32) (M : xm_M) : Option (Int32 × xm_M) :=
  if a1 < 0 ∨ 120 ≤ a1.toNatClampNeg then none else xm_lt (M.1 5 a1.toNatClampNeg) (fun x1 => if (2 : Int32) ≤ a2 then if (4 : Int32) ≤ a2 then if a2 ≤ (8 : Int32) then if x1 = (4 : Int32) then some ((0 : Int32), M) else if x1 = 0 then some ((0 : Int32), M) else if a2 < (7 : Int32) then fX4_hasNumber_73 M else if a1 < 0 ∨ 120 ≤ a1.toNatClampNeg then none else if (M.1 14 a1.toNatClampNeg) < 0 then some ((0 : Int32), M) else fX4_hasNumber_73 M else if x1 = (4 : Int32) then some ((1 : Int32), M) else some ((0 : Int32), M) else if x1 = (4 : Int32) then some ((0 : Int32), M) else some ((1 : Int32), M) else some ((1 : Int32), M))
set_option maxRecDepth 20000 in
theorem kX4_hasNumber {l : Launch}   (a1 : Int32) (a2 : Int32) (M : xm_M) : xm_C l yX4_hasNumber wX4_hasNumber ({ frames := 0, cells := 0, slots := 0, locals := 0 }) mL (fun g => [.ref (g.1 0), .int a1, .int a2]) M xm_Fi (fX4_hasNumber  a1 a2 M) := by
  refine xm_C.of (by decide) rfl (fun g => Nat.le_of_ble_eq_true rfl) ?_
  intro p e s m args below meth c D g A hX
  refine xm_lv (lv' := [(0, .ref (g.1 0)), (1, .int a1), (2, .int a2)]) rfl ?_
  unfold fX4_hasNumber
  refine xm_aload_n hX 0 dX4_hasNumber_0 rfl rfl ?_
  refine xm_get hX (k := 0) (ci := 4) (j := 5) (C := RX4) (T := TX4) (N := 27) (v := .ref (g.1 5)) mL_0 rfl rfl rfl (by decide) (fun z hz => List.mem_cons_of_mem _ (iw_X4 z hz)) (List.mem_cons_of_mem _ gm_438) dX4_hasNumber_1 ?_
  refine xm_iload_n hX 1 dX4_hasNumber_4 rfl rfl ?_
  refine xm_iald hX (n := 120) mL_5 dX4_hasNumber_5 ?_
  refine xm_nmi (fun x1 => ?_)
  refine xm_istore_n hX (lv' := [(3, .int x1), (0, .ref (g.1 0)), (1, .int a1), (2, .int a2)]) dX4_hasNumber_6 rfl (by decide) rfl ?_
  refine xm_iload_n hX 3 dX4_hasNumber_7 rfl rfl ?_
  refine xm_iconst hX (v := 2) rfl dX4_hasNumber_8 ?_
  refine xm_icmp_ge hX (tgt := 14) dX4_hasNumber_9 rfl ?_ ?_
  · refine xm_iload_n hX 3 dX4_hasNumber_14 rfl rfl ?_
    refine xm_iconst hX (v := 4) rfl dX4_hasNumber_15 ?_
    refine xm_icmp_ge hX (tgt := 30) dX4_hasNumber_16 rfl ?_ ?_
    · refine xm_iload_n hX 3 dX4_hasNumber_30 rfl rfl ?_
      refine xm_bipush hX (v := 8) rfl dX4_hasNumber_31 ?_
      refine xm_icmp_le hX (tgt := 49) dX4_hasNumber_33 rfl ?_ ?_
      · refine xm_iload_n hX 0 dX4_hasNumber_49 rfl rfl ?_
        refine xm_iconst hX (v := 4) rfl dX4_hasNumber_50 ?_
        refine xm_icmp_eq hX (tgt := 77) dX4_hasNumber_51 rfl ?_ ?_
        · refine xm_iconst hX (v := 0) rfl dX4_hasNumber_77 ?_
          exact xm_zretL hX (by decide) dX4_hasNumber_78
        · refine xm_iload_n hX 0 dX4_hasNumber_54 rfl rfl ?_
          refine xm_if_eq hX (tgt := 77) dX4_hasNumber_55 rfl ?_ ?_
          · refine xm_iconst hX (v := 0) rfl dX4_hasNumber_77 ?_
            exact xm_zretL hX (by decide) dX4_hasNumber_78
          · refine xm_iload_n hX 3 dX4_hasNumber_58 rfl rfl ?_
            refine xm_bipush hX (v := 7) rfl dX4_hasNumber_59 ?_
            refine xm_icmp_lt hX (tgt := 73) dX4_hasNumber_61 rfl ?_ ?_
            · refine xm_weak [] (lv' := []) rfl ?_
              exact tfX4_hasNumber_73 hX M
            · refine xm_aload_n hX 1 dX4_hasNumber_64 rfl rfl ?_
              refine xm_get hX (k := 0) (ci := 4) (j := 14) (C := RX4) (T := TX4) (N := 27) (v := .ref (g.1 14)) mL_0 rfl rfl rfl (by decide) (fun z hz => List.mem_cons_of_mem _ (iw_X4 z hz)) (List.mem_cons_of_mem _ gm_447) dX4_hasNumber_65 ?_
              refine xm_iload_n hX 2 dX4_hasNumber_68 rfl rfl ?_
              refine xm_iald hX (n := 120) mL_14 dX4_hasNumber_69 ?_
              refine xm_if_lt hX (tgt := 77) dX4_hasNumber_70 rfl ?_ ?_
              · refine xm_iconst hX (v := 0) rfl dX4_hasNumber_77 ?_
                exact xm_zretL hX (by decide) dX4_hasNumber_78
              · refine xm_weak [] (lv' := []) rfl ?_
                exact tfX4_hasNumber_73 hX M
      · refine xm_iload_n hX 0 dX4_hasNumber_36 rfl rfl ?_
        refine xm_iconst hX (v := 4) rfl dX4_hasNumber_37 ?_
        refine xm_icmp_ne hX (tgt := 45) dX4_hasNumber_38 rfl ?_ ?_
        · refine xm_iconst hX (v := 0) rfl dX4_hasNumber_45 ?_
          refine xm_goto hX (tgt := 78) dX4_hasNumber_46 rfl ?_
          exact xm_zretL hX (by decide) dX4_hasNumber_78
        · refine xm_iconst hX (v := 1) rfl dX4_hasNumber_41 ?_
          refine xm_goto hX (tgt := 78) dX4_hasNumber_42 rfl ?_
          exact xm_zretL hX (by decide) dX4_hasNumber_78
    · refine xm_iload_n hX 0 dX4_hasNumber_19 rfl rfl ?_
      refine xm_iconst hX (v := 4) rfl dX4_hasNumber_20 ?_
      refine xm_icmp_eq hX (tgt := 28) dX4_hasNumber_21 rfl ?_ ?_
      · refine xm_iconst hX (v := 0) rfl dX4_hasNumber_28 ?_
        exact xm_zretL hX (by decide) dX4_hasNumber_29
      · refine xm_iconst hX (v := 1) rfl dX4_hasNumber_24 ?_
        refine xm_goto hX (tgt := 29) dX4_hasNumber_25 rfl ?_
        exact xm_zretL hX (by decide) dX4_hasNumber_29
  · refine xm_iconst hX (v := 1) rfl dX4_hasNumber_12 ?_
    exact xm_zretL hX (by decide) dX4_hasNumber_13
-- ===== OdometryDeskModel.toldOf(II)I ['0']
theorem dX4_toldOf_0 : decode cX4_toldOf 0 = .ok (.iload_n 2, 1) := by decide +kernel
theorem dX4_toldOf_1 : decode cX4_toldOf 1 = .ok (.tableswitch 115 0 10 #[59, 115, 115, 115, 66, 73, 80, 87, 94, 101, 108], 59) := by decide +kernel
theorem dX4_toldOf_60 : decode cX4_toldOf 60 = .ok (.aload_n 0, 1) := by decide +kernel
theorem dX4_toldOf_61 : decode cX4_toldOf 61 = .ok (.getfield 23, 3) := by decide +kernel
theorem dX4_toldOf_64 : decode cX4_toldOf 64 = .ok (.iload_n 1, 1) := by decide +kernel
theorem dX4_toldOf_65 : decode cX4_toldOf 65 = .ok (.iaload, 1) := by decide +kernel
theorem dX4_toldOf_66 : decode cX4_toldOf 66 = .ok (.ireturn, 1) := by decide +kernel
theorem dX4_toldOf_67 : decode cX4_toldOf 67 = .ok (.aload_n 0, 1) := by decide +kernel
theorem dX4_toldOf_68 : decode cX4_toldOf 68 = .ok (.getfield 41, 3) := by decide +kernel
theorem dX4_toldOf_71 : decode cX4_toldOf 71 = .ok (.iload_n 1, 1) := by decide +kernel
theorem dX4_toldOf_72 : decode cX4_toldOf 72 = .ok (.iaload, 1) := by decide +kernel
theorem dX4_toldOf_73 : decode cX4_toldOf 73 = .ok (.ireturn, 1) := by decide +kernel
theorem dX4_toldOf_74 : decode cX4_toldOf 74 = .ok (.aload_n 0, 1) := by decide +kernel
theorem dX4_toldOf_75 : decode cX4_toldOf 75 = .ok (.getfield 44, 3) := by decide +kernel
theorem dX4_toldOf_78 : decode cX4_toldOf 78 = .ok (.iload_n 1, 1) := by decide +kernel
theorem dX4_toldOf_79 : decode cX4_toldOf 79 = .ok (.iaload, 1) := by decide +kernel
theorem dX4_toldOf_80 : decode cX4_toldOf 80 = .ok (.ireturn, 1) := by decide +kernel
theorem dX4_toldOf_81 : decode cX4_toldOf 81 = .ok (.aload_n 0, 1) := by decide +kernel
theorem dX4_toldOf_82 : decode cX4_toldOf 82 = .ok (.getfield 47, 3) := by decide +kernel
theorem dX4_toldOf_85 : decode cX4_toldOf 85 = .ok (.iload_n 1, 1) := by decide +kernel
theorem dX4_toldOf_86 : decode cX4_toldOf 86 = .ok (.iaload, 1) := by decide +kernel
theorem dX4_toldOf_87 : decode cX4_toldOf 87 = .ok (.ireturn, 1) := by decide +kernel
theorem dX4_toldOf_88 : decode cX4_toldOf 88 = .ok (.aload_n 0, 1) := by decide +kernel
theorem dX4_toldOf_89 : decode cX4_toldOf 89 = .ok (.getfield 50, 3) := by decide +kernel
theorem dX4_toldOf_92 : decode cX4_toldOf 92 = .ok (.iload_n 1, 1) := by decide +kernel
theorem dX4_toldOf_93 : decode cX4_toldOf 93 = .ok (.iaload, 1) := by decide +kernel
theorem dX4_toldOf_94 : decode cX4_toldOf 94 = .ok (.ireturn, 1) := by decide +kernel
theorem dX4_toldOf_95 : decode cX4_toldOf 95 = .ok (.aload_n 0, 1) := by decide +kernel
theorem dX4_toldOf_96 : decode cX4_toldOf 96 = .ok (.getfield 53, 3) := by decide +kernel
theorem dX4_toldOf_99 : decode cX4_toldOf 99 = .ok (.iload_n 1, 1) := by decide +kernel
theorem dX4_toldOf_100 : decode cX4_toldOf 100 = .ok (.iaload, 1) := by decide +kernel
theorem dX4_toldOf_101 : decode cX4_toldOf 101 = .ok (.ireturn, 1) := by decide +kernel
theorem dX4_toldOf_102 : decode cX4_toldOf 102 = .ok (.aload_n 0, 1) := by decide +kernel
theorem dX4_toldOf_103 : decode cX4_toldOf 103 = .ok (.getfield 56, 3) := by decide +kernel
theorem dX4_toldOf_106 : decode cX4_toldOf 106 = .ok (.iload_n 1, 1) := by decide +kernel
theorem dX4_toldOf_107 : decode cX4_toldOf 107 = .ok (.iaload, 1) := by decide +kernel
theorem dX4_toldOf_108 : decode cX4_toldOf 108 = .ok (.ireturn, 1) := by decide +kernel
theorem dX4_toldOf_109 : decode cX4_toldOf 109 = .ok (.aload_n 0, 1) := by decide +kernel
theorem dX4_toldOf_110 : decode cX4_toldOf 110 = .ok (.getfield 59, 3) := by decide +kernel
theorem dX4_toldOf_113 : decode cX4_toldOf 113 = .ok (.iload_n 1, 1) := by decide +kernel
theorem dX4_toldOf_114 : decode cX4_toldOf 114 = .ok (.iaload, 1) := by decide +kernel
theorem dX4_toldOf_115 : decode cX4_toldOf 115 = .ok (.ireturn, 1) := by decide +kernel
theorem dX4_toldOf_116 : decode cX4_toldOf 116 = .ok (.aload_n 0, 1) := by decide +kernel
theorem dX4_toldOf_117 : decode cX4_toldOf 117 = .ok (.iload_n 1, 1) := by decide +kernel
theorem dX4_toldOf_118 : decode cX4_toldOf 118 = .ok (.iload_n 2, 1) := by decide +kernel
theorem dX4_toldOf_119 : decode cX4_toldOf 119 = .ok (.invokevirtual 121, 3) := by decide +kernel
theorem dX4_toldOf_122 : decode cX4_toldOf 122 = .ok (.ireturn, 1) := by decide +kernel
abbrev wX4_toldOf : List Cond := .code yX4_toldOf cX4_toldOf 3 (some .int) :: lw_gd
theorem hdX4_toldOf : (yX4_toldOf.cls ≠ "java/lang/invoke/MethodHandle" ∧ yX4_toldOf.cls ≠ "java/lang/invoke/VarHandle" ∧ (parseMethodDescriptor yX4_toldOf.desc).map (fun d => d.parameters.length) = some 2) := by decide +kernel
def fX4_toldOf_116   (b1 : Int32) (b2 : Int32) (M : xm_M) : Option (Int32 × xm_M) :=
  xm_bi (fX4_ofEntry b1 b2 M) (fun x3 M2 => some (x3, M2))
set_option maxRecDepth 20000 in
theorem tfX4_toldOf_116 {p : Program} {l : Launch} {e : Env} {s : State} {m : MethodId} {args : Array Value} {below : List Frame} {meth : Method} {c : Code} {D : va_G} {g : xm_G} {A : Nat → Prop} (hX : xm_X p m meth c cX4_toldOf 3 s args wX4_toldOf RX4 (some .int) D mL g A)     : ∀ (b1 : Int32), ∀ (b2 : Int32), ∀ (M : xm_M), xm_J p l e ({ frames := 1, cells := 0, slots := 0, locals := 22 }) s m args below meth c 3 D mL g A (xm_Fi g) 116 [(0, .ref (g.1 0)), (1, .int b1), (2, .int b2)] [] M (fX4_toldOf_116 b1 b2 M) := by
  intro b1 b2 M
  unfold fX4_toldOf_116
  refine xm_aload_n hX 0 dX4_toldOf_116 rfl rfl ?_
  refine xm_iload_n hX 1 dX4_toldOf_117 rfl rfl ?_
  refine xm_iload_n hX 2 dX4_toldOf_118 rfl rfl ?_
  refine xm_calli hX (xm_runV hX (k := 0) (ci := 4) (As := (fun g => [.int b1, .int b2])) (kX4_ofEntry b1 b2 M) mL_0 rfl (xm_gV gm_553 gm_554 gm_717 gm_5 gm_555) rfl ⟨rfl, rfl⟩ ⟨rfl, hdX4_ofEntry⟩ ⟨Nat.le_of_ble_eq_true rfl, Nat.le_of_ble_eq_true rfl⟩ rfl (Nat.le_of_ble_eq_true rfl) rfl dX4_toldOf_119) (fun x3 M2 => ?_)
  exact xm_iret hX dX4_toldOf_122
def fX4_toldOf  (a1 : Int32) (a2 : Int32) (M : xm_M) : Option (Int32 × xm_M) :=
  if a2 = 0 then if a1 < 0 ∨ 120 ≤ a1.toNatClampNeg then none else some (M.1 5 a1.toNatClampNeg, M) else if a2 = 1 then fX4_toldOf_116 a1 a2 M else if a2 = 2 then fX4_toldOf_116 a1 a2 M else if a2 = 3 then fX4_toldOf_116 a1 a2 M else if a2 = 4 then if a1 < 0 ∨ 120 ≤ a1.toNatClampNeg then none else some (M.1 11 a1.toNatClampNeg, M) else if a2 = 5 then if a1 < 0 ∨ 120 ≤ a1.toNatClampNeg then none else some (M.1 12 a1.toNatClampNeg, M) else if a2 = 6 then if a1 < 0 ∨ 120 ≤ a1.toNatClampNeg then none else some (M.1 13 a1.toNatClampNeg, M) else if a2 = 7 then if a1 < 0 ∨ 120 ≤ a1.toNatClampNeg then none else some (M.1 14 a1.toNatClampNeg, M) else if a2 = 8 then if a1 < 0 ∨ 120 ≤ a1.toNatClampNeg then none else some (M.1 15 a1.toNatClampNeg, M) else if a2 = 9 then if a1 < 0 ∨ 120 ≤ a1.toNatClampNeg then none else some (M.1 16 a1.toNatClampNeg, M) else if a2 = 10 then if a1 < 0 ∨ 120 ≤ a1.toNatClampNeg then none else some (M.1 17 a1.toNatClampNeg, M) else fX4_toldOf_116 a1 a2 M
set_option maxRecDepth 20000 in
theorem kX4_toldOf {l : Launch}   (a1 : Int32) (a2 : Int32) (M : xm_M) : xm_C l yX4_toldOf wX4_toldOf ({ frames := 1, cells := 0, slots := 0, locals := 22 }) mL (fun g => [.ref (g.1 0), .int a1, .int a2]) M xm_Fi (fX4_toldOf  a1 a2 M) := by
  refine xm_C.of (by decide) rfl (fun g => Nat.le_of_ble_eq_true rfl) ?_
  intro p e s m args below meth c D g A hX
  refine xm_lv (lv' := [(0, .ref (g.1 0)), (1, .int a1), (2, .int a2)]) rfl ?_
  unfold fX4_toldOf
  refine xm_iload_n hX 2 dX4_toldOf_0 rfl rfl ?_
  refine xm_ite (fun z1 => ?_) (fun z1 => ?_)
  · refine xm_tsIn hX (tgt := 60) dX4_toldOf_1 z1 (by decide) (by decide) rfl rfl ?_
    refine xm_aload_n hX 0 dX4_toldOf_60 rfl rfl ?_
    refine xm_get hX (k := 0) (ci := 4) (j := 5) (C := RX4) (T := TX4) (N := 27) (v := .ref (g.1 5)) mL_0 rfl rfl rfl (by decide) (fun z hz => List.mem_cons_of_mem _ (iw_X4 z hz)) (List.mem_cons_of_mem _ gm_438) dX4_toldOf_61 ?_
    refine xm_iload_n hX 1 dX4_toldOf_64 rfl rfl ?_
    refine xm_iald hX (n := 120) mL_5 dX4_toldOf_65 ?_
    exact xm_iret hX dX4_toldOf_66
  refine xm_ite (fun z4 => ?_) (fun z4 => ?_)
  · refine xm_tsIn hX (tgt := 116) dX4_toldOf_1 z4 (by decide) (by decide) rfl rfl ?_
    exact tfX4_toldOf_116 hX a1 a2 M
  refine xm_ite (fun z5 => ?_) (fun z5 => ?_)
  · refine xm_tsIn hX (tgt := 116) dX4_toldOf_1 z5 (by decide) (by decide) rfl rfl ?_
    exact tfX4_toldOf_116 hX a1 a2 M
  refine xm_ite (fun z6 => ?_) (fun z6 => ?_)
  · refine xm_tsIn hX (tgt := 116) dX4_toldOf_1 z6 (by decide) (by decide) rfl rfl ?_
    exact tfX4_toldOf_116 hX a1 a2 M
  refine xm_ite (fun z7 => ?_) (fun z7 => ?_)
  · refine xm_tsIn hX (tgt := 67) dX4_toldOf_1 z7 (by decide) (by decide) rfl rfl ?_
    refine xm_aload_n hX 0 dX4_toldOf_67 rfl rfl ?_
    refine xm_get hX (k := 0) (ci := 4) (j := 11) (C := RX4) (T := TX4) (N := 27) (v := .ref (g.1 11)) mL_0 rfl rfl rfl (by decide) (fun z hz => List.mem_cons_of_mem _ (iw_X4 z hz)) (List.mem_cons_of_mem _ gm_444) dX4_toldOf_68 ?_
    refine xm_iload_n hX 1 dX4_toldOf_71 rfl rfl ?_
    refine xm_iald hX (n := 120) mL_11 dX4_toldOf_72 ?_
    exact xm_iret hX dX4_toldOf_73
  refine xm_ite (fun z8 => ?_) (fun z8 => ?_)
  · refine xm_tsIn hX (tgt := 74) dX4_toldOf_1 z8 (by decide) (by decide) rfl rfl ?_
    refine xm_aload_n hX 0 dX4_toldOf_74 rfl rfl ?_
    refine xm_get hX (k := 0) (ci := 4) (j := 12) (C := RX4) (T := TX4) (N := 27) (v := .ref (g.1 12)) mL_0 rfl rfl rfl (by decide) (fun z hz => List.mem_cons_of_mem _ (iw_X4 z hz)) (List.mem_cons_of_mem _ gm_445) dX4_toldOf_75 ?_
    refine xm_iload_n hX 1 dX4_toldOf_78 rfl rfl ?_
    refine xm_iald hX (n := 120) mL_12 dX4_toldOf_79 ?_
    exact xm_iret hX dX4_toldOf_80
  refine xm_ite (fun z9 => ?_) (fun z9 => ?_)
  · refine xm_tsIn hX (tgt := 81) dX4_toldOf_1 z9 (by decide) (by decide) rfl rfl ?_
    refine xm_aload_n hX 0 dX4_toldOf_81 rfl rfl ?_
    refine xm_get hX (k := 0) (ci := 4) (j := 13) (C := RX4) (T := TX4) (N := 27) (v := .ref (g.1 13)) mL_0 rfl rfl rfl (by decide) (fun z hz => List.mem_cons_of_mem _ (iw_X4 z hz)) (List.mem_cons_of_mem _ gm_446) dX4_toldOf_82 ?_
    refine xm_iload_n hX 1 dX4_toldOf_85 rfl rfl ?_
    refine xm_iald hX (n := 120) mL_13 dX4_toldOf_86 ?_
    exact xm_iret hX dX4_toldOf_87
  refine xm_ite (fun z10 => ?_) (fun z10 => ?_)
  · refine xm_tsIn hX (tgt := 88) dX4_toldOf_1 z10 (by decide) (by decide) rfl rfl ?_
    refine xm_aload_n hX 0 dX4_toldOf_88 rfl rfl ?_
    refine xm_get hX (k := 0) (ci := 4) (j := 14) (C := RX4) (T := TX4) (N := 27) (v := .ref (g.1 14)) mL_0 rfl rfl rfl (by decide) (fun z hz => List.mem_cons_of_mem _ (iw_X4 z hz)) (List.mem_cons_of_mem _ gm_447) dX4_toldOf_89 ?_
    refine xm_iload_n hX 1 dX4_toldOf_92 rfl rfl ?_
    refine xm_iald hX (n := 120) mL_14 dX4_toldOf_93 ?_
    exact xm_iret hX dX4_toldOf_94
  refine xm_ite (fun z11 => ?_) (fun z11 => ?_)
  · refine xm_tsIn hX (tgt := 95) dX4_toldOf_1 z11 (by decide) (by decide) rfl rfl ?_
    refine xm_aload_n hX 0 dX4_toldOf_95 rfl rfl ?_
    refine xm_get hX (k := 0) (ci := 4) (j := 15) (C := RX4) (T := TX4) (N := 27) (v := .ref (g.1 15)) mL_0 rfl rfl rfl (by decide) (fun z hz => List.mem_cons_of_mem _ (iw_X4 z hz)) (List.mem_cons_of_mem _ gm_448) dX4_toldOf_96 ?_
    refine xm_iload_n hX 1 dX4_toldOf_99 rfl rfl ?_
    refine xm_iald hX (n := 120) mL_15 dX4_toldOf_100 ?_
    exact xm_iret hX dX4_toldOf_101
  refine xm_ite (fun z12 => ?_) (fun z12 => ?_)
  · refine xm_tsIn hX (tgt := 102) dX4_toldOf_1 z12 (by decide) (by decide) rfl rfl ?_
    refine xm_aload_n hX 0 dX4_toldOf_102 rfl rfl ?_
    refine xm_get hX (k := 0) (ci := 4) (j := 16) (C := RX4) (T := TX4) (N := 27) (v := .ref (g.1 16)) mL_0 rfl rfl rfl (by decide) (fun z hz => List.mem_cons_of_mem _ (iw_X4 z hz)) (List.mem_cons_of_mem _ gm_449) dX4_toldOf_103 ?_
    refine xm_iload_n hX 1 dX4_toldOf_106 rfl rfl ?_
    refine xm_iald hX (n := 120) mL_16 dX4_toldOf_107 ?_
    exact xm_iret hX dX4_toldOf_108
  refine xm_ite (fun z13 => ?_) (fun z13 => ?_)
  · refine xm_tsIn hX (tgt := 109) dX4_toldOf_1 z13 (by decide) (by decide) rfl rfl ?_
    refine xm_aload_n hX 0 dX4_toldOf_109 rfl rfl ?_
    refine xm_get hX (k := 0) (ci := 4) (j := 17) (C := RX4) (T := TX4) (N := 27) (v := .ref (g.1 17)) mL_0 rfl rfl rfl (by decide) (fun z hz => List.mem_cons_of_mem _ (iw_X4 z hz)) (List.mem_cons_of_mem _ gm_450) dX4_toldOf_110 ?_
    refine xm_iload_n hX 1 dX4_toldOf_113 rfl rfl ?_
    refine xm_iald hX (n := 120) mL_17 dX4_toldOf_114 ?_
    exact xm_iret hX dX4_toldOf_115
  refine xm_tsOut hX (tgt := 116) dX4_toldOf_1 (by have qz1 := lv_neT (a := 0) z1 rfl; have qz4 := lv_neT (a := 1) z4 rfl; have qz5 := lv_neT (a := 2) z5 rfl; have qz6 := lv_neT (a := 3) z6 rfl; have qz7 := lv_neT (a := 4) z7 rfl; have qz8 := lv_neT (a := 5) z8 rfl; have qz9 := lv_neT (a := 6) z9 rfl; have qz10 := lv_neT (a := 7) z10 rfl; have qz11 := lv_neT (a := 8) z11 rfl; have qz12 := lv_neT (a := 9) z12 rfl; have qz13 := lv_neT (a := 10) z13 rfl; omega) rfl ?_
  exact tfX4_toldOf_116 hX a1 a2 M
-- ===== OdometryDeskModel.about(II)I ['0']
theorem dX4_about_0 : decode cX4_about 0 = .ok (.iload_n 1, 1) := by decide +kernel
theorem dX4_about_1 : decode cX4_about 1 = .ok (.ifCond .lt 14, 3) := by decide +kernel
theorem dX4_about_4 : decode cX4_about 4 = .ok (.iload_n 1, 1) := by decide +kernel
theorem dX4_about_5 : decode cX4_about 5 = .ok (.aload_n 0, 1) := by decide +kernel
theorem dX4_about_6 : decode cX4_about 6 = .ok (.getfield 7, 3) := by decide +kernel
theorem dX4_about_9 : decode cX4_about 9 = .ok (.bipush 11, 2) := by decide +kernel
theorem dX4_about_11 : decode cX4_about 11 = .ok (.iaload, 1) := by decide +kernel
theorem dX4_about_12 : decode cX4_about 12 = .ok (.if_icmp .lt 6, 3) := by decide +kernel
theorem dX4_about_15 : decode cX4_about 15 = .ok (.ldc 171, 2) := by decide +kernel
theorem dX4_about_17 : decode cX4_about 17 = .ok (.ireturn, 1) := by decide +kernel
theorem dX4_about_18 : decode cX4_about 18 = .ok (.iload_n 2, 1) := by decide +kernel
theorem dX4_about_19 : decode cX4_about 19 = .ok (.iconst 0, 1) := by decide +kernel
theorem dX4_about_20 : decode cX4_about 20 = .ok (.bipush 10, 2) := by decide +kernel
theorem dX4_about_22 : decode cX4_about 22 = .ok (.invokestatic 67, 3) := by decide +kernel
theorem dX4_about_25 : decode cX4_about 25 = .ok (.ifCond .ne 6, 3) := by decide +kernel
theorem dX4_about_28 : decode cX4_about 28 = .ok (.ldc 172, 2) := by decide +kernel
theorem dX4_about_30 : decode cX4_about 30 = .ok (.ireturn, 1) := by decide +kernel
theorem dX4_about_31 : decode cX4_about 31 = .ok (.aload_n 0, 1) := by decide +kernel
theorem dX4_about_32 : decode cX4_about 32 = .ok (.invokevirtual 176, 3) := by decide +kernel
theorem dX4_about_35 : decode cX4_about 35 = .ok (.aload_n 0, 1) := by decide +kernel
theorem dX4_about_36 : decode cX4_about 36 = .ok (.iload_n 1, 1) := by decide +kernel
theorem dX4_about_37 : decode cX4_about 37 = .ok (.iload_n 2, 1) := by decide +kernel
theorem dX4_about_38 : decode cX4_about 38 = .ok (.invokevirtual 183, 3) := by decide +kernel
theorem dX4_about_41 : decode cX4_about 41 = .ok (.ifCond .eq 12, 3) := by decide +kernel
theorem dX4_about_44 : decode cX4_about 44 = .ok (.aload_n 0, 1) := by decide +kernel
theorem dX4_about_45 : decode cX4_about 45 = .ok (.iload_n 1, 1) := by decide +kernel
theorem dX4_about_46 : decode cX4_about 46 = .ok (.iload_n 2, 1) := by decide +kernel
theorem dX4_about_47 : decode cX4_about 47 = .ok (.invokevirtual 186, 3) := by decide +kernel
theorem dX4_about_50 : decode cX4_about 50 = .ok (.goto 5, 3) := by decide +kernel
theorem dX4_about_53 : decode cX4_about 53 = .ok (.ldc 189, 2) := by decide +kernel
theorem dX4_about_55 : decode cX4_about 55 = .ok (.ireturn, 1) := by decide +kernel
abbrev wX4_about : List Cond := .code yX4_about cX4_about 3 (some .int) :: lw_gd
theorem hdX4_about : (yX4_about.cls ≠ "java/lang/invoke/MethodHandle" ∧ yX4_about.cls ≠ "java/lang/invoke/VarHandle" ∧ (parseMethodDescriptor yX4_about.desc).map (fun d => d.parameters.length) = some 2) := by decide +kernel
def fX4_about  (a1 : Int32) (a2 : Int32) (M : xm_M) : Option (Int32 × xm_M) :=
  if a1 < 0 then some ((-1000000001 : Int32), M) else if a1 < (M.1 1 11) then xm_bi (fX4_in a2 (0 : Int32) (10 : Int32) M) (fun x2 M1 => if x2 = 0 then some ((-1000000002 : Int32), M1) else xm_bv (fX4_findAll M1) (fun M3 => xm_bi (fX4_hasNumber a1 a2 M3) (fun x5 M4 => if x5 = 0 then some ((-1000000006 : Int32), M4) else xm_bi (fX4_toldOf a1 a2 M4) (fun x7 M6 => some (x7, M6))))) else some ((-1000000001 : Int32), M)
set_option maxRecDepth 20000 in
theorem kX4_about {l : Launch}   (a1 : Int32) (a2 : Int32) (M : xm_M) : xm_C l yX4_about wX4_about ({ frames := 5, cells := 0, slots := 0, locals := 121 }) mL (fun g => [.ref (g.1 0), .int a1, .int a2]) M xm_Fi (fX4_about  a1 a2 M) := by
  refine xm_C.of (by decide) rfl (fun g => Nat.le_of_ble_eq_true rfl) ?_
  intro p e s m args below meth c D g A hX
  refine xm_lv (lv' := [(0, .ref (g.1 0)), (1, .int a1), (2, .int a2)]) rfl ?_
  unfold fX4_about
  refine xm_iload_n hX 1 dX4_about_0 rfl rfl ?_
  refine xm_if_lt hX (tgt := 15) dX4_about_1 rfl ?_ ?_
  · refine xm_ldc hX (v := -1000000001) (List.mem_cons_of_mem _ gm_545) dX4_about_15 ?_
    exact xm_iret hX dX4_about_17
  · refine xm_iload_n hX 1 dX4_about_4 rfl rfl ?_
    refine xm_aload_n hX 0 dX4_about_5 rfl rfl ?_
    refine xm_get hX (k := 0) (ci := 4) (j := 0) (C := RX4) (T := TX4) (N := 27) (v := .ref (g.1 1)) mL_0 rfl rfl rfl (by decide) (fun z hz => List.mem_cons_of_mem _ (iw_X4 z hz)) (List.mem_cons_of_mem _ gm_433) dX4_about_6 ?_
    refine xm_bipush hX (v := 11) rfl dX4_about_9 ?_
    refine xm_ialdL hX (n := 547) (j := 11) mL_1 (by decide) rfl dX4_about_11 ?_
    refine xm_icmp_lt hX (tgt := 18) dX4_about_12 rfl ?_ ?_
    · refine xm_iload_n hX 2 dX4_about_18 rfl rfl ?_
      refine xm_iconst hX (v := 0) rfl dX4_about_19 ?_
      refine xm_bipush hX (v := 10) rfl dX4_about_20 ?_
      refine xm_calli hX (xm_runS hX (As := (fun g => [.int a2, .int (0 : Int32), .int (10 : Int32)])) (kX4_in a2 (0 : Int32) (10 : Int32) M) (xm_gS gm_495 gm_496 gm_5 gm_497) rfl ⟨rfl, rfl⟩ hdX4_in ⟨Nat.le_of_ble_eq_true rfl, Nat.le_of_ble_eq_true rfl⟩ rfl (Nat.le_of_ble_eq_true rfl) rfl dX4_about_22) (fun x2 M1 => ?_)
      refine xm_if_ne hX (tgt := 31) dX4_about_25 rfl ?_ ?_
      · refine xm_aload_n hX 0 dX4_about_31 rfl rfl ?_
        refine xm_callv hX (xm_runV hX (k := 0) (ci := 4) (As := (fun g => [])) (kX4_findAll M1) mL_0 rfl (xm_gV gm_550 gm_551 gm_716 gm_5 gm_552) rfl ⟨rfl, rfl⟩ ⟨rfl, hdX4_findAll⟩ ⟨Nat.le_of_ble_eq_true rfl, Nat.le_of_ble_eq_true rfl⟩ rfl (Nat.le_of_ble_eq_true rfl) rfl dX4_about_32) (fun M3 => ?_)
        refine xm_aload_n hX 0 dX4_about_35 rfl rfl ?_
        refine xm_iload_n hX 1 dX4_about_36 rfl rfl ?_
        refine xm_iload_n hX 2 dX4_about_37 rfl rfl ?_
        refine xm_calli hX (xm_runV hX (k := 0) (ci := 4) (As := (fun g => [.int a1, .int a2])) (kX4_hasNumber a1 a2 M3) mL_0 rfl (xm_gV gm_605 gm_606 gm_724 gm_5 gm_607) rfl ⟨rfl, rfl⟩ ⟨rfl, hdX4_hasNumber⟩ ⟨Nat.le_of_ble_eq_true rfl, Nat.le_of_ble_eq_true rfl⟩ rfl (Nat.le_of_ble_eq_true rfl) rfl dX4_about_38) (fun x5 M4 => ?_)
        refine xm_if_eq hX (tgt := 53) dX4_about_41 rfl ?_ ?_
        · refine xm_ldc hX (v := -1000000006) (List.mem_cons_of_mem _ gm_611) dX4_about_53 ?_
          exact xm_iret hX dX4_about_55
        · refine xm_aload_n hX 0 dX4_about_44 rfl rfl ?_
          refine xm_iload_n hX 1 dX4_about_45 rfl rfl ?_
          refine xm_iload_n hX 2 dX4_about_46 rfl rfl ?_
          refine xm_calli hX (xm_runV hX (k := 0) (ci := 4) (As := (fun g => [.int a1, .int a2])) (kX4_toldOf a1 a2 M4) mL_0 rfl (xm_gV gm_608 gm_609 gm_725 gm_5 gm_610) rfl ⟨rfl, rfl⟩ ⟨rfl, hdX4_toldOf⟩ ⟨Nat.le_of_ble_eq_true rfl, Nat.le_of_ble_eq_true rfl⟩ rfl (Nat.le_of_ble_eq_true rfl) rfl dX4_about_47) (fun x7 M6 => ?_)
          refine xm_goto hX (tgt := 55) dX4_about_50 rfl ?_
          exact xm_iret hX dX4_about_55
      · refine xm_ldc hX (v := -1000000002) (List.mem_cons_of_mem _ gm_546) dX4_about_28 ?_
        exact xm_iret hX dX4_about_30
    · refine xm_ldc hX (v := -1000000001) (List.mem_cons_of_mem _ gm_545) dX4_about_15 ?_
      exact xm_iret hX dX4_about_17
-- ===== OdometryDeskModel.isPlace(I)Z
theorem dX4_isPlace_0 : decode cX4_isPlace 0 = .ok (.iload_n 0, 1) := by decide +kernel
theorem dX4_isPlace_1 : decode cX4_isPlace 1 = .ok (.ldc 66, 2) := by decide +kernel
theorem dX4_isPlace_3 : decode cX4_isPlace 3 = .ok (.ldc 65, 2) := by decide +kernel
theorem dX4_isPlace_5 : decode cX4_isPlace 5 = .ok (.invokestatic 67, 3) := by decide +kernel
theorem dX4_isPlace_8 : decode cX4_isPlace 8 = .ok (.ireturn, 1) := by decide +kernel
abbrev wX4_isPlace : List Cond := .code yX4_isPlace cX4_isPlace 1 (some .boolean) :: lw_gd
theorem hdX4_isPlace : (yX4_isPlace.cls ≠ "java/lang/invoke/MethodHandle" ∧ yX4_isPlace.cls ≠ "java/lang/invoke/VarHandle" ∧ (parseMethodDescriptor yX4_isPlace.desc).map (fun d => d.parameters.length) = some 1) := by decide +kernel
def fX4_isPlace  (a0 : Int32) (M : xm_M) : Option (Int32 × xm_M) :=
  xm_bi (fX4_in a0 (-100000 : Int32) (100000 : Int32) M) (fun x2 M1 => if x2 = 0 ∨ x2 = 1 then some (x2, M1) else none)
set_option maxRecDepth 20000 in
theorem kX4_isPlace {l : Launch}   (a0 : Int32) (M : xm_M) : xm_C l yX4_isPlace wX4_isPlace ({ frames := 1, cells := 0, slots := 0, locals := 22 }) mL (fun g => [.int a0]) M xm_Fi (fX4_isPlace  a0 M) := by
  refine xm_C.of (by decide) rfl (fun g => Nat.le_of_ble_eq_true rfl) ?_
  intro p e s m args below meth c D g A hX
  refine xm_lv (lv' := [(0, .int a0)]) rfl ?_
  unfold fX4_isPlace
  refine xm_iload_n hX 0 dX4_isPlace_0 rfl rfl ?_
  refine xm_ldc hX (v := -100000) (List.mem_cons_of_mem _ gm_510) dX4_isPlace_1 ?_
  refine xm_ldc hX (v := 100000) (List.mem_cons_of_mem _ gm_432) dX4_isPlace_3 ?_
  refine xm_calli hX (xm_runS hX (As := (fun g => [.int a0, .int (-100000 : Int32), .int (100000 : Int32)])) (kX4_in a0 (-100000 : Int32) (100000 : Int32) M) (xm_gS gm_495 gm_496 gm_5 gm_497) rfl ⟨rfl, rfl⟩ hdX4_in ⟨Nat.le_of_ble_eq_true rfl, Nat.le_of_ble_eq_true rfl⟩ rfl (Nat.le_of_ble_eq_true rfl) rfl dX4_isPlace_5) (fun x2 M1 => ?_)
  exact xm_zret hX dX4_isPlace_8
-- ===== OdometryDeskModel.begin(III)I ['0']
theorem dX4_begin_0 : decode cX4_begin 0 = .ok (.iload_n 1, 1) := by decide +kernel
theorem dX4_begin_1 : decode cX4_begin 1 = .ok (.invokestatic 81, 3) := by decide +kernel
theorem dX4_begin_4 : decode cX4_begin 4 = .ok (.ifCond .eq 20, 3) := by decide +kernel
theorem dX4_begin_7 : decode cX4_begin 7 = .ok (.iload_n 2, 1) := by decide +kernel
theorem dX4_begin_8 : decode cX4_begin 8 = .ok (.invokestatic 81, 3) := by decide +kernel
theorem dX4_begin_11 : decode cX4_begin 11 = .ok (.ifCond .eq 13, 3) := by decide +kernel
theorem dX4_begin_14 : decode cX4_begin 14 = .ok (.iload_n 3, 1) := by decide +kernel
theorem dX4_begin_15 : decode cX4_begin 15 = .ok (.iconst 0, 1) := by decide +kernel
theorem dX4_begin_16 : decode cX4_begin 16 = .ok (.ldc 85, 2) := by decide +kernel
theorem dX4_begin_18 : decode cX4_begin 18 = .ok (.invokestatic 67, 3) := by decide +kernel
theorem dX4_begin_21 : decode cX4_begin 21 = .ok (.ifCond .ne 6, 3) := by decide +kernel
theorem dX4_begin_24 : decode cX4_begin 24 = .ok (.bipush (-2), 2) := by decide +kernel
theorem dX4_begin_26 : decode cX4_begin 26 = .ok (.ireturn, 1) := by decide +kernel
theorem dX4_begin_27 : decode cX4_begin 27 = .ok (.aload_n 0, 1) := by decide +kernel
theorem dX4_begin_28 : decode cX4_begin 28 = .ok (.getfield 7, 3) := by decide +kernel
theorem dX4_begin_31 : decode cX4_begin 31 = .ok (.bipush 12, 2) := by decide +kernel
theorem dX4_begin_33 : decode cX4_begin 33 = .ok (.iload_n 1, 1) := by decide +kernel
theorem dX4_begin_34 : decode cX4_begin 34 = .ok (.iastore, 1) := by decide +kernel
theorem dX4_begin_35 : decode cX4_begin 35 = .ok (.aload_n 0, 1) := by decide +kernel
theorem dX4_begin_36 : decode cX4_begin 36 = .ok (.getfield 7, 3) := by decide +kernel
theorem dX4_begin_39 : decode cX4_begin 39 = .ok (.bipush 13, 2) := by decide +kernel
theorem dX4_begin_41 : decode cX4_begin 41 = .ok (.iload_n 2, 1) := by decide +kernel
theorem dX4_begin_42 : decode cX4_begin 42 = .ok (.iastore, 1) := by decide +kernel
theorem dX4_begin_43 : decode cX4_begin 43 = .ok (.aload_n 0, 1) := by decide +kernel
theorem dX4_begin_44 : decode cX4_begin 44 = .ok (.getfield 7, 3) := by decide +kernel
theorem dX4_begin_47 : decode cX4_begin 47 = .ok (.bipush 14, 2) := by decide +kernel
theorem dX4_begin_49 : decode cX4_begin 49 = .ok (.iload_n 3, 1) := by decide +kernel
theorem dX4_begin_50 : decode cX4_begin 50 = .ok (.iastore, 1) := by decide +kernel
theorem dX4_begin_51 : decode cX4_begin 51 = .ok (.aload_n 0, 1) := by decide +kernel
theorem dX4_begin_52 : decode cX4_begin 52 = .ok (.getfield 7, 3) := by decide +kernel
theorem dX4_begin_55 : decode cX4_begin 55 = .ok (.bipush 11, 2) := by decide +kernel
theorem dX4_begin_57 : decode cX4_begin 57 = .ok (.iaload, 1) := by decide +kernel
theorem dX4_begin_58 : decode cX4_begin 58 = .ok (.ireturn, 1) := by decide +kernel
abbrev wX4_begin : List Cond := .code yX4_begin cX4_begin 4 (some .int) :: lw_gd
theorem hdX4_begin : (yX4_begin.cls ≠ "java/lang/invoke/MethodHandle" ∧ yX4_begin.cls ≠ "java/lang/invoke/VarHandle" ∧ (parseMethodDescriptor yX4_begin.desc).map (fun d => d.parameters.length) = some 3) := by decide +kernel
def fX4_begin  (a1 : Int32) (a2 : Int32) (a3 : Int32) (M : xm_M) : Option (Int32 × xm_M) :=
  xm_bi (fX4_isPlace a1 M) (fun x2 M1 => if x2 = 0 then some ((-2 : Int32), M1) else xm_bi (fX4_isPlace a2 M1) (fun x4 M3 => if x4 = 0 then some ((-2 : Int32), M3) else xm_bi (fX4_in a3 (0 : Int32) (3599999 : Int32) M3) (fun x6 M5 => if x6 = 0 then some ((-2 : Int32), M5) else xm_lt (xm_s M5 1 12 a1) (fun M7 => xm_lt (xm_s M7 1 13 a2) (fun M8 => xm_lt (xm_s M8 1 14 a3) (fun M9 => some (M9.1 1 11, M9)))))))
set_option maxRecDepth 20000 in
theorem kX4_begin {l : Launch}   (a1 : Int32) (a2 : Int32) (a3 : Int32) (M : xm_M) : xm_C l yX4_begin wX4_begin ({ frames := 2, cells := 0, slots := 0, locals := 42 }) mL (fun g => [.ref (g.1 0), .int a1, .int a2, .int a3]) M xm_Fi (fX4_begin  a1 a2 a3 M) := by
  refine xm_C.of (by decide) rfl (fun g => Nat.le_of_ble_eq_true rfl) ?_
  intro p e s m args below meth c D g A hX
  refine xm_lv (lv' := [(0, .ref (g.1 0)), (1, .int a1), (2, .int a2), (3, .int a3)]) rfl ?_
  unfold fX4_begin
  refine xm_iload_n hX 1 dX4_begin_0 rfl rfl ?_
  refine xm_calli hX (xm_runS hX (As := (fun g => [.int a1])) (kX4_isPlace a1 M) (xm_gS gm_507 gm_508 gm_5 gm_509) rfl ⟨rfl, rfl⟩ hdX4_isPlace ⟨Nat.le_of_ble_eq_true rfl, Nat.le_of_ble_eq_true rfl⟩ rfl (Nat.le_of_ble_eq_true rfl) rfl dX4_begin_1) (fun x2 M1 => ?_)
  refine xm_if_eq hX (tgt := 24) dX4_begin_4 rfl ?_ ?_
  · refine xm_bipush hX (v := -2) rfl dX4_begin_24 ?_
    exact xm_iret hX dX4_begin_26
  · refine xm_iload_n hX 2 dX4_begin_7 rfl rfl ?_
    refine xm_calli hX (xm_runS hX (As := (fun g => [.int a2])) (kX4_isPlace a2 M1) (xm_gS gm_507 gm_508 gm_5 gm_509) rfl ⟨rfl, rfl⟩ hdX4_isPlace ⟨Nat.le_of_ble_eq_true rfl, Nat.le_of_ble_eq_true rfl⟩ rfl (Nat.le_of_ble_eq_true rfl) rfl dX4_begin_8) (fun x4 M3 => ?_)
    refine xm_if_eq hX (tgt := 24) dX4_begin_11 rfl ?_ ?_
    · refine xm_bipush hX (v := -2) rfl dX4_begin_24 ?_
      exact xm_iret hX dX4_begin_26
    · refine xm_iload_n hX 3 dX4_begin_14 rfl rfl ?_
      refine xm_iconst hX (v := 0) rfl dX4_begin_15 ?_
      refine xm_ldc hX (v := 3599999) (List.mem_cons_of_mem _ gm_523) dX4_begin_16 ?_
      refine xm_calli hX (xm_runS hX (As := (fun g => [.int a3, .int (0 : Int32), .int (3599999 : Int32)])) (kX4_in a3 (0 : Int32) (3599999 : Int32) M3) (xm_gS gm_495 gm_496 gm_5 gm_497) rfl ⟨rfl, rfl⟩ hdX4_in ⟨Nat.le_of_ble_eq_true rfl, Nat.le_of_ble_eq_true rfl⟩ rfl (Nat.le_of_ble_eq_true rfl) rfl dX4_begin_18) (fun x6 M5 => ?_)
      refine xm_if_ne hX (tgt := 27) dX4_begin_21 rfl ?_ ?_
      · refine xm_aload_n hX 0 dX4_begin_27 rfl rfl ?_
        refine xm_get hX (k := 0) (ci := 4) (j := 0) (C := RX4) (T := TX4) (N := 27) (v := .ref (g.1 1)) mL_0 rfl rfl rfl (by decide) (fun z hz => List.mem_cons_of_mem _ (iw_X4 z hz)) (List.mem_cons_of_mem _ gm_433) dX4_begin_28 ?_
        refine xm_bipush hX (v := 12) rfl dX4_begin_31 ?_
        refine xm_iload_n hX 1 dX4_begin_33 rfl rfl ?_
        refine xm_iastL hX (n := 547) (j := 12) mL_1 (by decide) rfl dX4_begin_34 (fun M7 => ?_)
        refine xm_aload_n hX 0 dX4_begin_35 rfl rfl ?_
        refine xm_get hX (k := 0) (ci := 4) (j := 0) (C := RX4) (T := TX4) (N := 27) (v := .ref (g.1 1)) mL_0 rfl rfl rfl (by decide) (fun z hz => List.mem_cons_of_mem _ (iw_X4 z hz)) (List.mem_cons_of_mem _ gm_433) dX4_begin_36 ?_
        refine xm_bipush hX (v := 13) rfl dX4_begin_39 ?_
        refine xm_iload_n hX 2 dX4_begin_41 rfl rfl ?_
        refine xm_iastL hX (n := 547) (j := 13) mL_1 (by decide) rfl dX4_begin_42 (fun M8 => ?_)
        refine xm_aload_n hX 0 dX4_begin_43 rfl rfl ?_
        refine xm_get hX (k := 0) (ci := 4) (j := 0) (C := RX4) (T := TX4) (N := 27) (v := .ref (g.1 1)) mL_0 rfl rfl rfl (by decide) (fun z hz => List.mem_cons_of_mem _ (iw_X4 z hz)) (List.mem_cons_of_mem _ gm_433) dX4_begin_44 ?_
        refine xm_bipush hX (v := 14) rfl dX4_begin_47 ?_
        refine xm_iload_n hX 3 dX4_begin_49 rfl rfl ?_
        refine xm_iastL hX (n := 547) (j := 14) mL_1 (by decide) rfl dX4_begin_50 (fun M9 => ?_)
        refine xm_aload_n hX 0 dX4_begin_51 rfl rfl ?_
        refine xm_get hX (k := 0) (ci := 4) (j := 0) (C := RX4) (T := TX4) (N := 27) (v := .ref (g.1 1)) mL_0 rfl rfl rfl (by decide) (fun z hz => List.mem_cons_of_mem _ (iw_X4 z hz)) (List.mem_cons_of_mem _ gm_433) dX4_begin_52 ?_
        refine xm_bipush hX (v := 11) rfl dX4_begin_55 ?_
        refine xm_ialdL hX (n := 547) (j := 11) mL_1 (by decide) rfl dX4_begin_57 ?_
        exact xm_iret hX dX4_begin_58
      · refine xm_bipush hX (v := -2) rfl dX4_begin_24 ?_
        exact xm_iret hX dX4_begin_26
-- ===== OdometryDeskModel.manyOf(I)I ['0']
theorem dX4_manyOf_0 : decode cX4_manyOf 0 = .ok (.iconst 0, 1) := by decide +kernel
theorem dX4_manyOf_1 : decode cX4_manyOf 1 = .ok (.istore_n 2, 1) := by decide +kernel
theorem dX4_manyOf_2 : decode cX4_manyOf 2 = .ok (.iconst 0, 1) := by decide +kernel
theorem dX4_manyOf_3 : decode cX4_manyOf 3 = .ok (.istore_n 3, 1) := by decide +kernel
theorem dX4_manyOf_4 : decode cX4_manyOf 4 = .ok (.iload_n 3, 1) := by decide +kernel
theorem dX4_manyOf_5 : decode cX4_manyOf 5 = .ok (.aload_n 0, 1) := by decide +kernel
theorem dX4_manyOf_6 : decode cX4_manyOf 6 = .ok (.getfield 7, 3) := by decide +kernel
theorem dX4_manyOf_9 : decode cX4_manyOf 9 = .ok (.bipush 11, 2) := by decide +kernel
theorem dX4_manyOf_11 : decode cX4_manyOf 11 = .ok (.iaload, 1) := by decide +kernel
theorem dX4_manyOf_12 : decode cX4_manyOf 12 = .ok (.if_icmp .ge 27, 3) := by decide +kernel
theorem dX4_manyOf_15 : decode cX4_manyOf 15 = .ok (.iload_n 2, 1) := by decide +kernel
theorem dX4_manyOf_16 : decode cX4_manyOf 16 = .ok (.aload_n 0, 1) := by decide +kernel
theorem dX4_manyOf_17 : decode cX4_manyOf 17 = .ok (.getfield 23, 3) := by decide +kernel
theorem dX4_manyOf_20 : decode cX4_manyOf 20 = .ok (.iload_n 3, 1) := by decide +kernel
theorem dX4_manyOf_21 : decode cX4_manyOf 21 = .ok (.iaload, 1) := by decide +kernel
theorem dX4_manyOf_22 : decode cX4_manyOf 22 = .ok (.iload_n 1, 1) := by decide +kernel
theorem dX4_manyOf_23 : decode cX4_manyOf 23 = .ok (.if_icmp .ne 7, 3) := by decide +kernel
theorem dX4_manyOf_26 : decode cX4_manyOf 26 = .ok (.iconst 1, 1) := by decide +kernel
theorem dX4_manyOf_27 : decode cX4_manyOf 27 = .ok (.goto 4, 3) := by decide +kernel
theorem dX4_manyOf_30 : decode cX4_manyOf 30 = .ok (.iconst 0, 1) := by decide +kernel
theorem dX4_manyOf_31 : decode cX4_manyOf 31 = .ok (.iadd, 1) := by decide +kernel
theorem dX4_manyOf_32 : decode cX4_manyOf 32 = .ok (.istore_n 2, 1) := by decide +kernel
theorem dX4_manyOf_33 : decode cX4_manyOf 33 = .ok (.iinc 3 1, 3) := by decide +kernel
theorem dX4_manyOf_36 : decode cX4_manyOf 36 = .ok (.goto (-32), 3) := by decide +kernel
theorem dX4_manyOf_39 : decode cX4_manyOf 39 = .ok (.iload_n 2, 1) := by decide +kernel
theorem dX4_manyOf_40 : decode cX4_manyOf 40 = .ok (.ireturn, 1) := by decide +kernel
abbrev wX4_manyOf : List Cond := .code yX4_manyOf cX4_manyOf 4 (some .int) :: lw_gd
theorem hdX4_manyOf : (yX4_manyOf.cls ≠ "java/lang/invoke/MethodHandle" ∧ yX4_manyOf.cls ≠ "java/lang/invoke/VarHandle" ∧ (parseMethodDescriptor yX4_manyOf.desc).map (fun d => d.parameters.length) = some 1) := by decide +kernel
def fX4_manyOf_31  (k4 : Int32 → Int32 → Int32 → xm_M → Option (Int32 × xm_M)) (b1 : Int32) (b3 : Int32) (s0 : Int32) (s1 : Int32) (M : xm_M) : Option (Int32 × xm_M) :=
  xm_lt (s1 + s0) (fun x3 => xm_lt (b3 + Int32.ofInt 1) (fun x4 => k4 b1 x3 x4 M))
set_option maxRecDepth 20000 in
theorem tfX4_manyOf_31 {p : Program} {l : Launch} {e : Env} {s : State} {m : MethodId} {args : Array Value} {below : List Frame} {meth : Method} {c : Code} {D : va_G} {g : xm_G} {A : Nat → Prop} (hX : xm_X p m meth c cX4_manyOf 4 s args wX4_manyOf RX4 (some .int) D mL g A)   (k4 : Int32 → Int32 → Int32 → xm_M → Option (Int32 × xm_M)) (h4 : ∀ (b1 : Int32), ∀ (b2 : Int32), ∀ (b3 : Int32), ∀ (M : xm_M), xm_J p l e ({ frames := 0, cells := 0, slots := 0, locals := 0 }) s m args below meth c 4 D mL g A (xm_Fi g) 4 [(0, .ref (g.1 0)), (1, .int b1), (2, .int b2), (3, .int b3)] [] M (k4 b1 b2 b3 M)) : ∀ (b1 : Int32), ∀ (b3 : Int32), ∀ (s0 : Int32), ∀ (s1 : Int32), ∀ (M : xm_M), xm_J p l e ({ frames := 0, cells := 0, slots := 0, locals := 0 }) s m args below meth c 4 D mL g A (xm_Fi g) 31 [(0, .ref (g.1 0)), (1, .int b1), (3, .int b3)] [.int s0, .int s1] M (fX4_manyOf_31 k4 b1 b3 s0 s1 M) := by
  intro b1 b3 s0 s1 M
  unfold fX4_manyOf_31
  refine xm_iadd hX dX4_manyOf_31 ?_
  refine xm_nmi (fun x3 => ?_)
  refine xm_istore_n hX (lv' := [(2, .int x3), (0, .ref (g.1 0)), (1, .int b1), (3, .int b3)]) dX4_manyOf_32 rfl (by decide) rfl ?_
  refine xm_iinc hX (lv2 := fun x4 => [(3, .int x4), (2, .int x3), (0, .ref (g.1 0)), (1, .int b1)]) 3 dX4_manyOf_33 rfl (by decide) (fun _ => rfl) (fun x4 => ?_)
  refine xm_goto hX (tgt := 4) dX4_manyOf_36 rfl ?_
  refine xm_weak [2, 3, 1, 0] (lv' := [(0, .ref (g.1 0)), (1, .int b1), (2, .int x3), (3, .int x4)]) rfl ?_
  exact h4 b1 x3 x4 M
def fX4_manyOf_4  (k4 : Int32 → Int32 → Int32 → xm_M → Option (Int32 × xm_M)) (b1 : Int32) (b2 : Int32) (b3 : Int32) (M : xm_M) : Option (Int32 × xm_M) :=
  if (M.1 1 11) ≤ b3 then some (b2, M) else if b3 < 0 ∨ 120 ≤ b3.toNatClampNeg then none else if (M.1 5 b3.toNatClampNeg) = b1 then fX4_manyOf_31 k4 b1 b3 (1 : Int32) b2 M else fX4_manyOf_31 k4 b1 b3 (0 : Int32) b2 M
set_option maxRecDepth 20000 in
theorem tfX4_manyOf_4 {p : Program} {l : Launch} {e : Env} {s : State} {m : MethodId} {args : Array Value} {below : List Frame} {meth : Method} {c : Code} {D : va_G} {g : xm_G} {A : Nat → Prop} (hX : xm_X p m meth c cX4_manyOf 4 s args wX4_manyOf RX4 (some .int) D mL g A)   (k4 : Int32 → Int32 → Int32 → xm_M → Option (Int32 × xm_M)) (h4 : ∀ (b1 : Int32), ∀ (b2 : Int32), ∀ (b3 : Int32), ∀ (M : xm_M), xm_J p l e ({ frames := 0, cells := 0, slots := 0, locals := 0 }) s m args below meth c 4 D mL g A (xm_Fi g) 4 [(0, .ref (g.1 0)), (1, .int b1), (2, .int b2), (3, .int b3)] [] M (k4 b1 b2 b3 M)) : ∀ (b1 : Int32), ∀ (b2 : Int32), ∀ (b3 : Int32), ∀ (M : xm_M), xm_J p l e ({ frames := 0, cells := 0, slots := 0, locals := 0 }) s m args below meth c 4 D mL g A (xm_Fi g) 4 [(0, .ref (g.1 0)), (1, .int b1), (2, .int b2), (3, .int b3)] [] M (fX4_manyOf_4 k4 b1 b2 b3 M) := by
  intro b1 b2 b3 M
  unfold fX4_manyOf_4
  refine xm_iload_n hX 3 dX4_manyOf_4 rfl rfl ?_
  refine xm_aload_n hX 0 dX4_manyOf_5 rfl rfl ?_
  refine xm_get hX (k := 0) (ci := 4) (j := 0) (C := RX4) (T := TX4) (N := 27) (v := .ref (g.1 1)) mL_0 rfl rfl rfl (by decide) (fun z hz => List.mem_cons_of_mem _ (iw_X4 z hz)) (List.mem_cons_of_mem _ gm_433) dX4_manyOf_6 ?_
  refine xm_bipush hX (v := 11) rfl dX4_manyOf_9 ?_
  refine xm_ialdL hX (n := 547) (j := 11) mL_1 (by decide) rfl dX4_manyOf_11 ?_
  refine xm_icmp_ge hX (tgt := 39) dX4_manyOf_12 rfl ?_ ?_
  · refine xm_iload_n hX 2 dX4_manyOf_39 rfl rfl ?_
    exact xm_iret hX dX4_manyOf_40
  · refine xm_iload_n hX 2 dX4_manyOf_15 rfl rfl ?_
    refine xm_aload_n hX 0 dX4_manyOf_16 rfl rfl ?_
    refine xm_get hX (k := 0) (ci := 4) (j := 5) (C := RX4) (T := TX4) (N := 27) (v := .ref (g.1 5)) mL_0 rfl rfl rfl (by decide) (fun z hz => List.mem_cons_of_mem _ (iw_X4 z hz)) (List.mem_cons_of_mem _ gm_438) dX4_manyOf_17 ?_
    refine xm_iload_n hX 3 dX4_manyOf_20 rfl rfl ?_
    refine xm_iald hX (n := 120) mL_5 dX4_manyOf_21 ?_
    refine xm_iload_n hX 1 dX4_manyOf_22 rfl rfl ?_
    refine xm_icmp_ne hX (tgt := 30) dX4_manyOf_23 rfl ?_ ?_
    · refine xm_iconst hX (v := 0) rfl dX4_manyOf_30 ?_
      refine xm_weak [0, 1, 3] (lv' := [(0, .ref (g.1 0)), (1, .int b1), (3, .int b3)]) rfl ?_
      exact tfX4_manyOf_31 hX k4 h4 b1 b3 (0 : Int32) b2 M
    · refine xm_iconst hX (v := 1) rfl dX4_manyOf_26 ?_
      refine xm_goto hX (tgt := 31) dX4_manyOf_27 rfl ?_
      refine xm_weak [0, 1, 3] (lv' := [(0, .ref (g.1 0)), (1, .int b1), (3, .int b3)]) rfl ?_
      exact tfX4_manyOf_31 hX k4 h4 b1 b3 (1 : Int32) b2 M
def fX4_manyOf_4_it   (nq : Nat) : Int32 → Int32 → Int32 → xm_M → Option (Int32 × xm_M) := xm_it (fun kq => fX4_manyOf_4 kq) (fun _ _ _ _ => none) nq
theorem tfX4_manyOf_4_it {p : Program} {l : Launch} {e : Env} {s : State} {m : MethodId} {args : Array Value} {below : List Frame} {meth : Method} {c : Code} {D : va_G} {g : xm_G} {A : Nat → Prop} (hX : xm_X p m meth c cX4_manyOf 4 s args wX4_manyOf RX4 (some .int) D mL g A)     : ∀ (nq : Nat), ∀ (b1 : Int32), ∀ (b2 : Int32), ∀ (b3 : Int32), ∀ (M : xm_M), xm_J p l e ({ frames := 0, cells := 0, slots := 0, locals := 0 }) s m args below meth c 4 D mL g A (xm_Fi g) 4 [(0, .ref (g.1 0)), (1, .int b1), (2, .int b2), (3, .int b3)] [] M (fX4_manyOf_4_it  nq b1 b2 b3 M) := by
  intro nq
  induction nq with
  | zero => exact fun _ _ _ _ => xm_none
  | succ nq ih => exact tfX4_manyOf_4 hX _ ih
def fX4_manyOf  (a1 : Int32) (M : xm_M) : Option (Int32 × xm_M) :=
  xm_lt ((0 : Int32)) (fun x1 => xm_lt ((0 : Int32)) (fun x2 => fX4_manyOf_4_it xm_N a1 x1 x2 M))
set_option maxRecDepth 20000 in
theorem kX4_manyOf {l : Launch}   (a1 : Int32) (M : xm_M) : xm_C l yX4_manyOf wX4_manyOf ({ frames := 0, cells := 0, slots := 0, locals := 0 }) mL (fun g => [.ref (g.1 0), .int a1]) M xm_Fi (fX4_manyOf  a1 M) := by
  refine xm_C.of (by decide) rfl (fun g => Nat.le_of_ble_eq_true rfl) ?_
  intro p e s m args below meth c D g A hX
  refine xm_lv (lv' := [(0, .ref (g.1 0)), (1, .int a1)]) rfl ?_
  unfold fX4_manyOf
  refine xm_iconst hX (v := 0) rfl dX4_manyOf_0 ?_
  refine xm_nmi (fun x1 => ?_)
  refine xm_istore_n hX (lv' := [(2, .int x1), (0, .ref (g.1 0)), (1, .int a1)]) dX4_manyOf_1 rfl (by decide) rfl ?_
  refine xm_iconst hX (v := 0) rfl dX4_manyOf_2 ?_
  refine xm_nmi (fun x2 => ?_)
  refine xm_istore_n hX (lv' := [(3, .int x2), (2, .int x1), (0, .ref (g.1 0)), (1, .int a1)]) dX4_manyOf_3 rfl (by decide) rfl ?_
  refine xm_weak [2, 3, 1, 0] (lv' := [(0, .ref (g.1 0)), (1, .int a1), (2, .int x1), (3, .int x2)]) rfl ?_
  exact tfX4_manyOf_4_it hX xm_N a1 x1 x2 M
-- ===== OdometryDeskModel.sights()I ['0']
theorem dX4_sights_0 : decode cX4_sights 0 = .ok (.aload_n 0, 1) := by decide +kernel
theorem dX4_sights_1 : decode cX4_sights 1 = .ok (.invokevirtual 176, 3) := by decide +kernel
theorem dX4_sights_4 : decode cX4_sights 4 = .ok (.aload_n 0, 1) := by decide +kernel
theorem dX4_sights_5 : decode cX4_sights 5 = .ok (.iconst 4, 1) := by decide +kernel
theorem dX4_sights_6 : decode cX4_sights 6 = .ok (.invokevirtual 190, 3) := by decide +kernel
theorem dX4_sights_9 : decode cX4_sights 9 = .ok (.ireturn, 1) := by decide +kernel
abbrev wX4_sights : List Cond := .code yX4_sights cX4_sights 1 (some .int) :: lw_gd
theorem hdX4_sights : (yX4_sights.cls ≠ "java/lang/invoke/MethodHandle" ∧ yX4_sights.cls ≠ "java/lang/invoke/VarHandle" ∧ (parseMethodDescriptor yX4_sights.desc).map (fun d => d.parameters.length) = some 0) := by decide +kernel
def fX4_sights   (M : xm_M) : Option (Int32 × xm_M) :=
  xm_bv (fX4_findAll M) (fun M1 => xm_bi (fX4_manyOf (4 : Int32) M1) (fun x3 M2 => some (x3, M2)))
set_option maxRecDepth 20000 in
theorem kX4_sights {l : Launch}    (M : xm_M) : xm_C l yX4_sights wX4_sights ({ frames := 5, cells := 0, slots := 0, locals := 121 }) mL (fun g => [.ref (g.1 0)]) M xm_Fi (fX4_sights   M) := by
  refine xm_C.of (by decide) rfl (fun g => Nat.le_of_ble_eq_true rfl) ?_
  intro p e s m args below meth c D g A hX
  refine xm_lv (lv' := [(0, .ref (g.1 0))]) rfl ?_
  unfold fX4_sights
  refine xm_aload_n hX 0 dX4_sights_0 rfl rfl ?_
  refine xm_callv hX (xm_runV hX (k := 0) (ci := 4) (As := (fun g => [])) (kX4_findAll M) mL_0 rfl (xm_gV gm_550 gm_551 gm_716 gm_5 gm_552) rfl ⟨rfl, rfl⟩ ⟨rfl, hdX4_findAll⟩ ⟨Nat.le_of_ble_eq_true rfl, Nat.le_of_ble_eq_true rfl⟩ rfl (Nat.le_of_ble_eq_true rfl) rfl dX4_sights_1) (fun M1 => ?_)
  refine xm_aload_n hX 0 dX4_sights_4 rfl rfl ?_
  refine xm_iconst hX (v := 4) rfl dX4_sights_5 ?_
  refine xm_calli hX (xm_runV hX (k := 0) (ci := 4) (As := (fun g => [.int (4 : Int32)])) (kX4_manyOf (4 : Int32) M1) mL_0 rfl (xm_gV gm_616 gm_617 gm_726 gm_5 gm_618) rfl ⟨rfl, rfl⟩ ⟨rfl, hdX4_manyOf⟩ ⟨Nat.le_of_ble_eq_true rfl, Nat.le_of_ble_eq_true rfl⟩ rfl (Nat.le_of_ble_eq_true rfl) rfl dX4_sights_6) (fun x3 M2 => ?_)
  exact xm_iret hX dX4_sights_9
-- ===== OdometryDeskModel.sumOfErrors()J ['0']
theorem dX4_sumOfErrors_0 : decode cX4_sumOfErrors 0 = .ok (.lconst 0, 1) := by decide +kernel
theorem dX4_sumOfErrors_1 : decode cX4_sumOfErrors 1 = .ok (.lstore_n 1, 1) := by decide +kernel
theorem dX4_sumOfErrors_2 : decode cX4_sumOfErrors 2 = .ok (.iconst 0, 1) := by decide +kernel
theorem dX4_sumOfErrors_3 : decode cX4_sumOfErrors 3 = .ok (.istore_n 3, 1) := by decide +kernel
theorem dX4_sumOfErrors_4 : decode cX4_sumOfErrors 4 = .ok (.iload_n 3, 1) := by decide +kernel
theorem dX4_sumOfErrors_5 : decode cX4_sumOfErrors 5 = .ok (.aload_n 0, 1) := by decide +kernel
theorem dX4_sumOfErrors_6 : decode cX4_sumOfErrors 6 = .ok (.getfield 7, 3) := by decide +kernel
theorem dX4_sumOfErrors_9 : decode cX4_sumOfErrors 9 = .ok (.bipush 11, 2) := by decide +kernel
theorem dX4_sumOfErrors_11 : decode cX4_sumOfErrors 11 = .ok (.iaload, 1) := by decide +kernel
theorem dX4_sumOfErrors_12 : decode cX4_sumOfErrors 12 = .ok (.if_icmp .ge 47, 3) := by decide +kernel
theorem dX4_sumOfErrors_15 : decode cX4_sumOfErrors 15 = .ok (.lload_n 1, 1) := by decide +kernel
theorem dX4_sumOfErrors_16 : decode cX4_sumOfErrors 16 = .ok (.aload_n 0, 1) := by decide +kernel
theorem dX4_sumOfErrors_17 : decode cX4_sumOfErrors 17 = .ok (.getfield 23, 3) := by decide +kernel
theorem dX4_sumOfErrors_20 : decode cX4_sumOfErrors 20 = .ok (.iload_n 3, 1) := by decide +kernel
theorem dX4_sumOfErrors_21 : decode cX4_sumOfErrors 21 = .ok (.iaload, 1) := by decide +kernel
theorem dX4_sumOfErrors_22 : decode cX4_sumOfErrors 22 = .ok (.iconst 4, 1) := by decide +kernel
theorem dX4_sumOfErrors_23 : decode cX4_sumOfErrors 23 = .ok (.if_icmp .ne 27, 3) := by decide +kernel
theorem dX4_sumOfErrors_26 : decode cX4_sumOfErrors 26 = .ok (.aload_n 0, 1) := by decide +kernel
theorem dX4_sumOfErrors_27 : decode cX4_sumOfErrors 27 = .ok (.getfield 56, 3) := by decide +kernel
theorem dX4_sumOfErrors_30 : decode cX4_sumOfErrors 30 = .ok (.iload_n 3, 1) := by decide +kernel
theorem dX4_sumOfErrors_31 : decode cX4_sumOfErrors 31 = .ok (.iaload, 1) := by decide +kernel
theorem dX4_sumOfErrors_32 : decode cX4_sumOfErrors 32 = .ok (.invokestatic 161, 3) := by decide +kernel
theorem dX4_sumOfErrors_35 : decode cX4_sumOfErrors 35 = .ok (.i2l, 1) := by decide +kernel
theorem dX4_sumOfErrors_36 : decode cX4_sumOfErrors 36 = .ok (.aload_n 0, 1) := by decide +kernel
theorem dX4_sumOfErrors_37 : decode cX4_sumOfErrors 37 = .ok (.getfield 59, 3) := by decide +kernel
theorem dX4_sumOfErrors_40 : decode cX4_sumOfErrors 40 = .ok (.iload_n 3, 1) := by decide +kernel
theorem dX4_sumOfErrors_41 : decode cX4_sumOfErrors 41 = .ok (.iaload, 1) := by decide +kernel
theorem dX4_sumOfErrors_42 : decode cX4_sumOfErrors 42 = .ok (.invokestatic 161, 3) := by decide +kernel
theorem dX4_sumOfErrors_45 : decode cX4_sumOfErrors 45 = .ok (.i2l, 1) := by decide +kernel
theorem dX4_sumOfErrors_46 : decode cX4_sumOfErrors 46 = .ok (.ladd, 1) := by decide +kernel
theorem dX4_sumOfErrors_47 : decode cX4_sumOfErrors 47 = .ok (.goto 4, 3) := by decide +kernel
theorem dX4_sumOfErrors_50 : decode cX4_sumOfErrors 50 = .ok (.lconst 0, 1) := by decide +kernel
theorem dX4_sumOfErrors_51 : decode cX4_sumOfErrors 51 = .ok (.ladd, 1) := by decide +kernel
theorem dX4_sumOfErrors_52 : decode cX4_sumOfErrors 52 = .ok (.lstore_n 1, 1) := by decide +kernel
theorem dX4_sumOfErrors_53 : decode cX4_sumOfErrors 53 = .ok (.iinc 3 1, 3) := by decide +kernel
theorem dX4_sumOfErrors_56 : decode cX4_sumOfErrors 56 = .ok (.goto (-52), 3) := by decide +kernel
theorem dX4_sumOfErrors_59 : decode cX4_sumOfErrors 59 = .ok (.lload_n 1, 1) := by decide +kernel
theorem dX4_sumOfErrors_60 : decode cX4_sumOfErrors 60 = .ok (.lreturn, 1) := by decide +kernel
abbrev wX4_sumOfErrors : List Cond := .code yX4_sumOfErrors cX4_sumOfErrors 4 (some .long) :: lw_gd
theorem hdX4_sumOfErrors : (yX4_sumOfErrors.cls ≠ "java/lang/invoke/MethodHandle" ∧ yX4_sumOfErrors.cls ≠ "java/lang/invoke/VarHandle" ∧ (parseMethodDescriptor yX4_sumOfErrors.desc).map (fun d => d.parameters.length) = some 0) := by decide +kernel
def fX4_sumOfErrors_51  (k4 : Int64 → Int32 → xm_M → Option (Int64 × xm_M)) (b3 : Int32) (s0 : Int64) (s1 : Int64) (M : xm_M) : Option (Int64 × xm_M) :=
  xm_lt (s1 + s0) (fun x3 => xm_lt (b3 + Int32.ofInt 1) (fun x4 => k4 x3 x4 M))
set_option maxRecDepth 20000 in
theorem tfX4_sumOfErrors_51 {p : Program} {l : Launch} {e : Env} {s : State} {m : MethodId} {args : Array Value} {below : List Frame} {meth : Method} {c : Code} {D : va_G} {g : xm_G} {A : Nat → Prop} (hX : xm_X p m meth c cX4_sumOfErrors 4 s args wX4_sumOfErrors RX4 (some .long) D mL g A)   (k4 : Int64 → Int32 → xm_M → Option (Int64 × xm_M)) (h4 : ∀ (b1 : Int64), ∀ (b3 : Int32), ∀ (M : xm_M), xm_J p l e ({ frames := 1, cells := 0, slots := 0, locals := 20 }) s m args below meth c 4 D mL g A (xm_Fl g) 4 [(0, .ref (g.1 0)), (1, .long b1), (3, .int b3)] [] M (k4 b1 b3 M)) : ∀ (b3 : Int32), ∀ (s0 : Int64), ∀ (s1 : Int64), ∀ (M : xm_M), xm_J p l e ({ frames := 1, cells := 0, slots := 0, locals := 20 }) s m args below meth c 4 D mL g A (xm_Fl g) 51 [(0, .ref (g.1 0)), (3, .int b3)] [.long s0, .long s1] M (fX4_sumOfErrors_51 k4 b3 s0 s1 M) := by
  intro b3 s0 s1 M
  unfold fX4_sumOfErrors_51
  refine xm_ladd hX dX4_sumOfErrors_51 ?_
  refine xm_nml (fun x3 => ?_)
  refine xm_lstore_n hX (lv' := [(1, .long x3), (0, .ref (g.1 0)), (3, .int b3)]) dX4_sumOfErrors_52 rfl (by decide) rfl ?_
  refine xm_iinc hX (lv2 := fun x4 => [(3, .int x4), (1, .long x3), (0, .ref (g.1 0))]) 2 dX4_sumOfErrors_53 rfl (by decide) (fun _ => rfl) (fun x4 => ?_)
  refine xm_goto hX (tgt := 4) dX4_sumOfErrors_56 rfl ?_
  refine xm_weak [2, 1, 0] (lv' := [(0, .ref (g.1 0)), (1, .long x3), (3, .int x4)]) rfl ?_
  exact h4 x3 x4 M
def fX4_sumOfErrors_4  (k4 : Int64 → Int32 → xm_M → Option (Int64 × xm_M)) (b1 : Int64) (b3 : Int32) (M : xm_M) : Option (Int64 × xm_M) :=
  if (M.1 1 11) ≤ b3 then some (b1, M) else if b3 < 0 ∨ 120 ≤ b3.toNatClampNeg then none else if (M.1 5 b3.toNatClampNeg) = (4 : Int32) then if b3 < 0 ∨ 120 ≤ b3.toNatClampNeg then none else xm_bi (fX4_sizeOf (M.1 16 b3.toNatClampNeg) M) (fun x6 M5 => if b3 < 0 ∨ 120 ≤ b3.toNatClampNeg then none else xm_bi (fX4_sizeOf (M5.1 17 b3.toNatClampNeg) M5) (fun x8 M7 => fX4_sumOfErrors_51 k4 b3 (x6.toInt64 + x8.toInt64) b1 M7)) else fX4_sumOfErrors_51 k4 b3 (0 : Int64) b1 M
set_option maxRecDepth 20000 in
theorem tfX4_sumOfErrors_4 {p : Program} {l : Launch} {e : Env} {s : State} {m : MethodId} {args : Array Value} {below : List Frame} {meth : Method} {c : Code} {D : va_G} {g : xm_G} {A : Nat → Prop} (hX : xm_X p m meth c cX4_sumOfErrors 4 s args wX4_sumOfErrors RX4 (some .long) D mL g A)   (k4 : Int64 → Int32 → xm_M → Option (Int64 × xm_M)) (h4 : ∀ (b1 : Int64), ∀ (b3 : Int32), ∀ (M : xm_M), xm_J p l e ({ frames := 1, cells := 0, slots := 0, locals := 20 }) s m args below meth c 4 D mL g A (xm_Fl g) 4 [(0, .ref (g.1 0)), (1, .long b1), (3, .int b3)] [] M (k4 b1 b3 M)) : ∀ (b1 : Int64), ∀ (b3 : Int32), ∀ (M : xm_M), xm_J p l e ({ frames := 1, cells := 0, slots := 0, locals := 20 }) s m args below meth c 4 D mL g A (xm_Fl g) 4 [(0, .ref (g.1 0)), (1, .long b1), (3, .int b3)] [] M (fX4_sumOfErrors_4 k4 b1 b3 M) := by
  intro b1 b3 M
  unfold fX4_sumOfErrors_4
  refine xm_iload_n hX 2 dX4_sumOfErrors_4 rfl rfl ?_
  refine xm_aload_n hX 0 dX4_sumOfErrors_5 rfl rfl ?_
  refine xm_get hX (k := 0) (ci := 4) (j := 0) (C := RX4) (T := TX4) (N := 27) (v := .ref (g.1 1)) mL_0 rfl rfl rfl (by decide) (fun z hz => List.mem_cons_of_mem _ (iw_X4 z hz)) (List.mem_cons_of_mem _ gm_433) dX4_sumOfErrors_6 ?_
  refine xm_bipush hX (v := 11) rfl dX4_sumOfErrors_9 ?_
  refine xm_ialdL hX (n := 547) (j := 11) mL_1 (by decide) rfl dX4_sumOfErrors_11 ?_
  refine xm_icmp_ge hX (tgt := 59) dX4_sumOfErrors_12 rfl ?_ ?_
  · refine xm_lload_n hX 1 dX4_sumOfErrors_59 rfl rfl ?_
    exact xm_lret hX dX4_sumOfErrors_60
  · refine xm_lload_n hX 1 dX4_sumOfErrors_15 rfl rfl ?_
    refine xm_aload_n hX 0 dX4_sumOfErrors_16 rfl rfl ?_
    refine xm_get hX (k := 0) (ci := 4) (j := 5) (C := RX4) (T := TX4) (N := 27) (v := .ref (g.1 5)) mL_0 rfl rfl rfl (by decide) (fun z hz => List.mem_cons_of_mem _ (iw_X4 z hz)) (List.mem_cons_of_mem _ gm_438) dX4_sumOfErrors_17 ?_
    refine xm_iload_n hX 2 dX4_sumOfErrors_20 rfl rfl ?_
    refine xm_iald hX (n := 120) mL_5 dX4_sumOfErrors_21 ?_
    refine xm_iconst hX (v := 4) rfl dX4_sumOfErrors_22 ?_
    refine xm_icmp_ne hX (tgt := 50) dX4_sumOfErrors_23 rfl ?_ ?_
    · refine xm_lconst hX (v := 0) rfl dX4_sumOfErrors_50 ?_
      refine xm_weak [0, 2] (lv' := [(0, .ref (g.1 0)), (3, .int b3)]) rfl ?_
      exact tfX4_sumOfErrors_51 hX k4 h4 b3 (0 : Int64) b1 M
    · refine xm_aload_n hX 0 dX4_sumOfErrors_26 rfl rfl ?_
      refine xm_get hX (k := 0) (ci := 4) (j := 16) (C := RX4) (T := TX4) (N := 27) (v := .ref (g.1 16)) mL_0 rfl rfl rfl (by decide) (fun z hz => List.mem_cons_of_mem _ (iw_X4 z hz)) (List.mem_cons_of_mem _ gm_449) dX4_sumOfErrors_27 ?_
      refine xm_iload_n hX 2 dX4_sumOfErrors_30 rfl rfl ?_
      refine xm_iald hX (n := 120) mL_16 dX4_sumOfErrors_31 ?_
      refine xm_calli hX (xm_runS hX (As := (fun g => [.int (M.1 16 b3.toNatClampNeg)])) (kX4_sizeOf (M.1 16 b3.toNatClampNeg) M) (xm_gS gm_595 gm_596 gm_5 gm_597) rfl ⟨rfl, rfl⟩ hdX4_sizeOf ⟨Nat.le_of_ble_eq_true rfl, Nat.le_of_ble_eq_true rfl⟩ rfl (Nat.le_of_ble_eq_true rfl) rfl dX4_sumOfErrors_32) (fun x6 M5 => ?_)
      refine xm_i2l hX dX4_sumOfErrors_35 ?_
      refine xm_aload_n hX 0 dX4_sumOfErrors_36 rfl rfl ?_
      refine xm_get hX (k := 0) (ci := 4) (j := 17) (C := RX4) (T := TX4) (N := 27) (v := .ref (g.1 17)) mL_0 rfl rfl rfl (by decide) (fun z hz => List.mem_cons_of_mem _ (iw_X4 z hz)) (List.mem_cons_of_mem _ gm_450) dX4_sumOfErrors_37 ?_
      refine xm_iload_n hX 2 dX4_sumOfErrors_40 rfl rfl ?_
      refine xm_iald hX (n := 120) mL_17 dX4_sumOfErrors_41 ?_
      refine xm_calli hX (xm_runS hX (As := (fun g => [.int (M5.1 17 b3.toNatClampNeg)])) (kX4_sizeOf (M5.1 17 b3.toNatClampNeg) M5) (xm_gS gm_595 gm_596 gm_5 gm_597) rfl ⟨rfl, rfl⟩ hdX4_sizeOf ⟨Nat.le_of_ble_eq_true rfl, Nat.le_of_ble_eq_true rfl⟩ rfl (Nat.le_of_ble_eq_true rfl) rfl dX4_sumOfErrors_42) (fun x8 M7 => ?_)
      refine xm_i2l hX dX4_sumOfErrors_45 ?_
      refine xm_ladd hX dX4_sumOfErrors_46 ?_
      refine xm_goto hX (tgt := 51) dX4_sumOfErrors_47 rfl ?_
      refine xm_weak [0, 2] (lv' := [(0, .ref (g.1 0)), (3, .int b3)]) rfl ?_
      exact tfX4_sumOfErrors_51 hX k4 h4 b3 (x6.toInt64 + x8.toInt64) b1 M7
def fX4_sumOfErrors_4_it   (nq : Nat) : Int64 → Int32 → xm_M → Option (Int64 × xm_M) := xm_it (fun kq => fX4_sumOfErrors_4 kq) (fun _ _ _ => none) nq
theorem tfX4_sumOfErrors_4_it {p : Program} {l : Launch} {e : Env} {s : State} {m : MethodId} {args : Array Value} {below : List Frame} {meth : Method} {c : Code} {D : va_G} {g : xm_G} {A : Nat → Prop} (hX : xm_X p m meth c cX4_sumOfErrors 4 s args wX4_sumOfErrors RX4 (some .long) D mL g A)     : ∀ (nq : Nat), ∀ (b1 : Int64), ∀ (b3 : Int32), ∀ (M : xm_M), xm_J p l e ({ frames := 1, cells := 0, slots := 0, locals := 20 }) s m args below meth c 4 D mL g A (xm_Fl g) 4 [(0, .ref (g.1 0)), (1, .long b1), (3, .int b3)] [] M (fX4_sumOfErrors_4_it  nq b1 b3 M) := by
  intro nq
  induction nq with
  | zero => exact fun _ _ _ => xm_none
  | succ nq ih => exact tfX4_sumOfErrors_4 hX _ ih
def fX4_sumOfErrors   (M : xm_M) : Option (Int64 × xm_M) :=
  xm_lt ((0 : Int64)) (fun x1 => xm_lt ((0 : Int32)) (fun x2 => fX4_sumOfErrors_4_it xm_N x1 x2 M))
set_option maxRecDepth 20000 in
theorem kX4_sumOfErrors {l : Launch}    (M : xm_M) : xm_C l yX4_sumOfErrors wX4_sumOfErrors ({ frames := 1, cells := 0, slots := 0, locals := 20 }) mL (fun g => [.ref (g.1 0)]) M xm_Fl (fX4_sumOfErrors   M) := by
  refine xm_C.of (by decide) rfl (fun g => Nat.le_of_ble_eq_true rfl) ?_
  intro p e s m args below meth c D g A hX
  refine xm_lv (lv' := [(0, .ref (g.1 0))]) rfl ?_
  unfold fX4_sumOfErrors
  refine xm_lconst hX (v := 0) rfl dX4_sumOfErrors_0 ?_
  refine xm_nml (fun x1 => ?_)
  refine xm_lstore_n hX (lv' := [(1, .long x1), (0, .ref (g.1 0))]) dX4_sumOfErrors_1 rfl (by decide) rfl ?_
  refine xm_iconst hX (v := 0) rfl dX4_sumOfErrors_2 ?_
  refine xm_nmi (fun x2 => ?_)
  refine xm_istore_n hX (lv' := [(3, .int x2), (1, .long x1), (0, .ref (g.1 0))]) dX4_sumOfErrors_3 rfl (by decide) rfl ?_
  refine xm_weak [2, 1, 0] (lv' := [(0, .ref (g.1 0)), (1, .long x1), (3, .int x2)]) rfl ?_
  exact tfX4_sumOfErrors_4_it hX xm_N x1 x2 M
-- ===== OdometryDeskModel.errorsWith(II)J ['0']
theorem dX4_errorsWith_0 : decode cX4_errorsWith 0 = .ok (.aload_n 0, 1) := by decide +kernel
theorem dX4_errorsWith_1 : decode cX4_errorsWith 1 = .ok (.iload_n 1, 1) := by decide +kernel
theorem dX4_errorsWith_2 : decode cX4_errorsWith 2 = .ok (.invokevirtual 77, 3) := by decide +kernel
theorem dX4_errorsWith_5 : decode cX4_errorsWith 5 = .ok (.istore_n 3, 1) := by decide +kernel
theorem dX4_errorsWith_6 : decode cX4_errorsWith 6 = .ok (.aload_n 0, 1) := by decide +kernel
theorem dX4_errorsWith_7 : decode cX4_errorsWith 7 = .ok (.getfield 7, 3) := by decide +kernel
theorem dX4_errorsWith_10 : decode cX4_errorsWith 10 = .ok (.iconst 0, 1) := by decide +kernel
theorem dX4_errorsWith_11 : decode cX4_errorsWith 11 = .ok (.iload_n 1, 1) := by decide +kernel
theorem dX4_errorsWith_12 : decode cX4_errorsWith 12 = .ok (.iadd, 1) := by decide +kernel
theorem dX4_errorsWith_13 : decode cX4_errorsWith 13 = .ok (.iload_n 2, 1) := by decide +kernel
theorem dX4_errorsWith_14 : decode cX4_errorsWith 14 = .ok (.iastore, 1) := by decide +kernel
theorem dX4_errorsWith_15 : decode cX4_errorsWith 15 = .ok (.aload_n 0, 1) := by decide +kernel
theorem dX4_errorsWith_16 : decode cX4_errorsWith 16 = .ok (.invokevirtual 176, 3) := by decide +kernel
theorem dX4_errorsWith_19 : decode cX4_errorsWith 19 = .ok (.aload_n 0, 1) := by decide +kernel
theorem dX4_errorsWith_20 : decode cX4_errorsWith 20 = .ok (.getfield 7, 3) := by decide +kernel
theorem dX4_errorsWith_23 : decode cX4_errorsWith 23 = .ok (.iconst 0, 1) := by decide +kernel
theorem dX4_errorsWith_24 : decode cX4_errorsWith 24 = .ok (.iload_n 1, 1) := by decide +kernel
theorem dX4_errorsWith_25 : decode cX4_errorsWith 25 = .ok (.iadd, 1) := by decide +kernel
theorem dX4_errorsWith_26 : decode cX4_errorsWith 26 = .ok (.iload_n 3, 1) := by decide +kernel
theorem dX4_errorsWith_27 : decode cX4_errorsWith 27 = .ok (.iastore, 1) := by decide +kernel
theorem dX4_errorsWith_28 : decode cX4_errorsWith 28 = .ok (.aload_n 0, 1) := by decide +kernel
theorem dX4_errorsWith_29 : decode cX4_errorsWith 29 = .ok (.invokevirtual 164, 3) := by decide +kernel
theorem dX4_errorsWith_32 : decode cX4_errorsWith 32 = .ok (.lreturn, 1) := by decide +kernel
abbrev wX4_errorsWith : List Cond := .code yX4_errorsWith cX4_errorsWith 4 (some .long) :: lw_gd
theorem hdX4_errorsWith : (yX4_errorsWith.cls ≠ "java/lang/invoke/MethodHandle" ∧ yX4_errorsWith.cls ≠ "java/lang/invoke/VarHandle" ∧ (parseMethodDescriptor yX4_errorsWith.desc).map (fun d => d.parameters.length) = some 2) := by decide +kernel
def fX4_errorsWith  (a1 : Int32) (a2 : Int32) (M : xm_M) : Option (Int64 × xm_M) :=
  xm_bi (fX4_setting a1 M) (fun x2 M1 => if ((0 : Int32) + a1) < 0 ∨ 547 ≤ ((0 : Int32) + a1).toNatClampNeg then none else xm_lt (xm_s M1 1 ((0 : Int32) + a1).toNatClampNeg a2) (fun M3 => xm_bv (fX4_findAll M3) (fun M4 => if ((0 : Int32) + a1) < 0 ∨ 547 ≤ ((0 : Int32) + a1).toNatClampNeg then none else xm_lt (xm_s M4 1 ((0 : Int32) + a1).toNatClampNeg x2) (fun M5 => xm_bl (fX4_sumOfErrors M5) (fun x7 M6 => some (x7, M6))))))
set_option maxRecDepth 20000 in
theorem kX4_errorsWith {l : Launch}   (a1 : Int32) (a2 : Int32) (M : xm_M) : xm_C l yX4_errorsWith wX4_errorsWith ({ frames := 5, cells := 0, slots := 0, locals := 121 }) mL (fun g => [.ref (g.1 0), .int a1, .int a2]) M xm_Fl (fX4_errorsWith  a1 a2 M) := by
  refine xm_C.of (by decide) rfl (fun g => Nat.le_of_ble_eq_true rfl) ?_
  intro p e s m args below meth c D g A hX
  refine xm_lv (lv' := [(0, .ref (g.1 0)), (1, .int a1), (2, .int a2)]) rfl ?_
  unfold fX4_errorsWith
  refine xm_aload_n hX 0 dX4_errorsWith_0 rfl rfl ?_
  refine xm_iload_n hX 1 dX4_errorsWith_1 rfl rfl ?_
  refine xm_calli hX (xm_runV hX (k := 0) (ci := 4) (As := (fun g => [.int a1])) (kX4_setting a1 M) mL_0 rfl (xm_gV gm_500 gm_501 gm_713 gm_5 gm_502) rfl ⟨rfl, rfl⟩ ⟨rfl, hdX4_setting⟩ ⟨Nat.le_of_ble_eq_true rfl, Nat.le_of_ble_eq_true rfl⟩ rfl (Nat.le_of_ble_eq_true rfl) rfl dX4_errorsWith_2) (fun x2 M1 => ?_)
  refine xm_istore_n hX (lv' := [(3, .int x2), (0, .ref (g.1 0)), (1, .int a1), (2, .int a2)]) dX4_errorsWith_5 rfl (by decide) rfl ?_
  refine xm_aload_n hX 1 dX4_errorsWith_6 rfl rfl ?_
  refine xm_get hX (k := 0) (ci := 4) (j := 0) (C := RX4) (T := TX4) (N := 27) (v := .ref (g.1 1)) mL_0 rfl rfl rfl (by decide) (fun z hz => List.mem_cons_of_mem _ (iw_X4 z hz)) (List.mem_cons_of_mem _ gm_433) dX4_errorsWith_7 ?_
  refine xm_iconst hX (v := 0) rfl dX4_errorsWith_10 ?_
  refine xm_iload_n hX 2 dX4_errorsWith_11 rfl rfl ?_
  refine xm_iadd hX dX4_errorsWith_12 ?_
  refine xm_iload_n hX 3 dX4_errorsWith_13 rfl rfl ?_
  refine xm_iast hX (n := 547) mL_1 dX4_errorsWith_14 (fun M3 => ?_)
  refine xm_aload_n hX 1 dX4_errorsWith_15 rfl rfl ?_
  refine xm_callv hX (xm_runV hX (k := 0) (ci := 4) (As := (fun g => [])) (kX4_findAll M3) mL_0 rfl (xm_gV gm_550 gm_551 gm_716 gm_5 gm_552) rfl ⟨rfl, rfl⟩ ⟨rfl, hdX4_findAll⟩ ⟨Nat.le_of_ble_eq_true rfl, Nat.le_of_ble_eq_true rfl⟩ rfl (Nat.le_of_ble_eq_true rfl) rfl dX4_errorsWith_16) (fun M4 => ?_)
  refine xm_aload_n hX 1 dX4_errorsWith_19 rfl rfl ?_
  refine xm_get hX (k := 0) (ci := 4) (j := 0) (C := RX4) (T := TX4) (N := 27) (v := .ref (g.1 1)) mL_0 rfl rfl rfl (by decide) (fun z hz => List.mem_cons_of_mem _ (iw_X4 z hz)) (List.mem_cons_of_mem _ gm_433) dX4_errorsWith_20 ?_
  refine xm_iconst hX (v := 0) rfl dX4_errorsWith_23 ?_
  refine xm_iload_n hX 2 dX4_errorsWith_24 rfl rfl ?_
  refine xm_iadd hX dX4_errorsWith_25 ?_
  refine xm_iload_n hX 0 dX4_errorsWith_26 rfl rfl ?_
  refine xm_iast hX (n := 547) mL_1 dX4_errorsWith_27 (fun M5 => ?_)
  refine xm_aload_n hX 1 dX4_errorsWith_28 rfl rfl ?_
  refine xm_calll hX (xm_runV hX (k := 0) (ci := 4) (As := (fun g => [])) (kX4_sumOfErrors M5) mL_0 rfl (xm_gV gm_625 gm_626 gm_729 gm_5 gm_627) rfl ⟨rfl, rfl⟩ ⟨rfl, hdX4_sumOfErrors⟩ ⟨Nat.le_of_ble_eq_true rfl, Nat.le_of_ble_eq_true rfl⟩ rfl (Nat.le_of_ble_eq_true rfl) rfl dX4_errorsWith_29) (fun x7 M6 => ?_)
  exact xm_lret hX dX4_errorsWith_32
-- ===== OdometryDeskModel.takes(II)Z
theorem dX4_takes_0 : decode cX4_takes 0 = .ok (.iload_n 0, 1) := by decide +kernel
theorem dX4_takes_1 : decode cX4_takes 1 = .ok (.tableswitch 100 0 7 #[47, 47, 57, 67, 75, 83, 75, 91], 47) := by decide +kernel
theorem dX4_takes_48 : decode cX4_takes 48 = .ok (.iload_n 1, 1) := by decide +kernel
theorem dX4_takes_49 : decode cX4_takes 49 = .ok (.bipush 100, 2) := by decide +kernel
theorem dX4_takes_51 : decode cX4_takes 51 = .ok (.sipush 2000, 3) := by decide +kernel
theorem dX4_takes_54 : decode cX4_takes 54 = .ok (.invokestatic 67, 3) := by decide +kernel
theorem dX4_takes_57 : decode cX4_takes 57 = .ok (.ireturn, 1) := by decide +kernel
theorem dX4_takes_58 : decode cX4_takes 58 = .ok (.iload_n 1, 1) := by decide +kernel
theorem dX4_takes_59 : decode cX4_takes 59 = .ok (.bipush 100, 2) := by decide +kernel
theorem dX4_takes_61 : decode cX4_takes 61 = .ok (.sipush 1000, 3) := by decide +kernel
theorem dX4_takes_64 : decode cX4_takes 64 = .ok (.invokestatic 67, 3) := by decide +kernel
theorem dX4_takes_67 : decode cX4_takes 67 = .ok (.ireturn, 1) := by decide +kernel
theorem dX4_takes_68 : decode cX4_takes 68 = .ok (.iload_n 1, 1) := by decide +kernel
theorem dX4_takes_69 : decode cX4_takes 69 = .ok (.iconst 0, 1) := by decide +kernel
theorem dX4_takes_70 : decode cX4_takes 70 = .ok (.ldc 71, 2) := by decide +kernel
theorem dX4_takes_72 : decode cX4_takes 72 = .ok (.invokestatic 67, 3) := by decide +kernel
theorem dX4_takes_75 : decode cX4_takes 75 = .ok (.ireturn, 1) := by decide +kernel
theorem dX4_takes_76 : decode cX4_takes 76 = .ok (.iload_n 1, 1) := by decide +kernel
theorem dX4_takes_77 : decode cX4_takes 77 = .ok (.iconst 0, 1) := by decide +kernel
theorem dX4_takes_78 : decode cX4_takes 78 = .ok (.bipush 100, 2) := by decide +kernel
theorem dX4_takes_80 : decode cX4_takes 80 = .ok (.invokestatic 67, 3) := by decide +kernel
theorem dX4_takes_83 : decode cX4_takes 83 = .ok (.ireturn, 1) := by decide +kernel
theorem dX4_takes_84 : decode cX4_takes 84 = .ok (.iload_n 1, 1) := by decide +kernel
theorem dX4_takes_85 : decode cX4_takes 85 = .ok (.iconst 1, 1) := by decide +kernel
theorem dX4_takes_86 : decode cX4_takes 86 = .ok (.bipush 64, 2) := by decide +kernel
theorem dX4_takes_88 : decode cX4_takes 88 = .ok (.invokestatic 67, 3) := by decide +kernel
theorem dX4_takes_91 : decode cX4_takes 91 = .ok (.ireturn, 1) := by decide +kernel
theorem dX4_takes_92 : decode cX4_takes 92 = .ok (.iload_n 1, 1) := by decide +kernel
theorem dX4_takes_93 : decode cX4_takes 93 = .ok (.iconst 0, 1) := by decide +kernel
theorem dX4_takes_94 : decode cX4_takes 94 = .ok (.sipush 2000, 3) := by decide +kernel
theorem dX4_takes_97 : decode cX4_takes 97 = .ok (.invokestatic 67, 3) := by decide +kernel
theorem dX4_takes_100 : decode cX4_takes 100 = .ok (.ireturn, 1) := by decide +kernel
theorem dX4_takes_101 : decode cX4_takes 101 = .ok (.iload_n 0, 1) := by decide +kernel
theorem dX4_takes_102 : decode cX4_takes 102 = .ok (.bipush 8, 2) := by decide +kernel
theorem dX4_takes_104 : decode cX4_takes 104 = .ok (.if_icmp .ne 17, 3) := by decide +kernel
theorem dX4_takes_107 : decode cX4_takes 107 = .ok (.iload_n 1, 1) := by decide +kernel
theorem dX4_takes_108 : decode cX4_takes 108 = .ok (.iconst 0, 1) := by decide +kernel
theorem dX4_takes_109 : decode cX4_takes 109 = .ok (.ldc 72, 2) := by decide +kernel
theorem dX4_takes_111 : decode cX4_takes 111 = .ok (.invokestatic 67, 3) := by decide +kernel
theorem dX4_takes_114 : decode cX4_takes 114 = .ok (.ifCond .eq 7, 3) := by decide +kernel
theorem dX4_takes_117 : decode cX4_takes 117 = .ok (.iconst 1, 1) := by decide +kernel
theorem dX4_takes_118 : decode cX4_takes 118 = .ok (.goto 4, 3) := by decide +kernel
theorem dX4_takes_121 : decode cX4_takes 121 = .ok (.iconst 0, 1) := by decide +kernel
theorem dX4_takes_122 : decode cX4_takes 122 = .ok (.ireturn, 1) := by decide +kernel
abbrev wX4_takes : List Cond := .code yX4_takes cX4_takes 2 (some .boolean) :: lw_gd
theorem hdX4_takes : (yX4_takes.cls ≠ "java/lang/invoke/MethodHandle" ∧ yX4_takes.cls ≠ "java/lang/invoke/VarHandle" ∧ (parseMethodDescriptor yX4_takes.desc).map (fun d => d.parameters.length) = some 2) := by decide +kernel
def fX4_takes_48   (b1 : Int32) (M : xm_M) : Option (Int32 × xm_M) :=
  xm_bi (fX4_in b1 (100 : Int32) (2000 : Int32) M) (fun x2 M1 => if x2 = 0 ∨ x2 = 1 then some (x2, M1) else none)
set_option maxRecDepth 20000 in
theorem tfX4_takes_48 {p : Program} {l : Launch} {e : Env} {s : State} {m : MethodId} {args : Array Value} {below : List Frame} {meth : Method} {c : Code} {D : va_G} {g : xm_G} {A : Nat → Prop} (hX : xm_X p m meth c cX4_takes 2 s args wX4_takes RX4 (some .boolean) D mL g A)     : ∀ (b1 : Int32), ∀ (M : xm_M), xm_J p l e ({ frames := 1, cells := 0, slots := 0, locals := 22 }) s m args below meth c 2 D mL g A (xm_Fi g) 48 [(1, .int b1)] [] M (fX4_takes_48 b1 M) := by
  intro b1 M
  unfold fX4_takes_48
  refine xm_iload_n hX 0 dX4_takes_48 rfl rfl ?_
  refine xm_bipush hX (v := 100) rfl dX4_takes_49 ?_
  refine xm_sipush hX (v := 2000) rfl dX4_takes_51 ?_
  refine xm_calli hX (xm_runS hX (As := (fun g => [.int b1, .int (100 : Int32), .int (2000 : Int32)])) (kX4_in b1 (100 : Int32) (2000 : Int32) M) (xm_gS gm_495 gm_496 gm_5 gm_497) rfl ⟨rfl, rfl⟩ hdX4_in ⟨Nat.le_of_ble_eq_true rfl, Nat.le_of_ble_eq_true rfl⟩ rfl (Nat.le_of_ble_eq_true rfl) rfl dX4_takes_54) (fun x2 M1 => ?_)
  exact xm_zret hX dX4_takes_57
def fX4_takes_76   (b1 : Int32) (M : xm_M) : Option (Int32 × xm_M) :=
  xm_bi (fX4_in b1 (0 : Int32) (100 : Int32) M) (fun x12 M11 => if x12 = 0 ∨ x12 = 1 then some (x12, M11) else none)
set_option maxRecDepth 20000 in
theorem tfX4_takes_76 {p : Program} {l : Launch} {e : Env} {s : State} {m : MethodId} {args : Array Value} {below : List Frame} {meth : Method} {c : Code} {D : va_G} {g : xm_G} {A : Nat → Prop} (hX : xm_X p m meth c cX4_takes 2 s args wX4_takes RX4 (some .boolean) D mL g A)     : ∀ (b1 : Int32), ∀ (M : xm_M), xm_J p l e ({ frames := 1, cells := 0, slots := 0, locals := 22 }) s m args below meth c 2 D mL g A (xm_Fi g) 76 [(1, .int b1)] [] M (fX4_takes_76 b1 M) := by
  intro b1 M
  unfold fX4_takes_76
  refine xm_iload_n hX 0 dX4_takes_76 rfl rfl ?_
  refine xm_iconst hX (v := 0) rfl dX4_takes_77 ?_
  refine xm_bipush hX (v := 100) rfl dX4_takes_78 ?_
  refine xm_calli hX (xm_runS hX (As := (fun g => [.int b1, .int (0 : Int32), .int (100 : Int32)])) (kX4_in b1 (0 : Int32) (100 : Int32) M) (xm_gS gm_495 gm_496 gm_5 gm_497) rfl ⟨rfl, rfl⟩ hdX4_in ⟨Nat.le_of_ble_eq_true rfl, Nat.le_of_ble_eq_true rfl⟩ rfl (Nat.le_of_ble_eq_true rfl) rfl dX4_takes_80) (fun x12 M11 => ?_)
  exact xm_zret hX dX4_takes_83
def fX4_takes  (a0 : Int32) (a1 : Int32) (M : xm_M) : Option (Int32 × xm_M) :=
  if a0 = 0 then fX4_takes_48 a1 M else if a0 = 1 then fX4_takes_48 a1 M else if a0 = 2 then xm_bi (fX4_in a1 (100 : Int32) (1000 : Int32) M) (fun x6 M5 => if x6 = 0 ∨ x6 = 1 then some (x6, M5) else none) else if a0 = 3 then xm_bi (fX4_in a1 (0 : Int32) (200000 : Int32) M) (fun x9 M8 => if x9 = 0 ∨ x9 = 1 then some (x9, M8) else none) else if a0 = 4 then fX4_takes_76 a1 M else if a0 = 5 then xm_bi (fX4_in a1 (1 : Int32) (64 : Int32) M) (fun x15 M14 => if x15 = 0 ∨ x15 = 1 then some (x15, M14) else none) else if a0 = 6 then fX4_takes_76 a1 M else if a0 = 7 then xm_bi (fX4_in a1 (0 : Int32) (2000 : Int32) M) (fun x19 M18 => if x19 = 0 ∨ x19 = 1 then some (x19, M18) else none) else if a0 = (8 : Int32) then xm_bi (fX4_in a1 (0 : Int32) (900000 : Int32) M) (fun x22 M21 => if x22 = 0 then some ((0 : Int32), M21) else some ((1 : Int32), M21)) else some ((0 : Int32), M)
set_option maxRecDepth 20000 in
theorem kX4_takes {l : Launch}   (a0 : Int32) (a1 : Int32) (M : xm_M) : xm_C l yX4_takes wX4_takes ({ frames := 1, cells := 0, slots := 0, locals := 22 }) mL (fun g => [.int a0, .int a1]) M xm_Fi (fX4_takes  a0 a1 M) := by
  refine xm_C.of (by decide) rfl (fun g => Nat.le_of_ble_eq_true rfl) ?_
  intro p e s m args below meth c D g A hX
  refine xm_lv (lv' := [(0, .int a0), (1, .int a1)]) rfl ?_
  unfold fX4_takes
  refine xm_iload_n hX 0 dX4_takes_0 rfl rfl ?_
  refine xm_ite (fun z3 => ?_) (fun z3 => ?_)
  · refine xm_tsIn hX (tgt := 48) dX4_takes_1 z3 (by decide) (by decide) rfl rfl ?_
    refine xm_weak [1] (lv' := [(1, .int a1)]) rfl ?_
    exact tfX4_takes_48 hX a1 M
  refine xm_ite (fun z4 => ?_) (fun z4 => ?_)
  · refine xm_tsIn hX (tgt := 48) dX4_takes_1 z4 (by decide) (by decide) rfl rfl ?_
    refine xm_weak [1] (lv' := [(1, .int a1)]) rfl ?_
    exact tfX4_takes_48 hX a1 M
  refine xm_ite (fun z7 => ?_) (fun z7 => ?_)
  · refine xm_tsIn hX (tgt := 58) dX4_takes_1 z7 (by decide) (by decide) rfl rfl ?_
    refine xm_iload_n hX 1 dX4_takes_58 rfl rfl ?_
    refine xm_bipush hX (v := 100) rfl dX4_takes_59 ?_
    refine xm_sipush hX (v := 1000) rfl dX4_takes_61 ?_
    refine xm_calli hX (xm_runS hX (As := (fun g => [.int a1, .int (100 : Int32), .int (1000 : Int32)])) (kX4_in a1 (100 : Int32) (1000 : Int32) M) (xm_gS gm_495 gm_496 gm_5 gm_497) rfl ⟨rfl, rfl⟩ hdX4_in ⟨Nat.le_of_ble_eq_true rfl, Nat.le_of_ble_eq_true rfl⟩ rfl (Nat.le_of_ble_eq_true rfl) rfl dX4_takes_64) (fun x6 M5 => ?_)
    exact xm_zret hX dX4_takes_67
  refine xm_ite (fun z10 => ?_) (fun z10 => ?_)
  · refine xm_tsIn hX (tgt := 68) dX4_takes_1 z10 (by decide) (by decide) rfl rfl ?_
    refine xm_iload_n hX 1 dX4_takes_68 rfl rfl ?_
    refine xm_iconst hX (v := 0) rfl dX4_takes_69 ?_
    refine xm_ldc hX (v := 200000) (List.mem_cons_of_mem _ gm_498) dX4_takes_70 ?_
    refine xm_calli hX (xm_runS hX (As := (fun g => [.int a1, .int (0 : Int32), .int (200000 : Int32)])) (kX4_in a1 (0 : Int32) (200000 : Int32) M) (xm_gS gm_495 gm_496 gm_5 gm_497) rfl ⟨rfl, rfl⟩ hdX4_in ⟨Nat.le_of_ble_eq_true rfl, Nat.le_of_ble_eq_true rfl⟩ rfl (Nat.le_of_ble_eq_true rfl) rfl dX4_takes_72) (fun x9 M8 => ?_)
    exact xm_zret hX dX4_takes_75
  refine xm_ite (fun z13 => ?_) (fun z13 => ?_)
  · refine xm_tsIn hX (tgt := 76) dX4_takes_1 z13 (by decide) (by decide) rfl rfl ?_
    refine xm_weak [1] (lv' := [(1, .int a1)]) rfl ?_
    exact tfX4_takes_76 hX a1 M
  refine xm_ite (fun z16 => ?_) (fun z16 => ?_)
  · refine xm_tsIn hX (tgt := 84) dX4_takes_1 z16 (by decide) (by decide) rfl rfl ?_
    refine xm_iload_n hX 1 dX4_takes_84 rfl rfl ?_
    refine xm_iconst hX (v := 1) rfl dX4_takes_85 ?_
    refine xm_bipush hX (v := 64) rfl dX4_takes_86 ?_
    refine xm_calli hX (xm_runS hX (As := (fun g => [.int a1, .int (1 : Int32), .int (64 : Int32)])) (kX4_in a1 (1 : Int32) (64 : Int32) M) (xm_gS gm_495 gm_496 gm_5 gm_497) rfl ⟨rfl, rfl⟩ hdX4_in ⟨Nat.le_of_ble_eq_true rfl, Nat.le_of_ble_eq_true rfl⟩ rfl (Nat.le_of_ble_eq_true rfl) rfl dX4_takes_88) (fun x15 M14 => ?_)
    exact xm_zret hX dX4_takes_91
  refine xm_ite (fun z17 => ?_) (fun z17 => ?_)
  · refine xm_tsIn hX (tgt := 76) dX4_takes_1 z17 (by decide) (by decide) rfl rfl ?_
    refine xm_weak [1] (lv' := [(1, .int a1)]) rfl ?_
    exact tfX4_takes_76 hX a1 M
  refine xm_ite (fun z20 => ?_) (fun z20 => ?_)
  · refine xm_tsIn hX (tgt := 92) dX4_takes_1 z20 (by decide) (by decide) rfl rfl ?_
    refine xm_iload_n hX 1 dX4_takes_92 rfl rfl ?_
    refine xm_iconst hX (v := 0) rfl dX4_takes_93 ?_
    refine xm_sipush hX (v := 2000) rfl dX4_takes_94 ?_
    refine xm_calli hX (xm_runS hX (As := (fun g => [.int a1, .int (0 : Int32), .int (2000 : Int32)])) (kX4_in a1 (0 : Int32) (2000 : Int32) M) (xm_gS gm_495 gm_496 gm_5 gm_497) rfl ⟨rfl, rfl⟩ hdX4_in ⟨Nat.le_of_ble_eq_true rfl, Nat.le_of_ble_eq_true rfl⟩ rfl (Nat.le_of_ble_eq_true rfl) rfl dX4_takes_97) (fun x19 M18 => ?_)
    exact xm_zret hX dX4_takes_100
  refine xm_tsOut hX (tgt := 101) dX4_takes_1 (by have qz3 := lv_neT (a := 0) z3 rfl; have qz4 := lv_neT (a := 1) z4 rfl; have qz7 := lv_neT (a := 2) z7 rfl; have qz10 := lv_neT (a := 3) z10 rfl; have qz13 := lv_neT (a := 4) z13 rfl; have qz16 := lv_neT (a := 5) z16 rfl; have qz17 := lv_neT (a := 6) z17 rfl; have qz20 := lv_neT (a := 7) z20 rfl; omega) rfl ?_
  refine xm_iload_n hX 0 dX4_takes_101 rfl rfl ?_
  refine xm_bipush hX (v := 8) rfl dX4_takes_102 ?_
  refine xm_icmp_ne hX (tgt := 121) dX4_takes_104 rfl ?_ ?_
  · refine xm_iconst hX (v := 0) rfl dX4_takes_121 ?_
    exact xm_zretL hX (by decide) dX4_takes_122
  · refine xm_iload_n hX 1 dX4_takes_107 rfl rfl ?_
    refine xm_iconst hX (v := 0) rfl dX4_takes_108 ?_
    refine xm_ldc hX (v := 900000) (List.mem_cons_of_mem _ gm_499) dX4_takes_109 ?_
    refine xm_calli hX (xm_runS hX (As := (fun g => [.int a1, .int (0 : Int32), .int (900000 : Int32)])) (kX4_in a1 (0 : Int32) (900000 : Int32) M) (xm_gS gm_495 gm_496 gm_5 gm_497) rfl ⟨rfl, rfl⟩ hdX4_in ⟨Nat.le_of_ble_eq_true rfl, Nat.le_of_ble_eq_true rfl⟩ rfl (Nat.le_of_ble_eq_true rfl) rfl dX4_takes_111) (fun x22 M21 => ?_)
    refine xm_if_eq hX (tgt := 121) dX4_takes_114 rfl ?_ ?_
    · refine xm_iconst hX (v := 0) rfl dX4_takes_121 ?_
      exact xm_zretL hX (by decide) dX4_takes_122
    · refine xm_iconst hX (v := 1) rfl dX4_takes_117 ?_
      refine xm_goto hX (tgt := 122) dX4_takes_118 rfl ?_
      exact xm_zretL hX (by decide) dX4_takes_122
-- ===== OdometryDeskModel.bestBase()I ['0']
theorem dX4_bestBase_0 : decode cX4_bestBase 0 = .ok (.aload_n 0, 1) := by decide +kernel
theorem dX4_bestBase_1 : decode cX4_bestBase 1 = .ok (.invokevirtual 204, 3) := by decide +kernel
theorem dX4_bestBase_4 : decode cX4_bestBase 4 = .ok (.ifCond .ne 6, 3) := by decide +kernel
theorem dX4_bestBase_7 : decode cX4_bestBase 7 = .ok (.bipush (-6), 2) := by decide +kernel
theorem dX4_bestBase_9 : decode cX4_bestBase 9 = .ok (.ireturn, 1) := by decide +kernel
theorem dX4_bestBase_10 : decode cX4_bestBase 10 = .ok (.aload_n 0, 1) := by decide +kernel
theorem dX4_bestBase_11 : decode cX4_bestBase 11 = .ok (.iconst 2, 1) := by decide +kernel
theorem dX4_bestBase_12 : decode cX4_bestBase 12 = .ok (.invokevirtual 77, 3) := by decide +kernel
theorem dX4_bestBase_15 : decode cX4_bestBase 15 = .ok (.istore_n 1, 1) := by decide +kernel
theorem dX4_bestBase_16 : decode cX4_bestBase 16 = .ok (.iload_n 1, 1) := by decide +kernel
theorem dX4_bestBase_17 : decode cX4_bestBase 17 = .ok (.istore_n 2, 1) := by decide +kernel
theorem dX4_bestBase_18 : decode cX4_bestBase 18 = .ok (.aload_n 0, 1) := by decide +kernel
theorem dX4_bestBase_19 : decode cX4_bestBase 19 = .ok (.iconst 2, 1) := by decide +kernel
theorem dX4_bestBase_20 : decode cX4_bestBase 20 = .ok (.iload_n 1, 1) := by decide +kernel
theorem dX4_bestBase_21 : decode cX4_bestBase 21 = .ok (.invokevirtual 207, 3) := by decide +kernel
theorem dX4_bestBase_24 : decode cX4_bestBase 24 = .ok (.lstore_n 3, 1) := by decide +kernel
theorem dX4_bestBase_25 : decode cX4_bestBase 25 = .ok (.iconst 1, 1) := by decide +kernel
theorem dX4_bestBase_26 : decode cX4_bestBase 26 = .ok (.istore 5, 2) := by decide +kernel
theorem dX4_bestBase_28 : decode cX4_bestBase 28 = .ok (.iload 5, 2) := by decide +kernel
theorem dX4_bestBase_30 : decode cX4_bestBase 30 = .ok (.bipush 20, 2) := by decide +kernel
theorem dX4_bestBase_32 : decode cX4_bestBase 32 = .ok (.if_icmp .gt 92, 3) := by decide +kernel
theorem dX4_bestBase_35 : decode cX4_bestBase 35 = .ok (.iconst 0, 1) := by decide +kernel
theorem dX4_bestBase_36 : decode cX4_bestBase 36 = .ok (.istore 6, 2) := by decide +kernel
theorem dX4_bestBase_38 : decode cX4_bestBase 38 = .ok (.iload 6, 2) := by decide +kernel
theorem dX4_bestBase_40 : decode cX4_bestBase 40 = .ok (.iconst 2, 1) := by decide +kernel
theorem dX4_bestBase_41 : decode cX4_bestBase 41 = .ok (.if_icmp .ge 77, 3) := by decide +kernel
theorem dX4_bestBase_44 : decode cX4_bestBase 44 = .ok (.iload 6, 2) := by decide +kernel
theorem dX4_bestBase_46 : decode cX4_bestBase 46 = .ok (.ifCond .ne 10, 3) := by decide +kernel
theorem dX4_bestBase_49 : decode cX4_bestBase 49 = .ok (.iload_n 1, 1) := by decide +kernel
theorem dX4_bestBase_50 : decode cX4_bestBase 50 = .ok (.iload 5, 2) := by decide +kernel
theorem dX4_bestBase_52 : decode cX4_bestBase 52 = .ok (.isub, 1) := by decide +kernel
theorem dX4_bestBase_53 : decode cX4_bestBase 53 = .ok (.goto 7, 3) := by decide +kernel
theorem dX4_bestBase_56 : decode cX4_bestBase 56 = .ok (.iload_n 1, 1) := by decide +kernel
theorem dX4_bestBase_57 : decode cX4_bestBase 57 = .ok (.iload 5, 2) := by decide +kernel
theorem dX4_bestBase_59 : decode cX4_bestBase 59 = .ok (.iadd, 1) := by decide +kernel
theorem dX4_bestBase_60 : decode cX4_bestBase 60 = .ok (.istore 7, 2) := by decide +kernel
theorem dX4_bestBase_62 : decode cX4_bestBase 62 = .ok (.iconst 2, 1) := by decide +kernel
theorem dX4_bestBase_63 : decode cX4_bestBase 63 = .ok (.iload 7, 2) := by decide +kernel
theorem dX4_bestBase_65 : decode cX4_bestBase 65 = .ok (.invokestatic 73, 3) := by decide +kernel
theorem dX4_bestBase_68 : decode cX4_bestBase 68 = .ok (.ifCond .eq 13, 3) := by decide +kernel
theorem dX4_bestBase_71 : decode cX4_bestBase 71 = .ok (.aload_n 0, 1) := by decide +kernel
theorem dX4_bestBase_72 : decode cX4_bestBase 72 = .ok (.iconst 2, 1) := by decide +kernel
theorem dX4_bestBase_73 : decode cX4_bestBase 73 = .ok (.iload 7, 2) := by decide +kernel
theorem dX4_bestBase_75 : decode cX4_bestBase 75 = .ok (.invokevirtual 207, 3) := by decide +kernel
theorem dX4_bestBase_78 : decode cX4_bestBase 78 = .ok (.goto 4, 3) := by decide +kernel
theorem dX4_bestBase_81 : decode cX4_bestBase 81 = .ok (.lload_n 3, 1) := by decide +kernel
theorem dX4_bestBase_82 : decode cX4_bestBase 82 = .ok (.lstore 8, 2) := by decide +kernel
theorem dX4_bestBase_84 : decode cX4_bestBase 84 = .ok (.lload 8, 2) := by decide +kernel
theorem dX4_bestBase_86 : decode cX4_bestBase 86 = .ok (.lload_n 3, 1) := by decide +kernel
theorem dX4_bestBase_87 : decode cX4_bestBase 87 = .ok (.lcmp, 1) := by decide +kernel
theorem dX4_bestBase_88 : decode cX4_bestBase 88 = .ok (.ifCond .ge 8, 3) := by decide +kernel
theorem dX4_bestBase_91 : decode cX4_bestBase 91 = .ok (.iload 7, 2) := by decide +kernel
theorem dX4_bestBase_93 : decode cX4_bestBase 93 = .ok (.goto 4, 3) := by decide +kernel
theorem dX4_bestBase_96 : decode cX4_bestBase 96 = .ok (.iload_n 2, 1) := by decide +kernel
theorem dX4_bestBase_97 : decode cX4_bestBase 97 = .ok (.istore_n 2, 1) := by decide +kernel
theorem dX4_bestBase_98 : decode cX4_bestBase 98 = .ok (.lload 8, 2) := by decide +kernel
theorem dX4_bestBase_100 : decode cX4_bestBase 100 = .ok (.lload_n 3, 1) := by decide +kernel
theorem dX4_bestBase_101 : decode cX4_bestBase 101 = .ok (.lcmp, 1) := by decide +kernel
theorem dX4_bestBase_102 : decode cX4_bestBase 102 = .ok (.ifCond .ge 8, 3) := by decide +kernel
theorem dX4_bestBase_105 : decode cX4_bestBase 105 = .ok (.lload 8, 2) := by decide +kernel
theorem dX4_bestBase_107 : decode cX4_bestBase 107 = .ok (.goto 4, 3) := by decide +kernel
theorem dX4_bestBase_110 : decode cX4_bestBase 110 = .ok (.lload_n 3, 1) := by decide +kernel
theorem dX4_bestBase_111 : decode cX4_bestBase 111 = .ok (.lstore_n 3, 1) := by decide +kernel
theorem dX4_bestBase_112 : decode cX4_bestBase 112 = .ok (.iinc 6 1, 3) := by decide +kernel
theorem dX4_bestBase_115 : decode cX4_bestBase 115 = .ok (.goto (-77), 3) := by decide +kernel
theorem dX4_bestBase_118 : decode cX4_bestBase 118 = .ok (.iinc 5 1, 3) := by decide +kernel
theorem dX4_bestBase_121 : decode cX4_bestBase 121 = .ok (.goto (-93), 3) := by decide +kernel
theorem dX4_bestBase_124 : decode cX4_bestBase 124 = .ok (.iload_n 2, 1) := by decide +kernel
theorem dX4_bestBase_125 : decode cX4_bestBase 125 = .ok (.ireturn, 1) := by decide +kernel
abbrev wX4_bestBase : List Cond := .code yX4_bestBase cX4_bestBase 10 (some .int) :: lw_gd
theorem hdX4_bestBase : (yX4_bestBase.cls ≠ "java/lang/invoke/MethodHandle" ∧ yX4_bestBase.cls ≠ "java/lang/invoke/VarHandle" ∧ (parseMethodDescriptor yX4_bestBase.desc).map (fun d => d.parameters.length) = some 0) := by decide +kernel
def fX4_bestBase_111  (k28 : Int32 → Int32 → Int64 → Int32 → xm_M → Option (Int32 × xm_M)) (k38 : Int32 → Int32 → Int64 → Int32 → Int32 → xm_M → Option (Int32 × xm_M)) (b1 : Int32) (b2 : Int32) (b5 : Int32) (b6 : Int32) (s0 : Int64) (M : xm_M) : Option (Int32 × xm_M) :=
  xm_lt (b6 + Int32.ofInt 1) (fun x12 => k38 b1 b2 s0 b5 x12 M)
set_option maxRecDepth 20000 in
theorem tfX4_bestBase_111 {p : Program} {l : Launch} {e : Env} {s : State} {m : MethodId} {args : Array Value} {below : List Frame} {meth : Method} {c : Code} {D : va_G} {g : xm_G} {A : Nat → Prop} (hX : xm_X p m meth c cX4_bestBase 10 s args wX4_bestBase RX4 (some .int) D mL g A)   (k28 : Int32 → Int32 → Int64 → Int32 → xm_M → Option (Int32 × xm_M)) (k38 : Int32 → Int32 → Int64 → Int32 → Int32 → xm_M → Option (Int32 × xm_M)) (h28 : ∀ (b1 : Int32), ∀ (b2 : Int32), ∀ (b3 : Int64), ∀ (b5 : Int32), ∀ (M : xm_M), xm_J p l e ({ frames := 6, cells := 0, slots := 0, locals := 144 }) s m args below meth c 10 D mL g A (xm_Fi g) 28 [(0, .ref (g.1 0)), (1, .int b1), (2, .int b2), (3, .long b3), (5, .int b5)] [] M (k28 b1 b2 b3 b5 M)) (h38 : ∀ (b1 : Int32), ∀ (b2 : Int32), ∀ (b3 : Int64), ∀ (b5 : Int32), ∀ (b6 : Int32), ∀ (M : xm_M), xm_J p l e ({ frames := 6, cells := 0, slots := 0, locals := 144 }) s m args below meth c 10 D mL g A (xm_Fi g) 38 [(0, .ref (g.1 0)), (1, .int b1), (2, .int b2), (3, .long b3), (5, .int b5), (6, .int b6)] [] M (k38 b1 b2 b3 b5 b6 M)) : ∀ (b1 : Int32), ∀ (b2 : Int32), ∀ (b5 : Int32), ∀ (b6 : Int32), ∀ (s0 : Int64), ∀ (M : xm_M), xm_J p l e ({ frames := 6, cells := 0, slots := 0, locals := 144 }) s m args below meth c 10 D mL g A (xm_Fi g) 111 [(0, .ref (g.1 0)), (1, .int b1), (2, .int b2), (5, .int b5), (6, .int b6)] [.long s0] M (fX4_bestBase_111 k28 k38 b1 b2 b5 b6 s0 M) := by
  intro b1 b2 b5 b6 s0 M
  unfold fX4_bestBase_111
  refine xm_lstore_n hX (lv' := [(3, .long s0), (0, .ref (g.1 0)), (1, .int b1), (2, .int b2), (5, .int b5), (6, .int b6)]) dX4_bestBase_111 rfl (by decide) rfl ?_
  refine xm_iinc hX (lv2 := fun x12 => [(6, .int x12), (3, .long s0), (0, .ref (g.1 0)), (1, .int b1), (2, .int b2), (5, .int b5)]) 5 dX4_bestBase_112 rfl (by decide) (fun _ => rfl) (fun x12 => ?_)
  refine xm_goto hX (tgt := 38) dX4_bestBase_115 rfl ?_
  refine xm_weak [2, 3, 4, 1, 5, 0] (lv' := [(0, .ref (g.1 0)), (1, .int b1), (2, .int b2), (3, .long s0), (5, .int b5), (6, .int x12)]) rfl ?_
  exact h38 b1 b2 s0 b5 x12 M
def fX4_bestBase_97  (k28 : Int32 → Int32 → Int64 → Int32 → xm_M → Option (Int32 × xm_M)) (k38 : Int32 → Int32 → Int64 → Int32 → Int32 → xm_M → Option (Int32 × xm_M)) (b1 : Int32) (b3 : Int64) (b5 : Int32) (b6 : Int32) (b8 : Int64) (s0 : Int32) (M : xm_M) : Option (Int32 × xm_M) :=
  if 0 ≤ (lg_cmp b8 b3) then fX4_bestBase_111 k28 k38 b1 s0 b5 b6 b3 M else fX4_bestBase_111 k28 k38 b1 s0 b5 b6 b8 M
set_option maxRecDepth 20000 in
theorem tfX4_bestBase_97 {p : Program} {l : Launch} {e : Env} {s : State} {m : MethodId} {args : Array Value} {below : List Frame} {meth : Method} {c : Code} {D : va_G} {g : xm_G} {A : Nat → Prop} (hX : xm_X p m meth c cX4_bestBase 10 s args wX4_bestBase RX4 (some .int) D mL g A)   (k28 : Int32 → Int32 → Int64 → Int32 → xm_M → Option (Int32 × xm_M)) (k38 : Int32 → Int32 → Int64 → Int32 → Int32 → xm_M → Option (Int32 × xm_M)) (h28 : ∀ (b1 : Int32), ∀ (b2 : Int32), ∀ (b3 : Int64), ∀ (b5 : Int32), ∀ (M : xm_M), xm_J p l e ({ frames := 6, cells := 0, slots := 0, locals := 144 }) s m args below meth c 10 D mL g A (xm_Fi g) 28 [(0, .ref (g.1 0)), (1, .int b1), (2, .int b2), (3, .long b3), (5, .int b5)] [] M (k28 b1 b2 b3 b5 M)) (h38 : ∀ (b1 : Int32), ∀ (b2 : Int32), ∀ (b3 : Int64), ∀ (b5 : Int32), ∀ (b6 : Int32), ∀ (M : xm_M), xm_J p l e ({ frames := 6, cells := 0, slots := 0, locals := 144 }) s m args below meth c 10 D mL g A (xm_Fi g) 38 [(0, .ref (g.1 0)), (1, .int b1), (2, .int b2), (3, .long b3), (5, .int b5), (6, .int b6)] [] M (k38 b1 b2 b3 b5 b6 M)) : ∀ (b1 : Int32), ∀ (b3 : Int64), ∀ (b5 : Int32), ∀ (b6 : Int32), ∀ (b8 : Int64), ∀ (s0 : Int32), ∀ (M : xm_M), xm_J p l e ({ frames := 6, cells := 0, slots := 0, locals := 144 }) s m args below meth c 10 D mL g A (xm_Fi g) 97 [(0, .ref (g.1 0)), (1, .int b1), (3, .long b3), (5, .int b5), (6, .int b6), (8, .long b8)] [.int s0] M (fX4_bestBase_97 k28 k38 b1 b3 b5 b6 b8 s0 M) := by
  intro b1 b3 b5 b6 b8 s0 M
  unfold fX4_bestBase_97
  refine xm_istore_n hX (lv' := [(2, .int s0), (0, .ref (g.1 0)), (1, .int b1), (3, .long b3), (5, .int b5), (6, .int b6), (8, .long b8)]) dX4_bestBase_97 rfl (by decide) rfl ?_
  refine xm_lload hX 6 dX4_bestBase_98 rfl ?_
  refine xm_lload_n hX 3 dX4_bestBase_100 rfl rfl ?_
  refine xm_lcmp hX dX4_bestBase_101 ?_
  refine xm_if_ge hX (tgt := 110) dX4_bestBase_102 rfl ?_ ?_
  · refine xm_lload_n hX 3 dX4_bestBase_110 rfl rfl ?_
    refine xm_weak [1, 2, 0, 4, 5] (lv' := [(0, .ref (g.1 0)), (1, .int b1), (2, .int s0), (5, .int b5), (6, .int b6)]) rfl ?_
    exact tfX4_bestBase_111 hX k28 k38 h28 h38 b1 s0 b5 b6 b3 M
  · refine xm_lload hX 6 dX4_bestBase_105 rfl ?_
    refine xm_goto hX (tgt := 111) dX4_bestBase_107 rfl ?_
    refine xm_weak [1, 2, 0, 4, 5] (lv' := [(0, .ref (g.1 0)), (1, .int b1), (2, .int s0), (5, .int b5), (6, .int b6)]) rfl ?_
    exact tfX4_bestBase_111 hX k28 k38 h28 h38 b1 s0 b5 b6 b8 M
def fX4_bestBase_82  (k28 : Int32 → Int32 → Int64 → Int32 → xm_M → Option (Int32 × xm_M)) (k38 : Int32 → Int32 → Int64 → Int32 → Int32 → xm_M → Option (Int32 × xm_M)) (b1 : Int32) (b2 : Int32) (b3 : Int64) (b5 : Int32) (b6 : Int32) (b7 : Int32) (s0 : Int64) (M : xm_M) : Option (Int32 × xm_M) :=
  if 0 ≤ (lg_cmp s0 b3) then fX4_bestBase_97 k28 k38 b1 b3 b5 b6 s0 b2 M else fX4_bestBase_97 k28 k38 b1 b3 b5 b6 s0 b7 M
set_option maxRecDepth 20000 in
theorem tfX4_bestBase_82 {p : Program} {l : Launch} {e : Env} {s : State} {m : MethodId} {args : Array Value} {below : List Frame} {meth : Method} {c : Code} {D : va_G} {g : xm_G} {A : Nat → Prop} (hX : xm_X p m meth c cX4_bestBase 10 s args wX4_bestBase RX4 (some .int) D mL g A)   (k28 : Int32 → Int32 → Int64 → Int32 → xm_M → Option (Int32 × xm_M)) (k38 : Int32 → Int32 → Int64 → Int32 → Int32 → xm_M → Option (Int32 × xm_M)) (h28 : ∀ (b1 : Int32), ∀ (b2 : Int32), ∀ (b3 : Int64), ∀ (b5 : Int32), ∀ (M : xm_M), xm_J p l e ({ frames := 6, cells := 0, slots := 0, locals := 144 }) s m args below meth c 10 D mL g A (xm_Fi g) 28 [(0, .ref (g.1 0)), (1, .int b1), (2, .int b2), (3, .long b3), (5, .int b5)] [] M (k28 b1 b2 b3 b5 M)) (h38 : ∀ (b1 : Int32), ∀ (b2 : Int32), ∀ (b3 : Int64), ∀ (b5 : Int32), ∀ (b6 : Int32), ∀ (M : xm_M), xm_J p l e ({ frames := 6, cells := 0, slots := 0, locals := 144 }) s m args below meth c 10 D mL g A (xm_Fi g) 38 [(0, .ref (g.1 0)), (1, .int b1), (2, .int b2), (3, .long b3), (5, .int b5), (6, .int b6)] [] M (k38 b1 b2 b3 b5 b6 M)) : ∀ (b1 : Int32), ∀ (b2 : Int32), ∀ (b3 : Int64), ∀ (b5 : Int32), ∀ (b6 : Int32), ∀ (b7 : Int32), ∀ (s0 : Int64), ∀ (M : xm_M), xm_J p l e ({ frames := 6, cells := 0, slots := 0, locals := 144 }) s m args below meth c 10 D mL g A (xm_Fi g) 82 [(0, .ref (g.1 0)), (1, .int b1), (2, .int b2), (3, .long b3), (5, .int b5), (6, .int b6), (7, .int b7)] [.long s0] M (fX4_bestBase_82 k28 k38 b1 b2 b3 b5 b6 b7 s0 M) := by
  intro b1 b2 b3 b5 b6 b7 s0 M
  unfold fX4_bestBase_82
  refine xm_lstore hX (lv' := [(8, .long s0), (0, .ref (g.1 0)), (1, .int b1), (2, .int b2), (3, .long b3), (5, .int b5), (6, .int b6), (7, .int b7)]) dX4_bestBase_82 (by decide) rfl ?_
  refine xm_lload hX 0 dX4_bestBase_84 rfl ?_
  refine xm_lload_n hX 4 dX4_bestBase_86 rfl rfl ?_
  refine xm_lcmp hX dX4_bestBase_87 ?_
  refine xm_if_ge hX (tgt := 96) dX4_bestBase_88 rfl ?_ ?_
  · refine xm_iload_n hX 3 dX4_bestBase_96 rfl rfl ?_
    refine xm_weak [1, 2, 4, 5, 6, 0] (lv' := [(0, .ref (g.1 0)), (1, .int b1), (3, .long b3), (5, .int b5), (6, .int b6), (8, .long s0)]) rfl ?_
    exact tfX4_bestBase_97 hX k28 k38 h28 h38 b1 b3 b5 b6 s0 b2 M
  · refine xm_iload hX 7 dX4_bestBase_91 rfl ?_
    refine xm_goto hX (tgt := 97) dX4_bestBase_93 rfl ?_
    refine xm_weak [1, 2, 4, 5, 6, 0] (lv' := [(0, .ref (g.1 0)), (1, .int b1), (3, .long b3), (5, .int b5), (6, .int b6), (8, .long s0)]) rfl ?_
    exact tfX4_bestBase_97 hX k28 k38 h28 h38 b1 b3 b5 b6 s0 b7 M
def fX4_bestBase_60  (k28 : Int32 → Int32 → Int64 → Int32 → xm_M → Option (Int32 × xm_M)) (k38 : Int32 → Int32 → Int64 → Int32 → Int32 → xm_M → Option (Int32 × xm_M)) (b1 : Int32) (b2 : Int32) (b3 : Int64) (b5 : Int32) (b6 : Int32) (s0 : Int32) (M : xm_M) : Option (Int32 × xm_M) :=
  xm_bi (fX4_takes (2 : Int32) s0 M) (fun x11 M10 => if x11 = 0 then fX4_bestBase_82 k28 k38 b1 b2 b3 b5 b6 s0 b3 M10 else xm_bl (fX4_errorsWith (2 : Int32) s0 M10) (fun x14 M13 => fX4_bestBase_82 k28 k38 b1 b2 b3 b5 b6 s0 x14 M13))
set_option maxRecDepth 20000 in
theorem tfX4_bestBase_60 {p : Program} {l : Launch} {e : Env} {s : State} {m : MethodId} {args : Array Value} {below : List Frame} {meth : Method} {c : Code} {D : va_G} {g : xm_G} {A : Nat → Prop} (hX : xm_X p m meth c cX4_bestBase 10 s args wX4_bestBase RX4 (some .int) D mL g A)   (k28 : Int32 → Int32 → Int64 → Int32 → xm_M → Option (Int32 × xm_M)) (k38 : Int32 → Int32 → Int64 → Int32 → Int32 → xm_M → Option (Int32 × xm_M)) (h28 : ∀ (b1 : Int32), ∀ (b2 : Int32), ∀ (b3 : Int64), ∀ (b5 : Int32), ∀ (M : xm_M), xm_J p l e ({ frames := 6, cells := 0, slots := 0, locals := 144 }) s m args below meth c 10 D mL g A (xm_Fi g) 28 [(0, .ref (g.1 0)), (1, .int b1), (2, .int b2), (3, .long b3), (5, .int b5)] [] M (k28 b1 b2 b3 b5 M)) (h38 : ∀ (b1 : Int32), ∀ (b2 : Int32), ∀ (b3 : Int64), ∀ (b5 : Int32), ∀ (b6 : Int32), ∀ (M : xm_M), xm_J p l e ({ frames := 6, cells := 0, slots := 0, locals := 144 }) s m args below meth c 10 D mL g A (xm_Fi g) 38 [(0, .ref (g.1 0)), (1, .int b1), (2, .int b2), (3, .long b3), (5, .int b5), (6, .int b6)] [] M (k38 b1 b2 b3 b5 b6 M)) : ∀ (b1 : Int32), ∀ (b2 : Int32), ∀ (b3 : Int64), ∀ (b5 : Int32), ∀ (b6 : Int32), ∀ (s0 : Int32), ∀ (M : xm_M), xm_J p l e ({ frames := 6, cells := 0, slots := 0, locals := 144 }) s m args below meth c 10 D mL g A (xm_Fi g) 60 [(0, .ref (g.1 0)), (1, .int b1), (2, .int b2), (3, .long b3), (5, .int b5), (6, .int b6)] [.int s0] M (fX4_bestBase_60 k28 k38 b1 b2 b3 b5 b6 s0 M) := by
  intro b1 b2 b3 b5 b6 s0 M
  unfold fX4_bestBase_60
  refine xm_istore hX (lv' := [(7, .int s0), (0, .ref (g.1 0)), (1, .int b1), (2, .int b2), (3, .long b3), (5, .int b5), (6, .int b6)]) dX4_bestBase_60 (by decide) rfl ?_
  refine xm_iconst hX (v := 2) rfl dX4_bestBase_62 ?_
  refine xm_iload hX 0 dX4_bestBase_63 rfl ?_
  refine xm_calli hX (xm_runS hX (As := (fun g => [.int (2 : Int32), .int s0])) (kX4_takes (2 : Int32) s0 M) (xm_gS gm_492 gm_493 gm_5 gm_494) rfl ⟨rfl, rfl⟩ hdX4_takes ⟨Nat.le_of_ble_eq_true rfl, Nat.le_of_ble_eq_true rfl⟩ rfl (Nat.le_of_ble_eq_true rfl) rfl dX4_bestBase_65) (fun x11 M10 => ?_)
  refine xm_if_eq hX (tgt := 81) dX4_bestBase_68 rfl ?_ ?_
  · refine xm_lload_n hX 4 dX4_bestBase_81 rfl rfl ?_
    refine xm_weak [1, 2, 3, 4, 5, 6, 0] (lv' := [(0, .ref (g.1 0)), (1, .int b1), (2, .int b2), (3, .long b3), (5, .int b5), (6, .int b6), (7, .int s0)]) rfl ?_
    exact tfX4_bestBase_82 hX k28 k38 h28 h38 b1 b2 b3 b5 b6 s0 b3 M10
  · refine xm_aload_n hX 1 dX4_bestBase_71 rfl rfl ?_
    refine xm_iconst hX (v := 2) rfl dX4_bestBase_72 ?_
    refine xm_iload hX 0 dX4_bestBase_73 rfl ?_
    refine xm_calll hX (xm_runV hX (k := 0) (ci := 4) (As := (fun g => [.int (2 : Int32), .int s0])) (kX4_errorsWith (2 : Int32) s0 M10) mL_0 rfl (xm_gV gm_646 gm_647 gm_731 gm_5 gm_648) rfl ⟨rfl, rfl⟩ ⟨rfl, hdX4_errorsWith⟩ ⟨Nat.le_of_ble_eq_true rfl, Nat.le_of_ble_eq_true rfl⟩ rfl (Nat.le_of_ble_eq_true rfl) rfl dX4_bestBase_75) (fun x14 M13 => ?_)
    refine xm_goto hX (tgt := 82) dX4_bestBase_78 rfl ?_
    refine xm_weak [1, 2, 3, 4, 5, 6, 0] (lv' := [(0, .ref (g.1 0)), (1, .int b1), (2, .int b2), (3, .long b3), (5, .int b5), (6, .int b6), (7, .int s0)]) rfl ?_
    exact tfX4_bestBase_82 hX k28 k38 h28 h38 b1 b2 b3 b5 b6 s0 x14 M13
def fX4_bestBase_38  (k28 : Int32 → Int32 → Int64 → Int32 → xm_M → Option (Int32 × xm_M)) (k38 : Int32 → Int32 → Int64 → Int32 → Int32 → xm_M → Option (Int32 × xm_M)) (b1 : Int32) (b2 : Int32) (b3 : Int64) (b5 : Int32) (b6 : Int32) (M : xm_M) : Option (Int32 × xm_M) :=
  if (2 : Int32) ≤ b6 then xm_lt (b5 + Int32.ofInt 1) (fun x9 => k28 b1 b2 b3 x9 M) else if b6 = 0 then fX4_bestBase_60 k28 k38 b1 b2 b3 b5 b6 (b1 - b5) M else fX4_bestBase_60 k28 k38 b1 b2 b3 b5 b6 (b1 + b5) M
set_option maxRecDepth 20000 in
theorem tfX4_bestBase_38 {p : Program} {l : Launch} {e : Env} {s : State} {m : MethodId} {args : Array Value} {below : List Frame} {meth : Method} {c : Code} {D : va_G} {g : xm_G} {A : Nat → Prop} (hX : xm_X p m meth c cX4_bestBase 10 s args wX4_bestBase RX4 (some .int) D mL g A)   (k28 : Int32 → Int32 → Int64 → Int32 → xm_M → Option (Int32 × xm_M)) (k38 : Int32 → Int32 → Int64 → Int32 → Int32 → xm_M → Option (Int32 × xm_M)) (h28 : ∀ (b1 : Int32), ∀ (b2 : Int32), ∀ (b3 : Int64), ∀ (b5 : Int32), ∀ (M : xm_M), xm_J p l e ({ frames := 6, cells := 0, slots := 0, locals := 144 }) s m args below meth c 10 D mL g A (xm_Fi g) 28 [(0, .ref (g.1 0)), (1, .int b1), (2, .int b2), (3, .long b3), (5, .int b5)] [] M (k28 b1 b2 b3 b5 M)) (h38 : ∀ (b1 : Int32), ∀ (b2 : Int32), ∀ (b3 : Int64), ∀ (b5 : Int32), ∀ (b6 : Int32), ∀ (M : xm_M), xm_J p l e ({ frames := 6, cells := 0, slots := 0, locals := 144 }) s m args below meth c 10 D mL g A (xm_Fi g) 38 [(0, .ref (g.1 0)), (1, .int b1), (2, .int b2), (3, .long b3), (5, .int b5), (6, .int b6)] [] M (k38 b1 b2 b3 b5 b6 M)) : ∀ (b1 : Int32), ∀ (b2 : Int32), ∀ (b3 : Int64), ∀ (b5 : Int32), ∀ (b6 : Int32), ∀ (M : xm_M), xm_J p l e ({ frames := 6, cells := 0, slots := 0, locals := 144 }) s m args below meth c 10 D mL g A (xm_Fi g) 38 [(0, .ref (g.1 0)), (1, .int b1), (2, .int b2), (3, .long b3), (5, .int b5), (6, .int b6)] [] M (fX4_bestBase_38 k28 k38 b1 b2 b3 b5 b6 M) := by
  intro b1 b2 b3 b5 b6 M
  unfold fX4_bestBase_38
  refine xm_iload hX 5 dX4_bestBase_38 rfl ?_
  refine xm_iconst hX (v := 2) rfl dX4_bestBase_40 ?_
  refine xm_icmp_ge hX (tgt := 118) dX4_bestBase_41 rfl ?_ ?_
  · refine xm_iinc hX (lv2 := fun x9 => [(5, .int x9), (0, .ref (g.1 0)), (1, .int b1), (2, .int b2), (3, .long b3), (6, .int b6)]) 4 dX4_bestBase_118 rfl (by decide) (fun _ => rfl) (fun x9 => ?_)
    refine xm_goto hX (tgt := 28) dX4_bestBase_121 rfl ?_
    refine xm_weak [1, 2, 3, 4, 0] (lv' := [(0, .ref (g.1 0)), (1, .int b1), (2, .int b2), (3, .long b3), (5, .int x9)]) rfl ?_
    exact h28 b1 b2 b3 x9 M
  · refine xm_iload hX 5 dX4_bestBase_44 rfl ?_
    refine xm_if_ne hX (tgt := 56) dX4_bestBase_46 rfl ?_ ?_
    · refine xm_iload_n hX 1 dX4_bestBase_56 rfl rfl ?_
      refine xm_iload hX 4 dX4_bestBase_57 rfl ?_
      refine xm_iadd hX dX4_bestBase_59 ?_
      exact tfX4_bestBase_60 hX k28 k38 h28 h38 b1 b2 b3 b5 b6 (b1 + b5) M
    · refine xm_iload_n hX 1 dX4_bestBase_49 rfl rfl ?_
      refine xm_iload hX 4 dX4_bestBase_50 rfl ?_
      refine xm_isub hX dX4_bestBase_52 ?_
      refine xm_goto hX (tgt := 60) dX4_bestBase_53 rfl ?_
      exact tfX4_bestBase_60 hX k28 k38 h28 h38 b1 b2 b3 b5 b6 (b1 - b5) M
def fX4_bestBase_38_it  (k28 : Int32 → Int32 → Int64 → Int32 → xm_M → Option (Int32 × xm_M)) (nq : Nat) : Int32 → Int32 → Int64 → Int32 → Int32 → xm_M → Option (Int32 × xm_M) := xm_it (fun kq => fX4_bestBase_38 k28 kq) (fun _ _ _ _ _ _ => none) nq
theorem tfX4_bestBase_38_it {p : Program} {l : Launch} {e : Env} {s : State} {m : MethodId} {args : Array Value} {below : List Frame} {meth : Method} {c : Code} {D : va_G} {g : xm_G} {A : Nat → Prop} (hX : xm_X p m meth c cX4_bestBase 10 s args wX4_bestBase RX4 (some .int) D mL g A)   (k28 : Int32 → Int32 → Int64 → Int32 → xm_M → Option (Int32 × xm_M)) (h28 : ∀ (b1 : Int32), ∀ (b2 : Int32), ∀ (b3 : Int64), ∀ (b5 : Int32), ∀ (M : xm_M), xm_J p l e ({ frames := 6, cells := 0, slots := 0, locals := 144 }) s m args below meth c 10 D mL g A (xm_Fi g) 28 [(0, .ref (g.1 0)), (1, .int b1), (2, .int b2), (3, .long b3), (5, .int b5)] [] M (k28 b1 b2 b3 b5 M)) : ∀ (nq : Nat), ∀ (b1 : Int32), ∀ (b2 : Int32), ∀ (b3 : Int64), ∀ (b5 : Int32), ∀ (b6 : Int32), ∀ (M : xm_M), xm_J p l e ({ frames := 6, cells := 0, slots := 0, locals := 144 }) s m args below meth c 10 D mL g A (xm_Fi g) 38 [(0, .ref (g.1 0)), (1, .int b1), (2, .int b2), (3, .long b3), (5, .int b5), (6, .int b6)] [] M (fX4_bestBase_38_it k28 nq b1 b2 b3 b5 b6 M) := by
  intro nq
  induction nq with
  | zero => exact fun _ _ _ _ _ _ => xm_none
  | succ nq ih => exact tfX4_bestBase_38 hX k28 _ h28 ih
def fX4_bestBase_28  (k28 : Int32 → Int32 → Int64 → Int32 → xm_M → Option (Int32 × xm_M)) (b1 : Int32) (b2 : Int32) (b3 : Int64) (b5 : Int32) (M : xm_M) : Option (Int32 × xm_M) :=
  if (20 : Int32) < b5 then some (b2, M) else xm_lt ((0 : Int32)) (fun x8 => fX4_bestBase_38_it k28 xm_N b1 b2 b3 b5 x8 M)
set_option maxRecDepth 20000 in
theorem tfX4_bestBase_28 {p : Program} {l : Launch} {e : Env} {s : State} {m : MethodId} {args : Array Value} {below : List Frame} {meth : Method} {c : Code} {D : va_G} {g : xm_G} {A : Nat → Prop} (hX : xm_X p m meth c cX4_bestBase 10 s args wX4_bestBase RX4 (some .int) D mL g A)   (k28 : Int32 → Int32 → Int64 → Int32 → xm_M → Option (Int32 × xm_M)) (h28 : ∀ (b1 : Int32), ∀ (b2 : Int32), ∀ (b3 : Int64), ∀ (b5 : Int32), ∀ (M : xm_M), xm_J p l e ({ frames := 6, cells := 0, slots := 0, locals := 144 }) s m args below meth c 10 D mL g A (xm_Fi g) 28 [(0, .ref (g.1 0)), (1, .int b1), (2, .int b2), (3, .long b3), (5, .int b5)] [] M (k28 b1 b2 b3 b5 M)) : ∀ (b1 : Int32), ∀ (b2 : Int32), ∀ (b3 : Int64), ∀ (b5 : Int32), ∀ (M : xm_M), xm_J p l e ({ frames := 6, cells := 0, slots := 0, locals := 144 }) s m args below meth c 10 D mL g A (xm_Fi g) 28 [(0, .ref (g.1 0)), (1, .int b1), (2, .int b2), (3, .long b3), (5, .int b5)] [] M (fX4_bestBase_28 k28 b1 b2 b3 b5 M) := by
  intro b1 b2 b3 b5 M
  unfold fX4_bestBase_28
  refine xm_iload hX 4 dX4_bestBase_28 rfl ?_
  refine xm_bipush hX (v := 20) rfl dX4_bestBase_30 ?_
  refine xm_icmp_gt hX (tgt := 124) dX4_bestBase_32 rfl ?_ ?_
  · refine xm_iload_n hX 2 dX4_bestBase_124 rfl rfl ?_
    exact xm_iret hX dX4_bestBase_125
  · refine xm_iconst hX (v := 0) rfl dX4_bestBase_35 ?_
    refine xm_nmi (fun x8 => ?_)
    refine xm_istore hX (lv' := [(6, .int x8), (0, .ref (g.1 0)), (1, .int b1), (2, .int b2), (3, .long b3), (5, .int b5)]) dX4_bestBase_36 (by decide) rfl ?_
    refine xm_weak [1, 2, 3, 4, 5, 0] (lv' := [(0, .ref (g.1 0)), (1, .int b1), (2, .int b2), (3, .long b3), (5, .int b5), (6, .int x8)]) rfl ?_
    exact tfX4_bestBase_38_it hX k28 h28 xm_N b1 b2 b3 b5 x8 M
def fX4_bestBase_28_it   (nq : Nat) : Int32 → Int32 → Int64 → Int32 → xm_M → Option (Int32 × xm_M) := xm_it (fun kq => fX4_bestBase_28 kq) (fun _ _ _ _ _ => none) nq
theorem tfX4_bestBase_28_it {p : Program} {l : Launch} {e : Env} {s : State} {m : MethodId} {args : Array Value} {below : List Frame} {meth : Method} {c : Code} {D : va_G} {g : xm_G} {A : Nat → Prop} (hX : xm_X p m meth c cX4_bestBase 10 s args wX4_bestBase RX4 (some .int) D mL g A)     : ∀ (nq : Nat), ∀ (b1 : Int32), ∀ (b2 : Int32), ∀ (b3 : Int64), ∀ (b5 : Int32), ∀ (M : xm_M), xm_J p l e ({ frames := 6, cells := 0, slots := 0, locals := 144 }) s m args below meth c 10 D mL g A (xm_Fi g) 28 [(0, .ref (g.1 0)), (1, .int b1), (2, .int b2), (3, .long b3), (5, .int b5)] [] M (fX4_bestBase_28_it  nq b1 b2 b3 b5 M) := by
  intro nq
  induction nq with
  | zero => exact fun _ _ _ _ _ => xm_none
  | succ nq ih => exact tfX4_bestBase_28 hX _ ih
def fX4_bestBase   (M : xm_M) : Option (Int32 × xm_M) :=
  xm_bi (fX4_sights M) (fun x2 M1 => if x2 = 0 then some ((-6 : Int32), M1) else xm_bi (fX4_setting (2 : Int32) M1) (fun x4 M3 => xm_bl (fX4_errorsWith (2 : Int32) x4 M3) (fun x6 M5 => xm_lt ((1 : Int32)) (fun x7 => fX4_bestBase_28_it xm_N x4 x4 x6 x7 M5))))
set_option maxRecDepth 20000 in
theorem kX4_bestBase {l : Launch}    (M : xm_M) : xm_C l yX4_bestBase wX4_bestBase ({ frames := 6, cells := 0, slots := 0, locals := 144 }) mL (fun g => [.ref (g.1 0)]) M xm_Fi (fX4_bestBase   M) := by
  refine xm_C.of (by decide) rfl (fun g => Nat.le_of_ble_eq_true rfl) ?_
  intro p e s m args below meth c D g A hX
  refine xm_lv (lv' := [(0, .ref (g.1 0))]) rfl ?_
  unfold fX4_bestBase
  refine xm_aload_n hX 0 dX4_bestBase_0 rfl rfl ?_
  refine xm_calli hX (xm_runV hX (k := 0) (ci := 4) (As := (fun g => [])) (kX4_sights M) mL_0 rfl (xm_gV gm_643 gm_644 gm_730 gm_5 gm_645) rfl ⟨rfl, rfl⟩ ⟨rfl, hdX4_sights⟩ ⟨Nat.le_of_ble_eq_true rfl, Nat.le_of_ble_eq_true rfl⟩ rfl (Nat.le_of_ble_eq_true rfl) rfl dX4_bestBase_1) (fun x2 M1 => ?_)
  refine xm_if_ne hX (tgt := 10) dX4_bestBase_4 rfl ?_ ?_
  · refine xm_aload_n hX 0 dX4_bestBase_10 rfl rfl ?_
    refine xm_iconst hX (v := 2) rfl dX4_bestBase_11 ?_
    refine xm_calli hX (xm_runV hX (k := 0) (ci := 4) (As := (fun g => [.int (2 : Int32)])) (kX4_setting (2 : Int32) M1) mL_0 rfl (xm_gV gm_500 gm_501 gm_713 gm_5 gm_502) rfl ⟨rfl, rfl⟩ ⟨rfl, hdX4_setting⟩ ⟨Nat.le_of_ble_eq_true rfl, Nat.le_of_ble_eq_true rfl⟩ rfl (Nat.le_of_ble_eq_true rfl) rfl dX4_bestBase_12) (fun x4 M3 => ?_)
    refine xm_istore_n hX (lv' := [(1, .int x4), (0, .ref (g.1 0))]) dX4_bestBase_15 rfl (by decide) rfl ?_
    refine xm_iload_n hX 0 dX4_bestBase_16 rfl rfl ?_
    refine xm_istore_n hX (lv' := [(2, .int x4), (1, .int x4), (0, .ref (g.1 0))]) dX4_bestBase_17 rfl (by decide) rfl ?_
    refine xm_aload_n hX 2 dX4_bestBase_18 rfl rfl ?_
    refine xm_iconst hX (v := 2) rfl dX4_bestBase_19 ?_
    refine xm_iload_n hX 1 dX4_bestBase_20 rfl rfl ?_
    refine xm_calll hX (xm_runV hX (k := 0) (ci := 4) (As := (fun g => [.int (2 : Int32), .int x4])) (kX4_errorsWith (2 : Int32) x4 M3) mL_0 rfl (xm_gV gm_646 gm_647 gm_731 gm_5 gm_648) rfl ⟨rfl, rfl⟩ ⟨rfl, hdX4_errorsWith⟩ ⟨Nat.le_of_ble_eq_true rfl, Nat.le_of_ble_eq_true rfl⟩ rfl (Nat.le_of_ble_eq_true rfl) rfl dX4_bestBase_21) (fun x6 M5 => ?_)
    refine xm_lstore_n hX (lv' := [(3, .long x6), (2, .int x4), (1, .int x4), (0, .ref (g.1 0))]) dX4_bestBase_24 rfl (by decide) rfl ?_
    refine xm_iconst hX (v := 1) rfl dX4_bestBase_25 ?_
    refine xm_nmi (fun x7 => ?_)
    refine xm_istore hX (lv' := [(5, .int x7), (3, .long x6), (2, .int x4), (1, .int x4), (0, .ref (g.1 0))]) dX4_bestBase_26 (by decide) rfl ?_
    refine xm_weak [4, 3, 2, 1, 0] (lv' := [(0, .ref (g.1 0)), (1, .int x4), (2, .int x4), (3, .long x6), (5, .int x7)]) rfl ?_
    exact tfX4_bestBase_28_it hX xm_N x4 x4 x6 x7 M5
  · refine xm_bipush hX (v := -6) rfl dX4_bestBase_7 ?_
    exact xm_iret hX dX4_bestBase_9
-- ===== OdometryDeskModel.bestTrust()I ['0']
theorem dX4_bestTrust_0 : decode cX4_bestTrust 0 = .ok (.aload_n 0, 1) := by decide +kernel
theorem dX4_bestTrust_1 : decode cX4_bestTrust 1 = .ok (.invokevirtual 204, 3) := by decide +kernel
theorem dX4_bestTrust_4 : decode cX4_bestTrust 4 = .ok (.ifCond .ne 6, 3) := by decide +kernel
theorem dX4_bestTrust_7 : decode cX4_bestTrust 7 = .ok (.bipush (-6), 2) := by decide +kernel
theorem dX4_bestTrust_9 : decode cX4_bestTrust 9 = .ok (.ireturn, 1) := by decide +kernel
theorem dX4_bestTrust_10 : decode cX4_bestTrust 10 = .ok (.iconst 0, 1) := by decide +kernel
theorem dX4_bestTrust_11 : decode cX4_bestTrust 11 = .ok (.istore_n 1, 1) := by decide +kernel
theorem dX4_bestTrust_12 : decode cX4_bestTrust 12 = .ok (.aload_n 0, 1) := by decide +kernel
theorem dX4_bestTrust_13 : decode cX4_bestTrust 13 = .ok (.iconst 4, 1) := by decide +kernel
theorem dX4_bestTrust_14 : decode cX4_bestTrust 14 = .ok (.iconst 0, 1) := by decide +kernel
theorem dX4_bestTrust_15 : decode cX4_bestTrust 15 = .ok (.invokevirtual 207, 3) := by decide +kernel
theorem dX4_bestTrust_18 : decode cX4_bestTrust 18 = .ok (.lstore_n 2, 1) := by decide +kernel
theorem dX4_bestTrust_19 : decode cX4_bestTrust 19 = .ok (.bipush 10, 2) := by decide +kernel
theorem dX4_bestTrust_21 : decode cX4_bestTrust 21 = .ok (.istore 4, 2) := by decide +kernel
theorem dX4_bestTrust_23 : decode cX4_bestTrust 23 = .ok (.iload 4, 2) := by decide +kernel
theorem dX4_bestTrust_25 : decode cX4_bestTrust 25 = .ok (.bipush 100, 2) := by decide +kernel
theorem dX4_bestTrust_27 : decode cX4_bestTrust 27 = .ok (.if_icmp .gt 46, 3) := by decide +kernel
theorem dX4_bestTrust_30 : decode cX4_bestTrust 30 = .ok (.aload_n 0, 1) := by decide +kernel
theorem dX4_bestTrust_31 : decode cX4_bestTrust 31 = .ok (.iconst 4, 1) := by decide +kernel
theorem dX4_bestTrust_32 : decode cX4_bestTrust 32 = .ok (.iload 4, 2) := by decide +kernel
theorem dX4_bestTrust_34 : decode cX4_bestTrust 34 = .ok (.invokevirtual 207, 3) := by decide +kernel
theorem dX4_bestTrust_37 : decode cX4_bestTrust 37 = .ok (.lstore 5, 2) := by decide +kernel
theorem dX4_bestTrust_39 : decode cX4_bestTrust 39 = .ok (.lload 5, 2) := by decide +kernel
theorem dX4_bestTrust_41 : decode cX4_bestTrust 41 = .ok (.lload_n 2, 1) := by decide +kernel
theorem dX4_bestTrust_42 : decode cX4_bestTrust 42 = .ok (.lcmp, 1) := by decide +kernel
theorem dX4_bestTrust_43 : decode cX4_bestTrust 43 = .ok (.ifCond .ge 8, 3) := by decide +kernel
theorem dX4_bestTrust_46 : decode cX4_bestTrust 46 = .ok (.iload 4, 2) := by decide +kernel
theorem dX4_bestTrust_48 : decode cX4_bestTrust 48 = .ok (.goto 4, 3) := by decide +kernel
theorem dX4_bestTrust_51 : decode cX4_bestTrust 51 = .ok (.iload_n 1, 1) := by decide +kernel
theorem dX4_bestTrust_52 : decode cX4_bestTrust 52 = .ok (.istore_n 1, 1) := by decide +kernel
theorem dX4_bestTrust_53 : decode cX4_bestTrust 53 = .ok (.lload 5, 2) := by decide +kernel
theorem dX4_bestTrust_55 : decode cX4_bestTrust 55 = .ok (.lload_n 2, 1) := by decide +kernel
theorem dX4_bestTrust_56 : decode cX4_bestTrust 56 = .ok (.lcmp, 1) := by decide +kernel
theorem dX4_bestTrust_57 : decode cX4_bestTrust 57 = .ok (.ifCond .ge 8, 3) := by decide +kernel
theorem dX4_bestTrust_60 : decode cX4_bestTrust 60 = .ok (.lload 5, 2) := by decide +kernel
theorem dX4_bestTrust_62 : decode cX4_bestTrust 62 = .ok (.goto 4, 3) := by decide +kernel
theorem dX4_bestTrust_65 : decode cX4_bestTrust 65 = .ok (.lload_n 2, 1) := by decide +kernel
theorem dX4_bestTrust_66 : decode cX4_bestTrust 66 = .ok (.lstore_n 2, 1) := by decide +kernel
theorem dX4_bestTrust_67 : decode cX4_bestTrust 67 = .ok (.iinc 4 10, 3) := by decide +kernel
theorem dX4_bestTrust_70 : decode cX4_bestTrust 70 = .ok (.goto (-47), 3) := by decide +kernel
theorem dX4_bestTrust_73 : decode cX4_bestTrust 73 = .ok (.iload_n 1, 1) := by decide +kernel
theorem dX4_bestTrust_74 : decode cX4_bestTrust 74 = .ok (.ireturn, 1) := by decide +kernel
abbrev wX4_bestTrust : List Cond := .code yX4_bestTrust cX4_bestTrust 7 (some .int) :: lw_gd
theorem hdX4_bestTrust : (yX4_bestTrust.cls ≠ "java/lang/invoke/MethodHandle" ∧ yX4_bestTrust.cls ≠ "java/lang/invoke/VarHandle" ∧ (parseMethodDescriptor yX4_bestTrust.desc).map (fun d => d.parameters.length) = some 0) := by decide +kernel
def fX4_bestTrust_66  (k23 : Int32 → Int64 → Int32 → xm_M → Option (Int32 × xm_M)) (b1 : Int32) (b4 : Int32) (s0 : Int64) (M : xm_M) : Option (Int32 × xm_M) :=
  xm_lt (b4 + Int32.ofInt 10) (fun x9 => k23 b1 s0 x9 M)
set_option maxRecDepth 20000 in
theorem tfX4_bestTrust_66 {p : Program} {l : Launch} {e : Env} {s : State} {m : MethodId} {args : Array Value} {below : List Frame} {meth : Method} {c : Code} {D : va_G} {g : xm_G} {A : Nat → Prop} (hX : xm_X p m meth c cX4_bestTrust 7 s args wX4_bestTrust RX4 (some .int) D mL g A)   (k23 : Int32 → Int64 → Int32 → xm_M → Option (Int32 × xm_M)) (h23 : ∀ (b1 : Int32), ∀ (b2 : Int64), ∀ (b4 : Int32), ∀ (M : xm_M), xm_J p l e ({ frames := 6, cells := 0, slots := 0, locals := 144 }) s m args below meth c 7 D mL g A (xm_Fi g) 23 [(0, .ref (g.1 0)), (1, .int b1), (2, .long b2), (4, .int b4)] [] M (k23 b1 b2 b4 M)) : ∀ (b1 : Int32), ∀ (b4 : Int32), ∀ (s0 : Int64), ∀ (M : xm_M), xm_J p l e ({ frames := 6, cells := 0, slots := 0, locals := 144 }) s m args below meth c 7 D mL g A (xm_Fi g) 66 [(0, .ref (g.1 0)), (1, .int b1), (4, .int b4)] [.long s0] M (fX4_bestTrust_66 k23 b1 b4 s0 M) := by
  intro b1 b4 s0 M
  unfold fX4_bestTrust_66
  refine xm_lstore_n hX (lv' := [(2, .long s0), (0, .ref (g.1 0)), (1, .int b1), (4, .int b4)]) dX4_bestTrust_66 rfl (by decide) rfl ?_
  refine xm_iinc hX (lv2 := fun x9 => [(4, .int x9), (2, .long s0), (0, .ref (g.1 0)), (1, .int b1)]) 3 dX4_bestTrust_67 rfl (by decide) (fun _ => rfl) (fun x9 => ?_)
  refine xm_goto hX (tgt := 23) dX4_bestTrust_70 rfl ?_
  refine xm_weak [2, 3, 1, 0] (lv' := [(0, .ref (g.1 0)), (1, .int b1), (2, .long s0), (4, .int x9)]) rfl ?_
  exact h23 b1 s0 x9 M
def fX4_bestTrust_52  (k23 : Int32 → Int64 → Int32 → xm_M → Option (Int32 × xm_M)) (b2 : Int64) (b4 : Int32) (b5 : Int64) (s0 : Int32) (M : xm_M) : Option (Int32 × xm_M) :=
  if 0 ≤ (lg_cmp b5 b2) then fX4_bestTrust_66 k23 s0 b4 b2 M else fX4_bestTrust_66 k23 s0 b4 b5 M
set_option maxRecDepth 20000 in
theorem tfX4_bestTrust_52 {p : Program} {l : Launch} {e : Env} {s : State} {m : MethodId} {args : Array Value} {below : List Frame} {meth : Method} {c : Code} {D : va_G} {g : xm_G} {A : Nat → Prop} (hX : xm_X p m meth c cX4_bestTrust 7 s args wX4_bestTrust RX4 (some .int) D mL g A)   (k23 : Int32 → Int64 → Int32 → xm_M → Option (Int32 × xm_M)) (h23 : ∀ (b1 : Int32), ∀ (b2 : Int64), ∀ (b4 : Int32), ∀ (M : xm_M), xm_J p l e ({ frames := 6, cells := 0, slots := 0, locals := 144 }) s m args below meth c 7 D mL g A (xm_Fi g) 23 [(0, .ref (g.1 0)), (1, .int b1), (2, .long b2), (4, .int b4)] [] M (k23 b1 b2 b4 M)) : ∀ (b2 : Int64), ∀ (b4 : Int32), ∀ (b5 : Int64), ∀ (s0 : Int32), ∀ (M : xm_M), xm_J p l e ({ frames := 6, cells := 0, slots := 0, locals := 144 }) s m args below meth c 7 D mL g A (xm_Fi g) 52 [(0, .ref (g.1 0)), (2, .long b2), (4, .int b4), (5, .long b5)] [.int s0] M (fX4_bestTrust_52 k23 b2 b4 b5 s0 M) := by
  intro b2 b4 b5 s0 M
  unfold fX4_bestTrust_52
  refine xm_istore_n hX (lv' := [(1, .int s0), (0, .ref (g.1 0)), (2, .long b2), (4, .int b4), (5, .long b5)]) dX4_bestTrust_52 rfl (by decide) rfl ?_
  refine xm_lload hX 4 dX4_bestTrust_53 rfl ?_
  refine xm_lload_n hX 2 dX4_bestTrust_55 rfl rfl ?_
  refine xm_lcmp hX dX4_bestTrust_56 ?_
  refine xm_if_ge hX (tgt := 65) dX4_bestTrust_57 rfl ?_ ?_
  · refine xm_lload_n hX 2 dX4_bestTrust_65 rfl rfl ?_
    refine xm_weak [1, 0, 3] (lv' := [(0, .ref (g.1 0)), (1, .int s0), (4, .int b4)]) rfl ?_
    exact tfX4_bestTrust_66 hX k23 h23 s0 b4 b2 M
  · refine xm_lload hX 4 dX4_bestTrust_60 rfl ?_
    refine xm_goto hX (tgt := 66) dX4_bestTrust_62 rfl ?_
    refine xm_weak [1, 0, 3] (lv' := [(0, .ref (g.1 0)), (1, .int s0), (4, .int b4)]) rfl ?_
    exact tfX4_bestTrust_66 hX k23 h23 s0 b4 b5 M
def fX4_bestTrust_23  (k23 : Int32 → Int64 → Int32 → xm_M → Option (Int32 × xm_M)) (b1 : Int32) (b2 : Int64) (b4 : Int32) (M : xm_M) : Option (Int32 × xm_M) :=
  if (100 : Int32) < b4 then some (b1, M) else xm_bl (fX4_errorsWith (4 : Int32) b4 M) (fun x8 M7 => if 0 ≤ (lg_cmp x8 b2) then fX4_bestTrust_52 k23 b2 b4 x8 b1 M7 else fX4_bestTrust_52 k23 b2 b4 x8 b4 M7)
set_option maxRecDepth 20000 in
theorem tfX4_bestTrust_23 {p : Program} {l : Launch} {e : Env} {s : State} {m : MethodId} {args : Array Value} {below : List Frame} {meth : Method} {c : Code} {D : va_G} {g : xm_G} {A : Nat → Prop} (hX : xm_X p m meth c cX4_bestTrust 7 s args wX4_bestTrust RX4 (some .int) D mL g A)   (k23 : Int32 → Int64 → Int32 → xm_M → Option (Int32 × xm_M)) (h23 : ∀ (b1 : Int32), ∀ (b2 : Int64), ∀ (b4 : Int32), ∀ (M : xm_M), xm_J p l e ({ frames := 6, cells := 0, slots := 0, locals := 144 }) s m args below meth c 7 D mL g A (xm_Fi g) 23 [(0, .ref (g.1 0)), (1, .int b1), (2, .long b2), (4, .int b4)] [] M (k23 b1 b2 b4 M)) : ∀ (b1 : Int32), ∀ (b2 : Int64), ∀ (b4 : Int32), ∀ (M : xm_M), xm_J p l e ({ frames := 6, cells := 0, slots := 0, locals := 144 }) s m args below meth c 7 D mL g A (xm_Fi g) 23 [(0, .ref (g.1 0)), (1, .int b1), (2, .long b2), (4, .int b4)] [] M (fX4_bestTrust_23 k23 b1 b2 b4 M) := by
  intro b1 b2 b4 M
  unfold fX4_bestTrust_23
  refine xm_iload hX 3 dX4_bestTrust_23 rfl ?_
  refine xm_bipush hX (v := 100) rfl dX4_bestTrust_25 ?_
  refine xm_icmp_gt hX (tgt := 73) dX4_bestTrust_27 rfl ?_ ?_
  · refine xm_iload_n hX 1 dX4_bestTrust_73 rfl rfl ?_
    exact xm_iret hX dX4_bestTrust_74
  · refine xm_aload_n hX 0 dX4_bestTrust_30 rfl rfl ?_
    refine xm_iconst hX (v := 4) rfl dX4_bestTrust_31 ?_
    refine xm_iload hX 3 dX4_bestTrust_32 rfl ?_
    refine xm_calll hX (xm_runV hX (k := 0) (ci := 4) (As := (fun g => [.int (4 : Int32), .int b4])) (kX4_errorsWith (4 : Int32) b4 M) mL_0 rfl (xm_gV gm_646 gm_647 gm_731 gm_5 gm_648) rfl ⟨rfl, rfl⟩ ⟨rfl, hdX4_errorsWith⟩ ⟨Nat.le_of_ble_eq_true rfl, Nat.le_of_ble_eq_true rfl⟩ rfl (Nat.le_of_ble_eq_true rfl) rfl dX4_bestTrust_34) (fun x8 M7 => ?_)
    refine xm_lstore hX (lv' := [(5, .long x8), (0, .ref (g.1 0)), (1, .int b1), (2, .long b2), (4, .int b4)]) dX4_bestTrust_37 (by decide) rfl ?_
    refine xm_lload hX 0 dX4_bestTrust_39 rfl ?_
    refine xm_lload_n hX 3 dX4_bestTrust_41 rfl rfl ?_
    refine xm_lcmp hX dX4_bestTrust_42 ?_
    refine xm_if_ge hX (tgt := 51) dX4_bestTrust_43 rfl ?_ ?_
    · refine xm_iload_n hX 2 dX4_bestTrust_51 rfl rfl ?_
      refine xm_weak [1, 3, 4, 0] (lv' := [(0, .ref (g.1 0)), (2, .long b2), (4, .int b4), (5, .long x8)]) rfl ?_
      exact tfX4_bestTrust_52 hX k23 h23 b2 b4 x8 b1 M7
    · refine xm_iload hX 4 dX4_bestTrust_46 rfl ?_
      refine xm_goto hX (tgt := 52) dX4_bestTrust_48 rfl ?_
      refine xm_weak [1, 3, 4, 0] (lv' := [(0, .ref (g.1 0)), (2, .long b2), (4, .int b4), (5, .long x8)]) rfl ?_
      exact tfX4_bestTrust_52 hX k23 h23 b2 b4 x8 b4 M7
def fX4_bestTrust_23_it   (nq : Nat) : Int32 → Int64 → Int32 → xm_M → Option (Int32 × xm_M) := xm_it (fun kq => fX4_bestTrust_23 kq) (fun _ _ _ _ => none) nq
theorem tfX4_bestTrust_23_it {p : Program} {l : Launch} {e : Env} {s : State} {m : MethodId} {args : Array Value} {below : List Frame} {meth : Method} {c : Code} {D : va_G} {g : xm_G} {A : Nat → Prop} (hX : xm_X p m meth c cX4_bestTrust 7 s args wX4_bestTrust RX4 (some .int) D mL g A)     : ∀ (nq : Nat), ∀ (b1 : Int32), ∀ (b2 : Int64), ∀ (b4 : Int32), ∀ (M : xm_M), xm_J p l e ({ frames := 6, cells := 0, slots := 0, locals := 144 }) s m args below meth c 7 D mL g A (xm_Fi g) 23 [(0, .ref (g.1 0)), (1, .int b1), (2, .long b2), (4, .int b4)] [] M (fX4_bestTrust_23_it  nq b1 b2 b4 M) := by
  intro nq
  induction nq with
  | zero => exact fun _ _ _ _ => xm_none
  | succ nq ih => exact tfX4_bestTrust_23 hX _ ih
def fX4_bestTrust   (M : xm_M) : Option (Int32 × xm_M) :=
  xm_bi (fX4_sights M) (fun x2 M1 => if x2 = 0 then some ((-6 : Int32), M1) else xm_lt ((0 : Int32)) (fun x3 => xm_bl (fX4_errorsWith (4 : Int32) (0 : Int32) M1) (fun x5 M4 => xm_lt ((10 : Int32)) (fun x6 => fX4_bestTrust_23_it xm_N x3 x5 x6 M4))))
set_option maxRecDepth 20000 in
theorem kX4_bestTrust {l : Launch}    (M : xm_M) : xm_C l yX4_bestTrust wX4_bestTrust ({ frames := 6, cells := 0, slots := 0, locals := 144 }) mL (fun g => [.ref (g.1 0)]) M xm_Fi (fX4_bestTrust   M) := by
  refine xm_C.of (by decide) rfl (fun g => Nat.le_of_ble_eq_true rfl) ?_
  intro p e s m args below meth c D g A hX
  refine xm_lv (lv' := [(0, .ref (g.1 0))]) rfl ?_
  unfold fX4_bestTrust
  refine xm_aload_n hX 0 dX4_bestTrust_0 rfl rfl ?_
  refine xm_calli hX (xm_runV hX (k := 0) (ci := 4) (As := (fun g => [])) (kX4_sights M) mL_0 rfl (xm_gV gm_643 gm_644 gm_730 gm_5 gm_645) rfl ⟨rfl, rfl⟩ ⟨rfl, hdX4_sights⟩ ⟨Nat.le_of_ble_eq_true rfl, Nat.le_of_ble_eq_true rfl⟩ rfl (Nat.le_of_ble_eq_true rfl) rfl dX4_bestTrust_1) (fun x2 M1 => ?_)
  refine xm_if_ne hX (tgt := 10) dX4_bestTrust_4 rfl ?_ ?_
  · refine xm_iconst hX (v := 0) rfl dX4_bestTrust_10 ?_
    refine xm_nmi (fun x3 => ?_)
    refine xm_istore_n hX (lv' := [(1, .int x3), (0, .ref (g.1 0))]) dX4_bestTrust_11 rfl (by decide) rfl ?_
    refine xm_aload_n hX 1 dX4_bestTrust_12 rfl rfl ?_
    refine xm_iconst hX (v := 4) rfl dX4_bestTrust_13 ?_
    refine xm_iconst hX (v := 0) rfl dX4_bestTrust_14 ?_
    refine xm_calll hX (xm_runV hX (k := 0) (ci := 4) (As := (fun g => [.int (4 : Int32), .int (0 : Int32)])) (kX4_errorsWith (4 : Int32) (0 : Int32) M1) mL_0 rfl (xm_gV gm_646 gm_647 gm_731 gm_5 gm_648) rfl ⟨rfl, rfl⟩ ⟨rfl, hdX4_errorsWith⟩ ⟨Nat.le_of_ble_eq_true rfl, Nat.le_of_ble_eq_true rfl⟩ rfl (Nat.le_of_ble_eq_true rfl) rfl dX4_bestTrust_15) (fun x5 M4 => ?_)
    refine xm_lstore_n hX (lv' := [(2, .long x5), (1, .int x3), (0, .ref (g.1 0))]) dX4_bestTrust_18 rfl (by decide) rfl ?_
    refine xm_bipush hX (v := 10) rfl dX4_bestTrust_19 ?_
    refine xm_nmi (fun x6 => ?_)
    refine xm_istore hX (lv' := [(4, .int x6), (2, .long x5), (1, .int x3), (0, .ref (g.1 0))]) dX4_bestTrust_21 (by decide) rfl ?_
    refine xm_weak [3, 2, 1, 0] (lv' := [(0, .ref (g.1 0)), (1, .int x3), (2, .long x5), (4, .int x6)]) rfl ?_
    exact tfX4_bestTrust_23_it hX xm_N x3 x5 x6 M4
  · refine xm_bipush hX (v := -6) rfl dX4_bestTrust_7 ?_
    exact xm_iret hX dX4_bestTrust_9
