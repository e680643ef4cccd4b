-- ===== OdometryDeskModel.closeCorridor()I ['0']
theorem dX4_closeCorridor_0 : decode cX4_closeCorridor 0 = .ok (.aload_n 0, 1) := by decide +kernel
theorem dX4_closeCorridor_1 : decode cX4_closeCorridor 1 = .ok (.getfield 7, 3) := by decide +kernel
theorem dX4_closeCorridor_4 : decode cX4_closeCorridor 4 = .ok (.bipush 9, 2) := by decide +kernel
theorem dX4_closeCorridor_6 : decode cX4_closeCorridor 6 = .ok (.iaload, 1) := by decide +kernel
theorem dX4_closeCorridor_7 : decode cX4_closeCorridor 7 = .ok (.ifCond .ne 6, 3) := by decide +kernel
theorem dX4_closeCorridor_10 : decode cX4_closeCorridor 10 = .ok (.bipush (-5), 2) := by decide +kernel
theorem dX4_closeCorridor_12 : decode cX4_closeCorridor 12 = .ok (.ireturn, 1) := by decide +kernel
theorem dX4_closeCorridor_13 : decode cX4_closeCorridor 13 = .ok (.aload_n 0, 1) := by decide +kernel
theorem dX4_closeCorridor_14 : decode cX4_closeCorridor 14 = .ok (.getfield 7, 3) := by decide +kernel
theorem dX4_closeCorridor_17 : decode cX4_closeCorridor 17 = .ok (.bipush 9, 2) := by decide +kernel
theorem dX4_closeCorridor_19 : decode cX4_closeCorridor 19 = .ok (.dup2, 1) := by decide +kernel
theorem dX4_closeCorridor_20 : decode cX4_closeCorridor 20 = .ok (.iaload, 1) := by decide +kernel
theorem dX4_closeCorridor_21 : decode cX4_closeCorridor 21 = .ok (.iconst 1, 1) := by decide +kernel
theorem dX4_closeCorridor_22 : decode cX4_closeCorridor 22 = .ok (.isub, 1) := by decide +kernel
theorem dX4_closeCorridor_23 : decode cX4_closeCorridor 23 = .ok (.iastore, 1) := by decide +kernel
theorem dX4_closeCorridor_24 : decode cX4_closeCorridor 24 = .ok (.aload_n 0, 1) := by decide +kernel
theorem dX4_closeCorridor_25 : decode cX4_closeCorridor 25 = .ok (.getfield 7, 3) := by decide +kernel
theorem dX4_closeCorridor_28 : decode cX4_closeCorridor 28 = .ok (.bipush 9, 2) := by decide +kernel
theorem dX4_closeCorridor_30 : decode cX4_closeCorridor 30 = .ok (.iaload, 1) := by decide +kernel
theorem dX4_closeCorridor_31 : decode cX4_closeCorridor 31 = .ok (.ireturn, 1) := by decide +kernel
abbrev wX4_closeCorridor : List Cond := .code yX4_closeCorridor cX4_closeCorridor 1 (some .int) :: lw_gd
theorem hdX4_closeCorridor : (yX4_closeCorridor.cls ≠ "java/lang/invoke/MethodHandle" ∧ yX4_closeCorridor.cls ≠ "java/lang/invoke/VarHandle" ∧ (parseMethodDescriptor yX4_closeCorridor.desc).map (fun d => d.parameters.length) = some 0) := by decide +kernel
def fX4_closeCorridor   (M : xm_M) : Option (Int32 × xm_M) :=
  if (M.1 1 9) = 0 then some ((-5 : Int32), M) else xm_lt (xm_s M 1 9 ((M.1 1 9) - (1 : Int32))) (fun M1 => some (M1.1 1 9, M1))
set_option maxRecDepth 20000 in
theorem kX4_closeCorridor {l : Launch}    (M : xm_M) : xm_C l yX4_closeCorridor wX4_closeCorridor ({ frames := 0, cells := 0, slots := 0, locals := 0 }) mL (fun g => [.ref (g.1 0)]) M xm_Fi (fX4_closeCorridor   M) := by
  refine xm_C.of (by decide) rfl (fun g => Nat.le_of_ble_eq_true rfl) ?_
  intro p e s m args below meth c D g A hX
  refine xm_lv (lv' := [(0, .ref (g.1 0))]) rfl ?_
  unfold fX4_closeCorridor
  refine xm_aload_n hX 0 dX4_closeCorridor_0 rfl rfl ?_
  refine xm_get hX (k := 0) (ci := 4) (j := 0) (C := RX4) (T := TX4) (N := 27) (v := .ref (g.1 1)) mL_0 rfl rfl rfl (by decide) (fun z hz => List.mem_cons_of_mem _ (iw_X4 z hz)) (List.mem_cons_of_mem _ gm_433) dX4_closeCorridor_1 ?_
  refine xm_bipush hX (v := 9) rfl dX4_closeCorridor_4 ?_
  refine xm_ialdL hX (n := 547) (j := 9) mL_1 (by decide) rfl dX4_closeCorridor_6 ?_
  refine xm_if_ne hX (tgt := 13) dX4_closeCorridor_7 rfl ?_ ?_
  · refine xm_aload_n hX 0 dX4_closeCorridor_13 rfl rfl ?_
    refine xm_get hX (k := 0) (ci := 4) (j := 0) (C := RX4) (T := TX4) (N := 27) (v := .ref (g.1 1)) mL_0 rfl rfl rfl (by decide) (fun z hz => List.mem_cons_of_mem _ (iw_X4 z hz)) (List.mem_cons_of_mem _ gm_433) dX4_closeCorridor_14 ?_
    refine xm_bipush hX (v := 9) rfl dX4_closeCorridor_17 ?_
    refine xm_dup2_11 hX rfl rfl dX4_closeCorridor_19 ?_
    refine xm_ialdL hX (n := 547) (j := 9) mL_1 (by decide) rfl dX4_closeCorridor_20 ?_
    refine xm_iconst hX (v := 1) rfl dX4_closeCorridor_21 ?_
    refine xm_isub hX dX4_closeCorridor_22 ?_
    refine xm_iastL hX (n := 547) (j := 9) mL_1 (by decide) rfl dX4_closeCorridor_23 (fun M1 => ?_)
    refine xm_aload_n hX 0 dX4_closeCorridor_24 rfl rfl ?_
    refine xm_get hX (k := 0) (ci := 4) (j := 0) (C := RX4) (T := TX4) (N := 27) (v := .ref (g.1 1)) mL_0 rfl rfl rfl (by decide) (fun z hz => List.mem_cons_of_mem _ (iw_X4 z hz)) (List.mem_cons_of_mem _ gm_433) dX4_closeCorridor_25 ?_
    refine xm_bipush hX (v := 9) rfl dX4_closeCorridor_28 ?_
    refine xm_ialdL hX (n := 547) (j := 9) mL_1 (by decide) rfl dX4_closeCorridor_30 ?_
    exact xm_iret hX dX4_closeCorridor_31
  · refine xm_bipush hX (v := -5) rfl dX4_closeCorridor_10 ?_
    exact xm_iret hX dX4_closeCorridor_12
-- ===== OdometryDeskModel.corridor(IIIII)I ['0']
theorem dX4_corridor_0 : decode cX4_corridor 0 = .ok (.iload_n 1, 1) := by decide +kernel
theorem dX4_corridor_1 : decode cX4_corridor 1 = .ok (.invokestatic 81, 3) := by decide +kernel
theorem dX4_corridor_4 : decode cX4_corridor 4 = .ok (.ifCond .eq 37, 3) := by decide +kernel
theorem dX4_corridor_7 : decode cX4_corridor 7 = .ok (.iload_n 2, 1) := by decide +kernel
theorem dX4_corridor_8 : decode cX4_corridor 8 = .ok (.invokestatic 81, 3) := by decide +kernel
theorem dX4_corridor_11 : decode cX4_corridor 11 = .ok (.ifCond .eq 30, 3) := by decide +kernel
theorem dX4_corridor_14 : decode cX4_corridor 14 = .ok (.iload_n 3, 1) := by decide +kernel
theorem dX4_corridor_15 : decode cX4_corridor 15 = .ok (.invokestatic 81, 3) := by decide +kernel
theorem dX4_corridor_18 : decode cX4_corridor 18 = .ok (.ifCond .eq 23, 3) := by decide +kernel
theorem dX4_corridor_21 : decode cX4_corridor 21 = .ok (.iload 4, 2) := by decide +kernel
theorem dX4_corridor_23 : decode cX4_corridor 23 = .ok (.invokestatic 81, 3) := by decide +kernel
theorem dX4_corridor_26 : decode cX4_corridor 26 = .ok (.ifCond .eq 15, 3) := by decide +kernel
theorem dX4_corridor_29 : decode cX4_corridor 29 = .ok (.iload 5, 2) := by decide +kernel
theorem dX4_corridor_31 : decode cX4_corridor 31 = .ok (.iconst 0, 1) := by decide +kernel
theorem dX4_corridor_32 : decode cX4_corridor 32 = .ok (.sipush 17999, 3) := by decide +kernel
theorem dX4_corridor_35 : decode cX4_corridor 35 = .ok (.invokestatic 67, 3) := by decide +kernel
theorem dX4_corridor_38 : decode cX4_corridor 38 = .ok (.ifCond .ne 6, 3) := by decide +kernel
theorem dX4_corridor_41 : decode cX4_corridor 41 = .ok (.bipush (-2), 2) := by decide +kernel
theorem dX4_corridor_43 : decode cX4_corridor 43 = .ok (.ireturn, 1) := by decide +kernel
theorem dX4_corridor_44 : decode cX4_corridor 44 = .ok (.aload_n 0, 1) := by decide +kernel
theorem dX4_corridor_45 : decode cX4_corridor 45 = .ok (.getfield 7, 3) := by decide +kernel
theorem dX4_corridor_48 : decode cX4_corridor 48 = .ok (.bipush 9, 2) := by decide +kernel
theorem dX4_corridor_50 : decode cX4_corridor 50 = .ok (.iaload, 1) := by decide +kernel
theorem dX4_corridor_51 : decode cX4_corridor 51 = .ok (.bipush 8, 2) := by decide +kernel
theorem dX4_corridor_53 : decode cX4_corridor 53 = .ok (.if_icmp .ne 6, 3) := by decide +kernel
theorem dX4_corridor_56 : decode cX4_corridor 56 = .ok (.bipush (-4), 2) := by decide +kernel
theorem dX4_corridor_58 : decode cX4_corridor 58 = .ok (.ireturn, 1) := by decide +kernel
theorem dX4_corridor_59 : decode cX4_corridor 59 = .ok (.bipush 15, 2) := by decide +kernel
theorem dX4_corridor_61 : decode cX4_corridor 61 = .ok (.iconst 5, 1) := by decide +kernel
theorem dX4_corridor_62 : decode cX4_corridor 62 = .ok (.aload_n 0, 1) := by decide +kernel
theorem dX4_corridor_63 : decode cX4_corridor 63 = .ok (.getfield 7, 3) := by decide +kernel
theorem dX4_corridor_66 : decode cX4_corridor 66 = .ok (.bipush 9, 2) := by decide +kernel
theorem dX4_corridor_68 : decode cX4_corridor 68 = .ok (.iaload, 1) := by decide +kernel
theorem dX4_corridor_69 : decode cX4_corridor 69 = .ok (.imul, 1) := by decide +kernel
theorem dX4_corridor_70 : decode cX4_corridor 70 = .ok (.iadd, 1) := by decide +kernel
theorem dX4_corridor_71 : decode cX4_corridor 71 = .ok (.istore 6, 2) := by decide +kernel
theorem dX4_corridor_73 : decode cX4_corridor 73 = .ok (.aload_n 0, 1) := by decide +kernel
theorem dX4_corridor_74 : decode cX4_corridor 74 = .ok (.getfield 7, 3) := by decide +kernel
theorem dX4_corridor_77 : decode cX4_corridor 77 = .ok (.iload 6, 2) := by decide +kernel
theorem dX4_corridor_79 : decode cX4_corridor 79 = .ok (.iload_n 1, 1) := by decide +kernel
theorem dX4_corridor_80 : decode cX4_corridor 80 = .ok (.iload_n 3, 1) := by decide +kernel
theorem dX4_corridor_81 : decode cX4_corridor 81 = .ok (.if_icmp .ge 7, 3) := by decide +kernel
theorem dX4_corridor_84 : decode cX4_corridor 84 = .ok (.iload_n 1, 1) := by decide +kernel
theorem dX4_corridor_85 : decode cX4_corridor 85 = .ok (.goto 4, 3) := by decide +kernel
theorem dX4_corridor_88 : decode cX4_corridor 88 = .ok (.iload_n 3, 1) := by decide +kernel
theorem dX4_corridor_89 : decode cX4_corridor 89 = .ok (.iastore, 1) := by decide +kernel
theorem dX4_corridor_90 : decode cX4_corridor 90 = .ok (.aload_n 0, 1) := by decide +kernel
theorem dX4_corridor_91 : decode cX4_corridor 91 = .ok (.getfield 7, 3) := by decide +kernel
theorem dX4_corridor_94 : decode cX4_corridor 94 = .ok (.iload 6, 2) := by decide +kernel
theorem dX4_corridor_96 : decode cX4_corridor 96 = .ok (.iconst 1, 1) := by decide +kernel
theorem dX4_corridor_97 : decode cX4_corridor 97 = .ok (.iadd, 1) := by decide +kernel
theorem dX4_corridor_98 : decode cX4_corridor 98 = .ok (.iload_n 1, 1) := by decide +kernel
theorem dX4_corridor_99 : decode cX4_corridor 99 = .ok (.iload_n 3, 1) := by decide +kernel
theorem dX4_corridor_100 : decode cX4_corridor 100 = .ok (.if_icmp .ge 7, 3) := by decide +kernel
theorem dX4_corridor_103 : decode cX4_corridor 103 = .ok (.iload_n 3, 1) := by decide +kernel
theorem dX4_corridor_104 : decode cX4_corridor 104 = .ok (.goto 4, 3) := by decide +kernel
theorem dX4_corridor_107 : decode cX4_corridor 107 = .ok (.iload_n 1, 1) := by decide +kernel
theorem dX4_corridor_108 : decode cX4_corridor 108 = .ok (.iastore, 1) := by decide +kernel
theorem dX4_corridor_109 : decode cX4_corridor 109 = .ok (.aload_n 0, 1) := by decide +kernel
theorem dX4_corridor_110 : decode cX4_corridor 110 = .ok (.getfield 7, 3) := by decide +kernel
theorem dX4_corridor_113 : decode cX4_corridor 113 = .ok (.iload 6, 2) := by decide +kernel
theorem dX4_corridor_115 : decode cX4_corridor 115 = .ok (.iconst 2, 1) := by decide +kernel
theorem dX4_corridor_116 : decode cX4_corridor 116 = .ok (.iadd, 1) := by decide +kernel
theorem dX4_corridor_117 : decode cX4_corridor 117 = .ok (.iload_n 2, 1) := by decide +kernel
theorem dX4_corridor_118 : decode cX4_corridor 118 = .ok (.iload 4, 2) := by decide +kernel
theorem dX4_corridor_120 : decode cX4_corridor 120 = .ok (.if_icmp .ge 7, 3) := by decide +kernel
theorem dX4_corridor_123 : decode cX4_corridor 123 = .ok (.iload_n 2, 1) := by decide +kernel
theorem dX4_corridor_124 : decode cX4_corridor 124 = .ok (.goto 5, 3) := by decide +kernel
theorem dX4_corridor_127 : decode cX4_corridor 127 = .ok (.iload 4, 2) := by decide +kernel
theorem dX4_corridor_129 : decode cX4_corridor 129 = .ok (.iastore, 1) := by decide +kernel
theorem dX4_corridor_130 : decode cX4_corridor 130 = .ok (.aload_n 0, 1) := by decide +kernel
theorem dX4_corridor_131 : decode cX4_corridor 131 = .ok (.getfield 7, 3) := by decide +kernel
theorem dX4_corridor_134 : decode cX4_corridor 134 = .ok (.iload 6, 2) := by decide +kernel
theorem dX4_corridor_136 : decode cX4_corridor 136 = .ok (.iconst 3, 1) := by decide +kernel
theorem dX4_corridor_137 : decode cX4_corridor 137 = .ok (.iadd, 1) := by decide +kernel
theorem dX4_corridor_138 : decode cX4_corridor 138 = .ok (.iload_n 2, 1) := by decide +kernel
theorem dX4_corridor_139 : decode cX4_corridor 139 = .ok (.iload 4, 2) := by decide +kernel
theorem dX4_corridor_141 : decode cX4_corridor 141 = .ok (.if_icmp .ge 8, 3) := by decide +kernel
theorem dX4_corridor_144 : decode cX4_corridor 144 = .ok (.iload 4, 2) := by decide +kernel
theorem dX4_corridor_146 : decode cX4_corridor 146 = .ok (.goto 4, 3) := by decide +kernel
theorem dX4_corridor_149 : decode cX4_corridor 149 = .ok (.iload_n 2, 1) := by decide +kernel
theorem dX4_corridor_150 : decode cX4_corridor 150 = .ok (.iastore, 1) := by decide +kernel
theorem dX4_corridor_151 : decode cX4_corridor 151 = .ok (.aload_n 0, 1) := by decide +kernel
theorem dX4_corridor_152 : decode cX4_corridor 152 = .ok (.getfield 7, 3) := by decide +kernel
theorem dX4_corridor_155 : decode cX4_corridor 155 = .ok (.iload 6, 2) := by decide +kernel
theorem dX4_corridor_157 : decode cX4_corridor 157 = .ok (.iconst 4, 1) := by decide +kernel
theorem dX4_corridor_158 : decode cX4_corridor 158 = .ok (.iadd, 1) := by decide +kernel
theorem dX4_corridor_159 : decode cX4_corridor 159 = .ok (.iload 5, 2) := by decide +kernel
theorem dX4_corridor_161 : decode cX4_corridor 161 = .ok (.iastore, 1) := by decide +kernel
theorem dX4_corridor_162 : decode cX4_corridor 162 = .ok (.aload_n 0, 1) := by decide +kernel
theorem dX4_corridor_163 : decode cX4_corridor 163 = .ok (.getfield 7, 3) := by decide +kernel
theorem dX4_corridor_166 : decode cX4_corridor 166 = .ok (.bipush 9, 2) := by decide +kernel
theorem dX4_corridor_168 : decode cX4_corridor 168 = .ok (.dup2, 1) := by decide +kernel
theorem dX4_corridor_169 : decode cX4_corridor 169 = .ok (.iaload, 1) := by decide +kernel
theorem dX4_corridor_170 : decode cX4_corridor 170 = .ok (.iconst 1, 1) := by decide +kernel
theorem dX4_corridor_171 : decode cX4_corridor 171 = .ok (.iadd, 1) := by decide +kernel
theorem dX4_corridor_172 : decode cX4_corridor 172 = .ok (.iastore, 1) := by decide +kernel
theorem dX4_corridor_173 : decode cX4_corridor 173 = .ok (.aload_n 0, 1) := by decide +kernel
theorem dX4_corridor_174 : decode cX4_corridor 174 = .ok (.getfield 7, 3) := by decide +kernel
theorem dX4_corridor_177 : decode cX4_corridor 177 = .ok (.bipush 9, 2) := by decide +kernel
theorem dX4_corridor_179 : decode cX4_corridor 179 = .ok (.iaload, 1) := by decide +kernel
theorem dX4_corridor_180 : decode cX4_corridor 180 = .ok (.iconst 1, 1) := by decide +kernel
theorem dX4_corridor_181 : decode cX4_corridor 181 = .ok (.isub, 1) := by decide +kernel
theorem dX4_corridor_182 : decode cX4_corridor 182 = .ok (.ireturn, 1) := by decide +kernel
abbrev wX4_corridor : List Cond := .code yX4_corridor cX4_corridor 7 (some .int) :: lw_gd
theorem hdX4_corridor : (yX4_corridor.cls ≠ "java/lang/invoke/MethodHandle" ∧ yX4_corridor.cls ≠ "java/lang/invoke/VarHandle" ∧ (parseMethodDescriptor yX4_corridor.desc).map (fun d => d.parameters.length) = some 5) := by decide +kernel
def fX4_corridor_150   (b5 : Int32) (b6 : Int32) (s0 : Int32) (s1 : Int32) (M : xm_M) : Option (Int32 × xm_M) :=
  if s1 < 0 ∨ 547 ≤ s1.toNatClampNeg then none else xm_lt (xm_s M 1 s1.toNatClampNeg s0) (fun M15 => if (b6 + (4 : Int32)) < 0 ∨ 547 ≤ (b6 + (4 : Int32)).toNatClampNeg then none else xm_lt (xm_s M15 1 (b6 + (4 : Int32)).toNatClampNeg b5) (fun M16 => xm_lt (xm_s M16 1 9 ((M16.1 1 9) + (1 : Int32))) (fun M17 => some ((M17.1 1 9) - (1 : Int32), M17))))
set_option maxRecDepth 20000 in
theorem tfX4_corridor_150 {p : Program} {l : Launch} {e : Env} {s : State} {m : MethodId} {args : Array Value} {below : List Frame} {meth : Method} {c : Code} {D : va_G} {g : xm_G} {A : Nat → Prop} (hX : xm_X p m meth c cX4_corridor 7 s args wX4_corridor RX4 (some .int) D mL g A)     : ∀ (b5 : Int32), ∀ (b6 : Int32), ∀ (s0 : Int32), ∀ (s1 : Int32), ∀ (M : xm_M), xm_J p l e ({ frames := 2, cells := 0, slots := 0, locals := 42 }) s m args below meth c 7 D mL g A (xm_Fi g) 150 [(0, .ref (g.1 0)), (5, .int b5), (6, .int b6)] [.int s0, .int s1, .ref (g.1 1)] M (fX4_corridor_150 b5 b6 s0 s1 M) := by
  intro b5 b6 s0 s1 M
  unfold fX4_corridor_150
  refine xm_iast hX (n := 547) mL_1 dX4_corridor_150 (fun M15 => ?_)
  refine xm_aload_n hX 0 dX4_corridor_151 rfl rfl ?_
  refine xm_get hX (k := 0) (ci := 4) (j := 0) (C := RX4) (T := TX4) (N := 27) (v := .ref (g.1 1)) mL_0 rfl rfl rfl (by decide) (fun z hz => List.mem_cons_of_mem _ (iw_X4 z hz)) (List.mem_cons_of_mem _ gm_433) dX4_corridor_152 ?_
  refine xm_iload hX 2 dX4_corridor_155 rfl ?_
  refine xm_iconst hX (v := 4) rfl dX4_corridor_157 ?_
  refine xm_iadd hX dX4_corridor_158 ?_
  refine xm_iload hX 1 dX4_corridor_159 rfl ?_
  refine xm_iast hX (n := 547) mL_1 dX4_corridor_161 (fun M16 => ?_)
  refine xm_aload_n hX 0 dX4_corridor_162 rfl rfl ?_
  refine xm_get hX (k := 0) (ci := 4) (j := 0) (C := RX4) (T := TX4) (N := 27) (v := .ref (g.1 1)) mL_0 rfl rfl rfl (by decide) (fun z hz => List.mem_cons_of_mem _ (iw_X4 z hz)) (List.mem_cons_of_mem _ gm_433) dX4_corridor_163 ?_
  refine xm_bipush hX (v := 9) rfl dX4_corridor_166 ?_
  refine xm_dup2_11 hX rfl rfl dX4_corridor_168 ?_
  refine xm_ialdL hX (n := 547) (j := 9) mL_1 (by decide) rfl dX4_corridor_169 ?_
  refine xm_iconst hX (v := 1) rfl dX4_corridor_170 ?_
  refine xm_iadd hX dX4_corridor_171 ?_
  refine xm_iastL hX (n := 547) (j := 9) mL_1 (by decide) rfl dX4_corridor_172 (fun M17 => ?_)
  refine xm_aload_n hX 0 dX4_corridor_173 rfl rfl ?_
  refine xm_get hX (k := 0) (ci := 4) (j := 0) (C := RX4) (T := TX4) (N := 27) (v := .ref (g.1 1)) mL_0 rfl rfl rfl (by decide) (fun z hz => List.mem_cons_of_mem _ (iw_X4 z hz)) (List.mem_cons_of_mem _ gm_433) dX4_corridor_174 ?_
  refine xm_bipush hX (v := 9) rfl dX4_corridor_177 ?_
  refine xm_ialdL hX (n := 547) (j := 9) mL_1 (by decide) rfl dX4_corridor_179 ?_
  refine xm_iconst hX (v := 1) rfl dX4_corridor_180 ?_
  refine xm_isub hX dX4_corridor_181 ?_
  exact xm_iret hX dX4_corridor_182
def fX4_corridor_129   (b2 : Int32) (b4 : Int32) (b5 : Int32) (b6 : Int32) (s0 : Int32) (s1 : Int32) (M : xm_M) : Option (Int32 × xm_M) :=
  if s1 < 0 ∨ 547 ≤ s1.toNatClampNeg then none else xm_lt (xm_s M 1 s1.toNatClampNeg s0) (fun M14 => if b4 ≤ b2 then fX4_corridor_150 b5 b6 b2 (b6 + (3 : Int32)) M14 else fX4_corridor_150 b5 b6 b4 (b6 + (3 : Int32)) M14)
set_option maxRecDepth 20000 in
theorem tfX4_corridor_129 {p : Program} {l : Launch} {e : Env} {s : State} {m : MethodId} {args : Array Value} {below : List Frame} {meth : Method} {c : Code} {D : va_G} {g : xm_G} {A : Nat → Prop} (hX : xm_X p m meth c cX4_corridor 7 s args wX4_corridor RX4 (some .int) D mL g A)     : ∀ (b2 : Int32), ∀ (b4 : Int32), ∀ (b5 : Int32), ∀ (b6 : Int32), ∀ (s0 : Int32), ∀ (s1 : Int32), ∀ (M : xm_M), xm_J p l e ({ frames := 2, cells := 0, slots := 0, locals := 42 }) s m args below meth c 7 D mL g A (xm_Fi g) 129 [(0, .ref (g.1 0)), (2, .int b2), (4, .int b4), (5, .int b5), (6, .int b6)] [.int s0, .int s1, .ref (g.1 1)] M (fX4_corridor_129 b2 b4 b5 b6 s0 s1 M) := by
  intro b2 b4 b5 b6 s0 s1 M
  unfold fX4_corridor_129
  refine xm_iast hX (n := 547) mL_1 dX4_corridor_129 (fun M14 => ?_)
  refine xm_aload_n hX 0 dX4_corridor_130 rfl rfl ?_
  refine xm_get hX (k := 0) (ci := 4) (j := 0) (C := RX4) (T := TX4) (N := 27) (v := .ref (g.1 1)) mL_0 rfl rfl rfl (by decide) (fun z hz => List.mem_cons_of_mem _ (iw_X4 z hz)) (List.mem_cons_of_mem _ gm_433) dX4_corridor_131 ?_
  refine xm_iload hX 4 dX4_corridor_134 rfl ?_
  refine xm_iconst hX (v := 3) rfl dX4_corridor_136 ?_
  refine xm_iadd hX dX4_corridor_137 ?_
  refine xm_iload_n hX 1 dX4_corridor_138 rfl rfl ?_
  refine xm_iload hX 2 dX4_corridor_139 rfl ?_
  refine xm_icmp_ge hX (tgt := 149) dX4_corridor_141 rfl ?_ ?_
  · refine xm_iload_n hX 1 dX4_corridor_149 rfl rfl ?_
    refine xm_weak [0, 3, 4] (lv' := [(0, .ref (g.1 0)), (5, .int b5), (6, .int b6)]) rfl ?_
    exact tfX4_corridor_150 hX b5 b6 b2 (b6 + (3 : Int32)) M14
  · refine xm_iload hX 2 dX4_corridor_144 rfl ?_
    refine xm_goto hX (tgt := 150) dX4_corridor_146 rfl ?_
    refine xm_weak [0, 3, 4] (lv' := [(0, .ref (g.1 0)), (5, .int b5), (6, .int b6)]) rfl ?_
    exact tfX4_corridor_150 hX b5 b6 b4 (b6 + (3 : Int32)) M14
def fX4_corridor_108   (b2 : Int32) (b4 : Int32) (b5 : Int32) (b6 : Int32) (s0 : Int32) (s1 : Int32) (M : xm_M) : Option (Int32 × xm_M) :=
  if s1 < 0 ∨ 547 ≤ s1.toNatClampNeg then none else xm_lt (xm_s M 1 s1.toNatClampNeg s0) (fun M13 => if b4 ≤ b2 then fX4_corridor_129 b2 b4 b5 b6 b4 (b6 + (2 : Int32)) M13 else fX4_corridor_129 b2 b4 b5 b6 b2 (b6 + (2 : Int32)) M13)
set_option maxRecDepth 20000 in
theorem tfX4_corridor_108 {p : Program} {l : Launch} {e : Env} {s : State} {m : MethodId} {args : Array Value} {below : List Frame} {meth : Method} {c : Code} {D : va_G} {g : xm_G} {A : Nat → Prop} (hX : xm_X p m meth c cX4_corridor 7 s args wX4_corridor RX4 (some .int) D mL g A)     : ∀ (b2 : Int32), ∀ (b4 : Int32), ∀ (b5 : Int32), ∀ (b6 : Int32), ∀ (s0 : Int32), ∀ (s1 : Int32), ∀ (M : xm_M), xm_J p l e ({ frames := 2, cells := 0, slots := 0, locals := 42 }) s m args below meth c 7 D mL g A (xm_Fi g) 108 [(0, .ref (g.1 0)), (2, .int b2), (4, .int b4), (5, .int b5), (6, .int b6)] [.int s0, .int s1, .ref (g.1 1)] M (fX4_corridor_108 b2 b4 b5 b6 s0 s1 M) := by
  intro b2 b4 b5 b6 s0 s1 M
  unfold fX4_corridor_108
  refine xm_iast hX (n := 547) mL_1 dX4_corridor_108 (fun M13 => ?_)
  refine xm_aload_n hX 0 dX4_corridor_109 rfl rfl ?_
  refine xm_get hX (k := 0) (ci := 4) (j := 0) (C := RX4) (T := TX4) (N := 27) (v := .ref (g.1 1)) mL_0 rfl rfl rfl (by decide) (fun z hz => List.mem_cons_of_mem _ (iw_X4 z hz)) (List.mem_cons_of_mem _ gm_433) dX4_corridor_110 ?_
  refine xm_iload hX 4 dX4_corridor_113 rfl ?_
  refine xm_iconst hX (v := 2) rfl dX4_corridor_115 ?_
  refine xm_iadd hX dX4_corridor_116 ?_
  refine xm_iload_n hX 1 dX4_corridor_117 rfl rfl ?_
  refine xm_iload hX 2 dX4_corridor_118 rfl ?_
  refine xm_icmp_ge hX (tgt := 127) dX4_corridor_120 rfl ?_ ?_
  · refine xm_iload hX 2 dX4_corridor_127 rfl ?_
    exact tfX4_corridor_129 hX b2 b4 b5 b6 b4 (b6 + (2 : Int32)) M13
  · refine xm_iload_n hX 1 dX4_corridor_123 rfl rfl ?_
    refine xm_goto hX (tgt := 129) dX4_corridor_124 rfl ?_
    exact tfX4_corridor_129 hX b2 b4 b5 b6 b2 (b6 + (2 : Int32)) M13
def fX4_corridor_89   (b1 : Int32) (b2 : Int32) (b3 : Int32) (b4 : Int32) (b5 : Int32) (b6 : Int32) (s0 : Int32) (s1 : Int32) (M : xm_M) : Option (Int32 × xm_M) :=
  if s1 < 0 ∨ 547 ≤ s1.toNatClampNeg then none else xm_lt (xm_s M 1 s1.toNatClampNeg s0) (fun M12 => if b3 ≤ b1 then fX4_corridor_108 b2 b4 b5 b6 b1 (b6 + (1 : Int32)) M12 else fX4_corridor_108 b2 b4 b5 b6 b3 (b6 + (1 : Int32)) M12)
set_option maxRecDepth 20000 in
theorem tfX4_corridor_89 {p : Program} {l : Launch} {e : Env} {s : State} {m : MethodId} {args : Array Value} {below : List Frame} {meth : Method} {c : Code} {D : va_G} {g : xm_G} {A : Nat → Prop} (hX : xm_X p m meth c cX4_corridor 7 s args wX4_corridor RX4 (some .int) D mL g A)     : ∀ (b1 : Int32), ∀ (b2 : Int32), ∀ (b3 : Int32), ∀ (b4 : Int32), ∀ (b5 : Int32), ∀ (b6 : Int32), ∀ (s0 : Int32), ∀ (s1 : Int32), ∀ (M : xm_M), xm_J p l e ({ frames := 2, cells := 0, slots := 0, locals := 42 }) s m args below meth c 7 D mL g A (xm_Fi g) 89 [(0, .ref (g.1 0)), (1, .int b1), (2, .int b2), (3, .int b3), (4, .int b4), (5, .int b5), (6, .int b6)] [.int s0, .int s1, .ref (g.1 1)] M (fX4_corridor_89 b1 b2 b3 b4 b5 b6 s0 s1 M) := by
  intro b1 b2 b3 b4 b5 b6 s0 s1 M
  unfold fX4_corridor_89
  refine xm_iast hX (n := 547) mL_1 dX4_corridor_89 (fun M12 => ?_)
  refine xm_aload_n hX 0 dX4_corridor_90 rfl rfl ?_
  refine xm_get hX (k := 0) (ci := 4) (j := 0) (C := RX4) (T := TX4) (N := 27) (v := .ref (g.1 1)) mL_0 rfl rfl rfl (by decide) (fun z hz => List.mem_cons_of_mem _ (iw_X4 z hz)) (List.mem_cons_of_mem _ gm_433) dX4_corridor_91 ?_
  refine xm_iload hX 6 dX4_corridor_94 rfl ?_
  refine xm_iconst hX (v := 1) rfl dX4_corridor_96 ?_
  refine xm_iadd hX dX4_corridor_97 ?_
  refine xm_iload_n hX 1 dX4_corridor_98 rfl rfl ?_
  refine xm_iload_n hX 3 dX4_corridor_99 rfl rfl ?_
  refine xm_icmp_ge hX (tgt := 107) dX4_corridor_100 rfl ?_ ?_
  · refine xm_iload_n hX 1 dX4_corridor_107 rfl rfl ?_
    refine xm_weak [0, 2, 4, 5, 6] (lv' := [(0, .ref (g.1 0)), (2, .int b2), (4, .int b4), (5, .int b5), (6, .int b6)]) rfl ?_
    exact tfX4_corridor_108 hX b2 b4 b5 b6 b1 (b6 + (1 : Int32)) M12
  · refine xm_iload_n hX 3 dX4_corridor_103 rfl rfl ?_
    refine xm_goto hX (tgt := 108) dX4_corridor_104 rfl ?_
    refine xm_weak [0, 2, 4, 5, 6] (lv' := [(0, .ref (g.1 0)), (2, .int b2), (4, .int b4), (5, .int b5), (6, .int b6)]) rfl ?_
    exact tfX4_corridor_108 hX b2 b4 b5 b6 b3 (b6 + (1 : Int32)) M12
def fX4_corridor  (a1 : Int32) (a2 : Int32) (a3 : Int32) (a4 : Int32) (a5 : Int32) (M : xm_M) : Option (Int32 × xm_M) :=
  xm_bi (fX4_isPlace a1 M) (fun x2 M1 => if x2 = 0 then some ((-2 : Int32), M1) else xm_bi (fX4_isPlace a2 M1) (fun x4 M3 => if x4 = 0 then some ((-2 : Int32), M3) else xm_bi (fX4_isPlace a3 M3) (fun x6 M5 => if x6 = 0 then some ((-2 : Int32), M5) else xm_bi (fX4_isPlace a4 M5) (fun x8 M7 => if x8 = 0 then some ((-2 : Int32), M7) else xm_bi (fX4_in a5 (0 : Int32) (17999 : Int32) M7) (fun x10 M9 => if x10 = 0 then some ((-2 : Int32), M9) else if (M9.1 1 9) = (8 : Int32) then some ((-4 : Int32), M9) else xm_lt ((15 : Int32) + ((5 : Int32) * (M9.1 1 9))) (fun x11 => if a3 ≤ a1 then fX4_corridor_89 a1 a2 a3 a4 a5 x11 a3 x11 M9 else fX4_corridor_89 a1 a2 a3 a4 a5 x11 a1 x11 M9))))))
set_option maxRecDepth 20000 in
theorem kX4_corridor {l : Launch}   (a1 : Int32) (a2 : Int32) (a3 : Int32) (a4 : Int32) (a5 : Int32) (M : xm_M) : xm_C l yX4_corridor wX4_corridor ({ frames := 2, cells := 0, slots := 0, locals := 42 }) mL (fun g => [.ref (g.1 0), .int a1, .int a2, .int a3, .int a4, .int a5]) M xm_Fi (fX4_corridor  a1 a2 a3 a4 a5 M) := by
  refine xm_C.of (by decide) rfl (fun g => Nat.le_of_ble_eq_true rfl) ?_
  intro p e s m args below meth c D g A hX
  refine xm_lv (lv' := [(0, .ref (g.1 0)), (1, .int a1), (2, .int a2), (3, .int a3), (4, .int a4), (5, .int a5)]) rfl ?_
  unfold fX4_corridor
  refine xm_iload_n hX 1 dX4_corridor_0 rfl rfl ?_
  refine xm_calli hX (xm_runS hX (As := (fun g => [.int a1])) (kX4_isPlace a1 M) (xm_gS gm_507 gm_508 gm_5 gm_509) rfl ⟨rfl, rfl⟩ hdX4_isPlace ⟨Nat.le_of_ble_eq_true rfl, Nat.le_of_ble_eq_true rfl⟩ rfl (Nat.le_of_ble_eq_true rfl) rfl dX4_corridor_1) (fun x2 M1 => ?_)
  refine xm_if_eq hX (tgt := 41) dX4_corridor_4 rfl ?_ ?_
  · refine xm_bipush hX (v := -2) rfl dX4_corridor_41 ?_
    exact xm_iret hX dX4_corridor_43
  · refine xm_iload_n hX 2 dX4_corridor_7 rfl rfl ?_
    refine xm_calli hX (xm_runS hX (As := (fun g => [.int a2])) (kX4_isPlace a2 M1) (xm_gS gm_507 gm_508 gm_5 gm_509) rfl ⟨rfl, rfl⟩ hdX4_isPlace ⟨Nat.le_of_ble_eq_true rfl, Nat.le_of_ble_eq_true rfl⟩ rfl (Nat.le_of_ble_eq_true rfl) rfl dX4_corridor_8) (fun x4 M3 => ?_)
    refine xm_if_eq hX (tgt := 41) dX4_corridor_11 rfl ?_ ?_
    · refine xm_bipush hX (v := -2) rfl dX4_corridor_41 ?_
      exact xm_iret hX dX4_corridor_43
    · refine xm_iload_n hX 3 dX4_corridor_14 rfl rfl ?_
      refine xm_calli hX (xm_runS hX (As := (fun g => [.int a3])) (kX4_isPlace a3 M3) (xm_gS gm_507 gm_508 gm_5 gm_509) rfl ⟨rfl, rfl⟩ hdX4_isPlace ⟨Nat.le_of_ble_eq_true rfl, Nat.le_of_ble_eq_true rfl⟩ rfl (Nat.le_of_ble_eq_true rfl) rfl dX4_corridor_15) (fun x6 M5 => ?_)
      refine xm_if_eq hX (tgt := 41) dX4_corridor_18 rfl ?_ ?_
      · refine xm_bipush hX (v := -2) rfl dX4_corridor_41 ?_
        exact xm_iret hX dX4_corridor_43
      · refine xm_iload hX 4 dX4_corridor_21 rfl ?_
        refine xm_calli hX (xm_runS hX (As := (fun g => [.int a4])) (kX4_isPlace a4 M5) (xm_gS gm_507 gm_508 gm_5 gm_509) rfl ⟨rfl, rfl⟩ hdX4_isPlace ⟨Nat.le_of_ble_eq_true rfl, Nat.le_of_ble_eq_true rfl⟩ rfl (Nat.le_of_ble_eq_true rfl) rfl dX4_corridor_23) (fun x8 M7 => ?_)
        refine xm_if_eq hX (tgt := 41) dX4_corridor_26 rfl ?_ ?_
        · refine xm_bipush hX (v := -2) rfl dX4_corridor_41 ?_
          exact xm_iret hX dX4_corridor_43
        · refine xm_iload hX 5 dX4_corridor_29 rfl ?_
          refine xm_iconst hX (v := 0) rfl dX4_corridor_31 ?_
          refine xm_sipush hX (v := 17999) rfl dX4_corridor_32 ?_
          refine xm_calli hX (xm_runS hX (As := (fun g => [.int a5, .int (0 : Int32), .int (17999 : Int32)])) (kX4_in a5 (0 : Int32) (17999 : Int32) M7) (xm_gS gm_495 gm_496 gm_5 gm_497) rfl ⟨rfl, rfl⟩ hdX4_in ⟨Nat.le_of_ble_eq_true rfl, Nat.le_of_ble_eq_true rfl⟩ rfl (Nat.le_of_ble_eq_true rfl) rfl dX4_corridor_35) (fun x10 M9 => ?_)
          refine xm_if_ne hX (tgt := 44) dX4_corridor_38 rfl ?_ ?_
          · refine xm_aload_n hX 0 dX4_corridor_44 rfl rfl ?_
            refine xm_get hX (k := 0) (ci := 4) (j := 0) (C := RX4) (T := TX4) (N := 27) (v := .ref (g.1 1)) mL_0 rfl rfl rfl (by decide) (fun z hz => List.mem_cons_of_mem _ (iw_X4 z hz)) (List.mem_cons_of_mem _ gm_433) dX4_corridor_45 ?_
            refine xm_bipush hX (v := 9) rfl dX4_corridor_48 ?_
            refine xm_ialdL hX (n := 547) (j := 9) mL_1 (by decide) rfl dX4_corridor_50 ?_
            refine xm_bipush hX (v := 8) rfl dX4_corridor_51 ?_
            refine xm_icmp_ne hX (tgt := 59) dX4_corridor_53 rfl ?_ ?_
            · refine xm_bipush hX (v := 15) rfl dX4_corridor_59 ?_
              refine xm_iconst hX (v := 5) rfl dX4_corridor_61 ?_
              refine xm_aload_n hX 0 dX4_corridor_62 rfl rfl ?_
              refine xm_get hX (k := 0) (ci := 4) (j := 0) (C := RX4) (T := TX4) (N := 27) (v := .ref (g.1 1)) mL_0 rfl rfl rfl (by decide) (fun z hz => List.mem_cons_of_mem _ (iw_X4 z hz)) (List.mem_cons_of_mem _ gm_433) dX4_corridor_63 ?_
              refine xm_bipush hX (v := 9) rfl dX4_corridor_66 ?_
              refine xm_ialdL hX (n := 547) (j := 9) mL_1 (by decide) rfl dX4_corridor_68 ?_
              refine xm_imul hX dX4_corridor_69 ?_
              refine xm_iadd hX dX4_corridor_70 ?_
              refine xm_nmi (fun x11 => ?_)
              refine xm_istore hX (lv' := [(6, .int x11), (0, .ref (g.1 0)), (1, .int a1), (2, .int a2), (3, .int a3), (4, .int a4), (5, .int a5)]) dX4_corridor_71 (by decide) rfl ?_
              refine xm_aload_n hX 1 dX4_corridor_73 rfl rfl ?_
              refine xm_get hX (k := 0) (ci := 4) (j := 0) (C := RX4) (T := TX4) (N := 27) (v := .ref (g.1 1)) mL_0 rfl rfl rfl (by decide) (fun z hz => List.mem_cons_of_mem _ (iw_X4 z hz)) (List.mem_cons_of_mem _ gm_433) dX4_corridor_74 ?_
              refine xm_iload hX 0 dX4_corridor_77 rfl ?_
              refine xm_iload_n hX 2 dX4_corridor_79 rfl rfl ?_
              refine xm_iload_n hX 4 dX4_corridor_80 rfl rfl ?_
              refine xm_icmp_ge hX (tgt := 88) dX4_corridor_81 rfl ?_ ?_
              · refine xm_iload_n hX 4 dX4_corridor_88 rfl rfl ?_
                refine xm_weak [1, 2, 3, 4, 5, 6, 0] (lv' := [(0, .ref (g.1 0)), (1, .int a1), (2, .int a2), (3, .int a3), (4, .int a4), (5, .int a5), (6, .int x11)]) rfl ?_
                exact tfX4_corridor_89 hX a1 a2 a3 a4 a5 x11 a3 x11 M9
              · refine xm_iload_n hX 2 dX4_corridor_84 rfl rfl ?_
                refine xm_goto hX (tgt := 89) dX4_corridor_85 rfl ?_
                refine xm_weak [1, 2, 3, 4, 5, 6, 0] (lv' := [(0, .ref (g.1 0)), (1, .int a1), (2, .int a2), (3, .int a3), (4, .int a4), (5, .int a5), (6, .int x11)]) rfl ?_
                exact tfX4_corridor_89 hX a1 a2 a3 a4 a5 x11 a1 x11 M9
            · refine xm_bipush hX (v := -4) rfl dX4_corridor_56 ?_
              exact xm_iret hX dX4_corridor_58
          · refine xm_bipush hX (v := -2) rfl dX4_corridor_41 ?_
            exact xm_iret hX dX4_corridor_43
-- ===== OdometryDeskModel.manyPulled()I ['0']
theorem dX4_manyPulled_0 : decode cX4_manyPulled 0 = .ok (.iconst 0, 1) := by decide +kernel
theorem dX4_manyPulled_1 : decode cX4_manyPulled 1 = .ok (.istore_n 1, 1) := by decide +kernel
theorem dX4_manyPulled_2 : decode cX4_manyPulled 2 = .ok (.iconst 0, 1) := by decide +kernel
theorem dX4_manyPulled_3 : decode cX4_manyPulled 3 = .ok (.istore_n 2, 1) := by decide +kernel
theorem dX4_manyPulled_4 : decode cX4_manyPulled 4 = .ok (.iload_n 2, 1) := by decide +kernel
theorem dX4_manyPulled_5 : decode cX4_manyPulled 5 = .ok (.aload_n 0, 1) := by decide +kernel
theorem dX4_manyPulled_6 : decode cX4_manyPulled 6 = .ok (.getfield 7, 3) := by decide +kernel
theorem dX4_manyPulled_9 : decode cX4_manyPulled 9 = .ok (.bipush 11, 2) := by decide +kernel
theorem dX4_manyPulled_11 : decode cX4_manyPulled 11 = .ok (.iaload, 1) := by decide +kernel
theorem dX4_manyPulled_12 : decode cX4_manyPulled 12 = .ok (.if_icmp .ge 26, 3) := by decide +kernel
theorem dX4_manyPulled_15 : decode cX4_manyPulled 15 = .ok (.iload_n 1, 1) := by decide +kernel
theorem dX4_manyPulled_16 : decode cX4_manyPulled 16 = .ok (.aload_n 0, 1) := by decide +kernel
theorem dX4_manyPulled_17 : decode cX4_manyPulled 17 = .ok (.getfield 50, 3) := by decide +kernel
theorem dX4_manyPulled_20 : decode cX4_manyPulled 20 = .ok (.iload_n 2, 1) := by decide +kernel
theorem dX4_manyPulled_21 : decode cX4_manyPulled 21 = .ok (.iaload, 1) := by decide +kernel
theorem dX4_manyPulled_22 : decode cX4_manyPulled 22 = .ok (.ifCond .lt 7, 3) := by decide +kernel
theorem dX4_manyPulled_25 : decode cX4_manyPulled 25 = .ok (.iconst 1, 1) := by decide +kernel
theorem dX4_manyPulled_26 : decode cX4_manyPulled 26 = .ok (.goto 4, 3) := by decide +kernel
theorem dX4_manyPulled_29 : decode cX4_manyPulled 29 = .ok (.iconst 0, 1) := by decide +kernel
theorem dX4_manyPulled_30 : decode cX4_manyPulled 30 = .ok (.iadd, 1) := by decide +kernel
theorem dX4_manyPulled_31 : decode cX4_manyPulled 31 = .ok (.istore_n 1, 1) := by decide +kernel
theorem dX4_manyPulled_32 : decode cX4_manyPulled 32 = .ok (.iinc 2 1, 3) := by decide +kernel
theorem dX4_manyPulled_35 : decode cX4_manyPulled 35 = .ok (.goto (-31), 3) := by decide +kernel
theorem dX4_manyPulled_38 : decode cX4_manyPulled 38 = .ok (.iload_n 1, 1) := by decide +kernel
theorem dX4_manyPulled_39 : decode cX4_manyPulled 39 = .ok (.ireturn, 1) := by decide +kernel
abbrev wX4_manyPulled : List Cond := .code yX4_manyPulled cX4_manyPulled 3 (some .int) :: lw_gd
theorem hdX4_manyPulled : (yX4_manyPulled.cls ≠ "java/lang/invoke/MethodHandle" ∧ yX4_manyPulled.cls ≠ "java/lang/invoke/VarHandle" ∧ (parseMethodDescriptor yX4_manyPulled.desc).map (fun d => d.parameters.length) = some 0) := by decide +kernel
def fX4_manyPulled_30  (k4 : Int32 → Int32 → xm_M → Option (Int32 × xm_M)) (b2 : Int32) (s0 : Int32) (s1 : Int32) (M : xm_M) : Option (Int32 × xm_M) :=
  xm_lt (s1 + s0) (fun x3 => xm_lt (b2 + Int32.ofInt 1) (fun x4 => k4 x3 x4 M))
set_option maxRecDepth 20000 in
theorem tfX4_manyPulled_30 {p : Program} {l : Launch} {e : Env} {s : State} {m : MethodId} {args : Array Value} {below : List Frame} {meth : Method} {c : Code} {D : va_G} {g : xm_G} {A : Nat → Prop} (hX : xm_X p m meth c cX4_manyPulled 3 s args wX4_manyPulled RX4 (some .int) D mL g A)   (k4 : Int32 → Int32 → xm_M → Option (Int32 × xm_M)) (h4 : ∀ (b1 : Int32), ∀ (b2 : Int32), ∀ (M : xm_M), xm_J p l e ({ frames := 0, cells := 0, slots := 0, locals := 0 }) s m args below meth c 3 D mL g A (xm_Fi g) 4 [(0, .ref (g.1 0)), (1, .int b1), (2, .int b2)] [] M (k4 b1 b2 M)) : ∀ (b2 : Int32), ∀ (s0 : Int32), ∀ (s1 : Int32), ∀ (M : xm_M), xm_J p l e ({ frames := 0, cells := 0, slots := 0, locals := 0 }) s m args below meth c 3 D mL g A (xm_Fi g) 30 [(0, .ref (g.1 0)), (2, .int b2)] [.int s0, .int s1] M (fX4_manyPulled_30 k4 b2 s0 s1 M) := by
  intro b2 s0 s1 M
  unfold fX4_manyPulled_30
  refine xm_iadd hX dX4_manyPulled_30 ?_
  refine xm_nmi (fun x3 => ?_)
  refine xm_istore_n hX (lv' := [(1, .int x3), (0, .ref (g.1 0)), (2, .int b2)]) dX4_manyPulled_31 rfl (by decide) rfl ?_
  refine xm_iinc hX (lv2 := fun x4 => [(2, .int x4), (1, .int x3), (0, .ref (g.1 0))]) 2 dX4_manyPulled_32 rfl (by decide) (fun _ => rfl) (fun x4 => ?_)
  refine xm_goto hX (tgt := 4) dX4_manyPulled_35 rfl ?_
  refine xm_weak [2, 1, 0] (lv' := [(0, .ref (g.1 0)), (1, .int x3), (2, .int x4)]) rfl ?_
  exact h4 x3 x4 M
def fX4_manyPulled_4  (k4 : Int32 → Int32 → xm_M → Option (Int32 × xm_M)) (b1 : Int32) (b2 : Int32) (M : xm_M) : Option (Int32 × xm_M) :=
  if (M.1 1 11) ≤ b2 then some (b1, M) else if b2 < 0 ∨ 120 ≤ b2.toNatClampNeg then none else if (M.1 14 b2.toNatClampNeg) < 0 then fX4_manyPulled_30 k4 b2 (0 : Int32) b1 M else fX4_manyPulled_30 k4 b2 (1 : Int32) b1 M
set_option maxRecDepth 20000 in
theorem tfX4_manyPulled_4 {p : Program} {l : Launch} {e : Env} {s : State} {m : MethodId} {args : Array Value} {below : List Frame} {meth : Method} {c : Code} {D : va_G} {g : xm_G} {A : Nat → Prop} (hX : xm_X p m meth c cX4_manyPulled 3 s args wX4_manyPulled RX4 (some .int) D mL g A)   (k4 : Int32 → Int32 → xm_M → Option (Int32 × xm_M)) (h4 : ∀ (b1 : Int32), ∀ (b2 : Int32), ∀ (M : xm_M), xm_J p l e ({ frames := 0, cells := 0, slots := 0, locals := 0 }) s m args below meth c 3 D mL g A (xm_Fi g) 4 [(0, .ref (g.1 0)), (1, .int b1), (2, .int b2)] [] M (k4 b1 b2 M)) : ∀ (b1 : Int32), ∀ (b2 : Int32), ∀ (M : xm_M), xm_J p l e ({ frames := 0, cells := 0, slots := 0, locals := 0 }) s m args below meth c 3 D mL g A (xm_Fi g) 4 [(0, .ref (g.1 0)), (1, .int b1), (2, .int b2)] [] M (fX4_manyPulled_4 k4 b1 b2 M) := by
  intro b1 b2 M
  unfold fX4_manyPulled_4
  refine xm_iload_n hX 2 dX4_manyPulled_4 rfl rfl ?_
  refine xm_aload_n hX 0 dX4_manyPulled_5 rfl rfl ?_
  refine xm_get hX (k := 0) (ci := 4) (j := 0) (C := RX4) (T := TX4) (N := 27) (v := .ref (g.1 1)) mL_0 rfl rfl rfl (by decide) (fun z hz => List.mem_cons_of_mem _ (iw_X4 z hz)) (List.mem_cons_of_mem _ gm_433) dX4_manyPulled_6 ?_
  refine xm_bipush hX (v := 11) rfl dX4_manyPulled_9 ?_
  refine xm_ialdL hX (n := 547) (j := 11) mL_1 (by decide) rfl dX4_manyPulled_11 ?_
  refine xm_icmp_ge hX (tgt := 38) dX4_manyPulled_12 rfl ?_ ?_
  · refine xm_iload_n hX 1 dX4_manyPulled_38 rfl rfl ?_
    exact xm_iret hX dX4_manyPulled_39
  · refine xm_iload_n hX 1 dX4_manyPulled_15 rfl rfl ?_
    refine xm_aload_n hX 0 dX4_manyPulled_16 rfl rfl ?_
    refine xm_get hX (k := 0) (ci := 4) (j := 14) (C := RX4) (T := TX4) (N := 27) (v := .ref (g.1 14)) mL_0 rfl rfl rfl (by decide) (fun z hz => List.mem_cons_of_mem _ (iw_X4 z hz)) (List.mem_cons_of_mem _ gm_447) dX4_manyPulled_17 ?_
    refine xm_iload_n hX 2 dX4_manyPulled_20 rfl rfl ?_
    refine xm_iald hX (n := 120) mL_14 dX4_manyPulled_21 ?_
    refine xm_if_lt hX (tgt := 29) dX4_manyPulled_22 rfl ?_ ?_
    · refine xm_iconst hX (v := 0) rfl dX4_manyPulled_29 ?_
      refine xm_weak [0, 2] (lv' := [(0, .ref (g.1 0)), (2, .int b2)]) rfl ?_
      exact tfX4_manyPulled_30 hX k4 h4 b2 (0 : Int32) b1 M
    · refine xm_iconst hX (v := 1) rfl dX4_manyPulled_25 ?_
      refine xm_goto hX (tgt := 30) dX4_manyPulled_26 rfl ?_
      refine xm_weak [0, 2] (lv' := [(0, .ref (g.1 0)), (2, .int b2)]) rfl ?_
      exact tfX4_manyPulled_30 hX k4 h4 b2 (1 : Int32) b1 M
def fX4_manyPulled_4_it   (nq : Nat) : Int32 → Int32 → xm_M → Option (Int32 × xm_M) := xm_it (fun kq => fX4_manyPulled_4 kq) (fun _ _ _ => none) nq
theorem tfX4_manyPulled_4_it {p : Program} {l : Launch} {e : Env} {s : State} {m : MethodId} {args : Array Value} {below : List Frame} {meth : Method} {c : Code} {D : va_G} {g : xm_G} {A : Nat → Prop} (hX : xm_X p m meth c cX4_manyPulled 3 s args wX4_manyPulled RX4 (some .int) D mL g A)     : ∀ (nq : Nat), ∀ (b1 : Int32), ∀ (b2 : Int32), ∀ (M : xm_M), xm_J p l e ({ frames := 0, cells := 0, slots := 0, locals := 0 }) s m args below meth c 3 D mL g A (xm_Fi g) 4 [(0, .ref (g.1 0)), (1, .int b1), (2, .int b2)] [] M (fX4_manyPulled_4_it  nq b1 b2 M) := by
  intro nq
  induction nq with
  | zero => exact fun _ _ _ => xm_none
  | succ nq ih => exact tfX4_manyPulled_4 hX _ ih
def fX4_manyPulled   (M : xm_M) : Option (Int32 × xm_M) :=
  xm_lt ((0 : Int32)) (fun x1 => xm_lt ((0 : Int32)) (fun x2 => fX4_manyPulled_4_it xm_N x1 x2 M))
set_option maxRecDepth 20000 in
theorem kX4_manyPulled {l : Launch}    (M : xm_M) : xm_C l yX4_manyPulled wX4_manyPulled ({ frames := 0, cells := 0, slots := 0, locals := 0 }) mL (fun g => [.ref (g.1 0)]) M xm_Fi (fX4_manyPulled   M) := by
  refine xm_C.of (by decide) rfl (fun g => Nat.le_of_ble_eq_true rfl) ?_
  intro p e s m args below meth c D g A hX
  refine xm_lv (lv' := [(0, .ref (g.1 0))]) rfl ?_
  unfold fX4_manyPulled
  refine xm_iconst hX (v := 0) rfl dX4_manyPulled_0 ?_
  refine xm_nmi (fun x1 => ?_)
  refine xm_istore_n hX (lv' := [(1, .int x1), (0, .ref (g.1 0))]) dX4_manyPulled_1 rfl (by decide) rfl ?_
  refine xm_iconst hX (v := 0) rfl dX4_manyPulled_2 ?_
  refine xm_nmi (fun x2 => ?_)
  refine xm_istore_n hX (lv' := [(2, .int x2), (1, .int x1), (0, .ref (g.1 0))]) dX4_manyPulled_3 rfl (by decide) rfl ?_
  refine xm_weak [2, 1, 0] (lv' := [(0, .ref (g.1 0)), (1, .int x1), (2, .int x2)]) rfl ?_
  exact tfX4_manyPulled_4_it hX xm_N x1 x2 M
-- ===== OdometryDeskModel.errorsTold()I ['0']
theorem dX4_errorsTold_0 : decode cX4_errorsTold 0 = .ok (.aload_n 0, 1) := by decide +kernel
theorem dX4_errorsTold_1 : decode cX4_errorsTold 1 = .ok (.invokevirtual 164, 3) := by decide +kernel
theorem dX4_errorsTold_4 : decode cX4_errorsTold 4 = .ok (.ldc2_w 168, 3) := by decide +kernel
theorem dX4_errorsTold_7 : decode cX4_errorsTold 7 = .ok (.lcmp, 1) := by decide +kernel
theorem dX4_errorsTold_8 : decode cX4_errorsTold 8 = .ok (.ifCond .le 8, 3) := by decide +kernel
theorem dX4_errorsTold_11 : decode cX4_errorsTold 11 = .ok (.ldc 170, 2) := by decide +kernel
theorem dX4_errorsTold_13 : decode cX4_errorsTold 13 = .ok (.goto 8, 3) := by decide +kernel
theorem dX4_errorsTold_16 : decode cX4_errorsTold 16 = .ok (.aload_n 0, 1) := by decide +kernel
theorem dX4_errorsTold_17 : decode cX4_errorsTold 17 = .ok (.invokevirtual 164, 3) := by decide +kernel
theorem dX4_errorsTold_20 : decode cX4_errorsTold 20 = .ok (.l2i, 1) := by decide +kernel
theorem dX4_errorsTold_21 : decode cX4_errorsTold 21 = .ok (.ireturn, 1) := by decide +kernel
abbrev wX4_errorsTold : List Cond := .code yX4_errorsTold cX4_errorsTold 1 (some .int) :: lw_gd
theorem hdX4_errorsTold : (yX4_errorsTold.cls ≠ "java/lang/invoke/MethodHandle" ∧ yX4_errorsTold.cls ≠ "java/lang/invoke/VarHandle" ∧ (parseMethodDescriptor yX4_errorsTold.desc).map (fun d => d.parameters.length) = some 0) := by decide +kernel
def fX4_errorsTold   (M : xm_M) : Option (Int32 × xm_M) :=
  xm_bl (fX4_sumOfErrors M) (fun x2 M1 => if (lg_cmp x2 (2000000000 : Int64)) ≤ 0 then xm_bl (fX4_sumOfErrors M1) (fun x4 M3 => some (x4.toInt32, M3)) else some ((2000000000 : Int32), M1))
set_option maxRecDepth 20000 in
theorem kX4_errorsTold {l : Launch}    (M : xm_M) : xm_C l yX4_errorsTold wX4_errorsTold ({ frames := 2, cells := 0, slots := 0, locals := 43 }) mL (fun g => [.ref (g.1 0)]) M xm_Fi (fX4_errorsTold   M) := by
  refine xm_C.of (by decide) rfl (fun g => Nat.le_of_ble_eq_true rfl) ?_
  intro p e s m args below meth c D g A hX
  refine xm_lv (lv' := [(0, .ref (g.1 0))]) rfl ?_
  unfold fX4_errorsTold
  refine xm_aload_n hX 0 dX4_errorsTold_0 rfl rfl ?_
  refine xm_calll hX (xm_runV hX (k := 0) (ci := 4) (As := (fun g => [])) (kX4_sumOfErrors M) mL_0 rfl (xm_gV gm_625 gm_626 gm_729 gm_5 gm_627) rfl ⟨rfl, rfl⟩ ⟨rfl, hdX4_sumOfErrors⟩ ⟨Nat.le_of_ble_eq_true rfl, Nat.le_of_ble_eq_true rfl⟩ rfl (Nat.le_of_ble_eq_true rfl) rfl dX4_errorsTold_1) (fun x2 M1 => ?_)
  refine xm_ldc2 hX (v := 2000000000) (List.mem_cons_of_mem _ gm_628) dX4_errorsTold_4 ?_
  refine xm_lcmp hX dX4_errorsTold_7 ?_
  refine xm_if_le hX (tgt := 16) dX4_errorsTold_8 rfl ?_ ?_
  · refine xm_aload_n hX 0 dX4_errorsTold_16 rfl rfl ?_
    refine xm_calll hX (xm_runV hX (k := 0) (ci := 4) (As := (fun g => [])) (kX4_sumOfErrors M1) mL_0 rfl (xm_gV gm_625 gm_626 gm_729 gm_5 gm_627) rfl ⟨rfl, rfl⟩ ⟨rfl, hdX4_sumOfErrors⟩ ⟨Nat.le_of_ble_eq_true rfl, Nat.le_of_ble_eq_true rfl⟩ rfl (Nat.le_of_ble_eq_true rfl) rfl dX4_errorsTold_17) (fun x4 M3 => ?_)
    refine xm_l2i hX dX4_errorsTold_20 ?_
    exact xm_iret hX dX4_errorsTold_21
  · refine xm_ldc hX (v := 2000000000) (List.mem_cons_of_mem _ gm_629) dX4_errorsTold_11 ?_
    refine xm_goto hX (tgt := 21) dX4_errorsTold_13 rfl ?_
    exact xm_iret hX dX4_errorsTold_21
-- ===== OdometryDeskModel.count(I)I ['0']
theorem dX4_count_0 : decode cX4_count 0 = .ok (.iload_n 1, 1) := by decide +kernel
theorem dX4_count_1 : decode cX4_count 1 = .ok (.bipush 12, 2) := by decide +kernel
theorem dX4_count_3 : decode cX4_count 3 = .ok (.bipush 20, 2) := by decide +kernel
theorem dX4_count_5 : decode cX4_count 5 = .ok (.invokestatic 67, 3) := by decide +kernel
theorem dX4_count_8 : decode cX4_count 8 = .ok (.ifCond .eq 12, 3) := by decide +kernel
theorem dX4_count_11 : decode cX4_count 11 = .ok (.aload_n 0, 1) := by decide +kernel
theorem dX4_count_12 : decode cX4_count 12 = .ok (.iload_n 1, 1) := by decide +kernel
theorem dX4_count_13 : decode cX4_count 13 = .ok (.bipush 12, 2) := by decide +kernel
theorem dX4_count_15 : decode cX4_count 15 = .ok (.isub, 1) := by decide +kernel
theorem dX4_count_16 : decode cX4_count 16 = .ok (.invokevirtual 77, 3) := by decide +kernel
theorem dX4_count_19 : decode cX4_count 19 = .ok (.ireturn, 1) := by decide +kernel
theorem dX4_count_20 : decode cX4_count 20 = .ok (.aload_n 0, 1) := by decide +kernel
theorem dX4_count_21 : decode cX4_count 21 = .ok (.invokevirtual 176, 3) := by decide +kernel
theorem dX4_count_24 : decode cX4_count 24 = .ok (.iload_n 1, 1) := by decide +kernel
theorem dX4_count_25 : decode cX4_count 25 = .ok (.iconst 1, 1) := by decide +kernel
theorem dX4_count_26 : decode cX4_count 26 = .ok (.iconst 5, 1) := by decide +kernel
theorem dX4_count_27 : decode cX4_count 27 = .ok (.invokestatic 67, 3) := by decide +kernel
theorem dX4_count_30 : decode cX4_count 30 = .ok (.ifCond .eq 11, 3) := by decide +kernel
theorem dX4_count_33 : decode cX4_count 33 = .ok (.aload_n 0, 1) := by decide +kernel
theorem dX4_count_34 : decode cX4_count 34 = .ok (.iload_n 1, 1) := by decide +kernel
theorem dX4_count_35 : decode cX4_count 35 = .ok (.iconst 1, 1) := by decide +kernel
theorem dX4_count_36 : decode cX4_count 36 = .ok (.isub, 1) := by decide +kernel
theorem dX4_count_37 : decode cX4_count 37 = .ok (.invokevirtual 190, 3) := by decide +kernel
theorem dX4_count_40 : decode cX4_count 40 = .ok (.ireturn, 1) := by decide +kernel
theorem dX4_count_41 : decode cX4_count 41 = .ok (.iload_n 1, 1) := by decide +kernel
theorem dX4_count_42 : decode cX4_count 42 = .ok (.tableswitch 106 0 11 #[62, 106, 106, 106, 106, 106, 70, 75, 80, 85, 93, 101], 62) := by decide +kernel
theorem dX4_count_104 : decode cX4_count 104 = .ok (.aload_n 0, 1) := by decide +kernel
theorem dX4_count_105 : decode cX4_count 105 = .ok (.getfield 7, 3) := by decide +kernel
theorem dX4_count_108 : decode cX4_count 108 = .ok (.bipush 11, 2) := by decide +kernel
theorem dX4_count_110 : decode cX4_count 110 = .ok (.iaload, 1) := by decide +kernel
theorem dX4_count_111 : decode cX4_count 111 = .ok (.ireturn, 1) := by decide +kernel
theorem dX4_count_112 : decode cX4_count 112 = .ok (.aload_n 0, 1) := by decide +kernel
theorem dX4_count_113 : decode cX4_count 113 = .ok (.invokevirtual 193, 3) := by decide +kernel
theorem dX4_count_116 : decode cX4_count 116 = .ok (.ireturn, 1) := by decide +kernel
theorem dX4_count_117 : decode cX4_count 117 = .ok (.aload_n 0, 1) := by decide +kernel
theorem dX4_count_118 : decode cX4_count 118 = .ok (.invokevirtual 197, 3) := by decide +kernel
theorem dX4_count_121 : decode cX4_count 121 = .ok (.ireturn, 1) := by decide +kernel
theorem dX4_count_122 : decode cX4_count 122 = .ok (.aload_n 0, 1) := by decide +kernel
theorem dX4_count_123 : decode cX4_count 123 = .ok (.getfield 115, 3) := by decide +kernel
theorem dX4_count_126 : decode cX4_count 126 = .ok (.ireturn, 1) := by decide +kernel
theorem dX4_count_127 : decode cX4_count 127 = .ok (.aload_n 0, 1) := by decide +kernel
theorem dX4_count_128 : decode cX4_count 128 = .ok (.getfield 7, 3) := by decide +kernel
theorem dX4_count_131 : decode cX4_count 131 = .ok (.bipush 9, 2) := by decide +kernel
theorem dX4_count_133 : decode cX4_count 133 = .ok (.iaload, 1) := by decide +kernel
theorem dX4_count_134 : decode cX4_count 134 = .ok (.ireturn, 1) := by decide +kernel
theorem dX4_count_135 : decode cX4_count 135 = .ok (.aload_n 0, 1) := by decide +kernel
theorem dX4_count_136 : decode cX4_count 136 = .ok (.getfield 7, 3) := by decide +kernel
theorem dX4_count_139 : decode cX4_count 139 = .ok (.bipush 10, 2) := by decide +kernel
theorem dX4_count_141 : decode cX4_count 141 = .ok (.iaload, 1) := by decide +kernel
theorem dX4_count_142 : decode cX4_count 142 = .ok (.ireturn, 1) := by decide +kernel
theorem dX4_count_143 : decode cX4_count 143 = .ok (.aload_n 0, 1) := by decide +kernel
theorem dX4_count_144 : decode cX4_count 144 = .ok (.getfield 200, 3) := by decide +kernel
theorem dX4_count_147 : decode cX4_count 147 = .ok (.ireturn, 1) := by decide +kernel
theorem dX4_count_148 : decode cX4_count 148 = .ok (.bipush (-2), 2) := by decide +kernel
theorem dX4_count_150 : decode cX4_count 150 = .ok (.ireturn, 1) := by decide +kernel
abbrev wX4_count : List Cond := .code yX4_count cX4_count 2 (some .int) :: lw_gd
theorem hdX4_count : (yX4_count.cls ≠ "java/lang/invoke/MethodHandle" ∧ yX4_count.cls ≠ "java/lang/invoke/VarHandle" ∧ (parseMethodDescriptor yX4_count.desc).map (fun d => d.parameters.length) = some 1) := by decide +kernel
def fX4_count  (a1 : Int32) (M : xm_M) : Option (Int32 × xm_M) :=
  xm_bi (fX4_in a1 (12 : Int32) (20 : Int32) M) (fun x2 M1 => if x2 = 0 then xm_bv (fX4_findAll M1) (fun M3 => xm_bi (fX4_in a1 (1 : Int32) (5 : Int32) M3) (fun x5 M4 => if x5 = 0 then if a1 = 0 then some (M4.1 1 11, M4) else if a1 = 1 then some ((-2 : Int32), M4) else if a1 = 2 then some ((-2 : Int32), M4) else if a1 = 3 then some ((-2 : Int32), M4) else if a1 = 4 then some ((-2 : Int32), M4) else if a1 = 5 then some ((-2 : Int32), M4) else if a1 = 6 then xm_bi (fX4_manyPulled M4) (fun x13 M12 => some (x13, M12)) else if a1 = 7 then xm_bi (fX4_errorsTold M4) (fun x16 M15 => some (x16, M15)) else if a1 = 8 then some (M4.1 0 21, M4) else if a1 = 9 then some (M4.1 1 9, M4) else if a1 = 10 then some (M4.1 1 10, M4) else if a1 = 11 then some (M4.1 0 4, M4) else some ((-2 : Int32), M4) else xm_bi (fX4_manyOf (a1 - (1 : Int32)) M4) (fun x23 M22 => some (x23, M22)))) else xm_bi (fX4_setting (a1 - (12 : Int32)) M1) (fun x25 M24 => some (x25, M24)))
set_option maxRecDepth 20000 in
theorem kX4_count {l : Launch}   (a1 : Int32) (M : xm_M) : xm_C l yX4_count wX4_count ({ frames := 5, cells := 0, slots := 0, locals := 121 }) mL (fun g => [.ref (g.1 0), .int a1]) M xm_Fi (fX4_count  a1 M) := by
  refine xm_C.of (by decide) rfl (fun g => Nat.le_of_ble_eq_true rfl) ?_
  intro p e s m args below meth c D g A hX
  refine xm_lv (lv' := [(0, .ref (g.1 0)), (1, .int a1)]) rfl ?_
  unfold fX4_count
  refine xm_iload_n hX 1 dX4_count_0 rfl rfl ?_
  refine xm_bipush hX (v := 12) rfl dX4_count_1 ?_
  refine xm_bipush hX (v := 20) rfl dX4_count_3 ?_
  refine xm_calli hX (xm_runS hX (As := (fun g => [.int a1, .int (12 : Int32), .int (20 : Int32)])) (kX4_in a1 (12 : Int32) (20 : Int32) M) (xm_gS gm_495 gm_496 gm_5 gm_497) rfl ⟨rfl, rfl⟩ hdX4_in ⟨Nat.le_of_ble_eq_true rfl, Nat.le_of_ble_eq_true rfl⟩ rfl (Nat.le_of_ble_eq_true rfl) rfl dX4_count_5) (fun x2 M1 => ?_)
  refine xm_if_eq hX (tgt := 20) dX4_count_8 rfl ?_ ?_
  · refine xm_aload_n hX 0 dX4_count_20 rfl rfl ?_
    refine xm_callv hX (xm_runV hX (k := 0) (ci := 4) (As := (fun g => [])) (kX4_findAll M1) mL_0 rfl (xm_gV gm_550 gm_551 gm_716 gm_5 gm_552) rfl ⟨rfl, rfl⟩ ⟨rfl, hdX4_findAll⟩ ⟨Nat.le_of_ble_eq_true rfl, Nat.le_of_ble_eq_true rfl⟩ rfl (Nat.le_of_ble_eq_true rfl) rfl dX4_count_21) (fun M3 => ?_)
    refine xm_iload_n hX 1 dX4_count_24 rfl rfl ?_
    refine xm_iconst hX (v := 1) rfl dX4_count_25 ?_
    refine xm_iconst hX (v := 5) rfl dX4_count_26 ?_
    refine xm_calli hX (xm_runS hX (As := (fun g => [.int a1, .int (1 : Int32), .int (5 : Int32)])) (kX4_in a1 (1 : Int32) (5 : Int32) M3) (xm_gS gm_495 gm_496 gm_5 gm_497) rfl ⟨rfl, rfl⟩ hdX4_in ⟨Nat.le_of_ble_eq_true rfl, Nat.le_of_ble_eq_true rfl⟩ rfl (Nat.le_of_ble_eq_true rfl) rfl dX4_count_27) (fun x5 M4 => ?_)
    refine xm_if_eq hX (tgt := 41) dX4_count_30 rfl ?_ ?_
    · refine xm_iload_n hX 1 dX4_count_41 rfl rfl ?_
      refine xm_ite (fun z6 => ?_) (fun z6 => ?_)
      · refine xm_tsIn hX (tgt := 104) dX4_count_42 z6 (by decide) (by decide) rfl rfl ?_
        refine xm_aload_n hX 0 dX4_count_104 rfl rfl ?_
        refine xm_get hX (k := 0) (ci := 4) (j := 0) (C := RX4) (T := TX4) (N := 27) (v := .ref (g.1 1)) mL_0 rfl rfl rfl (by decide) (fun z hz => List.mem_cons_of_mem _ (iw_X4 z hz)) (List.mem_cons_of_mem _ gm_433) dX4_count_105 ?_
        refine xm_bipush hX (v := 11) rfl dX4_count_108 ?_
        refine xm_ialdL hX (n := 547) (j := 11) mL_1 (by decide) rfl dX4_count_110 ?_
        exact xm_iret hX dX4_count_111
      refine xm_ite (fun z7 => ?_) (fun z7 => ?_)
      · refine xm_tsIn hX (tgt := 148) dX4_count_42 z7 (by decide) (by decide) rfl rfl ?_
        refine xm_bipush hX (v := -2) rfl dX4_count_148 ?_
        exact xm_iret hX dX4_count_150
      refine xm_ite (fun z8 => ?_) (fun z8 => ?_)
      · refine xm_tsIn hX (tgt := 148) dX4_count_42 z8 (by decide) (by decide) rfl rfl ?_
        refine xm_bipush hX (v := -2) rfl dX4_count_148 ?_
        exact xm_iret hX dX4_count_150
      refine xm_ite (fun z9 => ?_) (fun z9 => ?_)
      · refine xm_tsIn hX (tgt := 148) dX4_count_42 z9 (by decide) (by decide) rfl rfl ?_
        refine xm_bipush hX (v := -2) rfl dX4_count_148 ?_
        exact xm_iret hX dX4_count_150
      refine xm_ite (fun z10 => ?_) (fun z10 => ?_)
      · refine xm_tsIn hX (tgt := 148) dX4_count_42 z10 (by decide) (by decide) rfl rfl ?_
        refine xm_bipush hX (v := -2) rfl dX4_count_148 ?_
        exact xm_iret hX dX4_count_150
      refine xm_ite (fun z11 => ?_) (fun z11 => ?_)
      · refine xm_tsIn hX (tgt := 148) dX4_count_42 z11 (by decide) (by decide) rfl rfl ?_
        refine xm_bipush hX (v := -2) rfl dX4_count_148 ?_
        exact xm_iret hX dX4_count_150
      refine xm_ite (fun z14 => ?_) (fun z14 => ?_)
      · refine xm_tsIn hX (tgt := 112) dX4_count_42 z14 (by decide) (by decide) rfl rfl ?_
        refine xm_aload_n hX 0 dX4_count_112 rfl rfl ?_
        refine xm_calli hX (xm_runV hX (k := 0) (ci := 4) (As := (fun g => [])) (kX4_manyPulled M4) mL_0 rfl (xm_gV gm_619 gm_620 gm_727 gm_5 gm_621) rfl ⟨rfl, rfl⟩ ⟨rfl, hdX4_manyPulled⟩ ⟨Nat.le_of_ble_eq_true rfl, Nat.le_of_ble_eq_true rfl⟩ rfl (Nat.le_of_ble_eq_true rfl) rfl dX4_count_113) (fun x13 M12 => ?_)
        exact xm_iret hX dX4_count_116
      refine xm_ite (fun z17 => ?_) (fun z17 => ?_)
      · refine xm_tsIn hX (tgt := 117) dX4_count_42 z17 (by decide) (by decide) rfl rfl ?_
        refine xm_aload_n hX 0 dX4_count_117 rfl rfl ?_
        refine xm_calli hX (xm_runV hX (k := 0) (ci := 4) (As := (fun g => [])) (kX4_errorsTold M4) mL_0 rfl (xm_gV gm_622 gm_623 gm_728 gm_5 gm_624) rfl ⟨rfl, rfl⟩ ⟨rfl, hdX4_errorsTold⟩ ⟨Nat.le_of_ble_eq_true rfl, Nat.le_of_ble_eq_true rfl⟩ rfl (Nat.le_of_ble_eq_true rfl) rfl dX4_count_118) (fun x16 M15 => ?_)
        exact xm_iret hX dX4_count_121
      refine xm_ite (fun z18 => ?_) (fun z18 => ?_)
      · refine xm_tsIn hX (tgt := 122) dX4_count_42 z18 (by decide) (by decide) rfl rfl ?_
        refine xm_aload_n hX 0 dX4_count_122 rfl rfl ?_
        refine xm_get hX (k := 0) (ci := 4) (j := 21) (C := RX4) (T := TX4) (N := 27) (v := .int (M4.1 0 21)) mL_0 rfl rfl rfl (by decide) (fun z hz => List.mem_cons_of_mem _ (iw_X4 z hz)) (List.mem_cons_of_mem _ gm_454) dX4_count_123 ?_
        exact xm_iret hX dX4_count_126
      refine xm_ite (fun z19 => ?_) (fun z19 => ?_)
      · refine xm_tsIn hX (tgt := 127) dX4_count_42 z19 (by decide) (by decide) rfl rfl ?_
        refine xm_aload_n hX 0 dX4_count_127 rfl rfl ?_
        refine xm_get hX (k := 0) (ci := 4) (j := 0) (C := RX4) (T := TX4) (N := 27) (v := .ref (g.1 1)) mL_0 rfl rfl rfl (by decide) (fun z hz => List.mem_cons_of_mem _ (iw_X4 z hz)) (List.mem_cons_of_mem _ gm_433) dX4_count_128 ?_
        refine xm_bipush hX (v := 9) rfl dX4_count_131 ?_
        refine xm_ialdL hX (n := 547) (j := 9) mL_1 (by decide) rfl dX4_count_133 ?_
        exact xm_iret hX dX4_count_134
      refine xm_ite (fun z20 => ?_) (fun z20 => ?_)
      · refine xm_tsIn hX (tgt := 135) dX4_count_42 z20 (by decide) (by decide) rfl rfl ?_
        refine xm_aload_n hX 0 dX4_count_135 rfl rfl ?_
        refine xm_get hX (k := 0) (ci := 4) (j := 0) (C := RX4) (T := TX4) (N := 27) (v := .ref (g.1 1)) mL_0 rfl rfl rfl (by decide) (fun z hz => List.mem_cons_of_mem _ (iw_X4 z hz)) (List.mem_cons_of_mem _ gm_433) dX4_count_136 ?_
        refine xm_bipush hX (v := 10) rfl dX4_count_139 ?_
        refine xm_ialdL hX (n := 547) (j := 10) mL_1 (by decide) rfl dX4_count_141 ?_
        exact xm_iret hX dX4_count_142
      refine xm_ite (fun z21 => ?_) (fun z21 => ?_)
      · refine xm_tsIn hX (tgt := 143) dX4_count_42 z21 (by decide) (by decide) rfl rfl ?_
        refine xm_aload_n hX 0 dX4_count_143 rfl rfl ?_
        refine xm_get hX (k := 0) (ci := 4) (j := 4) (C := RX4) (T := TX4) (N := 27) (v := .int (M4.1 0 4)) mL_0 rfl rfl rfl (by decide) (fun z hz => List.mem_cons_of_mem _ (iw_X4 z hz)) (List.mem_cons_of_mem _ gm_437) dX4_count_144 ?_
        exact xm_iret hX dX4_count_147
      refine xm_tsOut hX (tgt := 148) dX4_count_42 (by have qz6 := lv_neT (a := 0) z6 rfl; have qz7 := lv_neT (a := 1) z7 rfl; have qz8 := lv_neT (a := 2) z8 rfl; have qz9 := lv_neT (a := 3) z9 rfl; have qz10 := lv_neT (a := 4) z10 rfl; have qz11 := lv_neT (a := 5) z11 rfl; have qz14 := lv_neT (a := 6) z14 rfl; have qz17 := lv_neT (a := 7) z17 rfl; have qz18 := lv_neT (a := 8) z18 rfl; have qz19 := lv_neT (a := 9) z19 rfl; have qz20 := lv_neT (a := 10) z20 rfl; have qz21 := lv_neT (a := 11) z21 rfl; omega) rfl ?_
      refine xm_bipush hX (v := -2) rfl dX4_count_148 ?_
      exact xm_iret hX dX4_count_150
    · refine xm_aload_n hX 0 dX4_count_33 rfl rfl ?_
      refine xm_iload_n hX 1 dX4_count_34 rfl rfl ?_
      refine xm_iconst hX (v := 1) rfl dX4_count_35 ?_
      refine xm_isub hX dX4_count_36 ?_
      refine xm_calli hX (xm_runV hX (k := 0) (ci := 4) (As := (fun g => [.int (a1 - (1 : Int32))])) (kX4_manyOf (a1 - (1 : Int32)) M4) mL_0 rfl (xm_gV gm_616 gm_617 gm_726 gm_5 gm_618) rfl ⟨rfl, rfl⟩ ⟨rfl, hdX4_manyOf⟩ ⟨Nat.le_of_ble_eq_true rfl, Nat.le_of_ble_eq_true rfl⟩ rfl (Nat.le_of_ble_eq_true rfl) rfl dX4_count_37) (fun x23 M22 => ?_)
      exact xm_iret hX dX4_count_40
  · refine xm_aload_n hX 0 dX4_count_11 rfl rfl ?_
    refine xm_iload_n hX 1 dX4_count_12 rfl rfl ?_
    refine xm_bipush hX (v := 12) rfl dX4_count_13 ?_
    refine xm_isub hX dX4_count_15 ?_
    refine xm_calli hX (xm_runV hX (k := 0) (ci := 4) (As := (fun g => [.int (a1 - (12 : Int32))])) (kX4_setting (a1 - (12 : Int32)) M1) mL_0 rfl (xm_gV gm_500 gm_501 gm_713 gm_5 gm_502) rfl ⟨rfl, rfl⟩ ⟨rfl, hdX4_setting⟩ ⟨Nat.le_of_ble_eq_true rfl, Nat.le_of_ble_eq_true rfl⟩ rfl (Nat.le_of_ble_eq_true rfl) rfl dX4_count_16) (fun x25 M24 => ?_)
    exact xm_iret hX dX4_count_19
-- ===== OdometryDeskModel.cut(I)I ['0']
theorem dX4_cut_0 : decode cX4_cut 0 = .ok (.iload_n 1, 1) := by decide +kernel
theorem dX4_cut_1 : decode cX4_cut 1 = .ok (.iconst 1, 1) := by decide +kernel
theorem dX4_cut_2 : decode cX4_cut 2 = .ok (.if_icmp .lt 14, 3) := by decide +kernel
theorem dX4_cut_5 : decode cX4_cut 5 = .ok (.iload_n 1, 1) := by decide +kernel
theorem dX4_cut_6 : decode cX4_cut 6 = .ok (.aload_n 0, 1) := by decide +kernel
theorem dX4_cut_7 : decode cX4_cut 7 = .ok (.getfield 7, 3) := by decide +kernel
theorem dX4_cut_10 : decode cX4_cut 10 = .ok (.bipush 11, 2) := by decide +kernel
theorem dX4_cut_12 : decode cX4_cut 12 = .ok (.iaload, 1) := by decide +kernel
theorem dX4_cut_13 : decode cX4_cut 13 = .ok (.if_icmp .le 6, 3) := by decide +kernel
theorem dX4_cut_16 : decode cX4_cut 16 = .ok (.bipush (-2), 2) := by decide +kernel
theorem dX4_cut_18 : decode cX4_cut 18 = .ok (.ireturn, 1) := by decide +kernel
theorem dX4_cut_19 : decode cX4_cut 19 = .ok (.aload_n 0, 1) := by decide +kernel
theorem dX4_cut_20 : decode cX4_cut 20 = .ok (.getfield 7, 3) := by decide +kernel
theorem dX4_cut_23 : decode cX4_cut 23 = .ok (.bipush 11, 2) := by decide +kernel
theorem dX4_cut_25 : decode cX4_cut 25 = .ok (.dup2, 1) := by decide +kernel
theorem dX4_cut_26 : decode cX4_cut 26 = .ok (.iaload, 1) := by decide +kernel
theorem dX4_cut_27 : decode cX4_cut 27 = .ok (.iload_n 1, 1) := by decide +kernel
theorem dX4_cut_28 : decode cX4_cut 28 = .ok (.isub, 1) := by decide +kernel
theorem dX4_cut_29 : decode cX4_cut 29 = .ok (.iastore, 1) := by decide +kernel
theorem dX4_cut_30 : decode cX4_cut 30 = .ok (.aload_n 0, 1) := by decide +kernel
theorem dX4_cut_31 : decode cX4_cut 31 = .ok (.getfield 7, 3) := by decide +kernel
theorem dX4_cut_34 : decode cX4_cut 34 = .ok (.bipush 11, 2) := by decide +kernel
theorem dX4_cut_36 : decode cX4_cut 36 = .ok (.iaload, 1) := by decide +kernel
theorem dX4_cut_37 : decode cX4_cut 37 = .ok (.ireturn, 1) := by decide +kernel
abbrev wX4_cut : List Cond := .code yX4_cut cX4_cut 2 (some .int) :: lw_gd
theorem hdX4_cut : (yX4_cut.cls ≠ "java/lang/invoke/MethodHandle" ∧ yX4_cut.cls ≠ "java/lang/invoke/VarHandle" ∧ (parseMethodDescriptor yX4_cut.desc).map (fun d => d.parameters.length) = some 1) := by decide +kernel
def fX4_cut  (a1 : Int32) (M : xm_M) : Option (Int32 × xm_M) :=
  if a1 < (1 : Int32) then some ((-2 : Int32), M) else if a1 ≤ (M.1 1 11) then xm_lt (xm_s M 1 11 ((M.1 1 11) - a1)) (fun M1 => some (M1.1 1 11, M1)) else some ((-2 : Int32), M)
set_option maxRecDepth 20000 in
theorem kX4_cut {l : Launch}   (a1 : Int32) (M : xm_M) : xm_C l yX4_cut wX4_cut ({ frames := 0, cells := 0, slots := 0, locals := 0 }) mL (fun g => [.ref (g.1 0), .int a1]) M xm_Fi (fX4_cut  a1 M) := by
  refine xm_C.of (by decide) rfl (fun g => Nat.le_of_ble_eq_true rfl) ?_
  intro p e s m args below meth c D g A hX
  refine xm_lv (lv' := [(0, .ref (g.1 0)), (1, .int a1)]) rfl ?_
  unfold fX4_cut
  refine xm_iload_n hX 1 dX4_cut_0 rfl rfl ?_
  refine xm_iconst hX (v := 1) rfl dX4_cut_1 ?_
  refine xm_icmp_lt hX (tgt := 16) dX4_cut_2 rfl ?_ ?_
  · refine xm_bipush hX (v := -2) rfl dX4_cut_16 ?_
    exact xm_iret hX dX4_cut_18
  · refine xm_iload_n hX 1 dX4_cut_5 rfl rfl ?_
    refine xm_aload_n hX 0 dX4_cut_6 rfl rfl ?_
    refine xm_get hX (k := 0) (ci := 4) (j := 0) (C := RX4) (T := TX4) (N := 27) (v := .ref (g.1 1)) mL_0 rfl rfl rfl (by decide) (fun z hz => List.mem_cons_of_mem _ (iw_X4 z hz)) (List.mem_cons_of_mem _ gm_433) dX4_cut_7 ?_
    refine xm_bipush hX (v := 11) rfl dX4_cut_10 ?_
    refine xm_ialdL hX (n := 547) (j := 11) mL_1 (by decide) rfl dX4_cut_12 ?_
    refine xm_icmp_le hX (tgt := 19) dX4_cut_13 rfl ?_ ?_
    · refine xm_aload_n hX 0 dX4_cut_19 rfl rfl ?_
      refine xm_get hX (k := 0) (ci := 4) (j := 0) (C := RX4) (T := TX4) (N := 27) (v := .ref (g.1 1)) mL_0 rfl rfl rfl (by decide) (fun z hz => List.mem_cons_of_mem _ (iw_X4 z hz)) (List.mem_cons_of_mem _ gm_433) dX4_cut_20 ?_
      refine xm_bipush hX (v := 11) rfl dX4_cut_23 ?_
      refine xm_dup2_11 hX rfl rfl dX4_cut_25 ?_
      refine xm_ialdL hX (n := 547) (j := 11) mL_1 (by decide) rfl dX4_cut_26 ?_
      refine xm_iload_n hX 1 dX4_cut_27 rfl rfl ?_
      refine xm_isub hX dX4_cut_28 ?_
      refine xm_iastL hX (n := 547) (j := 11) mL_1 (by decide) rfl dX4_cut_29 (fun M1 => ?_)
      refine xm_aload_n hX 0 dX4_cut_30 rfl rfl ?_
      refine xm_get hX (k := 0) (ci := 4) (j := 0) (C := RX4) (T := TX4) (N := 27) (v := .ref (g.1 1)) mL_0 rfl rfl rfl (by decide) (fun z hz => List.mem_cons_of_mem _ (iw_X4 z hz)) (List.mem_cons_of_mem _ gm_433) dX4_cut_31 ?_
      refine xm_bipush hX (v := 11) rfl dX4_cut_34 ?_
      refine xm_ialdL hX (n := 547) (j := 11) mL_1 (by decide) rfl dX4_cut_36 ?_
      exact xm_iret hX dX4_cut_37
    · refine xm_bipush hX (v := -2) rfl dX4_cut_16 ?_
      exact xm_iret hX dX4_cut_18
-- ===== OdometryDeskModel.next()I ['0']
theorem dX4_next_0 : decode cX4_next 0 = .ok (.aload_n 0, 1) := by decide +kernel
theorem dX4_next_1 : decode cX4_next 1 = .ok (.getfield 213, 3) := by decide +kernel
theorem dX4_next_4 : decode cX4_next 4 = .ok (.aload_n 0, 1) := by decide +kernel
theorem dX4_next_5 : decode cX4_next 5 = .ok (.getfield 200, 3) := by decide +kernel
theorem dX4_next_8 : decode cX4_next 8 = .ok (.if_icmp .ge 15, 3) := by decide +kernel
theorem dX4_next_11 : decode cX4_next 11 = .ok (.aload_n 0, 1) := by decide +kernel
theorem dX4_next_12 : decode cX4_next 12 = .ok (.getfield 20, 3) := by decide +kernel
theorem dX4_next_15 : decode cX4_next 15 = .ok (.aload_n 0, 1) := by decide +kernel
theorem dX4_next_16 : decode cX4_next 16 = .ok (.getfield 213, 3) := by decide +kernel
theorem dX4_next_19 : decode cX4_next 19 = .ok (.iaload, 1) := by decide +kernel
theorem dX4_next_20 : decode cX4_next 20 = .ok (.goto 4, 3) := by decide +kernel
theorem dX4_next_23 : decode cX4_next 23 = .ok (.iconst 0, 1) := by decide +kernel
theorem dX4_next_24 : decode cX4_next 24 = .ok (.ireturn, 1) := by decide +kernel
abbrev wX4_next : List Cond := .code yX4_next cX4_next 1 (some .int) :: lw_gd
theorem hdX4_next : (yX4_next.cls ≠ "java/lang/invoke/MethodHandle" ∧ yX4_next.cls ≠ "java/lang/invoke/VarHandle" ∧ (parseMethodDescriptor yX4_next.desc).map (fun d => d.parameters.length) = some 0) := by decide +kernel
def fX4_next   (M : xm_M) : Option (Int32 × xm_M) :=
  if (M.1 0 4) ≤ (M.1 0 23) then some ((0 : Int32), M) else if (M.1 0 23) < 0 ∨ 100 ≤ (M.1 0 23).toNatClampNeg then none else some (M.1 4 (M.1 0 23).toNatClampNeg, M)
set_option maxRecDepth 20000 in
theorem kX4_next {l : Launch}    (M : xm_M) : xm_C l yX4_next wX4_next ({ frames := 0, cells := 0, slots := 0, locals := 0 }) mL (fun g => [.ref (g.1 0)]) M xm_Fi (fX4_next   M) := by
  refine xm_C.of (by decide) rfl (fun g => Nat.le_of_ble_eq_true rfl) ?_
  intro p e s m args below meth c D g A hX
  refine xm_lv (lv' := [(0, .ref (g.1 0))]) rfl ?_
  unfold fX4_next
  refine xm_aload_n hX 0 dX4_next_0 rfl rfl ?_
  refine xm_get hX (k := 0) (ci := 4) (j := 23) (C := RX4) (T := TX4) (N := 27) (v := .int (M.1 0 23)) mL_0 rfl rfl rfl (by decide) (fun z hz => List.mem_cons_of_mem _ (iw_X4 z hz)) (List.mem_cons_of_mem _ gm_456) dX4_next_1 ?_
  refine xm_aload_n hX 0 dX4_next_4 rfl rfl ?_
  refine xm_get hX (k := 0) (ci := 4) (j := 4) (C := RX4) (T := TX4) (N := 27) (v := .int (M.1 0 4)) mL_0 rfl rfl rfl (by decide) (fun z hz => List.mem_cons_of_mem _ (iw_X4 z hz)) (List.mem_cons_of_mem _ gm_437) dX4_next_5 ?_
  refine xm_icmp_ge hX (tgt := 23) dX4_next_8 rfl ?_ ?_
  · refine xm_iconst hX (v := 0) rfl dX4_next_23 ?_
    exact xm_iret hX dX4_next_24
  · refine xm_aload_n hX 0 dX4_next_11 rfl rfl ?_
    refine xm_get hX (k := 0) (ci := 4) (j := 3) (C := RX4) (T := TX4) (N := 27) (v := .ref (g.1 4)) mL_0 rfl rfl rfl (by decide) (fun z hz => List.mem_cons_of_mem _ (iw_X4 z hz)) (List.mem_cons_of_mem _ gm_436) dX4_next_12 ?_
    refine xm_aload_n hX 0 dX4_next_15 rfl rfl ?_
    refine xm_get hX (k := 0) (ci := 4) (j := 23) (C := RX4) (T := TX4) (N := 27) (v := .int (M.1 0 23)) mL_0 rfl rfl rfl (by decide) (fun z hz => List.mem_cons_of_mem _ (iw_X4 z hz)) (List.mem_cons_of_mem _ gm_456) dX4_next_16 ?_
    refine xm_iald hX (n := 100) mL_4 dX4_next_19 ?_
    refine xm_goto hX (tgt := 24) dX4_next_20 rfl ?_
    exact xm_iret hX dX4_next_24
-- ===== OdometryDeskModel.takeNumber(I)I ['0']
theorem dX4_takeNumber_0 : decode cX4_takeNumber 0 = .ok (.iload_n 1, 1) := by decide +kernel
theorem dX4_takeNumber_1 : decode cX4_takeNumber 1 = .ok (.bipush 9, 2) := by decide +kernel
theorem dX4_takeNumber_3 : decode cX4_takeNumber 3 = .ok (.if_icmp .ge 10, 3) := by decide +kernel
theorem dX4_takeNumber_6 : decode cX4_takeNumber 6 = .ok (.bipush 48, 2) := by decide +kernel
theorem dX4_takeNumber_8 : decode cX4_takeNumber 8 = .ok (.iload_n 1, 1) := by decide +kernel
theorem dX4_takeNumber_9 : decode cX4_takeNumber 9 = .ok (.iadd, 1) := by decide +kernel
theorem dX4_takeNumber_10 : decode cX4_takeNumber 10 = .ok (.goto 5, 3) := by decide +kernel
theorem dX4_takeNumber_13 : decode cX4_takeNumber 13 = .ok (.bipush 57, 2) := by decide +kernel
theorem dX4_takeNumber_15 : decode cX4_takeNumber 15 = .ok (.istore_n 2, 1) := by decide +kernel
theorem dX4_takeNumber_16 : decode cX4_takeNumber 16 = .ok (.aload_n 0, 1) := by decide +kernel
theorem dX4_takeNumber_17 : decode cX4_takeNumber 17 = .ok (.aload_n 0, 1) := by decide +kernel
theorem dX4_takeNumber_18 : decode cX4_takeNumber 18 = .ok (.getfield 216, 3) := by decide +kernel
theorem dX4_takeNumber_21 : decode cX4_takeNumber 21 = .ok (.ifCond .ne 16, 3) := by decide +kernel
theorem dX4_takeNumber_24 : decode cX4_takeNumber 24 = .ok (.aload_n 0, 1) := by decide +kernel
theorem dX4_takeNumber_25 : decode cX4_takeNumber 25 = .ok (.invokevirtual 220, 3) := by decide +kernel
theorem dX4_takeNumber_28 : decode cX4_takeNumber 28 = .ok (.bipush 48, 2) := by decide +kernel
theorem dX4_takeNumber_30 : decode cX4_takeNumber 30 = .ok (.iload_n 2, 1) := by decide +kernel
theorem dX4_takeNumber_31 : decode cX4_takeNumber 31 = .ok (.invokestatic 67, 3) := by decide +kernel
theorem dX4_takeNumber_34 : decode cX4_takeNumber 34 = .ok (.ifCond .ne 7, 3) := by decide +kernel
theorem dX4_takeNumber_37 : decode cX4_takeNumber 37 = .ok (.iconst 1, 1) := by decide +kernel
theorem dX4_takeNumber_38 : decode cX4_takeNumber 38 = .ok (.goto 4, 3) := by decide +kernel
theorem dX4_takeNumber_41 : decode cX4_takeNumber 41 = .ok (.iconst 0, 1) := by decide +kernel
theorem dX4_takeNumber_42 : decode cX4_takeNumber 42 = .ok (.putfield 216, 3) := by decide +kernel
theorem dX4_takeNumber_45 : decode cX4_takeNumber 45 = .ok (.aload_n 0, 1) := by decide +kernel
theorem dX4_takeNumber_46 : decode cX4_takeNumber 46 = .ok (.getfield 216, 3) := by decide +kernel
theorem dX4_takeNumber_49 : decode cX4_takeNumber 49 = .ok (.ifCond .eq 5, 3) := by decide +kernel
theorem dX4_takeNumber_52 : decode cX4_takeNumber 52 = .ok (.iconst 0, 1) := by decide +kernel
theorem dX4_takeNumber_53 : decode cX4_takeNumber 53 = .ok (.ireturn, 1) := by decide +kernel
theorem dX4_takeNumber_54 : decode cX4_takeNumber 54 = .ok (.aload_n 0, 1) := by decide +kernel
theorem dX4_takeNumber_55 : decode cX4_takeNumber 55 = .ok (.invokevirtual 220, 3) := by decide +kernel
theorem dX4_takeNumber_58 : decode cX4_takeNumber 58 = .ok (.bipush 48, 2) := by decide +kernel
theorem dX4_takeNumber_60 : decode cX4_takeNumber 60 = .ok (.isub, 1) := by decide +kernel
theorem dX4_takeNumber_61 : decode cX4_takeNumber 61 = .ok (.istore_n 3, 1) := by decide +kernel
theorem dX4_takeNumber_62 : decode cX4_takeNumber 62 = .ok (.aload_n 0, 1) := by decide +kernel
theorem dX4_takeNumber_63 : decode cX4_takeNumber 63 = .ok (.dup, 1) := by decide +kernel
theorem dX4_takeNumber_64 : decode cX4_takeNumber 64 = .ok (.getfield 213, 3) := by decide +kernel
theorem dX4_takeNumber_67 : decode cX4_takeNumber 67 = .ok (.iconst 1, 1) := by decide +kernel
theorem dX4_takeNumber_68 : decode cX4_takeNumber 68 = .ok (.iadd, 1) := by decide +kernel
theorem dX4_takeNumber_69 : decode cX4_takeNumber 69 = .ok (.putfield 213, 3) := by decide +kernel
theorem dX4_takeNumber_72 : decode cX4_takeNumber 72 = .ok (.iload_n 3, 1) := by decide +kernel
theorem dX4_takeNumber_73 : decode cX4_takeNumber 73 = .ok (.ifCond .le 59, 3) := by decide +kernel
theorem dX4_takeNumber_76 : decode cX4_takeNumber 76 = .ok (.aload_n 0, 1) := by decide +kernel
theorem dX4_takeNumber_77 : decode cX4_takeNumber 77 = .ok (.invokevirtual 220, 3) := by decide +kernel
theorem dX4_takeNumber_80 : decode cX4_takeNumber 80 = .ok (.bipush 48, 2) := by decide +kernel
theorem dX4_takeNumber_82 : decode cX4_takeNumber 82 = .ok (.bipush 57, 2) := by decide +kernel
theorem dX4_takeNumber_84 : decode cX4_takeNumber 84 = .ok (.invokestatic 67, 3) := by decide +kernel
theorem dX4_takeNumber_87 : decode cX4_takeNumber 87 = .ok (.ifCond .eq 45, 3) := by decide +kernel
theorem dX4_takeNumber_90 : decode cX4_takeNumber 90 = .ok (.bipush 10, 2) := by decide +kernel
theorem dX4_takeNumber_92 : decode cX4_takeNumber 92 = .ok (.iload_n 3, 1) := by decide +kernel
theorem dX4_takeNumber_93 : decode cX4_takeNumber 93 = .ok (.imul, 1) := by decide +kernel
theorem dX4_takeNumber_94 : decode cX4_takeNumber 94 = .ok (.aload_n 0, 1) := by decide +kernel
theorem dX4_takeNumber_95 : decode cX4_takeNumber 95 = .ok (.invokevirtual 220, 3) := by decide +kernel
theorem dX4_takeNumber_98 : decode cX4_takeNumber 98 = .ok (.iadd, 1) := by decide +kernel
theorem dX4_takeNumber_99 : decode cX4_takeNumber 99 = .ok (.bipush 48, 2) := by decide +kernel
theorem dX4_takeNumber_101 : decode cX4_takeNumber 101 = .ok (.isub, 1) := by decide +kernel
theorem dX4_takeNumber_102 : decode cX4_takeNumber 102 = .ok (.iload_n 1, 1) := by decide +kernel
theorem dX4_takeNumber_103 : decode cX4_takeNumber 103 = .ok (.if_icmp .gt 29, 3) := by decide +kernel
theorem dX4_takeNumber_106 : decode cX4_takeNumber 106 = .ok (.bipush 10, 2) := by decide +kernel
theorem dX4_takeNumber_108 : decode cX4_takeNumber 108 = .ok (.iload_n 3, 1) := by decide +kernel
theorem dX4_takeNumber_109 : decode cX4_takeNumber 109 = .ok (.imul, 1) := by decide +kernel
theorem dX4_takeNumber_110 : decode cX4_takeNumber 110 = .ok (.aload_n 0, 1) := by decide +kernel
theorem dX4_takeNumber_111 : decode cX4_takeNumber 111 = .ok (.invokevirtual 220, 3) := by decide +kernel
theorem dX4_takeNumber_114 : decode cX4_takeNumber 114 = .ok (.iadd, 1) := by decide +kernel
theorem dX4_takeNumber_115 : decode cX4_takeNumber 115 = .ok (.bipush 48, 2) := by decide +kernel
theorem dX4_takeNumber_117 : decode cX4_takeNumber 117 = .ok (.isub, 1) := by decide +kernel
theorem dX4_takeNumber_118 : decode cX4_takeNumber 118 = .ok (.istore_n 3, 1) := by decide +kernel
theorem dX4_takeNumber_119 : decode cX4_takeNumber 119 = .ok (.aload_n 0, 1) := by decide +kernel
theorem dX4_takeNumber_120 : decode cX4_takeNumber 120 = .ok (.dup, 1) := by decide +kernel
theorem dX4_takeNumber_121 : decode cX4_takeNumber 121 = .ok (.getfield 213, 3) := by decide +kernel
theorem dX4_takeNumber_124 : decode cX4_takeNumber 124 = .ok (.iconst 1, 1) := by decide +kernel
theorem dX4_takeNumber_125 : decode cX4_takeNumber 125 = .ok (.iadd, 1) := by decide +kernel
theorem dX4_takeNumber_126 : decode cX4_takeNumber 126 = .ok (.putfield 213, 3) := by decide +kernel
theorem dX4_takeNumber_129 : decode cX4_takeNumber 129 = .ok (.goto (-57), 3) := by decide +kernel
theorem dX4_takeNumber_132 : decode cX4_takeNumber 132 = .ok (.iload_n 3, 1) := by decide +kernel
theorem dX4_takeNumber_133 : decode cX4_takeNumber 133 = .ok (.ireturn, 1) := by decide +kernel
abbrev wX4_takeNumber : List Cond := .code yX4_takeNumber cX4_takeNumber 4 (some .int) :: lw_gd
theorem hdX4_takeNumber : (yX4_takeNumber.cls ≠ "java/lang/invoke/MethodHandle" ∧ yX4_takeNumber.cls ≠ "java/lang/invoke/VarHandle" ∧ (parseMethodDescriptor yX4_takeNumber.desc).map (fun d => d.parameters.length) = some 1) := by decide +kernel
def fX4_takeNumber_132   (b3 : Int32) (M : xm_M) : Option (Int32 × xm_M) :=
  some (b3, M)
set_option maxRecDepth 20000 in
theorem tfX4_takeNumber_132 {p : Program} {l : Launch} {e : Env} {s : State} {m : MethodId} {args : Array Value} {below : List Frame} {meth : Method} {c : Code} {D : va_G} {g : xm_G} {A : Nat → Prop} (hX : xm_X p m meth c cX4_takeNumber 4 s args wX4_takeNumber RX4 (some .int) D mL g A)     : ∀ (b3 : Int32), ∀ (M : xm_M), xm_J p l e ({ frames := 1, cells := 0, slots := 0, locals := 22 }) s m args below meth c 4 D mL g A (xm_Fi g) 132 [(3, .int b3)] [] M (fX4_takeNumber_132 b3 M) := by
  intro b3 M
  unfold fX4_takeNumber_132
  refine xm_iload_n hX 0 dX4_takeNumber_132 rfl rfl ?_
  exact xm_iret hX dX4_takeNumber_133
def fX4_takeNumber_72  (k72 : Int32 → Int32 → xm_M → Option (Int32 × xm_M)) (b1 : Int32) (b3 : Int32) (M : xm_M) : Option (Int32 × xm_M) :=
  if b3 ≤ 0 then fX4_takeNumber_132 b3 M else xm_bi (fX4_next M) (fun x7 M6 => xm_bi (fX4_in x7 (48 : Int32) (57 : Int32) M6) (fun x9 M8 => if x9 = 0 then fX4_takeNumber_132 b3 M8 else xm_bi (fX4_next M8) (fun x11 M10 => if b1 < ((((10 : Int32) * b3) + x11) - (48 : Int32)) then fX4_takeNumber_132 b3 M10 else xm_bi (fX4_next M10) (fun x13 M12 => xm_lt ((((10 : Int32) * b3) + x13) - (48 : Int32)) (fun x14 => xm_lt (xm_s M12 0 23 ((M12.1 0 23) + (1 : Int32))) (fun M15 => k72 b1 x14 M15))))))
set_option maxRecDepth 20000 in
theorem tfX4_takeNumber_72 {p : Program} {l : Launch} {e : Env} {s : State} {m : MethodId} {args : Array Value} {below : List Frame} {meth : Method} {c : Code} {D : va_G} {g : xm_G} {A : Nat → Prop} (hX : xm_X p m meth c cX4_takeNumber 4 s args wX4_takeNumber RX4 (some .int) D mL g A)   (k72 : Int32 → Int32 → xm_M → Option (Int32 × xm_M)) (h72 : ∀ (b1 : Int32), ∀ (b3 : Int32), ∀ (M : xm_M), xm_J p l e ({ frames := 1, cells := 0, slots := 0, locals := 22 }) s m args below meth c 4 D mL g A (xm_Fi g) 72 [(0, .ref (g.1 0)), (1, .int b1), (3, .int b3)] [] M (k72 b1 b3 M)) : ∀ (b1 : Int32), ∀ (b3 : Int32), ∀ (M : xm_M), xm_J p l e ({ frames := 1, cells := 0, slots := 0, locals := 22 }) s m args below meth c 4 D mL g A (xm_Fi g) 72 [(0, .ref (g.1 0)), (1, .int b1), (3, .int b3)] [] M (fX4_takeNumber_72 k72 b1 b3 M) := by
  intro b1 b3 M
  unfold fX4_takeNumber_72
  refine xm_iload_n hX 2 dX4_takeNumber_72 rfl rfl ?_
  refine xm_if_le hX (tgt := 132) dX4_takeNumber_73 rfl ?_ ?_
  · refine xm_weak [2] (lv' := [(3, .int b3)]) rfl ?_
    exact tfX4_takeNumber_132 hX b3 M
  · refine xm_aload_n hX 0 dX4_takeNumber_76 rfl rfl ?_
    refine xm_calli hX (xm_runV hX (k := 0) (ci := 4) (As := (fun g => [])) (kX4_next M) mL_0 rfl (xm_gV gm_669 gm_670 gm_733 gm_5 gm_671) rfl ⟨rfl, rfl⟩ ⟨rfl, hdX4_next⟩ ⟨Nat.le_of_ble_eq_true rfl, Nat.le_of_ble_eq_true rfl⟩ rfl (Nat.le_of_ble_eq_true rfl) rfl dX4_takeNumber_77) (fun x7 M6 => ?_)
    refine xm_bipush hX (v := 48) rfl dX4_takeNumber_80 ?_
    refine xm_bipush hX (v := 57) rfl dX4_takeNumber_82 ?_
    refine xm_calli hX (xm_runS hX (As := (fun g => [.int x7, .int (48 : Int32), .int (57 : Int32)])) (kX4_in x7 (48 : Int32) (57 : Int32) M6) (xm_gS gm_495 gm_496 gm_5 gm_497) rfl ⟨rfl, rfl⟩ hdX4_in ⟨Nat.le_of_ble_eq_true rfl, Nat.le_of_ble_eq_true rfl⟩ rfl (Nat.le_of_ble_eq_true rfl) rfl dX4_takeNumber_84) (fun x9 M8 => ?_)
    refine xm_if_eq hX (tgt := 132) dX4_takeNumber_87 rfl ?_ ?_
    · refine xm_weak [2] (lv' := [(3, .int b3)]) rfl ?_
      exact tfX4_takeNumber_132 hX b3 M8
    · refine xm_bipush hX (v := 10) rfl dX4_takeNumber_90 ?_
      refine xm_iload_n hX 2 dX4_takeNumber_92 rfl rfl ?_
      refine xm_imul hX dX4_takeNumber_93 ?_
      refine xm_aload_n hX 0 dX4_takeNumber_94 rfl rfl ?_
      refine xm_calli hX (xm_runV hX (k := 0) (ci := 4) (As := (fun g => [])) (kX4_next M8) mL_0 rfl (xm_gV gm_669 gm_670 gm_733 gm_5 gm_671) rfl ⟨rfl, rfl⟩ ⟨rfl, hdX4_next⟩ ⟨Nat.le_of_ble_eq_true rfl, Nat.le_of_ble_eq_true rfl⟩ rfl (Nat.le_of_ble_eq_true rfl) rfl dX4_takeNumber_95) (fun x11 M10 => ?_)
      refine xm_iadd hX dX4_takeNumber_98 ?_
      refine xm_bipush hX (v := 48) rfl dX4_takeNumber_99 ?_
      refine xm_isub hX dX4_takeNumber_101 ?_
      refine xm_iload_n hX 1 dX4_takeNumber_102 rfl rfl ?_
      refine xm_icmp_gt hX (tgt := 132) dX4_takeNumber_103 rfl ?_ ?_
      · refine xm_weak [2] (lv' := [(3, .int b3)]) rfl ?_
        exact tfX4_takeNumber_132 hX b3 M10
      · refine xm_bipush hX (v := 10) rfl dX4_takeNumber_106 ?_
        refine xm_iload_n hX 2 dX4_takeNumber_108 rfl rfl ?_
        refine xm_imul hX dX4_takeNumber_109 ?_
        refine xm_aload_n hX 0 dX4_takeNumber_110 rfl rfl ?_
        refine xm_calli hX (xm_runV hX (k := 0) (ci := 4) (As := (fun g => [])) (kX4_next M10) mL_0 rfl (xm_gV gm_669 gm_670 gm_733 gm_5 gm_671) rfl ⟨rfl, rfl⟩ ⟨rfl, hdX4_next⟩ ⟨Nat.le_of_ble_eq_true rfl, Nat.le_of_ble_eq_true rfl⟩ rfl (Nat.le_of_ble_eq_true rfl) rfl dX4_takeNumber_111) (fun x13 M12 => ?_)
        refine xm_iadd hX dX4_takeNumber_114 ?_
        refine xm_bipush hX (v := 48) rfl dX4_takeNumber_115 ?_
        refine xm_isub hX dX4_takeNumber_117 ?_
        refine xm_nmi (fun x14 => ?_)
        refine xm_istore_n hX (lv' := [(3, .int x14), (0, .ref (g.1 0)), (1, .int b1)]) dX4_takeNumber_118 rfl (by decide) rfl ?_
        refine xm_aload_n hX 1 dX4_takeNumber_119 rfl rfl ?_
        refine xm_dup hX rfl dX4_takeNumber_120 ?_
        refine xm_get hX (k := 0) (ci := 4) (j := 23) (C := RX4) (T := TX4) (N := 27) (v := .int (M12.1 0 23)) mL_0 rfl rfl rfl (by decide) (fun z hz => List.mem_cons_of_mem _ (iw_X4 z hz)) (List.mem_cons_of_mem _ gm_456) dX4_takeNumber_121 ?_
        refine xm_iconst hX (v := 1) rfl dX4_takeNumber_124 ?_
        refine xm_iadd hX dX4_takeNumber_125 ?_
        refine xm_puti hX (k := 0) (ci := 4) (j := 23) (C := RX4) (T := TX4) (N := 27) (t0 := tyX4) mL_0 rfl rfl (by decide) (fun z hz => List.mem_cons_of_mem _ (iw_X4 z hz)) tyX4_ok nmX4 rfl rfl (List.mem_cons_of_mem _ gm_456) dX4_takeNumber_126 (fun M15 => ?_)
        refine xm_goto hX (tgt := 72) dX4_takeNumber_129 rfl ?_
        refine xm_weak [1, 2, 0] (lv' := [(0, .ref (g.1 0)), (1, .int b1), (3, .int x14)]) rfl ?_
        exact h72 b1 x14 M15
def fX4_takeNumber_72_it   (nq : Nat) : Int32 → Int32 → xm_M → Option (Int32 × xm_M) := xm_it (fun kq => fX4_takeNumber_72 kq) (fun _ _ _ => none) nq
theorem tfX4_takeNumber_72_it {p : Program} {l : Launch} {e : Env} {s : State} {m : MethodId} {args : Array Value} {below : List Frame} {meth : Method} {c : Code} {D : va_G} {g : xm_G} {A : Nat → Prop} (hX : xm_X p m meth c cX4_takeNumber 4 s args wX4_takeNumber RX4 (some .int) D mL g A)     : ∀ (nq : Nat), ∀ (b1 : Int32), ∀ (b3 : Int32), ∀ (M : xm_M), xm_J p l e ({ frames := 1, cells := 0, slots := 0, locals := 22 }) s m args below meth c 4 D mL g A (xm_Fi g) 72 [(0, .ref (g.1 0)), (1, .int b1), (3, .int b3)] [] M (fX4_takeNumber_72_it  nq b1 b3 M) := by
  intro nq
  induction nq with
  | zero => exact fun _ _ _ => xm_none
  | succ nq ih => exact tfX4_takeNumber_72 hX _ ih
def fX4_takeNumber_42   (b1 : Int32) (s0 : Int32) (M : xm_M) : Option (Int32 × xm_M) :=
  if s0 = 0 ∨ s0 = 1 then xm_lt (xm_s M 0 24 s0) (fun M1 => if (M1.1 0 24) = 0 then xm_bi (fX4_next M1) (fun x3 M2 => xm_lt (x3 - (48 : Int32)) (fun x4 => xm_lt (xm_s M2 0 23 ((M2.1 0 23) + (1 : Int32))) (fun M5 => fX4_takeNumber_72_it xm_N b1 x4 M5))) else some ((0 : Int32), M1)) else none
set_option maxRecDepth 20000 in
theorem tfX4_takeNumber_42 {p : Program} {l : Launch} {e : Env} {s : State} {m : MethodId} {args : Array Value} {below : List Frame} {meth : Method} {c : Code} {D : va_G} {g : xm_G} {A : Nat → Prop} (hX : xm_X p m meth c cX4_takeNumber 4 s args wX4_takeNumber RX4 (some .int) D mL g A)     : ∀ (b1 : Int32), ∀ (s0 : Int32), ∀ (M : xm_M), xm_J p l e ({ frames := 1, cells := 0, slots := 0, locals := 22 }) s m args below meth c 4 D mL g A (xm_Fi g) 42 [(0, .ref (g.1 0)), (1, .int b1)] [.int s0, .ref (g.1 0)] M (fX4_takeNumber_42 b1 s0 M) := by
  intro b1 s0 M
  unfold fX4_takeNumber_42
  refine xm_putz hX (k := 0) (ci := 4) (j := 24) (C := RX4) (T := TX4) (N := 27) (t0 := tyX4) mL_0 rfl rfl (by decide) (fun z hz => List.mem_cons_of_mem _ (iw_X4 z hz)) tyX4_ok nmX4 rfl rfl (List.mem_cons_of_mem _ gm_457) dX4_takeNumber_42 (fun M1 => ?_)
  refine xm_aload_n hX 0 dX4_takeNumber_45 rfl rfl ?_
  refine xm_get hX (k := 0) (ci := 4) (j := 24) (C := RX4) (T := TX4) (N := 27) (v := .int (M1.1 0 24)) mL_0 rfl rfl rfl (by decide) (fun z hz => List.mem_cons_of_mem _ (iw_X4 z hz)) (List.mem_cons_of_mem _ gm_457) dX4_takeNumber_46 ?_
  refine xm_if_eq hX (tgt := 54) dX4_takeNumber_49 rfl ?_ ?_
  · refine xm_aload_n hX 0 dX4_takeNumber_54 rfl rfl ?_
    refine xm_calli hX (xm_runV hX (k := 0) (ci := 4) (As := (fun g => [])) (kX4_next M1) mL_0 rfl (xm_gV gm_669 gm_670 gm_733 gm_5 gm_671) rfl ⟨rfl, rfl⟩ ⟨rfl, hdX4_next⟩ ⟨Nat.le_of_ble_eq_true rfl, Nat.le_of_ble_eq_true rfl⟩ rfl (Nat.le_of_ble_eq_true rfl) rfl dX4_takeNumber_55) (fun x3 M2 => ?_)
    refine xm_bipush hX (v := 48) rfl dX4_takeNumber_58 ?_
    refine xm_isub hX dX4_takeNumber_60 ?_
    refine xm_nmi (fun x4 => ?_)
    refine xm_istore_n hX (lv' := [(3, .int x4), (0, .ref (g.1 0)), (1, .int b1)]) dX4_takeNumber_61 rfl (by decide) rfl ?_
    refine xm_aload_n hX 1 dX4_takeNumber_62 rfl rfl ?_
    refine xm_dup hX rfl dX4_takeNumber_63 ?_
    refine xm_get hX (k := 0) (ci := 4) (j := 23) (C := RX4) (T := TX4) (N := 27) (v := .int (M2.1 0 23)) mL_0 rfl rfl rfl (by decide) (fun z hz => List.mem_cons_of_mem _ (iw_X4 z hz)) (List.mem_cons_of_mem _ gm_456) dX4_takeNumber_64 ?_
    refine xm_iconst hX (v := 1) rfl dX4_takeNumber_67 ?_
    refine xm_iadd hX dX4_takeNumber_68 ?_
    refine xm_puti hX (k := 0) (ci := 4) (j := 23) (C := RX4) (T := TX4) (N := 27) (t0 := tyX4) mL_0 rfl rfl (by decide) (fun z hz => List.mem_cons_of_mem _ (iw_X4 z hz)) tyX4_ok nmX4 rfl rfl (List.mem_cons_of_mem _ gm_456) dX4_takeNumber_69 (fun M5 => ?_)
    refine xm_weak [1, 2, 0] (lv' := [(0, .ref (g.1 0)), (1, .int b1), (3, .int x4)]) rfl ?_
    exact tfX4_takeNumber_72_it hX xm_N b1 x4 M5
  · refine xm_iconst hX (v := 0) rfl dX4_takeNumber_52 ?_
    exact xm_iret hX dX4_takeNumber_53
def fX4_takeNumber_37   (b1 : Int32) (M : xm_M) : Option (Int32 × xm_M) :=
  fX4_takeNumber_42 b1 (1 : Int32) M
set_option maxRecDepth 20000 in
theorem tfX4_takeNumber_37 {p : Program} {l : Launch} {e : Env} {s : State} {m : MethodId} {args : Array Value} {below : List Frame} {meth : Method} {c : Code} {D : va_G} {g : xm_G} {A : Nat → Prop} (hX : xm_X p m meth c cX4_takeNumber 4 s args wX4_takeNumber RX4 (some .int) D mL g A)     : ∀ (b1 : Int32), ∀ (M : xm_M), xm_J p l e ({ frames := 1, cells := 0, slots := 0, locals := 22 }) s m args below meth c 4 D mL g A (xm_Fi g) 37 [(0, .ref (g.1 0)), (1, .int b1)] [.ref (g.1 0)] M (fX4_takeNumber_37 b1 M) := by
  intro b1 M
  unfold fX4_takeNumber_37
  refine xm_iconst hX (v := 1) rfl dX4_takeNumber_37 ?_
  refine xm_goto hX (tgt := 42) dX4_takeNumber_38 rfl ?_
  exact tfX4_takeNumber_42 hX b1 (1 : Int32) M
def fX4_takeNumber_15   (b1 : Int32) (s0 : Int32) (M : xm_M) : Option (Int32 × xm_M) :=
  if (M.1 0 24) = 0 then xm_bi (fX4_next M) (fun x17 M16 => xm_bi (fX4_in x17 (48 : Int32) s0 M16) (fun x19 M18 => if x19 = 0 then fX4_takeNumber_37 b1 M18 else fX4_takeNumber_42 b1 (0 : Int32) M18)) else fX4_takeNumber_37 b1 M
set_option maxRecDepth 20000 in
theorem tfX4_takeNumber_15 {p : Program} {l : Launch} {e : Env} {s : State} {m : MethodId} {args : Array Value} {below : List Frame} {meth : Method} {c : Code} {D : va_G} {g : xm_G} {A : Nat → Prop} (hX : xm_X p m meth c cX4_takeNumber 4 s args wX4_takeNumber RX4 (some .int) D mL g A)     : ∀ (b1 : Int32), ∀ (s0 : Int32), ∀ (M : xm_M), xm_J p l e ({ frames := 1, cells := 0, slots := 0, locals := 22 }) s m args below meth c 4 D mL g A (xm_Fi g) 15 [(0, .ref (g.1 0)), (1, .int b1)] [.int s0] M (fX4_takeNumber_15 b1 s0 M) := by
  intro b1 s0 M
  unfold fX4_takeNumber_15
  refine xm_istore_n hX (lv' := [(2, .int s0), (0, .ref (g.1 0)), (1, .int b1)]) dX4_takeNumber_15 rfl (by decide) rfl ?_
  refine xm_aload_n hX 1 dX4_takeNumber_16 rfl rfl ?_
  refine xm_aload_n hX 1 dX4_takeNumber_17 rfl rfl ?_
  refine xm_get hX (k := 0) (ci := 4) (j := 24) (C := RX4) (T := TX4) (N := 27) (v := .int (M.1 0 24)) mL_0 rfl rfl rfl (by decide) (fun z hz => List.mem_cons_of_mem _ (iw_X4 z hz)) (List.mem_cons_of_mem _ gm_457) dX4_takeNumber_18 ?_
  refine xm_if_ne hX (tgt := 37) dX4_takeNumber_21 rfl ?_ ?_
  · refine xm_weak [1, 2] (lv' := [(0, .ref (g.1 0)), (1, .int b1)]) rfl ?_
    exact tfX4_takeNumber_37 hX b1 M
  · refine xm_aload_n hX 1 dX4_takeNumber_24 rfl rfl ?_
    refine xm_calli hX (xm_runV hX (k := 0) (ci := 4) (As := (fun g => [])) (kX4_next M) mL_0 rfl (xm_gV gm_669 gm_670 gm_733 gm_5 gm_671) rfl ⟨rfl, rfl⟩ ⟨rfl, hdX4_next⟩ ⟨Nat.le_of_ble_eq_true rfl, Nat.le_of_ble_eq_true rfl⟩ rfl (Nat.le_of_ble_eq_true rfl) rfl dX4_takeNumber_25) (fun x17 M16 => ?_)
    refine xm_bipush hX (v := 48) rfl dX4_takeNumber_28 ?_
    refine xm_iload_n hX 0 dX4_takeNumber_30 rfl rfl ?_
    refine xm_calli hX (xm_runS hX (As := (fun g => [.int x17, .int (48 : Int32), .int s0])) (kX4_in x17 (48 : Int32) s0 M16) (xm_gS gm_495 gm_496 gm_5 gm_497) rfl ⟨rfl, rfl⟩ hdX4_in ⟨Nat.le_of_ble_eq_true rfl, Nat.le_of_ble_eq_true rfl⟩ rfl (Nat.le_of_ble_eq_true rfl) rfl dX4_takeNumber_31) (fun x19 M18 => ?_)
    refine xm_if_ne hX (tgt := 41) dX4_takeNumber_34 rfl ?_ ?_
    · refine xm_iconst hX (v := 0) rfl dX4_takeNumber_41 ?_
      refine xm_weak [1, 2] (lv' := [(0, .ref (g.1 0)), (1, .int b1)]) rfl ?_
      exact tfX4_takeNumber_42 hX b1 (0 : Int32) M18
    · refine xm_weak [1, 2] (lv' := [(0, .ref (g.1 0)), (1, .int b1)]) rfl ?_
      exact tfX4_takeNumber_37 hX b1 M18
def fX4_takeNumber  (a1 : Int32) (M : xm_M) : Option (Int32 × xm_M) :=
  if (9 : Int32) ≤ a1 then fX4_takeNumber_15 a1 (57 : Int32) M else fX4_takeNumber_15 a1 ((48 : Int32) + a1) M
set_option maxRecDepth 20000 in
theorem kX4_takeNumber {l : Launch}   (a1 : Int32) (M : xm_M) : xm_C l yX4_takeNumber wX4_takeNumber ({ frames := 1, cells := 0, slots := 0, locals := 22 }) mL (fun g => [.ref (g.1 0), .int a1]) M xm_Fi (fX4_takeNumber  a1 M) := by
  refine xm_C.of (by decide) rfl (fun g => Nat.le_of_ble_eq_true rfl) ?_
  intro p e s m args below meth c D g A hX
  refine xm_lv (lv' := [(0, .ref (g.1 0)), (1, .int a1)]) rfl ?_
  unfold fX4_takeNumber
  refine xm_iload_n hX 1 dX4_takeNumber_0 rfl rfl ?_
  refine xm_bipush hX (v := 9) rfl dX4_takeNumber_1 ?_
  refine xm_icmp_ge hX (tgt := 13) dX4_takeNumber_3 rfl ?_ ?_
  · refine xm_bipush hX (v := 57) rfl dX4_takeNumber_13 ?_
    exact tfX4_takeNumber_15 hX a1 (57 : Int32) M
  · refine xm_bipush hX (v := 48) rfl dX4_takeNumber_6 ?_
    refine xm_iload_n hX 1 dX4_takeNumber_8 rfl rfl ?_
    refine xm_iadd hX dX4_takeNumber_9 ?_
    refine xm_goto hX (tgt := 15) dX4_takeNumber_10 rfl ?_
    exact tfX4_takeNumber_15 hX a1 ((48 : Int32) + a1) M
-- ===== OdometryDeskModel.takeInteger(I)I ['0']
theorem dX4_takeInteger_0 : decode cX4_takeInteger 0 = .ok (.aload_n 0, 1) := by decide +kernel
theorem dX4_takeInteger_1 : decode cX4_takeInteger 1 = .ok (.getfield 216, 3) := by decide +kernel
theorem dX4_takeInteger_4 : decode cX4_takeInteger 4 = .ok (.ifCond .ne 16, 3) := by decide +kernel
theorem dX4_takeInteger_7 : decode cX4_takeInteger 7 = .ok (.aload_n 0, 1) := by decide +kernel
theorem dX4_takeInteger_8 : decode cX4_takeInteger 8 = .ok (.invokevirtual 220, 3) := by decide +kernel
theorem dX4_takeInteger_11 : decode cX4_takeInteger 11 = .ok (.bipush 45, 2) := by decide +kernel
theorem dX4_takeInteger_13 : decode cX4_takeInteger 13 = .ok (.if_icmp .ne 7, 3) := by decide +kernel
theorem dX4_takeInteger_16 : decode cX4_takeInteger 16 = .ok (.iconst 1, 1) := by decide +kernel
theorem dX4_takeInteger_17 : decode cX4_takeInteger 17 = .ok (.goto 4, 3) := by decide +kernel
theorem dX4_takeInteger_20 : decode cX4_takeInteger 20 = .ok (.iconst 0, 1) := by decide +kernel
theorem dX4_takeInteger_21 : decode cX4_takeInteger 21 = .ok (.istore_n 2, 1) := by decide +kernel
theorem dX4_takeInteger_22 : decode cX4_takeInteger 22 = .ok (.aload_n 0, 1) := by decide +kernel
theorem dX4_takeInteger_23 : decode cX4_takeInteger 23 = .ok (.dup, 1) := by decide +kernel
theorem dX4_takeInteger_24 : decode cX4_takeInteger 24 = .ok (.getfield 213, 3) := by decide +kernel
theorem dX4_takeInteger_27 : decode cX4_takeInteger 27 = .ok (.iload_n 2, 1) := by decide +kernel
theorem dX4_takeInteger_28 : decode cX4_takeInteger 28 = .ok (.ifCond .eq 7, 3) := by decide +kernel
theorem dX4_takeInteger_31 : decode cX4_takeInteger 31 = .ok (.iconst 1, 1) := by decide +kernel
theorem dX4_takeInteger_32 : decode cX4_takeInteger 32 = .ok (.goto 4, 3) := by decide +kernel
theorem dX4_takeInteger_35 : decode cX4_takeInteger 35 = .ok (.iconst 0, 1) := by decide +kernel
theorem dX4_takeInteger_36 : decode cX4_takeInteger 36 = .ok (.iadd, 1) := by decide +kernel
theorem dX4_takeInteger_37 : decode cX4_takeInteger 37 = .ok (.putfield 213, 3) := by decide +kernel
theorem dX4_takeInteger_40 : decode cX4_takeInteger 40 = .ok (.aload_n 0, 1) := by decide +kernel
theorem dX4_takeInteger_41 : decode cX4_takeInteger 41 = .ok (.iload_n 1, 1) := by decide +kernel
theorem dX4_takeInteger_42 : decode cX4_takeInteger 42 = .ok (.invokevirtual 223, 3) := by decide +kernel
theorem dX4_takeInteger_45 : decode cX4_takeInteger 45 = .ok (.istore_n 3, 1) := by decide +kernel
theorem dX4_takeInteger_46 : decode cX4_takeInteger 46 = .ok (.iload_n 2, 1) := by decide +kernel
theorem dX4_takeInteger_47 : decode cX4_takeInteger 47 = .ok (.ifCond .eq 8, 3) := by decide +kernel
theorem dX4_takeInteger_50 : decode cX4_takeInteger 50 = .ok (.iload_n 3, 1) := by decide +kernel
theorem dX4_takeInteger_51 : decode cX4_takeInteger 51 = .ok (.ineg, 1) := by decide +kernel
theorem dX4_takeInteger_52 : decode cX4_takeInteger 52 = .ok (.goto 4, 3) := by decide +kernel
theorem dX4_takeInteger_55 : decode cX4_takeInteger 55 = .ok (.iload_n 3, 1) := by decide +kernel
theorem dX4_takeInteger_56 : decode cX4_takeInteger 56 = .ok (.ireturn, 1) := by decide +kernel
abbrev wX4_takeInteger : List Cond := .code yX4_takeInteger cX4_takeInteger 4 (some .int) :: lw_gd
theorem hdX4_takeInteger : (yX4_takeInteger.cls ≠ "java/lang/invoke/MethodHandle" ∧ yX4_takeInteger.cls ≠ "java/lang/invoke/VarHandle" ∧ (parseMethodDescriptor yX4_takeInteger.desc).map (fun d => d.parameters.length) = some 1) := by decide +kernel
def fX4_takeInteger_36   (b1 : Int32) (b2 : Int32) (s0 : Int32) (s1 : Int32) (M : xm_M) : Option (Int32 × xm_M) :=
  xm_lt (xm_s M 0 23 (s1 + s0)) (fun M1 => xm_bi (fX4_takeNumber b1 M1) (fun x3 M2 => if b2 = 0 then some (x3, M2) else some (-x3, M2)))
set_option maxRecDepth 20000 in
theorem tfX4_takeInteger_36 {p : Program} {l : Launch} {e : Env} {s : State} {m : MethodId} {args : Array Value} {below : List Frame} {meth : Method} {c : Code} {D : va_G} {g : xm_G} {A : Nat → Prop} (hX : xm_X p m meth c cX4_takeInteger 4 s args wX4_takeInteger RX4 (some .int) D mL g A)     : ∀ (b1 : Int32), ∀ (b2 : Int32), ∀ (s0 : Int32), ∀ (s1 : Int32), ∀ (M : xm_M), xm_J p l e ({ frames := 2, cells := 0, slots := 0, locals := 45 }) s m args below meth c 4 D mL g A (xm_Fi g) 36 [(0, .ref (g.1 0)), (1, .int b1), (2, .int b2)] [.int s0, .int s1, .ref (g.1 0)] M (fX4_takeInteger_36 b1 b2 s0 s1 M) := by
  intro b1 b2 s0 s1 M
  unfold fX4_takeInteger_36
  refine xm_iadd hX dX4_takeInteger_36 ?_
  refine xm_puti hX (k := 0) (ci := 4) (j := 23) (C := RX4) (T := TX4) (N := 27) (t0 := tyX4) mL_0 rfl rfl (by decide) (fun z hz => List.mem_cons_of_mem _ (iw_X4 z hz)) tyX4_ok nmX4 rfl rfl (List.mem_cons_of_mem _ gm_456) dX4_takeInteger_37 (fun M1 => ?_)
  refine xm_aload_n hX 0 dX4_takeInteger_40 rfl rfl ?_
  refine xm_iload_n hX 1 dX4_takeInteger_41 rfl rfl ?_
  refine xm_calli hX (xm_runV hX (k := 0) (ci := 4) (As := (fun g => [.int b1])) (kX4_takeNumber b1 M1) mL_0 rfl (xm_gV gm_672 gm_673 gm_734 gm_5 gm_674) rfl ⟨rfl, rfl⟩ ⟨rfl, hdX4_takeNumber⟩ ⟨Nat.le_of_ble_eq_true rfl, Nat.le_of_ble_eq_true rfl⟩ rfl (Nat.le_of_ble_eq_true rfl) rfl dX4_takeInteger_42) (fun x3 M2 => ?_)
  refine xm_istore_n hX (lv' := [(3, .int x3), (0, .ref (g.1 0)), (1, .int b1), (2, .int b2)]) dX4_takeInteger_45 rfl (by decide) rfl ?_
  refine xm_iload_n hX 3 dX4_takeInteger_46 rfl rfl ?_
  refine xm_if_eq hX (tgt := 55) dX4_takeInteger_47 rfl ?_ ?_
  · refine xm_iload_n hX 0 dX4_takeInteger_55 rfl rfl ?_
    exact xm_iret hX dX4_takeInteger_56
  · refine xm_iload_n hX 0 dX4_takeInteger_50 rfl rfl ?_
    refine xm_ineg hX dX4_takeInteger_51 ?_
    refine xm_goto hX (tgt := 56) dX4_takeInteger_52 rfl ?_
    exact xm_iret hX dX4_takeInteger_56
def fX4_takeInteger_21   (b1 : Int32) (s0 : Int32) (M : xm_M) : Option (Int32 × xm_M) :=
  if s0 = 0 then fX4_takeInteger_36 b1 s0 (0 : Int32) (M.1 0 23) M else fX4_takeInteger_36 b1 s0 (1 : Int32) (M.1 0 23) M
set_option maxRecDepth 20000 in
theorem tfX4_takeInteger_21 {p : Program} {l : Launch} {e : Env} {s : State} {m : MethodId} {args : Array Value} {below : List Frame} {meth : Method} {c : Code} {D : va_G} {g : xm_G} {A : Nat → Prop} (hX : xm_X p m meth c cX4_takeInteger 4 s args wX4_takeInteger RX4 (some .int) D mL g A)     : ∀ (b1 : Int32), ∀ (s0 : Int32), ∀ (M : xm_M), xm_J p l e ({ frames := 2, cells := 0, slots := 0, locals := 45 }) s m args below meth c 4 D mL g A (xm_Fi g) 21 [(0, .ref (g.1 0)), (1, .int b1)] [.int s0] M (fX4_takeInteger_21 b1 s0 M) := by
  intro b1 s0 M
  unfold fX4_takeInteger_21
  refine xm_istore_n hX (lv' := [(2, .int s0), (0, .ref (g.1 0)), (1, .int b1)]) dX4_takeInteger_21 rfl (by decide) rfl ?_
  refine xm_aload_n hX 1 dX4_takeInteger_22 rfl rfl ?_
  refine xm_dup hX rfl dX4_takeInteger_23 ?_
  refine xm_get hX (k := 0) (ci := 4) (j := 23) (C := RX4) (T := TX4) (N := 27) (v := .int (M.1 0 23)) mL_0 rfl rfl rfl (by decide) (fun z hz => List.mem_cons_of_mem _ (iw_X4 z hz)) (List.mem_cons_of_mem _ gm_456) dX4_takeInteger_24 ?_
  refine xm_iload_n hX 0 dX4_takeInteger_27 rfl rfl ?_
  refine xm_if_eq hX (tgt := 35) dX4_takeInteger_28 rfl ?_ ?_
  · refine xm_iconst hX (v := 0) rfl dX4_takeInteger_35 ?_
    refine xm_weak [1, 2, 0] (lv' := [(0, .ref (g.1 0)), (1, .int b1), (2, .int s0)]) rfl ?_
    exact tfX4_takeInteger_36 hX b1 s0 (0 : Int32) (M.1 0 23) M
  · refine xm_iconst hX (v := 1) rfl dX4_takeInteger_31 ?_
    refine xm_goto hX (tgt := 36) dX4_takeInteger_32 rfl ?_
    refine xm_weak [1, 2, 0] (lv' := [(0, .ref (g.1 0)), (1, .int b1), (2, .int s0)]) rfl ?_
    exact tfX4_takeInteger_36 hX b1 s0 (1 : Int32) (M.1 0 23) M
def fX4_takeInteger_20   (b1 : Int32) (M : xm_M) : Option (Int32 × xm_M) :=
  fX4_takeInteger_21 b1 (0 : Int32) M
set_option maxRecDepth 20000 in
theorem tfX4_takeInteger_20 {p : Program} {l : Launch} {e : Env} {s : State} {m : MethodId} {args : Array Value} {below : List Frame} {meth : Method} {c : Code} {D : va_G} {g : xm_G} {A : Nat → Prop} (hX : xm_X p m meth c cX4_takeInteger 4 s args wX4_takeInteger RX4 (some .int) D mL g A)     : ∀ (b1 : Int32), ∀ (M : xm_M), xm_J p l e ({ frames := 2, cells := 0, slots := 0, locals := 45 }) s m args below meth c 4 D mL g A (xm_Fi g) 20 [(0, .ref (g.1 0)), (1, .int b1)] [] M (fX4_takeInteger_20 b1 M) := by
  intro b1 M
  unfold fX4_takeInteger_20
  refine xm_iconst hX (v := 0) rfl dX4_takeInteger_20 ?_
  exact tfX4_takeInteger_21 hX b1 (0 : Int32) M
def fX4_takeInteger  (a1 : Int32) (M : xm_M) : Option (Int32 × xm_M) :=
  if (M.1 0 24) = 0 then xm_bi (fX4_next M) (fun x5 M4 => if x5 = (45 : Int32) then fX4_takeInteger_21 a1 (1 : Int32) M4 else fX4_takeInteger_20 a1 M4) else fX4_takeInteger_20 a1 M
set_option maxRecDepth 20000 in
theorem kX4_takeInteger {l : Launch}   (a1 : Int32) (M : xm_M) : xm_C l yX4_takeInteger wX4_takeInteger ({ frames := 2, cells := 0, slots := 0, locals := 45 }) mL (fun g => [.ref (g.1 0), .int a1]) M xm_Fi (fX4_takeInteger  a1 M) := by
  refine xm_C.of (by decide) rfl (fun g => Nat.le_of_ble_eq_true rfl) ?_
  intro p e s m args below meth c D g A hX
  refine xm_lv (lv' := [(0, .ref (g.1 0)), (1, .int a1)]) rfl ?_
  unfold fX4_takeInteger
  refine xm_aload_n hX 0 dX4_takeInteger_0 rfl rfl ?_
  refine xm_get hX (k := 0) (ci := 4) (j := 24) (C := RX4) (T := TX4) (N := 27) (v := .int (M.1 0 24)) mL_0 rfl rfl rfl (by decide) (fun z hz => List.mem_cons_of_mem _ (iw_X4 z hz)) (List.mem_cons_of_mem _ gm_457) dX4_takeInteger_1 ?_
  refine xm_if_ne hX (tgt := 20) dX4_takeInteger_4 rfl ?_ ?_
  · exact tfX4_takeInteger_20 hX a1 M
  · refine xm_aload_n hX 0 dX4_takeInteger_7 rfl rfl ?_
    refine xm_calli hX (xm_runV hX (k := 0) (ci := 4) (As := (fun g => [])) (kX4_next M) mL_0 rfl (xm_gV gm_669 gm_670 gm_733 gm_5 gm_671) rfl ⟨rfl, rfl⟩ ⟨rfl, hdX4_next⟩ ⟨Nat.le_of_ble_eq_true rfl, Nat.le_of_ble_eq_true rfl⟩ rfl (Nat.le_of_ble_eq_true rfl) rfl dX4_takeInteger_8) (fun x5 M4 => ?_)
    refine xm_bipush hX (v := 45) rfl dX4_takeInteger_11 ?_
    refine xm_icmp_ne hX (tgt := 20) dX4_takeInteger_13 rfl ?_ ?_
    · exact tfX4_takeInteger_20 hX a1 M4
    · refine xm_iconst hX (v := 1) rfl dX4_takeInteger_16 ?_
      refine xm_goto hX (tgt := 21) dX4_takeInteger_17 rfl ?_
      exact tfX4_takeInteger_21 hX a1 (1 : Int32) M4
-- ===== OdometryDeskModel.need(I)V ['0']
theorem dX4_need_0 : decode cX4_need 0 = .ok (.aload_n 0, 1) := by decide +kernel
theorem dX4_need_1 : decode cX4_need 1 = .ok (.aload_n 0, 1) := by decide +kernel
theorem dX4_need_2 : decode cX4_need 2 = .ok (.getfield 216, 3) := by decide +kernel
theorem dX4_need_5 : decode cX4_need 5 = .ok (.ifCond .ne 11, 3) := by decide +kernel
theorem dX4_need_8 : decode cX4_need 8 = .ok (.aload_n 0, 1) := by decide +kernel
theorem dX4_need_9 : decode cX4_need 9 = .ok (.invokevirtual 220, 3) := by decide +kernel
theorem dX4_need_12 : decode cX4_need 12 = .ok (.iload_n 1, 1) := by decide +kernel
theorem dX4_need_13 : decode cX4_need 13 = .ok (.if_icmp .eq 7, 3) := by decide +kernel
theorem dX4_need_16 : decode cX4_need 16 = .ok (.iconst 1, 1) := by decide +kernel
theorem dX4_need_17 : decode cX4_need 17 = .ok (.goto 4, 3) := by decide +kernel
theorem dX4_need_20 : decode cX4_need 20 = .ok (.iconst 0, 1) := by decide +kernel
theorem dX4_need_21 : decode cX4_need 21 = .ok (.putfield 216, 3) := by decide +kernel
theorem dX4_need_24 : decode cX4_need 24 = .ok (.aload_n 0, 1) := by decide +kernel
theorem dX4_need_25 : decode cX4_need 25 = .ok (.dup, 1) := by decide +kernel
theorem dX4_need_26 : decode cX4_need 26 = .ok (.getfield 213, 3) := by decide +kernel
theorem dX4_need_29 : decode cX4_need 29 = .ok (.aload_n 0, 1) := by decide +kernel
theorem dX4_need_30 : decode cX4_need 30 = .ok (.getfield 216, 3) := by decide +kernel
theorem dX4_need_33 : decode cX4_need 33 = .ok (.ifCond .eq 7, 3) := by decide +kernel
theorem dX4_need_36 : decode cX4_need 36 = .ok (.iconst 0, 1) := by decide +kernel
theorem dX4_need_37 : decode cX4_need 37 = .ok (.goto 4, 3) := by decide +kernel
theorem dX4_need_40 : decode cX4_need 40 = .ok (.iconst 1, 1) := by decide +kernel
theorem dX4_need_41 : decode cX4_need 41 = .ok (.iadd, 1) := by decide +kernel
theorem dX4_need_42 : decode cX4_need 42 = .ok (.putfield 213, 3) := by decide +kernel
theorem dX4_need_45 : decode cX4_need 45 = .ok (.return_, 1) := by decide +kernel
abbrev wX4_need : List Cond := .code yX4_need cX4_need 2 none :: lw_gd
theorem hdX4_need : (yX4_need.cls ≠ "java/lang/invoke/MethodHandle" ∧ yX4_need.cls ≠ "java/lang/invoke/VarHandle" ∧ (parseMethodDescriptor yX4_need.desc).map (fun d => d.parameters.length) = some 1) := by decide +kernel
def fX4_need_41   (s0 : Int32) (s1 : Int32) (M : xm_M) : Option xm_M :=
  xm_lt (xm_s M 0 23 (s1 + s0)) (fun M2 => some M2)
set_option maxRecDepth 20000 in
theorem tfX4_need_41 {p : Program} {l : Launch} {e : Env} {s : State} {m : MethodId} {args : Array Value} {below : List Frame} {meth : Method} {c : Code} {D : va_G} {g : xm_G} {A : Nat → Prop} (hX : xm_X p m meth c cX4_need 2 s args wX4_need RX4 none D mL g A)     : ∀ (s0 : Int32), ∀ (s1 : Int32), ∀ (M : xm_M), xm_J p l e ({ frames := 1, cells := 0, slots := 0, locals := 20 }) s m args below meth c 2 D mL g A (xm_Fv g) 41 [] [.int s0, .int s1, .ref (g.1 0)] M (fX4_need_41 s0 s1 M) := by
  intro s0 s1 M
  unfold fX4_need_41
  refine xm_iadd hX dX4_need_41 ?_
  refine xm_puti hX (k := 0) (ci := 4) (j := 23) (C := RX4) (T := TX4) (N := 27) (t0 := tyX4) mL_0 rfl rfl (by decide) (fun z hz => List.mem_cons_of_mem _ (iw_X4 z hz)) tyX4_ok nmX4 rfl rfl (List.mem_cons_of_mem _ gm_456) dX4_need_42 (fun M2 => ?_)
  exact xm_vret hX dX4_need_45
def fX4_need_21   (s0 : Int32) (M : xm_M) : Option xm_M :=
  if s0 = 0 ∨ s0 = 1 then xm_lt (xm_s M 0 24 s0) (fun M1 => if (M1.1 0 24) = 0 then fX4_need_41 (1 : Int32) (M1.1 0 23) M1 else fX4_need_41 (0 : Int32) (M1.1 0 23) M1) else none
set_option maxRecDepth 20000 in
theorem tfX4_need_21 {p : Program} {l : Launch} {e : Env} {s : State} {m : MethodId} {args : Array Value} {below : List Frame} {meth : Method} {c : Code} {D : va_G} {g : xm_G} {A : Nat → Prop} (hX : xm_X p m meth c cX4_need 2 s args wX4_need RX4 none D mL g A)     : ∀ (s0 : Int32), ∀ (M : xm_M), xm_J p l e ({ frames := 1, cells := 0, slots := 0, locals := 20 }) s m args below meth c 2 D mL g A (xm_Fv g) 21 [(0, .ref (g.1 0))] [.int s0, .ref (g.1 0)] M (fX4_need_21 s0 M) := by
  intro s0 M
  unfold fX4_need_21
  refine xm_putz hX (k := 0) (ci := 4) (j := 24) (C := RX4) (T := TX4) (N := 27) (t0 := tyX4) mL_0 rfl rfl (by decide) (fun z hz => List.mem_cons_of_mem _ (iw_X4 z hz)) tyX4_ok nmX4 rfl rfl (List.mem_cons_of_mem _ gm_457) dX4_need_21 (fun M1 => ?_)
  refine xm_aload_n hX 0 dX4_need_24 rfl rfl ?_
  refine xm_dup hX rfl dX4_need_25 ?_
  refine xm_get hX (k := 0) (ci := 4) (j := 23) (C := RX4) (T := TX4) (N := 27) (v := .int (M1.1 0 23)) mL_0 rfl rfl rfl (by decide) (fun z hz => List.mem_cons_of_mem _ (iw_X4 z hz)) (List.mem_cons_of_mem _ gm_456) dX4_need_26 ?_
  refine xm_aload_n hX 0 dX4_need_29 rfl rfl ?_
  refine xm_get hX (k := 0) (ci := 4) (j := 24) (C := RX4) (T := TX4) (N := 27) (v := .int (M1.1 0 24)) mL_0 rfl rfl rfl (by decide) (fun z hz => List.mem_cons_of_mem _ (iw_X4 z hz)) (List.mem_cons_of_mem _ gm_457) dX4_need_30 ?_
  refine xm_if_eq hX (tgt := 40) dX4_need_33 rfl ?_ ?_
  · refine xm_iconst hX (v := 1) rfl dX4_need_40 ?_
    refine xm_weak [] (lv' := []) rfl ?_
    exact tfX4_need_41 hX (1 : Int32) (M1.1 0 23) M1
  · refine xm_iconst hX (v := 0) rfl dX4_need_36 ?_
    refine xm_goto hX (tgt := 41) dX4_need_37 rfl ?_
    refine xm_weak [] (lv' := []) rfl ?_
    exact tfX4_need_41 hX (0 : Int32) (M1.1 0 23) M1
def fX4_need_16    (M : xm_M) : Option xm_M :=
  fX4_need_21 (1 : Int32) M
set_option maxRecDepth 20000 in
theorem tfX4_need_16 {p : Program} {l : Launch} {e : Env} {s : State} {m : MethodId} {args : Array Value} {below : List Frame} {meth : Method} {c : Code} {D : va_G} {g : xm_G} {A : Nat → Prop} (hX : xm_X p m meth c cX4_need 2 s args wX4_need RX4 none D mL g A)     : ∀ (M : xm_M), xm_J p l e ({ frames := 1, cells := 0, slots := 0, locals := 20 }) s m args below meth c 2 D mL g A (xm_Fv g) 16 [(0, .ref (g.1 0))] [.ref (g.1 0)] M (fX4_need_16  M) := by
  intro  M
  unfold fX4_need_16
  refine xm_iconst hX (v := 1) rfl dX4_need_16 ?_
  refine xm_goto hX (tgt := 21) dX4_need_17 rfl ?_
  exact tfX4_need_21 hX (1 : Int32) M
def fX4_need  (a1 : Int32) (M : xm_M) : Option xm_M :=
  if (M.1 0 24) = 0 then xm_bi (fX4_next M) (fun x4 M3 => if x4 = a1 then fX4_need_21 (0 : Int32) M3 else fX4_need_16 M3) else fX4_need_16 M
set_option maxRecDepth 20000 in
theorem kX4_need {l : Launch}   (a1 : Int32) (M : xm_M) : xm_C l yX4_need wX4_need ({ frames := 1, cells := 0, slots := 0, locals := 20 }) mL (fun g => [.ref (g.1 0), .int a1]) M xm_Fv (fX4_need  a1 M) := by
  refine xm_C.of (by decide) rfl (fun g => Nat.le_of_ble_eq_true rfl) ?_
  intro p e s m args below meth c D g A hX
  refine xm_lv (lv' := [(0, .ref (g.1 0)), (1, .int a1)]) rfl ?_
  unfold fX4_need
  refine xm_aload_n hX 0 dX4_need_0 rfl rfl ?_
  refine xm_aload_n hX 0 dX4_need_1 rfl rfl ?_
  refine xm_get hX (k := 0) (ci := 4) (j := 24) (C := RX4) (T := TX4) (N := 27) (v := .int (M.1 0 24)) mL_0 rfl rfl rfl (by decide) (fun z hz => List.mem_cons_of_mem _ (iw_X4 z hz)) (List.mem_cons_of_mem _ gm_457) dX4_need_2 ?_
  refine xm_if_ne hX (tgt := 16) dX4_need_5 rfl ?_ ?_
  · refine xm_weak [0] (lv' := [(0, .ref (g.1 0))]) rfl ?_
    exact tfX4_need_16 hX M
  · refine xm_aload_n hX 0 dX4_need_8 rfl rfl ?_
    refine xm_calli hX (xm_runV hX (k := 0) (ci := 4) (As := (fun g => [])) (kX4_next M) mL_0 rfl (xm_gV gm_669 gm_670 gm_733 gm_5 gm_671) rfl ⟨rfl, rfl⟩ ⟨rfl, hdX4_next⟩ ⟨Nat.le_of_ble_eq_true rfl, Nat.le_of_ble_eq_true rfl⟩ rfl (Nat.le_of_ble_eq_true rfl) rfl dX4_need_9) (fun x4 M3 => ?_)
    refine xm_iload_n hX 1 dX4_need_12 rfl rfl ?_
    refine xm_icmp_eq hX (tgt := 20) dX4_need_13 rfl ?_ ?_
    · refine xm_iconst hX (v := 0) rfl dX4_need_20 ?_
      refine xm_weak [0] (lv' := [(0, .ref (g.1 0))]) rfl ?_
      exact tfX4_need_21 hX (0 : Int32) M3
    · refine xm_weak [0] (lv' := [(0, .ref (g.1 0))]) rfl ?_
      exact tfX4_need_16 hX M3
-- ===== OdometryDeskModel.takeEntry()V ['0']
theorem dX4_takeEntry_0 : decode cX4_takeEntry 0 = .ok (.iconst 4, 1) := by decide +kernel
theorem dX4_takeEntry_1 : decode cX4_takeEntry 1 = .ok (.aload_n 0, 1) := by decide +kernel
theorem dX4_takeEntry_2 : decode cX4_takeEntry 2 = .ok (.getfield 226, 3) := by decide +kernel
theorem dX4_takeEntry_5 : decode cX4_takeEntry 5 = .ok (.imul, 1) := by decide +kernel
theorem dX4_takeEntry_6 : decode cX4_takeEntry 6 = .ok (.istore_n 1, 1) := by decide +kernel
theorem dX4_takeEntry_7 : decode cX4_takeEntry 7 = .ok (.aload_n 0, 1) := by decide +kernel
theorem dX4_takeEntry_8 : decode cX4_takeEntry 8 = .ok (.getfield 62, 3) := by decide +kernel
theorem dX4_takeEntry_11 : decode cX4_takeEntry 11 = .ok (.iload_n 1, 1) := by decide +kernel
theorem dX4_takeEntry_12 : decode cX4_takeEntry 12 = .ok (.aload_n 0, 1) := by decide +kernel
theorem dX4_takeEntry_13 : decode cX4_takeEntry 13 = .ok (.invokevirtual 220, 3) := by decide +kernel
theorem dX4_takeEntry_16 : decode cX4_takeEntry 16 = .ok (.bipush 109, 2) := by decide +kernel
theorem dX4_takeEntry_18 : decode cX4_takeEntry 18 = .ok (.if_icmp .ne 7, 3) := by decide +kernel
theorem dX4_takeEntry_21 : decode cX4_takeEntry 21 = .ok (.iconst 1, 1) := by decide +kernel
theorem dX4_takeEntry_22 : decode cX4_takeEntry 22 = .ok (.goto 4, 3) := by decide +kernel
theorem dX4_takeEntry_25 : decode cX4_takeEntry 25 = .ok (.iconst 0, 1) := by decide +kernel
theorem dX4_takeEntry_26 : decode cX4_takeEntry 26 = .ok (.iastore, 1) := by decide +kernel
theorem dX4_takeEntry_27 : decode cX4_takeEntry 27 = .ok (.aload_n 0, 1) := by decide +kernel
theorem dX4_takeEntry_28 : decode cX4_takeEntry 28 = .ok (.getfield 62, 3) := by decide +kernel
theorem dX4_takeEntry_31 : decode cX4_takeEntry 31 = .ok (.iload_n 1, 1) := by decide +kernel
theorem dX4_takeEntry_32 : decode cX4_takeEntry 32 = .ok (.iaload, 1) := by decide +kernel
theorem dX4_takeEntry_33 : decode cX4_takeEntry 33 = .ok (.iconst 1, 1) := by decide +kernel
theorem dX4_takeEntry_34 : decode cX4_takeEntry 34 = .ok (.if_icmp .ne 29, 3) := by decide +kernel
theorem dX4_takeEntry_37 : decode cX4_takeEntry 37 = .ok (.aload_n 0, 1) := by decide +kernel
theorem dX4_takeEntry_38 : decode cX4_takeEntry 38 = .ok (.dup, 1) := by decide +kernel
theorem dX4_takeEntry_39 : decode cX4_takeEntry 39 = .ok (.getfield 213, 3) := by decide +kernel
theorem dX4_takeEntry_42 : decode cX4_takeEntry 42 = .ok (.iconst 1, 1) := by decide +kernel
theorem dX4_takeEntry_43 : decode cX4_takeEntry 43 = .ok (.iadd, 1) := by decide +kernel
theorem dX4_takeEntry_44 : decode cX4_takeEntry 44 = .ok (.putfield 213, 3) := by decide +kernel
theorem dX4_takeEntry_47 : decode cX4_takeEntry 47 = .ok (.aload_n 0, 1) := by decide +kernel
theorem dX4_takeEntry_48 : decode cX4_takeEntry 48 = .ok (.getfield 62, 3) := by decide +kernel
theorem dX4_takeEntry_51 : decode cX4_takeEntry 51 = .ok (.iload_n 1, 1) := by decide +kernel
theorem dX4_takeEntry_52 : decode cX4_takeEntry 52 = .ok (.iconst 1, 1) := by decide +kernel
theorem dX4_takeEntry_53 : decode cX4_takeEntry 53 = .ok (.iadd, 1) := by decide +kernel
theorem dX4_takeEntry_54 : decode cX4_takeEntry 54 = .ok (.aload_n 0, 1) := by decide +kernel
theorem dX4_takeEntry_55 : decode cX4_takeEntry 55 = .ok (.iconst 5, 1) := by decide +kernel
theorem dX4_takeEntry_56 : decode cX4_takeEntry 56 = .ok (.invokevirtual 223, 3) := by decide +kernel
theorem dX4_takeEntry_59 : decode cX4_takeEntry 59 = .ok (.iastore, 1) := by decide +kernel
theorem dX4_takeEntry_60 : decode cX4_takeEntry 60 = .ok (.goto 59, 3) := by decide +kernel
theorem dX4_takeEntry_63 : decode cX4_takeEntry 63 = .ok (.aload_n 0, 1) := by decide +kernel
theorem dX4_takeEntry_64 : decode cX4_takeEntry 64 = .ok (.getfield 62, 3) := by decide +kernel
theorem dX4_takeEntry_67 : decode cX4_takeEntry 67 = .ok (.iload_n 1, 1) := by decide +kernel
theorem dX4_takeEntry_68 : decode cX4_takeEntry 68 = .ok (.iconst 1, 1) := by decide +kernel
theorem dX4_takeEntry_69 : decode cX4_takeEntry 69 = .ok (.iadd, 1) := by decide +kernel
theorem dX4_takeEntry_70 : decode cX4_takeEntry 70 = .ok (.aload_n 0, 1) := by decide +kernel
theorem dX4_takeEntry_71 : decode cX4_takeEntry 71 = .ok (.sipush 300, 3) := by decide +kernel
theorem dX4_takeEntry_74 : decode cX4_takeEntry 74 = .ok (.invokevirtual 229, 3) := by decide +kernel
theorem dX4_takeEntry_77 : decode cX4_takeEntry 77 = .ok (.iastore, 1) := by decide +kernel
theorem dX4_takeEntry_78 : decode cX4_takeEntry 78 = .ok (.aload_n 0, 1) := by decide +kernel
theorem dX4_takeEntry_79 : decode cX4_takeEntry 79 = .ok (.bipush 44, 2) := by decide +kernel
theorem dX4_takeEntry_81 : decode cX4_takeEntry 81 = .ok (.invokevirtual 232, 3) := by decide +kernel
theorem dX4_takeEntry_84 : decode cX4_takeEntry 84 = .ok (.aload_n 0, 1) := by decide +kernel
theorem dX4_takeEntry_85 : decode cX4_takeEntry 85 = .ok (.getfield 62, 3) := by decide +kernel
theorem dX4_takeEntry_88 : decode cX4_takeEntry 88 = .ok (.iload_n 1, 1) := by decide +kernel
theorem dX4_takeEntry_89 : decode cX4_takeEntry 89 = .ok (.iconst 2, 1) := by decide +kernel
theorem dX4_takeEntry_90 : decode cX4_takeEntry 90 = .ok (.iadd, 1) := by decide +kernel
theorem dX4_takeEntry_91 : decode cX4_takeEntry 91 = .ok (.aload_n 0, 1) := by decide +kernel
theorem dX4_takeEntry_92 : decode cX4_takeEntry 92 = .ok (.sipush 300, 3) := by decide +kernel
theorem dX4_takeEntry_95 : decode cX4_takeEntry 95 = .ok (.invokevirtual 229, 3) := by decide +kernel
theorem dX4_takeEntry_98 : decode cX4_takeEntry 98 = .ok (.iastore, 1) := by decide +kernel
theorem dX4_takeEntry_99 : decode cX4_takeEntry 99 = .ok (.aload_n 0, 1) := by decide +kernel
theorem dX4_takeEntry_100 : decode cX4_takeEntry 100 = .ok (.bipush 44, 2) := by decide +kernel
theorem dX4_takeEntry_102 : decode cX4_takeEntry 102 = .ok (.invokevirtual 232, 3) := by decide +kernel
theorem dX4_takeEntry_105 : decode cX4_takeEntry 105 = .ok (.aload_n 0, 1) := by decide +kernel
theorem dX4_takeEntry_106 : decode cX4_takeEntry 106 = .ok (.getfield 62, 3) := by decide +kernel
theorem dX4_takeEntry_109 : decode cX4_takeEntry 109 = .ok (.iload_n 1, 1) := by decide +kernel
theorem dX4_takeEntry_110 : decode cX4_takeEntry 110 = .ok (.iconst 3, 1) := by decide +kernel
theorem dX4_takeEntry_111 : decode cX4_takeEntry 111 = .ok (.iadd, 1) := by decide +kernel
theorem dX4_takeEntry_112 : decode cX4_takeEntry 112 = .ok (.aload_n 0, 1) := by decide +kernel
theorem dX4_takeEntry_113 : decode cX4_takeEntry 113 = .ok (.ldc 87, 2) := by decide +kernel
theorem dX4_takeEntry_115 : decode cX4_takeEntry 115 = .ok (.invokevirtual 229, 3) := by decide +kernel
theorem dX4_takeEntry_118 : decode cX4_takeEntry 118 = .ok (.iastore, 1) := by decide +kernel
theorem dX4_takeEntry_119 : decode cX4_takeEntry 119 = .ok (.aload_n 0, 1) := by decide +kernel
theorem dX4_takeEntry_120 : decode cX4_takeEntry 120 = .ok (.dup, 1) := by decide +kernel
theorem dX4_takeEntry_121 : decode cX4_takeEntry 121 = .ok (.getfield 226, 3) := by decide +kernel
theorem dX4_takeEntry_124 : decode cX4_takeEntry 124 = .ok (.iconst 1, 1) := by decide +kernel
theorem dX4_takeEntry_125 : decode cX4_takeEntry 125 = .ok (.iadd, 1) := by decide +kernel
theorem dX4_takeEntry_126 : decode cX4_takeEntry 126 = .ok (.putfield 226, 3) := by decide +kernel
theorem dX4_takeEntry_129 : decode cX4_takeEntry 129 = .ok (.return_, 1) := by decide +kernel
abbrev wX4_takeEntry : List Cond := .code yX4_takeEntry cX4_takeEntry 2 none :: lw_gd
theorem hdX4_takeEntry : (yX4_takeEntry.cls ≠ "java/lang/invoke/MethodHandle" ∧ yX4_takeEntry.cls ≠ "java/lang/invoke/VarHandle" ∧ (parseMethodDescriptor yX4_takeEntry.desc).map (fun d => d.parameters.length) = some 0) := by decide +kernel
def fX4_takeEntry_119    (M : xm_M) : Option xm_M :=
  xm_lt (xm_s M 0 26 ((M.1 0 26) + (1 : Int32))) (fun M16 => some M16)
set_option maxRecDepth 20000 in
theorem tfX4_takeEntry_119 {p : Program} {l : Launch} {e : Env} {s : State} {m : MethodId} {args : Array Value} {below : List Frame} {meth : Method} {c : Code} {D : va_G} {g : xm_G} {A : Nat → Prop} (hX : xm_X p m meth c cX4_takeEntry 2 s args wX4_takeEntry RX4 none D mL g A)     : ∀ (M : xm_M), xm_J p l e ({ frames := 3, cells := 0, slots := 0, locals := 68 }) s m args below meth c 2 D mL g A (xm_Fv g) 119 [(0, .ref (g.1 0))] [] M (fX4_takeEntry_119  M) := by
  intro  M
  unfold fX4_takeEntry_119
  refine xm_aload_n hX 0 dX4_takeEntry_119 rfl rfl ?_
  refine xm_dup hX rfl dX4_takeEntry_120 ?_
  refine xm_get hX (k := 0) (ci := 4) (j := 26) (C := RX4) (T := TX4) (N := 27) (v := .int (M.1 0 26)) mL_0 rfl rfl rfl (by decide) (fun z hz => List.mem_cons_of_mem _ (iw_X4 z hz)) (List.mem_cons_of_mem _ gm_459) dX4_takeEntry_121 ?_
  refine xm_iconst hX (v := 1) rfl dX4_takeEntry_124 ?_
  refine xm_iadd hX dX4_takeEntry_125 ?_
  refine xm_puti hX (k := 0) (ci := 4) (j := 26) (C := RX4) (T := TX4) (N := 27) (t0 := tyX4) mL_0 rfl rfl (by decide) (fun z hz => List.mem_cons_of_mem _ (iw_X4 z hz)) tyX4_ok nmX4 rfl rfl (List.mem_cons_of_mem _ gm_459) dX4_takeEntry_126 (fun M16 => ?_)
  exact xm_vret hX dX4_takeEntry_129
def fX4_takeEntry_26   (b1 : Int32) (s0 : Int32) (s1 : Int32) (M : xm_M) : Option xm_M :=
  if s1 < 0 ∨ 250 ≤ s1.toNatClampNeg then none else xm_lt (xm_s M 18 s1.toNatClampNeg s0) (fun M4 => if b1 < 0 ∨ 250 ≤ b1.toNatClampNeg then none else if (M4.1 18 b1.toNatClampNeg) = (1 : Int32) then xm_lt (xm_s M4 0 23 ((M4.1 0 23) + (1 : Int32))) (fun M17 => xm_bi (fX4_takeNumber (5 : Int32) M17) (fun x19 M18 => if (b1 + (1 : Int32)) < 0 ∨ 250 ≤ (b1 + (1 : Int32)).toNatClampNeg then none else xm_lt (xm_s M18 18 (b1 + (1 : Int32)).toNatClampNeg x19) (fun M20 => fX4_takeEntry_119 M20))) else xm_bi (fX4_takeInteger (300 : Int32) M4) (fun x6 M5 => if (b1 + (1 : Int32)) < 0 ∨ 250 ≤ (b1 + (1 : Int32)).toNatClampNeg then none else xm_lt (xm_s M5 18 (b1 + (1 : Int32)).toNatClampNeg x6) (fun M7 => xm_bv (fX4_need (44 : Int32) M7) (fun M8 => xm_bi (fX4_takeInteger (300 : Int32) M8) (fun x10 M9 => if (b1 + (2 : Int32)) < 0 ∨ 250 ≤ (b1 + (2 : Int32)).toNatClampNeg then none else xm_lt (xm_s M9 18 (b1 + (2 : Int32)).toNatClampNeg x10) (fun M11 => xm_bv (fX4_need (44 : Int32) M11) (fun M12 => xm_bi (fX4_takeInteger (300000 : Int32) M12) (fun x14 M13 => if (b1 + (3 : Int32)) < 0 ∨ 250 ≤ (b1 + (3 : Int32)).toNatClampNeg then none else xm_lt (xm_s M13 18 (b1 + (3 : Int32)).toNatClampNeg x14) (fun M15 => fX4_takeEntry_119 M15)))))))))
set_option maxRecDepth 20000 in
theorem tfX4_takeEntry_26 {p : Program} {l : Launch} {e : Env} {s : State} {m : MethodId} {args : Array Value} {below : List Frame} {meth : Method} {c : Code} {D : va_G} {g : xm_G} {A : Nat → Prop} (hX : xm_X p m meth c cX4_takeEntry 2 s args wX4_takeEntry RX4 none D mL g A)     : ∀ (b1 : Int32), ∀ (s0 : Int32), ∀ (s1 : Int32), ∀ (M : xm_M), xm_J p l e ({ frames := 3, cells := 0, slots := 0, locals := 68 }) s m args below meth c 2 D mL g A (xm_Fv g) 26 [(0, .ref (g.1 0)), (1, .int b1)] [.int s0, .int s1, .ref (g.1 18)] M (fX4_takeEntry_26 b1 s0 s1 M) := by
  intro b1 s0 s1 M
  unfold fX4_takeEntry_26
  refine xm_iast hX (n := 250) mL_18 dX4_takeEntry_26 (fun M4 => ?_)
  refine xm_aload_n hX 0 dX4_takeEntry_27 rfl rfl ?_
  refine xm_get hX (k := 0) (ci := 4) (j := 25) (C := RX4) (T := TX4) (N := 27) (v := .ref (g.1 18)) mL_0 rfl rfl rfl (by decide) (fun z hz => List.mem_cons_of_mem _ (iw_X4 z hz)) (List.mem_cons_of_mem _ gm_458) dX4_takeEntry_28 ?_
  refine xm_iload_n hX 1 dX4_takeEntry_31 rfl rfl ?_
  refine xm_iald hX (n := 250) mL_18 dX4_takeEntry_32 ?_
  refine xm_iconst hX (v := 1) rfl dX4_takeEntry_33 ?_
  refine xm_icmp_ne hX (tgt := 63) dX4_takeEntry_34 rfl ?_ ?_
  · refine xm_aload_n hX 0 dX4_takeEntry_63 rfl rfl ?_
    refine xm_get hX (k := 0) (ci := 4) (j := 25) (C := RX4) (T := TX4) (N := 27) (v := .ref (g.1 18)) mL_0 rfl rfl rfl (by decide) (fun z hz => List.mem_cons_of_mem _ (iw_X4 z hz)) (List.mem_cons_of_mem _ gm_458) dX4_takeEntry_64 ?_
    refine xm_iload_n hX 1 dX4_takeEntry_67 rfl rfl ?_
    refine xm_iconst hX (v := 1) rfl dX4_takeEntry_68 ?_
    refine xm_iadd hX dX4_takeEntry_69 ?_
    refine xm_aload_n hX 0 dX4_takeEntry_70 rfl rfl ?_
    refine xm_sipush hX (v := 300) rfl dX4_takeEntry_71 ?_
    refine xm_calli hX (xm_runV hX (k := 0) (ci := 4) (As := (fun g => [.int (300 : Int32)])) (kX4_takeInteger (300 : Int32) M4) mL_0 rfl (xm_gV gm_675 gm_676 gm_735 gm_5 gm_677) rfl ⟨rfl, rfl⟩ ⟨rfl, hdX4_takeInteger⟩ ⟨Nat.le_of_ble_eq_true rfl, Nat.le_of_ble_eq_true rfl⟩ rfl (Nat.le_of_ble_eq_true rfl) rfl dX4_takeEntry_74) (fun x6 M5 => ?_)
    refine xm_iast hX (n := 250) mL_18 dX4_takeEntry_77 (fun M7 => ?_)
    refine xm_aload_n hX 0 dX4_takeEntry_78 rfl rfl ?_
    refine xm_bipush hX (v := 44) rfl dX4_takeEntry_79 ?_
    refine xm_callv hX (xm_runV hX (k := 0) (ci := 4) (As := (fun g => [.int (44 : Int32)])) (kX4_need (44 : Int32) M7) mL_0 rfl (xm_gV gm_678 gm_679 gm_736 gm_5 gm_680) rfl ⟨rfl, rfl⟩ ⟨rfl, hdX4_need⟩ ⟨Nat.le_of_ble_eq_true rfl, Nat.le_of_ble_eq_true rfl⟩ rfl (Nat.le_of_ble_eq_true rfl) rfl dX4_takeEntry_81) (fun M8 => ?_)
    refine xm_aload_n hX 0 dX4_takeEntry_84 rfl rfl ?_
    refine xm_get hX (k := 0) (ci := 4) (j := 25) (C := RX4) (T := TX4) (N := 27) (v := .ref (g.1 18)) mL_0 rfl rfl rfl (by decide) (fun z hz => List.mem_cons_of_mem _ (iw_X4 z hz)) (List.mem_cons_of_mem _ gm_458) dX4_takeEntry_85 ?_
    refine xm_iload_n hX 1 dX4_takeEntry_88 rfl rfl ?_
    refine xm_iconst hX (v := 2) rfl dX4_takeEntry_89 ?_
    refine xm_iadd hX dX4_takeEntry_90 ?_
    refine xm_aload_n hX 0 dX4_takeEntry_91 rfl rfl ?_
    refine xm_sipush hX (v := 300) rfl dX4_takeEntry_92 ?_
    refine xm_calli hX (xm_runV hX (k := 0) (ci := 4) (As := (fun g => [.int (300 : Int32)])) (kX4_takeInteger (300 : Int32) M8) mL_0 rfl (xm_gV gm_675 gm_676 gm_735 gm_5 gm_677) rfl ⟨rfl, rfl⟩ ⟨rfl, hdX4_takeInteger⟩ ⟨Nat.le_of_ble_eq_true rfl, Nat.le_of_ble_eq_true rfl⟩ rfl (Nat.le_of_ble_eq_true rfl) rfl dX4_takeEntry_95) (fun x10 M9 => ?_)
    refine xm_iast hX (n := 250) mL_18 dX4_takeEntry_98 (fun M11 => ?_)
    refine xm_aload_n hX 0 dX4_takeEntry_99 rfl rfl ?_
    refine xm_bipush hX (v := 44) rfl dX4_takeEntry_100 ?_
    refine xm_callv hX (xm_runV hX (k := 0) (ci := 4) (As := (fun g => [.int (44 : Int32)])) (kX4_need (44 : Int32) M11) mL_0 rfl (xm_gV gm_678 gm_679 gm_736 gm_5 gm_680) rfl ⟨rfl, rfl⟩ ⟨rfl, hdX4_need⟩ ⟨Nat.le_of_ble_eq_true rfl, Nat.le_of_ble_eq_true rfl⟩ rfl (Nat.le_of_ble_eq_true rfl) rfl dX4_takeEntry_102) (fun M12 => ?_)
    refine xm_aload_n hX 0 dX4_takeEntry_105 rfl rfl ?_
    refine xm_get hX (k := 0) (ci := 4) (j := 25) (C := RX4) (T := TX4) (N := 27) (v := .ref (g.1 18)) mL_0 rfl rfl rfl (by decide) (fun z hz => List.mem_cons_of_mem _ (iw_X4 z hz)) (List.mem_cons_of_mem _ gm_458) dX4_takeEntry_106 ?_
    refine xm_iload_n hX 1 dX4_takeEntry_109 rfl rfl ?_
    refine xm_iconst hX (v := 3) rfl dX4_takeEntry_110 ?_
    refine xm_iadd hX dX4_takeEntry_111 ?_
    refine xm_aload_n hX 0 dX4_takeEntry_112 rfl rfl ?_
    refine xm_ldc hX (v := 300000) (List.mem_cons_of_mem _ gm_529) dX4_takeEntry_113 ?_
    refine xm_calli hX (xm_runV hX (k := 0) (ci := 4) (As := (fun g => [.int (300000 : Int32)])) (kX4_takeInteger (300000 : Int32) M12) mL_0 rfl (xm_gV gm_675 gm_676 gm_735 gm_5 gm_677) rfl ⟨rfl, rfl⟩ ⟨rfl, hdX4_takeInteger⟩ ⟨Nat.le_of_ble_eq_true rfl, Nat.le_of_ble_eq_true rfl⟩ rfl (Nat.le_of_ble_eq_true rfl) rfl dX4_takeEntry_115) (fun x14 M13 => ?_)
    refine xm_iast hX (n := 250) mL_18 dX4_takeEntry_118 (fun M15 => ?_)
    refine xm_weak [0] (lv' := [(0, .ref (g.1 0))]) rfl ?_
    exact tfX4_takeEntry_119 hX M15
  · refine xm_aload_n hX 0 dX4_takeEntry_37 rfl rfl ?_
    refine xm_dup hX rfl dX4_takeEntry_38 ?_
    refine xm_get hX (k := 0) (ci := 4) (j := 23) (C := RX4) (T := TX4) (N := 27) (v := .int (M4.1 0 23)) mL_0 rfl rfl rfl (by decide) (fun z hz => List.mem_cons_of_mem _ (iw_X4 z hz)) (List.mem_cons_of_mem _ gm_456) dX4_takeEntry_39 ?_
    refine xm_iconst hX (v := 1) rfl dX4_takeEntry_42 ?_
    refine xm_iadd hX dX4_takeEntry_43 ?_
    refine xm_puti hX (k := 0) (ci := 4) (j := 23) (C := RX4) (T := TX4) (N := 27) (t0 := tyX4) mL_0 rfl rfl (by decide) (fun z hz => List.mem_cons_of_mem _ (iw_X4 z hz)) tyX4_ok nmX4 rfl rfl (List.mem_cons_of_mem _ gm_456) dX4_takeEntry_44 (fun M17 => ?_)
    refine xm_aload_n hX 0 dX4_takeEntry_47 rfl rfl ?_
    refine xm_get hX (k := 0) (ci := 4) (j := 25) (C := RX4) (T := TX4) (N := 27) (v := .ref (g.1 18)) mL_0 rfl rfl rfl (by decide) (fun z hz => List.mem_cons_of_mem _ (iw_X4 z hz)) (List.mem_cons_of_mem _ gm_458) dX4_takeEntry_48 ?_
    refine xm_iload_n hX 1 dX4_takeEntry_51 rfl rfl ?_
    refine xm_iconst hX (v := 1) rfl dX4_takeEntry_52 ?_
    refine xm_iadd hX dX4_takeEntry_53 ?_
    refine xm_aload_n hX 0 dX4_takeEntry_54 rfl rfl ?_
    refine xm_iconst hX (v := 5) rfl dX4_takeEntry_55 ?_
    refine xm_calli hX (xm_runV hX (k := 0) (ci := 4) (As := (fun g => [.int (5 : Int32)])) (kX4_takeNumber (5 : Int32) M17) mL_0 rfl (xm_gV gm_672 gm_673 gm_734 gm_5 gm_674) rfl ⟨rfl, rfl⟩ ⟨rfl, hdX4_takeNumber⟩ ⟨Nat.le_of_ble_eq_true rfl, Nat.le_of_ble_eq_true rfl⟩ rfl (Nat.le_of_ble_eq_true rfl) rfl dX4_takeEntry_56) (fun x19 M18 => ?_)
    refine xm_iast hX (n := 250) mL_18 dX4_takeEntry_59 (fun M20 => ?_)
    refine xm_goto hX (tgt := 119) dX4_takeEntry_60 rfl ?_
    refine xm_weak [0] (lv' := [(0, .ref (g.1 0))]) rfl ?_
    exact tfX4_takeEntry_119 hX M20
def fX4_takeEntry   (M : xm_M) : Option xm_M :=
  xm_lt ((4 : Int32) * (M.1 0 26)) (fun x1 => xm_bi (fX4_next M) (fun x3 M2 => if x3 = (109 : Int32) then fX4_takeEntry_26 x1 (1 : Int32) x1 M2 else fX4_takeEntry_26 x1 (0 : Int32) x1 M2))
set_option maxRecDepth 20000 in
theorem kX4_takeEntry {l : Launch}    (M : xm_M) : xm_C l yX4_takeEntry wX4_takeEntry ({ frames := 3, cells := 0, slots := 0, locals := 68 }) mL (fun g => [.ref (g.1 0)]) M xm_Fv (fX4_takeEntry   M) := by
  refine xm_C.of (by decide) rfl (fun g => Nat.le_of_ble_eq_true rfl) ?_
  intro p e s m args below meth c D g A hX
  refine xm_lv (lv' := [(0, .ref (g.1 0))]) rfl ?_
  unfold fX4_takeEntry
  refine xm_iconst hX (v := 4) rfl dX4_takeEntry_0 ?_
  refine xm_aload_n hX 0 dX4_takeEntry_1 rfl rfl ?_
  refine xm_get hX (k := 0) (ci := 4) (j := 26) (C := RX4) (T := TX4) (N := 27) (v := .int (M.1 0 26)) mL_0 rfl rfl rfl (by decide) (fun z hz => List.mem_cons_of_mem _ (iw_X4 z hz)) (List.mem_cons_of_mem _ gm_459) dX4_takeEntry_2 ?_
  refine xm_imul hX dX4_takeEntry_5 ?_
  refine xm_nmi (fun x1 => ?_)
  refine xm_istore_n hX (lv' := [(1, .int x1), (0, .ref (g.1 0))]) dX4_takeEntry_6 rfl (by decide) rfl ?_
  refine xm_aload_n hX 1 dX4_takeEntry_7 rfl rfl ?_
  refine xm_get hX (k := 0) (ci := 4) (j := 25) (C := RX4) (T := TX4) (N := 27) (v := .ref (g.1 18)) mL_0 rfl rfl rfl (by decide) (fun z hz => List.mem_cons_of_mem _ (iw_X4 z hz)) (List.mem_cons_of_mem _ gm_458) dX4_takeEntry_8 ?_
  refine xm_iload_n hX 0 dX4_takeEntry_11 rfl rfl ?_
  refine xm_aload_n hX 1 dX4_takeEntry_12 rfl rfl ?_
  refine xm_calli hX (xm_runV hX (k := 0) (ci := 4) (As := (fun g => [])) (kX4_next M) mL_0 rfl (xm_gV gm_669 gm_670 gm_733 gm_5 gm_671) rfl ⟨rfl, rfl⟩ ⟨rfl, hdX4_next⟩ ⟨Nat.le_of_ble_eq_true rfl, Nat.le_of_ble_eq_true rfl⟩ rfl (Nat.le_of_ble_eq_true rfl) rfl dX4_takeEntry_13) (fun x3 M2 => ?_)
  refine xm_bipush hX (v := 109) rfl dX4_takeEntry_16 ?_
  refine xm_icmp_ne hX (tgt := 25) dX4_takeEntry_18 rfl ?_ ?_
  · refine xm_iconst hX (v := 0) rfl dX4_takeEntry_25 ?_
    refine xm_weak [1, 0] (lv' := [(0, .ref (g.1 0)), (1, .int x1)]) rfl ?_
    exact tfX4_takeEntry_26 hX x1 (0 : Int32) x1 M2
  · refine xm_iconst hX (v := 1) rfl dX4_takeEntry_21 ?_
    refine xm_goto hX (tgt := 26) dX4_takeEntry_22 rfl ?_
    refine xm_weak [1, 0] (lv' := [(0, .ref (g.1 0)), (1, .int x1)]) rfl ?_
    exact tfX4_takeEntry_26 hX x1 (1 : Int32) x1 M2
-- ===== OdometryDeskModel.fault()I ['0']
theorem dX4_fault_0 : decode cX4_fault 0 = .ok (.aload_n 0, 1) := by decide +kernel
theorem dX4_fault_1 : decode cX4_fault 1 = .ok (.iconst 0, 1) := by decide +kernel
theorem dX4_fault_2 : decode cX4_fault 2 = .ok (.putfield 213, 3) := by decide +kernel
theorem dX4_fault_5 : decode cX4_fault 5 = .ok (.aload_n 0, 1) := by decide +kernel
theorem dX4_fault_6 : decode cX4_fault 6 = .ok (.iconst 0, 1) := by decide +kernel
theorem dX4_fault_7 : decode cX4_fault 7 = .ok (.putfield 216, 3) := by decide +kernel
theorem dX4_fault_10 : decode cX4_fault 10 = .ok (.aload_n 0, 1) := by decide +kernel
theorem dX4_fault_11 : decode cX4_fault 11 = .ok (.iconst 0, 1) := by decide +kernel
theorem dX4_fault_12 : decode cX4_fault 12 = .ok (.putfield 226, 3) := by decide +kernel
theorem dX4_fault_15 : decode cX4_fault 15 = .ok (.aload_n 0, 1) := by decide +kernel
theorem dX4_fault_16 : decode cX4_fault 16 = .ok (.invokevirtual 235, 3) := by decide +kernel
theorem dX4_fault_19 : decode cX4_fault 19 = .ok (.aload_n 0, 1) := by decide +kernel
theorem dX4_fault_20 : decode cX4_fault 20 = .ok (.getfield 216, 3) := by decide +kernel
theorem dX4_fault_23 : decode cX4_fault 23 = .ok (.ifCond .ne 29, 3) := by decide +kernel
theorem dX4_fault_26 : decode cX4_fault 26 = .ok (.aload_n 0, 1) := by decide +kernel
theorem dX4_fault_27 : decode cX4_fault 27 = .ok (.invokevirtual 220, 3) := by decide +kernel
theorem dX4_fault_30 : decode cX4_fault 30 = .ok (.bipush 59, 2) := by decide +kernel
theorem dX4_fault_32 : decode cX4_fault 32 = .ok (.if_icmp .ne 20, 3) := by decide +kernel
theorem dX4_fault_35 : decode cX4_fault 35 = .ok (.aload_n 0, 1) := by decide +kernel
theorem dX4_fault_36 : decode cX4_fault 36 = .ok (.dup, 1) := by decide +kernel
theorem dX4_fault_37 : decode cX4_fault 37 = .ok (.getfield 213, 3) := by decide +kernel
theorem dX4_fault_40 : decode cX4_fault 40 = .ok (.iconst 1, 1) := by decide +kernel
theorem dX4_fault_41 : decode cX4_fault 41 = .ok (.iadd, 1) := by decide +kernel
theorem dX4_fault_42 : decode cX4_fault 42 = .ok (.putfield 213, 3) := by decide +kernel
theorem dX4_fault_45 : decode cX4_fault 45 = .ok (.aload_n 0, 1) := by decide +kernel
theorem dX4_fault_46 : decode cX4_fault 46 = .ok (.invokevirtual 235, 3) := by decide +kernel
theorem dX4_fault_49 : decode cX4_fault 49 = .ok (.goto (-30), 3) := by decide +kernel
theorem dX4_fault_52 : decode cX4_fault 52 = .ok (.aload_n 0, 1) := by decide +kernel
theorem dX4_fault_53 : decode cX4_fault 53 = .ok (.getfield 216, 3) := by decide +kernel
theorem dX4_fault_56 : decode cX4_fault 56 = .ok (.ifCond .ne 14, 3) := by decide +kernel
theorem dX4_fault_59 : decode cX4_fault 59 = .ok (.aload_n 0, 1) := by decide +kernel
theorem dX4_fault_60 : decode cX4_fault 60 = .ok (.getfield 213, 3) := by decide +kernel
theorem dX4_fault_63 : decode cX4_fault 63 = .ok (.aload_n 0, 1) := by decide +kernel
theorem dX4_fault_64 : decode cX4_fault 64 = .ok (.getfield 200, 3) := by decide +kernel
theorem dX4_fault_67 : decode cX4_fault 67 = .ok (.if_icmp .ge 10, 3) := by decide +kernel
theorem dX4_fault_70 : decode cX4_fault 70 = .ok (.aload_n 0, 1) := by decide +kernel
theorem dX4_fault_71 : decode cX4_fault 71 = .ok (.getfield 213, 3) := by decide +kernel
theorem dX4_fault_74 : decode cX4_fault 74 = .ok (.goto 5, 3) := by decide +kernel
theorem dX4_fault_77 : decode cX4_fault 77 = .ok (.bipush (-6), 2) := by decide +kernel
theorem dX4_fault_79 : decode cX4_fault 79 = .ok (.ireturn, 1) := by decide +kernel
abbrev wX4_fault : List Cond := .code yX4_fault cX4_fault 1 (some .int) :: lw_gd
theorem hdX4_fault : (yX4_fault.cls ≠ "java/lang/invoke/MethodHandle" ∧ yX4_fault.cls ≠ "java/lang/invoke/VarHandle" ∧ (parseMethodDescriptor yX4_fault.desc).map (fun d => d.parameters.length) = some 0) := by decide +kernel
def fX4_fault_70    (M : xm_M) : Option (Int32 × xm_M) :=
  some (M.1 0 23, M)
set_option maxRecDepth 20000 in
theorem tfX4_fault_70 {p : Program} {l : Launch} {e : Env} {s : State} {m : MethodId} {args : Array Value} {below : List Frame} {meth : Method} {c : Code} {D : va_G} {g : xm_G} {A : Nat → Prop} (hX : xm_X p m meth c cX4_fault 1 s args wX4_fault RX4 (some .int) D mL g A)     : ∀ (M : xm_M), xm_J p l e ({ frames := 4, cells := 0, slots := 0, locals := 89 }) s m args below meth c 1 D mL g A (xm_Fi g) 70 [(0, .ref (g.1 0))] [] M (fX4_fault_70  M) := by
  intro  M
  unfold fX4_fault_70
  refine xm_aload_n hX 0 dX4_fault_70 rfl rfl ?_
  refine xm_get hX (k := 0) (ci := 4) (j := 23) (C := RX4) (T := TX4) (N := 27) (v := .int (M.1 0 23)) mL_0 rfl rfl rfl (by decide) (fun z hz => List.mem_cons_of_mem _ (iw_X4 z hz)) (List.mem_cons_of_mem _ gm_456) dX4_fault_71 ?_
  refine xm_goto hX (tgt := 79) dX4_fault_74 rfl ?_
  exact xm_iret hX dX4_fault_79
def fX4_fault_52    (M : xm_M) : Option (Int32 × xm_M) :=
  if (M.1 0 24) = 0 then if (M.1 0 4) ≤ (M.1 0 23) then some ((-6 : Int32), M) else fX4_fault_70 M else fX4_fault_70 M
set_option maxRecDepth 20000 in
theorem tfX4_fault_52 {p : Program} {l : Launch} {e : Env} {s : State} {m : MethodId} {args : Array Value} {below : List Frame} {meth : Method} {c : Code} {D : va_G} {g : xm_G} {A : Nat → Prop} (hX : xm_X p m meth c cX4_fault 1 s args wX4_fault RX4 (some .int) D mL g A)     : ∀ (M : xm_M), xm_J p l e ({ frames := 4, cells := 0, slots := 0, locals := 89 }) s m args below meth c 1 D mL g A (xm_Fi g) 52 [(0, .ref (g.1 0))] [] M (fX4_fault_52  M) := by
  intro  M
  unfold fX4_fault_52
  refine xm_aload_n hX 0 dX4_fault_52 rfl rfl ?_
  refine xm_get hX (k := 0) (ci := 4) (j := 24) (C := RX4) (T := TX4) (N := 27) (v := .int (M.1 0 24)) mL_0 rfl rfl rfl (by decide) (fun z hz => List.mem_cons_of_mem _ (iw_X4 z hz)) (List.mem_cons_of_mem _ gm_457) dX4_fault_53 ?_
  refine xm_if_ne hX (tgt := 70) dX4_fault_56 rfl ?_ ?_
  · exact tfX4_fault_70 hX M
  · refine xm_aload_n hX 0 dX4_fault_59 rfl rfl ?_
    refine xm_get hX (k := 0) (ci := 4) (j := 23) (C := RX4) (T := TX4) (N := 27) (v := .int (M.1 0 23)) mL_0 rfl rfl rfl (by decide) (fun z hz => List.mem_cons_of_mem _ (iw_X4 z hz)) (List.mem_cons_of_mem _ gm_456) dX4_fault_60 ?_
    refine xm_aload_n hX 0 dX4_fault_63 rfl rfl ?_
    refine xm_get hX (k := 0) (ci := 4) (j := 4) (C := RX4) (T := TX4) (N := 27) (v := .int (M.1 0 4)) mL_0 rfl rfl rfl (by decide) (fun z hz => List.mem_cons_of_mem _ (iw_X4 z hz)) (List.mem_cons_of_mem _ gm_437) dX4_fault_64 ?_
    refine xm_icmp_ge hX (tgt := 77) dX4_fault_67 rfl ?_ ?_
    · refine xm_bipush hX (v := -6) rfl dX4_fault_77 ?_
      exact xm_iret hX dX4_fault_79
    · exact tfX4_fault_70 hX M
def fX4_fault_19  (k19 : xm_M → Option (Int32 × xm_M))  (M : xm_M) : Option (Int32 × xm_M) :=
  if (M.1 0 24) = 0 then xm_bi (fX4_next M) (fun x6 M5 => if x6 = (59 : Int32) then xm_lt (xm_s M5 0 23 ((M5.1 0 23) + (1 : Int32))) (fun M7 => xm_bv (fX4_takeEntry M7) (fun M8 => k19 M8)) else fX4_fault_52 M5) else fX4_fault_52 M
set_option maxRecDepth 20000 in
theorem tfX4_fault_19 {p : Program} {l : Launch} {e : Env} {s : State} {m : MethodId} {args : Array Value} {below : List Frame} {meth : Method} {c : Code} {D : va_G} {g : xm_G} {A : Nat → Prop} (hX : xm_X p m meth c cX4_fault 1 s args wX4_fault RX4 (some .int) D mL g A)   (k19 : xm_M → Option (Int32 × xm_M)) (h19 : ∀ (M : xm_M), xm_J p l e ({ frames := 4, cells := 0, slots := 0, locals := 89 }) s m args below meth c 1 D mL g A (xm_Fi g) 19 [(0, .ref (g.1 0))] [] M (k19  M)) : ∀ (M : xm_M), xm_J p l e ({ frames := 4, cells := 0, slots := 0, locals := 89 }) s m args below meth c 1 D mL g A (xm_Fi g) 19 [(0, .ref (g.1 0))] [] M (fX4_fault_19 k19  M) := by
  intro  M
  unfold fX4_fault_19
  refine xm_aload_n hX 0 dX4_fault_19 rfl rfl ?_
  refine xm_get hX (k := 0) (ci := 4) (j := 24) (C := RX4) (T := TX4) (N := 27) (v := .int (M.1 0 24)) mL_0 rfl rfl rfl (by decide) (fun z hz => List.mem_cons_of_mem _ (iw_X4 z hz)) (List.mem_cons_of_mem _ gm_457) dX4_fault_20 ?_
  refine xm_if_ne hX (tgt := 52) dX4_fault_23 rfl ?_ ?_
  · exact tfX4_fault_52 hX M
  · refine xm_aload_n hX 0 dX4_fault_26 rfl rfl ?_
    refine xm_calli hX (xm_runV hX (k := 0) (ci := 4) (As := (fun g => [])) (kX4_next M) mL_0 rfl (xm_gV gm_669 gm_670 gm_733 gm_5 gm_671) rfl ⟨rfl, rfl⟩ ⟨rfl, hdX4_next⟩ ⟨Nat.le_of_ble_eq_true rfl, Nat.le_of_ble_eq_true rfl⟩ rfl (Nat.le_of_ble_eq_true rfl) rfl dX4_fault_27) (fun x6 M5 => ?_)
    refine xm_bipush hX (v := 59) rfl dX4_fault_30 ?_
    refine xm_icmp_ne hX (tgt := 52) dX4_fault_32 rfl ?_ ?_
    · exact tfX4_fault_52 hX M5
    · refine xm_aload_n hX 0 dX4_fault_35 rfl rfl ?_
      refine xm_dup hX rfl dX4_fault_36 ?_
      refine xm_get hX (k := 0) (ci := 4) (j := 23) (C := RX4) (T := TX4) (N := 27) (v := .int (M5.1 0 23)) mL_0 rfl rfl rfl (by decide) (fun z hz => List.mem_cons_of_mem _ (iw_X4 z hz)) (List.mem_cons_of_mem _ gm_456) dX4_fault_37 ?_
      refine xm_iconst hX (v := 1) rfl dX4_fault_40 ?_
      refine xm_iadd hX dX4_fault_41 ?_
      refine xm_puti hX (k := 0) (ci := 4) (j := 23) (C := RX4) (T := TX4) (N := 27) (t0 := tyX4) mL_0 rfl rfl (by decide) (fun z hz => List.mem_cons_of_mem _ (iw_X4 z hz)) tyX4_ok nmX4 rfl rfl (List.mem_cons_of_mem _ gm_456) dX4_fault_42 (fun M7 => ?_)
      refine xm_aload_n hX 0 dX4_fault_45 rfl rfl ?_
      refine xm_callv hX (xm_runV hX (k := 0) (ci := 4) (As := (fun g => [])) (kX4_takeEntry M7) mL_0 rfl (xm_gV gm_666 gm_667 gm_732 gm_5 gm_668) rfl ⟨rfl, rfl⟩ ⟨rfl, hdX4_takeEntry⟩ ⟨Nat.le_of_ble_eq_true rfl, Nat.le_of_ble_eq_true rfl⟩ rfl (Nat.le_of_ble_eq_true rfl) rfl dX4_fault_46) (fun M8 => ?_)
      refine xm_goto hX (tgt := 19) dX4_fault_49 rfl ?_
      exact h19 M8
def fX4_fault_19_it   (nq : Nat) : xm_M → Option (Int32 × xm_M) := xm_it (fun kq => fX4_fault_19 kq) (fun _ => none) nq
theorem tfX4_fault_19_it {p : Program} {l : Launch} {e : Env} {s : State} {m : MethodId} {args : Array Value} {below : List Frame} {meth : Method} {c : Code} {D : va_G} {g : xm_G} {A : Nat → Prop} (hX : xm_X p m meth c cX4_fault 1 s args wX4_fault RX4 (some .int) D mL g A)     : ∀ (nq : Nat), ∀ (M : xm_M), xm_J p l e ({ frames := 4, cells := 0, slots := 0, locals := 89 }) s m args below meth c 1 D mL g A (xm_Fi g) 19 [(0, .ref (g.1 0))] [] M (fX4_fault_19_it  nq  M) := by
  intro nq
  induction nq with
  | zero => exact fun _ => xm_none
  | succ nq ih => exact tfX4_fault_19 hX _ ih
def fX4_fault   (M : xm_M) : Option (Int32 × xm_M) :=
  xm_lt (xm_s M 0 23 (0 : Int32)) (fun M1 => xm_lt (xm_s M1 0 24 (0 : Int32)) (fun M2 => xm_lt (xm_s M2 0 26 (0 : Int32)) (fun M3 => xm_bv (fX4_takeEntry M3) (fun M4 => fX4_fault_19_it xm_N M4))))
set_option maxRecDepth 20000 in
theorem kX4_fault {l : Launch}    (M : xm_M) : xm_C l yX4_fault wX4_fault ({ frames := 4, cells := 0, slots := 0, locals := 89 }) mL (fun g => [.ref (g.1 0)]) M xm_Fi (fX4_fault   M) := by
  refine xm_C.of (by decide) rfl (fun g => Nat.le_of_ble_eq_true rfl) ?_
  intro p e s m args below meth c D g A hX
  refine xm_lv (lv' := [(0, .ref (g.1 0))]) rfl ?_
  unfold fX4_fault
  refine xm_aload_n hX 0 dX4_fault_0 rfl rfl ?_
  refine xm_iconst hX (v := 0) rfl dX4_fault_1 ?_
  refine xm_puti hX (k := 0) (ci := 4) (j := 23) (C := RX4) (T := TX4) (N := 27) (t0 := tyX4) mL_0 rfl rfl (by decide) (fun z hz => List.mem_cons_of_mem _ (iw_X4 z hz)) tyX4_ok nmX4 rfl rfl (List.mem_cons_of_mem _ gm_456) dX4_fault_2 (fun M1 => ?_)
  refine xm_aload_n hX 0 dX4_fault_5 rfl rfl ?_
  refine xm_iconst hX (v := 0) rfl dX4_fault_6 ?_
  refine xm_putzL hX (by decide) (k := 0) (ci := 4) (j := 24) (C := RX4) (T := TX4) (N := 27) (t0 := tyX4) mL_0 rfl rfl (by decide) (fun z hz => List.mem_cons_of_mem _ (iw_X4 z hz)) tyX4_ok nmX4 rfl rfl (List.mem_cons_of_mem _ gm_457) dX4_fault_7 (fun M2 => ?_)
  refine xm_aload_n hX 0 dX4_fault_10 rfl rfl ?_
  refine xm_iconst hX (v := 0) rfl dX4_fault_11 ?_
  refine xm_puti hX (k := 0) (ci := 4) (j := 26) (C := RX4) (T := TX4) (N := 27) (t0 := tyX4) mL_0 rfl rfl (by decide) (fun z hz => List.mem_cons_of_mem _ (iw_X4 z hz)) tyX4_ok nmX4 rfl rfl (List.mem_cons_of_mem _ gm_459) dX4_fault_12 (fun M3 => ?_)
  refine xm_aload_n hX 0 dX4_fault_15 rfl rfl ?_
  refine xm_callv hX (xm_runV hX (k := 0) (ci := 4) (As := (fun g => [])) (kX4_takeEntry M3) mL_0 rfl (xm_gV gm_666 gm_667 gm_732 gm_5 gm_668) rfl ⟨rfl, rfl⟩ ⟨rfl, hdX4_takeEntry⟩ ⟨Nat.le_of_ble_eq_true rfl, Nat.le_of_ble_eq_true rfl⟩ rfl (Nat.le_of_ble_eq_true rfl) rfl dX4_fault_16) (fun M4 => ?_)
  exact tfX4_fault_19_it hX xm_N M4
