-- ===== OdometryDeskModel.in(III)Z
theorem dX4_in_0 : decode cX4_in 0 = .ok (.iload_n 0, 1) := by decide +kernel
theorem dX4_in_1 : decode cX4_in 1 = .ok (.iload_n 1, 1) := by decide +kernel
theorem dX4_in_2 : decode cX4_in 2 = .ok (.if_icmp .lt 12, 3) := by decide +kernel
theorem dX4_in_5 : decode cX4_in 5 = .ok (.iload_n 0, 1) := by decide +kernel
theorem dX4_in_6 : decode cX4_in 6 = .ok (.iload_n 2, 1) := by decide +kernel
theorem dX4_in_7 : decode cX4_in 7 = .ok (.if_icmp .gt 7, 3) := by decide +kernel
theorem dX4_in_10 : decode cX4_in 10 = .ok (.iconst 1, 1) := by decide +kernel
theorem dX4_in_11 : decode cX4_in 11 = .ok (.goto 4, 3) := by decide +kernel
theorem dX4_in_14 : decode cX4_in 14 = .ok (.iconst 0, 1) := by decide +kernel
theorem dX4_in_15 : decode cX4_in 15 = .ok (.ireturn, 1) := by decide +kernel
abbrev wX4_in : List Cond := .code yX4_in cX4_in 3 (some .boolean) :: lw_gd
theorem hdX4_in : (yX4_in.cls ≠ "java/lang/invoke/MethodHandle" ∧ yX4_in.cls ≠ "java/lang/invoke/VarHandle" ∧ (parseMethodDescriptor yX4_in.desc).map (fun d => d.parameters.length) = some 3) := by decide +kernel
def fX4_in  (a0 : Int32) (a1 : Int32) (a2 : Int32) (M : xm_M) : Option (Int32 × xm_M) :=
  if a0 < a1 then some ((0 : Int32), M) else if a2 < a0 then some ((0 : Int32), M) else some ((1 : Int32), M)
set_option maxRecDepth 20000 in
theorem kX4_in {l : Launch}   (a0 : Int32) (a1 : Int32) (a2 : Int32) (M : xm_M) : xm_C l yX4_in wX4_in ({ frames := 0, cells := 0, slots := 0, locals := 0 }) mL (fun g => [.int a0, .int a1, .int a2]) M xm_Fi (fX4_in  a0 a1 a2 M) := by
  refine xm_C.of (by decide) rfl (fun g => Nat.le_of_ble_eq_true rfl) ?_
  intro p e s m args below meth c D g A hX
  refine xm_lv (lv' := [(0, .int a0), (1, .int a1), (2, .int a2)]) rfl ?_
  unfold fX4_in
  refine xm_iload_n hX 0 dX4_in_0 rfl rfl ?_
  refine xm_iload_n hX 1 dX4_in_1 rfl rfl ?_
  refine xm_icmp_lt hX (tgt := 14) dX4_in_2 rfl ?_ ?_
  · refine xm_iconst hX (v := 0) rfl dX4_in_14 ?_
    exact xm_zretL hX (by decide) dX4_in_15
  · refine xm_iload_n hX 0 dX4_in_5 rfl rfl ?_
    refine xm_iload_n hX 2 dX4_in_6 rfl rfl ?_
    refine xm_icmp_gt hX (tgt := 14) dX4_in_7 rfl ?_ ?_
    · refine xm_iconst hX (v := 0) rfl dX4_in_14 ?_
      exact xm_zretL hX (by decide) dX4_in_15
    · refine xm_iconst hX (v := 1) rfl dX4_in_10 ?_
      refine xm_goto hX (tgt := 15) dX4_in_11 rfl ?_
      exact xm_zretL hX (by decide) dX4_in_15
-- ===== OdometryDeskModel.ofEntry(II)I ['0']
theorem dX4_ofEntry_0 : decode cX4_ofEntry 0 = .ok (.aload_n 0, 1) := by decide +kernel
theorem dX4_ofEntry_1 : decode cX4_ofEntry 1 = .ok (.getfield 7, 3) := by decide +kernel
theorem dX4_ofEntry_4 : decode cX4_ofEntry 4 = .ok (.bipush 67, 2) := by decide +kernel
theorem dX4_ofEntry_6 : decode cX4_ofEntry 6 = .ok (.iconst 4, 1) := by decide +kernel
theorem dX4_ofEntry_7 : decode cX4_ofEntry 7 = .ok (.iload_n 1, 1) := by decide +kernel
theorem dX4_ofEntry_8 : decode cX4_ofEntry 8 = .ok (.imul, 1) := by decide +kernel
theorem dX4_ofEntry_9 : decode cX4_ofEntry 9 = .ok (.iadd, 1) := by decide +kernel
theorem dX4_ofEntry_10 : decode cX4_ofEntry 10 = .ok (.iload_n 2, 1) := by decide +kernel
theorem dX4_ofEntry_11 : decode cX4_ofEntry 11 = .ok (.iadd, 1) := by decide +kernel
theorem dX4_ofEntry_12 : decode cX4_ofEntry 12 = .ok (.iaload, 1) := by decide +kernel
theorem dX4_ofEntry_13 : decode cX4_ofEntry 13 = .ok (.ireturn, 1) := by decide +kernel
abbrev wX4_ofEntry : List Cond := .code yX4_ofEntry cX4_ofEntry 3 (some .int) :: lw_gd
theorem hdX4_ofEntry : (yX4_ofEntry.cls ≠ "java/lang/invoke/MethodHandle" ∧ yX4_ofEntry.cls ≠ "java/lang/invoke/VarHandle" ∧ (parseMethodDescriptor yX4_ofEntry.desc).map (fun d => d.parameters.length) = some 2) := by decide +kernel
def fX4_ofEntry  (a1 : Int32) (a2 : Int32) (M : xm_M) : Option (Int32 × xm_M) :=
  if (((67 : Int32) + ((4 : Int32) * a1)) + a2) < 0 ∨ 547 ≤ (((67 : Int32) + ((4 : Int32) * a1)) + a2).toNatClampNeg then none else some (M.1 1 (((67 : Int32) + ((4 : Int32) * a1)) + a2).toNatClampNeg, M)
set_option maxRecDepth 20000 in
theorem kX4_ofEntry {l : Launch}   (a1 : Int32) (a2 : Int32) (M : xm_M) : xm_C l yX4_ofEntry wX4_ofEntry ({ frames := 0, cells := 0, slots := 0, locals := 0 }) mL (fun g => [.ref (g.1 0), .int a1, .int a2]) M xm_Fi (fX4_ofEntry  a1 a2 M) := by
  refine xm_C.of (by decide) rfl (fun g => Nat.le_of_ble_eq_true rfl) ?_
  intro p e s m args below meth c D g A hX
  refine xm_lv (lv' := [(0, .ref (g.1 0)), (1, .int a1), (2, .int a2)]) rfl ?_
  unfold fX4_ofEntry
  refine xm_aload_n hX 0 dX4_ofEntry_0 rfl rfl ?_
  refine xm_get hX (k := 0) (ci := 4) (j := 0) (C := RX4) (T := TX4) (N := 27) (v := .ref (g.1 1)) mL_0 rfl rfl rfl (by decide) (fun z hz => List.mem_cons_of_mem _ (iw_X4 z hz)) (List.mem_cons_of_mem _ gm_433) dX4_ofEntry_1 ?_
  refine xm_bipush hX (v := 67) rfl dX4_ofEntry_4 ?_
  refine xm_iconst hX (v := 4) rfl dX4_ofEntry_6 ?_
  refine xm_iload_n hX 1 dX4_ofEntry_7 rfl rfl ?_
  refine xm_imul hX dX4_ofEntry_8 ?_
  refine xm_iadd hX dX4_ofEntry_9 ?_
  refine xm_iload_n hX 2 dX4_ofEntry_10 rfl rfl ?_
  refine xm_iadd hX dX4_ofEntry_11 ?_
  refine xm_iald hX (n := 547) mL_1 dX4_ofEntry_12 ?_
  exact xm_iret hX dX4_ofEntry_13
-- ===== OdometryDeskModel.setting(I)I ['0']
theorem dX4_setting_0 : decode cX4_setting 0 = .ok (.aload_n 0, 1) := by decide +kernel
theorem dX4_setting_1 : decode cX4_setting 1 = .ok (.getfield 7, 3) := by decide +kernel
theorem dX4_setting_4 : decode cX4_setting 4 = .ok (.iconst 0, 1) := by decide +kernel
theorem dX4_setting_5 : decode cX4_setting 5 = .ok (.iload_n 1, 1) := by decide +kernel
theorem dX4_setting_6 : decode cX4_setting 6 = .ok (.iadd, 1) := by decide +kernel
theorem dX4_setting_7 : decode cX4_setting 7 = .ok (.iaload, 1) := by decide +kernel
theorem dX4_setting_8 : decode cX4_setting 8 = .ok (.ireturn, 1) := by decide +kernel
abbrev wX4_setting : List Cond := .code yX4_setting cX4_setting 2 (some .int) :: lw_gd
theorem hdX4_setting : (yX4_setting.cls ≠ "java/lang/invoke/MethodHandle" ∧ yX4_setting.cls ≠ "java/lang/invoke/VarHandle" ∧ (parseMethodDescriptor yX4_setting.desc).map (fun d => d.parameters.length) = some 1) := by decide +kernel
def fX4_setting  (a1 : Int32) (M : xm_M) : Option (Int32 × xm_M) :=
  if ((0 : Int32) + a1) < 0 ∨ 547 ≤ ((0 : Int32) + a1).toNatClampNeg then none else some (M.1 1 ((0 : Int32) + a1).toNatClampNeg, M)
set_option maxRecDepth 20000 in
theorem kX4_setting {l : Launch}   (a1 : Int32) (M : xm_M) : xm_C l yX4_setting wX4_setting ({ frames := 0, cells := 0, slots := 0, locals := 0 }) mL (fun g => [.ref (g.1 0), .int a1]) M xm_Fi (fX4_setting  a1 M) := by
  refine xm_C.of (by decide) rfl (fun g => Nat.le_of_ble_eq_true rfl) ?_
  intro p e s m args below meth c D g A hX
  refine xm_lv (lv' := [(0, .ref (g.1 0)), (1, .int a1)]) rfl ?_
  unfold fX4_setting
  refine xm_aload_n hX 0 dX4_setting_0 rfl rfl ?_
  refine xm_get hX (k := 0) (ci := 4) (j := 0) (C := RX4) (T := TX4) (N := 27) (v := .ref (g.1 1)) mL_0 rfl rfl rfl (by decide) (fun z hz => List.mem_cons_of_mem _ (iw_X4 z hz)) (List.mem_cons_of_mem _ gm_433) dX4_setting_1 ?_
  refine xm_iconst hX (v := 0) rfl dX4_setting_4 ?_
  refine xm_iload_n hX 1 dX4_setting_5 rfl rfl ?_
  refine xm_iadd hX dX4_setting_6 ?_
  refine xm_iald hX (n := 547) mL_1 dX4_setting_7 ?_
  exact xm_iret hX dX4_setting_8
-- ===== OdometryDeskModel.heading(J)I
theorem dX4_heading_0 : decode cX4_heading 0 = .ok (.lload_n 0, 1) := by decide +kernel
theorem dX4_heading_1 : decode cX4_heading 1 = .ok (.ldc2_w 103, 3) := by decide +kernel
theorem dX4_heading_4 : decode cX4_heading 4 = .ok (.lrem, 1) := by decide +kernel
theorem dX4_heading_5 : decode cX4_heading 5 = .ok (.lstore_n 2, 1) := by decide +kernel
theorem dX4_heading_6 : decode cX4_heading 6 = .ok (.lload_n 2, 1) := by decide +kernel
theorem dX4_heading_7 : decode cX4_heading 7 = .ok (.lconst 0, 1) := by decide +kernel
theorem dX4_heading_8 : decode cX4_heading 8 = .ok (.lcmp, 1) := by decide +kernel
theorem dX4_heading_9 : decode cX4_heading 9 = .ok (.ifCond .ge 11, 3) := by decide +kernel
theorem dX4_heading_12 : decode cX4_heading 12 = .ok (.lload_n 2, 1) := by decide +kernel
theorem dX4_heading_13 : decode cX4_heading 13 = .ok (.ldc2_w 103, 3) := by decide +kernel
theorem dX4_heading_16 : decode cX4_heading 16 = .ok (.ladd, 1) := by decide +kernel
theorem dX4_heading_17 : decode cX4_heading 17 = .ok (.goto 4, 3) := by decide +kernel
theorem dX4_heading_20 : decode cX4_heading 20 = .ok (.lload_n 2, 1) := by decide +kernel
theorem dX4_heading_21 : decode cX4_heading 21 = .ok (.l2i, 1) := by decide +kernel
theorem dX4_heading_22 : decode cX4_heading 22 = .ok (.ireturn, 1) := by decide +kernel
abbrev wX4_heading : List Cond := .code yX4_heading cX4_heading 4 (some .int) :: lw_gd
theorem hdX4_heading : (yX4_heading.cls ≠ "java/lang/invoke/MethodHandle" ∧ yX4_heading.cls ≠ "java/lang/invoke/VarHandle" ∧ (parseMethodDescriptor yX4_heading.desc).map (fun d => d.parameters.length) = some 1) := by decide +kernel
def fX4_heading_21   (s0 : Int64) (M : xm_M) : Option (Int32 × xm_M) :=
  some (s0.toInt32, M)
set_option maxRecDepth 20000 in
theorem tfX4_heading_21 {p : Program} {l : Launch} {e : Env} {s : State} {m : MethodId} {args : Array Value} {below : List Frame} {meth : Method} {c : Code} {D : va_G} {g : xm_G} {A : Nat → Prop} (hX : xm_X p m meth c cX4_heading 4 s args wX4_heading RX4 (some .int) D mL g A)     : ∀ (s0 : Int64), ∀ (M : xm_M), xm_J p l e ({ frames := 0, cells := 0, slots := 0, locals := 0 }) s m args below meth c 4 D mL g A (xm_Fi g) 21 [] [.long s0] M (fX4_heading_21 s0 M) := by
  intro s0 M
  unfold fX4_heading_21
  refine xm_l2i hX dX4_heading_21 ?_
  exact xm_iret hX dX4_heading_22
def fX4_heading  (a0 : Int64) (M : xm_M) : Option (Int32 × xm_M) :=
  xm_lt (a0 - a0 / (3600000 : Int64) * (3600000 : Int64)) (fun x1 => if 0 ≤ (lg_cmp x1 (0 : Int64)) then fX4_heading_21 x1 M else fX4_heading_21 (x1 + (3600000 : Int64)) M)
set_option maxRecDepth 20000 in
theorem kX4_heading {l : Launch}   (a0 : Int64) (M : xm_M) : xm_C l yX4_heading wX4_heading ({ frames := 0, cells := 0, slots := 0, locals := 0 }) mL (fun g => [.long a0]) M xm_Fi (fX4_heading  a0 M) := by
  refine xm_C.of (by decide) rfl (fun g => Nat.le_of_ble_eq_true rfl) ?_
  intro p e s m args below meth c D g A hX
  refine xm_lv (lv' := [(0, .long a0)]) rfl ?_
  unfold fX4_heading
  refine xm_lload_n hX 0 dX4_heading_0 rfl rfl ?_
  refine xm_ldc2 hX (v := 3600000) (List.mem_cons_of_mem _ gm_569) dX4_heading_1 ?_
  refine xm_lremL hX (by decide) dX4_heading_4 ?_
  refine xm_nml (fun x1 => ?_)
  refine xm_lstore_n hX (lv' := [(2, .long x1), (0, .long a0)]) dX4_heading_5 rfl (by decide) rfl ?_
  refine xm_lload_n hX 0 dX4_heading_6 rfl rfl ?_
  refine xm_lconst hX (v := 0) rfl dX4_heading_7 ?_
  refine xm_lcmp hX dX4_heading_8 ?_
  refine xm_if_ge hX (tgt := 20) dX4_heading_9 rfl ?_ ?_
  · refine xm_lload_n hX 0 dX4_heading_20 rfl rfl ?_
    refine xm_weak [] (lv' := []) rfl ?_
    exact tfX4_heading_21 hX x1 M
  · refine xm_lload_n hX 0 dX4_heading_12 rfl rfl ?_
    refine xm_ldc2 hX (v := 3600000) (List.mem_cons_of_mem _ gm_569) dX4_heading_13 ?_
    refine xm_ladd hX dX4_heading_16 ?_
    refine xm_goto hX (tgt := 21) dX4_heading_17 rfl ?_
    refine xm_weak [] (lv' := []) rfl ?_
    exact tfX4_heading_21 hX (x1 + (3600000 : Int64)) M
-- ===== OdometryDeskModel.halfSine(I)I
theorem dX4_halfSine_0 : decode cX4_halfSine 0 = .ok (.iload_n 0, 1) := by decide +kernel
theorem dX4_halfSine_1 : decode cX4_halfSine 1 = .ok (.i2l, 1) := by decide +kernel
theorem dX4_halfSine_2 : decode cX4_halfSine 2 = .ok (.sipush 18000, 3) := by decide +kernel
theorem dX4_halfSine_5 : decode cX4_halfSine 5 = .ok (.iload_n 0, 1) := by decide +kernel
theorem dX4_halfSine_6 : decode cX4_halfSine 6 = .ok (.isub, 1) := by decide +kernel
theorem dX4_halfSine_7 : decode cX4_halfSine 7 = .ok (.i2l, 1) := by decide +kernel
theorem dX4_halfSine_8 : decode cX4_halfSine 8 = .ok (.lmul, 1) := by decide +kernel
theorem dX4_halfSine_9 : decode cX4_halfSine 9 = .ok (.lstore_n 1, 1) := by decide +kernel
theorem dX4_halfSine_10 : decode cX4_halfSine 10 = .ok (.ldc2_w 92, 3) := by decide +kernel
theorem dX4_halfSine_13 : decode cX4_halfSine 13 = .ok (.lload_n 1, 1) := by decide +kernel
theorem dX4_halfSine_14 : decode cX4_halfSine 14 = .ok (.lmul, 1) := by decide +kernel
theorem dX4_halfSine_15 : decode cX4_halfSine 15 = .ok (.ldc2_w 94, 3) := by decide +kernel
theorem dX4_halfSine_18 : decode cX4_halfSine 18 = .ok (.lload_n 1, 1) := by decide +kernel
theorem dX4_halfSine_19 : decode cX4_halfSine 19 = .ok (.lsub, 1) := by decide +kernel
theorem dX4_halfSine_20 : decode cX4_halfSine 20 = .ok (.ldiv, 1) := by decide +kernel
theorem dX4_halfSine_21 : decode cX4_halfSine 21 = .ok (.l2i, 1) := by decide +kernel
theorem dX4_halfSine_22 : decode cX4_halfSine 22 = .ok (.ireturn, 1) := by decide +kernel
abbrev wX4_halfSine : List Cond := .code yX4_halfSine cX4_halfSine 3 (some .int) :: lw_gd
theorem hdX4_halfSine : (yX4_halfSine.cls ≠ "java/lang/invoke/MethodHandle" ∧ yX4_halfSine.cls ≠ "java/lang/invoke/VarHandle" ∧ (parseMethodDescriptor yX4_halfSine.desc).map (fun d => d.parameters.length) = some 1) := by decide +kernel
def fX4_halfSine  (a0 : Int32) (M : xm_M) : Option (Int32 × xm_M) :=
  xm_lt (a0.toInt64 * (((18000 : Int32) - a0).toInt64)) (fun x1 => if ((405000000 : Int64) - x1) = 0 then none else some ((((4000000 : Int64) * x1) / ((405000000 : Int64) - x1)).toInt32, M))
set_option maxRecDepth 20000 in
theorem kX4_halfSine {l : Launch}   (a0 : Int32) (M : xm_M) : xm_C l yX4_halfSine wX4_halfSine ({ frames := 0, cells := 0, slots := 0, locals := 0 }) mL (fun g => [.int a0]) M xm_Fi (fX4_halfSine  a0 M) := by
  refine xm_C.of (by decide) rfl (fun g => Nat.le_of_ble_eq_true rfl) ?_
  intro p e s m args below meth c D g A hX
  refine xm_lv (lv' := [(0, .int a0)]) rfl ?_
  unfold fX4_halfSine
  refine xm_iload_n hX 0 dX4_halfSine_0 rfl rfl ?_
  refine xm_i2l hX dX4_halfSine_1 ?_
  refine xm_sipush hX (v := 18000) rfl dX4_halfSine_2 ?_
  refine xm_iload_n hX 0 dX4_halfSine_5 rfl rfl ?_
  refine xm_isub hX dX4_halfSine_6 ?_
  refine xm_i2l hX dX4_halfSine_7 ?_
  refine xm_lmul hX dX4_halfSine_8 ?_
  refine xm_nml (fun x1 => ?_)
  refine xm_lstore_n hX (lv' := [(1, .long x1), (0, .int a0)]) dX4_halfSine_9 rfl (by decide) rfl ?_
  refine xm_ldc2 hX (v := 4000000) (List.mem_cons_of_mem _ gm_580) dX4_halfSine_10 ?_
  refine xm_lload_n hX 0 dX4_halfSine_13 rfl rfl ?_
  refine xm_lmul hX dX4_halfSine_14 ?_
  refine xm_ldc2 hX (v := 405000000) (List.mem_cons_of_mem _ gm_581) dX4_halfSine_15 ?_
  refine xm_lload_n hX 0 dX4_halfSine_18 rfl rfl ?_
  refine xm_lsub hX dX4_halfSine_19 ?_
  refine xm_ldiv hX dX4_halfSine_20 ?_
  refine xm_l2i hX dX4_halfSine_21 ?_
  exact xm_iret hX dX4_halfSine_22
-- ===== OdometryDeskModel.sine(I)I
theorem dX4_sine_0 : decode cX4_sine 0 = .ok (.iload_n 0, 1) := by decide +kernel
theorem dX4_sine_1 : decode cX4_sine 1 = .ok (.sipush 18000, 3) := by decide +kernel
theorem dX4_sine_4 : decode cX4_sine 4 = .ok (.if_icmp .gt 10, 3) := by decide +kernel
theorem dX4_sine_7 : decode cX4_sine 7 = .ok (.iload_n 0, 1) := by decide +kernel
theorem dX4_sine_8 : decode cX4_sine 8 = .ok (.invokestatic 96, 3) := by decide +kernel
theorem dX4_sine_11 : decode cX4_sine 11 = .ok (.goto 12, 3) := by decide +kernel
theorem dX4_sine_14 : decode cX4_sine 14 = .ok (.iload_n 0, 1) := by decide +kernel
theorem dX4_sine_15 : decode cX4_sine 15 = .ok (.sipush 18000, 3) := by decide +kernel
theorem dX4_sine_18 : decode cX4_sine 18 = .ok (.isub, 1) := by decide +kernel
theorem dX4_sine_19 : decode cX4_sine 19 = .ok (.invokestatic 96, 3) := by decide +kernel
theorem dX4_sine_22 : decode cX4_sine 22 = .ok (.ineg, 1) := by decide +kernel
theorem dX4_sine_23 : decode cX4_sine 23 = .ok (.ireturn, 1) := by decide +kernel
abbrev wX4_sine : List Cond := .code yX4_sine cX4_sine 1 (some .int) :: lw_gd
theorem hdX4_sine : (yX4_sine.cls ≠ "java/lang/invoke/MethodHandle" ∧ yX4_sine.cls ≠ "java/lang/invoke/VarHandle" ∧ (parseMethodDescriptor yX4_sine.desc).map (fun d => d.parameters.length) = some 1) := by decide +kernel
def fX4_sine  (a0 : Int32) (M : xm_M) : Option (Int32 × xm_M) :=
  if (18000 : Int32) < a0 then xm_bi (fX4_halfSine (a0 - (18000 : Int32)) M) (fun x2 M1 => some (-x2, M1)) else xm_bi (fX4_halfSine a0 M) (fun x4 M3 => some (x4, M3))
set_option maxRecDepth 20000 in
theorem kX4_sine {l : Launch}   (a0 : Int32) (M : xm_M) : xm_C l yX4_sine wX4_sine ({ frames := 1, cells := 0, slots := 0, locals := 22 }) mL (fun g => [.int a0]) M xm_Fi (fX4_sine  a0 M) := by
  refine xm_C.of (by decide) rfl (fun g => Nat.le_of_ble_eq_true rfl) ?_
  intro p e s m args below meth c D g A hX
  refine xm_lv (lv' := [(0, .int a0)]) rfl ?_
  unfold fX4_sine
  refine xm_iload_n hX 0 dX4_sine_0 rfl rfl ?_
  refine xm_sipush hX (v := 18000) rfl dX4_sine_1 ?_
  refine xm_icmp_gt hX (tgt := 14) dX4_sine_4 rfl ?_ ?_
  · refine xm_iload_n hX 0 dX4_sine_14 rfl rfl ?_
    refine xm_sipush hX (v := 18000) rfl dX4_sine_15 ?_
    refine xm_isub hX dX4_sine_18 ?_
    refine xm_calli hX (xm_runS hX (As := (fun g => [.int (a0 - (18000 : Int32))])) (kX4_halfSine (a0 - (18000 : Int32)) M) (xm_gS gm_577 gm_578 gm_5 gm_579) rfl ⟨rfl, rfl⟩ hdX4_halfSine ⟨Nat.le_of_ble_eq_true rfl, Nat.le_of_ble_eq_true rfl⟩ rfl (Nat.le_of_ble_eq_true rfl) rfl dX4_sine_19) (fun x2 M1 => ?_)
    refine xm_ineg hX dX4_sine_22 ?_
    exact xm_iret hX dX4_sine_23
  · refine xm_iload_n hX 0 dX4_sine_7 rfl rfl ?_
    refine xm_calli hX (xm_runS hX (As := (fun g => [.int a0])) (kX4_halfSine a0 M) (xm_gS gm_577 gm_578 gm_5 gm_579) rfl ⟨rfl, rfl⟩ hdX4_halfSine ⟨Nat.le_of_ble_eq_true rfl, Nat.le_of_ble_eq_true rfl⟩ rfl (Nat.le_of_ble_eq_true rfl) rfl dX4_sine_8) (fun x4 M3 => ?_)
    refine xm_goto hX (tgt := 23) dX4_sine_11 rfl ?_
    exact xm_iret hX dX4_sine_23
-- ===== OdometryDeskModel.cosine(I)I
theorem dX4_cosine_0 : decode cX4_cosine 0 = .ok (.iload_n 0, 1) := by decide +kernel
theorem dX4_cosine_1 : decode cX4_cosine 1 = .ok (.sipush 9000, 3) := by decide +kernel
theorem dX4_cosine_4 : decode cX4_cosine 4 = .ok (.iadd, 1) := by decide +kernel
theorem dX4_cosine_5 : decode cX4_cosine 5 = .ok (.ldc 99, 2) := by decide +kernel
theorem dX4_cosine_7 : decode cX4_cosine 7 = .ok (.irem, 1) := by decide +kernel
theorem dX4_cosine_8 : decode cX4_cosine 8 = .ok (.invokestatic 100, 3) := by decide +kernel
theorem dX4_cosine_11 : decode cX4_cosine 11 = .ok (.ireturn, 1) := by decide +kernel
abbrev wX4_cosine : List Cond := .code yX4_cosine cX4_cosine 1 (some .int) :: lw_gd
theorem hdX4_cosine : (yX4_cosine.cls ≠ "java/lang/invoke/MethodHandle" ∧ yX4_cosine.cls ≠ "java/lang/invoke/VarHandle" ∧ (parseMethodDescriptor yX4_cosine.desc).map (fun d => d.parameters.length) = some 1) := by decide +kernel
def fX4_cosine  (a0 : Int32) (M : xm_M) : Option (Int32 × xm_M) :=
  xm_bi (fX4_sine ((a0 + (9000 : Int32)) - (a0 + (9000 : Int32)) / (36000 : Int32) * (36000 : Int32)) M) (fun x2 M1 => some (x2, M1))
set_option maxRecDepth 20000 in
theorem kX4_cosine {l : Launch}   (a0 : Int32) (M : xm_M) : xm_C l yX4_cosine wX4_cosine ({ frames := 2, cells := 0, slots := 0, locals := 42 }) mL (fun g => [.int a0]) M xm_Fi (fX4_cosine  a0 M) := by
  refine xm_C.of (by decide) rfl (fun g => Nat.le_of_ble_eq_true rfl) ?_
  intro p e s m args below meth c D g A hX
  refine xm_lv (lv' := [(0, .int a0)]) rfl ?_
  unfold fX4_cosine
  refine xm_iload_n hX 0 dX4_cosine_0 rfl rfl ?_
  refine xm_sipush hX (v := 9000) rfl dX4_cosine_1 ?_
  refine xm_iadd hX dX4_cosine_4 ?_
  refine xm_ldc hX (v := 36000) (List.mem_cons_of_mem _ gm_573) dX4_cosine_5 ?_
  refine xm_iremL hX (by decide) dX4_cosine_7 ?_
  refine xm_calli hX (xm_runS hX (As := (fun g => [.int ((a0 + (9000 : Int32)) - (a0 + (9000 : Int32)) / (36000 : Int32) * (36000 : Int32))])) (kX4_sine ((a0 + (9000 : Int32)) - (a0 + (9000 : Int32)) / (36000 : Int32) * (36000 : Int32)) M) (xm_gS gm_574 gm_575 gm_5 gm_576) rfl ⟨rfl, rfl⟩ hdX4_sine ⟨Nat.le_of_ble_eq_true rfl, Nat.le_of_ble_eq_true rfl⟩ rfl (Nat.le_of_ble_eq_true rfl) rfl dX4_cosine_8) (fun x2 M1 => ?_)
  exact xm_iret hX dX4_cosine_11
-- ===== OdometryDeskModel.findStep(I)V ['0']
theorem dX4_findStep_0 : decode cX4_findStep 0 = .ok (.aload_n 0, 1) := by decide +kernel
theorem dX4_findStep_1 : decode cX4_findStep 1 = .ok (.iconst 0, 1) := by decide +kernel
theorem dX4_findStep_2 : decode cX4_findStep 2 = .ok (.invokevirtual 77, 3) := by decide +kernel
theorem dX4_findStep_5 : decode cX4_findStep 5 = .ok (.i2l, 1) := by decide +kernel
theorem dX4_findStep_6 : decode cX4_findStep 6 = .ok (.aload_n 0, 1) := by decide +kernel
theorem dX4_findStep_7 : decode cX4_findStep 7 = .ok (.iload_n 1, 1) := by decide +kernel
theorem dX4_findStep_8 : decode cX4_findStep 8 = .ok (.iconst 1, 1) := by decide +kernel
theorem dX4_findStep_9 : decode cX4_findStep 9 = .ok (.invokevirtual 121, 3) := by decide +kernel
theorem dX4_findStep_12 : decode cX4_findStep 12 = .ok (.i2l, 1) := by decide +kernel
theorem dX4_findStep_13 : decode cX4_findStep 13 = .ok (.lmul, 1) := by decide +kernel
theorem dX4_findStep_14 : decode cX4_findStep 14 = .ok (.lstore_n 2, 1) := by decide +kernel
theorem dX4_findStep_15 : decode cX4_findStep 15 = .ok (.aload_n 0, 1) := by decide +kernel
theorem dX4_findStep_16 : decode cX4_findStep 16 = .ok (.iconst 1, 1) := by decide +kernel
theorem dX4_findStep_17 : decode cX4_findStep 17 = .ok (.invokevirtual 77, 3) := by decide +kernel
theorem dX4_findStep_20 : decode cX4_findStep 20 = .ok (.i2l, 1) := by decide +kernel
theorem dX4_findStep_21 : decode cX4_findStep 21 = .ok (.aload_n 0, 1) := by decide +kernel
theorem dX4_findStep_22 : decode cX4_findStep 22 = .ok (.iload_n 1, 1) := by decide +kernel
theorem dX4_findStep_23 : decode cX4_findStep 23 = .ok (.iconst 2, 1) := by decide +kernel
theorem dX4_findStep_24 : decode cX4_findStep 24 = .ok (.invokevirtual 121, 3) := by decide +kernel
theorem dX4_findStep_27 : decode cX4_findStep 27 = .ok (.i2l, 1) := by decide +kernel
theorem dX4_findStep_28 : decode cX4_findStep 28 = .ok (.lmul, 1) := by decide +kernel
theorem dX4_findStep_29 : decode cX4_findStep 29 = .ok (.lstore 4, 2) := by decide +kernel
theorem dX4_findStep_31 : decode cX4_findStep 31 = .ok (.ldc2_w 135, 3) := by decide +kernel
theorem dX4_findStep_34 : decode cX4_findStep 34 = .ok (.aload_n 0, 1) := by decide +kernel
theorem dX4_findStep_35 : decode cX4_findStep 35 = .ok (.iconst 2, 1) := by decide +kernel
theorem dX4_findStep_36 : decode cX4_findStep 36 = .ok (.invokevirtual 77, 3) := by decide +kernel
theorem dX4_findStep_39 : decode cX4_findStep 39 = .ok (.i2l, 1) := by decide +kernel
theorem dX4_findStep_40 : decode cX4_findStep 40 = .ok (.lmul, 1) := by decide +kernel
theorem dX4_findStep_41 : decode cX4_findStep 41 = .ok (.lstore 6, 2) := by decide +kernel
theorem dX4_findStep_43 : decode cX4_findStep 43 = .ok (.lload 4, 2) := by decide +kernel
theorem dX4_findStep_45 : decode cX4_findStep 45 = .ok (.lload_n 2, 1) := by decide +kernel
theorem dX4_findStep_46 : decode cX4_findStep 46 = .ok (.lsub, 1) := by decide +kernel
theorem dX4_findStep_47 : decode cX4_findStep 47 = .ok (.ldc2_w 137, 3) := by decide +kernel
theorem dX4_findStep_50 : decode cX4_findStep 50 = .ok (.lmul, 1) := by decide +kernel
theorem dX4_findStep_51 : decode cX4_findStep 51 = .ok (.lload 6, 2) := by decide +kernel
theorem dX4_findStep_53 : decode cX4_findStep 53 = .ok (.ldiv, 1) := by decide +kernel
theorem dX4_findStep_54 : decode cX4_findStep 54 = .ok (.lstore 8, 2) := by decide +kernel
theorem dX4_findStep_56 : decode cX4_findStep 56 = .ok (.aload_n 0, 1) := by decide +kernel
theorem dX4_findStep_57 : decode cX4_findStep 57 = .ok (.iload_n 1, 1) := by decide +kernel
theorem dX4_findStep_58 : decode cX4_findStep 58 = .ok (.iconst 3, 1) := by decide +kernel
theorem dX4_findStep_59 : decode cX4_findStep 59 = .ok (.invokevirtual 121, 3) := by decide +kernel
theorem dX4_findStep_62 : decode cX4_findStep 62 = .ok (.aload_n 0, 1) := by decide +kernel
theorem dX4_findStep_63 : decode cX4_findStep 63 = .ok (.getfield 118, 3) := by decide +kernel
theorem dX4_findStep_66 : decode cX4_findStep 66 = .ok (.bipush 16, 2) := by decide +kernel
theorem dX4_findStep_68 : decode cX4_findStep 68 = .ok (.idiv, 1) := by decide +kernel
theorem dX4_findStep_69 : decode cX4_findStep 69 = .ok (.isub, 1) := by decide +kernel
theorem dX4_findStep_70 : decode cX4_findStep 70 = .ok (.i2l, 1) := by decide +kernel
theorem dX4_findStep_71 : decode cX4_findStep 71 = .ok (.lstore 10, 2) := by decide +kernel
theorem dX4_findStep_73 : decode cX4_findStep 73 = .ok (.lload 8, 2) := by decide +kernel
theorem dX4_findStep_75 : decode cX4_findStep 75 = .ok (.lload 10, 2) := by decide +kernel
theorem dX4_findStep_77 : decode cX4_findStep 77 = .ok (.lcmp, 1) := by decide +kernel
theorem dX4_findStep_78 : decode cX4_findStep 78 = .ok (.ifCond .le 11, 3) := by decide +kernel
theorem dX4_findStep_81 : decode cX4_findStep 81 = .ok (.lload 8, 2) := by decide +kernel
theorem dX4_findStep_83 : decode cX4_findStep 83 = .ok (.lload 10, 2) := by decide +kernel
theorem dX4_findStep_85 : decode cX4_findStep 85 = .ok (.lsub, 1) := by decide +kernel
theorem dX4_findStep_86 : decode cX4_findStep 86 = .ok (.goto 8, 3) := by decide +kernel
theorem dX4_findStep_89 : decode cX4_findStep 89 = .ok (.lload 10, 2) := by decide +kernel
theorem dX4_findStep_91 : decode cX4_findStep 91 = .ok (.lload 8, 2) := by decide +kernel
theorem dX4_findStep_93 : decode cX4_findStep 93 = .ok (.lsub, 1) := by decide +kernel
theorem dX4_findStep_94 : decode cX4_findStep 94 = .ok (.lstore 12, 2) := by decide +kernel
theorem dX4_findStep_96 : decode cX4_findStep 96 = .ok (.aload_n 0, 1) := by decide +kernel
theorem dX4_findStep_97 : decode cX4_findStep 97 = .ok (.iconst 4, 1) := by decide +kernel
theorem dX4_findStep_98 : decode cX4_findStep 98 = .ok (.invokevirtual 77, 3) := by decide +kernel
theorem dX4_findStep_101 : decode cX4_findStep 101 = .ok (.i2l, 1) := by decide +kernel
theorem dX4_findStep_102 : decode cX4_findStep 102 = .ok (.lload 8, 2) := by decide +kernel
theorem dX4_findStep_104 : decode cX4_findStep 104 = .ok (.lmul, 1) := by decide +kernel
theorem dX4_findStep_105 : decode cX4_findStep 105 = .ok (.bipush 100, 2) := by decide +kernel
theorem dX4_findStep_107 : decode cX4_findStep 107 = .ok (.aload_n 0, 1) := by decide +kernel
theorem dX4_findStep_108 : decode cX4_findStep 108 = .ok (.iconst 4, 1) := by decide +kernel
theorem dX4_findStep_109 : decode cX4_findStep 109 = .ok (.invokevirtual 77, 3) := by decide +kernel
theorem dX4_findStep_112 : decode cX4_findStep 112 = .ok (.isub, 1) := by decide +kernel
theorem dX4_findStep_113 : decode cX4_findStep 113 = .ok (.i2l, 1) := by decide +kernel
theorem dX4_findStep_114 : decode cX4_findStep 114 = .ok (.lload 10, 2) := by decide +kernel
theorem dX4_findStep_116 : decode cX4_findStep 116 = .ok (.lmul, 1) := by decide +kernel
theorem dX4_findStep_117 : decode cX4_findStep 117 = .ok (.ladd, 1) := by decide +kernel
theorem dX4_findStep_118 : decode cX4_findStep 118 = .ok (.ldc2_w 139, 3) := by decide +kernel
theorem dX4_findStep_121 : decode cX4_findStep 121 = .ok (.ldiv, 1) := by decide +kernel
theorem dX4_findStep_122 : decode cX4_findStep 122 = .ok (.lstore 14, 2) := by decide +kernel
theorem dX4_findStep_124 : decode cX4_findStep 124 = .ok (.aload_n 0, 1) := by decide +kernel
theorem dX4_findStep_125 : decode cX4_findStep 125 = .ok (.getfield 23, 3) := by decide +kernel
theorem dX4_findStep_128 : decode cX4_findStep 128 = .ok (.iload_n 1, 1) := by decide +kernel
theorem dX4_findStep_129 : decode cX4_findStep 129 = .ok (.iconst 1, 1) := by decide +kernel
theorem dX4_findStep_130 : decode cX4_findStep 130 = .ok (.iastore, 1) := by decide +kernel
theorem dX4_findStep_131 : decode cX4_findStep 131 = .ok (.lload 12, 2) := by decide +kernel
theorem dX4_findStep_133 : decode cX4_findStep 133 = .ok (.aload_n 0, 1) := by decide +kernel
theorem dX4_findStep_134 : decode cX4_findStep 134 = .ok (.iconst 3, 1) := by decide +kernel
theorem dX4_findStep_135 : decode cX4_findStep 135 = .ok (.invokevirtual 77, 3) := by decide +kernel
theorem dX4_findStep_138 : decode cX4_findStep 138 = .ok (.i2l, 1) := by decide +kernel
theorem dX4_findStep_139 : decode cX4_findStep 139 = .ok (.lcmp, 1) := by decide +kernel
theorem dX4_findStep_140 : decode cX4_findStep 140 = .ok (.ifCond .le 74, 3) := by decide +kernel
theorem dX4_findStep_143 : decode cX4_findStep 143 = .ok (.lload 10, 2) := by decide +kernel
theorem dX4_findStep_145 : decode cX4_findStep 145 = .ok (.lload 6, 2) := by decide +kernel
theorem dX4_findStep_147 : decode cX4_findStep 147 = .ok (.lmul, 1) := by decide +kernel
theorem dX4_findStep_148 : decode cX4_findStep 148 = .ok (.ldc2_w 137, 3) := by decide +kernel
theorem dX4_findStep_151 : decode cX4_findStep 151 = .ok (.ldiv, 1) := by decide +kernel
theorem dX4_findStep_152 : decode cX4_findStep 152 = .ok (.lstore 16, 2) := by decide +kernel
theorem dX4_findStep_154 : decode cX4_findStep 154 = .ok (.aload_n 0, 1) := by decide +kernel
theorem dX4_findStep_155 : decode cX4_findStep 155 = .ok (.getfield 23, 3) := by decide +kernel
theorem dX4_findStep_158 : decode cX4_findStep 158 = .ok (.iload_n 1, 1) := by decide +kernel
theorem dX4_findStep_159 : decode cX4_findStep 159 = .ok (.lload 8, 2) := by decide +kernel
theorem dX4_findStep_161 : decode cX4_findStep 161 = .ok (.lload 10, 2) := by decide +kernel
theorem dX4_findStep_163 : decode cX4_findStep 163 = .ok (.lcmp, 1) := by decide +kernel
theorem dX4_findStep_164 : decode cX4_findStep 164 = .ok (.ifCond .le 7, 3) := by decide +kernel
theorem dX4_findStep_167 : decode cX4_findStep 167 = .ok (.iconst 3, 1) := by decide +kernel
theorem dX4_findStep_168 : decode cX4_findStep 168 = .ok (.goto 4, 3) := by decide +kernel
theorem dX4_findStep_171 : decode cX4_findStep 171 = .ok (.iconst 2, 1) := by decide +kernel
theorem dX4_findStep_172 : decode cX4_findStep 172 = .ok (.iastore, 1) := by decide +kernel
theorem dX4_findStep_173 : decode cX4_findStep 173 = .ok (.lload 8, 2) := by decide +kernel
theorem dX4_findStep_175 : decode cX4_findStep 175 = .ok (.lload 10, 2) := by decide +kernel
theorem dX4_findStep_177 : decode cX4_findStep 177 = .ok (.lcmp, 1) := by decide +kernel
theorem dX4_findStep_178 : decode cX4_findStep 178 = .ok (.ifCond .le 10, 3) := by decide +kernel
theorem dX4_findStep_181 : decode cX4_findStep 181 = .ok (.lload_n 2, 1) := by decide +kernel
theorem dX4_findStep_182 : decode cX4_findStep 182 = .ok (.lload 16, 2) := by decide +kernel
theorem dX4_findStep_184 : decode cX4_findStep 184 = .ok (.ladd, 1) := by decide +kernel
theorem dX4_findStep_185 : decode cX4_findStep 185 = .ok (.goto 5, 3) := by decide +kernel
theorem dX4_findStep_188 : decode cX4_findStep 188 = .ok (.lload 4, 2) := by decide +kernel
theorem dX4_findStep_190 : decode cX4_findStep 190 = .ok (.lstore 4, 2) := by decide +kernel
theorem dX4_findStep_192 : decode cX4_findStep 192 = .ok (.lload 8, 2) := by decide +kernel
theorem dX4_findStep_194 : decode cX4_findStep 194 = .ok (.lload 10, 2) := by decide +kernel
theorem dX4_findStep_196 : decode cX4_findStep 196 = .ok (.lcmp, 1) := by decide +kernel
theorem dX4_findStep_197 : decode cX4_findStep 197 = .ok (.ifCond .le 7, 3) := by decide +kernel
theorem dX4_findStep_200 : decode cX4_findStep 200 = .ok (.lload_n 2, 1) := by decide +kernel
theorem dX4_findStep_201 : decode cX4_findStep 201 = .ok (.goto 8, 3) := by decide +kernel
theorem dX4_findStep_204 : decode cX4_findStep 204 = .ok (.lload 4, 2) := by decide +kernel
theorem dX4_findStep_206 : decode cX4_findStep 206 = .ok (.lload 16, 2) := by decide +kernel
theorem dX4_findStep_208 : decode cX4_findStep 208 = .ok (.lsub, 1) := by decide +kernel
theorem dX4_findStep_209 : decode cX4_findStep 209 = .ok (.lstore_n 2, 1) := by decide +kernel
theorem dX4_findStep_210 : decode cX4_findStep 210 = .ok (.lload 10, 2) := by decide +kernel
theorem dX4_findStep_212 : decode cX4_findStep 212 = .ok (.lstore 14, 2) := by decide +kernel
theorem dX4_findStep_214 : decode cX4_findStep 214 = .ok (.lload_n 2, 1) := by decide +kernel
theorem dX4_findStep_215 : decode cX4_findStep 215 = .ok (.lload 4, 2) := by decide +kernel
theorem dX4_findStep_217 : decode cX4_findStep 217 = .ok (.ladd, 1) := by decide +kernel
theorem dX4_findStep_218 : decode cX4_findStep 218 = .ok (.ldc2_w 141, 3) := by decide +kernel
theorem dX4_findStep_221 : decode cX4_findStep 221 = .ok (.ldiv, 1) := by decide +kernel
theorem dX4_findStep_222 : decode cX4_findStep 222 = .ok (.lstore 16, 2) := by decide +kernel
theorem dX4_findStep_224 : decode cX4_findStep 224 = .ok (.aload_n 0, 1) := by decide +kernel
theorem dX4_findStep_225 : decode cX4_findStep 225 = .ok (.getfield 112, 3) := by decide +kernel
theorem dX4_findStep_228 : decode cX4_findStep 228 = .ok (.i2l, 1) := by decide +kernel
theorem dX4_findStep_229 : decode cX4_findStep 229 = .ok (.lload 14, 2) := by decide +kernel
theorem dX4_findStep_231 : decode cX4_findStep 231 = .ok (.ldc2_w 141, 3) := by decide +kernel
theorem dX4_findStep_234 : decode cX4_findStep 234 = .ok (.ldiv, 1) := by decide +kernel
theorem dX4_findStep_235 : decode cX4_findStep 235 = .ok (.ladd, 1) := by decide +kernel
theorem dX4_findStep_236 : decode cX4_findStep 236 = .ok (.invokestatic 143, 3) := by decide +kernel
theorem dX4_findStep_239 : decode cX4_findStep 239 = .ok (.bipush 100, 2) := by decide +kernel
theorem dX4_findStep_241 : decode cX4_findStep 241 = .ok (.idiv, 1) := by decide +kernel
theorem dX4_findStep_242 : decode cX4_findStep 242 = .ok (.istore 18, 2) := by decide +kernel
theorem dX4_findStep_244 : decode cX4_findStep 244 = .ok (.aload_n 0, 1) := by decide +kernel
theorem dX4_findStep_245 : decode cX4_findStep 245 = .ok (.dup, 1) := by decide +kernel
theorem dX4_findStep_246 : decode cX4_findStep 246 = .ok (.getfield 105, 3) := by decide +kernel
theorem dX4_findStep_249 : decode cX4_findStep 249 = .ok (.lload 16, 2) := by decide +kernel
theorem dX4_findStep_251 : decode cX4_findStep 251 = .ok (.iload 18, 2) := by decide +kernel
theorem dX4_findStep_253 : decode cX4_findStep 253 = .ok (.invokestatic 147, 3) := by decide +kernel
theorem dX4_findStep_256 : decode cX4_findStep 256 = .ok (.i2l, 1) := by decide +kernel
theorem dX4_findStep_257 : decode cX4_findStep 257 = .ok (.lmul, 1) := by decide +kernel
theorem dX4_findStep_258 : decode cX4_findStep 258 = .ok (.ldc2_w 150, 3) := by decide +kernel
theorem dX4_findStep_261 : decode cX4_findStep 261 = .ok (.ldiv, 1) := by decide +kernel
theorem dX4_findStep_262 : decode cX4_findStep 262 = .ok (.l2i, 1) := by decide +kernel
theorem dX4_findStep_263 : decode cX4_findStep 263 = .ok (.iadd, 1) := by decide +kernel
theorem dX4_findStep_264 : decode cX4_findStep 264 = .ok (.putfield 105, 3) := by decide +kernel
theorem dX4_findStep_267 : decode cX4_findStep 267 = .ok (.aload_n 0, 1) := by decide +kernel
theorem dX4_findStep_268 : decode cX4_findStep 268 = .ok (.dup, 1) := by decide +kernel
theorem dX4_findStep_269 : decode cX4_findStep 269 = .ok (.getfield 109, 3) := by decide +kernel
theorem dX4_findStep_272 : decode cX4_findStep 272 = .ok (.lload 16, 2) := by decide +kernel
theorem dX4_findStep_274 : decode cX4_findStep 274 = .ok (.iload 18, 2) := by decide +kernel
theorem dX4_findStep_276 : decode cX4_findStep 276 = .ok (.invokestatic 100, 3) := by decide +kernel
theorem dX4_findStep_279 : decode cX4_findStep 279 = .ok (.i2l, 1) := by decide +kernel
theorem dX4_findStep_280 : decode cX4_findStep 280 = .ok (.lmul, 1) := by decide +kernel
theorem dX4_findStep_281 : decode cX4_findStep 281 = .ok (.ldc2_w 150, 3) := by decide +kernel
theorem dX4_findStep_284 : decode cX4_findStep 284 = .ok (.ldiv, 1) := by decide +kernel
theorem dX4_findStep_285 : decode cX4_findStep 285 = .ok (.l2i, 1) := by decide +kernel
theorem dX4_findStep_286 : decode cX4_findStep 286 = .ok (.iadd, 1) := by decide +kernel
theorem dX4_findStep_287 : decode cX4_findStep 287 = .ok (.putfield 109, 3) := by decide +kernel
theorem dX4_findStep_290 : decode cX4_findStep 290 = .ok (.aload_n 0, 1) := by decide +kernel
theorem dX4_findStep_291 : decode cX4_findStep 291 = .ok (.aload_n 0, 1) := by decide +kernel
theorem dX4_findStep_292 : decode cX4_findStep 292 = .ok (.getfield 112, 3) := by decide +kernel
theorem dX4_findStep_295 : decode cX4_findStep 295 = .ok (.i2l, 1) := by decide +kernel
theorem dX4_findStep_296 : decode cX4_findStep 296 = .ok (.lload 14, 2) := by decide +kernel
theorem dX4_findStep_298 : decode cX4_findStep 298 = .ok (.ladd, 1) := by decide +kernel
theorem dX4_findStep_299 : decode cX4_findStep 299 = .ok (.invokestatic 143, 3) := by decide +kernel
theorem dX4_findStep_302 : decode cX4_findStep 302 = .ok (.putfield 112, 3) := by decide +kernel
theorem dX4_findStep_305 : decode cX4_findStep 305 = .ok (.aload_n 0, 1) := by decide +kernel
theorem dX4_findStep_306 : decode cX4_findStep 306 = .ok (.dup, 1) := by decide +kernel
theorem dX4_findStep_307 : decode cX4_findStep 307 = .ok (.getfield 115, 3) := by decide +kernel
theorem dX4_findStep_310 : decode cX4_findStep 310 = .ok (.lload 16, 2) := by decide +kernel
theorem dX4_findStep_312 : decode cX4_findStep 312 = .ok (.lconst 0, 1) := by decide +kernel
theorem dX4_findStep_313 : decode cX4_findStep 313 = .ok (.lcmp, 1) := by decide +kernel
theorem dX4_findStep_314 : decode cX4_findStep 314 = .ok (.ifCond .ge 9, 3) := by decide +kernel
theorem dX4_findStep_317 : decode cX4_findStep 317 = .ok (.lload 16, 2) := by decide +kernel
theorem dX4_findStep_319 : decode cX4_findStep 319 = .ok (.lneg, 1) := by decide +kernel
theorem dX4_findStep_320 : decode cX4_findStep 320 = .ok (.goto 5, 3) := by decide +kernel
theorem dX4_findStep_323 : decode cX4_findStep 323 = .ok (.lload 16, 2) := by decide +kernel
theorem dX4_findStep_325 : decode cX4_findStep 325 = .ok (.l2i, 1) := by decide +kernel
theorem dX4_findStep_326 : decode cX4_findStep 326 = .ok (.iadd, 1) := by decide +kernel
theorem dX4_findStep_327 : decode cX4_findStep 327 = .ok (.putfield 115, 3) := by decide +kernel
theorem dX4_findStep_330 : decode cX4_findStep 330 = .ok (.aload_n 0, 1) := by decide +kernel
theorem dX4_findStep_331 : decode cX4_findStep 331 = .ok (.getfield 41, 3) := by decide +kernel
theorem dX4_findStep_334 : decode cX4_findStep 334 = .ok (.iload_n 1, 1) := by decide +kernel
theorem dX4_findStep_335 : decode cX4_findStep 335 = .ok (.lload 8, 2) := by decide +kernel
theorem dX4_findStep_337 : decode cX4_findStep 337 = .ok (.l2i, 1) := by decide +kernel
theorem dX4_findStep_338 : decode cX4_findStep 338 = .ok (.iastore, 1) := by decide +kernel
theorem dX4_findStep_339 : decode cX4_findStep 339 = .ok (.aload_n 0, 1) := by decide +kernel
theorem dX4_findStep_340 : decode cX4_findStep 340 = .ok (.getfield 44, 3) := by decide +kernel
theorem dX4_findStep_343 : decode cX4_findStep 343 = .ok (.iload_n 1, 1) := by decide +kernel
theorem dX4_findStep_344 : decode cX4_findStep 344 = .ok (.lload 14, 2) := by decide +kernel
theorem dX4_findStep_346 : decode cX4_findStep 346 = .ok (.l2i, 1) := by decide +kernel
theorem dX4_findStep_347 : decode cX4_findStep 347 = .ok (.iastore, 1) := by decide +kernel
theorem dX4_findStep_348 : decode cX4_findStep 348 = .ok (.aload_n 0, 1) := by decide +kernel
theorem dX4_findStep_349 : decode cX4_findStep 349 = .ok (.getfield 47, 3) := by decide +kernel
theorem dX4_findStep_352 : decode cX4_findStep 352 = .ok (.iload_n 1, 1) := by decide +kernel
theorem dX4_findStep_353 : decode cX4_findStep 353 = .ok (.lload 16, 2) := by decide +kernel
theorem dX4_findStep_355 : decode cX4_findStep 355 = .ok (.l2i, 1) := by decide +kernel
theorem dX4_findStep_356 : decode cX4_findStep 356 = .ok (.iastore, 1) := by decide +kernel
theorem dX4_findStep_357 : decode cX4_findStep 357 = .ok (.return_, 1) := by decide +kernel
abbrev wX4_findStep : List Cond := .code yX4_findStep cX4_findStep 19 none :: lw_gd
theorem hdX4_findStep : (yX4_findStep.cls ≠ "java/lang/invoke/MethodHandle" ∧ yX4_findStep.cls ≠ "java/lang/invoke/VarHandle" ∧ (parseMethodDescriptor yX4_findStep.desc).map (fun d => d.parameters.length) = some 1) := by decide +kernel
def fX4_findStep_325   (b1 : Int32) (b8 : Int64) (b14 : Int64) (b16 : Int64) (s0 : Int64) (s1 : Int32) (M : xm_M) : Option xm_M :=
  xm_lt (xm_s M 0 21 (s1 + s0.toInt32)) (fun M39 => if b1 < 0 ∨ 120 ≤ b1.toNatClampNeg then none else xm_lt (xm_s M39 11 b1.toNatClampNeg b8.toInt32) (fun M40 => if b1 < 0 ∨ 120 ≤ b1.toNatClampNeg then none else xm_lt (xm_s M40 12 b1.toNatClampNeg b14.toInt32) (fun M41 => if b1 < 0 ∨ 120 ≤ b1.toNatClampNeg then none else xm_lt (xm_s M41 13 b1.toNatClampNeg b16.toInt32) (fun M42 => some M42))))
set_option maxRecDepth 20000 in
theorem tfX4_findStep_325 {p : Program} {l : Launch} {e : Env} {s : State} {m : MethodId} {args : Array Value} {below : List Frame} {meth : Method} {c : Code} {D : va_G} {g : xm_G} {A : Nat → Prop} (hX : xm_X p m meth c cX4_findStep 19 s args wX4_findStep RX4 none D mL g A)     : ∀ (b1 : Int32), ∀ (b8 : Int64), ∀ (b14 : Int64), ∀ (b16 : Int64), ∀ (s0 : Int64), ∀ (s1 : Int32), ∀ (M : xm_M), xm_J p l e ({ frames := 3, cells := 0, slots := 0, locals := 62 }) s m args below meth c 19 D mL g A (xm_Fv g) 325 [(0, .ref (g.1 0)), (1, .int b1), (8, .long b8), (14, .long b14), (16, .long b16)] [.long s0, .int s1, .ref (g.1 0)] M (fX4_findStep_325 b1 b8 b14 b16 s0 s1 M) := by
  intro b1 b8 b14 b16 s0 s1 M
  unfold fX4_findStep_325
  refine xm_l2i hX dX4_findStep_325 ?_
  refine xm_iadd hX dX4_findStep_326 ?_
  refine xm_puti hX (k := 0) (ci := 4) (j := 21) (C := RX4) (T := TX4) (N := 27) (t0 := tyX4) mL_0 rfl rfl (by decide) (fun z hz => List.mem_cons_of_mem _ (iw_X4 z hz)) tyX4_ok nmX4 rfl rfl (List.mem_cons_of_mem _ gm_454) dX4_findStep_327 (fun M39 => ?_)
  refine xm_aload_n hX 0 dX4_findStep_330 rfl rfl ?_
  refine xm_get hX (k := 0) (ci := 4) (j := 11) (C := RX4) (T := TX4) (N := 27) (v := .ref (g.1 11)) mL_0 rfl rfl rfl (by decide) (fun z hz => List.mem_cons_of_mem _ (iw_X4 z hz)) (List.mem_cons_of_mem _ gm_444) dX4_findStep_331 ?_
  refine xm_iload_n hX 1 dX4_findStep_334 rfl rfl ?_
  refine xm_lload hX 2 dX4_findStep_335 rfl ?_
  refine xm_l2i hX dX4_findStep_337 ?_
  refine xm_iast hX (n := 120) mL_11 dX4_findStep_338 (fun M40 => ?_)
  refine xm_aload_n hX 0 dX4_findStep_339 rfl rfl ?_
  refine xm_get hX (k := 0) (ci := 4) (j := 12) (C := RX4) (T := TX4) (N := 27) (v := .ref (g.1 12)) mL_0 rfl rfl rfl (by decide) (fun z hz => List.mem_cons_of_mem _ (iw_X4 z hz)) (List.mem_cons_of_mem _ gm_445) dX4_findStep_340 ?_
  refine xm_iload_n hX 1 dX4_findStep_343 rfl rfl ?_
  refine xm_lload hX 3 dX4_findStep_344 rfl ?_
  refine xm_l2i hX dX4_findStep_346 ?_
  refine xm_iast hX (n := 120) mL_12 dX4_findStep_347 (fun M41 => ?_)
  refine xm_aload_n hX 0 dX4_findStep_348 rfl rfl ?_
  refine xm_get hX (k := 0) (ci := 4) (j := 13) (C := RX4) (T := TX4) (N := 27) (v := .ref (g.1 13)) mL_0 rfl rfl rfl (by decide) (fun z hz => List.mem_cons_of_mem _ (iw_X4 z hz)) (List.mem_cons_of_mem _ gm_446) dX4_findStep_349 ?_
  refine xm_iload_n hX 1 dX4_findStep_352 rfl rfl ?_
  refine xm_lload hX 4 dX4_findStep_353 rfl ?_
  refine xm_l2i hX dX4_findStep_355 ?_
  refine xm_iast hX (n := 120) mL_13 dX4_findStep_356 (fun M42 => ?_)
  exact xm_vret hX dX4_findStep_357
def fX4_findStep_214   (b1 : Int32) (b2 : Int64) (b4 : Int64) (b8 : Int64) (b14 : Int64) (M : xm_M) : Option xm_M :=
  xm_lt ((b2 + b4) / (2 : Int64)) (fun x26 => xm_bi (fX4_heading (((M.1 0 20).toInt64) + (b14 / (2 : Int64))) M) (fun x28 M27 => xm_lt (x28 / (100 : Int32)) (fun x29 => xm_bi (fX4_cosine x29 M27) (fun x31 M30 => xm_lt (xm_s M30 0 18 ((M27.1 0 18) + (((x26 * x31.toInt64) / (1000000 : Int64)).toInt32))) (fun M32 => xm_bi (fX4_sine x29 M32) (fun x34 M33 => xm_lt (xm_s M33 0 19 ((M32.1 0 19) + (((x26 * x34.toInt64) / (1000000 : Int64)).toInt32))) (fun M35 => xm_bi (fX4_heading (((M35.1 0 20).toInt64) + b14) M35) (fun x37 M36 => xm_lt (xm_s M36 0 20 x37) (fun M38 => if 0 ≤ (lg_cmp x26 (0 : Int64)) then fX4_findStep_325 b1 b8 b14 x26 x26 (M38.1 0 21) M38 else fX4_findStep_325 b1 b8 b14 x26 (-x26) (M38.1 0 21) M38)))))))))
set_option maxRecDepth 20000 in
theorem tfX4_findStep_214 {p : Program} {l : Launch} {e : Env} {s : State} {m : MethodId} {args : Array Value} {below : List Frame} {meth : Method} {c : Code} {D : va_G} {g : xm_G} {A : Nat → Prop} (hX : xm_X p m meth c cX4_findStep 19 s args wX4_findStep RX4 none D mL g A)     : ∀ (b1 : Int32), ∀ (b2 : Int64), ∀ (b4 : Int64), ∀ (b8 : Int64), ∀ (b14 : Int64), ∀ (M : xm_M), xm_J p l e ({ frames := 3, cells := 0, slots := 0, locals := 62 }) s m args below meth c 19 D mL g A (xm_Fv g) 214 [(0, .ref (g.1 0)), (1, .int b1), (2, .long b2), (4, .long b4), (8, .long b8), (14, .long b14)] [] M (fX4_findStep_214 b1 b2 b4 b8 b14 M) := by
  intro b1 b2 b4 b8 b14 M
  unfold fX4_findStep_214
  refine xm_lload_n hX 2 dX4_findStep_214 rfl rfl ?_
  refine xm_lload hX 3 dX4_findStep_215 rfl ?_
  refine xm_ladd hX dX4_findStep_217 ?_
  refine xm_ldc2 hX (v := 2) (List.mem_cons_of_mem _ gm_565) dX4_findStep_218 ?_
  refine xm_ldivL hX (by decide) dX4_findStep_221 ?_
  refine xm_nml (fun x26 => ?_)
  refine xm_lstore hX (lv' := [(16, .long x26), (0, .ref (g.1 0)), (1, .int b1), (2, .long b2), (4, .long b4), (8, .long b8), (14, .long b14)]) dX4_findStep_222 (by decide) rfl ?_
  refine xm_aload_n hX 1 dX4_findStep_224 rfl rfl ?_
  refine xm_get hX (k := 0) (ci := 4) (j := 20) (C := RX4) (T := TX4) (N := 27) (v := .int (M.1 0 20)) mL_0 rfl rfl rfl (by decide) (fun z hz => List.mem_cons_of_mem _ (iw_X4 z hz)) (List.mem_cons_of_mem _ gm_453) dX4_findStep_225 ?_
  refine xm_i2l hX dX4_findStep_228 ?_
  refine xm_lload hX 6 dX4_findStep_229 rfl ?_
  refine xm_ldc2 hX (v := 2) (List.mem_cons_of_mem _ gm_565) dX4_findStep_231 ?_
  refine xm_ldivL hX (by decide) dX4_findStep_234 ?_
  refine xm_ladd hX dX4_findStep_235 ?_
  refine xm_calli hX (xm_runS hX (As := (fun g => [.long (((M.1 0 20).toInt64) + (b14 / (2 : Int64)))])) (kX4_heading (((M.1 0 20).toInt64) + (b14 / (2 : Int64))) M) (xm_gS gm_566 gm_567 gm_5 gm_568) rfl ⟨rfl, rfl⟩ hdX4_heading ⟨Nat.le_of_ble_eq_true rfl, Nat.le_of_ble_eq_true rfl⟩ rfl (Nat.le_of_ble_eq_true rfl) rfl dX4_findStep_236) (fun x28 M27 => ?_)
  refine xm_bipush hX (v := 100) rfl dX4_findStep_239 ?_
  refine xm_idivL hX (by decide) dX4_findStep_241 ?_
  refine xm_nmi (fun x29 => ?_)
  refine xm_istore hX (lv' := [(18, .int x29), (16, .long x26), (0, .ref (g.1 0)), (1, .int b1), (2, .long b2), (4, .long b4), (8, .long b8), (14, .long b14)]) dX4_findStep_242 (by decide) rfl ?_
  refine xm_aload_n hX 2 dX4_findStep_244 rfl rfl ?_
  refine xm_dup hX rfl dX4_findStep_245 ?_
  refine xm_get hX (k := 0) (ci := 4) (j := 18) (C := RX4) (T := TX4) (N := 27) (v := .int (M27.1 0 18)) mL_0 rfl rfl rfl (by decide) (fun z hz => List.mem_cons_of_mem _ (iw_X4 z hz)) (List.mem_cons_of_mem _ gm_451) dX4_findStep_246 ?_
  refine xm_lload hX 1 dX4_findStep_249 rfl ?_
  refine xm_iload hX 0 dX4_findStep_251 rfl ?_
  refine xm_calli hX (xm_runS hX (As := (fun g => [.int x29])) (kX4_cosine x29 M27) (xm_gS gm_570 gm_571 gm_5 gm_572) rfl ⟨rfl, rfl⟩ hdX4_cosine ⟨Nat.le_of_ble_eq_true rfl, Nat.le_of_ble_eq_true rfl⟩ rfl (Nat.le_of_ble_eq_true rfl) rfl dX4_findStep_253) (fun x31 M30 => ?_)
  refine xm_i2l hX dX4_findStep_256 ?_
  refine xm_lmul hX dX4_findStep_257 ?_
  refine xm_ldc2 hX (v := 1000000) (List.mem_cons_of_mem _ gm_582) dX4_findStep_258 ?_
  refine xm_ldivL hX (by decide) dX4_findStep_261 ?_
  refine xm_l2i hX dX4_findStep_262 ?_
  refine xm_iadd hX dX4_findStep_263 ?_
  refine xm_puti hX (k := 0) (ci := 4) (j := 18) (C := RX4) (T := TX4) (N := 27) (t0 := tyX4) mL_0 rfl rfl (by decide) (fun z hz => List.mem_cons_of_mem _ (iw_X4 z hz)) tyX4_ok nmX4 rfl rfl (List.mem_cons_of_mem _ gm_451) dX4_findStep_264 (fun M32 => ?_)
  refine xm_aload_n hX 2 dX4_findStep_267 rfl rfl ?_
  refine xm_dup hX rfl dX4_findStep_268 ?_
  refine xm_get hX (k := 0) (ci := 4) (j := 19) (C := RX4) (T := TX4) (N := 27) (v := .int (M32.1 0 19)) mL_0 rfl rfl rfl (by decide) (fun z hz => List.mem_cons_of_mem _ (iw_X4 z hz)) (List.mem_cons_of_mem _ gm_452) dX4_findStep_269 ?_
  refine xm_lload hX 1 dX4_findStep_272 rfl ?_
  refine xm_iload hX 0 dX4_findStep_274 rfl ?_
  refine xm_calli hX (xm_runS hX (As := (fun g => [.int x29])) (kX4_sine x29 M32) (xm_gS gm_574 gm_575 gm_5 gm_576) rfl ⟨rfl, rfl⟩ hdX4_sine ⟨Nat.le_of_ble_eq_true rfl, Nat.le_of_ble_eq_true rfl⟩ rfl (Nat.le_of_ble_eq_true rfl) rfl dX4_findStep_276) (fun x34 M33 => ?_)
  refine xm_i2l hX dX4_findStep_279 ?_
  refine xm_lmul hX dX4_findStep_280 ?_
  refine xm_ldc2 hX (v := 1000000) (List.mem_cons_of_mem _ gm_582) dX4_findStep_281 ?_
  refine xm_ldivL hX (by decide) dX4_findStep_284 ?_
  refine xm_l2i hX dX4_findStep_285 ?_
  refine xm_iadd hX dX4_findStep_286 ?_
  refine xm_puti hX (k := 0) (ci := 4) (j := 19) (C := RX4) (T := TX4) (N := 27) (t0 := tyX4) mL_0 rfl rfl (by decide) (fun z hz => List.mem_cons_of_mem _ (iw_X4 z hz)) tyX4_ok nmX4 rfl rfl (List.mem_cons_of_mem _ gm_452) dX4_findStep_287 (fun M35 => ?_)
  refine xm_aload_n hX 2 dX4_findStep_290 rfl rfl ?_
  refine xm_aload_n hX 2 dX4_findStep_291 rfl rfl ?_
  refine xm_get hX (k := 0) (ci := 4) (j := 20) (C := RX4) (T := TX4) (N := 27) (v := .int (M35.1 0 20)) mL_0 rfl rfl rfl (by decide) (fun z hz => List.mem_cons_of_mem _ (iw_X4 z hz)) (List.mem_cons_of_mem _ gm_453) dX4_findStep_292 ?_
  refine xm_i2l hX dX4_findStep_295 ?_
  refine xm_lload hX 7 dX4_findStep_296 rfl ?_
  refine xm_ladd hX dX4_findStep_298 ?_
  refine xm_calli hX (xm_runS hX (As := (fun g => [.long (((M35.1 0 20).toInt64) + b14)])) (kX4_heading (((M35.1 0 20).toInt64) + b14) M35) (xm_gS gm_566 gm_567 gm_5 gm_568) rfl ⟨rfl, rfl⟩ hdX4_heading ⟨Nat.le_of_ble_eq_true rfl, Nat.le_of_ble_eq_true rfl⟩ rfl (Nat.le_of_ble_eq_true rfl) rfl dX4_findStep_299) (fun x37 M36 => ?_)
  refine xm_puti hX (k := 0) (ci := 4) (j := 20) (C := RX4) (T := TX4) (N := 27) (t0 := tyX4) mL_0 rfl rfl (by decide) (fun z hz => List.mem_cons_of_mem _ (iw_X4 z hz)) tyX4_ok nmX4 rfl rfl (List.mem_cons_of_mem _ gm_453) dX4_findStep_302 (fun M38 => ?_)
  refine xm_aload_n hX 2 dX4_findStep_305 rfl rfl ?_
  refine xm_dup hX rfl dX4_findStep_306 ?_
  refine xm_get hX (k := 0) (ci := 4) (j := 21) (C := RX4) (T := TX4) (N := 27) (v := .int (M38.1 0 21)) mL_0 rfl rfl rfl (by decide) (fun z hz => List.mem_cons_of_mem _ (iw_X4 z hz)) (List.mem_cons_of_mem _ gm_454) dX4_findStep_307 ?_
  refine xm_lload hX 1 dX4_findStep_310 rfl ?_
  refine xm_lconst hX (v := 0) rfl dX4_findStep_312 ?_
  refine xm_lcmp hX dX4_findStep_313 ?_
  refine xm_if_ge hX (tgt := 323) dX4_findStep_314 rfl ?_ ?_
  · refine xm_lload hX 1 dX4_findStep_323 rfl ?_
    refine xm_weak [2, 3, 6, 7, 1] (lv' := [(0, .ref (g.1 0)), (1, .int b1), (8, .long b8), (14, .long b14), (16, .long x26)]) rfl ?_
    exact tfX4_findStep_325 hX b1 b8 b14 x26 x26 (M38.1 0 21) M38
  · refine xm_lload hX 1 dX4_findStep_317 rfl ?_
    refine xm_lneg hX dX4_findStep_319 ?_
    refine xm_goto hX (tgt := 325) dX4_findStep_320 rfl ?_
    refine xm_weak [2, 3, 6, 7, 1] (lv' := [(0, .ref (g.1 0)), (1, .int b1), (8, .long b8), (14, .long b14), (16, .long x26)]) rfl ?_
    exact tfX4_findStep_325 hX b1 b8 b14 x26 (-x26) (M38.1 0 21) M38
def fX4_findStep_209   (b1 : Int32) (b4 : Int64) (b8 : Int64) (b10 : Int64) (s0 : Int64) (M : xm_M) : Option xm_M :=
  fX4_findStep_214 b1 s0 b4 b8 b10 M
set_option maxRecDepth 20000 in
theorem tfX4_findStep_209 {p : Program} {l : Launch} {e : Env} {s : State} {m : MethodId} {args : Array Value} {below : List Frame} {meth : Method} {c : Code} {D : va_G} {g : xm_G} {A : Nat → Prop} (hX : xm_X p m meth c cX4_findStep 19 s args wX4_findStep RX4 none D mL g A)     : ∀ (b1 : Int32), ∀ (b4 : Int64), ∀ (b8 : Int64), ∀ (b10 : Int64), ∀ (s0 : Int64), ∀ (M : xm_M), xm_J p l e ({ frames := 3, cells := 0, slots := 0, locals := 62 }) s m args below meth c 19 D mL g A (xm_Fv g) 209 [(0, .ref (g.1 0)), (1, .int b1), (4, .long b4), (8, .long b8), (10, .long b10)] [.long s0] M (fX4_findStep_209 b1 b4 b8 b10 s0 M) := by
  intro b1 b4 b8 b10 s0 M
  unfold fX4_findStep_209
  refine xm_lstore_n hX (lv' := [(2, .long s0), (0, .ref (g.1 0)), (1, .int b1), (4, .long b4), (8, .long b8), (10, .long b10)]) dX4_findStep_209 rfl (by decide) rfl ?_
  refine xm_lload hX 5 dX4_findStep_210 rfl ?_
  refine xm_lstore hX (lv' := [(14, .long b10), (2, .long s0), (0, .ref (g.1 0)), (1, .int b1), (4, .long b4), (8, .long b8), (10, .long b10)]) dX4_findStep_212 (by decide) rfl ?_
  refine xm_weak [2, 3, 1, 4, 5, 0] (lv' := [(0, .ref (g.1 0)), (1, .int b1), (2, .long s0), (4, .long b4), (8, .long b8), (14, .long b10)]) rfl ?_
  exact tfX4_findStep_214 hX b1 s0 b4 b8 b10 M
def fX4_findStep_190   (b1 : Int32) (b2 : Int64) (b8 : Int64) (b10 : Int64) (b16 : Int64) (s0 : Int64) (M : xm_M) : Option xm_M :=
  if (lg_cmp b8 b10) ≤ 0 then fX4_findStep_209 b1 s0 b8 b10 (s0 - b16) M else fX4_findStep_209 b1 s0 b8 b10 b2 M
set_option maxRecDepth 20000 in
theorem tfX4_findStep_190 {p : Program} {l : Launch} {e : Env} {s : State} {m : MethodId} {args : Array Value} {below : List Frame} {meth : Method} {c : Code} {D : va_G} {g : xm_G} {A : Nat → Prop} (hX : xm_X p m meth c cX4_findStep 19 s args wX4_findStep RX4 none D mL g A)     : ∀ (b1 : Int32), ∀ (b2 : Int64), ∀ (b8 : Int64), ∀ (b10 : Int64), ∀ (b16 : Int64), ∀ (s0 : Int64), ∀ (M : xm_M), xm_J p l e ({ frames := 3, cells := 0, slots := 0, locals := 62 }) s m args below meth c 19 D mL g A (xm_Fv g) 190 [(0, .ref (g.1 0)), (1, .int b1), (2, .long b2), (8, .long b8), (10, .long b10), (16, .long b16)] [.long s0] M (fX4_findStep_190 b1 b2 b8 b10 b16 s0 M) := by
  intro b1 b2 b8 b10 b16 s0 M
  unfold fX4_findStep_190
  refine xm_lstore hX (lv' := [(4, .long s0), (0, .ref (g.1 0)), (1, .int b1), (2, .long b2), (8, .long b8), (10, .long b10), (16, .long b16)]) dX4_findStep_190 (by decide) rfl ?_
  refine xm_lload hX 4 dX4_findStep_192 rfl ?_
  refine xm_lload hX 5 dX4_findStep_194 rfl ?_
  refine xm_lcmp hX dX4_findStep_196 ?_
  refine xm_if_le hX (tgt := 204) dX4_findStep_197 rfl ?_ ?_
  · refine xm_lload hX 0 dX4_findStep_204 rfl ?_
    refine xm_lload hX 6 dX4_findStep_206 rfl ?_
    refine xm_lsub hX dX4_findStep_208 ?_
    refine xm_weak [1, 2, 0, 4, 5] (lv' := [(0, .ref (g.1 0)), (1, .int b1), (4, .long s0), (8, .long b8), (10, .long b10)]) rfl ?_
    exact tfX4_findStep_209 hX b1 s0 b8 b10 (s0 - b16) M
  · refine xm_lload_n hX 3 dX4_findStep_200 rfl rfl ?_
    refine xm_goto hX (tgt := 209) dX4_findStep_201 rfl ?_
    refine xm_weak [1, 2, 0, 4, 5] (lv' := [(0, .ref (g.1 0)), (1, .int b1), (4, .long s0), (8, .long b8), (10, .long b10)]) rfl ?_
    exact tfX4_findStep_209 hX b1 s0 b8 b10 b2 M
def fX4_findStep_172   (b1 : Int32) (b2 : Int64) (b4 : Int64) (b8 : Int64) (b10 : Int64) (b16 : Int64) (s0 : Int32) (s1 : Int32) (M : xm_M) : Option xm_M :=
  if s1 < 0 ∨ 120 ≤ s1.toNatClampNeg then none else xm_lt (xm_s M 5 s1.toNatClampNeg s0) (fun M44 => if (lg_cmp b8 b10) ≤ 0 then fX4_findStep_190 b1 b2 b8 b10 b16 b4 M44 else fX4_findStep_190 b1 b2 b8 b10 b16 (b2 + b16) M44)
set_option maxRecDepth 20000 in
theorem tfX4_findStep_172 {p : Program} {l : Launch} {e : Env} {s : State} {m : MethodId} {args : Array Value} {below : List Frame} {meth : Method} {c : Code} {D : va_G} {g : xm_G} {A : Nat → Prop} (hX : xm_X p m meth c cX4_findStep 19 s args wX4_findStep RX4 none D mL g A)     : ∀ (b1 : Int32), ∀ (b2 : Int64), ∀ (b4 : Int64), ∀ (b8 : Int64), ∀ (b10 : Int64), ∀ (b16 : Int64), ∀ (s0 : Int32), ∀ (s1 : Int32), ∀ (M : xm_M), xm_J p l e ({ frames := 3, cells := 0, slots := 0, locals := 62 }) s m args below meth c 19 D mL g A (xm_Fv g) 172 [(0, .ref (g.1 0)), (1, .int b1), (2, .long b2), (4, .long b4), (8, .long b8), (10, .long b10), (16, .long b16)] [.int s0, .int s1, .ref (g.1 5)] M (fX4_findStep_172 b1 b2 b4 b8 b10 b16 s0 s1 M) := by
  intro b1 b2 b4 b8 b10 b16 s0 s1 M
  unfold fX4_findStep_172
  refine xm_iast hX (n := 120) mL_5 dX4_findStep_172 (fun M44 => ?_)
  refine xm_lload hX 4 dX4_findStep_173 rfl ?_
  refine xm_lload hX 5 dX4_findStep_175 rfl ?_
  refine xm_lcmp hX dX4_findStep_177 ?_
  refine xm_if_le hX (tgt := 188) dX4_findStep_178 rfl ?_ ?_
  · refine xm_lload hX 3 dX4_findStep_188 rfl ?_
    refine xm_weak [0, 1, 2, 4, 5, 6] (lv' := [(0, .ref (g.1 0)), (1, .int b1), (2, .long b2), (8, .long b8), (10, .long b10), (16, .long b16)]) rfl ?_
    exact tfX4_findStep_190 hX b1 b2 b8 b10 b16 b4 M44
  · refine xm_lload_n hX 2 dX4_findStep_181 rfl rfl ?_
    refine xm_lload hX 6 dX4_findStep_182 rfl ?_
    refine xm_ladd hX dX4_findStep_184 ?_
    refine xm_goto hX (tgt := 190) dX4_findStep_185 rfl ?_
    refine xm_weak [0, 1, 2, 4, 5, 6] (lv' := [(0, .ref (g.1 0)), (1, .int b1), (2, .long b2), (8, .long b8), (10, .long b10), (16, .long b16)]) rfl ?_
    exact tfX4_findStep_190 hX b1 b2 b8 b10 b16 (b2 + b16) M44
def fX4_findStep_94   (b1 : Int32) (b2 : Int64) (b4 : Int64) (b6 : Int64) (b8 : Int64) (b10 : Int64) (s0 : Int64) (M : xm_M) : Option xm_M :=
  xm_bi (fX4_setting (4 : Int32) M) (fun x19 M18 => xm_bi (fX4_setting (4 : Int32) M18) (fun x21 M20 => xm_lt (((x19.toInt64 * b8) + ((((100 : Int32) - x21).toInt64) * b10)) / (100 : Int64)) (fun x22 => if b1 < 0 ∨ 120 ≤ b1.toNatClampNeg then none else xm_lt (xm_s M20 5 b1.toNatClampNeg (1 : Int32)) (fun M23 => xm_bi (fX4_setting (3 : Int32) M23) (fun x25 M24 => if (lg_cmp s0 x25.toInt64) ≤ 0 then fX4_findStep_214 b1 b2 b4 b8 x22 M24 else xm_lt ((b10 * b6) / (572958 : Int64)) (fun x43 => if (lg_cmp b8 b10) ≤ 0 then fX4_findStep_172 b1 b2 b4 b8 b10 x43 (2 : Int32) b1 M24 else fX4_findStep_172 b1 b2 b4 b8 b10 x43 (3 : Int32) b1 M24))))))
set_option maxRecDepth 20000 in
theorem tfX4_findStep_94 {p : Program} {l : Launch} {e : Env} {s : State} {m : MethodId} {args : Array Value} {below : List Frame} {meth : Method} {c : Code} {D : va_G} {g : xm_G} {A : Nat → Prop} (hX : xm_X p m meth c cX4_findStep 19 s args wX4_findStep RX4 none D mL g A)     : ∀ (b1 : Int32), ∀ (b2 : Int64), ∀ (b4 : Int64), ∀ (b6 : Int64), ∀ (b8 : Int64), ∀ (b10 : Int64), ∀ (s0 : Int64), ∀ (M : xm_M), xm_J p l e ({ frames := 3, cells := 0, slots := 0, locals := 62 }) s m args below meth c 19 D mL g A (xm_Fv g) 94 [(0, .ref (g.1 0)), (1, .int b1), (2, .long b2), (4, .long b4), (6, .long b6), (8, .long b8), (10, .long b10)] [.long s0] M (fX4_findStep_94 b1 b2 b4 b6 b8 b10 s0 M) := by
  intro b1 b2 b4 b6 b8 b10 s0 M
  unfold fX4_findStep_94
  refine xm_lstore hX (lv' := [(12, .long s0), (0, .ref (g.1 0)), (1, .int b1), (2, .long b2), (4, .long b4), (6, .long b6), (8, .long b8), (10, .long b10)]) dX4_findStep_94 (by decide) rfl ?_
  refine xm_aload_n hX 1 dX4_findStep_96 rfl rfl ?_
  refine xm_iconst hX (v := 4) rfl dX4_findStep_97 ?_
  refine xm_calli hX (xm_runV hX (k := 0) (ci := 4) (As := (fun g => [.int (4 : Int32)])) (kX4_setting (4 : Int32) M) mL_0 rfl (xm_gV gm_500 gm_501 gm_713 gm_5 gm_502) rfl ⟨rfl, rfl⟩ ⟨rfl, hdX4_setting⟩ ⟨Nat.le_of_ble_eq_true rfl, Nat.le_of_ble_eq_true rfl⟩ rfl (Nat.le_of_ble_eq_true rfl) rfl dX4_findStep_98) (fun x19 M18 => ?_)
  refine xm_i2l hX dX4_findStep_101 ?_
  refine xm_lload hX 6 dX4_findStep_102 rfl ?_
  refine xm_lmul hX dX4_findStep_104 ?_
  refine xm_bipush hX (v := 100) rfl dX4_findStep_105 ?_
  refine xm_aload_n hX 1 dX4_findStep_107 rfl rfl ?_
  refine xm_iconst hX (v := 4) rfl dX4_findStep_108 ?_
  refine xm_calli hX (xm_runV hX (k := 0) (ci := 4) (As := (fun g => [.int (4 : Int32)])) (kX4_setting (4 : Int32) M18) mL_0 rfl (xm_gV gm_500 gm_501 gm_713 gm_5 gm_502) rfl ⟨rfl, rfl⟩ ⟨rfl, hdX4_setting⟩ ⟨Nat.le_of_ble_eq_true rfl, Nat.le_of_ble_eq_true rfl⟩ rfl (Nat.le_of_ble_eq_true rfl) rfl dX4_findStep_109) (fun x21 M20 => ?_)
  refine xm_isub hX dX4_findStep_112 ?_
  refine xm_i2l hX dX4_findStep_113 ?_
  refine xm_lload hX 7 dX4_findStep_114 rfl ?_
  refine xm_lmul hX dX4_findStep_116 ?_
  refine xm_ladd hX dX4_findStep_117 ?_
  refine xm_ldc2 hX (v := 100) (List.mem_cons_of_mem _ gm_564) dX4_findStep_118 ?_
  refine xm_ldivL hX (by decide) dX4_findStep_121 ?_
  refine xm_nml (fun x22 => ?_)
  refine xm_lstore hX (lv' := [(14, .long x22), (12, .long s0), (0, .ref (g.1 0)), (1, .int b1), (2, .long b2), (4, .long b4), (6, .long b6), (8, .long b8), (10, .long b10)]) dX4_findStep_122 (by decide) rfl ?_
  refine xm_aload_n hX 2 dX4_findStep_124 rfl rfl ?_
  refine xm_get hX (k := 0) (ci := 4) (j := 5) (C := RX4) (T := TX4) (N := 27) (v := .ref (g.1 5)) mL_0 rfl rfl rfl (by decide) (fun z hz => List.mem_cons_of_mem _ (iw_X4 z hz)) (List.mem_cons_of_mem _ gm_438) dX4_findStep_125 ?_
  refine xm_iload_n hX 3 dX4_findStep_128 rfl rfl ?_
  refine xm_iconst hX (v := 1) rfl dX4_findStep_129 ?_
  refine xm_iast hX (n := 120) mL_5 dX4_findStep_130 (fun M23 => ?_)
  refine xm_lload hX 1 dX4_findStep_131 rfl ?_
  refine xm_aload_n hX 2 dX4_findStep_133 rfl rfl ?_
  refine xm_iconst hX (v := 3) rfl dX4_findStep_134 ?_
  refine xm_calli hX (xm_runV hX (k := 0) (ci := 4) (As := (fun g => [.int (3 : Int32)])) (kX4_setting (3 : Int32) M23) mL_0 rfl (xm_gV gm_500 gm_501 gm_713 gm_5 gm_502) rfl ⟨rfl, rfl⟩ ⟨rfl, hdX4_setting⟩ ⟨Nat.le_of_ble_eq_true rfl, Nat.le_of_ble_eq_true rfl⟩ rfl (Nat.le_of_ble_eq_true rfl) rfl dX4_findStep_135) (fun x25 M24 => ?_)
  refine xm_i2l hX dX4_findStep_138 ?_
  refine xm_lcmp hX dX4_findStep_139 ?_
  refine xm_if_le hX (tgt := 214) dX4_findStep_140 rfl ?_ ?_
  · refine xm_weak [2, 3, 4, 5, 7, 0] (lv' := [(0, .ref (g.1 0)), (1, .int b1), (2, .long b2), (4, .long b4), (8, .long b8), (14, .long x22)]) rfl ?_
    exact tfX4_findStep_214 hX b1 b2 b4 b8 x22 M24
  · refine xm_lload hX 8 dX4_findStep_143 rfl ?_
    refine xm_lload hX 6 dX4_findStep_145 rfl ?_
    refine xm_lmul hX dX4_findStep_147 ?_
    refine xm_ldc2 hX (v := 572958) (List.mem_cons_of_mem _ gm_563) dX4_findStep_148 ?_
    refine xm_ldivL hX (by decide) dX4_findStep_151 ?_
    refine xm_nml (fun x43 => ?_)
    refine xm_lstore hX (lv' := [(16, .long x43), (14, .long x22), (12, .long s0), (0, .ref (g.1 0)), (1, .int b1), (2, .long b2), (4, .long b4), (6, .long b6), (8, .long b8), (10, .long b10)]) dX4_findStep_152 (by decide) rfl ?_
    refine xm_aload_n hX 3 dX4_findStep_154 rfl rfl ?_
    refine xm_get hX (k := 0) (ci := 4) (j := 5) (C := RX4) (T := TX4) (N := 27) (v := .ref (g.1 5)) mL_0 rfl rfl rfl (by decide) (fun z hz => List.mem_cons_of_mem _ (iw_X4 z hz)) (List.mem_cons_of_mem _ gm_438) dX4_findStep_155 ?_
    refine xm_iload_n hX 4 dX4_findStep_158 rfl rfl ?_
    refine xm_lload hX 8 dX4_findStep_159 rfl ?_
    refine xm_lload hX 9 dX4_findStep_161 rfl ?_
    refine xm_lcmp hX dX4_findStep_163 ?_
    refine xm_if_le hX (tgt := 171) dX4_findStep_164 rfl ?_ ?_
    · refine xm_iconst hX (v := 2) rfl dX4_findStep_171 ?_
      refine xm_weak [3, 4, 5, 6, 8, 9, 0] (lv' := [(0, .ref (g.1 0)), (1, .int b1), (2, .long b2), (4, .long b4), (8, .long b8), (10, .long b10), (16, .long x43)]) rfl ?_
      exact tfX4_findStep_172 hX b1 b2 b4 b8 b10 x43 (2 : Int32) b1 M24
    · refine xm_iconst hX (v := 3) rfl dX4_findStep_167 ?_
      refine xm_goto hX (tgt := 172) dX4_findStep_168 rfl ?_
      refine xm_weak [3, 4, 5, 6, 8, 9, 0] (lv' := [(0, .ref (g.1 0)), (1, .int b1), (2, .long b2), (4, .long b4), (8, .long b8), (10, .long b10), (16, .long x43)]) rfl ?_
      exact tfX4_findStep_172 hX b1 b2 b4 b8 b10 x43 (3 : Int32) b1 M24
def fX4_findStep  (a1 : Int32) (M : xm_M) : Option xm_M :=
  xm_bi (fX4_setting (0 : Int32) M) (fun x2 M1 => xm_bi (fX4_ofEntry a1 (1 : Int32) M1) (fun x4 M3 => xm_lt (x2.toInt64 * x4.toInt64) (fun x5 => xm_bi (fX4_setting (1 : Int32) M3) (fun x7 M6 => xm_bi (fX4_ofEntry a1 (2 : Int32) M6) (fun x9 M8 => xm_lt (x7.toInt64 * x9.toInt64) (fun x10 => xm_bi (fX4_setting (2 : Int32) M8) (fun x12 M11 => xm_lt ((1000 : Int64) * x12.toInt64) (fun x13 => if x13 = 0 then none else xm_lt (((x10 - x5) * (572958 : Int64)) / x13) (fun x14 => xm_bi (fX4_ofEntry a1 (3 : Int32) M11) (fun x16 M15 => xm_lt ((x16 - ((M15.1 0 22) / (16 : Int32))).toInt64) (fun x17 => if (lg_cmp x14 x17) ≤ 0 then fX4_findStep_94 a1 x5 x10 x13 x14 x17 (x17 - x14) M15 else fX4_findStep_94 a1 x5 x10 x13 x14 x17 (x14 - x17) M15)))))))))))
set_option maxRecDepth 20000 in
theorem kX4_findStep {l : Launch}   (a1 : Int32) (M : xm_M) : xm_C l yX4_findStep wX4_findStep ({ frames := 3, cells := 0, slots := 0, locals := 62 }) mL (fun g => [.ref (g.1 0), .int a1]) M xm_Fv (fX4_findStep  a1 M) := by
  refine xm_C.of (by decide) rfl (fun g => Nat.le_of_ble_eq_true rfl) ?_
  intro p e s m args below meth c D g A hX
  refine xm_lv (lv' := [(0, .ref (g.1 0)), (1, .int a1)]) rfl ?_
  unfold fX4_findStep
  refine xm_aload_n hX 0 dX4_findStep_0 rfl rfl ?_
  refine xm_iconst hX (v := 0) rfl dX4_findStep_1 ?_
  refine xm_calli hX (xm_runV hX (k := 0) (ci := 4) (As := (fun g => [.int (0 : Int32)])) (kX4_setting (0 : Int32) M) mL_0 rfl (xm_gV gm_500 gm_501 gm_713 gm_5 gm_502) rfl ⟨rfl, rfl⟩ ⟨rfl, hdX4_setting⟩ ⟨Nat.le_of_ble_eq_true rfl, Nat.le_of_ble_eq_true rfl⟩ rfl (Nat.le_of_ble_eq_true rfl) rfl dX4_findStep_2) (fun x2 M1 => ?_)
  refine xm_i2l hX dX4_findStep_5 ?_
  refine xm_aload_n hX 0 dX4_findStep_6 rfl rfl ?_
  refine xm_iload_n hX 1 dX4_findStep_7 rfl rfl ?_
  refine xm_iconst hX (v := 1) rfl dX4_findStep_8 ?_
  refine xm_calli hX (xm_runV hX (k := 0) (ci := 4) (As := (fun g => [.int a1, .int (1 : Int32)])) (kX4_ofEntry a1 (1 : Int32) M1) mL_0 rfl (xm_gV gm_553 gm_554 gm_717 gm_5 gm_555) rfl ⟨rfl, rfl⟩ ⟨rfl, hdX4_ofEntry⟩ ⟨Nat.le_of_ble_eq_true rfl, Nat.le_of_ble_eq_true rfl⟩ rfl (Nat.le_of_ble_eq_true rfl) rfl dX4_findStep_9) (fun x4 M3 => ?_)
  refine xm_i2l hX dX4_findStep_12 ?_
  refine xm_lmul hX dX4_findStep_13 ?_
  refine xm_nml (fun x5 => ?_)
  refine xm_lstore_n hX (lv' := [(2, .long x5), (0, .ref (g.1 0)), (1, .int a1)]) dX4_findStep_14 rfl (by decide) rfl ?_
  refine xm_aload_n hX 1 dX4_findStep_15 rfl rfl ?_
  refine xm_iconst hX (v := 1) rfl dX4_findStep_16 ?_
  refine xm_calli hX (xm_runV hX (k := 0) (ci := 4) (As := (fun g => [.int (1 : Int32)])) (kX4_setting (1 : Int32) M3) mL_0 rfl (xm_gV gm_500 gm_501 gm_713 gm_5 gm_502) rfl ⟨rfl, rfl⟩ ⟨rfl, hdX4_setting⟩ ⟨Nat.le_of_ble_eq_true rfl, Nat.le_of_ble_eq_true rfl⟩ rfl (Nat.le_of_ble_eq_true rfl) rfl dX4_findStep_17) (fun x7 M6 => ?_)
  refine xm_i2l hX dX4_findStep_20 ?_
  refine xm_aload_n hX 1 dX4_findStep_21 rfl rfl ?_
  refine xm_iload_n hX 2 dX4_findStep_22 rfl rfl ?_
  refine xm_iconst hX (v := 2) rfl dX4_findStep_23 ?_
  refine xm_calli hX (xm_runV hX (k := 0) (ci := 4) (As := (fun g => [.int a1, .int (2 : Int32)])) (kX4_ofEntry a1 (2 : Int32) M6) mL_0 rfl (xm_gV gm_553 gm_554 gm_717 gm_5 gm_555) rfl ⟨rfl, rfl⟩ ⟨rfl, hdX4_ofEntry⟩ ⟨Nat.le_of_ble_eq_true rfl, Nat.le_of_ble_eq_true rfl⟩ rfl (Nat.le_of_ble_eq_true rfl) rfl dX4_findStep_24) (fun x9 M8 => ?_)
  refine xm_i2l hX dX4_findStep_27 ?_
  refine xm_lmul hX dX4_findStep_28 ?_
  refine xm_nml (fun x10 => ?_)
  refine xm_lstore hX (lv' := [(4, .long x10), (2, .long x5), (0, .ref (g.1 0)), (1, .int a1)]) dX4_findStep_29 (by decide) rfl ?_
  refine xm_ldc2 hX (v := 1000) (List.mem_cons_of_mem _ gm_562) dX4_findStep_31 ?_
  refine xm_aload_n hX 2 dX4_findStep_34 rfl rfl ?_
  refine xm_iconst hX (v := 2) rfl dX4_findStep_35 ?_
  refine xm_calli hX (xm_runV hX (k := 0) (ci := 4) (As := (fun g => [.int (2 : Int32)])) (kX4_setting (2 : Int32) M8) mL_0 rfl (xm_gV gm_500 gm_501 gm_713 gm_5 gm_502) rfl ⟨rfl, rfl⟩ ⟨rfl, hdX4_setting⟩ ⟨Nat.le_of_ble_eq_true rfl, Nat.le_of_ble_eq_true rfl⟩ rfl (Nat.le_of_ble_eq_true rfl) rfl dX4_findStep_36) (fun x12 M11 => ?_)
  refine xm_i2l hX dX4_findStep_39 ?_
  refine xm_lmul hX dX4_findStep_40 ?_
  refine xm_nml (fun x13 => ?_)
  refine xm_lstore hX (lv' := [(6, .long x13), (4, .long x10), (2, .long x5), (0, .ref (g.1 0)), (1, .int a1)]) dX4_findStep_41 (by decide) rfl ?_
  refine xm_lload hX 1 dX4_findStep_43 rfl ?_
  refine xm_lload_n hX 2 dX4_findStep_45 rfl rfl ?_
  refine xm_lsub hX dX4_findStep_46 ?_
  refine xm_ldc2 hX (v := 572958) (List.mem_cons_of_mem _ gm_563) dX4_findStep_47 ?_
  refine xm_lmul hX dX4_findStep_50 ?_
  refine xm_lload hX 0 dX4_findStep_51 rfl ?_
  refine xm_ldiv hX dX4_findStep_53 ?_
  refine xm_nml (fun x14 => ?_)
  refine xm_lstore hX (lv' := [(8, .long x14), (6, .long x13), (4, .long x10), (2, .long x5), (0, .ref (g.1 0)), (1, .int a1)]) dX4_findStep_54 (by decide) rfl ?_
  refine xm_aload_n hX 4 dX4_findStep_56 rfl rfl ?_
  refine xm_iload_n hX 5 dX4_findStep_57 rfl rfl ?_
  refine xm_iconst hX (v := 3) rfl dX4_findStep_58 ?_
  refine xm_calli hX (xm_runV hX (k := 0) (ci := 4) (As := (fun g => [.int a1, .int (3 : Int32)])) (kX4_ofEntry a1 (3 : Int32) M11) mL_0 rfl (xm_gV gm_553 gm_554 gm_717 gm_5 gm_555) rfl ⟨rfl, rfl⟩ ⟨rfl, hdX4_ofEntry⟩ ⟨Nat.le_of_ble_eq_true rfl, Nat.le_of_ble_eq_true rfl⟩ rfl (Nat.le_of_ble_eq_true rfl) rfl dX4_findStep_59) (fun x16 M15 => ?_)
  refine xm_aload_n hX 4 dX4_findStep_62 rfl rfl ?_
  refine xm_get hX (k := 0) (ci := 4) (j := 22) (C := RX4) (T := TX4) (N := 27) (v := .int (M15.1 0 22)) mL_0 rfl rfl rfl (by decide) (fun z hz => List.mem_cons_of_mem _ (iw_X4 z hz)) (List.mem_cons_of_mem _ gm_455) dX4_findStep_63 ?_
  refine xm_bipush hX (v := 16) rfl dX4_findStep_66 ?_
  refine xm_idivL hX (by decide) dX4_findStep_68 ?_
  refine xm_isub hX dX4_findStep_69 ?_
  refine xm_i2l hX dX4_findStep_70 ?_
  refine xm_nml (fun x17 => ?_)
  refine xm_lstore hX (lv' := [(10, .long x17), (8, .long x14), (6, .long x13), (4, .long x10), (2, .long x5), (0, .ref (g.1 0)), (1, .int a1)]) dX4_findStep_71 (by decide) rfl ?_
  refine xm_lload hX 1 dX4_findStep_73 rfl ?_
  refine xm_lload hX 0 dX4_findStep_75 rfl ?_
  refine xm_lcmp hX dX4_findStep_77 ?_
  refine xm_if_le hX (tgt := 89) dX4_findStep_78 rfl ?_ ?_
  · refine xm_lload hX 0 dX4_findStep_89 rfl ?_
    refine xm_lload hX 1 dX4_findStep_91 rfl ?_
    refine xm_lsub hX dX4_findStep_93 ?_
    refine xm_weak [5, 6, 4, 3, 2, 1, 0] (lv' := [(0, .ref (g.1 0)), (1, .int a1), (2, .long x5), (4, .long x10), (6, .long x13), (8, .long x14), (10, .long x17)]) rfl ?_
    exact tfX4_findStep_94 hX a1 x5 x10 x13 x14 x17 (x17 - x14) M15
  · refine xm_lload hX 1 dX4_findStep_81 rfl ?_
    refine xm_lload hX 0 dX4_findStep_83 rfl ?_
    refine xm_lsub hX dX4_findStep_85 ?_
    refine xm_goto hX (tgt := 94) dX4_findStep_86 rfl ?_
    refine xm_weak [5, 6, 4, 3, 2, 1, 0] (lv' := [(0, .ref (g.1 0)), (1, .int a1), (2, .long x5), (4, .long x10), (6, .long x13), (8, .long x14), (10, .long x17)]) rfl ?_
    exact tfX4_findStep_94 hX a1 x5 x10 x13 x14 x17 (x14 - x17) M15
-- ===== OdometryDeskModel.isNear(I)Z ['0']
theorem dX4_isNear_0 : decode cX4_isNear 0 = .ok (.bipush 15, 2) := by decide +kernel
theorem dX4_isNear_2 : decode cX4_isNear 2 = .ok (.iconst 5, 1) := by decide +kernel
theorem dX4_isNear_3 : decode cX4_isNear 3 = .ok (.iload_n 1, 1) := by decide +kernel
theorem dX4_isNear_4 : decode cX4_isNear 4 = .ok (.imul, 1) := by decide +kernel
theorem dX4_isNear_5 : decode cX4_isNear 5 = .ok (.iadd, 1) := by decide +kernel
theorem dX4_isNear_6 : decode cX4_isNear 6 = .ok (.istore_n 2, 1) := by decide +kernel
theorem dX4_isNear_7 : decode cX4_isNear 7 = .ok (.aload_n 0, 1) := by decide +kernel
theorem dX4_isNear_8 : decode cX4_isNear 8 = .ok (.bipush 7, 2) := by decide +kernel
theorem dX4_isNear_10 : decode cX4_isNear 10 = .ok (.invokevirtual 77, 3) := by decide +kernel
theorem dX4_isNear_13 : decode cX4_isNear 13 = .ok (.istore_n 3, 1) := by decide +kernel
theorem dX4_isNear_14 : decode cX4_isNear 14 = .ok (.aload_n 0, 1) := by decide +kernel
theorem dX4_isNear_15 : decode cX4_isNear 15 = .ok (.getfield 105, 3) := by decide +kernel
theorem dX4_isNear_18 : decode cX4_isNear 18 = .ok (.sipush 1000, 3) := by decide +kernel
theorem dX4_isNear_21 : decode cX4_isNear 21 = .ok (.idiv, 1) := by decide +kernel
theorem dX4_isNear_22 : decode cX4_isNear 22 = .ok (.aload_n 0, 1) := by decide +kernel
theorem dX4_isNear_23 : decode cX4_isNear 23 = .ok (.getfield 7, 3) := by decide +kernel
theorem dX4_isNear_26 : decode cX4_isNear 26 = .ok (.iload_n 2, 1) := by decide +kernel
theorem dX4_isNear_27 : decode cX4_isNear 27 = .ok (.iaload, 1) := by decide +kernel
theorem dX4_isNear_28 : decode cX4_isNear 28 = .ok (.iload_n 3, 1) := by decide +kernel
theorem dX4_isNear_29 : decode cX4_isNear 29 = .ok (.isub, 1) := by decide +kernel
theorem dX4_isNear_30 : decode cX4_isNear 30 = .ok (.aload_n 0, 1) := by decide +kernel
theorem dX4_isNear_31 : decode cX4_isNear 31 = .ok (.getfield 7, 3) := by decide +kernel
theorem dX4_isNear_34 : decode cX4_isNear 34 = .ok (.iload_n 2, 1) := by decide +kernel
theorem dX4_isNear_35 : decode cX4_isNear 35 = .ok (.iconst 1, 1) := by decide +kernel
theorem dX4_isNear_36 : decode cX4_isNear 36 = .ok (.iadd, 1) := by decide +kernel
theorem dX4_isNear_37 : decode cX4_isNear 37 = .ok (.iaload, 1) := by decide +kernel
theorem dX4_isNear_38 : decode cX4_isNear 38 = .ok (.iload_n 3, 1) := by decide +kernel
theorem dX4_isNear_39 : decode cX4_isNear 39 = .ok (.iadd, 1) := by decide +kernel
theorem dX4_isNear_40 : decode cX4_isNear 40 = .ok (.invokestatic 67, 3) := by decide +kernel
theorem dX4_isNear_43 : decode cX4_isNear 43 = .ok (.ifCond .eq 41, 3) := by decide +kernel
theorem dX4_isNear_46 : decode cX4_isNear 46 = .ok (.aload_n 0, 1) := by decide +kernel
theorem dX4_isNear_47 : decode cX4_isNear 47 = .ok (.getfield 109, 3) := by decide +kernel
theorem dX4_isNear_50 : decode cX4_isNear 50 = .ok (.sipush 1000, 3) := by decide +kernel
theorem dX4_isNear_53 : decode cX4_isNear 53 = .ok (.idiv, 1) := by decide +kernel
theorem dX4_isNear_54 : decode cX4_isNear 54 = .ok (.aload_n 0, 1) := by decide +kernel
theorem dX4_isNear_55 : decode cX4_isNear 55 = .ok (.getfield 7, 3) := by decide +kernel
theorem dX4_isNear_58 : decode cX4_isNear 58 = .ok (.iload_n 2, 1) := by decide +kernel
theorem dX4_isNear_59 : decode cX4_isNear 59 = .ok (.iconst 2, 1) := by decide +kernel
theorem dX4_isNear_60 : decode cX4_isNear 60 = .ok (.iadd, 1) := by decide +kernel
theorem dX4_isNear_61 : decode cX4_isNear 61 = .ok (.iaload, 1) := by decide +kernel
theorem dX4_isNear_62 : decode cX4_isNear 62 = .ok (.iload_n 3, 1) := by decide +kernel
theorem dX4_isNear_63 : decode cX4_isNear 63 = .ok (.isub, 1) := by decide +kernel
theorem dX4_isNear_64 : decode cX4_isNear 64 = .ok (.aload_n 0, 1) := by decide +kernel
theorem dX4_isNear_65 : decode cX4_isNear 65 = .ok (.getfield 7, 3) := by decide +kernel
theorem dX4_isNear_68 : decode cX4_isNear 68 = .ok (.iload_n 2, 1) := by decide +kernel
theorem dX4_isNear_69 : decode cX4_isNear 69 = .ok (.iconst 3, 1) := by decide +kernel
theorem dX4_isNear_70 : decode cX4_isNear 70 = .ok (.iadd, 1) := by decide +kernel
theorem dX4_isNear_71 : decode cX4_isNear 71 = .ok (.iaload, 1) := by decide +kernel
theorem dX4_isNear_72 : decode cX4_isNear 72 = .ok (.iload_n 3, 1) := by decide +kernel
theorem dX4_isNear_73 : decode cX4_isNear 73 = .ok (.iadd, 1) := by decide +kernel
theorem dX4_isNear_74 : decode cX4_isNear 74 = .ok (.invokestatic 67, 3) := by decide +kernel
theorem dX4_isNear_77 : decode cX4_isNear 77 = .ok (.ifCond .eq 7, 3) := by decide +kernel
theorem dX4_isNear_80 : decode cX4_isNear 80 = .ok (.iconst 1, 1) := by decide +kernel
theorem dX4_isNear_81 : decode cX4_isNear 81 = .ok (.goto 4, 3) := by decide +kernel
theorem dX4_isNear_84 : decode cX4_isNear 84 = .ok (.iconst 0, 1) := by decide +kernel
theorem dX4_isNear_85 : decode cX4_isNear 85 = .ok (.ireturn, 1) := by decide +kernel
abbrev wX4_isNear : List Cond := .code yX4_isNear cX4_isNear 4 (some .boolean) :: lw_gd
theorem hdX4_isNear : (yX4_isNear.cls ≠ "java/lang/invoke/MethodHandle" ∧ yX4_isNear.cls ≠ "java/lang/invoke/VarHandle" ∧ (parseMethodDescriptor yX4_isNear.desc).map (fun d => d.parameters.length) = some 1) := by decide +kernel
def fX4_isNear  (a1 : Int32) (M : xm_M) : Option (Int32 × xm_M) :=
  xm_lt ((15 : Int32) + ((5 : Int32) * a1)) (fun x1 => xm_bi (fX4_setting (7 : Int32) M) (fun x3 M2 => if x1 < 0 ∨ 547 ≤ x1.toNatClampNeg then none else if (x1 + (1 : Int32)) < 0 ∨ 547 ≤ (x1 + (1 : Int32)).toNatClampNeg then none else xm_bi (fX4_in ((M2.1 0 18) / (1000 : Int32)) ((M2.1 1 x1.toNatClampNeg) - x3) ((M2.1 1 (x1 + (1 : Int32)).toNatClampNeg) + x3) M2) (fun x5 M4 => if x5 = 0 then some ((0 : Int32), M4) else if (x1 + (2 : Int32)) < 0 ∨ 547 ≤ (x1 + (2 : Int32)).toNatClampNeg then none else if (x1 + (3 : Int32)) < 0 ∨ 547 ≤ (x1 + (3 : Int32)).toNatClampNeg then none else xm_bi (fX4_in ((M4.1 0 19) / (1000 : Int32)) ((M4.1 1 (x1 + (2 : Int32)).toNatClampNeg) - x3) ((M4.1 1 (x1 + (3 : Int32)).toNatClampNeg) + x3) M4) (fun x7 M6 => if x7 = 0 then some ((0 : Int32), M6) else some ((1 : Int32), M6)))))
set_option maxRecDepth 20000 in
theorem kX4_isNear {l : Launch}   (a1 : Int32) (M : xm_M) : xm_C l yX4_isNear wX4_isNear ({ frames := 1, cells := 0, slots := 0, locals := 22 }) mL (fun g => [.ref (g.1 0), .int a1]) M xm_Fi (fX4_isNear  a1 M) := by
  refine xm_C.of (by decide) rfl (fun g => Nat.le_of_ble_eq_true rfl) ?_
  intro p e s m args below meth c D g A hX
  refine xm_lv (lv' := [(0, .ref (g.1 0)), (1, .int a1)]) rfl ?_
  unfold fX4_isNear
  refine xm_bipush hX (v := 15) rfl dX4_isNear_0 ?_
  refine xm_iconst hX (v := 5) rfl dX4_isNear_2 ?_
  refine xm_iload_n hX 1 dX4_isNear_3 rfl rfl ?_
  refine xm_imul hX dX4_isNear_4 ?_
  refine xm_iadd hX dX4_isNear_5 ?_
  refine xm_nmi (fun x1 => ?_)
  refine xm_istore_n hX (lv' := [(2, .int x1), (0, .ref (g.1 0)), (1, .int a1)]) dX4_isNear_6 rfl (by decide) rfl ?_
  refine xm_aload_n hX 1 dX4_isNear_7 rfl rfl ?_
  refine xm_bipush hX (v := 7) rfl dX4_isNear_8 ?_
  refine xm_calli hX (xm_runV hX (k := 0) (ci := 4) (As := (fun g => [.int (7 : Int32)])) (kX4_setting (7 : Int32) M) mL_0 rfl (xm_gV gm_500 gm_501 gm_713 gm_5 gm_502) rfl ⟨rfl, rfl⟩ ⟨rfl, hdX4_setting⟩ ⟨Nat.le_of_ble_eq_true rfl, Nat.le_of_ble_eq_true rfl⟩ rfl (Nat.le_of_ble_eq_true rfl) rfl dX4_isNear_10) (fun x3 M2 => ?_)
  refine xm_istore_n hX (lv' := [(3, .int x3), (2, .int x1), (0, .ref (g.1 0)), (1, .int a1)]) dX4_isNear_13 rfl (by decide) rfl ?_
  refine xm_aload_n hX 2 dX4_isNear_14 rfl rfl ?_
  refine xm_get hX (k := 0) (ci := 4) (j := 18) (C := RX4) (T := TX4) (N := 27) (v := .int (M2.1 0 18)) mL_0 rfl rfl rfl (by decide) (fun z hz => List.mem_cons_of_mem _ (iw_X4 z hz)) (List.mem_cons_of_mem _ gm_451) dX4_isNear_15 ?_
  refine xm_sipush hX (v := 1000) rfl dX4_isNear_18 ?_
  refine xm_idivL hX (by decide) dX4_isNear_21 ?_
  refine xm_aload_n hX 2 dX4_isNear_22 rfl rfl ?_
  refine xm_get hX (k := 0) (ci := 4) (j := 0) (C := RX4) (T := TX4) (N := 27) (v := .ref (g.1 1)) mL_0 rfl rfl rfl (by decide) (fun z hz => List.mem_cons_of_mem _ (iw_X4 z hz)) (List.mem_cons_of_mem _ gm_433) dX4_isNear_23 ?_
  refine xm_iload_n hX 1 dX4_isNear_26 rfl rfl ?_
  refine xm_iald hX (n := 547) mL_1 dX4_isNear_27 ?_
  refine xm_iload_n hX 0 dX4_isNear_28 rfl rfl ?_
  refine xm_isub hX dX4_isNear_29 ?_
  refine xm_aload_n hX 2 dX4_isNear_30 rfl rfl ?_
  refine xm_get hX (k := 0) (ci := 4) (j := 0) (C := RX4) (T := TX4) (N := 27) (v := .ref (g.1 1)) mL_0 rfl rfl rfl (by decide) (fun z hz => List.mem_cons_of_mem _ (iw_X4 z hz)) (List.mem_cons_of_mem _ gm_433) dX4_isNear_31 ?_
  refine xm_iload_n hX 1 dX4_isNear_34 rfl rfl ?_
  refine xm_iconst hX (v := 1) rfl dX4_isNear_35 ?_
  refine xm_iadd hX dX4_isNear_36 ?_
  refine xm_iald hX (n := 547) mL_1 dX4_isNear_37 ?_
  refine xm_iload_n hX 0 dX4_isNear_38 rfl rfl ?_
  refine xm_iadd hX dX4_isNear_39 ?_
  refine xm_calli hX (xm_runS hX (As := (fun g => [.int ((M2.1 0 18) / (1000 : Int32)), .int ((M2.1 1 x1.toNatClampNeg) - x3), .int ((M2.1 1 (x1 + (1 : Int32)).toNatClampNeg) + x3)])) (kX4_in ((M2.1 0 18) / (1000 : Int32)) ((M2.1 1 x1.toNatClampNeg) - x3) ((M2.1 1 (x1 + (1 : Int32)).toNatClampNeg) + x3) M2) (xm_gS gm_495 gm_496 gm_5 gm_497) rfl ⟨rfl, rfl⟩ hdX4_in ⟨Nat.le_of_ble_eq_true rfl, Nat.le_of_ble_eq_true rfl⟩ rfl (Nat.le_of_ble_eq_true rfl) rfl dX4_isNear_40) (fun x5 M4 => ?_)
  refine xm_if_eq hX (tgt := 84) dX4_isNear_43 rfl ?_ ?_
  · refine xm_iconst hX (v := 0) rfl dX4_isNear_84 ?_
    exact xm_zretL hX (by decide) dX4_isNear_85
  · refine xm_aload_n hX 2 dX4_isNear_46 rfl rfl ?_
    refine xm_get hX (k := 0) (ci := 4) (j := 19) (C := RX4) (T := TX4) (N := 27) (v := .int (M4.1 0 19)) mL_0 rfl rfl rfl (by decide) (fun z hz => List.mem_cons_of_mem _ (iw_X4 z hz)) (List.mem_cons_of_mem _ gm_452) dX4_isNear_47 ?_
    refine xm_sipush hX (v := 1000) rfl dX4_isNear_50 ?_
    refine xm_idivL hX (by decide) dX4_isNear_53 ?_
    refine xm_aload_n hX 2 dX4_isNear_54 rfl rfl ?_
    refine xm_get hX (k := 0) (ci := 4) (j := 0) (C := RX4) (T := TX4) (N := 27) (v := .ref (g.1 1)) mL_0 rfl rfl rfl (by decide) (fun z hz => List.mem_cons_of_mem _ (iw_X4 z hz)) (List.mem_cons_of_mem _ gm_433) dX4_isNear_55 ?_
    refine xm_iload_n hX 1 dX4_isNear_58 rfl rfl ?_
    refine xm_iconst hX (v := 2) rfl dX4_isNear_59 ?_
    refine xm_iadd hX dX4_isNear_60 ?_
    refine xm_iald hX (n := 547) mL_1 dX4_isNear_61 ?_
    refine xm_iload_n hX 0 dX4_isNear_62 rfl rfl ?_
    refine xm_isub hX dX4_isNear_63 ?_
    refine xm_aload_n hX 2 dX4_isNear_64 rfl rfl ?_
    refine xm_get hX (k := 0) (ci := 4) (j := 0) (C := RX4) (T := TX4) (N := 27) (v := .ref (g.1 1)) mL_0 rfl rfl rfl (by decide) (fun z hz => List.mem_cons_of_mem _ (iw_X4 z hz)) (List.mem_cons_of_mem _ gm_433) dX4_isNear_65 ?_
    refine xm_iload_n hX 1 dX4_isNear_68 rfl rfl ?_
    refine xm_iconst hX (v := 3) rfl dX4_isNear_69 ?_
    refine xm_iadd hX dX4_isNear_70 ?_
    refine xm_iald hX (n := 547) mL_1 dX4_isNear_71 ?_
    refine xm_iload_n hX 0 dX4_isNear_72 rfl rfl ?_
    refine xm_iadd hX dX4_isNear_73 ?_
    refine xm_calli hX (xm_runS hX (As := (fun g => [.int ((M4.1 0 19) / (1000 : Int32)), .int ((M4.1 1 (x1 + (2 : Int32)).toNatClampNeg) - x3), .int ((M4.1 1 (x1 + (3 : Int32)).toNatClampNeg) + x3)])) (kX4_in ((M4.1 0 19) / (1000 : Int32)) ((M4.1 1 (x1 + (2 : Int32)).toNatClampNeg) - x3) ((M4.1 1 (x1 + (3 : Int32)).toNatClampNeg) + x3) M4) (xm_gS gm_495 gm_496 gm_5 gm_497) rfl ⟨rfl, rfl⟩ hdX4_in ⟨Nat.le_of_ble_eq_true rfl, Nat.le_of_ble_eq_true rfl⟩ rfl (Nat.le_of_ble_eq_true rfl) rfl dX4_isNear_74) (fun x7 M6 => ?_)
    refine xm_if_eq hX (tgt := 84) dX4_isNear_77 rfl ?_ ?_
    · refine xm_iconst hX (v := 0) rfl dX4_isNear_84 ?_
      exact xm_zretL hX (by decide) dX4_isNear_85
    · refine xm_iconst hX (v := 1) rfl dX4_isNear_80 ?_
      refine xm_goto hX (tgt := 85) dX4_isNear_81 rfl ?_
      exact xm_zretL hX (by decide) dX4_isNear_85
-- ===== OdometryDeskModel.offOf(I)I ['0']
theorem dX4_offOf_0 : decode cX4_offOf 0 = .ok (.aload_n 0, 1) := by decide +kernel
theorem dX4_offOf_1 : decode cX4_offOf 1 = .ok (.getfield 112, 3) := by decide +kernel
theorem dX4_offOf_4 : decode cX4_offOf 4 = .ok (.bipush 100, 2) := by decide +kernel
theorem dX4_offOf_6 : decode cX4_offOf 6 = .ok (.aload_n 0, 1) := by decide +kernel
theorem dX4_offOf_7 : decode cX4_offOf 7 = .ok (.getfield 7, 3) := by decide +kernel
theorem dX4_offOf_10 : decode cX4_offOf 10 = .ok (.bipush 15, 2) := by decide +kernel
theorem dX4_offOf_12 : decode cX4_offOf 12 = .ok (.iconst 5, 1) := by decide +kernel
theorem dX4_offOf_13 : decode cX4_offOf 13 = .ok (.iload_n 1, 1) := by decide +kernel
theorem dX4_offOf_14 : decode cX4_offOf 14 = .ok (.imul, 1) := by decide +kernel
theorem dX4_offOf_15 : decode cX4_offOf 15 = .ok (.iadd, 1) := by decide +kernel
theorem dX4_offOf_16 : decode cX4_offOf 16 = .ok (.iconst 4, 1) := by decide +kernel
theorem dX4_offOf_17 : decode cX4_offOf 17 = .ok (.iadd, 1) := by decide +kernel
theorem dX4_offOf_18 : decode cX4_offOf 18 = .ok (.iaload, 1) := by decide +kernel
theorem dX4_offOf_19 : decode cX4_offOf 19 = .ok (.imul, 1) := by decide +kernel
theorem dX4_offOf_20 : decode cX4_offOf 20 = .ok (.isub, 1) := by decide +kernel
theorem dX4_offOf_21 : decode cX4_offOf 21 = .ok (.ldc 152, 2) := by decide +kernel
theorem dX4_offOf_23 : decode cX4_offOf 23 = .ok (.irem, 1) := by decide +kernel
theorem dX4_offOf_24 : decode cX4_offOf 24 = .ok (.istore_n 2, 1) := by decide +kernel
theorem dX4_offOf_25 : decode cX4_offOf 25 = .ok (.iload_n 2, 1) := by decide +kernel
theorem dX4_offOf_26 : decode cX4_offOf 26 = .ok (.ldc 153, 2) := by decide +kernel
theorem dX4_offOf_28 : decode cX4_offOf 28 = .ok (.if_icmp .ge 10, 3) := by decide +kernel
theorem dX4_offOf_31 : decode cX4_offOf 31 = .ok (.iload_n 2, 1) := by decide +kernel
theorem dX4_offOf_32 : decode cX4_offOf 32 = .ok (.ldc 152, 2) := by decide +kernel
theorem dX4_offOf_34 : decode cX4_offOf 34 = .ok (.iadd, 1) := by decide +kernel
theorem dX4_offOf_35 : decode cX4_offOf 35 = .ok (.goto 17, 3) := by decide +kernel
theorem dX4_offOf_38 : decode cX4_offOf 38 = .ok (.iload_n 2, 1) := by decide +kernel
theorem dX4_offOf_39 : decode cX4_offOf 39 = .ok (.ldc 154, 2) := by decide +kernel
theorem dX4_offOf_41 : decode cX4_offOf 41 = .ok (.if_icmp .le 10, 3) := by decide +kernel
theorem dX4_offOf_44 : decode cX4_offOf 44 = .ok (.iload_n 2, 1) := by decide +kernel
theorem dX4_offOf_45 : decode cX4_offOf 45 = .ok (.ldc 152, 2) := by decide +kernel
theorem dX4_offOf_47 : decode cX4_offOf 47 = .ok (.isub, 1) := by decide +kernel
theorem dX4_offOf_48 : decode cX4_offOf 48 = .ok (.goto 4, 3) := by decide +kernel
theorem dX4_offOf_51 : decode cX4_offOf 51 = .ok (.iload_n 2, 1) := by decide +kernel
theorem dX4_offOf_52 : decode cX4_offOf 52 = .ok (.ireturn, 1) := by decide +kernel
abbrev wX4_offOf : List Cond := .code yX4_offOf cX4_offOf 3 (some .int) :: lw_gd
theorem hdX4_offOf : (yX4_offOf.cls ≠ "java/lang/invoke/MethodHandle" ∧ yX4_offOf.cls ≠ "java/lang/invoke/VarHandle" ∧ (parseMethodDescriptor yX4_offOf.desc).map (fun d => d.parameters.length) = some 1) := by decide +kernel
def fX4_offOf  (a1 : Int32) (M : xm_M) : Option (Int32 × xm_M) :=
  if (((15 : Int32) + ((5 : Int32) * a1)) + (4 : Int32)) < 0 ∨ 547 ≤ (((15 : Int32) + ((5 : Int32) * a1)) + (4 : Int32)).toNatClampNeg then none else xm_lt (((M.1 0 20) - ((100 : Int32) * (M.1 1 (((15 : Int32) + ((5 : Int32) * a1)) + (4 : Int32)).toNatClampNeg))) - ((M.1 0 20) - ((100 : Int32) * (M.1 1 (((15 : Int32) + ((5 : Int32) * a1)) + (4 : Int32)).toNatClampNeg))) / (1800000 : Int32) * (1800000 : Int32)) (fun x1 => if (-900000 : Int32) ≤ x1 then if x1 ≤ (899999 : Int32) then some (x1, M) else some (x1 - (1800000 : Int32), M) else some (x1 + (1800000 : Int32), M))
set_option maxRecDepth 20000 in
theorem kX4_offOf {l : Launch}   (a1 : Int32) (M : xm_M) : xm_C l yX4_offOf wX4_offOf ({ frames := 0, cells := 0, slots := 0, locals := 0 }) mL (fun g => [.ref (g.1 0), .int a1]) M xm_Fi (fX4_offOf  a1 M) := by
  refine xm_C.of (by decide) rfl (fun g => Nat.le_of_ble_eq_true rfl) ?_
  intro p e s m args below meth c D g A hX
  refine xm_lv (lv' := [(0, .ref (g.1 0)), (1, .int a1)]) rfl ?_
  unfold fX4_offOf
  refine xm_aload_n hX 0 dX4_offOf_0 rfl rfl ?_
  refine xm_get hX (k := 0) (ci := 4) (j := 20) (C := RX4) (T := TX4) (N := 27) (v := .int (M.1 0 20)) mL_0 rfl rfl rfl (by decide) (fun z hz => List.mem_cons_of_mem _ (iw_X4 z hz)) (List.mem_cons_of_mem _ gm_453) dX4_offOf_1 ?_
  refine xm_bipush hX (v := 100) rfl dX4_offOf_4 ?_
  refine xm_aload_n hX 0 dX4_offOf_6 rfl rfl ?_
  refine xm_get hX (k := 0) (ci := 4) (j := 0) (C := RX4) (T := TX4) (N := 27) (v := .ref (g.1 1)) mL_0 rfl rfl rfl (by decide) (fun z hz => List.mem_cons_of_mem _ (iw_X4 z hz)) (List.mem_cons_of_mem _ gm_433) dX4_offOf_7 ?_
  refine xm_bipush hX (v := 15) rfl dX4_offOf_10 ?_
  refine xm_iconst hX (v := 5) rfl dX4_offOf_12 ?_
  refine xm_iload_n hX 1 dX4_offOf_13 rfl rfl ?_
  refine xm_imul hX dX4_offOf_14 ?_
  refine xm_iadd hX dX4_offOf_15 ?_
  refine xm_iconst hX (v := 4) rfl dX4_offOf_16 ?_
  refine xm_iadd hX dX4_offOf_17 ?_
  refine xm_iald hX (n := 547) mL_1 dX4_offOf_18 ?_
  refine xm_imul hX dX4_offOf_19 ?_
  refine xm_isub hX dX4_offOf_20 ?_
  refine xm_ldc hX (v := 1800000) (List.mem_cons_of_mem _ gm_592) dX4_offOf_21 ?_
  refine xm_iremL hX (by decide) dX4_offOf_23 ?_
  refine xm_nmi (fun x1 => ?_)
  refine xm_istore_n hX (lv' := [(2, .int x1), (0, .ref (g.1 0)), (1, .int a1)]) dX4_offOf_24 rfl (by decide) rfl ?_
  refine xm_iload_n hX 0 dX4_offOf_25 rfl rfl ?_
  refine xm_ldc hX (v := -900000) (List.mem_cons_of_mem _ gm_593) dX4_offOf_26 ?_
  refine xm_icmp_ge hX (tgt := 38) dX4_offOf_28 rfl ?_ ?_
  · refine xm_iload_n hX 0 dX4_offOf_38 rfl rfl ?_
    refine xm_ldc hX (v := 899999) (List.mem_cons_of_mem _ gm_594) dX4_offOf_39 ?_
    refine xm_icmp_le hX (tgt := 51) dX4_offOf_41 rfl ?_ ?_
    · refine xm_iload_n hX 0 dX4_offOf_51 rfl rfl ?_
      exact xm_iret hX dX4_offOf_52
    · refine xm_iload_n hX 0 dX4_offOf_44 rfl rfl ?_
      refine xm_ldc hX (v := 1800000) (List.mem_cons_of_mem _ gm_592) dX4_offOf_45 ?_
      refine xm_isub hX dX4_offOf_47 ?_
      refine xm_goto hX (tgt := 52) dX4_offOf_48 rfl ?_
      exact xm_iret hX dX4_offOf_52
  · refine xm_iload_n hX 0 dX4_offOf_31 rfl rfl ?_
    refine xm_ldc hX (v := 1800000) (List.mem_cons_of_mem _ gm_592) dX4_offOf_32 ?_
    refine xm_iadd hX dX4_offOf_34 ?_
    refine xm_goto hX (tgt := 52) dX4_offOf_35 rfl ?_
    exact xm_iret hX dX4_offOf_52
-- ===== OdometryDeskModel.sizeOf(I)I
theorem dX4_sizeOf_0 : decode cX4_sizeOf 0 = .ok (.iload_n 0, 1) := by decide +kernel
theorem dX4_sizeOf_1 : decode cX4_sizeOf 1 = .ok (.ifCond .ge 8, 3) := by decide +kernel
theorem dX4_sizeOf_4 : decode cX4_sizeOf 4 = .ok (.iload_n 0, 1) := by decide +kernel
theorem dX4_sizeOf_5 : decode cX4_sizeOf 5 = .ok (.ineg, 1) := by decide +kernel
theorem dX4_sizeOf_6 : decode cX4_sizeOf 6 = .ok (.goto 4, 3) := by decide +kernel
theorem dX4_sizeOf_9 : decode cX4_sizeOf 9 = .ok (.iload_n 0, 1) := by decide +kernel
theorem dX4_sizeOf_10 : decode cX4_sizeOf 10 = .ok (.ireturn, 1) := by decide +kernel
abbrev wX4_sizeOf : List Cond := .code yX4_sizeOf cX4_sizeOf 1 (some .int) :: lw_gd
theorem hdX4_sizeOf : (yX4_sizeOf.cls ≠ "java/lang/invoke/MethodHandle" ∧ yX4_sizeOf.cls ≠ "java/lang/invoke/VarHandle" ∧ (parseMethodDescriptor yX4_sizeOf.desc).map (fun d => d.parameters.length) = some 1) := by decide +kernel
def fX4_sizeOf  (a0 : Int32) (M : xm_M) : Option (Int32 × xm_M) :=
  if 0 ≤ a0 then some (a0, M) else some (-a0, M)
set_option maxRecDepth 20000 in
theorem kX4_sizeOf {l : Launch}   (a0 : Int32) (M : xm_M) : xm_C l yX4_sizeOf wX4_sizeOf ({ frames := 0, cells := 0, slots := 0, locals := 0 }) mL (fun g => [.int a0]) M xm_Fi (fX4_sizeOf  a0 M) := by
  refine xm_C.of (by decide) rfl (fun g => Nat.le_of_ble_eq_true rfl) ?_
  intro p e s m args below meth c D g A hX
  refine xm_lv (lv' := [(0, .int a0)]) rfl ?_
  unfold fX4_sizeOf
  refine xm_iload_n hX 0 dX4_sizeOf_0 rfl rfl ?_
  refine xm_if_ge hX (tgt := 9) dX4_sizeOf_1 rfl ?_ ?_
  · refine xm_iload_n hX 0 dX4_sizeOf_9 rfl rfl ?_
    exact xm_iret hX dX4_sizeOf_10
  · refine xm_iload_n hX 0 dX4_sizeOf_4 rfl rfl ?_
    refine xm_ineg hX dX4_sizeOf_5 ?_
    refine xm_goto hX (tgt := 10) dX4_sizeOf_6 rfl ?_
    exact xm_iret hX dX4_sizeOf_10
-- ===== OdometryDeskModel.findPull(I)V ['0']
theorem dX4_findPull_0 : decode cX4_findPull 0 = .ok (.iconst 0, 1) := by decide +kernel
theorem dX4_findPull_1 : decode cX4_findPull 1 = .ok (.istore_n 2, 1) := by decide +kernel
theorem dX4_findPull_2 : decode cX4_findPull 2 = .ok (.iload_n 2, 1) := by decide +kernel
theorem dX4_findPull_3 : decode cX4_findPull 3 = .ok (.aload_n 0, 1) := by decide +kernel
theorem dX4_findPull_4 : decode cX4_findPull 4 = .ok (.getfield 7, 3) := by decide +kernel
theorem dX4_findPull_7 : decode cX4_findPull 7 = .ok (.bipush 9, 2) := by decide +kernel
theorem dX4_findPull_9 : decode cX4_findPull 9 = .ok (.iaload, 1) := by decide +kernel
theorem dX4_findPull_10 : decode cX4_findPull 10 = .ok (.if_icmp .ge 83, 3) := by decide +kernel
theorem dX4_findPull_13 : decode cX4_findPull 13 = .ok (.aload_n 0, 1) := by decide +kernel
theorem dX4_findPull_14 : decode cX4_findPull 14 = .ok (.iload_n 2, 1) := by decide +kernel
theorem dX4_findPull_15 : decode cX4_findPull 15 = .ok (.invokevirtual 155, 3) := by decide +kernel
theorem dX4_findPull_18 : decode cX4_findPull 18 = .ok (.ifCond .eq 69, 3) := by decide +kernel
theorem dX4_findPull_21 : decode cX4_findPull 21 = .ok (.aload_n 0, 1) := by decide +kernel
theorem dX4_findPull_22 : decode cX4_findPull 22 = .ok (.iload_n 2, 1) := by decide +kernel
theorem dX4_findPull_23 : decode cX4_findPull 23 = .ok (.invokevirtual 158, 3) := by decide +kernel
theorem dX4_findPull_26 : decode cX4_findPull 26 = .ok (.invokestatic 161, 3) := by decide +kernel
theorem dX4_findPull_29 : decode cX4_findPull 29 = .ok (.aload_n 0, 1) := by decide +kernel
theorem dX4_findPull_30 : decode cX4_findPull 30 = .ok (.bipush 8, 2) := by decide +kernel
theorem dX4_findPull_32 : decode cX4_findPull 32 = .ok (.invokevirtual 77, 3) := by decide +kernel
theorem dX4_findPull_35 : decode cX4_findPull 35 = .ok (.if_icmp .gt 52, 3) := by decide +kernel
theorem dX4_findPull_38 : decode cX4_findPull 38 = .ok (.aload_n 0, 1) := by decide +kernel
theorem dX4_findPull_39 : decode cX4_findPull 39 = .ok (.getfield 50, 3) := by decide +kernel
theorem dX4_findPull_42 : decode cX4_findPull 42 = .ok (.iload_n 1, 1) := by decide +kernel
theorem dX4_findPull_43 : decode cX4_findPull 43 = .ok (.iload_n 2, 1) := by decide +kernel
theorem dX4_findPull_44 : decode cX4_findPull 44 = .ok (.iastore, 1) := by decide +kernel
theorem dX4_findPull_45 : decode cX4_findPull 45 = .ok (.aload_n 0, 1) := by decide +kernel
theorem dX4_findPull_46 : decode cX4_findPull 46 = .ok (.getfield 53, 3) := by decide +kernel
theorem dX4_findPull_49 : decode cX4_findPull 49 = .ok (.iload_n 1, 1) := by decide +kernel
theorem dX4_findPull_50 : decode cX4_findPull 50 = .ok (.aload_n 0, 1) := by decide +kernel
theorem dX4_findPull_51 : decode cX4_findPull 51 = .ok (.iload_n 2, 1) := by decide +kernel
theorem dX4_findPull_52 : decode cX4_findPull 52 = .ok (.invokevirtual 158, 3) := by decide +kernel
theorem dX4_findPull_55 : decode cX4_findPull 55 = .ok (.aload_n 0, 1) := by decide +kernel
theorem dX4_findPull_56 : decode cX4_findPull 56 = .ok (.bipush 6, 2) := by decide +kernel
theorem dX4_findPull_58 : decode cX4_findPull 58 = .ok (.invokevirtual 77, 3) := by decide +kernel
theorem dX4_findPull_61 : decode cX4_findPull 61 = .ok (.imul, 1) := by decide +kernel
theorem dX4_findPull_62 : decode cX4_findPull 62 = .ok (.bipush 100, 2) := by decide +kernel
theorem dX4_findPull_64 : decode cX4_findPull 64 = .ok (.idiv, 1) := by decide +kernel
theorem dX4_findPull_65 : decode cX4_findPull 65 = .ok (.iastore, 1) := by decide +kernel
theorem dX4_findPull_66 : decode cX4_findPull 66 = .ok (.aload_n 0, 1) := by decide +kernel
theorem dX4_findPull_67 : decode cX4_findPull 67 = .ok (.aload_n 0, 1) := by decide +kernel
theorem dX4_findPull_68 : decode cX4_findPull 68 = .ok (.getfield 112, 3) := by decide +kernel
theorem dX4_findPull_71 : decode cX4_findPull 71 = .ok (.i2l, 1) := by decide +kernel
theorem dX4_findPull_72 : decode cX4_findPull 72 = .ok (.aload_n 0, 1) := by decide +kernel
theorem dX4_findPull_73 : decode cX4_findPull 73 = .ok (.getfield 53, 3) := by decide +kernel
theorem dX4_findPull_76 : decode cX4_findPull 76 = .ok (.iload_n 1, 1) := by decide +kernel
theorem dX4_findPull_77 : decode cX4_findPull 77 = .ok (.iaload, 1) := by decide +kernel
theorem dX4_findPull_78 : decode cX4_findPull 78 = .ok (.i2l, 1) := by decide +kernel
theorem dX4_findPull_79 : decode cX4_findPull 79 = .ok (.lsub, 1) := by decide +kernel
theorem dX4_findPull_80 : decode cX4_findPull 80 = .ok (.invokestatic 143, 3) := by decide +kernel
theorem dX4_findPull_83 : decode cX4_findPull 83 = .ok (.putfield 112, 3) := by decide +kernel
theorem dX4_findPull_86 : decode cX4_findPull 86 = .ok (.return_, 1) := by decide +kernel
theorem dX4_findPull_87 : decode cX4_findPull 87 = .ok (.iinc 2 1, 3) := by decide +kernel
theorem dX4_findPull_90 : decode cX4_findPull 90 = .ok (.goto (-88), 3) := by decide +kernel
theorem dX4_findPull_93 : decode cX4_findPull 93 = .ok (.return_, 1) := by decide +kernel
abbrev wX4_findPull : List Cond := .code yX4_findPull cX4_findPull 3 none :: lw_gd
theorem hdX4_findPull : (yX4_findPull.cls ≠ "java/lang/invoke/MethodHandle" ∧ yX4_findPull.cls ≠ "java/lang/invoke/VarHandle" ∧ (parseMethodDescriptor yX4_findPull.desc).map (fun d => d.parameters.length) = some 1) := by decide +kernel
def fX4_findPull_87  (k2 : Int32 → Int32 → xm_M → Option xm_M) (b1 : Int32) (b2 : Int32) (M : xm_M) : Option xm_M :=
  xm_lt (b2 + Int32.ofInt 1) (fun x4 => k2 b1 x4 M)
set_option maxRecDepth 20000 in
theorem tfX4_findPull_87 {p : Program} {l : Launch} {e : Env} {s : State} {m : MethodId} {args : Array Value} {below : List Frame} {meth : Method} {c : Code} {D : va_G} {g : xm_G} {A : Nat → Prop} (hX : xm_X p m meth c cX4_findPull 3 s args wX4_findPull RX4 none D mL g A)   (k2 : Int32 → Int32 → xm_M → Option xm_M) (h2 : ∀ (b1 : Int32), ∀ (b2 : Int32), ∀ (M : xm_M), xm_J p l e ({ frames := 2, cells := 0, slots := 0, locals := 45 }) s m args below meth c 3 D mL g A (xm_Fv g) 2 [(0, .ref (g.1 0)), (1, .int b1), (2, .int b2)] [] M (k2 b1 b2 M)) : ∀ (b1 : Int32), ∀ (b2 : Int32), ∀ (M : xm_M), xm_J p l e ({ frames := 2, cells := 0, slots := 0, locals := 45 }) s m args below meth c 3 D mL g A (xm_Fv g) 87 [(0, .ref (g.1 0)), (1, .int b1), (2, .int b2)] [] M (fX4_findPull_87 k2 b1 b2 M) := by
  intro b1 b2 M
  unfold fX4_findPull_87
  refine xm_iinc hX (lv2 := fun x4 => [(2, .int x4), (0, .ref (g.1 0)), (1, .int b1)]) 2 dX4_findPull_87 rfl (by decide) (fun _ => rfl) (fun x4 => ?_)
  refine xm_goto hX (tgt := 2) dX4_findPull_90 rfl ?_
  refine xm_weak [1, 2, 0] (lv' := [(0, .ref (g.1 0)), (1, .int b1), (2, .int x4)]) rfl ?_
  exact h2 b1 x4 M
def fX4_findPull_2  (k2 : Int32 → Int32 → xm_M → Option xm_M) (b1 : Int32) (b2 : Int32) (M : xm_M) : Option xm_M :=
  if (M.1 1 9) ≤ b2 then some M else xm_bi (fX4_isNear b2 M) (fun x3 M2 => if x3 = 0 then fX4_findPull_87 k2 b1 b2 M2 else xm_bi (fX4_offOf b2 M2) (fun x6 M5 => xm_bi (fX4_sizeOf x6 M5) (fun x8 M7 => xm_bi (fX4_setting (8 : Int32) M7) (fun x10 M9 => if x10 < x8 then fX4_findPull_87 k2 b1 b2 M9 else if b1 < 0 ∨ 120 ≤ b1.toNatClampNeg then none else xm_lt (xm_s M9 14 b1.toNatClampNeg b2) (fun M11 => xm_bi (fX4_offOf b2 M11) (fun x13 M12 => xm_bi (fX4_setting (6 : Int32) M12) (fun x15 M14 => if b1 < 0 ∨ 120 ≤ b1.toNatClampNeg then none else xm_lt (xm_s M14 15 b1.toNatClampNeg ((x13 * x15) / (100 : Int32))) (fun M16 => if b1 < 0 ∨ 120 ≤ b1.toNatClampNeg then none else xm_bi (fX4_heading (((M16.1 0 20).toInt64) - ((M16.1 15 b1.toNatClampNeg).toInt64)) M16) (fun x18 M17 => xm_lt (xm_s M17 0 20 x18) (fun M19 => some M19))))))))))
set_option maxRecDepth 20000 in
theorem tfX4_findPull_2 {p : Program} {l : Launch} {e : Env} {s : State} {m : MethodId} {args : Array Value} {below : List Frame} {meth : Method} {c : Code} {D : va_G} {g : xm_G} {A : Nat → Prop} (hX : xm_X p m meth c cX4_findPull 3 s args wX4_findPull RX4 none D mL g A)   (k2 : Int32 → Int32 → xm_M → Option xm_M) (h2 : ∀ (b1 : Int32), ∀ (b2 : Int32), ∀ (M : xm_M), xm_J p l e ({ frames := 2, cells := 0, slots := 0, locals := 45 }) s m args below meth c 3 D mL g A (xm_Fv g) 2 [(0, .ref (g.1 0)), (1, .int b1), (2, .int b2)] [] M (k2 b1 b2 M)) : ∀ (b1 : Int32), ∀ (b2 : Int32), ∀ (M : xm_M), xm_J p l e ({ frames := 2, cells := 0, slots := 0, locals := 45 }) s m args below meth c 3 D mL g A (xm_Fv g) 2 [(0, .ref (g.1 0)), (1, .int b1), (2, .int b2)] [] M (fX4_findPull_2 k2 b1 b2 M) := by
  intro b1 b2 M
  unfold fX4_findPull_2
  refine xm_iload_n hX 2 dX4_findPull_2 rfl rfl ?_
  refine xm_aload_n hX 0 dX4_findPull_3 rfl rfl ?_
  refine xm_get hX (k := 0) (ci := 4) (j := 0) (C := RX4) (T := TX4) (N := 27) (v := .ref (g.1 1)) mL_0 rfl rfl rfl (by decide) (fun z hz => List.mem_cons_of_mem _ (iw_X4 z hz)) (List.mem_cons_of_mem _ gm_433) dX4_findPull_4 ?_
  refine xm_bipush hX (v := 9) rfl dX4_findPull_7 ?_
  refine xm_ialdL hX (n := 547) (j := 9) mL_1 (by decide) rfl dX4_findPull_9 ?_
  refine xm_icmp_ge hX (tgt := 93) dX4_findPull_10 rfl ?_ ?_
  · exact xm_vret hX dX4_findPull_93
  · refine xm_aload_n hX 0 dX4_findPull_13 rfl rfl ?_
    refine xm_iload_n hX 2 dX4_findPull_14 rfl rfl ?_
    refine xm_calli hX (xm_runV hX (k := 0) (ci := 4) (As := (fun g => [.int b2])) (kX4_isNear b2 M) mL_0 rfl (xm_gV gm_586 gm_587 gm_721 gm_5 gm_588) rfl ⟨rfl, rfl⟩ ⟨rfl, hdX4_isNear⟩ ⟨Nat.le_of_ble_eq_true rfl, Nat.le_of_ble_eq_true rfl⟩ rfl (Nat.le_of_ble_eq_true rfl) rfl dX4_findPull_15) (fun x3 M2 => ?_)
    refine xm_if_eq hX (tgt := 87) dX4_findPull_18 rfl ?_ ?_
    · exact tfX4_findPull_87 hX k2 h2 b1 b2 M2
    · refine xm_aload_n hX 0 dX4_findPull_21 rfl rfl ?_
      refine xm_iload_n hX 2 dX4_findPull_22 rfl rfl ?_
      refine xm_calli hX (xm_runV hX (k := 0) (ci := 4) (As := (fun g => [.int b2])) (kX4_offOf b2 M2) mL_0 rfl (xm_gV gm_589 gm_590 gm_722 gm_5 gm_591) rfl ⟨rfl, rfl⟩ ⟨rfl, hdX4_offOf⟩ ⟨Nat.le_of_ble_eq_true rfl, Nat.le_of_ble_eq_true rfl⟩ rfl (Nat.le_of_ble_eq_true rfl) rfl dX4_findPull_23) (fun x6 M5 => ?_)
      refine xm_calli hX (xm_runS hX (As := (fun g => [.int x6])) (kX4_sizeOf x6 M5) (xm_gS gm_595 gm_596 gm_5 gm_597) rfl ⟨rfl, rfl⟩ hdX4_sizeOf ⟨Nat.le_of_ble_eq_true rfl, Nat.le_of_ble_eq_true rfl⟩ rfl (Nat.le_of_ble_eq_true rfl) rfl dX4_findPull_26) (fun x8 M7 => ?_)
      refine xm_aload_n hX 0 dX4_findPull_29 rfl rfl ?_
      refine xm_bipush hX (v := 8) rfl dX4_findPull_30 ?_
      refine xm_calli hX (xm_runV hX (k := 0) (ci := 4) (As := (fun g => [.int (8 : Int32)])) (kX4_setting (8 : Int32) M7) mL_0 rfl (xm_gV gm_500 gm_501 gm_713 gm_5 gm_502) rfl ⟨rfl, rfl⟩ ⟨rfl, hdX4_setting⟩ ⟨Nat.le_of_ble_eq_true rfl, Nat.le_of_ble_eq_true rfl⟩ rfl (Nat.le_of_ble_eq_true rfl) rfl dX4_findPull_32) (fun x10 M9 => ?_)
      refine xm_icmp_gt hX (tgt := 87) dX4_findPull_35 rfl ?_ ?_
      · exact tfX4_findPull_87 hX k2 h2 b1 b2 M9
      · refine xm_aload_n hX 0 dX4_findPull_38 rfl rfl ?_
        refine xm_get hX (k := 0) (ci := 4) (j := 14) (C := RX4) (T := TX4) (N := 27) (v := .ref (g.1 14)) mL_0 rfl rfl rfl (by decide) (fun z hz => List.mem_cons_of_mem _ (iw_X4 z hz)) (List.mem_cons_of_mem _ gm_447) dX4_findPull_39 ?_
        refine xm_iload_n hX 1 dX4_findPull_42 rfl rfl ?_
        refine xm_iload_n hX 2 dX4_findPull_43 rfl rfl ?_
        refine xm_iast hX (n := 120) mL_14 dX4_findPull_44 (fun M11 => ?_)
        refine xm_aload_n hX 0 dX4_findPull_45 rfl rfl ?_
        refine xm_get hX (k := 0) (ci := 4) (j := 15) (C := RX4) (T := TX4) (N := 27) (v := .ref (g.1 15)) mL_0 rfl rfl rfl (by decide) (fun z hz => List.mem_cons_of_mem _ (iw_X4 z hz)) (List.mem_cons_of_mem _ gm_448) dX4_findPull_46 ?_
        refine xm_iload_n hX 1 dX4_findPull_49 rfl rfl ?_
        refine xm_aload_n hX 0 dX4_findPull_50 rfl rfl ?_
        refine xm_iload_n hX 2 dX4_findPull_51 rfl rfl ?_
        refine xm_calli hX (xm_runV hX (k := 0) (ci := 4) (As := (fun g => [.int b2])) (kX4_offOf b2 M11) mL_0 rfl (xm_gV gm_589 gm_590 gm_722 gm_5 gm_591) rfl ⟨rfl, rfl⟩ ⟨rfl, hdX4_offOf⟩ ⟨Nat.le_of_ble_eq_true rfl, Nat.le_of_ble_eq_true rfl⟩ rfl (Nat.le_of_ble_eq_true rfl) rfl dX4_findPull_52) (fun x13 M12 => ?_)
        refine xm_aload_n hX 0 dX4_findPull_55 rfl rfl ?_
        refine xm_bipush hX (v := 6) rfl dX4_findPull_56 ?_
        refine xm_calli hX (xm_runV hX (k := 0) (ci := 4) (As := (fun g => [.int (6 : Int32)])) (kX4_setting (6 : Int32) M12) mL_0 rfl (xm_gV gm_500 gm_501 gm_713 gm_5 gm_502) rfl ⟨rfl, rfl⟩ ⟨rfl, hdX4_setting⟩ ⟨Nat.le_of_ble_eq_true rfl, Nat.le_of_ble_eq_true rfl⟩ rfl (Nat.le_of_ble_eq_true rfl) rfl dX4_findPull_58) (fun x15 M14 => ?_)
        refine xm_imul hX dX4_findPull_61 ?_
        refine xm_bipush hX (v := 100) rfl dX4_findPull_62 ?_
        refine xm_idivL hX (by decide) dX4_findPull_64 ?_
        refine xm_iast hX (n := 120) mL_15 dX4_findPull_65 (fun M16 => ?_)
        refine xm_aload_n hX 0 dX4_findPull_66 rfl rfl ?_
        refine xm_aload_n hX 0 dX4_findPull_67 rfl rfl ?_
        refine xm_get hX (k := 0) (ci := 4) (j := 20) (C := RX4) (T := TX4) (N := 27) (v := .int (M16.1 0 20)) mL_0 rfl rfl rfl (by decide) (fun z hz => List.mem_cons_of_mem _ (iw_X4 z hz)) (List.mem_cons_of_mem _ gm_453) dX4_findPull_68 ?_
        refine xm_i2l hX dX4_findPull_71 ?_
        refine xm_aload_n hX 0 dX4_findPull_72 rfl rfl ?_
        refine xm_get hX (k := 0) (ci := 4) (j := 15) (C := RX4) (T := TX4) (N := 27) (v := .ref (g.1 15)) mL_0 rfl rfl rfl (by decide) (fun z hz => List.mem_cons_of_mem _ (iw_X4 z hz)) (List.mem_cons_of_mem _ gm_448) dX4_findPull_73 ?_
        refine xm_iload_n hX 1 dX4_findPull_76 rfl rfl ?_
        refine xm_iald hX (n := 120) mL_15 dX4_findPull_77 ?_
        refine xm_i2l hX dX4_findPull_78 ?_
        refine xm_lsub hX dX4_findPull_79 ?_
        refine xm_calli hX (xm_runS hX (As := (fun g => [.long (((M16.1 0 20).toInt64) - ((M16.1 15 b1.toNatClampNeg).toInt64))])) (kX4_heading (((M16.1 0 20).toInt64) - ((M16.1 15 b1.toNatClampNeg).toInt64)) M16) (xm_gS gm_566 gm_567 gm_5 gm_568) rfl ⟨rfl, rfl⟩ hdX4_heading ⟨Nat.le_of_ble_eq_true rfl, Nat.le_of_ble_eq_true rfl⟩ rfl (Nat.le_of_ble_eq_true rfl) rfl dX4_findPull_80) (fun x18 M17 => ?_)
        refine xm_puti hX (k := 0) (ci := 4) (j := 20) (C := RX4) (T := TX4) (N := 27) (t0 := tyX4) mL_0 rfl rfl (by decide) (fun z hz => List.mem_cons_of_mem _ (iw_X4 z hz)) tyX4_ok nmX4 rfl rfl (List.mem_cons_of_mem _ gm_453) dX4_findPull_83 (fun M19 => ?_)
        exact xm_vret hX dX4_findPull_86
def fX4_findPull_2_it   (nq : Nat) : Int32 → Int32 → xm_M → Option xm_M := xm_it (fun kq => fX4_findPull_2 kq) (fun _ _ _ => none) nq
theorem tfX4_findPull_2_it {p : Program} {l : Launch} {e : Env} {s : State} {m : MethodId} {args : Array Value} {below : List Frame} {meth : Method} {c : Code} {D : va_G} {g : xm_G} {A : Nat → Prop} (hX : xm_X p m meth c cX4_findPull 3 s args wX4_findPull RX4 none D mL g A)     : ∀ (nq : Nat), ∀ (b1 : Int32), ∀ (b2 : Int32), ∀ (M : xm_M), xm_J p l e ({ frames := 2, cells := 0, slots := 0, locals := 45 }) s m args below meth c 3 D mL g A (xm_Fv g) 2 [(0, .ref (g.1 0)), (1, .int b1), (2, .int b2)] [] M (fX4_findPull_2_it  nq b1 b2 M) := by
  intro nq
  induction nq with
  | zero => exact fun _ _ _ => xm_none
  | succ nq ih => exact tfX4_findPull_2 hX _ ih
def fX4_findPull  (a1 : Int32) (M : xm_M) : Option xm_M :=
  xm_lt ((0 : Int32)) (fun x1 => fX4_findPull_2_it xm_N a1 x1 M)
set_option maxRecDepth 20000 in
theorem kX4_findPull {l : Launch}   (a1 : Int32) (M : xm_M) : xm_C l yX4_findPull wX4_findPull ({ frames := 2, cells := 0, slots := 0, locals := 45 }) mL (fun g => [.ref (g.1 0), .int a1]) M xm_Fv (fX4_findPull  a1 M) := by
  refine xm_C.of (by decide) rfl (fun g => Nat.le_of_ble_eq_true rfl) ?_
  intro p e s m args below meth c D g A hX
  refine xm_lv (lv' := [(0, .ref (g.1 0)), (1, .int a1)]) rfl ?_
  unfold fX4_findPull
  refine xm_iconst hX (v := 0) rfl dX4_findPull_0 ?_
  refine xm_nmi (fun x1 => ?_)
  refine xm_istore_n hX (lv' := [(2, .int x1), (0, .ref (g.1 0)), (1, .int a1)]) dX4_findPull_1 rfl (by decide) rfl ?_
  refine xm_weak [1, 2, 0] (lv' := [(0, .ref (g.1 0)), (1, .int a1), (2, .int x1)]) rfl ?_
  exact tfX4_findPull_2_it hX xm_N a1 x1 M
-- ===== OdometryDeskModel.findSight(I)V ['0']
theorem dX4_findSight_0 : decode cX4_findSight 0 = .ok (.aload_n 0, 1) := by decide +kernel
theorem dX4_findSight_1 : decode cX4_findSight 1 = .ok (.iload_n 1, 1) := by decide +kernel
theorem dX4_findSight_2 : decode cX4_findSight 2 = .ok (.iconst 1, 1) := by decide +kernel
theorem dX4_findSight_3 : decode cX4_findSight 3 = .ok (.invokevirtual 121, 3) := by decide +kernel
theorem dX4_findSight_6 : decode cX4_findSight 6 = .ok (.istore_n 2, 1) := by decide +kernel
theorem dX4_findSight_7 : decode cX4_findSight 7 = .ok (.sipush 1000, 3) := by decide +kernel
theorem dX4_findSight_10 : decode cX4_findSight 10 = .ok (.aload_n 0, 1) := by decide +kernel
theorem dX4_findSight_11 : decode cX4_findSight 11 = .ok (.getfield 7, 3) := by decide +kernel
theorem dX4_findSight_14 : decode cX4_findSight 14 = .ok (.bipush 55, 2) := by decide +kernel
theorem dX4_findSight_16 : decode cX4_findSight 16 = .ok (.iconst 2, 1) := by decide +kernel
theorem dX4_findSight_17 : decode cX4_findSight 17 = .ok (.iload_n 2, 1) := by decide +kernel
theorem dX4_findSight_18 : decode cX4_findSight 18 = .ok (.imul, 1) := by decide +kernel
theorem dX4_findSight_19 : decode cX4_findSight 19 = .ok (.iadd, 1) := by decide +kernel
theorem dX4_findSight_20 : decode cX4_findSight 20 = .ok (.iaload, 1) := by decide +kernel
theorem dX4_findSight_21 : decode cX4_findSight 21 = .ok (.imul, 1) := by decide +kernel
theorem dX4_findSight_22 : decode cX4_findSight 22 = .ok (.istore_n 3, 1) := by decide +kernel
theorem dX4_findSight_23 : decode cX4_findSight 23 = .ok (.sipush 1000, 3) := by decide +kernel
theorem dX4_findSight_26 : decode cX4_findSight 26 = .ok (.aload_n 0, 1) := by decide +kernel
theorem dX4_findSight_27 : decode cX4_findSight 27 = .ok (.getfield 7, 3) := by decide +kernel
theorem dX4_findSight_30 : decode cX4_findSight 30 = .ok (.bipush 55, 2) := by decide +kernel
theorem dX4_findSight_32 : decode cX4_findSight 32 = .ok (.iconst 2, 1) := by decide +kernel
theorem dX4_findSight_33 : decode cX4_findSight 33 = .ok (.iload_n 2, 1) := by decide +kernel
theorem dX4_findSight_34 : decode cX4_findSight 34 = .ok (.imul, 1) := by decide +kernel
theorem dX4_findSight_35 : decode cX4_findSight 35 = .ok (.iadd, 1) := by decide +kernel
theorem dX4_findSight_36 : decode cX4_findSight 36 = .ok (.iconst 1, 1) := by decide +kernel
theorem dX4_findSight_37 : decode cX4_findSight 37 = .ok (.iadd, 1) := by decide +kernel
theorem dX4_findSight_38 : decode cX4_findSight 38 = .ok (.iaload, 1) := by decide +kernel
theorem dX4_findSight_39 : decode cX4_findSight 39 = .ok (.imul, 1) := by decide +kernel
theorem dX4_findSight_40 : decode cX4_findSight 40 = .ok (.istore 4, 2) := by decide +kernel
theorem dX4_findSight_42 : decode cX4_findSight 42 = .ok (.aload_n 0, 1) := by decide +kernel
theorem dX4_findSight_43 : decode cX4_findSight 43 = .ok (.getfield 23, 3) := by decide +kernel
theorem dX4_findSight_46 : decode cX4_findSight 46 = .ok (.iload_n 1, 1) := by decide +kernel
theorem dX4_findSight_47 : decode cX4_findSight 47 = .ok (.iconst 4, 1) := by decide +kernel
theorem dX4_findSight_48 : decode cX4_findSight 48 = .ok (.iastore, 1) := by decide +kernel
theorem dX4_findSight_49 : decode cX4_findSight 49 = .ok (.aload_n 0, 1) := by decide +kernel
theorem dX4_findSight_50 : decode cX4_findSight 50 = .ok (.getfield 56, 3) := by decide +kernel
theorem dX4_findSight_53 : decode cX4_findSight 53 = .ok (.iload_n 1, 1) := by decide +kernel
theorem dX4_findSight_54 : decode cX4_findSight 54 = .ok (.aload_n 0, 1) := by decide +kernel
theorem dX4_findSight_55 : decode cX4_findSight 55 = .ok (.getfield 105, 3) := by decide +kernel
theorem dX4_findSight_58 : decode cX4_findSight 58 = .ok (.iload_n 3, 1) := by decide +kernel
theorem dX4_findSight_59 : decode cX4_findSight 59 = .ok (.isub, 1) := by decide +kernel
theorem dX4_findSight_60 : decode cX4_findSight 60 = .ok (.iastore, 1) := by decide +kernel
theorem dX4_findSight_61 : decode cX4_findSight 61 = .ok (.aload_n 0, 1) := by decide +kernel
theorem dX4_findSight_62 : decode cX4_findSight 62 = .ok (.getfield 59, 3) := by decide +kernel
theorem dX4_findSight_65 : decode cX4_findSight 65 = .ok (.iload_n 1, 1) := by decide +kernel
theorem dX4_findSight_66 : decode cX4_findSight 66 = .ok (.aload_n 0, 1) := by decide +kernel
theorem dX4_findSight_67 : decode cX4_findSight 67 = .ok (.getfield 109, 3) := by decide +kernel
theorem dX4_findSight_70 : decode cX4_findSight 70 = .ok (.iload 4, 2) := by decide +kernel
theorem dX4_findSight_72 : decode cX4_findSight 72 = .ok (.isub, 1) := by decide +kernel
theorem dX4_findSight_73 : decode cX4_findSight 73 = .ok (.iastore, 1) := by decide +kernel
theorem dX4_findSight_74 : decode cX4_findSight 74 = .ok (.aload_n 0, 1) := by decide +kernel
theorem dX4_findSight_75 : decode cX4_findSight 75 = .ok (.iload_n 3, 1) := by decide +kernel
theorem dX4_findSight_76 : decode cX4_findSight 76 = .ok (.putfield 105, 3) := by decide +kernel
theorem dX4_findSight_79 : decode cX4_findSight 79 = .ok (.aload_n 0, 1) := by decide +kernel
theorem dX4_findSight_80 : decode cX4_findSight 80 = .ok (.iload 4, 2) := by decide +kernel
theorem dX4_findSight_82 : decode cX4_findSight 82 = .ok (.putfield 109, 3) := by decide +kernel
theorem dX4_findSight_85 : decode cX4_findSight 85 = .ok (.return_, 1) := by decide +kernel
abbrev wX4_findSight : List Cond := .code yX4_findSight cX4_findSight 5 none :: lw_gd
theorem hdX4_findSight : (yX4_findSight.cls ≠ "java/lang/invoke/MethodHandle" ∧ yX4_findSight.cls ≠ "java/lang/invoke/VarHandle" ∧ (parseMethodDescriptor yX4_findSight.desc).map (fun d => d.parameters.length) = some 1) := by decide +kernel
def fX4_findSight  (a1 : Int32) (M : xm_M) : Option xm_M :=
  xm_bi (fX4_ofEntry a1 (1 : Int32) M) (fun x2 M1 => if ((55 : Int32) + ((2 : Int32) * x2)) < 0 ∨ 547 ≤ ((55 : Int32) + ((2 : Int32) * x2)).toNatClampNeg then none else xm_lt ((1000 : Int32) * (M1.1 1 ((55 : Int32) + ((2 : Int32) * x2)).toNatClampNeg)) (fun x3 => if (((55 : Int32) + ((2 : Int32) * x2)) + (1 : Int32)) < 0 ∨ 547 ≤ (((55 : Int32) + ((2 : Int32) * x2)) + (1 : Int32)).toNatClampNeg then none else xm_lt ((1000 : Int32) * (M1.1 1 (((55 : Int32) + ((2 : Int32) * x2)) + (1 : Int32)).toNatClampNeg)) (fun x4 => if a1 < 0 ∨ 120 ≤ a1.toNatClampNeg then none else xm_lt (xm_s M1 5 a1.toNatClampNeg (4 : Int32)) (fun M5 => if a1 < 0 ∨ 120 ≤ a1.toNatClampNeg then none else xm_lt (xm_s M5 16 a1.toNatClampNeg ((M5.1 0 18) - x3)) (fun M6 => if a1 < 0 ∨ 120 ≤ a1.toNatClampNeg then none else xm_lt (xm_s M6 17 a1.toNatClampNeg ((M6.1 0 19) - x4)) (fun M7 => xm_lt (xm_s M7 0 18 x3) (fun M8 => xm_lt (xm_s M8 0 19 x4) (fun M9 => some M9))))))))
set_option maxRecDepth 20000 in
theorem kX4_findSight {l : Launch}   (a1 : Int32) (M : xm_M) : xm_C l yX4_findSight wX4_findSight ({ frames := 1, cells := 0, slots := 0, locals := 22 }) mL (fun g => [.ref (g.1 0), .int a1]) M xm_Fv (fX4_findSight  a1 M) := by
  refine xm_C.of (by decide) rfl (fun g => Nat.le_of_ble_eq_true rfl) ?_
  intro p e s m args below meth c D g A hX
  refine xm_lv (lv' := [(0, .ref (g.1 0)), (1, .int a1)]) rfl ?_
  unfold fX4_findSight
  refine xm_aload_n hX 0 dX4_findSight_0 rfl rfl ?_
  refine xm_iload_n hX 1 dX4_findSight_1 rfl rfl ?_
  refine xm_iconst hX (v := 1) rfl dX4_findSight_2 ?_
  refine xm_calli hX (xm_runV hX (k := 0) (ci := 4) (As := (fun g => [.int a1, .int (1 : Int32)])) (kX4_ofEntry a1 (1 : Int32) M) mL_0 rfl (xm_gV gm_553 gm_554 gm_717 gm_5 gm_555) rfl ⟨rfl, rfl⟩ ⟨rfl, hdX4_ofEntry⟩ ⟨Nat.le_of_ble_eq_true rfl, Nat.le_of_ble_eq_true rfl⟩ rfl (Nat.le_of_ble_eq_true rfl) rfl dX4_findSight_3) (fun x2 M1 => ?_)
  refine xm_istore_n hX (lv' := [(2, .int x2), (0, .ref (g.1 0)), (1, .int a1)]) dX4_findSight_6 rfl (by decide) rfl ?_
  refine xm_sipush hX (v := 1000) rfl dX4_findSight_7 ?_
  refine xm_aload_n hX 1 dX4_findSight_10 rfl rfl ?_
  refine xm_get hX (k := 0) (ci := 4) (j := 0) (C := RX4) (T := TX4) (N := 27) (v := .ref (g.1 1)) mL_0 rfl rfl rfl (by decide) (fun z hz => List.mem_cons_of_mem _ (iw_X4 z hz)) (List.mem_cons_of_mem _ gm_433) dX4_findSight_11 ?_
  refine xm_bipush hX (v := 55) rfl dX4_findSight_14 ?_
  refine xm_iconst hX (v := 2) rfl dX4_findSight_16 ?_
  refine xm_iload_n hX 0 dX4_findSight_17 rfl rfl ?_
  refine xm_imul hX dX4_findSight_18 ?_
  refine xm_iadd hX dX4_findSight_19 ?_
  refine xm_iald hX (n := 547) mL_1 dX4_findSight_20 ?_
  refine xm_imul hX dX4_findSight_21 ?_
  refine xm_nmi (fun x3 => ?_)
  refine xm_istore_n hX (lv' := [(3, .int x3), (2, .int x2), (0, .ref (g.1 0)), (1, .int a1)]) dX4_findSight_22 rfl (by decide) rfl ?_
  refine xm_sipush hX (v := 1000) rfl dX4_findSight_23 ?_
  refine xm_aload_n hX 2 dX4_findSight_26 rfl rfl ?_
  refine xm_get hX (k := 0) (ci := 4) (j := 0) (C := RX4) (T := TX4) (N := 27) (v := .ref (g.1 1)) mL_0 rfl rfl rfl (by decide) (fun z hz => List.mem_cons_of_mem _ (iw_X4 z hz)) (List.mem_cons_of_mem _ gm_433) dX4_findSight_27 ?_
  refine xm_bipush hX (v := 55) rfl dX4_findSight_30 ?_
  refine xm_iconst hX (v := 2) rfl dX4_findSight_32 ?_
  refine xm_iload_n hX 1 dX4_findSight_33 rfl rfl ?_
  refine xm_imul hX dX4_findSight_34 ?_
  refine xm_iadd hX dX4_findSight_35 ?_
  refine xm_iconst hX (v := 1) rfl dX4_findSight_36 ?_
  refine xm_iadd hX dX4_findSight_37 ?_
  refine xm_iald hX (n := 547) mL_1 dX4_findSight_38 ?_
  refine xm_imul hX dX4_findSight_39 ?_
  refine xm_nmi (fun x4 => ?_)
  refine xm_istore hX (lv' := [(4, .int x4), (3, .int x3), (2, .int x2), (0, .ref (g.1 0)), (1, .int a1)]) dX4_findSight_40 (by decide) rfl ?_
  refine xm_aload_n hX 3 dX4_findSight_42 rfl rfl ?_
  refine xm_get hX (k := 0) (ci := 4) (j := 5) (C := RX4) (T := TX4) (N := 27) (v := .ref (g.1 5)) mL_0 rfl rfl rfl (by decide) (fun z hz => List.mem_cons_of_mem _ (iw_X4 z hz)) (List.mem_cons_of_mem _ gm_438) dX4_findSight_43 ?_
  refine xm_iload_n hX 4 dX4_findSight_46 rfl rfl ?_
  refine xm_iconst hX (v := 4) rfl dX4_findSight_47 ?_
  refine xm_iast hX (n := 120) mL_5 dX4_findSight_48 (fun M5 => ?_)
  refine xm_aload_n hX 3 dX4_findSight_49 rfl rfl ?_
  refine xm_get hX (k := 0) (ci := 4) (j := 16) (C := RX4) (T := TX4) (N := 27) (v := .ref (g.1 16)) mL_0 rfl rfl rfl (by decide) (fun z hz => List.mem_cons_of_mem _ (iw_X4 z hz)) (List.mem_cons_of_mem _ gm_449) dX4_findSight_50 ?_
  refine xm_iload_n hX 4 dX4_findSight_53 rfl rfl ?_
  refine xm_aload_n hX 3 dX4_findSight_54 rfl rfl ?_
  refine xm_get hX (k := 0) (ci := 4) (j := 18) (C := RX4) (T := TX4) (N := 27) (v := .int (M5.1 0 18)) mL_0 rfl rfl rfl (by decide) (fun z hz => List.mem_cons_of_mem _ (iw_X4 z hz)) (List.mem_cons_of_mem _ gm_451) dX4_findSight_55 ?_
  refine xm_iload_n hX 1 dX4_findSight_58 rfl rfl ?_
  refine xm_isub hX dX4_findSight_59 ?_
  refine xm_iast hX (n := 120) mL_16 dX4_findSight_60 (fun M6 => ?_)
  refine xm_aload_n hX 3 dX4_findSight_61 rfl rfl ?_
  refine xm_get hX (k := 0) (ci := 4) (j := 17) (C := RX4) (T := TX4) (N := 27) (v := .ref (g.1 17)) mL_0 rfl rfl rfl (by decide) (fun z hz => List.mem_cons_of_mem _ (iw_X4 z hz)) (List.mem_cons_of_mem _ gm_450) dX4_findSight_62 ?_
  refine xm_iload_n hX 4 dX4_findSight_65 rfl rfl ?_
  refine xm_aload_n hX 3 dX4_findSight_66 rfl rfl ?_
  refine xm_get hX (k := 0) (ci := 4) (j := 19) (C := RX4) (T := TX4) (N := 27) (v := .int (M6.1 0 19)) mL_0 rfl rfl rfl (by decide) (fun z hz => List.mem_cons_of_mem _ (iw_X4 z hz)) (List.mem_cons_of_mem _ gm_452) dX4_findSight_67 ?_
  refine xm_iload hX 0 dX4_findSight_70 rfl ?_
  refine xm_isub hX dX4_findSight_72 ?_
  refine xm_iast hX (n := 120) mL_17 dX4_findSight_73 (fun M7 => ?_)
  refine xm_aload_n hX 3 dX4_findSight_74 rfl rfl ?_
  refine xm_iload_n hX 1 dX4_findSight_75 rfl rfl ?_
  refine xm_puti hX (k := 0) (ci := 4) (j := 18) (C := RX4) (T := TX4) (N := 27) (t0 := tyX4) mL_0 rfl rfl (by decide) (fun z hz => List.mem_cons_of_mem _ (iw_X4 z hz)) tyX4_ok nmX4 rfl rfl (List.mem_cons_of_mem _ gm_451) dX4_findSight_76 (fun M8 => ?_)
  refine xm_aload_n hX 3 dX4_findSight_79 rfl rfl ?_
  refine xm_iload hX 0 dX4_findSight_80 rfl ?_
  refine xm_puti hX (k := 0) (ci := 4) (j := 19) (C := RX4) (T := TX4) (N := 27) (t0 := tyX4) mL_0 rfl rfl (by decide) (fun z hz => List.mem_cons_of_mem _ (iw_X4 z hz)) tyX4_ok nmX4 rfl rfl (List.mem_cons_of_mem _ gm_452) dX4_findSight_82 (fun M9 => ?_)
  exact xm_vret hX dX4_findSight_85
