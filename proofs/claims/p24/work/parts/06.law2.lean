-- ===== OdometryDeskLaw.goes(LOdometryDesk;IIIII)Z ['0']
theorem dL_goes_0 : decode cL_goes 0 = .ok (.aload_n 0, 1) := by decide +kernel
theorem dL_goes_1 : decode cL_goes 1 = .ok (.iload_n 1, 1) := by decide +kernel
theorem dL_goes_2 : decode cL_goes 2 = .ok (.bipush 6, 2) := by decide +kernel
theorem dL_goes_4 : decode cL_goes 4 = .ok (.invokevirtual 75, 3) := by decide +kernel
theorem dL_goes_7 : decode cL_goes 7 = .ok (.istore 6, 2) := by decide +kernel
theorem dL_goes_9 : decode cL_goes 9 = .ok (.iload_n 2, 1) := by decide +kernel
theorem dL_goes_10 : decode cL_goes 10 = .ok (.aload_n 0, 1) := by decide +kernel
theorem dL_goes_11 : decode cL_goes 11 = .ok (.iload_n 1, 1) := by decide +kernel
theorem dL_goes_12 : decode cL_goes 12 = .ok (.iconst 5, 1) := by decide +kernel
theorem dL_goes_13 : decode cL_goes 13 = .ok (.invokevirtual 75, 3) := by decide +kernel
theorem dL_goes_16 : decode cL_goes 16 = .ok (.iconst 2, 1) := by decide +kernel
theorem dL_goes_17 : decode cL_goes 17 = .ok (.idiv, 1) := by decide +kernel
theorem dL_goes_18 : decode cL_goes 18 = .ok (.iadd, 1) := by decide +kernel
theorem dL_goes_19 : decode cL_goes 19 = .ok (.i2l, 1) := by decide +kernel
theorem dL_goes_20 : decode cL_goes 20 = .ok (.invokestatic 109, 3) := by decide +kernel
theorem dL_goes_23 : decode cL_goes 23 = .ok (.bipush 100, 2) := by decide +kernel
theorem dL_goes_25 : decode cL_goes 25 = .ok (.idiv, 1) := by decide +kernel
theorem dL_goes_26 : decode cL_goes 26 = .ok (.istore 7, 2) := by decide +kernel
theorem dL_goes_28 : decode cL_goes 28 = .ok (.iload 6, 2) := by decide +kernel
theorem dL_goes_30 : decode cL_goes 30 = .ok (.i2l, 1) := by decide +kernel
theorem dL_goes_31 : decode cL_goes 31 = .ok (.aload_n 0, 1) := by decide +kernel
theorem dL_goes_32 : decode cL_goes 32 = .ok (.iload 7, 2) := by decide +kernel
theorem dL_goes_34 : decode cL_goes 34 = .ok (.iconst 1, 1) := by decide +kernel
theorem dL_goes_35 : decode cL_goes 35 = .ok (.invokevirtual 115, 3) := by decide +kernel
theorem dL_goes_38 : decode cL_goes 38 = .ok (.i2l, 1) := by decide +kernel
theorem dL_goes_39 : decode cL_goes 39 = .ok (.lmul, 1) := by decide +kernel
theorem dL_goes_40 : decode cL_goes 40 = .ok (.lstore 8, 2) := by decide +kernel
theorem dL_goes_42 : decode cL_goes 42 = .ok (.iload 6, 2) := by decide +kernel
theorem dL_goes_44 : decode cL_goes 44 = .ok (.i2l, 1) := by decide +kernel
theorem dL_goes_45 : decode cL_goes 45 = .ok (.aload_n 0, 1) := by decide +kernel
theorem dL_goes_46 : decode cL_goes 46 = .ok (.iload 7, 2) := by decide +kernel
theorem dL_goes_48 : decode cL_goes 48 = .ok (.iconst 0, 1) := by decide +kernel
theorem dL_goes_49 : decode cL_goes 49 = .ok (.invokevirtual 115, 3) := by decide +kernel
theorem dL_goes_52 : decode cL_goes 52 = .ok (.i2l, 1) := by decide +kernel
theorem dL_goes_53 : decode cL_goes 53 = .ok (.lmul, 1) := by decide +kernel
theorem dL_goes_54 : decode cL_goes 54 = .ok (.lstore 10, 2) := by decide +kernel
theorem dL_goes_56 : decode cL_goes 56 = .ok (.iload_n 3, 1) := by decide +kernel
theorem dL_goes_57 : decode cL_goes 57 = .ok (.i2l, 1) := by decide +kernel
theorem dL_goes_58 : decode cL_goes 58 = .ok (.iload_n 3, 1) := by decide +kernel
theorem dL_goes_59 : decode cL_goes 59 = .ok (.i2l, 1) := by decide +kernel
theorem dL_goes_60 : decode cL_goes 60 = .ok (.lmul, 1) := by decide +kernel
theorem dL_goes_61 : decode cL_goes 61 = .ok (.iload 4, 2) := by decide +kernel
theorem dL_goes_63 : decode cL_goes 63 = .ok (.i2l, 1) := by decide +kernel
theorem dL_goes_64 : decode cL_goes 64 = .ok (.iload 4, 2) := by decide +kernel
theorem dL_goes_66 : decode cL_goes 66 = .ok (.i2l, 1) := by decide +kernel
theorem dL_goes_67 : decode cL_goes 67 = .ok (.lmul, 1) := by decide +kernel
theorem dL_goes_68 : decode cL_goes 68 = .ok (.ladd, 1) := by decide +kernel
theorem dL_goes_69 : decode cL_goes 69 = .ok (.lstore 12, 2) := by decide +kernel
theorem dL_goes_71 : decode cL_goes 71 = .ok (.iload 6, 2) := by decide +kernel
theorem dL_goes_73 : decode cL_goes 73 = .ok (.i2l, 1) := by decide +kernel
theorem dL_goes_74 : decode cL_goes 74 = .ok (.iload 6, 2) := by decide +kernel
theorem dL_goes_76 : decode cL_goes 76 = .ok (.i2l, 1) := by decide +kernel
theorem dL_goes_77 : decode cL_goes 77 = .ok (.lmul, 1) := by decide +kernel
theorem dL_goes_78 : decode cL_goes 78 = .ok (.lstore 14, 2) := by decide +kernel
theorem dL_goes_80 : decode cL_goes 80 = .ok (.iload_n 3, 1) := by decide +kernel
theorem dL_goes_81 : decode cL_goes 81 = .ok (.i2l, 1) := by decide +kernel
theorem dL_goes_82 : decode cL_goes 82 = .ok (.lload 8, 2) := by decide +kernel
theorem dL_goes_84 : decode cL_goes 84 = .ok (.ldc2_w 118, 3) := by decide +kernel
theorem dL_goes_87 : decode cL_goes 87 = .ok (.ldiv, 1) := by decide +kernel
theorem dL_goes_88 : decode cL_goes 88 = .ok (.lcmp, 1) := by decide +kernel
theorem dL_goes_89 : decode cL_goes 89 = .ok (.ifCond .ne 60, 3) := by decide +kernel
theorem dL_goes_92 : decode cL_goes 92 = .ok (.iload 4, 2) := by decide +kernel
theorem dL_goes_94 : decode cL_goes 94 = .ok (.i2l, 1) := by decide +kernel
theorem dL_goes_95 : decode cL_goes 95 = .ok (.lload 10, 2) := by decide +kernel
theorem dL_goes_97 : decode cL_goes 97 = .ok (.ldc2_w 118, 3) := by decide +kernel
theorem dL_goes_100 : decode cL_goes 100 = .ok (.ldiv, 1) := by decide +kernel
theorem dL_goes_101 : decode cL_goes 101 = .ok (.lcmp, 1) := by decide +kernel
theorem dL_goes_102 : decode cL_goes 102 = .ok (.ifCond .ne 47, 3) := by decide +kernel
theorem dL_goes_105 : decode cL_goes 105 = .ok (.iload 5, 2) := by decide +kernel
theorem dL_goes_107 : decode cL_goes 107 = .ok (.iload 6, 2) := by decide +kernel
theorem dL_goes_109 : decode cL_goes 109 = .ok (.invokestatic 88, 3) := by decide +kernel
theorem dL_goes_112 : decode cL_goes 112 = .ok (.if_icmp .ne 37, 3) := by decide +kernel
theorem dL_goes_115 : decode cL_goes 115 = .ok (.lload 12, 2) := by decide +kernel
theorem dL_goes_117 : decode cL_goes 117 = .ok (.lload 14, 2) := by decide +kernel
theorem dL_goes_119 : decode cL_goes 119 = .ok (.lload 14, 2) := by decide +kernel
theorem dL_goes_121 : decode cL_goes 121 = .ok (.ldc2_w 105, 3) := by decide +kernel
theorem dL_goes_124 : decode cL_goes 124 = .ok (.ldiv, 1) := by decide +kernel
theorem dL_goes_125 : decode cL_goes 125 = .ok (.ladd, 1) := by decide +kernel
theorem dL_goes_126 : decode cL_goes 126 = .ok (.ldc2_w 120, 3) := by decide +kernel
theorem dL_goes_129 : decode cL_goes 129 = .ok (.iload 6, 2) := by decide +kernel
theorem dL_goes_131 : decode cL_goes 131 = .ok (.invokestatic 88, 3) := by decide +kernel
theorem dL_goes_134 : decode cL_goes 134 = .ok (.i2l, 1) := by decide +kernel
theorem dL_goes_135 : decode cL_goes 135 = .ok (.lmul, 1) := by decide +kernel
theorem dL_goes_136 : decode cL_goes 136 = .ok (.ladd, 1) := by decide +kernel
theorem dL_goes_137 : decode cL_goes 137 = .ok (.ldc2_w 120, 3) := by decide +kernel
theorem dL_goes_140 : decode cL_goes 140 = .ok (.ladd, 1) := by decide +kernel
theorem dL_goes_141 : decode cL_goes 141 = .ok (.lcmp, 1) := by decide +kernel
theorem dL_goes_142 : decode cL_goes 142 = .ok (.ifCond .gt 7, 3) := by decide +kernel
theorem dL_goes_145 : decode cL_goes 145 = .ok (.iconst 1, 1) := by decide +kernel
theorem dL_goes_146 : decode cL_goes 146 = .ok (.goto 4, 3) := by decide +kernel
theorem dL_goes_149 : decode cL_goes 149 = .ok (.iconst 0, 1) := by decide +kernel
theorem dL_goes_150 : decode cL_goes 150 = .ok (.ireturn, 1) := by decide +kernel
abbrev wL_goes : List Cond := .code yL_goes cL_goes 16 (some .boolean) :: lw_gd
theorem hdL_goes : (yL_goes.cls ≠ "java/lang/invoke/MethodHandle" ∧ yL_goes.cls ≠ "java/lang/invoke/VarHandle" ∧ (parseMethodDescriptor yL_goes.desc).map (fun d => d.parameters.length) = some 6) := by decide +kernel
def fL_goes  (a1 : Int32) (a2 : Int32) (a3 : Int32) (a4 : Int32) (a5 : Int32) (M : xm_M) : Option (Int32 × xm_M) :=
  xm_bi (fX3_about a1 (6 : Int32) M) (fun x2 M1 => xm_bi (fX3_about a1 (5 : Int32) M1) (fun x4 M3 => xm_bi (fL_round ((a2 + (x4 / (2 : Int32))).toInt64) M3) (fun x6 M5 => xm_lt (x6 / (100 : Int32)) (fun x7 => xm_bi (fX3_wave x7 (1 : Int32) M5) (fun x9 M8 => xm_lt (x2.toInt64 * x9.toInt64) (fun x10 => xm_bi (fX3_wave x7 (0 : Int32) M8) (fun x12 M11 => xm_lt (x2.toInt64 * x12.toInt64) (fun x13 => xm_lt ((a3.toInt64 * a3.toInt64) + (a4.toInt64 * a4.toInt64)) (fun x14 => xm_lt (x2.toInt64 * x2.toInt64) (fun x15 => if (lg_cmp a3.toInt64 (x10 / (1000000 : Int64))) = 0 then if (lg_cmp a4.toInt64 (x13 / (1000000 : Int64))) = 0 then xm_bi (fL_size x2 M11) (fun x17 M16 => if a5 = x17 then xm_bi (fL_size x2 M16) (fun x19 M18 => if 0 < (lg_cmp x14 (((x15 + (x15 / (100 : Int64))) + ((4 : Int64) * x19.toInt64)) + (4 : Int64))) then some ((0 : Int32), M18) else some ((1 : Int32), M18)) else some ((0 : Int32), M16)) else some ((0 : Int32), M11) else some ((0 : Int32), M11)))))))))))
set_option maxRecDepth 20000 in
theorem kL_goes {l : Launch} {L : List xm_Sh} (hL : xm_pre L)   (a1 : Int32) (a2 : Int32) (a3 : Int32) (a4 : Int32) (a5 : Int32) (M : xm_M) : xm_C l yL_goes wL_goes ({ frames := 6, cells := 0, slots := 0, locals := 151 }) L (fun g => [.ref (g.1 0), .int a1, .int a2, .int a3, .int a4, .int a5]) M xm_Fi (fL_goes  a1 a2 a3 a4 a5 M) := by
  refine xm_C.of (by decide) rfl (fun g => Nat.le_of_ble_eq_true rfl) ?_
  intro p e s m args below meth c D g A hX
  refine xm_lv (lv' := [(0, .ref (g.1 0)), (1, .int a1), (2, .int a2), (3, .int a3), (4, .int a4), (5, .int a5)]) rfl ?_
  unfold fL_goes
  refine xm_aload_n hX 0 dL_goes_0 rfl rfl ?_
  refine xm_iload_n hX 1 dL_goes_1 rfl rfl ?_
  refine xm_bipush hX (v := 6) rfl dL_goes_2 ?_
  refine xm_calli hX (xm_runV hX (k := 0) (ci := 3) (As := (fun g => [.int a1, .int (6 : Int32)])) (kX3_about hL a1 (6 : Int32) M) (hL _ _ cL_0) rfl (xm_gV gm_312 gm_313 gm_314 gm_1 gm_315) rfl ⟨rfl, rfl⟩ ⟨rfl, hdX3_about⟩ ⟨Nat.le_of_ble_eq_true rfl, Nat.le_of_ble_eq_true rfl⟩ rfl (Nat.le_of_ble_eq_true rfl) rfl ⟨Nat.le_of_ble_eq_true rfl, Nat.le_of_ble_eq_true rfl⟩ dL_goes_4) (fun x2 M1 => ?_)
  refine xm_istore hX (lv' := [(6, .int x2), (0, .ref (g.1 0)), (1, .int a1), (2, .int a2), (3, .int a3), (4, .int a4), (5, .int a5)]) dL_goes_7 (by decide) rfl ?_
  refine xm_iload_n hX 3 dL_goes_9 rfl rfl ?_
  refine xm_aload_n hX 1 dL_goes_10 rfl rfl ?_
  refine xm_iload_n hX 2 dL_goes_11 rfl rfl ?_
  refine xm_iconst hX (v := 5) rfl dL_goes_12 ?_
  refine xm_calli hX (xm_runV hX (k := 0) (ci := 3) (As := (fun g => [.int a1, .int (5 : Int32)])) (kX3_about hL a1 (5 : Int32) M1) (hL _ _ cL_0) rfl (xm_gV gm_312 gm_313 gm_314 gm_1 gm_315) rfl ⟨rfl, rfl⟩ ⟨rfl, hdX3_about⟩ ⟨Nat.le_of_ble_eq_true rfl, Nat.le_of_ble_eq_true rfl⟩ rfl (Nat.le_of_ble_eq_true rfl) rfl ⟨Nat.le_of_ble_eq_true rfl, Nat.le_of_ble_eq_true rfl⟩ dL_goes_13) (fun x4 M3 => ?_)
  refine xm_iconst hX (v := 2) rfl dL_goes_16 ?_
  refine xm_idivL hX (by decide) dL_goes_17 ?_
  refine xm_iadd hX dL_goes_18 ?_
  refine xm_i2l hX dL_goes_19 ?_
  refine xm_calli hX (xm_runS hX (As := (fun g => [.long ((a2 + (x4 / (2 : Int32))).toInt64)])) (kL_round hL ((a2 + (x4 / (2 : Int32))).toInt64) M3) (xm_gS gm_346 gm_347 gm_0 gm_348) rfl ⟨rfl, rfl⟩ hdL_round ⟨Nat.le_of_ble_eq_true rfl, Nat.le_of_ble_eq_true rfl⟩ rfl (Nat.le_of_ble_eq_true rfl) rfl ⟨Nat.le_of_ble_eq_true rfl, Nat.le_of_ble_eq_true rfl⟩ dL_goes_20) (fun x6 M5 => ?_)
  refine xm_bipush hX (v := 100) rfl dL_goes_23 ?_
  refine xm_idivL hX (by decide) dL_goes_25 ?_
  refine xm_nmi (fun x7 => ?_)
  refine xm_istore hX (lv' := [(7, .int x7), (6, .int x2), (0, .ref (g.1 0)), (1, .int a1), (2, .int a2), (3, .int a3), (4, .int a4), (5, .int a5)]) dL_goes_26 (by decide) rfl ?_
  refine xm_iload hX 1 dL_goes_28 rfl ?_
  refine xm_i2l hX dL_goes_30 ?_
  refine xm_aload_n hX 2 dL_goes_31 rfl rfl ?_
  refine xm_iload hX 0 dL_goes_32 rfl ?_
  refine xm_iconst hX (v := 1) rfl dL_goes_34 ?_
  refine xm_calli hX (xm_runV hX (k := 0) (ci := 3) (As := (fun g => [.int x7, .int (1 : Int32)])) (kX3_wave hL x7 (1 : Int32) M5) (hL _ _ cL_0) rfl (xm_gV gm_355 gm_356 gm_357 gm_1 gm_358) rfl ⟨rfl, rfl⟩ ⟨rfl, hdX3_wave⟩ ⟨Nat.le_of_ble_eq_true rfl, Nat.le_of_ble_eq_true rfl⟩ rfl (Nat.le_of_ble_eq_true rfl) rfl ⟨Nat.le_of_ble_eq_true rfl, Nat.le_of_ble_eq_true rfl⟩ dL_goes_35) (fun x9 M8 => ?_)
  refine xm_i2l hX dL_goes_38 ?_
  refine xm_lmul hX dL_goes_39 ?_
  refine xm_nml (fun x10 => ?_)
  refine xm_lstore hX (lv' := [(8, .long x10), (7, .int x7), (6, .int x2), (0, .ref (g.1 0)), (1, .int a1), (2, .int a2), (3, .int a3), (4, .int a4), (5, .int a5)]) dL_goes_40 (by decide) rfl ?_
  refine xm_iload hX 2 dL_goes_42 rfl ?_
  refine xm_i2l hX dL_goes_44 ?_
  refine xm_aload_n hX 3 dL_goes_45 rfl rfl ?_
  refine xm_iload hX 1 dL_goes_46 rfl ?_
  refine xm_iconst hX (v := 0) rfl dL_goes_48 ?_
  refine xm_calli hX (xm_runV hX (k := 0) (ci := 3) (As := (fun g => [.int x7, .int (0 : Int32)])) (kX3_wave hL x7 (0 : Int32) M8) (hL _ _ cL_0) rfl (xm_gV gm_355 gm_356 gm_357 gm_1 gm_358) rfl ⟨rfl, rfl⟩ ⟨rfl, hdX3_wave⟩ ⟨Nat.le_of_ble_eq_true rfl, Nat.le_of_ble_eq_true rfl⟩ rfl (Nat.le_of_ble_eq_true rfl) rfl ⟨Nat.le_of_ble_eq_true rfl, Nat.le_of_ble_eq_true rfl⟩ dL_goes_49) (fun x12 M11 => ?_)
  refine xm_i2l hX dL_goes_52 ?_
  refine xm_lmul hX dL_goes_53 ?_
  refine xm_nml (fun x13 => ?_)
  refine xm_lstore hX (lv' := [(10, .long x13), (8, .long x10), (7, .int x7), (6, .int x2), (0, .ref (g.1 0)), (1, .int a1), (2, .int a2), (3, .int a3), (4, .int a4), (5, .int a5)]) dL_goes_54 (by decide) rfl ?_
  refine xm_iload_n hX 7 dL_goes_56 rfl rfl ?_
  refine xm_i2l hX dL_goes_57 ?_
  refine xm_iload_n hX 7 dL_goes_58 rfl rfl ?_
  refine xm_i2l hX dL_goes_59 ?_
  refine xm_lmul hX dL_goes_60 ?_
  refine xm_iload hX 8 dL_goes_61 rfl ?_
  refine xm_i2l hX dL_goes_63 ?_
  refine xm_iload hX 8 dL_goes_64 rfl ?_
  refine xm_i2l hX dL_goes_66 ?_
  refine xm_lmul hX dL_goes_67 ?_
  refine xm_ladd hX dL_goes_68 ?_
  refine xm_nml (fun x14 => ?_)
  refine xm_lstore hX (lv' := [(12, .long x14), (10, .long x13), (8, .long x10), (7, .int x7), (6, .int x2), (0, .ref (g.1 0)), (1, .int a1), (2, .int a2), (3, .int a3), (4, .int a4), (5, .int a5)]) dL_goes_69 (by decide) rfl ?_
  refine xm_iload hX 4 dL_goes_71 rfl ?_
  refine xm_i2l hX dL_goes_73 ?_
  refine xm_iload hX 4 dL_goes_74 rfl ?_
  refine xm_i2l hX dL_goes_76 ?_
  refine xm_lmul hX dL_goes_77 ?_
  refine xm_nml (fun x15 => ?_)
  refine xm_lstore hX (lv' := [(14, .long x15), (12, .long x14), (10, .long x13), (8, .long x10), (7, .int x7), (6, .int x2), (0, .ref (g.1 0)), (1, .int a1), (2, .int a2), (3, .int a3), (4, .int a4), (5, .int a5)]) dL_goes_78 (by decide) rfl ?_
  refine xm_iload_n hX 9 dL_goes_80 rfl rfl ?_
  refine xm_i2l hX dL_goes_81 ?_
  refine xm_lload hX 3 dL_goes_82 rfl ?_
  refine xm_ldc2 hX (v := 1000000) (List.mem_cons_of_mem _ gm_362) dL_goes_84 ?_
  refine xm_ldivL hX (by decide) dL_goes_87 ?_
  refine xm_lcmp hX dL_goes_88 ?_
  refine xm_if_ne hX (tgt := 149) dL_goes_89 rfl ?_ ?_
  · refine xm_iconst hX (v := 0) rfl dL_goes_149 ?_
    exact xm_zretL hX (by decide) dL_goes_150
  · refine xm_iload hX 10 dL_goes_92 rfl ?_
    refine xm_i2l hX dL_goes_94 ?_
    refine xm_lload hX 2 dL_goes_95 rfl ?_
    refine xm_ldc2 hX (v := 1000000) (List.mem_cons_of_mem _ gm_362) dL_goes_97 ?_
    refine xm_ldivL hX (by decide) dL_goes_100 ?_
    refine xm_lcmp hX dL_goes_101 ?_
    refine xm_if_ne hX (tgt := 149) dL_goes_102 rfl ?_ ?_
    · refine xm_iconst hX (v := 0) rfl dL_goes_149 ?_
      exact xm_zretL hX (by decide) dL_goes_150
    · refine xm_iload hX 11 dL_goes_105 rfl ?_
      refine xm_iload hX 5 dL_goes_107 rfl ?_
      refine xm_calli hX (xm_runS hX (As := (fun g => [.int x2])) (kL_size hL x2 M11) (xm_gS gm_336 gm_337 gm_0 gm_338) rfl ⟨rfl, rfl⟩ hdL_size ⟨Nat.le_of_ble_eq_true rfl, Nat.le_of_ble_eq_true rfl⟩ rfl (Nat.le_of_ble_eq_true rfl) rfl ⟨Nat.le_of_ble_eq_true rfl, Nat.le_of_ble_eq_true rfl⟩ dL_goes_109) (fun x17 M16 => ?_)
      refine xm_icmp_ne hX (tgt := 149) dL_goes_112 rfl ?_ ?_
      · refine xm_iconst hX (v := 0) rfl dL_goes_149 ?_
        exact xm_zretL hX (by decide) dL_goes_150
      · refine xm_lload hX 1 dL_goes_115 rfl ?_
        refine xm_lload hX 0 dL_goes_117 rfl ?_
        refine xm_lload hX 0 dL_goes_119 rfl ?_
        refine xm_ldc2 hX (v := 100) (List.mem_cons_of_mem _ gm_344) dL_goes_121 ?_
        refine xm_ldivL hX (by decide) dL_goes_124 ?_
        refine xm_ladd hX dL_goes_125 ?_
        refine xm_ldc2 hX (v := 4) (List.mem_cons_of_mem _ gm_363) dL_goes_126 ?_
        refine xm_iload hX 5 dL_goes_129 rfl ?_
        refine xm_calli hX (xm_runS hX (As := (fun g => [.int x2])) (kL_size hL x2 M16) (xm_gS gm_336 gm_337 gm_0 gm_338) rfl ⟨rfl, rfl⟩ hdL_size ⟨Nat.le_of_ble_eq_true rfl, Nat.le_of_ble_eq_true rfl⟩ rfl (Nat.le_of_ble_eq_true rfl) rfl ⟨Nat.le_of_ble_eq_true rfl, Nat.le_of_ble_eq_true rfl⟩ dL_goes_131) (fun x19 M18 => ?_)
        refine xm_i2l hX dL_goes_134 ?_
        refine xm_lmul hX dL_goes_135 ?_
        refine xm_ladd hX dL_goes_136 ?_
        refine xm_ldc2 hX (v := 4) (List.mem_cons_of_mem _ gm_363) dL_goes_137 ?_
        refine xm_ladd hX dL_goes_140 ?_
        refine xm_lcmp hX dL_goes_141 ?_
        refine xm_if_gt hX (tgt := 149) dL_goes_142 rfl ?_ ?_
        · refine xm_iconst hX (v := 0) rfl dL_goes_149 ?_
          exact xm_zretL hX (by decide) dL_goes_150
        · refine xm_iconst hX (v := 1) rfl dL_goes_145 ?_
          refine xm_goto hX (tgt := 150) dL_goes_146 rfl ?_
          exact xm_zretL hX (by decide) dL_goes_150
-- ===== OdometryDeskLaw.spread(LOdometryDesk;)Z ['0']
theorem dL_spread_0 : decode cL_spread 0 = .ok (.aload_n 0, 1) := by decide +kernel
theorem dL_spread_1 : decode cL_spread 1 = .ok (.iconst 0, 1) := by decide +kernel
theorem dL_spread_2 : decode cL_spread 2 = .ok (.invokevirtual 65, 3) := by decide +kernel
theorem dL_spread_5 : decode cL_spread 5 = .ok (.istore_n 1, 1) := by decide +kernel
theorem dL_spread_6 : decode cL_spread 6 = .ok (.iload_n 1, 1) := by decide +kernel
theorem dL_spread_7 : decode cL_spread 7 = .ok (.istore_n 2, 1) := by decide +kernel
theorem dL_spread_8 : decode cL_spread 8 = .ok (.iload_n 1, 1) := by decide +kernel
theorem dL_spread_9 : decode cL_spread 9 = .ok (.iconst 1, 1) := by decide +kernel
theorem dL_spread_10 : decode cL_spread 10 = .ok (.isub, 1) := by decide +kernel
theorem dL_spread_11 : decode cL_spread 11 = .ok (.istore_n 3, 1) := by decide +kernel
theorem dL_spread_12 : decode cL_spread 12 = .ok (.iload_n 3, 1) := by decide +kernel
theorem dL_spread_13 : decode cL_spread 13 = .ok (.ifCond .lt 334, 3) := by decide +kernel
theorem dL_spread_16 : decode cL_spread 16 = .ok (.aload_n 0, 1) := by decide +kernel
theorem dL_spread_17 : decode cL_spread 17 = .ok (.iload_n 3, 1) := by decide +kernel
theorem dL_spread_18 : decode cL_spread 18 = .ok (.iconst 0, 1) := by decide +kernel
theorem dL_spread_19 : decode cL_spread 19 = .ok (.invokevirtual 75, 3) := by decide +kernel
theorem dL_spread_22 : decode cL_spread 22 = .ok (.iconst 4, 1) := by decide +kernel
theorem dL_spread_23 : decode cL_spread 23 = .ok (.if_icmp .ne 5, 3) := by decide +kernel
theorem dL_spread_26 : decode cL_spread 26 = .ok (.iload_n 3, 1) := by decide +kernel
theorem dL_spread_27 : decode cL_spread 27 = .ok (.istore_n 2, 1) := by decide +kernel
theorem dL_spread_28 : decode cL_spread 28 = .ok (.aload_n 0, 1) := by decide +kernel
theorem dL_spread_29 : decode cL_spread 29 = .ok (.iload_n 3, 1) := by decide +kernel
theorem dL_spread_30 : decode cL_spread 30 = .ok (.iconst 5, 1) := by decide +kernel
theorem dL_spread_31 : decode cL_spread 31 = .ok (.invokevirtual 69, 3) := by decide +kernel
theorem dL_spread_34 : decode cL_spread 34 = .ok (.istore 4, 2) := by decide +kernel
theorem dL_spread_36 : decode cL_spread 36 = .ok (.aload_n 0, 1) := by decide +kernel
theorem dL_spread_37 : decode cL_spread 37 = .ok (.iload_n 3, 1) := by decide +kernel
theorem dL_spread_38 : decode cL_spread 38 = .ok (.bipush 6, 2) := by decide +kernel
theorem dL_spread_40 : decode cL_spread 40 = .ok (.invokevirtual 69, 3) := by decide +kernel
theorem dL_spread_43 : decode cL_spread 43 = .ok (.istore 5, 2) := by decide +kernel
theorem dL_spread_45 : decode cL_spread 45 = .ok (.iload_n 2, 1) := by decide +kernel
theorem dL_spread_46 : decode cL_spread 46 = .ok (.iload_n 1, 1) := by decide +kernel
theorem dL_spread_47 : decode cL_spread 47 = .ok (.if_icmp .ne 27, 3) := by decide +kernel
theorem dL_spread_50 : decode cL_spread 50 = .ok (.iload 4, 2) := by decide +kernel
theorem dL_spread_52 : decode cL_spread 52 = .ok (.aload_n 0, 1) := by decide +kernel
theorem dL_spread_53 : decode cL_spread 53 = .ok (.iload_n 3, 1) := by decide +kernel
theorem dL_spread_54 : decode cL_spread 54 = .ok (.iconst 0, 1) := by decide +kernel
theorem dL_spread_55 : decode cL_spread 55 = .ok (.invokevirtual 69, 3) := by decide +kernel
theorem dL_spread_58 : decode cL_spread 58 = .ok (.if_icmp .ne 14, 3) := by decide +kernel
theorem dL_spread_61 : decode cL_spread 61 = .ok (.iload 5, 2) := by decide +kernel
theorem dL_spread_63 : decode cL_spread 63 = .ok (.aload_n 0, 1) := by decide +kernel
theorem dL_spread_64 : decode cL_spread 64 = .ok (.iload_n 3, 1) := by decide +kernel
theorem dL_spread_65 : decode cL_spread 65 = .ok (.iconst 1, 1) := by decide +kernel
theorem dL_spread_66 : decode cL_spread 66 = .ok (.invokevirtual 69, 3) := by decide +kernel
theorem dL_spread_69 : decode cL_spread 69 = .ok (.if_icmp .eq 272, 3) := by decide +kernel
theorem dL_spread_72 : decode cL_spread 72 = .ok (.iconst 0, 1) := by decide +kernel
theorem dL_spread_73 : decode cL_spread 73 = .ok (.ireturn, 1) := by decide +kernel
theorem dL_spread_74 : decode cL_spread 74 = .ok (.iload_n 3, 1) := by decide +kernel
theorem dL_spread_75 : decode cL_spread 75 = .ok (.iconst 1, 1) := by decide +kernel
theorem dL_spread_76 : decode cL_spread 76 = .ok (.isub, 1) := by decide +kernel
theorem dL_spread_77 : decode cL_spread 77 = .ok (.istore 6, 2) := by decide +kernel
theorem dL_spread_79 : decode cL_spread 79 = .ok (.iload 6, 2) := by decide +kernel
theorem dL_spread_81 : decode cL_spread 81 = .ok (.ifCond .lt 20, 3) := by decide +kernel
theorem dL_spread_84 : decode cL_spread 84 = .ok (.aload_n 0, 1) := by decide +kernel
theorem dL_spread_85 : decode cL_spread 85 = .ok (.iload 6, 2) := by decide +kernel
theorem dL_spread_87 : decode cL_spread 87 = .ok (.iconst 0, 1) := by decide +kernel
theorem dL_spread_88 : decode cL_spread 88 = .ok (.invokevirtual 75, 3) := by decide +kernel
theorem dL_spread_91 : decode cL_spread 91 = .ok (.iconst 4, 1) := by decide +kernel
theorem dL_spread_92 : decode cL_spread 92 = .ok (.if_icmp .eq 9, 3) := by decide +kernel
theorem dL_spread_95 : decode cL_spread 95 = .ok (.iinc 6 (-1), 3) := by decide +kernel
theorem dL_spread_98 : decode cL_spread 98 = .ok (.goto (-19), 3) := by decide +kernel
theorem dL_spread_101 : decode cL_spread 101 = .ok (.aload_n 0, 1) := by decide +kernel
theorem dL_spread_102 : decode cL_spread 102 = .ok (.iload 6, 2) := by decide +kernel
theorem dL_spread_104 : decode cL_spread 104 = .ok (.iconst 3, 1) := by decide +kernel
theorem dL_spread_105 : decode cL_spread 105 = .ok (.invokevirtual 69, 3) := by decide +kernel
theorem dL_spread_108 : decode cL_spread 108 = .ok (.istore 7, 2) := by decide +kernel
theorem dL_spread_110 : decode cL_spread 110 = .ok (.aload_n 0, 1) := by decide +kernel
theorem dL_spread_111 : decode cL_spread 111 = .ok (.iload_n 2, 1) := by decide +kernel
theorem dL_spread_112 : decode cL_spread 112 = .ok (.iconst 3, 1) := by decide +kernel
theorem dL_spread_113 : decode cL_spread 113 = .ok (.invokevirtual 69, 3) := by decide +kernel
theorem dL_spread_116 : decode cL_spread 116 = .ok (.iload 7, 2) := by decide +kernel
theorem dL_spread_118 : decode cL_spread 118 = .ok (.isub, 1) := by decide +kernel
theorem dL_spread_119 : decode cL_spread 119 = .ok (.istore 8, 2) := by decide +kernel
theorem dL_spread_121 : decode cL_spread 121 = .ok (.iload_n 2, 1) := by decide +kernel
theorem dL_spread_122 : decode cL_spread 122 = .ok (.iload_n 3, 1) := by decide +kernel
theorem dL_spread_123 : decode cL_spread 123 = .ok (.if_icmp .ne 13, 3) := by decide +kernel
theorem dL_spread_126 : decode cL_spread 126 = .ok (.aload_n 0, 1) := by decide +kernel
theorem dL_spread_127 : decode cL_spread 127 = .ok (.iload_n 3, 1) := by decide +kernel
theorem dL_spread_128 : decode cL_spread 128 = .ok (.bipush 9, 2) := by decide +kernel
theorem dL_spread_130 : decode cL_spread 130 = .ok (.invokevirtual 75, 3) := by decide +kernel
theorem dL_spread_133 : decode cL_spread 133 = .ok (.goto 4, 3) := by decide +kernel
theorem dL_spread_136 : decode cL_spread 136 = .ok (.iconst 0, 1) := by decide +kernel
theorem dL_spread_137 : decode cL_spread 137 = .ok (.istore 9, 2) := by decide +kernel
theorem dL_spread_139 : decode cL_spread 139 = .ok (.iload_n 2, 1) := by decide +kernel
theorem dL_spread_140 : decode cL_spread 140 = .ok (.iload_n 3, 1) := by decide +kernel
theorem dL_spread_141 : decode cL_spread 141 = .ok (.if_icmp .ne 13, 3) := by decide +kernel
theorem dL_spread_144 : decode cL_spread 144 = .ok (.aload_n 0, 1) := by decide +kernel
theorem dL_spread_145 : decode cL_spread 145 = .ok (.iload_n 3, 1) := by decide +kernel
theorem dL_spread_146 : decode cL_spread 146 = .ok (.bipush 10, 2) := by decide +kernel
theorem dL_spread_148 : decode cL_spread 148 = .ok (.invokevirtual 75, 3) := by decide +kernel
theorem dL_spread_151 : decode cL_spread 151 = .ok (.goto 4, 3) := by decide +kernel
theorem dL_spread_154 : decode cL_spread 154 = .ok (.iconst 0, 1) := by decide +kernel
theorem dL_spread_155 : decode cL_spread 155 = .ok (.istore 10, 2) := by decide +kernel
theorem dL_spread_157 : decode cL_spread 157 = .ok (.iload_n 2, 1) := by decide +kernel
theorem dL_spread_158 : decode cL_spread 158 = .ok (.iload_n 3, 1) := by decide +kernel
theorem dL_spread_159 : decode cL_spread 159 = .ok (.if_icmp .ne 32, 3) := by decide +kernel
theorem dL_spread_162 : decode cL_spread 162 = .ok (.iload 8, 2) := by decide +kernel
theorem dL_spread_164 : decode cL_spread 164 = .ok (.ifCond .le 27, 3) := by decide +kernel
theorem dL_spread_167 : decode cL_spread 167 = .ok (.iload 4, 2) := by decide +kernel
theorem dL_spread_169 : decode cL_spread 169 = .ok (.aload_n 0, 1) := by decide +kernel
theorem dL_spread_170 : decode cL_spread 170 = .ok (.iload_n 3, 1) := by decide +kernel
theorem dL_spread_171 : decode cL_spread 171 = .ok (.iconst 0, 1) := by decide +kernel
theorem dL_spread_172 : decode cL_spread 172 = .ok (.invokevirtual 69, 3) := by decide +kernel
theorem dL_spread_175 : decode cL_spread 175 = .ok (.if_icmp .ne 14, 3) := by decide +kernel
theorem dL_spread_178 : decode cL_spread 178 = .ok (.iload 5, 2) := by decide +kernel
theorem dL_spread_180 : decode cL_spread 180 = .ok (.aload_n 0, 1) := by decide +kernel
theorem dL_spread_181 : decode cL_spread 181 = .ok (.iload_n 3, 1) := by decide +kernel
theorem dL_spread_182 : decode cL_spread 182 = .ok (.iconst 1, 1) := by decide +kernel
theorem dL_spread_183 : decode cL_spread 183 = .ok (.invokevirtual 69, 3) := by decide +kernel
theorem dL_spread_186 : decode cL_spread 186 = .ok (.if_icmp .eq 5, 3) := by decide +kernel
theorem dL_spread_189 : decode cL_spread 189 = .ok (.iconst 0, 1) := by decide +kernel
theorem dL_spread_190 : decode cL_spread 190 = .ok (.ireturn, 1) := by decide +kernel
theorem dL_spread_191 : decode cL_spread 191 = .ok (.iload 8, 2) := by decide +kernel
theorem dL_spread_193 : decode cL_spread 193 = .ok (.ifCond .ne 33, 3) := by decide +kernel
theorem dL_spread_196 : decode cL_spread 196 = .ok (.iload 4, 2) := by decide +kernel
theorem dL_spread_198 : decode cL_spread 198 = .ok (.aload_n 0, 1) := by decide +kernel
theorem dL_spread_199 : decode cL_spread 199 = .ok (.iload_n 3, 1) := by decide +kernel
theorem dL_spread_200 : decode cL_spread 200 = .ok (.iconst 0, 1) := by decide +kernel
theorem dL_spread_201 : decode cL_spread 201 = .ok (.invokevirtual 69, 3) := by decide +kernel
theorem dL_spread_204 : decode cL_spread 204 = .ok (.iload 9, 2) := by decide +kernel
theorem dL_spread_206 : decode cL_spread 206 = .ok (.iadd, 1) := by decide +kernel
theorem dL_spread_207 : decode cL_spread 207 = .ok (.if_icmp .ne 17, 3) := by decide +kernel
theorem dL_spread_210 : decode cL_spread 210 = .ok (.iload 5, 2) := by decide +kernel
theorem dL_spread_212 : decode cL_spread 212 = .ok (.aload_n 0, 1) := by decide +kernel
theorem dL_spread_213 : decode cL_spread 213 = .ok (.iload_n 3, 1) := by decide +kernel
theorem dL_spread_214 : decode cL_spread 214 = .ok (.iconst 1, 1) := by decide +kernel
theorem dL_spread_215 : decode cL_spread 215 = .ok (.invokevirtual 69, 3) := by decide +kernel
theorem dL_spread_218 : decode cL_spread 218 = .ok (.iload 10, 2) := by decide +kernel
theorem dL_spread_220 : decode cL_spread 220 = .ok (.iadd, 1) := by decide +kernel
theorem dL_spread_221 : decode cL_spread 221 = .ok (.if_icmp .eq 5, 3) := by decide +kernel
theorem dL_spread_224 : decode cL_spread 224 = .ok (.iconst 0, 1) := by decide +kernel
theorem dL_spread_225 : decode cL_spread 225 = .ok (.ireturn, 1) := by decide +kernel
theorem dL_spread_226 : decode cL_spread 226 = .ok (.iload 8, 2) := by decide +kernel
theorem dL_spread_228 : decode cL_spread 228 = .ok (.ifCond .eq 113, 3) := by decide +kernel
theorem dL_spread_231 : decode cL_spread 231 = .ok (.iload_n 2, 1) := by decide +kernel
theorem dL_spread_232 : decode cL_spread 232 = .ok (.iload_n 3, 1) := by decide +kernel
theorem dL_spread_233 : decode cL_spread 233 = .ok (.if_icmp .ne 6, 3) := by decide +kernel
theorem dL_spread_236 : decode cL_spread 236 = .ok (.goto 105, 3) := by decide +kernel
theorem dL_spread_239 : decode cL_spread 239 = .ok (.aload_n 0, 1) := by decide +kernel
theorem dL_spread_240 : decode cL_spread 240 = .ok (.iload_n 3, 1) := by decide +kernel
theorem dL_spread_241 : decode cL_spread 241 = .ok (.iconst 0, 1) := by decide +kernel
theorem dL_spread_242 : decode cL_spread 242 = .ok (.invokevirtual 69, 3) := by decide +kernel
theorem dL_spread_245 : decode cL_spread 245 = .ok (.iload 4, 2) := by decide +kernel
theorem dL_spread_247 : decode cL_spread 247 = .ok (.isub, 1) := by decide +kernel
theorem dL_spread_248 : decode cL_spread 248 = .ok (.i2l, 1) := by decide +kernel
theorem dL_spread_249 : decode cL_spread 249 = .ok (.iload 8, 2) := by decide +kernel
theorem dL_spread_251 : decode cL_spread 251 = .ok (.i2l, 1) := by decide +kernel
theorem dL_spread_252 : decode cL_spread 252 = .ok (.lmul, 1) := by decide +kernel
theorem dL_spread_253 : decode cL_spread 253 = .ok (.aload_n 0, 1) := by decide +kernel
theorem dL_spread_254 : decode cL_spread 254 = .ok (.iload_n 2, 1) := by decide +kernel
theorem dL_spread_255 : decode cL_spread 255 = .ok (.bipush 9, 2) := by decide +kernel
theorem dL_spread_257 : decode cL_spread 257 = .ok (.invokevirtual 75, 3) := by decide +kernel
theorem dL_spread_260 : decode cL_spread 260 = .ok (.i2l, 1) := by decide +kernel
theorem dL_spread_261 : decode cL_spread 261 = .ok (.aload_n 0, 1) := by decide +kernel
theorem dL_spread_262 : decode cL_spread 262 = .ok (.iload_n 3, 1) := by decide +kernel
theorem dL_spread_263 : decode cL_spread 263 = .ok (.iconst 3, 1) := by decide +kernel
theorem dL_spread_264 : decode cL_spread 264 = .ok (.invokevirtual 69, 3) := by decide +kernel
theorem dL_spread_267 : decode cL_spread 267 = .ok (.iload 7, 2) := by decide +kernel
theorem dL_spread_269 : decode cL_spread 269 = .ok (.isub, 1) := by decide +kernel
theorem dL_spread_270 : decode cL_spread 270 = .ok (.i2l, 1) := by decide +kernel
theorem dL_spread_271 : decode cL_spread 271 = .ok (.lmul, 1) := by decide +kernel
theorem dL_spread_272 : decode cL_spread 272 = .ok (.lsub, 1) := by decide +kernel
theorem dL_spread_273 : decode cL_spread 273 = .ok (.lstore 11, 2) := by decide +kernel
theorem dL_spread_275 : decode cL_spread 275 = .ok (.lload 11, 2) := by decide +kernel
theorem dL_spread_277 : decode cL_spread 277 = .ok (.lconst 0, 1) := by decide +kernel
theorem dL_spread_278 : decode cL_spread 278 = .ok (.lcmp, 1) := by decide +kernel
theorem dL_spread_279 : decode cL_spread 279 = .ok (.ifCond .le 15, 3) := by decide +kernel
theorem dL_spread_282 : decode cL_spread 282 = .ok (.lload 11, 2) := by decide +kernel
theorem dL_spread_284 : decode cL_spread 284 = .ok (.iload 8, 2) := by decide +kernel
theorem dL_spread_286 : decode cL_spread 286 = .ok (.i2l, 1) := by decide +kernel
theorem dL_spread_287 : decode cL_spread 287 = .ok (.lcmp, 1) := by decide +kernel
theorem dL_spread_288 : decode cL_spread 288 = .ok (.ifCond .lt 18, 3) := by decide +kernel
theorem dL_spread_291 : decode cL_spread 291 = .ok (.goto 13, 3) := by decide +kernel
theorem dL_spread_294 : decode cL_spread 294 = .ok (.lload 11, 2) := by decide +kernel
theorem dL_spread_296 : decode cL_spread 296 = .ok (.lneg, 1) := by decide +kernel
theorem dL_spread_297 : decode cL_spread 297 = .ok (.iload 8, 2) := by decide +kernel
theorem dL_spread_299 : decode cL_spread 299 = .ok (.i2l, 1) := by decide +kernel
theorem dL_spread_300 : decode cL_spread 300 = .ok (.lcmp, 1) := by decide +kernel
theorem dL_spread_301 : decode cL_spread 301 = .ok (.ifCond .lt 5, 3) := by decide +kernel
theorem dL_spread_304 : decode cL_spread 304 = .ok (.iconst 0, 1) := by decide +kernel
theorem dL_spread_305 : decode cL_spread 305 = .ok (.ireturn, 1) := by decide +kernel
theorem dL_spread_306 : decode cL_spread 306 = .ok (.aload_n 0, 1) := by decide +kernel
theorem dL_spread_307 : decode cL_spread 307 = .ok (.iload_n 3, 1) := by decide +kernel
theorem dL_spread_308 : decode cL_spread 308 = .ok (.iconst 3, 1) := by decide +kernel
theorem dL_spread_309 : decode cL_spread 309 = .ok (.invokevirtual 69, 3) := by decide +kernel
theorem dL_spread_312 : decode cL_spread 312 = .ok (.iload 7, 2) := by decide +kernel
theorem dL_spread_314 : decode cL_spread 314 = .ok (.if_icmp .ne 27, 3) := by decide +kernel
theorem dL_spread_317 : decode cL_spread 317 = .ok (.iload 4, 2) := by decide +kernel
theorem dL_spread_319 : decode cL_spread 319 = .ok (.aload_n 0, 1) := by decide +kernel
theorem dL_spread_320 : decode cL_spread 320 = .ok (.iload_n 3, 1) := by decide +kernel
theorem dL_spread_321 : decode cL_spread 321 = .ok (.iconst 0, 1) := by decide +kernel
theorem dL_spread_322 : decode cL_spread 322 = .ok (.invokevirtual 69, 3) := by decide +kernel
theorem dL_spread_325 : decode cL_spread 325 = .ok (.if_icmp .ne 14, 3) := by decide +kernel
theorem dL_spread_328 : decode cL_spread 328 = .ok (.iload 5, 2) := by decide +kernel
theorem dL_spread_330 : decode cL_spread 330 = .ok (.aload_n 0, 1) := by decide +kernel
theorem dL_spread_331 : decode cL_spread 331 = .ok (.iload_n 3, 1) := by decide +kernel
theorem dL_spread_332 : decode cL_spread 332 = .ok (.iconst 1, 1) := by decide +kernel
theorem dL_spread_333 : decode cL_spread 333 = .ok (.invokevirtual 69, 3) := by decide +kernel
theorem dL_spread_336 : decode cL_spread 336 = .ok (.if_icmp .eq 5, 3) := by decide +kernel
theorem dL_spread_339 : decode cL_spread 339 = .ok (.iconst 0, 1) := by decide +kernel
theorem dL_spread_340 : decode cL_spread 340 = .ok (.ireturn, 1) := by decide +kernel
theorem dL_spread_341 : decode cL_spread 341 = .ok (.iinc 3 (-1), 3) := by decide +kernel
theorem dL_spread_344 : decode cL_spread 344 = .ok (.goto (-332), 3) := by decide +kernel
theorem dL_spread_347 : decode cL_spread 347 = .ok (.aload_n 0, 1) := by decide +kernel
theorem dL_spread_348 : decode cL_spread 348 = .ok (.iconst (-1), 1) := by decide +kernel
theorem dL_spread_349 : decode cL_spread 349 = .ok (.iconst 5, 1) := by decide +kernel
theorem dL_spread_350 : decode cL_spread 350 = .ok (.invokevirtual 69, 3) := by decide +kernel
theorem dL_spread_353 : decode cL_spread 353 = .ok (.aload_n 0, 1) := by decide +kernel
theorem dL_spread_354 : decode cL_spread 354 = .ok (.iconst (-1), 1) := by decide +kernel
theorem dL_spread_355 : decode cL_spread 355 = .ok (.iconst 0, 1) := by decide +kernel
theorem dL_spread_356 : decode cL_spread 356 = .ok (.invokevirtual 69, 3) := by decide +kernel
theorem dL_spread_359 : decode cL_spread 359 = .ok (.if_icmp .ne 23, 3) := by decide +kernel
theorem dL_spread_362 : decode cL_spread 362 = .ok (.aload_n 0, 1) := by decide +kernel
theorem dL_spread_363 : decode cL_spread 363 = .ok (.iconst (-1), 1) := by decide +kernel
theorem dL_spread_364 : decode cL_spread 364 = .ok (.bipush 6, 2) := by decide +kernel
theorem dL_spread_366 : decode cL_spread 366 = .ok (.invokevirtual 69, 3) := by decide +kernel
theorem dL_spread_369 : decode cL_spread 369 = .ok (.aload_n 0, 1) := by decide +kernel
theorem dL_spread_370 : decode cL_spread 370 = .ok (.iconst (-1), 1) := by decide +kernel
theorem dL_spread_371 : decode cL_spread 371 = .ok (.iconst 1, 1) := by decide +kernel
theorem dL_spread_372 : decode cL_spread 372 = .ok (.invokevirtual 69, 3) := by decide +kernel
theorem dL_spread_375 : decode cL_spread 375 = .ok (.if_icmp .ne 7, 3) := by decide +kernel
theorem dL_spread_378 : decode cL_spread 378 = .ok (.iconst 1, 1) := by decide +kernel
theorem dL_spread_379 : decode cL_spread 379 = .ok (.goto 4, 3) := by decide +kernel
theorem dL_spread_382 : decode cL_spread 382 = .ok (.iconst 0, 1) := by decide +kernel
theorem dL_spread_383 : decode cL_spread 383 = .ok (.ireturn, 1) := by decide +kernel
abbrev wL_spread : List Cond := .code yL_spread cL_spread 13 (some .boolean) :: lw_gd
theorem hdL_spread : (yL_spread.cls ≠ "java/lang/invoke/MethodHandle" ∧ yL_spread.cls ≠ "java/lang/invoke/VarHandle" ∧ (parseMethodDescriptor yL_spread.desc).map (fun d => d.parameters.length) = some 1) := by decide +kernel
def fL_spread_341  (k12 : Int32 → Int32 → Int32 → xm_M → Option (Int32 × xm_M)) (b1 : Int32) (b2 : Int32) (b3 : Int32) (M : xm_M) : Option (Int32 × xm_M) :=
  xm_lt (b3 + Int32.ofInt (-1)) (fun x24 => k12 b1 b2 x24 M)
set_option maxRecDepth 20000 in
theorem tfL_spread_341 {p : Program} {l : Launch} {e : Env} {s : State} {m : MethodId} {args : Array Value} {below : List Frame} {meth : Method} {c : Code} {D : va_G} {g : xm_G} {A : Nat → Prop}  {L : List xm_Sh} (hL : xm_pre L) (hX : xm_X p m meth c cL_spread 13 s args wL_spread RL (some .boolean) D L g A)  (k12 : Int32 → Int32 → Int32 → xm_M → Option (Int32 × xm_M)) (h12 : ∀ (b1 : Int32), ∀ (b2 : Int32), ∀ (b3 : Int32), ∀ (M : xm_M), xm_J p l e ({ frames := 6, cells := 0, slots := 0, locals := 151 }) s m args below meth c 13 D L g A (xm_Z below args s D L g A (xm_Fi g)) 12 [(0, .ref (g.1 0)), (1, .int b1), (2, .int b2), (3, .int b3)] [] M (k12 b1 b2 b3 M)) : ∀ (b1 : Int32), ∀ (b2 : Int32), ∀ (b3 : Int32), ∀ (M : xm_M), xm_J p l e ({ frames := 6, cells := 0, slots := 0, locals := 151 }) s m args below meth c 13 D L g A (xm_Z below args s D L g A (xm_Fi g)) 341 [(0, .ref (g.1 0)), (1, .int b1), (2, .int b2), (3, .int b3)] [] M (fL_spread_341 k12 b1 b2 b3 M) := by
  intro b1 b2 b3 M
  unfold fL_spread_341
  refine xm_iinc hX (lv2 := fun x24 => [(3, .int x24), (0, .ref (g.1 0)), (1, .int b1), (2, .int b2)]) 3 dL_spread_341 rfl (by decide) (fun _ => rfl) (fun x24 => ?_)
  refine xm_goto hX (tgt := 12) dL_spread_344 rfl ?_
  refine xm_weak [1, 2, 3, 0] (lv' := [(0, .ref (g.1 0)), (1, .int b1), (2, .int b2), (3, .int x24)]) rfl ?_
  exact h12 b1 b2 x24 M
def fL_spread_306  (k12 : Int32 → Int32 → Int32 → xm_M → Option (Int32 × xm_M)) (b1 : Int32) (b2 : Int32) (b3 : Int32) (b4 : Int32) (b5 : Int32) (b7 : Int32) (M : xm_M) : Option (Int32 × xm_M) :=
  xm_bi (fX3_pose b3 (3 : Int32) M) (fun x33 M32 => if x33 = b7 then xm_bi (fX3_pose b3 (0 : Int32) M32) (fun x35 M34 => if b4 = x35 then xm_bi (fX3_pose b3 (1 : Int32) M34) (fun x37 M36 => if b5 = x37 then fL_spread_341 k12 b1 b2 b3 M36 else some ((0 : Int32), M36)) else some ((0 : Int32), M34)) else fL_spread_341 k12 b1 b2 b3 M32)
set_option maxRecDepth 20000 in
theorem tfL_spread_306 {p : Program} {l : Launch} {e : Env} {s : State} {m : MethodId} {args : Array Value} {below : List Frame} {meth : Method} {c : Code} {D : va_G} {g : xm_G} {A : Nat → Prop}  {L : List xm_Sh} (hL : xm_pre L) (hX : xm_X p m meth c cL_spread 13 s args wL_spread RL (some .boolean) D L g A)  (k12 : Int32 → Int32 → Int32 → xm_M → Option (Int32 × xm_M)) (h12 : ∀ (b1 : Int32), ∀ (b2 : Int32), ∀ (b3 : Int32), ∀ (M : xm_M), xm_J p l e ({ frames := 6, cells := 0, slots := 0, locals := 151 }) s m args below meth c 13 D L g A (xm_Z below args s D L g A (xm_Fi g)) 12 [(0, .ref (g.1 0)), (1, .int b1), (2, .int b2), (3, .int b3)] [] M (k12 b1 b2 b3 M)) : ∀ (b1 : Int32), ∀ (b2 : Int32), ∀ (b3 : Int32), ∀ (b4 : Int32), ∀ (b5 : Int32), ∀ (b7 : Int32), ∀ (M : xm_M), xm_J p l e ({ frames := 6, cells := 0, slots := 0, locals := 151 }) s m args below meth c 13 D L g A (xm_Z below args s D L g A (xm_Fi g)) 306 [(0, .ref (g.1 0)), (1, .int b1), (2, .int b2), (3, .int b3), (4, .int b4), (5, .int b5), (7, .int b7)] [] M (fL_spread_306 k12 b1 b2 b3 b4 b5 b7 M) := by
  intro b1 b2 b3 b4 b5 b7 M
  unfold fL_spread_306
  refine xm_aload_n hX 0 dL_spread_306 rfl rfl ?_
  refine xm_iload_n hX 3 dL_spread_307 rfl rfl ?_
  refine xm_iconst hX (v := 3) rfl dL_spread_308 ?_
  refine xm_calli hX (xm_runV hX (k := 0) (ci := 3) (As := (fun g => [.int b3, .int (3 : Int32)])) (kX3_pose hL b3 (3 : Int32) M) (hL _ _ cL_0) rfl (xm_gV gm_283 gm_284 gm_285 gm_1 gm_286) rfl ⟨rfl, rfl⟩ ⟨rfl, hdX3_pose⟩ ⟨Nat.le_of_ble_eq_true rfl, Nat.le_of_ble_eq_true rfl⟩ rfl (Nat.le_of_ble_eq_true rfl) rfl ⟨Nat.le_of_ble_eq_true rfl, Nat.le_of_ble_eq_true rfl⟩ dL_spread_309) (fun x33 M32 => ?_)
  refine xm_iload hX 6 dL_spread_312 rfl ?_
  refine xm_icmp_ne hX (tgt := 341) dL_spread_314 rfl ?_ ?_
  · refine xm_weak [0, 1, 2, 3] (lv' := [(0, .ref (g.1 0)), (1, .int b1), (2, .int b2), (3, .int b3)]) rfl ?_
    exact tfL_spread_341 hL hX k12 h12 b1 b2 b3 M32
  · refine xm_iload hX 4 dL_spread_317 rfl ?_
    refine xm_aload_n hX 0 dL_spread_319 rfl rfl ?_
    refine xm_iload_n hX 3 dL_spread_320 rfl rfl ?_
    refine xm_iconst hX (v := 0) rfl dL_spread_321 ?_
    refine xm_calli hX (xm_runV hX (k := 0) (ci := 3) (As := (fun g => [.int b3, .int (0 : Int32)])) (kX3_pose hL b3 (0 : Int32) M32) (hL _ _ cL_0) rfl (xm_gV gm_283 gm_284 gm_285 gm_1 gm_286) rfl ⟨rfl, rfl⟩ ⟨rfl, hdX3_pose⟩ ⟨Nat.le_of_ble_eq_true rfl, Nat.le_of_ble_eq_true rfl⟩ rfl (Nat.le_of_ble_eq_true rfl) rfl ⟨Nat.le_of_ble_eq_true rfl, Nat.le_of_ble_eq_true rfl⟩ dL_spread_322) (fun x35 M34 => ?_)
    refine xm_icmp_ne hX (tgt := 339) dL_spread_325 rfl ?_ ?_
    · refine xm_iconst hX (v := 0) rfl dL_spread_339 ?_
      exact xm_zretL hX (by decide) dL_spread_340
    · refine xm_iload hX 5 dL_spread_328 rfl ?_
      refine xm_aload_n hX 0 dL_spread_330 rfl rfl ?_
      refine xm_iload_n hX 3 dL_spread_331 rfl rfl ?_
      refine xm_iconst hX (v := 1) rfl dL_spread_332 ?_
      refine xm_calli hX (xm_runV hX (k := 0) (ci := 3) (As := (fun g => [.int b3, .int (1 : Int32)])) (kX3_pose hL b3 (1 : Int32) M34) (hL _ _ cL_0) rfl (xm_gV gm_283 gm_284 gm_285 gm_1 gm_286) rfl ⟨rfl, rfl⟩ ⟨rfl, hdX3_pose⟩ ⟨Nat.le_of_ble_eq_true rfl, Nat.le_of_ble_eq_true rfl⟩ rfl (Nat.le_of_ble_eq_true rfl) rfl ⟨Nat.le_of_ble_eq_true rfl, Nat.le_of_ble_eq_true rfl⟩ dL_spread_333) (fun x37 M36 => ?_)
      refine xm_icmp_eq hX (tgt := 341) dL_spread_336 rfl ?_ ?_
      · refine xm_weak [0, 1, 2, 3] (lv' := [(0, .ref (g.1 0)), (1, .int b1), (2, .int b2), (3, .int b3)]) rfl ?_
        exact tfL_spread_341 hL hX k12 h12 b1 b2 b3 M36
      · refine xm_iconst hX (v := 0) rfl dL_spread_339 ?_
        exact xm_zretL hX (by decide) dL_spread_340
def fL_spread_226  (k12 : Int32 → Int32 → Int32 → xm_M → Option (Int32 × xm_M)) (b1 : Int32) (b2 : Int32) (b3 : Int32) (b4 : Int32) (b5 : Int32) (b7 : Int32) (b8 : Int32) (M : xm_M) : Option (Int32 × xm_M) :=
  if b8 = 0 then fL_spread_341 k12 b1 b2 b3 M else if b2 = b3 then fL_spread_341 k12 b1 b2 b3 M else xm_bi (fX3_pose b3 (0 : Int32) M) (fun x26 M25 => xm_bi (fX3_about b2 (9 : Int32) M25) (fun x28 M27 => xm_bi (fX3_pose b3 (3 : Int32) M27) (fun x30 M29 => xm_lt ((((x26 - b4).toInt64) * b8.toInt64) - (x28.toInt64 * ((x30 - b7).toInt64))) (fun x31 => if (lg_cmp x31 (0 : Int64)) ≤ 0 then if (lg_cmp (-x31) b8.toInt64) < 0 then fL_spread_306 k12 b1 b2 b3 b4 b5 b7 M29 else some ((0 : Int32), M29) else if (lg_cmp x31 b8.toInt64) < 0 then fL_spread_306 k12 b1 b2 b3 b4 b5 b7 M29 else some ((0 : Int32), M29)))))
set_option maxRecDepth 20000 in
theorem tfL_spread_226 {p : Program} {l : Launch} {e : Env} {s : State} {m : MethodId} {args : Array Value} {below : List Frame} {meth : Method} {c : Code} {D : va_G} {g : xm_G} {A : Nat → Prop}  {L : List xm_Sh} (hL : xm_pre L) (hX : xm_X p m meth c cL_spread 13 s args wL_spread RL (some .boolean) D L g A)  (k12 : Int32 → Int32 → Int32 → xm_M → Option (Int32 × xm_M)) (h12 : ∀ (b1 : Int32), ∀ (b2 : Int32), ∀ (b3 : Int32), ∀ (M : xm_M), xm_J p l e ({ frames := 6, cells := 0, slots := 0, locals := 151 }) s m args below meth c 13 D L g A (xm_Z below args s D L g A (xm_Fi g)) 12 [(0, .ref (g.1 0)), (1, .int b1), (2, .int b2), (3, .int b3)] [] M (k12 b1 b2 b3 M)) : ∀ (b1 : Int32), ∀ (b2 : Int32), ∀ (b3 : Int32), ∀ (b4 : Int32), ∀ (b5 : Int32), ∀ (b7 : Int32), ∀ (b8 : Int32), ∀ (M : xm_M), xm_J p l e ({ frames := 6, cells := 0, slots := 0, locals := 151 }) s m args below meth c 13 D L g A (xm_Z below args s D L g A (xm_Fi g)) 226 [(0, .ref (g.1 0)), (1, .int b1), (2, .int b2), (3, .int b3), (4, .int b4), (5, .int b5), (7, .int b7), (8, .int b8)] [] M (fL_spread_226 k12 b1 b2 b3 b4 b5 b7 b8 M) := by
  intro b1 b2 b3 b4 b5 b7 b8 M
  unfold fL_spread_226
  refine xm_iload hX 7 dL_spread_226 rfl ?_
  refine xm_if_eq hX (tgt := 341) dL_spread_228 rfl ?_ ?_
  · refine xm_weak [0, 1, 2, 3] (lv' := [(0, .ref (g.1 0)), (1, .int b1), (2, .int b2), (3, .int b3)]) rfl ?_
    exact tfL_spread_341 hL hX k12 h12 b1 b2 b3 M
  · refine xm_iload_n hX 2 dL_spread_231 rfl rfl ?_
    refine xm_iload_n hX 3 dL_spread_232 rfl rfl ?_
    refine xm_icmp_ne hX (tgt := 239) dL_spread_233 rfl ?_ ?_
    · refine xm_aload_n hX 0 dL_spread_239 rfl rfl ?_
      refine xm_iload_n hX 3 dL_spread_240 rfl rfl ?_
      refine xm_iconst hX (v := 0) rfl dL_spread_241 ?_
      refine xm_calli hX (xm_runV hX (k := 0) (ci := 3) (As := (fun g => [.int b3, .int (0 : Int32)])) (kX3_pose hL b3 (0 : Int32) M) (hL _ _ cL_0) rfl (xm_gV gm_283 gm_284 gm_285 gm_1 gm_286) rfl ⟨rfl, rfl⟩ ⟨rfl, hdX3_pose⟩ ⟨Nat.le_of_ble_eq_true rfl, Nat.le_of_ble_eq_true rfl⟩ rfl (Nat.le_of_ble_eq_true rfl) rfl ⟨Nat.le_of_ble_eq_true rfl, Nat.le_of_ble_eq_true rfl⟩ dL_spread_242) (fun x26 M25 => ?_)
      refine xm_iload hX 4 dL_spread_245 rfl ?_
      refine xm_isub hX dL_spread_247 ?_
      refine xm_i2l hX dL_spread_248 ?_
      refine xm_iload hX 7 dL_spread_249 rfl ?_
      refine xm_i2l hX dL_spread_251 ?_
      refine xm_lmul hX dL_spread_252 ?_
      refine xm_aload_n hX 0 dL_spread_253 rfl rfl ?_
      refine xm_iload_n hX 2 dL_spread_254 rfl rfl ?_
      refine xm_bipush hX (v := 9) rfl dL_spread_255 ?_
      refine xm_calli hX (xm_runV hX (k := 0) (ci := 3) (As := (fun g => [.int b2, .int (9 : Int32)])) (kX3_about hL b2 (9 : Int32) M25) (hL _ _ cL_0) rfl (xm_gV gm_312 gm_313 gm_314 gm_1 gm_315) rfl ⟨rfl, rfl⟩ ⟨rfl, hdX3_about⟩ ⟨Nat.le_of_ble_eq_true rfl, Nat.le_of_ble_eq_true rfl⟩ rfl (Nat.le_of_ble_eq_true rfl) rfl ⟨Nat.le_of_ble_eq_true rfl, Nat.le_of_ble_eq_true rfl⟩ dL_spread_257) (fun x28 M27 => ?_)
      refine xm_i2l hX dL_spread_260 ?_
      refine xm_aload_n hX 0 dL_spread_261 rfl rfl ?_
      refine xm_iload_n hX 3 dL_spread_262 rfl rfl ?_
      refine xm_iconst hX (v := 3) rfl dL_spread_263 ?_
      refine xm_calli hX (xm_runV hX (k := 0) (ci := 3) (As := (fun g => [.int b3, .int (3 : Int32)])) (kX3_pose hL b3 (3 : Int32) M27) (hL _ _ cL_0) rfl (xm_gV gm_283 gm_284 gm_285 gm_1 gm_286) rfl ⟨rfl, rfl⟩ ⟨rfl, hdX3_pose⟩ ⟨Nat.le_of_ble_eq_true rfl, Nat.le_of_ble_eq_true rfl⟩ rfl (Nat.le_of_ble_eq_true rfl) rfl ⟨Nat.le_of_ble_eq_true rfl, Nat.le_of_ble_eq_true rfl⟩ dL_spread_264) (fun x30 M29 => ?_)
      refine xm_iload hX 6 dL_spread_267 rfl ?_
      refine xm_isub hX dL_spread_269 ?_
      refine xm_i2l hX dL_spread_270 ?_
      refine xm_lmul hX dL_spread_271 ?_
      refine xm_lsub hX dL_spread_272 ?_
      refine xm_nml (fun x31 => ?_)
      refine xm_lstore hX (lv' := [(11, .long x31), (0, .ref (g.1 0)), (1, .int b1), (2, .int b2), (3, .int b3), (4, .int b4), (5, .int b5), (7, .int b7), (8, .int b8)]) dL_spread_273 (by decide) rfl ?_
      refine xm_lload hX 0 dL_spread_275 rfl ?_
      refine xm_lconst hX (v := 0) rfl dL_spread_277 ?_
      refine xm_lcmp hX dL_spread_278 ?_
      refine xm_if_le hX (tgt := 294) dL_spread_279 rfl ?_ ?_
      · refine xm_lload hX 0 dL_spread_294 rfl ?_
        refine xm_lneg hX dL_spread_296 ?_
        refine xm_iload hX 8 dL_spread_297 rfl ?_
        refine xm_i2l hX dL_spread_299 ?_
        refine xm_lcmp hX dL_spread_300 ?_
        refine xm_if_lt hX (tgt := 306) dL_spread_301 rfl ?_ ?_
        · refine xm_weak [1, 2, 3, 4, 5, 6, 7] (lv' := [(0, .ref (g.1 0)), (1, .int b1), (2, .int b2), (3, .int b3), (4, .int b4), (5, .int b5), (7, .int b7)]) rfl ?_
          exact tfL_spread_306 hL hX k12 h12 b1 b2 b3 b4 b5 b7 M29
        · refine xm_iconst hX (v := 0) rfl dL_spread_304 ?_
          exact xm_zretL hX (by decide) dL_spread_305
      · refine xm_lload hX 0 dL_spread_282 rfl ?_
        refine xm_iload hX 8 dL_spread_284 rfl ?_
        refine xm_i2l hX dL_spread_286 ?_
        refine xm_lcmp hX dL_spread_287 ?_
        refine xm_if_lt hX (tgt := 306) dL_spread_288 rfl ?_ ?_
        · refine xm_weak [1, 2, 3, 4, 5, 6, 7] (lv' := [(0, .ref (g.1 0)), (1, .int b1), (2, .int b2), (3, .int b3), (4, .int b4), (5, .int b5), (7, .int b7)]) rfl ?_
          exact tfL_spread_306 hL hX k12 h12 b1 b2 b3 b4 b5 b7 M29
        · refine xm_goto hX (tgt := 304) dL_spread_291 rfl ?_
          refine xm_iconst hX (v := 0) rfl dL_spread_304 ?_
          exact xm_zretL hX (by decide) dL_spread_305
    · refine xm_goto hX (tgt := 341) dL_spread_236 rfl ?_
      refine xm_weak [0, 1, 2, 3] (lv' := [(0, .ref (g.1 0)), (1, .int b1), (2, .int b2), (3, .int b3)]) rfl ?_
      exact tfL_spread_341 hL hX k12 h12 b1 b2 b3 M
def fL_spread_191  (k12 : Int32 → Int32 → Int32 → xm_M → Option (Int32 × xm_M)) (b1 : Int32) (b2 : Int32) (b3 : Int32) (b4 : Int32) (b5 : Int32) (b7 : Int32) (b8 : Int32) (b9 : Int32) (b10 : Int32) (M : xm_M) : Option (Int32 × xm_M) :=
  if b8 = 0 then xm_bi (fX3_pose b3 (0 : Int32) M) (fun x39 M38 => if b4 = (x39 + b9) then xm_bi (fX3_pose b3 (1 : Int32) M38) (fun x41 M40 => if b5 = (x41 + b10) then fL_spread_226 k12 b1 b2 b3 b4 b5 b7 b8 M40 else some ((0 : Int32), M40)) else some ((0 : Int32), M38)) else fL_spread_226 k12 b1 b2 b3 b4 b5 b7 b8 M
set_option maxRecDepth 20000 in
theorem tfL_spread_191 {p : Program} {l : Launch} {e : Env} {s : State} {m : MethodId} {args : Array Value} {below : List Frame} {meth : Method} {c : Code} {D : va_G} {g : xm_G} {A : Nat → Prop}  {L : List xm_Sh} (hL : xm_pre L) (hX : xm_X p m meth c cL_spread 13 s args wL_spread RL (some .boolean) D L g A)  (k12 : Int32 → Int32 → Int32 → xm_M → Option (Int32 × xm_M)) (h12 : ∀ (b1 : Int32), ∀ (b2 : Int32), ∀ (b3 : Int32), ∀ (M : xm_M), xm_J p l e ({ frames := 6, cells := 0, slots := 0, locals := 151 }) s m args below meth c 13 D L g A (xm_Z below args s D L g A (xm_Fi g)) 12 [(0, .ref (g.1 0)), (1, .int b1), (2, .int b2), (3, .int b3)] [] M (k12 b1 b2 b3 M)) : ∀ (b1 : Int32), ∀ (b2 : Int32), ∀ (b3 : Int32), ∀ (b4 : Int32), ∀ (b5 : Int32), ∀ (b7 : Int32), ∀ (b8 : Int32), ∀ (b9 : Int32), ∀ (b10 : Int32), ∀ (M : xm_M), xm_J p l e ({ frames := 6, cells := 0, slots := 0, locals := 151 }) s m args below meth c 13 D L g A (xm_Z below args s D L g A (xm_Fi g)) 191 [(0, .ref (g.1 0)), (1, .int b1), (2, .int b2), (3, .int b3), (4, .int b4), (5, .int b5), (7, .int b7), (8, .int b8), (9, .int b9), (10, .int b10)] [] M (fL_spread_191 k12 b1 b2 b3 b4 b5 b7 b8 b9 b10 M) := by
  intro b1 b2 b3 b4 b5 b7 b8 b9 b10 M
  unfold fL_spread_191
  refine xm_iload hX 7 dL_spread_191 rfl ?_
  refine xm_if_ne hX (tgt := 226) dL_spread_193 rfl ?_ ?_
  · refine xm_weak [0, 1, 2, 3, 4, 5, 6, 7] (lv' := [(0, .ref (g.1 0)), (1, .int b1), (2, .int b2), (3, .int b3), (4, .int b4), (5, .int b5), (7, .int b7), (8, .int b8)]) rfl ?_
    exact tfL_spread_226 hL hX k12 h12 b1 b2 b3 b4 b5 b7 b8 M
  · refine xm_iload hX 4 dL_spread_196 rfl ?_
    refine xm_aload_n hX 0 dL_spread_198 rfl rfl ?_
    refine xm_iload_n hX 3 dL_spread_199 rfl rfl ?_
    refine xm_iconst hX (v := 0) rfl dL_spread_200 ?_
    refine xm_calli hX (xm_runV hX (k := 0) (ci := 3) (As := (fun g => [.int b3, .int (0 : Int32)])) (kX3_pose hL b3 (0 : Int32) M) (hL _ _ cL_0) rfl (xm_gV gm_283 gm_284 gm_285 gm_1 gm_286) rfl ⟨rfl, rfl⟩ ⟨rfl, hdX3_pose⟩ ⟨Nat.le_of_ble_eq_true rfl, Nat.le_of_ble_eq_true rfl⟩ rfl (Nat.le_of_ble_eq_true rfl) rfl ⟨Nat.le_of_ble_eq_true rfl, Nat.le_of_ble_eq_true rfl⟩ dL_spread_201) (fun x39 M38 => ?_)
    refine xm_iload hX 8 dL_spread_204 rfl ?_
    refine xm_iadd hX dL_spread_206 ?_
    refine xm_icmp_ne hX (tgt := 224) dL_spread_207 rfl ?_ ?_
    · refine xm_iconst hX (v := 0) rfl dL_spread_224 ?_
      exact xm_zretL hX (by decide) dL_spread_225
    · refine xm_iload hX 5 dL_spread_210 rfl ?_
      refine xm_aload_n hX 0 dL_spread_212 rfl rfl ?_
      refine xm_iload_n hX 3 dL_spread_213 rfl rfl ?_
      refine xm_iconst hX (v := 1) rfl dL_spread_214 ?_
      refine xm_calli hX (xm_runV hX (k := 0) (ci := 3) (As := (fun g => [.int b3, .int (1 : Int32)])) (kX3_pose hL b3 (1 : Int32) M38) (hL _ _ cL_0) rfl (xm_gV gm_283 gm_284 gm_285 gm_1 gm_286) rfl ⟨rfl, rfl⟩ ⟨rfl, hdX3_pose⟩ ⟨Nat.le_of_ble_eq_true rfl, Nat.le_of_ble_eq_true rfl⟩ rfl (Nat.le_of_ble_eq_true rfl) rfl ⟨Nat.le_of_ble_eq_true rfl, Nat.le_of_ble_eq_true rfl⟩ dL_spread_215) (fun x41 M40 => ?_)
      refine xm_iload hX 9 dL_spread_218 rfl ?_
      refine xm_iadd hX dL_spread_220 ?_
      refine xm_icmp_eq hX (tgt := 226) dL_spread_221 rfl ?_ ?_
      · refine xm_weak [0, 1, 2, 3, 4, 5, 6, 7] (lv' := [(0, .ref (g.1 0)), (1, .int b1), (2, .int b2), (3, .int b3), (4, .int b4), (5, .int b5), (7, .int b7), (8, .int b8)]) rfl ?_
        exact tfL_spread_226 hL hX k12 h12 b1 b2 b3 b4 b5 b7 b8 M40
      · refine xm_iconst hX (v := 0) rfl dL_spread_224 ?_
        exact xm_zretL hX (by decide) dL_spread_225
def fL_spread_155  (k12 : Int32 → Int32 → Int32 → xm_M → Option (Int32 × xm_M)) (b1 : Int32) (b2 : Int32) (b3 : Int32) (b4 : Int32) (b5 : Int32) (b7 : Int32) (b8 : Int32) (b9 : Int32) (s0 : Int32) (M : xm_M) : Option (Int32 × xm_M) :=
  if b2 = b3 then if b8 ≤ 0 then fL_spread_191 k12 b1 b2 b3 b4 b5 b7 b8 b9 s0 M else xm_bi (fX3_pose b3 (0 : Int32) M) (fun x43 M42 => if b4 = x43 then xm_bi (fX3_pose b3 (1 : Int32) M42) (fun x45 M44 => if b5 = x45 then fL_spread_191 k12 b1 b2 b3 b4 b5 b7 b8 b9 s0 M44 else some ((0 : Int32), M44)) else some ((0 : Int32), M42)) else fL_spread_191 k12 b1 b2 b3 b4 b5 b7 b8 b9 s0 M
set_option maxRecDepth 20000 in
theorem tfL_spread_155 {p : Program} {l : Launch} {e : Env} {s : State} {m : MethodId} {args : Array Value} {below : List Frame} {meth : Method} {c : Code} {D : va_G} {g : xm_G} {A : Nat → Prop}  {L : List xm_Sh} (hL : xm_pre L) (hX : xm_X p m meth c cL_spread 13 s args wL_spread RL (some .boolean) D L g A)  (k12 : Int32 → Int32 → Int32 → xm_M → Option (Int32 × xm_M)) (h12 : ∀ (b1 : Int32), ∀ (b2 : Int32), ∀ (b3 : Int32), ∀ (M : xm_M), xm_J p l e ({ frames := 6, cells := 0, slots := 0, locals := 151 }) s m args below meth c 13 D L g A (xm_Z below args s D L g A (xm_Fi g)) 12 [(0, .ref (g.1 0)), (1, .int b1), (2, .int b2), (3, .int b3)] [] M (k12 b1 b2 b3 M)) : ∀ (b1 : Int32), ∀ (b2 : Int32), ∀ (b3 : Int32), ∀ (b4 : Int32), ∀ (b5 : Int32), ∀ (b7 : Int32), ∀ (b8 : Int32), ∀ (b9 : Int32), ∀ (s0 : Int32), ∀ (M : xm_M), xm_J p l e ({ frames := 6, cells := 0, slots := 0, locals := 151 }) s m args below meth c 13 D L g A (xm_Z below args s D L g A (xm_Fi g)) 155 [(0, .ref (g.1 0)), (1, .int b1), (2, .int b2), (3, .int b3), (4, .int b4), (5, .int b5), (7, .int b7), (8, .int b8), (9, .int b9)] [.int s0] M (fL_spread_155 k12 b1 b2 b3 b4 b5 b7 b8 b9 s0 M) := by
  intro b1 b2 b3 b4 b5 b7 b8 b9 s0 M
  unfold fL_spread_155
  refine xm_istore hX (lv' := [(10, .int s0), (0, .ref (g.1 0)), (1, .int b1), (2, .int b2), (3, .int b3), (4, .int b4), (5, .int b5), (7, .int b7), (8, .int b8), (9, .int b9)]) dL_spread_155 (by decide) rfl ?_
  refine xm_iload_n hX 3 dL_spread_157 rfl rfl ?_
  refine xm_iload_n hX 4 dL_spread_158 rfl rfl ?_
  refine xm_icmp_ne hX (tgt := 191) dL_spread_159 rfl ?_ ?_
  · refine xm_weak [1, 2, 3, 4, 5, 6, 7, 8, 9, 0] (lv' := [(0, .ref (g.1 0)), (1, .int b1), (2, .int b2), (3, .int b3), (4, .int b4), (5, .int b5), (7, .int b7), (8, .int b8), (9, .int b9), (10, .int s0)]) rfl ?_
    exact tfL_spread_191 hL hX k12 h12 b1 b2 b3 b4 b5 b7 b8 b9 s0 M
  · refine xm_iload hX 8 dL_spread_162 rfl ?_
    refine xm_if_le hX (tgt := 191) dL_spread_164 rfl ?_ ?_
    · refine xm_weak [1, 2, 3, 4, 5, 6, 7, 8, 9, 0] (lv' := [(0, .ref (g.1 0)), (1, .int b1), (2, .int b2), (3, .int b3), (4, .int b4), (5, .int b5), (7, .int b7), (8, .int b8), (9, .int b9), (10, .int s0)]) rfl ?_
      exact tfL_spread_191 hL hX k12 h12 b1 b2 b3 b4 b5 b7 b8 b9 s0 M
    · refine xm_iload hX 5 dL_spread_167 rfl ?_
      refine xm_aload_n hX 1 dL_spread_169 rfl rfl ?_
      refine xm_iload_n hX 4 dL_spread_170 rfl rfl ?_
      refine xm_iconst hX (v := 0) rfl dL_spread_171 ?_
      refine xm_calli hX (xm_runV hX (k := 0) (ci := 3) (As := (fun g => [.int b3, .int (0 : Int32)])) (kX3_pose hL b3 (0 : Int32) M) (hL _ _ cL_0) rfl (xm_gV gm_283 gm_284 gm_285 gm_1 gm_286) rfl ⟨rfl, rfl⟩ ⟨rfl, hdX3_pose⟩ ⟨Nat.le_of_ble_eq_true rfl, Nat.le_of_ble_eq_true rfl⟩ rfl (Nat.le_of_ble_eq_true rfl) rfl ⟨Nat.le_of_ble_eq_true rfl, Nat.le_of_ble_eq_true rfl⟩ dL_spread_172) (fun x43 M42 => ?_)
      refine xm_icmp_ne hX (tgt := 189) dL_spread_175 rfl ?_ ?_
      · refine xm_iconst hX (v := 0) rfl dL_spread_189 ?_
        exact xm_zretL hX (by decide) dL_spread_190
      · refine xm_iload hX 6 dL_spread_178 rfl ?_
        refine xm_aload_n hX 1 dL_spread_180 rfl rfl ?_
        refine xm_iload_n hX 4 dL_spread_181 rfl rfl ?_
        refine xm_iconst hX (v := 1) rfl dL_spread_182 ?_
        refine xm_calli hX (xm_runV hX (k := 0) (ci := 3) (As := (fun g => [.int b3, .int (1 : Int32)])) (kX3_pose hL b3 (1 : Int32) M42) (hL _ _ cL_0) rfl (xm_gV gm_283 gm_284 gm_285 gm_1 gm_286) rfl ⟨rfl, rfl⟩ ⟨rfl, hdX3_pose⟩ ⟨Nat.le_of_ble_eq_true rfl, Nat.le_of_ble_eq_true rfl⟩ rfl (Nat.le_of_ble_eq_true rfl) rfl ⟨Nat.le_of_ble_eq_true rfl, Nat.le_of_ble_eq_true rfl⟩ dL_spread_183) (fun x45 M44 => ?_)
        refine xm_icmp_eq hX (tgt := 191) dL_spread_186 rfl ?_ ?_
        · refine xm_weak [1, 2, 3, 4, 5, 6, 7, 8, 9, 0] (lv' := [(0, .ref (g.1 0)), (1, .int b1), (2, .int b2), (3, .int b3), (4, .int b4), (5, .int b5), (7, .int b7), (8, .int b8), (9, .int b9), (10, .int s0)]) rfl ?_
          exact tfL_spread_191 hL hX k12 h12 b1 b2 b3 b4 b5 b7 b8 b9 s0 M44
        · refine xm_iconst hX (v := 0) rfl dL_spread_189 ?_
          exact xm_zretL hX (by decide) dL_spread_190
def fL_spread_137  (k12 : Int32 → Int32 → Int32 → xm_M → Option (Int32 × xm_M)) (b1 : Int32) (b2 : Int32) (b3 : Int32) (b4 : Int32) (b5 : Int32) (b7 : Int32) (b8 : Int32) (s0 : Int32) (M : xm_M) : Option (Int32 × xm_M) :=
  if b2 = b3 then xm_bi (fX3_about b3 (10 : Int32) M) (fun x47 M46 => fL_spread_155 k12 b1 b2 b3 b4 b5 b7 b8 s0 x47 M46) else fL_spread_155 k12 b1 b2 b3 b4 b5 b7 b8 s0 (0 : Int32) M
set_option maxRecDepth 20000 in
theorem tfL_spread_137 {p : Program} {l : Launch} {e : Env} {s : State} {m : MethodId} {args : Array Value} {below : List Frame} {meth : Method} {c : Code} {D : va_G} {g : xm_G} {A : Nat → Prop}  {L : List xm_Sh} (hL : xm_pre L) (hX : xm_X p m meth c cL_spread 13 s args wL_spread RL (some .boolean) D L g A)  (k12 : Int32 → Int32 → Int32 → xm_M → Option (Int32 × xm_M)) (h12 : ∀ (b1 : Int32), ∀ (b2 : Int32), ∀ (b3 : Int32), ∀ (M : xm_M), xm_J p l e ({ frames := 6, cells := 0, slots := 0, locals := 151 }) s m args below meth c 13 D L g A (xm_Z below args s D L g A (xm_Fi g)) 12 [(0, .ref (g.1 0)), (1, .int b1), (2, .int b2), (3, .int b3)] [] M (k12 b1 b2 b3 M)) : ∀ (b1 : Int32), ∀ (b2 : Int32), ∀ (b3 : Int32), ∀ (b4 : Int32), ∀ (b5 : Int32), ∀ (b7 : Int32), ∀ (b8 : Int32), ∀ (s0 : Int32), ∀ (M : xm_M), xm_J p l e ({ frames := 6, cells := 0, slots := 0, locals := 151 }) s m args below meth c 13 D L g A (xm_Z below args s D L g A (xm_Fi g)) 137 [(0, .ref (g.1 0)), (1, .int b1), (2, .int b2), (3, .int b3), (4, .int b4), (5, .int b5), (7, .int b7), (8, .int b8)] [.int s0] M (fL_spread_137 k12 b1 b2 b3 b4 b5 b7 b8 s0 M) := by
  intro b1 b2 b3 b4 b5 b7 b8 s0 M
  unfold fL_spread_137
  refine xm_istore hX (lv' := [(9, .int s0), (0, .ref (g.1 0)), (1, .int b1), (2, .int b2), (3, .int b3), (4, .int b4), (5, .int b5), (7, .int b7), (8, .int b8)]) dL_spread_137 (by decide) rfl ?_
  refine xm_iload_n hX 3 dL_spread_139 rfl rfl ?_
  refine xm_iload_n hX 4 dL_spread_140 rfl rfl ?_
  refine xm_icmp_ne hX (tgt := 154) dL_spread_141 rfl ?_ ?_
  · refine xm_iconst hX (v := 0) rfl dL_spread_154 ?_
    refine xm_weak [1, 2, 3, 4, 5, 6, 7, 8, 0] (lv' := [(0, .ref (g.1 0)), (1, .int b1), (2, .int b2), (3, .int b3), (4, .int b4), (5, .int b5), (7, .int b7), (8, .int b8), (9, .int s0)]) rfl ?_
    exact tfL_spread_155 hL hX k12 h12 b1 b2 b3 b4 b5 b7 b8 s0 (0 : Int32) M
  · refine xm_aload_n hX 1 dL_spread_144 rfl rfl ?_
    refine xm_iload_n hX 4 dL_spread_145 rfl rfl ?_
    refine xm_bipush hX (v := 10) rfl dL_spread_146 ?_
    refine xm_calli hX (xm_runV hX (k := 0) (ci := 3) (As := (fun g => [.int b3, .int (10 : Int32)])) (kX3_about hL b3 (10 : Int32) M) (hL _ _ cL_0) rfl (xm_gV gm_312 gm_313 gm_314 gm_1 gm_315) rfl ⟨rfl, rfl⟩ ⟨rfl, hdX3_about⟩ ⟨Nat.le_of_ble_eq_true rfl, Nat.le_of_ble_eq_true rfl⟩ rfl (Nat.le_of_ble_eq_true rfl) rfl ⟨Nat.le_of_ble_eq_true rfl, Nat.le_of_ble_eq_true rfl⟩ dL_spread_148) (fun x47 M46 => ?_)
    refine xm_goto hX (tgt := 155) dL_spread_151 rfl ?_
    refine xm_weak [1, 2, 3, 4, 5, 6, 7, 8, 0] (lv' := [(0, .ref (g.1 0)), (1, .int b1), (2, .int b2), (3, .int b3), (4, .int b4), (5, .int b5), (7, .int b7), (8, .int b8), (9, .int s0)]) rfl ?_
    exact tfL_spread_155 hL hX k12 h12 b1 b2 b3 b4 b5 b7 b8 s0 x47 M46
def fL_spread_101  (k12 : Int32 → Int32 → Int32 → xm_M → Option (Int32 × xm_M)) (b1 : Int32) (b2 : Int32) (b3 : Int32) (b4 : Int32) (b5 : Int32) (b6 : Int32) (M : xm_M) : Option (Int32 × xm_M) :=
  xm_bi (fX3_pose b6 (3 : Int32) M) (fun x20 M19 => xm_bi (fX3_pose b2 (3 : Int32) M19) (fun x22 M21 => xm_lt (x22 - x20) (fun x23 => if b2 = b3 then xm_bi (fX3_about b3 (9 : Int32) M21) (fun x49 M48 => fL_spread_137 k12 b1 b2 b3 b4 b5 x20 x23 x49 M48) else fL_spread_137 k12 b1 b2 b3 b4 b5 x20 x23 (0 : Int32) M21)))
set_option maxRecDepth 20000 in
theorem tfL_spread_101 {p : Program} {l : Launch} {e : Env} {s : State} {m : MethodId} {args : Array Value} {below : List Frame} {meth : Method} {c : Code} {D : va_G} {g : xm_G} {A : Nat → Prop}  {L : List xm_Sh} (hL : xm_pre L) (hX : xm_X p m meth c cL_spread 13 s args wL_spread RL (some .boolean) D L g A)  (k12 : Int32 → Int32 → Int32 → xm_M → Option (Int32 × xm_M)) (h12 : ∀ (b1 : Int32), ∀ (b2 : Int32), ∀ (b3 : Int32), ∀ (M : xm_M), xm_J p l e ({ frames := 6, cells := 0, slots := 0, locals := 151 }) s m args below meth c 13 D L g A (xm_Z below args s D L g A (xm_Fi g)) 12 [(0, .ref (g.1 0)), (1, .int b1), (2, .int b2), (3, .int b3)] [] M (k12 b1 b2 b3 M)) : ∀ (b1 : Int32), ∀ (b2 : Int32), ∀ (b3 : Int32), ∀ (b4 : Int32), ∀ (b5 : Int32), ∀ (b6 : Int32), ∀ (M : xm_M), xm_J p l e ({ frames := 6, cells := 0, slots := 0, locals := 151 }) s m args below meth c 13 D L g A (xm_Z below args s D L g A (xm_Fi g)) 101 [(0, .ref (g.1 0)), (1, .int b1), (2, .int b2), (3, .int b3), (4, .int b4), (5, .int b5), (6, .int b6)] [] M (fL_spread_101 k12 b1 b2 b3 b4 b5 b6 M) := by
  intro b1 b2 b3 b4 b5 b6 M
  unfold fL_spread_101
  refine xm_aload_n hX 0 dL_spread_101 rfl rfl ?_
  refine xm_iload hX 6 dL_spread_102 rfl ?_
  refine xm_iconst hX (v := 3) rfl dL_spread_104 ?_
  refine xm_calli hX (xm_runV hX (k := 0) (ci := 3) (As := (fun g => [.int b6, .int (3 : Int32)])) (kX3_pose hL b6 (3 : Int32) M) (hL _ _ cL_0) rfl (xm_gV gm_283 gm_284 gm_285 gm_1 gm_286) rfl ⟨rfl, rfl⟩ ⟨rfl, hdX3_pose⟩ ⟨Nat.le_of_ble_eq_true rfl, Nat.le_of_ble_eq_true rfl⟩ rfl (Nat.le_of_ble_eq_true rfl) rfl ⟨Nat.le_of_ble_eq_true rfl, Nat.le_of_ble_eq_true rfl⟩ dL_spread_105) (fun x20 M19 => ?_)
  refine xm_istore hX (lv' := [(7, .int x20), (0, .ref (g.1 0)), (1, .int b1), (2, .int b2), (3, .int b3), (4, .int b4), (5, .int b5), (6, .int b6)]) dL_spread_108 (by decide) rfl ?_
  refine xm_aload_n hX 1 dL_spread_110 rfl rfl ?_
  refine xm_iload_n hX 3 dL_spread_111 rfl rfl ?_
  refine xm_iconst hX (v := 3) rfl dL_spread_112 ?_
  refine xm_calli hX (xm_runV hX (k := 0) (ci := 3) (As := (fun g => [.int b2, .int (3 : Int32)])) (kX3_pose hL b2 (3 : Int32) M19) (hL _ _ cL_0) rfl (xm_gV gm_283 gm_284 gm_285 gm_1 gm_286) rfl ⟨rfl, rfl⟩ ⟨rfl, hdX3_pose⟩ ⟨Nat.le_of_ble_eq_true rfl, Nat.le_of_ble_eq_true rfl⟩ rfl (Nat.le_of_ble_eq_true rfl) rfl ⟨Nat.le_of_ble_eq_true rfl, Nat.le_of_ble_eq_true rfl⟩ dL_spread_113) (fun x22 M21 => ?_)
  refine xm_iload hX 0 dL_spread_116 rfl ?_
  refine xm_isub hX dL_spread_118 ?_
  refine xm_nmi (fun x23 => ?_)
  refine xm_istore hX (lv' := [(8, .int x23), (7, .int x20), (0, .ref (g.1 0)), (1, .int b1), (2, .int b2), (3, .int b3), (4, .int b4), (5, .int b5), (6, .int b6)]) dL_spread_119 (by decide) rfl ?_
  refine xm_iload_n hX 4 dL_spread_121 rfl rfl ?_
  refine xm_iload_n hX 5 dL_spread_122 rfl rfl ?_
  refine xm_icmp_ne hX (tgt := 136) dL_spread_123 rfl ?_ ?_
  · refine xm_iconst hX (v := 0) rfl dL_spread_136 ?_
    refine xm_weak [2, 3, 4, 5, 6, 7, 1, 0] (lv' := [(0, .ref (g.1 0)), (1, .int b1), (2, .int b2), (3, .int b3), (4, .int b4), (5, .int b5), (7, .int x20), (8, .int x23)]) rfl ?_
    exact tfL_spread_137 hL hX k12 h12 b1 b2 b3 b4 b5 x20 x23 (0 : Int32) M21
  · refine xm_aload_n hX 2 dL_spread_126 rfl rfl ?_
    refine xm_iload_n hX 5 dL_spread_127 rfl rfl ?_
    refine xm_bipush hX (v := 9) rfl dL_spread_128 ?_
    refine xm_calli hX (xm_runV hX (k := 0) (ci := 3) (As := (fun g => [.int b3, .int (9 : Int32)])) (kX3_about hL b3 (9 : Int32) M21) (hL _ _ cL_0) rfl (xm_gV gm_312 gm_313 gm_314 gm_1 gm_315) rfl ⟨rfl, rfl⟩ ⟨rfl, hdX3_about⟩ ⟨Nat.le_of_ble_eq_true rfl, Nat.le_of_ble_eq_true rfl⟩ rfl (Nat.le_of_ble_eq_true rfl) rfl ⟨Nat.le_of_ble_eq_true rfl, Nat.le_of_ble_eq_true rfl⟩ dL_spread_130) (fun x49 M48 => ?_)
    refine xm_goto hX (tgt := 137) dL_spread_133 rfl ?_
    refine xm_weak [2, 3, 4, 5, 6, 7, 1, 0] (lv' := [(0, .ref (g.1 0)), (1, .int b1), (2, .int b2), (3, .int b3), (4, .int b4), (5, .int b5), (7, .int x20), (8, .int x23)]) rfl ?_
    exact tfL_spread_137 hL hX k12 h12 b1 b2 b3 b4 b5 x20 x23 x49 M48
def fL_spread_79  (k12 : Int32 → Int32 → Int32 → xm_M → Option (Int32 × xm_M)) (k79 : Int32 → Int32 → Int32 → Int32 → Int32 → Int32 → xm_M → Option (Int32 × xm_M)) (b1 : Int32) (b2 : Int32) (b3 : Int32) (b4 : Int32) (b5 : Int32) (b6 : Int32) (M : xm_M) : Option (Int32 × xm_M) :=
  if b6 < 0 then fL_spread_101 k12 b1 b2 b3 b4 b5 b6 M else xm_bi (fX3_about b6 (0 : Int32) M) (fun x51 M50 => if x51 = (4 : Int32) then fL_spread_101 k12 b1 b2 b3 b4 b5 b6 M50 else xm_lt (b6 + Int32.ofInt (-1)) (fun x52 => k79 b1 b2 b3 b4 b5 x52 M50))
set_option maxRecDepth 20000 in
theorem tfL_spread_79 {p : Program} {l : Launch} {e : Env} {s : State} {m : MethodId} {args : Array Value} {below : List Frame} {meth : Method} {c : Code} {D : va_G} {g : xm_G} {A : Nat → Prop}  {L : List xm_Sh} (hL : xm_pre L) (hX : xm_X p m meth c cL_spread 13 s args wL_spread RL (some .boolean) D L g A)  (k12 : Int32 → Int32 → Int32 → xm_M → Option (Int32 × xm_M)) (k79 : Int32 → Int32 → Int32 → Int32 → Int32 → Int32 → xm_M → Option (Int32 × xm_M)) (h12 : ∀ (b1 : Int32), ∀ (b2 : Int32), ∀ (b3 : Int32), ∀ (M : xm_M), xm_J p l e ({ frames := 6, cells := 0, slots := 0, locals := 151 }) s m args below meth c 13 D L g A (xm_Z below args s D L g A (xm_Fi g)) 12 [(0, .ref (g.1 0)), (1, .int b1), (2, .int b2), (3, .int b3)] [] M (k12 b1 b2 b3 M)) (h79 : ∀ (b1 : Int32), ∀ (b2 : Int32), ∀ (b3 : Int32), ∀ (b4 : Int32), ∀ (b5 : Int32), ∀ (b6 : Int32), ∀ (M : xm_M), xm_J p l e ({ frames := 6, cells := 0, slots := 0, locals := 151 }) s m args below meth c 13 D L g A (xm_Z below args s D L g A (xm_Fi g)) 79 [(0, .ref (g.1 0)), (1, .int b1), (2, .int b2), (3, .int b3), (4, .int b4), (5, .int b5), (6, .int b6)] [] M (k79 b1 b2 b3 b4 b5 b6 M)) : ∀ (b1 : Int32), ∀ (b2 : Int32), ∀ (b3 : Int32), ∀ (b4 : Int32), ∀ (b5 : Int32), ∀ (b6 : Int32), ∀ (M : xm_M), xm_J p l e ({ frames := 6, cells := 0, slots := 0, locals := 151 }) s m args below meth c 13 D L g A (xm_Z below args s D L g A (xm_Fi g)) 79 [(0, .ref (g.1 0)), (1, .int b1), (2, .int b2), (3, .int b3), (4, .int b4), (5, .int b5), (6, .int b6)] [] M (fL_spread_79 k12 k79 b1 b2 b3 b4 b5 b6 M) := by
  intro b1 b2 b3 b4 b5 b6 M
  unfold fL_spread_79
  refine xm_iload hX 6 dL_spread_79 rfl ?_
  refine xm_if_lt hX (tgt := 101) dL_spread_81 rfl ?_ ?_
  · exact tfL_spread_101 hL hX k12 h12 b1 b2 b3 b4 b5 b6 M
  · refine xm_aload_n hX 0 dL_spread_84 rfl rfl ?_
    refine xm_iload hX 6 dL_spread_85 rfl ?_
    refine xm_iconst hX (v := 0) rfl dL_spread_87 ?_
    refine xm_calli hX (xm_runV hX (k := 0) (ci := 3) (As := (fun g => [.int b6, .int (0 : Int32)])) (kX3_about hL b6 (0 : Int32) M) (hL _ _ cL_0) rfl (xm_gV gm_312 gm_313 gm_314 gm_1 gm_315) rfl ⟨rfl, rfl⟩ ⟨rfl, hdX3_about⟩ ⟨Nat.le_of_ble_eq_true rfl, Nat.le_of_ble_eq_true rfl⟩ rfl (Nat.le_of_ble_eq_true rfl) rfl ⟨Nat.le_of_ble_eq_true rfl, Nat.le_of_ble_eq_true rfl⟩ dL_spread_88) (fun x51 M50 => ?_)
    refine xm_iconst hX (v := 4) rfl dL_spread_91 ?_
    refine xm_icmp_eq hX (tgt := 101) dL_spread_92 rfl ?_ ?_
    · exact tfL_spread_101 hL hX k12 h12 b1 b2 b3 b4 b5 b6 M50
    · refine xm_iinc hX (lv2 := fun x52 => [(6, .int x52), (0, .ref (g.1 0)), (1, .int b1), (2, .int b2), (3, .int b3), (4, .int b4), (5, .int b5)]) 6 dL_spread_95 rfl (by decide) (fun _ => rfl) (fun x52 => ?_)
      refine xm_goto hX (tgt := 79) dL_spread_98 rfl ?_
      refine xm_weak [1, 2, 3, 4, 5, 6, 0] (lv' := [(0, .ref (g.1 0)), (1, .int b1), (2, .int b2), (3, .int b3), (4, .int b4), (5, .int b5), (6, .int x52)]) rfl ?_
      exact h79 b1 b2 b3 b4 b5 x52 M50
def fL_spread_79_it  (k12 : Int32 → Int32 → Int32 → xm_M → Option (Int32 × xm_M)) (nq : Nat) : Int32 → Int32 → Int32 → Int32 → Int32 → Int32 → xm_M → Option (Int32 × xm_M) := xm_it (fun kq => fL_spread_79 k12 kq) (fun _ _ _ _ _ _ _ => none) nq
theorem tfL_spread_79_it {p : Program} {l : Launch} {e : Env} {s : State} {m : MethodId} {args : Array Value} {below : List Frame} {meth : Method} {c : Code} {D : va_G} {g : xm_G} {A : Nat → Prop}  {L : List xm_Sh} (hL : xm_pre L) (hX : xm_X p m meth c cL_spread 13 s args wL_spread RL (some .boolean) D L g A)  (k12 : Int32 → Int32 → Int32 → xm_M → Option (Int32 × xm_M)) (h12 : ∀ (b1 : Int32), ∀ (b2 : Int32), ∀ (b3 : Int32), ∀ (M : xm_M), xm_J p l e ({ frames := 6, cells := 0, slots := 0, locals := 151 }) s m args below meth c 13 D L g A (xm_Z below args s D L g A (xm_Fi g)) 12 [(0, .ref (g.1 0)), (1, .int b1), (2, .int b2), (3, .int b3)] [] M (k12 b1 b2 b3 M)) : ∀ (nq : Nat), ∀ (b1 : Int32), ∀ (b2 : Int32), ∀ (b3 : Int32), ∀ (b4 : Int32), ∀ (b5 : Int32), ∀ (b6 : Int32), ∀ (M : xm_M), xm_J p l e ({ frames := 6, cells := 0, slots := 0, locals := 151 }) s m args below meth c 13 D L g A (xm_Z below args s D L g A (xm_Fi g)) 79 [(0, .ref (g.1 0)), (1, .int b1), (2, .int b2), (3, .int b3), (4, .int b4), (5, .int b5), (6, .int b6)] [] M (fL_spread_79_it k12 nq b1 b2 b3 b4 b5 b6 M) := by
  intro nq
  induction nq with
  | zero => exact fun _ _ _ _ _ _ _ => xm_none
  | succ nq ih => exact tfL_spread_79 hL hX k12 _ h12 ih
def fL_spread_28  (k12 : Int32 → Int32 → Int32 → xm_M → Option (Int32 × xm_M)) (b1 : Int32) (b2 : Int32) (b3 : Int32) (M : xm_M) : Option (Int32 × xm_M) :=
  xm_bi (fX3_pose b3 (5 : Int32) M) (fun x15 M14 => xm_bi (fX3_pose b3 (6 : Int32) M14) (fun x17 M16 => if b2 = b1 then xm_bi (fX3_pose b3 (0 : Int32) M16) (fun x54 M53 => if x15 = x54 then xm_bi (fX3_pose b3 (1 : Int32) M53) (fun x56 M55 => if x17 = x56 then fL_spread_341 k12 b1 b2 b3 M55 else some ((0 : Int32), M55)) else some ((0 : Int32), M53)) else xm_lt (b3 - (1 : Int32)) (fun x18 => fL_spread_79_it k12 xm_N b1 b2 b3 x15 x17 x18 M16)))
set_option maxRecDepth 20000 in
theorem tfL_spread_28 {p : Program} {l : Launch} {e : Env} {s : State} {m : MethodId} {args : Array Value} {below : List Frame} {meth : Method} {c : Code} {D : va_G} {g : xm_G} {A : Nat → Prop}  {L : List xm_Sh} (hL : xm_pre L) (hX : xm_X p m meth c cL_spread 13 s args wL_spread RL (some .boolean) D L g A)  (k12 : Int32 → Int32 → Int32 → xm_M → Option (Int32 × xm_M)) (h12 : ∀ (b1 : Int32), ∀ (b2 : Int32), ∀ (b3 : Int32), ∀ (M : xm_M), xm_J p l e ({ frames := 6, cells := 0, slots := 0, locals := 151 }) s m args below meth c 13 D L g A (xm_Z below args s D L g A (xm_Fi g)) 12 [(0, .ref (g.1 0)), (1, .int b1), (2, .int b2), (3, .int b3)] [] M (k12 b1 b2 b3 M)) : ∀ (b1 : Int32), ∀ (b2 : Int32), ∀ (b3 : Int32), ∀ (M : xm_M), xm_J p l e ({ frames := 6, cells := 0, slots := 0, locals := 151 }) s m args below meth c 13 D L g A (xm_Z below args s D L g A (xm_Fi g)) 28 [(0, .ref (g.1 0)), (1, .int b1), (2, .int b2), (3, .int b3)] [] M (fL_spread_28 k12 b1 b2 b3 M) := by
  intro b1 b2 b3 M
  unfold fL_spread_28
  refine xm_aload_n hX 0 dL_spread_28 rfl rfl ?_
  refine xm_iload_n hX 3 dL_spread_29 rfl rfl ?_
  refine xm_iconst hX (v := 5) rfl dL_spread_30 ?_
  refine xm_calli hX (xm_runV hX (k := 0) (ci := 3) (As := (fun g => [.int b3, .int (5 : Int32)])) (kX3_pose hL b3 (5 : Int32) M) (hL _ _ cL_0) rfl (xm_gV gm_283 gm_284 gm_285 gm_1 gm_286) rfl ⟨rfl, rfl⟩ ⟨rfl, hdX3_pose⟩ ⟨Nat.le_of_ble_eq_true rfl, Nat.le_of_ble_eq_true rfl⟩ rfl (Nat.le_of_ble_eq_true rfl) rfl ⟨Nat.le_of_ble_eq_true rfl, Nat.le_of_ble_eq_true rfl⟩ dL_spread_31) (fun x15 M14 => ?_)
  refine xm_istore hX (lv' := [(4, .int x15), (0, .ref (g.1 0)), (1, .int b1), (2, .int b2), (3, .int b3)]) dL_spread_34 (by decide) rfl ?_
  refine xm_aload_n hX 1 dL_spread_36 rfl rfl ?_
  refine xm_iload_n hX 4 dL_spread_37 rfl rfl ?_
  refine xm_bipush hX (v := 6) rfl dL_spread_38 ?_
  refine xm_calli hX (xm_runV hX (k := 0) (ci := 3) (As := (fun g => [.int b3, .int (6 : Int32)])) (kX3_pose hL b3 (6 : Int32) M14) (hL _ _ cL_0) rfl (xm_gV gm_283 gm_284 gm_285 gm_1 gm_286) rfl ⟨rfl, rfl⟩ ⟨rfl, hdX3_pose⟩ ⟨Nat.le_of_ble_eq_true rfl, Nat.le_of_ble_eq_true rfl⟩ rfl (Nat.le_of_ble_eq_true rfl) rfl ⟨Nat.le_of_ble_eq_true rfl, Nat.le_of_ble_eq_true rfl⟩ dL_spread_40) (fun x17 M16 => ?_)
  refine xm_istore hX (lv' := [(5, .int x17), (4, .int x15), (0, .ref (g.1 0)), (1, .int b1), (2, .int b2), (3, .int b3)]) dL_spread_43 (by decide) rfl ?_
  refine xm_iload_n hX 4 dL_spread_45 rfl rfl ?_
  refine xm_iload_n hX 3 dL_spread_46 rfl rfl ?_
  refine xm_icmp_ne hX (tgt := 74) dL_spread_47 rfl ?_ ?_
  · refine xm_iload_n hX 5 dL_spread_74 rfl rfl ?_
    refine xm_iconst hX (v := 1) rfl dL_spread_75 ?_
    refine xm_isub hX dL_spread_76 ?_
    refine xm_nmi (fun x18 => ?_)
    refine xm_istore hX (lv' := [(6, .int x18), (5, .int x17), (4, .int x15), (0, .ref (g.1 0)), (1, .int b1), (2, .int b2), (3, .int b3)]) dL_spread_77 (by decide) rfl ?_
    refine xm_weak [3, 4, 5, 6, 2, 1, 0] (lv' := [(0, .ref (g.1 0)), (1, .int b1), (2, .int b2), (3, .int b3), (4, .int x15), (5, .int x17), (6, .int x18)]) rfl ?_
    exact tfL_spread_79_it hL hX k12 h12 xm_N b1 b2 b3 x15 x17 x18 M16
  · refine xm_iload hX 1 dL_spread_50 rfl ?_
    refine xm_aload_n hX 2 dL_spread_52 rfl rfl ?_
    refine xm_iload_n hX 5 dL_spread_53 rfl rfl ?_
    refine xm_iconst hX (v := 0) rfl dL_spread_54 ?_
    refine xm_calli hX (xm_runV hX (k := 0) (ci := 3) (As := (fun g => [.int b3, .int (0 : Int32)])) (kX3_pose hL b3 (0 : Int32) M16) (hL _ _ cL_0) rfl (xm_gV gm_283 gm_284 gm_285 gm_1 gm_286) rfl ⟨rfl, rfl⟩ ⟨rfl, hdX3_pose⟩ ⟨Nat.le_of_ble_eq_true rfl, Nat.le_of_ble_eq_true rfl⟩ rfl (Nat.le_of_ble_eq_true rfl) rfl ⟨Nat.le_of_ble_eq_true rfl, Nat.le_of_ble_eq_true rfl⟩ dL_spread_55) (fun x54 M53 => ?_)
    refine xm_icmp_ne hX (tgt := 72) dL_spread_58 rfl ?_ ?_
    · refine xm_iconst hX (v := 0) rfl dL_spread_72 ?_
      exact xm_zretL hX (by decide) dL_spread_73
    · refine xm_iload hX 0 dL_spread_61 rfl ?_
      refine xm_aload_n hX 2 dL_spread_63 rfl rfl ?_
      refine xm_iload_n hX 5 dL_spread_64 rfl rfl ?_
      refine xm_iconst hX (v := 1) rfl dL_spread_65 ?_
      refine xm_calli hX (xm_runV hX (k := 0) (ci := 3) (As := (fun g => [.int b3, .int (1 : Int32)])) (kX3_pose hL b3 (1 : Int32) M53) (hL _ _ cL_0) rfl (xm_gV gm_283 gm_284 gm_285 gm_1 gm_286) rfl ⟨rfl, rfl⟩ ⟨rfl, hdX3_pose⟩ ⟨Nat.le_of_ble_eq_true rfl, Nat.le_of_ble_eq_true rfl⟩ rfl (Nat.le_of_ble_eq_true rfl) rfl ⟨Nat.le_of_ble_eq_true rfl, Nat.le_of_ble_eq_true rfl⟩ dL_spread_66) (fun x56 M55 => ?_)
      refine xm_icmp_eq hX (tgt := 341) dL_spread_69 rfl ?_ ?_
      · refine xm_weak [2, 3, 4, 5] (lv' := [(0, .ref (g.1 0)), (1, .int b1), (2, .int b2), (3, .int b3)]) rfl ?_
        exact tfL_spread_341 hL hX k12 h12 b1 b2 b3 M55
      · refine xm_iconst hX (v := 0) rfl dL_spread_72 ?_
        exact xm_zretL hX (by decide) dL_spread_73
def fL_spread_12  (k12 : Int32 → Int32 → Int32 → xm_M → Option (Int32 × xm_M)) (b1 : Int32) (b2 : Int32) (b3 : Int32) (M : xm_M) : Option (Int32 × xm_M) :=
  if b3 < 0 then xm_bi (fX3_pose (-1 : Int32) (5 : Int32) M) (fun x5 M4 => xm_bi (fX3_pose (-1 : Int32) (0 : Int32) M4) (fun x7 M6 => if x5 = x7 then xm_bi (fX3_pose (-1 : Int32) (6 : Int32) M6) (fun x9 M8 => xm_bi (fX3_pose (-1 : Int32) (1 : Int32) M8) (fun x11 M10 => if x9 = x11 then some ((1 : Int32), M10) else some ((0 : Int32), M10))) else some ((0 : Int32), M6))) else xm_bi (fX3_about b3 (0 : Int32) M) (fun x13 M12 => if x13 = (4 : Int32) then fL_spread_28 k12 b1 b3 b3 M12 else fL_spread_28 k12 b1 b2 b3 M12)
set_option maxRecDepth 20000 in
theorem tfL_spread_12 {p : Program} {l : Launch} {e : Env} {s : State} {m : MethodId} {args : Array Value} {below : List Frame} {meth : Method} {c : Code} {D : va_G} {g : xm_G} {A : Nat → Prop}  {L : List xm_Sh} (hL : xm_pre L) (hX : xm_X p m meth c cL_spread 13 s args wL_spread RL (some .boolean) D L g A)  (k12 : Int32 → Int32 → Int32 → xm_M → Option (Int32 × xm_M)) (h12 : ∀ (b1 : Int32), ∀ (b2 : Int32), ∀ (b3 : Int32), ∀ (M : xm_M), xm_J p l e ({ frames := 6, cells := 0, slots := 0, locals := 151 }) s m args below meth c 13 D L g A (xm_Z below args s D L g A (xm_Fi g)) 12 [(0, .ref (g.1 0)), (1, .int b1), (2, .int b2), (3, .int b3)] [] M (k12 b1 b2 b3 M)) : ∀ (b1 : Int32), ∀ (b2 : Int32), ∀ (b3 : Int32), ∀ (M : xm_M), xm_J p l e ({ frames := 6, cells := 0, slots := 0, locals := 151 }) s m args below meth c 13 D L g A (xm_Z below args s D L g A (xm_Fi g)) 12 [(0, .ref (g.1 0)), (1, .int b1), (2, .int b2), (3, .int b3)] [] M (fL_spread_12 k12 b1 b2 b3 M) := by
  intro b1 b2 b3 M
  unfold fL_spread_12
  refine xm_iload_n hX 3 dL_spread_12 rfl rfl ?_
  refine xm_if_lt hX (tgt := 347) dL_spread_13 rfl ?_ ?_
  · refine xm_aload_n hX 0 dL_spread_347 rfl rfl ?_
    refine xm_iconst hX (v := -1) rfl dL_spread_348 ?_
    refine xm_iconst hX (v := 5) rfl dL_spread_349 ?_
    refine xm_calli hX (xm_runV hX (k := 0) (ci := 3) (As := (fun g => [.int (-1 : Int32), .int (5 : Int32)])) (kX3_pose hL (-1 : Int32) (5 : Int32) M) (hL _ _ cL_0) rfl (xm_gV gm_283 gm_284 gm_285 gm_1 gm_286) rfl ⟨rfl, rfl⟩ ⟨rfl, hdX3_pose⟩ ⟨Nat.le_of_ble_eq_true rfl, Nat.le_of_ble_eq_true rfl⟩ rfl (Nat.le_of_ble_eq_true rfl) rfl ⟨Nat.le_of_ble_eq_true rfl, Nat.le_of_ble_eq_true rfl⟩ dL_spread_350) (fun x5 M4 => ?_)
    refine xm_aload_n hX 0 dL_spread_353 rfl rfl ?_
    refine xm_iconst hX (v := -1) rfl dL_spread_354 ?_
    refine xm_iconst hX (v := 0) rfl dL_spread_355 ?_
    refine xm_calli hX (xm_runV hX (k := 0) (ci := 3) (As := (fun g => [.int (-1 : Int32), .int (0 : Int32)])) (kX3_pose hL (-1 : Int32) (0 : Int32) M4) (hL _ _ cL_0) rfl (xm_gV gm_283 gm_284 gm_285 gm_1 gm_286) rfl ⟨rfl, rfl⟩ ⟨rfl, hdX3_pose⟩ ⟨Nat.le_of_ble_eq_true rfl, Nat.le_of_ble_eq_true rfl⟩ rfl (Nat.le_of_ble_eq_true rfl) rfl ⟨Nat.le_of_ble_eq_true rfl, Nat.le_of_ble_eq_true rfl⟩ dL_spread_356) (fun x7 M6 => ?_)
    refine xm_icmp_ne hX (tgt := 382) dL_spread_359 rfl ?_ ?_
    · refine xm_iconst hX (v := 0) rfl dL_spread_382 ?_
      exact xm_zretL hX (by decide) dL_spread_383
    · refine xm_aload_n hX 0 dL_spread_362 rfl rfl ?_
      refine xm_iconst hX (v := -1) rfl dL_spread_363 ?_
      refine xm_bipush hX (v := 6) rfl dL_spread_364 ?_
      refine xm_calli hX (xm_runV hX (k := 0) (ci := 3) (As := (fun g => [.int (-1 : Int32), .int (6 : Int32)])) (kX3_pose hL (-1 : Int32) (6 : Int32) M6) (hL _ _ cL_0) rfl (xm_gV gm_283 gm_284 gm_285 gm_1 gm_286) rfl ⟨rfl, rfl⟩ ⟨rfl, hdX3_pose⟩ ⟨Nat.le_of_ble_eq_true rfl, Nat.le_of_ble_eq_true rfl⟩ rfl (Nat.le_of_ble_eq_true rfl) rfl ⟨Nat.le_of_ble_eq_true rfl, Nat.le_of_ble_eq_true rfl⟩ dL_spread_366) (fun x9 M8 => ?_)
      refine xm_aload_n hX 0 dL_spread_369 rfl rfl ?_
      refine xm_iconst hX (v := -1) rfl dL_spread_370 ?_
      refine xm_iconst hX (v := 1) rfl dL_spread_371 ?_
      refine xm_calli hX (xm_runV hX (k := 0) (ci := 3) (As := (fun g => [.int (-1 : Int32), .int (1 : Int32)])) (kX3_pose hL (-1 : Int32) (1 : Int32) M8) (hL _ _ cL_0) rfl (xm_gV gm_283 gm_284 gm_285 gm_1 gm_286) rfl ⟨rfl, rfl⟩ ⟨rfl, hdX3_pose⟩ ⟨Nat.le_of_ble_eq_true rfl, Nat.le_of_ble_eq_true rfl⟩ rfl (Nat.le_of_ble_eq_true rfl) rfl ⟨Nat.le_of_ble_eq_true rfl, Nat.le_of_ble_eq_true rfl⟩ dL_spread_372) (fun x11 M10 => ?_)
      refine xm_icmp_ne hX (tgt := 382) dL_spread_375 rfl ?_ ?_
      · refine xm_iconst hX (v := 0) rfl dL_spread_382 ?_
        exact xm_zretL hX (by decide) dL_spread_383
      · refine xm_iconst hX (v := 1) rfl dL_spread_378 ?_
        refine xm_goto hX (tgt := 383) dL_spread_379 rfl ?_
        exact xm_zretL hX (by decide) dL_spread_383
  · refine xm_aload_n hX 0 dL_spread_16 rfl rfl ?_
    refine xm_iload_n hX 3 dL_spread_17 rfl rfl ?_
    refine xm_iconst hX (v := 0) rfl dL_spread_18 ?_
    refine xm_calli hX (xm_runV hX (k := 0) (ci := 3) (As := (fun g => [.int b3, .int (0 : Int32)])) (kX3_about hL b3 (0 : Int32) M) (hL _ _ cL_0) rfl (xm_gV gm_312 gm_313 gm_314 gm_1 gm_315) rfl ⟨rfl, rfl⟩ ⟨rfl, hdX3_about⟩ ⟨Nat.le_of_ble_eq_true rfl, Nat.le_of_ble_eq_true rfl⟩ rfl (Nat.le_of_ble_eq_true rfl) rfl ⟨Nat.le_of_ble_eq_true rfl, Nat.le_of_ble_eq_true rfl⟩ dL_spread_19) (fun x13 M12 => ?_)
    refine xm_iconst hX (v := 4) rfl dL_spread_22 ?_
    refine xm_icmp_ne hX (tgt := 28) dL_spread_23 rfl ?_ ?_
    · exact tfL_spread_28 hL hX k12 h12 b1 b2 b3 M12
    · refine xm_iload_n hX 3 dL_spread_26 rfl rfl ?_
      refine xm_istore_n hX (lv' := [(2, .int b3), (0, .ref (g.1 0)), (1, .int b1), (3, .int b3)]) dL_spread_27 rfl (by decide) rfl ?_
      refine xm_weak [1, 2, 0, 3] (lv' := [(0, .ref (g.1 0)), (1, .int b1), (2, .int b3), (3, .int b3)]) rfl ?_
      exact tfL_spread_28 hL hX k12 h12 b1 b3 b3 M12
def fL_spread_12_it   (nq : Nat) : Int32 → Int32 → Int32 → xm_M → Option (Int32 × xm_M) := xm_it (fun kq => fL_spread_12 kq) (fun _ _ _ _ => none) nq
theorem tfL_spread_12_it {p : Program} {l : Launch} {e : Env} {s : State} {m : MethodId} {args : Array Value} {below : List Frame} {meth : Method} {c : Code} {D : va_G} {g : xm_G} {A : Nat → Prop}  {L : List xm_Sh} (hL : xm_pre L) (hX : xm_X p m meth c cL_spread 13 s args wL_spread RL (some .boolean) D L g A)    : ∀ (nq : Nat), ∀ (b1 : Int32), ∀ (b2 : Int32), ∀ (b3 : Int32), ∀ (M : xm_M), xm_J p l e ({ frames := 6, cells := 0, slots := 0, locals := 151 }) s m args below meth c 13 D L g A (xm_Z below args s D L g A (xm_Fi g)) 12 [(0, .ref (g.1 0)), (1, .int b1), (2, .int b2), (3, .int b3)] [] M (fL_spread_12_it  nq b1 b2 b3 M) := by
  intro nq
  induction nq with
  | zero => exact fun _ _ _ _ => xm_none
  | succ nq ih => exact tfL_spread_12 hL hX _ ih
def fL_spread   (M : xm_M) : Option (Int32 × xm_M) :=
  xm_bi (fX3_count (0 : Int32) M) (fun x2 M1 => xm_lt (x2 - (1 : Int32)) (fun x3 => fL_spread_12_it xm_N x2 x2 x3 M1))
set_option maxRecDepth 20000 in
theorem kL_spread {l : Launch} {L : List xm_Sh} (hL : xm_pre L)    (M : xm_M) : xm_C l yL_spread wL_spread ({ frames := 6, cells := 0, slots := 0, locals := 151 }) L (fun g => [.ref (g.1 0)]) M xm_Fi (fL_spread   M) := by
  refine xm_C.of (by decide) rfl (fun g => Nat.le_of_ble_eq_true rfl) ?_
  intro p e s m args below meth c D g A hX
  refine xm_lv (lv' := [(0, .ref (g.1 0))]) rfl ?_
  unfold fL_spread
  refine xm_aload_n hX 0 dL_spread_0 rfl rfl ?_
  refine xm_iconst hX (v := 0) rfl dL_spread_1 ?_
  refine xm_calli hX (xm_runV hX (k := 0) (ci := 3) (As := (fun g => [.int (0 : Int32)])) (kX3_count hL (0 : Int32) M) (hL _ _ cL_0) rfl (xm_gV gm_196 gm_197 gm_198 gm_1 gm_199) rfl ⟨rfl, rfl⟩ ⟨rfl, hdX3_count⟩ ⟨Nat.le_of_ble_eq_true rfl, Nat.le_of_ble_eq_true rfl⟩ rfl (Nat.le_of_ble_eq_true rfl) rfl ⟨Nat.le_of_ble_eq_true rfl, Nat.le_of_ble_eq_true rfl⟩ dL_spread_2) (fun x2 M1 => ?_)
  refine xm_istore_n hX (lv' := [(1, .int x2), (0, .ref (g.1 0))]) dL_spread_5 rfl (by decide) rfl ?_
  refine xm_iload_n hX 0 dL_spread_6 rfl rfl ?_
  refine xm_istore_n hX (lv' := [(2, .int x2), (1, .int x2), (0, .ref (g.1 0))]) dL_spread_7 rfl (by decide) rfl ?_
  refine xm_iload_n hX 1 dL_spread_8 rfl rfl ?_
  refine xm_iconst hX (v := 1) rfl dL_spread_9 ?_
  refine xm_isub hX dL_spread_10 ?_
  refine xm_nmi (fun x3 => ?_)
  refine xm_istore_n hX (lv' := [(3, .int x3), (2, .int x2), (1, .int x2), (0, .ref (g.1 0))]) dL_spread_11 rfl (by decide) rfl ?_
  refine xm_weak [3, 2, 1, 0] (lv' := [(0, .ref (g.1 0)), (1, .int x2), (2, .int x2), (3, .int x3)]) rfl ?_
  exact tfL_spread_12_it hL hX xm_N x2 x2 x3 M1
-- ===== OdometryDeskLaw.value(II)I
theorem dL_value_0 : decode cL_value 0 = .ok (.iload_n 0, 1) := by decide +kernel
theorem dL_value_1 : decode cL_value 1 = .ok (.iconst 2, 1) := by decide +kernel
theorem dL_value_2 : decode cL_value 2 = .ok (.if_icmp .ge 16, 3) := by decide +kernel
theorem dL_value_5 : decode cL_value 5 = .ok (.bipush 100, 2) := by decide +kernel
theorem dL_value_7 : decode cL_value 7 = .ok (.iload_n 1, 1) := by decide +kernel
theorem dL_value_8 : decode cL_value 8 = .ok (.sipush 1901, 3) := by decide +kernel
theorem dL_value_11 : decode cL_value 11 = .ok (.invokestatic 22, 3) := by decide +kernel
theorem dL_value_14 : decode cL_value 14 = .ok (.iadd, 1) := by decide +kernel
theorem dL_value_15 : decode cL_value 15 = .ok (.goto 93, 3) := by decide +kernel
theorem dL_value_18 : decode cL_value 18 = .ok (.iload_n 0, 1) := by decide +kernel
theorem dL_value_19 : decode cL_value 19 = .ok (.iconst 2, 1) := by decide +kernel
theorem dL_value_20 : decode cL_value 20 = .ok (.if_icmp .ne 16, 3) := by decide +kernel
theorem dL_value_23 : decode cL_value 23 = .ok (.bipush 100, 2) := by decide +kernel
theorem dL_value_25 : decode cL_value 25 = .ok (.iload_n 1, 1) := by decide +kernel
theorem dL_value_26 : decode cL_value 26 = .ok (.sipush 901, 3) := by decide +kernel
theorem dL_value_29 : decode cL_value 29 = .ok (.invokestatic 22, 3) := by decide +kernel
theorem dL_value_32 : decode cL_value 32 = .ok (.iadd, 1) := by decide +kernel
theorem dL_value_33 : decode cL_value 33 = .ok (.goto 75, 3) := by decide +kernel
theorem dL_value_36 : decode cL_value 36 = .ok (.iload_n 0, 1) := by decide +kernel
theorem dL_value_37 : decode cL_value 37 = .ok (.iconst 3, 1) := by decide +kernel
theorem dL_value_38 : decode cL_value 38 = .ok (.if_icmp .ne 12, 3) := by decide +kernel
theorem dL_value_41 : decode cL_value 41 = .ok (.iload_n 1, 1) := by decide +kernel
theorem dL_value_42 : decode cL_value 42 = .ok (.ldc 84, 2) := by decide +kernel
theorem dL_value_44 : decode cL_value 44 = .ok (.invokestatic 22, 3) := by decide +kernel
theorem dL_value_47 : decode cL_value 47 = .ok (.goto 61, 3) := by decide +kernel
theorem dL_value_50 : decode cL_value 50 = .ok (.iload_n 0, 1) := by decide +kernel
theorem dL_value_51 : decode cL_value 51 = .ok (.iconst 4, 1) := by decide +kernel
theorem dL_value_52 : decode cL_value 52 = .ok (.if_icmp .eq 9, 3) := by decide +kernel
theorem dL_value_55 : decode cL_value 55 = .ok (.iload_n 0, 1) := by decide +kernel
theorem dL_value_56 : decode cL_value 56 = .ok (.bipush 6, 2) := by decide +kernel
theorem dL_value_58 : decode cL_value 58 = .ok (.if_icmp .ne 12, 3) := by decide +kernel
theorem dL_value_61 : decode cL_value 61 = .ok (.iload_n 1, 1) := by decide +kernel
theorem dL_value_62 : decode cL_value 62 = .ok (.bipush 101, 2) := by decide +kernel
theorem dL_value_64 : decode cL_value 64 = .ok (.invokestatic 22, 3) := by decide +kernel
theorem dL_value_67 : decode cL_value 67 = .ok (.goto 41, 3) := by decide +kernel
theorem dL_value_70 : decode cL_value 70 = .ok (.iload_n 0, 1) := by decide +kernel
theorem dL_value_71 : decode cL_value 71 = .ok (.iconst 5, 1) := by decide +kernel
theorem dL_value_72 : decode cL_value 72 = .ok (.if_icmp .ne 14, 3) := by decide +kernel
theorem dL_value_75 : decode cL_value 75 = .ok (.iconst 1, 1) := by decide +kernel
theorem dL_value_76 : decode cL_value 76 = .ok (.iload_n 1, 1) := by decide +kernel
theorem dL_value_77 : decode cL_value 77 = .ok (.bipush 64, 2) := by decide +kernel
theorem dL_value_79 : decode cL_value 79 = .ok (.invokestatic 22, 3) := by decide +kernel
theorem dL_value_82 : decode cL_value 82 = .ok (.iadd, 1) := by decide +kernel
theorem dL_value_83 : decode cL_value 83 = .ok (.goto 25, 3) := by decide +kernel
theorem dL_value_86 : decode cL_value 86 = .ok (.iload_n 0, 1) := by decide +kernel
theorem dL_value_87 : decode cL_value 87 = .ok (.bipush 7, 2) := by decide +kernel
theorem dL_value_89 : decode cL_value 89 = .ok (.if_icmp .ne 13, 3) := by decide +kernel
theorem dL_value_92 : decode cL_value 92 = .ok (.iload_n 1, 1) := by decide +kernel
theorem dL_value_93 : decode cL_value 93 = .ok (.sipush 2001, 3) := by decide +kernel
theorem dL_value_96 : decode cL_value 96 = .ok (.invokestatic 22, 3) := by decide +kernel
theorem dL_value_99 : decode cL_value 99 = .ok (.goto 9, 3) := by decide +kernel
theorem dL_value_102 : decode cL_value 102 = .ok (.iload_n 1, 1) := by decide +kernel
theorem dL_value_103 : decode cL_value 103 = .ok (.ldc 29, 2) := by decide +kernel
theorem dL_value_105 : decode cL_value 105 = .ok (.invokestatic 22, 3) := by decide +kernel
theorem dL_value_108 : decode cL_value 108 = .ok (.ireturn, 1) := by decide +kernel
abbrev wL_value : List Cond := .code yL_value cL_value 2 (some .int) :: lw_gd
theorem hdL_value : (yL_value.cls ≠ "java/lang/invoke/MethodHandle" ∧ yL_value.cls ≠ "java/lang/invoke/VarHandle" ∧ (parseMethodDescriptor yL_value.desc).map (fun d => d.parameters.length) = some 2) := by decide +kernel
def fL_value_61   (b1 : Int32) (M : xm_M) : Option (Int32 × xm_M) :=
  xm_bi (fL_up b1 (101 : Int32) M) (fun x2 M1 => some (x2, M1))
set_option maxRecDepth 20000 in
theorem tfL_value_61 {p : Program} {l : Launch} {e : Env} {s : State} {m : MethodId} {args : Array Value} {below : List Frame} {meth : Method} {c : Code} {D : va_G} {g : xm_G} {A : Nat → Prop}  {L : List xm_Sh} (hL : xm_pre L) (hX : xm_X p m meth c cL_value 2 s args wL_value RL (some .int) D L g A)    : ∀ (b1 : Int32), ∀ (M : xm_M), xm_J p l e ({ frames := 1, cells := 0, slots := 0, locals := 21 }) s m args below meth c 2 D L g A (xm_Z below args s D L g A (xm_Fi g)) 61 [(1, .int b1)] [] M (fL_value_61 b1 M) := by
  intro b1 M
  unfold fL_value_61
  refine xm_iload_n hX 0 dL_value_61 rfl rfl ?_
  refine xm_bipush hX (v := 101) rfl dL_value_62 ?_
  refine xm_calli hX (xm_runS hX (As := (fun g => [.int b1, .int (101 : Int32)])) (kL_up hL b1 (101 : Int32) M) (xm_gS gm_189 gm_190 gm_0 gm_191) rfl ⟨rfl, rfl⟩ hdL_up ⟨Nat.le_of_ble_eq_true rfl, Nat.le_of_ble_eq_true rfl⟩ rfl (Nat.le_of_ble_eq_true rfl) rfl ⟨Nat.le_of_ble_eq_true rfl, Nat.le_of_ble_eq_true rfl⟩ dL_value_64) (fun x2 M1 => ?_)
  refine xm_goto hX (tgt := 108) dL_value_67 rfl ?_
  exact xm_iret hX dL_value_108
def fL_value  (a0 : Int32) (a1 : Int32) (M : xm_M) : Option (Int32 × xm_M) :=
  if (2 : Int32) ≤ a0 then if a0 = (2 : Int32) then xm_bi (fL_up a1 (901 : Int32) M) (fun x12 M11 => some ((100 : Int32) + x12, M11)) else if a0 = (3 : Int32) then xm_bi (fL_up a1 (200001 : Int32) M) (fun x10 M9 => some (x10, M9)) else if a0 = (4 : Int32) then fL_value_61 a1 M else if a0 = (6 : Int32) then fL_value_61 a1 M else if a0 = (5 : Int32) then xm_bi (fL_up a1 (64 : Int32) M) (fun x8 M7 => some ((1 : Int32) + x8, M7)) else if a0 = (7 : Int32) then xm_bi (fL_up a1 (2001 : Int32) M) (fun x6 M5 => some (x6, M5)) else xm_bi (fL_up a1 (900001 : Int32) M) (fun x4 M3 => some (x4, M3)) else xm_bi (fL_up a1 (1901 : Int32) M) (fun x14 M13 => some ((100 : Int32) + x14, M13))
set_option maxRecDepth 20000 in
theorem kL_value {l : Launch} {L : List xm_Sh} (hL : xm_pre L)   (a0 : Int32) (a1 : Int32) (M : xm_M) : xm_C l yL_value wL_value ({ frames := 1, cells := 0, slots := 0, locals := 21 }) L (fun g => [.int a0, .int a1]) M xm_Fi (fL_value  a0 a1 M) := by
  refine xm_C.of (by decide) rfl (fun g => Nat.le_of_ble_eq_true rfl) ?_
  intro p e s m args below meth c D g A hX
  refine xm_lv (lv' := [(0, .int a0), (1, .int a1)]) rfl ?_
  unfold fL_value
  refine xm_iload_n hX 0 dL_value_0 rfl rfl ?_
  refine xm_iconst hX (v := 2) rfl dL_value_1 ?_
  refine xm_icmp_ge hX (tgt := 18) dL_value_2 rfl ?_ ?_
  · refine xm_iload_n hX 0 dL_value_18 rfl rfl ?_
    refine xm_iconst hX (v := 2) rfl dL_value_19 ?_
    refine xm_icmp_ne hX (tgt := 36) dL_value_20 rfl ?_ ?_
    · refine xm_iload_n hX 0 dL_value_36 rfl rfl ?_
      refine xm_iconst hX (v := 3) rfl dL_value_37 ?_
      refine xm_icmp_ne hX (tgt := 50) dL_value_38 rfl ?_ ?_
      · refine xm_iload_n hX 0 dL_value_50 rfl rfl ?_
        refine xm_iconst hX (v := 4) rfl dL_value_51 ?_
        refine xm_icmp_eq hX (tgt := 61) dL_value_52 rfl ?_ ?_
        · refine xm_weak [1] (lv' := [(1, .int a1)]) rfl ?_
          exact tfL_value_61 hL hX a1 M
        · refine xm_iload_n hX 0 dL_value_55 rfl rfl ?_
          refine xm_bipush hX (v := 6) rfl dL_value_56 ?_
          refine xm_icmp_ne hX (tgt := 70) dL_value_58 rfl ?_ ?_
          · refine xm_iload_n hX 0 dL_value_70 rfl rfl ?_
            refine xm_iconst hX (v := 5) rfl dL_value_71 ?_
            refine xm_icmp_ne hX (tgt := 86) dL_value_72 rfl ?_ ?_
            · refine xm_iload_n hX 0 dL_value_86 rfl rfl ?_
              refine xm_bipush hX (v := 7) rfl dL_value_87 ?_
              refine xm_icmp_ne hX (tgt := 102) dL_value_89 rfl ?_ ?_
              · refine xm_iload_n hX 1 dL_value_102 rfl rfl ?_
                refine xm_ldc hX (v := 900001) (List.mem_cons_of_mem _ gm_374) dL_value_103 ?_
                refine xm_calli hX (xm_runS hX (As := (fun g => [.int a1, .int (900001 : Int32)])) (kL_up hL a1 (900001 : Int32) M) (xm_gS gm_189 gm_190 gm_0 gm_191) rfl ⟨rfl, rfl⟩ hdL_up ⟨Nat.le_of_ble_eq_true rfl, Nat.le_of_ble_eq_true rfl⟩ rfl (Nat.le_of_ble_eq_true rfl) rfl ⟨Nat.le_of_ble_eq_true rfl, Nat.le_of_ble_eq_true rfl⟩ dL_value_105) (fun x4 M3 => ?_)
                exact xm_iret hX dL_value_108
              · refine xm_iload_n hX 1 dL_value_92 rfl rfl ?_
                refine xm_sipush hX (v := 2001) rfl dL_value_93 ?_
                refine xm_calli hX (xm_runS hX (As := (fun g => [.int a1, .int (2001 : Int32)])) (kL_up hL a1 (2001 : Int32) M) (xm_gS gm_189 gm_190 gm_0 gm_191) rfl ⟨rfl, rfl⟩ hdL_up ⟨Nat.le_of_ble_eq_true rfl, Nat.le_of_ble_eq_true rfl⟩ rfl (Nat.le_of_ble_eq_true rfl) rfl ⟨Nat.le_of_ble_eq_true rfl, Nat.le_of_ble_eq_true rfl⟩ dL_value_96) (fun x6 M5 => ?_)
                refine xm_goto hX (tgt := 108) dL_value_99 rfl ?_
                exact xm_iret hX dL_value_108
            · refine xm_iconst hX (v := 1) rfl dL_value_75 ?_
              refine xm_iload_n hX 1 dL_value_76 rfl rfl ?_
              refine xm_bipush hX (v := 64) rfl dL_value_77 ?_
              refine xm_calli hX (xm_runS hX (As := (fun g => [.int a1, .int (64 : Int32)])) (kL_up hL a1 (64 : Int32) M) (xm_gS gm_189 gm_190 gm_0 gm_191) rfl ⟨rfl, rfl⟩ hdL_up ⟨Nat.le_of_ble_eq_true rfl, Nat.le_of_ble_eq_true rfl⟩ rfl (Nat.le_of_ble_eq_true rfl) rfl ⟨Nat.le_of_ble_eq_true rfl, Nat.le_of_ble_eq_true rfl⟩ dL_value_79) (fun x8 M7 => ?_)
              refine xm_iadd hX dL_value_82 ?_
              refine xm_goto hX (tgt := 108) dL_value_83 rfl ?_
              exact xm_iret hX dL_value_108
          · refine xm_weak [1] (lv' := [(1, .int a1)]) rfl ?_
            exact tfL_value_61 hL hX a1 M
      · refine xm_iload_n hX 1 dL_value_41 rfl rfl ?_
        refine xm_ldc hX (v := 200001) (List.mem_cons_of_mem _ gm_331) dL_value_42 ?_
        refine xm_calli hX (xm_runS hX (As := (fun g => [.int a1, .int (200001 : Int32)])) (kL_up hL a1 (200001 : Int32) M) (xm_gS gm_189 gm_190 gm_0 gm_191) rfl ⟨rfl, rfl⟩ hdL_up ⟨Nat.le_of_ble_eq_true rfl, Nat.le_of_ble_eq_true rfl⟩ rfl (Nat.le_of_ble_eq_true rfl) rfl ⟨Nat.le_of_ble_eq_true rfl, Nat.le_of_ble_eq_true rfl⟩ dL_value_44) (fun x10 M9 => ?_)
        refine xm_goto hX (tgt := 108) dL_value_47 rfl ?_
        exact xm_iret hX dL_value_108
    · refine xm_bipush hX (v := 100) rfl dL_value_23 ?_
      refine xm_iload_n hX 1 dL_value_25 rfl rfl ?_
      refine xm_sipush hX (v := 901) rfl dL_value_26 ?_
      refine xm_calli hX (xm_runS hX (As := (fun g => [.int a1, .int (901 : Int32)])) (kL_up hL a1 (901 : Int32) M) (xm_gS gm_189 gm_190 gm_0 gm_191) rfl ⟨rfl, rfl⟩ hdL_up ⟨Nat.le_of_ble_eq_true rfl, Nat.le_of_ble_eq_true rfl⟩ rfl (Nat.le_of_ble_eq_true rfl) rfl ⟨Nat.le_of_ble_eq_true rfl, Nat.le_of_ble_eq_true rfl⟩ dL_value_29) (fun x12 M11 => ?_)
      refine xm_iadd hX dL_value_32 ?_
      refine xm_goto hX (tgt := 108) dL_value_33 rfl ?_
      exact xm_iret hX dL_value_108
  · refine xm_bipush hX (v := 100) rfl dL_value_5 ?_
    refine xm_iload_n hX 1 dL_value_7 rfl rfl ?_
    refine xm_sipush hX (v := 1901) rfl dL_value_8 ?_
    refine xm_calli hX (xm_runS hX (As := (fun g => [.int a1, .int (1901 : Int32)])) (kL_up hL a1 (1901 : Int32) M) (xm_gS gm_189 gm_190 gm_0 gm_191) rfl ⟨rfl, rfl⟩ hdL_up ⟨Nat.le_of_ble_eq_true rfl, Nat.le_of_ble_eq_true rfl⟩ rfl (Nat.le_of_ble_eq_true rfl) rfl ⟨Nat.le_of_ble_eq_true rfl, Nat.le_of_ble_eq_true rfl⟩ dL_value_11) (fun x14 M13 => ?_)
    refine xm_iadd hX dL_value_14 ?_
    refine xm_goto hX (tgt := 108) dL_value_15 rfl ?_
    exact xm_iret hX dL_value_108
-- ===== OdometryDeskLaw.tried(LOdometryDesk;I)Z ['0']
theorem dL_tried_0 : decode cL_tried 0 = .ok (.aload_n 0, 1) := by decide +kernel
theorem dL_tried_1 : decode cL_tried 1 = .ok (.iconst 0, 1) := by decide +kernel
theorem dL_tried_2 : decode cL_tried 2 = .ok (.invokevirtual 65, 3) := by decide +kernel
theorem dL_tried_5 : decode cL_tried 5 = .ok (.iconst 1, 1) := by decide +kernel
theorem dL_tried_6 : decode cL_tried 6 = .ok (.isub, 1) := by decide +kernel
theorem dL_tried_7 : decode cL_tried 7 = .ok (.istore_n 2, 1) := by decide +kernel
theorem dL_tried_8 : decode cL_tried 8 = .ok (.iconst 0, 1) := by decide +kernel
theorem dL_tried_9 : decode cL_tried 9 = .ok (.istore_n 3, 1) := by decide +kernel
theorem dL_tried_10 : decode cL_tried 10 = .ok (.iload_n 3, 1) := by decide +kernel
theorem dL_tried_11 : decode cL_tried 11 = .ok (.bipush 9, 2) := by decide +kernel
theorem dL_tried_13 : decode cL_tried 13 = .ok (.if_icmp .ge 176, 3) := by decide +kernel
theorem dL_tried_16 : decode cL_tried 16 = .ok (.iload_n 3, 1) := by decide +kernel
theorem dL_tried_17 : decode cL_tried 17 = .ok (.iload_n 1, 1) := by decide +kernel
theorem dL_tried_18 : decode cL_tried 18 = .ok (.iload_n 3, 1) := by decide +kernel
theorem dL_tried_19 : decode cL_tried 19 = .ok (.ishr, 1) := by decide +kernel
theorem dL_tried_20 : decode cL_tried 20 = .ok (.invokestatic 122, 3) := by decide +kernel
theorem dL_tried_23 : decode cL_tried 23 = .ok (.istore 4, 2) := by decide +kernel
theorem dL_tried_25 : decode cL_tried 25 = .ok (.aload_n 0, 1) := by decide +kernel
theorem dL_tried_26 : decode cL_tried 26 = .ok (.iload_n 3, 1) := by decide +kernel
theorem dL_tried_27 : decode cL_tried 27 = .ok (.iload 4, 2) := by decide +kernel
theorem dL_tried_29 : decode cL_tried 29 = .ok (.iconst 0, 1) := by decide +kernel
theorem dL_tried_30 : decode cL_tried 30 = .ok (.invokevirtual 125, 3) := by decide +kernel
theorem dL_tried_33 : decode cL_tried 33 = .ok (.istore 5, 2) := by decide +kernel
theorem dL_tried_35 : decode cL_tried 35 = .ok (.aload_n 0, 1) := by decide +kernel
theorem dL_tried_36 : decode cL_tried 36 = .ok (.iload_n 3, 1) := by decide +kernel
theorem dL_tried_37 : decode cL_tried 37 = .ok (.iload 4, 2) := by decide +kernel
theorem dL_tried_39 : decode cL_tried 39 = .ok (.iconst 1, 1) := by decide +kernel
theorem dL_tried_40 : decode cL_tried 40 = .ok (.invokevirtual 125, 3) := by decide +kernel
theorem dL_tried_43 : decode cL_tried 43 = .ok (.istore 6, 2) := by decide +kernel
theorem dL_tried_45 : decode cL_tried 45 = .ok (.aload_n 0, 1) := by decide +kernel
theorem dL_tried_46 : decode cL_tried 46 = .ok (.iload_n 3, 1) := by decide +kernel
theorem dL_tried_47 : decode cL_tried 47 = .ok (.iload 4, 2) := by decide +kernel
theorem dL_tried_49 : decode cL_tried 49 = .ok (.iconst 2, 1) := by decide +kernel
theorem dL_tried_50 : decode cL_tried 50 = .ok (.invokevirtual 125, 3) := by decide +kernel
theorem dL_tried_53 : decode cL_tried 53 = .ok (.istore 7, 2) := by decide +kernel
theorem dL_tried_55 : decode cL_tried 55 = .ok (.aload_n 0, 1) := by decide +kernel
theorem dL_tried_56 : decode cL_tried 56 = .ok (.iload_n 3, 1) := by decide +kernel
theorem dL_tried_57 : decode cL_tried 57 = .ok (.iload 4, 2) := by decide +kernel
theorem dL_tried_59 : decode cL_tried 59 = .ok (.iconst 3, 1) := by decide +kernel
theorem dL_tried_60 : decode cL_tried 60 = .ok (.invokevirtual 125, 3) := by decide +kernel
theorem dL_tried_63 : decode cL_tried 63 = .ok (.istore 8, 2) := by decide +kernel
theorem dL_tried_65 : decode cL_tried 65 = .ok (.aload_n 0, 1) := by decide +kernel
theorem dL_tried_66 : decode cL_tried 66 = .ok (.iload_n 3, 1) := by decide +kernel
theorem dL_tried_67 : decode cL_tried 67 = .ok (.iload 4, 2) := by decide +kernel
theorem dL_tried_69 : decode cL_tried 69 = .ok (.iconst 4, 1) := by decide +kernel
theorem dL_tried_70 : decode cL_tried 70 = .ok (.invokevirtual 125, 3) := by decide +kernel
theorem dL_tried_73 : decode cL_tried 73 = .ok (.istore 9, 2) := by decide +kernel
theorem dL_tried_75 : decode cL_tried 75 = .ok (.aload_n 0, 1) := by decide +kernel
theorem dL_tried_76 : decode cL_tried 76 = .ok (.iload_n 3, 1) := by decide +kernel
theorem dL_tried_77 : decode cL_tried 77 = .ok (.iload 4, 2) := by decide +kernel
theorem dL_tried_79 : decode cL_tried 79 = .ok (.invokevirtual 26, 3) := by decide +kernel
theorem dL_tried_82 : decode cL_tried 82 = .ok (.istore 10, 2) := by decide +kernel
theorem dL_tried_84 : decode cL_tried 84 = .ok (.aload_n 0, 1) := by decide +kernel
theorem dL_tried_85 : decode cL_tried 85 = .ok (.iload_n 2, 1) := by decide +kernel
theorem dL_tried_86 : decode cL_tried 86 = .ok (.iconst 0, 1) := by decide +kernel
theorem dL_tried_87 : decode cL_tried 87 = .ok (.invokevirtual 69, 3) := by decide +kernel
theorem dL_tried_90 : decode cL_tried 90 = .ok (.iload 5, 2) := by decide +kernel
theorem dL_tried_92 : decode cL_tried 92 = .ok (.if_icmp .ne 56, 3) := by decide +kernel
theorem dL_tried_95 : decode cL_tried 95 = .ok (.aload_n 0, 1) := by decide +kernel
theorem dL_tried_96 : decode cL_tried 96 = .ok (.iload_n 2, 1) := by decide +kernel
theorem dL_tried_97 : decode cL_tried 97 = .ok (.iconst 1, 1) := by decide +kernel
theorem dL_tried_98 : decode cL_tried 98 = .ok (.invokevirtual 69, 3) := by decide +kernel
theorem dL_tried_101 : decode cL_tried 101 = .ok (.iload 6, 2) := by decide +kernel
theorem dL_tried_103 : decode cL_tried 103 = .ok (.if_icmp .ne 45, 3) := by decide +kernel
theorem dL_tried_106 : decode cL_tried 106 = .ok (.aload_n 0, 1) := by decide +kernel
theorem dL_tried_107 : decode cL_tried 107 = .ok (.iload_n 2, 1) := by decide +kernel
theorem dL_tried_108 : decode cL_tried 108 = .ok (.iconst 2, 1) := by decide +kernel
theorem dL_tried_109 : decode cL_tried 109 = .ok (.invokevirtual 69, 3) := by decide +kernel
theorem dL_tried_112 : decode cL_tried 112 = .ok (.iload 7, 2) := by decide +kernel
theorem dL_tried_114 : decode cL_tried 114 = .ok (.if_icmp .ne 34, 3) := by decide +kernel
theorem dL_tried_117 : decode cL_tried 117 = .ok (.aload_n 0, 1) := by decide +kernel
theorem dL_tried_118 : decode cL_tried 118 = .ok (.iconst 3, 1) := by decide +kernel
theorem dL_tried_119 : decode cL_tried 119 = .ok (.invokevirtual 65, 3) := by decide +kernel
theorem dL_tried_122 : decode cL_tried 122 = .ok (.aload_n 0, 1) := by decide +kernel
theorem dL_tried_123 : decode cL_tried 123 = .ok (.iconst 4, 1) := by decide +kernel
theorem dL_tried_124 : decode cL_tried 124 = .ok (.invokevirtual 65, 3) := by decide +kernel
theorem dL_tried_127 : decode cL_tried 127 = .ok (.iadd, 1) := by decide +kernel
theorem dL_tried_128 : decode cL_tried 128 = .ok (.iload 8, 2) := by decide +kernel
theorem dL_tried_130 : decode cL_tried 130 = .ok (.if_icmp .ne 18, 3) := by decide +kernel
theorem dL_tried_133 : decode cL_tried 133 = .ok (.aload_n 0, 1) := by decide +kernel
theorem dL_tried_134 : decode cL_tried 134 = .ok (.bipush 7, 2) := by decide +kernel
theorem dL_tried_136 : decode cL_tried 136 = .ok (.invokevirtual 65, 3) := by decide +kernel
theorem dL_tried_139 : decode cL_tried 139 = .ok (.iload 9, 2) := by decide +kernel
theorem dL_tried_141 : decode cL_tried 141 = .ok (.if_icmp .ne 7, 3) := by decide +kernel
theorem dL_tried_144 : decode cL_tried 144 = .ok (.iconst 1, 1) := by decide +kernel
theorem dL_tried_145 : decode cL_tried 145 = .ok (.goto 4, 3) := by decide +kernel
theorem dL_tried_148 : decode cL_tried 148 = .ok (.iconst 0, 1) := by decide +kernel
theorem dL_tried_149 : decode cL_tried 149 = .ok (.istore 11, 2) := by decide +kernel
theorem dL_tried_151 : decode cL_tried 151 = .ok (.iload 11, 2) := by decide +kernel
theorem dL_tried_153 : decode cL_tried 153 = .ok (.ifCond .eq 28, 3) := by decide +kernel
theorem dL_tried_156 : decode cL_tried 156 = .ok (.aload_n 0, 1) := by decide +kernel
theorem dL_tried_157 : decode cL_tried 157 = .ok (.iload_n 3, 1) := by decide +kernel
theorem dL_tried_158 : decode cL_tried 158 = .ok (.iload 10, 2) := by decide +kernel
theorem dL_tried_160 : decode cL_tried 160 = .ok (.invokevirtual 26, 3) := by decide +kernel
theorem dL_tried_163 : decode cL_tried 163 = .ok (.iload 4, 2) := by decide +kernel
theorem dL_tried_165 : decode cL_tried 165 = .ok (.if_icmp .ne 16, 3) := by decide +kernel
theorem dL_tried_168 : decode cL_tried 168 = .ok (.aload_n 0, 1) := by decide +kernel
theorem dL_tried_169 : decode cL_tried 169 = .ok (.bipush 12, 2) := by decide +kernel
theorem dL_tried_171 : decode cL_tried 171 = .ok (.iload_n 3, 1) := by decide +kernel
theorem dL_tried_172 : decode cL_tried 172 = .ok (.iadd, 1) := by decide +kernel
theorem dL_tried_173 : decode cL_tried 173 = .ok (.invokevirtual 65, 3) := by decide +kernel
theorem dL_tried_176 : decode cL_tried 176 = .ok (.iload 10, 2) := by decide +kernel
theorem dL_tried_178 : decode cL_tried 178 = .ok (.if_icmp .eq 5, 3) := by decide +kernel
theorem dL_tried_181 : decode cL_tried 181 = .ok (.iconst 0, 1) := by decide +kernel
theorem dL_tried_182 : decode cL_tried 182 = .ok (.ireturn, 1) := by decide +kernel
theorem dL_tried_183 : decode cL_tried 183 = .ok (.iinc 3 1, 3) := by decide +kernel
theorem dL_tried_186 : decode cL_tried 186 = .ok (.goto (-176), 3) := by decide +kernel
theorem dL_tried_189 : decode cL_tried 189 = .ok (.iconst 1, 1) := by decide +kernel
theorem dL_tried_190 : decode cL_tried 190 = .ok (.ireturn, 1) := by decide +kernel
abbrev wL_tried : List Cond := .code yL_tried cL_tried 12 (some .boolean) :: lw_gd
theorem hdL_tried : (yL_tried.cls ≠ "java/lang/invoke/MethodHandle" ∧ yL_tried.cls ≠ "java/lang/invoke/VarHandle" ∧ (parseMethodDescriptor yL_tried.desc).map (fun d => d.parameters.length) = some 2) := by decide +kernel
def fL_tried_149  (k10 : Int32 → Int32 → Int32 → xm_M → Option (Int32 × xm_M)) (b1 : Int32) (b2 : Int32) (b3 : Int32) (b4 : Int32) (b10 : Int32) (s0 : Int32) (M : xm_M) : Option (Int32 × xm_M) :=
  if s0 = 0 then some ((0 : Int32), M) else xm_bi (fX3_set b3 b10 M) (fun x22 M21 => if x22 = b4 then xm_bi (fX3_count ((12 : Int32) + b3) M21) (fun x24 M23 => if x24 = b10 then xm_lt (b3 + Int32.ofInt 1) (fun x25 => k10 b1 b2 x25 M23) else some ((0 : Int32), M23)) else some ((0 : Int32), M21))
set_option maxRecDepth 20000 in
theorem tfL_tried_149 {p : Program} {l : Launch} {e : Env} {s : State} {m : MethodId} {args : Array Value} {below : List Frame} {meth : Method} {c : Code} {D : va_G} {g : xm_G} {A : Nat → Prop}  {L : List xm_Sh} (hL : xm_pre L) (hX : xm_X p m meth c cL_tried 12 s args wL_tried RL (some .boolean) D L g A)  (k10 : Int32 → Int32 → Int32 → xm_M → Option (Int32 × xm_M)) (h10 : ∀ (b1 : Int32), ∀ (b2 : Int32), ∀ (b3 : Int32), ∀ (M : xm_M), xm_J p l e ({ frames := 7, cells := 0, slots := 0, locals := 174 }) s m args below meth c 12 D L g A (xm_Z below args s D L g A (xm_Fi g)) 10 [(0, .ref (g.1 0)), (1, .int b1), (2, .int b2), (3, .int b3)] [] M (k10 b1 b2 b3 M)) : ∀ (b1 : Int32), ∀ (b2 : Int32), ∀ (b3 : Int32), ∀ (b4 : Int32), ∀ (b10 : Int32), ∀ (s0 : Int32), ∀ (M : xm_M), xm_J p l e ({ frames := 7, cells := 0, slots := 0, locals := 174 }) s m args below meth c 12 D L g A (xm_Z below args s D L g A (xm_Fi g)) 149 [(0, .ref (g.1 0)), (1, .int b1), (2, .int b2), (3, .int b3), (4, .int b4), (10, .int b10)] [.int s0] M (fL_tried_149 k10 b1 b2 b3 b4 b10 s0 M) := by
  intro b1 b2 b3 b4 b10 s0 M
  unfold fL_tried_149
  refine xm_istore hX (lv' := [(11, .int s0), (0, .ref (g.1 0)), (1, .int b1), (2, .int b2), (3, .int b3), (4, .int b4), (10, .int b10)]) dL_tried_149 (by decide) rfl ?_
  refine xm_iload hX 0 dL_tried_151 rfl ?_
  refine xm_if_eq hX (tgt := 181) dL_tried_153 rfl ?_ ?_
  · refine xm_iconst hX (v := 0) rfl dL_tried_181 ?_
    exact xm_zretL hX (by decide) dL_tried_182
  · refine xm_aload_n hX 1 dL_tried_156 rfl rfl ?_
    refine xm_iload_n hX 4 dL_tried_157 rfl rfl ?_
    refine xm_iload hX 6 dL_tried_158 rfl ?_
    refine xm_calli hX (xm_runV hX (k := 0) (ci := 3) (As := (fun g => [.int b3, .int b10])) (kX3_set hL b3 b10 M) (hL _ _ cL_0) rfl (xm_gV gm_140 gm_141 gm_142 gm_1 gm_143) rfl ⟨rfl, rfl⟩ ⟨rfl, hdX3_set⟩ ⟨Nat.le_of_ble_eq_true rfl, Nat.le_of_ble_eq_true rfl⟩ rfl (Nat.le_of_ble_eq_true rfl) rfl ⟨Nat.le_of_ble_eq_true rfl, Nat.le_of_ble_eq_true rfl⟩ dL_tried_160) (fun x22 M21 => ?_)
    refine xm_iload hX 5 dL_tried_163 rfl ?_
    refine xm_icmp_ne hX (tgt := 181) dL_tried_165 rfl ?_ ?_
    · refine xm_iconst hX (v := 0) rfl dL_tried_181 ?_
      exact xm_zretL hX (by decide) dL_tried_182
    · refine xm_aload_n hX 1 dL_tried_168 rfl rfl ?_
      refine xm_bipush hX (v := 12) rfl dL_tried_169 ?_
      refine xm_iload_n hX 4 dL_tried_171 rfl rfl ?_
      refine xm_iadd hX dL_tried_172 ?_
      refine xm_calli hX (xm_runV hX (k := 0) (ci := 3) (As := (fun g => [.int ((12 : Int32) + b3)])) (kX3_count hL ((12 : Int32) + b3) M21) (hL _ _ cL_0) rfl (xm_gV gm_196 gm_197 gm_198 gm_1 gm_199) rfl ⟨rfl, rfl⟩ ⟨rfl, hdX3_count⟩ ⟨Nat.le_of_ble_eq_true rfl, Nat.le_of_ble_eq_true rfl⟩ rfl (Nat.le_of_ble_eq_true rfl) rfl ⟨Nat.le_of_ble_eq_true rfl, Nat.le_of_ble_eq_true rfl⟩ dL_tried_173) (fun x24 M23 => ?_)
      refine xm_iload hX 6 dL_tried_176 rfl ?_
      refine xm_icmp_eq hX (tgt := 183) dL_tried_178 rfl ?_ ?_
      · refine xm_iinc hX (lv2 := fun x25 => [(3, .int x25), (11, .int s0), (0, .ref (g.1 0)), (1, .int b1), (2, .int b2), (4, .int b4), (10, .int b10)]) 4 dL_tried_183 rfl (by decide) (fun _ => rfl) (fun x25 => ?_)
        refine xm_goto hX (tgt := 10) dL_tried_186 rfl ?_
        refine xm_weak [2, 3, 4, 0] (lv' := [(0, .ref (g.1 0)), (1, .int b1), (2, .int b2), (3, .int x25)]) rfl ?_
        exact h10 b1 b2 x25 M23
      · refine xm_iconst hX (v := 0) rfl dL_tried_181 ?_
        exact xm_zretL hX (by decide) dL_tried_182
def fL_tried_148  (k10 : Int32 → Int32 → Int32 → xm_M → Option (Int32 × xm_M)) (b1 : Int32) (b2 : Int32) (b3 : Int32) (b4 : Int32) (b10 : Int32) (M : xm_M) : Option (Int32 × xm_M) :=
  fL_tried_149 k10 b1 b2 b3 b4 b10 (0 : Int32) M
set_option maxRecDepth 20000 in
theorem tfL_tried_148 {p : Program} {l : Launch} {e : Env} {s : State} {m : MethodId} {args : Array Value} {below : List Frame} {meth : Method} {c : Code} {D : va_G} {g : xm_G} {A : Nat → Prop}  {L : List xm_Sh} (hL : xm_pre L) (hX : xm_X p m meth c cL_tried 12 s args wL_tried RL (some .boolean) D L g A)  (k10 : Int32 → Int32 → Int32 → xm_M → Option (Int32 × xm_M)) (h10 : ∀ (b1 : Int32), ∀ (b2 : Int32), ∀ (b3 : Int32), ∀ (M : xm_M), xm_J p l e ({ frames := 7, cells := 0, slots := 0, locals := 174 }) s m args below meth c 12 D L g A (xm_Z below args s D L g A (xm_Fi g)) 10 [(0, .ref (g.1 0)), (1, .int b1), (2, .int b2), (3, .int b3)] [] M (k10 b1 b2 b3 M)) : ∀ (b1 : Int32), ∀ (b2 : Int32), ∀ (b3 : Int32), ∀ (b4 : Int32), ∀ (b10 : Int32), ∀ (M : xm_M), xm_J p l e ({ frames := 7, cells := 0, slots := 0, locals := 174 }) s m args below meth c 12 D L g A (xm_Z below args s D L g A (xm_Fi g)) 148 [(0, .ref (g.1 0)), (1, .int b1), (2, .int b2), (3, .int b3), (4, .int b4), (10, .int b10)] [] M (fL_tried_148 k10 b1 b2 b3 b4 b10 M) := by
  intro b1 b2 b3 b4 b10 M
  unfold fL_tried_148
  refine xm_iconst hX (v := 0) rfl dL_tried_148 ?_
  exact tfL_tried_149 hL hX k10 h10 b1 b2 b3 b4 b10 (0 : Int32) M
def fL_tried_10  (k10 : Int32 → Int32 → Int32 → xm_M → Option (Int32 × xm_M)) (b1 : Int32) (b2 : Int32) (b3 : Int32) (M : xm_M) : Option (Int32 × xm_M) :=
  if (9 : Int32) ≤ b3 then some ((1 : Int32), M) else xm_bi (fL_value b3 (b1 >>> (b3 &&& 31)) M) (fun x6 M5 => xm_bi (fX3_ifSet b3 x6 (0 : Int32) M5) (fun x8 M7 => xm_bi (fX3_ifSet b3 x6 (1 : Int32) M7) (fun x10 M9 => xm_bi (fX3_ifSet b3 x6 (2 : Int32) M9) (fun x12 M11 => xm_bi (fX3_ifSet b3 x6 (3 : Int32) M11) (fun x14 M13 => xm_bi (fX3_ifSet b3 x6 (4 : Int32) M13) (fun x16 M15 => xm_bi (fX3_set b3 x6 M15) (fun x18 M17 => xm_bi (fX3_pose b2 (0 : Int32) M17) (fun x20 M19 => if x20 = x8 then xm_bi (fX3_pose b2 (1 : Int32) M19) (fun x27 M26 => if x27 = x10 then xm_bi (fX3_pose b2 (2 : Int32) M26) (fun x29 M28 => if x29 = x12 then xm_bi (fX3_count (3 : Int32) M28) (fun x31 M30 => xm_bi (fX3_count (4 : Int32) M30) (fun x33 M32 => if (x31 + x33) = x14 then xm_bi (fX3_count (7 : Int32) M32) (fun x35 M34 => if x35 = x16 then fL_tried_149 k10 b1 b2 b3 x6 x18 (1 : Int32) M34 else fL_tried_148 k10 b1 b2 b3 x6 x18 M34) else fL_tried_148 k10 b1 b2 b3 x6 x18 M32)) else fL_tried_148 k10 b1 b2 b3 x6 x18 M28) else fL_tried_148 k10 b1 b2 b3 x6 x18 M26) else fL_tried_148 k10 b1 b2 b3 x6 x18 M19))))))))
set_option maxRecDepth 20000 in
theorem tfL_tried_10 {p : Program} {l : Launch} {e : Env} {s : State} {m : MethodId} {args : Array Value} {below : List Frame} {meth : Method} {c : Code} {D : va_G} {g : xm_G} {A : Nat → Prop}  {L : List xm_Sh} (hL : xm_pre L) (hX : xm_X p m meth c cL_tried 12 s args wL_tried RL (some .boolean) D L g A)  (k10 : Int32 → Int32 → Int32 → xm_M → Option (Int32 × xm_M)) (h10 : ∀ (b1 : Int32), ∀ (b2 : Int32), ∀ (b3 : Int32), ∀ (M : xm_M), xm_J p l e ({ frames := 7, cells := 0, slots := 0, locals := 174 }) s m args below meth c 12 D L g A (xm_Z below args s D L g A (xm_Fi g)) 10 [(0, .ref (g.1 0)), (1, .int b1), (2, .int b2), (3, .int b3)] [] M (k10 b1 b2 b3 M)) : ∀ (b1 : Int32), ∀ (b2 : Int32), ∀ (b3 : Int32), ∀ (M : xm_M), xm_J p l e ({ frames := 7, cells := 0, slots := 0, locals := 174 }) s m args below meth c 12 D L g A (xm_Z below args s D L g A (xm_Fi g)) 10 [(0, .ref (g.1 0)), (1, .int b1), (2, .int b2), (3, .int b3)] [] M (fL_tried_10 k10 b1 b2 b3 M) := by
  intro b1 b2 b3 M
  unfold fL_tried_10
  refine xm_iload_n hX 3 dL_tried_10 rfl rfl ?_
  refine xm_bipush hX (v := 9) rfl dL_tried_11 ?_
  refine xm_icmp_ge hX (tgt := 189) dL_tried_13 rfl ?_ ?_
  · refine xm_iconst hX (v := 1) rfl dL_tried_189 ?_
    exact xm_zretL hX (by decide) dL_tried_190
  · refine xm_iload_n hX 3 dL_tried_16 rfl rfl ?_
    refine xm_iload_n hX 1 dL_tried_17 rfl rfl ?_
    refine xm_iload_n hX 3 dL_tried_18 rfl rfl ?_
    refine xm_ishr hX dL_tried_19 ?_
    refine xm_calli hX (xm_runS hX (As := (fun g => [.int b3, .int (b1 >>> (b3 &&& 31))])) (kL_value hL b3 (b1 >>> (b3 &&& 31)) M) (xm_gS gm_371 gm_372 gm_0 gm_373) rfl ⟨rfl, rfl⟩ hdL_value ⟨Nat.le_of_ble_eq_true rfl, Nat.le_of_ble_eq_true rfl⟩ rfl (Nat.le_of_ble_eq_true rfl) rfl ⟨Nat.le_of_ble_eq_true rfl, Nat.le_of_ble_eq_true rfl⟩ dL_tried_20) (fun x6 M5 => ?_)
    refine xm_istore hX (lv' := [(4, .int x6), (0, .ref (g.1 0)), (1, .int b1), (2, .int b2), (3, .int b3)]) dL_tried_23 (by decide) rfl ?_
    refine xm_aload_n hX 1 dL_tried_25 rfl rfl ?_
    refine xm_iload_n hX 4 dL_tried_26 rfl rfl ?_
    refine xm_iload hX 0 dL_tried_27 rfl ?_
    refine xm_iconst hX (v := 0) rfl dL_tried_29 ?_
    refine xm_calli hX (xm_runV hX (k := 0) (ci := 3) (As := (fun g => [.int b3, .int x6, .int (0 : Int32)])) (kX3_ifSet hL b3 x6 (0 : Int32) M5) (hL _ _ cL_0) rfl (xm_gV gm_375 gm_376 gm_377 gm_1 gm_378) rfl ⟨rfl, rfl⟩ ⟨rfl, hdX3_ifSet⟩ ⟨Nat.le_of_ble_eq_true rfl, Nat.le_of_ble_eq_true rfl⟩ rfl (Nat.le_of_ble_eq_true rfl) rfl ⟨Nat.le_of_ble_eq_true rfl, Nat.le_of_ble_eq_true rfl⟩ dL_tried_30) (fun x8 M7 => ?_)
    refine xm_istore hX (lv' := [(5, .int x8), (4, .int x6), (0, .ref (g.1 0)), (1, .int b1), (2, .int b2), (3, .int b3)]) dL_tried_33 (by decide) rfl ?_
    refine xm_aload_n hX 2 dL_tried_35 rfl rfl ?_
    refine xm_iload_n hX 5 dL_tried_36 rfl rfl ?_
    refine xm_iload hX 1 dL_tried_37 rfl ?_
    refine xm_iconst hX (v := 1) rfl dL_tried_39 ?_
    refine xm_calli hX (xm_runV hX (k := 0) (ci := 3) (As := (fun g => [.int b3, .int x6, .int (1 : Int32)])) (kX3_ifSet hL b3 x6 (1 : Int32) M7) (hL _ _ cL_0) rfl (xm_gV gm_375 gm_376 gm_377 gm_1 gm_378) rfl ⟨rfl, rfl⟩ ⟨rfl, hdX3_ifSet⟩ ⟨Nat.le_of_ble_eq_true rfl, Nat.le_of_ble_eq_true rfl⟩ rfl (Nat.le_of_ble_eq_true rfl) rfl ⟨Nat.le_of_ble_eq_true rfl, Nat.le_of_ble_eq_true rfl⟩ dL_tried_40) (fun x10 M9 => ?_)
    refine xm_istore hX (lv' := [(6, .int x10), (5, .int x8), (4, .int x6), (0, .ref (g.1 0)), (1, .int b1), (2, .int b2), (3, .int b3)]) dL_tried_43 (by decide) rfl ?_
    refine xm_aload_n hX 3 dL_tried_45 rfl rfl ?_
    refine xm_iload_n hX 6 dL_tried_46 rfl rfl ?_
    refine xm_iload hX 2 dL_tried_47 rfl ?_
    refine xm_iconst hX (v := 2) rfl dL_tried_49 ?_
    refine xm_calli hX (xm_runV hX (k := 0) (ci := 3) (As := (fun g => [.int b3, .int x6, .int (2 : Int32)])) (kX3_ifSet hL b3 x6 (2 : Int32) M9) (hL _ _ cL_0) rfl (xm_gV gm_375 gm_376 gm_377 gm_1 gm_378) rfl ⟨rfl, rfl⟩ ⟨rfl, hdX3_ifSet⟩ ⟨Nat.le_of_ble_eq_true rfl, Nat.le_of_ble_eq_true rfl⟩ rfl (Nat.le_of_ble_eq_true rfl) rfl ⟨Nat.le_of_ble_eq_true rfl, Nat.le_of_ble_eq_true rfl⟩ dL_tried_50) (fun x12 M11 => ?_)
    refine xm_istore hX (lv' := [(7, .int x12), (6, .int x10), (5, .int x8), (4, .int x6), (0, .ref (g.1 0)), (1, .int b1), (2, .int b2), (3, .int b3)]) dL_tried_53 (by decide) rfl ?_
    refine xm_aload_n hX 4 dL_tried_55 rfl rfl ?_
    refine xm_iload_n hX 7 dL_tried_56 rfl rfl ?_
    refine xm_iload hX 3 dL_tried_57 rfl ?_
    refine xm_iconst hX (v := 3) rfl dL_tried_59 ?_
    refine xm_calli hX (xm_runV hX (k := 0) (ci := 3) (As := (fun g => [.int b3, .int x6, .int (3 : Int32)])) (kX3_ifSet hL b3 x6 (3 : Int32) M11) (hL _ _ cL_0) rfl (xm_gV gm_375 gm_376 gm_377 gm_1 gm_378) rfl ⟨rfl, rfl⟩ ⟨rfl, hdX3_ifSet⟩ ⟨Nat.le_of_ble_eq_true rfl, Nat.le_of_ble_eq_true rfl⟩ rfl (Nat.le_of_ble_eq_true rfl) rfl ⟨Nat.le_of_ble_eq_true rfl, Nat.le_of_ble_eq_true rfl⟩ dL_tried_60) (fun x14 M13 => ?_)
    refine xm_istore hX (lv' := [(8, .int x14), (7, .int x12), (6, .int x10), (5, .int x8), (4, .int x6), (0, .ref (g.1 0)), (1, .int b1), (2, .int b2), (3, .int b3)]) dL_tried_63 (by decide) rfl ?_
    refine xm_aload_n hX 5 dL_tried_65 rfl rfl ?_
    refine xm_iload_n hX 8 dL_tried_66 rfl rfl ?_
    refine xm_iload hX 4 dL_tried_67 rfl ?_
    refine xm_iconst hX (v := 4) rfl dL_tried_69 ?_
    refine xm_calli hX (xm_runV hX (k := 0) (ci := 3) (As := (fun g => [.int b3, .int x6, .int (4 : Int32)])) (kX3_ifSet hL b3 x6 (4 : Int32) M13) (hL _ _ cL_0) rfl (xm_gV gm_375 gm_376 gm_377 gm_1 gm_378) rfl ⟨rfl, rfl⟩ ⟨rfl, hdX3_ifSet⟩ ⟨Nat.le_of_ble_eq_true rfl, Nat.le_of_ble_eq_true rfl⟩ rfl (Nat.le_of_ble_eq_true rfl) rfl ⟨Nat.le_of_ble_eq_true rfl, Nat.le_of_ble_eq_true rfl⟩ dL_tried_70) (fun x16 M15 => ?_)
    refine xm_istore hX (lv' := [(9, .int x16), (8, .int x14), (7, .int x12), (6, .int x10), (5, .int x8), (4, .int x6), (0, .ref (g.1 0)), (1, .int b1), (2, .int b2), (3, .int b3)]) dL_tried_73 (by decide) rfl ?_
    refine xm_aload_n hX 6 dL_tried_75 rfl rfl ?_
    refine xm_iload_n hX 9 dL_tried_76 rfl rfl ?_
    refine xm_iload hX 5 dL_tried_77 rfl ?_
    refine xm_calli hX (xm_runV hX (k := 0) (ci := 3) (As := (fun g => [.int b3, .int x6])) (kX3_set hL b3 x6 M15) (hL _ _ cL_0) rfl (xm_gV gm_140 gm_141 gm_142 gm_1 gm_143) rfl ⟨rfl, rfl⟩ ⟨rfl, hdX3_set⟩ ⟨Nat.le_of_ble_eq_true rfl, Nat.le_of_ble_eq_true rfl⟩ rfl (Nat.le_of_ble_eq_true rfl) rfl ⟨Nat.le_of_ble_eq_true rfl, Nat.le_of_ble_eq_true rfl⟩ dL_tried_79) (fun x18 M17 => ?_)
    refine xm_istore hX (lv' := [(10, .int x18), (9, .int x16), (8, .int x14), (7, .int x12), (6, .int x10), (5, .int x8), (4, .int x6), (0, .ref (g.1 0)), (1, .int b1), (2, .int b2), (3, .int b3)]) dL_tried_82 (by decide) rfl ?_
    refine xm_aload_n hX 7 dL_tried_84 rfl rfl ?_
    refine xm_iload_n hX 9 dL_tried_85 rfl rfl ?_
    refine xm_iconst hX (v := 0) rfl dL_tried_86 ?_
    refine xm_calli hX (xm_runV hX (k := 0) (ci := 3) (As := (fun g => [.int b2, .int (0 : Int32)])) (kX3_pose hL b2 (0 : Int32) M17) (hL _ _ cL_0) rfl (xm_gV gm_283 gm_284 gm_285 gm_1 gm_286) rfl ⟨rfl, rfl⟩ ⟨rfl, hdX3_pose⟩ ⟨Nat.le_of_ble_eq_true rfl, Nat.le_of_ble_eq_true rfl⟩ rfl (Nat.le_of_ble_eq_true rfl) rfl ⟨Nat.le_of_ble_eq_true rfl, Nat.le_of_ble_eq_true rfl⟩ dL_tried_87) (fun x20 M19 => ?_)
    refine xm_iload hX 5 dL_tried_90 rfl ?_
    refine xm_icmp_ne hX (tgt := 148) dL_tried_92 rfl ?_ ?_
    · refine xm_weak [7, 8, 9, 10, 6, 0] (lv' := [(0, .ref (g.1 0)), (1, .int b1), (2, .int b2), (3, .int b3), (4, .int x6), (10, .int x18)]) rfl ?_
      exact tfL_tried_148 hL hX k10 h10 b1 b2 b3 x6 x18 M19
    · refine xm_aload_n hX 7 dL_tried_95 rfl rfl ?_
      refine xm_iload_n hX 9 dL_tried_96 rfl rfl ?_
      refine xm_iconst hX (v := 1) rfl dL_tried_97 ?_
      refine xm_calli hX (xm_runV hX (k := 0) (ci := 3) (As := (fun g => [.int b2, .int (1 : Int32)])) (kX3_pose hL b2 (1 : Int32) M19) (hL _ _ cL_0) rfl (xm_gV gm_283 gm_284 gm_285 gm_1 gm_286) rfl ⟨rfl, rfl⟩ ⟨rfl, hdX3_pose⟩ ⟨Nat.le_of_ble_eq_true rfl, Nat.le_of_ble_eq_true rfl⟩ rfl (Nat.le_of_ble_eq_true rfl) rfl ⟨Nat.le_of_ble_eq_true rfl, Nat.le_of_ble_eq_true rfl⟩ dL_tried_98) (fun x27 M26 => ?_)
      refine xm_iload hX 4 dL_tried_101 rfl ?_
      refine xm_icmp_ne hX (tgt := 148) dL_tried_103 rfl ?_ ?_
      · refine xm_weak [7, 8, 9, 10, 6, 0] (lv' := [(0, .ref (g.1 0)), (1, .int b1), (2, .int b2), (3, .int b3), (4, .int x6), (10, .int x18)]) rfl ?_
        exact tfL_tried_148 hL hX k10 h10 b1 b2 b3 x6 x18 M26
      · refine xm_aload_n hX 7 dL_tried_106 rfl rfl ?_
        refine xm_iload_n hX 9 dL_tried_107 rfl rfl ?_
        refine xm_iconst hX (v := 2) rfl dL_tried_108 ?_
        refine xm_calli hX (xm_runV hX (k := 0) (ci := 3) (As := (fun g => [.int b2, .int (2 : Int32)])) (kX3_pose hL b2 (2 : Int32) M26) (hL _ _ cL_0) rfl (xm_gV gm_283 gm_284 gm_285 gm_1 gm_286) rfl ⟨rfl, rfl⟩ ⟨rfl, hdX3_pose⟩ ⟨Nat.le_of_ble_eq_true rfl, Nat.le_of_ble_eq_true rfl⟩ rfl (Nat.le_of_ble_eq_true rfl) rfl ⟨Nat.le_of_ble_eq_true rfl, Nat.le_of_ble_eq_true rfl⟩ dL_tried_109) (fun x29 M28 => ?_)
        refine xm_iload hX 3 dL_tried_112 rfl ?_
        refine xm_icmp_ne hX (tgt := 148) dL_tried_114 rfl ?_ ?_
        · refine xm_weak [7, 8, 9, 10, 6, 0] (lv' := [(0, .ref (g.1 0)), (1, .int b1), (2, .int b2), (3, .int b3), (4, .int x6), (10, .int x18)]) rfl ?_
          exact tfL_tried_148 hL hX k10 h10 b1 b2 b3 x6 x18 M28
        · refine xm_aload_n hX 7 dL_tried_117 rfl rfl ?_
          refine xm_iconst hX (v := 3) rfl dL_tried_118 ?_
          refine xm_calli hX (xm_runV hX (k := 0) (ci := 3) (As := (fun g => [.int (3 : Int32)])) (kX3_count hL (3 : Int32) M28) (hL _ _ cL_0) rfl (xm_gV gm_196 gm_197 gm_198 gm_1 gm_199) rfl ⟨rfl, rfl⟩ ⟨rfl, hdX3_count⟩ ⟨Nat.le_of_ble_eq_true rfl, Nat.le_of_ble_eq_true rfl⟩ rfl (Nat.le_of_ble_eq_true rfl) rfl ⟨Nat.le_of_ble_eq_true rfl, Nat.le_of_ble_eq_true rfl⟩ dL_tried_119) (fun x31 M30 => ?_)
          refine xm_aload_n hX 7 dL_tried_122 rfl rfl ?_
          refine xm_iconst hX (v := 4) rfl dL_tried_123 ?_
          refine xm_calli hX (xm_runV hX (k := 0) (ci := 3) (As := (fun g => [.int (4 : Int32)])) (kX3_count hL (4 : Int32) M30) (hL _ _ cL_0) rfl (xm_gV gm_196 gm_197 gm_198 gm_1 gm_199) rfl ⟨rfl, rfl⟩ ⟨rfl, hdX3_count⟩ ⟨Nat.le_of_ble_eq_true rfl, Nat.le_of_ble_eq_true rfl⟩ rfl (Nat.le_of_ble_eq_true rfl) rfl ⟨Nat.le_of_ble_eq_true rfl, Nat.le_of_ble_eq_true rfl⟩ dL_tried_124) (fun x33 M32 => ?_)
          refine xm_iadd hX dL_tried_127 ?_
          refine xm_iload hX 2 dL_tried_128 rfl ?_
          refine xm_icmp_ne hX (tgt := 148) dL_tried_130 rfl ?_ ?_
          · refine xm_weak [7, 8, 9, 10, 6, 0] (lv' := [(0, .ref (g.1 0)), (1, .int b1), (2, .int b2), (3, .int b3), (4, .int x6), (10, .int x18)]) rfl ?_
            exact tfL_tried_148 hL hX k10 h10 b1 b2 b3 x6 x18 M32
          · refine xm_aload_n hX 7 dL_tried_133 rfl rfl ?_
            refine xm_bipush hX (v := 7) rfl dL_tried_134 ?_
            refine xm_calli hX (xm_runV hX (k := 0) (ci := 3) (As := (fun g => [.int (7 : Int32)])) (kX3_count hL (7 : Int32) M32) (hL _ _ cL_0) rfl (xm_gV gm_196 gm_197 gm_198 gm_1 gm_199) rfl ⟨rfl, rfl⟩ ⟨rfl, hdX3_count⟩ ⟨Nat.le_of_ble_eq_true rfl, Nat.le_of_ble_eq_true rfl⟩ rfl (Nat.le_of_ble_eq_true rfl) rfl ⟨Nat.le_of_ble_eq_true rfl, Nat.le_of_ble_eq_true rfl⟩ dL_tried_136) (fun x35 M34 => ?_)
            refine xm_iload hX 1 dL_tried_139 rfl ?_
            refine xm_icmp_ne hX (tgt := 148) dL_tried_141 rfl ?_ ?_
            · refine xm_weak [7, 8, 9, 10, 6, 0] (lv' := [(0, .ref (g.1 0)), (1, .int b1), (2, .int b2), (3, .int b3), (4, .int x6), (10, .int x18)]) rfl ?_
              exact tfL_tried_148 hL hX k10 h10 b1 b2 b3 x6 x18 M34
            · refine xm_iconst hX (v := 1) rfl dL_tried_144 ?_
              refine xm_goto hX (tgt := 149) dL_tried_145 rfl ?_
              refine xm_weak [7, 8, 9, 10, 6, 0] (lv' := [(0, .ref (g.1 0)), (1, .int b1), (2, .int b2), (3, .int b3), (4, .int x6), (10, .int x18)]) rfl ?_
              exact tfL_tried_149 hL hX k10 h10 b1 b2 b3 x6 x18 (1 : Int32) M34
def fL_tried_10_it   (nq : Nat) : Int32 → Int32 → Int32 → xm_M → Option (Int32 × xm_M) := xm_it (fun kq => fL_tried_10 kq) (fun _ _ _ _ => none) nq
theorem tfL_tried_10_it {p : Program} {l : Launch} {e : Env} {s : State} {m : MethodId} {args : Array Value} {below : List Frame} {meth : Method} {c : Code} {D : va_G} {g : xm_G} {A : Nat → Prop}  {L : List xm_Sh} (hL : xm_pre L) (hX : xm_X p m meth c cL_tried 12 s args wL_tried RL (some .boolean) D L g A)    : ∀ (nq : Nat), ∀ (b1 : Int32), ∀ (b2 : Int32), ∀ (b3 : Int32), ∀ (M : xm_M), xm_J p l e ({ frames := 7, cells := 0, slots := 0, locals := 174 }) s m args below meth c 12 D L g A (xm_Z below args s D L g A (xm_Fi g)) 10 [(0, .ref (g.1 0)), (1, .int b1), (2, .int b2), (3, .int b3)] [] M (fL_tried_10_it  nq b1 b2 b3 M) := by
  intro nq
  induction nq with
  | zero => exact fun _ _ _ _ => xm_none
  | succ nq ih => exact tfL_tried_10 hL hX _ ih
def fL_tried  (a1 : Int32) (M : xm_M) : Option (Int32 × xm_M) :=
  xm_bi (fX3_count (0 : Int32) M) (fun x2 M1 => xm_lt (x2 - (1 : Int32)) (fun x3 => xm_lt ((0 : Int32)) (fun x4 => fL_tried_10_it xm_N a1 x3 x4 M1)))
set_option maxRecDepth 20000 in
theorem kL_tried {l : Launch} {L : List xm_Sh} (hL : xm_pre L)   (a1 : Int32) (M : xm_M) : xm_C l yL_tried wL_tried ({ frames := 7, cells := 0, slots := 0, locals := 174 }) L (fun g => [.ref (g.1 0), .int a1]) M xm_Fi (fL_tried  a1 M) := by
  refine xm_C.of (by decide) rfl (fun g => Nat.le_of_ble_eq_true rfl) ?_
  intro p e s m args below meth c D g A hX
  refine xm_lv (lv' := [(0, .ref (g.1 0)), (1, .int a1)]) rfl ?_
  unfold fL_tried
  refine xm_aload_n hX 0 dL_tried_0 rfl rfl ?_
  refine xm_iconst hX (v := 0) rfl dL_tried_1 ?_
  refine xm_calli hX (xm_runV hX (k := 0) (ci := 3) (As := (fun g => [.int (0 : Int32)])) (kX3_count hL (0 : Int32) M) (hL _ _ cL_0) rfl (xm_gV gm_196 gm_197 gm_198 gm_1 gm_199) rfl ⟨rfl, rfl⟩ ⟨rfl, hdX3_count⟩ ⟨Nat.le_of_ble_eq_true rfl, Nat.le_of_ble_eq_true rfl⟩ rfl (Nat.le_of_ble_eq_true rfl) rfl ⟨Nat.le_of_ble_eq_true rfl, Nat.le_of_ble_eq_true rfl⟩ dL_tried_2) (fun x2 M1 => ?_)
  refine xm_iconst hX (v := 1) rfl dL_tried_5 ?_
  refine xm_isub hX dL_tried_6 ?_
  refine xm_nmi (fun x3 => ?_)
  refine xm_istore_n hX (lv' := [(2, .int x3), (0, .ref (g.1 0)), (1, .int a1)]) dL_tried_7 rfl (by decide) rfl ?_
  refine xm_iconst hX (v := 0) rfl dL_tried_8 ?_
  refine xm_nmi (fun x4 => ?_)
  refine xm_istore_n hX (lv' := [(3, .int x4), (2, .int x3), (0, .ref (g.1 0)), (1, .int a1)]) dL_tried_9 rfl (by decide) rfl ?_
  refine xm_weak [2, 3, 1, 0] (lv' := [(0, .ref (g.1 0)), (1, .int a1), (2, .int x3), (3, .int x4)]) rfl ?_
  exact tfL_tried_10_it hL hX xm_N a1 x3 x4 M1
-- ===== OdometryDeskLaw.fits(LOdometryDesk;)Z ['0']
theorem dL_fits_0 : decode cL_fits 0 = .ok (.aload_n 0, 1) := by decide +kernel
theorem dL_fits_1 : decode cL_fits 1 = .ok (.invokevirtual 128, 3) := by decide +kernel
theorem dL_fits_4 : decode cL_fits 4 = .ok (.istore_n 1, 1) := by decide +kernel
theorem dL_fits_5 : decode cL_fits 5 = .ok (.aload_n 0, 1) := by decide +kernel
theorem dL_fits_6 : decode cL_fits 6 = .ok (.invokevirtual 132, 3) := by decide +kernel
theorem dL_fits_9 : decode cL_fits 9 = .ok (.istore_n 2, 1) := by decide +kernel
theorem dL_fits_10 : decode cL_fits 10 = .ok (.aload_n 0, 1) := by decide +kernel
theorem dL_fits_11 : decode cL_fits 11 = .ok (.bipush 14, 2) := by decide +kernel
theorem dL_fits_13 : decode cL_fits 13 = .ok (.invokevirtual 65, 3) := by decide +kernel
theorem dL_fits_16 : decode cL_fits 16 = .ok (.istore_n 3, 1) := by decide +kernel
theorem dL_fits_17 : decode cL_fits 17 = .ok (.aload_n 0, 1) := by decide +kernel
theorem dL_fits_18 : decode cL_fits 18 = .ok (.iconst 5, 1) := by decide +kernel
theorem dL_fits_19 : decode cL_fits 19 = .ok (.invokevirtual 65, 3) := by decide +kernel
theorem dL_fits_22 : decode cL_fits 22 = .ok (.ifCond .ne 21, 3) := by decide +kernel
theorem dL_fits_25 : decode cL_fits 25 = .ok (.iload_n 1, 1) := by decide +kernel
theorem dL_fits_26 : decode cL_fits 26 = .ok (.bipush (-6), 2) := by decide +kernel
theorem dL_fits_28 : decode cL_fits 28 = .ok (.if_icmp .ne 13, 3) := by decide +kernel
theorem dL_fits_31 : decode cL_fits 31 = .ok (.iload_n 2, 1) := by decide +kernel
theorem dL_fits_32 : decode cL_fits 32 = .ok (.bipush (-6), 2) := by decide +kernel
theorem dL_fits_34 : decode cL_fits 34 = .ok (.if_icmp .ne 7, 3) := by decide +kernel
theorem dL_fits_37 : decode cL_fits 37 = .ok (.iconst 1, 1) := by decide +kernel
theorem dL_fits_38 : decode cL_fits 38 = .ok (.goto 4, 3) := by decide +kernel
theorem dL_fits_41 : decode cL_fits 41 = .ok (.iconst 0, 1) := by decide +kernel
theorem dL_fits_42 : decode cL_fits 42 = .ok (.ireturn, 1) := by decide +kernel
theorem dL_fits_43 : decode cL_fits 43 = .ok (.iload_n 1, 1) := by decide +kernel
theorem dL_fits_44 : decode cL_fits 44 = .ok (.iload_n 3, 1) := by decide +kernel
theorem dL_fits_45 : decode cL_fits 45 = .ok (.bipush 20, 2) := by decide +kernel
theorem dL_fits_47 : decode cL_fits 47 = .ok (.isub, 1) := by decide +kernel
theorem dL_fits_48 : decode cL_fits 48 = .ok (.if_icmp .lt 41, 3) := by decide +kernel
theorem dL_fits_51 : decode cL_fits 51 = .ok (.iload_n 1, 1) := by decide +kernel
theorem dL_fits_52 : decode cL_fits 52 = .ok (.iload_n 3, 1) := by decide +kernel
theorem dL_fits_53 : decode cL_fits 53 = .ok (.bipush 20, 2) := by decide +kernel
theorem dL_fits_55 : decode cL_fits 55 = .ok (.iadd, 1) := by decide +kernel
theorem dL_fits_56 : decode cL_fits 56 = .ok (.if_icmp .gt 33, 3) := by decide +kernel
theorem dL_fits_59 : decode cL_fits 59 = .ok (.iload_n 1, 1) := by decide +kernel
theorem dL_fits_60 : decode cL_fits 60 = .ok (.bipush 100, 2) := by decide +kernel
theorem dL_fits_62 : decode cL_fits 62 = .ok (.if_icmp .lt 27, 3) := by decide +kernel
theorem dL_fits_65 : decode cL_fits 65 = .ok (.iload_n 1, 1) := by decide +kernel
theorem dL_fits_66 : decode cL_fits 66 = .ok (.sipush 1000, 3) := by decide +kernel
theorem dL_fits_69 : decode cL_fits 69 = .ok (.if_icmp .gt 20, 3) := by decide +kernel
theorem dL_fits_72 : decode cL_fits 72 = .ok (.iload_n 2, 1) := by decide +kernel
theorem dL_fits_73 : decode cL_fits 73 = .ok (.ifCond .lt 16, 3) := by decide +kernel
theorem dL_fits_76 : decode cL_fits 76 = .ok (.iload_n 2, 1) := by decide +kernel
theorem dL_fits_77 : decode cL_fits 77 = .ok (.bipush 100, 2) := by decide +kernel
theorem dL_fits_79 : decode cL_fits 79 = .ok (.if_icmp .gt 10, 3) := by decide +kernel
theorem dL_fits_82 : decode cL_fits 82 = .ok (.iload_n 2, 1) := by decide +kernel
theorem dL_fits_83 : decode cL_fits 83 = .ok (.bipush 10, 2) := by decide +kernel
theorem dL_fits_85 : decode cL_fits 85 = .ok (.irem, 1) := by decide +kernel
theorem dL_fits_86 : decode cL_fits 86 = .ok (.ifCond .eq 5, 3) := by decide +kernel
theorem dL_fits_89 : decode cL_fits 89 = .ok (.iconst 0, 1) := by decide +kernel
theorem dL_fits_90 : decode cL_fits 90 = .ok (.ireturn, 1) := by decide +kernel
theorem dL_fits_91 : decode cL_fits 91 = .ok (.aload_n 0, 1) := by decide +kernel
theorem dL_fits_92 : decode cL_fits 92 = .ok (.iconst 2, 1) := by decide +kernel
theorem dL_fits_93 : decode cL_fits 93 = .ok (.iload_n 1, 1) := by decide +kernel
theorem dL_fits_94 : decode cL_fits 94 = .ok (.iconst 4, 1) := by decide +kernel
theorem dL_fits_95 : decode cL_fits 95 = .ok (.invokevirtual 125, 3) := by decide +kernel
theorem dL_fits_98 : decode cL_fits 98 = .ok (.istore 4, 2) := by decide +kernel
theorem dL_fits_100 : decode cL_fits 100 = .ok (.iload_n 3, 1) := by decide +kernel
theorem dL_fits_101 : decode cL_fits 101 = .ok (.bipush 20, 2) := by decide +kernel
theorem dL_fits_103 : decode cL_fits 103 = .ok (.isub, 1) := by decide +kernel
theorem dL_fits_104 : decode cL_fits 104 = .ok (.istore 5, 2) := by decide +kernel
theorem dL_fits_106 : decode cL_fits 106 = .ok (.iload 5, 2) := by decide +kernel
theorem dL_fits_108 : decode cL_fits 108 = .ok (.iload_n 3, 1) := by decide +kernel
theorem dL_fits_109 : decode cL_fits 109 = .ok (.bipush 20, 2) := by decide +kernel
theorem dL_fits_111 : decode cL_fits 111 = .ok (.iadd, 1) := by decide +kernel
theorem dL_fits_112 : decode cL_fits 112 = .ok (.if_icmp .gt 76, 3) := by decide +kernel
theorem dL_fits_115 : decode cL_fits 115 = .ok (.iload 5, 2) := by decide +kernel
theorem dL_fits_117 : decode cL_fits 117 = .ok (.bipush 100, 2) := by decide +kernel
theorem dL_fits_119 : decode cL_fits 119 = .ok (.if_icmp .lt 63, 3) := by decide +kernel
theorem dL_fits_122 : decode cL_fits 122 = .ok (.iload 5, 2) := by decide +kernel
theorem dL_fits_124 : decode cL_fits 124 = .ok (.sipush 1000, 3) := by decide +kernel
theorem dL_fits_127 : decode cL_fits 127 = .ok (.if_icmp .le 6, 3) := by decide +kernel
theorem dL_fits_130 : decode cL_fits 130 = .ok (.goto 52, 3) := by decide +kernel
theorem dL_fits_133 : decode cL_fits 133 = .ok (.aload_n 0, 1) := by decide +kernel
theorem dL_fits_134 : decode cL_fits 134 = .ok (.iconst 2, 1) := by decide +kernel
theorem dL_fits_135 : decode cL_fits 135 = .ok (.iload 5, 2) := by decide +kernel
theorem dL_fits_137 : decode cL_fits 137 = .ok (.iconst 4, 1) := by decide +kernel
theorem dL_fits_138 : decode cL_fits 138 = .ok (.invokevirtual 125, 3) := by decide +kernel
theorem dL_fits_141 : decode cL_fits 141 = .ok (.istore 6, 2) := by decide +kernel
theorem dL_fits_143 : decode cL_fits 143 = .ok (.iload 6, 2) := by decide +kernel
theorem dL_fits_145 : decode cL_fits 145 = .ok (.iload 4, 2) := by decide +kernel
theorem dL_fits_147 : decode cL_fits 147 = .ok (.if_icmp .lt 33, 3) := by decide +kernel
theorem dL_fits_150 : decode cL_fits 150 = .ok (.iload 6, 2) := by decide +kernel
theorem dL_fits_152 : decode cL_fits 152 = .ok (.iload 4, 2) := by decide +kernel
theorem dL_fits_154 : decode cL_fits 154 = .ok (.if_icmp .ne 28, 3) := by decide +kernel
theorem dL_fits_157 : decode cL_fits 157 = .ok (.iload 4, 2) := by decide +kernel
theorem dL_fits_159 : decode cL_fits 159 = .ok (.ldc 135, 2) := by decide +kernel
theorem dL_fits_161 : decode cL_fits 161 = .ok (.if_icmp .ge 21, 3) := by decide +kernel
theorem dL_fits_164 : decode cL_fits 164 = .ok (.iload 5, 2) := by decide +kernel
theorem dL_fits_166 : decode cL_fits 166 = .ok (.iload_n 3, 1) := by decide +kernel
theorem dL_fits_167 : decode cL_fits 167 = .ok (.isub, 1) := by decide +kernel
theorem dL_fits_168 : decode cL_fits 168 = .ok (.invokestatic 88, 3) := by decide +kernel
theorem dL_fits_171 : decode cL_fits 171 = .ok (.iload_n 1, 1) := by decide +kernel
theorem dL_fits_172 : decode cL_fits 172 = .ok (.iload_n 3, 1) := by decide +kernel
theorem dL_fits_173 : decode cL_fits 173 = .ok (.isub, 1) := by decide +kernel
theorem dL_fits_174 : decode cL_fits 174 = .ok (.invokestatic 88, 3) := by decide +kernel
theorem dL_fits_177 : decode cL_fits 177 = .ok (.if_icmp .ge 5, 3) := by decide +kernel
theorem dL_fits_180 : decode cL_fits 180 = .ok (.iconst 0, 1) := by decide +kernel
theorem dL_fits_181 : decode cL_fits 181 = .ok (.ireturn, 1) := by decide +kernel
theorem dL_fits_182 : decode cL_fits 182 = .ok (.iinc 5 1, 3) := by decide +kernel
theorem dL_fits_185 : decode cL_fits 185 = .ok (.goto (-79), 3) := by decide +kernel
theorem dL_fits_188 : decode cL_fits 188 = .ok (.aload_n 0, 1) := by decide +kernel
theorem dL_fits_189 : decode cL_fits 189 = .ok (.iconst 4, 1) := by decide +kernel
theorem dL_fits_190 : decode cL_fits 190 = .ok (.iload_n 2, 1) := by decide +kernel
theorem dL_fits_191 : decode cL_fits 191 = .ok (.iconst 4, 1) := by decide +kernel
theorem dL_fits_192 : decode cL_fits 192 = .ok (.invokevirtual 125, 3) := by decide +kernel
theorem dL_fits_195 : decode cL_fits 195 = .ok (.istore 5, 2) := by decide +kernel
theorem dL_fits_197 : decode cL_fits 197 = .ok (.iconst 0, 1) := by decide +kernel
theorem dL_fits_198 : decode cL_fits 198 = .ok (.istore 6, 2) := by decide +kernel
theorem dL_fits_200 : decode cL_fits 200 = .ok (.iload 6, 2) := by decide +kernel
theorem dL_fits_202 : decode cL_fits 202 = .ok (.bipush 100, 2) := by decide +kernel
theorem dL_fits_204 : decode cL_fits 204 = .ok (.if_icmp .gt 50, 3) := by decide +kernel
theorem dL_fits_207 : decode cL_fits 207 = .ok (.aload_n 0, 1) := by decide +kernel
theorem dL_fits_208 : decode cL_fits 208 = .ok (.iconst 4, 1) := by decide +kernel
theorem dL_fits_209 : decode cL_fits 209 = .ok (.iload 6, 2) := by decide +kernel
theorem dL_fits_211 : decode cL_fits 211 = .ok (.iconst 4, 1) := by decide +kernel
theorem dL_fits_212 : decode cL_fits 212 = .ok (.invokevirtual 125, 3) := by decide +kernel
theorem dL_fits_215 : decode cL_fits 215 = .ok (.iload 5, 2) := by decide +kernel
theorem dL_fits_217 : decode cL_fits 217 = .ok (.if_icmp .lt 29, 3) := by decide +kernel
theorem dL_fits_220 : decode cL_fits 220 = .ok (.iload 6, 2) := by decide +kernel
theorem dL_fits_222 : decode cL_fits 222 = .ok (.iload_n 2, 1) := by decide +kernel
theorem dL_fits_223 : decode cL_fits 223 = .ok (.if_icmp .ge 25, 3) := by decide +kernel
theorem dL_fits_226 : decode cL_fits 226 = .ok (.aload_n 0, 1) := by decide +kernel
theorem dL_fits_227 : decode cL_fits 227 = .ok (.iconst 4, 1) := by decide +kernel
theorem dL_fits_228 : decode cL_fits 228 = .ok (.iload 6, 2) := by decide +kernel
theorem dL_fits_230 : decode cL_fits 230 = .ok (.iconst 4, 1) := by decide +kernel
theorem dL_fits_231 : decode cL_fits 231 = .ok (.invokevirtual 125, 3) := by decide +kernel
theorem dL_fits_234 : decode cL_fits 234 = .ok (.iload 5, 2) := by decide +kernel
theorem dL_fits_236 : decode cL_fits 236 = .ok (.if_icmp .ne 12, 3) := by decide +kernel
theorem dL_fits_239 : decode cL_fits 239 = .ok (.iload 5, 2) := by decide +kernel
theorem dL_fits_241 : decode cL_fits 241 = .ok (.ldc 135, 2) := by decide +kernel
theorem dL_fits_243 : decode cL_fits 243 = .ok (.if_icmp .ge 5, 3) := by decide +kernel
theorem dL_fits_246 : decode cL_fits 246 = .ok (.iconst 0, 1) := by decide +kernel
theorem dL_fits_247 : decode cL_fits 247 = .ok (.ireturn, 1) := by decide +kernel
theorem dL_fits_248 : decode cL_fits 248 = .ok (.iinc 6 10, 3) := by decide +kernel
theorem dL_fits_251 : decode cL_fits 251 = .ok (.goto (-51), 3) := by decide +kernel
theorem dL_fits_254 : decode cL_fits 254 = .ok (.iconst 1, 1) := by decide +kernel
theorem dL_fits_255 : decode cL_fits 255 = .ok (.ireturn, 1) := by decide +kernel
abbrev wL_fits : List Cond := .code yL_fits cL_fits 7 (some .boolean) :: lw_gd
theorem hdL_fits : (yL_fits.cls ≠ "java/lang/invoke/MethodHandle" ∧ yL_fits.cls ≠ "java/lang/invoke/VarHandle" ∧ (parseMethodDescriptor yL_fits.desc).map (fun d => d.parameters.length) = some 1) := by decide +kernel
def fL_fits_248  (k200 : Int32 → Int32 → Int32 → xm_M → Option (Int32 × xm_M)) (b2 : Int32) (b5 : Int32) (b6 : Int32) (M : xm_M) : Option (Int32 × xm_M) :=
  xm_lt (b6 + Int32.ofInt 10) (fun x17 => k200 b2 b5 x17 M)
set_option maxRecDepth 20000 in
theorem tfL_fits_248 {p : Program} {l : Launch} {e : Env} {s : State} {m : MethodId} {args : Array Value} {below : List Frame} {meth : Method} {c : Code} {D : va_G} {g : xm_G} {A : Nat → Prop}  {L : List xm_Sh} (hL : xm_pre L) (hX : xm_X p m meth c cL_fits 7 s args wL_fits RL (some .boolean) D L g A)  (k200 : Int32 → Int32 → Int32 → xm_M → Option (Int32 × xm_M)) (h200 : ∀ (b2 : Int32), ∀ (b5 : Int32), ∀ (b6 : Int32), ∀ (M : xm_M), xm_J p l e ({ frames := 7, cells := 0, slots := 0, locals := 179 }) s m args below meth c 7 D L g A (xm_Z below args s D L g A (xm_Fi g)) 200 [(0, .ref (g.1 0)), (2, .int b2), (5, .int b5), (6, .int b6)] [] M (k200 b2 b5 b6 M)) : ∀ (b2 : Int32), ∀ (b5 : Int32), ∀ (b6 : Int32), ∀ (M : xm_M), xm_J p l e ({ frames := 7, cells := 0, slots := 0, locals := 179 }) s m args below meth c 7 D L g A (xm_Z below args s D L g A (xm_Fi g)) 248 [(0, .ref (g.1 0)), (2, .int b2), (5, .int b5), (6, .int b6)] [] M (fL_fits_248 k200 b2 b5 b6 M) := by
  intro b2 b5 b6 M
  unfold fL_fits_248
  refine xm_iinc hX (lv2 := fun x17 => [(6, .int x17), (0, .ref (g.1 0)), (2, .int b2), (5, .int b5)]) 3 dL_fits_248 rfl (by decide) (fun _ => rfl) (fun x17 => ?_)
  refine xm_goto hX (tgt := 200) dL_fits_251 rfl ?_
  refine xm_weak [1, 2, 3, 0] (lv' := [(0, .ref (g.1 0)), (2, .int b2), (5, .int b5), (6, .int x17)]) rfl ?_
  exact h200 b2 b5 x17 M
def fL_fits_200  (k200 : Int32 → Int32 → Int32 → xm_M → Option (Int32 × xm_M)) (b2 : Int32) (b5 : Int32) (b6 : Int32) (M : xm_M) : Option (Int32 × xm_M) :=
  if (100 : Int32) < b6 then some ((1 : Int32), M) else xm_bi (fX3_ifSet (4 : Int32) b6 (4 : Int32) M) (fun x16 M15 => if x16 < b5 then some ((0 : Int32), M15) else if b2 ≤ b6 then fL_fits_248 k200 b2 b5 b6 M15 else xm_bi (fX3_ifSet (4 : Int32) b6 (4 : Int32) M15) (fun x19 M18 => if x19 = b5 then if (2000000000 : Int32) ≤ b5 then fL_fits_248 k200 b2 b5 b6 M18 else some ((0 : Int32), M18) else fL_fits_248 k200 b2 b5 b6 M18))
set_option maxRecDepth 20000 in
theorem tfL_fits_200 {p : Program} {l : Launch} {e : Env} {s : State} {m : MethodId} {args : Array Value} {below : List Frame} {meth : Method} {c : Code} {D : va_G} {g : xm_G} {A : Nat → Prop}  {L : List xm_Sh} (hL : xm_pre L) (hX : xm_X p m meth c cL_fits 7 s args wL_fits RL (some .boolean) D L g A)  (k200 : Int32 → Int32 → Int32 → xm_M → Option (Int32 × xm_M)) (h200 : ∀ (b2 : Int32), ∀ (b5 : Int32), ∀ (b6 : Int32), ∀ (M : xm_M), xm_J p l e ({ frames := 7, cells := 0, slots := 0, locals := 179 }) s m args below meth c 7 D L g A (xm_Z below args s D L g A (xm_Fi g)) 200 [(0, .ref (g.1 0)), (2, .int b2), (5, .int b5), (6, .int b6)] [] M (k200 b2 b5 b6 M)) : ∀ (b2 : Int32), ∀ (b5 : Int32), ∀ (b6 : Int32), ∀ (M : xm_M), xm_J p l e ({ frames := 7, cells := 0, slots := 0, locals := 179 }) s m args below meth c 7 D L g A (xm_Z below args s D L g A (xm_Fi g)) 200 [(0, .ref (g.1 0)), (2, .int b2), (5, .int b5), (6, .int b6)] [] M (fL_fits_200 k200 b2 b5 b6 M) := by
  intro b2 b5 b6 M
  unfold fL_fits_200
  refine xm_iload hX 3 dL_fits_200 rfl ?_
  refine xm_bipush hX (v := 100) rfl dL_fits_202 ?_
  refine xm_icmp_gt hX (tgt := 254) dL_fits_204 rfl ?_ ?_
  · refine xm_iconst hX (v := 1) rfl dL_fits_254 ?_
    exact xm_zretL hX (by decide) dL_fits_255
  · refine xm_aload_n hX 0 dL_fits_207 rfl rfl ?_
    refine xm_iconst hX (v := 4) rfl dL_fits_208 ?_
    refine xm_iload hX 3 dL_fits_209 rfl ?_
    refine xm_iconst hX (v := 4) rfl dL_fits_211 ?_
    refine xm_calli hX (xm_runV hX (k := 0) (ci := 3) (As := (fun g => [.int (4 : Int32), .int b6, .int (4 : Int32)])) (kX3_ifSet hL (4 : Int32) b6 (4 : Int32) M) (hL _ _ cL_0) rfl (xm_gV gm_375 gm_376 gm_377 gm_1 gm_378) rfl ⟨rfl, rfl⟩ ⟨rfl, hdX3_ifSet⟩ ⟨Nat.le_of_ble_eq_true rfl, Nat.le_of_ble_eq_true rfl⟩ rfl (Nat.le_of_ble_eq_true rfl) rfl ⟨Nat.le_of_ble_eq_true rfl, Nat.le_of_ble_eq_true rfl⟩ dL_fits_212) (fun x16 M15 => ?_)
    refine xm_iload hX 2 dL_fits_215 rfl ?_
    refine xm_icmp_lt hX (tgt := 246) dL_fits_217 rfl ?_ ?_
    · refine xm_iconst hX (v := 0) rfl dL_fits_246 ?_
      exact xm_zretL hX (by decide) dL_fits_247
    · refine xm_iload hX 3 dL_fits_220 rfl ?_
      refine xm_iload_n hX 1 dL_fits_222 rfl rfl ?_
      refine xm_icmp_ge hX (tgt := 248) dL_fits_223 rfl ?_ ?_
      · exact tfL_fits_248 hL hX k200 h200 b2 b5 b6 M15
      · refine xm_aload_n hX 0 dL_fits_226 rfl rfl ?_
        refine xm_iconst hX (v := 4) rfl dL_fits_227 ?_
        refine xm_iload hX 3 dL_fits_228 rfl ?_
        refine xm_iconst hX (v := 4) rfl dL_fits_230 ?_
        refine xm_calli hX (xm_runV hX (k := 0) (ci := 3) (As := (fun g => [.int (4 : Int32), .int b6, .int (4 : Int32)])) (kX3_ifSet hL (4 : Int32) b6 (4 : Int32) M15) (hL _ _ cL_0) rfl (xm_gV gm_375 gm_376 gm_377 gm_1 gm_378) rfl ⟨rfl, rfl⟩ ⟨rfl, hdX3_ifSet⟩ ⟨Nat.le_of_ble_eq_true rfl, Nat.le_of_ble_eq_true rfl⟩ rfl (Nat.le_of_ble_eq_true rfl) rfl ⟨Nat.le_of_ble_eq_true rfl, Nat.le_of_ble_eq_true rfl⟩ dL_fits_231) (fun x19 M18 => ?_)
        refine xm_iload hX 2 dL_fits_234 rfl ?_
        refine xm_icmp_ne hX (tgt := 248) dL_fits_236 rfl ?_ ?_
        · exact tfL_fits_248 hL hX k200 h200 b2 b5 b6 M18
        · refine xm_iload hX 2 dL_fits_239 rfl ?_
          refine xm_ldc hX (v := 2000000000) (List.mem_cons_of_mem _ gm_404) dL_fits_241 ?_
          refine xm_icmp_ge hX (tgt := 248) dL_fits_243 rfl ?_ ?_
          · exact tfL_fits_248 hL hX k200 h200 b2 b5 b6 M18
          · refine xm_iconst hX (v := 0) rfl dL_fits_246 ?_
            exact xm_zretL hX (by decide) dL_fits_247
def fL_fits_200_it   (nq : Nat) : Int32 → Int32 → Int32 → xm_M → Option (Int32 × xm_M) := xm_it (fun kq => fL_fits_200 kq) (fun _ _ _ _ => none) nq
theorem tfL_fits_200_it {p : Program} {l : Launch} {e : Env} {s : State} {m : MethodId} {args : Array Value} {below : List Frame} {meth : Method} {c : Code} {D : va_G} {g : xm_G} {A : Nat → Prop}  {L : List xm_Sh} (hL : xm_pre L) (hX : xm_X p m meth c cL_fits 7 s args wL_fits RL (some .boolean) D L g A)    : ∀ (nq : Nat), ∀ (b2 : Int32), ∀ (b5 : Int32), ∀ (b6 : Int32), ∀ (M : xm_M), xm_J p l e ({ frames := 7, cells := 0, slots := 0, locals := 179 }) s m args below meth c 7 D L g A (xm_Z below args s D L g A (xm_Fi g)) 200 [(0, .ref (g.1 0)), (2, .int b2), (5, .int b5), (6, .int b6)] [] M (fL_fits_200_it  nq b2 b5 b6 M) := by
  intro nq
  induction nq with
  | zero => exact fun _ _ _ _ => xm_none
  | succ nq ih => exact tfL_fits_200 hL hX _ ih
def fL_fits_182  (k106 : Int32 → Int32 → Int32 → Int32 → Int32 → xm_M → Option (Int32 × xm_M)) (b1 : Int32) (b2 : Int32) (b3 : Int32) (b4 : Int32) (b5 : Int32) (M : xm_M) : Option (Int32 × xm_M) :=
  xm_lt (b5 + Int32.ofInt 1) (fun x20 => k106 b1 b2 b3 b4 x20 M)
set_option maxRecDepth 20000 in
theorem tfL_fits_182 {p : Program} {l : Launch} {e : Env} {s : State} {m : MethodId} {args : Array Value} {below : List Frame} {meth : Method} {c : Code} {D : va_G} {g : xm_G} {A : Nat → Prop}  {L : List xm_Sh} (hL : xm_pre L) (hX : xm_X p m meth c cL_fits 7 s args wL_fits RL (some .boolean) D L g A)  (k106 : Int32 → Int32 → Int32 → Int32 → Int32 → xm_M → Option (Int32 × xm_M)) (h106 : ∀ (b1 : Int32), ∀ (b2 : Int32), ∀ (b3 : Int32), ∀ (b4 : Int32), ∀ (b5 : Int32), ∀ (M : xm_M), xm_J p l e ({ frames := 7, cells := 0, slots := 0, locals := 179 }) s m args below meth c 7 D L g A (xm_Z below args s D L g A (xm_Fi g)) 106 [(0, .ref (g.1 0)), (1, .int b1), (2, .int b2), (3, .int b3), (4, .int b4), (5, .int b5)] [] M (k106 b1 b2 b3 b4 b5 M)) : ∀ (b1 : Int32), ∀ (b2 : Int32), ∀ (b3 : Int32), ∀ (b4 : Int32), ∀ (b5 : Int32), ∀ (M : xm_M), xm_J p l e ({ frames := 7, cells := 0, slots := 0, locals := 179 }) s m args below meth c 7 D L g A (xm_Z below args s D L g A (xm_Fi g)) 182 [(0, .ref (g.1 0)), (1, .int b1), (2, .int b2), (3, .int b3), (4, .int b4), (5, .int b5)] [] M (fL_fits_182 k106 b1 b2 b3 b4 b5 M) := by
  intro b1 b2 b3 b4 b5 M
  unfold fL_fits_182
  refine xm_iinc hX (lv2 := fun x20 => [(5, .int x20), (0, .ref (g.1 0)), (1, .int b1), (2, .int b2), (3, .int b3), (4, .int b4)]) 5 dL_fits_182 rfl (by decide) (fun _ => rfl) (fun x20 => ?_)
  refine xm_goto hX (tgt := 106) dL_fits_185 rfl ?_
  refine xm_weak [1, 2, 3, 4, 5, 0] (lv' := [(0, .ref (g.1 0)), (1, .int b1), (2, .int b2), (3, .int b3), (4, .int b4), (5, .int x20)]) rfl ?_
  exact h106 b1 b2 b3 b4 x20 M
def fL_fits_106  (k106 : Int32 → Int32 → Int32 → Int32 → Int32 → xm_M → Option (Int32 × xm_M)) (b1 : Int32) (b2 : Int32) (b3 : Int32) (b4 : Int32) (b5 : Int32) (M : xm_M) : Option (Int32 × xm_M) :=
  if (b3 + (20 : Int32)) < b5 then xm_bi (fX3_ifSet (4 : Int32) b2 (4 : Int32) M) (fun x13 M12 => xm_lt ((0 : Int32)) (fun x14 => fL_fits_200_it xm_N b2 x13 x14 M12)) else if b5 < (100 : Int32) then fL_fits_182 k106 b1 b2 b3 b4 b5 M else if b5 ≤ (1000 : Int32) then xm_bi (fX3_ifSet (2 : Int32) b5 (4 : Int32) M) (fun x22 M21 => if x22 < b4 then some ((0 : Int32), M21) else if x22 = b4 then if (2000000000 : Int32) ≤ b4 then fL_fits_182 k106 b1 b2 b3 b4 b5 M21 else xm_bi (fL_size (b5 - b3) M21) (fun x24 M23 => xm_bi (fL_size (b1 - b3) M23) (fun x26 M25 => if x26 ≤ x24 then fL_fits_182 k106 b1 b2 b3 b4 b5 M25 else some ((0 : Int32), M25))) else fL_fits_182 k106 b1 b2 b3 b4 b5 M21) else fL_fits_182 k106 b1 b2 b3 b4 b5 M
set_option maxRecDepth 20000 in
theorem tfL_fits_106 {p : Program} {l : Launch} {e : Env} {s : State} {m : MethodId} {args : Array Value} {below : List Frame} {meth : Method} {c : Code} {D : va_G} {g : xm_G} {A : Nat → Prop}  {L : List xm_Sh} (hL : xm_pre L) (hX : xm_X p m meth c cL_fits 7 s args wL_fits RL (some .boolean) D L g A)  (k106 : Int32 → Int32 → Int32 → Int32 → Int32 → xm_M → Option (Int32 × xm_M)) (h106 : ∀ (b1 : Int32), ∀ (b2 : Int32), ∀ (b3 : Int32), ∀ (b4 : Int32), ∀ (b5 : Int32), ∀ (M : xm_M), xm_J p l e ({ frames := 7, cells := 0, slots := 0, locals := 179 }) s m args below meth c 7 D L g A (xm_Z below args s D L g A (xm_Fi g)) 106 [(0, .ref (g.1 0)), (1, .int b1), (2, .int b2), (3, .int b3), (4, .int b4), (5, .int b5)] [] M (k106 b1 b2 b3 b4 b5 M)) : ∀ (b1 : Int32), ∀ (b2 : Int32), ∀ (b3 : Int32), ∀ (b4 : Int32), ∀ (b5 : Int32), ∀ (M : xm_M), xm_J p l e ({ frames := 7, cells := 0, slots := 0, locals := 179 }) s m args below meth c 7 D L g A (xm_Z below args s D L g A (xm_Fi g)) 106 [(0, .ref (g.1 0)), (1, .int b1), (2, .int b2), (3, .int b3), (4, .int b4), (5, .int b5)] [] M (fL_fits_106 k106 b1 b2 b3 b4 b5 M) := by
  intro b1 b2 b3 b4 b5 M
  unfold fL_fits_106
  refine xm_iload hX 5 dL_fits_106 rfl ?_
  refine xm_iload_n hX 3 dL_fits_108 rfl rfl ?_
  refine xm_bipush hX (v := 20) rfl dL_fits_109 ?_
  refine xm_iadd hX dL_fits_111 ?_
  refine xm_icmp_gt hX (tgt := 188) dL_fits_112 rfl ?_ ?_
  · refine xm_aload_n hX 0 dL_fits_188 rfl rfl ?_
    refine xm_iconst hX (v := 4) rfl dL_fits_189 ?_
    refine xm_iload_n hX 2 dL_fits_190 rfl rfl ?_
    refine xm_iconst hX (v := 4) rfl dL_fits_191 ?_
    refine xm_calli hX (xm_runV hX (k := 0) (ci := 3) (As := (fun g => [.int (4 : Int32), .int b2, .int (4 : Int32)])) (kX3_ifSet hL (4 : Int32) b2 (4 : Int32) M) (hL _ _ cL_0) rfl (xm_gV gm_375 gm_376 gm_377 gm_1 gm_378) rfl ⟨rfl, rfl⟩ ⟨rfl, hdX3_ifSet⟩ ⟨Nat.le_of_ble_eq_true rfl, Nat.le_of_ble_eq_true rfl⟩ rfl (Nat.le_of_ble_eq_true rfl) rfl ⟨Nat.le_of_ble_eq_true rfl, Nat.le_of_ble_eq_true rfl⟩ dL_fits_192) (fun x13 M12 => ?_)
    refine xm_istore hX (lv' := [(5, .int x13), (0, .ref (g.1 0)), (1, .int b1), (2, .int b2), (3, .int b3), (4, .int b4)]) dL_fits_195 (by decide) rfl ?_
    refine xm_iconst hX (v := 0) rfl dL_fits_197 ?_
    refine xm_nmi (fun x14 => ?_)
    refine xm_istore hX (lv' := [(6, .int x14), (5, .int x13), (0, .ref (g.1 0)), (1, .int b1), (2, .int b2), (3, .int b3), (4, .int b4)]) dL_fits_198 (by decide) rfl ?_
    refine xm_weak [2, 4, 1, 0] (lv' := [(0, .ref (g.1 0)), (2, .int b2), (5, .int x13), (6, .int x14)]) rfl ?_
    exact tfL_fits_200_it hL hX xm_N b2 x13 x14 M12
  · refine xm_iload hX 5 dL_fits_115 rfl ?_
    refine xm_bipush hX (v := 100) rfl dL_fits_117 ?_
    refine xm_icmp_lt hX (tgt := 182) dL_fits_119 rfl ?_ ?_
    · exact tfL_fits_182 hL hX k106 h106 b1 b2 b3 b4 b5 M
    · refine xm_iload hX 5 dL_fits_122 rfl ?_
      refine xm_sipush hX (v := 1000) rfl dL_fits_124 ?_
      refine xm_icmp_le hX (tgt := 133) dL_fits_127 rfl ?_ ?_
      · refine xm_aload_n hX 0 dL_fits_133 rfl rfl ?_
        refine xm_iconst hX (v := 2) rfl dL_fits_134 ?_
        refine xm_iload hX 5 dL_fits_135 rfl ?_
        refine xm_iconst hX (v := 4) rfl dL_fits_137 ?_
        refine xm_calli hX (xm_runV hX (k := 0) (ci := 3) (As := (fun g => [.int (2 : Int32), .int b5, .int (4 : Int32)])) (kX3_ifSet hL (2 : Int32) b5 (4 : Int32) M) (hL _ _ cL_0) rfl (xm_gV gm_375 gm_376 gm_377 gm_1 gm_378) rfl ⟨rfl, rfl⟩ ⟨rfl, hdX3_ifSet⟩ ⟨Nat.le_of_ble_eq_true rfl, Nat.le_of_ble_eq_true rfl⟩ rfl (Nat.le_of_ble_eq_true rfl) rfl ⟨Nat.le_of_ble_eq_true rfl, Nat.le_of_ble_eq_true rfl⟩ dL_fits_138) (fun x22 M21 => ?_)
        refine xm_istore hX (lv' := [(6, .int x22), (0, .ref (g.1 0)), (1, .int b1), (2, .int b2), (3, .int b3), (4, .int b4), (5, .int b5)]) dL_fits_141 (by decide) rfl ?_
        refine xm_iload hX 0 dL_fits_143 rfl ?_
        refine xm_iload hX 5 dL_fits_145 rfl ?_
        refine xm_icmp_lt hX (tgt := 180) dL_fits_147 rfl ?_ ?_
        · refine xm_iconst hX (v := 0) rfl dL_fits_180 ?_
          exact xm_zretL hX (by decide) dL_fits_181
        · refine xm_iload hX 0 dL_fits_150 rfl ?_
          refine xm_iload hX 5 dL_fits_152 rfl ?_
          refine xm_icmp_ne hX (tgt := 182) dL_fits_154 rfl ?_ ?_
          · refine xm_weak [1, 2, 3, 4, 5, 6] (lv' := [(0, .ref (g.1 0)), (1, .int b1), (2, .int b2), (3, .int b3), (4, .int b4), (5, .int b5)]) rfl ?_
            exact tfL_fits_182 hL hX k106 h106 b1 b2 b3 b4 b5 M21
          · refine xm_iload hX 5 dL_fits_157 rfl ?_
            refine xm_ldc hX (v := 2000000000) (List.mem_cons_of_mem _ gm_404) dL_fits_159 ?_
            refine xm_icmp_ge hX (tgt := 182) dL_fits_161 rfl ?_ ?_
            · refine xm_weak [1, 2, 3, 4, 5, 6] (lv' := [(0, .ref (g.1 0)), (1, .int b1), (2, .int b2), (3, .int b3), (4, .int b4), (5, .int b5)]) rfl ?_
              exact tfL_fits_182 hL hX k106 h106 b1 b2 b3 b4 b5 M21
            · refine xm_iload hX 6 dL_fits_164 rfl ?_
              refine xm_iload_n hX 4 dL_fits_166 rfl rfl ?_
              refine xm_isub hX dL_fits_167 ?_
              refine xm_calli hX (xm_runS hX (As := (fun g => [.int (b5 - b3)])) (kL_size hL (b5 - b3) M21) (xm_gS gm_336 gm_337 gm_0 gm_338) rfl ⟨rfl, rfl⟩ hdL_size ⟨Nat.le_of_ble_eq_true rfl, Nat.le_of_ble_eq_true rfl⟩ rfl (Nat.le_of_ble_eq_true rfl) rfl ⟨Nat.le_of_ble_eq_true rfl, Nat.le_of_ble_eq_true rfl⟩ dL_fits_168) (fun x24 M23 => ?_)
              refine xm_iload_n hX 2 dL_fits_171 rfl rfl ?_
              refine xm_iload_n hX 4 dL_fits_172 rfl rfl ?_
              refine xm_isub hX dL_fits_173 ?_
              refine xm_calli hX (xm_runS hX (As := (fun g => [.int (b1 - b3)])) (kL_size hL (b1 - b3) M23) (xm_gS gm_336 gm_337 gm_0 gm_338) rfl ⟨rfl, rfl⟩ hdL_size ⟨Nat.le_of_ble_eq_true rfl, Nat.le_of_ble_eq_true rfl⟩ rfl (Nat.le_of_ble_eq_true rfl) rfl ⟨Nat.le_of_ble_eq_true rfl, Nat.le_of_ble_eq_true rfl⟩ dL_fits_174) (fun x26 M25 => ?_)
              refine xm_icmp_ge hX (tgt := 182) dL_fits_177 rfl ?_ ?_
              · refine xm_weak [1, 2, 3, 4, 5, 6] (lv' := [(0, .ref (g.1 0)), (1, .int b1), (2, .int b2), (3, .int b3), (4, .int b4), (5, .int b5)]) rfl ?_
                exact tfL_fits_182 hL hX k106 h106 b1 b2 b3 b4 b5 M25
              · refine xm_iconst hX (v := 0) rfl dL_fits_180 ?_
                exact xm_zretL hX (by decide) dL_fits_181
      · refine xm_goto hX (tgt := 182) dL_fits_130 rfl ?_
        exact tfL_fits_182 hL hX k106 h106 b1 b2 b3 b4 b5 M
def fL_fits_106_it   (nq : Nat) : Int32 → Int32 → Int32 → Int32 → Int32 → xm_M → Option (Int32 × xm_M) := xm_it (fun kq => fL_fits_106 kq) (fun _ _ _ _ _ _ => none) nq
theorem tfL_fits_106_it {p : Program} {l : Launch} {e : Env} {s : State} {m : MethodId} {args : Array Value} {below : List Frame} {meth : Method} {c : Code} {D : va_G} {g : xm_G} {A : Nat → Prop}  {L : List xm_Sh} (hL : xm_pre L) (hX : xm_X p m meth c cL_fits 7 s args wL_fits RL (some .boolean) D L g A)    : ∀ (nq : Nat), ∀ (b1 : Int32), ∀ (b2 : Int32), ∀ (b3 : Int32), ∀ (b4 : Int32), ∀ (b5 : Int32), ∀ (M : xm_M), xm_J p l e ({ frames := 7, cells := 0, slots := 0, locals := 179 }) s m args below meth c 7 D L g A (xm_Z below args s D L g A (xm_Fi g)) 106 [(0, .ref (g.1 0)), (1, .int b1), (2, .int b2), (3, .int b3), (4, .int b4), (5, .int b5)] [] M (fL_fits_106_it  nq b1 b2 b3 b4 b5 M) := by
  intro nq
  induction nq with
  | zero => exact fun _ _ _ _ _ _ => xm_none
  | succ nq ih => exact tfL_fits_106 hL hX _ ih
def fL_fits   (M : xm_M) : Option (Int32 × xm_M) :=
  xm_bi (fX3_bestBase M) (fun x2 M1 => xm_bi (fX3_bestTrust M1) (fun x4 M3 => xm_bi (fX3_count (14 : Int32) M3) (fun x6 M5 => xm_bi (fX3_count (5 : Int32) M5) (fun x8 M7 => if x8 = 0 then if x2 = (-6 : Int32) then if x4 = (-6 : Int32) then some ((1 : Int32), M7) else some ((0 : Int32), M7) else some ((0 : Int32), M7) else if x2 < (x6 - (20 : Int32)) then some ((0 : Int32), M7) else if (x6 + (20 : Int32)) < x2 then some ((0 : Int32), M7) else if x2 < (100 : Int32) then some ((0 : Int32), M7) else if (1000 : Int32) < x2 then some ((0 : Int32), M7) else if x4 < 0 then some ((0 : Int32), M7) else if (100 : Int32) < x4 then some ((0 : Int32), M7) else if (x4 - x4 / (10 : Int32) * (10 : Int32)) = 0 then xm_bi (fX3_ifSet (2 : Int32) x2 (4 : Int32) M7) (fun x10 M9 => xm_lt (x6 - (20 : Int32)) (fun x11 => fL_fits_106_it xm_N x2 x4 x6 x10 x11 M9)) else some ((0 : Int32), M7)))))
set_option maxRecDepth 20000 in
theorem kL_fits {l : Launch} {L : List xm_Sh} (hL : xm_pre L)    (M : xm_M) : xm_C l yL_fits wL_fits ({ frames := 7, cells := 0, slots := 0, locals := 179 }) L (fun g => [.ref (g.1 0)]) M xm_Fi (fL_fits   M) := by
  refine xm_C.of (by decide) rfl (fun g => Nat.le_of_ble_eq_true rfl) ?_
  intro p e s m args below meth c D g A hX
  refine xm_lv (lv' := [(0, .ref (g.1 0))]) rfl ?_
  unfold fL_fits
  refine xm_aload_n hX 0 dL_fits_0 rfl rfl ?_
  refine xm_calli hX (xm_runV hX (k := 0) (ci := 3) (As := (fun g => [])) (kX3_bestBase hL M) (hL _ _ cL_0) rfl (xm_gV gm_391 gm_392 gm_393 gm_1 gm_394) rfl ⟨rfl, rfl⟩ ⟨rfl, hdX3_bestBase⟩ ⟨Nat.le_of_ble_eq_true rfl, Nat.le_of_ble_eq_true rfl⟩ rfl (Nat.le_of_ble_eq_true rfl) rfl ⟨Nat.le_of_ble_eq_true rfl, Nat.le_of_ble_eq_true rfl⟩ dL_fits_1) (fun x2 M1 => ?_)
  refine xm_istore_n hX (lv' := [(1, .int x2), (0, .ref (g.1 0))]) dL_fits_4 rfl (by decide) rfl ?_
  refine xm_aload_n hX 1 dL_fits_5 rfl rfl ?_
  refine xm_calli hX (xm_runV hX (k := 0) (ci := 3) (As := (fun g => [])) (kX3_bestTrust hL M1) (hL _ _ cL_0) rfl (xm_gV gm_400 gm_401 gm_402 gm_1 gm_403) rfl ⟨rfl, rfl⟩ ⟨rfl, hdX3_bestTrust⟩ ⟨Nat.le_of_ble_eq_true rfl, Nat.le_of_ble_eq_true rfl⟩ rfl (Nat.le_of_ble_eq_true rfl) rfl ⟨Nat.le_of_ble_eq_true rfl, Nat.le_of_ble_eq_true rfl⟩ dL_fits_6) (fun x4 M3 => ?_)
  refine xm_istore_n hX (lv' := [(2, .int x4), (1, .int x2), (0, .ref (g.1 0))]) dL_fits_9 rfl (by decide) rfl ?_
  refine xm_aload_n hX 2 dL_fits_10 rfl rfl ?_
  refine xm_bipush hX (v := 14) rfl dL_fits_11 ?_
  refine xm_calli hX (xm_runV hX (k := 0) (ci := 3) (As := (fun g => [.int (14 : Int32)])) (kX3_count hL (14 : Int32) M3) (hL _ _ cL_0) rfl (xm_gV gm_196 gm_197 gm_198 gm_1 gm_199) rfl ⟨rfl, rfl⟩ ⟨rfl, hdX3_count⟩ ⟨Nat.le_of_ble_eq_true rfl, Nat.le_of_ble_eq_true rfl⟩ rfl (Nat.le_of_ble_eq_true rfl) rfl ⟨Nat.le_of_ble_eq_true rfl, Nat.le_of_ble_eq_true rfl⟩ dL_fits_13) (fun x6 M5 => ?_)
  refine xm_istore_n hX (lv' := [(3, .int x6), (2, .int x4), (1, .int x2), (0, .ref (g.1 0))]) dL_fits_16 rfl (by decide) rfl ?_
  refine xm_aload_n hX 3 dL_fits_17 rfl rfl ?_
  refine xm_iconst hX (v := 5) rfl dL_fits_18 ?_
  refine xm_calli hX (xm_runV hX (k := 0) (ci := 3) (As := (fun g => [.int (5 : Int32)])) (kX3_count hL (5 : Int32) M5) (hL _ _ cL_0) rfl (xm_gV gm_196 gm_197 gm_198 gm_1 gm_199) rfl ⟨rfl, rfl⟩ ⟨rfl, hdX3_count⟩ ⟨Nat.le_of_ble_eq_true rfl, Nat.le_of_ble_eq_true rfl⟩ rfl (Nat.le_of_ble_eq_true rfl) rfl ⟨Nat.le_of_ble_eq_true rfl, Nat.le_of_ble_eq_true rfl⟩ dL_fits_19) (fun x8 M7 => ?_)
  refine xm_if_ne hX (tgt := 43) dL_fits_22 rfl ?_ ?_
  · refine xm_iload_n hX 2 dL_fits_43 rfl rfl ?_
    refine xm_iload_n hX 0 dL_fits_44 rfl rfl ?_
    refine xm_bipush hX (v := 20) rfl dL_fits_45 ?_
    refine xm_isub hX dL_fits_47 ?_
    refine xm_icmp_lt hX (tgt := 89) dL_fits_48 rfl ?_ ?_
    · refine xm_iconst hX (v := 0) rfl dL_fits_89 ?_
      exact xm_zretL hX (by decide) dL_fits_90
    · refine xm_iload_n hX 2 dL_fits_51 rfl rfl ?_
      refine xm_iload_n hX 0 dL_fits_52 rfl rfl ?_
      refine xm_bipush hX (v := 20) rfl dL_fits_53 ?_
      refine xm_iadd hX dL_fits_55 ?_
      refine xm_icmp_gt hX (tgt := 89) dL_fits_56 rfl ?_ ?_
      · refine xm_iconst hX (v := 0) rfl dL_fits_89 ?_
        exact xm_zretL hX (by decide) dL_fits_90
      · refine xm_iload_n hX 2 dL_fits_59 rfl rfl ?_
        refine xm_bipush hX (v := 100) rfl dL_fits_60 ?_
        refine xm_icmp_lt hX (tgt := 89) dL_fits_62 rfl ?_ ?_
        · refine xm_iconst hX (v := 0) rfl dL_fits_89 ?_
          exact xm_zretL hX (by decide) dL_fits_90
        · refine xm_iload_n hX 2 dL_fits_65 rfl rfl ?_
          refine xm_sipush hX (v := 1000) rfl dL_fits_66 ?_
          refine xm_icmp_gt hX (tgt := 89) dL_fits_69 rfl ?_ ?_
          · refine xm_iconst hX (v := 0) rfl dL_fits_89 ?_
            exact xm_zretL hX (by decide) dL_fits_90
          · refine xm_iload_n hX 1 dL_fits_72 rfl rfl ?_
            refine xm_if_lt hX (tgt := 89) dL_fits_73 rfl ?_ ?_
            · refine xm_iconst hX (v := 0) rfl dL_fits_89 ?_
              exact xm_zretL hX (by decide) dL_fits_90
            · refine xm_iload_n hX 1 dL_fits_76 rfl rfl ?_
              refine xm_bipush hX (v := 100) rfl dL_fits_77 ?_
              refine xm_icmp_gt hX (tgt := 89) dL_fits_79 rfl ?_ ?_
              · refine xm_iconst hX (v := 0) rfl dL_fits_89 ?_
                exact xm_zretL hX (by decide) dL_fits_90
              · refine xm_iload_n hX 1 dL_fits_82 rfl rfl ?_
                refine xm_bipush hX (v := 10) rfl dL_fits_83 ?_
                refine xm_iremL hX (by decide) dL_fits_85 ?_
                refine xm_if_eq hX (tgt := 91) dL_fits_86 rfl ?_ ?_
                · refine xm_aload_n hX 3 dL_fits_91 rfl rfl ?_
                  refine xm_iconst hX (v := 2) rfl dL_fits_92 ?_
                  refine xm_iload_n hX 2 dL_fits_93 rfl rfl ?_
                  refine xm_iconst hX (v := 4) rfl dL_fits_94 ?_
                  refine xm_calli hX (xm_runV hX (k := 0) (ci := 3) (As := (fun g => [.int (2 : Int32), .int x2, .int (4 : Int32)])) (kX3_ifSet hL (2 : Int32) x2 (4 : Int32) M7) (hL _ _ cL_0) rfl (xm_gV gm_375 gm_376 gm_377 gm_1 gm_378) rfl ⟨rfl, rfl⟩ ⟨rfl, hdX3_ifSet⟩ ⟨Nat.le_of_ble_eq_true rfl, Nat.le_of_ble_eq_true rfl⟩ rfl (Nat.le_of_ble_eq_true rfl) rfl ⟨Nat.le_of_ble_eq_true rfl, Nat.le_of_ble_eq_true rfl⟩ dL_fits_95) (fun x10 M9 => ?_)
                  refine xm_istore hX (lv' := [(4, .int x10), (3, .int x6), (2, .int x4), (1, .int x2), (0, .ref (g.1 0))]) dL_fits_98 (by decide) rfl ?_
                  refine xm_iload_n hX 1 dL_fits_100 rfl rfl ?_
                  refine xm_bipush hX (v := 20) rfl dL_fits_101 ?_
                  refine xm_isub hX dL_fits_103 ?_
                  refine xm_nmi (fun x11 => ?_)
                  refine xm_istore hX (lv' := [(5, .int x11), (4, .int x10), (3, .int x6), (2, .int x4), (1, .int x2), (0, .ref (g.1 0))]) dL_fits_104 (by decide) rfl ?_
                  refine xm_weak [5, 4, 3, 2, 1, 0] (lv' := [(0, .ref (g.1 0)), (1, .int x2), (2, .int x4), (3, .int x6), (4, .int x10), (5, .int x11)]) rfl ?_
                  exact tfL_fits_106_it hL hX xm_N x2 x4 x6 x10 x11 M9
                · refine xm_iconst hX (v := 0) rfl dL_fits_89 ?_
                  exact xm_zretL hX (by decide) dL_fits_90
  · refine xm_iload_n hX 2 dL_fits_25 rfl rfl ?_
    refine xm_bipush hX (v := -6) rfl dL_fits_26 ?_
    refine xm_icmp_ne hX (tgt := 41) dL_fits_28 rfl ?_ ?_
    · refine xm_iconst hX (v := 0) rfl dL_fits_41 ?_
      exact xm_zretL hX (by decide) dL_fits_42
    · refine xm_iload_n hX 1 dL_fits_31 rfl rfl ?_
      refine xm_bipush hX (v := -6) rfl dL_fits_32 ?_
      refine xm_icmp_ne hX (tgt := 41) dL_fits_34 rfl ?_ ?_
      · refine xm_iconst hX (v := 0) rfl dL_fits_41 ?_
        exact xm_zretL hX (by decide) dL_fits_42
      · refine xm_iconst hX (v := 1) rfl dL_fits_37 ?_
        refine xm_goto hX (tgt := 42) dL_fits_38 rfl ?_
        exact xm_zretL hX (by decide) dL_fits_42
