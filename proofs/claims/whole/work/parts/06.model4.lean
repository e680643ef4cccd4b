-- ===== OdometryDeskModel.ifSet(III)I ['0']
theorem dX4_ifSet_0 : decode cX4_ifSet 0 = .ok (.iload_n 1, 1) := by decide +kernel
theorem dX4_ifSet_1 : decode cX4_ifSet 1 = .ok (.iload_n 2, 1) := by decide +kernel
theorem dX4_ifSet_2 : decode cX4_ifSet 2 = .ok (.invokestatic 73, 3) := by decide +kernel
theorem dX4_ifSet_5 : decode cX4_ifSet 5 = .ok (.ifCond .eq 12, 3) := by decide +kernel
theorem dX4_ifSet_8 : decode cX4_ifSet 8 = .ok (.iload_n 3, 1) := by decide +kernel
theorem dX4_ifSet_9 : decode cX4_ifSet 9 = .ok (.iconst 0, 1) := by decide +kernel
theorem dX4_ifSet_10 : decode cX4_ifSet 10 = .ok (.iconst 4, 1) := by decide +kernel
theorem dX4_ifSet_11 : decode cX4_ifSet 11 = .ok (.invokestatic 67, 3) := by decide +kernel
theorem dX4_ifSet_14 : decode cX4_ifSet 14 = .ok (.ifCond .ne 6, 3) := by decide +kernel
theorem dX4_ifSet_17 : decode cX4_ifSet 17 = .ok (.ldc 172, 2) := by decide +kernel
theorem dX4_ifSet_19 : decode cX4_ifSet 19 = .ok (.ireturn, 1) := by decide +kernel
theorem dX4_ifSet_20 : decode cX4_ifSet 20 = .ok (.aload_n 0, 1) := by decide +kernel
theorem dX4_ifSet_21 : decode cX4_ifSet 21 = .ok (.iload_n 1, 1) := by decide +kernel
theorem dX4_ifSet_22 : decode cX4_ifSet 22 = .ok (.invokevirtual 77, 3) := by decide +kernel
theorem dX4_ifSet_25 : decode cX4_ifSet 25 = .ok (.istore 4, 2) := by decide +kernel
theorem dX4_ifSet_27 : decode cX4_ifSet 27 = .ok (.aload_n 0, 1) := by decide +kernel
theorem dX4_ifSet_28 : decode cX4_ifSet 28 = .ok (.getfield 7, 3) := by decide +kernel
theorem dX4_ifSet_31 : decode cX4_ifSet 31 = .ok (.iconst 0, 1) := by decide +kernel
theorem dX4_ifSet_32 : decode cX4_ifSet 32 = .ok (.iload_n 1, 1) := by decide +kernel
theorem dX4_ifSet_33 : decode cX4_ifSet 33 = .ok (.iadd, 1) := by decide +kernel
theorem dX4_ifSet_34 : decode cX4_ifSet 34 = .ok (.iload_n 2, 1) := by decide +kernel
theorem dX4_ifSet_35 : decode cX4_ifSet 35 = .ok (.iastore, 1) := by decide +kernel
theorem dX4_ifSet_36 : decode cX4_ifSet 36 = .ok (.aload_n 0, 1) := by decide +kernel
theorem dX4_ifSet_37 : decode cX4_ifSet 37 = .ok (.invokevirtual 176, 3) := by decide +kernel
theorem dX4_ifSet_40 : decode cX4_ifSet 40 = .ok (.aload_n 0, 1) := by decide +kernel
theorem dX4_ifSet_41 : decode cX4_ifSet 41 = .ok (.getfield 7, 3) := by decide +kernel
theorem dX4_ifSet_44 : decode cX4_ifSet 44 = .ok (.iconst 0, 1) := by decide +kernel
theorem dX4_ifSet_45 : decode cX4_ifSet 45 = .ok (.iload_n 1, 1) := by decide +kernel
theorem dX4_ifSet_46 : decode cX4_ifSet 46 = .ok (.iadd, 1) := by decide +kernel
theorem dX4_ifSet_47 : decode cX4_ifSet 47 = .ok (.iload 4, 2) := by decide +kernel
theorem dX4_ifSet_49 : decode cX4_ifSet 49 = .ok (.iastore, 1) := by decide +kernel
theorem dX4_ifSet_50 : decode cX4_ifSet 50 = .ok (.iload_n 3, 1) := by decide +kernel
theorem dX4_ifSet_51 : decode cX4_ifSet 51 = .ok (.tableswitch 56 0 3 #[29, 34, 39, 44], 29) := by decide +kernel
theorem dX4_ifSet_80 : decode cX4_ifSet 80 = .ok (.aload_n 0, 1) := by decide +kernel
theorem dX4_ifSet_81 : decode cX4_ifSet 81 = .ok (.getfield 105, 3) := by decide +kernel
theorem dX4_ifSet_84 : decode cX4_ifSet 84 = .ok (.ireturn, 1) := by decide +kernel
theorem dX4_ifSet_85 : decode cX4_ifSet 85 = .ok (.aload_n 0, 1) := by decide +kernel
theorem dX4_ifSet_86 : decode cX4_ifSet 86 = .ok (.getfield 109, 3) := by decide +kernel
theorem dX4_ifSet_89 : decode cX4_ifSet 89 = .ok (.ireturn, 1) := by decide +kernel
theorem dX4_ifSet_90 : decode cX4_ifSet 90 = .ok (.aload_n 0, 1) := by decide +kernel
theorem dX4_ifSet_91 : decode cX4_ifSet 91 = .ok (.getfield 112, 3) := by decide +kernel
theorem dX4_ifSet_94 : decode cX4_ifSet 94 = .ok (.ireturn, 1) := by decide +kernel
theorem dX4_ifSet_95 : decode cX4_ifSet 95 = .ok (.aload_n 0, 1) := by decide +kernel
theorem dX4_ifSet_96 : decode cX4_ifSet 96 = .ok (.iconst 2, 1) := by decide +kernel
theorem dX4_ifSet_97 : decode cX4_ifSet 97 = .ok (.invokevirtual 190, 3) := by decide +kernel
theorem dX4_ifSet_100 : decode cX4_ifSet 100 = .ok (.aload_n 0, 1) := by decide +kernel
theorem dX4_ifSet_101 : decode cX4_ifSet 101 = .ok (.iconst 3, 1) := by decide +kernel
theorem dX4_ifSet_102 : decode cX4_ifSet 102 = .ok (.invokevirtual 190, 3) := by decide +kernel
theorem dX4_ifSet_105 : decode cX4_ifSet 105 = .ok (.iadd, 1) := by decide +kernel
theorem dX4_ifSet_106 : decode cX4_ifSet 106 = .ok (.ireturn, 1) := by decide +kernel
theorem dX4_ifSet_107 : decode cX4_ifSet 107 = .ok (.aload_n 0, 1) := by decide +kernel
theorem dX4_ifSet_108 : decode cX4_ifSet 108 = .ok (.invokevirtual 197, 3) := by decide +kernel
theorem dX4_ifSet_111 : decode cX4_ifSet 111 = .ok (.ireturn, 1) := by decide +kernel
abbrev wX4_ifSet : List Cond := .code yX4_ifSet cX4_ifSet 5 (some .int) :: lw_gd
theorem hdX4_ifSet : (yX4_ifSet.cls ≠ "java/lang/invoke/MethodHandle" ∧ yX4_ifSet.cls ≠ "java/lang/invoke/VarHandle" ∧ (parseMethodDescriptor yX4_ifSet.desc).map (fun d => d.parameters.length) = some 3) := by decide +kernel
def fX4_ifSet  (a1 : Int32) (a2 : Int32) (a3 : Int32) (M : xm_M) : Option (Int32 × xm_M) :=
  xm_bi (fX4_takes a1 a2 M) (fun x2 M1 => if x2 = 0 then some ((-1000000002 : Int32), M1) else xm_bi (fX4_in a3 (0 : Int32) (4 : Int32) M1) (fun x4 M3 => if x4 = 0 then some ((-1000000002 : Int32), M3) else xm_bi (fX4_setting a1 M3) (fun x6 M5 => if ((0 : Int32) + a1) < 0 ∨ 547 ≤ ((0 : Int32) + a1).toNatClampNeg then none else xm_lt (xm_s M5 1 ((0 : Int32) + a1).toNatClampNeg a2) (fun M7 => xm_bv (fX4_findAll M7) (fun M8 => if ((0 : Int32) + a1) < 0 ∨ 547 ≤ ((0 : Int32) + a1).toNatClampNeg then none else xm_lt (xm_s M8 1 ((0 : Int32) + a1).toNatClampNeg x6) (fun M9 => if a3 = 0 then some (M9.1 0 18, M9) else if a3 = 1 then some (M9.1 0 19, M9) else if a3 = 2 then some (M9.1 0 20, M9) else if a3 = 3 then xm_bi (fX4_manyOf (2 : Int32) M9) (fun x14 M13 => xm_bi (fX4_manyOf (3 : Int32) M13) (fun x16 M15 => some (x14 + x16, M15))) else xm_bi (fX4_errorsTold M9) (fun x19 M18 => some (x19, M18))))))))
set_option maxRecDepth 20000 in
theorem kX4_ifSet {l : Launch}   (a1 : Int32) (a2 : Int32) (a3 : Int32) (M : xm_M) : xm_C l yX4_ifSet wX4_ifSet ({ frames := 5, cells := 0, slots := 0, locals := 121 }) mL (fun g => [.ref (g.1 0), .int a1, .int a2, .int a3]) M xm_Fi (fX4_ifSet  a1 a2 a3 M) := by
  refine xm_C.of (by decide) rfl (fun g => Nat.le_of_ble_eq_true rfl) ?_
  intro p e s m args below meth c D g A hX
  refine xm_lv (lv' := [(0, .ref (g.1 0)), (1, .int a1), (2, .int a2), (3, .int a3)]) rfl ?_
  unfold fX4_ifSet
  refine xm_iload_n hX 1 dX4_ifSet_0 rfl rfl ?_
  refine xm_iload_n hX 2 dX4_ifSet_1 rfl rfl ?_
  refine xm_calli hX (xm_runS hX (As := (fun g => [.int a1, .int a2])) (kX4_takes a1 a2 M) (xm_gS gm_492 gm_493 gm_5 gm_494) rfl ⟨rfl, rfl⟩ hdX4_takes ⟨Nat.le_of_ble_eq_true rfl, Nat.le_of_ble_eq_true rfl⟩ rfl (Nat.le_of_ble_eq_true rfl) rfl dX4_ifSet_2) (fun x2 M1 => ?_)
  refine xm_if_eq hX (tgt := 17) dX4_ifSet_5 rfl ?_ ?_
  · refine xm_ldc hX (v := -1000000002) (List.mem_cons_of_mem _ gm_546) dX4_ifSet_17 ?_
    exact xm_iret hX dX4_ifSet_19
  · refine xm_iload_n hX 3 dX4_ifSet_8 rfl rfl ?_
    refine xm_iconst hX (v := 0) rfl dX4_ifSet_9 ?_
    refine xm_iconst hX (v := 4) rfl dX4_ifSet_10 ?_
    refine xm_calli hX (xm_runS hX (As := (fun g => [.int a3, .int (0 : Int32), .int (4 : Int32)])) (kX4_in a3 (0 : Int32) (4 : Int32) M1) (xm_gS gm_495 gm_496 gm_5 gm_497) rfl ⟨rfl, rfl⟩ hdX4_in ⟨Nat.le_of_ble_eq_true rfl, Nat.le_of_ble_eq_true rfl⟩ rfl (Nat.le_of_ble_eq_true rfl) rfl dX4_ifSet_11) (fun x4 M3 => ?_)
    refine xm_if_ne hX (tgt := 20) dX4_ifSet_14 rfl ?_ ?_
    · refine xm_aload_n hX 0 dX4_ifSet_20 rfl rfl ?_
      refine xm_iload_n hX 1 dX4_ifSet_21 rfl rfl ?_
      refine xm_calli hX (xm_runV hX (k := 0) (ci := 4) (As := (fun g => [.int a1])) (kX4_setting a1 M3) mL_0 rfl (xm_gV gm_500 gm_501 gm_713 gm_5 gm_502) rfl ⟨rfl, rfl⟩ ⟨rfl, hdX4_setting⟩ ⟨Nat.le_of_ble_eq_true rfl, Nat.le_of_ble_eq_true rfl⟩ rfl (Nat.le_of_ble_eq_true rfl) rfl dX4_ifSet_22) (fun x6 M5 => ?_)
      refine xm_istore hX (lv' := [(4, .int x6), (0, .ref (g.1 0)), (1, .int a1), (2, .int a2), (3, .int a3)]) dX4_ifSet_25 (by decide) rfl ?_
      refine xm_aload_n hX 1 dX4_ifSet_27 rfl rfl ?_
      refine xm_get hX (k := 0) (ci := 4) (j := 0) (C := RX4) (T := TX4) (N := 27) (v := .ref (g.1 1)) mL_0 rfl rfl rfl (by decide) (fun z hz => List.mem_cons_of_mem _ (iw_X4 z hz)) (List.mem_cons_of_mem _ gm_433) dX4_ifSet_28 ?_
      refine xm_iconst hX (v := 0) rfl dX4_ifSet_31 ?_
      refine xm_iload_n hX 2 dX4_ifSet_32 rfl rfl ?_
      refine xm_iadd hX dX4_ifSet_33 ?_
      refine xm_iload_n hX 3 dX4_ifSet_34 rfl rfl ?_
      refine xm_iast hX (n := 547) mL_1 dX4_ifSet_35 (fun M7 => ?_)
      refine xm_aload_n hX 1 dX4_ifSet_36 rfl rfl ?_
      refine xm_callv hX (xm_runV hX (k := 0) (ci := 4) (As := (fun g => [])) (kX4_findAll M7) mL_0 rfl (xm_gV gm_550 gm_551 gm_716 gm_5 gm_552) rfl ⟨rfl, rfl⟩ ⟨rfl, hdX4_findAll⟩ ⟨Nat.le_of_ble_eq_true rfl, Nat.le_of_ble_eq_true rfl⟩ rfl (Nat.le_of_ble_eq_true rfl) rfl dX4_ifSet_37) (fun M8 => ?_)
      refine xm_aload_n hX 1 dX4_ifSet_40 rfl rfl ?_
      refine xm_get hX (k := 0) (ci := 4) (j := 0) (C := RX4) (T := TX4) (N := 27) (v := .ref (g.1 1)) mL_0 rfl rfl rfl (by decide) (fun z hz => List.mem_cons_of_mem _ (iw_X4 z hz)) (List.mem_cons_of_mem _ gm_433) dX4_ifSet_41 ?_
      refine xm_iconst hX (v := 0) rfl dX4_ifSet_44 ?_
      refine xm_iload_n hX 2 dX4_ifSet_45 rfl rfl ?_
      refine xm_iadd hX dX4_ifSet_46 ?_
      refine xm_iload hX 0 dX4_ifSet_47 rfl ?_
      refine xm_iast hX (n := 547) mL_1 dX4_ifSet_49 (fun M9 => ?_)
      refine xm_iload_n hX 4 dX4_ifSet_50 rfl rfl ?_
      refine xm_ite (fun z10 => ?_) (fun z10 => ?_)
      · refine xm_tsIn hX (tgt := 80) dX4_ifSet_51 z10 (by decide) (by decide) rfl rfl ?_
        refine xm_aload_n hX 1 dX4_ifSet_80 rfl rfl ?_
        refine xm_get hX (k := 0) (ci := 4) (j := 18) (C := RX4) (T := TX4) (N := 27) (v := .int (M9.1 0 18)) mL_0 rfl rfl rfl (by decide) (fun z hz => List.mem_cons_of_mem _ (iw_X4 z hz)) (List.mem_cons_of_mem _ gm_451) dX4_ifSet_81 ?_
        exact xm_iret hX dX4_ifSet_84
      refine xm_ite (fun z11 => ?_) (fun z11 => ?_)
      · refine xm_tsIn hX (tgt := 85) dX4_ifSet_51 z11 (by decide) (by decide) rfl rfl ?_
        refine xm_aload_n hX 1 dX4_ifSet_85 rfl rfl ?_
        refine xm_get hX (k := 0) (ci := 4) (j := 19) (C := RX4) (T := TX4) (N := 27) (v := .int (M9.1 0 19)) mL_0 rfl rfl rfl (by decide) (fun z hz => List.mem_cons_of_mem _ (iw_X4 z hz)) (List.mem_cons_of_mem _ gm_452) dX4_ifSet_86 ?_
        exact xm_iret hX dX4_ifSet_89
      refine xm_ite (fun z12 => ?_) (fun z12 => ?_)
      · refine xm_tsIn hX (tgt := 90) dX4_ifSet_51 z12 (by decide) (by decide) rfl rfl ?_
        refine xm_aload_n hX 1 dX4_ifSet_90 rfl rfl ?_
        refine xm_get hX (k := 0) (ci := 4) (j := 20) (C := RX4) (T := TX4) (N := 27) (v := .int (M9.1 0 20)) mL_0 rfl rfl rfl (by decide) (fun z hz => List.mem_cons_of_mem _ (iw_X4 z hz)) (List.mem_cons_of_mem _ gm_453) dX4_ifSet_91 ?_
        exact xm_iret hX dX4_ifSet_94
      refine xm_ite (fun z17 => ?_) (fun z17 => ?_)
      · refine xm_tsIn hX (tgt := 95) dX4_ifSet_51 z17 (by decide) (by decide) rfl rfl ?_
        refine xm_aload_n hX 1 dX4_ifSet_95 rfl rfl ?_
        refine xm_iconst hX (v := 2) rfl dX4_ifSet_96 ?_
        refine xm_calli hX (xm_runV hX (k := 0) (ci := 4) (As := (fun g => [.int (2 : Int32)])) (kX4_manyOf (2 : Int32) M9) mL_0 rfl (xm_gV gm_616 gm_617 gm_726 gm_5 gm_618) rfl ⟨rfl, rfl⟩ ⟨rfl, hdX4_manyOf⟩ ⟨Nat.le_of_ble_eq_true rfl, Nat.le_of_ble_eq_true rfl⟩ rfl (Nat.le_of_ble_eq_true rfl) rfl dX4_ifSet_97) (fun x14 M13 => ?_)
        refine xm_aload_n hX 1 dX4_ifSet_100 rfl rfl ?_
        refine xm_iconst hX (v := 3) rfl dX4_ifSet_101 ?_
        refine xm_calli hX (xm_runV hX (k := 0) (ci := 4) (As := (fun g => [.int (3 : Int32)])) (kX4_manyOf (3 : Int32) M13) mL_0 rfl (xm_gV gm_616 gm_617 gm_726 gm_5 gm_618) rfl ⟨rfl, rfl⟩ ⟨rfl, hdX4_manyOf⟩ ⟨Nat.le_of_ble_eq_true rfl, Nat.le_of_ble_eq_true rfl⟩ rfl (Nat.le_of_ble_eq_true rfl) rfl dX4_ifSet_102) (fun x16 M15 => ?_)
        refine xm_iadd hX dX4_ifSet_105 ?_
        exact xm_iret hX dX4_ifSet_106
      refine xm_tsOut hX (tgt := 107) dX4_ifSet_51 (by have qz10 := lv_neT (a := 0) z10 rfl; have qz11 := lv_neT (a := 1) z11 rfl; have qz12 := lv_neT (a := 2) z12 rfl; have qz17 := lv_neT (a := 3) z17 rfl; omega) rfl ?_
      refine xm_aload_n hX 1 dX4_ifSet_107 rfl rfl ?_
      refine xm_calli hX (xm_runV hX (k := 0) (ci := 4) (As := (fun g => [])) (kX4_errorsTold M9) mL_0 rfl (xm_gV gm_622 gm_623 gm_728 gm_5 gm_624) rfl ⟨rfl, rfl⟩ ⟨rfl, hdX4_errorsTold⟩ ⟨Nat.le_of_ble_eq_true rfl, Nat.le_of_ble_eq_true rfl⟩ rfl (Nat.le_of_ble_eq_true rfl) rfl dX4_ifSet_108) (fun x19 M18 => ?_)
      exact xm_iret hX dX4_ifSet_111
    · refine xm_ldc hX (v := -1000000002) (List.mem_cons_of_mem _ gm_546) dX4_ifSet_17 ?_
      exact xm_iret hX dX4_ifSet_19
-- ===== OdometryDeskModel.add(IIII)V ['0']
theorem dX4_add_0 : decode cX4_add 0 = .ok (.bipush 67, 2) := by decide +kernel
theorem dX4_add_2 : decode cX4_add 2 = .ok (.iconst 4, 1) := by decide +kernel
theorem dX4_add_3 : decode cX4_add 3 = .ok (.aload_n 0, 1) := by decide +kernel
theorem dX4_add_4 : decode cX4_add 4 = .ok (.getfield 7, 3) := by decide +kernel
theorem dX4_add_7 : decode cX4_add 7 = .ok (.bipush 11, 2) := by decide +kernel
theorem dX4_add_9 : decode cX4_add 9 = .ok (.iaload, 1) := by decide +kernel
theorem dX4_add_10 : decode cX4_add 10 = .ok (.imul, 1) := by decide +kernel
theorem dX4_add_11 : decode cX4_add 11 = .ok (.iadd, 1) := by decide +kernel
theorem dX4_add_12 : decode cX4_add 12 = .ok (.istore 5, 2) := by decide +kernel
theorem dX4_add_14 : decode cX4_add 14 = .ok (.aload_n 0, 1) := by decide +kernel
theorem dX4_add_15 : decode cX4_add 15 = .ok (.getfield 7, 3) := by decide +kernel
theorem dX4_add_18 : decode cX4_add 18 = .ok (.iload 5, 2) := by decide +kernel
theorem dX4_add_20 : decode cX4_add 20 = .ok (.iload_n 1, 1) := by decide +kernel
theorem dX4_add_21 : decode cX4_add 21 = .ok (.iastore, 1) := by decide +kernel
theorem dX4_add_22 : decode cX4_add 22 = .ok (.aload_n 0, 1) := by decide +kernel
theorem dX4_add_23 : decode cX4_add 23 = .ok (.getfield 7, 3) := by decide +kernel
theorem dX4_add_26 : decode cX4_add 26 = .ok (.iload 5, 2) := by decide +kernel
theorem dX4_add_28 : decode cX4_add 28 = .ok (.iconst 1, 1) := by decide +kernel
theorem dX4_add_29 : decode cX4_add 29 = .ok (.iadd, 1) := by decide +kernel
theorem dX4_add_30 : decode cX4_add 30 = .ok (.iload_n 2, 1) := by decide +kernel
theorem dX4_add_31 : decode cX4_add 31 = .ok (.iastore, 1) := by decide +kernel
theorem dX4_add_32 : decode cX4_add 32 = .ok (.aload_n 0, 1) := by decide +kernel
theorem dX4_add_33 : decode cX4_add 33 = .ok (.getfield 7, 3) := by decide +kernel
theorem dX4_add_36 : decode cX4_add 36 = .ok (.iload 5, 2) := by decide +kernel
theorem dX4_add_38 : decode cX4_add 38 = .ok (.iconst 2, 1) := by decide +kernel
theorem dX4_add_39 : decode cX4_add 39 = .ok (.iadd, 1) := by decide +kernel
theorem dX4_add_40 : decode cX4_add 40 = .ok (.iload_n 3, 1) := by decide +kernel
theorem dX4_add_41 : decode cX4_add 41 = .ok (.iastore, 1) := by decide +kernel
theorem dX4_add_42 : decode cX4_add 42 = .ok (.aload_n 0, 1) := by decide +kernel
theorem dX4_add_43 : decode cX4_add 43 = .ok (.getfield 7, 3) := by decide +kernel
theorem dX4_add_46 : decode cX4_add 46 = .ok (.iload 5, 2) := by decide +kernel
theorem dX4_add_48 : decode cX4_add 48 = .ok (.iconst 3, 1) := by decide +kernel
theorem dX4_add_49 : decode cX4_add 49 = .ok (.iadd, 1) := by decide +kernel
theorem dX4_add_50 : decode cX4_add 50 = .ok (.iload 4, 2) := by decide +kernel
theorem dX4_add_52 : decode cX4_add 52 = .ok (.iastore, 1) := by decide +kernel
theorem dX4_add_53 : decode cX4_add 53 = .ok (.aload_n 0, 1) := by decide +kernel
theorem dX4_add_54 : decode cX4_add 54 = .ok (.getfield 7, 3) := by decide +kernel
theorem dX4_add_57 : decode cX4_add 57 = .ok (.bipush 11, 2) := by decide +kernel
theorem dX4_add_59 : decode cX4_add 59 = .ok (.dup2, 1) := by decide +kernel
theorem dX4_add_60 : decode cX4_add 60 = .ok (.iaload, 1) := by decide +kernel
theorem dX4_add_61 : decode cX4_add 61 = .ok (.iconst 1, 1) := by decide +kernel
theorem dX4_add_62 : decode cX4_add 62 = .ok (.iadd, 1) := by decide +kernel
theorem dX4_add_63 : decode cX4_add 63 = .ok (.iastore, 1) := by decide +kernel
theorem dX4_add_64 : decode cX4_add 64 = .ok (.return_, 1) := by decide +kernel
abbrev wX4_add : List Cond := .code yX4_add cX4_add 6 none :: lw_gd
theorem hdX4_add : (yX4_add.cls ≠ "java/lang/invoke/MethodHandle" ∧ yX4_add.cls ≠ "java/lang/invoke/VarHandle" ∧ (parseMethodDescriptor yX4_add.desc).map (fun d => d.parameters.length) = some 4) := by decide +kernel
def fX4_add  (a1 : Int32) (a2 : Int32) (a3 : Int32) (a4 : Int32) (M : xm_M) : Option xm_M :=
  xm_lt ((67 : Int32) + ((4 : Int32) * (M.1 1 11))) (fun x1 => if x1 < 0 ∨ 547 ≤ x1.toNatClampNeg then none else xm_lt (xm_s M 1 x1.toNatClampNeg a1) (fun M2 => if (x1 + (1 : Int32)) < 0 ∨ 547 ≤ (x1 + (1 : Int32)).toNatClampNeg then none else xm_lt (xm_s M2 1 (x1 + (1 : Int32)).toNatClampNeg a2) (fun M3 => if (x1 + (2 : Int32)) < 0 ∨ 547 ≤ (x1 + (2 : Int32)).toNatClampNeg then none else xm_lt (xm_s M3 1 (x1 + (2 : Int32)).toNatClampNeg a3) (fun M4 => if (x1 + (3 : Int32)) < 0 ∨ 547 ≤ (x1 + (3 : Int32)).toNatClampNeg then none else xm_lt (xm_s M4 1 (x1 + (3 : Int32)).toNatClampNeg a4) (fun M5 => xm_lt (xm_s M5 1 11 ((M5.1 1 11) + (1 : Int32))) (fun M6 => some M6))))))
set_option maxRecDepth 20000 in
theorem kX4_add {l : Launch}   (a1 : Int32) (a2 : Int32) (a3 : Int32) (a4 : Int32) (M : xm_M) : xm_C l yX4_add wX4_add ({ frames := 0, cells := 0, slots := 0, locals := 0 }) mL (fun g => [.ref (g.1 0), .int a1, .int a2, .int a3, .int a4]) M xm_Fv (fX4_add  a1 a2 a3 a4 M) := by
  refine xm_C.of (by decide) rfl (fun g => Nat.le_of_ble_eq_true rfl) ?_
  intro p e s m args below meth c D g A hX
  refine xm_lv (lv' := [(0, .ref (g.1 0)), (1, .int a1), (2, .int a2), (3, .int a3), (4, .int a4)]) rfl ?_
  unfold fX4_add
  refine xm_bipush hX (v := 67) rfl dX4_add_0 ?_
  refine xm_iconst hX (v := 4) rfl dX4_add_2 ?_
  refine xm_aload_n hX 0 dX4_add_3 rfl rfl ?_
  refine xm_get hX (k := 0) (ci := 4) (j := 0) (C := RX4) (T := TX4) (N := 27) (v := .ref (g.1 1)) mL_0 rfl rfl rfl (by decide) (fun z hz => List.mem_cons_of_mem _ (iw_X4 z hz)) (List.mem_cons_of_mem _ gm_433) dX4_add_4 ?_
  refine xm_bipush hX (v := 11) rfl dX4_add_7 ?_
  refine xm_ialdL hX (n := 547) (j := 11) mL_1 (by decide) rfl dX4_add_9 ?_
  refine xm_imul hX dX4_add_10 ?_
  refine xm_iadd hX dX4_add_11 ?_
  refine xm_nmi (fun x1 => ?_)
  refine xm_istore hX (lv' := [(5, .int x1), (0, .ref (g.1 0)), (1, .int a1), (2, .int a2), (3, .int a3), (4, .int a4)]) dX4_add_12 (by decide) rfl ?_
  refine xm_aload_n hX 1 dX4_add_14 rfl rfl ?_
  refine xm_get hX (k := 0) (ci := 4) (j := 0) (C := RX4) (T := TX4) (N := 27) (v := .ref (g.1 1)) mL_0 rfl rfl rfl (by decide) (fun z hz => List.mem_cons_of_mem _ (iw_X4 z hz)) (List.mem_cons_of_mem _ gm_433) dX4_add_15 ?_
  refine xm_iload hX 0 dX4_add_18 rfl ?_
  refine xm_iload_n hX 2 dX4_add_20 rfl rfl ?_
  refine xm_iast hX (n := 547) mL_1 dX4_add_21 (fun M2 => ?_)
  refine xm_aload_n hX 1 dX4_add_22 rfl rfl ?_
  refine xm_get hX (k := 0) (ci := 4) (j := 0) (C := RX4) (T := TX4) (N := 27) (v := .ref (g.1 1)) mL_0 rfl rfl rfl (by decide) (fun z hz => List.mem_cons_of_mem _ (iw_X4 z hz)) (List.mem_cons_of_mem _ gm_433) dX4_add_23 ?_
  refine xm_iload hX 0 dX4_add_26 rfl ?_
  refine xm_iconst hX (v := 1) rfl dX4_add_28 ?_
  refine xm_iadd hX dX4_add_29 ?_
  refine xm_iload_n hX 3 dX4_add_30 rfl rfl ?_
  refine xm_iast hX (n := 547) mL_1 dX4_add_31 (fun M3 => ?_)
  refine xm_aload_n hX 1 dX4_add_32 rfl rfl ?_
  refine xm_get hX (k := 0) (ci := 4) (j := 0) (C := RX4) (T := TX4) (N := 27) (v := .ref (g.1 1)) mL_0 rfl rfl rfl (by decide) (fun z hz => List.mem_cons_of_mem _ (iw_X4 z hz)) (List.mem_cons_of_mem _ gm_433) dX4_add_33 ?_
  refine xm_iload hX 0 dX4_add_36 rfl ?_
  refine xm_iconst hX (v := 2) rfl dX4_add_38 ?_
  refine xm_iadd hX dX4_add_39 ?_
  refine xm_iload_n hX 4 dX4_add_40 rfl rfl ?_
  refine xm_iast hX (n := 547) mL_1 dX4_add_41 (fun M4 => ?_)
  refine xm_aload_n hX 1 dX4_add_42 rfl rfl ?_
  refine xm_get hX (k := 0) (ci := 4) (j := 0) (C := RX4) (T := TX4) (N := 27) (v := .ref (g.1 1)) mL_0 rfl rfl rfl (by decide) (fun z hz => List.mem_cons_of_mem _ (iw_X4 z hz)) (List.mem_cons_of_mem _ gm_433) dX4_add_43 ?_
  refine xm_iload hX 0 dX4_add_46 rfl ?_
  refine xm_iconst hX (v := 3) rfl dX4_add_48 ?_
  refine xm_iadd hX dX4_add_49 ?_
  refine xm_iload hX 5 dX4_add_50 rfl ?_
  refine xm_iast hX (n := 547) mL_1 dX4_add_52 (fun M5 => ?_)
  refine xm_aload_n hX 1 dX4_add_53 rfl rfl ?_
  refine xm_get hX (k := 0) (ci := 4) (j := 0) (C := RX4) (T := TX4) (N := 27) (v := .ref (g.1 1)) mL_0 rfl rfl rfl (by decide) (fun z hz => List.mem_cons_of_mem _ (iw_X4 z hz)) (List.mem_cons_of_mem _ gm_433) dX4_add_54 ?_
  refine xm_bipush hX (v := 11) rfl dX4_add_57 ?_
  refine xm_dup2_11 hX rfl rfl dX4_add_59 ?_
  refine xm_ialdL hX (n := 547) (j := 11) mL_1 (by decide) rfl dX4_add_60 ?_
  refine xm_iconst hX (v := 1) rfl dX4_add_61 ?_
  refine xm_iadd hX dX4_add_62 ?_
  refine xm_iastL hX (n := 547) (j := 11) mL_1 (by decide) rfl dX4_add_63 (fun M6 => ?_)
  exact xm_vret hX dX4_add_64
-- ===== OdometryDeskModel.step(III)I ['0']
theorem dX4_step_0 : decode cX4_step 0 = .ok (.iload_n 1, 1) := by decide +kernel
theorem dX4_step_1 : decode cX4_step 1 = .ok (.sipush (-300), 3) := by decide +kernel
theorem dX4_step_4 : decode cX4_step 4 = .ok (.sipush 300, 3) := by decide +kernel
theorem dX4_step_7 : decode cX4_step 7 = .ok (.invokestatic 67, 3) := by decide +kernel
theorem dX4_step_10 : decode cX4_step 10 = .ok (.ifCond .eq 27, 3) := by decide +kernel
theorem dX4_step_13 : decode cX4_step 13 = .ok (.iload_n 2, 1) := by decide +kernel
theorem dX4_step_14 : decode cX4_step 14 = .ok (.sipush (-300), 3) := by decide +kernel
theorem dX4_step_17 : decode cX4_step 17 = .ok (.sipush 300, 3) := by decide +kernel
theorem dX4_step_20 : decode cX4_step 20 = .ok (.invokestatic 67, 3) := by decide +kernel
theorem dX4_step_23 : decode cX4_step 23 = .ok (.ifCond .eq 14, 3) := by decide +kernel
theorem dX4_step_26 : decode cX4_step 26 = .ok (.iload_n 3, 1) := by decide +kernel
theorem dX4_step_27 : decode cX4_step 27 = .ok (.ldc 86, 2) := by decide +kernel
theorem dX4_step_29 : decode cX4_step 29 = .ok (.ldc 87, 2) := by decide +kernel
theorem dX4_step_31 : decode cX4_step 31 = .ok (.invokestatic 67, 3) := by decide +kernel
theorem dX4_step_34 : decode cX4_step 34 = .ok (.ifCond .ne 6, 3) := by decide +kernel
theorem dX4_step_37 : decode cX4_step 37 = .ok (.bipush (-2), 2) := by decide +kernel
theorem dX4_step_39 : decode cX4_step 39 = .ok (.ireturn, 1) := by decide +kernel
theorem dX4_step_40 : decode cX4_step 40 = .ok (.aload_n 0, 1) := by decide +kernel
theorem dX4_step_41 : decode cX4_step 41 = .ok (.getfield 7, 3) := by decide +kernel
theorem dX4_step_44 : decode cX4_step 44 = .ok (.bipush 11, 2) := by decide +kernel
theorem dX4_step_46 : decode cX4_step 46 = .ok (.iaload, 1) := by decide +kernel
theorem dX4_step_47 : decode cX4_step 47 = .ok (.bipush 120, 2) := by decide +kernel
theorem dX4_step_49 : decode cX4_step 49 = .ok (.if_icmp .ne 6, 3) := by decide +kernel
theorem dX4_step_52 : decode cX4_step 52 = .ok (.bipush (-4), 2) := by decide +kernel
theorem dX4_step_54 : decode cX4_step 54 = .ok (.ireturn, 1) := by decide +kernel
theorem dX4_step_55 : decode cX4_step 55 = .ok (.aload_n 0, 1) := by decide +kernel
theorem dX4_step_56 : decode cX4_step 56 = .ok (.iconst 0, 1) := by decide +kernel
theorem dX4_step_57 : decode cX4_step 57 = .ok (.iload_n 1, 1) := by decide +kernel
theorem dX4_step_58 : decode cX4_step 58 = .ok (.iload_n 2, 1) := by decide +kernel
theorem dX4_step_59 : decode cX4_step 59 = .ok (.iload_n 3, 1) := by decide +kernel
theorem dX4_step_60 : decode cX4_step 60 = .ok (.invokevirtual 88, 3) := by decide +kernel
theorem dX4_step_63 : decode cX4_step 63 = .ok (.aload_n 0, 1) := by decide +kernel
theorem dX4_step_64 : decode cX4_step 64 = .ok (.getfield 7, 3) := by decide +kernel
theorem dX4_step_67 : decode cX4_step 67 = .ok (.bipush 11, 2) := by decide +kernel
theorem dX4_step_69 : decode cX4_step 69 = .ok (.iaload, 1) := by decide +kernel
theorem dX4_step_70 : decode cX4_step 70 = .ok (.ireturn, 1) := by decide +kernel
abbrev wX4_step : List Cond := .code yX4_step cX4_step 4 (some .int) :: lw_gd
theorem hdX4_step : (yX4_step.cls ≠ "java/lang/invoke/MethodHandle" ∧ yX4_step.cls ≠ "java/lang/invoke/VarHandle" ∧ (parseMethodDescriptor yX4_step.desc).map (fun d => d.parameters.length) = some 3) := by decide +kernel
def fX4_step  (a1 : Int32) (a2 : Int32) (a3 : Int32) (M : xm_M) : Option (Int32 × xm_M) :=
  xm_bi (fX4_in a1 (-300 : Int32) (300 : Int32) M) (fun x2 M1 => if x2 = 0 then some ((-2 : Int32), M1) else xm_bi (fX4_in a2 (-300 : Int32) (300 : Int32) M1) (fun x4 M3 => if x4 = 0 then some ((-2 : Int32), M3) else xm_bi (fX4_in a3 (-300000 : Int32) (300000 : Int32) M3) (fun x6 M5 => if x6 = 0 then some ((-2 : Int32), M5) else if (M5.1 1 11) = (120 : Int32) then some ((-4 : Int32), M5) else xm_bv (fX4_add (0 : Int32) a1 a2 a3 M5) (fun M7 => some (M7.1 1 11, M7)))))
set_option maxRecDepth 20000 in
theorem kX4_step {l : Launch}   (a1 : Int32) (a2 : Int32) (a3 : Int32) (M : xm_M) : xm_C l yX4_step wX4_step ({ frames := 1, cells := 0, slots := 0, locals := 25 }) mL (fun g => [.ref (g.1 0), .int a1, .int a2, .int a3]) M xm_Fi (fX4_step  a1 a2 a3 M) := by
  refine xm_C.of (by decide) rfl (fun g => Nat.le_of_ble_eq_true rfl) ?_
  intro p e s m args below meth c D g A hX
  refine xm_lv (lv' := [(0, .ref (g.1 0)), (1, .int a1), (2, .int a2), (3, .int a3)]) rfl ?_
  unfold fX4_step
  refine xm_iload_n hX 1 dX4_step_0 rfl rfl ?_
  refine xm_sipush hX (v := -300) rfl dX4_step_1 ?_
  refine xm_sipush hX (v := 300) rfl dX4_step_4 ?_
  refine xm_calli hX (xm_runS hX (As := (fun g => [.int a1, .int (-300 : Int32), .int (300 : Int32)])) (kX4_in a1 (-300 : Int32) (300 : Int32) M) (xm_gS gm_495 gm_496 gm_5 gm_497) rfl ⟨rfl, rfl⟩ hdX4_in ⟨Nat.le_of_ble_eq_true rfl, Nat.le_of_ble_eq_true rfl⟩ rfl (Nat.le_of_ble_eq_true rfl) rfl dX4_step_7) (fun x2 M1 => ?_)
  refine xm_if_eq hX (tgt := 37) dX4_step_10 rfl ?_ ?_
  · refine xm_bipush hX (v := -2) rfl dX4_step_37 ?_
    exact xm_iret hX dX4_step_39
  · refine xm_iload_n hX 2 dX4_step_13 rfl rfl ?_
    refine xm_sipush hX (v := -300) rfl dX4_step_14 ?_
    refine xm_sipush hX (v := 300) rfl dX4_step_17 ?_
    refine xm_calli hX (xm_runS hX (As := (fun g => [.int a2, .int (-300 : Int32), .int (300 : Int32)])) (kX4_in a2 (-300 : Int32) (300 : Int32) M1) (xm_gS gm_495 gm_496 gm_5 gm_497) rfl ⟨rfl, rfl⟩ hdX4_in ⟨Nat.le_of_ble_eq_true rfl, Nat.le_of_ble_eq_true rfl⟩ rfl (Nat.le_of_ble_eq_true rfl) rfl dX4_step_20) (fun x4 M3 => ?_)
    refine xm_if_eq hX (tgt := 37) dX4_step_23 rfl ?_ ?_
    · refine xm_bipush hX (v := -2) rfl dX4_step_37 ?_
      exact xm_iret hX dX4_step_39
    · refine xm_iload_n hX 3 dX4_step_26 rfl rfl ?_
      refine xm_ldc hX (v := -300000) (List.mem_cons_of_mem _ gm_528) dX4_step_27 ?_
      refine xm_ldc hX (v := 300000) (List.mem_cons_of_mem _ gm_529) dX4_step_29 ?_
      refine xm_calli hX (xm_runS hX (As := (fun g => [.int a3, .int (-300000 : Int32), .int (300000 : Int32)])) (kX4_in a3 (-300000 : Int32) (300000 : Int32) M3) (xm_gS gm_495 gm_496 gm_5 gm_497) rfl ⟨rfl, rfl⟩ hdX4_in ⟨Nat.le_of_ble_eq_true rfl, Nat.le_of_ble_eq_true rfl⟩ rfl (Nat.le_of_ble_eq_true rfl) rfl dX4_step_31) (fun x6 M5 => ?_)
      refine xm_if_ne hX (tgt := 40) dX4_step_34 rfl ?_ ?_
      · refine xm_aload_n hX 0 dX4_step_40 rfl rfl ?_
        refine xm_get hX (k := 0) (ci := 4) (j := 0) (C := RX4) (T := TX4) (N := 27) (v := .ref (g.1 1)) mL_0 rfl rfl rfl (by decide) (fun z hz => List.mem_cons_of_mem _ (iw_X4 z hz)) (List.mem_cons_of_mem _ gm_433) dX4_step_41 ?_
        refine xm_bipush hX (v := 11) rfl dX4_step_44 ?_
        refine xm_ialdL hX (n := 547) (j := 11) mL_1 (by decide) rfl dX4_step_46 ?_
        refine xm_bipush hX (v := 120) rfl dX4_step_47 ?_
        refine xm_icmp_ne hX (tgt := 55) dX4_step_49 rfl ?_ ?_
        · refine xm_aload_n hX 0 dX4_step_55 rfl rfl ?_
          refine xm_iconst hX (v := 0) rfl dX4_step_56 ?_
          refine xm_iload_n hX 1 dX4_step_57 rfl rfl ?_
          refine xm_iload_n hX 2 dX4_step_58 rfl rfl ?_
          refine xm_iload_n hX 3 dX4_step_59 rfl rfl ?_
          refine xm_callv hX (xm_runV hX (k := 0) (ci := 4) (As := (fun g => [.int (0 : Int32), .int a1, .int a2, .int a3])) (kX4_add (0 : Int32) a1 a2 a3 M5) mL_0 rfl (xm_gV gm_530 gm_531 gm_714 gm_5 gm_532) rfl ⟨rfl, rfl⟩ ⟨rfl, hdX4_add⟩ ⟨Nat.le_of_ble_eq_true rfl, Nat.le_of_ble_eq_true rfl⟩ rfl (Nat.le_of_ble_eq_true rfl) rfl dX4_step_60) (fun M7 => ?_)
          refine xm_aload_n hX 0 dX4_step_63 rfl rfl ?_
          refine xm_get hX (k := 0) (ci := 4) (j := 0) (C := RX4) (T := TX4) (N := 27) (v := .ref (g.1 1)) mL_0 rfl rfl rfl (by decide) (fun z hz => List.mem_cons_of_mem _ (iw_X4 z hz)) (List.mem_cons_of_mem _ gm_433) dX4_step_64 ?_
          refine xm_bipush hX (v := 11) rfl dX4_step_67 ?_
          refine xm_ialdL hX (n := 547) (j := 11) mL_1 (by decide) rfl dX4_step_69 ?_
          exact xm_iret hX dX4_step_70
        · refine xm_bipush hX (v := -4) rfl dX4_step_52 ?_
          exact xm_iret hX dX4_step_54
      · refine xm_bipush hX (v := -2) rfl dX4_step_37 ?_
        exact xm_iret hX dX4_step_39
-- ===== OdometryDeskModel.see(I)I ['0']
theorem dX4_see_0 : decode cX4_see 0 = .ok (.iload_n 1, 1) := by decide +kernel
theorem dX4_see_1 : decode cX4_see 1 = .ok (.ifCond .lt 14, 3) := by decide +kernel
theorem dX4_see_4 : decode cX4_see 4 = .ok (.iload_n 1, 1) := by decide +kernel
theorem dX4_see_5 : decode cX4_see 5 = .ok (.aload_n 0, 1) := by decide +kernel
theorem dX4_see_6 : decode cX4_see 6 = .ok (.getfield 7, 3) := by decide +kernel
theorem dX4_see_9 : decode cX4_see 9 = .ok (.bipush 10, 2) := by decide +kernel
theorem dX4_see_11 : decode cX4_see 11 = .ok (.iaload, 1) := by decide +kernel
theorem dX4_see_12 : decode cX4_see 12 = .ok (.if_icmp .lt 5, 3) := by decide +kernel
theorem dX4_see_15 : decode cX4_see 15 = .ok (.iconst (-1), 1) := by decide +kernel
theorem dX4_see_16 : decode cX4_see 16 = .ok (.ireturn, 1) := by decide +kernel
theorem dX4_see_17 : decode cX4_see 17 = .ok (.aload_n 0, 1) := by decide +kernel
theorem dX4_see_18 : decode cX4_see 18 = .ok (.getfield 7, 3) := by decide +kernel
theorem dX4_see_21 : decode cX4_see 21 = .ok (.bipush 11, 2) := by decide +kernel
theorem dX4_see_23 : decode cX4_see 23 = .ok (.iaload, 1) := by decide +kernel
theorem dX4_see_24 : decode cX4_see 24 = .ok (.bipush 120, 2) := by decide +kernel
theorem dX4_see_26 : decode cX4_see 26 = .ok (.if_icmp .ne 6, 3) := by decide +kernel
theorem dX4_see_29 : decode cX4_see 29 = .ok (.bipush (-4), 2) := by decide +kernel
theorem dX4_see_31 : decode cX4_see 31 = .ok (.ireturn, 1) := by decide +kernel
theorem dX4_see_32 : decode cX4_see 32 = .ok (.aload_n 0, 1) := by decide +kernel
theorem dX4_see_33 : decode cX4_see 33 = .ok (.iconst 1, 1) := by decide +kernel
theorem dX4_see_34 : decode cX4_see 34 = .ok (.iload_n 1, 1) := by decide +kernel
theorem dX4_see_35 : decode cX4_see 35 = .ok (.iconst 0, 1) := by decide +kernel
theorem dX4_see_36 : decode cX4_see 36 = .ok (.iconst 0, 1) := by decide +kernel
theorem dX4_see_37 : decode cX4_see 37 = .ok (.invokevirtual 88, 3) := by decide +kernel
theorem dX4_see_40 : decode cX4_see 40 = .ok (.aload_n 0, 1) := by decide +kernel
theorem dX4_see_41 : decode cX4_see 41 = .ok (.getfield 7, 3) := by decide +kernel
theorem dX4_see_44 : decode cX4_see 44 = .ok (.bipush 11, 2) := by decide +kernel
theorem dX4_see_46 : decode cX4_see 46 = .ok (.iaload, 1) := by decide +kernel
theorem dX4_see_47 : decode cX4_see 47 = .ok (.ireturn, 1) := by decide +kernel
abbrev wX4_see : List Cond := .code yX4_see cX4_see 2 (some .int) :: lw_gd
theorem hdX4_see : (yX4_see.cls ≠ "java/lang/invoke/MethodHandle" ∧ yX4_see.cls ≠ "java/lang/invoke/VarHandle" ∧ (parseMethodDescriptor yX4_see.desc).map (fun d => d.parameters.length) = some 1) := by decide +kernel
def fX4_see  (a1 : Int32) (M : xm_M) : Option (Int32 × xm_M) :=
  if a1 < 0 then some ((-1 : Int32), M) else if a1 < (M.1 1 10) then if (M.1 1 11) = (120 : Int32) then some ((-4 : Int32), M) else xm_bv (fX4_add (1 : Int32) a1 (0 : Int32) (0 : Int32) M) (fun M1 => some (M1.1 1 11, M1)) else some ((-1 : Int32), M)
set_option maxRecDepth 20000 in
theorem kX4_see {l : Launch}   (a1 : Int32) (M : xm_M) : xm_C l yX4_see wX4_see ({ frames := 1, cells := 0, slots := 0, locals := 25 }) mL (fun g => [.ref (g.1 0), .int a1]) M xm_Fi (fX4_see  a1 M) := by
  refine xm_C.of (by decide) rfl (fun g => Nat.le_of_ble_eq_true rfl) ?_
  intro p e s m args below meth c D g A hX
  refine xm_lv (lv' := [(0, .ref (g.1 0)), (1, .int a1)]) rfl ?_
  unfold fX4_see
  refine xm_iload_n hX 1 dX4_see_0 rfl rfl ?_
  refine xm_if_lt hX (tgt := 15) dX4_see_1 rfl ?_ ?_
  · refine xm_iconst hX (v := -1) rfl dX4_see_15 ?_
    exact xm_iret hX dX4_see_16
  · refine xm_iload_n hX 1 dX4_see_4 rfl rfl ?_
    refine xm_aload_n hX 0 dX4_see_5 rfl rfl ?_
    refine xm_get hX (k := 0) (ci := 4) (j := 0) (C := RX4) (T := TX4) (N := 27) (v := .ref (g.1 1)) mL_0 rfl rfl rfl (by decide) (fun z hz => List.mem_cons_of_mem _ (iw_X4 z hz)) (List.mem_cons_of_mem _ gm_433) dX4_see_6 ?_
    refine xm_bipush hX (v := 10) rfl dX4_see_9 ?_
    refine xm_ialdL hX (n := 547) (j := 10) mL_1 (by decide) rfl dX4_see_11 ?_
    refine xm_icmp_lt hX (tgt := 17) dX4_see_12 rfl ?_ ?_
    · refine xm_aload_n hX 0 dX4_see_17 rfl rfl ?_
      refine xm_get hX (k := 0) (ci := 4) (j := 0) (C := RX4) (T := TX4) (N := 27) (v := .ref (g.1 1)) mL_0 rfl rfl rfl (by decide) (fun z hz => List.mem_cons_of_mem _ (iw_X4 z hz)) (List.mem_cons_of_mem _ gm_433) dX4_see_18 ?_
      refine xm_bipush hX (v := 11) rfl dX4_see_21 ?_
      refine xm_ialdL hX (n := 547) (j := 11) mL_1 (by decide) rfl dX4_see_23 ?_
      refine xm_bipush hX (v := 120) rfl dX4_see_24 ?_
      refine xm_icmp_ne hX (tgt := 32) dX4_see_26 rfl ?_ ?_
      · refine xm_aload_n hX 0 dX4_see_32 rfl rfl ?_
        refine xm_iconst hX (v := 1) rfl dX4_see_33 ?_
        refine xm_iload_n hX 1 dX4_see_34 rfl rfl ?_
        refine xm_iconst hX (v := 0) rfl dX4_see_35 ?_
        refine xm_iconst hX (v := 0) rfl dX4_see_36 ?_
        refine xm_callv hX (xm_runV hX (k := 0) (ci := 4) (As := (fun g => [.int (1 : Int32), .int a1, .int (0 : Int32), .int (0 : Int32)])) (kX4_add (1 : Int32) a1 (0 : Int32) (0 : Int32) M) mL_0 rfl (xm_gV gm_530 gm_531 gm_714 gm_5 gm_532) rfl ⟨rfl, rfl⟩ ⟨rfl, hdX4_add⟩ ⟨Nat.le_of_ble_eq_true rfl, Nat.le_of_ble_eq_true rfl⟩ rfl (Nat.le_of_ble_eq_true rfl) rfl dX4_see_37) (fun M1 => ?_)
        refine xm_aload_n hX 0 dX4_see_40 rfl rfl ?_
        refine xm_get hX (k := 0) (ci := 4) (j := 0) (C := RX4) (T := TX4) (N := 27) (v := .ref (g.1 1)) mL_0 rfl rfl rfl (by decide) (fun z hz => List.mem_cons_of_mem _ (iw_X4 z hz)) (List.mem_cons_of_mem _ gm_433) dX4_see_41 ?_
        refine xm_bipush hX (v := 11) rfl dX4_see_44 ?_
        refine xm_ialdL hX (n := 547) (j := 11) mL_1 (by decide) rfl dX4_see_46 ?_
        exact xm_iret hX dX4_see_47
      · refine xm_bipush hX (v := -4) rfl dX4_see_29 ?_
        exact xm_iret hX dX4_see_31
    · refine xm_iconst hX (v := -1) rfl dX4_see_15 ?_
      exact xm_iret hX dX4_see_16
-- ===== OdometryDeskModel.load()I ['0']
theorem dX4_load_0 : decode cX4_load 0 = .ok (.aload_n 0, 1) := by decide +kernel
theorem dX4_load_1 : decode cX4_load 1 = .ok (.invokevirtual 238, 3) := by decide +kernel
theorem dX4_load_4 : decode cX4_load 4 = .ok (.bipush (-6), 2) := by decide +kernel
theorem dX4_load_6 : decode cX4_load 6 = .ok (.if_icmp .eq 6, 3) := by decide +kernel
theorem dX4_load_9 : decode cX4_load 9 = .ok (.bipush (-3), 2) := by decide +kernel
theorem dX4_load_11 : decode cX4_load 11 = .ok (.ireturn, 1) := by decide +kernel
theorem dX4_load_12 : decode cX4_load 12 = .ok (.iconst 0, 1) := by decide +kernel
theorem dX4_load_13 : decode cX4_load 13 = .ok (.istore_n 1, 1) := by decide +kernel
theorem dX4_load_14 : decode cX4_load 14 = .ok (.iconst 1, 1) := by decide +kernel
theorem dX4_load_15 : decode cX4_load 15 = .ok (.istore_n 2, 1) := by decide +kernel
theorem dX4_load_16 : decode cX4_load 16 = .ok (.iload_n 2, 1) := by decide +kernel
theorem dX4_load_17 : decode cX4_load 17 = .ok (.ifCond .eq 96, 3) := by decide +kernel
theorem dX4_load_20 : decode cX4_load 20 = .ok (.iload_n 1, 1) := by decide +kernel
theorem dX4_load_21 : decode cX4_load 21 = .ok (.aload_n 0, 1) := by decide +kernel
theorem dX4_load_22 : decode cX4_load 22 = .ok (.getfield 226, 3) := by decide +kernel
theorem dX4_load_25 : decode cX4_load 25 = .ok (.if_icmp .ge 88, 3) := by decide +kernel
theorem dX4_load_28 : decode cX4_load 28 = .ok (.iconst 4, 1) := by decide +kernel
theorem dX4_load_29 : decode cX4_load 29 = .ok (.iload_n 1, 1) := by decide +kernel
theorem dX4_load_30 : decode cX4_load 30 = .ok (.imul, 1) := by decide +kernel
theorem dX4_load_31 : decode cX4_load 31 = .ok (.istore_n 3, 1) := by decide +kernel
theorem dX4_load_32 : decode cX4_load 32 = .ok (.aload_n 0, 1) := by decide +kernel
theorem dX4_load_33 : decode cX4_load 33 = .ok (.getfield 62, 3) := by decide +kernel
theorem dX4_load_36 : decode cX4_load 36 = .ok (.iload_n 3, 1) := by decide +kernel
theorem dX4_load_37 : decode cX4_load 37 = .ok (.iaload, 1) := by decide +kernel
theorem dX4_load_38 : decode cX4_load 38 = .ok (.iconst 1, 1) := by decide +kernel
theorem dX4_load_39 : decode cX4_load 39 = .ok (.if_icmp .ne 18, 3) := by decide +kernel
theorem dX4_load_42 : decode cX4_load 42 = .ok (.aload_n 0, 1) := by decide +kernel
theorem dX4_load_43 : decode cX4_load 43 = .ok (.aload_n 0, 1) := by decide +kernel
theorem dX4_load_44 : decode cX4_load 44 = .ok (.getfield 62, 3) := by decide +kernel
theorem dX4_load_47 : decode cX4_load 47 = .ok (.iload_n 3, 1) := by decide +kernel
theorem dX4_load_48 : decode cX4_load 48 = .ok (.iconst 1, 1) := by decide +kernel
theorem dX4_load_49 : decode cX4_load 49 = .ok (.iadd, 1) := by decide +kernel
theorem dX4_load_50 : decode cX4_load 50 = .ok (.iaload, 1) := by decide +kernel
theorem dX4_load_51 : decode cX4_load 51 = .ok (.invokevirtual 241, 3) := by decide +kernel
theorem dX4_load_54 : decode cX4_load 54 = .ok (.goto 31, 3) := by decide +kernel
theorem dX4_load_57 : decode cX4_load 57 = .ok (.aload_n 0, 1) := by decide +kernel
theorem dX4_load_58 : decode cX4_load 58 = .ok (.aload_n 0, 1) := by decide +kernel
theorem dX4_load_59 : decode cX4_load 59 = .ok (.getfield 62, 3) := by decide +kernel
theorem dX4_load_62 : decode cX4_load 62 = .ok (.iload_n 3, 1) := by decide +kernel
theorem dX4_load_63 : decode cX4_load 63 = .ok (.iconst 1, 1) := by decide +kernel
theorem dX4_load_64 : decode cX4_load 64 = .ok (.iadd, 1) := by decide +kernel
theorem dX4_load_65 : decode cX4_load 65 = .ok (.iaload, 1) := by decide +kernel
theorem dX4_load_66 : decode cX4_load 66 = .ok (.aload_n 0, 1) := by decide +kernel
theorem dX4_load_67 : decode cX4_load 67 = .ok (.getfield 62, 3) := by decide +kernel
theorem dX4_load_70 : decode cX4_load 70 = .ok (.iload_n 3, 1) := by decide +kernel
theorem dX4_load_71 : decode cX4_load 71 = .ok (.iconst 2, 1) := by decide +kernel
theorem dX4_load_72 : decode cX4_load 72 = .ok (.iadd, 1) := by decide +kernel
theorem dX4_load_73 : decode cX4_load 73 = .ok (.iaload, 1) := by decide +kernel
theorem dX4_load_74 : decode cX4_load 74 = .ok (.aload_n 0, 1) := by decide +kernel
theorem dX4_load_75 : decode cX4_load 75 = .ok (.getfield 62, 3) := by decide +kernel
theorem dX4_load_78 : decode cX4_load 78 = .ok (.iload_n 3, 1) := by decide +kernel
theorem dX4_load_79 : decode cX4_load 79 = .ok (.iconst 3, 1) := by decide +kernel
theorem dX4_load_80 : decode cX4_load 80 = .ok (.iadd, 1) := by decide +kernel
theorem dX4_load_81 : decode cX4_load 81 = .ok (.iaload, 1) := by decide +kernel
theorem dX4_load_82 : decode cX4_load 82 = .ok (.invokevirtual 244, 3) := by decide +kernel
theorem dX4_load_85 : decode cX4_load 85 = .ok (.istore 4, 2) := by decide +kernel
theorem dX4_load_87 : decode cX4_load 87 = .ok (.iload 4, 2) := by decide +kernel
theorem dX4_load_89 : decode cX4_load 89 = .ok (.ifCond .lt 7, 3) := by decide +kernel
theorem dX4_load_92 : decode cX4_load 92 = .ok (.iconst 1, 1) := by decide +kernel
theorem dX4_load_93 : decode cX4_load 93 = .ok (.goto 4, 3) := by decide +kernel
theorem dX4_load_96 : decode cX4_load 96 = .ok (.iconst 0, 1) := by decide +kernel
theorem dX4_load_97 : decode cX4_load 97 = .ok (.istore_n 2, 1) := by decide +kernel
theorem dX4_load_98 : decode cX4_load 98 = .ok (.iload_n 1, 1) := by decide +kernel
theorem dX4_load_99 : decode cX4_load 99 = .ok (.iload_n 2, 1) := by decide +kernel
theorem dX4_load_100 : decode cX4_load 100 = .ok (.ifCond .eq 7, 3) := by decide +kernel
theorem dX4_load_103 : decode cX4_load 103 = .ok (.iconst 1, 1) := by decide +kernel
theorem dX4_load_104 : decode cX4_load 104 = .ok (.goto 4, 3) := by decide +kernel
theorem dX4_load_107 : decode cX4_load 107 = .ok (.iconst 0, 1) := by decide +kernel
theorem dX4_load_108 : decode cX4_load 108 = .ok (.iadd, 1) := by decide +kernel
theorem dX4_load_109 : decode cX4_load 109 = .ok (.istore_n 1, 1) := by decide +kernel
theorem dX4_load_110 : decode cX4_load 110 = .ok (.goto (-94), 3) := by decide +kernel
theorem dX4_load_113 : decode cX4_load 113 = .ok (.aload_n 0, 1) := by decide +kernel
theorem dX4_load_114 : decode cX4_load 114 = .ok (.iconst 0, 1) := by decide +kernel
theorem dX4_load_115 : decode cX4_load 115 = .ok (.putfield 200, 3) := by decide +kernel
theorem dX4_load_118 : decode cX4_load 118 = .ok (.iload_n 1, 1) := by decide +kernel
theorem dX4_load_119 : decode cX4_load 119 = .ok (.ireturn, 1) := by decide +kernel
abbrev wX4_load : List Cond := .code yX4_load cX4_load 5 (some .int) :: lw_gd
theorem hdX4_load : (yX4_load.cls ≠ "java/lang/invoke/MethodHandle" ∧ yX4_load.cls ≠ "java/lang/invoke/VarHandle" ∧ (parseMethodDescriptor yX4_load.desc).map (fun d => d.parameters.length) = some 0) := by decide +kernel
def fX4_load_113   (b1 : Int32) (M : xm_M) : Option (Int32 × xm_M) :=
  xm_lt (xm_s M 0 4 (0 : Int32)) (fun M5 => some (b1, M5))
set_option maxRecDepth 20000 in
theorem tfX4_load_113 {p : Program} {l : Launch} {e : Env} {s : State} {m : MethodId} {args : Array Value} {below : List Frame} {meth : Method} {c : Code} {D : va_G} {g : xm_G} {A : Nat → Prop} (hX : xm_X p m meth c cX4_load 5 s args wX4_load RX4 (some .int) D mL g A)     : ∀ (b1 : Int32), ∀ (M : xm_M), xm_J p l e ({ frames := 5, cells := 0, slots := 0, locals := 109 }) s m args below meth c 5 D mL g A (xm_Fi g) 113 [(0, .ref (g.1 0)), (1, .int b1)] [] M (fX4_load_113 b1 M) := by
  intro b1 M
  unfold fX4_load_113
  refine xm_aload_n hX 0 dX4_load_113 rfl rfl ?_
  refine xm_iconst hX (v := 0) rfl dX4_load_114 ?_
  refine xm_puti hX (k := 0) (ci := 4) (j := 4) (C := RX4) (T := TX4) (N := 27) (t0 := tyX4) mL_0 rfl rfl (by decide) (fun z hz => List.mem_cons_of_mem _ (iw_X4 z hz)) tyX4_ok nmX4 rfl rfl (List.mem_cons_of_mem _ gm_437) dX4_load_115 (fun M5 => ?_)
  refine xm_iload_n hX 1 dX4_load_118 rfl rfl ?_
  exact xm_iret hX dX4_load_119
def fX4_load_108  (k16 : Int32 → Int32 → xm_M → Option (Int32 × xm_M)) (b2 : Int32) (s0 : Int32) (s1 : Int32) (M : xm_M) : Option (Int32 × xm_M) :=
  xm_lt (s1 + s0) (fun x9 => k16 x9 b2 M)
set_option maxRecDepth 20000 in
theorem tfX4_load_108 {p : Program} {l : Launch} {e : Env} {s : State} {m : MethodId} {args : Array Value} {below : List Frame} {meth : Method} {c : Code} {D : va_G} {g : xm_G} {A : Nat → Prop} (hX : xm_X p m meth c cX4_load 5 s args wX4_load RX4 (some .int) D mL g A)   (k16 : Int32 → Int32 → xm_M → Option (Int32 × xm_M)) (h16 : ∀ (b1 : Int32), ∀ (b2 : Int32), ∀ (M : xm_M), xm_J p l e ({ frames := 5, cells := 0, slots := 0, locals := 109 }) s m args below meth c 5 D mL g A (xm_Fi g) 16 [(0, .ref (g.1 0)), (1, .int b1), (2, .int b2)] [] M (k16 b1 b2 M)) : ∀ (b2 : Int32), ∀ (s0 : Int32), ∀ (s1 : Int32), ∀ (M : xm_M), xm_J p l e ({ frames := 5, cells := 0, slots := 0, locals := 109 }) s m args below meth c 5 D mL g A (xm_Fi g) 108 [(0, .ref (g.1 0)), (2, .int b2)] [.int s0, .int s1] M (fX4_load_108 k16 b2 s0 s1 M) := by
  intro b2 s0 s1 M
  unfold fX4_load_108
  refine xm_iadd hX dX4_load_108 ?_
  refine xm_nmi (fun x9 => ?_)
  refine xm_istore_n hX (lv' := [(1, .int x9), (0, .ref (g.1 0)), (2, .int b2)]) dX4_load_109 rfl (by decide) rfl ?_
  refine xm_goto hX (tgt := 16) dX4_load_110 rfl ?_
  refine xm_weak [1, 0, 2] (lv' := [(0, .ref (g.1 0)), (1, .int x9), (2, .int b2)]) rfl ?_
  exact h16 x9 b2 M
def fX4_load_97  (k16 : Int32 → Int32 → xm_M → Option (Int32 × xm_M)) (b1 : Int32) (s0 : Int32) (M : xm_M) : Option (Int32 × xm_M) :=
  if s0 = 0 then fX4_load_108 k16 s0 (0 : Int32) b1 M else fX4_load_108 k16 s0 (1 : Int32) b1 M
set_option maxRecDepth 20000 in
theorem tfX4_load_97 {p : Program} {l : Launch} {e : Env} {s : State} {m : MethodId} {args : Array Value} {below : List Frame} {meth : Method} {c : Code} {D : va_G} {g : xm_G} {A : Nat → Prop} (hX : xm_X p m meth c cX4_load 5 s args wX4_load RX4 (some .int) D mL g A)   (k16 : Int32 → Int32 → xm_M → Option (Int32 × xm_M)) (h16 : ∀ (b1 : Int32), ∀ (b2 : Int32), ∀ (M : xm_M), xm_J p l e ({ frames := 5, cells := 0, slots := 0, locals := 109 }) s m args below meth c 5 D mL g A (xm_Fi g) 16 [(0, .ref (g.1 0)), (1, .int b1), (2, .int b2)] [] M (k16 b1 b2 M)) : ∀ (b1 : Int32), ∀ (s0 : Int32), ∀ (M : xm_M), xm_J p l e ({ frames := 5, cells := 0, slots := 0, locals := 109 }) s m args below meth c 5 D mL g A (xm_Fi g) 97 [(0, .ref (g.1 0)), (1, .int b1)] [.int s0] M (fX4_load_97 k16 b1 s0 M) := by
  intro b1 s0 M
  unfold fX4_load_97
  refine xm_istore_n hX (lv' := [(2, .int s0), (0, .ref (g.1 0)), (1, .int b1)]) dX4_load_97 rfl (by decide) rfl ?_
  refine xm_iload_n hX 2 dX4_load_98 rfl rfl ?_
  refine xm_iload_n hX 0 dX4_load_99 rfl rfl ?_
  refine xm_if_eq hX (tgt := 107) dX4_load_100 rfl ?_ ?_
  · refine xm_iconst hX (v := 0) rfl dX4_load_107 ?_
    refine xm_weak [1, 0] (lv' := [(0, .ref (g.1 0)), (2, .int s0)]) rfl ?_
    exact tfX4_load_108 hX k16 h16 s0 (0 : Int32) b1 M
  · refine xm_iconst hX (v := 1) rfl dX4_load_103 ?_
    refine xm_goto hX (tgt := 108) dX4_load_104 rfl ?_
    refine xm_weak [1, 0] (lv' := [(0, .ref (g.1 0)), (2, .int s0)]) rfl ?_
    exact tfX4_load_108 hX k16 h16 s0 (1 : Int32) b1 M
def fX4_load_85  (k16 : Int32 → Int32 → xm_M → Option (Int32 × xm_M)) (b1 : Int32) (s0 : Int32) (M : xm_M) : Option (Int32 × xm_M) :=
  if s0 < 0 then fX4_load_97 k16 b1 (0 : Int32) M else fX4_load_97 k16 b1 (1 : Int32) M
set_option maxRecDepth 20000 in
theorem tfX4_load_85 {p : Program} {l : Launch} {e : Env} {s : State} {m : MethodId} {args : Array Value} {below : List Frame} {meth : Method} {c : Code} {D : va_G} {g : xm_G} {A : Nat → Prop} (hX : xm_X p m meth c cX4_load 5 s args wX4_load RX4 (some .int) D mL g A)   (k16 : Int32 → Int32 → xm_M → Option (Int32 × xm_M)) (h16 : ∀ (b1 : Int32), ∀ (b2 : Int32), ∀ (M : xm_M), xm_J p l e ({ frames := 5, cells := 0, slots := 0, locals := 109 }) s m args below meth c 5 D mL g A (xm_Fi g) 16 [(0, .ref (g.1 0)), (1, .int b1), (2, .int b2)] [] M (k16 b1 b2 M)) : ∀ (b1 : Int32), ∀ (s0 : Int32), ∀ (M : xm_M), xm_J p l e ({ frames := 5, cells := 0, slots := 0, locals := 109 }) s m args below meth c 5 D mL g A (xm_Fi g) 85 [(0, .ref (g.1 0)), (1, .int b1)] [.int s0] M (fX4_load_85 k16 b1 s0 M) := by
  intro b1 s0 M
  unfold fX4_load_85
  refine xm_istore hX (lv' := [(4, .int s0), (0, .ref (g.1 0)), (1, .int b1)]) dX4_load_85 (by decide) rfl ?_
  refine xm_iload hX 0 dX4_load_87 rfl ?_
  refine xm_if_lt hX (tgt := 96) dX4_load_89 rfl ?_ ?_
  · refine xm_iconst hX (v := 0) rfl dX4_load_96 ?_
    refine xm_weak [1, 2] (lv' := [(0, .ref (g.1 0)), (1, .int b1)]) rfl ?_
    exact tfX4_load_97 hX k16 h16 b1 (0 : Int32) M
  · refine xm_iconst hX (v := 1) rfl dX4_load_92 ?_
    refine xm_goto hX (tgt := 97) dX4_load_93 rfl ?_
    refine xm_weak [1, 2] (lv' := [(0, .ref (g.1 0)), (1, .int b1)]) rfl ?_
    exact tfX4_load_97 hX k16 h16 b1 (1 : Int32) M
def fX4_load_16  (k16 : Int32 → Int32 → xm_M → Option (Int32 × xm_M)) (b1 : Int32) (b2 : Int32) (M : xm_M) : Option (Int32 × xm_M) :=
  if b2 = 0 then fX4_load_113 b1 M else if (M.1 0 26) ≤ b1 then fX4_load_113 b1 M else xm_lt ((4 : Int32) * b1) (fun x6 => if x6 < 0 ∨ 250 ≤ x6.toNatClampNeg then none else if (M.1 18 x6.toNatClampNeg) = (1 : Int32) then if (x6 + (1 : Int32)) < 0 ∨ 250 ≤ (x6 + (1 : Int32)).toNatClampNeg then none else xm_bi (fX4_see (M.1 18 (x6 + (1 : Int32)).toNatClampNeg) M) (fun x11 M10 => fX4_load_85 k16 b1 x11 M10) else if (x6 + (1 : Int32)) < 0 ∨ 250 ≤ (x6 + (1 : Int32)).toNatClampNeg then none else if (x6 + (2 : Int32)) < 0 ∨ 250 ≤ (x6 + (2 : Int32)).toNatClampNeg then none else if (x6 + (3 : Int32)) < 0 ∨ 250 ≤ (x6 + (3 : Int32)).toNatClampNeg then none else xm_bi (fX4_step (M.1 18 (x6 + (1 : Int32)).toNatClampNeg) (M.1 18 (x6 + (2 : Int32)).toNatClampNeg) (M.1 18 (x6 + (3 : Int32)).toNatClampNeg) M) (fun x8 M7 => fX4_load_85 k16 b1 x8 M7))
set_option maxRecDepth 20000 in
theorem tfX4_load_16 {p : Program} {l : Launch} {e : Env} {s : State} {m : MethodId} {args : Array Value} {below : List Frame} {meth : Method} {c : Code} {D : va_G} {g : xm_G} {A : Nat → Prop} (hX : xm_X p m meth c cX4_load 5 s args wX4_load RX4 (some .int) D mL g A)   (k16 : Int32 → Int32 → xm_M → Option (Int32 × xm_M)) (h16 : ∀ (b1 : Int32), ∀ (b2 : Int32), ∀ (M : xm_M), xm_J p l e ({ frames := 5, cells := 0, slots := 0, locals := 109 }) s m args below meth c 5 D mL g A (xm_Fi g) 16 [(0, .ref (g.1 0)), (1, .int b1), (2, .int b2)] [] M (k16 b1 b2 M)) : ∀ (b1 : Int32), ∀ (b2 : Int32), ∀ (M : xm_M), xm_J p l e ({ frames := 5, cells := 0, slots := 0, locals := 109 }) s m args below meth c 5 D mL g A (xm_Fi g) 16 [(0, .ref (g.1 0)), (1, .int b1), (2, .int b2)] [] M (fX4_load_16 k16 b1 b2 M) := by
  intro b1 b2 M
  unfold fX4_load_16
  refine xm_iload_n hX 2 dX4_load_16 rfl rfl ?_
  refine xm_if_eq hX (tgt := 113) dX4_load_17 rfl ?_ ?_
  · refine xm_weak [0, 1] (lv' := [(0, .ref (g.1 0)), (1, .int b1)]) rfl ?_
    exact tfX4_load_113 hX b1 M
  · refine xm_iload_n hX 1 dX4_load_20 rfl rfl ?_
    refine xm_aload_n hX 0 dX4_load_21 rfl rfl ?_
    refine xm_get hX (k := 0) (ci := 4) (j := 26) (C := RX4) (T := TX4) (N := 27) (v := .int (M.1 0 26)) mL_0 rfl rfl rfl (by decide) (fun z hz => List.mem_cons_of_mem _ (iw_X4 z hz)) (List.mem_cons_of_mem _ gm_459) dX4_load_22 ?_
    refine xm_icmp_ge hX (tgt := 113) dX4_load_25 rfl ?_ ?_
    · refine xm_weak [0, 1] (lv' := [(0, .ref (g.1 0)), (1, .int b1)]) rfl ?_
      exact tfX4_load_113 hX b1 M
    · refine xm_iconst hX (v := 4) rfl dX4_load_28 ?_
      refine xm_iload_n hX 1 dX4_load_29 rfl rfl ?_
      refine xm_imul hX dX4_load_30 ?_
      refine xm_nmi (fun x6 => ?_)
      refine xm_istore_n hX (lv' := [(3, .int x6), (0, .ref (g.1 0)), (1, .int b1), (2, .int b2)]) dX4_load_31 rfl (by decide) rfl ?_
      refine xm_aload_n hX 1 dX4_load_32 rfl rfl ?_
      refine xm_get hX (k := 0) (ci := 4) (j := 25) (C := RX4) (T := TX4) (N := 27) (v := .ref (g.1 18)) mL_0 rfl rfl rfl (by decide) (fun z hz => List.mem_cons_of_mem _ (iw_X4 z hz)) (List.mem_cons_of_mem _ gm_458) dX4_load_33 ?_
      refine xm_iload_n hX 0 dX4_load_36 rfl rfl ?_
      refine xm_iald hX (n := 250) mL_18 dX4_load_37 ?_
      refine xm_iconst hX (v := 1) rfl dX4_load_38 ?_
      refine xm_icmp_ne hX (tgt := 57) dX4_load_39 rfl ?_ ?_
      · refine xm_aload_n hX 1 dX4_load_57 rfl rfl ?_
        refine xm_aload_n hX 1 dX4_load_58 rfl rfl ?_
        refine xm_get hX (k := 0) (ci := 4) (j := 25) (C := RX4) (T := TX4) (N := 27) (v := .ref (g.1 18)) mL_0 rfl rfl rfl (by decide) (fun z hz => List.mem_cons_of_mem _ (iw_X4 z hz)) (List.mem_cons_of_mem _ gm_458) dX4_load_59 ?_
        refine xm_iload_n hX 0 dX4_load_62 rfl rfl ?_
        refine xm_iconst hX (v := 1) rfl dX4_load_63 ?_
        refine xm_iadd hX dX4_load_64 ?_
        refine xm_iald hX (n := 250) mL_18 dX4_load_65 ?_
        refine xm_aload_n hX 1 dX4_load_66 rfl rfl ?_
        refine xm_get hX (k := 0) (ci := 4) (j := 25) (C := RX4) (T := TX4) (N := 27) (v := .ref (g.1 18)) mL_0 rfl rfl rfl (by decide) (fun z hz => List.mem_cons_of_mem _ (iw_X4 z hz)) (List.mem_cons_of_mem _ gm_458) dX4_load_67 ?_
        refine xm_iload_n hX 0 dX4_load_70 rfl rfl ?_
        refine xm_iconst hX (v := 2) rfl dX4_load_71 ?_
        refine xm_iadd hX dX4_load_72 ?_
        refine xm_iald hX (n := 250) mL_18 dX4_load_73 ?_
        refine xm_aload_n hX 1 dX4_load_74 rfl rfl ?_
        refine xm_get hX (k := 0) (ci := 4) (j := 25) (C := RX4) (T := TX4) (N := 27) (v := .ref (g.1 18)) mL_0 rfl rfl rfl (by decide) (fun z hz => List.mem_cons_of_mem _ (iw_X4 z hz)) (List.mem_cons_of_mem _ gm_458) dX4_load_75 ?_
        refine xm_iload_n hX 0 dX4_load_78 rfl rfl ?_
        refine xm_iconst hX (v := 3) rfl dX4_load_79 ?_
        refine xm_iadd hX dX4_load_80 ?_
        refine xm_iald hX (n := 250) mL_18 dX4_load_81 ?_
        refine xm_calli hX (xm_runV hX (k := 0) (ci := 4) (As := (fun g => [.int (M.1 18 (x6 + (1 : Int32)).toNatClampNeg), .int (M.1 18 (x6 + (2 : Int32)).toNatClampNeg), .int (M.1 18 (x6 + (3 : Int32)).toNatClampNeg)])) (kX4_step (M.1 18 (x6 + (1 : Int32)).toNatClampNeg) (M.1 18 (x6 + (2 : Int32)).toNatClampNeg) (M.1 18 (x6 + (3 : Int32)).toNatClampNeg) M) mL_0 rfl (xm_gV gm_687 gm_525 gm_526 gm_5 gm_527) rfl ⟨rfl, rfl⟩ ⟨rfl, hdX4_step⟩ ⟨Nat.le_of_ble_eq_true rfl, Nat.le_of_ble_eq_true rfl⟩ rfl (Nat.le_of_ble_eq_true rfl) rfl dX4_load_82) (fun x8 M7 => ?_)
        refine xm_weak [1, 2] (lv' := [(0, .ref (g.1 0)), (1, .int b1)]) rfl ?_
        exact tfX4_load_85 hX k16 h16 b1 x8 M7
      · refine xm_aload_n hX 1 dX4_load_42 rfl rfl ?_
        refine xm_aload_n hX 1 dX4_load_43 rfl rfl ?_
        refine xm_get hX (k := 0) (ci := 4) (j := 25) (C := RX4) (T := TX4) (N := 27) (v := .ref (g.1 18)) mL_0 rfl rfl rfl (by decide) (fun z hz => List.mem_cons_of_mem _ (iw_X4 z hz)) (List.mem_cons_of_mem _ gm_458) dX4_load_44 ?_
        refine xm_iload_n hX 0 dX4_load_47 rfl rfl ?_
        refine xm_iconst hX (v := 1) rfl dX4_load_48 ?_
        refine xm_iadd hX dX4_load_49 ?_
        refine xm_iald hX (n := 250) mL_18 dX4_load_50 ?_
        refine xm_calli hX (xm_runV hX (k := 0) (ci := 4) (As := (fun g => [.int (M.1 18 (x6 + (1 : Int32)).toNatClampNeg)])) (kX4_see (M.1 18 (x6 + (1 : Int32)).toNatClampNeg) M) mL_0 rfl (xm_gV gm_686 gm_534 gm_535 gm_5 gm_536) rfl ⟨rfl, rfl⟩ ⟨rfl, hdX4_see⟩ ⟨Nat.le_of_ble_eq_true rfl, Nat.le_of_ble_eq_true rfl⟩ rfl (Nat.le_of_ble_eq_true rfl) rfl dX4_load_51) (fun x11 M10 => ?_)
        refine xm_goto hX (tgt := 85) dX4_load_54 rfl ?_
        refine xm_weak [1, 2] (lv' := [(0, .ref (g.1 0)), (1, .int b1)]) rfl ?_
        exact tfX4_load_85 hX k16 h16 b1 x11 M10
def fX4_load_16_it   (nq : Nat) : Int32 → Int32 → xm_M → Option (Int32 × xm_M) := xm_it (fun kq => fX4_load_16 kq) (fun _ _ _ => none) nq
theorem tfX4_load_16_it {p : Program} {l : Launch} {e : Env} {s : State} {m : MethodId} {args : Array Value} {below : List Frame} {meth : Method} {c : Code} {D : va_G} {g : xm_G} {A : Nat → Prop} (hX : xm_X p m meth c cX4_load 5 s args wX4_load RX4 (some .int) D mL g A)     : ∀ (nq : Nat), ∀ (b1 : Int32), ∀ (b2 : Int32), ∀ (M : xm_M), xm_J p l e ({ frames := 5, cells := 0, slots := 0, locals := 109 }) s m args below meth c 5 D mL g A (xm_Fi g) 16 [(0, .ref (g.1 0)), (1, .int b1), (2, .int b2)] [] M (fX4_load_16_it  nq b1 b2 M) := by
  intro nq
  induction nq with
  | zero => exact fun _ _ _ => xm_none
  | succ nq ih => exact tfX4_load_16 hX _ ih
def fX4_load   (M : xm_M) : Option (Int32 × xm_M) :=
  xm_bi (fX4_fault M) (fun x2 M1 => if x2 = (-6 : Int32) then xm_lt ((0 : Int32)) (fun x3 => xm_lt ((1 : Int32)) (fun x4 => fX4_load_16_it xm_N x3 x4 M1)) else some ((-3 : Int32), M1))
set_option maxRecDepth 20000 in
theorem kX4_load {l : Launch}    (M : xm_M) : xm_C l yX4_load wX4_load ({ frames := 5, cells := 0, slots := 0, locals := 109 }) mL (fun g => [.ref (g.1 0)]) M xm_Fi (fX4_load   M) := by
  refine xm_C.of (by decide) rfl (fun g => Nat.le_of_ble_eq_true rfl) ?_
  intro p e s m args below meth c D g A hX
  refine xm_lv (lv' := [(0, .ref (g.1 0))]) rfl ?_
  unfold fX4_load
  refine xm_aload_n hX 0 dX4_load_0 rfl rfl ?_
  refine xm_calli hX (xm_runV hX (k := 0) (ci := 4) (As := (fun g => [])) (kX4_fault M) mL_0 rfl (xm_gV gm_685 gm_663 gm_664 gm_5 gm_665) rfl ⟨rfl, rfl⟩ ⟨rfl, hdX4_fault⟩ ⟨Nat.le_of_ble_eq_true rfl, Nat.le_of_ble_eq_true rfl⟩ rfl (Nat.le_of_ble_eq_true rfl) rfl dX4_load_1) (fun x2 M1 => ?_)
  refine xm_bipush hX (v := -6) rfl dX4_load_4 ?_
  refine xm_icmp_eq hX (tgt := 12) dX4_load_6 rfl ?_ ?_
  · refine xm_iconst hX (v := 0) rfl dX4_load_12 ?_
    refine xm_nmi (fun x3 => ?_)
    refine xm_istore_n hX (lv' := [(1, .int x3), (0, .ref (g.1 0))]) dX4_load_13 rfl (by decide) rfl ?_
    refine xm_iconst hX (v := 1) rfl dX4_load_14 ?_
    refine xm_nmi (fun x4 => ?_)
    refine xm_istore_n hX (lv' := [(2, .int x4), (1, .int x3), (0, .ref (g.1 0))]) dX4_load_15 rfl (by decide) rfl ?_
    refine xm_weak [2, 1, 0] (lv' := [(0, .ref (g.1 0)), (1, .int x3), (2, .int x4)]) rfl ?_
    exact tfX4_load_16_it hX xm_N x3 x4 M1
  · refine xm_bipush hX (v := -3) rfl dX4_load_9 ?_
    exact xm_iret hX dX4_load_11
-- ===== OdometryDeskModel.marker(II)I ['0']
theorem dX4_marker_0 : decode cX4_marker 0 = .ok (.iload_n 1, 1) := by decide +kernel
theorem dX4_marker_1 : decode cX4_marker 1 = .ok (.invokestatic 81, 3) := by decide +kernel
theorem dX4_marker_4 : decode cX4_marker 4 = .ok (.ifCond .eq 10, 3) := by decide +kernel
theorem dX4_marker_7 : decode cX4_marker 7 = .ok (.iload_n 2, 1) := by decide +kernel
theorem dX4_marker_8 : decode cX4_marker 8 = .ok (.invokestatic 81, 3) := by decide +kernel
theorem dX4_marker_11 : decode cX4_marker 11 = .ok (.ifCond .ne 6, 3) := by decide +kernel
theorem dX4_marker_14 : decode cX4_marker 14 = .ok (.bipush (-2), 2) := by decide +kernel
theorem dX4_marker_16 : decode cX4_marker 16 = .ok (.ireturn, 1) := by decide +kernel
theorem dX4_marker_17 : decode cX4_marker 17 = .ok (.aload_n 0, 1) := by decide +kernel
theorem dX4_marker_18 : decode cX4_marker 18 = .ok (.getfield 7, 3) := by decide +kernel
theorem dX4_marker_21 : decode cX4_marker 21 = .ok (.bipush 10, 2) := by decide +kernel
theorem dX4_marker_23 : decode cX4_marker 23 = .ok (.iaload, 1) := by decide +kernel
theorem dX4_marker_24 : decode cX4_marker 24 = .ok (.bipush 6, 2) := by decide +kernel
theorem dX4_marker_26 : decode cX4_marker 26 = .ok (.if_icmp .ne 6, 3) := by decide +kernel
theorem dX4_marker_29 : decode cX4_marker 29 = .ok (.bipush (-4), 2) := by decide +kernel
theorem dX4_marker_31 : decode cX4_marker 31 = .ok (.ireturn, 1) := by decide +kernel
theorem dX4_marker_32 : decode cX4_marker 32 = .ok (.aload_n 0, 1) := by decide +kernel
theorem dX4_marker_33 : decode cX4_marker 33 = .ok (.getfield 7, 3) := by decide +kernel
theorem dX4_marker_36 : decode cX4_marker 36 = .ok (.bipush 55, 2) := by decide +kernel
theorem dX4_marker_38 : decode cX4_marker 38 = .ok (.iconst 2, 1) := by decide +kernel
theorem dX4_marker_39 : decode cX4_marker 39 = .ok (.aload_n 0, 1) := by decide +kernel
theorem dX4_marker_40 : decode cX4_marker 40 = .ok (.getfield 7, 3) := by decide +kernel
theorem dX4_marker_43 : decode cX4_marker 43 = .ok (.bipush 10, 2) := by decide +kernel
theorem dX4_marker_45 : decode cX4_marker 45 = .ok (.iaload, 1) := by decide +kernel
theorem dX4_marker_46 : decode cX4_marker 46 = .ok (.imul, 1) := by decide +kernel
theorem dX4_marker_47 : decode cX4_marker 47 = .ok (.iadd, 1) := by decide +kernel
theorem dX4_marker_48 : decode cX4_marker 48 = .ok (.iload_n 1, 1) := by decide +kernel
theorem dX4_marker_49 : decode cX4_marker 49 = .ok (.iastore, 1) := by decide +kernel
theorem dX4_marker_50 : decode cX4_marker 50 = .ok (.aload_n 0, 1) := by decide +kernel
theorem dX4_marker_51 : decode cX4_marker 51 = .ok (.getfield 7, 3) := by decide +kernel
theorem dX4_marker_54 : decode cX4_marker 54 = .ok (.bipush 55, 2) := by decide +kernel
theorem dX4_marker_56 : decode cX4_marker 56 = .ok (.iconst 2, 1) := by decide +kernel
theorem dX4_marker_57 : decode cX4_marker 57 = .ok (.aload_n 0, 1) := by decide +kernel
theorem dX4_marker_58 : decode cX4_marker 58 = .ok (.getfield 7, 3) := by decide +kernel
theorem dX4_marker_61 : decode cX4_marker 61 = .ok (.bipush 10, 2) := by decide +kernel
theorem dX4_marker_63 : decode cX4_marker 63 = .ok (.iaload, 1) := by decide +kernel
theorem dX4_marker_64 : decode cX4_marker 64 = .ok (.imul, 1) := by decide +kernel
theorem dX4_marker_65 : decode cX4_marker 65 = .ok (.iadd, 1) := by decide +kernel
theorem dX4_marker_66 : decode cX4_marker 66 = .ok (.iconst 1, 1) := by decide +kernel
theorem dX4_marker_67 : decode cX4_marker 67 = .ok (.iadd, 1) := by decide +kernel
theorem dX4_marker_68 : decode cX4_marker 68 = .ok (.iload_n 2, 1) := by decide +kernel
theorem dX4_marker_69 : decode cX4_marker 69 = .ok (.iastore, 1) := by decide +kernel
theorem dX4_marker_70 : decode cX4_marker 70 = .ok (.aload_n 0, 1) := by decide +kernel
theorem dX4_marker_71 : decode cX4_marker 71 = .ok (.getfield 7, 3) := by decide +kernel
theorem dX4_marker_74 : decode cX4_marker 74 = .ok (.bipush 10, 2) := by decide +kernel
theorem dX4_marker_76 : decode cX4_marker 76 = .ok (.dup2, 1) := by decide +kernel
theorem dX4_marker_77 : decode cX4_marker 77 = .ok (.iaload, 1) := by decide +kernel
theorem dX4_marker_78 : decode cX4_marker 78 = .ok (.iconst 1, 1) := by decide +kernel
theorem dX4_marker_79 : decode cX4_marker 79 = .ok (.iadd, 1) := by decide +kernel
theorem dX4_marker_80 : decode cX4_marker 80 = .ok (.iastore, 1) := by decide +kernel
theorem dX4_marker_81 : decode cX4_marker 81 = .ok (.aload_n 0, 1) := by decide +kernel
theorem dX4_marker_82 : decode cX4_marker 82 = .ok (.getfield 7, 3) := by decide +kernel
theorem dX4_marker_85 : decode cX4_marker 85 = .ok (.bipush 10, 2) := by decide +kernel
theorem dX4_marker_87 : decode cX4_marker 87 = .ok (.iaload, 1) := by decide +kernel
theorem dX4_marker_88 : decode cX4_marker 88 = .ok (.iconst 1, 1) := by decide +kernel
theorem dX4_marker_89 : decode cX4_marker 89 = .ok (.isub, 1) := by decide +kernel
theorem dX4_marker_90 : decode cX4_marker 90 = .ok (.ireturn, 1) := by decide +kernel
abbrev wX4_marker : List Cond := .code yX4_marker cX4_marker 3 (some .int) :: lw_gd
theorem hdX4_marker : (yX4_marker.cls ≠ "java/lang/invoke/MethodHandle" ∧ yX4_marker.cls ≠ "java/lang/invoke/VarHandle" ∧ (parseMethodDescriptor yX4_marker.desc).map (fun d => d.parameters.length) = some 2) := by decide +kernel
def fX4_marker  (a1 : Int32) (a2 : Int32) (M : xm_M) : Option (Int32 × xm_M) :=
  xm_bi (fX4_isPlace a1 M) (fun x2 M1 => if x2 = 0 then some ((-2 : Int32), M1) else xm_bi (fX4_isPlace a2 M1) (fun x4 M3 => if x4 = 0 then some ((-2 : Int32), M3) else if (M3.1 1 10) = (6 : Int32) then some ((-4 : Int32), M3) else if ((55 : Int32) + ((2 : Int32) * (M3.1 1 10))) < 0 ∨ 547 ≤ ((55 : Int32) + ((2 : Int32) * (M3.1 1 10))).toNatClampNeg then none else xm_lt (xm_s M3 1 ((55 : Int32) + ((2 : Int32) * (M3.1 1 10))).toNatClampNeg a1) (fun M5 => if (((55 : Int32) + ((2 : Int32) * (M5.1 1 10))) + (1 : Int32)) < 0 ∨ 547 ≤ (((55 : Int32) + ((2 : Int32) * (M5.1 1 10))) + (1 : Int32)).toNatClampNeg then none else xm_lt (xm_s M5 1 (((55 : Int32) + ((2 : Int32) * (M5.1 1 10))) + (1 : Int32)).toNatClampNeg a2) (fun M6 => xm_lt (xm_s M6 1 10 ((M6.1 1 10) + (1 : Int32))) (fun M7 => some ((M7.1 1 10) - (1 : Int32), M7))))))
set_option maxRecDepth 20000 in
theorem kX4_marker {l : Launch}   (a1 : Int32) (a2 : Int32) (M : xm_M) : xm_C l yX4_marker wX4_marker ({ frames := 2, cells := 0, slots := 0, locals := 42 }) mL (fun g => [.ref (g.1 0), .int a1, .int a2]) M xm_Fi (fX4_marker  a1 a2 M) := by
  refine xm_C.of (by decide) rfl (fun g => Nat.le_of_ble_eq_true rfl) ?_
  intro p e s m args below meth c D g A hX
  refine xm_lv (lv' := [(0, .ref (g.1 0)), (1, .int a1), (2, .int a2)]) rfl ?_
  unfold fX4_marker
  refine xm_iload_n hX 1 dX4_marker_0 rfl rfl ?_
  refine xm_calli hX (xm_runS hX (As := (fun g => [.int a1])) (kX4_isPlace a1 M) (xm_gS gm_507 gm_508 gm_5 gm_509) rfl ⟨rfl, rfl⟩ hdX4_isPlace ⟨Nat.le_of_ble_eq_true rfl, Nat.le_of_ble_eq_true rfl⟩ rfl (Nat.le_of_ble_eq_true rfl) rfl dX4_marker_1) (fun x2 M1 => ?_)
  refine xm_if_eq hX (tgt := 14) dX4_marker_4 rfl ?_ ?_
  · refine xm_bipush hX (v := -2) rfl dX4_marker_14 ?_
    exact xm_iret hX dX4_marker_16
  · refine xm_iload_n hX 2 dX4_marker_7 rfl rfl ?_
    refine xm_calli hX (xm_runS hX (As := (fun g => [.int a2])) (kX4_isPlace a2 M1) (xm_gS gm_507 gm_508 gm_5 gm_509) rfl ⟨rfl, rfl⟩ hdX4_isPlace ⟨Nat.le_of_ble_eq_true rfl, Nat.le_of_ble_eq_true rfl⟩ rfl (Nat.le_of_ble_eq_true rfl) rfl dX4_marker_8) (fun x4 M3 => ?_)
    refine xm_if_ne hX (tgt := 17) dX4_marker_11 rfl ?_ ?_
    · refine xm_aload_n hX 0 dX4_marker_17 rfl rfl ?_
      refine xm_get hX (k := 0) (ci := 4) (j := 0) (C := RX4) (T := TX4) (N := 27) (v := .ref (g.1 1)) mL_0 rfl rfl rfl (by decide) (fun z hz => List.mem_cons_of_mem _ (iw_X4 z hz)) (List.mem_cons_of_mem _ gm_433) dX4_marker_18 ?_
      refine xm_bipush hX (v := 10) rfl dX4_marker_21 ?_
      refine xm_ialdL hX (n := 547) (j := 10) mL_1 (by decide) rfl dX4_marker_23 ?_
      refine xm_bipush hX (v := 6) rfl dX4_marker_24 ?_
      refine xm_icmp_ne hX (tgt := 32) dX4_marker_26 rfl ?_ ?_
      · refine xm_aload_n hX 0 dX4_marker_32 rfl rfl ?_
        refine xm_get hX (k := 0) (ci := 4) (j := 0) (C := RX4) (T := TX4) (N := 27) (v := .ref (g.1 1)) mL_0 rfl rfl rfl (by decide) (fun z hz => List.mem_cons_of_mem _ (iw_X4 z hz)) (List.mem_cons_of_mem _ gm_433) dX4_marker_33 ?_
        refine xm_bipush hX (v := 55) rfl dX4_marker_36 ?_
        refine xm_iconst hX (v := 2) rfl dX4_marker_38 ?_
        refine xm_aload_n hX 0 dX4_marker_39 rfl rfl ?_
        refine xm_get hX (k := 0) (ci := 4) (j := 0) (C := RX4) (T := TX4) (N := 27) (v := .ref (g.1 1)) mL_0 rfl rfl rfl (by decide) (fun z hz => List.mem_cons_of_mem _ (iw_X4 z hz)) (List.mem_cons_of_mem _ gm_433) dX4_marker_40 ?_
        refine xm_bipush hX (v := 10) rfl dX4_marker_43 ?_
        refine xm_ialdL hX (n := 547) (j := 10) mL_1 (by decide) rfl dX4_marker_45 ?_
        refine xm_imul hX dX4_marker_46 ?_
        refine xm_iadd hX dX4_marker_47 ?_
        refine xm_iload_n hX 1 dX4_marker_48 rfl rfl ?_
        refine xm_iast hX (n := 547) mL_1 dX4_marker_49 (fun M5 => ?_)
        refine xm_aload_n hX 0 dX4_marker_50 rfl rfl ?_
        refine xm_get hX (k := 0) (ci := 4) (j := 0) (C := RX4) (T := TX4) (N := 27) (v := .ref (g.1 1)) mL_0 rfl rfl rfl (by decide) (fun z hz => List.mem_cons_of_mem _ (iw_X4 z hz)) (List.mem_cons_of_mem _ gm_433) dX4_marker_51 ?_
        refine xm_bipush hX (v := 55) rfl dX4_marker_54 ?_
        refine xm_iconst hX (v := 2) rfl dX4_marker_56 ?_
        refine xm_aload_n hX 0 dX4_marker_57 rfl rfl ?_
        refine xm_get hX (k := 0) (ci := 4) (j := 0) (C := RX4) (T := TX4) (N := 27) (v := .ref (g.1 1)) mL_0 rfl rfl rfl (by decide) (fun z hz => List.mem_cons_of_mem _ (iw_X4 z hz)) (List.mem_cons_of_mem _ gm_433) dX4_marker_58 ?_
        refine xm_bipush hX (v := 10) rfl dX4_marker_61 ?_
        refine xm_ialdL hX (n := 547) (j := 10) mL_1 (by decide) rfl dX4_marker_63 ?_
        refine xm_imul hX dX4_marker_64 ?_
        refine xm_iadd hX dX4_marker_65 ?_
        refine xm_iconst hX (v := 1) rfl dX4_marker_66 ?_
        refine xm_iadd hX dX4_marker_67 ?_
        refine xm_iload_n hX 2 dX4_marker_68 rfl rfl ?_
        refine xm_iast hX (n := 547) mL_1 dX4_marker_69 (fun M6 => ?_)
        refine xm_aload_n hX 0 dX4_marker_70 rfl rfl ?_
        refine xm_get hX (k := 0) (ci := 4) (j := 0) (C := RX4) (T := TX4) (N := 27) (v := .ref (g.1 1)) mL_0 rfl rfl rfl (by decide) (fun z hz => List.mem_cons_of_mem _ (iw_X4 z hz)) (List.mem_cons_of_mem _ gm_433) dX4_marker_71 ?_
        refine xm_bipush hX (v := 10) rfl dX4_marker_74 ?_
        refine xm_dup2_11 hX rfl rfl dX4_marker_76 ?_
        refine xm_ialdL hX (n := 547) (j := 10) mL_1 (by decide) rfl dX4_marker_77 ?_
        refine xm_iconst hX (v := 1) rfl dX4_marker_78 ?_
        refine xm_iadd hX dX4_marker_79 ?_
        refine xm_iastL hX (n := 547) (j := 10) mL_1 (by decide) rfl dX4_marker_80 (fun M7 => ?_)
        refine xm_aload_n hX 0 dX4_marker_81 rfl rfl ?_
        refine xm_get hX (k := 0) (ci := 4) (j := 0) (C := RX4) (T := TX4) (N := 27) (v := .ref (g.1 1)) mL_0 rfl rfl rfl (by decide) (fun z hz => List.mem_cons_of_mem _ (iw_X4 z hz)) (List.mem_cons_of_mem _ gm_433) dX4_marker_82 ?_
        refine xm_bipush hX (v := 10) rfl dX4_marker_85 ?_
        refine xm_ialdL hX (n := 547) (j := 10) mL_1 (by decide) rfl dX4_marker_87 ?_
        refine xm_iconst hX (v := 1) rfl dX4_marker_88 ?_
        refine xm_isub hX dX4_marker_89 ?_
        exact xm_iret hX dX4_marker_90
      · refine xm_bipush hX (v := -4) rfl dX4_marker_29 ?_
        exact xm_iret hX dX4_marker_31
    · refine xm_bipush hX (v := -2) rfl dX4_marker_14 ?_
      exact xm_iret hX dX4_marker_16
-- ===== OdometryDeskModel.spread(IZ)I ['0']
theorem dX4_spread_0 : decode cX4_spread 0 = .ok (.iload_n 1, 1) := by decide +kernel
theorem dX4_spread_1 : decode cX4_spread 1 = .ok (.istore_n 3, 1) := by decide +kernel
theorem dX4_spread_2 : decode cX4_spread 2 = .ok (.iload_n 3, 1) := by decide +kernel
theorem dX4_spread_3 : decode cX4_spread 3 = .ok (.aload_n 0, 1) := by decide +kernel
theorem dX4_spread_4 : decode cX4_spread 4 = .ok (.getfield 7, 3) := by decide +kernel
theorem dX4_spread_7 : decode cX4_spread 7 = .ok (.bipush 11, 2) := by decide +kernel
theorem dX4_spread_9 : decode cX4_spread 9 = .ok (.iaload, 1) := by decide +kernel
theorem dX4_spread_10 : decode cX4_spread 10 = .ok (.if_icmp .ge 19, 3) := by decide +kernel
theorem dX4_spread_13 : decode cX4_spread 13 = .ok (.aload_n 0, 1) := by decide +kernel
theorem dX4_spread_14 : decode cX4_spread 14 = .ok (.getfield 23, 3) := by decide +kernel
theorem dX4_spread_17 : decode cX4_spread 17 = .ok (.iload_n 3, 1) := by decide +kernel
theorem dX4_spread_18 : decode cX4_spread 18 = .ok (.iaload, 1) := by decide +kernel
theorem dX4_spread_19 : decode cX4_spread 19 = .ok (.iconst 4, 1) := by decide +kernel
theorem dX4_spread_20 : decode cX4_spread 20 = .ok (.if_icmp .eq 9, 3) := by decide +kernel
theorem dX4_spread_23 : decode cX4_spread 23 = .ok (.iinc 3 1, 3) := by decide +kernel
theorem dX4_spread_26 : decode cX4_spread 26 = .ok (.goto (-24), 3) := by decide +kernel
theorem dX4_spread_29 : decode cX4_spread 29 = .ok (.iload_n 1, 1) := by decide +kernel
theorem dX4_spread_30 : decode cX4_spread 30 = .ok (.iconst 1, 1) := by decide +kernel
theorem dX4_spread_31 : decode cX4_spread 31 = .ok (.isub, 1) := by decide +kernel
theorem dX4_spread_32 : decode cX4_spread 32 = .ok (.istore 4, 2) := by decide +kernel
theorem dX4_spread_34 : decode cX4_spread 34 = .ok (.iload 4, 2) := by decide +kernel
theorem dX4_spread_36 : decode cX4_spread 36 = .ok (.ifCond .lt 20, 3) := by decide +kernel
theorem dX4_spread_39 : decode cX4_spread 39 = .ok (.aload_n 0, 1) := by decide +kernel
theorem dX4_spread_40 : decode cX4_spread 40 = .ok (.getfield 23, 3) := by decide +kernel
theorem dX4_spread_43 : decode cX4_spread 43 = .ok (.iload 4, 2) := by decide +kernel
theorem dX4_spread_45 : decode cX4_spread 45 = .ok (.iaload, 1) := by decide +kernel
theorem dX4_spread_46 : decode cX4_spread 46 = .ok (.iconst 4, 1) := by decide +kernel
theorem dX4_spread_47 : decode cX4_spread 47 = .ok (.if_icmp .eq 9, 3) := by decide +kernel
theorem dX4_spread_50 : decode cX4_spread 50 = .ok (.iinc 4 (-1), 3) := by decide +kernel
theorem dX4_spread_53 : decode cX4_spread 53 = .ok (.goto (-19), 3) := by decide +kernel
theorem dX4_spread_56 : decode cX4_spread 56 = .ok (.iload_n 2, 1) := by decide +kernel
theorem dX4_spread_57 : decode cX4_spread 57 = .ok (.ifCond .eq 12, 3) := by decide +kernel
theorem dX4_spread_60 : decode cX4_spread 60 = .ok (.aload_n 0, 1) := by decide +kernel
theorem dX4_spread_61 : decode cX4_spread 61 = .ok (.getfield 26, 3) := by decide +kernel
theorem dX4_spread_64 : decode cX4_spread 64 = .ok (.iload_n 1, 1) := by decide +kernel
theorem dX4_spread_65 : decode cX4_spread 65 = .ok (.iaload, 1) := by decide +kernel
theorem dX4_spread_66 : decode cX4_spread 66 = .ok (.goto 9, 3) := by decide +kernel
theorem dX4_spread_69 : decode cX4_spread 69 = .ok (.aload_n 0, 1) := by decide +kernel
theorem dX4_spread_70 : decode cX4_spread 70 = .ok (.getfield 29, 3) := by decide +kernel
theorem dX4_spread_73 : decode cX4_spread 73 = .ok (.iload_n 1, 1) := by decide +kernel
theorem dX4_spread_74 : decode cX4_spread 74 = .ok (.iaload, 1) := by decide +kernel
theorem dX4_spread_75 : decode cX4_spread 75 = .ok (.istore 5, 2) := by decide +kernel
theorem dX4_spread_77 : decode cX4_spread 77 = .ok (.iload_n 3, 1) := by decide +kernel
theorem dX4_spread_78 : decode cX4_spread 78 = .ok (.aload_n 0, 1) := by decide +kernel
theorem dX4_spread_79 : decode cX4_spread 79 = .ok (.getfield 7, 3) := by decide +kernel
theorem dX4_spread_82 : decode cX4_spread 82 = .ok (.bipush 11, 2) := by decide +kernel
theorem dX4_spread_84 : decode cX4_spread 84 = .ok (.iaload, 1) := by decide +kernel
theorem dX4_spread_85 : decode cX4_spread 85 = .ok (.if_icmp .ne 6, 3) := by decide +kernel
theorem dX4_spread_88 : decode cX4_spread 88 = .ok (.iload 5, 2) := by decide +kernel
theorem dX4_spread_90 : decode cX4_spread 90 = .ok (.ireturn, 1) := by decide +kernel
theorem dX4_spread_91 : decode cX4_spread 91 = .ok (.iload_n 2, 1) := by decide +kernel
theorem dX4_spread_92 : decode cX4_spread 92 = .ok (.ifCond .eq 13, 3) := by decide +kernel
theorem dX4_spread_95 : decode cX4_spread 95 = .ok (.aload_n 0, 1) := by decide +kernel
theorem dX4_spread_96 : decode cX4_spread 96 = .ok (.getfield 56, 3) := by decide +kernel
theorem dX4_spread_99 : decode cX4_spread 99 = .ok (.iload_n 3, 1) := by decide +kernel
theorem dX4_spread_100 : decode cX4_spread 100 = .ok (.iaload, 1) := by decide +kernel
theorem dX4_spread_101 : decode cX4_spread 101 = .ok (.i2l, 1) := by decide +kernel
theorem dX4_spread_102 : decode cX4_spread 102 = .ok (.goto 10, 3) := by decide +kernel
theorem dX4_spread_105 : decode cX4_spread 105 = .ok (.aload_n 0, 1) := by decide +kernel
theorem dX4_spread_106 : decode cX4_spread 106 = .ok (.getfield 59, 3) := by decide +kernel
theorem dX4_spread_109 : decode cX4_spread 109 = .ok (.iload_n 3, 1) := by decide +kernel
theorem dX4_spread_110 : decode cX4_spread 110 = .ok (.iaload, 1) := by decide +kernel
theorem dX4_spread_111 : decode cX4_spread 111 = .ok (.i2l, 1) := by decide +kernel
theorem dX4_spread_112 : decode cX4_spread 112 = .ok (.lstore 6, 2) := by decide +kernel
theorem dX4_spread_114 : decode cX4_spread 114 = .ok (.iload 4, 2) := by decide +kernel
theorem dX4_spread_116 : decode cX4_spread 116 = .ok (.ifCond .ge 7, 3) := by decide +kernel
theorem dX4_spread_119 : decode cX4_spread 119 = .ok (.lconst 0, 1) := by decide +kernel
theorem dX4_spread_120 : decode cX4_spread 120 = .ok (.goto 11, 3) := by decide +kernel
theorem dX4_spread_123 : decode cX4_spread 123 = .ok (.aload_n 0, 1) := by decide +kernel
theorem dX4_spread_124 : decode cX4_spread 124 = .ok (.getfield 35, 3) := by decide +kernel
theorem dX4_spread_127 : decode cX4_spread 127 = .ok (.iload 4, 2) := by decide +kernel
theorem dX4_spread_129 : decode cX4_spread 129 = .ok (.iaload, 1) := by decide +kernel
theorem dX4_spread_130 : decode cX4_spread 130 = .ok (.i2l, 1) := by decide +kernel
theorem dX4_spread_131 : decode cX4_spread 131 = .ok (.lstore 8, 2) := by decide +kernel
theorem dX4_spread_133 : decode cX4_spread 133 = .ok (.iload 5, 2) := by decide +kernel
theorem dX4_spread_135 : decode cX4_spread 135 = .ok (.iload_n 3, 1) := by decide +kernel
theorem dX4_spread_136 : decode cX4_spread 136 = .ok (.iload_n 1, 1) := by decide +kernel
theorem dX4_spread_137 : decode cX4_spread 137 = .ok (.if_icmp .ne 9, 3) := by decide +kernel
theorem dX4_spread_140 : decode cX4_spread 140 = .ok (.lload 6, 2) := by decide +kernel
theorem dX4_spread_142 : decode cX4_spread 142 = .ok (.l2i, 1) := by decide +kernel
theorem dX4_spread_143 : decode cX4_spread 143 = .ok (.goto 4, 3) := by decide +kernel
theorem dX4_spread_146 : decode cX4_spread 146 = .ok (.iconst 0, 1) := by decide +kernel
theorem dX4_spread_147 : decode cX4_spread 147 = .ok (.iadd, 1) := by decide +kernel
theorem dX4_spread_148 : decode cX4_spread 148 = .ok (.istore 5, 2) := by decide +kernel
theorem dX4_spread_150 : decode cX4_spread 150 = .ok (.aload_n 0, 1) := by decide +kernel
theorem dX4_spread_151 : decode cX4_spread 151 = .ok (.getfield 35, 3) := by decide +kernel
theorem dX4_spread_154 : decode cX4_spread 154 = .ok (.iload_n 3, 1) := by decide +kernel
theorem dX4_spread_155 : decode cX4_spread 155 = .ok (.iaload, 1) := by decide +kernel
theorem dX4_spread_156 : decode cX4_spread 156 = .ok (.i2l, 1) := by decide +kernel
theorem dX4_spread_157 : decode cX4_spread 157 = .ok (.lload 8, 2) := by decide +kernel
theorem dX4_spread_159 : decode cX4_spread 159 = .ok (.lcmp, 1) := by decide +kernel
theorem dX4_spread_160 : decode cX4_spread 160 = .ok (.ifCond .ne 8, 3) := by decide +kernel
theorem dX4_spread_163 : decode cX4_spread 163 = .ok (.iload 5, 2) := by decide +kernel
theorem dX4_spread_165 : decode cX4_spread 165 = .ok (.goto 32, 3) := by decide +kernel
theorem dX4_spread_168 : decode cX4_spread 168 = .ok (.iload 5, 2) := by decide +kernel
theorem dX4_spread_170 : decode cX4_spread 170 = .ok (.i2l, 1) := by decide +kernel
theorem dX4_spread_171 : decode cX4_spread 171 = .ok (.lload 6, 2) := by decide +kernel
theorem dX4_spread_173 : decode cX4_spread 173 = .ok (.aload_n 0, 1) := by decide +kernel
theorem dX4_spread_174 : decode cX4_spread 174 = .ok (.getfield 35, 3) := by decide +kernel
theorem dX4_spread_177 : decode cX4_spread 177 = .ok (.iload_n 1, 1) := by decide +kernel
theorem dX4_spread_178 : decode cX4_spread 178 = .ok (.iaload, 1) := by decide +kernel
theorem dX4_spread_179 : decode cX4_spread 179 = .ok (.i2l, 1) := by decide +kernel
theorem dX4_spread_180 : decode cX4_spread 180 = .ok (.lload 8, 2) := by decide +kernel
theorem dX4_spread_182 : decode cX4_spread 182 = .ok (.lsub, 1) := by decide +kernel
theorem dX4_spread_183 : decode cX4_spread 183 = .ok (.lmul, 1) := by decide +kernel
theorem dX4_spread_184 : decode cX4_spread 184 = .ok (.aload_n 0, 1) := by decide +kernel
theorem dX4_spread_185 : decode cX4_spread 185 = .ok (.getfield 35, 3) := by decide +kernel
theorem dX4_spread_188 : decode cX4_spread 188 = .ok (.iload_n 3, 1) := by decide +kernel
theorem dX4_spread_189 : decode cX4_spread 189 = .ok (.iaload, 1) := by decide +kernel
theorem dX4_spread_190 : decode cX4_spread 190 = .ok (.i2l, 1) := by decide +kernel
theorem dX4_spread_191 : decode cX4_spread 191 = .ok (.lload 8, 2) := by decide +kernel
theorem dX4_spread_193 : decode cX4_spread 193 = .ok (.lsub, 1) := by decide +kernel
theorem dX4_spread_194 : decode cX4_spread 194 = .ok (.ldiv, 1) := by decide +kernel
theorem dX4_spread_195 : decode cX4_spread 195 = .ok (.lsub, 1) := by decide +kernel
theorem dX4_spread_196 : decode cX4_spread 196 = .ok (.l2i, 1) := by decide +kernel
theorem dX4_spread_197 : decode cX4_spread 197 = .ok (.ireturn, 1) := by decide +kernel
abbrev wX4_spread : List Cond := .code yX4_spread cX4_spread 10 (some .int) :: lw_gd
theorem hdX4_spread : (yX4_spread.cls ≠ "java/lang/invoke/MethodHandle" ∧ yX4_spread.cls ≠ "java/lang/invoke/VarHandle" ∧ (parseMethodDescriptor yX4_spread.desc).map (fun d => d.parameters.length) = some 2) := by decide +kernel
def fX4_spread_147   (b1 : Int32) (b3 : Int32) (b6 : Int64) (b8 : Int64) (s0 : Int32) (s1 : Int32) (M : xm_M) : Option (Int32 × xm_M) :=
  xm_lt (s1 + s0) (fun x2 => if b3 < 0 ∨ 120 ≤ b3.toNatClampNeg then none else if (lg_cmp ((M.1 9 b3.toNatClampNeg).toInt64) b8) = 0 then some (x2, M) else if b1 < 0 ∨ 120 ≤ b1.toNatClampNeg then none else if b3 < 0 ∨ 120 ≤ b3.toNatClampNeg then none else if (((M.1 9 b3.toNatClampNeg).toInt64) - b8) = 0 then none else some ((x2.toInt64 - ((b6 * (((M.1 9 b1.toNatClampNeg).toInt64) - b8)) / (((M.1 9 b3.toNatClampNeg).toInt64) - b8))).toInt32, M))
set_option maxRecDepth 20000 in
theorem tfX4_spread_147 {p : Program} {l : Launch} {e : Env} {s : State} {m : MethodId} {args : Array Value} {below : List Frame} {meth : Method} {c : Code} {D : va_G} {g : xm_G} {A : Nat → Prop} (hX : xm_X p m meth c cX4_spread 10 s args wX4_spread RX4 (some .int) D mL g A)     : ∀ (b1 : Int32), ∀ (b3 : Int32), ∀ (b6 : Int64), ∀ (b8 : Int64), ∀ (s0 : Int32), ∀ (s1 : Int32), ∀ (M : xm_M), xm_J p l e ({ frames := 0, cells := 0, slots := 0, locals := 0 }) s m args below meth c 10 D mL g A (xm_Fi g) 147 [(0, .ref (g.1 0)), (1, .int b1), (3, .int b3), (6, .long b6), (8, .long b8)] [.int s0, .int s1] M (fX4_spread_147 b1 b3 b6 b8 s0 s1 M) := by
  intro b1 b3 b6 b8 s0 s1 M
  unfold fX4_spread_147
  refine xm_iadd hX dX4_spread_147 ?_
  refine xm_nmi (fun x2 => ?_)
  refine xm_istore hX (lv' := [(5, .int x2), (0, .ref (g.1 0)), (1, .int b1), (3, .int b3), (6, .long b6), (8, .long b8)]) dX4_spread_148 (by decide) rfl ?_
  refine xm_aload_n hX 1 dX4_spread_150 rfl rfl ?_
  refine xm_get hX (k := 0) (ci := 4) (j := 9) (C := RX4) (T := TX4) (N := 27) (v := .ref (g.1 9)) mL_0 rfl rfl rfl (by decide) (fun z hz => List.mem_cons_of_mem _ (iw_X4 z hz)) (List.mem_cons_of_mem _ gm_442) dX4_spread_151 ?_
  refine xm_iload_n hX 3 dX4_spread_154 rfl rfl ?_
  refine xm_iald hX (n := 120) mL_9 dX4_spread_155 ?_
  refine xm_i2l hX dX4_spread_156 ?_
  refine xm_lload hX 5 dX4_spread_157 rfl ?_
  refine xm_lcmp hX dX4_spread_159 ?_
  refine xm_if_ne hX (tgt := 168) dX4_spread_160 rfl ?_ ?_
  · refine xm_iload hX 0 dX4_spread_168 rfl ?_
    refine xm_i2l hX dX4_spread_170 ?_
    refine xm_lload hX 4 dX4_spread_171 rfl ?_
    refine xm_aload_n hX 1 dX4_spread_173 rfl rfl ?_
    refine xm_get hX (k := 0) (ci := 4) (j := 9) (C := RX4) (T := TX4) (N := 27) (v := .ref (g.1 9)) mL_0 rfl rfl rfl (by decide) (fun z hz => List.mem_cons_of_mem _ (iw_X4 z hz)) (List.mem_cons_of_mem _ gm_442) dX4_spread_174 ?_
    refine xm_iload_n hX 2 dX4_spread_177 rfl rfl ?_
    refine xm_iald hX (n := 120) mL_9 dX4_spread_178 ?_
    refine xm_i2l hX dX4_spread_179 ?_
    refine xm_lload hX 5 dX4_spread_180 rfl ?_
    refine xm_lsub hX dX4_spread_182 ?_
    refine xm_lmul hX dX4_spread_183 ?_
    refine xm_aload_n hX 1 dX4_spread_184 rfl rfl ?_
    refine xm_get hX (k := 0) (ci := 4) (j := 9) (C := RX4) (T := TX4) (N := 27) (v := .ref (g.1 9)) mL_0 rfl rfl rfl (by decide) (fun z hz => List.mem_cons_of_mem _ (iw_X4 z hz)) (List.mem_cons_of_mem _ gm_442) dX4_spread_185 ?_
    refine xm_iload_n hX 3 dX4_spread_188 rfl rfl ?_
    refine xm_iald hX (n := 120) mL_9 dX4_spread_189 ?_
    refine xm_i2l hX dX4_spread_190 ?_
    refine xm_lload hX 5 dX4_spread_191 rfl ?_
    refine xm_lsub hX dX4_spread_193 ?_
    refine xm_ldiv hX dX4_spread_194 ?_
    refine xm_lsub hX dX4_spread_195 ?_
    refine xm_l2i hX dX4_spread_196 ?_
    exact xm_iret hX dX4_spread_197
  · refine xm_iload hX 0 dX4_spread_163 rfl ?_
    refine xm_goto hX (tgt := 197) dX4_spread_165 rfl ?_
    exact xm_iret hX dX4_spread_197
def fX4_spread_131   (b1 : Int32) (b3 : Int32) (b5 : Int32) (b6 : Int64) (s0 : Int64) (M : xm_M) : Option (Int32 × xm_M) :=
  if b3 = b1 then fX4_spread_147 b1 b3 b6 s0 b6.toInt32 b5 M else fX4_spread_147 b1 b3 b6 s0 (0 : Int32) b5 M
set_option maxRecDepth 20000 in
theorem tfX4_spread_131 {p : Program} {l : Launch} {e : Env} {s : State} {m : MethodId} {args : Array Value} {below : List Frame} {meth : Method} {c : Code} {D : va_G} {g : xm_G} {A : Nat → Prop} (hX : xm_X p m meth c cX4_spread 10 s args wX4_spread RX4 (some .int) D mL g A)     : ∀ (b1 : Int32), ∀ (b3 : Int32), ∀ (b5 : Int32), ∀ (b6 : Int64), ∀ (s0 : Int64), ∀ (M : xm_M), xm_J p l e ({ frames := 0, cells := 0, slots := 0, locals := 0 }) s m args below meth c 10 D mL g A (xm_Fi g) 131 [(0, .ref (g.1 0)), (1, .int b1), (3, .int b3), (5, .int b5), (6, .long b6)] [.long s0] M (fX4_spread_131 b1 b3 b5 b6 s0 M) := by
  intro b1 b3 b5 b6 s0 M
  unfold fX4_spread_131
  refine xm_lstore hX (lv' := [(8, .long s0), (0, .ref (g.1 0)), (1, .int b1), (3, .int b3), (5, .int b5), (6, .long b6)]) dX4_spread_131 (by decide) rfl ?_
  refine xm_iload hX 4 dX4_spread_133 rfl ?_
  refine xm_iload_n hX 3 dX4_spread_135 rfl rfl ?_
  refine xm_iload_n hX 2 dX4_spread_136 rfl rfl ?_
  refine xm_icmp_ne hX (tgt := 146) dX4_spread_137 rfl ?_ ?_
  · refine xm_iconst hX (v := 0) rfl dX4_spread_146 ?_
    refine xm_weak [1, 2, 3, 5, 0] (lv' := [(0, .ref (g.1 0)), (1, .int b1), (3, .int b3), (6, .long b6), (8, .long s0)]) rfl ?_
    exact tfX4_spread_147 hX b1 b3 b6 s0 (0 : Int32) b5 M
  · refine xm_lload hX 5 dX4_spread_140 rfl ?_
    refine xm_l2i hX dX4_spread_142 ?_
    refine xm_goto hX (tgt := 147) dX4_spread_143 rfl ?_
    refine xm_weak [1, 2, 3, 5, 0] (lv' := [(0, .ref (g.1 0)), (1, .int b1), (3, .int b3), (6, .long b6), (8, .long s0)]) rfl ?_
    exact tfX4_spread_147 hX b1 b3 b6 s0 b6.toInt32 b5 M
def fX4_spread_112   (b1 : Int32) (b3 : Int32) (b4 : Int32) (b5 : Int32) (s0 : Int64) (M : xm_M) : Option (Int32 × xm_M) :=
  if 0 ≤ b4 then if b4 < 0 ∨ 120 ≤ b4.toNatClampNeg then none else fX4_spread_131 b1 b3 b5 s0 ((M.1 9 b4.toNatClampNeg).toInt64) M else fX4_spread_131 b1 b3 b5 s0 (0 : Int64) M
set_option maxRecDepth 20000 in
theorem tfX4_spread_112 {p : Program} {l : Launch} {e : Env} {s : State} {m : MethodId} {args : Array Value} {below : List Frame} {meth : Method} {c : Code} {D : va_G} {g : xm_G} {A : Nat → Prop} (hX : xm_X p m meth c cX4_spread 10 s args wX4_spread RX4 (some .int) D mL g A)     : ∀ (b1 : Int32), ∀ (b3 : Int32), ∀ (b4 : Int32), ∀ (b5 : Int32), ∀ (s0 : Int64), ∀ (M : xm_M), xm_J p l e ({ frames := 0, cells := 0, slots := 0, locals := 0 }) s m args below meth c 10 D mL g A (xm_Fi g) 112 [(0, .ref (g.1 0)), (1, .int b1), (3, .int b3), (4, .int b4), (5, .int b5)] [.long s0] M (fX4_spread_112 b1 b3 b4 b5 s0 M) := by
  intro b1 b3 b4 b5 s0 M
  unfold fX4_spread_112
  refine xm_lstore hX (lv' := [(6, .long s0), (0, .ref (g.1 0)), (1, .int b1), (3, .int b3), (4, .int b4), (5, .int b5)]) dX4_spread_112 (by decide) rfl ?_
  refine xm_iload hX 4 dX4_spread_114 rfl ?_
  refine xm_if_ge hX (tgt := 123) dX4_spread_116 rfl ?_ ?_
  · refine xm_aload_n hX 1 dX4_spread_123 rfl rfl ?_
    refine xm_get hX (k := 0) (ci := 4) (j := 9) (C := RX4) (T := TX4) (N := 27) (v := .ref (g.1 9)) mL_0 rfl rfl rfl (by decide) (fun z hz => List.mem_cons_of_mem _ (iw_X4 z hz)) (List.mem_cons_of_mem _ gm_442) dX4_spread_124 ?_
    refine xm_iload hX 4 dX4_spread_127 rfl ?_
    refine xm_iald hX (n := 120) mL_9 dX4_spread_129 ?_
    refine xm_i2l hX dX4_spread_130 ?_
    refine xm_weak [1, 2, 3, 5, 0] (lv' := [(0, .ref (g.1 0)), (1, .int b1), (3, .int b3), (5, .int b5), (6, .long s0)]) rfl ?_
    exact tfX4_spread_131 hX b1 b3 b5 s0 ((M.1 9 b4.toNatClampNeg).toInt64) M
  · refine xm_lconst hX (v := 0) rfl dX4_spread_119 ?_
    refine xm_goto hX (tgt := 131) dX4_spread_120 rfl ?_
    refine xm_weak [1, 2, 3, 5, 0] (lv' := [(0, .ref (g.1 0)), (1, .int b1), (3, .int b3), (5, .int b5), (6, .long s0)]) rfl ?_
    exact tfX4_spread_131 hX b1 b3 b5 s0 (0 : Int64) M
def fX4_spread_75   (b1 : Int32) (b2 : Int32) (b3 : Int32) (b4 : Int32) (s0 : Int32) (M : xm_M) : Option (Int32 × xm_M) :=
  if b3 = (M.1 1 11) then some (s0, M) else if b2 = 0 then if b3 < 0 ∨ 120 ≤ b3.toNatClampNeg then none else fX4_spread_112 b1 b3 b4 s0 ((M.1 17 b3.toNatClampNeg).toInt64) M else if b3 < 0 ∨ 120 ≤ b3.toNatClampNeg then none else fX4_spread_112 b1 b3 b4 s0 ((M.1 16 b3.toNatClampNeg).toInt64) M
set_option maxRecDepth 20000 in
theorem tfX4_spread_75 {p : Program} {l : Launch} {e : Env} {s : State} {m : MethodId} {args : Array Value} {below : List Frame} {meth : Method} {c : Code} {D : va_G} {g : xm_G} {A : Nat → Prop} (hX : xm_X p m meth c cX4_spread 10 s args wX4_spread RX4 (some .int) D mL g A)     : ∀ (b1 : Int32), ∀ (b2 : Int32), ∀ (b3 : Int32), ∀ (b4 : Int32), ∀ (s0 : Int32), ∀ (M : xm_M), xm_J p l e ({ frames := 0, cells := 0, slots := 0, locals := 0 }) s m args below meth c 10 D mL g A (xm_Fi g) 75 [(0, .ref (g.1 0)), (1, .int b1), (2, .int b2), (3, .int b3), (4, .int b4)] [.int s0] M (fX4_spread_75 b1 b2 b3 b4 s0 M) := by
  intro b1 b2 b3 b4 s0 M
  unfold fX4_spread_75
  refine xm_istore hX (lv' := [(5, .int s0), (0, .ref (g.1 0)), (1, .int b1), (2, .int b2), (3, .int b3), (4, .int b4)]) dX4_spread_75 (by decide) rfl ?_
  refine xm_iload_n hX 4 dX4_spread_77 rfl rfl ?_
  refine xm_aload_n hX 1 dX4_spread_78 rfl rfl ?_
  refine xm_get hX (k := 0) (ci := 4) (j := 0) (C := RX4) (T := TX4) (N := 27) (v := .ref (g.1 1)) mL_0 rfl rfl rfl (by decide) (fun z hz => List.mem_cons_of_mem _ (iw_X4 z hz)) (List.mem_cons_of_mem _ gm_433) dX4_spread_79 ?_
  refine xm_bipush hX (v := 11) rfl dX4_spread_82 ?_
  refine xm_ialdL hX (n := 547) (j := 11) mL_1 (by decide) rfl dX4_spread_84 ?_
  refine xm_icmp_ne hX (tgt := 91) dX4_spread_85 rfl ?_ ?_
  · refine xm_iload_n hX 3 dX4_spread_91 rfl rfl ?_
    refine xm_if_eq hX (tgt := 105) dX4_spread_92 rfl ?_ ?_
    · refine xm_aload_n hX 1 dX4_spread_105 rfl rfl ?_
      refine xm_get hX (k := 0) (ci := 4) (j := 17) (C := RX4) (T := TX4) (N := 27) (v := .ref (g.1 17)) mL_0 rfl rfl rfl (by decide) (fun z hz => List.mem_cons_of_mem _ (iw_X4 z hz)) (List.mem_cons_of_mem _ gm_450) dX4_spread_106 ?_
      refine xm_iload_n hX 4 dX4_spread_109 rfl rfl ?_
      refine xm_iald hX (n := 120) mL_17 dX4_spread_110 ?_
      refine xm_i2l hX dX4_spread_111 ?_
      refine xm_weak [1, 2, 4, 5, 0] (lv' := [(0, .ref (g.1 0)), (1, .int b1), (3, .int b3), (4, .int b4), (5, .int s0)]) rfl ?_
      exact tfX4_spread_112 hX b1 b3 b4 s0 ((M.1 17 b3.toNatClampNeg).toInt64) M
    · refine xm_aload_n hX 1 dX4_spread_95 rfl rfl ?_
      refine xm_get hX (k := 0) (ci := 4) (j := 16) (C := RX4) (T := TX4) (N := 27) (v := .ref (g.1 16)) mL_0 rfl rfl rfl (by decide) (fun z hz => List.mem_cons_of_mem _ (iw_X4 z hz)) (List.mem_cons_of_mem _ gm_449) dX4_spread_96 ?_
      refine xm_iload_n hX 4 dX4_spread_99 rfl rfl ?_
      refine xm_iald hX (n := 120) mL_16 dX4_spread_100 ?_
      refine xm_i2l hX dX4_spread_101 ?_
      refine xm_goto hX (tgt := 112) dX4_spread_102 rfl ?_
      refine xm_weak [1, 2, 4, 5, 0] (lv' := [(0, .ref (g.1 0)), (1, .int b1), (3, .int b3), (4, .int b4), (5, .int s0)]) rfl ?_
      exact tfX4_spread_112 hX b1 b3 b4 s0 ((M.1 16 b3.toNatClampNeg).toInt64) M
  · refine xm_iload hX 0 dX4_spread_88 rfl ?_
    exact xm_iret hX dX4_spread_90
def fX4_spread_56   (b1 : Int32) (b2 : Int32) (b3 : Int32) (b4 : Int32) (M : xm_M) : Option (Int32 × xm_M) :=
  if b2 = 0 then if b1 < 0 ∨ 120 ≤ b1.toNatClampNeg then none else fX4_spread_75 b1 b2 b3 b4 (M.1 7 b1.toNatClampNeg) M else if b1 < 0 ∨ 120 ≤ b1.toNatClampNeg then none else fX4_spread_75 b1 b2 b3 b4 (M.1 6 b1.toNatClampNeg) M
set_option maxRecDepth 20000 in
theorem tfX4_spread_56 {p : Program} {l : Launch} {e : Env} {s : State} {m : MethodId} {args : Array Value} {below : List Frame} {meth : Method} {c : Code} {D : va_G} {g : xm_G} {A : Nat → Prop} (hX : xm_X p m meth c cX4_spread 10 s args wX4_spread RX4 (some .int) D mL g A)     : ∀ (b1 : Int32), ∀ (b2 : Int32), ∀ (b3 : Int32), ∀ (b4 : Int32), ∀ (M : xm_M), xm_J p l e ({ frames := 0, cells := 0, slots := 0, locals := 0 }) s m args below meth c 10 D mL g A (xm_Fi g) 56 [(0, .ref (g.1 0)), (1, .int b1), (2, .int b2), (3, .int b3), (4, .int b4)] [] M (fX4_spread_56 b1 b2 b3 b4 M) := by
  intro b1 b2 b3 b4 M
  unfold fX4_spread_56
  refine xm_iload_n hX 2 dX4_spread_56 rfl rfl ?_
  refine xm_if_eq hX (tgt := 69) dX4_spread_57 rfl ?_ ?_
  · refine xm_aload_n hX 0 dX4_spread_69 rfl rfl ?_
    refine xm_get hX (k := 0) (ci := 4) (j := 7) (C := RX4) (T := TX4) (N := 27) (v := .ref (g.1 7)) mL_0 rfl rfl rfl (by decide) (fun z hz => List.mem_cons_of_mem _ (iw_X4 z hz)) (List.mem_cons_of_mem _ gm_440) dX4_spread_70 ?_
    refine xm_iload_n hX 1 dX4_spread_73 rfl rfl ?_
    refine xm_iald hX (n := 120) mL_7 dX4_spread_74 ?_
    exact tfX4_spread_75 hX b1 b2 b3 b4 (M.1 7 b1.toNatClampNeg) M
  · refine xm_aload_n hX 0 dX4_spread_60 rfl rfl ?_
    refine xm_get hX (k := 0) (ci := 4) (j := 6) (C := RX4) (T := TX4) (N := 27) (v := .ref (g.1 6)) mL_0 rfl rfl rfl (by decide) (fun z hz => List.mem_cons_of_mem _ (iw_X4 z hz)) (List.mem_cons_of_mem _ gm_439) dX4_spread_61 ?_
    refine xm_iload_n hX 1 dX4_spread_64 rfl rfl ?_
    refine xm_iald hX (n := 120) mL_6 dX4_spread_65 ?_
    refine xm_goto hX (tgt := 75) dX4_spread_66 rfl ?_
    exact tfX4_spread_75 hX b1 b2 b3 b4 (M.1 6 b1.toNatClampNeg) M
def fX4_spread_34  (k34 : Int32 → Int32 → Int32 → Int32 → xm_M → Option (Int32 × xm_M)) (b1 : Int32) (b2 : Int32) (b3 : Int32) (b4 : Int32) (M : xm_M) : Option (Int32 × xm_M) :=
  if b4 < 0 then fX4_spread_56 b1 b2 b3 b4 M else if b4 < 0 ∨ 120 ≤ b4.toNatClampNeg then none else if (M.1 5 b4.toNatClampNeg) = (4 : Int32) then fX4_spread_56 b1 b2 b3 b4 M else xm_lt (b4 + Int32.ofInt (-1)) (fun x3 => k34 b1 b2 b3 x3 M)
set_option maxRecDepth 20000 in
theorem tfX4_spread_34 {p : Program} {l : Launch} {e : Env} {s : State} {m : MethodId} {args : Array Value} {below : List Frame} {meth : Method} {c : Code} {D : va_G} {g : xm_G} {A : Nat → Prop} (hX : xm_X p m meth c cX4_spread 10 s args wX4_spread RX4 (some .int) D mL g A)   (k34 : Int32 → Int32 → Int32 → Int32 → xm_M → Option (Int32 × xm_M)) (h34 : ∀ (b1 : Int32), ∀ (b2 : Int32), ∀ (b3 : Int32), ∀ (b4 : Int32), ∀ (M : xm_M), xm_J p l e ({ frames := 0, cells := 0, slots := 0, locals := 0 }) s m args below meth c 10 D mL g A (xm_Fi g) 34 [(0, .ref (g.1 0)), (1, .int b1), (2, .int b2), (3, .int b3), (4, .int b4)] [] M (k34 b1 b2 b3 b4 M)) : ∀ (b1 : Int32), ∀ (b2 : Int32), ∀ (b3 : Int32), ∀ (b4 : Int32), ∀ (M : xm_M), xm_J p l e ({ frames := 0, cells := 0, slots := 0, locals := 0 }) s m args below meth c 10 D mL g A (xm_Fi g) 34 [(0, .ref (g.1 0)), (1, .int b1), (2, .int b2), (3, .int b3), (4, .int b4)] [] M (fX4_spread_34 k34 b1 b2 b3 b4 M) := by
  intro b1 b2 b3 b4 M
  unfold fX4_spread_34
  refine xm_iload hX 4 dX4_spread_34 rfl ?_
  refine xm_if_lt hX (tgt := 56) dX4_spread_36 rfl ?_ ?_
  · exact tfX4_spread_56 hX b1 b2 b3 b4 M
  · refine xm_aload_n hX 0 dX4_spread_39 rfl rfl ?_
    refine xm_get hX (k := 0) (ci := 4) (j := 5) (C := RX4) (T := TX4) (N := 27) (v := .ref (g.1 5)) mL_0 rfl rfl rfl (by decide) (fun z hz => List.mem_cons_of_mem _ (iw_X4 z hz)) (List.mem_cons_of_mem _ gm_438) dX4_spread_40 ?_
    refine xm_iload hX 4 dX4_spread_43 rfl ?_
    refine xm_iald hX (n := 120) mL_5 dX4_spread_45 ?_
    refine xm_iconst hX (v := 4) rfl dX4_spread_46 ?_
    refine xm_icmp_eq hX (tgt := 56) dX4_spread_47 rfl ?_ ?_
    · exact tfX4_spread_56 hX b1 b2 b3 b4 M
    · refine xm_iinc hX (lv2 := fun x3 => [(4, .int x3), (0, .ref (g.1 0)), (1, .int b1), (2, .int b2), (3, .int b3)]) 4 dX4_spread_50 rfl (by decide) (fun _ => rfl) (fun x3 => ?_)
      refine xm_goto hX (tgt := 34) dX4_spread_53 rfl ?_
      refine xm_weak [1, 2, 3, 4, 0] (lv' := [(0, .ref (g.1 0)), (1, .int b1), (2, .int b2), (3, .int b3), (4, .int x3)]) rfl ?_
      exact h34 b1 b2 b3 x3 M
def fX4_spread_34_it   (nq : Nat) : Int32 → Int32 → Int32 → Int32 → xm_M → Option (Int32 × xm_M) := xm_it (fun kq => fX4_spread_34 kq) (fun _ _ _ _ _ => none) nq
theorem tfX4_spread_34_it {p : Program} {l : Launch} {e : Env} {s : State} {m : MethodId} {args : Array Value} {below : List Frame} {meth : Method} {c : Code} {D : va_G} {g : xm_G} {A : Nat → Prop} (hX : xm_X p m meth c cX4_spread 10 s args wX4_spread RX4 (some .int) D mL g A)     : ∀ (nq : Nat), ∀ (b1 : Int32), ∀ (b2 : Int32), ∀ (b3 : Int32), ∀ (b4 : Int32), ∀ (M : xm_M), xm_J p l e ({ frames := 0, cells := 0, slots := 0, locals := 0 }) s m args below meth c 10 D mL g A (xm_Fi g) 34 [(0, .ref (g.1 0)), (1, .int b1), (2, .int b2), (3, .int b3), (4, .int b4)] [] M (fX4_spread_34_it  nq b1 b2 b3 b4 M) := by
  intro nq
  induction nq with
  | zero => exact fun _ _ _ _ _ => xm_none
  | succ nq ih => exact tfX4_spread_34 hX _ ih
def fX4_spread_29   (b1 : Int32) (b2 : Int32) (b3 : Int32) (M : xm_M) : Option (Int32 × xm_M) :=
  xm_lt (b1 - (1 : Int32)) (fun x1 => fX4_spread_34_it xm_N b1 b2 b3 x1 M)
set_option maxRecDepth 20000 in
theorem tfX4_spread_29 {p : Program} {l : Launch} {e : Env} {s : State} {m : MethodId} {args : Array Value} {below : List Frame} {meth : Method} {c : Code} {D : va_G} {g : xm_G} {A : Nat → Prop} (hX : xm_X p m meth c cX4_spread 10 s args wX4_spread RX4 (some .int) D mL g A)     : ∀ (b1 : Int32), ∀ (b2 : Int32), ∀ (b3 : Int32), ∀ (M : xm_M), xm_J p l e ({ frames := 0, cells := 0, slots := 0, locals := 0 }) s m args below meth c 10 D mL g A (xm_Fi g) 29 [(0, .ref (g.1 0)), (1, .int b1), (2, .int b2), (3, .int b3)] [] M (fX4_spread_29 b1 b2 b3 M) := by
  intro b1 b2 b3 M
  unfold fX4_spread_29
  refine xm_iload_n hX 1 dX4_spread_29 rfl rfl ?_
  refine xm_iconst hX (v := 1) rfl dX4_spread_30 ?_
  refine xm_isub hX dX4_spread_31 ?_
  refine xm_nmi (fun x1 => ?_)
  refine xm_istore hX (lv' := [(4, .int x1), (0, .ref (g.1 0)), (1, .int b1), (2, .int b2), (3, .int b3)]) dX4_spread_32 (by decide) rfl ?_
  refine xm_weak [1, 2, 3, 4, 0] (lv' := [(0, .ref (g.1 0)), (1, .int b1), (2, .int b2), (3, .int b3), (4, .int x1)]) rfl ?_
  exact tfX4_spread_34_it hX xm_N b1 b2 b3 x1 M
def fX4_spread_2  (k2 : Int32 → Int32 → Int32 → xm_M → Option (Int32 × xm_M)) (b1 : Int32) (b2 : Int32) (b3 : Int32) (M : xm_M) : Option (Int32 × xm_M) :=
  if (M.1 1 11) ≤ b3 then fX4_spread_29 b1 b2 b3 M else if b3 < 0 ∨ 120 ≤ b3.toNatClampNeg then none else if (M.1 5 b3.toNatClampNeg) = (4 : Int32) then fX4_spread_29 b1 b2 b3 M else xm_lt (b3 + Int32.ofInt 1) (fun x4 => k2 b1 b2 x4 M)
set_option maxRecDepth 20000 in
theorem tfX4_spread_2 {p : Program} {l : Launch} {e : Env} {s : State} {m : MethodId} {args : Array Value} {below : List Frame} {meth : Method} {c : Code} {D : va_G} {g : xm_G} {A : Nat → Prop} (hX : xm_X p m meth c cX4_spread 10 s args wX4_spread RX4 (some .int) D mL g A)   (k2 : Int32 → Int32 → Int32 → xm_M → Option (Int32 × xm_M)) (h2 : ∀ (b1 : Int32), ∀ (b2 : Int32), ∀ (b3 : Int32), ∀ (M : xm_M), xm_J p l e ({ frames := 0, cells := 0, slots := 0, locals := 0 }) s m args below meth c 10 D mL g A (xm_Fi g) 2 [(0, .ref (g.1 0)), (1, .int b1), (2, .int b2), (3, .int b3)] [] M (k2 b1 b2 b3 M)) : ∀ (b1 : Int32), ∀ (b2 : Int32), ∀ (b3 : Int32), ∀ (M : xm_M), xm_J p l e ({ frames := 0, cells := 0, slots := 0, locals := 0 }) s m args below meth c 10 D mL g A (xm_Fi g) 2 [(0, .ref (g.1 0)), (1, .int b1), (2, .int b2), (3, .int b3)] [] M (fX4_spread_2 k2 b1 b2 b3 M) := by
  intro b1 b2 b3 M
  unfold fX4_spread_2
  refine xm_iload_n hX 3 dX4_spread_2 rfl rfl ?_
  refine xm_aload_n hX 0 dX4_spread_3 rfl rfl ?_
  refine xm_get hX (k := 0) (ci := 4) (j := 0) (C := RX4) (T := TX4) (N := 27) (v := .ref (g.1 1)) mL_0 rfl rfl rfl (by decide) (fun z hz => List.mem_cons_of_mem _ (iw_X4 z hz)) (List.mem_cons_of_mem _ gm_433) dX4_spread_4 ?_
  refine xm_bipush hX (v := 11) rfl dX4_spread_7 ?_
  refine xm_ialdL hX (n := 547) (j := 11) mL_1 (by decide) rfl dX4_spread_9 ?_
  refine xm_icmp_ge hX (tgt := 29) dX4_spread_10 rfl ?_ ?_
  · exact tfX4_spread_29 hX b1 b2 b3 M
  · refine xm_aload_n hX 0 dX4_spread_13 rfl rfl ?_
    refine xm_get hX (k := 0) (ci := 4) (j := 5) (C := RX4) (T := TX4) (N := 27) (v := .ref (g.1 5)) mL_0 rfl rfl rfl (by decide) (fun z hz => List.mem_cons_of_mem _ (iw_X4 z hz)) (List.mem_cons_of_mem _ gm_438) dX4_spread_14 ?_
    refine xm_iload_n hX 3 dX4_spread_17 rfl rfl ?_
    refine xm_iald hX (n := 120) mL_5 dX4_spread_18 ?_
    refine xm_iconst hX (v := 4) rfl dX4_spread_19 ?_
    refine xm_icmp_eq hX (tgt := 29) dX4_spread_20 rfl ?_ ?_
    · exact tfX4_spread_29 hX b1 b2 b3 M
    · refine xm_iinc hX (lv2 := fun x4 => [(3, .int x4), (0, .ref (g.1 0)), (1, .int b1), (2, .int b2)]) 3 dX4_spread_23 rfl (by decide) (fun _ => rfl) (fun x4 => ?_)
      refine xm_goto hX (tgt := 2) dX4_spread_26 rfl ?_
      refine xm_weak [1, 2, 3, 0] (lv' := [(0, .ref (g.1 0)), (1, .int b1), (2, .int b2), (3, .int x4)]) rfl ?_
      exact h2 b1 b2 x4 M
def fX4_spread_2_it   (nq : Nat) : Int32 → Int32 → Int32 → xm_M → Option (Int32 × xm_M) := xm_it (fun kq => fX4_spread_2 kq) (fun _ _ _ _ => none) nq
theorem tfX4_spread_2_it {p : Program} {l : Launch} {e : Env} {s : State} {m : MethodId} {args : Array Value} {below : List Frame} {meth : Method} {c : Code} {D : va_G} {g : xm_G} {A : Nat → Prop} (hX : xm_X p m meth c cX4_spread 10 s args wX4_spread RX4 (some .int) D mL g A)     : ∀ (nq : Nat), ∀ (b1 : Int32), ∀ (b2 : Int32), ∀ (b3 : Int32), ∀ (M : xm_M), xm_J p l e ({ frames := 0, cells := 0, slots := 0, locals := 0 }) s m args below meth c 10 D mL g A (xm_Fi g) 2 [(0, .ref (g.1 0)), (1, .int b1), (2, .int b2), (3, .int b3)] [] M (fX4_spread_2_it  nq b1 b2 b3 M) := by
  intro nq
  induction nq with
  | zero => exact fun _ _ _ _ => xm_none
  | succ nq ih => exact tfX4_spread_2 hX _ ih
def fX4_spread  (a1 : Int32) (a2 : Int32) (M : xm_M) : Option (Int32 × xm_M) :=
  fX4_spread_2_it xm_N a1 a2 a1 M
set_option maxRecDepth 20000 in
theorem kX4_spread {l : Launch}   (a1 : Int32) (a2 : Int32) (M : xm_M) : xm_C l yX4_spread wX4_spread ({ frames := 0, cells := 0, slots := 0, locals := 0 }) mL (fun g => [.ref (g.1 0), .int a1, .int a2]) M xm_Fi (fX4_spread  a1 a2 M) := by
  refine xm_C.of (by decide) rfl (fun g => Nat.le_of_ble_eq_true rfl) ?_
  intro p e s m args below meth c D g A hX
  refine xm_lv (lv' := [(0, .ref (g.1 0)), (1, .int a1), (2, .int a2)]) rfl ?_
  unfold fX4_spread
  refine xm_iload_n hX 1 dX4_spread_0 rfl rfl ?_
  refine xm_istore_n hX (lv' := [(3, .int a1), (0, .ref (g.1 0)), (1, .int a1), (2, .int a2)]) dX4_spread_1 rfl (by decide) rfl ?_
  refine xm_weak [1, 2, 3, 0] (lv' := [(0, .ref (g.1 0)), (1, .int a1), (2, .int a2), (3, .int a1)]) rfl ?_
  exact tfX4_spread_2_it hX xm_N a1 a2 a1 M
-- ===== OdometryDeskModel.startOf(I)I ['0']
theorem dX4_startOf_0 : decode cX4_startOf 0 = .ok (.iload_n 1, 1) := by decide +kernel
theorem dX4_startOf_1 : decode cX4_startOf 1 = .ok (.tableswitch 75 0 6 #[43, 55, 67, 75, 75, 43, 55], 43) := by decide +kernel
theorem dX4_startOf_44 : decode cX4_startOf 44 = .ok (.sipush 1000, 3) := by decide +kernel
theorem dX4_startOf_47 : decode cX4_startOf 47 = .ok (.aload_n 0, 1) := by decide +kernel
theorem dX4_startOf_48 : decode cX4_startOf 48 = .ok (.getfield 7, 3) := by decide +kernel
theorem dX4_startOf_51 : decode cX4_startOf 51 = .ok (.bipush 12, 2) := by decide +kernel
theorem dX4_startOf_53 : decode cX4_startOf 53 = .ok (.iaload, 1) := by decide +kernel
theorem dX4_startOf_54 : decode cX4_startOf 54 = .ok (.imul, 1) := by decide +kernel
theorem dX4_startOf_55 : decode cX4_startOf 55 = .ok (.ireturn, 1) := by decide +kernel
theorem dX4_startOf_56 : decode cX4_startOf 56 = .ok (.sipush 1000, 3) := by decide +kernel
theorem dX4_startOf_59 : decode cX4_startOf 59 = .ok (.aload_n 0, 1) := by decide +kernel
theorem dX4_startOf_60 : decode cX4_startOf 60 = .ok (.getfield 7, 3) := by decide +kernel
theorem dX4_startOf_63 : decode cX4_startOf 63 = .ok (.bipush 13, 2) := by decide +kernel
theorem dX4_startOf_65 : decode cX4_startOf 65 = .ok (.iaload, 1) := by decide +kernel
theorem dX4_startOf_66 : decode cX4_startOf 66 = .ok (.imul, 1) := by decide +kernel
theorem dX4_startOf_67 : decode cX4_startOf 67 = .ok (.ireturn, 1) := by decide +kernel
theorem dX4_startOf_68 : decode cX4_startOf 68 = .ok (.aload_n 0, 1) := by decide +kernel
theorem dX4_startOf_69 : decode cX4_startOf 69 = .ok (.getfield 7, 3) := by decide +kernel
theorem dX4_startOf_72 : decode cX4_startOf 72 = .ok (.bipush 14, 2) := by decide +kernel
theorem dX4_startOf_74 : decode cX4_startOf 74 = .ok (.iaload, 1) := by decide +kernel
theorem dX4_startOf_75 : decode cX4_startOf 75 = .ok (.ireturn, 1) := by decide +kernel
theorem dX4_startOf_76 : decode cX4_startOf 76 = .ok (.iconst 0, 1) := by decide +kernel
theorem dX4_startOf_77 : decode cX4_startOf 77 = .ok (.ireturn, 1) := by decide +kernel
abbrev wX4_startOf : List Cond := .code yX4_startOf cX4_startOf 2 (some .int) :: lw_gd
theorem hdX4_startOf : (yX4_startOf.cls ≠ "java/lang/invoke/MethodHandle" ∧ yX4_startOf.cls ≠ "java/lang/invoke/VarHandle" ∧ (parseMethodDescriptor yX4_startOf.desc).map (fun d => d.parameters.length) = some 1) := by decide +kernel
def fX4_startOf_44    (M : xm_M) : Option (Int32 × xm_M) :=
  some ((1000 : Int32) * (M.1 1 12), M)
set_option maxRecDepth 20000 in
theorem tfX4_startOf_44 {p : Program} {l : Launch} {e : Env} {s : State} {m : MethodId} {args : Array Value} {below : List Frame} {meth : Method} {c : Code} {D : va_G} {g : xm_G} {A : Nat → Prop} (hX : xm_X p m meth c cX4_startOf 2 s args wX4_startOf RX4 (some .int) D mL g A)     : ∀ (M : xm_M), xm_J p l e ({ frames := 0, cells := 0, slots := 0, locals := 0 }) s m args below meth c 2 D mL g A (xm_Fi g) 44 [(0, .ref (g.1 0))] [] M (fX4_startOf_44  M) := by
  intro  M
  unfold fX4_startOf_44
  refine xm_sipush hX (v := 1000) rfl dX4_startOf_44 ?_
  refine xm_aload_n hX 0 dX4_startOf_47 rfl rfl ?_
  refine xm_get hX (k := 0) (ci := 4) (j := 0) (C := RX4) (T := TX4) (N := 27) (v := .ref (g.1 1)) mL_0 rfl rfl rfl (by decide) (fun z hz => List.mem_cons_of_mem _ (iw_X4 z hz)) (List.mem_cons_of_mem _ gm_433) dX4_startOf_48 ?_
  refine xm_bipush hX (v := 12) rfl dX4_startOf_51 ?_
  refine xm_ialdL hX (n := 547) (j := 12) mL_1 (by decide) rfl dX4_startOf_53 ?_
  refine xm_imul hX dX4_startOf_54 ?_
  exact xm_iret hX dX4_startOf_55
def fX4_startOf_56    (M : xm_M) : Option (Int32 × xm_M) :=
  some ((1000 : Int32) * (M.1 1 13), M)
set_option maxRecDepth 20000 in
theorem tfX4_startOf_56 {p : Program} {l : Launch} {e : Env} {s : State} {m : MethodId} {args : Array Value} {below : List Frame} {meth : Method} {c : Code} {D : va_G} {g : xm_G} {A : Nat → Prop} (hX : xm_X p m meth c cX4_startOf 2 s args wX4_startOf RX4 (some .int) D mL g A)     : ∀ (M : xm_M), xm_J p l e ({ frames := 0, cells := 0, slots := 0, locals := 0 }) s m args below meth c 2 D mL g A (xm_Fi g) 56 [(0, .ref (g.1 0))] [] M (fX4_startOf_56  M) := by
  intro  M
  unfold fX4_startOf_56
  refine xm_sipush hX (v := 1000) rfl dX4_startOf_56 ?_
  refine xm_aload_n hX 0 dX4_startOf_59 rfl rfl ?_
  refine xm_get hX (k := 0) (ci := 4) (j := 0) (C := RX4) (T := TX4) (N := 27) (v := .ref (g.1 1)) mL_0 rfl rfl rfl (by decide) (fun z hz => List.mem_cons_of_mem _ (iw_X4 z hz)) (List.mem_cons_of_mem _ gm_433) dX4_startOf_60 ?_
  refine xm_bipush hX (v := 13) rfl dX4_startOf_63 ?_
  refine xm_ialdL hX (n := 547) (j := 13) mL_1 (by decide) rfl dX4_startOf_65 ?_
  refine xm_imul hX dX4_startOf_66 ?_
  exact xm_iret hX dX4_startOf_67
def fX4_startOf  (a1 : Int32) (M : xm_M) : Option (Int32 × xm_M) :=
  if a1 = 0 then fX4_startOf_44 M else if a1 = 1 then fX4_startOf_56 M else if a1 = 2 then some (M.1 1 14, M) else if a1 = 3 then some ((0 : Int32), M) else if a1 = 4 then some ((0 : Int32), M) else if a1 = 5 then fX4_startOf_44 M else if a1 = 6 then fX4_startOf_56 M else some ((0 : Int32), M)
set_option maxRecDepth 20000 in
theorem kX4_startOf {l : Launch}   (a1 : Int32) (M : xm_M) : xm_C l yX4_startOf wX4_startOf ({ frames := 0, cells := 0, slots := 0, locals := 0 }) mL (fun g => [.ref (g.1 0), .int a1]) M xm_Fi (fX4_startOf  a1 M) := by
  refine xm_C.of (by decide) rfl (fun g => Nat.le_of_ble_eq_true rfl) ?_
  intro p e s m args below meth c D g A hX
  refine xm_lv (lv' := [(0, .ref (g.1 0)), (1, .int a1)]) rfl ?_
  unfold fX4_startOf
  refine xm_iload_n hX 1 dX4_startOf_0 rfl rfl ?_
  refine xm_ite (fun z1 => ?_) (fun z1 => ?_)
  · refine xm_tsIn hX (tgt := 44) dX4_startOf_1 z1 (by decide) (by decide) rfl rfl ?_
    refine xm_weak [0] (lv' := [(0, .ref (g.1 0))]) rfl ?_
    exact tfX4_startOf_44 hX M
  refine xm_ite (fun z2 => ?_) (fun z2 => ?_)
  · refine xm_tsIn hX (tgt := 56) dX4_startOf_1 z2 (by decide) (by decide) rfl rfl ?_
    refine xm_weak [0] (lv' := [(0, .ref (g.1 0))]) rfl ?_
    exact tfX4_startOf_56 hX M
  refine xm_ite (fun z3 => ?_) (fun z3 => ?_)
  · refine xm_tsIn hX (tgt := 68) dX4_startOf_1 z3 (by decide) (by decide) rfl rfl ?_
    refine xm_aload_n hX 0 dX4_startOf_68 rfl rfl ?_
    refine xm_get hX (k := 0) (ci := 4) (j := 0) (C := RX4) (T := TX4) (N := 27) (v := .ref (g.1 1)) mL_0 rfl rfl rfl (by decide) (fun z hz => List.mem_cons_of_mem _ (iw_X4 z hz)) (List.mem_cons_of_mem _ gm_433) dX4_startOf_69 ?_
    refine xm_bipush hX (v := 14) rfl dX4_startOf_72 ?_
    refine xm_ialdL hX (n := 547) (j := 14) mL_1 (by decide) rfl dX4_startOf_74 ?_
    exact xm_iret hX dX4_startOf_75
  refine xm_ite (fun z4 => ?_) (fun z4 => ?_)
  · refine xm_tsIn hX (tgt := 76) dX4_startOf_1 z4 (by decide) (by decide) rfl rfl ?_
    refine xm_iconst hX (v := 0) rfl dX4_startOf_76 ?_
    exact xm_iret hX dX4_startOf_77
  refine xm_ite (fun z5 => ?_) (fun z5 => ?_)
  · refine xm_tsIn hX (tgt := 76) dX4_startOf_1 z5 (by decide) (by decide) rfl rfl ?_
    refine xm_iconst hX (v := 0) rfl dX4_startOf_76 ?_
    exact xm_iret hX dX4_startOf_77
  refine xm_ite (fun z6 => ?_) (fun z6 => ?_)
  · refine xm_tsIn hX (tgt := 44) dX4_startOf_1 z6 (by decide) (by decide) rfl rfl ?_
    refine xm_weak [0] (lv' := [(0, .ref (g.1 0))]) rfl ?_
    exact tfX4_startOf_44 hX M
  refine xm_ite (fun z7 => ?_) (fun z7 => ?_)
  · refine xm_tsIn hX (tgt := 56) dX4_startOf_1 z7 (by decide) (by decide) rfl rfl ?_
    refine xm_weak [0] (lv' := [(0, .ref (g.1 0))]) rfl ?_
    exact tfX4_startOf_56 hX M
  refine xm_tsOut hX (tgt := 76) dX4_startOf_1 (by have qz1 := lv_neT (a := 0) z1 rfl; have qz2 := lv_neT (a := 1) z2 rfl; have qz3 := lv_neT (a := 2) z3 rfl; have qz4 := lv_neT (a := 3) z4 rfl; have qz5 := lv_neT (a := 4) z5 rfl; have qz6 := lv_neT (a := 5) z6 rfl; have qz7 := lv_neT (a := 6) z7 rfl; omega) rfl ?_
  refine xm_iconst hX (v := 0) rfl dX4_startOf_76 ?_
  exact xm_iret hX dX4_startOf_77
-- ===== OdometryDeskModel.pose(II)I ['0']
theorem dX4_pose_0 : decode cX4_pose 0 = .ok (.iload_n 1, 1) := by decide +kernel
theorem dX4_pose_1 : decode cX4_pose 1 = .ok (.iconst (-1), 1) := by decide +kernel
theorem dX4_pose_2 : decode cX4_pose 2 = .ok (.if_icmp .lt 14, 3) := by decide +kernel
theorem dX4_pose_5 : decode cX4_pose 5 = .ok (.iload_n 1, 1) := by decide +kernel
theorem dX4_pose_6 : decode cX4_pose 6 = .ok (.aload_n 0, 1) := by decide +kernel
theorem dX4_pose_7 : decode cX4_pose 7 = .ok (.getfield 7, 3) := by decide +kernel
theorem dX4_pose_10 : decode cX4_pose 10 = .ok (.bipush 11, 2) := by decide +kernel
theorem dX4_pose_12 : decode cX4_pose 12 = .ok (.iaload, 1) := by decide +kernel
theorem dX4_pose_13 : decode cX4_pose 13 = .ok (.if_icmp .lt 6, 3) := by decide +kernel
theorem dX4_pose_16 : decode cX4_pose 16 = .ok (.ldc 171, 2) := by decide +kernel
theorem dX4_pose_18 : decode cX4_pose 18 = .ok (.ireturn, 1) := by decide +kernel
theorem dX4_pose_19 : decode cX4_pose 19 = .ok (.iload_n 2, 1) := by decide +kernel
theorem dX4_pose_20 : decode cX4_pose 20 = .ok (.iconst 0, 1) := by decide +kernel
theorem dX4_pose_21 : decode cX4_pose 21 = .ok (.bipush 6, 2) := by decide +kernel
theorem dX4_pose_23 : decode cX4_pose 23 = .ok (.invokestatic 67, 3) := by decide +kernel
theorem dX4_pose_26 : decode cX4_pose 26 = .ok (.ifCond .ne 6, 3) := by decide +kernel
theorem dX4_pose_29 : decode cX4_pose 29 = .ok (.ldc 172, 2) := by decide +kernel
theorem dX4_pose_31 : decode cX4_pose 31 = .ok (.ireturn, 1) := by decide +kernel
theorem dX4_pose_32 : decode cX4_pose 32 = .ok (.iload_n 1, 1) := by decide +kernel
theorem dX4_pose_33 : decode cX4_pose 33 = .ok (.iconst (-1), 1) := by decide +kernel
theorem dX4_pose_34 : decode cX4_pose 34 = .ok (.if_icmp .ne 9, 3) := by decide +kernel
theorem dX4_pose_37 : decode cX4_pose 37 = .ok (.aload_n 0, 1) := by decide +kernel
theorem dX4_pose_38 : decode cX4_pose 38 = .ok (.iload_n 2, 1) := by decide +kernel
theorem dX4_pose_39 : decode cX4_pose 39 = .ok (.invokevirtual 173, 3) := by decide +kernel
theorem dX4_pose_42 : decode cX4_pose 42 = .ok (.ireturn, 1) := by decide +kernel
theorem dX4_pose_43 : decode cX4_pose 43 = .ok (.aload_n 0, 1) := by decide +kernel
theorem dX4_pose_44 : decode cX4_pose 44 = .ok (.invokevirtual 176, 3) := by decide +kernel
theorem dX4_pose_47 : decode cX4_pose 47 = .ok (.iload_n 2, 1) := by decide +kernel
theorem dX4_pose_48 : decode cX4_pose 48 = .ok (.tableswitch 71 0 4 #[36, 43, 50, 57, 64], 36) := by decide +kernel
theorem dX4_pose_84 : decode cX4_pose 84 = .ok (.aload_n 0, 1) := by decide +kernel
theorem dX4_pose_85 : decode cX4_pose 85 = .ok (.getfield 26, 3) := by decide +kernel
theorem dX4_pose_88 : decode cX4_pose 88 = .ok (.iload_n 1, 1) := by decide +kernel
theorem dX4_pose_89 : decode cX4_pose 89 = .ok (.iaload, 1) := by decide +kernel
theorem dX4_pose_90 : decode cX4_pose 90 = .ok (.ireturn, 1) := by decide +kernel
theorem dX4_pose_91 : decode cX4_pose 91 = .ok (.aload_n 0, 1) := by decide +kernel
theorem dX4_pose_92 : decode cX4_pose 92 = .ok (.getfield 29, 3) := by decide +kernel
theorem dX4_pose_95 : decode cX4_pose 95 = .ok (.iload_n 1, 1) := by decide +kernel
theorem dX4_pose_96 : decode cX4_pose 96 = .ok (.iaload, 1) := by decide +kernel
theorem dX4_pose_97 : decode cX4_pose 97 = .ok (.ireturn, 1) := by decide +kernel
theorem dX4_pose_98 : decode cX4_pose 98 = .ok (.aload_n 0, 1) := by decide +kernel
theorem dX4_pose_99 : decode cX4_pose 99 = .ok (.getfield 32, 3) := by decide +kernel
theorem dX4_pose_102 : decode cX4_pose 102 = .ok (.iload_n 1, 1) := by decide +kernel
theorem dX4_pose_103 : decode cX4_pose 103 = .ok (.iaload, 1) := by decide +kernel
theorem dX4_pose_104 : decode cX4_pose 104 = .ok (.ireturn, 1) := by decide +kernel
theorem dX4_pose_105 : decode cX4_pose 105 = .ok (.aload_n 0, 1) := by decide +kernel
theorem dX4_pose_106 : decode cX4_pose 106 = .ok (.getfield 35, 3) := by decide +kernel
theorem dX4_pose_109 : decode cX4_pose 109 = .ok (.iload_n 1, 1) := by decide +kernel
theorem dX4_pose_110 : decode cX4_pose 110 = .ok (.iaload, 1) := by decide +kernel
theorem dX4_pose_111 : decode cX4_pose 111 = .ok (.ireturn, 1) := by decide +kernel
theorem dX4_pose_112 : decode cX4_pose 112 = .ok (.aload_n 0, 1) := by decide +kernel
theorem dX4_pose_113 : decode cX4_pose 113 = .ok (.getfield 38, 3) := by decide +kernel
theorem dX4_pose_116 : decode cX4_pose 116 = .ok (.iload_n 1, 1) := by decide +kernel
theorem dX4_pose_117 : decode cX4_pose 117 = .ok (.iaload, 1) := by decide +kernel
theorem dX4_pose_118 : decode cX4_pose 118 = .ok (.ireturn, 1) := by decide +kernel
theorem dX4_pose_119 : decode cX4_pose 119 = .ok (.aload_n 0, 1) := by decide +kernel
theorem dX4_pose_120 : decode cX4_pose 120 = .ok (.iload_n 1, 1) := by decide +kernel
theorem dX4_pose_121 : decode cX4_pose 121 = .ok (.iload_n 2, 1) := by decide +kernel
theorem dX4_pose_122 : decode cX4_pose 122 = .ok (.iconst 5, 1) := by decide +kernel
theorem dX4_pose_123 : decode cX4_pose 123 = .ok (.if_icmp .ne 7, 3) := by decide +kernel
theorem dX4_pose_126 : decode cX4_pose 126 = .ok (.iconst 1, 1) := by decide +kernel
theorem dX4_pose_127 : decode cX4_pose 127 = .ok (.goto 4, 3) := by decide +kernel
theorem dX4_pose_130 : decode cX4_pose 130 = .ok (.iconst 0, 1) := by decide +kernel
theorem dX4_pose_131 : decode cX4_pose 131 = .ok (.invokevirtual 179, 3) := by decide +kernel
theorem dX4_pose_134 : decode cX4_pose 134 = .ok (.ireturn, 1) := by decide +kernel
abbrev wX4_pose : List Cond := .code yX4_pose cX4_pose 3 (some .int) :: lw_gd
theorem hdX4_pose : (yX4_pose.cls ≠ "java/lang/invoke/MethodHandle" ∧ yX4_pose.cls ≠ "java/lang/invoke/VarHandle" ∧ (parseMethodDescriptor yX4_pose.desc).map (fun d => d.parameters.length) = some 2) := by decide +kernel
def fX4_pose_131   (s0 : Int32) (s1 : Int32) (M : xm_M) : Option (Int32 × xm_M) :=
  xm_bi (fX4_spread s1 s0 M) (fun x10 M9 => some (x10, M9))
set_option maxRecDepth 20000 in
theorem tfX4_pose_131 {p : Program} {l : Launch} {e : Env} {s : State} {m : MethodId} {args : Array Value} {below : List Frame} {meth : Method} {c : Code} {D : va_G} {g : xm_G} {A : Nat → Prop} (hX : xm_X p m meth c cX4_pose 3 s args wX4_pose RX4 (some .int) D mL g A)     : ∀ (s0 : Int32), ∀ (s1 : Int32), ∀ (M : xm_M), xm_J p l e ({ frames := 5, cells := 0, slots := 0, locals := 121 }) s m args below meth c 3 D mL g A (xm_Fi g) 131 [] [.int s0, .int s1, .ref (g.1 0)] M (fX4_pose_131 s0 s1 M) := by
  intro s0 s1 M
  unfold fX4_pose_131
  refine xm_calli hX (xm_runV hX (k := 0) (ci := 4) (As := (fun g => [.int s1, .int s0])) (kX4_spread s1 s0 M) mL_0 rfl (xm_gV gm_598 gm_599 gm_723 gm_5 gm_600) rfl ⟨rfl, rfl⟩ ⟨rfl, hdX4_spread⟩ ⟨Nat.le_of_ble_eq_true rfl, Nat.le_of_ble_eq_true rfl⟩ rfl (Nat.le_of_ble_eq_true rfl) rfl dX4_pose_131) (fun x10 M9 => ?_)
  exact xm_iret hX dX4_pose_134
def fX4_pose  (a1 : Int32) (a2 : Int32) (M : xm_M) : Option (Int32 × xm_M) :=
  if a1 < (-1 : Int32) then some ((-1000000001 : Int32), M) else if a1 < (M.1 1 11) then xm_bi (fX4_in a2 (0 : Int32) (6 : Int32) M) (fun x2 M1 => if x2 = 0 then some ((-1000000002 : Int32), M1) else if a1 = (-1 : Int32) then xm_bi (fX4_startOf a2 M1) (fun x12 M11 => some (x12, M11)) else xm_bv (fX4_findAll M1) (fun M3 => if a2 = 0 then if a1 < 0 ∨ 120 ≤ a1.toNatClampNeg then none else some (M3.1 6 a1.toNatClampNeg, M3) else if a2 = 1 then if a1 < 0 ∨ 120 ≤ a1.toNatClampNeg then none else some (M3.1 7 a1.toNatClampNeg, M3) else if a2 = 2 then if a1 < 0 ∨ 120 ≤ a1.toNatClampNeg then none else some (M3.1 8 a1.toNatClampNeg, M3) else if a2 = 3 then if a1 < 0 ∨ 120 ≤ a1.toNatClampNeg then none else some (M3.1 9 a1.toNatClampNeg, M3) else if a2 = 4 then if a1 < 0 ∨ 120 ≤ a1.toNatClampNeg then none else some (M3.1 10 a1.toNatClampNeg, M3) else if a2 = (5 : Int32) then fX4_pose_131 (1 : Int32) a1 M3 else fX4_pose_131 (0 : Int32) a1 M3)) else some ((-1000000001 : Int32), M)
set_option maxRecDepth 20000 in
theorem kX4_pose {l : Launch}   (a1 : Int32) (a2 : Int32) (M : xm_M) : xm_C l yX4_pose wX4_pose ({ frames := 5, cells := 0, slots := 0, locals := 121 }) mL (fun g => [.ref (g.1 0), .int a1, .int a2]) M xm_Fi (fX4_pose  a1 a2 M) := by
  refine xm_C.of (by decide) rfl (fun g => Nat.le_of_ble_eq_true rfl) ?_
  intro p e s m args below meth c D g A hX
  refine xm_lv (lv' := [(0, .ref (g.1 0)), (1, .int a1), (2, .int a2)]) rfl ?_
  unfold fX4_pose
  refine xm_iload_n hX 1 dX4_pose_0 rfl rfl ?_
  refine xm_iconst hX (v := -1) rfl dX4_pose_1 ?_
  refine xm_icmp_lt hX (tgt := 16) dX4_pose_2 rfl ?_ ?_
  · refine xm_ldc hX (v := -1000000001) (List.mem_cons_of_mem _ gm_545) dX4_pose_16 ?_
    exact xm_iret hX dX4_pose_18
  · refine xm_iload_n hX 1 dX4_pose_5 rfl rfl ?_
    refine xm_aload_n hX 0 dX4_pose_6 rfl rfl ?_
    refine xm_get hX (k := 0) (ci := 4) (j := 0) (C := RX4) (T := TX4) (N := 27) (v := .ref (g.1 1)) mL_0 rfl rfl rfl (by decide) (fun z hz => List.mem_cons_of_mem _ (iw_X4 z hz)) (List.mem_cons_of_mem _ gm_433) dX4_pose_7 ?_
    refine xm_bipush hX (v := 11) rfl dX4_pose_10 ?_
    refine xm_ialdL hX (n := 547) (j := 11) mL_1 (by decide) rfl dX4_pose_12 ?_
    refine xm_icmp_lt hX (tgt := 19) dX4_pose_13 rfl ?_ ?_
    · refine xm_iload_n hX 2 dX4_pose_19 rfl rfl ?_
      refine xm_iconst hX (v := 0) rfl dX4_pose_20 ?_
      refine xm_bipush hX (v := 6) rfl dX4_pose_21 ?_
      refine xm_calli hX (xm_runS hX (As := (fun g => [.int a2, .int (0 : Int32), .int (6 : Int32)])) (kX4_in a2 (0 : Int32) (6 : Int32) M) (xm_gS gm_495 gm_496 gm_5 gm_497) rfl ⟨rfl, rfl⟩ hdX4_in ⟨Nat.le_of_ble_eq_true rfl, Nat.le_of_ble_eq_true rfl⟩ rfl (Nat.le_of_ble_eq_true rfl) rfl dX4_pose_23) (fun x2 M1 => ?_)
      refine xm_if_ne hX (tgt := 32) dX4_pose_26 rfl ?_ ?_
      · refine xm_iload_n hX 1 dX4_pose_32 rfl rfl ?_
        refine xm_iconst hX (v := -1) rfl dX4_pose_33 ?_
        refine xm_icmp_ne hX (tgt := 43) dX4_pose_34 rfl ?_ ?_
        · refine xm_aload_n hX 0 dX4_pose_43 rfl rfl ?_
          refine xm_callv hX (xm_runV hX (k := 0) (ci := 4) (As := (fun g => [])) (kX4_findAll M1) mL_0 rfl (xm_gV gm_550 gm_551 gm_716 gm_5 gm_552) rfl ⟨rfl, rfl⟩ ⟨rfl, hdX4_findAll⟩ ⟨Nat.le_of_ble_eq_true rfl, Nat.le_of_ble_eq_true rfl⟩ rfl (Nat.le_of_ble_eq_true rfl) rfl dX4_pose_44) (fun M3 => ?_)
          refine xm_iload_n hX 2 dX4_pose_47 rfl rfl ?_
          refine xm_ite (fun z4 => ?_) (fun z4 => ?_)
          · refine xm_tsIn hX (tgt := 84) dX4_pose_48 z4 (by decide) (by decide) rfl rfl ?_
            refine xm_aload_n hX 0 dX4_pose_84 rfl rfl ?_
            refine xm_get hX (k := 0) (ci := 4) (j := 6) (C := RX4) (T := TX4) (N := 27) (v := .ref (g.1 6)) mL_0 rfl rfl rfl (by decide) (fun z hz => List.mem_cons_of_mem _ (iw_X4 z hz)) (List.mem_cons_of_mem _ gm_439) dX4_pose_85 ?_
            refine xm_iload_n hX 1 dX4_pose_88 rfl rfl ?_
            refine xm_iald hX (n := 120) mL_6 dX4_pose_89 ?_
            exact xm_iret hX dX4_pose_90
          refine xm_ite (fun z5 => ?_) (fun z5 => ?_)
          · refine xm_tsIn hX (tgt := 91) dX4_pose_48 z5 (by decide) (by decide) rfl rfl ?_
            refine xm_aload_n hX 0 dX4_pose_91 rfl rfl ?_
            refine xm_get hX (k := 0) (ci := 4) (j := 7) (C := RX4) (T := TX4) (N := 27) (v := .ref (g.1 7)) mL_0 rfl rfl rfl (by decide) (fun z hz => List.mem_cons_of_mem _ (iw_X4 z hz)) (List.mem_cons_of_mem _ gm_440) dX4_pose_92 ?_
            refine xm_iload_n hX 1 dX4_pose_95 rfl rfl ?_
            refine xm_iald hX (n := 120) mL_7 dX4_pose_96 ?_
            exact xm_iret hX dX4_pose_97
          refine xm_ite (fun z6 => ?_) (fun z6 => ?_)
          · refine xm_tsIn hX (tgt := 98) dX4_pose_48 z6 (by decide) (by decide) rfl rfl ?_
            refine xm_aload_n hX 0 dX4_pose_98 rfl rfl ?_
            refine xm_get hX (k := 0) (ci := 4) (j := 8) (C := RX4) (T := TX4) (N := 27) (v := .ref (g.1 8)) mL_0 rfl rfl rfl (by decide) (fun z hz => List.mem_cons_of_mem _ (iw_X4 z hz)) (List.mem_cons_of_mem _ gm_441) dX4_pose_99 ?_
            refine xm_iload_n hX 1 dX4_pose_102 rfl rfl ?_
            refine xm_iald hX (n := 120) mL_8 dX4_pose_103 ?_
            exact xm_iret hX dX4_pose_104
          refine xm_ite (fun z7 => ?_) (fun z7 => ?_)
          · refine xm_tsIn hX (tgt := 105) dX4_pose_48 z7 (by decide) (by decide) rfl rfl ?_
            refine xm_aload_n hX 0 dX4_pose_105 rfl rfl ?_
            refine xm_get hX (k := 0) (ci := 4) (j := 9) (C := RX4) (T := TX4) (N := 27) (v := .ref (g.1 9)) mL_0 rfl rfl rfl (by decide) (fun z hz => List.mem_cons_of_mem _ (iw_X4 z hz)) (List.mem_cons_of_mem _ gm_442) dX4_pose_106 ?_
            refine xm_iload_n hX 1 dX4_pose_109 rfl rfl ?_
            refine xm_iald hX (n := 120) mL_9 dX4_pose_110 ?_
            exact xm_iret hX dX4_pose_111
          refine xm_ite (fun z8 => ?_) (fun z8 => ?_)
          · refine xm_tsIn hX (tgt := 112) dX4_pose_48 z8 (by decide) (by decide) rfl rfl ?_
            refine xm_aload_n hX 0 dX4_pose_112 rfl rfl ?_
            refine xm_get hX (k := 0) (ci := 4) (j := 10) (C := RX4) (T := TX4) (N := 27) (v := .ref (g.1 10)) mL_0 rfl rfl rfl (by decide) (fun z hz => List.mem_cons_of_mem _ (iw_X4 z hz)) (List.mem_cons_of_mem _ gm_443) dX4_pose_113 ?_
            refine xm_iload_n hX 1 dX4_pose_116 rfl rfl ?_
            refine xm_iald hX (n := 120) mL_10 dX4_pose_117 ?_
            exact xm_iret hX dX4_pose_118
          refine xm_tsOut hX (tgt := 119) dX4_pose_48 (by have qz4 := lv_neT (a := 0) z4 rfl; have qz5 := lv_neT (a := 1) z5 rfl; have qz6 := lv_neT (a := 2) z6 rfl; have qz7 := lv_neT (a := 3) z7 rfl; have qz8 := lv_neT (a := 4) z8 rfl; omega) rfl ?_
          refine xm_aload_n hX 0 dX4_pose_119 rfl rfl ?_
          refine xm_iload_n hX 1 dX4_pose_120 rfl rfl ?_
          refine xm_iload_n hX 2 dX4_pose_121 rfl rfl ?_
          refine xm_iconst hX (v := 5) rfl dX4_pose_122 ?_
          refine xm_icmp_ne hX (tgt := 130) dX4_pose_123 rfl ?_ ?_
          · refine xm_iconst hX (v := 0) rfl dX4_pose_130 ?_
            refine xm_weak [] (lv' := []) rfl ?_
            exact tfX4_pose_131 hX (0 : Int32) a1 M3
          · refine xm_iconst hX (v := 1) rfl dX4_pose_126 ?_
            refine xm_goto hX (tgt := 131) dX4_pose_127 rfl ?_
            refine xm_weak [] (lv' := []) rfl ?_
            exact tfX4_pose_131 hX (1 : Int32) a1 M3
        · refine xm_aload_n hX 0 dX4_pose_37 rfl rfl ?_
          refine xm_iload_n hX 2 dX4_pose_38 rfl rfl ?_
          refine xm_calli hX (xm_runV hX (k := 0) (ci := 4) (As := (fun g => [.int a2])) (kX4_startOf a2 M1) mL_0 rfl (xm_gV gm_547 gm_548 gm_715 gm_5 gm_549) rfl ⟨rfl, rfl⟩ ⟨rfl, hdX4_startOf⟩ ⟨Nat.le_of_ble_eq_true rfl, Nat.le_of_ble_eq_true rfl⟩ rfl (Nat.le_of_ble_eq_true rfl) rfl dX4_pose_39) (fun x12 M11 => ?_)
          exact xm_iret hX dX4_pose_42
      · refine xm_ldc hX (v := -1000000002) (List.mem_cons_of_mem _ gm_546) dX4_pose_29 ?_
        exact xm_iret hX dX4_pose_31
    · refine xm_ldc hX (v := -1000000001) (List.mem_cons_of_mem _ gm_545) dX4_pose_16 ?_
      exact xm_iret hX dX4_pose_18
-- ===== OdometryDeskModel.put(J)I ['0']
theorem dX4_put_0 : decode cX4_put 0 = .ok (.iconst 0, 1) := by decide +kernel
theorem dX4_put_1 : decode cX4_put 1 = .ok (.istore_n 3, 1) := by decide +kernel
theorem dX4_put_2 : decode cX4_put 2 = .ok (.lload_n 1, 1) := by decide +kernel
theorem dX4_put_3 : decode cX4_put 3 = .ok (.lstore 4, 2) := by decide +kernel
theorem dX4_put_5 : decode cX4_put 5 = .ok (.iload_n 3, 1) := by decide +kernel
theorem dX4_put_6 : decode cX4_put 6 = .ok (.bipush 8, 2) := by decide +kernel
theorem dX4_put_8 : decode cX4_put 8 = .ok (.if_icmp .ge 47, 3) := by decide +kernel
theorem dX4_put_11 : decode cX4_put 11 = .ok (.lload 4, 2) := by decide +kernel
theorem dX4_put_13 : decode cX4_put 13 = .ok (.ldc2_w 211, 3) := by decide +kernel
theorem dX4_put_16 : decode cX4_put 16 = .ok (.land, 1) := by decide +kernel
theorem dX4_put_17 : decode cX4_put 17 = .ok (.lconst 0, 1) := by decide +kernel
theorem dX4_put_18 : decode cX4_put 18 = .ok (.lcmp, 1) := by decide +kernel
theorem dX4_put_19 : decode cX4_put 19 = .ok (.ifCond .eq 36, 3) := by decide +kernel
theorem dX4_put_22 : decode cX4_put 22 = .ok (.lload 4, 2) := by decide +kernel
theorem dX4_put_24 : decode cX4_put 24 = .ok (.ldc2_w 211, 3) := by decide +kernel
theorem dX4_put_27 : decode cX4_put 27 = .ok (.land, 1) := by decide +kernel
theorem dX4_put_28 : decode cX4_put 28 = .ok (.l2i, 1) := by decide +kernel
theorem dX4_put_29 : decode cX4_put 29 = .ok (.bipush 33, 2) := by decide +kernel
theorem dX4_put_31 : decode cX4_put 31 = .ok (.bipush 126, 2) := by decide +kernel
theorem dX4_put_33 : decode cX4_put 33 = .ok (.invokestatic 67, 3) := by decide +kernel
theorem dX4_put_36 : decode cX4_put 36 = .ok (.ifCond .ne 6, 3) := by decide +kernel
theorem dX4_put_39 : decode cX4_put 39 = .ok (.bipush (-2), 2) := by decide +kernel
theorem dX4_put_41 : decode cX4_put 41 = .ok (.ireturn, 1) := by decide +kernel
theorem dX4_put_42 : decode cX4_put 42 = .ok (.iinc 3 1, 3) := by decide +kernel
theorem dX4_put_45 : decode cX4_put 45 = .ok (.lload 4, 2) := by decide +kernel
theorem dX4_put_47 : decode cX4_put 47 = .ok (.bipush 8, 2) := by decide +kernel
theorem dX4_put_49 : decode cX4_put 49 = .ok (.lushr, 1) := by decide +kernel
theorem dX4_put_50 : decode cX4_put 50 = .ok (.lstore 4, 2) := by decide +kernel
theorem dX4_put_52 : decode cX4_put 52 = .ok (.goto (-47), 3) := by decide +kernel
theorem dX4_put_55 : decode cX4_put 55 = .ok (.iload_n 3, 1) := by decide +kernel
theorem dX4_put_56 : decode cX4_put 56 = .ok (.ifCond .eq 10, 3) := by decide +kernel
theorem dX4_put_59 : decode cX4_put 59 = .ok (.lload 4, 2) := by decide +kernel
theorem dX4_put_61 : decode cX4_put 61 = .ok (.lconst 0, 1) := by decide +kernel
theorem dX4_put_62 : decode cX4_put 62 = .ok (.lcmp, 1) := by decide +kernel
theorem dX4_put_63 : decode cX4_put 63 = .ok (.ifCond .eq 6, 3) := by decide +kernel
theorem dX4_put_66 : decode cX4_put 66 = .ok (.bipush (-2), 2) := by decide +kernel
theorem dX4_put_68 : decode cX4_put 68 = .ok (.ireturn, 1) := by decide +kernel
theorem dX4_put_69 : decode cX4_put 69 = .ok (.aload_n 0, 1) := by decide +kernel
theorem dX4_put_70 : decode cX4_put 70 = .ok (.getfield 200, 3) := by decide +kernel
theorem dX4_put_73 : decode cX4_put 73 = .ok (.iload_n 3, 1) := by decide +kernel
theorem dX4_put_74 : decode cX4_put 74 = .ok (.iadd, 1) := by decide +kernel
theorem dX4_put_75 : decode cX4_put 75 = .ok (.bipush 100, 2) := by decide +kernel
theorem dX4_put_77 : decode cX4_put 77 = .ok (.if_icmp .le 6, 3) := by decide +kernel
theorem dX4_put_80 : decode cX4_put 80 = .ok (.bipush (-4), 2) := by decide +kernel
theorem dX4_put_82 : decode cX4_put 82 = .ok (.ireturn, 1) := by decide +kernel
theorem dX4_put_83 : decode cX4_put 83 = .ok (.iconst 0, 1) := by decide +kernel
theorem dX4_put_84 : decode cX4_put 84 = .ok (.istore 6, 2) := by decide +kernel
theorem dX4_put_86 : decode cX4_put 86 = .ok (.iload 6, 2) := by decide +kernel
theorem dX4_put_88 : decode cX4_put 88 = .ok (.iload_n 3, 1) := by decide +kernel
theorem dX4_put_89 : decode cX4_put 89 = .ok (.if_icmp .ge 37, 3) := by decide +kernel
theorem dX4_put_92 : decode cX4_put 92 = .ok (.aload_n 0, 1) := by decide +kernel
theorem dX4_put_93 : decode cX4_put 93 = .ok (.getfield 20, 3) := by decide +kernel
theorem dX4_put_96 : decode cX4_put 96 = .ok (.aload_n 0, 1) := by decide +kernel
theorem dX4_put_97 : decode cX4_put 97 = .ok (.getfield 200, 3) := by decide +kernel
theorem dX4_put_100 : decode cX4_put 100 = .ok (.iload 6, 2) := by decide +kernel
theorem dX4_put_102 : decode cX4_put 102 = .ok (.iadd, 1) := by decide +kernel
theorem dX4_put_103 : decode cX4_put 103 = .ok (.lload_n 1, 1) := by decide +kernel
theorem dX4_put_104 : decode cX4_put 104 = .ok (.bipush 8, 2) := by decide +kernel
theorem dX4_put_106 : decode cX4_put 106 = .ok (.iload_n 3, 1) := by decide +kernel
theorem dX4_put_107 : decode cX4_put 107 = .ok (.iconst 1, 1) := by decide +kernel
theorem dX4_put_108 : decode cX4_put 108 = .ok (.isub, 1) := by decide +kernel
theorem dX4_put_109 : decode cX4_put 109 = .ok (.iload 6, 2) := by decide +kernel
theorem dX4_put_111 : decode cX4_put 111 = .ok (.isub, 1) := by decide +kernel
theorem dX4_put_112 : decode cX4_put 112 = .ok (.imul, 1) := by decide +kernel
theorem dX4_put_113 : decode cX4_put 113 = .ok (.lshr, 1) := by decide +kernel
theorem dX4_put_114 : decode cX4_put 114 = .ok (.ldc2_w 211, 3) := by decide +kernel
theorem dX4_put_117 : decode cX4_put 117 = .ok (.land, 1) := by decide +kernel
theorem dX4_put_118 : decode cX4_put 118 = .ok (.l2i, 1) := by decide +kernel
theorem dX4_put_119 : decode cX4_put 119 = .ok (.iastore, 1) := by decide +kernel
theorem dX4_put_120 : decode cX4_put 120 = .ok (.iinc 6 1, 3) := by decide +kernel
theorem dX4_put_123 : decode cX4_put 123 = .ok (.goto (-37), 3) := by decide +kernel
theorem dX4_put_126 : decode cX4_put 126 = .ok (.aload_n 0, 1) := by decide +kernel
theorem dX4_put_127 : decode cX4_put 127 = .ok (.dup, 1) := by decide +kernel
theorem dX4_put_128 : decode cX4_put 128 = .ok (.getfield 200, 3) := by decide +kernel
theorem dX4_put_131 : decode cX4_put 131 = .ok (.iload_n 3, 1) := by decide +kernel
theorem dX4_put_132 : decode cX4_put 132 = .ok (.iadd, 1) := by decide +kernel
theorem dX4_put_133 : decode cX4_put 133 = .ok (.putfield 200, 3) := by decide +kernel
theorem dX4_put_136 : decode cX4_put 136 = .ok (.aload_n 0, 1) := by decide +kernel
theorem dX4_put_137 : decode cX4_put 137 = .ok (.getfield 200, 3) := by decide +kernel
theorem dX4_put_140 : decode cX4_put 140 = .ok (.ireturn, 1) := by decide +kernel
abbrev wX4_put : List Cond := .code yX4_put cX4_put 7 (some .int) :: lw_gd
theorem hdX4_put : (yX4_put.cls ≠ "java/lang/invoke/MethodHandle" ∧ yX4_put.cls ≠ "java/lang/invoke/VarHandle" ∧ (parseMethodDescriptor yX4_put.desc).map (fun d => d.parameters.length) = some 1) := by decide +kernel
def fX4_put_86  (k86 : Int64 → Int32 → Int32 → xm_M → Option (Int32 × xm_M)) (b1 : Int64) (b3 : Int32) (b6 : Int32) (M : xm_M) : Option (Int32 × xm_M) :=
  if b3 ≤ b6 then xm_lt (xm_s M 0 4 ((M.1 0 4) + b3)) (fun M3 => some (M3.1 0 4, M3)) else if ((M.1 0 4) + b6) < 0 ∨ 100 ≤ ((M.1 0 4) + b6).toNatClampNeg then none else xm_lt (xm_s M 4 ((M.1 0 4) + b6).toNatClampNeg (((b1 >>> (((8 : Int32) * ((b3 - (1 : Int32)) - b6)).toInt64 &&& 63)) &&& (255 : Int64)).toInt32)) (fun M4 => xm_lt (b6 + Int32.ofInt 1) (fun x5 => k86 b1 b3 x5 M4))
set_option maxRecDepth 20000 in
theorem tfX4_put_86 {p : Program} {l : Launch} {e : Env} {s : State} {m : MethodId} {args : Array Value} {below : List Frame} {meth : Method} {c : Code} {D : va_G} {g : xm_G} {A : Nat → Prop} (hX : xm_X p m meth c cX4_put 7 s args wX4_put RX4 (some .int) D mL g A)   (k86 : Int64 → Int32 → Int32 → xm_M → Option (Int32 × xm_M)) (h86 : ∀ (b1 : Int64), ∀ (b3 : Int32), ∀ (b6 : Int32), ∀ (M : xm_M), xm_J p l e ({ frames := 1, cells := 0, slots := 0, locals := 22 }) s m args below meth c 7 D mL g A (xm_Fi g) 86 [(0, .ref (g.1 0)), (1, .long b1), (3, .int b3), (6, .int b6)] [] M (k86 b1 b3 b6 M)) : ∀ (b1 : Int64), ∀ (b3 : Int32), ∀ (b6 : Int32), ∀ (M : xm_M), xm_J p l e ({ frames := 1, cells := 0, slots := 0, locals := 22 }) s m args below meth c 7 D mL g A (xm_Fi g) 86 [(0, .ref (g.1 0)), (1, .long b1), (3, .int b3), (6, .int b6)] [] M (fX4_put_86 k86 b1 b3 b6 M) := by
  intro b1 b3 b6 M
  unfold fX4_put_86
  refine xm_iload hX 3 dX4_put_86 rfl ?_
  refine xm_iload_n hX 2 dX4_put_88 rfl rfl ?_
  refine xm_icmp_ge hX (tgt := 126) dX4_put_89 rfl ?_ ?_
  · refine xm_aload_n hX 0 dX4_put_126 rfl rfl ?_
    refine xm_dup hX rfl dX4_put_127 ?_
    refine xm_get hX (k := 0) (ci := 4) (j := 4) (C := RX4) (T := TX4) (N := 27) (v := .int (M.1 0 4)) mL_0 rfl rfl rfl (by decide) (fun z hz => List.mem_cons_of_mem _ (iw_X4 z hz)) (List.mem_cons_of_mem _ gm_437) dX4_put_128 ?_
    refine xm_iload_n hX 2 dX4_put_131 rfl rfl ?_
    refine xm_iadd hX dX4_put_132 ?_
    refine xm_puti hX (k := 0) (ci := 4) (j := 4) (C := RX4) (T := TX4) (N := 27) (t0 := tyX4) mL_0 rfl rfl (by decide) (fun z hz => List.mem_cons_of_mem _ (iw_X4 z hz)) tyX4_ok nmX4 rfl rfl (List.mem_cons_of_mem _ gm_437) dX4_put_133 (fun M3 => ?_)
    refine xm_aload_n hX 0 dX4_put_136 rfl rfl ?_
    refine xm_get hX (k := 0) (ci := 4) (j := 4) (C := RX4) (T := TX4) (N := 27) (v := .int (M3.1 0 4)) mL_0 rfl rfl rfl (by decide) (fun z hz => List.mem_cons_of_mem _ (iw_X4 z hz)) (List.mem_cons_of_mem _ gm_437) dX4_put_137 ?_
    exact xm_iret hX dX4_put_140
  · refine xm_aload_n hX 0 dX4_put_92 rfl rfl ?_
    refine xm_get hX (k := 0) (ci := 4) (j := 3) (C := RX4) (T := TX4) (N := 27) (v := .ref (g.1 4)) mL_0 rfl rfl rfl (by decide) (fun z hz => List.mem_cons_of_mem _ (iw_X4 z hz)) (List.mem_cons_of_mem _ gm_436) dX4_put_93 ?_
    refine xm_aload_n hX 0 dX4_put_96 rfl rfl ?_
    refine xm_get hX (k := 0) (ci := 4) (j := 4) (C := RX4) (T := TX4) (N := 27) (v := .int (M.1 0 4)) mL_0 rfl rfl rfl (by decide) (fun z hz => List.mem_cons_of_mem _ (iw_X4 z hz)) (List.mem_cons_of_mem _ gm_437) dX4_put_97 ?_
    refine xm_iload hX 3 dX4_put_100 rfl ?_
    refine xm_iadd hX dX4_put_102 ?_
    refine xm_lload_n hX 1 dX4_put_103 rfl rfl ?_
    refine xm_bipush hX (v := 8) rfl dX4_put_104 ?_
    refine xm_iload_n hX 2 dX4_put_106 rfl rfl ?_
    refine xm_iconst hX (v := 1) rfl dX4_put_107 ?_
    refine xm_isub hX dX4_put_108 ?_
    refine xm_iload hX 3 dX4_put_109 rfl ?_
    refine xm_isub hX dX4_put_111 ?_
    refine xm_imul hX dX4_put_112 ?_
    refine xm_lshr hX dX4_put_113 ?_
    refine xm_ldc2 hX (v := 255) (List.mem_cons_of_mem _ gm_657) dX4_put_114 ?_
    refine xm_land hX dX4_put_117 ?_
    refine xm_l2i hX dX4_put_118 ?_
    refine xm_iast hX (n := 100) mL_4 dX4_put_119 (fun M4 => ?_)
    refine xm_iinc hX (lv2 := fun x5 => [(6, .int x5), (0, .ref (g.1 0)), (1, .long b1), (3, .int b3)]) 3 dX4_put_120 rfl (by decide) (fun _ => rfl) (fun x5 => ?_)
    refine xm_goto hX (tgt := 86) dX4_put_123 rfl ?_
    refine xm_weak [1, 2, 3, 0] (lv' := [(0, .ref (g.1 0)), (1, .long b1), (3, .int b3), (6, .int x5)]) rfl ?_
    exact h86 b1 b3 x5 M4
def fX4_put_86_it   (nq : Nat) : Int64 → Int32 → Int32 → xm_M → Option (Int32 × xm_M) := xm_it (fun kq => fX4_put_86 kq) (fun _ _ _ _ => none) nq
theorem tfX4_put_86_it {p : Program} {l : Launch} {e : Env} {s : State} {m : MethodId} {args : Array Value} {below : List Frame} {meth : Method} {c : Code} {D : va_G} {g : xm_G} {A : Nat → Prop} (hX : xm_X p m meth c cX4_put 7 s args wX4_put RX4 (some .int) D mL g A)     : ∀ (nq : Nat), ∀ (b1 : Int64), ∀ (b3 : Int32), ∀ (b6 : Int32), ∀ (M : xm_M), xm_J p l e ({ frames := 1, cells := 0, slots := 0, locals := 22 }) s m args below meth c 7 D mL g A (xm_Fi g) 86 [(0, .ref (g.1 0)), (1, .long b1), (3, .int b3), (6, .int b6)] [] M (fX4_put_86_it  nq b1 b3 b6 M) := by
  intro nq
  induction nq with
  | zero => exact fun _ _ _ _ => xm_none
  | succ nq ih => exact tfX4_put_86 hX _ ih
def fX4_put_55   (b1 : Int64) (b3 : Int32) (b4 : Int64) (M : xm_M) : Option (Int32 × xm_M) :=
  if b3 = 0 then some ((-2 : Int32), M) else if (lg_cmp b4 (0 : Int64)) = 0 then if ((M.1 0 4) + b3) ≤ (100 : Int32) then xm_lt ((0 : Int32)) (fun x2 => fX4_put_86_it xm_N b1 b3 x2 M) else some ((-4 : Int32), M) else some ((-2 : Int32), M)
set_option maxRecDepth 20000 in
theorem tfX4_put_55 {p : Program} {l : Launch} {e : Env} {s : State} {m : MethodId} {args : Array Value} {below : List Frame} {meth : Method} {c : Code} {D : va_G} {g : xm_G} {A : Nat → Prop} (hX : xm_X p m meth c cX4_put 7 s args wX4_put RX4 (some .int) D mL g A)     : ∀ (b1 : Int64), ∀ (b3 : Int32), ∀ (b4 : Int64), ∀ (M : xm_M), xm_J p l e ({ frames := 1, cells := 0, slots := 0, locals := 22 }) s m args below meth c 7 D mL g A (xm_Fi g) 55 [(0, .ref (g.1 0)), (1, .long b1), (3, .int b3), (4, .long b4)] [] M (fX4_put_55 b1 b3 b4 M) := by
  intro b1 b3 b4 M
  unfold fX4_put_55
  refine xm_iload_n hX 2 dX4_put_55 rfl rfl ?_
  refine xm_if_eq hX (tgt := 66) dX4_put_56 rfl ?_ ?_
  · refine xm_bipush hX (v := -2) rfl dX4_put_66 ?_
    exact xm_iret hX dX4_put_68
  · refine xm_lload hX 3 dX4_put_59 rfl ?_
    refine xm_lconst hX (v := 0) rfl dX4_put_61 ?_
    refine xm_lcmp hX dX4_put_62 ?_
    refine xm_if_eq hX (tgt := 69) dX4_put_63 rfl ?_ ?_
    · refine xm_aload_n hX 0 dX4_put_69 rfl rfl ?_
      refine xm_get hX (k := 0) (ci := 4) (j := 4) (C := RX4) (T := TX4) (N := 27) (v := .int (M.1 0 4)) mL_0 rfl rfl rfl (by decide) (fun z hz => List.mem_cons_of_mem _ (iw_X4 z hz)) (List.mem_cons_of_mem _ gm_437) dX4_put_70 ?_
      refine xm_iload_n hX 2 dX4_put_73 rfl rfl ?_
      refine xm_iadd hX dX4_put_74 ?_
      refine xm_bipush hX (v := 100) rfl dX4_put_75 ?_
      refine xm_icmp_le hX (tgt := 83) dX4_put_77 rfl ?_ ?_
      · refine xm_iconst hX (v := 0) rfl dX4_put_83 ?_
        refine xm_nmi (fun x2 => ?_)
        refine xm_istore hX (lv' := [(6, .int x2), (0, .ref (g.1 0)), (1, .long b1), (3, .int b3), (4, .long b4)]) dX4_put_84 (by decide) rfl ?_
        refine xm_weak [1, 2, 3, 0] (lv' := [(0, .ref (g.1 0)), (1, .long b1), (3, .int b3), (6, .int x2)]) rfl ?_
        exact tfX4_put_86_it hX xm_N b1 b3 x2 M
      · refine xm_bipush hX (v := -4) rfl dX4_put_80 ?_
        exact xm_iret hX dX4_put_82
    · refine xm_bipush hX (v := -2) rfl dX4_put_66 ?_
      exact xm_iret hX dX4_put_68
def fX4_put_5  (k5 : Int64 → Int32 → Int64 → xm_M → Option (Int32 × xm_M)) (b1 : Int64) (b3 : Int32) (b4 : Int64) (M : xm_M) : Option (Int32 × xm_M) :=
  if (8 : Int32) ≤ b3 then fX4_put_55 b1 b3 b4 M else if (lg_cmp (b4 &&& (255 : Int64)) (0 : Int64)) = 0 then fX4_put_55 b1 b3 b4 M else xm_bi (fX4_in ((b4 &&& (255 : Int64)).toInt32) (33 : Int32) (126 : Int32) M) (fun x7 M6 => if x7 = 0 then some ((-2 : Int32), M6) else xm_lt (b3 + Int32.ofInt 1) (fun x8 => xm_lt ((b4.toUInt64 >>> ((8 : Int32).toInt64.toUInt64 &&& Int64.toUInt64 63)).toInt64) (fun x9 => k5 b1 x8 x9 M6)))
set_option maxRecDepth 20000 in
theorem tfX4_put_5 {p : Program} {l : Launch} {e : Env} {s : State} {m : MethodId} {args : Array Value} {below : List Frame} {meth : Method} {c : Code} {D : va_G} {g : xm_G} {A : Nat → Prop} (hX : xm_X p m meth c cX4_put 7 s args wX4_put RX4 (some .int) D mL g A)   (k5 : Int64 → Int32 → Int64 → xm_M → Option (Int32 × xm_M)) (h5 : ∀ (b1 : Int64), ∀ (b3 : Int32), ∀ (b4 : Int64), ∀ (M : xm_M), xm_J p l e ({ frames := 1, cells := 0, slots := 0, locals := 22 }) s m args below meth c 7 D mL g A (xm_Fi g) 5 [(0, .ref (g.1 0)), (1, .long b1), (3, .int b3), (4, .long b4)] [] M (k5 b1 b3 b4 M)) : ∀ (b1 : Int64), ∀ (b3 : Int32), ∀ (b4 : Int64), ∀ (M : xm_M), xm_J p l e ({ frames := 1, cells := 0, slots := 0, locals := 22 }) s m args below meth c 7 D mL g A (xm_Fi g) 5 [(0, .ref (g.1 0)), (1, .long b1), (3, .int b3), (4, .long b4)] [] M (fX4_put_5 k5 b1 b3 b4 M) := by
  intro b1 b3 b4 M
  unfold fX4_put_5
  refine xm_iload_n hX 2 dX4_put_5 rfl rfl ?_
  refine xm_bipush hX (v := 8) rfl dX4_put_6 ?_
  refine xm_icmp_ge hX (tgt := 55) dX4_put_8 rfl ?_ ?_
  · exact tfX4_put_55 hX b1 b3 b4 M
  · refine xm_lload hX 3 dX4_put_11 rfl ?_
    refine xm_ldc2 hX (v := 255) (List.mem_cons_of_mem _ gm_657) dX4_put_13 ?_
    refine xm_land hX dX4_put_16 ?_
    refine xm_lconst hX (v := 0) rfl dX4_put_17 ?_
    refine xm_lcmp hX dX4_put_18 ?_
    refine xm_if_eq hX (tgt := 55) dX4_put_19 rfl ?_ ?_
    · exact tfX4_put_55 hX b1 b3 b4 M
    · refine xm_lload hX 3 dX4_put_22 rfl ?_
      refine xm_ldc2 hX (v := 255) (List.mem_cons_of_mem _ gm_657) dX4_put_24 ?_
      refine xm_land hX dX4_put_27 ?_
      refine xm_l2i hX dX4_put_28 ?_
      refine xm_bipush hX (v := 33) rfl dX4_put_29 ?_
      refine xm_bipush hX (v := 126) rfl dX4_put_31 ?_
      refine xm_calli hX (xm_runS hX (As := (fun g => [.int ((b4 &&& (255 : Int64)).toInt32), .int (33 : Int32), .int (126 : Int32)])) (kX4_in ((b4 &&& (255 : Int64)).toInt32) (33 : Int32) (126 : Int32) M) (xm_gS gm_495 gm_496 gm_5 gm_497) rfl ⟨rfl, rfl⟩ hdX4_in ⟨Nat.le_of_ble_eq_true rfl, Nat.le_of_ble_eq_true rfl⟩ rfl (Nat.le_of_ble_eq_true rfl) rfl dX4_put_33) (fun x7 M6 => ?_)
      refine xm_if_ne hX (tgt := 42) dX4_put_36 rfl ?_ ?_
      · refine xm_iinc hX (lv2 := fun x8 => [(3, .int x8), (0, .ref (g.1 0)), (1, .long b1), (4, .long b4)]) 2 dX4_put_42 rfl (by decide) (fun _ => rfl) (fun x8 => ?_)
        refine xm_lload hX 3 dX4_put_45 rfl ?_
        refine xm_bipush hX (v := 8) rfl dX4_put_47 ?_
        refine xm_lushr hX dX4_put_49 ?_
        refine xm_nml (fun x9 => ?_)
        refine xm_lstore hX (lv' := [(4, .long x9), (3, .int x8), (0, .ref (g.1 0)), (1, .long b1)]) dX4_put_50 (by decide) rfl ?_
        refine xm_goto hX (tgt := 5) dX4_put_52 rfl ?_
        refine xm_weak [2, 3, 1, 0] (lv' := [(0, .ref (g.1 0)), (1, .long b1), (3, .int x8), (4, .long x9)]) rfl ?_
        exact h5 b1 x8 x9 M6
      · refine xm_bipush hX (v := -2) rfl dX4_put_39 ?_
        exact xm_iret hX dX4_put_41
def fX4_put_5_it   (nq : Nat) : Int64 → Int32 → Int64 → xm_M → Option (Int32 × xm_M) := xm_it (fun kq => fX4_put_5 kq) (fun _ _ _ _ => none) nq
theorem tfX4_put_5_it {p : Program} {l : Launch} {e : Env} {s : State} {m : MethodId} {args : Array Value} {below : List Frame} {meth : Method} {c : Code} {D : va_G} {g : xm_G} {A : Nat → Prop} (hX : xm_X p m meth c cX4_put 7 s args wX4_put RX4 (some .int) D mL g A)     : ∀ (nq : Nat), ∀ (b1 : Int64), ∀ (b3 : Int32), ∀ (b4 : Int64), ∀ (M : xm_M), xm_J p l e ({ frames := 1, cells := 0, slots := 0, locals := 22 }) s m args below meth c 7 D mL g A (xm_Fi g) 5 [(0, .ref (g.1 0)), (1, .long b1), (3, .int b3), (4, .long b4)] [] M (fX4_put_5_it  nq b1 b3 b4 M) := by
  intro nq
  induction nq with
  | zero => exact fun _ _ _ _ => xm_none
  | succ nq ih => exact tfX4_put_5 hX _ ih
def fX4_put  (a1 : Int64) (M : xm_M) : Option (Int32 × xm_M) :=
  xm_lt ((0 : Int32)) (fun x1 => fX4_put_5_it xm_N a1 x1 a1 M)
set_option maxRecDepth 20000 in
theorem kX4_put {l : Launch}   (a1 : Int64) (M : xm_M) : xm_C l yX4_put wX4_put ({ frames := 1, cells := 0, slots := 0, locals := 22 }) mL (fun g => [.ref (g.1 0), .long a1]) M xm_Fi (fX4_put  a1 M) := by
  refine xm_C.of (by decide) rfl (fun g => Nat.le_of_ble_eq_true rfl) ?_
  intro p e s m args below meth c D g A hX
  refine xm_lv (lv' := [(0, .ref (g.1 0)), (1, .long a1)]) rfl ?_
  unfold fX4_put
  refine xm_iconst hX (v := 0) rfl dX4_put_0 ?_
  refine xm_nmi (fun x1 => ?_)
  refine xm_istore_n hX (lv' := [(3, .int x1), (0, .ref (g.1 0)), (1, .long a1)]) dX4_put_1 rfl (by decide) rfl ?_
  refine xm_lload_n hX 2 dX4_put_2 rfl rfl ?_
  refine xm_lstore hX (lv' := [(4, .long a1), (3, .int x1), (0, .ref (g.1 0)), (1, .long a1)]) dX4_put_3 (by decide) rfl ?_
  refine xm_weak [2, 3, 1, 0] (lv' := [(0, .ref (g.1 0)), (1, .long a1), (3, .int x1), (4, .long a1)]) rfl ?_
  exact tfX4_put_5_it hX xm_N a1 x1 a1 M
