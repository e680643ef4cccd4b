-- ===== OdometryDeskModel.restore(I)I ['0']
theorem dX4_restore_0 : decode cX4_restore 0 = .ok (.iload_n 1, 1) := by decide +kernel
theorem dX4_restore_1 : decode cX4_restore 1 = .ok (.iconst 0, 1) := by decide +kernel
theorem dX4_restore_2 : decode cX4_restore 2 = .ok (.iconst 1, 1) := by decide +kernel
theorem dX4_restore_3 : decode cX4_restore 3 = .ok (.invokestatic 67, 3) := by decide +kernel
theorem dX4_restore_6 : decode cX4_restore 6 = .ok (.ifCond .ne 6, 3) := by decide +kernel
theorem dX4_restore_9 : decode cX4_restore 9 = .ok (.bipush (-2), 2) := by decide +kernel
theorem dX4_restore_11 : decode cX4_restore 11 = .ok (.ireturn, 1) := by decide +kernel
theorem dX4_restore_12 : decode cX4_restore 12 = .ok (.aload_n 0, 1) := by decide +kernel
theorem dX4_restore_13 : decode cX4_restore 13 = .ok (.getfield 16, 3) := by decide +kernel
theorem dX4_restore_16 : decode cX4_restore 16 = .ok (.iload_n 1, 1) := by decide +kernel
theorem dX4_restore_17 : decode cX4_restore 17 = .ok (.baload, 1) := by decide +kernel
theorem dX4_restore_18 : decode cX4_restore 18 = .ok (.ifCond .ne 6, 3) := by decide +kernel
theorem dX4_restore_21 : decode cX4_restore 21 = .ok (.bipush (-5), 2) := by decide +kernel
theorem dX4_restore_23 : decode cX4_restore 23 = .ok (.ireturn, 1) := by decide +kernel
theorem dX4_restore_24 : decode cX4_restore 24 = .ok (.iconst 0, 1) := by decide +kernel
theorem dX4_restore_25 : decode cX4_restore 25 = .ok (.istore_n 2, 1) := by decide +kernel
theorem dX4_restore_26 : decode cX4_restore 26 = .ok (.iload_n 2, 1) := by decide +kernel
theorem dX4_restore_27 : decode cX4_restore 27 = .ok (.sipush 547, 3) := by decide +kernel
theorem dX4_restore_30 : decode cX4_restore 30 = .ok (.if_icmp .ge 27, 3) := by decide +kernel
theorem dX4_restore_33 : decode cX4_restore 33 = .ok (.aload_n 0, 1) := by decide +kernel
theorem dX4_restore_34 : decode cX4_restore 34 = .ok (.getfield 7, 3) := by decide +kernel
theorem dX4_restore_37 : decode cX4_restore 37 = .ok (.iload_n 2, 1) := by decide +kernel
theorem dX4_restore_38 : decode cX4_restore 38 = .ok (.aload_n 0, 1) := by decide +kernel
theorem dX4_restore_39 : decode cX4_restore 39 = .ok (.getfield 13, 3) := by decide +kernel
theorem dX4_restore_42 : decode cX4_restore 42 = .ok (.sipush 547, 3) := by decide +kernel
theorem dX4_restore_45 : decode cX4_restore 45 = .ok (.iload_n 1, 1) := by decide +kernel
theorem dX4_restore_46 : decode cX4_restore 46 = .ok (.imul, 1) := by decide +kernel
theorem dX4_restore_47 : decode cX4_restore 47 = .ok (.iload_n 2, 1) := by decide +kernel
theorem dX4_restore_48 : decode cX4_restore 48 = .ok (.iadd, 1) := by decide +kernel
theorem dX4_restore_49 : decode cX4_restore 49 = .ok (.iaload, 1) := by decide +kernel
theorem dX4_restore_50 : decode cX4_restore 50 = .ok (.iastore, 1) := by decide +kernel
theorem dX4_restore_51 : decode cX4_restore 51 = .ok (.iinc 2 1, 3) := by decide +kernel
theorem dX4_restore_54 : decode cX4_restore 54 = .ok (.goto (-28), 3) := by decide +kernel
theorem dX4_restore_57 : decode cX4_restore 57 = .ok (.aload_n 0, 1) := by decide +kernel
theorem dX4_restore_58 : decode cX4_restore 58 = .ok (.getfield 7, 3) := by decide +kernel
theorem dX4_restore_61 : decode cX4_restore 61 = .ok (.bipush 11, 2) := by decide +kernel
theorem dX4_restore_63 : decode cX4_restore 63 = .ok (.iaload, 1) := by decide +kernel
theorem dX4_restore_64 : decode cX4_restore 64 = .ok (.ireturn, 1) := by decide +kernel
abbrev wX4_restore : List Cond := .code yX4_restore cX4_restore 3 (some .int) :: lw_gd
theorem hdX4_restore : (yX4_restore.cls ≠ "java/lang/invoke/MethodHandle" ∧ yX4_restore.cls ≠ "java/lang/invoke/VarHandle" ∧ (parseMethodDescriptor yX4_restore.desc).map (fun d => d.parameters.length) = some 1) := by decide +kernel
def fX4_restore_26  (k26 : Int32 → Int32 → xm_M → Option (Int32 × xm_M)) (b1 : Int32) (b2 : Int32) (M : xm_M) : Option (Int32 × xm_M) :=
  if (547 : Int32) ≤ b2 then some (M.1 1 11, M) else if (((547 : Int32) * b1) + b2) < 0 ∨ 1094 ≤ (((547 : Int32) * b1) + b2).toNatClampNeg then none else if b2 < 0 ∨ 547 ≤ b2.toNatClampNeg then none else xm_lt (xm_s M 1 b2.toNatClampNeg (M.1 2 (((547 : Int32) * b1) + b2).toNatClampNeg)) (fun M4 => xm_lt (b2 + Int32.ofInt 1) (fun x5 => k26 b1 x5 M4))
set_option maxRecDepth 20000 in
theorem tfX4_restore_26 {p : Program} {l : Launch} {e : Env} {s : State} {m : MethodId} {args : Array Value} {below : List Frame} {meth : Method} {c : Code} {D : va_G} {g : xm_G} {A : Nat → Prop} (hX : xm_X p m meth c cX4_restore 3 s args wX4_restore RX4 (some .int) D mL g A)   (k26 : Int32 → Int32 → xm_M → Option (Int32 × xm_M)) (h26 : ∀ (b1 : Int32), ∀ (b2 : Int32), ∀ (M : xm_M), xm_J p l e ({ frames := 1, cells := 0, slots := 0, locals := 22 }) s m args below meth c 3 D mL g A (xm_Fi g) 26 [(0, .ref (g.1 0)), (1, .int b1), (2, .int b2)] [] M (k26 b1 b2 M)) : ∀ (b1 : Int32), ∀ (b2 : Int32), ∀ (M : xm_M), xm_J p l e ({ frames := 1, cells := 0, slots := 0, locals := 22 }) s m args below meth c 3 D mL g A (xm_Fi g) 26 [(0, .ref (g.1 0)), (1, .int b1), (2, .int b2)] [] M (fX4_restore_26 k26 b1 b2 M) := by
  intro b1 b2 M
  unfold fX4_restore_26
  refine xm_iload_n hX 2 dX4_restore_26 rfl rfl ?_
  refine xm_sipush hX (v := 547) rfl dX4_restore_27 ?_
  refine xm_icmp_ge hX (tgt := 57) dX4_restore_30 rfl ?_ ?_
  · refine xm_aload_n hX 0 dX4_restore_57 rfl rfl ?_
    refine xm_get hX (k := 0) (ci := 4) (j := 0) (C := RX4) (T := TX4) (N := 27) (v := .ref (g.1 1)) mL_0 rfl rfl rfl (by decide) (fun z hz => List.mem_cons_of_mem _ (iw_X4 z hz)) (List.mem_cons_of_mem _ gm_433) dX4_restore_58 ?_
    refine xm_bipush hX (v := 11) rfl dX4_restore_61 ?_
    refine xm_ialdL hX (n := 547) (j := 11) mL_1 (by decide) rfl dX4_restore_63 ?_
    exact xm_iret hX dX4_restore_64
  · refine xm_aload_n hX 0 dX4_restore_33 rfl rfl ?_
    refine xm_get hX (k := 0) (ci := 4) (j := 0) (C := RX4) (T := TX4) (N := 27) (v := .ref (g.1 1)) mL_0 rfl rfl rfl (by decide) (fun z hz => List.mem_cons_of_mem _ (iw_X4 z hz)) (List.mem_cons_of_mem _ gm_433) dX4_restore_34 ?_
    refine xm_iload_n hX 2 dX4_restore_37 rfl rfl ?_
    refine xm_aload_n hX 0 dX4_restore_38 rfl rfl ?_
    refine xm_get hX (k := 0) (ci := 4) (j := 1) (C := RX4) (T := TX4) (N := 27) (v := .ref (g.1 2)) mL_0 rfl rfl rfl (by decide) (fun z hz => List.mem_cons_of_mem _ (iw_X4 z hz)) (List.mem_cons_of_mem _ gm_434) dX4_restore_39 ?_
    refine xm_sipush hX (v := 547) rfl dX4_restore_42 ?_
    refine xm_iload_n hX 1 dX4_restore_45 rfl rfl ?_
    refine xm_imul hX dX4_restore_46 ?_
    refine xm_iload_n hX 2 dX4_restore_47 rfl rfl ?_
    refine xm_iadd hX dX4_restore_48 ?_
    refine xm_iald hX (n := 1094) mL_2 dX4_restore_49 ?_
    refine xm_iast hX (n := 547) mL_1 dX4_restore_50 (fun M4 => ?_)
    refine xm_iinc hX (lv2 := fun x5 => [(2, .int x5), (0, .ref (g.1 0)), (1, .int b1)]) 2 dX4_restore_51 rfl (by decide) (fun _ => rfl) (fun x5 => ?_)
    refine xm_goto hX (tgt := 26) dX4_restore_54 rfl ?_
    refine xm_weak [1, 2, 0] (lv' := [(0, .ref (g.1 0)), (1, .int b1), (2, .int x5)]) rfl ?_
    exact h26 b1 x5 M4
def fX4_restore_26_it   (nq : Nat) : Int32 → Int32 → xm_M → Option (Int32 × xm_M) := xm_it (fun kq => fX4_restore_26 kq) (fun _ _ _ => none) nq
theorem tfX4_restore_26_it {p : Program} {l : Launch} {e : Env} {s : State} {m : MethodId} {args : Array Value} {below : List Frame} {meth : Method} {c : Code} {D : va_G} {g : xm_G} {A : Nat → Prop} (hX : xm_X p m meth c cX4_restore 3 s args wX4_restore RX4 (some .int) D mL g A)     : ∀ (nq : Nat), ∀ (b1 : Int32), ∀ (b2 : Int32), ∀ (M : xm_M), xm_J p l e ({ frames := 1, cells := 0, slots := 0, locals := 22 }) s m args below meth c 3 D mL g A (xm_Fi g) 26 [(0, .ref (g.1 0)), (1, .int b1), (2, .int b2)] [] M (fX4_restore_26_it  nq b1 b2 M) := by
  intro nq
  induction nq with
  | zero => exact fun _ _ _ => xm_none
  | succ nq ih => exact tfX4_restore_26 hX _ ih
def fX4_restore  (a1 : Int32) (M : xm_M) : Option (Int32 × xm_M) :=
  xm_bi (fX4_in a1 (0 : Int32) (1 : Int32) M) (fun x2 M1 => if x2 = 0 then some ((-2 : Int32), M1) else if a1 < 0 ∨ 2 ≤ a1.toNatClampNeg then none else if (M1.1 3 a1.toNatClampNeg) = 0 then some ((-5 : Int32), M1) else xm_lt ((0 : Int32)) (fun x3 => fX4_restore_26_it xm_N a1 x3 M1))
set_option maxRecDepth 20000 in
theorem kX4_restore {l : Launch}   (a1 : Int32) (M : xm_M) : xm_C l yX4_restore wX4_restore ({ frames := 1, cells := 0, slots := 0, locals := 22 }) mL (fun g => [.ref (g.1 0), .int a1]) M xm_Fi (fX4_restore  a1 M) := by
  refine xm_C.of (by decide) rfl (fun g => Nat.le_of_ble_eq_true rfl) ?_
  intro p e s m args below meth c D g A hX
  refine xm_lv (lv' := [(0, .ref (g.1 0)), (1, .int a1)]) rfl ?_
  unfold fX4_restore
  refine xm_iload_n hX 1 dX4_restore_0 rfl rfl ?_
  refine xm_iconst hX (v := 0) rfl dX4_restore_1 ?_
  refine xm_iconst hX (v := 1) rfl dX4_restore_2 ?_
  refine xm_calli hX (xm_runS hX (As := (fun g => [.int a1, .int (0 : Int32), .int (1 : Int32)])) (kX4_in a1 (0 : Int32) (1 : Int32) M) (xm_gS gm_495 gm_496 gm_5 gm_497) rfl ⟨rfl, rfl⟩ hdX4_in ⟨Nat.le_of_ble_eq_true rfl, Nat.le_of_ble_eq_true rfl⟩ rfl (Nat.le_of_ble_eq_true rfl) rfl dX4_restore_3) (fun x2 M1 => ?_)
  refine xm_if_ne hX (tgt := 12) dX4_restore_6 rfl ?_ ?_
  · refine xm_aload_n hX 0 dX4_restore_12 rfl rfl ?_
    refine xm_get hX (k := 0) (ci := 4) (j := 2) (C := RX4) (T := TX4) (N := 27) (v := .ref (g.1 3)) mL_0 rfl rfl rfl (by decide) (fun z hz => List.mem_cons_of_mem _ (iw_X4 z hz)) (List.mem_cons_of_mem _ gm_435) dX4_restore_13 ?_
    refine xm_iload_n hX 1 dX4_restore_16 rfl rfl ?_
    refine xm_zald hX (n := 2) mL_3 dX4_restore_17 ?_
    refine xm_if_ne hX (tgt := 24) dX4_restore_18 rfl ?_ ?_
    · refine xm_iconst hX (v := 0) rfl dX4_restore_24 ?_
      refine xm_nmi (fun x3 => ?_)
      refine xm_istore_n hX (lv' := [(2, .int x3), (0, .ref (g.1 0)), (1, .int a1)]) dX4_restore_25 rfl (by decide) rfl ?_
      refine xm_weak [1, 2, 0] (lv' := [(0, .ref (g.1 0)), (1, .int a1), (2, .int x3)]) rfl ?_
      exact tfX4_restore_26_it hX xm_N a1 x3 M1
    · refine xm_bipush hX (v := -5) rfl dX4_restore_21 ?_
      exact xm_iret hX dX4_restore_23
  · refine xm_bipush hX (v := -2) rfl dX4_restore_9 ?_
    exact xm_iret hX dX4_restore_11
-- ===== OdometryDeskModel.save(I)I ['0']
theorem dX4_save_0 : decode cX4_save 0 = .ok (.iload_n 1, 1) := by decide +kernel
theorem dX4_save_1 : decode cX4_save 1 = .ok (.iconst 0, 1) := by decide +kernel
theorem dX4_save_2 : decode cX4_save 2 = .ok (.iconst 1, 1) := by decide +kernel
theorem dX4_save_3 : decode cX4_save 3 = .ok (.invokestatic 67, 3) := by decide +kernel
theorem dX4_save_6 : decode cX4_save 6 = .ok (.ifCond .ne 6, 3) := by decide +kernel
theorem dX4_save_9 : decode cX4_save 9 = .ok (.bipush (-2), 2) := by decide +kernel
theorem dX4_save_11 : decode cX4_save 11 = .ok (.ireturn, 1) := by decide +kernel
theorem dX4_save_12 : decode cX4_save 12 = .ok (.iconst 0, 1) := by decide +kernel
theorem dX4_save_13 : decode cX4_save 13 = .ok (.istore_n 2, 1) := by decide +kernel
theorem dX4_save_14 : decode cX4_save 14 = .ok (.iload_n 2, 1) := by decide +kernel
theorem dX4_save_15 : decode cX4_save 15 = .ok (.sipush 547, 3) := by decide +kernel
theorem dX4_save_18 : decode cX4_save 18 = .ok (.if_icmp .ge 27, 3) := by decide +kernel
theorem dX4_save_21 : decode cX4_save 21 = .ok (.aload_n 0, 1) := by decide +kernel
theorem dX4_save_22 : decode cX4_save 22 = .ok (.getfield 13, 3) := by decide +kernel
theorem dX4_save_25 : decode cX4_save 25 = .ok (.sipush 547, 3) := by decide +kernel
theorem dX4_save_28 : decode cX4_save 28 = .ok (.iload_n 1, 1) := by decide +kernel
theorem dX4_save_29 : decode cX4_save 29 = .ok (.imul, 1) := by decide +kernel
theorem dX4_save_30 : decode cX4_save 30 = .ok (.iload_n 2, 1) := by decide +kernel
theorem dX4_save_31 : decode cX4_save 31 = .ok (.iadd, 1) := by decide +kernel
theorem dX4_save_32 : decode cX4_save 32 = .ok (.aload_n 0, 1) := by decide +kernel
theorem dX4_save_33 : decode cX4_save 33 = .ok (.getfield 7, 3) := by decide +kernel
theorem dX4_save_36 : decode cX4_save 36 = .ok (.iload_n 2, 1) := by decide +kernel
theorem dX4_save_37 : decode cX4_save 37 = .ok (.iaload, 1) := by decide +kernel
theorem dX4_save_38 : decode cX4_save 38 = .ok (.iastore, 1) := by decide +kernel
theorem dX4_save_39 : decode cX4_save 39 = .ok (.iinc 2 1, 3) := by decide +kernel
theorem dX4_save_42 : decode cX4_save 42 = .ok (.goto (-28), 3) := by decide +kernel
theorem dX4_save_45 : decode cX4_save 45 = .ok (.aload_n 0, 1) := by decide +kernel
theorem dX4_save_46 : decode cX4_save 46 = .ok (.getfield 16, 3) := by decide +kernel
theorem dX4_save_49 : decode cX4_save 49 = .ok (.iload_n 1, 1) := by decide +kernel
theorem dX4_save_50 : decode cX4_save 50 = .ok (.iconst 1, 1) := by decide +kernel
theorem dX4_save_51 : decode cX4_save 51 = .ok (.bastore, 1) := by decide +kernel
theorem dX4_save_52 : decode cX4_save 52 = .ok (.aload_n 0, 1) := by decide +kernel
theorem dX4_save_53 : decode cX4_save 53 = .ok (.getfield 7, 3) := by decide +kernel
theorem dX4_save_56 : decode cX4_save 56 = .ok (.bipush 11, 2) := by decide +kernel
theorem dX4_save_58 : decode cX4_save 58 = .ok (.iaload, 1) := by decide +kernel
theorem dX4_save_59 : decode cX4_save 59 = .ok (.ireturn, 1) := by decide +kernel
abbrev wX4_save : List Cond := .code yX4_save cX4_save 3 (some .int) :: lw_gd
theorem hdX4_save : (yX4_save.cls ≠ "java/lang/invoke/MethodHandle" ∧ yX4_save.cls ≠ "java/lang/invoke/VarHandle" ∧ (parseMethodDescriptor yX4_save.desc).map (fun d => d.parameters.length) = some 1) := by decide +kernel
def fX4_save_14  (k14 : Int32 → Int32 → xm_M → Option (Int32 × xm_M)) (b1 : Int32) (b2 : Int32) (M : xm_M) : Option (Int32 × xm_M) :=
  if (547 : Int32) ≤ b2 then if b1 < 0 ∨ 2 ≤ b1.toNatClampNeg then none else xm_lt (xm_s M 3 b1.toNatClampNeg (vp_nar .boolean (1 : Int32))) (fun M4 => some (M4.1 1 11, M4)) else if b2 < 0 ∨ 547 ≤ b2.toNatClampNeg then none else if (((547 : Int32) * b1) + b2) < 0 ∨ 1094 ≤ (((547 : Int32) * b1) + b2).toNatClampNeg then none else xm_lt (xm_s M 2 (((547 : Int32) * b1) + b2).toNatClampNeg (M.1 1 b2.toNatClampNeg)) (fun M5 => xm_lt (b2 + Int32.ofInt 1) (fun x6 => k14 b1 x6 M5))
set_option maxRecDepth 20000 in
theorem tfX4_save_14 {p : Program} {l : Launch} {e : Env} {s : State} {m : MethodId} {args : Array Value} {below : List Frame} {meth : Method} {c : Code} {D : va_G} {g : xm_G} {A : Nat → Prop} (hX : xm_X p m meth c cX4_save 3 s args wX4_save RX4 (some .int) D mL g A)   (k14 : Int32 → Int32 → xm_M → Option (Int32 × xm_M)) (h14 : ∀ (b1 : Int32), ∀ (b2 : Int32), ∀ (M : xm_M), xm_J p l e ({ frames := 1, cells := 0, slots := 0, locals := 22 }) s m args below meth c 3 D mL g A (xm_Fi g) 14 [(0, .ref (g.1 0)), (1, .int b1), (2, .int b2)] [] M (k14 b1 b2 M)) : ∀ (b1 : Int32), ∀ (b2 : Int32), ∀ (M : xm_M), xm_J p l e ({ frames := 1, cells := 0, slots := 0, locals := 22 }) s m args below meth c 3 D mL g A (xm_Fi g) 14 [(0, .ref (g.1 0)), (1, .int b1), (2, .int b2)] [] M (fX4_save_14 k14 b1 b2 M) := by
  intro b1 b2 M
  unfold fX4_save_14
  refine xm_iload_n hX 2 dX4_save_14 rfl rfl ?_
  refine xm_sipush hX (v := 547) rfl dX4_save_15 ?_
  refine xm_icmp_ge hX (tgt := 45) dX4_save_18 rfl ?_ ?_
  · refine xm_aload_n hX 0 dX4_save_45 rfl rfl ?_
    refine xm_get hX (k := 0) (ci := 4) (j := 2) (C := RX4) (T := TX4) (N := 27) (v := .ref (g.1 3)) mL_0 rfl rfl rfl (by decide) (fun z hz => List.mem_cons_of_mem _ (iw_X4 z hz)) (List.mem_cons_of_mem _ gm_435) dX4_save_46 ?_
    refine xm_iload_n hX 1 dX4_save_49 rfl rfl ?_
    refine xm_iconst hX (v := 1) rfl dX4_save_50 ?_
    refine xm_zast hX (n := 2) mL_3 dX4_save_51 (fun M4 => ?_)
    refine xm_aload_n hX 0 dX4_save_52 rfl rfl ?_
    refine xm_get hX (k := 0) (ci := 4) (j := 0) (C := RX4) (T := TX4) (N := 27) (v := .ref (g.1 1)) mL_0 rfl rfl rfl (by decide) (fun z hz => List.mem_cons_of_mem _ (iw_X4 z hz)) (List.mem_cons_of_mem _ gm_433) dX4_save_53 ?_
    refine xm_bipush hX (v := 11) rfl dX4_save_56 ?_
    refine xm_ialdL hX (n := 547) (j := 11) mL_1 (by decide) rfl dX4_save_58 ?_
    exact xm_iret hX dX4_save_59
  · refine xm_aload_n hX 0 dX4_save_21 rfl rfl ?_
    refine xm_get hX (k := 0) (ci := 4) (j := 1) (C := RX4) (T := TX4) (N := 27) (v := .ref (g.1 2)) mL_0 rfl rfl rfl (by decide) (fun z hz => List.mem_cons_of_mem _ (iw_X4 z hz)) (List.mem_cons_of_mem _ gm_434) dX4_save_22 ?_
    refine xm_sipush hX (v := 547) rfl dX4_save_25 ?_
    refine xm_iload_n hX 1 dX4_save_28 rfl rfl ?_
    refine xm_imul hX dX4_save_29 ?_
    refine xm_iload_n hX 2 dX4_save_30 rfl rfl ?_
    refine xm_iadd hX dX4_save_31 ?_
    refine xm_aload_n hX 0 dX4_save_32 rfl rfl ?_
    refine xm_get hX (k := 0) (ci := 4) (j := 0) (C := RX4) (T := TX4) (N := 27) (v := .ref (g.1 1)) mL_0 rfl rfl rfl (by decide) (fun z hz => List.mem_cons_of_mem _ (iw_X4 z hz)) (List.mem_cons_of_mem _ gm_433) dX4_save_33 ?_
    refine xm_iload_n hX 2 dX4_save_36 rfl rfl ?_
    refine xm_iald hX (n := 547) mL_1 dX4_save_37 ?_
    refine xm_iast hX (n := 1094) mL_2 dX4_save_38 (fun M5 => ?_)
    refine xm_iinc hX (lv2 := fun x6 => [(2, .int x6), (0, .ref (g.1 0)), (1, .int b1)]) 2 dX4_save_39 rfl (by decide) (fun _ => rfl) (fun x6 => ?_)
    refine xm_goto hX (tgt := 14) dX4_save_42 rfl ?_
    refine xm_weak [1, 2, 0] (lv' := [(0, .ref (g.1 0)), (1, .int b1), (2, .int x6)]) rfl ?_
    exact h14 b1 x6 M5
def fX4_save_14_it   (nq : Nat) : Int32 → Int32 → xm_M → Option (Int32 × xm_M) := xm_it (fun kq => fX4_save_14 kq) (fun _ _ _ => none) nq
theorem tfX4_save_14_it {p : Program} {l : Launch} {e : Env} {s : State} {m : MethodId} {args : Array Value} {below : List Frame} {meth : Method} {c : Code} {D : va_G} {g : xm_G} {A : Nat → Prop} (hX : xm_X p m meth c cX4_save 3 s args wX4_save RX4 (some .int) D mL g A)     : ∀ (nq : Nat), ∀ (b1 : Int32), ∀ (b2 : Int32), ∀ (M : xm_M), xm_J p l e ({ frames := 1, cells := 0, slots := 0, locals := 22 }) s m args below meth c 3 D mL g A (xm_Fi g) 14 [(0, .ref (g.1 0)), (1, .int b1), (2, .int b2)] [] M (fX4_save_14_it  nq b1 b2 M) := by
  intro nq
  induction nq with
  | zero => exact fun _ _ _ => xm_none
  | succ nq ih => exact tfX4_save_14 hX _ ih
def fX4_save  (a1 : Int32) (M : xm_M) : Option (Int32 × xm_M) :=
  xm_bi (fX4_in a1 (0 : Int32) (1 : Int32) M) (fun x2 M1 => if x2 = 0 then some ((-2 : Int32), M1) else xm_lt ((0 : Int32)) (fun x3 => fX4_save_14_it xm_N a1 x3 M1))
set_option maxRecDepth 20000 in
theorem kX4_save {l : Launch}   (a1 : Int32) (M : xm_M) : xm_C l yX4_save wX4_save ({ frames := 1, cells := 0, slots := 0, locals := 22 }) mL (fun g => [.ref (g.1 0), .int a1]) M xm_Fi (fX4_save  a1 M) := by
  refine xm_C.of (by decide) rfl (fun g => Nat.le_of_ble_eq_true rfl) ?_
  intro p e s m args below meth c D g A hX
  refine xm_lv (lv' := [(0, .ref (g.1 0)), (1, .int a1)]) rfl ?_
  unfold fX4_save
  refine xm_iload_n hX 1 dX4_save_0 rfl rfl ?_
  refine xm_iconst hX (v := 0) rfl dX4_save_1 ?_
  refine xm_iconst hX (v := 1) rfl dX4_save_2 ?_
  refine xm_calli hX (xm_runS hX (As := (fun g => [.int a1, .int (0 : Int32), .int (1 : Int32)])) (kX4_in a1 (0 : Int32) (1 : Int32) M) (xm_gS gm_495 gm_496 gm_5 gm_497) rfl ⟨rfl, rfl⟩ hdX4_in ⟨Nat.le_of_ble_eq_true rfl, Nat.le_of_ble_eq_true rfl⟩ rfl (Nat.le_of_ble_eq_true rfl) rfl dX4_save_3) (fun x2 M1 => ?_)
  refine xm_if_ne hX (tgt := 12) dX4_save_6 rfl ?_ ?_
  · refine xm_iconst hX (v := 0) rfl dX4_save_12 ?_
    refine xm_nmi (fun x3 => ?_)
    refine xm_istore_n hX (lv' := [(2, .int x3), (0, .ref (g.1 0)), (1, .int a1)]) dX4_save_13 rfl (by decide) rfl ?_
    refine xm_weak [1, 2, 0] (lv' := [(0, .ref (g.1 0)), (1, .int a1), (2, .int x3)]) rfl ?_
    exact tfX4_save_14_it hX xm_N a1 x3 M1
  · refine xm_bipush hX (v := -2) rfl dX4_save_9 ?_
    exact xm_iret hX dX4_save_11
-- ===== OdometryDeskModel.set(II)I ['0']
theorem dX4_set_0 : decode cX4_set 0 = .ok (.iload_n 1, 1) := by decide +kernel
theorem dX4_set_1 : decode cX4_set 1 = .ok (.iload_n 2, 1) := by decide +kernel
theorem dX4_set_2 : decode cX4_set 2 = .ok (.invokestatic 73, 3) := by decide +kernel
theorem dX4_set_5 : decode cX4_set 5 = .ok (.ifCond .ne 6, 3) := by decide +kernel
theorem dX4_set_8 : decode cX4_set 8 = .ok (.bipush (-2), 2) := by decide +kernel
theorem dX4_set_10 : decode cX4_set 10 = .ok (.ireturn, 1) := by decide +kernel
theorem dX4_set_11 : decode cX4_set 11 = .ok (.aload_n 0, 1) := by decide +kernel
theorem dX4_set_12 : decode cX4_set 12 = .ok (.iload_n 1, 1) := by decide +kernel
theorem dX4_set_13 : decode cX4_set 13 = .ok (.invokevirtual 77, 3) := by decide +kernel
theorem dX4_set_16 : decode cX4_set 16 = .ok (.istore_n 3, 1) := by decide +kernel
theorem dX4_set_17 : decode cX4_set 17 = .ok (.aload_n 0, 1) := by decide +kernel
theorem dX4_set_18 : decode cX4_set 18 = .ok (.getfield 7, 3) := by decide +kernel
theorem dX4_set_21 : decode cX4_set 21 = .ok (.iconst 0, 1) := by decide +kernel
theorem dX4_set_22 : decode cX4_set 22 = .ok (.iload_n 1, 1) := by decide +kernel
theorem dX4_set_23 : decode cX4_set 23 = .ok (.iadd, 1) := by decide +kernel
theorem dX4_set_24 : decode cX4_set 24 = .ok (.iload_n 2, 1) := by decide +kernel
theorem dX4_set_25 : decode cX4_set 25 = .ok (.iastore, 1) := by decide +kernel
theorem dX4_set_26 : decode cX4_set 26 = .ok (.iload_n 3, 1) := by decide +kernel
theorem dX4_set_27 : decode cX4_set 27 = .ok (.ireturn, 1) := by decide +kernel
abbrev wX4_set : List Cond := .code yX4_set cX4_set 4 (some .int) :: lw_gd
theorem hdX4_set : (yX4_set.cls ≠ "java/lang/invoke/MethodHandle" ∧ yX4_set.cls ≠ "java/lang/invoke/VarHandle" ∧ (parseMethodDescriptor yX4_set.desc).map (fun d => d.parameters.length) = some 2) := by decide +kernel
def fX4_set  (a1 : Int32) (a2 : Int32) (M : xm_M) : Option (Int32 × xm_M) :=
  xm_bi (fX4_takes a1 a2 M) (fun x2 M1 => if x2 = 0 then some ((-2 : Int32), M1) else xm_bi (fX4_setting a1 M1) (fun x4 M3 => if ((0 : Int32) + a1) < 0 ∨ 547 ≤ ((0 : Int32) + a1).toNatClampNeg then none else xm_lt (xm_s M3 1 ((0 : Int32) + a1).toNatClampNeg a2) (fun M5 => some (x4, M5))))
set_option maxRecDepth 20000 in
theorem kX4_set {l : Launch}   (a1 : Int32) (a2 : Int32) (M : xm_M) : xm_C l yX4_set wX4_set ({ frames := 2, cells := 0, slots := 0, locals := 43 }) mL (fun g => [.ref (g.1 0), .int a1, .int a2]) M xm_Fi (fX4_set  a1 a2 M) := by
  refine xm_C.of (by decide) rfl (fun g => Nat.le_of_ble_eq_true rfl) ?_
  intro p e s m args below meth c D g A hX
  refine xm_lv (lv' := [(0, .ref (g.1 0)), (1, .int a1), (2, .int a2)]) rfl ?_
  unfold fX4_set
  refine xm_iload_n hX 1 dX4_set_0 rfl rfl ?_
  refine xm_iload_n hX 2 dX4_set_1 rfl rfl ?_
  refine xm_calli hX (xm_runS hX (As := (fun g => [.int a1, .int a2])) (kX4_takes a1 a2 M) (xm_gS gm_492 gm_493 gm_5 gm_494) rfl ⟨rfl, rfl⟩ hdX4_takes ⟨Nat.le_of_ble_eq_true rfl, Nat.le_of_ble_eq_true rfl⟩ rfl (Nat.le_of_ble_eq_true rfl) rfl dX4_set_2) (fun x2 M1 => ?_)
  refine xm_if_ne hX (tgt := 11) dX4_set_5 rfl ?_ ?_
  · refine xm_aload_n hX 0 dX4_set_11 rfl rfl ?_
    refine xm_iload_n hX 1 dX4_set_12 rfl rfl ?_
    refine xm_calli hX (xm_runV hX (k := 0) (ci := 4) (As := (fun g => [.int a1])) (kX4_setting a1 M1) mL_0 rfl (xm_gV gm_500 gm_501 gm_713 gm_5 gm_502) rfl ⟨rfl, rfl⟩ ⟨rfl, hdX4_setting⟩ ⟨Nat.le_of_ble_eq_true rfl, Nat.le_of_ble_eq_true rfl⟩ rfl (Nat.le_of_ble_eq_true rfl) rfl dX4_set_13) (fun x4 M3 => ?_)
    refine xm_istore_n hX (lv' := [(3, .int x4), (0, .ref (g.1 0)), (1, .int a1), (2, .int a2)]) dX4_set_16 rfl (by decide) rfl ?_
    refine xm_aload_n hX 1 dX4_set_17 rfl rfl ?_
    refine xm_get hX (k := 0) (ci := 4) (j := 0) (C := RX4) (T := TX4) (N := 27) (v := .ref (g.1 1)) mL_0 rfl rfl rfl (by decide) (fun z hz => List.mem_cons_of_mem _ (iw_X4 z hz)) (List.mem_cons_of_mem _ gm_433) dX4_set_18 ?_
    refine xm_iconst hX (v := 0) rfl dX4_set_21 ?_
    refine xm_iload_n hX 2 dX4_set_22 rfl rfl ?_
    refine xm_iadd hX dX4_set_23 ?_
    refine xm_iload_n hX 3 dX4_set_24 rfl rfl ?_
    refine xm_iast hX (n := 547) mL_1 dX4_set_25 (fun M5 => ?_)
    refine xm_iload_n hX 0 dX4_set_26 rfl rfl ?_
    exact xm_iret hX dX4_set_27
  · refine xm_bipush hX (v := -2) rfl dX4_set_8 ?_
    exact xm_iret hX dX4_set_10
-- ===== OdometryDeskModel.wave(II)I ['0']
theorem dX4_wave_0 : decode cX4_wave 0 = .ok (.iload_n 1, 1) := by decide +kernel
theorem dX4_wave_1 : decode cX4_wave 1 = .ok (.iconst 0, 1) := by decide +kernel
theorem dX4_wave_2 : decode cX4_wave 2 = .ok (.ldc 203, 2) := by decide +kernel
theorem dX4_wave_4 : decode cX4_wave 4 = .ok (.invokestatic 67, 3) := by decide +kernel
theorem dX4_wave_7 : decode cX4_wave 7 = .ok (.ifCond .eq 12, 3) := by decide +kernel
theorem dX4_wave_10 : decode cX4_wave 10 = .ok (.iload_n 2, 1) := by decide +kernel
theorem dX4_wave_11 : decode cX4_wave 11 = .ok (.iconst 0, 1) := by decide +kernel
theorem dX4_wave_12 : decode cX4_wave 12 = .ok (.iconst 1, 1) := by decide +kernel
theorem dX4_wave_13 : decode cX4_wave 13 = .ok (.invokestatic 67, 3) := by decide +kernel
theorem dX4_wave_16 : decode cX4_wave 16 = .ok (.ifCond .ne 6, 3) := by decide +kernel
theorem dX4_wave_19 : decode cX4_wave 19 = .ok (.ldc 172, 2) := by decide +kernel
theorem dX4_wave_21 : decode cX4_wave 21 = .ok (.ireturn, 1) := by decide +kernel
theorem dX4_wave_22 : decode cX4_wave 22 = .ok (.iload_n 2, 1) := by decide +kernel
theorem dX4_wave_23 : decode cX4_wave 23 = .ok (.ifCond .ne 10, 3) := by decide +kernel
theorem dX4_wave_26 : decode cX4_wave 26 = .ok (.iload_n 1, 1) := by decide +kernel
theorem dX4_wave_27 : decode cX4_wave 27 = .ok (.invokestatic 100, 3) := by decide +kernel
theorem dX4_wave_30 : decode cX4_wave 30 = .ok (.goto 7, 3) := by decide +kernel
theorem dX4_wave_33 : decode cX4_wave 33 = .ok (.iload_n 1, 1) := by decide +kernel
theorem dX4_wave_34 : decode cX4_wave 34 = .ok (.invokestatic 147, 3) := by decide +kernel
theorem dX4_wave_37 : decode cX4_wave 37 = .ok (.ireturn, 1) := by decide +kernel
abbrev wX4_wave : List Cond := .code yX4_wave cX4_wave 3 (some .int) :: lw_gd
theorem hdX4_wave : (yX4_wave.cls ≠ "java/lang/invoke/MethodHandle" ∧ yX4_wave.cls ≠ "java/lang/invoke/VarHandle" ∧ (parseMethodDescriptor yX4_wave.desc).map (fun d => d.parameters.length) = some 2) := by decide +kernel
def fX4_wave  (a1 : Int32) (a2 : Int32) (M : xm_M) : Option (Int32 × xm_M) :=
  xm_bi (fX4_in a1 (0 : Int32) (35999 : Int32) M) (fun x2 M1 => if x2 = 0 then some ((-1000000002 : Int32), M1) else xm_bi (fX4_in a2 (0 : Int32) (1 : Int32) M1) (fun x4 M3 => if x4 = 0 then some ((-1000000002 : Int32), M3) else if a2 = 0 then xm_bi (fX4_sine a1 M3) (fun x8 M7 => some (x8, M7)) else xm_bi (fX4_cosine a1 M3) (fun x6 M5 => some (x6, M5))))
set_option maxRecDepth 20000 in
theorem kX4_wave {l : Launch}   (a1 : Int32) (a2 : Int32) (M : xm_M) : xm_C l yX4_wave wX4_wave ({ frames := 3, cells := 0, slots := 0, locals := 62 }) mL (fun g => [.ref (g.1 0), .int a1, .int a2]) M xm_Fi (fX4_wave  a1 a2 M) := by
  refine xm_C.of (by decide) rfl (fun g => Nat.le_of_ble_eq_true rfl) ?_
  intro p e s m args below meth c D g A hX
  refine xm_lv (lv' := [(0, .ref (g.1 0)), (1, .int a1), (2, .int a2)]) rfl ?_
  unfold fX4_wave
  refine xm_iload_n hX 1 dX4_wave_0 rfl rfl ?_
  refine xm_iconst hX (v := 0) rfl dX4_wave_1 ?_
  refine xm_ldc hX (v := 35999) (List.mem_cons_of_mem _ gm_634) dX4_wave_2 ?_
  refine xm_calli hX (xm_runS hX (As := (fun g => [.int a1, .int (0 : Int32), .int (35999 : Int32)])) (kX4_in a1 (0 : Int32) (35999 : Int32) M) (xm_gS gm_495 gm_496 gm_5 gm_497) rfl ⟨rfl, rfl⟩ hdX4_in ⟨Nat.le_of_ble_eq_true rfl, Nat.le_of_ble_eq_true rfl⟩ rfl (Nat.le_of_ble_eq_true rfl) rfl dX4_wave_4) (fun x2 M1 => ?_)
  refine xm_if_eq hX (tgt := 19) dX4_wave_7 rfl ?_ ?_
  · refine xm_ldc hX (v := -1000000002) (List.mem_cons_of_mem _ gm_546) dX4_wave_19 ?_
    exact xm_iret hX dX4_wave_21
  · refine xm_iload_n hX 2 dX4_wave_10 rfl rfl ?_
    refine xm_iconst hX (v := 0) rfl dX4_wave_11 ?_
    refine xm_iconst hX (v := 1) rfl dX4_wave_12 ?_
    refine xm_calli hX (xm_runS hX (As := (fun g => [.int a2, .int (0 : Int32), .int (1 : Int32)])) (kX4_in a2 (0 : Int32) (1 : Int32) M1) (xm_gS gm_495 gm_496 gm_5 gm_497) rfl ⟨rfl, rfl⟩ hdX4_in ⟨Nat.le_of_ble_eq_true rfl, Nat.le_of_ble_eq_true rfl⟩ rfl (Nat.le_of_ble_eq_true rfl) rfl dX4_wave_13) (fun x4 M3 => ?_)
    refine xm_if_ne hX (tgt := 22) dX4_wave_16 rfl ?_ ?_
    · refine xm_iload_n hX 2 dX4_wave_22 rfl rfl ?_
      refine xm_if_ne hX (tgt := 33) dX4_wave_23 rfl ?_ ?_
      · refine xm_iload_n hX 1 dX4_wave_33 rfl rfl ?_
        refine xm_calli hX (xm_runS hX (As := (fun g => [.int a1])) (kX4_cosine a1 M3) (xm_gS gm_570 gm_571 gm_5 gm_572) rfl ⟨rfl, rfl⟩ hdX4_cosine ⟨Nat.le_of_ble_eq_true rfl, Nat.le_of_ble_eq_true rfl⟩ rfl (Nat.le_of_ble_eq_true rfl) rfl dX4_wave_34) (fun x6 M5 => ?_)
        exact xm_iret hX dX4_wave_37
      · refine xm_iload_n hX 1 dX4_wave_26 rfl rfl ?_
        refine xm_calli hX (xm_runS hX (As := (fun g => [.int a1])) (kX4_sine a1 M3) (xm_gS gm_574 gm_575 gm_5 gm_576) rfl ⟨rfl, rfl⟩ hdX4_sine ⟨Nat.le_of_ble_eq_true rfl, Nat.le_of_ble_eq_true rfl⟩ rfl (Nat.le_of_ble_eq_true rfl) rfl dX4_wave_27) (fun x8 M7 => ?_)
        refine xm_goto hX (tgt := 37) dX4_wave_30 rfl ?_
        exact xm_iret hX dX4_wave_37
    · refine xm_ldc hX (v := -1000000002) (List.mem_cons_of_mem _ gm_546) dX4_wave_19 ?_
      exact xm_iret hX dX4_wave_21
-- ===== OdometryDeskModel.wipe()I ['0']
theorem dX4_wipe_0 : decode cX4_wipe 0 = .ok (.aload_n 0, 1) := by decide +kernel
theorem dX4_wipe_1 : decode cX4_wipe 1 = .ok (.getfield 200, 3) := by decide +kernel
theorem dX4_wipe_4 : decode cX4_wipe 4 = .ok (.istore_n 1, 1) := by decide +kernel
theorem dX4_wipe_5 : decode cX4_wipe 5 = .ok (.aload_n 0, 1) := by decide +kernel
theorem dX4_wipe_6 : decode cX4_wipe 6 = .ok (.iconst 0, 1) := by decide +kernel
theorem dX4_wipe_7 : decode cX4_wipe 7 = .ok (.putfield 200, 3) := by decide +kernel
theorem dX4_wipe_10 : decode cX4_wipe 10 = .ok (.iload_n 1, 1) := by decide +kernel
theorem dX4_wipe_11 : decode cX4_wipe 11 = .ok (.ireturn, 1) := by decide +kernel
abbrev wX4_wipe : List Cond := .code yX4_wipe cX4_wipe 2 (some .int) :: lw_gd
theorem hdX4_wipe : (yX4_wipe.cls ≠ "java/lang/invoke/MethodHandle" ∧ yX4_wipe.cls ≠ "java/lang/invoke/VarHandle" ∧ (parseMethodDescriptor yX4_wipe.desc).map (fun d => d.parameters.length) = some 0) := by decide +kernel
def fX4_wipe   (M : xm_M) : Option (Int32 × xm_M) :=
  xm_lt (M.1 0 4) (fun x1 => xm_lt (xm_s M 0 4 (0 : Int32)) (fun M2 => some (x1, M2)))
set_option maxRecDepth 20000 in
theorem kX4_wipe {l : Launch}    (M : xm_M) : xm_C l yX4_wipe wX4_wipe ({ frames := 0, cells := 0, slots := 0, locals := 0 }) mL (fun g => [.ref (g.1 0)]) M xm_Fi (fX4_wipe   M) := by
  refine xm_C.of (by decide) rfl (fun g => Nat.le_of_ble_eq_true rfl) ?_
  intro p e s m args below meth c D g A hX
  refine xm_lv (lv' := [(0, .ref (g.1 0))]) rfl ?_
  unfold fX4_wipe
  refine xm_aload_n hX 0 dX4_wipe_0 rfl rfl ?_
  refine xm_get hX (k := 0) (ci := 4) (j := 4) (C := RX4) (T := TX4) (N := 27) (v := .int (M.1 0 4)) mL_0 rfl rfl rfl (by decide) (fun z hz => List.mem_cons_of_mem _ (iw_X4 z hz)) (List.mem_cons_of_mem _ gm_437) dX4_wipe_1 ?_
  refine xm_nmi (fun x1 => ?_)
  refine xm_istore_n hX (lv' := [(1, .int x1), (0, .ref (g.1 0))]) dX4_wipe_4 rfl (by decide) rfl ?_
  refine xm_aload_n hX 1 dX4_wipe_5 rfl rfl ?_
  refine xm_iconst hX (v := 0) rfl dX4_wipe_6 ?_
  refine xm_puti hX (k := 0) (ci := 4) (j := 4) (C := RX4) (T := TX4) (N := 27) (t0 := tyX4) mL_0 rfl rfl (by decide) (fun z hz => List.mem_cons_of_mem _ (iw_X4 z hz)) tyX4_ok nmX4 rfl rfl (List.mem_cons_of_mem _ gm_437) dX4_wipe_7 (fun M2 => ?_)
  refine xm_iload_n hX 0 dX4_wipe_10 rfl rfl ?_
  exact xm_iret hX dX4_wipe_11
