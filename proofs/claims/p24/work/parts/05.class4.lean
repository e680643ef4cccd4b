-- ===== OdometryDesk.addRead()I ['0']
theorem dX3_addRead_0 : decode cX3_addRead 0 = .ok (.aload_n 0, 1) := by decide +kernel
theorem dX3_addRead_1 : decode cX3_addRead 1 = .ok (.getfield 32, 3) := by decide +kernel
theorem dX3_addRead_4 : decode cX3_addRead 4 = .ok (.getfield 209, 3) := by decide +kernel
theorem dX3_addRead_7 : decode cX3_addRead 7 = .ok (.iconst 0, 1) := by decide +kernel
theorem dX3_addRead_8 : decode cX3_addRead 8 = .ok (.invokestatic 55, 3) := by decide +kernel
theorem dX3_addRead_11 : decode cX3_addRead 11 = .ok (.istore_n 1, 1) := by decide +kernel
theorem dX3_addRead_12 : decode cX3_addRead 12 = .ok (.aload_n 0, 1) := by decide +kernel
theorem dX3_addRead_13 : decode cX3_addRead 13 = .ok (.getfield 32, 3) := by decide +kernel
theorem dX3_addRead_16 : decode cX3_addRead 16 = .ok (.getfield 212, 3) := by decide +kernel
theorem dX3_addRead_19 : decode cX3_addRead 19 = .ok (.ifCond .eq 14, 3) := by decide +kernel
theorem dX3_addRead_22 : decode cX3_addRead 22 = .ok (.aload_n 0, 1) := by decide +kernel
theorem dX3_addRead_23 : decode cX3_addRead 23 = .ok (.getfield 10, 3) := by decide +kernel
theorem dX3_addRead_26 : decode cX3_addRead 26 = .ok (.iload_n 1, 1) := by decide +kernel
theorem dX3_addRead_27 : decode cX3_addRead 27 = .ok (.invokevirtual 113, 3) := by decide +kernel
theorem dX3_addRead_30 : decode cX3_addRead 30 = .ok (.goto 33, 3) := by decide +kernel
theorem dX3_addRead_33 : decode cX3_addRead 33 = .ok (.aload_n 0, 1) := by decide +kernel
theorem dX3_addRead_34 : decode cX3_addRead 34 = .ok (.getfield 10, 3) := by decide +kernel
theorem dX3_addRead_37 : decode cX3_addRead 37 = .ok (.iload_n 1, 1) := by decide +kernel
theorem dX3_addRead_38 : decode cX3_addRead 38 = .ok (.aload_n 0, 1) := by decide +kernel
theorem dX3_addRead_39 : decode cX3_addRead 39 = .ok (.getfield 32, 3) := by decide +kernel
theorem dX3_addRead_42 : decode cX3_addRead 42 = .ok (.getfield 209, 3) := by decide +kernel
theorem dX3_addRead_45 : decode cX3_addRead 45 = .ok (.iconst 1, 1) := by decide +kernel
theorem dX3_addRead_46 : decode cX3_addRead 46 = .ok (.invokestatic 55, 3) := by decide +kernel
theorem dX3_addRead_49 : decode cX3_addRead 49 = .ok (.aload_n 0, 1) := by decide +kernel
theorem dX3_addRead_50 : decode cX3_addRead 50 = .ok (.getfield 32, 3) := by decide +kernel
theorem dX3_addRead_53 : decode cX3_addRead 53 = .ok (.getfield 209, 3) := by decide +kernel
theorem dX3_addRead_56 : decode cX3_addRead 56 = .ok (.iconst 2, 1) := by decide +kernel
theorem dX3_addRead_57 : decode cX3_addRead 57 = .ok (.invokestatic 55, 3) := by decide +kernel
theorem dX3_addRead_60 : decode cX3_addRead 60 = .ok (.invokevirtual 109, 3) := by decide +kernel
theorem dX3_addRead_63 : decode cX3_addRead 63 = .ok (.ireturn, 1) := by decide +kernel
abbrev wX3_addRead : List Cond := .code yX3_addRead cX3_addRead 2 (some .int) :: lw_gd
theorem hdX3_addRead : (yX3_addRead.cls ≠ "java/lang/invoke/MethodHandle" ∧ yX3_addRead.cls ≠ "java/lang/invoke/VarHandle" ∧ (parseMethodDescriptor yX3_addRead.desc).map (fun d => d.parameters.length) = some 0) := by decide +kernel
def fX3_addRead   (M : xm_M) : Option (Int32 × xm_M) :=
  xm_bi (fX3_item 71 3 (0 : Int32) M) (fun x2 M1 => if (M1.1 69 3) = 0 then xm_bi (fX3_item 71 3 (1 : Int32) M1) (fun x4 M3 => xm_bi (fX3_item 71 3 (2 : Int32) M3) (fun x6 M5 => xm_bi (fX1_addStep x2 x4 x6 M5) (fun x8 M7 => some (x8, M7)))) else xm_bi (fX1_addSight x2 M1) (fun x10 M9 => some (x10, M9)))
set_option maxRecDepth 20000 in
theorem kX3_addRead {l : Launch} {L : List xm_Sh} (hL : xm_pre L)    (M : xm_M) : xm_C l yX3_addRead wX3_addRead ({ frames := 2, cells := 0, slots := 0, locals := 46 }) L (fun g => [.ref (g.1 0)]) M xm_Fi (fX3_addRead   M) := by
  refine xm_C.of (by decide) rfl (fun g => Nat.le_of_ble_eq_true rfl) ?_
  intro p e s m args below meth c D g A hX
  refine xm_lv (lv' := [(0, .ref (g.1 0))]) rfl ?_
  unfold fX3_addRead
  refine xm_aload_n hX 0 dX3_addRead_0 rfl rfl ?_
  refine xm_get hX (k := 0) (ci := 3) (j := 4) (C := RX3) (T := TX3) (N := 6) (v := .ref (g.1 69)) (hL _ _ cL_0) rfl rfl rfl (by decide) (fun z hz => List.mem_cons_of_mem _ (iw_X3 z hz)) (List.mem_cons_of_mem _ gm_132) dX3_addRead_1 ?_
  refine xm_get hX (k := 69) (ci := 0) (j := 4) (C := RX0) (T := TX0) (N := 5) (v := .ref (g.1 71)) (hL _ _ cL_69) rfl rfl rfl (by decide) (fun z hz => List.mem_cons_of_mem _ (iw_X0 z hz)) (List.mem_cons_of_mem _ gm_119) dX3_addRead_4 ?_
  refine xm_iconst hX (v := 0) rfl dX3_addRead_7 ?_
  refine xm_calli hX (xm_runS hX (As := (fun g => [.ref (g.1 71), .int (0 : Int32)])) (kX3_item hL 71 3 (hL _ _ cL_71) (0 : Int32) M) (xm_gS gm_152 gm_153 gm_1 gm_154) rfl ⟨rfl, rfl⟩ hdX3_item ⟨Nat.le_of_ble_eq_true rfl, Nat.le_of_ble_eq_true rfl⟩ rfl (Nat.le_of_ble_eq_true rfl) rfl ⟨Nat.le_of_ble_eq_true rfl, Nat.le_of_ble_eq_true rfl⟩ dX3_addRead_8) (fun x2 M1 => ?_)
  refine xm_istore_n hX (lv' := [(1, .int x2), (0, .ref (g.1 0))]) dX3_addRead_11 rfl (by decide) rfl ?_
  refine xm_aload_n hX 1 dX3_addRead_12 rfl rfl ?_
  refine xm_get hX (k := 0) (ci := 3) (j := 4) (C := RX3) (T := TX3) (N := 6) (v := .ref (g.1 69)) (hL _ _ cL_0) rfl rfl rfl (by decide) (fun z hz => List.mem_cons_of_mem _ (iw_X3 z hz)) (List.mem_cons_of_mem _ gm_132) dX3_addRead_13 ?_
  refine xm_get hX (k := 69) (ci := 0) (j := 3) (C := RX0) (T := TX0) (N := 5) (v := .int (M1.1 69 3)) (hL _ _ cL_69) rfl rfl rfl (by decide) (fun z hz => List.mem_cons_of_mem _ (iw_X0 z hz)) (List.mem_cons_of_mem _ gm_117) dX3_addRead_16 ?_
  refine xm_if_eq hX (tgt := 33) dX3_addRead_19 rfl ?_ ?_
  · refine xm_aload_n hX 1 dX3_addRead_33 rfl rfl ?_
    refine xm_get hX (k := 0) (ci := 3) (j := 0) (C := RX3) (T := TX3) (N := 6) (v := .ref (g.1 1)) (hL _ _ cL_0) rfl rfl rfl (by decide) (fun z hz => List.mem_cons_of_mem _ (iw_X3 z hz)) (List.mem_cons_of_mem _ gm_128) dX3_addRead_34 ?_
    refine xm_iload_n hX 0 dX3_addRead_37 rfl rfl ?_
    refine xm_aload_n hX 1 dX3_addRead_38 rfl rfl ?_
    refine xm_get hX (k := 0) (ci := 3) (j := 4) (C := RX3) (T := TX3) (N := 6) (v := .ref (g.1 69)) (hL _ _ cL_0) rfl rfl rfl (by decide) (fun z hz => List.mem_cons_of_mem _ (iw_X3 z hz)) (List.mem_cons_of_mem _ gm_132) dX3_addRead_39 ?_
    refine xm_get hX (k := 69) (ci := 0) (j := 4) (C := RX0) (T := TX0) (N := 5) (v := .ref (g.1 71)) (hL _ _ cL_69) rfl rfl rfl (by decide) (fun z hz => List.mem_cons_of_mem _ (iw_X0 z hz)) (List.mem_cons_of_mem _ gm_119) dX3_addRead_42 ?_
    refine xm_iconst hX (v := 1) rfl dX3_addRead_45 ?_
    refine xm_calli hX (xm_runS hX (As := (fun g => [.ref (g.1 71), .int (1 : Int32)])) (kX3_item hL 71 3 (hL _ _ cL_71) (1 : Int32) M1) (xm_gS gm_152 gm_153 gm_1 gm_154) rfl ⟨rfl, rfl⟩ hdX3_item ⟨Nat.le_of_ble_eq_true rfl, Nat.le_of_ble_eq_true rfl⟩ rfl (Nat.le_of_ble_eq_true rfl) rfl ⟨Nat.le_of_ble_eq_true rfl, Nat.le_of_ble_eq_true rfl⟩ dX3_addRead_46) (fun x4 M3 => ?_)
    refine xm_aload_n hX 1 dX3_addRead_49 rfl rfl ?_
    refine xm_get hX (k := 0) (ci := 3) (j := 4) (C := RX3) (T := TX3) (N := 6) (v := .ref (g.1 69)) (hL _ _ cL_0) rfl rfl rfl (by decide) (fun z hz => List.mem_cons_of_mem _ (iw_X3 z hz)) (List.mem_cons_of_mem _ gm_132) dX3_addRead_50 ?_
    refine xm_get hX (k := 69) (ci := 0) (j := 4) (C := RX0) (T := TX0) (N := 5) (v := .ref (g.1 71)) (hL _ _ cL_69) rfl rfl rfl (by decide) (fun z hz => List.mem_cons_of_mem _ (iw_X0 z hz)) (List.mem_cons_of_mem _ gm_119) dX3_addRead_53 ?_
    refine xm_iconst hX (v := 2) rfl dX3_addRead_56 ?_
    refine xm_calli hX (xm_runS hX (As := (fun g => [.ref (g.1 71), .int (2 : Int32)])) (kX3_item hL 71 3 (hL _ _ cL_71) (2 : Int32) M3) (xm_gS gm_152 gm_153 gm_1 gm_154) rfl ⟨rfl, rfl⟩ hdX3_item ⟨Nat.le_of_ble_eq_true rfl, Nat.le_of_ble_eq_true rfl⟩ rfl (Nat.le_of_ble_eq_true rfl) rfl ⟨Nat.le_of_ble_eq_true rfl, Nat.le_of_ble_eq_true rfl⟩ dX3_addRead_57) (fun x6 M5 => ?_)
    refine xm_calli hX (xm_runV hX (k := 1) (ci := 1) (As := (fun g => [.int x2, .int x4, .int x6])) (kX1_addStep hL x2 x4 x6 M5) (hL _ _ cL_1) rfl (xm_gV gm_321 gm_322 gm_323 gm_2 gm_324) rfl ⟨rfl, rfl⟩ ⟨rfl, hdX1_addStep⟩ ⟨Nat.le_of_ble_eq_true rfl, Nat.le_of_ble_eq_true rfl⟩ rfl (Nat.le_of_ble_eq_true rfl) rfl ⟨Nat.le_of_ble_eq_true rfl, Nat.le_of_ble_eq_true rfl⟩ dX3_addRead_60) (fun x8 M7 => ?_)
    exact xm_iret hX dX3_addRead_63
  · refine xm_aload_n hX 1 dX3_addRead_22 rfl rfl ?_
    refine xm_get hX (k := 0) (ci := 3) (j := 0) (C := RX3) (T := TX3) (N := 6) (v := .ref (g.1 1)) (hL _ _ cL_0) rfl rfl rfl (by decide) (fun z hz => List.mem_cons_of_mem _ (iw_X3 z hz)) (List.mem_cons_of_mem _ gm_128) dX3_addRead_23 ?_
    refine xm_iload_n hX 0 dX3_addRead_26 rfl rfl ?_
    refine xm_calli hX (xm_runV hX (k := 1) (ci := 1) (As := (fun g => [.int x2])) (kX1_addSight hL x2 M1) (hL _ _ cL_1) rfl (xm_gV gm_308 gm_309 gm_310 gm_2 gm_311) rfl ⟨rfl, rfl⟩ ⟨rfl, hdX1_addSight⟩ ⟨Nat.le_of_ble_eq_true rfl, Nat.le_of_ble_eq_true rfl⟩ rfl (Nat.le_of_ble_eq_true rfl) rfl ⟨Nat.le_of_ble_eq_true rfl, Nat.le_of_ble_eq_true rfl⟩ dX3_addRead_27) (fun x10 M9 => ?_)
    refine xm_goto hX (tgt := 63) dX3_addRead_30 rfl ?_
    exact xm_iret hX dX3_addRead_63
-- ===== OdometryDesk.load()I ['0']
theorem dX3_load_0 : decode cX3_load 0 = .ok (.aload_n 0, 1) := by decide +kernel
theorem dX3_load_1 : decode cX3_load 1 = .ok (.getfield 32, 3) := by decide +kernel
theorem dX3_load_4 : decode cX3_load 4 = .ok (.invokevirtual 181, 3) := by decide +kernel
theorem dX3_load_7 : decode cX3_load 7 = .ok (.bipush (-6), 2) := by decide +kernel
theorem dX3_load_9 : decode cX3_load 9 = .ok (.if_icmp .eq 6, 3) := by decide +kernel
theorem dX3_load_12 : decode cX3_load 12 = .ok (.bipush (-3), 2) := by decide +kernel
theorem dX3_load_14 : decode cX3_load 14 = .ok (.ireturn, 1) := by decide +kernel
theorem dX3_load_15 : decode cX3_load 15 = .ok (.iconst 0, 1) := by decide +kernel
theorem dX3_load_16 : decode cX3_load 16 = .ok (.istore_n 1, 1) := by decide +kernel
theorem dX3_load_17 : decode cX3_load 17 = .ok (.aload_n 0, 1) := by decide +kernel
theorem dX3_load_18 : decode cX3_load 18 = .ok (.getfield 32, 3) := by decide +kernel
theorem dX3_load_21 : decode cX3_load 21 = .ok (.iconst 0, 1) := by decide +kernel
theorem dX3_load_22 : decode cX3_load 22 = .ok (.putfield 184, 3) := by decide +kernel
theorem dX3_load_25 : decode cX3_load 25 = .ok (.iconst 0, 1) := by decide +kernel
theorem dX3_load_26 : decode cX3_load 26 = .ok (.istore_n 2, 1) := by decide +kernel
theorem dX3_load_27 : decode cX3_load 27 = .ok (.iload_n 2, 1) := by decide +kernel
theorem dX3_load_28 : decode cX3_load 28 = .ok (.bipush 100, 2) := by decide +kernel
theorem dX3_load_30 : decode cX3_load 30 = .ok (.if_icmp .ge 59, 3) := by decide +kernel
theorem dX3_load_33 : decode cX3_load 33 = .ok (.aload_n 0, 1) := by decide +kernel
theorem dX3_load_34 : decode cX3_load 34 = .ok (.getfield 32, 3) := by decide +kernel
theorem dX3_load_37 : decode cX3_load 37 = .ok (.getfield 184, 3) := by decide +kernel
theorem dX3_load_40 : decode cX3_load 40 = .ok (.aload_n 0, 1) := by decide +kernel
theorem dX3_load_41 : decode cX3_load 41 = .ok (.getfield 32, 3) := by decide +kernel
theorem dX3_load_44 : decode cX3_load 44 = .ok (.getfield 145, 3) := by decide +kernel
theorem dX3_load_47 : decode cX3_load 47 = .ok (.if_icmp .ge 42, 3) := by decide +kernel
theorem dX3_load_50 : decode cX3_load 50 = .ok (.aload_n 0, 1) := by decide +kernel
theorem dX3_load_51 : decode cX3_load 51 = .ok (.getfield 32, 3) := by decide +kernel
theorem dX3_load_54 : decode cX3_load 54 = .ok (.invokevirtual 187, 3) := by decide +kernel
theorem dX3_load_57 : decode cX3_load 57 = .ok (.ifCond .eq 32, 3) := by decide +kernel
theorem dX3_load_60 : decode cX3_load 60 = .ok (.aload_n 0, 1) := by decide +kernel
theorem dX3_load_61 : decode cX3_load 61 = .ok (.getfield 32, 3) := by decide +kernel
theorem dX3_load_64 : decode cX3_load 64 = .ok (.bipush 59, 2) := by decide +kernel
theorem dX3_load_66 : decode cX3_load 66 = .ok (.invokevirtual 190, 3) := by decide +kernel
theorem dX3_load_69 : decode cX3_load 69 = .ok (.pop, 1) := by decide +kernel
theorem dX3_load_70 : decode cX3_load 70 = .ok (.aload_n 0, 1) := by decide +kernel
theorem dX3_load_71 : decode cX3_load 71 = .ok (.invokevirtual 194, 3) := by decide +kernel
theorem dX3_load_74 : decode cX3_load 74 = .ok (.ifCond .ge 6, 3) := by decide +kernel
theorem dX3_load_77 : decode cX3_load 77 = .ok (.goto 12, 3) := by decide +kernel
theorem dX3_load_80 : decode cX3_load 80 = .ok (.iinc 1 1, 3) := by decide +kernel
theorem dX3_load_83 : decode cX3_load 83 = .ok (.iinc 2 1, 3) := by decide +kernel
theorem dX3_load_86 : decode cX3_load 86 = .ok (.goto (-59), 3) := by decide +kernel
theorem dX3_load_89 : decode cX3_load 89 = .ok (.aload_n 0, 1) := by decide +kernel
theorem dX3_load_90 : decode cX3_load 90 = .ok (.getfield 32, 3) := by decide +kernel
theorem dX3_load_93 : decode cX3_load 93 = .ok (.iconst 0, 1) := by decide +kernel
theorem dX3_load_94 : decode cX3_load 94 = .ok (.putfield 145, 3) := by decide +kernel
theorem dX3_load_97 : decode cX3_load 97 = .ok (.iload_n 1, 1) := by decide +kernel
theorem dX3_load_98 : decode cX3_load 98 = .ok (.ireturn, 1) := by decide +kernel
abbrev wX3_load : List Cond := .code yX3_load cX3_load 3 (some .int) :: lw_gd
theorem hdX3_load : (yX3_load.cls ≠ "java/lang/invoke/MethodHandle" ∧ yX3_load.cls ≠ "java/lang/invoke/VarHandle" ∧ (parseMethodDescriptor yX3_load.desc).map (fun d => d.parameters.length) = some 0) := by decide +kernel
def fX3_load_89   (b1 : Int32) (M : xm_M) : Option (Int32 × xm_M) :=
  xm_lt (xm_s M 69 1 (0 : Int32)) (fun M6 => some (b1, M6))
set_option maxRecDepth 20000 in
theorem tfX3_load_89 {p : Program} {l : Launch} {e : Env} {s : State} {m : MethodId} {args : Array Value} {below : List Frame} {meth : Method} {c : Code} {D : va_G} {g : xm_G} {A : Nat → Prop}  {L : List xm_Sh} (hL : xm_pre L) (hX : xm_X p m meth c cX3_load 3 s args wX3_load RX3 (some .int) D L g A)    : ∀ (b1 : Int32), ∀ (M : xm_M), xm_J p l e ({ frames := 6, cells := 0, slots := 0, locals := 130 }) s m args below meth c 3 D L g A (xm_Z below args s D L g A (xm_Fi g)) 89 [(0, .ref (g.1 0)), (1, .int b1)] [] M (fX3_load_89 b1 M) := by
  intro b1 M
  unfold fX3_load_89
  refine xm_aload_n hX 0 dX3_load_89 rfl rfl ?_
  refine xm_get hX (k := 0) (ci := 3) (j := 4) (C := RX3) (T := TX3) (N := 6) (v := .ref (g.1 69)) (hL _ _ cL_0) rfl rfl rfl (by decide) (fun z hz => List.mem_cons_of_mem _ (iw_X3 z hz)) (List.mem_cons_of_mem _ gm_132) dX3_load_90 ?_
  refine xm_iconst hX (v := 0) rfl dX3_load_93 ?_
  refine xm_puti hX (k := 69) (ci := 0) (j := 1) (C := RX0) (T := TX0) (N := 5) (t0 := tyX0) (hL _ _ cL_69) rfl rfl (by decide) (fun z hz => List.mem_cons_of_mem _ (iw_X0 z hz)) tyX0_ok nmX0 rfl rfl (List.mem_cons_of_mem _ gm_113) dX3_load_94 (fun M6 => ?_)
  refine xm_iload_n hX 1 dX3_load_97 rfl rfl ?_
  exact xm_iret hX dX3_load_98
def fX3_load_27  (k27 : Int32 → Int32 → xm_M → Option (Int32 × xm_M)) (b1 : Int32) (b2 : Int32) (M : xm_M) : Option (Int32 × xm_M) :=
  if (100 : Int32) ≤ b2 then fX3_load_89 b1 M else if (M.1 69 1) ≤ (M.1 69 2) then fX3_load_89 b1 M else xm_bi (fX0_readEntry M) (fun x8 M7 => if x8 = 0 then fX3_load_89 b1 M7 else xm_bi (fX0_takes (59 : Int32) M7) (fun x10 M9 => xm_bi (fX3_addRead M9) (fun x12 M11 => if 0 ≤ x12 then xm_lt (b1 + Int32.ofInt 1) (fun x13 => xm_lt (b2 + Int32.ofInt 1) (fun x14 => k27 x13 x14 M11)) else fX3_load_89 b1 M11)))
set_option maxRecDepth 20000 in
theorem tfX3_load_27 {p : Program} {l : Launch} {e : Env} {s : State} {m : MethodId} {args : Array Value} {below : List Frame} {meth : Method} {c : Code} {D : va_G} {g : xm_G} {A : Nat → Prop}  {L : List xm_Sh} (hL : xm_pre L) (hX : xm_X p m meth c cX3_load 3 s args wX3_load RX3 (some .int) D L g A)  (k27 : Int32 → Int32 → xm_M → Option (Int32 × xm_M)) (h27 : ∀ (b1 : Int32), ∀ (b2 : Int32), ∀ (M : xm_M), xm_J p l e ({ frames := 6, cells := 0, slots := 0, locals := 130 }) s m args below meth c 3 D L g A (xm_Z below args s D L g A (xm_Fi g)) 27 [(0, .ref (g.1 0)), (1, .int b1), (2, .int b2)] [] M (k27 b1 b2 M)) : ∀ (b1 : Int32), ∀ (b2 : Int32), ∀ (M : xm_M), xm_J p l e ({ frames := 6, cells := 0, slots := 0, locals := 130 }) s m args below meth c 3 D L g A (xm_Z below args s D L g A (xm_Fi g)) 27 [(0, .ref (g.1 0)), (1, .int b1), (2, .int b2)] [] M (fX3_load_27 k27 b1 b2 M) := by
  intro b1 b2 M
  unfold fX3_load_27
  refine xm_iload_n hX 2 dX3_load_27 rfl rfl ?_
  refine xm_bipush hX (v := 100) rfl dX3_load_28 ?_
  refine xm_icmp_ge hX (tgt := 89) dX3_load_30 rfl ?_ ?_
  · refine xm_weak [0, 1] (lv' := [(0, .ref (g.1 0)), (1, .int b1)]) rfl ?_
    exact tfX3_load_89 hL hX b1 M
  · refine xm_aload_n hX 0 dX3_load_33 rfl rfl ?_
    refine xm_get hX (k := 0) (ci := 3) (j := 4) (C := RX3) (T := TX3) (N := 6) (v := .ref (g.1 69)) (hL _ _ cL_0) rfl rfl rfl (by decide) (fun z hz => List.mem_cons_of_mem _ (iw_X3 z hz)) (List.mem_cons_of_mem _ gm_132) dX3_load_34 ?_
    refine xm_get hX (k := 69) (ci := 0) (j := 2) (C := RX0) (T := TX0) (N := 5) (v := .int (M.1 69 2)) (hL _ _ cL_69) rfl rfl rfl (by decide) (fun z hz => List.mem_cons_of_mem _ (iw_X0 z hz)) (List.mem_cons_of_mem _ gm_115) dX3_load_37 ?_
    refine xm_aload_n hX 0 dX3_load_40 rfl rfl ?_
    refine xm_get hX (k := 0) (ci := 3) (j := 4) (C := RX3) (T := TX3) (N := 6) (v := .ref (g.1 69)) (hL _ _ cL_0) rfl rfl rfl (by decide) (fun z hz => List.mem_cons_of_mem _ (iw_X3 z hz)) (List.mem_cons_of_mem _ gm_132) dX3_load_41 ?_
    refine xm_get hX (k := 69) (ci := 0) (j := 1) (C := RX0) (T := TX0) (N := 5) (v := .int (M.1 69 1)) (hL _ _ cL_69) rfl rfl rfl (by decide) (fun z hz => List.mem_cons_of_mem _ (iw_X0 z hz)) (List.mem_cons_of_mem _ gm_113) dX3_load_44 ?_
    refine xm_icmp_ge hX (tgt := 89) dX3_load_47 rfl ?_ ?_
    · refine xm_weak [0, 1] (lv' := [(0, .ref (g.1 0)), (1, .int b1)]) rfl ?_
      exact tfX3_load_89 hL hX b1 M
    · refine xm_aload_n hX 0 dX3_load_50 rfl rfl ?_
      refine xm_get hX (k := 0) (ci := 3) (j := 4) (C := RX3) (T := TX3) (N := 6) (v := .ref (g.1 69)) (hL _ _ cL_0) rfl rfl rfl (by decide) (fun z hz => List.mem_cons_of_mem _ (iw_X3 z hz)) (List.mem_cons_of_mem _ gm_132) dX3_load_51 ?_
      refine xm_calli hX (xm_runV hX (k := 69) (ci := 0) (As := (fun g => [])) (kX0_readEntry hL M) (hL _ _ cL_69) rfl (xm_gV gm_472 gm_451 gm_452 gm_4 gm_453) rfl ⟨rfl, rfl⟩ ⟨rfl, hdX0_readEntry⟩ ⟨Nat.le_of_ble_eq_true rfl, Nat.le_of_ble_eq_true rfl⟩ rfl (Nat.le_of_ble_eq_true rfl) rfl ⟨Nat.le_of_ble_eq_true rfl, Nat.le_of_ble_eq_true rfl⟩ dX3_load_54) (fun x8 M7 => ?_)
      refine xm_if_eq hX (tgt := 89) dX3_load_57 rfl ?_ ?_
      · refine xm_weak [0, 1] (lv' := [(0, .ref (g.1 0)), (1, .int b1)]) rfl ?_
        exact tfX3_load_89 hL hX b1 M7
      · refine xm_aload_n hX 0 dX3_load_60 rfl rfl ?_
        refine xm_get hX (k := 0) (ci := 3) (j := 4) (C := RX3) (T := TX3) (N := 6) (v := .ref (g.1 69)) (hL _ _ cL_0) rfl rfl rfl (by decide) (fun z hz => List.mem_cons_of_mem _ (iw_X3 z hz)) (List.mem_cons_of_mem _ gm_132) dX3_load_61 ?_
        refine xm_bipush hX (v := 59) rfl dX3_load_64 ?_
        refine xm_calli hX (xm_runV hX (k := 69) (ci := 0) (As := (fun g => [.int (59 : Int32)])) (kX0_takes hL (59 : Int32) M7) (hL _ _ cL_69) rfl (xm_gV gm_473 gm_455 gm_456 gm_4 gm_457) rfl ⟨rfl, rfl⟩ ⟨rfl, hdX0_takes⟩ ⟨Nat.le_of_ble_eq_true rfl, Nat.le_of_ble_eq_true rfl⟩ rfl (Nat.le_of_ble_eq_true rfl) rfl ⟨Nat.le_of_ble_eq_true rfl, Nat.le_of_ble_eq_true rfl⟩ dX3_load_66) (fun x10 M9 => ?_)
        refine xm_pop hX rfl dX3_load_69 ?_
        refine xm_aload_n hX 0 dX3_load_70 rfl rfl ?_
        refine xm_calli hX (xm_runV hX (k := 0) (ci := 3) (As := (fun g => [])) (kX3_addRead hL M9) (hL _ _ cL_0) rfl (xm_gV gm_474 gm_475 gm_515 gm_1 gm_476) rfl ⟨rfl, rfl⟩ ⟨rfl, hdX3_addRead⟩ ⟨Nat.le_of_ble_eq_true rfl, Nat.le_of_ble_eq_true rfl⟩ rfl (Nat.le_of_ble_eq_true rfl) rfl ⟨Nat.le_of_ble_eq_true rfl, Nat.le_of_ble_eq_true rfl⟩ dX3_load_71) (fun x12 M11 => ?_)
        refine xm_if_ge hX (tgt := 80) dX3_load_74 rfl ?_ ?_
        · refine xm_iinc hX (lv2 := fun x13 => [(1, .int x13), (0, .ref (g.1 0)), (2, .int b2)]) 1 dX3_load_80 rfl (by decide) (fun _ => rfl) (fun x13 => ?_)
          refine xm_iinc hX (lv2 := fun x14 => [(2, .int x14), (1, .int x13), (0, .ref (g.1 0))]) 2 dX3_load_83 rfl (by decide) (fun _ => rfl) (fun x14 => ?_)
          refine xm_goto hX (tgt := 27) dX3_load_86 rfl ?_
          refine xm_weak [2, 1, 0] (lv' := [(0, .ref (g.1 0)), (1, .int x13), (2, .int x14)]) rfl ?_
          exact h27 x13 x14 M11
        · refine xm_goto hX (tgt := 89) dX3_load_77 rfl ?_
          refine xm_weak [0, 1] (lv' := [(0, .ref (g.1 0)), (1, .int b1)]) rfl ?_
          exact tfX3_load_89 hL hX b1 M11
def fX3_load_27_it   (nq : Nat) : Int32 → Int32 → xm_M → Option (Int32 × xm_M) := xm_it (fun kq => fX3_load_27 kq) (fun _ _ _ => none) nq
theorem tfX3_load_27_it {p : Program} {l : Launch} {e : Env} {s : State} {m : MethodId} {args : Array Value} {below : List Frame} {meth : Method} {c : Code} {D : va_G} {g : xm_G} {A : Nat → Prop}  {L : List xm_Sh} (hL : xm_pre L) (hX : xm_X p m meth c cX3_load 3 s args wX3_load RX3 (some .int) D L g A)    : ∀ (nq : Nat), ∀ (b1 : Int32), ∀ (b2 : Int32), ∀ (M : xm_M), xm_J p l e ({ frames := 6, cells := 0, slots := 0, locals := 130 }) s m args below meth c 3 D L g A (xm_Z below args s D L g A (xm_Fi g)) 27 [(0, .ref (g.1 0)), (1, .int b1), (2, .int b2)] [] M (fX3_load_27_it  nq b1 b2 M) := by
  intro nq
  induction nq with
  | zero => exact fun _ _ _ => xm_none
  | succ nq ih => exact tfX3_load_27 hL hX _ ih
def fX3_load   (M : xm_M) : Option (Int32 × xm_M) :=
  xm_bi (fX0_findFault M) (fun x2 M1 => if x2 = (-6 : Int32) then xm_lt ((0 : Int32)) (fun x3 => xm_lt (xm_s M1 69 2 (0 : Int32)) (fun M4 => xm_lt ((0 : Int32)) (fun x5 => fX3_load_27_it xm_N x3 x5 M4))) else some ((-3 : Int32), M1))
set_option maxRecDepth 20000 in
theorem kX3_load {l : Launch} {L : List xm_Sh} (hL : xm_pre L)    (M : xm_M) : xm_C l yX3_load wX3_load ({ frames := 6, cells := 0, slots := 0, locals := 130 }) L (fun g => [.ref (g.1 0)]) M xm_Fi (fX3_load   M) := by
  refine xm_C.of (by decide) rfl (fun g => Nat.le_of_ble_eq_true rfl) ?_
  intro p e s m args below meth c D g A hX
  refine xm_lv (lv' := [(0, .ref (g.1 0))]) rfl ?_
  unfold fX3_load
  refine xm_aload_n hX 0 dX3_load_0 rfl rfl ?_
  refine xm_get hX (k := 0) (ci := 3) (j := 4) (C := RX3) (T := TX3) (N := 6) (v := .ref (g.1 69)) (hL _ _ cL_0) rfl rfl rfl (by decide) (fun z hz => List.mem_cons_of_mem _ (iw_X3 z hz)) (List.mem_cons_of_mem _ gm_132) dX3_load_1 ?_
  refine xm_calli hX (xm_runV hX (k := 69) (ci := 0) (As := (fun g => [])) (kX0_findFault hL M) (hL _ _ cL_69) rfl (xm_gV gm_446 gm_447 gm_448 gm_4 gm_449) rfl ⟨rfl, rfl⟩ ⟨rfl, hdX0_findFault⟩ ⟨Nat.le_of_ble_eq_true rfl, Nat.le_of_ble_eq_true rfl⟩ rfl (Nat.le_of_ble_eq_true rfl) rfl ⟨Nat.le_of_ble_eq_true rfl, Nat.le_of_ble_eq_true rfl⟩ dX3_load_4) (fun x2 M1 => ?_)
  refine xm_bipush hX (v := -6) rfl dX3_load_7 ?_
  refine xm_icmp_eq hX (tgt := 15) dX3_load_9 rfl ?_ ?_
  · refine xm_iconst hX (v := 0) rfl dX3_load_15 ?_
    refine xm_nmi (fun x3 => ?_)
    refine xm_istore_n hX (lv' := [(1, .int x3), (0, .ref (g.1 0))]) dX3_load_16 rfl (by decide) rfl ?_
    refine xm_aload_n hX 1 dX3_load_17 rfl rfl ?_
    refine xm_get hX (k := 0) (ci := 3) (j := 4) (C := RX3) (T := TX3) (N := 6) (v := .ref (g.1 69)) (hL _ _ cL_0) rfl rfl rfl (by decide) (fun z hz => List.mem_cons_of_mem _ (iw_X3 z hz)) (List.mem_cons_of_mem _ gm_132) dX3_load_18 ?_
    refine xm_iconst hX (v := 0) rfl dX3_load_21 ?_
    refine xm_puti hX (k := 69) (ci := 0) (j := 2) (C := RX0) (T := TX0) (N := 5) (t0 := tyX0) (hL _ _ cL_69) rfl rfl (by decide) (fun z hz => List.mem_cons_of_mem _ (iw_X0 z hz)) tyX0_ok nmX0 rfl rfl (List.mem_cons_of_mem _ gm_115) dX3_load_22 (fun M4 => ?_)
    refine xm_iconst hX (v := 0) rfl dX3_load_25 ?_
    refine xm_nmi (fun x5 => ?_)
    refine xm_istore_n hX (lv' := [(2, .int x5), (1, .int x3), (0, .ref (g.1 0))]) dX3_load_26 rfl (by decide) rfl ?_
    refine xm_weak [2, 1, 0] (lv' := [(0, .ref (g.1 0)), (1, .int x3), (2, .int x5)]) rfl ?_
    exact tfX3_load_27_it hL hX xm_N x3 x5 M4
  · refine xm_bipush hX (v := -3) rfl dX3_load_12 ?_
    exact xm_iret hX dX3_load_14
-- ===== OdometryDesk.marker(II)I ['0']
theorem dX3_marker_0 : decode cX3_marker 0 = .ok (.iload_n 1, 1) := by decide +kernel
theorem dX3_marker_1 : decode cX3_marker 1 = .ok (.iload_n 2, 1) := by decide +kernel
theorem dX3_marker_2 : decode cX3_marker 2 = .ok (.invokestatic 63, 3) := by decide +kernel
theorem dX3_marker_5 : decode cX3_marker 5 = .ok (.ifCond .ne 6, 3) := by decide +kernel
theorem dX3_marker_8 : decode cX3_marker 8 = .ok (.bipush (-2), 2) := by decide +kernel
theorem dX3_marker_10 : decode cX3_marker 10 = .ok (.ireturn, 1) := by decide +kernel
theorem dX3_marker_11 : decode cX3_marker 11 = .ok (.aload_n 0, 1) := by decide +kernel
theorem dX3_marker_12 : decode cX3_marker 12 = .ok (.getfield 10, 3) := by decide +kernel
theorem dX3_marker_15 : decode cX3_marker 15 = .ok (.getfield 90, 3) := by decide +kernel
theorem dX3_marker_18 : decode cX3_marker 18 = .ok (.istore_n 3, 1) := by decide +kernel
theorem dX3_marker_19 : decode cX3_marker 19 = .ok (.iload_n 3, 1) := by decide +kernel
theorem dX3_marker_20 : decode cX3_marker 20 = .ok (.bipush 6, 2) := by decide +kernel
theorem dX3_marker_22 : decode cX3_marker 22 = .ok (.if_icmp .lt 6, 3) := by decide +kernel
theorem dX3_marker_25 : decode cX3_marker 25 = .ok (.bipush (-4), 2) := by decide +kernel
theorem dX3_marker_27 : decode cX3_marker 27 = .ok (.ireturn, 1) := by decide +kernel
theorem dX3_marker_28 : decode cX3_marker 28 = .ok (.aload_n 0, 1) := by decide +kernel
theorem dX3_marker_29 : decode cX3_marker 29 = .ok (.getfield 10, 3) := by decide +kernel
theorem dX3_marker_32 : decode cX3_marker 32 = .ok (.getfield 93, 3) := by decide +kernel
theorem dX3_marker_35 : decode cX3_marker 35 = .ok (.iconst 0, 1) := by decide +kernel
theorem dX3_marker_36 : decode cX3_marker 36 = .ok (.iload_n 3, 1) := by decide +kernel
theorem dX3_marker_37 : decode cX3_marker 37 = .ok (.iload_n 1, 1) := by decide +kernel
theorem dX3_marker_38 : decode cX3_marker 38 = .ok (.invokestatic 84, 3) := by decide +kernel
theorem dX3_marker_41 : decode cX3_marker 41 = .ok (.aload_n 0, 1) := by decide +kernel
theorem dX3_marker_42 : decode cX3_marker 42 = .ok (.getfield 10, 3) := by decide +kernel
theorem dX3_marker_45 : decode cX3_marker 45 = .ok (.getfield 93, 3) := by decide +kernel
theorem dX3_marker_48 : decode cX3_marker 48 = .ok (.iconst 1, 1) := by decide +kernel
theorem dX3_marker_49 : decode cX3_marker 49 = .ok (.iload_n 3, 1) := by decide +kernel
theorem dX3_marker_50 : decode cX3_marker 50 = .ok (.iload_n 2, 1) := by decide +kernel
theorem dX3_marker_51 : decode cX3_marker 51 = .ok (.invokestatic 84, 3) := by decide +kernel
theorem dX3_marker_54 : decode cX3_marker 54 = .ok (.aload_n 0, 1) := by decide +kernel
theorem dX3_marker_55 : decode cX3_marker 55 = .ok (.getfield 10, 3) := by decide +kernel
theorem dX3_marker_58 : decode cX3_marker 58 = .ok (.iload_n 3, 1) := by decide +kernel
theorem dX3_marker_59 : decode cX3_marker 59 = .ok (.iconst 1, 1) := by decide +kernel
theorem dX3_marker_60 : decode cX3_marker 60 = .ok (.iadd, 1) := by decide +kernel
theorem dX3_marker_61 : decode cX3_marker 61 = .ok (.putfield 90, 3) := by decide +kernel
theorem dX3_marker_64 : decode cX3_marker 64 = .ok (.iload_n 3, 1) := by decide +kernel
theorem dX3_marker_65 : decode cX3_marker 65 = .ok (.ireturn, 1) := by decide +kernel
abbrev wX3_marker : List Cond := .code yX3_marker cX3_marker 4 (some .int) :: lw_gd
theorem hdX3_marker : (yX3_marker.cls ≠ "java/lang/invoke/MethodHandle" ∧ yX3_marker.cls ≠ "java/lang/invoke/VarHandle" ∧ (parseMethodDescriptor yX3_marker.desc).map (fun d => d.parameters.length) = some 2) := by decide +kernel
def fX3_marker  (a1 : Int32) (a2 : Int32) (M : xm_M) : Option (Int32 × xm_M) :=
  xm_bi (fX3_isPlace a1 a2 M) (fun x2 M1 => if x2 = 0 then some ((-2 : Int32), M1) else xm_lt (M1.1 1 5) (fun x3 => if x3 < (6 : Int32) then xm_bv (fX3_keep_ 9 2 10 6 (0 : Int32) x3 a1 M1) (fun M4 => xm_bv (fX3_keep_ 9 2 10 6 (1 : Int32) x3 a2 M4) (fun M5 => xm_lt (xm_s M5 1 5 (x3 + (1 : Int32))) (fun M6 => some (x3, M6)))) else some ((-4 : Int32), M1)))
set_option maxRecDepth 20000 in
theorem kX3_marker {l : Launch} {L : List xm_Sh} (hL : xm_pre L)   (a1 : Int32) (a2 : Int32) (M : xm_M) : xm_C l yX3_marker wX3_marker ({ frames := 2, cells := 0, slots := 0, locals := 43 }) L (fun g => [.ref (g.1 0), .int a1, .int a2]) M xm_Fi (fX3_marker  a1 a2 M) := by
  refine xm_C.of (by decide) rfl (fun g => Nat.le_of_ble_eq_true rfl) ?_
  intro p e s m args below meth c D g A hX
  refine xm_lv (lv' := [(0, .ref (g.1 0)), (1, .int a1), (2, .int a2)]) rfl ?_
  unfold fX3_marker
  refine xm_iload_n hX 1 dX3_marker_0 rfl rfl ?_
  refine xm_iload_n hX 2 dX3_marker_1 rfl rfl ?_
  refine xm_calli hX (xm_runS hX (As := (fun g => [.int a1, .int a2])) (kX3_isPlace hL a1 a2 M) (xm_gS gm_162 gm_163 gm_1 gm_164) rfl ⟨rfl, rfl⟩ hdX3_isPlace ⟨Nat.le_of_ble_eq_true rfl, Nat.le_of_ble_eq_true rfl⟩ rfl (Nat.le_of_ble_eq_true rfl) rfl ⟨Nat.le_of_ble_eq_true rfl, Nat.le_of_ble_eq_true rfl⟩ dX3_marker_2) (fun x2 M1 => ?_)
  refine xm_if_ne hX (tgt := 11) dX3_marker_5 rfl ?_ ?_
  · refine xm_aload_n hX 0 dX3_marker_11 rfl rfl ?_
    refine xm_get hX (k := 0) (ci := 3) (j := 0) (C := RX3) (T := TX3) (N := 6) (v := .ref (g.1 1)) (hL _ _ cL_0) rfl rfl rfl (by decide) (fun z hz => List.mem_cons_of_mem _ (iw_X3 z hz)) (List.mem_cons_of_mem _ gm_128) dX3_marker_12 ?_
    refine xm_get hX (k := 1) (ci := 1) (j := 5) (C := RX1) (T := TX1) (N := 11) (v := .int (M1.1 1 5)) (hL _ _ cL_1) rfl rfl rfl (by decide) (fun z hz => List.mem_cons_of_mem _ (iw_X1 z hz)) (List.mem_cons_of_mem _ gm_42) dX3_marker_15 ?_
    refine xm_nmi (fun x3 => ?_)
    refine xm_istore_n hX (lv' := [(3, .int x3), (0, .ref (g.1 0)), (1, .int a1), (2, .int a2)]) dX3_marker_18 rfl (by decide) rfl ?_
    refine xm_iload_n hX 0 dX3_marker_19 rfl rfl ?_
    refine xm_bipush hX (v := 6) rfl dX3_marker_20 ?_
    refine xm_icmp_lt hX (tgt := 28) dX3_marker_22 rfl ?_ ?_
    · refine xm_aload_n hX 1 dX3_marker_28 rfl rfl ?_
      refine xm_get hX (k := 0) (ci := 3) (j := 0) (C := RX3) (T := TX3) (N := 6) (v := .ref (g.1 1)) (hL _ _ cL_0) rfl rfl rfl (by decide) (fun z hz => List.mem_cons_of_mem _ (iw_X3 z hz)) (List.mem_cons_of_mem _ gm_128) dX3_marker_29 ?_
      refine xm_get hX (k := 1) (ci := 1) (j := 2) (C := RX1) (T := TX1) (N := 11) (v := .ref (g.1 9)) (hL _ _ cL_1) rfl rfl rfl (by decide) (fun z hz => List.mem_cons_of_mem _ (iw_X1 z hz)) (List.mem_cons_of_mem _ gm_34) dX3_marker_32 ?_
      refine xm_iconst hX (v := 0) rfl dX3_marker_35 ?_
      refine xm_iload_n hX 0 dX3_marker_36 rfl rfl ?_
      refine xm_iload_n hX 2 dX3_marker_37 rfl rfl ?_
      refine xm_callv hX (xm_runS hX (As := (fun g => [.ref (g.1 9), .int (0 : Int32), .int x3, .int a1])) (kX3_keep_ hL 9 2 10 6 (hL _ _ cL_9) (cL_rowsL_9 hL) (0 : Int32) x3 a1 M1) (xm_gS gm_170 gm_171 gm_1 gm_172) rfl ⟨rfl, rfl⟩ hdX3_keep_ ⟨Nat.le_of_ble_eq_true rfl, Nat.le_of_ble_eq_true rfl⟩ rfl (Nat.le_of_ble_eq_true rfl) rfl ⟨Nat.le_of_ble_eq_true rfl, Nat.le_of_ble_eq_true rfl⟩ dX3_marker_38) (fun M4 => ?_)
      refine xm_aload_n hX 1 dX3_marker_41 rfl rfl ?_
      refine xm_get hX (k := 0) (ci := 3) (j := 0) (C := RX3) (T := TX3) (N := 6) (v := .ref (g.1 1)) (hL _ _ cL_0) rfl rfl rfl (by decide) (fun z hz => List.mem_cons_of_mem _ (iw_X3 z hz)) (List.mem_cons_of_mem _ gm_128) dX3_marker_42 ?_
      refine xm_get hX (k := 1) (ci := 1) (j := 2) (C := RX1) (T := TX1) (N := 11) (v := .ref (g.1 9)) (hL _ _ cL_1) rfl rfl rfl (by decide) (fun z hz => List.mem_cons_of_mem _ (iw_X1 z hz)) (List.mem_cons_of_mem _ gm_34) dX3_marker_45 ?_
      refine xm_iconst hX (v := 1) rfl dX3_marker_48 ?_
      refine xm_iload_n hX 0 dX3_marker_49 rfl rfl ?_
      refine xm_iload_n hX 3 dX3_marker_50 rfl rfl ?_
      refine xm_callv hX (xm_runS hX (As := (fun g => [.ref (g.1 9), .int (1 : Int32), .int x3, .int a2])) (kX3_keep_ hL 9 2 10 6 (hL _ _ cL_9) (cL_rowsL_9 hL) (1 : Int32) x3 a2 M4) (xm_gS gm_170 gm_171 gm_1 gm_172) rfl ⟨rfl, rfl⟩ hdX3_keep_ ⟨Nat.le_of_ble_eq_true rfl, Nat.le_of_ble_eq_true rfl⟩ rfl (Nat.le_of_ble_eq_true rfl) rfl ⟨Nat.le_of_ble_eq_true rfl, Nat.le_of_ble_eq_true rfl⟩ dX3_marker_51) (fun M5 => ?_)
      refine xm_aload_n hX 1 dX3_marker_54 rfl rfl ?_
      refine xm_get hX (k := 0) (ci := 3) (j := 0) (C := RX3) (T := TX3) (N := 6) (v := .ref (g.1 1)) (hL _ _ cL_0) rfl rfl rfl (by decide) (fun z hz => List.mem_cons_of_mem _ (iw_X3 z hz)) (List.mem_cons_of_mem _ gm_128) dX3_marker_55 ?_
      refine xm_iload_n hX 0 dX3_marker_58 rfl rfl ?_
      refine xm_iconst hX (v := 1) rfl dX3_marker_59 ?_
      refine xm_iadd hX dX3_marker_60 ?_
      refine xm_puti hX (k := 1) (ci := 1) (j := 5) (C := RX1) (T := TX1) (N := 11) (t0 := tyX1) (hL _ _ cL_1) rfl rfl (by decide) (fun z hz => List.mem_cons_of_mem _ (iw_X1 z hz)) tyX1_ok nmX1 rfl rfl (List.mem_cons_of_mem _ gm_42) dX3_marker_61 (fun M6 => ?_)
      refine xm_iload_n hX 0 dX3_marker_64 rfl rfl ?_
      exact xm_iret hX dX3_marker_65
    · refine xm_bipush hX (v := -4) rfl dX3_marker_25 ?_
      exact xm_iret hX dX3_marker_27
  · refine xm_bipush hX (v := -2) rfl dX3_marker_8 ?_
    exact xm_iret hX dX3_marker_10
-- ===== OdometryDesk$Way.firstSightFrom(II)I ['49']
theorem dX2_firstSightFrom_0 : decode cX2_firstSightFrom 0 = .ok (.iload_n 1, 1) := by decide +kernel
theorem dX2_firstSightFrom_1 : decode cX2_firstSightFrom 1 = .ok (.istore_n 3, 1) := by decide +kernel
theorem dX2_firstSightFrom_2 : decode cX2_firstSightFrom 2 = .ok (.iload_n 3, 1) := by decide +kernel
theorem dX2_firstSightFrom_3 : decode cX2_firstSightFrom 3 = .ok (.iload_n 2, 1) := by decide +kernel
theorem dX2_firstSightFrom_4 : decode cX2_firstSightFrom 4 = .ok (.if_icmp .ge 22, 3) := by decide +kernel
theorem dX2_firstSightFrom_7 : decode cX2_firstSightFrom 7 = .ok (.aload_n 0, 1) := by decide +kernel
theorem dX2_firstSightFrom_8 : decode cX2_firstSightFrom 8 = .ok (.getfield 16, 3) := by decide +kernel
theorem dX2_firstSightFrom_11 : decode cX2_firstSightFrom 11 = .ok (.iconst 0, 1) := by decide +kernel
theorem dX2_firstSightFrom_12 : decode cX2_firstSightFrom 12 = .ok (.iload_n 3, 1) := by decide +kernel
theorem dX2_firstSightFrom_13 : decode cX2_firstSightFrom 13 = .ok (.invokestatic 91, 3) := by decide +kernel
theorem dX2_firstSightFrom_16 : decode cX2_firstSightFrom 16 = .ok (.iconst 4, 1) := by decide +kernel
theorem dX2_firstSightFrom_17 : decode cX2_firstSightFrom 17 = .ok (.if_icmp .eq 9, 3) := by decide +kernel
theorem dX2_firstSightFrom_20 : decode cX2_firstSightFrom 20 = .ok (.iinc 3 1, 3) := by decide +kernel
theorem dX2_firstSightFrom_23 : decode cX2_firstSightFrom 23 = .ok (.goto (-21), 3) := by decide +kernel
theorem dX2_firstSightFrom_26 : decode cX2_firstSightFrom 26 = .ok (.iload_n 3, 1) := by decide +kernel
theorem dX2_firstSightFrom_27 : decode cX2_firstSightFrom 27 = .ok (.ireturn, 1) := by decide +kernel
abbrev wX2_firstSightFrom : List Cond := .code yX2_firstSightFrom cX2_firstSightFrom 4 (some .int) :: lw_gd
theorem hdX2_firstSightFrom : (yX2_firstSightFrom.cls ≠ "java/lang/invoke/MethodHandle" ∧ yX2_firstSightFrom.cls ≠ "java/lang/invoke/VarHandle" ∧ (parseMethodDescriptor yX2_firstSightFrom.desc).map (fun d => d.parameters.length) = some 2) := by decide +kernel
def fX2_firstSightFrom_26   (b3 : Int32) (M : xm_M) : Option (Int32 × xm_M) :=
  some (b3, M)
set_option maxRecDepth 20000 in
theorem tfX2_firstSightFrom_26 {p : Program} {l : Launch} {e : Env} {s : State} {m : MethodId} {args : Array Value} {below : List Frame} {meth : Method} {c : Code} {D : va_G} {g : xm_G} {A : Nat → Prop}  {L : List xm_Sh} (hL : xm_pre L) (hX : xm_X p m meth c cX2_firstSightFrom 4 s args wX2_firstSightFrom RX2 (some .int) D L g A)    : ∀ (b3 : Int32), ∀ (M : xm_M), xm_J p l e ({ frames := 1, cells := 0, slots := 0, locals := 22 }) s m args below meth c 4 D L g A (xm_Z below args s D L g A (xm_Fi g)) 26 [(3, .int b3)] [] M (fX2_firstSightFrom_26 b3 M) := by
  intro b3 M
  unfold fX2_firstSightFrom_26
  refine xm_iload_n hX 0 dX2_firstSightFrom_26 rfl rfl ?_
  exact xm_iret hX dX2_firstSightFrom_27
def fX2_firstSightFrom_2  (k2 : Int32 → Int32 → xm_M → Option (Int32 × xm_M)) (b2 : Int32) (b3 : Int32) (M : xm_M) : Option (Int32 × xm_M) :=
  if b2 ≤ b3 then fX2_firstSightFrom_26 b3 M else xm_bi (fX3_item_ 56 11 57 120 (0 : Int32) b3 M) (fun x2 M1 => if x2 = (4 : Int32) then fX2_firstSightFrom_26 b3 M1 else xm_lt (b3 + Int32.ofInt 1) (fun x3 => k2 b2 x3 M1))
set_option maxRecDepth 20000 in
theorem tfX2_firstSightFrom_2 {p : Program} {l : Launch} {e : Env} {s : State} {m : MethodId} {args : Array Value} {below : List Frame} {meth : Method} {c : Code} {D : va_G} {g : xm_G} {A : Nat → Prop}  {L : List xm_Sh} (hL : xm_pre L) (hX : xm_X p m meth c cX2_firstSightFrom 4 s args wX2_firstSightFrom RX2 (some .int) D L g A)  (k2 : Int32 → Int32 → xm_M → Option (Int32 × xm_M)) (h2 : ∀ (b2 : Int32), ∀ (b3 : Int32), ∀ (M : xm_M), xm_J p l e ({ frames := 1, cells := 0, slots := 0, locals := 22 }) s m args below meth c 4 D L g A (xm_Z below args s D L g A (xm_Fi g)) 2 [(0, .ref (g.1 49)), (2, .int b2), (3, .int b3)] [] M (k2 b2 b3 M)) : ∀ (b2 : Int32), ∀ (b3 : Int32), ∀ (M : xm_M), xm_J p l e ({ frames := 1, cells := 0, slots := 0, locals := 22 }) s m args below meth c 4 D L g A (xm_Z below args s D L g A (xm_Fi g)) 2 [(0, .ref (g.1 49)), (2, .int b2), (3, .int b3)] [] M (fX2_firstSightFrom_2 k2 b2 b3 M) := by
  intro b2 b3 M
  unfold fX2_firstSightFrom_2
  refine xm_iload_n hX 2 dX2_firstSightFrom_2 rfl rfl ?_
  refine xm_iload_n hX 1 dX2_firstSightFrom_3 rfl rfl ?_
  refine xm_icmp_ge hX (tgt := 26) dX2_firstSightFrom_4 rfl ?_ ?_
  · refine xm_weak [2] (lv' := [(3, .int b3)]) rfl ?_
    exact tfX2_firstSightFrom_26 hL hX b3 M
  · refine xm_aload_n hX 0 dX2_firstSightFrom_7 rfl rfl ?_
    refine xm_get hX (k := 49) (ci := 2) (j := 1) (C := RX2) (T := TX2) (N := 12) (v := .ref (g.1 56)) (hL _ _ cL_49) rfl rfl rfl (by decide) (fun z hz => List.mem_cons_of_mem _ (iw_X2 z hz)) (List.mem_cons_of_mem _ gm_75) dX2_firstSightFrom_8 ?_
    refine xm_iconst hX (v := 0) rfl dX2_firstSightFrom_11 ?_
    refine xm_iload_n hX 2 dX2_firstSightFrom_12 rfl rfl ?_
    refine xm_calli hX (xm_runSN hX (As := (fun g => [.ref (g.1 56), .int (0 : Int32), .int b3])) (kX3_item_ hL 56 11 57 120 (hL _ _ cL_56) (cL_rowsL_56 hL) (0 : Int32) b3 M) (xm_gN gm_216) rfl ⟨rfl, rfl⟩ nw_2 (List.mem_cons_of_mem _ gm_1) (List.mem_cons_of_mem _ gm_215) hdX3_item_ ⟨Nat.le_of_ble_eq_true rfl, Nat.le_of_ble_eq_true rfl⟩ rfl (Nat.le_of_ble_eq_true rfl) rfl ⟨Nat.le_of_ble_eq_true rfl, Nat.le_of_ble_eq_true rfl⟩ dX2_firstSightFrom_13) (fun x2 M1 => ?_)
    refine xm_iconst hX (v := 4) rfl dX2_firstSightFrom_16 ?_
    refine xm_icmp_eq hX (tgt := 26) dX2_firstSightFrom_17 rfl ?_ ?_
    · refine xm_weak [2] (lv' := [(3, .int b3)]) rfl ?_
      exact tfX2_firstSightFrom_26 hL hX b3 M1
    · refine xm_iinc hX (lv2 := fun x3 => [(3, .int x3), (0, .ref (g.1 49)), (2, .int b2)]) 2 dX2_firstSightFrom_20 rfl (by decide) (fun _ => rfl) (fun x3 => ?_)
      refine xm_goto hX (tgt := 2) dX2_firstSightFrom_23 rfl ?_
      refine xm_weak [1, 2, 0] (lv' := [(0, .ref (g.1 49)), (2, .int b2), (3, .int x3)]) rfl ?_
      exact h2 b2 x3 M1
def fX2_firstSightFrom_2_it   (nq : Nat) : Int32 → Int32 → xm_M → Option (Int32 × xm_M) := xm_it (fun kq => fX2_firstSightFrom_2 kq) (fun _ _ _ => none) nq
theorem tfX2_firstSightFrom_2_it {p : Program} {l : Launch} {e : Env} {s : State} {m : MethodId} {args : Array Value} {below : List Frame} {meth : Method} {c : Code} {D : va_G} {g : xm_G} {A : Nat → Prop}  {L : List xm_Sh} (hL : xm_pre L) (hX : xm_X p m meth c cX2_firstSightFrom 4 s args wX2_firstSightFrom RX2 (some .int) D L g A)    : ∀ (nq : Nat), ∀ (b2 : Int32), ∀ (b3 : Int32), ∀ (M : xm_M), xm_J p l e ({ frames := 1, cells := 0, slots := 0, locals := 22 }) s m args below meth c 4 D L g A (xm_Z below args s D L g A (xm_Fi g)) 2 [(0, .ref (g.1 49)), (2, .int b2), (3, .int b3)] [] M (fX2_firstSightFrom_2_it  nq b2 b3 M) := by
  intro nq
  induction nq with
  | zero => exact fun _ _ _ => xm_none
  | succ nq ih => exact tfX2_firstSightFrom_2 hL hX _ ih
def fX2_firstSightFrom  (a1 : Int32) (a2 : Int32) (M : xm_M) : Option (Int32 × xm_M) :=
  fX2_firstSightFrom_2_it xm_N a2 a1 M
set_option maxRecDepth 20000 in
theorem kX2_firstSightFrom {l : Launch} {L : List xm_Sh} (hL : xm_pre L)   (a1 : Int32) (a2 : Int32) (M : xm_M) : xm_C l yX2_firstSightFrom wX2_firstSightFrom ({ frames := 1, cells := 0, slots := 0, locals := 22 }) L (fun g => [.ref (g.1 49), .int a1, .int a2]) M xm_Fi (fX2_firstSightFrom  a1 a2 M) := by
  refine xm_C.of (by decide) rfl (fun g => Nat.le_of_ble_eq_true rfl) ?_
  intro p e s m args below meth c D g A hX
  refine xm_lv (lv' := [(0, .ref (g.1 49)), (1, .int a1), (2, .int a2)]) rfl ?_
  unfold fX2_firstSightFrom
  refine xm_iload_n hX 1 dX2_firstSightFrom_0 rfl rfl ?_
  refine xm_istore_n hX (lv' := [(3, .int a1), (0, .ref (g.1 49)), (1, .int a1), (2, .int a2)]) dX2_firstSightFrom_1 rfl (by decide) rfl ?_
  refine xm_weak [1, 3, 0] (lv' := [(0, .ref (g.1 49)), (2, .int a2), (3, .int a1)]) rfl ?_
  exact tfX2_firstSightFrom_2_it hL hX xm_N a2 a1 M
-- ===== OdometryDesk$Way.behind(II)I ['49']
theorem dX2_behind_0 : decode cX2_behind 0 = .ok (.aload_n 0, 1) := by decide +kernel
theorem dX2_behind_1 : decode cX2_behind 1 = .ok (.getfield 11, 3) := by decide +kernel
theorem dX2_behind_4 : decode cX2_behind 4 = .ok (.iload_n 2, 1) := by decide +kernel
theorem dX2_behind_5 : decode cX2_behind 5 = .ok (.iload_n 1, 1) := by decide +kernel
theorem dX2_behind_6 : decode cX2_behind 6 = .ok (.iconst 1, 1) := by decide +kernel
theorem dX2_behind_7 : decode cX2_behind 7 = .ok (.iadd, 1) := by decide +kernel
theorem dX2_behind_8 : decode cX2_behind 8 = .ok (.invokestatic 91, 3) := by decide +kernel
theorem dX2_behind_11 : decode cX2_behind 11 = .ok (.ireturn, 1) := by decide +kernel
abbrev wX2_behind : List Cond := .code yX2_behind cX2_behind 3 (some .int) :: lw_gd
theorem hdX2_behind : (yX2_behind.cls ≠ "java/lang/invoke/MethodHandle" ∧ yX2_behind.cls ≠ "java/lang/invoke/VarHandle" ∧ (parseMethodDescriptor yX2_behind.desc).map (fun d => d.parameters.length) = some 2) := by decide +kernel
def fX2_behind  (a1 : Int32) (a2 : Int32) (M : xm_M) : Option (Int32 × xm_M) :=
  xm_bi (fX3_item_ 50 5 51 121 a2 (a1 + (1 : Int32)) M) (fun x2 M1 => some (x2, M1))
set_option maxRecDepth 20000 in
theorem kX2_behind {l : Launch} {L : List xm_Sh} (hL : xm_pre L)   (a1 : Int32) (a2 : Int32) (M : xm_M) : xm_C l yX2_behind wX2_behind ({ frames := 1, cells := 0, slots := 0, locals := 22 }) L (fun g => [.ref (g.1 49), .int a1, .int a2]) M xm_Fi (fX2_behind  a1 a2 M) := by
  refine xm_C.of (by decide) rfl (fun g => Nat.le_of_ble_eq_true rfl) ?_
  intro p e s m args below meth c D g A hX
  refine xm_lv (lv' := [(0, .ref (g.1 49)), (1, .int a1), (2, .int a2)]) rfl ?_
  unfold fX2_behind
  refine xm_aload_n hX 0 dX2_behind_0 rfl rfl ?_
  refine xm_get hX (k := 49) (ci := 2) (j := 0) (C := RX2) (T := TX2) (N := 12) (v := .ref (g.1 50)) (hL _ _ cL_49) rfl rfl rfl (by decide) (fun z hz => List.mem_cons_of_mem _ (iw_X2 z hz)) (List.mem_cons_of_mem _ gm_74) dX2_behind_1 ?_
  refine xm_iload_n hX 2 dX2_behind_4 rfl rfl ?_
  refine xm_iload_n hX 1 dX2_behind_5 rfl rfl ?_
  refine xm_iconst hX (v := 1) rfl dX2_behind_6 ?_
  refine xm_iadd hX dX2_behind_7 ?_
  refine xm_calli hX (xm_runSN hX (As := (fun g => [.ref (g.1 50), .int a2, .int (a1 + (1 : Int32))])) (kX3_item_ hL 50 5 51 121 (hL _ _ cL_50) (cL_rowsL_50 hL) a2 (a1 + (1 : Int32)) M) (xm_gN gm_216) rfl ⟨rfl, rfl⟩ nw_2 (List.mem_cons_of_mem _ gm_1) (List.mem_cons_of_mem _ gm_215) hdX3_item_ ⟨Nat.le_of_ble_eq_true rfl, Nat.le_of_ble_eq_true rfl⟩ rfl (Nat.le_of_ble_eq_true rfl) rfl ⟨Nat.le_of_ble_eq_true rfl, Nat.le_of_ble_eq_true rfl⟩ dX2_behind_8) (fun x2 M1 => ?_)
  exact xm_iret hX dX2_behind_11
-- ===== OdometryDesk$Way.lastSightAhead(I)I ['49']
theorem dX2_lastSightAhead_0 : decode cX2_lastSightAhead 0 = .ok (.iload_n 1, 1) := by decide +kernel
theorem dX2_lastSightAhead_1 : decode cX2_lastSightAhead 1 = .ok (.iconst 1, 1) := by decide +kernel
theorem dX2_lastSightAhead_2 : decode cX2_lastSightAhead 2 = .ok (.isub, 1) := by decide +kernel
theorem dX2_lastSightAhead_3 : decode cX2_lastSightAhead 3 = .ok (.istore_n 2, 1) := by decide +kernel
theorem dX2_lastSightAhead_4 : decode cX2_lastSightAhead 4 = .ok (.iload_n 2, 1) := by decide +kernel
theorem dX2_lastSightAhead_5 : decode cX2_lastSightAhead 5 = .ok (.ifCond .lt 22, 3) := by decide +kernel
theorem dX2_lastSightAhead_8 : decode cX2_lastSightAhead 8 = .ok (.aload_n 0, 1) := by decide +kernel
theorem dX2_lastSightAhead_9 : decode cX2_lastSightAhead 9 = .ok (.getfield 16, 3) := by decide +kernel
theorem dX2_lastSightAhead_12 : decode cX2_lastSightAhead 12 = .ok (.iconst 0, 1) := by decide +kernel
theorem dX2_lastSightAhead_13 : decode cX2_lastSightAhead 13 = .ok (.iload_n 2, 1) := by decide +kernel
theorem dX2_lastSightAhead_14 : decode cX2_lastSightAhead 14 = .ok (.invokestatic 91, 3) := by decide +kernel
theorem dX2_lastSightAhead_17 : decode cX2_lastSightAhead 17 = .ok (.iconst 4, 1) := by decide +kernel
theorem dX2_lastSightAhead_18 : decode cX2_lastSightAhead 18 = .ok (.if_icmp .eq 9, 3) := by decide +kernel
theorem dX2_lastSightAhead_21 : decode cX2_lastSightAhead 21 = .ok (.iinc 2 (-1), 3) := by decide +kernel
theorem dX2_lastSightAhead_24 : decode cX2_lastSightAhead 24 = .ok (.goto (-20), 3) := by decide +kernel
theorem dX2_lastSightAhead_27 : decode cX2_lastSightAhead 27 = .ok (.iload_n 2, 1) := by decide +kernel
theorem dX2_lastSightAhead_28 : decode cX2_lastSightAhead 28 = .ok (.ireturn, 1) := by decide +kernel
abbrev wX2_lastSightAhead : List Cond := .code yX2_lastSightAhead cX2_lastSightAhead 3 (some .int) :: lw_gd
theorem hdX2_lastSightAhead : (yX2_lastSightAhead.cls ≠ "java/lang/invoke/MethodHandle" ∧ yX2_lastSightAhead.cls ≠ "java/lang/invoke/VarHandle" ∧ (parseMethodDescriptor yX2_lastSightAhead.desc).map (fun d => d.parameters.length) = some 1) := by decide +kernel
def fX2_lastSightAhead_27   (b2 : Int32) (M : xm_M) : Option (Int32 × xm_M) :=
  some (b2, M)
set_option maxRecDepth 20000 in
theorem tfX2_lastSightAhead_27 {p : Program} {l : Launch} {e : Env} {s : State} {m : MethodId} {args : Array Value} {below : List Frame} {meth : Method} {c : Code} {D : va_G} {g : xm_G} {A : Nat → Prop}  {L : List xm_Sh} (hL : xm_pre L) (hX : xm_X p m meth c cX2_lastSightAhead 3 s args wX2_lastSightAhead RX2 (some .int) D L g A)    : ∀ (b2 : Int32), ∀ (M : xm_M), xm_J p l e ({ frames := 1, cells := 0, slots := 0, locals := 22 }) s m args below meth c 3 D L g A (xm_Z below args s D L g A (xm_Fi g)) 27 [(2, .int b2)] [] M (fX2_lastSightAhead_27 b2 M) := by
  intro b2 M
  unfold fX2_lastSightAhead_27
  refine xm_iload_n hX 0 dX2_lastSightAhead_27 rfl rfl ?_
  exact xm_iret hX dX2_lastSightAhead_28
def fX2_lastSightAhead_4  (k4 : Int32 → xm_M → Option (Int32 × xm_M)) (b2 : Int32) (M : xm_M) : Option (Int32 × xm_M) :=
  if b2 < 0 then fX2_lastSightAhead_27 b2 M else xm_bi (fX3_item_ 56 11 57 120 (0 : Int32) b2 M) (fun x3 M2 => if x3 = (4 : Int32) then fX2_lastSightAhead_27 b2 M2 else xm_lt (b2 + Int32.ofInt (-1)) (fun x4 => k4 x4 M2))
set_option maxRecDepth 20000 in
theorem tfX2_lastSightAhead_4 {p : Program} {l : Launch} {e : Env} {s : State} {m : MethodId} {args : Array Value} {below : List Frame} {meth : Method} {c : Code} {D : va_G} {g : xm_G} {A : Nat → Prop}  {L : List xm_Sh} (hL : xm_pre L) (hX : xm_X p m meth c cX2_lastSightAhead 3 s args wX2_lastSightAhead RX2 (some .int) D L g A)  (k4 : Int32 → xm_M → Option (Int32 × xm_M)) (h4 : ∀ (b2 : Int32), ∀ (M : xm_M), xm_J p l e ({ frames := 1, cells := 0, slots := 0, locals := 22 }) s m args below meth c 3 D L g A (xm_Z below args s D L g A (xm_Fi g)) 4 [(0, .ref (g.1 49)), (2, .int b2)] [] M (k4 b2 M)) : ∀ (b2 : Int32), ∀ (M : xm_M), xm_J p l e ({ frames := 1, cells := 0, slots := 0, locals := 22 }) s m args below meth c 3 D L g A (xm_Z below args s D L g A (xm_Fi g)) 4 [(0, .ref (g.1 49)), (2, .int b2)] [] M (fX2_lastSightAhead_4 k4 b2 M) := by
  intro b2 M
  unfold fX2_lastSightAhead_4
  refine xm_iload_n hX 1 dX2_lastSightAhead_4 rfl rfl ?_
  refine xm_if_lt hX (tgt := 27) dX2_lastSightAhead_5 rfl ?_ ?_
  · refine xm_weak [1] (lv' := [(2, .int b2)]) rfl ?_
    exact tfX2_lastSightAhead_27 hL hX b2 M
  · refine xm_aload_n hX 0 dX2_lastSightAhead_8 rfl rfl ?_
    refine xm_get hX (k := 49) (ci := 2) (j := 1) (C := RX2) (T := TX2) (N := 12) (v := .ref (g.1 56)) (hL _ _ cL_49) rfl rfl rfl (by decide) (fun z hz => List.mem_cons_of_mem _ (iw_X2 z hz)) (List.mem_cons_of_mem _ gm_75) dX2_lastSightAhead_9 ?_
    refine xm_iconst hX (v := 0) rfl dX2_lastSightAhead_12 ?_
    refine xm_iload_n hX 1 dX2_lastSightAhead_13 rfl rfl ?_
    refine xm_calli hX (xm_runSN hX (As := (fun g => [.ref (g.1 56), .int (0 : Int32), .int b2])) (kX3_item_ hL 56 11 57 120 (hL _ _ cL_56) (cL_rowsL_56 hL) (0 : Int32) b2 M) (xm_gN gm_216) rfl ⟨rfl, rfl⟩ nw_2 (List.mem_cons_of_mem _ gm_1) (List.mem_cons_of_mem _ gm_215) hdX3_item_ ⟨Nat.le_of_ble_eq_true rfl, Nat.le_of_ble_eq_true rfl⟩ rfl (Nat.le_of_ble_eq_true rfl) rfl ⟨Nat.le_of_ble_eq_true rfl, Nat.le_of_ble_eq_true rfl⟩ dX2_lastSightAhead_14) (fun x3 M2 => ?_)
    refine xm_iconst hX (v := 4) rfl dX2_lastSightAhead_17 ?_
    refine xm_icmp_eq hX (tgt := 27) dX2_lastSightAhead_18 rfl ?_ ?_
    · refine xm_weak [1] (lv' := [(2, .int b2)]) rfl ?_
      exact tfX2_lastSightAhead_27 hL hX b2 M2
    · refine xm_iinc hX (lv2 := fun x4 => [(2, .int x4), (0, .ref (g.1 49))]) 1 dX2_lastSightAhead_21 rfl (by decide) (fun _ => rfl) (fun x4 => ?_)
      refine xm_goto hX (tgt := 4) dX2_lastSightAhead_24 rfl ?_
      refine xm_weak [1, 0] (lv' := [(0, .ref (g.1 49)), (2, .int x4)]) rfl ?_
      exact h4 x4 M2
def fX2_lastSightAhead_4_it   (nq : Nat) : Int32 → xm_M → Option (Int32 × xm_M) := xm_it (fun kq => fX2_lastSightAhead_4 kq) (fun _ _ => none) nq
theorem tfX2_lastSightAhead_4_it {p : Program} {l : Launch} {e : Env} {s : State} {m : MethodId} {args : Array Value} {below : List Frame} {meth : Method} {c : Code} {D : va_G} {g : xm_G} {A : Nat → Prop}  {L : List xm_Sh} (hL : xm_pre L) (hX : xm_X p m meth c cX2_lastSightAhead 3 s args wX2_lastSightAhead RX2 (some .int) D L g A)    : ∀ (nq : Nat), ∀ (b2 : Int32), ∀ (M : xm_M), xm_J p l e ({ frames := 1, cells := 0, slots := 0, locals := 22 }) s m args below meth c 3 D L g A (xm_Z below args s D L g A (xm_Fi g)) 4 [(0, .ref (g.1 49)), (2, .int b2)] [] M (fX2_lastSightAhead_4_it  nq b2 M) := by
  intro nq
  induction nq with
  | zero => exact fun _ _ => xm_none
  | succ nq ih => exact tfX2_lastSightAhead_4 hL hX _ ih
def fX2_lastSightAhead  (a1 : Int32) (M : xm_M) : Option (Int32 × xm_M) :=
  xm_lt (a1 - (1 : Int32)) (fun x1 => fX2_lastSightAhead_4_it xm_N x1 M)
set_option maxRecDepth 20000 in
theorem kX2_lastSightAhead {l : Launch} {L : List xm_Sh} (hL : xm_pre L)   (a1 : Int32) (M : xm_M) : xm_C l yX2_lastSightAhead wX2_lastSightAhead ({ frames := 1, cells := 0, slots := 0, locals := 22 }) L (fun g => [.ref (g.1 49), .int a1]) M xm_Fi (fX2_lastSightAhead  a1 M) := by
  refine xm_C.of (by decide) rfl (fun g => Nat.le_of_ble_eq_true rfl) ?_
  intro p e s m args below meth c D g A hX
  refine xm_lv (lv' := [(0, .ref (g.1 49)), (1, .int a1)]) rfl ?_
  unfold fX2_lastSightAhead
  refine xm_iload_n hX 1 dX2_lastSightAhead_0 rfl rfl ?_
  refine xm_iconst hX (v := 1) rfl dX2_lastSightAhead_1 ?_
  refine xm_isub hX dX2_lastSightAhead_2 ?_
  refine xm_nmi (fun x1 => ?_)
  refine xm_istore_n hX (lv' := [(2, .int x1), (0, .ref (g.1 49)), (1, .int a1)]) dX2_lastSightAhead_3 rfl (by decide) rfl ?_
  refine xm_weak [1, 0] (lv' := [(0, .ref (g.1 49)), (2, .int x1)]) rfl ?_
  exact tfX2_lastSightAhead_4_it hL hX xm_N x1 M
-- ===== OdometryDesk$Way.spreadPlace(III)I ['49']
theorem dX2_spreadPlace_0 : decode cX2_spreadPlace 0 = .ok (.aload_n 0, 1) := by decide +kernel
theorem dX2_spreadPlace_1 : decode cX2_spreadPlace 1 = .ok (.iload_n 1, 1) := by decide +kernel
theorem dX2_spreadPlace_2 : decode cX2_spreadPlace 2 = .ok (.iload_n 3, 1) := by decide +kernel
theorem dX2_spreadPlace_3 : decode cX2_spreadPlace 3 = .ok (.invokevirtual 95, 3) := by decide +kernel
theorem dX2_spreadPlace_6 : decode cX2_spreadPlace 6 = .ok (.istore 4, 2) := by decide +kernel
theorem dX2_spreadPlace_8 : decode cX2_spreadPlace 8 = .ok (.iload_n 1, 1) := by decide +kernel
theorem dX2_spreadPlace_9 : decode cX2_spreadPlace 9 = .ok (.ifCond .lt 9, 3) := by decide +kernel
theorem dX2_spreadPlace_12 : decode cX2_spreadPlace 12 = .ok (.iload 4, 2) := by decide +kernel
theorem dX2_spreadPlace_14 : decode cX2_spreadPlace 14 = .ok (.iload_n 3, 1) := by decide +kernel
theorem dX2_spreadPlace_15 : decode cX2_spreadPlace 15 = .ok (.if_icmp .lt 10, 3) := by decide +kernel
theorem dX2_spreadPlace_18 : decode cX2_spreadPlace 18 = .ok (.aload_n 0, 1) := by decide +kernel
theorem dX2_spreadPlace_19 : decode cX2_spreadPlace 19 = .ok (.iload_n 1, 1) := by decide +kernel
theorem dX2_spreadPlace_20 : decode cX2_spreadPlace 20 = .ok (.iload_n 2, 1) := by decide +kernel
theorem dX2_spreadPlace_21 : decode cX2_spreadPlace 21 = .ok (.invokevirtual 99, 3) := by decide +kernel
theorem dX2_spreadPlace_24 : decode cX2_spreadPlace 24 = .ok (.ireturn, 1) := by decide +kernel
theorem dX2_spreadPlace_25 : decode cX2_spreadPlace 25 = .ok (.iload 4, 2) := by decide +kernel
theorem dX2_spreadPlace_27 : decode cX2_spreadPlace 27 = .ok (.iload_n 1, 1) := by decide +kernel
theorem dX2_spreadPlace_28 : decode cX2_spreadPlace 28 = .ok (.if_icmp .ne 14, 3) := by decide +kernel
theorem dX2_spreadPlace_31 : decode cX2_spreadPlace 31 = .ok (.aload_n 0, 1) := by decide +kernel
theorem dX2_spreadPlace_32 : decode cX2_spreadPlace 32 = .ok (.iload_n 1, 1) := by decide +kernel
theorem dX2_spreadPlace_33 : decode cX2_spreadPlace 33 = .ok (.iconst 1, 1) := by decide +kernel
theorem dX2_spreadPlace_34 : decode cX2_spreadPlace 34 = .ok (.isub, 1) := by decide +kernel
theorem dX2_spreadPlace_35 : decode cX2_spreadPlace 35 = .ok (.iload_n 2, 1) := by decide +kernel
theorem dX2_spreadPlace_36 : decode cX2_spreadPlace 36 = .ok (.invokevirtual 99, 3) := by decide +kernel
theorem dX2_spreadPlace_39 : decode cX2_spreadPlace 39 = .ok (.goto 9, 3) := by decide +kernel
theorem dX2_spreadPlace_42 : decode cX2_spreadPlace 42 = .ok (.aload_n 0, 1) := by decide +kernel
theorem dX2_spreadPlace_43 : decode cX2_spreadPlace 43 = .ok (.iload_n 1, 1) := by decide +kernel
theorem dX2_spreadPlace_44 : decode cX2_spreadPlace 44 = .ok (.iload_n 2, 1) := by decide +kernel
theorem dX2_spreadPlace_45 : decode cX2_spreadPlace 45 = .ok (.invokevirtual 99, 3) := by decide +kernel
theorem dX2_spreadPlace_48 : decode cX2_spreadPlace 48 = .ok (.istore 5, 2) := by decide +kernel
theorem dX2_spreadPlace_50 : decode cX2_spreadPlace 50 = .ok (.aload_n 0, 1) := by decide +kernel
theorem dX2_spreadPlace_51 : decode cX2_spreadPlace 51 = .ok (.aload_n 0, 1) := by decide +kernel
theorem dX2_spreadPlace_52 : decode cX2_spreadPlace 52 = .ok (.iload_n 1, 1) := by decide +kernel
theorem dX2_spreadPlace_53 : decode cX2_spreadPlace 53 = .ok (.invokevirtual 102, 3) := by decide +kernel
theorem dX2_spreadPlace_56 : decode cX2_spreadPlace 56 = .ok (.iconst 3, 1) := by decide +kernel
theorem dX2_spreadPlace_57 : decode cX2_spreadPlace 57 = .ok (.invokevirtual 99, 3) := by decide +kernel
theorem dX2_spreadPlace_60 : decode cX2_spreadPlace 60 = .ok (.istore 6, 2) := by decide +kernel
theorem dX2_spreadPlace_62 : decode cX2_spreadPlace 62 = .ok (.aload_n 0, 1) := by decide +kernel
theorem dX2_spreadPlace_63 : decode cX2_spreadPlace 63 = .ok (.iload 4, 2) := by decide +kernel
theorem dX2_spreadPlace_65 : decode cX2_spreadPlace 65 = .ok (.iconst 3, 1) := by decide +kernel
theorem dX2_spreadPlace_66 : decode cX2_spreadPlace 66 = .ok (.invokevirtual 99, 3) := by decide +kernel
theorem dX2_spreadPlace_69 : decode cX2_spreadPlace 69 = .ok (.iload 6, 2) := by decide +kernel
theorem dX2_spreadPlace_71 : decode cX2_spreadPlace 71 = .ok (.isub, 1) := by decide +kernel
theorem dX2_spreadPlace_72 : decode cX2_spreadPlace 72 = .ok (.istore 7, 2) := by decide +kernel
theorem dX2_spreadPlace_74 : decode cX2_spreadPlace 74 = .ok (.iload 7, 2) := by decide +kernel
theorem dX2_spreadPlace_76 : decode cX2_spreadPlace 76 = .ok (.ifCond .ne 6, 3) := by decide +kernel
theorem dX2_spreadPlace_79 : decode cX2_spreadPlace 79 = .ok (.iload 5, 2) := by decide +kernel
theorem dX2_spreadPlace_81 : decode cX2_spreadPlace 81 = .ok (.ireturn, 1) := by decide +kernel
theorem dX2_spreadPlace_82 : decode cX2_spreadPlace 82 = .ok (.aload_n 0, 1) := by decide +kernel
theorem dX2_spreadPlace_83 : decode cX2_spreadPlace 83 = .ok (.getfield 16, 3) := by decide +kernel
theorem dX2_spreadPlace_86 : decode cX2_spreadPlace 86 = .ok (.bipush 9, 2) := by decide +kernel
theorem dX2_spreadPlace_88 : decode cX2_spreadPlace 88 = .ok (.iload_n 2, 1) := by decide +kernel
theorem dX2_spreadPlace_89 : decode cX2_spreadPlace 89 = .ok (.iadd, 1) := by decide +kernel
theorem dX2_spreadPlace_90 : decode cX2_spreadPlace 90 = .ok (.iload 4, 2) := by decide +kernel
theorem dX2_spreadPlace_92 : decode cX2_spreadPlace 92 = .ok (.invokestatic 91, 3) := by decide +kernel
theorem dX2_spreadPlace_95 : decode cX2_spreadPlace 95 = .ok (.i2l, 1) := by decide +kernel
theorem dX2_spreadPlace_96 : decode cX2_spreadPlace 96 = .ok (.lstore 8, 2) := by decide +kernel
theorem dX2_spreadPlace_98 : decode cX2_spreadPlace 98 = .ok (.iload 5, 2) := by decide +kernel
theorem dX2_spreadPlace_100 : decode cX2_spreadPlace 100 = .ok (.i2l, 1) := by decide +kernel
theorem dX2_spreadPlace_101 : decode cX2_spreadPlace 101 = .ok (.lload 8, 2) := by decide +kernel
theorem dX2_spreadPlace_103 : decode cX2_spreadPlace 103 = .ok (.aload_n 0, 1) := by decide +kernel
theorem dX2_spreadPlace_104 : decode cX2_spreadPlace 104 = .ok (.iload_n 1, 1) := by decide +kernel
theorem dX2_spreadPlace_105 : decode cX2_spreadPlace 105 = .ok (.iconst 3, 1) := by decide +kernel
theorem dX2_spreadPlace_106 : decode cX2_spreadPlace 106 = .ok (.invokevirtual 99, 3) := by decide +kernel
theorem dX2_spreadPlace_109 : decode cX2_spreadPlace 109 = .ok (.iload 6, 2) := by decide +kernel
theorem dX2_spreadPlace_111 : decode cX2_spreadPlace 111 = .ok (.isub, 1) := by decide +kernel
theorem dX2_spreadPlace_112 : decode cX2_spreadPlace 112 = .ok (.i2l, 1) := by decide +kernel
theorem dX2_spreadPlace_113 : decode cX2_spreadPlace 113 = .ok (.lmul, 1) := by decide +kernel
theorem dX2_spreadPlace_114 : decode cX2_spreadPlace 114 = .ok (.iload 7, 2) := by decide +kernel
theorem dX2_spreadPlace_116 : decode cX2_spreadPlace 116 = .ok (.i2l, 1) := by decide +kernel
theorem dX2_spreadPlace_117 : decode cX2_spreadPlace 117 = .ok (.invokestatic 106, 3) := by decide +kernel
theorem dX2_spreadPlace_120 : decode cX2_spreadPlace 120 = .ok (.lsub, 1) := by decide +kernel
theorem dX2_spreadPlace_121 : decode cX2_spreadPlace 121 = .ok (.l2i, 1) := by decide +kernel
theorem dX2_spreadPlace_122 : decode cX2_spreadPlace 122 = .ok (.ireturn, 1) := by decide +kernel
abbrev wX2_spreadPlace : List Cond := .code yX2_spreadPlace cX2_spreadPlace 10 (some .int) :: lw_gd
theorem hdX2_spreadPlace : (yX2_spreadPlace.cls ≠ "java/lang/invoke/MethodHandle" ∧ yX2_spreadPlace.cls ≠ "java/lang/invoke/VarHandle" ∧ (parseMethodDescriptor yX2_spreadPlace.desc).map (fun d => d.parameters.length) = some 3) := by decide +kernel
def fX2_spreadPlace_18   (b1 : Int32) (b2 : Int32) (M : xm_M) : Option (Int32 × xm_M) :=
  xm_bi (fX2_behind b1 b2 M) (fun x4 M3 => some (x4, M3))
set_option maxRecDepth 20000 in
theorem tfX2_spreadPlace_18 {p : Program} {l : Launch} {e : Env} {s : State} {m : MethodId} {args : Array Value} {below : List Frame} {meth : Method} {c : Code} {D : va_G} {g : xm_G} {A : Nat → Prop}  {L : List xm_Sh} (hL : xm_pre L) (hX : xm_X p m meth c cX2_spreadPlace 10 s args wX2_spreadPlace RX2 (some .int) D L g A)    : ∀ (b1 : Int32), ∀ (b2 : Int32), ∀ (M : xm_M), xm_J p l e ({ frames := 2, cells := 0, slots := 0, locals := 45 }) s m args below meth c 10 D L g A (xm_Z below args s D L g A (xm_Fi g)) 18 [(0, .ref (g.1 49)), (1, .int b1), (2, .int b2)] [] M (fX2_spreadPlace_18 b1 b2 M) := by
  intro b1 b2 M
  unfold fX2_spreadPlace_18
  refine xm_aload_n hX 0 dX2_spreadPlace_18 rfl rfl ?_
  refine xm_iload_n hX 1 dX2_spreadPlace_19 rfl rfl ?_
  refine xm_iload_n hX 2 dX2_spreadPlace_20 rfl rfl ?_
  refine xm_calli hX (xm_runV hX (k := 49) (ci := 2) (As := (fun g => [.int b1, .int b2])) (kX2_behind hL b1 b2 M) (hL _ _ cL_49) rfl (xm_gV gm_300 gm_290 gm_291 gm_3 gm_292) rfl ⟨rfl, rfl⟩ ⟨rfl, hdX2_behind⟩ ⟨Nat.le_of_ble_eq_true rfl, Nat.le_of_ble_eq_true rfl⟩ rfl (Nat.le_of_ble_eq_true rfl) rfl ⟨Nat.le_of_ble_eq_true rfl, Nat.le_of_ble_eq_true rfl⟩ dX2_spreadPlace_21) (fun x4 M3 => ?_)
  exact xm_iret hX dX2_spreadPlace_24
def fX2_spreadPlace_48   (b1 : Int32) (b2 : Int32) (b4 : Int32) (s0 : Int32) (M : xm_M) : Option (Int32 × xm_M) :=
  xm_bi (fX2_lastSightAhead b1 M) (fun x8 M7 => xm_bi (fX2_behind x8 (3 : Int32) M7) (fun x10 M9 => xm_bi (fX2_behind b4 (3 : Int32) M9) (fun x12 M11 => xm_lt (x12 - x10) (fun x13 => if x13 = 0 then some (s0, M11) else xm_bi (fX3_item_ 56 11 57 120 ((9 : Int32) + b2) b4 M11) (fun x15 M14 => xm_lt (x15.toInt64) (fun x16 => xm_bi (fX2_behind b1 (3 : Int32) M14) (fun x18 M17 => xm_bl (fX3_ratio (x16 * ((x18 - x10).toInt64)) x13.toInt64 M17) (fun x20 M19 => some ((s0.toInt64 - x20).toInt32, M19)))))))))
set_option maxRecDepth 20000 in
theorem tfX2_spreadPlace_48 {p : Program} {l : Launch} {e : Env} {s : State} {m : MethodId} {args : Array Value} {below : List Frame} {meth : Method} {c : Code} {D : va_G} {g : xm_G} {A : Nat → Prop}  {L : List xm_Sh} (hL : xm_pre L) (hX : xm_X p m meth c cX2_spreadPlace 10 s args wX2_spreadPlace RX2 (some .int) D L g A)    : ∀ (b1 : Int32), ∀ (b2 : Int32), ∀ (b4 : Int32), ∀ (s0 : Int32), ∀ (M : xm_M), xm_J p l e ({ frames := 2, cells := 0, slots := 0, locals := 45 }) s m args below meth c 10 D L g A (xm_Z below args s D L g A (xm_Fi g)) 48 [(0, .ref (g.1 49)), (1, .int b1), (2, .int b2), (4, .int b4)] [.int s0] M (fX2_spreadPlace_48 b1 b2 b4 s0 M) := by
  intro b1 b2 b4 s0 M
  unfold fX2_spreadPlace_48
  refine xm_istore hX (lv' := [(5, .int s0), (0, .ref (g.1 49)), (1, .int b1), (2, .int b2), (4, .int b4)]) dX2_spreadPlace_48 (by decide) rfl ?_
  refine xm_aload_n hX 1 dX2_spreadPlace_50 rfl rfl ?_
  refine xm_aload_n hX 1 dX2_spreadPlace_51 rfl rfl ?_
  refine xm_iload_n hX 2 dX2_spreadPlace_52 rfl rfl ?_
  refine xm_calli hX (xm_runV hX (k := 49) (ci := 2) (As := (fun g => [.int b1])) (kX2_lastSightAhead hL b1 M) (hL _ _ cL_49) rfl (xm_gV gm_301 gm_302 gm_509 gm_3 gm_303) rfl ⟨rfl, rfl⟩ ⟨rfl, hdX2_lastSightAhead⟩ ⟨Nat.le_of_ble_eq_true rfl, Nat.le_of_ble_eq_true rfl⟩ rfl (Nat.le_of_ble_eq_true rfl) rfl ⟨Nat.le_of_ble_eq_true rfl, Nat.le_of_ble_eq_true rfl⟩ dX2_spreadPlace_53) (fun x8 M7 => ?_)
  refine xm_iconst hX (v := 3) rfl dX2_spreadPlace_56 ?_
  refine xm_calli hX (xm_runV hX (k := 49) (ci := 2) (As := (fun g => [.int x8, .int (3 : Int32)])) (kX2_behind hL x8 (3 : Int32) M7) (hL _ _ cL_49) rfl (xm_gV gm_300 gm_290 gm_291 gm_3 gm_292) rfl ⟨rfl, rfl⟩ ⟨rfl, hdX2_behind⟩ ⟨Nat.le_of_ble_eq_true rfl, Nat.le_of_ble_eq_true rfl⟩ rfl (Nat.le_of_ble_eq_true rfl) rfl ⟨Nat.le_of_ble_eq_true rfl, Nat.le_of_ble_eq_true rfl⟩ dX2_spreadPlace_57) (fun x10 M9 => ?_)
  refine xm_istore hX (lv' := [(6, .int x10), (5, .int s0), (0, .ref (g.1 49)), (1, .int b1), (2, .int b2), (4, .int b4)]) dX2_spreadPlace_60 (by decide) rfl ?_
  refine xm_aload_n hX 2 dX2_spreadPlace_62 rfl rfl ?_
  refine xm_iload hX 5 dX2_spreadPlace_63 rfl ?_
  refine xm_iconst hX (v := 3) rfl dX2_spreadPlace_65 ?_
  refine xm_calli hX (xm_runV hX (k := 49) (ci := 2) (As := (fun g => [.int b4, .int (3 : Int32)])) (kX2_behind hL b4 (3 : Int32) M9) (hL _ _ cL_49) rfl (xm_gV gm_300 gm_290 gm_291 gm_3 gm_292) rfl ⟨rfl, rfl⟩ ⟨rfl, hdX2_behind⟩ ⟨Nat.le_of_ble_eq_true rfl, Nat.le_of_ble_eq_true rfl⟩ rfl (Nat.le_of_ble_eq_true rfl) rfl ⟨Nat.le_of_ble_eq_true rfl, Nat.le_of_ble_eq_true rfl⟩ dX2_spreadPlace_66) (fun x12 M11 => ?_)
  refine xm_iload hX 0 dX2_spreadPlace_69 rfl ?_
  refine xm_isub hX dX2_spreadPlace_71 ?_
  refine xm_nmi (fun x13 => ?_)
  refine xm_istore hX (lv' := [(7, .int x13), (6, .int x10), (5, .int s0), (0, .ref (g.1 49)), (1, .int b1), (2, .int b2), (4, .int b4)]) dX2_spreadPlace_72 (by decide) rfl ?_
  refine xm_iload hX 0 dX2_spreadPlace_74 rfl ?_
  refine xm_if_ne hX (tgt := 82) dX2_spreadPlace_76 rfl ?_ ?_
  · refine xm_aload_n hX 3 dX2_spreadPlace_82 rfl rfl ?_
    refine xm_get hX (k := 49) (ci := 2) (j := 1) (C := RX2) (T := TX2) (N := 12) (v := .ref (g.1 56)) (hL _ _ cL_49) rfl rfl rfl (by decide) (fun z hz => List.mem_cons_of_mem _ (iw_X2 z hz)) (List.mem_cons_of_mem _ gm_75) dX2_spreadPlace_83 ?_
    refine xm_bipush hX (v := 9) rfl dX2_spreadPlace_86 ?_
    refine xm_iload_n hX 5 dX2_spreadPlace_88 rfl rfl ?_
    refine xm_iadd hX dX2_spreadPlace_89 ?_
    refine xm_iload hX 6 dX2_spreadPlace_90 rfl ?_
    refine xm_calli hX (xm_runSN hX (As := (fun g => [.ref (g.1 56), .int ((9 : Int32) + b2), .int b4])) (kX3_item_ hL 56 11 57 120 (hL _ _ cL_56) (cL_rowsL_56 hL) ((9 : Int32) + b2) b4 M11) (xm_gN gm_216) rfl ⟨rfl, rfl⟩ nw_2 (List.mem_cons_of_mem _ gm_1) (List.mem_cons_of_mem _ gm_215) hdX3_item_ ⟨Nat.le_of_ble_eq_true rfl, Nat.le_of_ble_eq_true rfl⟩ rfl (Nat.le_of_ble_eq_true rfl) rfl ⟨Nat.le_of_ble_eq_true rfl, Nat.le_of_ble_eq_true rfl⟩ dX2_spreadPlace_92) (fun x15 M14 => ?_)
    refine xm_i2l hX dX2_spreadPlace_95 ?_
    refine xm_nml (fun x16 => ?_)
    refine xm_lstore hX (lv' := [(8, .long x16), (7, .int x13), (6, .int x10), (5, .int s0), (0, .ref (g.1 49)), (1, .int b1), (2, .int b2), (4, .int b4)]) dX2_spreadPlace_96 (by decide) rfl ?_
    refine xm_iload hX 3 dX2_spreadPlace_98 rfl ?_
    refine xm_i2l hX dX2_spreadPlace_100 ?_
    refine xm_lload hX 0 dX2_spreadPlace_101 rfl ?_
    refine xm_aload_n hX 4 dX2_spreadPlace_103 rfl rfl ?_
    refine xm_iload_n hX 5 dX2_spreadPlace_104 rfl rfl ?_
    refine xm_iconst hX (v := 3) rfl dX2_spreadPlace_105 ?_
    refine xm_calli hX (xm_runV hX (k := 49) (ci := 2) (As := (fun g => [.int b1, .int (3 : Int32)])) (kX2_behind hL b1 (3 : Int32) M14) (hL _ _ cL_49) rfl (xm_gV gm_300 gm_290 gm_291 gm_3 gm_292) rfl ⟨rfl, rfl⟩ ⟨rfl, hdX2_behind⟩ ⟨Nat.le_of_ble_eq_true rfl, Nat.le_of_ble_eq_true rfl⟩ rfl (Nat.le_of_ble_eq_true rfl) rfl ⟨Nat.le_of_ble_eq_true rfl, Nat.le_of_ble_eq_true rfl⟩ dX2_spreadPlace_106) (fun x18 M17 => ?_)
    refine xm_iload hX 2 dX2_spreadPlace_109 rfl ?_
    refine xm_isub hX dX2_spreadPlace_111 ?_
    refine xm_i2l hX dX2_spreadPlace_112 ?_
    refine xm_lmul hX dX2_spreadPlace_113 ?_
    refine xm_iload hX 1 dX2_spreadPlace_114 rfl ?_
    refine xm_i2l hX dX2_spreadPlace_116 ?_
    refine xm_calll hX (xm_runSN hX (As := (fun g => [.long (x16 * ((x18 - x10).toInt64)), .long (x13.toInt64)])) (kX3_ratio hL (x16 * ((x18 - x10).toInt64)) x13.toInt64 M17) (xm_gN gm_230) rfl ⟨rfl, rfl⟩ nw_5 (List.mem_cons_of_mem _ gm_1) (List.mem_cons_of_mem _ gm_229) hdX3_ratio ⟨Nat.le_of_ble_eq_true rfl, Nat.le_of_ble_eq_true rfl⟩ rfl (Nat.le_of_ble_eq_true rfl) rfl ⟨Nat.le_of_ble_eq_true rfl, Nat.le_of_ble_eq_true rfl⟩ dX2_spreadPlace_117) (fun x20 M19 => ?_)
    refine xm_lsub hX dX2_spreadPlace_120 ?_
    refine xm_l2i hX dX2_spreadPlace_121 ?_
    exact xm_iret hX dX2_spreadPlace_122
  · refine xm_iload hX 2 dX2_spreadPlace_79 rfl ?_
    exact xm_iret hX dX2_spreadPlace_81
def fX2_spreadPlace  (a1 : Int32) (a2 : Int32) (a3 : Int32) (M : xm_M) : Option (Int32 × xm_M) :=
  xm_bi (fX2_firstSightFrom a1 a3 M) (fun x2 M1 => if a1 < 0 then fX2_spreadPlace_18 a1 a2 M1 else if x2 < a3 then if x2 = a1 then xm_bi (fX2_behind (a1 - (1 : Int32)) a2 M1) (fun x22 M21 => fX2_spreadPlace_48 a1 a2 x2 x22 M21) else xm_bi (fX2_behind a1 a2 M1) (fun x6 M5 => fX2_spreadPlace_48 a1 a2 x2 x6 M5) else fX2_spreadPlace_18 a1 a2 M1)
set_option maxRecDepth 20000 in
theorem kX2_spreadPlace {l : Launch} {L : List xm_Sh} (hL : xm_pre L)   (a1 : Int32) (a2 : Int32) (a3 : Int32) (M : xm_M) : xm_C l yX2_spreadPlace wX2_spreadPlace ({ frames := 2, cells := 0, slots := 0, locals := 45 }) L (fun g => [.ref (g.1 49), .int a1, .int a2, .int a3]) M xm_Fi (fX2_spreadPlace  a1 a2 a3 M) := by
  refine xm_C.of (by decide) rfl (fun g => Nat.le_of_ble_eq_true rfl) ?_
  intro p e s m args below meth c D g A hX
  refine xm_lv (lv' := [(0, .ref (g.1 49)), (1, .int a1), (2, .int a2), (3, .int a3)]) rfl ?_
  unfold fX2_spreadPlace
  refine xm_aload_n hX 0 dX2_spreadPlace_0 rfl rfl ?_
  refine xm_iload_n hX 1 dX2_spreadPlace_1 rfl rfl ?_
  refine xm_iload_n hX 3 dX2_spreadPlace_2 rfl rfl ?_
  refine xm_calli hX (xm_runV hX (k := 49) (ci := 2) (As := (fun g => [.int a1, .int a3])) (kX2_firstSightFrom hL a1 a3 M) (hL _ _ cL_49) rfl (xm_gV gm_297 gm_298 gm_508 gm_3 gm_299) rfl ⟨rfl, rfl⟩ ⟨rfl, hdX2_firstSightFrom⟩ ⟨Nat.le_of_ble_eq_true rfl, Nat.le_of_ble_eq_true rfl⟩ rfl (Nat.le_of_ble_eq_true rfl) rfl ⟨Nat.le_of_ble_eq_true rfl, Nat.le_of_ble_eq_true rfl⟩ dX2_spreadPlace_3) (fun x2 M1 => ?_)
  refine xm_istore hX (lv' := [(4, .int x2), (0, .ref (g.1 49)), (1, .int a1), (2, .int a2), (3, .int a3)]) dX2_spreadPlace_6 (by decide) rfl ?_
  refine xm_iload_n hX 2 dX2_spreadPlace_8 rfl rfl ?_
  refine xm_if_lt hX (tgt := 18) dX2_spreadPlace_9 rfl ?_ ?_
  · refine xm_weak [1, 2, 3] (lv' := [(0, .ref (g.1 49)), (1, .int a1), (2, .int a2)]) rfl ?_
    exact tfX2_spreadPlace_18 hL hX a1 a2 M1
  · refine xm_iload hX 0 dX2_spreadPlace_12 rfl ?_
    refine xm_iload_n hX 4 dX2_spreadPlace_14 rfl rfl ?_
    refine xm_icmp_lt hX (tgt := 25) dX2_spreadPlace_15 rfl ?_ ?_
    · refine xm_iload hX 0 dX2_spreadPlace_25 rfl ?_
      refine xm_iload_n hX 2 dX2_spreadPlace_27 rfl rfl ?_
      refine xm_icmp_ne hX (tgt := 42) dX2_spreadPlace_28 rfl ?_ ?_
      · refine xm_aload_n hX 1 dX2_spreadPlace_42 rfl rfl ?_
        refine xm_iload_n hX 2 dX2_spreadPlace_43 rfl rfl ?_
        refine xm_iload_n hX 3 dX2_spreadPlace_44 rfl rfl ?_
        refine xm_calli hX (xm_runV hX (k := 49) (ci := 2) (As := (fun g => [.int a1, .int a2])) (kX2_behind hL a1 a2 M1) (hL _ _ cL_49) rfl (xm_gV gm_300 gm_290 gm_291 gm_3 gm_292) rfl ⟨rfl, rfl⟩ ⟨rfl, hdX2_behind⟩ ⟨Nat.le_of_ble_eq_true rfl, Nat.le_of_ble_eq_true rfl⟩ rfl (Nat.le_of_ble_eq_true rfl) rfl ⟨Nat.le_of_ble_eq_true rfl, Nat.le_of_ble_eq_true rfl⟩ dX2_spreadPlace_45) (fun x6 M5 => ?_)
        refine xm_weak [1, 2, 3, 0] (lv' := [(0, .ref (g.1 49)), (1, .int a1), (2, .int a2), (4, .int x2)]) rfl ?_
        exact tfX2_spreadPlace_48 hL hX a1 a2 x2 x6 M5
      · refine xm_aload_n hX 1 dX2_spreadPlace_31 rfl rfl ?_
        refine xm_iload_n hX 2 dX2_spreadPlace_32 rfl rfl ?_
        refine xm_iconst hX (v := 1) rfl dX2_spreadPlace_33 ?_
        refine xm_isub hX dX2_spreadPlace_34 ?_
        refine xm_iload_n hX 3 dX2_spreadPlace_35 rfl rfl ?_
        refine xm_calli hX (xm_runV hX (k := 49) (ci := 2) (As := (fun g => [.int (a1 - (1 : Int32)), .int a2])) (kX2_behind hL (a1 - (1 : Int32)) a2 M1) (hL _ _ cL_49) rfl (xm_gV gm_300 gm_290 gm_291 gm_3 gm_292) rfl ⟨rfl, rfl⟩ ⟨rfl, hdX2_behind⟩ ⟨Nat.le_of_ble_eq_true rfl, Nat.le_of_ble_eq_true rfl⟩ rfl (Nat.le_of_ble_eq_true rfl) rfl ⟨Nat.le_of_ble_eq_true rfl, Nat.le_of_ble_eq_true rfl⟩ dX2_spreadPlace_36) (fun x22 M21 => ?_)
        refine xm_goto hX (tgt := 48) dX2_spreadPlace_39 rfl ?_
        refine xm_weak [1, 2, 3, 0] (lv' := [(0, .ref (g.1 49)), (1, .int a1), (2, .int a2), (4, .int x2)]) rfl ?_
        exact tfX2_spreadPlace_48 hL hX a1 a2 x2 x22 M21
    · refine xm_weak [1, 2, 3] (lv' := [(0, .ref (g.1 49)), (1, .int a1), (2, .int a2)]) rfl ?_
      exact tfX2_spreadPlace_18 hL hX a1 a2 M1
-- ===== OdometryDesk.pose(II)I ['0']
theorem dX3_pose_0 : decode cX3_pose 0 = .ok (.iload_n 1, 1) := by decide +kernel
theorem dX3_pose_1 : decode cX3_pose 1 = .ok (.iconst (-1), 1) := by decide +kernel
theorem dX3_pose_2 : decode cX3_pose 2 = .ok (.aload_n 0, 1) := by decide +kernel
theorem dX3_pose_3 : decode cX3_pose 3 = .ok (.getfield 10, 3) := by decide +kernel
theorem dX3_pose_6 : decode cX3_pose 6 = .ok (.getfield 106, 3) := by decide +kernel
theorem dX3_pose_9 : decode cX3_pose 9 = .ok (.iconst 1, 1) := by decide +kernel
theorem dX3_pose_10 : decode cX3_pose 10 = .ok (.isub, 1) := by decide +kernel
theorem dX3_pose_11 : decode cX3_pose 11 = .ok (.invokestatic 66, 3) := by decide +kernel
theorem dX3_pose_14 : decode cX3_pose 14 = .ok (.ifCond .ne 6, 3) := by decide +kernel
theorem dX3_pose_17 : decode cX3_pose 17 = .ok (.ldc 117, 2) := by decide +kernel
theorem dX3_pose_19 : decode cX3_pose 19 = .ok (.ireturn, 1) := by decide +kernel
theorem dX3_pose_20 : decode cX3_pose 20 = .ok (.iload_n 2, 1) := by decide +kernel
theorem dX3_pose_21 : decode cX3_pose 21 = .ok (.iconst 0, 1) := by decide +kernel
theorem dX3_pose_22 : decode cX3_pose 22 = .ok (.bipush 6, 2) := by decide +kernel
theorem dX3_pose_24 : decode cX3_pose 24 = .ok (.invokestatic 66, 3) := by decide +kernel
theorem dX3_pose_27 : decode cX3_pose 27 = .ok (.ifCond .ne 6, 3) := by decide +kernel
theorem dX3_pose_30 : decode cX3_pose 30 = .ok (.ldc 118, 2) := by decide +kernel
theorem dX3_pose_32 : decode cX3_pose 32 = .ok (.ireturn, 1) := by decide +kernel
theorem dX3_pose_33 : decode cX3_pose 33 = .ok (.aload_n 0, 1) := by decide +kernel
theorem dX3_pose_34 : decode cX3_pose 34 = .ok (.getfield 25, 3) := by decide +kernel
theorem dX3_pose_37 : decode cX3_pose 37 = .ok (.aload_n 0, 1) := by decide +kernel
theorem dX3_pose_38 : decode cX3_pose 38 = .ok (.getfield 10, 3) := by decide +kernel
theorem dX3_pose_41 : decode cX3_pose 41 = .ok (.aload_n 0, 1) := by decide +kernel
theorem dX3_pose_42 : decode cX3_pose 42 = .ok (.getfield 10, 3) := by decide +kernel
theorem dX3_pose_45 : decode cX3_pose 45 = .ok (.getfield 52, 3) := by decide +kernel
theorem dX3_pose_48 : decode cX3_pose 48 = .ok (.invokevirtual 119, 3) := by decide +kernel
theorem dX3_pose_51 : decode cX3_pose 51 = .ok (.iload_n 2, 1) := by decide +kernel
theorem dX3_pose_52 : decode cX3_pose 52 = .ok (.iconst 5, 1) := by decide +kernel
theorem dX3_pose_53 : decode cX3_pose 53 = .ok (.if_icmp .ge 15, 3) := by decide +kernel
theorem dX3_pose_56 : decode cX3_pose 56 = .ok (.aload_n 0, 1) := by decide +kernel
theorem dX3_pose_57 : decode cX3_pose 57 = .ok (.getfield 25, 3) := by decide +kernel
theorem dX3_pose_60 : decode cX3_pose 60 = .ok (.iload_n 1, 1) := by decide +kernel
theorem dX3_pose_61 : decode cX3_pose 61 = .ok (.iload_n 2, 1) := by decide +kernel
theorem dX3_pose_62 : decode cX3_pose 62 = .ok (.invokevirtual 123, 3) := by decide +kernel
theorem dX3_pose_65 : decode cX3_pose 65 = .ok (.goto 21, 3) := by decide +kernel
theorem dX3_pose_68 : decode cX3_pose 68 = .ok (.aload_n 0, 1) := by decide +kernel
theorem dX3_pose_69 : decode cX3_pose 69 = .ok (.getfield 25, 3) := by decide +kernel
theorem dX3_pose_72 : decode cX3_pose 72 = .ok (.iload_n 1, 1) := by decide +kernel
theorem dX3_pose_73 : decode cX3_pose 73 = .ok (.iload_n 2, 1) := by decide +kernel
theorem dX3_pose_74 : decode cX3_pose 74 = .ok (.iconst 5, 1) := by decide +kernel
theorem dX3_pose_75 : decode cX3_pose 75 = .ok (.isub, 1) := by decide +kernel
theorem dX3_pose_76 : decode cX3_pose 76 = .ok (.aload_n 0, 1) := by decide +kernel
theorem dX3_pose_77 : decode cX3_pose 77 = .ok (.getfield 10, 3) := by decide +kernel
theorem dX3_pose_80 : decode cX3_pose 80 = .ok (.getfield 106, 3) := by decide +kernel
theorem dX3_pose_83 : decode cX3_pose 83 = .ok (.invokevirtual 126, 3) := by decide +kernel
theorem dX3_pose_86 : decode cX3_pose 86 = .ok (.ireturn, 1) := by decide +kernel
abbrev wX3_pose : List Cond := .code yX3_pose cX3_pose 3 (some .int) :: lw_gd
theorem hdX3_pose : (yX3_pose.cls ≠ "java/lang/invoke/MethodHandle" ∧ yX3_pose.cls ≠ "java/lang/invoke/VarHandle" ∧ (parseMethodDescriptor yX3_pose.desc).map (fun d => d.parameters.length) = some 2) := by decide +kernel
def fX3_pose  (a1 : Int32) (a2 : Int32) (M : xm_M) : Option (Int32 × xm_M) :=
  xm_bi (fX3_isWithin a1 (-1 : Int32) ((M.1 1 6) - (1 : Int32)) M) (fun x2 M1 => if x2 = 0 then some ((-1000000001 : Int32), M1) else xm_bi (fX3_isWithin a2 (0 : Int32) (6 : Int32) M1) (fun x4 M3 => if x4 = 0 then some ((-1000000002 : Int32), M3) else xm_bv (fX2_follow 2 M3) (fun M5 => if (5 : Int32) ≤ a2 then xm_bi (fX2_spreadPlace a1 (a2 - (5 : Int32)) (M5.1 1 6) M5) (fun x7 M6 => some (x7, M6)) else xm_bi (fX2_behind a1 a2 M5) (fun x9 M8 => some (x9, M8)))))
set_option maxRecDepth 20000 in
theorem kX3_pose {l : Launch} {L : List xm_Sh} (hL : xm_pre L)   (a1 : Int32) (a2 : Int32) (M : xm_M) : xm_C l yX3_pose wX3_pose ({ frames := 5, cells := 0, slots := 0, locals := 129 }) L (fun g => [.ref (g.1 0), .int a1, .int a2]) M xm_Fi (fX3_pose  a1 a2 M) := by
  refine xm_C.of (by decide) rfl (fun g => Nat.le_of_ble_eq_true rfl) ?_
  intro p e s m args below meth c D g A hX
  refine xm_lv (lv' := [(0, .ref (g.1 0)), (1, .int a1), (2, .int a2)]) rfl ?_
  unfold fX3_pose
  refine xm_iload_n hX 1 dX3_pose_0 rfl rfl ?_
  refine xm_iconst hX (v := -1) rfl dX3_pose_1 ?_
  refine xm_aload_n hX 0 dX3_pose_2 rfl rfl ?_
  refine xm_get hX (k := 0) (ci := 3) (j := 0) (C := RX3) (T := TX3) (N := 6) (v := .ref (g.1 1)) (hL _ _ cL_0) rfl rfl rfl (by decide) (fun z hz => List.mem_cons_of_mem _ (iw_X3 z hz)) (List.mem_cons_of_mem _ gm_128) dX3_pose_3 ?_
  refine xm_get hX (k := 1) (ci := 1) (j := 6) (C := RX1) (T := TX1) (N := 11) (v := .int (M.1 1 6)) (hL _ _ cL_1) rfl rfl rfl (by decide) (fun z hz => List.mem_cons_of_mem _ (iw_X1 z hz)) (List.mem_cons_of_mem _ gm_45) dX3_pose_6 ?_
  refine xm_iconst hX (v := 1) rfl dX3_pose_9 ?_
  refine xm_isub hX dX3_pose_10 ?_
  refine xm_calli hX (xm_runS hX (As := (fun g => [.int a1, .int (-1 : Int32), .int ((M.1 1 6) - (1 : Int32))])) (kX3_isWithin hL a1 (-1 : Int32) ((M.1 1 6) - (1 : Int32)) M) (xm_gS gm_149 gm_150 gm_1 gm_151) rfl ⟨rfl, rfl⟩ hdX3_isWithin ⟨Nat.le_of_ble_eq_true rfl, Nat.le_of_ble_eq_true rfl⟩ rfl (Nat.le_of_ble_eq_true rfl) rfl ⟨Nat.le_of_ble_eq_true rfl, Nat.le_of_ble_eq_true rfl⟩ dX3_pose_11) (fun x2 M1 => ?_)
  refine xm_if_ne hX (tgt := 20) dX3_pose_14 rfl ?_ ?_
  · refine xm_iload_n hX 2 dX3_pose_20 rfl rfl ?_
    refine xm_iconst hX (v := 0) rfl dX3_pose_21 ?_
    refine xm_bipush hX (v := 6) rfl dX3_pose_22 ?_
    refine xm_calli hX (xm_runS hX (As := (fun g => [.int a2, .int (0 : Int32), .int (6 : Int32)])) (kX3_isWithin hL a2 (0 : Int32) (6 : Int32) M1) (xm_gS gm_149 gm_150 gm_1 gm_151) rfl ⟨rfl, rfl⟩ hdX3_isWithin ⟨Nat.le_of_ble_eq_true rfl, Nat.le_of_ble_eq_true rfl⟩ rfl (Nat.le_of_ble_eq_true rfl) rfl ⟨Nat.le_of_ble_eq_true rfl, Nat.le_of_ble_eq_true rfl⟩ dX3_pose_24) (fun x4 M3 => ?_)
    refine xm_if_ne hX (tgt := 33) dX3_pose_27 rfl ?_ ?_
    · refine xm_aload_n hX 0 dX3_pose_33 rfl rfl ?_
      refine xm_get hX (k := 0) (ci := 3) (j := 3) (C := RX3) (T := TX3) (N := 6) (v := .ref (g.1 49)) (hL _ _ cL_0) rfl rfl rfl (by decide) (fun z hz => List.mem_cons_of_mem _ (iw_X3 z hz)) (List.mem_cons_of_mem _ gm_131) dX3_pose_34 ?_
      refine xm_aload_n hX 0 dX3_pose_37 rfl rfl ?_
      refine xm_get hX (k := 0) (ci := 3) (j := 0) (C := RX3) (T := TX3) (N := 6) (v := .ref (g.1 1)) (hL _ _ cL_0) rfl rfl rfl (by decide) (fun z hz => List.mem_cons_of_mem _ (iw_X3 z hz)) (List.mem_cons_of_mem _ gm_128) dX3_pose_38 ?_
      refine xm_aload_n hX 0 dX3_pose_41 rfl rfl ?_
      refine xm_get hX (k := 0) (ci := 3) (j := 0) (C := RX3) (T := TX3) (N := 6) (v := .ref (g.1 1)) (hL _ _ cL_0) rfl rfl rfl (by decide) (fun z hz => List.mem_cons_of_mem _ (iw_X3 z hz)) (List.mem_cons_of_mem _ gm_128) dX3_pose_42 ?_
      refine xm_get hX (k := 1) (ci := 1) (j := 0) (C := RX1) (T := TX1) (N := 11) (v := .ref (g.1 2)) (hL _ _ cL_1) rfl rfl rfl (by decide) (fun z hz => List.mem_cons_of_mem _ (iw_X1 z hz)) (List.mem_cons_of_mem _ gm_29) dX3_pose_45 ?_
      refine xm_callv hX (xm_runV hX (k := 49) (ci := 2) (As := (fun g => [.ref (g.1 1), .ref (g.1 2)])) (kX2_follow hL 2 (hL _ _ cL_2) M3) (hL _ _ cL_49) rfl (xm_gV gm_200 gm_201 gm_202 gm_3 gm_203) rfl ⟨rfl, rfl⟩ ⟨rfl, hdX2_follow⟩ ⟨Nat.le_of_ble_eq_true rfl, Nat.le_of_ble_eq_true rfl⟩ rfl (Nat.le_of_ble_eq_true rfl) rfl ⟨Nat.le_of_ble_eq_true rfl, Nat.le_of_ble_eq_true rfl⟩ dX3_pose_48) (fun M5 => ?_)
      refine xm_iload_n hX 2 dX3_pose_51 rfl rfl ?_
      refine xm_iconst hX (v := 5) rfl dX3_pose_52 ?_
      refine xm_icmp_ge hX (tgt := 68) dX3_pose_53 rfl ?_ ?_
      · refine xm_aload_n hX 0 dX3_pose_68 rfl rfl ?_
        refine xm_get hX (k := 0) (ci := 3) (j := 3) (C := RX3) (T := TX3) (N := 6) (v := .ref (g.1 49)) (hL _ _ cL_0) rfl rfl rfl (by decide) (fun z hz => List.mem_cons_of_mem _ (iw_X3 z hz)) (List.mem_cons_of_mem _ gm_131) dX3_pose_69 ?_
        refine xm_iload_n hX 1 dX3_pose_72 rfl rfl ?_
        refine xm_iload_n hX 2 dX3_pose_73 rfl rfl ?_
        refine xm_iconst hX (v := 5) rfl dX3_pose_74 ?_
        refine xm_isub hX dX3_pose_75 ?_
        refine xm_aload_n hX 0 dX3_pose_76 rfl rfl ?_
        refine xm_get hX (k := 0) (ci := 3) (j := 0) (C := RX3) (T := TX3) (N := 6) (v := .ref (g.1 1)) (hL _ _ cL_0) rfl rfl rfl (by decide) (fun z hz => List.mem_cons_of_mem _ (iw_X3 z hz)) (List.mem_cons_of_mem _ gm_128) dX3_pose_77 ?_
        refine xm_get hX (k := 1) (ci := 1) (j := 6) (C := RX1) (T := TX1) (N := 11) (v := .int (M5.1 1 6)) (hL _ _ cL_1) rfl rfl rfl (by decide) (fun z hz => List.mem_cons_of_mem _ (iw_X1 z hz)) (List.mem_cons_of_mem _ gm_45) dX3_pose_80 ?_
        refine xm_calli hX (xm_runV hX (k := 49) (ci := 2) (As := (fun g => [.int a1, .int (a2 - (5 : Int32)), .int (M5.1 1 6)])) (kX2_spreadPlace hL a1 (a2 - (5 : Int32)) (M5.1 1 6) M5) (hL _ _ cL_49) rfl (xm_gV gm_293 gm_294 gm_295 gm_3 gm_296) rfl ⟨rfl, rfl⟩ ⟨rfl, hdX2_spreadPlace⟩ ⟨Nat.le_of_ble_eq_true rfl, Nat.le_of_ble_eq_true rfl⟩ rfl (Nat.le_of_ble_eq_true rfl) rfl ⟨Nat.le_of_ble_eq_true rfl, Nat.le_of_ble_eq_true rfl⟩ dX3_pose_83) (fun x7 M6 => ?_)
        exact xm_iret hX dX3_pose_86
      · refine xm_aload_n hX 0 dX3_pose_56 rfl rfl ?_
        refine xm_get hX (k := 0) (ci := 3) (j := 3) (C := RX3) (T := TX3) (N := 6) (v := .ref (g.1 49)) (hL _ _ cL_0) rfl rfl rfl (by decide) (fun z hz => List.mem_cons_of_mem _ (iw_X3 z hz)) (List.mem_cons_of_mem _ gm_131) dX3_pose_57 ?_
        refine xm_iload_n hX 1 dX3_pose_60 rfl rfl ?_
        refine xm_iload_n hX 2 dX3_pose_61 rfl rfl ?_
        refine xm_calli hX (xm_runV hX (k := 49) (ci := 2) (As := (fun g => [.int a1, .int a2])) (kX2_behind hL a1 a2 M5) (hL _ _ cL_49) rfl (xm_gV gm_289 gm_290 gm_291 gm_3 gm_292) rfl ⟨rfl, rfl⟩ ⟨rfl, hdX2_behind⟩ ⟨Nat.le_of_ble_eq_true rfl, Nat.le_of_ble_eq_true rfl⟩ rfl (Nat.le_of_ble_eq_true rfl) rfl ⟨Nat.le_of_ble_eq_true rfl, Nat.le_of_ble_eq_true rfl⟩ dX3_pose_62) (fun x9 M8 => ?_)
        refine xm_goto hX (tgt := 86) dX3_pose_65 rfl ?_
        exact xm_iret hX dX3_pose_86
    · refine xm_ldc hX (v := -1000000002) (List.mem_cons_of_mem _ gm_288) dX3_pose_30 ?_
      exact xm_iret hX dX3_pose_32
  · refine xm_ldc hX (v := -1000000001) (List.mem_cons_of_mem _ gm_287) dX3_pose_17 ?_
    exact xm_iret hX dX3_pose_19
-- ===== OdometryDesk$Pad.signsIn(J)I
theorem dX0_signsIn_0 : decode cX0_signsIn 0 = .ok (.iconst 0, 1) := by decide +kernel
theorem dX0_signsIn_1 : decode cX0_signsIn 1 = .ok (.istore_n 2, 1) := by decide +kernel
theorem dX0_signsIn_2 : decode cX0_signsIn 2 = .ok (.lload_n 0, 1) := by decide +kernel
theorem dX0_signsIn_3 : decode cX0_signsIn 3 = .ok (.lstore_n 3, 1) := by decide +kernel
theorem dX0_signsIn_4 : decode cX0_signsIn 4 = .ok (.iload_n 2, 1) := by decide +kernel
theorem dX0_signsIn_5 : decode cX0_signsIn 5 = .ok (.bipush 8, 2) := by decide +kernel
theorem dX0_signsIn_7 : decode cX0_signsIn 7 = .ok (.if_icmp .ge 38, 3) := by decide +kernel
theorem dX0_signsIn_10 : decode cX0_signsIn 10 = .ok (.lload_n 3, 1) := by decide +kernel
theorem dX0_signsIn_11 : decode cX0_signsIn 11 = .ok (.lconst 0, 1) := by decide +kernel
theorem dX0_signsIn_12 : decode cX0_signsIn 12 = .ok (.lcmp, 1) := by decide +kernel
theorem dX0_signsIn_13 : decode cX0_signsIn 13 = .ok (.ifCond .eq 32, 3) := by decide +kernel
theorem dX0_signsIn_16 : decode cX0_signsIn 16 = .ok (.lload_n 3, 1) := by decide +kernel
theorem dX0_signsIn_17 : decode cX0_signsIn 17 = .ok (.ldc2_w 18, 3) := by decide +kernel
theorem dX0_signsIn_20 : decode cX0_signsIn 20 = .ok (.land, 1) := by decide +kernel
theorem dX0_signsIn_21 : decode cX0_signsIn 21 = .ok (.l2i, 1) := by decide +kernel
theorem dX0_signsIn_22 : decode cX0_signsIn 22 = .ok (.bipush 33, 2) := by decide +kernel
theorem dX0_signsIn_24 : decode cX0_signsIn 24 = .ok (.bipush 126, 2) := by decide +kernel
theorem dX0_signsIn_26 : decode cX0_signsIn 26 = .ok (.invokestatic 20, 3) := by decide +kernel
theorem dX0_signsIn_29 : decode cX0_signsIn 29 = .ok (.ifCond .ne 5, 3) := by decide +kernel
theorem dX0_signsIn_32 : decode cX0_signsIn 32 = .ok (.iconst 0, 1) := by decide +kernel
theorem dX0_signsIn_33 : decode cX0_signsIn 33 = .ok (.ireturn, 1) := by decide +kernel
theorem dX0_signsIn_34 : decode cX0_signsIn 34 = .ok (.lload_n 3, 1) := by decide +kernel
theorem dX0_signsIn_35 : decode cX0_signsIn 35 = .ok (.bipush 8, 2) := by decide +kernel
theorem dX0_signsIn_37 : decode cX0_signsIn 37 = .ok (.lushr, 1) := by decide +kernel
theorem dX0_signsIn_38 : decode cX0_signsIn 38 = .ok (.lstore_n 3, 1) := by decide +kernel
theorem dX0_signsIn_39 : decode cX0_signsIn 39 = .ok (.iinc 2 1, 3) := by decide +kernel
theorem dX0_signsIn_42 : decode cX0_signsIn 42 = .ok (.goto (-38), 3) := by decide +kernel
theorem dX0_signsIn_45 : decode cX0_signsIn 45 = .ok (.iload_n 2, 1) := by decide +kernel
theorem dX0_signsIn_46 : decode cX0_signsIn 46 = .ok (.ireturn, 1) := by decide +kernel
abbrev wX0_signsIn : List Cond := .code yX0_signsIn cX0_signsIn 5 (some .int) :: lw_gd
theorem hdX0_signsIn : (yX0_signsIn.cls ≠ "java/lang/invoke/MethodHandle" ∧ yX0_signsIn.cls ≠ "java/lang/invoke/VarHandle" ∧ (parseMethodDescriptor yX0_signsIn.desc).map (fun d => d.parameters.length) = some 1) := by decide +kernel
def fX0_signsIn_45   (b2 : Int32) (M : xm_M) : Option (Int32 × xm_M) :=
  some (b2, M)
set_option maxRecDepth 20000 in
theorem tfX0_signsIn_45 {p : Program} {l : Launch} {e : Env} {s : State} {m : MethodId} {args : Array Value} {below : List Frame} {meth : Method} {c : Code} {D : va_G} {g : xm_G} {A : Nat → Prop}  {L : List xm_Sh} (hL : xm_pre L) (hX : xm_X p m meth c cX0_signsIn 5 s args wX0_signsIn RX0 (some .int) D L g A)    : ∀ (b2 : Int32), ∀ (M : xm_M), xm_J p l e ({ frames := 1, cells := 0, slots := 0, locals := 22 }) s m args below meth c 5 D L g A (xm_Z below args s D L g A (xm_Fi g)) 45 [(2, .int b2)] [] M (fX0_signsIn_45 b2 M) := by
  intro b2 M
  unfold fX0_signsIn_45
  refine xm_iload_n hX 0 dX0_signsIn_45 rfl rfl ?_
  exact xm_iret hX dX0_signsIn_46
def fX0_signsIn_4  (k4 : Int32 → Int64 → xm_M → Option (Int32 × xm_M)) (b2 : Int32) (b3 : Int64) (M : xm_M) : Option (Int32 × xm_M) :=
  if (8 : Int32) ≤ b2 then fX0_signsIn_45 b2 M else if (lg_cmp b3 (0 : Int64)) = 0 then fX0_signsIn_45 b2 M else xm_bi (fX3_isWithin ((b3 &&& (255 : Int64)).toInt32) (33 : Int32) (126 : Int32) M) (fun x3 M2 => if x3 = 0 then some ((0 : Int32), M2) else xm_lt ((b3.toUInt64 >>> ((8 : Int32).toInt64.toUInt64 &&& Int64.toUInt64 63)).toInt64) (fun x4 => xm_lt (b2 + Int32.ofInt 1) (fun x5 => k4 x5 x4 M2)))
set_option maxRecDepth 20000 in
theorem tfX0_signsIn_4 {p : Program} {l : Launch} {e : Env} {s : State} {m : MethodId} {args : Array Value} {below : List Frame} {meth : Method} {c : Code} {D : va_G} {g : xm_G} {A : Nat → Prop}  {L : List xm_Sh} (hL : xm_pre L) (hX : xm_X p m meth c cX0_signsIn 5 s args wX0_signsIn RX0 (some .int) D L g A)  (k4 : Int32 → Int64 → xm_M → Option (Int32 × xm_M)) (h4 : ∀ (b2 : Int32), ∀ (b3 : Int64), ∀ (M : xm_M), xm_J p l e ({ frames := 1, cells := 0, slots := 0, locals := 22 }) s m args below meth c 5 D L g A (xm_Z below args s D L g A (xm_Fi g)) 4 [(2, .int b2), (3, .long b3)] [] M (k4 b2 b3 M)) : ∀ (b2 : Int32), ∀ (b3 : Int64), ∀ (M : xm_M), xm_J p l e ({ frames := 1, cells := 0, slots := 0, locals := 22 }) s m args below meth c 5 D L g A (xm_Z below args s D L g A (xm_Fi g)) 4 [(2, .int b2), (3, .long b3)] [] M (fX0_signsIn_4 k4 b2 b3 M) := by
  intro b2 b3 M
  unfold fX0_signsIn_4
  refine xm_iload_n hX 0 dX0_signsIn_4 rfl rfl ?_
  refine xm_bipush hX (v := 8) rfl dX0_signsIn_5 ?_
  refine xm_icmp_ge hX (tgt := 45) dX0_signsIn_7 rfl ?_ ?_
  · refine xm_weak [0] (lv' := [(2, .int b2)]) rfl ?_
    exact tfX0_signsIn_45 hL hX b2 M
  · refine xm_lload_n hX 1 dX0_signsIn_10 rfl rfl ?_
    refine xm_lconst hX (v := 0) rfl dX0_signsIn_11 ?_
    refine xm_lcmp hX dX0_signsIn_12 ?_
    refine xm_if_eq hX (tgt := 45) dX0_signsIn_13 rfl ?_ ?_
    · refine xm_weak [0] (lv' := [(2, .int b2)]) rfl ?_
      exact tfX0_signsIn_45 hL hX b2 M
    · refine xm_lload_n hX 1 dX0_signsIn_16 rfl rfl ?_
      refine xm_ldc2 hX (v := 255) (List.mem_cons_of_mem _ gm_437) dX0_signsIn_17 ?_
      refine xm_land hX dX0_signsIn_20 ?_
      refine xm_l2i hX dX0_signsIn_21 ?_
      refine xm_bipush hX (v := 33) rfl dX0_signsIn_22 ?_
      refine xm_bipush hX (v := 126) rfl dX0_signsIn_24 ?_
      refine xm_calli hX (xm_runSN hX (As := (fun g => [.int ((b3 &&& (255 : Int64)).toInt32), .int (33 : Int32), .int (126 : Int32)])) (kX3_isWithin hL ((b3 &&& (255 : Int64)).toInt32) (33 : Int32) (126 : Int32) M) (xm_gN gm_151) rfl ⟨rfl, rfl⟩ nw_13 (List.mem_cons_of_mem _ gm_1) (List.mem_cons_of_mem _ gm_150) hdX3_isWithin ⟨Nat.le_of_ble_eq_true rfl, Nat.le_of_ble_eq_true rfl⟩ rfl (Nat.le_of_ble_eq_true rfl) rfl ⟨Nat.le_of_ble_eq_true rfl, Nat.le_of_ble_eq_true rfl⟩ dX0_signsIn_26) (fun x3 M2 => ?_)
      refine xm_if_ne hX (tgt := 34) dX0_signsIn_29 rfl ?_ ?_
      · refine xm_lload_n hX 1 dX0_signsIn_34 rfl rfl ?_
        refine xm_bipush hX (v := 8) rfl dX0_signsIn_35 ?_
        refine xm_lushr hX dX0_signsIn_37 ?_
        refine xm_nml (fun x4 => ?_)
        refine xm_lstore_n hX (lv' := [(3, .long x4), (2, .int b2)]) dX0_signsIn_38 rfl (by decide) rfl ?_
        refine xm_iinc hX (lv2 := fun x5 => [(2, .int x5), (3, .long x4)]) 1 dX0_signsIn_39 rfl (by decide) (fun _ => rfl) (fun x5 => ?_)
        refine xm_goto hX (tgt := 4) dX0_signsIn_42 rfl ?_
        exact h4 x5 x4 M2
      · refine xm_iconst hX (v := 0) rfl dX0_signsIn_32 ?_
        exact xm_iret hX dX0_signsIn_33
def fX0_signsIn_4_it   (nq : Nat) : Int32 → Int64 → xm_M → Option (Int32 × xm_M) := xm_it (fun kq => fX0_signsIn_4 kq) (fun _ _ _ => none) nq
theorem tfX0_signsIn_4_it {p : Program} {l : Launch} {e : Env} {s : State} {m : MethodId} {args : Array Value} {below : List Frame} {meth : Method} {c : Code} {D : va_G} {g : xm_G} {A : Nat → Prop}  {L : List xm_Sh} (hL : xm_pre L) (hX : xm_X p m meth c cX0_signsIn 5 s args wX0_signsIn RX0 (some .int) D L g A)    : ∀ (nq : Nat), ∀ (b2 : Int32), ∀ (b3 : Int64), ∀ (M : xm_M), xm_J p l e ({ frames := 1, cells := 0, slots := 0, locals := 22 }) s m args below meth c 5 D L g A (xm_Z below args s D L g A (xm_Fi g)) 4 [(2, .int b2), (3, .long b3)] [] M (fX0_signsIn_4_it  nq b2 b3 M) := by
  intro nq
  induction nq with
  | zero => exact fun _ _ _ => xm_none
  | succ nq ih => exact tfX0_signsIn_4 hL hX _ ih
def fX0_signsIn  (a0 : Int64) (M : xm_M) : Option (Int32 × xm_M) :=
  xm_lt ((0 : Int32)) (fun x1 => fX0_signsIn_4_it xm_N x1 a0 M)
set_option maxRecDepth 20000 in
theorem kX0_signsIn {l : Launch} {L : List xm_Sh} (hL : xm_pre L)   (a0 : Int64) (M : xm_M) : xm_C l yX0_signsIn wX0_signsIn ({ frames := 1, cells := 0, slots := 0, locals := 22 }) L (fun g => [.long a0]) M xm_Fi (fX0_signsIn  a0 M) := by
  refine xm_C.of (by decide) rfl (fun g => Nat.le_of_ble_eq_true rfl) ?_
  intro p e s m args below meth c D g A hX
  refine xm_lv (lv' := [(0, .long a0)]) rfl ?_
  unfold fX0_signsIn
  refine xm_iconst hX (v := 0) rfl dX0_signsIn_0 ?_
  refine xm_nmi (fun x1 => ?_)
  refine xm_istore_n hX (lv' := [(2, .int x1), (0, .long a0)]) dX0_signsIn_1 rfl (by decide) rfl ?_
  refine xm_lload_n hX 1 dX0_signsIn_2 rfl rfl ?_
  refine xm_lstore_n hX (lv' := [(3, .long a0), (2, .int x1), (0, .long a0)]) dX0_signsIn_3 rfl (by decide) rfl ?_
  refine xm_weak [1, 0] (lv' := [(2, .int x1), (3, .long a0)]) rfl ?_
  exact tfX0_signsIn_4_it hL hX xm_N x1 a0 M
-- ===== OdometryDesk$Pad.append(JI)V ['69']
theorem dX0_append_0 : decode cX0_append 0 = .ok (.iconst 0, 1) := by decide +kernel
theorem dX0_append_1 : decode cX0_append 1 = .ok (.istore 4, 2) := by decide +kernel
theorem dX0_append_3 : decode cX0_append 3 = .ok (.iload 4, 2) := by decide +kernel
theorem dX0_append_5 : decode cX0_append 5 = .ok (.iload_n 3, 1) := by decide +kernel
theorem dX0_append_6 : decode cX0_append 6 = .ok (.if_icmp .ge 39, 3) := by decide +kernel
theorem dX0_append_9 : decode cX0_append 9 = .ok (.aload_n 0, 1) := by decide +kernel
theorem dX0_append_10 : decode cX0_append 10 = .ok (.getfield 9, 3) := by decide +kernel
theorem dX0_append_13 : decode cX0_append 13 = .ok (.aload_n 0, 1) := by decide +kernel
theorem dX0_append_14 : decode cX0_append 14 = .ok (.getfield 24, 3) := by decide +kernel
theorem dX0_append_17 : decode cX0_append 17 = .ok (.iload 4, 2) := by decide +kernel
theorem dX0_append_19 : decode cX0_append 19 = .ok (.iadd, 1) := by decide +kernel
theorem dX0_append_20 : decode cX0_append 20 = .ok (.lload_n 1, 1) := by decide +kernel
theorem dX0_append_21 : decode cX0_append 21 = .ok (.bipush 8, 2) := by decide +kernel
theorem dX0_append_23 : decode cX0_append 23 = .ok (.iload_n 3, 1) := by decide +kernel
theorem dX0_append_24 : decode cX0_append 24 = .ok (.iconst 1, 1) := by decide +kernel
theorem dX0_append_25 : decode cX0_append 25 = .ok (.isub, 1) := by decide +kernel
theorem dX0_append_26 : decode cX0_append 26 = .ok (.iload 4, 2) := by decide +kernel
theorem dX0_append_28 : decode cX0_append 28 = .ok (.isub, 1) := by decide +kernel
theorem dX0_append_29 : decode cX0_append 29 = .ok (.imul, 1) := by decide +kernel
theorem dX0_append_30 : decode cX0_append 30 = .ok (.lushr, 1) := by decide +kernel
theorem dX0_append_31 : decode cX0_append 31 = .ok (.ldc2_w 18, 3) := by decide +kernel
theorem dX0_append_34 : decode cX0_append 34 = .ok (.land, 1) := by decide +kernel
theorem dX0_append_35 : decode cX0_append 35 = .ok (.l2i, 1) := by decide +kernel
theorem dX0_append_36 : decode cX0_append 36 = .ok (.invokestatic 28, 3) := by decide +kernel
theorem dX0_append_39 : decode cX0_append 39 = .ok (.iinc 4 1, 3) := by decide +kernel
theorem dX0_append_42 : decode cX0_append 42 = .ok (.goto (-39), 3) := by decide +kernel
theorem dX0_append_45 : decode cX0_append 45 = .ok (.aload_n 0, 1) := by decide +kernel
theorem dX0_append_46 : decode cX0_append 46 = .ok (.dup, 1) := by decide +kernel
theorem dX0_append_47 : decode cX0_append 47 = .ok (.getfield 24, 3) := by decide +kernel
theorem dX0_append_50 : decode cX0_append 50 = .ok (.iload_n 3, 1) := by decide +kernel
theorem dX0_append_51 : decode cX0_append 51 = .ok (.iadd, 1) := by decide +kernel
theorem dX0_append_52 : decode cX0_append 52 = .ok (.putfield 24, 3) := by decide +kernel
theorem dX0_append_55 : decode cX0_append 55 = .ok (.return_, 1) := by decide +kernel
abbrev wX0_append : List Cond := .code yX0_append cX0_append 5 none :: lw_gd
theorem hdX0_append : (yX0_append.cls ≠ "java/lang/invoke/MethodHandle" ∧ yX0_append.cls ≠ "java/lang/invoke/VarHandle" ∧ (parseMethodDescriptor yX0_append.desc).map (fun d => d.parameters.length) = some 2) := by decide +kernel
def fX0_append_3  (k3 : Int64 → Int32 → Int32 → xm_M → Option xm_M) (b1 : Int64) (b3 : Int32) (b4 : Int32) (M : xm_M) : Option xm_M :=
  if b3 ≤ b4 then xm_lt (xm_s M 69 1 ((M.1 69 1) + b3)) (fun M2 => some M2) else xm_bv (fX3_keep 70 100 ((M.1 69 1) + b4) ((((b1.toUInt64 >>> (((8 : Int32) * ((b3 - (1 : Int32)) - b4)).toInt64.toUInt64 &&& Int64.toUInt64 63)).toInt64) &&& (255 : Int64)).toInt32) M) (fun M3 => xm_lt (b4 + Int32.ofInt 1) (fun x4 => k3 b1 b3 x4 M3))
set_option maxRecDepth 20000 in
theorem tfX0_append_3 {p : Program} {l : Launch} {e : Env} {s : State} {m : MethodId} {args : Array Value} {below : List Frame} {meth : Method} {c : Code} {D : va_G} {g : xm_G} {A : Nat → Prop}  {L : List xm_Sh} (hL : xm_pre L) (hX : xm_X p m meth c cX0_append 5 s args wX0_append RX0 none D L g A)  (k3 : Int64 → Int32 → Int32 → xm_M → Option xm_M) (h3 : ∀ (b1 : Int64), ∀ (b3 : Int32), ∀ (b4 : Int32), ∀ (M : xm_M), xm_J p l e ({ frames := 1, cells := 0, slots := 0, locals := 22 }) s m args below meth c 5 D L g A (xm_Z below args s D L g A (xm_Fv g)) 3 [(0, .ref (g.1 69)), (1, .long b1), (3, .int b3), (4, .int b4)] [] M (k3 b1 b3 b4 M)) : ∀ (b1 : Int64), ∀ (b3 : Int32), ∀ (b4 : Int32), ∀ (M : xm_M), xm_J p l e ({ frames := 1, cells := 0, slots := 0, locals := 22 }) s m args below meth c 5 D L g A (xm_Z below args s D L g A (xm_Fv g)) 3 [(0, .ref (g.1 69)), (1, .long b1), (3, .int b3), (4, .int b4)] [] M (fX0_append_3 k3 b1 b3 b4 M) := by
  intro b1 b3 b4 M
  unfold fX0_append_3
  refine xm_iload hX 3 dX0_append_3 rfl ?_
  refine xm_iload_n hX 2 dX0_append_5 rfl rfl ?_
  refine xm_icmp_ge hX (tgt := 45) dX0_append_6 rfl ?_ ?_
  · refine xm_aload_n hX 0 dX0_append_45 rfl rfl ?_
    refine xm_dup hX rfl dX0_append_46 ?_
    refine xm_get hX (k := 69) (ci := 0) (j := 1) (C := RX0) (T := TX0) (N := 5) (v := .int (M.1 69 1)) (hL _ _ cL_69) rfl rfl rfl (by decide) (fun z hz => List.mem_cons_of_mem _ (iw_X0 z hz)) (List.mem_cons_of_mem _ gm_112) dX0_append_47 ?_
    refine xm_iload_n hX 2 dX0_append_50 rfl rfl ?_
    refine xm_iadd hX dX0_append_51 ?_
    refine xm_puti hX (k := 69) (ci := 0) (j := 1) (C := RX0) (T := TX0) (N := 5) (t0 := tyX0) (hL _ _ cL_69) rfl rfl (by decide) (fun z hz => List.mem_cons_of_mem _ (iw_X0 z hz)) tyX0_ok nmX0 rfl rfl (List.mem_cons_of_mem _ gm_112) dX0_append_52 (fun M2 => ?_)
    exact xm_vret hX dX0_append_55
  · refine xm_aload_n hX 0 dX0_append_9 rfl rfl ?_
    refine xm_get hX (k := 69) (ci := 0) (j := 0) (C := RX0) (T := TX0) (N := 5) (v := .ref (g.1 70)) (hL _ _ cL_69) rfl rfl rfl (by decide) (fun z hz => List.mem_cons_of_mem _ (iw_X0 z hz)) (List.mem_cons_of_mem _ gm_111) dX0_append_10 ?_
    refine xm_aload_n hX 0 dX0_append_13 rfl rfl ?_
    refine xm_get hX (k := 69) (ci := 0) (j := 1) (C := RX0) (T := TX0) (N := 5) (v := .int (M.1 69 1)) (hL _ _ cL_69) rfl rfl rfl (by decide) (fun z hz => List.mem_cons_of_mem _ (iw_X0 z hz)) (List.mem_cons_of_mem _ gm_112) dX0_append_14 ?_
    refine xm_iload hX 3 dX0_append_17 rfl ?_
    refine xm_iadd hX dX0_append_19 ?_
    refine xm_lload_n hX 1 dX0_append_20 rfl rfl ?_
    refine xm_bipush hX (v := 8) rfl dX0_append_21 ?_
    refine xm_iload_n hX 2 dX0_append_23 rfl rfl ?_
    refine xm_iconst hX (v := 1) rfl dX0_append_24 ?_
    refine xm_isub hX dX0_append_25 ?_
    refine xm_iload hX 3 dX0_append_26 rfl ?_
    refine xm_isub hX dX0_append_28 ?_
    refine xm_imul hX dX0_append_29 ?_
    refine xm_lushr hX dX0_append_30 ?_
    refine xm_ldc2 hX (v := 255) (List.mem_cons_of_mem _ gm_437) dX0_append_31 ?_
    refine xm_land hX dX0_append_34 ?_
    refine xm_l2i hX dX0_append_35 ?_
    refine xm_callv hX (xm_runSN hX (As := (fun g => [.ref (g.1 70), .int ((M.1 69 1) + b4), .int ((((b1.toUInt64 >>> (((8 : Int32) * ((b3 - (1 : Int32)) - b4)).toInt64.toUInt64 &&& Int64.toUInt64 63)).toInt64) &&& (255 : Int64)).toInt32)])) (kX3_keep hL 70 100 (hL _ _ cL_70) ((M.1 69 1) + b4) ((((b1.toUInt64 >>> (((8 : Int32) * ((b3 - (1 : Int32)) - b4)).toInt64.toUInt64 &&& Int64.toUInt64 63)).toInt64) &&& (255 : Int64)).toInt32) M) (xm_gN gm_157) rfl ⟨rfl, rfl⟩ nw_14 (List.mem_cons_of_mem _ gm_1) (List.mem_cons_of_mem _ gm_156) hdX3_keep ⟨Nat.le_of_ble_eq_true rfl, Nat.le_of_ble_eq_true rfl⟩ rfl (Nat.le_of_ble_eq_true rfl) rfl ⟨Nat.le_of_ble_eq_true rfl, Nat.le_of_ble_eq_true rfl⟩ dX0_append_36) (fun M3 => ?_)
    refine xm_iinc hX (lv2 := fun x4 => [(4, .int x4), (0, .ref (g.1 69)), (1, .long b1), (3, .int b3)]) 3 dX0_append_39 rfl (by decide) (fun _ => rfl) (fun x4 => ?_)
    refine xm_goto hX (tgt := 3) dX0_append_42 rfl ?_
    refine xm_weak [1, 2, 3, 0] (lv' := [(0, .ref (g.1 69)), (1, .long b1), (3, .int b3), (4, .int x4)]) rfl ?_
    exact h3 b1 b3 x4 M3
def fX0_append_3_it   (nq : Nat) : Int64 → Int32 → Int32 → xm_M → Option xm_M := xm_it (fun kq => fX0_append_3 kq) (fun _ _ _ _ => none) nq
theorem tfX0_append_3_it {p : Program} {l : Launch} {e : Env} {s : State} {m : MethodId} {args : Array Value} {below : List Frame} {meth : Method} {c : Code} {D : va_G} {g : xm_G} {A : Nat → Prop}  {L : List xm_Sh} (hL : xm_pre L) (hX : xm_X p m meth c cX0_append 5 s args wX0_append RX0 none D L g A)    : ∀ (nq : Nat), ∀ (b1 : Int64), ∀ (b3 : Int32), ∀ (b4 : Int32), ∀ (M : xm_M), xm_J p l e ({ frames := 1, cells := 0, slots := 0, locals := 22 }) s m args below meth c 5 D L g A (xm_Z below args s D L g A (xm_Fv g)) 3 [(0, .ref (g.1 69)), (1, .long b1), (3, .int b3), (4, .int b4)] [] M (fX0_append_3_it  nq b1 b3 b4 M) := by
  intro nq
  induction nq with
  | zero => exact fun _ _ _ _ => xm_none
  | succ nq ih => exact tfX0_append_3 hL hX _ ih
def fX0_append  (a1 : Int64) (a3 : Int32) (M : xm_M) : Option xm_M :=
  xm_lt ((0 : Int32)) (fun x1 => fX0_append_3_it xm_N a1 a3 x1 M)
set_option maxRecDepth 20000 in
theorem kX0_append {l : Launch} {L : List xm_Sh} (hL : xm_pre L)   (a1 : Int64) (a3 : Int32) (M : xm_M) : xm_C l yX0_append wX0_append ({ frames := 1, cells := 0, slots := 0, locals := 22 }) L (fun g => [.ref (g.1 69), .long a1, .int a3]) M xm_Fv (fX0_append  a1 a3 M) := by
  refine xm_C.of (by decide) rfl (fun g => Nat.le_of_ble_eq_true rfl) ?_
  intro p e s m args below meth c D g A hX
  refine xm_lv (lv' := [(0, .ref (g.1 69)), (1, .long a1), (3, .int a3)]) rfl ?_
  unfold fX0_append
  refine xm_iconst hX (v := 0) rfl dX0_append_0 ?_
  refine xm_nmi (fun x1 => ?_)
  refine xm_istore hX (lv' := [(4, .int x1), (0, .ref (g.1 69)), (1, .long a1), (3, .int a3)]) dX0_append_1 (by decide) rfl ?_
  refine xm_weak [1, 2, 3, 0] (lv' := [(0, .ref (g.1 69)), (1, .long a1), (3, .int a3), (4, .int x1)]) rfl ?_
  exact tfX0_append_3_it hL hX xm_N a1 a3 x1 M
-- ===== OdometryDesk.put(J)I ['0']
theorem dX3_put_0 : decode cX3_put 0 = .ok (.lload_n 1, 1) := by decide +kernel
theorem dX3_put_1 : decode cX3_put 1 = .ok (.invokestatic 173, 3) := by decide +kernel
theorem dX3_put_4 : decode cX3_put 4 = .ok (.istore_n 3, 1) := by decide +kernel
theorem dX3_put_5 : decode cX3_put 5 = .ok (.iload_n 3, 1) := by decide +kernel
theorem dX3_put_6 : decode cX3_put 6 = .ok (.ifCond .ne 6, 3) := by decide +kernel
theorem dX3_put_9 : decode cX3_put 9 = .ok (.bipush (-2), 2) := by decide +kernel
theorem dX3_put_11 : decode cX3_put 11 = .ok (.ireturn, 1) := by decide +kernel
theorem dX3_put_12 : decode cX3_put 12 = .ok (.aload_n 0, 1) := by decide +kernel
theorem dX3_put_13 : decode cX3_put 13 = .ok (.getfield 32, 3) := by decide +kernel
theorem dX3_put_16 : decode cX3_put 16 = .ok (.getfield 145, 3) := by decide +kernel
theorem dX3_put_19 : decode cX3_put 19 = .ok (.iload_n 3, 1) := by decide +kernel
theorem dX3_put_20 : decode cX3_put 20 = .ok (.iadd, 1) := by decide +kernel
theorem dX3_put_21 : decode cX3_put 21 = .ok (.bipush 100, 2) := by decide +kernel
theorem dX3_put_23 : decode cX3_put 23 = .ok (.if_icmp .le 6, 3) := by decide +kernel
theorem dX3_put_26 : decode cX3_put 26 = .ok (.bipush (-4), 2) := by decide +kernel
theorem dX3_put_28 : decode cX3_put 28 = .ok (.ireturn, 1) := by decide +kernel
theorem dX3_put_29 : decode cX3_put 29 = .ok (.aload_n 0, 1) := by decide +kernel
theorem dX3_put_30 : decode cX3_put 30 = .ok (.getfield 32, 3) := by decide +kernel
theorem dX3_put_33 : decode cX3_put 33 = .ok (.lload_n 1, 1) := by decide +kernel
theorem dX3_put_34 : decode cX3_put 34 = .ok (.iload_n 3, 1) := by decide +kernel
theorem dX3_put_35 : decode cX3_put 35 = .ok (.invokevirtual 177, 3) := by decide +kernel
theorem dX3_put_38 : decode cX3_put 38 = .ok (.aload_n 0, 1) := by decide +kernel
theorem dX3_put_39 : decode cX3_put 39 = .ok (.getfield 32, 3) := by decide +kernel
theorem dX3_put_42 : decode cX3_put 42 = .ok (.getfield 145, 3) := by decide +kernel
theorem dX3_put_45 : decode cX3_put 45 = .ok (.ireturn, 1) := by decide +kernel
abbrev wX3_put : List Cond := .code yX3_put cX3_put 4 (some .int) :: lw_gd
theorem hdX3_put : (yX3_put.cls ≠ "java/lang/invoke/MethodHandle" ∧ yX3_put.cls ≠ "java/lang/invoke/VarHandle" ∧ (parseMethodDescriptor yX3_put.desc).map (fun d => d.parameters.length) = some 1) := by decide +kernel
def fX3_put  (a1 : Int64) (M : xm_M) : Option (Int32 × xm_M) :=
  xm_bi (fX0_signsIn a1 M) (fun x2 M1 => if x2 = 0 then some ((-2 : Int32), M1) else if ((M1.1 69 1) + x2) ≤ (100 : Int32) then xm_bv (fX0_append a1 x2 M1) (fun M3 => some (M3.1 69 1, M3)) else some ((-4 : Int32), M1))
set_option maxRecDepth 20000 in
theorem kX3_put {l : Launch} {L : List xm_Sh} (hL : xm_pre L)   (a1 : Int64) (M : xm_M) : xm_C l yX3_put wX3_put ({ frames := 2, cells := 0, slots := 0, locals := 46 }) L (fun g => [.ref (g.1 0), .long a1]) M xm_Fi (fX3_put  a1 M) := by
  refine xm_C.of (by decide) rfl (fun g => Nat.le_of_ble_eq_true rfl) ?_
  intro p e s m args below meth c D g A hX
  refine xm_lv (lv' := [(0, .ref (g.1 0)), (1, .long a1)]) rfl ?_
  unfold fX3_put
  refine xm_lload_n hX 1 dX3_put_0 rfl rfl ?_
  refine xm_calli hX (xm_runS hX (As := (fun g => [.long a1])) (kX0_signsIn hL a1 M) (xm_gS gm_434 gm_435 gm_4 gm_436) rfl ⟨rfl, rfl⟩ hdX0_signsIn ⟨Nat.le_of_ble_eq_true rfl, Nat.le_of_ble_eq_true rfl⟩ rfl (Nat.le_of_ble_eq_true rfl) rfl ⟨Nat.le_of_ble_eq_true rfl, Nat.le_of_ble_eq_true rfl⟩ dX3_put_1) (fun x2 M1 => ?_)
  refine xm_istore_n hX (lv' := [(3, .int x2), (0, .ref (g.1 0)), (1, .long a1)]) dX3_put_4 rfl (by decide) rfl ?_
  refine xm_iload_n hX 0 dX3_put_5 rfl rfl ?_
  refine xm_if_ne hX (tgt := 12) dX3_put_6 rfl ?_ ?_
  · refine xm_aload_n hX 1 dX3_put_12 rfl rfl ?_
    refine xm_get hX (k := 0) (ci := 3) (j := 4) (C := RX3) (T := TX3) (N := 6) (v := .ref (g.1 69)) (hL _ _ cL_0) rfl rfl rfl (by decide) (fun z hz => List.mem_cons_of_mem _ (iw_X3 z hz)) (List.mem_cons_of_mem _ gm_132) dX3_put_13 ?_
    refine xm_get hX (k := 69) (ci := 0) (j := 1) (C := RX0) (T := TX0) (N := 5) (v := .int (M1.1 69 1)) (hL _ _ cL_69) rfl rfl rfl (by decide) (fun z hz => List.mem_cons_of_mem _ (iw_X0 z hz)) (List.mem_cons_of_mem _ gm_113) dX3_put_16 ?_
    refine xm_iload_n hX 0 dX3_put_19 rfl rfl ?_
    refine xm_iadd hX dX3_put_20 ?_
    refine xm_bipush hX (v := 100) rfl dX3_put_21 ?_
    refine xm_icmp_le hX (tgt := 29) dX3_put_23 rfl ?_ ?_
    · refine xm_aload_n hX 1 dX3_put_29 rfl rfl ?_
      refine xm_get hX (k := 0) (ci := 3) (j := 4) (C := RX3) (T := TX3) (N := 6) (v := .ref (g.1 69)) (hL _ _ cL_0) rfl rfl rfl (by decide) (fun z hz => List.mem_cons_of_mem _ (iw_X3 z hz)) (List.mem_cons_of_mem _ gm_132) dX3_put_30 ?_
      refine xm_lload_n hX 2 dX3_put_33 rfl rfl ?_
      refine xm_iload_n hX 0 dX3_put_34 rfl rfl ?_
      refine xm_callv hX (xm_runV hX (k := 69) (ci := 0) (As := (fun g => [.long a1, .int x2])) (kX0_append hL a1 x2 M1) (hL _ _ cL_69) rfl (xm_gV gm_438 gm_439 gm_440 gm_4 gm_441) rfl ⟨rfl, rfl⟩ ⟨rfl, hdX0_append⟩ ⟨Nat.le_of_ble_eq_true rfl, Nat.le_of_ble_eq_true rfl⟩ rfl (Nat.le_of_ble_eq_true rfl) rfl ⟨Nat.le_of_ble_eq_true rfl, Nat.le_of_ble_eq_true rfl⟩ dX3_put_35) (fun M3 => ?_)
      refine xm_aload_n hX 1 dX3_put_38 rfl rfl ?_
      refine xm_get hX (k := 0) (ci := 3) (j := 4) (C := RX3) (T := TX3) (N := 6) (v := .ref (g.1 69)) (hL _ _ cL_0) rfl rfl rfl (by decide) (fun z hz => List.mem_cons_of_mem _ (iw_X3 z hz)) (List.mem_cons_of_mem _ gm_132) dX3_put_39 ?_
      refine xm_get hX (k := 69) (ci := 0) (j := 1) (C := RX0) (T := TX0) (N := 5) (v := .int (M3.1 69 1)) (hL _ _ cL_69) rfl rfl rfl (by decide) (fun z hz => List.mem_cons_of_mem _ (iw_X0 z hz)) (List.mem_cons_of_mem _ gm_113) dX3_put_42 ?_
      exact xm_iret hX dX3_put_45
    · refine xm_bipush hX (v := -4) rfl dX3_put_26 ?_
      exact xm_iret hX dX3_put_28
  · refine xm_bipush hX (v := -2) rfl dX3_put_9 ?_
    exact xm_iret hX dX3_put_11
-- ===== OdometryDesk.slotOf(I)LOdometryDesk$State; ['0']
theorem dX3_slotOf_0 : decode cX3_slotOf 0 = .ok (.iload_n 1, 1) := by decide +kernel
theorem dX3_slotOf_1 : decode cX3_slotOf 1 = .ok (.ifCond .ne 10, 3) := by decide +kernel
theorem dX3_slotOf_4 : decode cX3_slotOf 4 = .ok (.aload_n 0, 1) := by decide +kernel
theorem dX3_slotOf_5 : decode cX3_slotOf 5 = .ok (.getfield 16, 3) := by decide +kernel
theorem dX3_slotOf_8 : decode cX3_slotOf 8 = .ok (.goto 7, 3) := by decide +kernel
theorem dX3_slotOf_11 : decode cX3_slotOf 11 = .ok (.aload_n 0, 1) := by decide +kernel
theorem dX3_slotOf_12 : decode cX3_slotOf 12 = .ok (.getfield 19, 3) := by decide +kernel
theorem dX3_slotOf_15 : decode cX3_slotOf 15 = .ok (.areturn, 1) := by decide +kernel
abbrev wX3_slotOf : List Cond := .code yX3_slotOf cX3_slotOf 2 (some (.object "OdometryDesk$State")) :: lw_gd
theorem hdX3_slotOf : (yX3_slotOf.cls ≠ "java/lang/invoke/MethodHandle" ∧ yX3_slotOf.cls ≠ "java/lang/invoke/VarHandle" ∧ (parseMethodDescriptor yX3_slotOf.desc).map (fun d => d.parameters.length) = some 1) := by decide +kernel
def fX3_slotOf  (a1 : Int32) (M : xm_M) : Option (Nat × xm_M) :=
  if a1 = 0 then some (17, M) else some (33, M)
set_option maxRecDepth 20000 in
theorem kX3_slotOf {l : Launch} {L : List xm_Sh} (hL : xm_pre L)   (a1 : Int32) (M : xm_M) : xm_C l yX3_slotOf wX3_slotOf ({ frames := 0, cells := 0, slots := 0, locals := 0 }) L (fun g => [.ref (g.1 0), .int a1]) M xm_Fr (fX3_slotOf  a1 M) := by
  refine xm_C.of (by decide) rfl (fun g => Nat.le_of_ble_eq_true rfl) ?_
  intro p e s m args below meth c D g A hX
  refine xm_lv (lv' := [(0, .ref (g.1 0)), (1, .int a1)]) rfl ?_
  unfold fX3_slotOf
  refine xm_iload_n hX 1 dX3_slotOf_0 rfl rfl ?_
  refine xm_if_ne hX (tgt := 11) dX3_slotOf_1 rfl ?_ ?_
  · refine xm_aload_n hX 0 dX3_slotOf_11 rfl rfl ?_
    refine xm_get hX (k := 0) (ci := 3) (j := 2) (C := RX3) (T := TX3) (N := 6) (v := .ref (g.1 33)) (hL _ _ cL_0) rfl rfl rfl (by decide) (fun z hz => List.mem_cons_of_mem _ (iw_X3 z hz)) (List.mem_cons_of_mem _ gm_130) dX3_slotOf_12 ?_
    exact xm_aret hX dX3_slotOf_15
  · refine xm_aload_n hX 0 dX3_slotOf_4 rfl rfl ?_
    refine xm_get hX (k := 0) (ci := 3) (j := 1) (C := RX3) (T := TX3) (N := 6) (v := .ref (g.1 17)) (hL _ _ cL_0) rfl rfl rfl (by decide) (fun z hz => List.mem_cons_of_mem _ (iw_X3 z hz)) (List.mem_cons_of_mem _ gm_129) dX3_slotOf_5 ?_
    refine xm_goto hX (tgt := 15) dX3_slotOf_8 rfl ?_
    exact xm_aret hX dX3_slotOf_15
-- ===== OdometryDesk.copy([[I[[I)V ['19', '3']
theorem dX3_copy__0 : decode cX3_copy_ 0 = .ok (.iconst 0, 1) := by decide +kernel
theorem dX3_copy__1 : decode cX3_copy_ 1 = .ok (.istore_n 2, 1) := by decide +kernel
theorem dX3_copy__2 : decode cX3_copy_ 2 = .ok (.iload_n 2, 1) := by decide +kernel
theorem dX3_copy__3 : decode cX3_copy_ 3 = .ok (.aload_n 0, 1) := by decide +kernel
theorem dX3_copy__4 : decode cX3_copy_ 4 = .ok (.arraylength, 1) := by decide +kernel
theorem dX3_copy__5 : decode cX3_copy_ 5 = .ok (.if_icmp .ge 24, 3) := by decide +kernel
theorem dX3_copy__8 : decode cX3_copy_ 8 = .ok (.iload_n 2, 1) := by decide +kernel
theorem dX3_copy__9 : decode cX3_copy_ 9 = .ok (.aload_n 1, 1) := by decide +kernel
theorem dX3_copy__10 : decode cX3_copy_ 10 = .ok (.arraylength, 1) := by decide +kernel
theorem dX3_copy__11 : decode cX3_copy_ 11 = .ok (.if_icmp .ge 18, 3) := by decide +kernel
theorem dX3_copy__14 : decode cX3_copy_ 14 = .ok (.aload_n 0, 1) := by decide +kernel
theorem dX3_copy__15 : decode cX3_copy_ 15 = .ok (.iload_n 2, 1) := by decide +kernel
theorem dX3_copy__16 : decode cX3_copy_ 16 = .ok (.aaload, 1) := by decide +kernel
theorem dX3_copy__17 : decode cX3_copy_ 17 = .ok (.aload_n 1, 1) := by decide +kernel
theorem dX3_copy__18 : decode cX3_copy_ 18 = .ok (.iload_n 2, 1) := by decide +kernel
theorem dX3_copy__19 : decode cX3_copy_ 19 = .ok (.aaload, 1) := by decide +kernel
theorem dX3_copy__20 : decode cX3_copy_ 20 = .ok (.invokestatic 215, 3) := by decide +kernel
theorem dX3_copy__23 : decode cX3_copy_ 23 = .ok (.iinc 2 1, 3) := by decide +kernel
theorem dX3_copy__26 : decode cX3_copy_ 26 = .ok (.goto (-24), 3) := by decide +kernel
theorem dX3_copy__29 : decode cX3_copy_ 29 = .ok (.return_, 1) := by decide +kernel
abbrev wX3_copy_ : List Cond := .code yX3_copy_ cX3_copy_ 3 none :: lw_gd
theorem hdX3_copy_ : (yX3_copy_.cls ≠ "java/lang/invoke/MethodHandle" ∧ yX3_copy_.cls ≠ "java/lang/invoke/VarHandle" ∧ (parseMethodDescriptor yX3_copy_.desc).map (fun d => d.parameters.length) = some 2) := by decide +kernel
def fX3_copy__2 (k : Nat) (N : Nat) (k0 : Nat) (n : Nat) (j : Nat) (Nj : Nat) (j0 : Nat) (nj : Nat) (k2 : Int32 → xm_M → Option xm_M) (b2 : Int32) (M : xm_M) : Option xm_M :=
  if ((Int32.ofNat N)) ≤ b2 then some M else if ((Int32.ofNat Nj)) ≤ b2 then some M else if b2 < 0 ∨ N ≤ b2.toNatClampNeg then none else if b2 < 0 ∨ Nj ≤ b2.toNatClampNeg then none else xm_bv (fX3_copy (k0 + b2.toNatClampNeg) n (j0 + b2.toNatClampNeg) nj M) (fun M4 => xm_lt (b2 + Int32.ofInt 1) (fun x5 => k2 x5 M4))
set_option maxRecDepth 20000 in
theorem tfX3_copy__2 {p : Program} {l : Launch} {e : Env} {s : State} {m : MethodId} {args : Array Value} {below : List Frame} {meth : Method} {c : Code} {D : va_G} {g : xm_G} {A : Nat → Prop} (k : Nat) (N : Nat) (k0 : Nat) (n : Nat) (j : Nat) (Nj : Nat) (j0 : Nat) (nj : Nat) {L : List xm_Sh} (hL : xm_pre L) (hX : xm_X p m meth c cX3_copy_ 3 s args wX3_copy_ RX3 none D L g A) (hk : L[k]? = some (.inr (.inl (N, k0)))) (rk : ∀ i, i < N → L[k0 + i]? = some (.inl (0, .int, n))) (hj : L[j]? = some (.inr (.inl (Nj, j0)))) (rj : ∀ i, i < Nj → L[j0 + i]? = some (.inl (0, .int, nj))) (k2 : Int32 → xm_M → Option xm_M) (h2 : ∀ (b2 : Int32), ∀ (M : xm_M), xm_J p l e ({ frames := 2, cells := 0, slots := 0, locals := 39 }) s m args below meth c 3 D L g A (xm_Z below args s D L g A (xm_Fv g)) 2 [(0, .ref (g.1 k)), (1, .ref (g.1 j)), (2, .int b2)] [] M (k2 b2 M)) : ∀ (b2 : Int32), ∀ (M : xm_M), xm_J p l e ({ frames := 2, cells := 0, slots := 0, locals := 39 }) s m args below meth c 3 D L g A (xm_Z below args s D L g A (xm_Fv g)) 2 [(0, .ref (g.1 k)), (1, .ref (g.1 j)), (2, .int b2)] [] M (fX3_copy__2 k N k0 n j Nj j0 nj k2 b2 M) := by
  intro b2 M
  unfold fX3_copy__2
  refine xm_iload_n hX 2 dX3_copy__2 rfl rfl ?_
  refine xm_aload_n hX 0 dX3_copy__3 rfl rfl ?_
  refine xm_alenR hX (v := (Int32.ofNat N)) hk rfl dX3_copy__4 ?_
  refine xm_icmp_ge hX (tgt := 29) dX3_copy__5 rfl ?_ ?_
  · exact xm_vret hX dX3_copy__29
  · refine xm_iload_n hX 2 dX3_copy__8 rfl rfl ?_
    refine xm_aload_n hX 1 dX3_copy__9 rfl rfl ?_
    refine xm_alenR hX (v := (Int32.ofNat Nj)) hj rfl dX3_copy__10 ?_
    refine xm_icmp_ge hX (tgt := 29) dX3_copy__11 rfl ?_ ?_
    · exact xm_vret hX dX3_copy__29
    · refine xm_aload_n hX 0 dX3_copy__14 rfl rfl ?_
      refine xm_iload_n hX 2 dX3_copy__15 rfl rfl ?_
      refine xm_aald hX (N := N) (k0 := k0) hk dX3_copy__16 (fun q2 => ?_)
      refine xm_aload_n hX 1 dX3_copy__17 rfl rfl ?_
      refine xm_iload_n hX 2 dX3_copy__18 rfl rfl ?_
      refine xm_aald hX (N := Nj) (k0 := j0) hj dX3_copy__19 (fun q3 => ?_)
      refine xm_callv hX (xm_runS hX (As := (fun g => [.ref (g.1 (k0 + b2.toNatClampNeg)), .ref (g.1 (j0 + b2.toNatClampNeg))])) (kX3_copy hL (k0 + b2.toNatClampNeg) n (j0 + b2.toNatClampNeg) nj (rk _ q2) (rj _ q3) M) (xm_gS gm_382 gm_383 gm_1 gm_384) rfl ⟨rfl, rfl⟩ hdX3_copy ⟨Nat.le_of_ble_eq_true rfl, Nat.le_of_ble_eq_true rfl⟩ rfl (Nat.le_of_ble_eq_true rfl) rfl ⟨Nat.le_of_ble_eq_true rfl, Nat.le_of_ble_eq_true rfl⟩ dX3_copy__20) (fun M4 => ?_)
      refine xm_iinc hX (lv2 := fun x5 => [(2, .int x5), (0, .ref (g.1 k)), (1, .ref (g.1 j))]) 2 dX3_copy__23 rfl (by decide) (fun _ => rfl) (fun x5 => ?_)
      refine xm_goto hX (tgt := 2) dX3_copy__26 rfl ?_
      refine xm_weak [1, 2, 0] (lv' := [(0, .ref (g.1 k)), (1, .ref (g.1 j)), (2, .int x5)]) rfl ?_
      exact h2 x5 M4
def fX3_copy__2_it (k : Nat) (N : Nat) (k0 : Nat) (n : Nat) (j : Nat) (Nj : Nat) (j0 : Nat) (nj : Nat)  (nq : Nat) : Int32 → xm_M → Option xm_M := xm_it (fun kq => fX3_copy__2 k N k0 n j Nj j0 nj kq) (fun _ _ => none) nq
theorem tfX3_copy__2_it {p : Program} {l : Launch} {e : Env} {s : State} {m : MethodId} {args : Array Value} {below : List Frame} {meth : Method} {c : Code} {D : va_G} {g : xm_G} {A : Nat → Prop} (k : Nat) (N : Nat) (k0 : Nat) (n : Nat) (j : Nat) (Nj : Nat) (j0 : Nat) (nj : Nat) {L : List xm_Sh} (hL : xm_pre L) (hX : xm_X p m meth c cX3_copy_ 3 s args wX3_copy_ RX3 none D L g A) (hk : L[k]? = some (.inr (.inl (N, k0)))) (rk : ∀ i, i < N → L[k0 + i]? = some (.inl (0, .int, n))) (hj : L[j]? = some (.inr (.inl (Nj, j0)))) (rj : ∀ i, i < Nj → L[j0 + i]? = some (.inl (0, .int, nj)))   : ∀ (nq : Nat), ∀ (b2 : Int32), ∀ (M : xm_M), xm_J p l e ({ frames := 2, cells := 0, slots := 0, locals := 39 }) s m args below meth c 3 D L g A (xm_Z below args s D L g A (xm_Fv g)) 2 [(0, .ref (g.1 k)), (1, .ref (g.1 j)), (2, .int b2)] [] M (fX3_copy__2_it k N k0 n j Nj j0 nj nq b2 M) := by
  intro nq
  induction nq with
  | zero => exact fun _ _ => xm_none
  | succ nq ih => exact tfX3_copy__2 k N k0 n j Nj j0 nj hL hX hk rk hj rj _ ih
def fX3_copy_ (k : Nat) (N : Nat) (k0 : Nat) (n : Nat) (j : Nat) (Nj : Nat) (j0 : Nat) (nj : Nat)  (M : xm_M) : Option xm_M :=
  xm_lt ((0 : Int32)) (fun x1 => fX3_copy__2_it k N k0 n j Nj j0 nj xm_N x1 M)
set_option maxRecDepth 20000 in
theorem kX3_copy_ {l : Launch} {L : List xm_Sh} (hL : xm_pre L) (k : Nat) (N : Nat) (k0 : Nat) (n : Nat) (j : Nat) (Nj : Nat) (j0 : Nat) (nj : Nat) (hk : L[k]? = some (.inr (.inl (N, k0)))) (rk : ∀ i, i < N → L[k0 + i]? = some (.inl (0, .int, n))) (hj : L[j]? = some (.inr (.inl (Nj, j0)))) (rj : ∀ i, i < Nj → L[j0 + i]? = some (.inl (0, .int, nj)))  (M : xm_M) : xm_C l yX3_copy_ wX3_copy_ ({ frames := 2, cells := 0, slots := 0, locals := 39 }) L (fun g => [.ref (g.1 k), .ref (g.1 j)]) M xm_Fv (fX3_copy_ k N k0 n j Nj j0 nj  M) := by
  refine xm_C.of (by decide) rfl (fun g => Nat.le_of_ble_eq_true rfl) ?_
  intro p e s m args below meth c D g A hX
  refine xm_lv (lv' := [(0, .ref (g.1 k)), (1, .ref (g.1 j))]) rfl ?_
  unfold fX3_copy_
  refine xm_iconst hX (v := 0) rfl dX3_copy__0 ?_
  refine xm_nmi (fun x1 => ?_)
  refine xm_istore_n hX (lv' := [(2, .int x1), (0, .ref (g.1 k)), (1, .ref (g.1 j))]) dX3_copy__1 rfl (by decide) rfl ?_
  refine xm_weak [1, 2, 0] (lv' := [(0, .ref (g.1 k)), (1, .ref (g.1 j)), (2, .int x1)]) rfl ?_
  exact tfX3_copy__2_it k N k0 n j Nj j0 nj hL hX hk rk hj rj xm_N x1 M
-- ===== OdometryDesk$State.takeOver(LOdometryDesk$State;)V ['1', '17']
theorem dX1_takeOver_0 : decode cX1_takeOver 0 = .ok (.aload_n 1, 1) := by decide +kernel
theorem dX1_takeOver_1 : decode cX1_takeOver 1 = .ok (.getfield 18, 3) := by decide +kernel
theorem dX1_takeOver_4 : decode cX1_takeOver 4 = .ok (.aload_n 0, 1) := by decide +kernel
theorem dX1_takeOver_5 : decode cX1_takeOver 5 = .ok (.getfield 18, 3) := by decide +kernel
theorem dX1_takeOver_8 : decode cX1_takeOver 8 = .ok (.invokestatic 34, 3) := by decide +kernel
theorem dX1_takeOver_11 : decode cX1_takeOver 11 = .ok (.aload_n 1, 1) := by decide +kernel
theorem dX1_takeOver_12 : decode cX1_takeOver 12 = .ok (.getfield 25, 3) := by decide +kernel
theorem dX1_takeOver_15 : decode cX1_takeOver 15 = .ok (.aload_n 0, 1) := by decide +kernel
theorem dX1_takeOver_16 : decode cX1_takeOver 16 = .ok (.getfield 25, 3) := by decide +kernel
theorem dX1_takeOver_19 : decode cX1_takeOver 19 = .ok (.invokestatic 38, 3) := by decide +kernel
theorem dX1_takeOver_22 : decode cX1_takeOver 22 = .ok (.aload_n 1, 1) := by decide +kernel
theorem dX1_takeOver_23 : decode cX1_takeOver 23 = .ok (.getfield 28, 3) := by decide +kernel
theorem dX1_takeOver_26 : decode cX1_takeOver 26 = .ok (.aload_n 0, 1) := by decide +kernel
theorem dX1_takeOver_27 : decode cX1_takeOver 27 = .ok (.getfield 28, 3) := by decide +kernel
theorem dX1_takeOver_30 : decode cX1_takeOver 30 = .ok (.invokestatic 38, 3) := by decide +kernel
theorem dX1_takeOver_33 : decode cX1_takeOver 33 = .ok (.aload_n 1, 1) := by decide +kernel
theorem dX1_takeOver_34 : decode cX1_takeOver 34 = .ok (.getfield 31, 3) := by decide +kernel
theorem dX1_takeOver_37 : decode cX1_takeOver 37 = .ok (.aload_n 0, 1) := by decide +kernel
theorem dX1_takeOver_38 : decode cX1_takeOver 38 = .ok (.getfield 31, 3) := by decide +kernel
theorem dX1_takeOver_41 : decode cX1_takeOver 41 = .ok (.invokestatic 38, 3) := by decide +kernel
theorem dX1_takeOver_44 : decode cX1_takeOver 44 = .ok (.aload_n 0, 1) := by decide +kernel
theorem dX1_takeOver_45 : decode cX1_takeOver 45 = .ok (.aload_n 1, 1) := by decide +kernel
theorem dX1_takeOver_46 : decode cX1_takeOver 46 = .ok (.getfield 41, 3) := by decide +kernel
theorem dX1_takeOver_49 : decode cX1_takeOver 49 = .ok (.putfield 41, 3) := by decide +kernel
theorem dX1_takeOver_52 : decode cX1_takeOver 52 = .ok (.aload_n 0, 1) := by decide +kernel
theorem dX1_takeOver_53 : decode cX1_takeOver 53 = .ok (.aload_n 1, 1) := by decide +kernel
theorem dX1_takeOver_54 : decode cX1_takeOver 54 = .ok (.getfield 45, 3) := by decide +kernel
theorem dX1_takeOver_57 : decode cX1_takeOver 57 = .ok (.putfield 45, 3) := by decide +kernel
theorem dX1_takeOver_60 : decode cX1_takeOver 60 = .ok (.aload_n 0, 1) := by decide +kernel
theorem dX1_takeOver_61 : decode cX1_takeOver 61 = .ok (.aload_n 1, 1) := by decide +kernel
theorem dX1_takeOver_62 : decode cX1_takeOver 62 = .ok (.getfield 48, 3) := by decide +kernel
theorem dX1_takeOver_65 : decode cX1_takeOver 65 = .ok (.putfield 48, 3) := by decide +kernel
theorem dX1_takeOver_68 : decode cX1_takeOver 68 = .ok (.aload_n 0, 1) := by decide +kernel
theorem dX1_takeOver_69 : decode cX1_takeOver 69 = .ok (.aload_n 1, 1) := by decide +kernel
theorem dX1_takeOver_70 : decode cX1_takeOver 70 = .ok (.getfield 51, 3) := by decide +kernel
theorem dX1_takeOver_73 : decode cX1_takeOver 73 = .ok (.putfield 51, 3) := by decide +kernel
theorem dX1_takeOver_76 : decode cX1_takeOver 76 = .ok (.aload_n 0, 1) := by decide +kernel
theorem dX1_takeOver_77 : decode cX1_takeOver 77 = .ok (.aload_n 1, 1) := by decide +kernel
theorem dX1_takeOver_78 : decode cX1_takeOver 78 = .ok (.getfield 54, 3) := by decide +kernel
theorem dX1_takeOver_81 : decode cX1_takeOver 81 = .ok (.putfield 54, 3) := by decide +kernel
theorem dX1_takeOver_84 : decode cX1_takeOver 84 = .ok (.aload_n 0, 1) := by decide +kernel
theorem dX1_takeOver_85 : decode cX1_takeOver 85 = .ok (.aload_n 1, 1) := by decide +kernel
theorem dX1_takeOver_86 : decode cX1_takeOver 86 = .ok (.getfield 57, 3) := by decide +kernel
theorem dX1_takeOver_89 : decode cX1_takeOver 89 = .ok (.putfield 57, 3) := by decide +kernel
theorem dX1_takeOver_92 : decode cX1_takeOver 92 = .ok (.return_, 1) := by decide +kernel
abbrev wX1_takeOver : List Cond := .code yX1_takeOver cX1_takeOver 2 none :: lw_gd
theorem hdX1_takeOver : (yX1_takeOver.cls ≠ "java/lang/invoke/MethodHandle" ∧ yX1_takeOver.cls ≠ "java/lang/invoke/VarHandle" ∧ (parseMethodDescriptor yX1_takeOver.desc).map (fun d => d.parameters.length) = some 1) := by decide +kernel
def fX1_takeOver_1_17   (M : xm_M) : Option xm_M :=
  xm_bv (fX3_copy 18 9 2 9 M) (fun M1 => xm_bv (fX3_copy_ 19 5 20 8 3 5 4 8 M1) (fun M2 => xm_bv (fX3_copy_ 25 2 26 6 9 2 10 6 M2) (fun M3 => xm_bv (fX3_copy_ 28 4 29 120 12 4 13 120 M3) (fun M4 => xm_lt (xm_s M4 1 4 (M4.1 17 4)) (fun M5 => xm_lt (xm_s M5 1 5 (M5.1 17 5)) (fun M6 => xm_lt (xm_s M6 1 6 (M6.1 17 6)) (fun M7 => xm_lt (xm_s M7 1 7 (M7.1 17 7)) (fun M8 => xm_lt (xm_s M8 1 8 (M8.1 17 8)) (fun M9 => xm_lt (xm_s M9 1 9 (M9.1 17 9)) (fun M10 => some M10))))))))))
set_option maxRecDepth 20000 in
theorem kX1_takeOver_1_17 {l : Launch} {L : List xm_Sh} (hL : xm_pre L)    (M : xm_M) : xm_C l yX1_takeOver wX1_takeOver ({ frames := 3, cells := 0, slots := 0, locals := 61 }) L (fun g => [.ref (g.1 1), .ref (g.1 17)]) M xm_Fv (fX1_takeOver_1_17   M) := by
  refine xm_C.of (by decide) rfl (fun g => Nat.le_of_ble_eq_true rfl) ?_
  intro p e s m args below meth c D g A hX
  refine xm_lv (lv' := [(0, .ref (g.1 1)), (1, .ref (g.1 17))]) rfl ?_
  unfold fX1_takeOver_1_17
  refine xm_aload_n hX 1 dX1_takeOver_0 rfl rfl ?_
  refine xm_get hX (k := 17) (ci := 1) (j := 0) (C := RX1) (T := TX1) (N := 11) (v := .ref (g.1 18)) (hL _ _ cL_17) rfl rfl rfl (by decide) (fun z hz => List.mem_cons_of_mem _ (iw_X1 z hz)) (List.mem_cons_of_mem _ gm_28) dX1_takeOver_1 ?_
  refine xm_aload_n hX 0 dX1_takeOver_4 rfl rfl ?_
  refine xm_get hX (k := 1) (ci := 1) (j := 0) (C := RX1) (T := TX1) (N := 11) (v := .ref (g.1 2)) (hL _ _ cL_1) rfl rfl rfl (by decide) (fun z hz => List.mem_cons_of_mem _ (iw_X1 z hz)) (List.mem_cons_of_mem _ gm_28) dX1_takeOver_5 ?_
  refine xm_callv hX (xm_runSN hX (As := (fun g => [.ref (g.1 18), .ref (g.1 2)])) (kX3_copy hL 18 9 2 9 (hL _ _ cL_18) (hL _ _ cL_2) M) (xm_gN gm_384) rfl ⟨rfl, rfl⟩ nw_11 (List.mem_cons_of_mem _ gm_1) (List.mem_cons_of_mem _ gm_383) hdX3_copy ⟨Nat.le_of_ble_eq_true rfl, Nat.le_of_ble_eq_true rfl⟩ rfl (Nat.le_of_ble_eq_true rfl) rfl ⟨Nat.le_of_ble_eq_true rfl, Nat.le_of_ble_eq_true rfl⟩ dX1_takeOver_8) (fun M1 => ?_)
  refine xm_aload_n hX 1 dX1_takeOver_11 rfl rfl ?_
  refine xm_get hX (k := 17) (ci := 1) (j := 1) (C := RX1) (T := TX1) (N := 11) (v := .ref (g.1 19)) (hL _ _ cL_17) rfl rfl rfl (by decide) (fun z hz => List.mem_cons_of_mem _ (iw_X1 z hz)) (List.mem_cons_of_mem _ gm_30) dX1_takeOver_12 ?_
  refine xm_aload_n hX 0 dX1_takeOver_15 rfl rfl ?_
  refine xm_get hX (k := 1) (ci := 1) (j := 1) (C := RX1) (T := TX1) (N := 11) (v := .ref (g.1 3)) (hL _ _ cL_1) rfl rfl rfl (by decide) (fun z hz => List.mem_cons_of_mem _ (iw_X1 z hz)) (List.mem_cons_of_mem _ gm_30) dX1_takeOver_16 ?_
  refine xm_callv hX (xm_runSN hX (As := (fun g => [.ref (g.1 19), .ref (g.1 3)])) (kX3_copy_ hL 19 5 20 8 3 5 4 8 (hL _ _ cL_19) (cL_rowsL_19 hL) (hL _ _ cL_3) (cL_rowsL_3 hL) M1) (xm_gN gm_420) rfl ⟨rfl, rfl⟩ nw_12 (List.mem_cons_of_mem _ gm_1) (List.mem_cons_of_mem _ gm_419) hdX3_copy_ ⟨Nat.le_of_ble_eq_true rfl, Nat.le_of_ble_eq_true rfl⟩ rfl (Nat.le_of_ble_eq_true rfl) rfl ⟨Nat.le_of_ble_eq_true rfl, Nat.le_of_ble_eq_true rfl⟩ dX1_takeOver_19) (fun M2 => ?_)
  refine xm_aload_n hX 1 dX1_takeOver_22 rfl rfl ?_
  refine xm_get hX (k := 17) (ci := 1) (j := 2) (C := RX1) (T := TX1) (N := 11) (v := .ref (g.1 25)) (hL _ _ cL_17) rfl rfl rfl (by decide) (fun z hz => List.mem_cons_of_mem _ (iw_X1 z hz)) (List.mem_cons_of_mem _ gm_33) dX1_takeOver_23 ?_
  refine xm_aload_n hX 0 dX1_takeOver_26 rfl rfl ?_
  refine xm_get hX (k := 1) (ci := 1) (j := 2) (C := RX1) (T := TX1) (N := 11) (v := .ref (g.1 9)) (hL _ _ cL_1) rfl rfl rfl (by decide) (fun z hz => List.mem_cons_of_mem _ (iw_X1 z hz)) (List.mem_cons_of_mem _ gm_33) dX1_takeOver_27 ?_
  refine xm_callv hX (xm_runSN hX (As := (fun g => [.ref (g.1 25), .ref (g.1 9)])) (kX3_copy_ hL 25 2 26 6 9 2 10 6 (hL _ _ cL_25) (cL_rowsL_25 hL) (hL _ _ cL_9) (cL_rowsL_9 hL) M2) (xm_gN gm_420) rfl ⟨rfl, rfl⟩ nw_12 (List.mem_cons_of_mem _ gm_1) (List.mem_cons_of_mem _ gm_419) hdX3_copy_ ⟨Nat.le_of_ble_eq_true rfl, Nat.le_of_ble_eq_true rfl⟩ rfl (Nat.le_of_ble_eq_true rfl) rfl ⟨Nat.le_of_ble_eq_true rfl, Nat.le_of_ble_eq_true rfl⟩ dX1_takeOver_30) (fun M3 => ?_)
  refine xm_aload_n hX 1 dX1_takeOver_33 rfl rfl ?_
  refine xm_get hX (k := 17) (ci := 1) (j := 3) (C := RX1) (T := TX1) (N := 11) (v := .ref (g.1 28)) (hL _ _ cL_17) rfl rfl rfl (by decide) (fun z hz => List.mem_cons_of_mem _ (iw_X1 z hz)) (List.mem_cons_of_mem _ gm_36) dX1_takeOver_34 ?_
  refine xm_aload_n hX 0 dX1_takeOver_37 rfl rfl ?_
  refine xm_get hX (k := 1) (ci := 1) (j := 3) (C := RX1) (T := TX1) (N := 11) (v := .ref (g.1 12)) (hL _ _ cL_1) rfl rfl rfl (by decide) (fun z hz => List.mem_cons_of_mem _ (iw_X1 z hz)) (List.mem_cons_of_mem _ gm_36) dX1_takeOver_38 ?_
  refine xm_callv hX (xm_runSN hX (As := (fun g => [.ref (g.1 28), .ref (g.1 12)])) (kX3_copy_ hL 28 4 29 120 12 4 13 120 (hL _ _ cL_28) (cL_rowsL_28 hL) (hL _ _ cL_12) (cL_rowsL_12 hL) M3) (xm_gN gm_420) rfl ⟨rfl, rfl⟩ nw_12 (List.mem_cons_of_mem _ gm_1) (List.mem_cons_of_mem _ gm_419) hdX3_copy_ ⟨Nat.le_of_ble_eq_true rfl, Nat.le_of_ble_eq_true rfl⟩ rfl (Nat.le_of_ble_eq_true rfl) rfl ⟨Nat.le_of_ble_eq_true rfl, Nat.le_of_ble_eq_true rfl⟩ dX1_takeOver_41) (fun M4 => ?_)
  refine xm_aload_n hX 0 dX1_takeOver_44 rfl rfl ?_
  refine xm_aload_n hX 1 dX1_takeOver_45 rfl rfl ?_
  refine xm_get hX (k := 17) (ci := 1) (j := 4) (C := RX1) (T := TX1) (N := 11) (v := .int (M4.1 17 4)) (hL _ _ cL_17) rfl rfl rfl (by decide) (fun z hz => List.mem_cons_of_mem _ (iw_X1 z hz)) (List.mem_cons_of_mem _ gm_38) dX1_takeOver_46 ?_
  refine xm_puti hX (k := 1) (ci := 1) (j := 4) (C := RX1) (T := TX1) (N := 11) (t0 := tyX1) (hL _ _ cL_1) rfl rfl (by decide) (fun z hz => List.mem_cons_of_mem _ (iw_X1 z hz)) tyX1_ok nmX1 rfl rfl (List.mem_cons_of_mem _ gm_38) dX1_takeOver_49 (fun M5 => ?_)
  refine xm_aload_n hX 0 dX1_takeOver_52 rfl rfl ?_
  refine xm_aload_n hX 1 dX1_takeOver_53 rfl rfl ?_
  refine xm_get hX (k := 17) (ci := 1) (j := 5) (C := RX1) (T := TX1) (N := 11) (v := .int (M5.1 17 5)) (hL _ _ cL_17) rfl rfl rfl (by decide) (fun z hz => List.mem_cons_of_mem _ (iw_X1 z hz)) (List.mem_cons_of_mem _ gm_41) dX1_takeOver_54 ?_
  refine xm_puti hX (k := 1) (ci := 1) (j := 5) (C := RX1) (T := TX1) (N := 11) (t0 := tyX1) (hL _ _ cL_1) rfl rfl (by decide) (fun z hz => List.mem_cons_of_mem _ (iw_X1 z hz)) tyX1_ok nmX1 rfl rfl (List.mem_cons_of_mem _ gm_41) dX1_takeOver_57 (fun M6 => ?_)
  refine xm_aload_n hX 0 dX1_takeOver_60 rfl rfl ?_
  refine xm_aload_n hX 1 dX1_takeOver_61 rfl rfl ?_
  refine xm_get hX (k := 17) (ci := 1) (j := 6) (C := RX1) (T := TX1) (N := 11) (v := .int (M6.1 17 6)) (hL _ _ cL_17) rfl rfl rfl (by decide) (fun z hz => List.mem_cons_of_mem _ (iw_X1 z hz)) (List.mem_cons_of_mem _ gm_43) dX1_takeOver_62 ?_
  refine xm_puti hX (k := 1) (ci := 1) (j := 6) (C := RX1) (T := TX1) (N := 11) (t0 := tyX1) (hL _ _ cL_1) rfl rfl (by decide) (fun z hz => List.mem_cons_of_mem _ (iw_X1 z hz)) tyX1_ok nmX1 rfl rfl (List.mem_cons_of_mem _ gm_43) dX1_takeOver_65 (fun M7 => ?_)
  refine xm_aload_n hX 0 dX1_takeOver_68 rfl rfl ?_
  refine xm_aload_n hX 1 dX1_takeOver_69 rfl rfl ?_
  refine xm_get hX (k := 17) (ci := 1) (j := 7) (C := RX1) (T := TX1) (N := 11) (v := .int (M7.1 17 7)) (hL _ _ cL_17) rfl rfl rfl (by decide) (fun z hz => List.mem_cons_of_mem _ (iw_X1 z hz)) (List.mem_cons_of_mem _ gm_47) dX1_takeOver_70 ?_
  refine xm_puti hX (k := 1) (ci := 1) (j := 7) (C := RX1) (T := TX1) (N := 11) (t0 := tyX1) (hL _ _ cL_1) rfl rfl (by decide) (fun z hz => List.mem_cons_of_mem _ (iw_X1 z hz)) tyX1_ok nmX1 rfl rfl (List.mem_cons_of_mem _ gm_47) dX1_takeOver_73 (fun M8 => ?_)
  refine xm_aload_n hX 0 dX1_takeOver_76 rfl rfl ?_
  refine xm_aload_n hX 1 dX1_takeOver_77 rfl rfl ?_
  refine xm_get hX (k := 17) (ci := 1) (j := 8) (C := RX1) (T := TX1) (N := 11) (v := .int (M8.1 17 8)) (hL _ _ cL_17) rfl rfl rfl (by decide) (fun z hz => List.mem_cons_of_mem _ (iw_X1 z hz)) (List.mem_cons_of_mem _ gm_50) dX1_takeOver_78 ?_
  refine xm_puti hX (k := 1) (ci := 1) (j := 8) (C := RX1) (T := TX1) (N := 11) (t0 := tyX1) (hL _ _ cL_1) rfl rfl (by decide) (fun z hz => List.mem_cons_of_mem _ (iw_X1 z hz)) tyX1_ok nmX1 rfl rfl (List.mem_cons_of_mem _ gm_50) dX1_takeOver_81 (fun M9 => ?_)
  refine xm_aload_n hX 0 dX1_takeOver_84 rfl rfl ?_
  refine xm_aload_n hX 1 dX1_takeOver_85 rfl rfl ?_
  refine xm_get hX (k := 17) (ci := 1) (j := 9) (C := RX1) (T := TX1) (N := 11) (v := .int (M9.1 17 9)) (hL _ _ cL_17) rfl rfl rfl (by decide) (fun z hz => List.mem_cons_of_mem _ (iw_X1 z hz)) (List.mem_cons_of_mem _ gm_53) dX1_takeOver_86 ?_
  refine xm_puti hX (k := 1) (ci := 1) (j := 9) (C := RX1) (T := TX1) (N := 11) (t0 := tyX1) (hL _ _ cL_1) rfl rfl (by decide) (fun z hz => List.mem_cons_of_mem _ (iw_X1 z hz)) tyX1_ok nmX1 rfl rfl (List.mem_cons_of_mem _ gm_53) dX1_takeOver_89 (fun M10 => ?_)
  exact xm_vret hX dX1_takeOver_92
-- ===== OdometryDesk$State.takeOver(LOdometryDesk$State;)V ['1', '33']
def fX1_takeOver_1_33   (M : xm_M) : Option xm_M :=
  xm_bv (fX3_copy 34 9 2 9 M) (fun M1 => xm_bv (fX3_copy_ 35 5 36 8 3 5 4 8 M1) (fun M2 => xm_bv (fX3_copy_ 41 2 42 6 9 2 10 6 M2) (fun M3 => xm_bv (fX3_copy_ 44 4 45 120 12 4 13 120 M3) (fun M4 => xm_lt (xm_s M4 1 4 (M4.1 33 4)) (fun M5 => xm_lt (xm_s M5 1 5 (M5.1 33 5)) (fun M6 => xm_lt (xm_s M6 1 6 (M6.1 33 6)) (fun M7 => xm_lt (xm_s M7 1 7 (M7.1 33 7)) (fun M8 => xm_lt (xm_s M8 1 8 (M8.1 33 8)) (fun M9 => xm_lt (xm_s M9 1 9 (M9.1 33 9)) (fun M10 => some M10))))))))))
set_option maxRecDepth 20000 in
theorem kX1_takeOver_1_33 {l : Launch} {L : List xm_Sh} (hL : xm_pre L)    (M : xm_M) : xm_C l yX1_takeOver wX1_takeOver ({ frames := 3, cells := 0, slots := 0, locals := 61 }) L (fun g => [.ref (g.1 1), .ref (g.1 33)]) M xm_Fv (fX1_takeOver_1_33   M) := by
  refine xm_C.of (by decide) rfl (fun g => Nat.le_of_ble_eq_true rfl) ?_
  intro p e s m args below meth c D g A hX
  refine xm_lv (lv' := [(0, .ref (g.1 1)), (1, .ref (g.1 33))]) rfl ?_
  unfold fX1_takeOver_1_33
  refine xm_aload_n hX 1 dX1_takeOver_0 rfl rfl ?_
  refine xm_get hX (k := 33) (ci := 1) (j := 0) (C := RX1) (T := TX1) (N := 11) (v := .ref (g.1 34)) (hL _ _ cL_33) rfl rfl rfl (by decide) (fun z hz => List.mem_cons_of_mem _ (iw_X1 z hz)) (List.mem_cons_of_mem _ gm_28) dX1_takeOver_1 ?_
  refine xm_aload_n hX 0 dX1_takeOver_4 rfl rfl ?_
  refine xm_get hX (k := 1) (ci := 1) (j := 0) (C := RX1) (T := TX1) (N := 11) (v := .ref (g.1 2)) (hL _ _ cL_1) rfl rfl rfl (by decide) (fun z hz => List.mem_cons_of_mem _ (iw_X1 z hz)) (List.mem_cons_of_mem _ gm_28) dX1_takeOver_5 ?_
  refine xm_callv hX (xm_runSN hX (As := (fun g => [.ref (g.1 34), .ref (g.1 2)])) (kX3_copy hL 34 9 2 9 (hL _ _ cL_34) (hL _ _ cL_2) M) (xm_gN gm_384) rfl ⟨rfl, rfl⟩ nw_11 (List.mem_cons_of_mem _ gm_1) (List.mem_cons_of_mem _ gm_383) hdX3_copy ⟨Nat.le_of_ble_eq_true rfl, Nat.le_of_ble_eq_true rfl⟩ rfl (Nat.le_of_ble_eq_true rfl) rfl ⟨Nat.le_of_ble_eq_true rfl, Nat.le_of_ble_eq_true rfl⟩ dX1_takeOver_8) (fun M1 => ?_)
  refine xm_aload_n hX 1 dX1_takeOver_11 rfl rfl ?_
  refine xm_get hX (k := 33) (ci := 1) (j := 1) (C := RX1) (T := TX1) (N := 11) (v := .ref (g.1 35)) (hL _ _ cL_33) rfl rfl rfl (by decide) (fun z hz => List.mem_cons_of_mem _ (iw_X1 z hz)) (List.mem_cons_of_mem _ gm_30) dX1_takeOver_12 ?_
  refine xm_aload_n hX 0 dX1_takeOver_15 rfl rfl ?_
  refine xm_get hX (k := 1) (ci := 1) (j := 1) (C := RX1) (T := TX1) (N := 11) (v := .ref (g.1 3)) (hL _ _ cL_1) rfl rfl rfl (by decide) (fun z hz => List.mem_cons_of_mem _ (iw_X1 z hz)) (List.mem_cons_of_mem _ gm_30) dX1_takeOver_16 ?_
  refine xm_callv hX (xm_runSN hX (As := (fun g => [.ref (g.1 35), .ref (g.1 3)])) (kX3_copy_ hL 35 5 36 8 3 5 4 8 (hL _ _ cL_35) (cL_rowsL_35 hL) (hL _ _ cL_3) (cL_rowsL_3 hL) M1) (xm_gN gm_420) rfl ⟨rfl, rfl⟩ nw_12 (List.mem_cons_of_mem _ gm_1) (List.mem_cons_of_mem _ gm_419) hdX3_copy_ ⟨Nat.le_of_ble_eq_true rfl, Nat.le_of_ble_eq_true rfl⟩ rfl (Nat.le_of_ble_eq_true rfl) rfl ⟨Nat.le_of_ble_eq_true rfl, Nat.le_of_ble_eq_true rfl⟩ dX1_takeOver_19) (fun M2 => ?_)
  refine xm_aload_n hX 1 dX1_takeOver_22 rfl rfl ?_
  refine xm_get hX (k := 33) (ci := 1) (j := 2) (C := RX1) (T := TX1) (N := 11) (v := .ref (g.1 41)) (hL _ _ cL_33) rfl rfl rfl (by decide) (fun z hz => List.mem_cons_of_mem _ (iw_X1 z hz)) (List.mem_cons_of_mem _ gm_33) dX1_takeOver_23 ?_
  refine xm_aload_n hX 0 dX1_takeOver_26 rfl rfl ?_
  refine xm_get hX (k := 1) (ci := 1) (j := 2) (C := RX1) (T := TX1) (N := 11) (v := .ref (g.1 9)) (hL _ _ cL_1) rfl rfl rfl (by decide) (fun z hz => List.mem_cons_of_mem _ (iw_X1 z hz)) (List.mem_cons_of_mem _ gm_33) dX1_takeOver_27 ?_
  refine xm_callv hX (xm_runSN hX (As := (fun g => [.ref (g.1 41), .ref (g.1 9)])) (kX3_copy_ hL 41 2 42 6 9 2 10 6 (hL _ _ cL_41) (cL_rowsL_41 hL) (hL _ _ cL_9) (cL_rowsL_9 hL) M2) (xm_gN gm_420) rfl ⟨rfl, rfl⟩ nw_12 (List.mem_cons_of_mem _ gm_1) (List.mem_cons_of_mem _ gm_419) hdX3_copy_ ⟨Nat.le_of_ble_eq_true rfl, Nat.le_of_ble_eq_true rfl⟩ rfl (Nat.le_of_ble_eq_true rfl) rfl ⟨Nat.le_of_ble_eq_true rfl, Nat.le_of_ble_eq_true rfl⟩ dX1_takeOver_30) (fun M3 => ?_)
  refine xm_aload_n hX 1 dX1_takeOver_33 rfl rfl ?_
  refine xm_get hX (k := 33) (ci := 1) (j := 3) (C := RX1) (T := TX1) (N := 11) (v := .ref (g.1 44)) (hL _ _ cL_33) rfl rfl rfl (by decide) (fun z hz => List.mem_cons_of_mem _ (iw_X1 z hz)) (List.mem_cons_of_mem _ gm_36) dX1_takeOver_34 ?_
  refine xm_aload_n hX 0 dX1_takeOver_37 rfl rfl ?_
  refine xm_get hX (k := 1) (ci := 1) (j := 3) (C := RX1) (T := TX1) (N := 11) (v := .ref (g.1 12)) (hL _ _ cL_1) rfl rfl rfl (by decide) (fun z hz => List.mem_cons_of_mem _ (iw_X1 z hz)) (List.mem_cons_of_mem _ gm_36) dX1_takeOver_38 ?_
  refine xm_callv hX (xm_runSN hX (As := (fun g => [.ref (g.1 44), .ref (g.1 12)])) (kX3_copy_ hL 44 4 45 120 12 4 13 120 (hL _ _ cL_44) (cL_rowsL_44 hL) (hL _ _ cL_12) (cL_rowsL_12 hL) M3) (xm_gN gm_420) rfl ⟨rfl, rfl⟩ nw_12 (List.mem_cons_of_mem _ gm_1) (List.mem_cons_of_mem _ gm_419) hdX3_copy_ ⟨Nat.le_of_ble_eq_true rfl, Nat.le_of_ble_eq_true rfl⟩ rfl (Nat.le_of_ble_eq_true rfl) rfl ⟨Nat.le_of_ble_eq_true rfl, Nat.le_of_ble_eq_true rfl⟩ dX1_takeOver_41) (fun M4 => ?_)
  refine xm_aload_n hX 0 dX1_takeOver_44 rfl rfl ?_
  refine xm_aload_n hX 1 dX1_takeOver_45 rfl rfl ?_
  refine xm_get hX (k := 33) (ci := 1) (j := 4) (C := RX1) (T := TX1) (N := 11) (v := .int (M4.1 33 4)) (hL _ _ cL_33) rfl rfl rfl (by decide) (fun z hz => List.mem_cons_of_mem _ (iw_X1 z hz)) (List.mem_cons_of_mem _ gm_38) dX1_takeOver_46 ?_
  refine xm_puti hX (k := 1) (ci := 1) (j := 4) (C := RX1) (T := TX1) (N := 11) (t0 := tyX1) (hL _ _ cL_1) rfl rfl (by decide) (fun z hz => List.mem_cons_of_mem _ (iw_X1 z hz)) tyX1_ok nmX1 rfl rfl (List.mem_cons_of_mem _ gm_38) dX1_takeOver_49 (fun M5 => ?_)
  refine xm_aload_n hX 0 dX1_takeOver_52 rfl rfl ?_
  refine xm_aload_n hX 1 dX1_takeOver_53 rfl rfl ?_
  refine xm_get hX (k := 33) (ci := 1) (j := 5) (C := RX1) (T := TX1) (N := 11) (v := .int (M5.1 33 5)) (hL _ _ cL_33) rfl rfl rfl (by decide) (fun z hz => List.mem_cons_of_mem _ (iw_X1 z hz)) (List.mem_cons_of_mem _ gm_41) dX1_takeOver_54 ?_
  refine xm_puti hX (k := 1) (ci := 1) (j := 5) (C := RX1) (T := TX1) (N := 11) (t0 := tyX1) (hL _ _ cL_1) rfl rfl (by decide) (fun z hz => List.mem_cons_of_mem _ (iw_X1 z hz)) tyX1_ok nmX1 rfl rfl (List.mem_cons_of_mem _ gm_41) dX1_takeOver_57 (fun M6 => ?_)
  refine xm_aload_n hX 0 dX1_takeOver_60 rfl rfl ?_
  refine xm_aload_n hX 1 dX1_takeOver_61 rfl rfl ?_
  refine xm_get hX (k := 33) (ci := 1) (j := 6) (C := RX1) (T := TX1) (N := 11) (v := .int (M6.1 33 6)) (hL _ _ cL_33) rfl rfl rfl (by decide) (fun z hz => List.mem_cons_of_mem _ (iw_X1 z hz)) (List.mem_cons_of_mem _ gm_43) dX1_takeOver_62 ?_
  refine xm_puti hX (k := 1) (ci := 1) (j := 6) (C := RX1) (T := TX1) (N := 11) (t0 := tyX1) (hL _ _ cL_1) rfl rfl (by decide) (fun z hz => List.mem_cons_of_mem _ (iw_X1 z hz)) tyX1_ok nmX1 rfl rfl (List.mem_cons_of_mem _ gm_43) dX1_takeOver_65 (fun M7 => ?_)
  refine xm_aload_n hX 0 dX1_takeOver_68 rfl rfl ?_
  refine xm_aload_n hX 1 dX1_takeOver_69 rfl rfl ?_
  refine xm_get hX (k := 33) (ci := 1) (j := 7) (C := RX1) (T := TX1) (N := 11) (v := .int (M7.1 33 7)) (hL _ _ cL_33) rfl rfl rfl (by decide) (fun z hz => List.mem_cons_of_mem _ (iw_X1 z hz)) (List.mem_cons_of_mem _ gm_47) dX1_takeOver_70 ?_
  refine xm_puti hX (k := 1) (ci := 1) (j := 7) (C := RX1) (T := TX1) (N := 11) (t0 := tyX1) (hL _ _ cL_1) rfl rfl (by decide) (fun z hz => List.mem_cons_of_mem _ (iw_X1 z hz)) tyX1_ok nmX1 rfl rfl (List.mem_cons_of_mem _ gm_47) dX1_takeOver_73 (fun M8 => ?_)
  refine xm_aload_n hX 0 dX1_takeOver_76 rfl rfl ?_
  refine xm_aload_n hX 1 dX1_takeOver_77 rfl rfl ?_
  refine xm_get hX (k := 33) (ci := 1) (j := 8) (C := RX1) (T := TX1) (N := 11) (v := .int (M8.1 33 8)) (hL _ _ cL_33) rfl rfl rfl (by decide) (fun z hz => List.mem_cons_of_mem _ (iw_X1 z hz)) (List.mem_cons_of_mem _ gm_50) dX1_takeOver_78 ?_
  refine xm_puti hX (k := 1) (ci := 1) (j := 8) (C := RX1) (T := TX1) (N := 11) (t0 := tyX1) (hL _ _ cL_1) rfl rfl (by decide) (fun z hz => List.mem_cons_of_mem _ (iw_X1 z hz)) tyX1_ok nmX1 rfl rfl (List.mem_cons_of_mem _ gm_50) dX1_takeOver_81 (fun M9 => ?_)
  refine xm_aload_n hX 0 dX1_takeOver_84 rfl rfl ?_
  refine xm_aload_n hX 1 dX1_takeOver_85 rfl rfl ?_
  refine xm_get hX (k := 33) (ci := 1) (j := 9) (C := RX1) (T := TX1) (N := 11) (v := .int (M9.1 33 9)) (hL _ _ cL_33) rfl rfl rfl (by decide) (fun z hz => List.mem_cons_of_mem _ (iw_X1 z hz)) (List.mem_cons_of_mem _ gm_53) dX1_takeOver_86 ?_
  refine xm_puti hX (k := 1) (ci := 1) (j := 9) (C := RX1) (T := TX1) (N := 11) (t0 := tyX1) (hL _ _ cL_1) rfl rfl (by decide) (fun z hz => List.mem_cons_of_mem _ (iw_X1 z hz)) tyX1_ok nmX1 rfl rfl (List.mem_cons_of_mem _ gm_53) dX1_takeOver_89 (fun M10 => ?_)
  exact xm_vret hX dX1_takeOver_92
-- ===== OdometryDesk.restore(I)I ['0']
theorem dX3_restore_0 : decode cX3_restore 0 = .ok (.iload_n 1, 1) := by decide +kernel
theorem dX3_restore_1 : decode cX3_restore 1 = .ok (.iconst 0, 1) := by decide +kernel
theorem dX3_restore_2 : decode cX3_restore 2 = .ok (.iconst 1, 1) := by decide +kernel
theorem dX3_restore_3 : decode cX3_restore 3 = .ok (.invokestatic 66, 3) := by decide +kernel
theorem dX3_restore_6 : decode cX3_restore 6 = .ok (.ifCond .ne 6, 3) := by decide +kernel
theorem dX3_restore_9 : decode cX3_restore 9 = .ok (.bipush (-2), 2) := by decide +kernel
theorem dX3_restore_11 : decode cX3_restore 11 = .ok (.ireturn, 1) := by decide +kernel
theorem dX3_restore_12 : decode cX3_restore 12 = .ok (.aload_n 0, 1) := by decide +kernel
theorem dX3_restore_13 : decode cX3_restore 13 = .ok (.iload_n 1, 1) := by decide +kernel
theorem dX3_restore_14 : decode cX3_restore 14 = .ok (.invokevirtual 197, 3) := by decide +kernel
theorem dX3_restore_17 : decode cX3_restore 17 = .ok (.astore_n 2, 1) := by decide +kernel
theorem dX3_restore_18 : decode cX3_restore 18 = .ok (.aload_n 2, 1) := by decide +kernel
theorem dX3_restore_19 : decode cX3_restore 19 = .ok (.getfield 205, 3) := by decide +kernel
theorem dX3_restore_22 : decode cX3_restore 22 = .ok (.ifCond .ne 6, 3) := by decide +kernel
theorem dX3_restore_25 : decode cX3_restore 25 = .ok (.bipush (-5), 2) := by decide +kernel
theorem dX3_restore_27 : decode cX3_restore 27 = .ok (.ireturn, 1) := by decide +kernel
theorem dX3_restore_28 : decode cX3_restore 28 = .ok (.aload_n 0, 1) := by decide +kernel
theorem dX3_restore_29 : decode cX3_restore 29 = .ok (.getfield 10, 3) := by decide +kernel
theorem dX3_restore_32 : decode cX3_restore 32 = .ok (.aload_n 2, 1) := by decide +kernel
theorem dX3_restore_33 : decode cX3_restore 33 = .ok (.invokevirtual 201, 3) := by decide +kernel
theorem dX3_restore_36 : decode cX3_restore 36 = .ok (.aload_n 0, 1) := by decide +kernel
theorem dX3_restore_37 : decode cX3_restore 37 = .ok (.getfield 10, 3) := by decide +kernel
theorem dX3_restore_40 : decode cX3_restore 40 = .ok (.getfield 106, 3) := by decide +kernel
theorem dX3_restore_43 : decode cX3_restore 43 = .ok (.ireturn, 1) := by decide +kernel
abbrev wX3_restore : List Cond := .code yX3_restore cX3_restore 3 (some .int) :: lw_gd
theorem hdX3_restore : (yX3_restore.cls ≠ "java/lang/invoke/MethodHandle" ∧ yX3_restore.cls ≠ "java/lang/invoke/VarHandle" ∧ (parseMethodDescriptor yX3_restore.desc).map (fun d => d.parameters.length) = some 1) := by decide +kernel
def fX3_restore  (a1 : Int32) (M : xm_M) : Option (Int32 × xm_M) :=
  xm_bi (fX3_isWithin a1 (0 : Int32) (1 : Int32) M) (fun x2 M1 => if x2 = 0 then some ((-2 : Int32), M1) else xm_br (fX3_slotOf a1 M1) (fun x4 M3 => if x4 = 17 then if (M3.1 17 10) = 0 then some ((-5 : Int32), M3) else xm_bv (fX1_takeOver_1_17 M3) (fun M5 => some (M5.1 1 6, M5)) else if x4 = 33 then if (M3.1 33 10) = 0 then some ((-5 : Int32), M3) else xm_bv (fX1_takeOver_1_33 M3) (fun M7 => some (M7.1 1 6, M7)) else none))
set_option maxRecDepth 20000 in
theorem kX3_restore {l : Launch} {L : List xm_Sh} (hL : xm_pre L)   (a1 : Int32) (M : xm_M) : xm_C l yX3_restore wX3_restore ({ frames := 4, cells := 0, slots := 0, locals := 82 }) L (fun g => [.ref (g.1 0), .int a1]) M xm_Fi (fX3_restore  a1 M) := by
  refine xm_C.of (by decide) rfl (fun g => Nat.le_of_ble_eq_true rfl) ?_
  intro p e s m args below meth c D g A hX
  refine xm_lv (lv' := [(0, .ref (g.1 0)), (1, .int a1)]) rfl ?_
  unfold fX3_restore
  refine xm_iload_n hX 1 dX3_restore_0 rfl rfl ?_
  refine xm_iconst hX (v := 0) rfl dX3_restore_1 ?_
  refine xm_iconst hX (v := 1) rfl dX3_restore_2 ?_
  refine xm_calli hX (xm_runS hX (As := (fun g => [.int a1, .int (0 : Int32), .int (1 : Int32)])) (kX3_isWithin hL a1 (0 : Int32) (1 : Int32) M) (xm_gS gm_149 gm_150 gm_1 gm_151) rfl ⟨rfl, rfl⟩ hdX3_isWithin ⟨Nat.le_of_ble_eq_true rfl, Nat.le_of_ble_eq_true rfl⟩ rfl (Nat.le_of_ble_eq_true rfl) rfl ⟨Nat.le_of_ble_eq_true rfl, Nat.le_of_ble_eq_true rfl⟩ dX3_restore_3) (fun x2 M1 => ?_)
  refine xm_if_ne hX (tgt := 12) dX3_restore_6 rfl ?_ ?_
  · refine xm_aload_n hX 0 dX3_restore_12 rfl rfl ?_
    refine xm_iload_n hX 1 dX3_restore_13 rfl rfl ?_
    refine xm_callr hX (xm_runV hX (k := 0) (ci := 3) (As := (fun g => [.int a1])) (kX3_slotOf hL a1 M1) (hL _ _ cL_0) rfl (xm_gV gm_412 gm_413 gm_511 gm_1 gm_414) rfl ⟨rfl, rfl⟩ ⟨rfl, hdX3_slotOf⟩ ⟨Nat.le_of_ble_eq_true rfl, Nat.le_of_ble_eq_true rfl⟩ rfl (Nat.le_of_ble_eq_true rfl) rfl ⟨Nat.le_of_ble_eq_true rfl, Nat.le_of_ble_eq_true rfl⟩ dX3_restore_14) (fun x4 M3 => ?_)
    refine xm_ite (fun z6 => ?_) (fun _ => ?_)
    · rw [z6]
      refine xm_astore_n hX (lv' := [(2, .ref (g.1 17)), (0, .ref (g.1 0)), (1, .int a1)]) dX3_restore_17 rfl (by decide) rfl ?_
      refine xm_aload_n hX 0 dX3_restore_18 rfl rfl ?_
      refine xm_get hX (k := 17) (ci := 1) (j := 10) (C := RX1) (T := TX1) (N := 11) (v := .int (M3.1 17 10)) (hL _ _ cL_17) rfl rfl rfl (by decide) (fun z hz => List.mem_cons_of_mem _ (iw_X1 z hz)) (List.mem_cons_of_mem _ gm_55) dX3_restore_19 ?_
      refine xm_if_ne hX (tgt := 28) dX3_restore_22 rfl ?_ ?_
      · refine xm_aload_n hX 1 dX3_restore_28 rfl rfl ?_
        refine xm_get hX (k := 0) (ci := 3) (j := 0) (C := RX3) (T := TX3) (N := 6) (v := .ref (g.1 1)) (hL _ _ cL_0) rfl rfl rfl (by decide) (fun z hz => List.mem_cons_of_mem _ (iw_X3 z hz)) (List.mem_cons_of_mem _ gm_128) dX3_restore_29 ?_
        refine xm_aload_n hX 0 dX3_restore_32 rfl rfl ?_
        refine xm_callv hX (xm_runV hX (k := 1) (ci := 1) (As := (fun g => [.ref (g.1 17)])) (kX1_takeOver_1_17 hL M3) (hL _ _ cL_1) rfl (xm_gV gm_415 gm_416 gm_417 gm_2 gm_418) rfl ⟨rfl, rfl⟩ ⟨rfl, hdX1_takeOver⟩ ⟨Nat.le_of_ble_eq_true rfl, Nat.le_of_ble_eq_true rfl⟩ rfl (Nat.le_of_ble_eq_true rfl) rfl ⟨Nat.le_of_ble_eq_true rfl, Nat.le_of_ble_eq_true rfl⟩ dX3_restore_33) (fun M5 => ?_)
        refine xm_aload_n hX 1 dX3_restore_36 rfl rfl ?_
        refine xm_get hX (k := 0) (ci := 3) (j := 0) (C := RX3) (T := TX3) (N := 6) (v := .ref (g.1 1)) (hL _ _ cL_0) rfl rfl rfl (by decide) (fun z hz => List.mem_cons_of_mem _ (iw_X3 z hz)) (List.mem_cons_of_mem _ gm_128) dX3_restore_37 ?_
        refine xm_get hX (k := 1) (ci := 1) (j := 6) (C := RX1) (T := TX1) (N := 11) (v := .int (M5.1 1 6)) (hL _ _ cL_1) rfl rfl rfl (by decide) (fun z hz => List.mem_cons_of_mem _ (iw_X1 z hz)) (List.mem_cons_of_mem _ gm_45) dX3_restore_40 ?_
        exact xm_iret hX dX3_restore_43
      · refine xm_bipush hX (v := -5) rfl dX3_restore_25 ?_
        exact xm_iret hX dX3_restore_27
    refine xm_ite (fun z8 => ?_) (fun _ => ?_)
    · rw [z8]
      refine xm_astore_n hX (lv' := [(2, .ref (g.1 33)), (0, .ref (g.1 0)), (1, .int a1)]) dX3_restore_17 rfl (by decide) rfl ?_
      refine xm_aload_n hX 0 dX3_restore_18 rfl rfl ?_
      refine xm_get hX (k := 33) (ci := 1) (j := 10) (C := RX1) (T := TX1) (N := 11) (v := .int (M3.1 33 10)) (hL _ _ cL_33) rfl rfl rfl (by decide) (fun z hz => List.mem_cons_of_mem _ (iw_X1 z hz)) (List.mem_cons_of_mem _ gm_55) dX3_restore_19 ?_
      refine xm_if_ne hX (tgt := 28) dX3_restore_22 rfl ?_ ?_
      · refine xm_aload_n hX 1 dX3_restore_28 rfl rfl ?_
        refine xm_get hX (k := 0) (ci := 3) (j := 0) (C := RX3) (T := TX3) (N := 6) (v := .ref (g.1 1)) (hL _ _ cL_0) rfl rfl rfl (by decide) (fun z hz => List.mem_cons_of_mem _ (iw_X3 z hz)) (List.mem_cons_of_mem _ gm_128) dX3_restore_29 ?_
        refine xm_aload_n hX 0 dX3_restore_32 rfl rfl ?_
        refine xm_callv hX (xm_runV hX (k := 1) (ci := 1) (As := (fun g => [.ref (g.1 33)])) (kX1_takeOver_1_33 hL M3) (hL _ _ cL_1) rfl (xm_gV gm_415 gm_416 gm_417 gm_2 gm_418) rfl ⟨rfl, rfl⟩ ⟨rfl, hdX1_takeOver⟩ ⟨Nat.le_of_ble_eq_true rfl, Nat.le_of_ble_eq_true rfl⟩ rfl (Nat.le_of_ble_eq_true rfl) rfl ⟨Nat.le_of_ble_eq_true rfl, Nat.le_of_ble_eq_true rfl⟩ dX3_restore_33) (fun M7 => ?_)
        refine xm_aload_n hX 1 dX3_restore_36 rfl rfl ?_
        refine xm_get hX (k := 0) (ci := 3) (j := 0) (C := RX3) (T := TX3) (N := 6) (v := .ref (g.1 1)) (hL _ _ cL_0) rfl rfl rfl (by decide) (fun z hz => List.mem_cons_of_mem _ (iw_X3 z hz)) (List.mem_cons_of_mem _ gm_128) dX3_restore_37 ?_
        refine xm_get hX (k := 1) (ci := 1) (j := 6) (C := RX1) (T := TX1) (N := 11) (v := .int (M7.1 1 6)) (hL _ _ cL_1) rfl rfl rfl (by decide) (fun z hz => List.mem_cons_of_mem _ (iw_X1 z hz)) (List.mem_cons_of_mem _ gm_45) dX3_restore_40 ?_
        exact xm_iret hX dX3_restore_43
      · refine xm_bipush hX (v := -5) rfl dX3_restore_25 ?_
        exact xm_iret hX dX3_restore_27
    exact xm_none
  · refine xm_bipush hX (v := -2) rfl dX3_restore_9 ?_
    exact xm_iret hX dX3_restore_11
