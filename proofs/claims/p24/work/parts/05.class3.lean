-- ===== OdometryDesk.corridor(IIIII)I ['0']
theorem dX3_corridor_0 : decode cX3_corridor 0 = .ok (.iload_n 1, 1) := by decide +kernel
theorem dX3_corridor_1 : decode cX3_corridor 1 = .ok (.iload_n 2, 1) := by decide +kernel
theorem dX3_corridor_2 : decode cX3_corridor 2 = .ok (.invokestatic 63, 3) := by decide +kernel
theorem dX3_corridor_5 : decode cX3_corridor 5 = .ok (.ifCond .eq 24, 3) := by decide +kernel
theorem dX3_corridor_8 : decode cX3_corridor 8 = .ok (.iload_n 3, 1) := by decide +kernel
theorem dX3_corridor_9 : decode cX3_corridor 9 = .ok (.iload 4, 2) := by decide +kernel
theorem dX3_corridor_11 : decode cX3_corridor 11 = .ok (.invokestatic 63, 3) := by decide +kernel
theorem dX3_corridor_14 : decode cX3_corridor 14 = .ok (.ifCond .eq 15, 3) := by decide +kernel
theorem dX3_corridor_17 : decode cX3_corridor 17 = .ok (.iload 5, 2) := by decide +kernel
theorem dX3_corridor_19 : decode cX3_corridor 19 = .ok (.iconst 0, 1) := by decide +kernel
theorem dX3_corridor_20 : decode cX3_corridor 20 = .ok (.sipush 17999, 3) := by decide +kernel
theorem dX3_corridor_23 : decode cX3_corridor 23 = .ok (.invokestatic 66, 3) := by decide +kernel
theorem dX3_corridor_26 : decode cX3_corridor 26 = .ok (.ifCond .ne 6, 3) := by decide +kernel
theorem dX3_corridor_29 : decode cX3_corridor 29 = .ok (.bipush (-2), 2) := by decide +kernel
theorem dX3_corridor_31 : decode cX3_corridor 31 = .ok (.ireturn, 1) := by decide +kernel
theorem dX3_corridor_32 : decode cX3_corridor 32 = .ok (.aload_n 0, 1) := by decide +kernel
theorem dX3_corridor_33 : decode cX3_corridor 33 = .ok (.getfield 10, 3) := by decide +kernel
theorem dX3_corridor_36 : decode cX3_corridor 36 = .ok (.getfield 70, 3) := by decide +kernel
theorem dX3_corridor_39 : decode cX3_corridor 39 = .ok (.istore 6, 2) := by decide +kernel
theorem dX3_corridor_41 : decode cX3_corridor 41 = .ok (.iload 6, 2) := by decide +kernel
theorem dX3_corridor_43 : decode cX3_corridor 43 = .ok (.bipush 8, 2) := by decide +kernel
theorem dX3_corridor_45 : decode cX3_corridor 45 = .ok (.if_icmp .lt 6, 3) := by decide +kernel
theorem dX3_corridor_48 : decode cX3_corridor 48 = .ok (.bipush (-4), 2) := by decide +kernel
theorem dX3_corridor_50 : decode cX3_corridor 50 = .ok (.ireturn, 1) := by decide +kernel
theorem dX3_corridor_51 : decode cX3_corridor 51 = .ok (.aload_n 0, 1) := by decide +kernel
theorem dX3_corridor_52 : decode cX3_corridor 52 = .ok (.getfield 10, 3) := by decide +kernel
theorem dX3_corridor_55 : decode cX3_corridor 55 = .ok (.getfield 74, 3) := by decide +kernel
theorem dX3_corridor_58 : decode cX3_corridor 58 = .ok (.iconst 0, 1) := by decide +kernel
theorem dX3_corridor_59 : decode cX3_corridor 59 = .ok (.iload 6, 2) := by decide +kernel
theorem dX3_corridor_61 : decode cX3_corridor 61 = .ok (.iload_n 1, 1) := by decide +kernel
theorem dX3_corridor_62 : decode cX3_corridor 62 = .ok (.iload_n 3, 1) := by decide +kernel
theorem dX3_corridor_63 : decode cX3_corridor 63 = .ok (.invokestatic 78, 3) := by decide +kernel
theorem dX3_corridor_66 : decode cX3_corridor 66 = .ok (.invokestatic 84, 3) := by decide +kernel
theorem dX3_corridor_69 : decode cX3_corridor 69 = .ok (.aload_n 0, 1) := by decide +kernel
theorem dX3_corridor_70 : decode cX3_corridor 70 = .ok (.getfield 10, 3) := by decide +kernel
theorem dX3_corridor_73 : decode cX3_corridor 73 = .ok (.getfield 74, 3) := by decide +kernel
theorem dX3_corridor_76 : decode cX3_corridor 76 = .ok (.iconst 1, 1) := by decide +kernel
theorem dX3_corridor_77 : decode cX3_corridor 77 = .ok (.iload 6, 2) := by decide +kernel
theorem dX3_corridor_79 : decode cX3_corridor 79 = .ok (.iload_n 1, 1) := by decide +kernel
theorem dX3_corridor_80 : decode cX3_corridor 80 = .ok (.iload_n 3, 1) := by decide +kernel
theorem dX3_corridor_81 : decode cX3_corridor 81 = .ok (.invokestatic 87, 3) := by decide +kernel
theorem dX3_corridor_84 : decode cX3_corridor 84 = .ok (.invokestatic 84, 3) := by decide +kernel
theorem dX3_corridor_87 : decode cX3_corridor 87 = .ok (.aload_n 0, 1) := by decide +kernel
theorem dX3_corridor_88 : decode cX3_corridor 88 = .ok (.getfield 10, 3) := by decide +kernel
theorem dX3_corridor_91 : decode cX3_corridor 91 = .ok (.getfield 74, 3) := by decide +kernel
theorem dX3_corridor_94 : decode cX3_corridor 94 = .ok (.iconst 2, 1) := by decide +kernel
theorem dX3_corridor_95 : decode cX3_corridor 95 = .ok (.iload 6, 2) := by decide +kernel
theorem dX3_corridor_97 : decode cX3_corridor 97 = .ok (.iload_n 2, 1) := by decide +kernel
theorem dX3_corridor_98 : decode cX3_corridor 98 = .ok (.iload 4, 2) := by decide +kernel
theorem dX3_corridor_100 : decode cX3_corridor 100 = .ok (.invokestatic 78, 3) := by decide +kernel
theorem dX3_corridor_103 : decode cX3_corridor 103 = .ok (.invokestatic 84, 3) := by decide +kernel
theorem dX3_corridor_106 : decode cX3_corridor 106 = .ok (.aload_n 0, 1) := by decide +kernel
theorem dX3_corridor_107 : decode cX3_corridor 107 = .ok (.getfield 10, 3) := by decide +kernel
theorem dX3_corridor_110 : decode cX3_corridor 110 = .ok (.getfield 74, 3) := by decide +kernel
theorem dX3_corridor_113 : decode cX3_corridor 113 = .ok (.iconst 3, 1) := by decide +kernel
theorem dX3_corridor_114 : decode cX3_corridor 114 = .ok (.iload 6, 2) := by decide +kernel
theorem dX3_corridor_116 : decode cX3_corridor 116 = .ok (.iload_n 2, 1) := by decide +kernel
theorem dX3_corridor_117 : decode cX3_corridor 117 = .ok (.iload 4, 2) := by decide +kernel
theorem dX3_corridor_119 : decode cX3_corridor 119 = .ok (.invokestatic 87, 3) := by decide +kernel
theorem dX3_corridor_122 : decode cX3_corridor 122 = .ok (.invokestatic 84, 3) := by decide +kernel
theorem dX3_corridor_125 : decode cX3_corridor 125 = .ok (.aload_n 0, 1) := by decide +kernel
theorem dX3_corridor_126 : decode cX3_corridor 126 = .ok (.getfield 10, 3) := by decide +kernel
theorem dX3_corridor_129 : decode cX3_corridor 129 = .ok (.getfield 74, 3) := by decide +kernel
theorem dX3_corridor_132 : decode cX3_corridor 132 = .ok (.iconst 4, 1) := by decide +kernel
theorem dX3_corridor_133 : decode cX3_corridor 133 = .ok (.iload 6, 2) := by decide +kernel
theorem dX3_corridor_135 : decode cX3_corridor 135 = .ok (.iload 5, 2) := by decide +kernel
theorem dX3_corridor_137 : decode cX3_corridor 137 = .ok (.invokestatic 84, 3) := by decide +kernel
theorem dX3_corridor_140 : decode cX3_corridor 140 = .ok (.aload_n 0, 1) := by decide +kernel
theorem dX3_corridor_141 : decode cX3_corridor 141 = .ok (.getfield 10, 3) := by decide +kernel
theorem dX3_corridor_144 : decode cX3_corridor 144 = .ok (.iload 6, 2) := by decide +kernel
theorem dX3_corridor_146 : decode cX3_corridor 146 = .ok (.iconst 1, 1) := by decide +kernel
theorem dX3_corridor_147 : decode cX3_corridor 147 = .ok (.iadd, 1) := by decide +kernel
theorem dX3_corridor_148 : decode cX3_corridor 148 = .ok (.putfield 70, 3) := by decide +kernel
theorem dX3_corridor_151 : decode cX3_corridor 151 = .ok (.iload 6, 2) := by decide +kernel
theorem dX3_corridor_153 : decode cX3_corridor 153 = .ok (.ireturn, 1) := by decide +kernel
abbrev wX3_corridor : List Cond := .code yX3_corridor cX3_corridor 7 (some .int) :: lw_gd
theorem hdX3_corridor : (yX3_corridor.cls ≠ "java/lang/invoke/MethodHandle" ∧ yX3_corridor.cls ≠ "java/lang/invoke/VarHandle" ∧ (parseMethodDescriptor yX3_corridor.desc).map (fun d => d.parameters.length) = some 5) := by decide +kernel
def fX3_corridor  (a1 : Int32) (a2 : Int32) (a3 : Int32) (a4 : Int32) (a5 : Int32) (M : xm_M) : Option (Int32 × xm_M) :=
  xm_bi (fX3_isPlace a1 a2 M) (fun x2 M1 => if x2 = 0 then some ((-2 : Int32), M1) else xm_bi (fX3_isPlace a3 a4 M1) (fun x4 M3 => if x4 = 0 then some ((-2 : Int32), M3) else xm_bi (fX3_isWithin a5 (0 : Int32) (17999 : Int32) M3) (fun x6 M5 => if x6 = 0 then some ((-2 : Int32), M5) else xm_lt (M5.1 1 4) (fun x7 => if x7 < (8 : Int32) then xm_bv (fX3_keep_ 3 5 4 8 (0 : Int32) x7 (if a3 < a1 then a3 else a1) M5) (fun M8 => xm_bv (fX3_keep_ 3 5 4 8 (1 : Int32) x7 (if a1 < a3 then a3 else a1) M8) (fun M9 => xm_bv (fX3_keep_ 3 5 4 8 (2 : Int32) x7 (if a4 < a2 then a4 else a2) M9) (fun M10 => xm_bv (fX3_keep_ 3 5 4 8 (3 : Int32) x7 (if a2 < a4 then a4 else a2) M10) (fun M11 => xm_bv (fX3_keep_ 3 5 4 8 (4 : Int32) x7 a5 M11) (fun M12 => xm_lt (xm_s M12 1 4 (x7 + (1 : Int32))) (fun M13 => some (x7, M13))))))) else some ((-4 : Int32), M5)))))
set_option maxRecDepth 20000 in
theorem kX3_corridor {l : Launch} {L : List xm_Sh} (hL : xm_pre L)   (a1 : Int32) (a2 : Int32) (a3 : Int32) (a4 : Int32) (a5 : Int32) (M : xm_M) : xm_C l yX3_corridor wX3_corridor ({ frames := 2, cells := 0, slots := 0, locals := 43 }) L (fun g => [.ref (g.1 0), .int a1, .int a2, .int a3, .int a4, .int a5]) M xm_Fi (fX3_corridor  a1 a2 a3 a4 a5 M) := by
  refine xm_C.of (by decide) rfl (fun g => Nat.le_of_ble_eq_true rfl) ?_
  intro p e s m args below meth c D g A hX
  refine xm_lv (lv' := [(0, .ref (g.1 0)), (1, .int a1), (2, .int a2), (3, .int a3), (4, .int a4), (5, .int a5)]) rfl ?_
  unfold fX3_corridor
  refine xm_iload_n hX 1 dX3_corridor_0 rfl rfl ?_
  refine xm_iload_n hX 2 dX3_corridor_1 rfl rfl ?_
  refine xm_calli hX (xm_runS hX (As := (fun g => [.int a1, .int a2])) (kX3_isPlace hL a1 a2 M) (xm_gS gm_162 gm_163 gm_1 gm_164) rfl ⟨rfl, rfl⟩ hdX3_isPlace ⟨Nat.le_of_ble_eq_true rfl, Nat.le_of_ble_eq_true rfl⟩ rfl (Nat.le_of_ble_eq_true rfl) rfl ⟨Nat.le_of_ble_eq_true rfl, Nat.le_of_ble_eq_true rfl⟩ dX3_corridor_2) (fun x2 M1 => ?_)
  refine xm_if_eq hX (tgt := 29) dX3_corridor_5 rfl ?_ ?_
  · refine xm_bipush hX (v := -2) rfl dX3_corridor_29 ?_
    exact xm_iret hX dX3_corridor_31
  · refine xm_iload_n hX 3 dX3_corridor_8 rfl rfl ?_
    refine xm_iload hX 4 dX3_corridor_9 rfl ?_
    refine xm_calli hX (xm_runS hX (As := (fun g => [.int a3, .int a4])) (kX3_isPlace hL a3 a4 M1) (xm_gS gm_162 gm_163 gm_1 gm_164) rfl ⟨rfl, rfl⟩ hdX3_isPlace ⟨Nat.le_of_ble_eq_true rfl, Nat.le_of_ble_eq_true rfl⟩ rfl (Nat.le_of_ble_eq_true rfl) rfl ⟨Nat.le_of_ble_eq_true rfl, Nat.le_of_ble_eq_true rfl⟩ dX3_corridor_11) (fun x4 M3 => ?_)
    refine xm_if_eq hX (tgt := 29) dX3_corridor_14 rfl ?_ ?_
    · refine xm_bipush hX (v := -2) rfl dX3_corridor_29 ?_
      exact xm_iret hX dX3_corridor_31
    · refine xm_iload hX 5 dX3_corridor_17 rfl ?_
      refine xm_iconst hX (v := 0) rfl dX3_corridor_19 ?_
      refine xm_sipush hX (v := 17999) rfl dX3_corridor_20 ?_
      refine xm_calli hX (xm_runS hX (As := (fun g => [.int a5, .int (0 : Int32), .int (17999 : Int32)])) (kX3_isWithin hL a5 (0 : Int32) (17999 : Int32) M3) (xm_gS gm_149 gm_150 gm_1 gm_151) rfl ⟨rfl, rfl⟩ hdX3_isWithin ⟨Nat.le_of_ble_eq_true rfl, Nat.le_of_ble_eq_true rfl⟩ rfl (Nat.le_of_ble_eq_true rfl) rfl ⟨Nat.le_of_ble_eq_true rfl, Nat.le_of_ble_eq_true rfl⟩ dX3_corridor_23) (fun x6 M5 => ?_)
      refine xm_if_ne hX (tgt := 32) dX3_corridor_26 rfl ?_ ?_
      · refine xm_aload_n hX 0 dX3_corridor_32 rfl rfl ?_
        refine xm_get hX (k := 0) (ci := 3) (j := 0) (C := RX3) (T := TX3) (N := 6) (v := .ref (g.1 1)) (hL _ _ cL_0) rfl rfl rfl (by decide) (fun z hz => List.mem_cons_of_mem _ (iw_X3 z hz)) (List.mem_cons_of_mem _ gm_128) dX3_corridor_33 ?_
        refine xm_get hX (k := 1) (ci := 1) (j := 4) (C := RX1) (T := TX1) (N := 11) (v := .int (M5.1 1 4)) (hL _ _ cL_1) rfl rfl rfl (by decide) (fun z hz => List.mem_cons_of_mem _ (iw_X1 z hz)) (List.mem_cons_of_mem _ gm_39) dX3_corridor_36 ?_
        refine xm_nmi (fun x7 => ?_)
        refine xm_istore hX (lv' := [(6, .int x7), (0, .ref (g.1 0)), (1, .int a1), (2, .int a2), (3, .int a3), (4, .int a4), (5, .int a5)]) dX3_corridor_39 (by decide) rfl ?_
        refine xm_iload hX 0 dX3_corridor_41 rfl ?_
        refine xm_bipush hX (v := 8) rfl dX3_corridor_43 ?_
        refine xm_icmp_lt hX (tgt := 51) dX3_corridor_45 rfl ?_ ?_
        · refine xm_aload_n hX 1 dX3_corridor_51 rfl rfl ?_
          refine xm_get hX (k := 0) (ci := 3) (j := 0) (C := RX3) (T := TX3) (N := 6) (v := .ref (g.1 1)) (hL _ _ cL_0) rfl rfl rfl (by decide) (fun z hz => List.mem_cons_of_mem _ (iw_X3 z hz)) (List.mem_cons_of_mem _ gm_128) dX3_corridor_52 ?_
          refine xm_get hX (k := 1) (ci := 1) (j := 1) (C := RX1) (T := TX1) (N := 11) (v := .ref (g.1 3)) (hL _ _ cL_1) rfl rfl rfl (by decide) (fun z hz => List.mem_cons_of_mem _ (iw_X1 z hz)) (List.mem_cons_of_mem _ gm_31) dX3_corridor_55 ?_
          refine xm_iconst hX (v := 0) rfl dX3_corridor_58 ?_
          refine xm_iload hX 0 dX3_corridor_59 rfl ?_
          refine xm_iload_n hX 2 dX3_corridor_61 rfl rfl ?_
          refine xm_iload_n hX 4 dX3_corridor_62 rfl rfl ?_
          refine xm_mmin hX (List.mem_cons_of_mem _ gm_167) (List.mem_cons_of_mem _ gm_168) (List.mem_cons_of_mem _ gm_5) (List.mem_cons_of_mem _ gm_169) (Nat.le_of_ble_eq_true rfl) (Nat.le_of_ble_eq_true rfl) ⟨Nat.le_of_ble_eq_true rfl, Nat.le_of_ble_eq_true rfl⟩ dX3_corridor_63 ?_
          refine xm_callv hX (xm_runS hX (As := (fun g => [.ref (g.1 3), .int (0 : Int32), .int x7, .int (if a3 < a1 then a3 else a1)])) (kX3_keep_ hL 3 5 4 8 (hL _ _ cL_3) (cL_rowsL_3 hL) (0 : Int32) x7 (if a3 < a1 then a3 else a1) M5) (xm_gS gm_170 gm_171 gm_1 gm_172) rfl ⟨rfl, rfl⟩ hdX3_keep_ ⟨Nat.le_of_ble_eq_true rfl, Nat.le_of_ble_eq_true rfl⟩ rfl (Nat.le_of_ble_eq_true rfl) rfl ⟨Nat.le_of_ble_eq_true rfl, Nat.le_of_ble_eq_true rfl⟩ dX3_corridor_66) (fun M8 => ?_)
          refine xm_aload_n hX 1 dX3_corridor_69 rfl rfl ?_
          refine xm_get hX (k := 0) (ci := 3) (j := 0) (C := RX3) (T := TX3) (N := 6) (v := .ref (g.1 1)) (hL _ _ cL_0) rfl rfl rfl (by decide) (fun z hz => List.mem_cons_of_mem _ (iw_X3 z hz)) (List.mem_cons_of_mem _ gm_128) dX3_corridor_70 ?_
          refine xm_get hX (k := 1) (ci := 1) (j := 1) (C := RX1) (T := TX1) (N := 11) (v := .ref (g.1 3)) (hL _ _ cL_1) rfl rfl rfl (by decide) (fun z hz => List.mem_cons_of_mem _ (iw_X1 z hz)) (List.mem_cons_of_mem _ gm_31) dX3_corridor_73 ?_
          refine xm_iconst hX (v := 1) rfl dX3_corridor_76 ?_
          refine xm_iload hX 0 dX3_corridor_77 rfl ?_
          refine xm_iload_n hX 2 dX3_corridor_79 rfl rfl ?_
          refine xm_iload_n hX 4 dX3_corridor_80 rfl rfl ?_
          refine xm_mmax hX (List.mem_cons_of_mem _ gm_173) (List.mem_cons_of_mem _ gm_174) (List.mem_cons_of_mem _ gm_5) (List.mem_cons_of_mem _ gm_175) (Nat.le_of_ble_eq_true rfl) (Nat.le_of_ble_eq_true rfl) ⟨Nat.le_of_ble_eq_true rfl, Nat.le_of_ble_eq_true rfl⟩ dX3_corridor_81 ?_
          refine xm_callv hX (xm_runS hX (As := (fun g => [.ref (g.1 3), .int (1 : Int32), .int x7, .int (if a1 < a3 then a3 else a1)])) (kX3_keep_ hL 3 5 4 8 (hL _ _ cL_3) (cL_rowsL_3 hL) (1 : Int32) x7 (if a1 < a3 then a3 else a1) M8) (xm_gS gm_170 gm_171 gm_1 gm_172) rfl ⟨rfl, rfl⟩ hdX3_keep_ ⟨Nat.le_of_ble_eq_true rfl, Nat.le_of_ble_eq_true rfl⟩ rfl (Nat.le_of_ble_eq_true rfl) rfl ⟨Nat.le_of_ble_eq_true rfl, Nat.le_of_ble_eq_true rfl⟩ dX3_corridor_84) (fun M9 => ?_)
          refine xm_aload_n hX 1 dX3_corridor_87 rfl rfl ?_
          refine xm_get hX (k := 0) (ci := 3) (j := 0) (C := RX3) (T := TX3) (N := 6) (v := .ref (g.1 1)) (hL _ _ cL_0) rfl rfl rfl (by decide) (fun z hz => List.mem_cons_of_mem _ (iw_X3 z hz)) (List.mem_cons_of_mem _ gm_128) dX3_corridor_88 ?_
          refine xm_get hX (k := 1) (ci := 1) (j := 1) (C := RX1) (T := TX1) (N := 11) (v := .ref (g.1 3)) (hL _ _ cL_1) rfl rfl rfl (by decide) (fun z hz => List.mem_cons_of_mem _ (iw_X1 z hz)) (List.mem_cons_of_mem _ gm_31) dX3_corridor_91 ?_
          refine xm_iconst hX (v := 2) rfl dX3_corridor_94 ?_
          refine xm_iload hX 0 dX3_corridor_95 rfl ?_
          refine xm_iload_n hX 3 dX3_corridor_97 rfl rfl ?_
          refine xm_iload hX 5 dX3_corridor_98 rfl ?_
          refine xm_mmin hX (List.mem_cons_of_mem _ gm_167) (List.mem_cons_of_mem _ gm_168) (List.mem_cons_of_mem _ gm_5) (List.mem_cons_of_mem _ gm_169) (Nat.le_of_ble_eq_true rfl) (Nat.le_of_ble_eq_true rfl) ⟨Nat.le_of_ble_eq_true rfl, Nat.le_of_ble_eq_true rfl⟩ dX3_corridor_100 ?_
          refine xm_callv hX (xm_runS hX (As := (fun g => [.ref (g.1 3), .int (2 : Int32), .int x7, .int (if a4 < a2 then a4 else a2)])) (kX3_keep_ hL 3 5 4 8 (hL _ _ cL_3) (cL_rowsL_3 hL) (2 : Int32) x7 (if a4 < a2 then a4 else a2) M9) (xm_gS gm_170 gm_171 gm_1 gm_172) rfl ⟨rfl, rfl⟩ hdX3_keep_ ⟨Nat.le_of_ble_eq_true rfl, Nat.le_of_ble_eq_true rfl⟩ rfl (Nat.le_of_ble_eq_true rfl) rfl ⟨Nat.le_of_ble_eq_true rfl, Nat.le_of_ble_eq_true rfl⟩ dX3_corridor_103) (fun M10 => ?_)
          refine xm_aload_n hX 1 dX3_corridor_106 rfl rfl ?_
          refine xm_get hX (k := 0) (ci := 3) (j := 0) (C := RX3) (T := TX3) (N := 6) (v := .ref (g.1 1)) (hL _ _ cL_0) rfl rfl rfl (by decide) (fun z hz => List.mem_cons_of_mem _ (iw_X3 z hz)) (List.mem_cons_of_mem _ gm_128) dX3_corridor_107 ?_
          refine xm_get hX (k := 1) (ci := 1) (j := 1) (C := RX1) (T := TX1) (N := 11) (v := .ref (g.1 3)) (hL _ _ cL_1) rfl rfl rfl (by decide) (fun z hz => List.mem_cons_of_mem _ (iw_X1 z hz)) (List.mem_cons_of_mem _ gm_31) dX3_corridor_110 ?_
          refine xm_iconst hX (v := 3) rfl dX3_corridor_113 ?_
          refine xm_iload hX 0 dX3_corridor_114 rfl ?_
          refine xm_iload_n hX 3 dX3_corridor_116 rfl rfl ?_
          refine xm_iload hX 5 dX3_corridor_117 rfl ?_
          refine xm_mmax hX (List.mem_cons_of_mem _ gm_173) (List.mem_cons_of_mem _ gm_174) (List.mem_cons_of_mem _ gm_5) (List.mem_cons_of_mem _ gm_175) (Nat.le_of_ble_eq_true rfl) (Nat.le_of_ble_eq_true rfl) ⟨Nat.le_of_ble_eq_true rfl, Nat.le_of_ble_eq_true rfl⟩ dX3_corridor_119 ?_
          refine xm_callv hX (xm_runS hX (As := (fun g => [.ref (g.1 3), .int (3 : Int32), .int x7, .int (if a2 < a4 then a4 else a2)])) (kX3_keep_ hL 3 5 4 8 (hL _ _ cL_3) (cL_rowsL_3 hL) (3 : Int32) x7 (if a2 < a4 then a4 else a2) M10) (xm_gS gm_170 gm_171 gm_1 gm_172) rfl ⟨rfl, rfl⟩ hdX3_keep_ ⟨Nat.le_of_ble_eq_true rfl, Nat.le_of_ble_eq_true rfl⟩ rfl (Nat.le_of_ble_eq_true rfl) rfl ⟨Nat.le_of_ble_eq_true rfl, Nat.le_of_ble_eq_true rfl⟩ dX3_corridor_122) (fun M11 => ?_)
          refine xm_aload_n hX 1 dX3_corridor_125 rfl rfl ?_
          refine xm_get hX (k := 0) (ci := 3) (j := 0) (C := RX3) (T := TX3) (N := 6) (v := .ref (g.1 1)) (hL _ _ cL_0) rfl rfl rfl (by decide) (fun z hz => List.mem_cons_of_mem _ (iw_X3 z hz)) (List.mem_cons_of_mem _ gm_128) dX3_corridor_126 ?_
          refine xm_get hX (k := 1) (ci := 1) (j := 1) (C := RX1) (T := TX1) (N := 11) (v := .ref (g.1 3)) (hL _ _ cL_1) rfl rfl rfl (by decide) (fun z hz => List.mem_cons_of_mem _ (iw_X1 z hz)) (List.mem_cons_of_mem _ gm_31) dX3_corridor_129 ?_
          refine xm_iconst hX (v := 4) rfl dX3_corridor_132 ?_
          refine xm_iload hX 0 dX3_corridor_133 rfl ?_
          refine xm_iload hX 6 dX3_corridor_135 rfl ?_
          refine xm_callv hX (xm_runS hX (As := (fun g => [.ref (g.1 3), .int (4 : Int32), .int x7, .int a5])) (kX3_keep_ hL 3 5 4 8 (hL _ _ cL_3) (cL_rowsL_3 hL) (4 : Int32) x7 a5 M11) (xm_gS gm_170 gm_171 gm_1 gm_172) rfl ⟨rfl, rfl⟩ hdX3_keep_ ⟨Nat.le_of_ble_eq_true rfl, Nat.le_of_ble_eq_true rfl⟩ rfl (Nat.le_of_ble_eq_true rfl) rfl ⟨Nat.le_of_ble_eq_true rfl, Nat.le_of_ble_eq_true rfl⟩ dX3_corridor_137) (fun M12 => ?_)
          refine xm_aload_n hX 1 dX3_corridor_140 rfl rfl ?_
          refine xm_get hX (k := 0) (ci := 3) (j := 0) (C := RX3) (T := TX3) (N := 6) (v := .ref (g.1 1)) (hL _ _ cL_0) rfl rfl rfl (by decide) (fun z hz => List.mem_cons_of_mem _ (iw_X3 z hz)) (List.mem_cons_of_mem _ gm_128) dX3_corridor_141 ?_
          refine xm_iload hX 0 dX3_corridor_144 rfl ?_
          refine xm_iconst hX (v := 1) rfl dX3_corridor_146 ?_
          refine xm_iadd hX dX3_corridor_147 ?_
          refine xm_puti hX (k := 1) (ci := 1) (j := 4) (C := RX1) (T := TX1) (N := 11) (t0 := tyX1) (hL _ _ cL_1) rfl rfl (by decide) (fun z hz => List.mem_cons_of_mem _ (iw_X1 z hz)) tyX1_ok nmX1 rfl rfl (List.mem_cons_of_mem _ gm_39) dX3_corridor_148 (fun M13 => ?_)
          refine xm_iload hX 0 dX3_corridor_151 rfl ?_
          exact xm_iret hX dX3_corridor_153
        · refine xm_bipush hX (v := -4) rfl dX3_corridor_48 ?_
          exact xm_iret hX dX3_corridor_50
      · refine xm_bipush hX (v := -2) rfl dX3_corridor_29 ?_
        exact xm_iret hX dX3_corridor_31
-- ===== OdometryDesk$Way.toldErrors()I ['49']
theorem dX2_toldErrors_0 : decode cX2_toldErrors 0 = .ok (.aload_n 0, 1) := by decide +kernel
theorem dX2_toldErrors_1 : decode cX2_toldErrors 1 = .ok (.getfield 53, 3) := by decide +kernel
theorem dX2_toldErrors_4 : decode cX2_toldErrors 4 = .ok (.ldc2_w 83, 3) := by decide +kernel
theorem dX2_toldErrors_7 : decode cX2_toldErrors 7 = .ok (.invokestatic 85, 3) := by decide +kernel
theorem dX2_toldErrors_10 : decode cX2_toldErrors 10 = .ok (.l2i, 1) := by decide +kernel
theorem dX2_toldErrors_11 : decode cX2_toldErrors 11 = .ok (.ireturn, 1) := by decide +kernel
abbrev wX2_toldErrors : List Cond := .code yX2_toldErrors cX2_toldErrors 1 (some .int) :: lw_gd
theorem hdX2_toldErrors : (yX2_toldErrors.cls ≠ "java/lang/invoke/MethodHandle" ∧ yX2_toldErrors.cls ≠ "java/lang/invoke/VarHandle" ∧ (parseMethodDescriptor yX2_toldErrors.desc).map (fun d => d.parameters.length) = some 0) := by decide +kernel
def fX2_toldErrors   (M : xm_M) : Option (Int32 × xm_M) :=
  some ((if (2000000000 : Int64) < (M.2 49 9) then (2000000000 : Int64) else (M.2 49 9)).toInt32, M)
set_option maxRecDepth 20000 in
theorem kX2_toldErrors {l : Launch} {L : List xm_Sh} (hL : xm_pre L)    (M : xm_M) : xm_C l yX2_toldErrors wX2_toldErrors ({ frames := 1, cells := 0, slots := 0, locals := 15 }) L (fun g => [.ref (g.1 49)]) M xm_Fi (fX2_toldErrors   M) := by
  refine xm_C.of (by decide) rfl (fun g => Nat.le_of_ble_eq_true rfl) ?_
  intro p e s m args below meth c D g A hX
  refine xm_lv (lv' := [(0, .ref (g.1 49))]) rfl ?_
  unfold fX2_toldErrors
  refine xm_aload_n hX 0 dX2_toldErrors_0 rfl rfl ?_
  refine xm_get hX (k := 49) (ci := 2) (j := 9) (C := RX2) (T := TX2) (N := 12) (v := .long (M.2 49 9)) (hL _ _ cL_49) rfl rfl rfl (by decide) (fun z hz => List.mem_cons_of_mem _ (iw_X2 z hz)) (List.mem_cons_of_mem _ gm_90) dX2_toldErrors_1 ?_
  refine xm_ldc2 hX (v := 2000000000) (List.mem_cons_of_mem _ gm_279) dX2_toldErrors_4 ?_
  refine xm_mminl hX (List.mem_cons_of_mem _ gm_280) (List.mem_cons_of_mem _ gm_281) (List.mem_cons_of_mem _ gm_5) (List.mem_cons_of_mem _ gm_282) (Nat.le_of_ble_eq_true rfl) (Nat.le_of_ble_eq_true rfl) ⟨Nat.le_of_ble_eq_true rfl, Nat.le_of_ble_eq_true rfl⟩ dX2_toldErrors_7 ?_
  refine xm_l2i hX dX2_toldErrors_10 ?_
  exact xm_iret hX dX2_toldErrors_11
-- ===== OdometryDesk.count(I)I ['0']
theorem dX3_count_0 : decode cX3_count 0 = .ok (.iload_n 1, 1) := by decide +kernel
theorem dX3_count_1 : decode cX3_count 1 = .ok (.iconst 0, 1) := by decide +kernel
theorem dX3_count_2 : decode cX3_count 2 = .ok (.bipush 20, 2) := by decide +kernel
theorem dX3_count_4 : decode cX3_count 4 = .ok (.invokestatic 66, 3) := by decide +kernel
theorem dX3_count_7 : decode cX3_count 7 = .ok (.ifCond .ne 6, 3) := by decide +kernel
theorem dX3_count_10 : decode cX3_count 10 = .ok (.bipush (-2), 2) := by decide +kernel
theorem dX3_count_12 : decode cX3_count 12 = .ok (.ireturn, 1) := by decide +kernel
theorem dX3_count_13 : decode cX3_count 13 = .ok (.iload_n 1, 1) := by decide +kernel
theorem dX3_count_14 : decode cX3_count 14 = .ok (.bipush 12, 2) := by decide +kernel
theorem dX3_count_16 : decode cX3_count 16 = .ok (.if_icmp .lt 18, 3) := by decide +kernel
theorem dX3_count_19 : decode cX3_count 19 = .ok (.aload_n 0, 1) := by decide +kernel
theorem dX3_count_20 : decode cX3_count 20 = .ok (.getfield 10, 3) := by decide +kernel
theorem dX3_count_23 : decode cX3_count 23 = .ok (.getfield 52, 3) := by decide +kernel
theorem dX3_count_26 : decode cX3_count 26 = .ok (.iload_n 1, 1) := by decide +kernel
theorem dX3_count_27 : decode cX3_count 27 = .ok (.bipush 12, 2) := by decide +kernel
theorem dX3_count_29 : decode cX3_count 29 = .ok (.isub, 1) := by decide +kernel
theorem dX3_count_30 : decode cX3_count 30 = .ok (.invokestatic 55, 3) := by decide +kernel
theorem dX3_count_33 : decode cX3_count 33 = .ok (.ireturn, 1) := by decide +kernel
theorem dX3_count_34 : decode cX3_count 34 = .ok (.aload_n 0, 1) := by decide +kernel
theorem dX3_count_35 : decode cX3_count 35 = .ok (.getfield 25, 3) := by decide +kernel
theorem dX3_count_38 : decode cX3_count 38 = .ok (.aload_n 0, 1) := by decide +kernel
theorem dX3_count_39 : decode cX3_count 39 = .ok (.getfield 10, 3) := by decide +kernel
theorem dX3_count_42 : decode cX3_count 42 = .ok (.aload_n 0, 1) := by decide +kernel
theorem dX3_count_43 : decode cX3_count 43 = .ok (.getfield 10, 3) := by decide +kernel
theorem dX3_count_46 : decode cX3_count 46 = .ok (.getfield 52, 3) := by decide +kernel
theorem dX3_count_49 : decode cX3_count 49 = .ok (.invokevirtual 119, 3) := by decide +kernel
theorem dX3_count_52 : decode cX3_count 52 = .ok (.iload_n 1, 1) := by decide +kernel
theorem dX3_count_53 : decode cX3_count 53 = .ok (.tableswitch 119 0 11 #[63, 119, 119, 119, 119, 119, 71, 79, 87, 95, 103, 111], 63) := by decide +kernel
theorem dX3_count_116 : decode cX3_count 116 = .ok (.aload_n 0, 1) := by decide +kernel
theorem dX3_count_117 : decode cX3_count 117 = .ok (.getfield 10, 3) := by decide +kernel
theorem dX3_count_120 : decode cX3_count 120 = .ok (.getfield 106, 3) := by decide +kernel
theorem dX3_count_123 : decode cX3_count 123 = .ok (.ireturn, 1) := by decide +kernel
theorem dX3_count_124 : decode cX3_count 124 = .ok (.aload_n 0, 1) := by decide +kernel
theorem dX3_count_125 : decode cX3_count 125 = .ok (.getfield 25, 3) := by decide +kernel
theorem dX3_count_128 : decode cX3_count 128 = .ok (.getfield 135, 3) := by decide +kernel
theorem dX3_count_131 : decode cX3_count 131 = .ok (.ireturn, 1) := by decide +kernel
theorem dX3_count_132 : decode cX3_count 132 = .ok (.aload_n 0, 1) := by decide +kernel
theorem dX3_count_133 : decode cX3_count 133 = .ok (.getfield 25, 3) := by decide +kernel
theorem dX3_count_136 : decode cX3_count 136 = .ok (.invokevirtual 138, 3) := by decide +kernel
theorem dX3_count_139 : decode cX3_count 139 = .ok (.ireturn, 1) := by decide +kernel
theorem dX3_count_140 : decode cX3_count 140 = .ok (.aload_n 0, 1) := by decide +kernel
theorem dX3_count_141 : decode cX3_count 141 = .ok (.getfield 25, 3) := by decide +kernel
theorem dX3_count_144 : decode cX3_count 144 = .ok (.getfield 142, 3) := by decide +kernel
theorem dX3_count_147 : decode cX3_count 147 = .ok (.ireturn, 1) := by decide +kernel
theorem dX3_count_148 : decode cX3_count 148 = .ok (.aload_n 0, 1) := by decide +kernel
theorem dX3_count_149 : decode cX3_count 149 = .ok (.getfield 10, 3) := by decide +kernel
theorem dX3_count_152 : decode cX3_count 152 = .ok (.getfield 70, 3) := by decide +kernel
theorem dX3_count_155 : decode cX3_count 155 = .ok (.ireturn, 1) := by decide +kernel
theorem dX3_count_156 : decode cX3_count 156 = .ok (.aload_n 0, 1) := by decide +kernel
theorem dX3_count_157 : decode cX3_count 157 = .ok (.getfield 10, 3) := by decide +kernel
theorem dX3_count_160 : decode cX3_count 160 = .ok (.getfield 90, 3) := by decide +kernel
theorem dX3_count_163 : decode cX3_count 163 = .ok (.ireturn, 1) := by decide +kernel
theorem dX3_count_164 : decode cX3_count 164 = .ok (.aload_n 0, 1) := by decide +kernel
theorem dX3_count_165 : decode cX3_count 165 = .ok (.getfield 32, 3) := by decide +kernel
theorem dX3_count_168 : decode cX3_count 168 = .ok (.getfield 145, 3) := by decide +kernel
theorem dX3_count_171 : decode cX3_count 171 = .ok (.ireturn, 1) := by decide +kernel
theorem dX3_count_172 : decode cX3_count 172 = .ok (.aload_n 0, 1) := by decide +kernel
theorem dX3_count_173 : decode cX3_count 173 = .ok (.getfield 25, 3) := by decide +kernel
theorem dX3_count_176 : decode cX3_count 176 = .ok (.getfield 146, 3) := by decide +kernel
theorem dX3_count_179 : decode cX3_count 179 = .ok (.iload_n 1, 1) := by decide +kernel
theorem dX3_count_180 : decode cX3_count 180 = .ok (.iconst 1, 1) := by decide +kernel
theorem dX3_count_181 : decode cX3_count 181 = .ok (.isub, 1) := by decide +kernel
theorem dX3_count_182 : decode cX3_count 182 = .ok (.invokestatic 55, 3) := by decide +kernel
theorem dX3_count_185 : decode cX3_count 185 = .ok (.ireturn, 1) := by decide +kernel
abbrev wX3_count : List Cond := .code yX3_count cX3_count 2 (some .int) :: lw_gd
theorem hdX3_count : (yX3_count.cls ≠ "java/lang/invoke/MethodHandle" ∧ yX3_count.cls ≠ "java/lang/invoke/VarHandle" ∧ (parseMethodDescriptor yX3_count.desc).map (fun d => d.parameters.length) = some 1) := by decide +kernel
def fX3_count_172   (b1 : Int32) (M : xm_M) : Option (Int32 × xm_M) :=
  xm_bi (fX3_item 68 5 (b1 - (1 : Int32)) M) (fun x6 M5 => some (x6, M5))
set_option maxRecDepth 20000 in
theorem tfX3_count_172 {p : Program} {l : Launch} {e : Env} {s : State} {m : MethodId} {args : Array Value} {below : List Frame} {meth : Method} {c : Code} {D : va_G} {g : xm_G} {A : Nat → Prop}  {L : List xm_Sh} (hL : xm_pre L) (hX : xm_X p m meth c cX3_count 2 s args wX3_count RX3 (some .int) D L g A)    : ∀ (b1 : Int32), ∀ (M : xm_M), xm_J p l e ({ frames := 5, cells := 0, slots := 0, locals := 129 }) s m args below meth c 2 D L g A (xm_Z below args s D L g A (xm_Fi g)) 172 [(0, .ref (g.1 0)), (1, .int b1)] [] M (fX3_count_172 b1 M) := by
  intro b1 M
  unfold fX3_count_172
  refine xm_aload_n hX 0 dX3_count_172 rfl rfl ?_
  refine xm_get hX (k := 0) (ci := 3) (j := 3) (C := RX3) (T := TX3) (N := 6) (v := .ref (g.1 49)) (hL _ _ cL_0) rfl rfl rfl (by decide) (fun z hz => List.mem_cons_of_mem _ (iw_X3 z hz)) (List.mem_cons_of_mem _ gm_131) dX3_count_173 ?_
  refine xm_get hX (k := 49) (ci := 2) (j := 2) (C := RX2) (T := TX2) (N := 12) (v := .ref (g.1 68)) (hL _ _ cL_49) rfl rfl rfl (by decide) (fun z hz => List.mem_cons_of_mem _ (iw_X2 z hz)) (List.mem_cons_of_mem _ gm_78) dX3_count_176 ?_
  refine xm_iload_n hX 1 dX3_count_179 rfl rfl ?_
  refine xm_iconst hX (v := 1) rfl dX3_count_180 ?_
  refine xm_isub hX dX3_count_181 ?_
  refine xm_calli hX (xm_runS hX (As := (fun g => [.ref (g.1 68), .int (b1 - (1 : Int32))])) (kX3_item hL 68 5 (hL _ _ cL_68) (b1 - (1 : Int32)) M) (xm_gS gm_152 gm_153 gm_1 gm_154) rfl ⟨rfl, rfl⟩ hdX3_item ⟨Nat.le_of_ble_eq_true rfl, Nat.le_of_ble_eq_true rfl⟩ rfl (Nat.le_of_ble_eq_true rfl) rfl ⟨Nat.le_of_ble_eq_true rfl, Nat.le_of_ble_eq_true rfl⟩ dX3_count_182) (fun x6 M5 => ?_)
  exact xm_iret hX dX3_count_185
def fX3_count  (a1 : Int32) (M : xm_M) : Option (Int32 × xm_M) :=
  xm_bi (fX3_isWithin a1 (0 : Int32) (20 : Int32) M) (fun x2 M1 => if x2 = 0 then some ((-2 : Int32), M1) else if a1 < (12 : Int32) then xm_bv (fX2_follow 2 M1) (fun M3 => if a1 = 0 then some (M3.1 1 6, M3) else if a1 = 1 then fX3_count_172 a1 M3 else if a1 = 2 then fX3_count_172 a1 M3 else if a1 = 3 then fX3_count_172 a1 M3 else if a1 = 4 then fX3_count_172 a1 M3 else if a1 = 5 then fX3_count_172 a1 M3 else if a1 = 6 then some (M3.1 49 8, M3) else if a1 = 7 then xm_bi (fX2_toldErrors M3) (fun x14 M13 => some (x14, M13)) else if a1 = 8 then some (M3.1 49 6, M3) else if a1 = 9 then some (M3.1 1 4, M3) else if a1 = 10 then some (M3.1 1 5, M3) else if a1 = 11 then some (M3.1 69 1, M3) else fX3_count_172 a1 M3) else xm_bi (fX3_item 2 9 (a1 - (12 : Int32)) M1) (fun x21 M20 => some (x21, M20)))
set_option maxRecDepth 20000 in
theorem kX3_count {l : Launch} {L : List xm_Sh} (hL : xm_pre L)   (a1 : Int32) (M : xm_M) : xm_C l yX3_count wX3_count ({ frames := 5, cells := 0, slots := 0, locals := 129 }) L (fun g => [.ref (g.1 0), .int a1]) M xm_Fi (fX3_count  a1 M) := by
  refine xm_C.of (by decide) rfl (fun g => Nat.le_of_ble_eq_true rfl) ?_
  intro p e s m args below meth c D g A hX
  refine xm_lv (lv' := [(0, .ref (g.1 0)), (1, .int a1)]) rfl ?_
  unfold fX3_count
  refine xm_iload_n hX 1 dX3_count_0 rfl rfl ?_
  refine xm_iconst hX (v := 0) rfl dX3_count_1 ?_
  refine xm_bipush hX (v := 20) rfl dX3_count_2 ?_
  refine xm_calli hX (xm_runS hX (As := (fun g => [.int a1, .int (0 : Int32), .int (20 : Int32)])) (kX3_isWithin hL a1 (0 : Int32) (20 : Int32) M) (xm_gS gm_149 gm_150 gm_1 gm_151) rfl ⟨rfl, rfl⟩ hdX3_isWithin ⟨Nat.le_of_ble_eq_true rfl, Nat.le_of_ble_eq_true rfl⟩ rfl (Nat.le_of_ble_eq_true rfl) rfl ⟨Nat.le_of_ble_eq_true rfl, Nat.le_of_ble_eq_true rfl⟩ dX3_count_4) (fun x2 M1 => ?_)
  refine xm_if_ne hX (tgt := 13) dX3_count_7 rfl ?_ ?_
  · refine xm_iload_n hX 1 dX3_count_13 rfl rfl ?_
    refine xm_bipush hX (v := 12) rfl dX3_count_14 ?_
    refine xm_icmp_lt hX (tgt := 34) dX3_count_16 rfl ?_ ?_
    · refine xm_aload_n hX 0 dX3_count_34 rfl rfl ?_
      refine xm_get hX (k := 0) (ci := 3) (j := 3) (C := RX3) (T := TX3) (N := 6) (v := .ref (g.1 49)) (hL _ _ cL_0) rfl rfl rfl (by decide) (fun z hz => List.mem_cons_of_mem _ (iw_X3 z hz)) (List.mem_cons_of_mem _ gm_131) dX3_count_35 ?_
      refine xm_aload_n hX 0 dX3_count_38 rfl rfl ?_
      refine xm_get hX (k := 0) (ci := 3) (j := 0) (C := RX3) (T := TX3) (N := 6) (v := .ref (g.1 1)) (hL _ _ cL_0) rfl rfl rfl (by decide) (fun z hz => List.mem_cons_of_mem _ (iw_X3 z hz)) (List.mem_cons_of_mem _ gm_128) dX3_count_39 ?_
      refine xm_aload_n hX 0 dX3_count_42 rfl rfl ?_
      refine xm_get hX (k := 0) (ci := 3) (j := 0) (C := RX3) (T := TX3) (N := 6) (v := .ref (g.1 1)) (hL _ _ cL_0) rfl rfl rfl (by decide) (fun z hz => List.mem_cons_of_mem _ (iw_X3 z hz)) (List.mem_cons_of_mem _ gm_128) dX3_count_43 ?_
      refine xm_get hX (k := 1) (ci := 1) (j := 0) (C := RX1) (T := TX1) (N := 11) (v := .ref (g.1 2)) (hL _ _ cL_1) rfl rfl rfl (by decide) (fun z hz => List.mem_cons_of_mem _ (iw_X1 z hz)) (List.mem_cons_of_mem _ gm_29) dX3_count_46 ?_
      refine xm_callv hX (xm_runV hX (k := 49) (ci := 2) (As := (fun g => [.ref (g.1 1), .ref (g.1 2)])) (kX2_follow hL 2 (hL _ _ cL_2) M1) (hL _ _ cL_49) rfl (xm_gV gm_200 gm_201 gm_202 gm_3 gm_203) rfl ⟨rfl, rfl⟩ ⟨rfl, hdX2_follow⟩ ⟨Nat.le_of_ble_eq_true rfl, Nat.le_of_ble_eq_true rfl⟩ rfl (Nat.le_of_ble_eq_true rfl) rfl ⟨Nat.le_of_ble_eq_true rfl, Nat.le_of_ble_eq_true rfl⟩ dX3_count_49) (fun M3 => ?_)
      refine xm_iload_n hX 1 dX3_count_52 rfl rfl ?_
      refine xm_ite (fun z4 => ?_) (fun z4 => ?_)
      · refine xm_tsIn hX (tgt := 116) dX3_count_53 z4 (by decide) (by decide) rfl rfl ?_
        refine xm_aload_n hX 0 dX3_count_116 rfl rfl ?_
        refine xm_get hX (k := 0) (ci := 3) (j := 0) (C := RX3) (T := TX3) (N := 6) (v := .ref (g.1 1)) (hL _ _ cL_0) rfl rfl rfl (by decide) (fun z hz => List.mem_cons_of_mem _ (iw_X3 z hz)) (List.mem_cons_of_mem _ gm_128) dX3_count_117 ?_
        refine xm_get hX (k := 1) (ci := 1) (j := 6) (C := RX1) (T := TX1) (N := 11) (v := .int (M3.1 1 6)) (hL _ _ cL_1) rfl rfl rfl (by decide) (fun z hz => List.mem_cons_of_mem _ (iw_X1 z hz)) (List.mem_cons_of_mem _ gm_45) dX3_count_120 ?_
        exact xm_iret hX dX3_count_123
      refine xm_ite (fun z7 => ?_) (fun z7 => ?_)
      · refine xm_tsIn hX (tgt := 172) dX3_count_53 z7 (by decide) (by decide) rfl rfl ?_
        exact tfX3_count_172 hL hX a1 M3
      refine xm_ite (fun z8 => ?_) (fun z8 => ?_)
      · refine xm_tsIn hX (tgt := 172) dX3_count_53 z8 (by decide) (by decide) rfl rfl ?_
        exact tfX3_count_172 hL hX a1 M3
      refine xm_ite (fun z9 => ?_) (fun z9 => ?_)
      · refine xm_tsIn hX (tgt := 172) dX3_count_53 z9 (by decide) (by decide) rfl rfl ?_
        exact tfX3_count_172 hL hX a1 M3
      refine xm_ite (fun z10 => ?_) (fun z10 => ?_)
      · refine xm_tsIn hX (tgt := 172) dX3_count_53 z10 (by decide) (by decide) rfl rfl ?_
        exact tfX3_count_172 hL hX a1 M3
      refine xm_ite (fun z11 => ?_) (fun z11 => ?_)
      · refine xm_tsIn hX (tgt := 172) dX3_count_53 z11 (by decide) (by decide) rfl rfl ?_
        exact tfX3_count_172 hL hX a1 M3
      refine xm_ite (fun z12 => ?_) (fun z12 => ?_)
      · refine xm_tsIn hX (tgt := 124) dX3_count_53 z12 (by decide) (by decide) rfl rfl ?_
        refine xm_aload_n hX 0 dX3_count_124 rfl rfl ?_
        refine xm_get hX (k := 0) (ci := 3) (j := 3) (C := RX3) (T := TX3) (N := 6) (v := .ref (g.1 49)) (hL _ _ cL_0) rfl rfl rfl (by decide) (fun z hz => List.mem_cons_of_mem _ (iw_X3 z hz)) (List.mem_cons_of_mem _ gm_131) dX3_count_125 ?_
        refine xm_get hX (k := 49) (ci := 2) (j := 8) (C := RX2) (T := TX2) (N := 12) (v := .int (M3.1 49 8)) (hL _ _ cL_49) rfl rfl rfl (by decide) (fun z hz => List.mem_cons_of_mem _ (iw_X2 z hz)) (List.mem_cons_of_mem _ gm_89) dX3_count_128 ?_
        exact xm_iret hX dX3_count_131
      refine xm_ite (fun z15 => ?_) (fun z15 => ?_)
      · refine xm_tsIn hX (tgt := 132) dX3_count_53 z15 (by decide) (by decide) rfl rfl ?_
        refine xm_aload_n hX 0 dX3_count_132 rfl rfl ?_
        refine xm_get hX (k := 0) (ci := 3) (j := 3) (C := RX3) (T := TX3) (N := 6) (v := .ref (g.1 49)) (hL _ _ cL_0) rfl rfl rfl (by decide) (fun z hz => List.mem_cons_of_mem _ (iw_X3 z hz)) (List.mem_cons_of_mem _ gm_131) dX3_count_133 ?_
        refine xm_calli hX (xm_runV hX (k := 49) (ci := 2) (As := (fun g => [])) (kX2_toldErrors hL M3) (hL _ _ cL_49) rfl (xm_gV gm_275 gm_276 gm_277 gm_3 gm_278) rfl ⟨rfl, rfl⟩ ⟨rfl, hdX2_toldErrors⟩ ⟨Nat.le_of_ble_eq_true rfl, Nat.le_of_ble_eq_true rfl⟩ rfl (Nat.le_of_ble_eq_true rfl) rfl ⟨Nat.le_of_ble_eq_true rfl, Nat.le_of_ble_eq_true rfl⟩ dX3_count_136) (fun x14 M13 => ?_)
        exact xm_iret hX dX3_count_139
      refine xm_ite (fun z16 => ?_) (fun z16 => ?_)
      · refine xm_tsIn hX (tgt := 140) dX3_count_53 z16 (by decide) (by decide) rfl rfl ?_
        refine xm_aload_n hX 0 dX3_count_140 rfl rfl ?_
        refine xm_get hX (k := 0) (ci := 3) (j := 3) (C := RX3) (T := TX3) (N := 6) (v := .ref (g.1 49)) (hL _ _ cL_0) rfl rfl rfl (by decide) (fun z hz => List.mem_cons_of_mem _ (iw_X3 z hz)) (List.mem_cons_of_mem _ gm_131) dX3_count_141 ?_
        refine xm_get hX (k := 49) (ci := 2) (j := 6) (C := RX2) (T := TX2) (N := 12) (v := .int (M3.1 49 6)) (hL _ _ cL_49) rfl rfl rfl (by decide) (fun z hz => List.mem_cons_of_mem _ (iw_X2 z hz)) (List.mem_cons_of_mem _ gm_86) dX3_count_144 ?_
        exact xm_iret hX dX3_count_147
      refine xm_ite (fun z17 => ?_) (fun z17 => ?_)
      · refine xm_tsIn hX (tgt := 148) dX3_count_53 z17 (by decide) (by decide) rfl rfl ?_
        refine xm_aload_n hX 0 dX3_count_148 rfl rfl ?_
        refine xm_get hX (k := 0) (ci := 3) (j := 0) (C := RX3) (T := TX3) (N := 6) (v := .ref (g.1 1)) (hL _ _ cL_0) rfl rfl rfl (by decide) (fun z hz => List.mem_cons_of_mem _ (iw_X3 z hz)) (List.mem_cons_of_mem _ gm_128) dX3_count_149 ?_
        refine xm_get hX (k := 1) (ci := 1) (j := 4) (C := RX1) (T := TX1) (N := 11) (v := .int (M3.1 1 4)) (hL _ _ cL_1) rfl rfl rfl (by decide) (fun z hz => List.mem_cons_of_mem _ (iw_X1 z hz)) (List.mem_cons_of_mem _ gm_39) dX3_count_152 ?_
        exact xm_iret hX dX3_count_155
      refine xm_ite (fun z18 => ?_) (fun z18 => ?_)
      · refine xm_tsIn hX (tgt := 156) dX3_count_53 z18 (by decide) (by decide) rfl rfl ?_
        refine xm_aload_n hX 0 dX3_count_156 rfl rfl ?_
        refine xm_get hX (k := 0) (ci := 3) (j := 0) (C := RX3) (T := TX3) (N := 6) (v := .ref (g.1 1)) (hL _ _ cL_0) rfl rfl rfl (by decide) (fun z hz => List.mem_cons_of_mem _ (iw_X3 z hz)) (List.mem_cons_of_mem _ gm_128) dX3_count_157 ?_
        refine xm_get hX (k := 1) (ci := 1) (j := 5) (C := RX1) (T := TX1) (N := 11) (v := .int (M3.1 1 5)) (hL _ _ cL_1) rfl rfl rfl (by decide) (fun z hz => List.mem_cons_of_mem _ (iw_X1 z hz)) (List.mem_cons_of_mem _ gm_42) dX3_count_160 ?_
        exact xm_iret hX dX3_count_163
      refine xm_ite (fun z19 => ?_) (fun z19 => ?_)
      · refine xm_tsIn hX (tgt := 164) dX3_count_53 z19 (by decide) (by decide) rfl rfl ?_
        refine xm_aload_n hX 0 dX3_count_164 rfl rfl ?_
        refine xm_get hX (k := 0) (ci := 3) (j := 4) (C := RX3) (T := TX3) (N := 6) (v := .ref (g.1 69)) (hL _ _ cL_0) rfl rfl rfl (by decide) (fun z hz => List.mem_cons_of_mem _ (iw_X3 z hz)) (List.mem_cons_of_mem _ gm_132) dX3_count_165 ?_
        refine xm_get hX (k := 69) (ci := 0) (j := 1) (C := RX0) (T := TX0) (N := 5) (v := .int (M3.1 69 1)) (hL _ _ cL_69) rfl rfl rfl (by decide) (fun z hz => List.mem_cons_of_mem _ (iw_X0 z hz)) (List.mem_cons_of_mem _ gm_113) dX3_count_168 ?_
        exact xm_iret hX dX3_count_171
      refine xm_tsOut hX (tgt := 172) dX3_count_53 (by have qz4 := lv_neT (a := 0) z4 rfl; have qz7 := lv_neT (a := 1) z7 rfl; have qz8 := lv_neT (a := 2) z8 rfl; have qz9 := lv_neT (a := 3) z9 rfl; have qz10 := lv_neT (a := 4) z10 rfl; have qz11 := lv_neT (a := 5) z11 rfl; have qz12 := lv_neT (a := 6) z12 rfl; have qz15 := lv_neT (a := 7) z15 rfl; have qz16 := lv_neT (a := 8) z16 rfl; have qz17 := lv_neT (a := 9) z17 rfl; have qz18 := lv_neT (a := 10) z18 rfl; have qz19 := lv_neT (a := 11) z19 rfl; omega) rfl ?_
      exact tfX3_count_172 hL hX a1 M3
    · refine xm_aload_n hX 0 dX3_count_19 rfl rfl ?_
      refine xm_get hX (k := 0) (ci := 3) (j := 0) (C := RX3) (T := TX3) (N := 6) (v := .ref (g.1 1)) (hL _ _ cL_0) rfl rfl rfl (by decide) (fun z hz => List.mem_cons_of_mem _ (iw_X3 z hz)) (List.mem_cons_of_mem _ gm_128) dX3_count_20 ?_
      refine xm_get hX (k := 1) (ci := 1) (j := 0) (C := RX1) (T := TX1) (N := 11) (v := .ref (g.1 2)) (hL _ _ cL_1) rfl rfl rfl (by decide) (fun z hz => List.mem_cons_of_mem _ (iw_X1 z hz)) (List.mem_cons_of_mem _ gm_29) dX3_count_23 ?_
      refine xm_iload_n hX 1 dX3_count_26 rfl rfl ?_
      refine xm_bipush hX (v := 12) rfl dX3_count_27 ?_
      refine xm_isub hX dX3_count_29 ?_
      refine xm_calli hX (xm_runS hX (As := (fun g => [.ref (g.1 2), .int (a1 - (12 : Int32))])) (kX3_item hL 2 9 (hL _ _ cL_2) (a1 - (12 : Int32)) M1) (xm_gS gm_152 gm_153 gm_1 gm_154) rfl ⟨rfl, rfl⟩ hdX3_item ⟨Nat.le_of_ble_eq_true rfl, Nat.le_of_ble_eq_true rfl⟩ rfl (Nat.le_of_ble_eq_true rfl) rfl ⟨Nat.le_of_ble_eq_true rfl, Nat.le_of_ble_eq_true rfl⟩ dX3_count_30) (fun x21 M20 => ?_)
      exact xm_iret hX dX3_count_33
  · refine xm_bipush hX (v := -2) rfl dX3_count_10 ?_
    exact xm_iret hX dX3_count_12
-- ===== OdometryDesk.cut(I)I ['0']
theorem dX3_cut_0 : decode cX3_cut 0 = .ok (.iload_n 1, 1) := by decide +kernel
theorem dX3_cut_1 : decode cX3_cut 1 = .ok (.iconst 1, 1) := by decide +kernel
theorem dX3_cut_2 : decode cX3_cut 2 = .ok (.if_icmp .lt 14, 3) := by decide +kernel
theorem dX3_cut_5 : decode cX3_cut 5 = .ok (.iload_n 1, 1) := by decide +kernel
theorem dX3_cut_6 : decode cX3_cut 6 = .ok (.aload_n 0, 1) := by decide +kernel
theorem dX3_cut_7 : decode cX3_cut 7 = .ok (.getfield 10, 3) := by decide +kernel
theorem dX3_cut_10 : decode cX3_cut 10 = .ok (.getfield 106, 3) := by decide +kernel
theorem dX3_cut_13 : decode cX3_cut 13 = .ok (.if_icmp .le 6, 3) := by decide +kernel
theorem dX3_cut_16 : decode cX3_cut 16 = .ok (.bipush (-2), 2) := by decide +kernel
theorem dX3_cut_18 : decode cX3_cut 18 = .ok (.ireturn, 1) := by decide +kernel
theorem dX3_cut_19 : decode cX3_cut 19 = .ok (.aload_n 0, 1) := by decide +kernel
theorem dX3_cut_20 : decode cX3_cut 20 = .ok (.getfield 10, 3) := by decide +kernel
theorem dX3_cut_23 : decode cX3_cut 23 = .ok (.dup, 1) := by decide +kernel
theorem dX3_cut_24 : decode cX3_cut 24 = .ok (.getfield 106, 3) := by decide +kernel
theorem dX3_cut_27 : decode cX3_cut 27 = .ok (.iload_n 1, 1) := by decide +kernel
theorem dX3_cut_28 : decode cX3_cut 28 = .ok (.isub, 1) := by decide +kernel
theorem dX3_cut_29 : decode cX3_cut 29 = .ok (.putfield 106, 3) := by decide +kernel
theorem dX3_cut_32 : decode cX3_cut 32 = .ok (.aload_n 0, 1) := by decide +kernel
theorem dX3_cut_33 : decode cX3_cut 33 = .ok (.getfield 10, 3) := by decide +kernel
theorem dX3_cut_36 : decode cX3_cut 36 = .ok (.getfield 106, 3) := by decide +kernel
theorem dX3_cut_39 : decode cX3_cut 39 = .ok (.ireturn, 1) := by decide +kernel
abbrev wX3_cut : List Cond := .code yX3_cut cX3_cut 2 (some .int) :: lw_gd
theorem hdX3_cut : (yX3_cut.cls ≠ "java/lang/invoke/MethodHandle" ∧ yX3_cut.cls ≠ "java/lang/invoke/VarHandle" ∧ (parseMethodDescriptor yX3_cut.desc).map (fun d => d.parameters.length) = some 1) := by decide +kernel
def fX3_cut  (a1 : Int32) (M : xm_M) : Option (Int32 × xm_M) :=
  if a1 < (1 : Int32) then some ((-2 : Int32), M) else if a1 ≤ (M.1 1 6) then xm_lt (xm_s M 1 6 ((M.1 1 6) - a1)) (fun M1 => some (M1.1 1 6, M1)) else some ((-2 : Int32), M)
set_option maxRecDepth 20000 in
theorem kX3_cut {l : Launch} {L : List xm_Sh} (hL : xm_pre L)   (a1 : Int32) (M : xm_M) : xm_C l yX3_cut wX3_cut ({ frames := 0, cells := 0, slots := 0, locals := 0 }) L (fun g => [.ref (g.1 0), .int a1]) M xm_Fi (fX3_cut  a1 M) := by
  refine xm_C.of (by decide) rfl (fun g => Nat.le_of_ble_eq_true rfl) ?_
  intro p e s m args below meth c D g A hX
  refine xm_lv (lv' := [(0, .ref (g.1 0)), (1, .int a1)]) rfl ?_
  unfold fX3_cut
  refine xm_iload_n hX 1 dX3_cut_0 rfl rfl ?_
  refine xm_iconst hX (v := 1) rfl dX3_cut_1 ?_
  refine xm_icmp_lt hX (tgt := 16) dX3_cut_2 rfl ?_ ?_
  · refine xm_bipush hX (v := -2) rfl dX3_cut_16 ?_
    exact xm_iret hX dX3_cut_18
  · refine xm_iload_n hX 1 dX3_cut_5 rfl rfl ?_
    refine xm_aload_n hX 0 dX3_cut_6 rfl rfl ?_
    refine xm_get hX (k := 0) (ci := 3) (j := 0) (C := RX3) (T := TX3) (N := 6) (v := .ref (g.1 1)) (hL _ _ cL_0) rfl rfl rfl (by decide) (fun z hz => List.mem_cons_of_mem _ (iw_X3 z hz)) (List.mem_cons_of_mem _ gm_128) dX3_cut_7 ?_
    refine xm_get hX (k := 1) (ci := 1) (j := 6) (C := RX1) (T := TX1) (N := 11) (v := .int (M.1 1 6)) (hL _ _ cL_1) rfl rfl rfl (by decide) (fun z hz => List.mem_cons_of_mem _ (iw_X1 z hz)) (List.mem_cons_of_mem _ gm_45) dX3_cut_10 ?_
    refine xm_icmp_le hX (tgt := 19) dX3_cut_13 rfl ?_ ?_
    · refine xm_aload_n hX 0 dX3_cut_19 rfl rfl ?_
      refine xm_get hX (k := 0) (ci := 3) (j := 0) (C := RX3) (T := TX3) (N := 6) (v := .ref (g.1 1)) (hL _ _ cL_0) rfl rfl rfl (by decide) (fun z hz => List.mem_cons_of_mem _ (iw_X3 z hz)) (List.mem_cons_of_mem _ gm_128) dX3_cut_20 ?_
      refine xm_dup hX rfl dX3_cut_23 ?_
      refine xm_get hX (k := 1) (ci := 1) (j := 6) (C := RX1) (T := TX1) (N := 11) (v := .int (M.1 1 6)) (hL _ _ cL_1) rfl rfl rfl (by decide) (fun z hz => List.mem_cons_of_mem _ (iw_X1 z hz)) (List.mem_cons_of_mem _ gm_45) dX3_cut_24 ?_
      refine xm_iload_n hX 1 dX3_cut_27 rfl rfl ?_
      refine xm_isub hX dX3_cut_28 ?_
      refine xm_puti hX (k := 1) (ci := 1) (j := 6) (C := RX1) (T := TX1) (N := 11) (t0 := tyX1) (hL _ _ cL_1) rfl rfl (by decide) (fun z hz => List.mem_cons_of_mem _ (iw_X1 z hz)) tyX1_ok nmX1 rfl rfl (List.mem_cons_of_mem _ gm_45) dX3_cut_29 (fun M1 => ?_)
      refine xm_aload_n hX 0 dX3_cut_32 rfl rfl ?_
      refine xm_get hX (k := 0) (ci := 3) (j := 0) (C := RX3) (T := TX3) (N := 6) (v := .ref (g.1 1)) (hL _ _ cL_0) rfl rfl rfl (by decide) (fun z hz => List.mem_cons_of_mem _ (iw_X3 z hz)) (List.mem_cons_of_mem _ gm_128) dX3_cut_33 ?_
      refine xm_get hX (k := 1) (ci := 1) (j := 6) (C := RX1) (T := TX1) (N := 11) (v := .int (M1.1 1 6)) (hL _ _ cL_1) rfl rfl rfl (by decide) (fun z hz => List.mem_cons_of_mem _ (iw_X1 z hz)) (List.mem_cons_of_mem _ gm_45) dX3_cut_36 ?_
      exact xm_iret hX dX3_cut_39
    · refine xm_bipush hX (v := -2) rfl dX3_cut_16 ?_
      exact xm_iret hX dX3_cut_18
-- ===== OdometryDesk$Pad.takes(C)Z ['69']
theorem dX0_takes_0 : decode cX0_takes 0 = .ok (.aload_n 0, 1) := by decide +kernel
theorem dX0_takes_1 : decode cX0_takes 1 = .ok (.getfield 32, 3) := by decide +kernel
theorem dX0_takes_4 : decode cX0_takes 4 = .ok (.aload_n 0, 1) := by decide +kernel
theorem dX0_takes_5 : decode cX0_takes 5 = .ok (.getfield 24, 3) := by decide +kernel
theorem dX0_takes_8 : decode cX0_takes 8 = .ok (.if_icmp .ge 18, 3) := by decide +kernel
theorem dX0_takes_11 : decode cX0_takes 11 = .ok (.aload_n 0, 1) := by decide +kernel
theorem dX0_takes_12 : decode cX0_takes 12 = .ok (.getfield 9, 3) := by decide +kernel
theorem dX0_takes_15 : decode cX0_takes 15 = .ok (.aload_n 0, 1) := by decide +kernel
theorem dX0_takes_16 : decode cX0_takes 16 = .ok (.getfield 32, 3) := by decide +kernel
theorem dX0_takes_19 : decode cX0_takes 19 = .ok (.invokestatic 55, 3) := by decide +kernel
theorem dX0_takes_22 : decode cX0_takes 22 = .ok (.iload_n 1, 1) := by decide +kernel
theorem dX0_takes_23 : decode cX0_takes 23 = .ok (.if_icmp .eq 5, 3) := by decide +kernel
theorem dX0_takes_26 : decode cX0_takes 26 = .ok (.iconst 0, 1) := by decide +kernel
theorem dX0_takes_27 : decode cX0_takes 27 = .ok (.ireturn, 1) := by decide +kernel
theorem dX0_takes_28 : decode cX0_takes 28 = .ok (.aload_n 0, 1) := by decide +kernel
theorem dX0_takes_29 : decode cX0_takes 29 = .ok (.dup, 1) := by decide +kernel
theorem dX0_takes_30 : decode cX0_takes 30 = .ok (.getfield 32, 3) := by decide +kernel
theorem dX0_takes_33 : decode cX0_takes 33 = .ok (.iconst 1, 1) := by decide +kernel
theorem dX0_takes_34 : decode cX0_takes 34 = .ok (.iadd, 1) := by decide +kernel
theorem dX0_takes_35 : decode cX0_takes 35 = .ok (.putfield 32, 3) := by decide +kernel
theorem dX0_takes_38 : decode cX0_takes 38 = .ok (.iconst 1, 1) := by decide +kernel
theorem dX0_takes_39 : decode cX0_takes 39 = .ok (.ireturn, 1) := by decide +kernel
abbrev wX0_takes : List Cond := .code yX0_takes cX0_takes 2 (some .boolean) :: lw_gd
theorem hdX0_takes : (yX0_takes.cls ≠ "java/lang/invoke/MethodHandle" ∧ yX0_takes.cls ≠ "java/lang/invoke/VarHandle" ∧ (parseMethodDescriptor yX0_takes.desc).map (fun d => d.parameters.length) = some 1) := by decide +kernel
def fX0_takes  (a1 : Int32) (M : xm_M) : Option (Int32 × xm_M) :=
  if (M.1 69 1) ≤ (M.1 69 2) then some ((0 : Int32), M) else xm_bi (fX3_item 70 100 (M.1 69 2) M) (fun x2 M1 => if x2 = a1 then xm_lt (xm_s M1 69 2 ((M1.1 69 2) + (1 : Int32))) (fun M3 => some ((1 : Int32), M3)) else some ((0 : Int32), M1))
set_option maxRecDepth 20000 in
theorem kX0_takes {l : Launch} {L : List xm_Sh} (hL : xm_pre L)   (a1 : Int32) (M : xm_M) : xm_C l yX0_takes wX0_takes ({ frames := 1, cells := 0, slots := 0, locals := 21 }) L (fun g => [.ref (g.1 69), .int a1]) M xm_Fi (fX0_takes  a1 M) := by
  refine xm_C.of (by decide) rfl (fun g => Nat.le_of_ble_eq_true rfl) ?_
  intro p e s m args below meth c D g A hX
  refine xm_lv (lv' := [(0, .ref (g.1 69)), (1, .int a1)]) rfl ?_
  unfold fX0_takes
  refine xm_aload_n hX 0 dX0_takes_0 rfl rfl ?_
  refine xm_get hX (k := 69) (ci := 0) (j := 2) (C := RX0) (T := TX0) (N := 5) (v := .int (M.1 69 2)) (hL _ _ cL_69) rfl rfl rfl (by decide) (fun z hz => List.mem_cons_of_mem _ (iw_X0 z hz)) (List.mem_cons_of_mem _ gm_114) dX0_takes_1 ?_
  refine xm_aload_n hX 0 dX0_takes_4 rfl rfl ?_
  refine xm_get hX (k := 69) (ci := 0) (j := 1) (C := RX0) (T := TX0) (N := 5) (v := .int (M.1 69 1)) (hL _ _ cL_69) rfl rfl rfl (by decide) (fun z hz => List.mem_cons_of_mem _ (iw_X0 z hz)) (List.mem_cons_of_mem _ gm_112) dX0_takes_5 ?_
  refine xm_icmp_ge hX (tgt := 26) dX0_takes_8 rfl ?_ ?_
  · refine xm_iconst hX (v := 0) rfl dX0_takes_26 ?_
    exact xm_zretL hX (by decide) dX0_takes_27
  · refine xm_aload_n hX 0 dX0_takes_11 rfl rfl ?_
    refine xm_get hX (k := 69) (ci := 0) (j := 0) (C := RX0) (T := TX0) (N := 5) (v := .ref (g.1 70)) (hL _ _ cL_69) rfl rfl rfl (by decide) (fun z hz => List.mem_cons_of_mem _ (iw_X0 z hz)) (List.mem_cons_of_mem _ gm_111) dX0_takes_12 ?_
    refine xm_aload_n hX 0 dX0_takes_15 rfl rfl ?_
    refine xm_get hX (k := 69) (ci := 0) (j := 2) (C := RX0) (T := TX0) (N := 5) (v := .int (M.1 69 2)) (hL _ _ cL_69) rfl rfl rfl (by decide) (fun z hz => List.mem_cons_of_mem _ (iw_X0 z hz)) (List.mem_cons_of_mem _ gm_114) dX0_takes_16 ?_
    refine xm_calli hX (xm_runSN hX (As := (fun g => [.ref (g.1 70), .int (M.1 69 2)])) (kX3_item hL 70 100 (hL _ _ cL_70) (M.1 69 2) M) (xm_gN gm_154) rfl ⟨rfl, rfl⟩ nw_15 (List.mem_cons_of_mem _ gm_1) (List.mem_cons_of_mem _ gm_153) hdX3_item ⟨Nat.le_of_ble_eq_true rfl, Nat.le_of_ble_eq_true rfl⟩ rfl (Nat.le_of_ble_eq_true rfl) rfl ⟨Nat.le_of_ble_eq_true rfl, Nat.le_of_ble_eq_true rfl⟩ dX0_takes_19) (fun x2 M1 => ?_)
    refine xm_iload_n hX 1 dX0_takes_22 rfl rfl ?_
    refine xm_icmp_eq hX (tgt := 28) dX0_takes_23 rfl ?_ ?_
    · refine xm_aload_n hX 0 dX0_takes_28 rfl rfl ?_
      refine xm_dup hX rfl dX0_takes_29 ?_
      refine xm_get hX (k := 69) (ci := 0) (j := 2) (C := RX0) (T := TX0) (N := 5) (v := .int (M1.1 69 2)) (hL _ _ cL_69) rfl rfl rfl (by decide) (fun z hz => List.mem_cons_of_mem _ (iw_X0 z hz)) (List.mem_cons_of_mem _ gm_114) dX0_takes_30 ?_
      refine xm_iconst hX (v := 1) rfl dX0_takes_33 ?_
      refine xm_iadd hX dX0_takes_34 ?_
      refine xm_puti hX (k := 69) (ci := 0) (j := 2) (C := RX0) (T := TX0) (N := 5) (t0 := tyX0) (hL _ _ cL_69) rfl rfl (by decide) (fun z hz => List.mem_cons_of_mem _ (iw_X0 z hz)) tyX0_ok nmX0 rfl rfl (List.mem_cons_of_mem _ gm_114) dX0_takes_35 (fun M3 => ?_)
      refine xm_iconst hX (v := 1) rfl dX0_takes_38 ?_
      exact xm_zretL hX (by decide) dX0_takes_39
    · refine xm_iconst hX (v := 0) rfl dX0_takes_26 ?_
      exact xm_zretL hX (by decide) dX0_takes_27
-- ===== OdometryDesk$Pad.digit()I ['69']
theorem dX0_digit_0 : decode cX0_digit 0 = .ok (.aload_n 0, 1) := by decide +kernel
theorem dX0_digit_1 : decode cX0_digit 1 = .ok (.getfield 32, 3) := by decide +kernel
theorem dX0_digit_4 : decode cX0_digit 4 = .ok (.aload_n 0, 1) := by decide +kernel
theorem dX0_digit_5 : decode cX0_digit 5 = .ok (.getfield 24, 3) := by decide +kernel
theorem dX0_digit_8 : decode cX0_digit 8 = .ok (.if_icmp .ge 17, 3) := by decide +kernel
theorem dX0_digit_11 : decode cX0_digit 11 = .ok (.aload_n 0, 1) := by decide +kernel
theorem dX0_digit_12 : decode cX0_digit 12 = .ok (.getfield 9, 3) := by decide +kernel
theorem dX0_digit_15 : decode cX0_digit 15 = .ok (.aload_n 0, 1) := by decide +kernel
theorem dX0_digit_16 : decode cX0_digit 16 = .ok (.getfield 32, 3) := by decide +kernel
theorem dX0_digit_19 : decode cX0_digit 19 = .ok (.invokestatic 55, 3) := by decide +kernel
theorem dX0_digit_22 : decode cX0_digit 22 = .ok (.goto 4, 3) := by decide +kernel
theorem dX0_digit_25 : decode cX0_digit 25 = .ok (.iconst 0, 1) := by decide +kernel
theorem dX0_digit_26 : decode cX0_digit 26 = .ok (.istore_n 1, 1) := by decide +kernel
theorem dX0_digit_27 : decode cX0_digit 27 = .ok (.iload_n 1, 1) := by decide +kernel
theorem dX0_digit_28 : decode cX0_digit 28 = .ok (.bipush 48, 2) := by decide +kernel
theorem dX0_digit_30 : decode cX0_digit 30 = .ok (.bipush 57, 2) := by decide +kernel
theorem dX0_digit_32 : decode cX0_digit 32 = .ok (.invokestatic 20, 3) := by decide +kernel
theorem dX0_digit_35 : decode cX0_digit 35 = .ok (.ifCond .eq 10, 3) := by decide +kernel
theorem dX0_digit_38 : decode cX0_digit 38 = .ok (.iload_n 1, 1) := by decide +kernel
theorem dX0_digit_39 : decode cX0_digit 39 = .ok (.bipush 48, 2) := by decide +kernel
theorem dX0_digit_41 : decode cX0_digit 41 = .ok (.isub, 1) := by decide +kernel
theorem dX0_digit_42 : decode cX0_digit 42 = .ok (.goto 4, 3) := by decide +kernel
theorem dX0_digit_45 : decode cX0_digit 45 = .ok (.iconst (-1), 1) := by decide +kernel
theorem dX0_digit_46 : decode cX0_digit 46 = .ok (.ireturn, 1) := by decide +kernel
abbrev wX0_digit : List Cond := .code yX0_digit cX0_digit 2 (some .int) :: lw_gd
theorem hdX0_digit : (yX0_digit.cls ≠ "java/lang/invoke/MethodHandle" ∧ yX0_digit.cls ≠ "java/lang/invoke/VarHandle" ∧ (parseMethodDescriptor yX0_digit.desc).map (fun d => d.parameters.length) = some 0) := by decide +kernel
def fX0_digit_26   (s0 : Int32) (M : xm_M) : Option (Int32 × xm_M) :=
  xm_bi (fX3_isWithin s0 (48 : Int32) (57 : Int32) M) (fun x2 M1 => if x2 = 0 then some ((-1 : Int32), M1) else some (s0 - (48 : Int32), M1))
set_option maxRecDepth 20000 in
theorem tfX0_digit_26 {p : Program} {l : Launch} {e : Env} {s : State} {m : MethodId} {args : Array Value} {below : List Frame} {meth : Method} {c : Code} {D : va_G} {g : xm_G} {A : Nat → Prop}  {L : List xm_Sh} (hL : xm_pre L) (hX : xm_X p m meth c cX0_digit 2 s args wX0_digit RX0 (some .int) D L g A)    : ∀ (s0 : Int32), ∀ (M : xm_M), xm_J p l e ({ frames := 1, cells := 0, slots := 0, locals := 22 }) s m args below meth c 2 D L g A (xm_Z below args s D L g A (xm_Fi g)) 26 [] [.int s0] M (fX0_digit_26 s0 M) := by
  intro s0 M
  unfold fX0_digit_26
  refine xm_istore_n hX (lv' := [(1, .int s0)]) dX0_digit_26 rfl (by decide) rfl ?_
  refine xm_iload_n hX 0 dX0_digit_27 rfl rfl ?_
  refine xm_bipush hX (v := 48) rfl dX0_digit_28 ?_
  refine xm_bipush hX (v := 57) rfl dX0_digit_30 ?_
  refine xm_calli hX (xm_runSN hX (As := (fun g => [.int s0, .int (48 : Int32), .int (57 : Int32)])) (kX3_isWithin hL s0 (48 : Int32) (57 : Int32) M) (xm_gN gm_151) rfl ⟨rfl, rfl⟩ nw_13 (List.mem_cons_of_mem _ gm_1) (List.mem_cons_of_mem _ gm_150) hdX3_isWithin ⟨Nat.le_of_ble_eq_true rfl, Nat.le_of_ble_eq_true rfl⟩ rfl (Nat.le_of_ble_eq_true rfl) rfl ⟨Nat.le_of_ble_eq_true rfl, Nat.le_of_ble_eq_true rfl⟩ dX0_digit_32) (fun x2 M1 => ?_)
  refine xm_if_eq hX (tgt := 45) dX0_digit_35 rfl ?_ ?_
  · refine xm_iconst hX (v := -1) rfl dX0_digit_45 ?_
    exact xm_iret hX dX0_digit_46
  · refine xm_iload_n hX 0 dX0_digit_38 rfl rfl ?_
    refine xm_bipush hX (v := 48) rfl dX0_digit_39 ?_
    refine xm_isub hX dX0_digit_41 ?_
    refine xm_goto hX (tgt := 46) dX0_digit_42 rfl ?_
    exact xm_iret hX dX0_digit_46
def fX0_digit   (M : xm_M) : Option (Int32 × xm_M) :=
  if (M.1 69 1) ≤ (M.1 69 2) then fX0_digit_26 (0 : Int32) M else xm_bi (fX3_item 70 100 (M.1 69 2) M) (fun x4 M3 => fX0_digit_26 x4 M3)
set_option maxRecDepth 20000 in
theorem kX0_digit {l : Launch} {L : List xm_Sh} (hL : xm_pre L)    (M : xm_M) : xm_C l yX0_digit wX0_digit ({ frames := 1, cells := 0, slots := 0, locals := 22 }) L (fun g => [.ref (g.1 69)]) M xm_Fi (fX0_digit   M) := by
  refine xm_C.of (by decide) rfl (fun g => Nat.le_of_ble_eq_true rfl) ?_
  intro p e s m args below meth c D g A hX
  refine xm_lv (lv' := [(0, .ref (g.1 69))]) rfl ?_
  unfold fX0_digit
  refine xm_aload_n hX 0 dX0_digit_0 rfl rfl ?_
  refine xm_get hX (k := 69) (ci := 0) (j := 2) (C := RX0) (T := TX0) (N := 5) (v := .int (M.1 69 2)) (hL _ _ cL_69) rfl rfl rfl (by decide) (fun z hz => List.mem_cons_of_mem _ (iw_X0 z hz)) (List.mem_cons_of_mem _ gm_114) dX0_digit_1 ?_
  refine xm_aload_n hX 0 dX0_digit_4 rfl rfl ?_
  refine xm_get hX (k := 69) (ci := 0) (j := 1) (C := RX0) (T := TX0) (N := 5) (v := .int (M.1 69 1)) (hL _ _ cL_69) rfl rfl rfl (by decide) (fun z hz => List.mem_cons_of_mem _ (iw_X0 z hz)) (List.mem_cons_of_mem _ gm_112) dX0_digit_5 ?_
  refine xm_icmp_ge hX (tgt := 25) dX0_digit_8 rfl ?_ ?_
  · refine xm_iconst hX (v := 0) rfl dX0_digit_25 ?_
    refine xm_weak [] (lv' := []) rfl ?_
    exact tfX0_digit_26 hL hX (0 : Int32) M
  · refine xm_aload_n hX 0 dX0_digit_11 rfl rfl ?_
    refine xm_get hX (k := 69) (ci := 0) (j := 0) (C := RX0) (T := TX0) (N := 5) (v := .ref (g.1 70)) (hL _ _ cL_69) rfl rfl rfl (by decide) (fun z hz => List.mem_cons_of_mem _ (iw_X0 z hz)) (List.mem_cons_of_mem _ gm_111) dX0_digit_12 ?_
    refine xm_aload_n hX 0 dX0_digit_15 rfl rfl ?_
    refine xm_get hX (k := 69) (ci := 0) (j := 2) (C := RX0) (T := TX0) (N := 5) (v := .int (M.1 69 2)) (hL _ _ cL_69) rfl rfl rfl (by decide) (fun z hz => List.mem_cons_of_mem _ (iw_X0 z hz)) (List.mem_cons_of_mem _ gm_114) dX0_digit_16 ?_
    refine xm_calli hX (xm_runSN hX (As := (fun g => [.ref (g.1 70), .int (M.1 69 2)])) (kX3_item hL 70 100 (hL _ _ cL_70) (M.1 69 2) M) (xm_gN gm_154) rfl ⟨rfl, rfl⟩ nw_15 (List.mem_cons_of_mem _ gm_1) (List.mem_cons_of_mem _ gm_153) hdX3_item ⟨Nat.le_of_ble_eq_true rfl, Nat.le_of_ble_eq_true rfl⟩ rfl (Nat.le_of_ble_eq_true rfl) rfl ⟨Nat.le_of_ble_eq_true rfl, Nat.le_of_ble_eq_true rfl⟩ dX0_digit_19) (fun x4 M3 => ?_)
    refine xm_goto hX (tgt := 26) dX0_digit_22 rfl ?_
    refine xm_weak [] (lv' := []) rfl ?_
    exact tfX0_digit_26 hL hX x4 M3
-- ===== OdometryDesk$Pad.readNumber(II)Z ['69']
theorem dX0_readNumber_0 : decode cX0_readNumber 0 = .ok (.aload_n 0, 1) := by decide +kernel
theorem dX0_readNumber_1 : decode cX0_readNumber 1 = .ok (.invokevirtual 59, 3) := by decide +kernel
theorem dX0_readNumber_4 : decode cX0_readNumber 4 = .ok (.istore_n 3, 1) := by decide +kernel
theorem dX0_readNumber_5 : decode cX0_readNumber 5 = .ok (.iload_n 3, 1) := by decide +kernel
theorem dX0_readNumber_6 : decode cX0_readNumber 6 = .ok (.ifCond .lt 8, 3) := by decide +kernel
theorem dX0_readNumber_9 : decode cX0_readNumber 9 = .ok (.iload_n 3, 1) := by decide +kernel
theorem dX0_readNumber_10 : decode cX0_readNumber 10 = .ok (.iload_n 2, 1) := by decide +kernel
theorem dX0_readNumber_11 : decode cX0_readNumber 11 = .ok (.if_icmp .le 5, 3) := by decide +kernel
theorem dX0_readNumber_14 : decode cX0_readNumber 14 = .ok (.iconst 0, 1) := by decide +kernel
theorem dX0_readNumber_15 : decode cX0_readNumber 15 = .ok (.ireturn, 1) := by decide +kernel
theorem dX0_readNumber_16 : decode cX0_readNumber 16 = .ok (.aload_n 0, 1) := by decide +kernel
theorem dX0_readNumber_17 : decode cX0_readNumber 17 = .ok (.dup, 1) := by decide +kernel
theorem dX0_readNumber_18 : decode cX0_readNumber 18 = .ok (.getfield 32, 3) := by decide +kernel
theorem dX0_readNumber_21 : decode cX0_readNumber 21 = .ok (.iconst 1, 1) := by decide +kernel
theorem dX0_readNumber_22 : decode cX0_readNumber 22 = .ok (.iadd, 1) := by decide +kernel
theorem dX0_readNumber_23 : decode cX0_readNumber 23 = .ok (.putfield 32, 3) := by decide +kernel
theorem dX0_readNumber_26 : decode cX0_readNumber 26 = .ok (.aload_n 0, 1) := by decide +kernel
theorem dX0_readNumber_27 : decode cX0_readNumber 27 = .ok (.getfield 32, 3) := by decide +kernel
theorem dX0_readNumber_30 : decode cX0_readNumber 30 = .ok (.aload_n 0, 1) := by decide +kernel
theorem dX0_readNumber_31 : decode cX0_readNumber 31 = .ok (.getfield 24, 3) := by decide +kernel
theorem dX0_readNumber_34 : decode cX0_readNumber 34 = .ok (.if_icmp .ge 50, 3) := by decide +kernel
theorem dX0_readNumber_37 : decode cX0_readNumber 37 = .ok (.iload_n 3, 1) := by decide +kernel
theorem dX0_readNumber_38 : decode cX0_readNumber 38 = .ok (.ifCond .le 46, 3) := by decide +kernel
theorem dX0_readNumber_41 : decode cX0_readNumber 41 = .ok (.aload_n 0, 1) := by decide +kernel
theorem dX0_readNumber_42 : decode cX0_readNumber 42 = .ok (.invokevirtual 59, 3) := by decide +kernel
theorem dX0_readNumber_45 : decode cX0_readNumber 45 = .ok (.ifCond .lt 39, 3) := by decide +kernel
theorem dX0_readNumber_48 : decode cX0_readNumber 48 = .ok (.bipush 10, 2) := by decide +kernel
theorem dX0_readNumber_50 : decode cX0_readNumber 50 = .ok (.iload_n 3, 1) := by decide +kernel
theorem dX0_readNumber_51 : decode cX0_readNumber 51 = .ok (.imul, 1) := by decide +kernel
theorem dX0_readNumber_52 : decode cX0_readNumber 52 = .ok (.aload_n 0, 1) := by decide +kernel
theorem dX0_readNumber_53 : decode cX0_readNumber 53 = .ok (.invokevirtual 59, 3) := by decide +kernel
theorem dX0_readNumber_56 : decode cX0_readNumber 56 = .ok (.iadd, 1) := by decide +kernel
theorem dX0_readNumber_57 : decode cX0_readNumber 57 = .ok (.iload_n 2, 1) := by decide +kernel
theorem dX0_readNumber_58 : decode cX0_readNumber 58 = .ok (.if_icmp .gt 26, 3) := by decide +kernel
theorem dX0_readNumber_61 : decode cX0_readNumber 61 = .ok (.bipush 10, 2) := by decide +kernel
theorem dX0_readNumber_63 : decode cX0_readNumber 63 = .ok (.iload_n 3, 1) := by decide +kernel
theorem dX0_readNumber_64 : decode cX0_readNumber 64 = .ok (.imul, 1) := by decide +kernel
theorem dX0_readNumber_65 : decode cX0_readNumber 65 = .ok (.aload_n 0, 1) := by decide +kernel
theorem dX0_readNumber_66 : decode cX0_readNumber 66 = .ok (.invokevirtual 59, 3) := by decide +kernel
theorem dX0_readNumber_69 : decode cX0_readNumber 69 = .ok (.iadd, 1) := by decide +kernel
theorem dX0_readNumber_70 : decode cX0_readNumber 70 = .ok (.istore_n 3, 1) := by decide +kernel
theorem dX0_readNumber_71 : decode cX0_readNumber 71 = .ok (.aload_n 0, 1) := by decide +kernel
theorem dX0_readNumber_72 : decode cX0_readNumber 72 = .ok (.dup, 1) := by decide +kernel
theorem dX0_readNumber_73 : decode cX0_readNumber 73 = .ok (.getfield 32, 3) := by decide +kernel
theorem dX0_readNumber_76 : decode cX0_readNumber 76 = .ok (.iconst 1, 1) := by decide +kernel
theorem dX0_readNumber_77 : decode cX0_readNumber 77 = .ok (.iadd, 1) := by decide +kernel
theorem dX0_readNumber_78 : decode cX0_readNumber 78 = .ok (.putfield 32, 3) := by decide +kernel
theorem dX0_readNumber_81 : decode cX0_readNumber 81 = .ok (.goto (-55), 3) := by decide +kernel
theorem dX0_readNumber_84 : decode cX0_readNumber 84 = .ok (.aload_n 0, 1) := by decide +kernel
theorem dX0_readNumber_85 : decode cX0_readNumber 85 = .ok (.getfield 15, 3) := by decide +kernel
theorem dX0_readNumber_88 : decode cX0_readNumber 88 = .ok (.iload_n 1, 1) := by decide +kernel
theorem dX0_readNumber_89 : decode cX0_readNumber 89 = .ok (.iload_n 3, 1) := by decide +kernel
theorem dX0_readNumber_90 : decode cX0_readNumber 90 = .ok (.invokestatic 28, 3) := by decide +kernel
theorem dX0_readNumber_93 : decode cX0_readNumber 93 = .ok (.iconst 1, 1) := by decide +kernel
theorem dX0_readNumber_94 : decode cX0_readNumber 94 = .ok (.ireturn, 1) := by decide +kernel
abbrev wX0_readNumber : List Cond := .code yX0_readNumber cX0_readNumber 4 (some .boolean) :: lw_gd
theorem hdX0_readNumber : (yX0_readNumber.cls ≠ "java/lang/invoke/MethodHandle" ∧ yX0_readNumber.cls ≠ "java/lang/invoke/VarHandle" ∧ (parseMethodDescriptor yX0_readNumber.desc).map (fun d => d.parameters.length) = some 2) := by decide +kernel
def fX0_readNumber_84   (b1 : Int32) (b3 : Int32) (M : xm_M) : Option (Int32 × xm_M) :=
  xm_bv (fX3_keep 71 3 b1 b3 M) (fun M4 => some ((1 : Int32), M4))
set_option maxRecDepth 20000 in
theorem tfX0_readNumber_84 {p : Program} {l : Launch} {e : Env} {s : State} {m : MethodId} {args : Array Value} {below : List Frame} {meth : Method} {c : Code} {D : va_G} {g : xm_G} {A : Nat → Prop}  {L : List xm_Sh} (hL : xm_pre L) (hX : xm_X p m meth c cX0_readNumber 4 s args wX0_readNumber RX0 (some .boolean) D L g A)    : ∀ (b1 : Int32), ∀ (b3 : Int32), ∀ (M : xm_M), xm_J p l e ({ frames := 2, cells := 0, slots := 0, locals := 43 }) s m args below meth c 4 D L g A (xm_Z below args s D L g A (xm_Fi g)) 84 [(0, .ref (g.1 69)), (1, .int b1), (3, .int b3)] [] M (fX0_readNumber_84 b1 b3 M) := by
  intro b1 b3 M
  unfold fX0_readNumber_84
  refine xm_aload_n hX 0 dX0_readNumber_84 rfl rfl ?_
  refine xm_get hX (k := 69) (ci := 0) (j := 4) (C := RX0) (T := TX0) (N := 5) (v := .ref (g.1 71)) (hL _ _ cL_69) rfl rfl rfl (by decide) (fun z hz => List.mem_cons_of_mem _ (iw_X0 z hz)) (List.mem_cons_of_mem _ gm_118) dX0_readNumber_85 ?_
  refine xm_iload_n hX 1 dX0_readNumber_88 rfl rfl ?_
  refine xm_iload_n hX 2 dX0_readNumber_89 rfl rfl ?_
  refine xm_callv hX (xm_runSN hX (As := (fun g => [.ref (g.1 71), .int b1, .int b3])) (kX3_keep hL 71 3 (hL _ _ cL_71) b1 b3 M) (xm_gN gm_157) rfl ⟨rfl, rfl⟩ nw_14 (List.mem_cons_of_mem _ gm_1) (List.mem_cons_of_mem _ gm_156) hdX3_keep ⟨Nat.le_of_ble_eq_true rfl, Nat.le_of_ble_eq_true rfl⟩ rfl (Nat.le_of_ble_eq_true rfl) rfl ⟨Nat.le_of_ble_eq_true rfl, Nat.le_of_ble_eq_true rfl⟩ dX0_readNumber_90) (fun M4 => ?_)
  refine xm_iconst hX (v := 1) rfl dX0_readNumber_93 ?_
  exact xm_zretL hX (by decide) dX0_readNumber_94
def fX0_readNumber_26  (k26 : Int32 → Int32 → Int32 → xm_M → Option (Int32 × xm_M)) (b1 : Int32) (b2 : Int32) (b3 : Int32) (M : xm_M) : Option (Int32 × xm_M) :=
  if (M.1 69 1) ≤ (M.1 69 2) then fX0_readNumber_84 b1 b3 M else if b3 ≤ 0 then fX0_readNumber_84 b1 b3 M else xm_bi (fX0_digit M) (fun x6 M5 => if x6 < 0 then fX0_readNumber_84 b1 b3 M5 else xm_bi (fX0_digit M5) (fun x8 M7 => if b2 < (((10 : Int32) * b3) + x8) then fX0_readNumber_84 b1 b3 M7 else xm_bi (fX0_digit M7) (fun x10 M9 => xm_lt (((10 : Int32) * b3) + x10) (fun x11 => xm_lt (xm_s M9 69 2 ((M9.1 69 2) + (1 : Int32))) (fun M12 => k26 b1 b2 x11 M12)))))
set_option maxRecDepth 20000 in
theorem tfX0_readNumber_26 {p : Program} {l : Launch} {e : Env} {s : State} {m : MethodId} {args : Array Value} {below : List Frame} {meth : Method} {c : Code} {D : va_G} {g : xm_G} {A : Nat → Prop}  {L : List xm_Sh} (hL : xm_pre L) (hX : xm_X p m meth c cX0_readNumber 4 s args wX0_readNumber RX0 (some .boolean) D L g A)  (k26 : Int32 → Int32 → Int32 → xm_M → Option (Int32 × xm_M)) (h26 : ∀ (b1 : Int32), ∀ (b2 : Int32), ∀ (b3 : Int32), ∀ (M : xm_M), xm_J p l e ({ frames := 2, cells := 0, slots := 0, locals := 43 }) s m args below meth c 4 D L g A (xm_Z below args s D L g A (xm_Fi g)) 26 [(0, .ref (g.1 69)), (1, .int b1), (2, .int b2), (3, .int b3)] [] M (k26 b1 b2 b3 M)) : ∀ (b1 : Int32), ∀ (b2 : Int32), ∀ (b3 : Int32), ∀ (M : xm_M), xm_J p l e ({ frames := 2, cells := 0, slots := 0, locals := 43 }) s m args below meth c 4 D L g A (xm_Z below args s D L g A (xm_Fi g)) 26 [(0, .ref (g.1 69)), (1, .int b1), (2, .int b2), (3, .int b3)] [] M (fX0_readNumber_26 k26 b1 b2 b3 M) := by
  intro b1 b2 b3 M
  unfold fX0_readNumber_26
  refine xm_aload_n hX 0 dX0_readNumber_26 rfl rfl ?_
  refine xm_get hX (k := 69) (ci := 0) (j := 2) (C := RX0) (T := TX0) (N := 5) (v := .int (M.1 69 2)) (hL _ _ cL_69) rfl rfl rfl (by decide) (fun z hz => List.mem_cons_of_mem _ (iw_X0 z hz)) (List.mem_cons_of_mem _ gm_114) dX0_readNumber_27 ?_
  refine xm_aload_n hX 0 dX0_readNumber_30 rfl rfl ?_
  refine xm_get hX (k := 69) (ci := 0) (j := 1) (C := RX0) (T := TX0) (N := 5) (v := .int (M.1 69 1)) (hL _ _ cL_69) rfl rfl rfl (by decide) (fun z hz => List.mem_cons_of_mem _ (iw_X0 z hz)) (List.mem_cons_of_mem _ gm_112) dX0_readNumber_31 ?_
  refine xm_icmp_ge hX (tgt := 84) dX0_readNumber_34 rfl ?_ ?_
  · refine xm_weak [0, 1, 3] (lv' := [(0, .ref (g.1 69)), (1, .int b1), (3, .int b3)]) rfl ?_
    exact tfX0_readNumber_84 hL hX b1 b3 M
  · refine xm_iload_n hX 3 dX0_readNumber_37 rfl rfl ?_
    refine xm_if_le hX (tgt := 84) dX0_readNumber_38 rfl ?_ ?_
    · refine xm_weak [0, 1, 3] (lv' := [(0, .ref (g.1 69)), (1, .int b1), (3, .int b3)]) rfl ?_
      exact tfX0_readNumber_84 hL hX b1 b3 M
    · refine xm_aload_n hX 0 dX0_readNumber_41 rfl rfl ?_
      refine xm_calli hX (xm_runV hX (k := 69) (ci := 0) (As := (fun g => [])) (kX0_digit hL M) (hL _ _ cL_69) rfl (xm_gV gm_461 gm_462 gm_513 gm_4 gm_463) rfl ⟨rfl, rfl⟩ ⟨rfl, hdX0_digit⟩ ⟨Nat.le_of_ble_eq_true rfl, Nat.le_of_ble_eq_true rfl⟩ rfl (Nat.le_of_ble_eq_true rfl) rfl ⟨Nat.le_of_ble_eq_true rfl, Nat.le_of_ble_eq_true rfl⟩ dX0_readNumber_42) (fun x6 M5 => ?_)
      refine xm_if_lt hX (tgt := 84) dX0_readNumber_45 rfl ?_ ?_
      · refine xm_weak [0, 1, 3] (lv' := [(0, .ref (g.1 69)), (1, .int b1), (3, .int b3)]) rfl ?_
        exact tfX0_readNumber_84 hL hX b1 b3 M5
      · refine xm_bipush hX (v := 10) rfl dX0_readNumber_48 ?_
        refine xm_iload_n hX 3 dX0_readNumber_50 rfl rfl ?_
        refine xm_imul hX dX0_readNumber_51 ?_
        refine xm_aload_n hX 0 dX0_readNumber_52 rfl rfl ?_
        refine xm_calli hX (xm_runV hX (k := 69) (ci := 0) (As := (fun g => [])) (kX0_digit hL M5) (hL _ _ cL_69) rfl (xm_gV gm_461 gm_462 gm_513 gm_4 gm_463) rfl ⟨rfl, rfl⟩ ⟨rfl, hdX0_digit⟩ ⟨Nat.le_of_ble_eq_true rfl, Nat.le_of_ble_eq_true rfl⟩ rfl (Nat.le_of_ble_eq_true rfl) rfl ⟨Nat.le_of_ble_eq_true rfl, Nat.le_of_ble_eq_true rfl⟩ dX0_readNumber_53) (fun x8 M7 => ?_)
        refine xm_iadd hX dX0_readNumber_56 ?_
        refine xm_iload_n hX 2 dX0_readNumber_57 rfl rfl ?_
        refine xm_icmp_gt hX (tgt := 84) dX0_readNumber_58 rfl ?_ ?_
        · refine xm_weak [0, 1, 3] (lv' := [(0, .ref (g.1 69)), (1, .int b1), (3, .int b3)]) rfl ?_
          exact tfX0_readNumber_84 hL hX b1 b3 M7
        · refine xm_bipush hX (v := 10) rfl dX0_readNumber_61 ?_
          refine xm_iload_n hX 3 dX0_readNumber_63 rfl rfl ?_
          refine xm_imul hX dX0_readNumber_64 ?_
          refine xm_aload_n hX 0 dX0_readNumber_65 rfl rfl ?_
          refine xm_calli hX (xm_runV hX (k := 69) (ci := 0) (As := (fun g => [])) (kX0_digit hL M7) (hL _ _ cL_69) rfl (xm_gV gm_461 gm_462 gm_513 gm_4 gm_463) rfl ⟨rfl, rfl⟩ ⟨rfl, hdX0_digit⟩ ⟨Nat.le_of_ble_eq_true rfl, Nat.le_of_ble_eq_true rfl⟩ rfl (Nat.le_of_ble_eq_true rfl) rfl ⟨Nat.le_of_ble_eq_true rfl, Nat.le_of_ble_eq_true rfl⟩ dX0_readNumber_66) (fun x10 M9 => ?_)
          refine xm_iadd hX dX0_readNumber_69 ?_
          refine xm_nmi (fun x11 => ?_)
          refine xm_istore_n hX (lv' := [(3, .int x11), (0, .ref (g.1 69)), (1, .int b1), (2, .int b2)]) dX0_readNumber_70 rfl (by decide) rfl ?_
          refine xm_aload_n hX 1 dX0_readNumber_71 rfl rfl ?_
          refine xm_dup hX rfl dX0_readNumber_72 ?_
          refine xm_get hX (k := 69) (ci := 0) (j := 2) (C := RX0) (T := TX0) (N := 5) (v := .int (M9.1 69 2)) (hL _ _ cL_69) rfl rfl rfl (by decide) (fun z hz => List.mem_cons_of_mem _ (iw_X0 z hz)) (List.mem_cons_of_mem _ gm_114) dX0_readNumber_73 ?_
          refine xm_iconst hX (v := 1) rfl dX0_readNumber_76 ?_
          refine xm_iadd hX dX0_readNumber_77 ?_
          refine xm_puti hX (k := 69) (ci := 0) (j := 2) (C := RX0) (T := TX0) (N := 5) (t0 := tyX0) (hL _ _ cL_69) rfl rfl (by decide) (fun z hz => List.mem_cons_of_mem _ (iw_X0 z hz)) tyX0_ok nmX0 rfl rfl (List.mem_cons_of_mem _ gm_114) dX0_readNumber_78 (fun M12 => ?_)
          refine xm_goto hX (tgt := 26) dX0_readNumber_81 rfl ?_
          refine xm_weak [1, 2, 3, 0] (lv' := [(0, .ref (g.1 69)), (1, .int b1), (2, .int b2), (3, .int x11)]) rfl ?_
          exact h26 b1 b2 x11 M12
def fX0_readNumber_26_it   (nq : Nat) : Int32 → Int32 → Int32 → xm_M → Option (Int32 × xm_M) := xm_it (fun kq => fX0_readNumber_26 kq) (fun _ _ _ _ => none) nq
theorem tfX0_readNumber_26_it {p : Program} {l : Launch} {e : Env} {s : State} {m : MethodId} {args : Array Value} {below : List Frame} {meth : Method} {c : Code} {D : va_G} {g : xm_G} {A : Nat → Prop}  {L : List xm_Sh} (hL : xm_pre L) (hX : xm_X p m meth c cX0_readNumber 4 s args wX0_readNumber RX0 (some .boolean) D L g A)    : ∀ (nq : Nat), ∀ (b1 : Int32), ∀ (b2 : Int32), ∀ (b3 : Int32), ∀ (M : xm_M), xm_J p l e ({ frames := 2, cells := 0, slots := 0, locals := 43 }) s m args below meth c 4 D L g A (xm_Z below args s D L g A (xm_Fi g)) 26 [(0, .ref (g.1 69)), (1, .int b1), (2, .int b2), (3, .int b3)] [] M (fX0_readNumber_26_it  nq b1 b2 b3 M) := by
  intro nq
  induction nq with
  | zero => exact fun _ _ _ _ => xm_none
  | succ nq ih => exact tfX0_readNumber_26 hL hX _ ih
def fX0_readNumber  (a1 : Int32) (a2 : Int32) (M : xm_M) : Option (Int32 × xm_M) :=
  xm_bi (fX0_digit M) (fun x2 M1 => if x2 < 0 then some ((0 : Int32), M1) else if x2 ≤ a2 then xm_lt (xm_s M1 69 2 ((M1.1 69 2) + (1 : Int32))) (fun M3 => fX0_readNumber_26_it xm_N a1 a2 x2 M3) else some ((0 : Int32), M1))
set_option maxRecDepth 20000 in
theorem kX0_readNumber {l : Launch} {L : List xm_Sh} (hL : xm_pre L)   (a1 : Int32) (a2 : Int32) (M : xm_M) : xm_C l yX0_readNumber wX0_readNumber ({ frames := 2, cells := 0, slots := 0, locals := 43 }) L (fun g => [.ref (g.1 69), .int a1, .int a2]) M xm_Fi (fX0_readNumber  a1 a2 M) := by
  refine xm_C.of (by decide) rfl (fun g => Nat.le_of_ble_eq_true rfl) ?_
  intro p e s m args below meth c D g A hX
  refine xm_lv (lv' := [(0, .ref (g.1 69)), (1, .int a1), (2, .int a2)]) rfl ?_
  unfold fX0_readNumber
  refine xm_aload_n hX 0 dX0_readNumber_0 rfl rfl ?_
  refine xm_calli hX (xm_runV hX (k := 69) (ci := 0) (As := (fun g => [])) (kX0_digit hL M) (hL _ _ cL_69) rfl (xm_gV gm_461 gm_462 gm_513 gm_4 gm_463) rfl ⟨rfl, rfl⟩ ⟨rfl, hdX0_digit⟩ ⟨Nat.le_of_ble_eq_true rfl, Nat.le_of_ble_eq_true rfl⟩ rfl (Nat.le_of_ble_eq_true rfl) rfl ⟨Nat.le_of_ble_eq_true rfl, Nat.le_of_ble_eq_true rfl⟩ dX0_readNumber_1) (fun x2 M1 => ?_)
  refine xm_istore_n hX (lv' := [(3, .int x2), (0, .ref (g.1 69)), (1, .int a1), (2, .int a2)]) dX0_readNumber_4 rfl (by decide) rfl ?_
  refine xm_iload_n hX 0 dX0_readNumber_5 rfl rfl ?_
  refine xm_if_lt hX (tgt := 14) dX0_readNumber_6 rfl ?_ ?_
  · refine xm_iconst hX (v := 0) rfl dX0_readNumber_14 ?_
    exact xm_zretL hX (by decide) dX0_readNumber_15
  · refine xm_iload_n hX 0 dX0_readNumber_9 rfl rfl ?_
    refine xm_iload_n hX 3 dX0_readNumber_10 rfl rfl ?_
    refine xm_icmp_le hX (tgt := 16) dX0_readNumber_11 rfl ?_ ?_
    · refine xm_aload_n hX 1 dX0_readNumber_16 rfl rfl ?_
      refine xm_dup hX rfl dX0_readNumber_17 ?_
      refine xm_get hX (k := 69) (ci := 0) (j := 2) (C := RX0) (T := TX0) (N := 5) (v := .int (M1.1 69 2)) (hL _ _ cL_69) rfl rfl rfl (by decide) (fun z hz => List.mem_cons_of_mem _ (iw_X0 z hz)) (List.mem_cons_of_mem _ gm_114) dX0_readNumber_18 ?_
      refine xm_iconst hX (v := 1) rfl dX0_readNumber_21 ?_
      refine xm_iadd hX dX0_readNumber_22 ?_
      refine xm_puti hX (k := 69) (ci := 0) (j := 2) (C := RX0) (T := TX0) (N := 5) (t0 := tyX0) (hL _ _ cL_69) rfl rfl (by decide) (fun z hz => List.mem_cons_of_mem _ (iw_X0 z hz)) tyX0_ok nmX0 rfl rfl (List.mem_cons_of_mem _ gm_114) dX0_readNumber_23 (fun M3 => ?_)
      refine xm_weak [1, 2, 3, 0] (lv' := [(0, .ref (g.1 69)), (1, .int a1), (2, .int a2), (3, .int x2)]) rfl ?_
      exact tfX0_readNumber_26_it hL hX xm_N a1 a2 x2 M3
    · refine xm_iconst hX (v := 0) rfl dX0_readNumber_14 ?_
      exact xm_zretL hX (by decide) dX0_readNumber_15
-- ===== OdometryDesk$Pad.readInteger(II)Z ['69']
theorem dX0_readInteger_0 : decode cX0_readInteger 0 = .ok (.aload_n 0, 1) := by decide +kernel
theorem dX0_readInteger_1 : decode cX0_readInteger 1 = .ok (.bipush 45, 2) := by decide +kernel
theorem dX0_readInteger_3 : decode cX0_readInteger 3 = .ok (.invokevirtual 39, 3) := by decide +kernel
theorem dX0_readInteger_6 : decode cX0_readInteger 6 = .ok (.istore_n 3, 1) := by decide +kernel
theorem dX0_readInteger_7 : decode cX0_readInteger 7 = .ok (.aload_n 0, 1) := by decide +kernel
theorem dX0_readInteger_8 : decode cX0_readInteger 8 = .ok (.iload_n 1, 1) := by decide +kernel
theorem dX0_readInteger_9 : decode cX0_readInteger 9 = .ok (.iload_n 2, 1) := by decide +kernel
theorem dX0_readInteger_10 : decode cX0_readInteger 10 = .ok (.invokevirtual 47, 3) := by decide +kernel
theorem dX0_readInteger_13 : decode cX0_readInteger 13 = .ok (.ifCond .ne 5, 3) := by decide +kernel
theorem dX0_readInteger_16 : decode cX0_readInteger 16 = .ok (.iconst 0, 1) := by decide +kernel
theorem dX0_readInteger_17 : decode cX0_readInteger 17 = .ok (.ireturn, 1) := by decide +kernel
theorem dX0_readInteger_18 : decode cX0_readInteger 18 = .ok (.iload_n 3, 1) := by decide +kernel
theorem dX0_readInteger_19 : decode cX0_readInteger 19 = .ok (.ifCond .eq 20, 3) := by decide +kernel
theorem dX0_readInteger_22 : decode cX0_readInteger 22 = .ok (.aload_n 0, 1) := by decide +kernel
theorem dX0_readInteger_23 : decode cX0_readInteger 23 = .ok (.getfield 15, 3) := by decide +kernel
theorem dX0_readInteger_26 : decode cX0_readInteger 26 = .ok (.iload_n 1, 1) := by decide +kernel
theorem dX0_readInteger_27 : decode cX0_readInteger 27 = .ok (.aload_n 0, 1) := by decide +kernel
theorem dX0_readInteger_28 : decode cX0_readInteger 28 = .ok (.getfield 15, 3) := by decide +kernel
theorem dX0_readInteger_31 : decode cX0_readInteger 31 = .ok (.iload_n 1, 1) := by decide +kernel
theorem dX0_readInteger_32 : decode cX0_readInteger 32 = .ok (.invokestatic 55, 3) := by decide +kernel
theorem dX0_readInteger_35 : decode cX0_readInteger 35 = .ok (.ineg, 1) := by decide +kernel
theorem dX0_readInteger_36 : decode cX0_readInteger 36 = .ok (.invokestatic 28, 3) := by decide +kernel
theorem dX0_readInteger_39 : decode cX0_readInteger 39 = .ok (.iconst 1, 1) := by decide +kernel
theorem dX0_readInteger_40 : decode cX0_readInteger 40 = .ok (.ireturn, 1) := by decide +kernel
abbrev wX0_readInteger : List Cond := .code yX0_readInteger cX0_readInteger 4 (some .boolean) :: lw_gd
theorem hdX0_readInteger : (yX0_readInteger.cls ≠ "java/lang/invoke/MethodHandle" ∧ yX0_readInteger.cls ≠ "java/lang/invoke/VarHandle" ∧ (parseMethodDescriptor yX0_readInteger.desc).map (fun d => d.parameters.length) = some 2) := by decide +kernel
def fX0_readInteger  (a1 : Int32) (a2 : Int32) (M : xm_M) : Option (Int32 × xm_M) :=
  xm_bi (fX0_takes (45 : Int32) M) (fun x2 M1 => xm_bi (fX0_readNumber a1 a2 M1) (fun x4 M3 => if x4 = 0 then some ((0 : Int32), M3) else if x2 = 0 then some ((1 : Int32), M3) else xm_bi (fX3_item 71 3 a1 M3) (fun x6 M5 => xm_bv (fX3_keep 71 3 a1 (-x6) M5) (fun M7 => some ((1 : Int32), M7)))))
set_option maxRecDepth 20000 in
theorem kX0_readInteger {l : Launch} {L : List xm_Sh} (hL : xm_pre L)   (a1 : Int32) (a2 : Int32) (M : xm_M) : xm_C l yX0_readInteger wX0_readInteger ({ frames := 3, cells := 0, slots := 0, locals := 66 }) L (fun g => [.ref (g.1 69), .int a1, .int a2]) M xm_Fi (fX0_readInteger  a1 a2 M) := by
  refine xm_C.of (by decide) rfl (fun g => Nat.le_of_ble_eq_true rfl) ?_
  intro p e s m args below meth c D g A hX
  refine xm_lv (lv' := [(0, .ref (g.1 69)), (1, .int a1), (2, .int a2)]) rfl ?_
  unfold fX0_readInteger
  refine xm_aload_n hX 0 dX0_readInteger_0 rfl rfl ?_
  refine xm_bipush hX (v := 45) rfl dX0_readInteger_1 ?_
  refine xm_calli hX (xm_runV hX (k := 69) (ci := 0) (As := (fun g => [.int (45 : Int32)])) (kX0_takes hL (45 : Int32) M) (hL _ _ cL_69) rfl (xm_gV gm_454 gm_455 gm_456 gm_4 gm_457) rfl ⟨rfl, rfl⟩ ⟨rfl, hdX0_takes⟩ ⟨Nat.le_of_ble_eq_true rfl, Nat.le_of_ble_eq_true rfl⟩ rfl (Nat.le_of_ble_eq_true rfl) rfl ⟨Nat.le_of_ble_eq_true rfl, Nat.le_of_ble_eq_true rfl⟩ dX0_readInteger_3) (fun x2 M1 => ?_)
  refine xm_istore_n hX (lv' := [(3, .int x2), (0, .ref (g.1 69)), (1, .int a1), (2, .int a2)]) dX0_readInteger_6 rfl (by decide) rfl ?_
  refine xm_aload_n hX 1 dX0_readInteger_7 rfl rfl ?_
  refine xm_iload_n hX 2 dX0_readInteger_8 rfl rfl ?_
  refine xm_iload_n hX 3 dX0_readInteger_9 rfl rfl ?_
  refine xm_calli hX (xm_runV hX (k := 69) (ci := 0) (As := (fun g => [.int a1, .int a2])) (kX0_readNumber hL a1 a2 M1) (hL _ _ cL_69) rfl (xm_gV gm_458 gm_459 gm_512 gm_4 gm_460) rfl ⟨rfl, rfl⟩ ⟨rfl, hdX0_readNumber⟩ ⟨Nat.le_of_ble_eq_true rfl, Nat.le_of_ble_eq_true rfl⟩ rfl (Nat.le_of_ble_eq_true rfl) rfl ⟨Nat.le_of_ble_eq_true rfl, Nat.le_of_ble_eq_true rfl⟩ dX0_readInteger_10) (fun x4 M3 => ?_)
  refine xm_if_ne hX (tgt := 18) dX0_readInteger_13 rfl ?_ ?_
  · refine xm_iload_n hX 0 dX0_readInteger_18 rfl rfl ?_
    refine xm_if_eq hX (tgt := 39) dX0_readInteger_19 rfl ?_ ?_
    · refine xm_iconst hX (v := 1) rfl dX0_readInteger_39 ?_
      exact xm_zretL hX (by decide) dX0_readInteger_40
    · refine xm_aload_n hX 1 dX0_readInteger_22 rfl rfl ?_
      refine xm_get hX (k := 69) (ci := 0) (j := 4) (C := RX0) (T := TX0) (N := 5) (v := .ref (g.1 71)) (hL _ _ cL_69) rfl rfl rfl (by decide) (fun z hz => List.mem_cons_of_mem _ (iw_X0 z hz)) (List.mem_cons_of_mem _ gm_118) dX0_readInteger_23 ?_
      refine xm_iload_n hX 2 dX0_readInteger_26 rfl rfl ?_
      refine xm_aload_n hX 1 dX0_readInteger_27 rfl rfl ?_
      refine xm_get hX (k := 69) (ci := 0) (j := 4) (C := RX0) (T := TX0) (N := 5) (v := .ref (g.1 71)) (hL _ _ cL_69) rfl rfl rfl (by decide) (fun z hz => List.mem_cons_of_mem _ (iw_X0 z hz)) (List.mem_cons_of_mem _ gm_118) dX0_readInteger_28 ?_
      refine xm_iload_n hX 2 dX0_readInteger_31 rfl rfl ?_
      refine xm_calli hX (xm_runSN hX (As := (fun g => [.ref (g.1 71), .int a1])) (kX3_item hL 71 3 (hL _ _ cL_71) a1 M3) (xm_gN gm_154) rfl ⟨rfl, rfl⟩ nw_15 (List.mem_cons_of_mem _ gm_1) (List.mem_cons_of_mem _ gm_153) hdX3_item ⟨Nat.le_of_ble_eq_true rfl, Nat.le_of_ble_eq_true rfl⟩ rfl (Nat.le_of_ble_eq_true rfl) rfl ⟨Nat.le_of_ble_eq_true rfl, Nat.le_of_ble_eq_true rfl⟩ dX0_readInteger_32) (fun x6 M5 => ?_)
      refine xm_ineg hX dX0_readInteger_35 ?_
      refine xm_callv hX (xm_runSN hX (As := (fun g => [.ref (g.1 71), .int a1, .int (-x6)])) (kX3_keep hL 71 3 (hL _ _ cL_71) a1 (-x6) M5) (xm_gN gm_157) rfl ⟨rfl, rfl⟩ nw_14 (List.mem_cons_of_mem _ gm_1) (List.mem_cons_of_mem _ gm_156) hdX3_keep ⟨Nat.le_of_ble_eq_true rfl, Nat.le_of_ble_eq_true rfl⟩ rfl (Nat.le_of_ble_eq_true rfl) rfl ⟨Nat.le_of_ble_eq_true rfl, Nat.le_of_ble_eq_true rfl⟩ dX0_readInteger_36) (fun M7 => ?_)
      refine xm_iconst hX (v := 1) rfl dX0_readInteger_39 ?_
      exact xm_zretL hX (by decide) dX0_readInteger_40
  · refine xm_iconst hX (v := 0) rfl dX0_readInteger_16 ?_
    exact xm_zretL hX (by decide) dX0_readInteger_17
-- ===== OdometryDesk$Pad.readEntry()Z ['69']
theorem dX0_readEntry_0 : decode cX0_readEntry 0 = .ok (.aload_n 0, 1) := by decide +kernel
theorem dX0_readEntry_1 : decode cX0_readEntry 1 = .ok (.aload_n 0, 1) := by decide +kernel
theorem dX0_readEntry_2 : decode cX0_readEntry 2 = .ok (.bipush 109, 2) := by decide +kernel
theorem dX0_readEntry_4 : decode cX0_readEntry 4 = .ok (.invokevirtual 39, 3) := by decide +kernel
theorem dX0_readEntry_7 : decode cX0_readEntry 7 = .ok (.putfield 43, 3) := by decide +kernel
theorem dX0_readEntry_10 : decode cX0_readEntry 10 = .ok (.aload_n 0, 1) := by decide +kernel
theorem dX0_readEntry_11 : decode cX0_readEntry 11 = .ok (.getfield 43, 3) := by decide +kernel
theorem dX0_readEntry_14 : decode cX0_readEntry 14 = .ok (.ifCond .eq 10, 3) := by decide +kernel
theorem dX0_readEntry_17 : decode cX0_readEntry 17 = .ok (.aload_n 0, 1) := by decide +kernel
theorem dX0_readEntry_18 : decode cX0_readEntry 18 = .ok (.iconst 0, 1) := by decide +kernel
theorem dX0_readEntry_19 : decode cX0_readEntry 19 = .ok (.iconst 5, 1) := by decide +kernel
theorem dX0_readEntry_20 : decode cX0_readEntry 20 = .ok (.invokevirtual 47, 3) := by decide +kernel
theorem dX0_readEntry_23 : decode cX0_readEntry 23 = .ok (.ireturn, 1) := by decide +kernel
theorem dX0_readEntry_24 : decode cX0_readEntry 24 = .ok (.aload_n 0, 1) := by decide +kernel
theorem dX0_readEntry_25 : decode cX0_readEntry 25 = .ok (.iconst 0, 1) := by decide +kernel
theorem dX0_readEntry_26 : decode cX0_readEntry 26 = .ok (.sipush 300, 3) := by decide +kernel
theorem dX0_readEntry_29 : decode cX0_readEntry 29 = .ok (.invokevirtual 51, 3) := by decide +kernel
theorem dX0_readEntry_32 : decode cX0_readEntry 32 = .ok (.ifCond .eq 46, 3) := by decide +kernel
theorem dX0_readEntry_35 : decode cX0_readEntry 35 = .ok (.aload_n 0, 1) := by decide +kernel
theorem dX0_readEntry_36 : decode cX0_readEntry 36 = .ok (.bipush 44, 2) := by decide +kernel
theorem dX0_readEntry_38 : decode cX0_readEntry 38 = .ok (.invokevirtual 39, 3) := by decide +kernel
theorem dX0_readEntry_41 : decode cX0_readEntry 41 = .ok (.ifCond .eq 37, 3) := by decide +kernel
theorem dX0_readEntry_44 : decode cX0_readEntry 44 = .ok (.aload_n 0, 1) := by decide +kernel
theorem dX0_readEntry_45 : decode cX0_readEntry 45 = .ok (.iconst 1, 1) := by decide +kernel
theorem dX0_readEntry_46 : decode cX0_readEntry 46 = .ok (.sipush 300, 3) := by decide +kernel
theorem dX0_readEntry_49 : decode cX0_readEntry 49 = .ok (.invokevirtual 51, 3) := by decide +kernel
theorem dX0_readEntry_52 : decode cX0_readEntry 52 = .ok (.ifCond .eq 26, 3) := by decide +kernel
theorem dX0_readEntry_55 : decode cX0_readEntry 55 = .ok (.aload_n 0, 1) := by decide +kernel
theorem dX0_readEntry_56 : decode cX0_readEntry 56 = .ok (.bipush 44, 2) := by decide +kernel
theorem dX0_readEntry_58 : decode cX0_readEntry 58 = .ok (.invokevirtual 39, 3) := by decide +kernel
theorem dX0_readEntry_61 : decode cX0_readEntry 61 = .ok (.ifCond .eq 17, 3) := by decide +kernel
theorem dX0_readEntry_64 : decode cX0_readEntry 64 = .ok (.aload_n 0, 1) := by decide +kernel
theorem dX0_readEntry_65 : decode cX0_readEntry 65 = .ok (.iconst 2, 1) := by decide +kernel
theorem dX0_readEntry_66 : decode cX0_readEntry 66 = .ok (.ldc 54, 2) := by decide +kernel
theorem dX0_readEntry_68 : decode cX0_readEntry 68 = .ok (.invokevirtual 51, 3) := by decide +kernel
theorem dX0_readEntry_71 : decode cX0_readEntry 71 = .ok (.ifCond .eq 7, 3) := by decide +kernel
theorem dX0_readEntry_74 : decode cX0_readEntry 74 = .ok (.iconst 1, 1) := by decide +kernel
theorem dX0_readEntry_75 : decode cX0_readEntry 75 = .ok (.goto 4, 3) := by decide +kernel
theorem dX0_readEntry_78 : decode cX0_readEntry 78 = .ok (.iconst 0, 1) := by decide +kernel
theorem dX0_readEntry_79 : decode cX0_readEntry 79 = .ok (.ireturn, 1) := by decide +kernel
abbrev wX0_readEntry : List Cond := .code yX0_readEntry cX0_readEntry 1 (some .boolean) :: lw_gd
theorem hdX0_readEntry : (yX0_readEntry.cls ≠ "java/lang/invoke/MethodHandle" ∧ yX0_readEntry.cls ≠ "java/lang/invoke/VarHandle" ∧ (parseMethodDescriptor yX0_readEntry.desc).map (fun d => d.parameters.length) = some 0) := by decide +kernel
def fX0_readEntry   (M : xm_M) : Option (Int32 × xm_M) :=
  xm_bi (fX0_takes (109 : Int32) M) (fun x2 M1 => if x2 = 0 ∨ x2 = 1 then xm_lt (xm_s M1 69 3 x2) (fun M3 => if (M3.1 69 3) = 0 then xm_bi (fX0_readInteger (0 : Int32) (300 : Int32) M3) (fun x5 M4 => if x5 = 0 then some ((0 : Int32), M4) else xm_bi (fX0_takes (44 : Int32) M4) (fun x7 M6 => if x7 = 0 then some ((0 : Int32), M6) else xm_bi (fX0_readInteger (1 : Int32) (300 : Int32) M6) (fun x9 M8 => if x9 = 0 then some ((0 : Int32), M8) else xm_bi (fX0_takes (44 : Int32) M8) (fun x11 M10 => if x11 = 0 then some ((0 : Int32), M10) else xm_bi (fX0_readInteger (2 : Int32) (300000 : Int32) M10) (fun x13 M12 => if x13 = 0 then some ((0 : Int32), M12) else some ((1 : Int32), M12)))))) else xm_bi (fX0_readNumber (0 : Int32) (5 : Int32) M3) (fun x15 M14 => if x15 = 0 ∨ x15 = 1 then some (x15, M14) else none)) else none)
set_option maxRecDepth 20000 in
theorem kX0_readEntry {l : Launch} {L : List xm_Sh} (hL : xm_pre L)    (M : xm_M) : xm_C l yX0_readEntry wX0_readEntry ({ frames := 4, cells := 0, slots := 0, locals := 89 }) L (fun g => [.ref (g.1 69)]) M xm_Fi (fX0_readEntry   M) := by
  refine xm_C.of (by decide) rfl (fun g => Nat.le_of_ble_eq_true rfl) ?_
  intro p e s m args below meth c D g A hX
  refine xm_lv (lv' := [(0, .ref (g.1 69))]) rfl ?_
  unfold fX0_readEntry
  refine xm_aload_n hX 0 dX0_readEntry_0 rfl rfl ?_
  refine xm_aload_n hX 0 dX0_readEntry_1 rfl rfl ?_
  refine xm_bipush hX (v := 109) rfl dX0_readEntry_2 ?_
  refine xm_calli hX (xm_runV hX (k := 69) (ci := 0) (As := (fun g => [.int (109 : Int32)])) (kX0_takes hL (109 : Int32) M) (hL _ _ cL_69) rfl (xm_gV gm_454 gm_455 gm_456 gm_4 gm_457) rfl ⟨rfl, rfl⟩ ⟨rfl, hdX0_takes⟩ ⟨Nat.le_of_ble_eq_true rfl, Nat.le_of_ble_eq_true rfl⟩ rfl (Nat.le_of_ble_eq_true rfl) rfl ⟨Nat.le_of_ble_eq_true rfl, Nat.le_of_ble_eq_true rfl⟩ dX0_readEntry_4) (fun x2 M1 => ?_)
  refine xm_putz hX (k := 69) (ci := 0) (j := 3) (C := RX0) (T := TX0) (N := 5) (t0 := tyX0) (hL _ _ cL_69) rfl rfl (by decide) (fun z hz => List.mem_cons_of_mem _ (iw_X0 z hz)) tyX0_ok nmX0 rfl rfl (List.mem_cons_of_mem _ gm_116) dX0_readEntry_7 (fun M3 => ?_)
  refine xm_aload_n hX 0 dX0_readEntry_10 rfl rfl ?_
  refine xm_get hX (k := 69) (ci := 0) (j := 3) (C := RX0) (T := TX0) (N := 5) (v := .int (M3.1 69 3)) (hL _ _ cL_69) rfl rfl rfl (by decide) (fun z hz => List.mem_cons_of_mem _ (iw_X0 z hz)) (List.mem_cons_of_mem _ gm_116) dX0_readEntry_11 ?_
  refine xm_if_eq hX (tgt := 24) dX0_readEntry_14 rfl ?_ ?_
  · refine xm_aload_n hX 0 dX0_readEntry_24 rfl rfl ?_
    refine xm_iconst hX (v := 0) rfl dX0_readEntry_25 ?_
    refine xm_sipush hX (v := 300) rfl dX0_readEntry_26 ?_
    refine xm_calli hX (xm_runV hX (k := 69) (ci := 0) (As := (fun g => [.int (0 : Int32), .int (300 : Int32)])) (kX0_readInteger hL (0 : Int32) (300 : Int32) M3) (hL _ _ cL_69) rfl (xm_gV gm_464 gm_465 gm_514 gm_4 gm_466) rfl ⟨rfl, rfl⟩ ⟨rfl, hdX0_readInteger⟩ ⟨Nat.le_of_ble_eq_true rfl, Nat.le_of_ble_eq_true rfl⟩ rfl (Nat.le_of_ble_eq_true rfl) rfl ⟨Nat.le_of_ble_eq_true rfl, Nat.le_of_ble_eq_true rfl⟩ dX0_readEntry_29) (fun x5 M4 => ?_)
    refine xm_if_eq hX (tgt := 78) dX0_readEntry_32 rfl ?_ ?_
    · refine xm_iconst hX (v := 0) rfl dX0_readEntry_78 ?_
      exact xm_zretL hX (by decide) dX0_readEntry_79
    · refine xm_aload_n hX 0 dX0_readEntry_35 rfl rfl ?_
      refine xm_bipush hX (v := 44) rfl dX0_readEntry_36 ?_
      refine xm_calli hX (xm_runV hX (k := 69) (ci := 0) (As := (fun g => [.int (44 : Int32)])) (kX0_takes hL (44 : Int32) M4) (hL _ _ cL_69) rfl (xm_gV gm_454 gm_455 gm_456 gm_4 gm_457) rfl ⟨rfl, rfl⟩ ⟨rfl, hdX0_takes⟩ ⟨Nat.le_of_ble_eq_true rfl, Nat.le_of_ble_eq_true rfl⟩ rfl (Nat.le_of_ble_eq_true rfl) rfl ⟨Nat.le_of_ble_eq_true rfl, Nat.le_of_ble_eq_true rfl⟩ dX0_readEntry_38) (fun x7 M6 => ?_)
      refine xm_if_eq hX (tgt := 78) dX0_readEntry_41 rfl ?_ ?_
      · refine xm_iconst hX (v := 0) rfl dX0_readEntry_78 ?_
        exact xm_zretL hX (by decide) dX0_readEntry_79
      · refine xm_aload_n hX 0 dX0_readEntry_44 rfl rfl ?_
        refine xm_iconst hX (v := 1) rfl dX0_readEntry_45 ?_
        refine xm_sipush hX (v := 300) rfl dX0_readEntry_46 ?_
        refine xm_calli hX (xm_runV hX (k := 69) (ci := 0) (As := (fun g => [.int (1 : Int32), .int (300 : Int32)])) (kX0_readInteger hL (1 : Int32) (300 : Int32) M6) (hL _ _ cL_69) rfl (xm_gV gm_464 gm_465 gm_514 gm_4 gm_466) rfl ⟨rfl, rfl⟩ ⟨rfl, hdX0_readInteger⟩ ⟨Nat.le_of_ble_eq_true rfl, Nat.le_of_ble_eq_true rfl⟩ rfl (Nat.le_of_ble_eq_true rfl) rfl ⟨Nat.le_of_ble_eq_true rfl, Nat.le_of_ble_eq_true rfl⟩ dX0_readEntry_49) (fun x9 M8 => ?_)
        refine xm_if_eq hX (tgt := 78) dX0_readEntry_52 rfl ?_ ?_
        · refine xm_iconst hX (v := 0) rfl dX0_readEntry_78 ?_
          exact xm_zretL hX (by decide) dX0_readEntry_79
        · refine xm_aload_n hX 0 dX0_readEntry_55 rfl rfl ?_
          refine xm_bipush hX (v := 44) rfl dX0_readEntry_56 ?_
          refine xm_calli hX (xm_runV hX (k := 69) (ci := 0) (As := (fun g => [.int (44 : Int32)])) (kX0_takes hL (44 : Int32) M8) (hL _ _ cL_69) rfl (xm_gV gm_454 gm_455 gm_456 gm_4 gm_457) rfl ⟨rfl, rfl⟩ ⟨rfl, hdX0_takes⟩ ⟨Nat.le_of_ble_eq_true rfl, Nat.le_of_ble_eq_true rfl⟩ rfl (Nat.le_of_ble_eq_true rfl) rfl ⟨Nat.le_of_ble_eq_true rfl, Nat.le_of_ble_eq_true rfl⟩ dX0_readEntry_58) (fun x11 M10 => ?_)
          refine xm_if_eq hX (tgt := 78) dX0_readEntry_61 rfl ?_ ?_
          · refine xm_iconst hX (v := 0) rfl dX0_readEntry_78 ?_
            exact xm_zretL hX (by decide) dX0_readEntry_79
          · refine xm_aload_n hX 0 dX0_readEntry_64 rfl rfl ?_
            refine xm_iconst hX (v := 2) rfl dX0_readEntry_65 ?_
            refine xm_ldc hX (v := 300000) (List.mem_cons_of_mem _ gm_467) dX0_readEntry_66 ?_
            refine xm_calli hX (xm_runV hX (k := 69) (ci := 0) (As := (fun g => [.int (2 : Int32), .int (300000 : Int32)])) (kX0_readInteger hL (2 : Int32) (300000 : Int32) M10) (hL _ _ cL_69) rfl (xm_gV gm_464 gm_465 gm_514 gm_4 gm_466) rfl ⟨rfl, rfl⟩ ⟨rfl, hdX0_readInteger⟩ ⟨Nat.le_of_ble_eq_true rfl, Nat.le_of_ble_eq_true rfl⟩ rfl (Nat.le_of_ble_eq_true rfl) rfl ⟨Nat.le_of_ble_eq_true rfl, Nat.le_of_ble_eq_true rfl⟩ dX0_readEntry_68) (fun x13 M12 => ?_)
            refine xm_if_eq hX (tgt := 78) dX0_readEntry_71 rfl ?_ ?_
            · refine xm_iconst hX (v := 0) rfl dX0_readEntry_78 ?_
              exact xm_zretL hX (by decide) dX0_readEntry_79
            · refine xm_iconst hX (v := 1) rfl dX0_readEntry_74 ?_
              refine xm_goto hX (tgt := 79) dX0_readEntry_75 rfl ?_
              exact xm_zretL hX (by decide) dX0_readEntry_79
  · refine xm_aload_n hX 0 dX0_readEntry_17 rfl rfl ?_
    refine xm_iconst hX (v := 0) rfl dX0_readEntry_18 ?_
    refine xm_iconst hX (v := 5) rfl dX0_readEntry_19 ?_
    refine xm_calli hX (xm_runV hX (k := 69) (ci := 0) (As := (fun g => [.int (0 : Int32), .int (5 : Int32)])) (kX0_readNumber hL (0 : Int32) (5 : Int32) M3) (hL _ _ cL_69) rfl (xm_gV gm_458 gm_459 gm_512 gm_4 gm_460) rfl ⟨rfl, rfl⟩ ⟨rfl, hdX0_readNumber⟩ ⟨Nat.le_of_ble_eq_true rfl, Nat.le_of_ble_eq_true rfl⟩ rfl (Nat.le_of_ble_eq_true rfl) rfl ⟨Nat.le_of_ble_eq_true rfl, Nat.le_of_ble_eq_true rfl⟩ dX0_readEntry_20) (fun x15 M14 => ?_)
    exact xm_zret hX dX0_readEntry_23
-- ===== OdometryDesk$Pad.findFault()I ['69']
theorem dX0_findFault_0 : decode cX0_findFault 0 = .ok (.aload_n 0, 1) := by decide +kernel
theorem dX0_findFault_1 : decode cX0_findFault 1 = .ok (.iconst 0, 1) := by decide +kernel
theorem dX0_findFault_2 : decode cX0_findFault 2 = .ok (.putfield 32, 3) := by decide +kernel
theorem dX0_findFault_5 : decode cX0_findFault 5 = .ok (.iconst 0, 1) := by decide +kernel
theorem dX0_findFault_6 : decode cX0_findFault 6 = .ok (.istore_n 1, 1) := by decide +kernel
theorem dX0_findFault_7 : decode cX0_findFault 7 = .ok (.iload_n 1, 1) := by decide +kernel
theorem dX0_findFault_8 : decode cX0_findFault 8 = .ok (.bipush 100, 2) := by decide +kernel
theorem dX0_findFault_10 : decode cX0_findFault 10 = .ok (.if_icmp .gt 49, 3) := by decide +kernel
theorem dX0_findFault_13 : decode cX0_findFault 13 = .ok (.aload_n 0, 1) := by decide +kernel
theorem dX0_findFault_14 : decode cX0_findFault 14 = .ok (.invokevirtual 35, 3) := by decide +kernel
theorem dX0_findFault_17 : decode cX0_findFault 17 = .ok (.ifCond .ne 8, 3) := by decide +kernel
theorem dX0_findFault_20 : decode cX0_findFault 20 = .ok (.aload_n 0, 1) := by decide +kernel
theorem dX0_findFault_21 : decode cX0_findFault 21 = .ok (.getfield 32, 3) := by decide +kernel
theorem dX0_findFault_24 : decode cX0_findFault 24 = .ok (.ireturn, 1) := by decide +kernel
theorem dX0_findFault_25 : decode cX0_findFault 25 = .ok (.aload_n 0, 1) := by decide +kernel
theorem dX0_findFault_26 : decode cX0_findFault 26 = .ok (.getfield 32, 3) := by decide +kernel
theorem dX0_findFault_29 : decode cX0_findFault 29 = .ok (.aload_n 0, 1) := by decide +kernel
theorem dX0_findFault_30 : decode cX0_findFault 30 = .ok (.getfield 24, 3) := by decide +kernel
theorem dX0_findFault_33 : decode cX0_findFault 33 = .ok (.if_icmp .lt 6, 3) := by decide +kernel
theorem dX0_findFault_36 : decode cX0_findFault 36 = .ok (.bipush (-6), 2) := by decide +kernel
theorem dX0_findFault_38 : decode cX0_findFault 38 = .ok (.ireturn, 1) := by decide +kernel
theorem dX0_findFault_39 : decode cX0_findFault 39 = .ok (.aload_n 0, 1) := by decide +kernel
theorem dX0_findFault_40 : decode cX0_findFault 40 = .ok (.bipush 59, 2) := by decide +kernel
theorem dX0_findFault_42 : decode cX0_findFault 42 = .ok (.invokevirtual 39, 3) := by decide +kernel
theorem dX0_findFault_45 : decode cX0_findFault 45 = .ok (.ifCond .ne 8, 3) := by decide +kernel
theorem dX0_findFault_48 : decode cX0_findFault 48 = .ok (.aload_n 0, 1) := by decide +kernel
theorem dX0_findFault_49 : decode cX0_findFault 49 = .ok (.getfield 32, 3) := by decide +kernel
theorem dX0_findFault_52 : decode cX0_findFault 52 = .ok (.ireturn, 1) := by decide +kernel
theorem dX0_findFault_53 : decode cX0_findFault 53 = .ok (.iinc 1 1, 3) := by decide +kernel
theorem dX0_findFault_56 : decode cX0_findFault 56 = .ok (.goto (-49), 3) := by decide +kernel
theorem dX0_findFault_59 : decode cX0_findFault 59 = .ok (.aload_n 0, 1) := by decide +kernel
theorem dX0_findFault_60 : decode cX0_findFault 60 = .ok (.getfield 32, 3) := by decide +kernel
theorem dX0_findFault_63 : decode cX0_findFault 63 = .ok (.ireturn, 1) := by decide +kernel
abbrev wX0_findFault : List Cond := .code yX0_findFault cX0_findFault 2 (some .int) :: lw_gd
theorem hdX0_findFault : (yX0_findFault.cls ≠ "java/lang/invoke/MethodHandle" ∧ yX0_findFault.cls ≠ "java/lang/invoke/VarHandle" ∧ (parseMethodDescriptor yX0_findFault.desc).map (fun d => d.parameters.length) = some 0) := by decide +kernel
def fX0_findFault_7  (k7 : Int32 → xm_M → Option (Int32 × xm_M)) (b1 : Int32) (M : xm_M) : Option (Int32 × xm_M) :=
  if (100 : Int32) < b1 then some (M.1 69 2, M) else xm_bi (fX0_readEntry M) (fun x4 M3 => if x4 = 0 then some (M3.1 69 2, M3) else if (M3.1 69 2) < (M3.1 69 1) then xm_bi (fX0_takes (59 : Int32) M3) (fun x6 M5 => if x6 = 0 then some (M5.1 69 2, M5) else xm_lt (b1 + Int32.ofInt 1) (fun x7 => k7 x7 M5)) else some ((-6 : Int32), M3))
set_option maxRecDepth 20000 in
theorem tfX0_findFault_7 {p : Program} {l : Launch} {e : Env} {s : State} {m : MethodId} {args : Array Value} {below : List Frame} {meth : Method} {c : Code} {D : va_G} {g : xm_G} {A : Nat → Prop}  {L : List xm_Sh} (hL : xm_pre L) (hX : xm_X p m meth c cX0_findFault 2 s args wX0_findFault RX0 (some .int) D L g A)  (k7 : Int32 → xm_M → Option (Int32 × xm_M)) (h7 : ∀ (b1 : Int32), ∀ (M : xm_M), xm_J p l e ({ frames := 5, cells := 0, slots := 0, locals := 109 }) s m args below meth c 2 D L g A (xm_Z below args s D L g A (xm_Fi g)) 7 [(0, .ref (g.1 69)), (1, .int b1)] [] M (k7 b1 M)) : ∀ (b1 : Int32), ∀ (M : xm_M), xm_J p l e ({ frames := 5, cells := 0, slots := 0, locals := 109 }) s m args below meth c 2 D L g A (xm_Z below args s D L g A (xm_Fi g)) 7 [(0, .ref (g.1 69)), (1, .int b1)] [] M (fX0_findFault_7 k7 b1 M) := by
  intro b1 M
  unfold fX0_findFault_7
  refine xm_iload_n hX 1 dX0_findFault_7 rfl rfl ?_
  refine xm_bipush hX (v := 100) rfl dX0_findFault_8 ?_
  refine xm_icmp_gt hX (tgt := 59) dX0_findFault_10 rfl ?_ ?_
  · refine xm_aload_n hX 0 dX0_findFault_59 rfl rfl ?_
    refine xm_get hX (k := 69) (ci := 0) (j := 2) (C := RX0) (T := TX0) (N := 5) (v := .int (M.1 69 2)) (hL _ _ cL_69) rfl rfl rfl (by decide) (fun z hz => List.mem_cons_of_mem _ (iw_X0 z hz)) (List.mem_cons_of_mem _ gm_114) dX0_findFault_60 ?_
    exact xm_iret hX dX0_findFault_63
  · refine xm_aload_n hX 0 dX0_findFault_13 rfl rfl ?_
    refine xm_calli hX (xm_runV hX (k := 69) (ci := 0) (As := (fun g => [])) (kX0_readEntry hL M) (hL _ _ cL_69) rfl (xm_gV gm_450 gm_451 gm_452 gm_4 gm_453) rfl ⟨rfl, rfl⟩ ⟨rfl, hdX0_readEntry⟩ ⟨Nat.le_of_ble_eq_true rfl, Nat.le_of_ble_eq_true rfl⟩ rfl (Nat.le_of_ble_eq_true rfl) rfl ⟨Nat.le_of_ble_eq_true rfl, Nat.le_of_ble_eq_true rfl⟩ dX0_findFault_14) (fun x4 M3 => ?_)
    refine xm_if_ne hX (tgt := 25) dX0_findFault_17 rfl ?_ ?_
    · refine xm_aload_n hX 0 dX0_findFault_25 rfl rfl ?_
      refine xm_get hX (k := 69) (ci := 0) (j := 2) (C := RX0) (T := TX0) (N := 5) (v := .int (M3.1 69 2)) (hL _ _ cL_69) rfl rfl rfl (by decide) (fun z hz => List.mem_cons_of_mem _ (iw_X0 z hz)) (List.mem_cons_of_mem _ gm_114) dX0_findFault_26 ?_
      refine xm_aload_n hX 0 dX0_findFault_29 rfl rfl ?_
      refine xm_get hX (k := 69) (ci := 0) (j := 1) (C := RX0) (T := TX0) (N := 5) (v := .int (M3.1 69 1)) (hL _ _ cL_69) rfl rfl rfl (by decide) (fun z hz => List.mem_cons_of_mem _ (iw_X0 z hz)) (List.mem_cons_of_mem _ gm_112) dX0_findFault_30 ?_
      refine xm_icmp_lt hX (tgt := 39) dX0_findFault_33 rfl ?_ ?_
      · refine xm_aload_n hX 0 dX0_findFault_39 rfl rfl ?_
        refine xm_bipush hX (v := 59) rfl dX0_findFault_40 ?_
        refine xm_calli hX (xm_runV hX (k := 69) (ci := 0) (As := (fun g => [.int (59 : Int32)])) (kX0_takes hL (59 : Int32) M3) (hL _ _ cL_69) rfl (xm_gV gm_454 gm_455 gm_456 gm_4 gm_457) rfl ⟨rfl, rfl⟩ ⟨rfl, hdX0_takes⟩ ⟨Nat.le_of_ble_eq_true rfl, Nat.le_of_ble_eq_true rfl⟩ rfl (Nat.le_of_ble_eq_true rfl) rfl ⟨Nat.le_of_ble_eq_true rfl, Nat.le_of_ble_eq_true rfl⟩ dX0_findFault_42) (fun x6 M5 => ?_)
        refine xm_if_ne hX (tgt := 53) dX0_findFault_45 rfl ?_ ?_
        · refine xm_iinc hX (lv2 := fun x7 => [(1, .int x7), (0, .ref (g.1 69))]) 1 dX0_findFault_53 rfl (by decide) (fun _ => rfl) (fun x7 => ?_)
          refine xm_goto hX (tgt := 7) dX0_findFault_56 rfl ?_
          refine xm_weak [1, 0] (lv' := [(0, .ref (g.1 69)), (1, .int x7)]) rfl ?_
          exact h7 x7 M5
        · refine xm_aload_n hX 0 dX0_findFault_48 rfl rfl ?_
          refine xm_get hX (k := 69) (ci := 0) (j := 2) (C := RX0) (T := TX0) (N := 5) (v := .int (M5.1 69 2)) (hL _ _ cL_69) rfl rfl rfl (by decide) (fun z hz => List.mem_cons_of_mem _ (iw_X0 z hz)) (List.mem_cons_of_mem _ gm_114) dX0_findFault_49 ?_
          exact xm_iret hX dX0_findFault_52
      · refine xm_bipush hX (v := -6) rfl dX0_findFault_36 ?_
        exact xm_iret hX dX0_findFault_38
    · refine xm_aload_n hX 0 dX0_findFault_20 rfl rfl ?_
      refine xm_get hX (k := 69) (ci := 0) (j := 2) (C := RX0) (T := TX0) (N := 5) (v := .int (M3.1 69 2)) (hL _ _ cL_69) rfl rfl rfl (by decide) (fun z hz => List.mem_cons_of_mem _ (iw_X0 z hz)) (List.mem_cons_of_mem _ gm_114) dX0_findFault_21 ?_
      exact xm_iret hX dX0_findFault_24
def fX0_findFault_7_it   (nq : Nat) : Int32 → xm_M → Option (Int32 × xm_M) := xm_it (fun kq => fX0_findFault_7 kq) (fun _ _ => none) nq
theorem tfX0_findFault_7_it {p : Program} {l : Launch} {e : Env} {s : State} {m : MethodId} {args : Array Value} {below : List Frame} {meth : Method} {c : Code} {D : va_G} {g : xm_G} {A : Nat → Prop}  {L : List xm_Sh} (hL : xm_pre L) (hX : xm_X p m meth c cX0_findFault 2 s args wX0_findFault RX0 (some .int) D L g A)    : ∀ (nq : Nat), ∀ (b1 : Int32), ∀ (M : xm_M), xm_J p l e ({ frames := 5, cells := 0, slots := 0, locals := 109 }) s m args below meth c 2 D L g A (xm_Z below args s D L g A (xm_Fi g)) 7 [(0, .ref (g.1 69)), (1, .int b1)] [] M (fX0_findFault_7_it  nq b1 M) := by
  intro nq
  induction nq with
  | zero => exact fun _ _ => xm_none
  | succ nq ih => exact tfX0_findFault_7 hL hX _ ih
def fX0_findFault   (M : xm_M) : Option (Int32 × xm_M) :=
  xm_lt (xm_s M 69 2 (0 : Int32)) (fun M1 => xm_lt ((0 : Int32)) (fun x2 => fX0_findFault_7_it xm_N x2 M1))
set_option maxRecDepth 20000 in
theorem kX0_findFault {l : Launch} {L : List xm_Sh} (hL : xm_pre L)    (M : xm_M) : xm_C l yX0_findFault wX0_findFault ({ frames := 5, cells := 0, slots := 0, locals := 109 }) L (fun g => [.ref (g.1 69)]) M xm_Fi (fX0_findFault   M) := by
  refine xm_C.of (by decide) rfl (fun g => Nat.le_of_ble_eq_true rfl) ?_
  intro p e s m args below meth c D g A hX
  refine xm_lv (lv' := [(0, .ref (g.1 69))]) rfl ?_
  unfold fX0_findFault
  refine xm_aload_n hX 0 dX0_findFault_0 rfl rfl ?_
  refine xm_iconst hX (v := 0) rfl dX0_findFault_1 ?_
  refine xm_puti hX (k := 69) (ci := 0) (j := 2) (C := RX0) (T := TX0) (N := 5) (t0 := tyX0) (hL _ _ cL_69) rfl rfl (by decide) (fun z hz => List.mem_cons_of_mem _ (iw_X0 z hz)) tyX0_ok nmX0 rfl rfl (List.mem_cons_of_mem _ gm_114) dX0_findFault_2 (fun M1 => ?_)
  refine xm_iconst hX (v := 0) rfl dX0_findFault_5 ?_
  refine xm_nmi (fun x2 => ?_)
  refine xm_istore_n hX (lv' := [(1, .int x2), (0, .ref (g.1 69))]) dX0_findFault_6 rfl (by decide) rfl ?_
  refine xm_weak [1, 0] (lv' := [(0, .ref (g.1 69)), (1, .int x2)]) rfl ?_
  exact tfX0_findFault_7_it hL hX xm_N x2 M1
-- ===== OdometryDesk.fault()I ['0']
theorem dX3_fault_0 : decode cX3_fault 0 = .ok (.aload_n 0, 1) := by decide +kernel
theorem dX3_fault_1 : decode cX3_fault 1 = .ok (.getfield 32, 3) := by decide +kernel
theorem dX3_fault_4 : decode cX3_fault 4 = .ok (.invokevirtual 181, 3) := by decide +kernel
theorem dX3_fault_7 : decode cX3_fault 7 = .ok (.ireturn, 1) := by decide +kernel
abbrev wX3_fault : List Cond := .code yX3_fault cX3_fault 1 (some .int) :: lw_gd
theorem hdX3_fault : (yX3_fault.cls ≠ "java/lang/invoke/MethodHandle" ∧ yX3_fault.cls ≠ "java/lang/invoke/VarHandle" ∧ (parseMethodDescriptor yX3_fault.desc).map (fun d => d.parameters.length) = some 0) := by decide +kernel
def fX3_fault   (M : xm_M) : Option (Int32 × xm_M) :=
  xm_bi (fX0_findFault M) (fun x2 M1 => some (x2, M1))
set_option maxRecDepth 20000 in
theorem kX3_fault {l : Launch} {L : List xm_Sh} (hL : xm_pre L)    (M : xm_M) : xm_C l yX3_fault wX3_fault ({ frames := 6, cells := 0, slots := 0, locals := 130 }) L (fun g => [.ref (g.1 0)]) M xm_Fi (fX3_fault   M) := by
  refine xm_C.of (by decide) rfl (fun g => Nat.le_of_ble_eq_true rfl) ?_
  intro p e s m args below meth c D g A hX
  refine xm_lv (lv' := [(0, .ref (g.1 0))]) rfl ?_
  unfold fX3_fault
  refine xm_aload_n hX 0 dX3_fault_0 rfl rfl ?_
  refine xm_get hX (k := 0) (ci := 3) (j := 4) (C := RX3) (T := TX3) (N := 6) (v := .ref (g.1 69)) (hL _ _ cL_0) rfl rfl rfl (by decide) (fun z hz => List.mem_cons_of_mem _ (iw_X3 z hz)) (List.mem_cons_of_mem _ gm_132) dX3_fault_1 ?_
  refine xm_calli hX (xm_runV hX (k := 69) (ci := 0) (As := (fun g => [])) (kX0_findFault hL M) (hL _ _ cL_69) rfl (xm_gV gm_446 gm_447 gm_448 gm_4 gm_449) rfl ⟨rfl, rfl⟩ ⟨rfl, hdX0_findFault⟩ ⟨Nat.le_of_ble_eq_true rfl, Nat.le_of_ble_eq_true rfl⟩ rfl (Nat.le_of_ble_eq_true rfl) rfl ⟨Nat.le_of_ble_eq_true rfl, Nat.le_of_ble_eq_true rfl⟩ dX3_fault_4) (fun x2 M1 => ?_)
  exact xm_iret hX dX3_fault_7
-- ===== OdometryDesk.ifSet(III)I ['0']
theorem dX3_ifSet_0 : decode cX3_ifSet 0 = .ok (.iload_n 1, 1) := by decide +kernel
theorem dX3_ifSet_1 : decode cX3_ifSet 1 = .ok (.iload_n 2, 1) := by decide +kernel
theorem dX3_ifSet_2 : decode cX3_ifSet 2 = .ok (.invokestatic 48, 3) := by decide +kernel
theorem dX3_ifSet_5 : decode cX3_ifSet 5 = .ok (.ifCond .eq 12, 3) := by decide +kernel
theorem dX3_ifSet_8 : decode cX3_ifSet 8 = .ok (.iload_n 3, 1) := by decide +kernel
theorem dX3_ifSet_9 : decode cX3_ifSet 9 = .ok (.iconst 0, 1) := by decide +kernel
theorem dX3_ifSet_10 : decode cX3_ifSet 10 = .ok (.iconst 4, 1) := by decide +kernel
theorem dX3_ifSet_11 : decode cX3_ifSet 11 = .ok (.invokestatic 66, 3) := by decide +kernel
theorem dX3_ifSet_14 : decode cX3_ifSet 14 = .ok (.ifCond .ne 6, 3) := by decide +kernel
theorem dX3_ifSet_17 : decode cX3_ifSet 17 = .ok (.ldc 118, 2) := by decide +kernel
theorem dX3_ifSet_19 : decode cX3_ifSet 19 = .ok (.ireturn, 1) := by decide +kernel
theorem dX3_ifSet_20 : decode cX3_ifSet 20 = .ok (.aload_n 0, 1) := by decide +kernel
theorem dX3_ifSet_21 : decode cX3_ifSet 21 = .ok (.iload_n 1, 1) := by decide +kernel
theorem dX3_ifSet_22 : decode cX3_ifSet 22 = .ok (.iload_n 2, 1) := by decide +kernel
theorem dX3_ifSet_23 : decode cX3_ifSet 23 = .ok (.invokevirtual 156, 3) := by decide +kernel
theorem dX3_ifSet_26 : decode cX3_ifSet 26 = .ok (.pop2, 1) := by decide +kernel
theorem dX3_ifSet_27 : decode cX3_ifSet 27 = .ok (.iload_n 3, 1) := by decide +kernel
theorem dX3_ifSet_28 : decode cX3_ifSet 28 = .ok (.tableswitch 80 0 3 #[32, 40, 48, 56], 32) := by decide +kernel
theorem dX3_ifSet_60 : decode cX3_ifSet 60 = .ok (.aload_n 0, 1) := by decide +kernel
theorem dX3_ifSet_61 : decode cX3_ifSet 61 = .ok (.getfield 25, 3) := by decide +kernel
theorem dX3_ifSet_64 : decode cX3_ifSet 64 = .ok (.getfield 160, 3) := by decide +kernel
theorem dX3_ifSet_67 : decode cX3_ifSet 67 = .ok (.ireturn, 1) := by decide +kernel
theorem dX3_ifSet_68 : decode cX3_ifSet 68 = .ok (.aload_n 0, 1) := by decide +kernel
theorem dX3_ifSet_69 : decode cX3_ifSet 69 = .ok (.getfield 25, 3) := by decide +kernel
theorem dX3_ifSet_72 : decode cX3_ifSet 72 = .ok (.getfield 163, 3) := by decide +kernel
theorem dX3_ifSet_75 : decode cX3_ifSet 75 = .ok (.ireturn, 1) := by decide +kernel
theorem dX3_ifSet_76 : decode cX3_ifSet 76 = .ok (.aload_n 0, 1) := by decide +kernel
theorem dX3_ifSet_77 : decode cX3_ifSet 77 = .ok (.getfield 25, 3) := by decide +kernel
theorem dX3_ifSet_80 : decode cX3_ifSet 80 = .ok (.getfield 166, 3) := by decide +kernel
theorem dX3_ifSet_83 : decode cX3_ifSet 83 = .ok (.ireturn, 1) := by decide +kernel
theorem dX3_ifSet_84 : decode cX3_ifSet 84 = .ok (.aload_n 0, 1) := by decide +kernel
theorem dX3_ifSet_85 : decode cX3_ifSet 85 = .ok (.getfield 25, 3) := by decide +kernel
theorem dX3_ifSet_88 : decode cX3_ifSet 88 = .ok (.getfield 146, 3) := by decide +kernel
theorem dX3_ifSet_91 : decode cX3_ifSet 91 = .ok (.iconst 2, 1) := by decide +kernel
theorem dX3_ifSet_92 : decode cX3_ifSet 92 = .ok (.invokestatic 55, 3) := by decide +kernel
theorem dX3_ifSet_95 : decode cX3_ifSet 95 = .ok (.aload_n 0, 1) := by decide +kernel
theorem dX3_ifSet_96 : decode cX3_ifSet 96 = .ok (.getfield 25, 3) := by decide +kernel
theorem dX3_ifSet_99 : decode cX3_ifSet 99 = .ok (.getfield 146, 3) := by decide +kernel
theorem dX3_ifSet_102 : decode cX3_ifSet 102 = .ok (.iconst 3, 1) := by decide +kernel
theorem dX3_ifSet_103 : decode cX3_ifSet 103 = .ok (.invokestatic 55, 3) := by decide +kernel
theorem dX3_ifSet_106 : decode cX3_ifSet 106 = .ok (.iadd, 1) := by decide +kernel
theorem dX3_ifSet_107 : decode cX3_ifSet 107 = .ok (.ireturn, 1) := by decide +kernel
theorem dX3_ifSet_108 : decode cX3_ifSet 108 = .ok (.aload_n 0, 1) := by decide +kernel
theorem dX3_ifSet_109 : decode cX3_ifSet 109 = .ok (.getfield 25, 3) := by decide +kernel
theorem dX3_ifSet_112 : decode cX3_ifSet 112 = .ok (.invokevirtual 138, 3) := by decide +kernel
theorem dX3_ifSet_115 : decode cX3_ifSet 115 = .ok (.ireturn, 1) := by decide +kernel
abbrev wX3_ifSet : List Cond := .code yX3_ifSet cX3_ifSet 4 (some .int) :: lw_gd
theorem hdX3_ifSet : (yX3_ifSet.cls ≠ "java/lang/invoke/MethodHandle" ∧ yX3_ifSet.cls ≠ "java/lang/invoke/VarHandle" ∧ (parseMethodDescriptor yX3_ifSet.desc).map (fun d => d.parameters.length) = some 3) := by decide +kernel
def fX3_ifSet  (a1 : Int32) (a2 : Int32) (a3 : Int32) (M : xm_M) : Option (Int32 × xm_M) :=
  xm_bi (fX3_isSetting a1 a2 M) (fun x2 M1 => if x2 = 0 then some ((-1000000002 : Int32), M1) else xm_bi (fX3_isWithin a3 (0 : Int32) (4 : Int32) M1) (fun x4 M3 => if x4 = 0 then some ((-1000000002 : Int32), M3) else xm_bl (fX3_errorsWith a1 a2 M3) (fun x6 M5 => if a3 = 0 then some (M5.1 49 3, M5) else if a3 = 1 then some (M5.1 49 4, M5) else if a3 = 2 then some (M5.1 49 5, M5) else if a3 = 3 then xm_bi (fX3_item 68 5 (2 : Int32) M5) (fun x11 M10 => xm_bi (fX3_item 68 5 (3 : Int32) M10) (fun x13 M12 => some (x11 + x13, M12))) else xm_bi (fX2_toldErrors M5) (fun x16 M15 => some (x16, M15)))))
set_option maxRecDepth 20000 in
theorem kX3_ifSet {l : Launch} {L : List xm_Sh} (hL : xm_pre L)   (a1 : Int32) (a2 : Int32) (a3 : Int32) (M : xm_M) : xm_C l yX3_ifSet wX3_ifSet ({ frames := 6, cells := 0, slots := 0, locals := 151 }) L (fun g => [.ref (g.1 0), .int a1, .int a2, .int a3]) M xm_Fi (fX3_ifSet  a1 a2 a3 M) := by
  refine xm_C.of (by decide) rfl (fun g => Nat.le_of_ble_eq_true rfl) ?_
  intro p e s m args below meth c D g A hX
  refine xm_lv (lv' := [(0, .ref (g.1 0)), (1, .int a1), (2, .int a2), (3, .int a3)]) rfl ?_
  unfold fX3_ifSet
  refine xm_iload_n hX 1 dX3_ifSet_0 rfl rfl ?_
  refine xm_iload_n hX 2 dX3_ifSet_1 rfl rfl ?_
  refine xm_calli hX (xm_runS hX (As := (fun g => [.int a1, .int a2])) (kX3_isSetting hL a1 a2 M) (xm_gS gm_144 gm_145 gm_1 gm_146) rfl ⟨rfl, rfl⟩ hdX3_isSetting ⟨Nat.le_of_ble_eq_true rfl, Nat.le_of_ble_eq_true rfl⟩ rfl (Nat.le_of_ble_eq_true rfl) rfl ⟨Nat.le_of_ble_eq_true rfl, Nat.le_of_ble_eq_true rfl⟩ dX3_ifSet_2) (fun x2 M1 => ?_)
  refine xm_if_eq hX (tgt := 17) dX3_ifSet_5 rfl ?_ ?_
  · refine xm_ldc hX (v := -1000000002) (List.mem_cons_of_mem _ gm_288) dX3_ifSet_17 ?_
    exact xm_iret hX dX3_ifSet_19
  · refine xm_iload_n hX 3 dX3_ifSet_8 rfl rfl ?_
    refine xm_iconst hX (v := 0) rfl dX3_ifSet_9 ?_
    refine xm_iconst hX (v := 4) rfl dX3_ifSet_10 ?_
    refine xm_calli hX (xm_runS hX (As := (fun g => [.int a3, .int (0 : Int32), .int (4 : Int32)])) (kX3_isWithin hL a3 (0 : Int32) (4 : Int32) M1) (xm_gS gm_149 gm_150 gm_1 gm_151) rfl ⟨rfl, rfl⟩ hdX3_isWithin ⟨Nat.le_of_ble_eq_true rfl, Nat.le_of_ble_eq_true rfl⟩ rfl (Nat.le_of_ble_eq_true rfl) rfl ⟨Nat.le_of_ble_eq_true rfl, Nat.le_of_ble_eq_true rfl⟩ dX3_ifSet_11) (fun x4 M3 => ?_)
    refine xm_if_ne hX (tgt := 20) dX3_ifSet_14 rfl ?_ ?_
    · refine xm_aload_n hX 0 dX3_ifSet_20 rfl rfl ?_
      refine xm_iload_n hX 1 dX3_ifSet_21 rfl rfl ?_
      refine xm_iload_n hX 2 dX3_ifSet_22 rfl rfl ?_
      refine xm_calll hX (xm_runV hX (k := 0) (ci := 3) (As := (fun g => [.int a1, .int a2])) (kX3_errorsWith hL a1 a2 M3) (hL _ _ cL_0) rfl (xm_gV gm_379 gm_380 gm_510 gm_1 gm_381) rfl ⟨rfl, rfl⟩ ⟨rfl, hdX3_errorsWith⟩ ⟨Nat.le_of_ble_eq_true rfl, Nat.le_of_ble_eq_true rfl⟩ rfl (Nat.le_of_ble_eq_true rfl) rfl ⟨Nat.le_of_ble_eq_true rfl, Nat.le_of_ble_eq_true rfl⟩ dX3_ifSet_23) (fun x6 M5 => ?_)
      refine xm_pop2_2 hX rfl dX3_ifSet_26 ?_
      refine xm_iload_n hX 3 dX3_ifSet_27 rfl rfl ?_
      refine xm_ite (fun z7 => ?_) (fun z7 => ?_)
      · refine xm_tsIn hX (tgt := 60) dX3_ifSet_28 z7 (by decide) (by decide) rfl rfl ?_
        refine xm_aload_n hX 0 dX3_ifSet_60 rfl rfl ?_
        refine xm_get hX (k := 0) (ci := 3) (j := 3) (C := RX3) (T := TX3) (N := 6) (v := .ref (g.1 49)) (hL _ _ cL_0) rfl rfl rfl (by decide) (fun z hz => List.mem_cons_of_mem _ (iw_X3 z hz)) (List.mem_cons_of_mem _ gm_131) dX3_ifSet_61 ?_
        refine xm_get hX (k := 49) (ci := 2) (j := 3) (C := RX2) (T := TX2) (N := 12) (v := .int (M5.1 49 3)) (hL _ _ cL_49) rfl rfl rfl (by decide) (fun z hz => List.mem_cons_of_mem _ (iw_X2 z hz)) (List.mem_cons_of_mem _ gm_80) dX3_ifSet_64 ?_
        exact xm_iret hX dX3_ifSet_67
      refine xm_ite (fun z8 => ?_) (fun z8 => ?_)
      · refine xm_tsIn hX (tgt := 68) dX3_ifSet_28 z8 (by decide) (by decide) rfl rfl ?_
        refine xm_aload_n hX 0 dX3_ifSet_68 rfl rfl ?_
        refine xm_get hX (k := 0) (ci := 3) (j := 3) (C := RX3) (T := TX3) (N := 6) (v := .ref (g.1 49)) (hL _ _ cL_0) rfl rfl rfl (by decide) (fun z hz => List.mem_cons_of_mem _ (iw_X3 z hz)) (List.mem_cons_of_mem _ gm_131) dX3_ifSet_69 ?_
        refine xm_get hX (k := 49) (ci := 2) (j := 4) (C := RX2) (T := TX2) (N := 12) (v := .int (M5.1 49 4)) (hL _ _ cL_49) rfl rfl rfl (by decide) (fun z hz => List.mem_cons_of_mem _ (iw_X2 z hz)) (List.mem_cons_of_mem _ gm_82) dX3_ifSet_72 ?_
        exact xm_iret hX dX3_ifSet_75
      refine xm_ite (fun z9 => ?_) (fun z9 => ?_)
      · refine xm_tsIn hX (tgt := 76) dX3_ifSet_28 z9 (by decide) (by decide) rfl rfl ?_
        refine xm_aload_n hX 0 dX3_ifSet_76 rfl rfl ?_
        refine xm_get hX (k := 0) (ci := 3) (j := 3) (C := RX3) (T := TX3) (N := 6) (v := .ref (g.1 49)) (hL _ _ cL_0) rfl rfl rfl (by decide) (fun z hz => List.mem_cons_of_mem _ (iw_X3 z hz)) (List.mem_cons_of_mem _ gm_131) dX3_ifSet_77 ?_
        refine xm_get hX (k := 49) (ci := 2) (j := 5) (C := RX2) (T := TX2) (N := 12) (v := .int (M5.1 49 5)) (hL _ _ cL_49) rfl rfl rfl (by decide) (fun z hz => List.mem_cons_of_mem _ (iw_X2 z hz)) (List.mem_cons_of_mem _ gm_84) dX3_ifSet_80 ?_
        exact xm_iret hX dX3_ifSet_83
      refine xm_ite (fun z14 => ?_) (fun z14 => ?_)
      · refine xm_tsIn hX (tgt := 84) dX3_ifSet_28 z14 (by decide) (by decide) rfl rfl ?_
        refine xm_aload_n hX 0 dX3_ifSet_84 rfl rfl ?_
        refine xm_get hX (k := 0) (ci := 3) (j := 3) (C := RX3) (T := TX3) (N := 6) (v := .ref (g.1 49)) (hL _ _ cL_0) rfl rfl rfl (by decide) (fun z hz => List.mem_cons_of_mem _ (iw_X3 z hz)) (List.mem_cons_of_mem _ gm_131) dX3_ifSet_85 ?_
        refine xm_get hX (k := 49) (ci := 2) (j := 2) (C := RX2) (T := TX2) (N := 12) (v := .ref (g.1 68)) (hL _ _ cL_49) rfl rfl rfl (by decide) (fun z hz => List.mem_cons_of_mem _ (iw_X2 z hz)) (List.mem_cons_of_mem _ gm_78) dX3_ifSet_88 ?_
        refine xm_iconst hX (v := 2) rfl dX3_ifSet_91 ?_
        refine xm_calli hX (xm_runS hX (As := (fun g => [.ref (g.1 68), .int (2 : Int32)])) (kX3_item hL 68 5 (hL _ _ cL_68) (2 : Int32) M5) (xm_gS gm_152 gm_153 gm_1 gm_154) rfl ⟨rfl, rfl⟩ hdX3_item ⟨Nat.le_of_ble_eq_true rfl, Nat.le_of_ble_eq_true rfl⟩ rfl (Nat.le_of_ble_eq_true rfl) rfl ⟨Nat.le_of_ble_eq_true rfl, Nat.le_of_ble_eq_true rfl⟩ dX3_ifSet_92) (fun x11 M10 => ?_)
        refine xm_aload_n hX 0 dX3_ifSet_95 rfl rfl ?_
        refine xm_get hX (k := 0) (ci := 3) (j := 3) (C := RX3) (T := TX3) (N := 6) (v := .ref (g.1 49)) (hL _ _ cL_0) rfl rfl rfl (by decide) (fun z hz => List.mem_cons_of_mem _ (iw_X3 z hz)) (List.mem_cons_of_mem _ gm_131) dX3_ifSet_96 ?_
        refine xm_get hX (k := 49) (ci := 2) (j := 2) (C := RX2) (T := TX2) (N := 12) (v := .ref (g.1 68)) (hL _ _ cL_49) rfl rfl rfl (by decide) (fun z hz => List.mem_cons_of_mem _ (iw_X2 z hz)) (List.mem_cons_of_mem _ gm_78) dX3_ifSet_99 ?_
        refine xm_iconst hX (v := 3) rfl dX3_ifSet_102 ?_
        refine xm_calli hX (xm_runS hX (As := (fun g => [.ref (g.1 68), .int (3 : Int32)])) (kX3_item hL 68 5 (hL _ _ cL_68) (3 : Int32) M10) (xm_gS gm_152 gm_153 gm_1 gm_154) rfl ⟨rfl, rfl⟩ hdX3_item ⟨Nat.le_of_ble_eq_true rfl, Nat.le_of_ble_eq_true rfl⟩ rfl (Nat.le_of_ble_eq_true rfl) rfl ⟨Nat.le_of_ble_eq_true rfl, Nat.le_of_ble_eq_true rfl⟩ dX3_ifSet_103) (fun x13 M12 => ?_)
        refine xm_iadd hX dX3_ifSet_106 ?_
        exact xm_iret hX dX3_ifSet_107
      refine xm_tsOut hX (tgt := 108) dX3_ifSet_28 (by have qz7 := lv_neT (a := 0) z7 rfl; have qz8 := lv_neT (a := 1) z8 rfl; have qz9 := lv_neT (a := 2) z9 rfl; have qz14 := lv_neT (a := 3) z14 rfl; omega) rfl ?_
      refine xm_aload_n hX 0 dX3_ifSet_108 rfl rfl ?_
      refine xm_get hX (k := 0) (ci := 3) (j := 3) (C := RX3) (T := TX3) (N := 6) (v := .ref (g.1 49)) (hL _ _ cL_0) rfl rfl rfl (by decide) (fun z hz => List.mem_cons_of_mem _ (iw_X3 z hz)) (List.mem_cons_of_mem _ gm_131) dX3_ifSet_109 ?_
      refine xm_calli hX (xm_runV hX (k := 49) (ci := 2) (As := (fun g => [])) (kX2_toldErrors hL M5) (hL _ _ cL_49) rfl (xm_gV gm_275 gm_276 gm_277 gm_3 gm_278) rfl ⟨rfl, rfl⟩ ⟨rfl, hdX2_toldErrors⟩ ⟨Nat.le_of_ble_eq_true rfl, Nat.le_of_ble_eq_true rfl⟩ rfl (Nat.le_of_ble_eq_true rfl) rfl ⟨Nat.le_of_ble_eq_true rfl, Nat.le_of_ble_eq_true rfl⟩ dX3_ifSet_112) (fun x16 M15 => ?_)
      exact xm_iret hX dX3_ifSet_115
    · refine xm_ldc hX (v := -1000000002) (List.mem_cons_of_mem _ gm_288) dX3_ifSet_17 ?_
      exact xm_iret hX dX3_ifSet_19
-- ===== OdometryDesk$State.addStep(III)I ['1']
theorem dX1_addStep_0 : decode cX1_addStep 0 = .ok (.iload_n 1, 1) := by decide +kernel
theorem dX1_addStep_1 : decode cX1_addStep 1 = .ok (.sipush (-300), 3) := by decide +kernel
theorem dX1_addStep_4 : decode cX1_addStep 4 = .ok (.sipush 300, 3) := by decide +kernel
theorem dX1_addStep_7 : decode cX1_addStep 7 = .ok (.invokestatic 60, 3) := by decide +kernel
theorem dX1_addStep_10 : decode cX1_addStep 10 = .ok (.ifCond .eq 27, 3) := by decide +kernel
theorem dX1_addStep_13 : decode cX1_addStep 13 = .ok (.iload_n 2, 1) := by decide +kernel
theorem dX1_addStep_14 : decode cX1_addStep 14 = .ok (.sipush (-300), 3) := by decide +kernel
theorem dX1_addStep_17 : decode cX1_addStep 17 = .ok (.sipush 300, 3) := by decide +kernel
theorem dX1_addStep_20 : decode cX1_addStep 20 = .ok (.invokestatic 60, 3) := by decide +kernel
theorem dX1_addStep_23 : decode cX1_addStep 23 = .ok (.ifCond .eq 14, 3) := by decide +kernel
theorem dX1_addStep_26 : decode cX1_addStep 26 = .ok (.iload_n 3, 1) := by decide +kernel
theorem dX1_addStep_27 : decode cX1_addStep 27 = .ok (.ldc 64, 2) := by decide +kernel
theorem dX1_addStep_29 : decode cX1_addStep 29 = .ok (.ldc 65, 2) := by decide +kernel
theorem dX1_addStep_31 : decode cX1_addStep 31 = .ok (.invokestatic 60, 3) := by decide +kernel
theorem dX1_addStep_34 : decode cX1_addStep 34 = .ok (.ifCond .ne 6, 3) := by decide +kernel
theorem dX1_addStep_37 : decode cX1_addStep 37 = .ok (.bipush (-2), 2) := by decide +kernel
theorem dX1_addStep_39 : decode cX1_addStep 39 = .ok (.ireturn, 1) := by decide +kernel
theorem dX1_addStep_40 : decode cX1_addStep 40 = .ok (.aload_n 0, 1) := by decide +kernel
theorem dX1_addStep_41 : decode cX1_addStep 41 = .ok (.getfield 48, 3) := by decide +kernel
theorem dX1_addStep_44 : decode cX1_addStep 44 = .ok (.bipush 120, 2) := by decide +kernel
theorem dX1_addStep_46 : decode cX1_addStep 46 = .ok (.if_icmp .lt 6, 3) := by decide +kernel
theorem dX1_addStep_49 : decode cX1_addStep 49 = .ok (.bipush (-4), 2) := by decide +kernel
theorem dX1_addStep_51 : decode cX1_addStep 51 = .ok (.ireturn, 1) := by decide +kernel
theorem dX1_addStep_52 : decode cX1_addStep 52 = .ok (.aload_n 0, 1) := by decide +kernel
theorem dX1_addStep_53 : decode cX1_addStep 53 = .ok (.getfield 31, 3) := by decide +kernel
theorem dX1_addStep_56 : decode cX1_addStep 56 = .ok (.iconst 0, 1) := by decide +kernel
theorem dX1_addStep_57 : decode cX1_addStep 57 = .ok (.aload_n 0, 1) := by decide +kernel
theorem dX1_addStep_58 : decode cX1_addStep 58 = .ok (.getfield 48, 3) := by decide +kernel
theorem dX1_addStep_61 : decode cX1_addStep 61 = .ok (.bipush (-6), 2) := by decide +kernel
theorem dX1_addStep_63 : decode cX1_addStep 63 = .ok (.invokestatic 66, 3) := by decide +kernel
theorem dX1_addStep_66 : decode cX1_addStep 66 = .ok (.aload_n 0, 1) := by decide +kernel
theorem dX1_addStep_67 : decode cX1_addStep 67 = .ok (.getfield 31, 3) := by decide +kernel
theorem dX1_addStep_70 : decode cX1_addStep 70 = .ok (.iconst 1, 1) := by decide +kernel
theorem dX1_addStep_71 : decode cX1_addStep 71 = .ok (.aload_n 0, 1) := by decide +kernel
theorem dX1_addStep_72 : decode cX1_addStep 72 = .ok (.getfield 48, 3) := by decide +kernel
theorem dX1_addStep_75 : decode cX1_addStep 75 = .ok (.iload_n 1, 1) := by decide +kernel
theorem dX1_addStep_76 : decode cX1_addStep 76 = .ok (.invokestatic 66, 3) := by decide +kernel
theorem dX1_addStep_79 : decode cX1_addStep 79 = .ok (.aload_n 0, 1) := by decide +kernel
theorem dX1_addStep_80 : decode cX1_addStep 80 = .ok (.getfield 31, 3) := by decide +kernel
theorem dX1_addStep_83 : decode cX1_addStep 83 = .ok (.iconst 2, 1) := by decide +kernel
theorem dX1_addStep_84 : decode cX1_addStep 84 = .ok (.aload_n 0, 1) := by decide +kernel
theorem dX1_addStep_85 : decode cX1_addStep 85 = .ok (.getfield 48, 3) := by decide +kernel
theorem dX1_addStep_88 : decode cX1_addStep 88 = .ok (.iload_n 2, 1) := by decide +kernel
theorem dX1_addStep_89 : decode cX1_addStep 89 = .ok (.invokestatic 66, 3) := by decide +kernel
theorem dX1_addStep_92 : decode cX1_addStep 92 = .ok (.aload_n 0, 1) := by decide +kernel
theorem dX1_addStep_93 : decode cX1_addStep 93 = .ok (.getfield 31, 3) := by decide +kernel
theorem dX1_addStep_96 : decode cX1_addStep 96 = .ok (.iconst 3, 1) := by decide +kernel
theorem dX1_addStep_97 : decode cX1_addStep 97 = .ok (.aload_n 0, 1) := by decide +kernel
theorem dX1_addStep_98 : decode cX1_addStep 98 = .ok (.getfield 48, 3) := by decide +kernel
theorem dX1_addStep_101 : decode cX1_addStep 101 = .ok (.iload_n 3, 1) := by decide +kernel
theorem dX1_addStep_102 : decode cX1_addStep 102 = .ok (.invokestatic 66, 3) := by decide +kernel
theorem dX1_addStep_105 : decode cX1_addStep 105 = .ok (.aload_n 0, 1) := by decide +kernel
theorem dX1_addStep_106 : decode cX1_addStep 106 = .ok (.dup, 1) := by decide +kernel
theorem dX1_addStep_107 : decode cX1_addStep 107 = .ok (.getfield 48, 3) := by decide +kernel
theorem dX1_addStep_110 : decode cX1_addStep 110 = .ok (.iconst 1, 1) := by decide +kernel
theorem dX1_addStep_111 : decode cX1_addStep 111 = .ok (.iadd, 1) := by decide +kernel
theorem dX1_addStep_112 : decode cX1_addStep 112 = .ok (.putfield 48, 3) := by decide +kernel
theorem dX1_addStep_115 : decode cX1_addStep 115 = .ok (.aload_n 0, 1) := by decide +kernel
theorem dX1_addStep_116 : decode cX1_addStep 116 = .ok (.getfield 48, 3) := by decide +kernel
theorem dX1_addStep_119 : decode cX1_addStep 119 = .ok (.ireturn, 1) := by decide +kernel
abbrev wX1_addStep : List Cond := .code yX1_addStep cX1_addStep 4 (some .int) :: lw_gd
theorem hdX1_addStep : (yX1_addStep.cls ≠ "java/lang/invoke/MethodHandle" ∧ yX1_addStep.cls ≠ "java/lang/invoke/VarHandle" ∧ (parseMethodDescriptor yX1_addStep.desc).map (fun d => d.parameters.length) = some 3) := by decide +kernel
def fX1_addStep  (a1 : Int32) (a2 : Int32) (a3 : Int32) (M : xm_M) : Option (Int32 × xm_M) :=
  xm_bi (fX3_isWithin a1 (-300 : Int32) (300 : Int32) M) (fun x2 M1 => if x2 = 0 then some ((-2 : Int32), M1) else xm_bi (fX3_isWithin a2 (-300 : Int32) (300 : Int32) M1) (fun x4 M3 => if x4 = 0 then some ((-2 : Int32), M3) else xm_bi (fX3_isWithin a3 (-300000 : Int32) (300000 : Int32) M3) (fun x6 M5 => if x6 = 0 then some ((-2 : Int32), M5) else if (M5.1 1 6) < (120 : Int32) then xm_bv (fX3_keep_ 12 4 13 120 (0 : Int32) (M5.1 1 6) (-6 : Int32) M5) (fun M7 => xm_bv (fX3_keep_ 12 4 13 120 (1 : Int32) (M7.1 1 6) a1 M7) (fun M8 => xm_bv (fX3_keep_ 12 4 13 120 (2 : Int32) (M8.1 1 6) a2 M8) (fun M9 => xm_bv (fX3_keep_ 12 4 13 120 (3 : Int32) (M9.1 1 6) a3 M9) (fun M10 => xm_lt (xm_s M10 1 6 ((M10.1 1 6) + (1 : Int32))) (fun M11 => some (M11.1 1 6, M11)))))) else some ((-4 : Int32), M5))))
set_option maxRecDepth 20000 in
theorem kX1_addStep {l : Launch} {L : List xm_Sh} (hL : xm_pre L)   (a1 : Int32) (a2 : Int32) (a3 : Int32) (M : xm_M) : xm_C l yX1_addStep wX1_addStep ({ frames := 1, cells := 0, slots := 0, locals := 23 }) L (fun g => [.ref (g.1 1), .int a1, .int a2, .int a3]) M xm_Fi (fX1_addStep  a1 a2 a3 M) := by
  refine xm_C.of (by decide) rfl (fun g => Nat.le_of_ble_eq_true rfl) ?_
  intro p e s m args below meth c D g A hX
  refine xm_lv (lv' := [(0, .ref (g.1 1)), (1, .int a1), (2, .int a2), (3, .int a3)]) rfl ?_
  unfold fX1_addStep
  refine xm_iload_n hX 1 dX1_addStep_0 rfl rfl ?_
  refine xm_sipush hX (v := -300) rfl dX1_addStep_1 ?_
  refine xm_sipush hX (v := 300) rfl dX1_addStep_4 ?_
  refine xm_calli hX (xm_runSN hX (As := (fun g => [.int a1, .int (-300 : Int32), .int (300 : Int32)])) (kX3_isWithin hL a1 (-300 : Int32) (300 : Int32) M) (xm_gN gm_151) rfl ⟨rfl, rfl⟩ nw_9 (List.mem_cons_of_mem _ gm_1) (List.mem_cons_of_mem _ gm_150) hdX3_isWithin ⟨Nat.le_of_ble_eq_true rfl, Nat.le_of_ble_eq_true rfl⟩ rfl (Nat.le_of_ble_eq_true rfl) rfl ⟨Nat.le_of_ble_eq_true rfl, Nat.le_of_ble_eq_true rfl⟩ dX1_addStep_7) (fun x2 M1 => ?_)
  refine xm_if_eq hX (tgt := 37) dX1_addStep_10 rfl ?_ ?_
  · refine xm_bipush hX (v := -2) rfl dX1_addStep_37 ?_
    exact xm_iret hX dX1_addStep_39
  · refine xm_iload_n hX 2 dX1_addStep_13 rfl rfl ?_
    refine xm_sipush hX (v := -300) rfl dX1_addStep_14 ?_
    refine xm_sipush hX (v := 300) rfl dX1_addStep_17 ?_
    refine xm_calli hX (xm_runSN hX (As := (fun g => [.int a2, .int (-300 : Int32), .int (300 : Int32)])) (kX3_isWithin hL a2 (-300 : Int32) (300 : Int32) M1) (xm_gN gm_151) rfl ⟨rfl, rfl⟩ nw_9 (List.mem_cons_of_mem _ gm_1) (List.mem_cons_of_mem _ gm_150) hdX3_isWithin ⟨Nat.le_of_ble_eq_true rfl, Nat.le_of_ble_eq_true rfl⟩ rfl (Nat.le_of_ble_eq_true rfl) rfl ⟨Nat.le_of_ble_eq_true rfl, Nat.le_of_ble_eq_true rfl⟩ dX1_addStep_20) (fun x4 M3 => ?_)
    refine xm_if_eq hX (tgt := 37) dX1_addStep_23 rfl ?_ ?_
    · refine xm_bipush hX (v := -2) rfl dX1_addStep_37 ?_
      exact xm_iret hX dX1_addStep_39
    · refine xm_iload_n hX 3 dX1_addStep_26 rfl rfl ?_
      refine xm_ldc hX (v := -300000) (List.mem_cons_of_mem _ gm_325) dX1_addStep_27 ?_
      refine xm_ldc hX (v := 300000) (List.mem_cons_of_mem _ gm_326) dX1_addStep_29 ?_
      refine xm_calli hX (xm_runSN hX (As := (fun g => [.int a3, .int (-300000 : Int32), .int (300000 : Int32)])) (kX3_isWithin hL a3 (-300000 : Int32) (300000 : Int32) M3) (xm_gN gm_151) rfl ⟨rfl, rfl⟩ nw_9 (List.mem_cons_of_mem _ gm_1) (List.mem_cons_of_mem _ gm_150) hdX3_isWithin ⟨Nat.le_of_ble_eq_true rfl, Nat.le_of_ble_eq_true rfl⟩ rfl (Nat.le_of_ble_eq_true rfl) rfl ⟨Nat.le_of_ble_eq_true rfl, Nat.le_of_ble_eq_true rfl⟩ dX1_addStep_31) (fun x6 M5 => ?_)
      refine xm_if_ne hX (tgt := 40) dX1_addStep_34 rfl ?_ ?_
      · refine xm_aload_n hX 0 dX1_addStep_40 rfl rfl ?_
        refine xm_get hX (k := 1) (ci := 1) (j := 6) (C := RX1) (T := TX1) (N := 11) (v := .int (M5.1 1 6)) (hL _ _ cL_1) rfl rfl rfl (by decide) (fun z hz => List.mem_cons_of_mem _ (iw_X1 z hz)) (List.mem_cons_of_mem _ gm_43) dX1_addStep_41 ?_
        refine xm_bipush hX (v := 120) rfl dX1_addStep_44 ?_
        refine xm_icmp_lt hX (tgt := 52) dX1_addStep_46 rfl ?_ ?_
        · refine xm_aload_n hX 0 dX1_addStep_52 rfl rfl ?_
          refine xm_get hX (k := 1) (ci := 1) (j := 3) (C := RX1) (T := TX1) (N := 11) (v := .ref (g.1 12)) (hL _ _ cL_1) rfl rfl rfl (by decide) (fun z hz => List.mem_cons_of_mem _ (iw_X1 z hz)) (List.mem_cons_of_mem _ gm_36) dX1_addStep_53 ?_
          refine xm_iconst hX (v := 0) rfl dX1_addStep_56 ?_
          refine xm_aload_n hX 0 dX1_addStep_57 rfl rfl ?_
          refine xm_get hX (k := 1) (ci := 1) (j := 6) (C := RX1) (T := TX1) (N := 11) (v := .int (M5.1 1 6)) (hL _ _ cL_1) rfl rfl rfl (by decide) (fun z hz => List.mem_cons_of_mem _ (iw_X1 z hz)) (List.mem_cons_of_mem _ gm_43) dX1_addStep_58 ?_
          refine xm_bipush hX (v := -6) rfl dX1_addStep_61 ?_
          refine xm_callv hX (xm_runSN hX (As := (fun g => [.ref (g.1 12), .int (0 : Int32), .int (M5.1 1 6), .int (-6 : Int32)])) (kX3_keep_ hL 12 4 13 120 (hL _ _ cL_12) (cL_rowsL_12 hL) (0 : Int32) (M5.1 1 6) (-6 : Int32) M5) (xm_gN gm_172) rfl ⟨rfl, rfl⟩ nw_10 (List.mem_cons_of_mem _ gm_1) (List.mem_cons_of_mem _ gm_171) hdX3_keep_ ⟨Nat.le_of_ble_eq_true rfl, Nat.le_of_ble_eq_true rfl⟩ rfl (Nat.le_of_ble_eq_true rfl) rfl ⟨Nat.le_of_ble_eq_true rfl, Nat.le_of_ble_eq_true rfl⟩ dX1_addStep_63) (fun M7 => ?_)
          refine xm_aload_n hX 0 dX1_addStep_66 rfl rfl ?_
          refine xm_get hX (k := 1) (ci := 1) (j := 3) (C := RX1) (T := TX1) (N := 11) (v := .ref (g.1 12)) (hL _ _ cL_1) rfl rfl rfl (by decide) (fun z hz => List.mem_cons_of_mem _ (iw_X1 z hz)) (List.mem_cons_of_mem _ gm_36) dX1_addStep_67 ?_
          refine xm_iconst hX (v := 1) rfl dX1_addStep_70 ?_
          refine xm_aload_n hX 0 dX1_addStep_71 rfl rfl ?_
          refine xm_get hX (k := 1) (ci := 1) (j := 6) (C := RX1) (T := TX1) (N := 11) (v := .int (M7.1 1 6)) (hL _ _ cL_1) rfl rfl rfl (by decide) (fun z hz => List.mem_cons_of_mem _ (iw_X1 z hz)) (List.mem_cons_of_mem _ gm_43) dX1_addStep_72 ?_
          refine xm_iload_n hX 1 dX1_addStep_75 rfl rfl ?_
          refine xm_callv hX (xm_runSN hX (As := (fun g => [.ref (g.1 12), .int (1 : Int32), .int (M7.1 1 6), .int a1])) (kX3_keep_ hL 12 4 13 120 (hL _ _ cL_12) (cL_rowsL_12 hL) (1 : Int32) (M7.1 1 6) a1 M7) (xm_gN gm_172) rfl ⟨rfl, rfl⟩ nw_10 (List.mem_cons_of_mem _ gm_1) (List.mem_cons_of_mem _ gm_171) hdX3_keep_ ⟨Nat.le_of_ble_eq_true rfl, Nat.le_of_ble_eq_true rfl⟩ rfl (Nat.le_of_ble_eq_true rfl) rfl ⟨Nat.le_of_ble_eq_true rfl, Nat.le_of_ble_eq_true rfl⟩ dX1_addStep_76) (fun M8 => ?_)
          refine xm_aload_n hX 0 dX1_addStep_79 rfl rfl ?_
          refine xm_get hX (k := 1) (ci := 1) (j := 3) (C := RX1) (T := TX1) (N := 11) (v := .ref (g.1 12)) (hL _ _ cL_1) rfl rfl rfl (by decide) (fun z hz => List.mem_cons_of_mem _ (iw_X1 z hz)) (List.mem_cons_of_mem _ gm_36) dX1_addStep_80 ?_
          refine xm_iconst hX (v := 2) rfl dX1_addStep_83 ?_
          refine xm_aload_n hX 0 dX1_addStep_84 rfl rfl ?_
          refine xm_get hX (k := 1) (ci := 1) (j := 6) (C := RX1) (T := TX1) (N := 11) (v := .int (M8.1 1 6)) (hL _ _ cL_1) rfl rfl rfl (by decide) (fun z hz => List.mem_cons_of_mem _ (iw_X1 z hz)) (List.mem_cons_of_mem _ gm_43) dX1_addStep_85 ?_
          refine xm_iload_n hX 2 dX1_addStep_88 rfl rfl ?_
          refine xm_callv hX (xm_runSN hX (As := (fun g => [.ref (g.1 12), .int (2 : Int32), .int (M8.1 1 6), .int a2])) (kX3_keep_ hL 12 4 13 120 (hL _ _ cL_12) (cL_rowsL_12 hL) (2 : Int32) (M8.1 1 6) a2 M8) (xm_gN gm_172) rfl ⟨rfl, rfl⟩ nw_10 (List.mem_cons_of_mem _ gm_1) (List.mem_cons_of_mem _ gm_171) hdX3_keep_ ⟨Nat.le_of_ble_eq_true rfl, Nat.le_of_ble_eq_true rfl⟩ rfl (Nat.le_of_ble_eq_true rfl) rfl ⟨Nat.le_of_ble_eq_true rfl, Nat.le_of_ble_eq_true rfl⟩ dX1_addStep_89) (fun M9 => ?_)
          refine xm_aload_n hX 0 dX1_addStep_92 rfl rfl ?_
          refine xm_get hX (k := 1) (ci := 1) (j := 3) (C := RX1) (T := TX1) (N := 11) (v := .ref (g.1 12)) (hL _ _ cL_1) rfl rfl rfl (by decide) (fun z hz => List.mem_cons_of_mem _ (iw_X1 z hz)) (List.mem_cons_of_mem _ gm_36) dX1_addStep_93 ?_
          refine xm_iconst hX (v := 3) rfl dX1_addStep_96 ?_
          refine xm_aload_n hX 0 dX1_addStep_97 rfl rfl ?_
          refine xm_get hX (k := 1) (ci := 1) (j := 6) (C := RX1) (T := TX1) (N := 11) (v := .int (M9.1 1 6)) (hL _ _ cL_1) rfl rfl rfl (by decide) (fun z hz => List.mem_cons_of_mem _ (iw_X1 z hz)) (List.mem_cons_of_mem _ gm_43) dX1_addStep_98 ?_
          refine xm_iload_n hX 3 dX1_addStep_101 rfl rfl ?_
          refine xm_callv hX (xm_runSN hX (As := (fun g => [.ref (g.1 12), .int (3 : Int32), .int (M9.1 1 6), .int a3])) (kX3_keep_ hL 12 4 13 120 (hL _ _ cL_12) (cL_rowsL_12 hL) (3 : Int32) (M9.1 1 6) a3 M9) (xm_gN gm_172) rfl ⟨rfl, rfl⟩ nw_10 (List.mem_cons_of_mem _ gm_1) (List.mem_cons_of_mem _ gm_171) hdX3_keep_ ⟨Nat.le_of_ble_eq_true rfl, Nat.le_of_ble_eq_true rfl⟩ rfl (Nat.le_of_ble_eq_true rfl) rfl ⟨Nat.le_of_ble_eq_true rfl, Nat.le_of_ble_eq_true rfl⟩ dX1_addStep_102) (fun M10 => ?_)
          refine xm_aload_n hX 0 dX1_addStep_105 rfl rfl ?_
          refine xm_dup hX rfl dX1_addStep_106 ?_
          refine xm_get hX (k := 1) (ci := 1) (j := 6) (C := RX1) (T := TX1) (N := 11) (v := .int (M10.1 1 6)) (hL _ _ cL_1) rfl rfl rfl (by decide) (fun z hz => List.mem_cons_of_mem _ (iw_X1 z hz)) (List.mem_cons_of_mem _ gm_43) dX1_addStep_107 ?_
          refine xm_iconst hX (v := 1) rfl dX1_addStep_110 ?_
          refine xm_iadd hX dX1_addStep_111 ?_
          refine xm_puti hX (k := 1) (ci := 1) (j := 6) (C := RX1) (T := TX1) (N := 11) (t0 := tyX1) (hL _ _ cL_1) rfl rfl (by decide) (fun z hz => List.mem_cons_of_mem _ (iw_X1 z hz)) tyX1_ok nmX1 rfl rfl (List.mem_cons_of_mem _ gm_43) dX1_addStep_112 (fun M11 => ?_)
          refine xm_aload_n hX 0 dX1_addStep_115 rfl rfl ?_
          refine xm_get hX (k := 1) (ci := 1) (j := 6) (C := RX1) (T := TX1) (N := 11) (v := .int (M11.1 1 6)) (hL _ _ cL_1) rfl rfl rfl (by decide) (fun z hz => List.mem_cons_of_mem _ (iw_X1 z hz)) (List.mem_cons_of_mem _ gm_43) dX1_addStep_116 ?_
          exact xm_iret hX dX1_addStep_119
        · refine xm_bipush hX (v := -4) rfl dX1_addStep_49 ?_
          exact xm_iret hX dX1_addStep_51
      · refine xm_bipush hX (v := -2) rfl dX1_addStep_37 ?_
        exact xm_iret hX dX1_addStep_39
-- ===== OdometryDesk$State.addSight(I)I ['1']
theorem dX1_addSight_0 : decode cX1_addSight 0 = .ok (.iload_n 1, 1) := by decide +kernel
theorem dX1_addSight_1 : decode cX1_addSight 1 = .ok (.iconst 0, 1) := by decide +kernel
theorem dX1_addSight_2 : decode cX1_addSight 2 = .ok (.aload_n 0, 1) := by decide +kernel
theorem dX1_addSight_3 : decode cX1_addSight 3 = .ok (.getfield 45, 3) := by decide +kernel
theorem dX1_addSight_6 : decode cX1_addSight 6 = .ok (.iconst 1, 1) := by decide +kernel
theorem dX1_addSight_7 : decode cX1_addSight 7 = .ok (.isub, 1) := by decide +kernel
theorem dX1_addSight_8 : decode cX1_addSight 8 = .ok (.invokestatic 60, 3) := by decide +kernel
theorem dX1_addSight_11 : decode cX1_addSight 11 = .ok (.ifCond .ne 5, 3) := by decide +kernel
theorem dX1_addSight_14 : decode cX1_addSight 14 = .ok (.iconst (-1), 1) := by decide +kernel
theorem dX1_addSight_15 : decode cX1_addSight 15 = .ok (.ireturn, 1) := by decide +kernel
theorem dX1_addSight_16 : decode cX1_addSight 16 = .ok (.aload_n 0, 1) := by decide +kernel
theorem dX1_addSight_17 : decode cX1_addSight 17 = .ok (.getfield 48, 3) := by decide +kernel
theorem dX1_addSight_20 : decode cX1_addSight 20 = .ok (.bipush 120, 2) := by decide +kernel
theorem dX1_addSight_22 : decode cX1_addSight 22 = .ok (.if_icmp .lt 6, 3) := by decide +kernel
theorem dX1_addSight_25 : decode cX1_addSight 25 = .ok (.bipush (-4), 2) := by decide +kernel
theorem dX1_addSight_27 : decode cX1_addSight 27 = .ok (.ireturn, 1) := by decide +kernel
theorem dX1_addSight_28 : decode cX1_addSight 28 = .ok (.aload_n 0, 1) := by decide +kernel
theorem dX1_addSight_29 : decode cX1_addSight 29 = .ok (.getfield 31, 3) := by decide +kernel
theorem dX1_addSight_32 : decode cX1_addSight 32 = .ok (.iconst 0, 1) := by decide +kernel
theorem dX1_addSight_33 : decode cX1_addSight 33 = .ok (.aload_n 0, 1) := by decide +kernel
theorem dX1_addSight_34 : decode cX1_addSight 34 = .ok (.getfield 48, 3) := by decide +kernel
theorem dX1_addSight_37 : decode cX1_addSight 37 = .ok (.iload_n 1, 1) := by decide +kernel
theorem dX1_addSight_38 : decode cX1_addSight 38 = .ok (.invokestatic 66, 3) := by decide +kernel
theorem dX1_addSight_41 : decode cX1_addSight 41 = .ok (.aload_n 0, 1) := by decide +kernel
theorem dX1_addSight_42 : decode cX1_addSight 42 = .ok (.dup, 1) := by decide +kernel
theorem dX1_addSight_43 : decode cX1_addSight 43 = .ok (.getfield 48, 3) := by decide +kernel
theorem dX1_addSight_46 : decode cX1_addSight 46 = .ok (.iconst 1, 1) := by decide +kernel
theorem dX1_addSight_47 : decode cX1_addSight 47 = .ok (.iadd, 1) := by decide +kernel
theorem dX1_addSight_48 : decode cX1_addSight 48 = .ok (.putfield 48, 3) := by decide +kernel
theorem dX1_addSight_51 : decode cX1_addSight 51 = .ok (.aload_n 0, 1) := by decide +kernel
theorem dX1_addSight_52 : decode cX1_addSight 52 = .ok (.getfield 48, 3) := by decide +kernel
theorem dX1_addSight_55 : decode cX1_addSight 55 = .ok (.ireturn, 1) := by decide +kernel
abbrev wX1_addSight : List Cond := .code yX1_addSight cX1_addSight 2 (some .int) :: lw_gd
theorem hdX1_addSight : (yX1_addSight.cls ≠ "java/lang/invoke/MethodHandle" ∧ yX1_addSight.cls ≠ "java/lang/invoke/VarHandle" ∧ (parseMethodDescriptor yX1_addSight.desc).map (fun d => d.parameters.length) = some 1) := by decide +kernel
def fX1_addSight  (a1 : Int32) (M : xm_M) : Option (Int32 × xm_M) :=
  xm_bi (fX3_isWithin a1 (0 : Int32) ((M.1 1 5) - (1 : Int32)) M) (fun x2 M1 => if x2 = 0 then some ((-1 : Int32), M1) else if (M1.1 1 6) < (120 : Int32) then xm_bv (fX3_keep_ 12 4 13 120 (0 : Int32) (M1.1 1 6) a1 M1) (fun M3 => xm_lt (xm_s M3 1 6 ((M3.1 1 6) + (1 : Int32))) (fun M4 => some (M4.1 1 6, M4))) else some ((-4 : Int32), M1))
set_option maxRecDepth 20000 in
theorem kX1_addSight {l : Launch} {L : List xm_Sh} (hL : xm_pre L)   (a1 : Int32) (M : xm_M) : xm_C l yX1_addSight wX1_addSight ({ frames := 1, cells := 0, slots := 0, locals := 23 }) L (fun g => [.ref (g.1 1), .int a1]) M xm_Fi (fX1_addSight  a1 M) := by
  refine xm_C.of (by decide) rfl (fun g => Nat.le_of_ble_eq_true rfl) ?_
  intro p e s m args below meth c D g A hX
  refine xm_lv (lv' := [(0, .ref (g.1 1)), (1, .int a1)]) rfl ?_
  unfold fX1_addSight
  refine xm_iload_n hX 1 dX1_addSight_0 rfl rfl ?_
  refine xm_iconst hX (v := 0) rfl dX1_addSight_1 ?_
  refine xm_aload_n hX 0 dX1_addSight_2 rfl rfl ?_
  refine xm_get hX (k := 1) (ci := 1) (j := 5) (C := RX1) (T := TX1) (N := 11) (v := .int (M.1 1 5)) (hL _ _ cL_1) rfl rfl rfl (by decide) (fun z hz => List.mem_cons_of_mem _ (iw_X1 z hz)) (List.mem_cons_of_mem _ gm_41) dX1_addSight_3 ?_
  refine xm_iconst hX (v := 1) rfl dX1_addSight_6 ?_
  refine xm_isub hX dX1_addSight_7 ?_
  refine xm_calli hX (xm_runSN hX (As := (fun g => [.int a1, .int (0 : Int32), .int ((M.1 1 5) - (1 : Int32))])) (kX3_isWithin hL a1 (0 : Int32) ((M.1 1 5) - (1 : Int32)) M) (xm_gN gm_151) rfl ⟨rfl, rfl⟩ nw_9 (List.mem_cons_of_mem _ gm_1) (List.mem_cons_of_mem _ gm_150) hdX3_isWithin ⟨Nat.le_of_ble_eq_true rfl, Nat.le_of_ble_eq_true rfl⟩ rfl (Nat.le_of_ble_eq_true rfl) rfl ⟨Nat.le_of_ble_eq_true rfl, Nat.le_of_ble_eq_true rfl⟩ dX1_addSight_8) (fun x2 M1 => ?_)
  refine xm_if_ne hX (tgt := 16) dX1_addSight_11 rfl ?_ ?_
  · refine xm_aload_n hX 0 dX1_addSight_16 rfl rfl ?_
    refine xm_get hX (k := 1) (ci := 1) (j := 6) (C := RX1) (T := TX1) (N := 11) (v := .int (M1.1 1 6)) (hL _ _ cL_1) rfl rfl rfl (by decide) (fun z hz => List.mem_cons_of_mem _ (iw_X1 z hz)) (List.mem_cons_of_mem _ gm_43) dX1_addSight_17 ?_
    refine xm_bipush hX (v := 120) rfl dX1_addSight_20 ?_
    refine xm_icmp_lt hX (tgt := 28) dX1_addSight_22 rfl ?_ ?_
    · refine xm_aload_n hX 0 dX1_addSight_28 rfl rfl ?_
      refine xm_get hX (k := 1) (ci := 1) (j := 3) (C := RX1) (T := TX1) (N := 11) (v := .ref (g.1 12)) (hL _ _ cL_1) rfl rfl rfl (by decide) (fun z hz => List.mem_cons_of_mem _ (iw_X1 z hz)) (List.mem_cons_of_mem _ gm_36) dX1_addSight_29 ?_
      refine xm_iconst hX (v := 0) rfl dX1_addSight_32 ?_
      refine xm_aload_n hX 0 dX1_addSight_33 rfl rfl ?_
      refine xm_get hX (k := 1) (ci := 1) (j := 6) (C := RX1) (T := TX1) (N := 11) (v := .int (M1.1 1 6)) (hL _ _ cL_1) rfl rfl rfl (by decide) (fun z hz => List.mem_cons_of_mem _ (iw_X1 z hz)) (List.mem_cons_of_mem _ gm_43) dX1_addSight_34 ?_
      refine xm_iload_n hX 1 dX1_addSight_37 rfl rfl ?_
      refine xm_callv hX (xm_runSN hX (As := (fun g => [.ref (g.1 12), .int (0 : Int32), .int (M1.1 1 6), .int a1])) (kX3_keep_ hL 12 4 13 120 (hL _ _ cL_12) (cL_rowsL_12 hL) (0 : Int32) (M1.1 1 6) a1 M1) (xm_gN gm_172) rfl ⟨rfl, rfl⟩ nw_10 (List.mem_cons_of_mem _ gm_1) (List.mem_cons_of_mem _ gm_171) hdX3_keep_ ⟨Nat.le_of_ble_eq_true rfl, Nat.le_of_ble_eq_true rfl⟩ rfl (Nat.le_of_ble_eq_true rfl) rfl ⟨Nat.le_of_ble_eq_true rfl, Nat.le_of_ble_eq_true rfl⟩ dX1_addSight_38) (fun M3 => ?_)
      refine xm_aload_n hX 0 dX1_addSight_41 rfl rfl ?_
      refine xm_dup hX rfl dX1_addSight_42 ?_
      refine xm_get hX (k := 1) (ci := 1) (j := 6) (C := RX1) (T := TX1) (N := 11) (v := .int (M3.1 1 6)) (hL _ _ cL_1) rfl rfl rfl (by decide) (fun z hz => List.mem_cons_of_mem _ (iw_X1 z hz)) (List.mem_cons_of_mem _ gm_43) dX1_addSight_43 ?_
      refine xm_iconst hX (v := 1) rfl dX1_addSight_46 ?_
      refine xm_iadd hX dX1_addSight_47 ?_
      refine xm_puti hX (k := 1) (ci := 1) (j := 6) (C := RX1) (T := TX1) (N := 11) (t0 := tyX1) (hL _ _ cL_1) rfl rfl (by decide) (fun z hz => List.mem_cons_of_mem _ (iw_X1 z hz)) tyX1_ok nmX1 rfl rfl (List.mem_cons_of_mem _ gm_43) dX1_addSight_48 (fun M4 => ?_)
      refine xm_aload_n hX 0 dX1_addSight_51 rfl rfl ?_
      refine xm_get hX (k := 1) (ci := 1) (j := 6) (C := RX1) (T := TX1) (N := 11) (v := .int (M4.1 1 6)) (hL _ _ cL_1) rfl rfl rfl (by decide) (fun z hz => List.mem_cons_of_mem _ (iw_X1 z hz)) (List.mem_cons_of_mem _ gm_43) dX1_addSight_52 ?_
      exact xm_iret hX dX1_addSight_55
    · refine xm_bipush hX (v := -4) rfl dX1_addSight_25 ?_
      exact xm_iret hX dX1_addSight_27
  · refine xm_iconst hX (v := -1) rfl dX1_addSight_14 ?_
    exact xm_iret hX dX1_addSight_15
