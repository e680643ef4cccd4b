-- ===== OdometryDesk$State.takeOver(LOdometryDesk$State;)V ['17', '1']
def fX1_takeOver_17_1   (M : xm_M) : Option xm_M :=
  xm_bv (fX3_copy 2 9 18 9 M) (fun M1 => xm_bv (fX3_copy_ 3 5 4 8 19 5 20 8 M1) (fun M2 => xm_bv (fX3_copy_ 9 2 10 6 25 2 26 6 M2) (fun M3 => xm_bv (fX3_copy_ 12 4 13 120 28 4 29 120 M3) (fun M4 => xm_lt (xm_s M4 17 4 (M4.1 1 4)) (fun M5 => xm_lt (xm_s M5 17 5 (M5.1 1 5)) (fun M6 => xm_lt (xm_s M6 17 6 (M6.1 1 6)) (fun M7 => xm_lt (xm_s M7 17 7 (M7.1 1 7)) (fun M8 => xm_lt (xm_s M8 17 8 (M8.1 1 8)) (fun M9 => xm_lt (xm_s M9 17 9 (M9.1 1 9)) (fun M10 => some M10))))))))))
set_option maxRecDepth 20000 in
theorem kX1_takeOver_17_1 {l : Launch} {L : List xm_Sh} (hL : xm_pre L)    (M : xm_M) : xm_C l yX1_takeOver wX1_takeOver ({ frames := 3, cells := 0, slots := 0, locals := 61 }) L (fun g => [.ref (g.1 17), .ref (g.1 1)]) M xm_Fv (fX1_takeOver_17_1   M) := by
  refine xm_C.of (by decide) rfl (fun g => Nat.le_of_ble_eq_true rfl) ?_
  intro p e s m args below meth c D g A hX
  refine xm_lv (lv' := [(0, .ref (g.1 17)), (1, .ref (g.1 1))]) rfl ?_
  unfold fX1_takeOver_17_1
  refine xm_aload_n hX 1 dX1_takeOver_0 rfl rfl ?_
  refine xm_get hX (k := 1) (ci := 1) (j := 0) (C := RX1) (T := TX1) (N := 11) (v := .ref (g.1 2)) (hL _ _ cL_1) rfl rfl rfl (by decide) (fun z hz => List.mem_cons_of_mem _ (iw_X1 z hz)) (List.mem_cons_of_mem _ gm_28) dX1_takeOver_1 ?_
  refine xm_aload_n hX 0 dX1_takeOver_4 rfl rfl ?_
  refine xm_get hX (k := 17) (ci := 1) (j := 0) (C := RX1) (T := TX1) (N := 11) (v := .ref (g.1 18)) (hL _ _ cL_17) rfl rfl rfl (by decide) (fun z hz => List.mem_cons_of_mem _ (iw_X1 z hz)) (List.mem_cons_of_mem _ gm_28) dX1_takeOver_5 ?_
  refine xm_callv hX (xm_runSN hX (As := (fun g => [.ref (g.1 2), .ref (g.1 18)])) (kX3_copy hL 2 9 18 9 (hL _ _ cL_2) (hL _ _ cL_18) M) (xm_gN gm_384) rfl ⟨rfl, rfl⟩ nw_11 (List.mem_cons_of_mem _ gm_1) (List.mem_cons_of_mem _ gm_383) hdX3_copy ⟨Nat.le_of_ble_eq_true rfl, Nat.le_of_ble_eq_true rfl⟩ rfl (Nat.le_of_ble_eq_true rfl) rfl ⟨Nat.le_of_ble_eq_true rfl, Nat.le_of_ble_eq_true rfl⟩ dX1_takeOver_8) (fun M1 => ?_)
  refine xm_aload_n hX 1 dX1_takeOver_11 rfl rfl ?_
  refine xm_get hX (k := 1) (ci := 1) (j := 1) (C := RX1) (T := TX1) (N := 11) (v := .ref (g.1 3)) (hL _ _ cL_1) rfl rfl rfl (by decide) (fun z hz => List.mem_cons_of_mem _ (iw_X1 z hz)) (List.mem_cons_of_mem _ gm_30) dX1_takeOver_12 ?_
  refine xm_aload_n hX 0 dX1_takeOver_15 rfl rfl ?_
  refine xm_get hX (k := 17) (ci := 1) (j := 1) (C := RX1) (T := TX1) (N := 11) (v := .ref (g.1 19)) (hL _ _ cL_17) rfl rfl rfl (by decide) (fun z hz => List.mem_cons_of_mem _ (iw_X1 z hz)) (List.mem_cons_of_mem _ gm_30) dX1_takeOver_16 ?_
  refine xm_callv hX (xm_runSN hX (As := (fun g => [.ref (g.1 3), .ref (g.1 19)])) (kX3_copy_ hL 3 5 4 8 19 5 20 8 (hL _ _ cL_3) (cL_rowsL_3 hL) (hL _ _ cL_19) (cL_rowsL_19 hL) M1) (xm_gN gm_420) rfl ⟨rfl, rfl⟩ nw_12 (List.mem_cons_of_mem _ gm_1) (List.mem_cons_of_mem _ gm_419) hdX3_copy_ ⟨Nat.le_of_ble_eq_true rfl, Nat.le_of_ble_eq_true rfl⟩ rfl (Nat.le_of_ble_eq_true rfl) rfl ⟨Nat.le_of_ble_eq_true rfl, Nat.le_of_ble_eq_true rfl⟩ dX1_takeOver_19) (fun M2 => ?_)
  refine xm_aload_n hX 1 dX1_takeOver_22 rfl rfl ?_
  refine xm_get hX (k := 1) (ci := 1) (j := 2) (C := RX1) (T := TX1) (N := 11) (v := .ref (g.1 9)) (hL _ _ cL_1) rfl rfl rfl (by decide) (fun z hz => List.mem_cons_of_mem _ (iw_X1 z hz)) (List.mem_cons_of_mem _ gm_33) dX1_takeOver_23 ?_
  refine xm_aload_n hX 0 dX1_takeOver_26 rfl rfl ?_
  refine xm_get hX (k := 17) (ci := 1) (j := 2) (C := RX1) (T := TX1) (N := 11) (v := .ref (g.1 25)) (hL _ _ cL_17) rfl rfl rfl (by decide) (fun z hz => List.mem_cons_of_mem _ (iw_X1 z hz)) (List.mem_cons_of_mem _ gm_33) dX1_takeOver_27 ?_
  refine xm_callv hX (xm_runSN hX (As := (fun g => [.ref (g.1 9), .ref (g.1 25)])) (kX3_copy_ hL 9 2 10 6 25 2 26 6 (hL _ _ cL_9) (cL_rowsL_9 hL) (hL _ _ cL_25) (cL_rowsL_25 hL) M2) (xm_gN gm_420) rfl ⟨rfl, rfl⟩ nw_12 (List.mem_cons_of_mem _ gm_1) (List.mem_cons_of_mem _ gm_419) hdX3_copy_ ⟨Nat.le_of_ble_eq_true rfl, Nat.le_of_ble_eq_true rfl⟩ rfl (Nat.le_of_ble_eq_true rfl) rfl ⟨Nat.le_of_ble_eq_true rfl, Nat.le_of_ble_eq_true rfl⟩ dX1_takeOver_30) (fun M3 => ?_)
  refine xm_aload_n hX 1 dX1_takeOver_33 rfl rfl ?_
  refine xm_get hX (k := 1) (ci := 1) (j := 3) (C := RX1) (T := TX1) (N := 11) (v := .ref (g.1 12)) (hL _ _ cL_1) rfl rfl rfl (by decide) (fun z hz => List.mem_cons_of_mem _ (iw_X1 z hz)) (List.mem_cons_of_mem _ gm_36) dX1_takeOver_34 ?_
  refine xm_aload_n hX 0 dX1_takeOver_37 rfl rfl ?_
  refine xm_get hX (k := 17) (ci := 1) (j := 3) (C := RX1) (T := TX1) (N := 11) (v := .ref (g.1 28)) (hL _ _ cL_17) rfl rfl rfl (by decide) (fun z hz => List.mem_cons_of_mem _ (iw_X1 z hz)) (List.mem_cons_of_mem _ gm_36) dX1_takeOver_38 ?_
  refine xm_callv hX (xm_runSN hX (As := (fun g => [.ref (g.1 12), .ref (g.1 28)])) (kX3_copy_ hL 12 4 13 120 28 4 29 120 (hL _ _ cL_12) (cL_rowsL_12 hL) (hL _ _ cL_28) (cL_rowsL_28 hL) M3) (xm_gN gm_420) rfl ⟨rfl, rfl⟩ nw_12 (List.mem_cons_of_mem _ gm_1) (List.mem_cons_of_mem _ gm_419) hdX3_copy_ ⟨Nat.le_of_ble_eq_true rfl, Nat.le_of_ble_eq_true rfl⟩ rfl (Nat.le_of_ble_eq_true rfl) rfl ⟨Nat.le_of_ble_eq_true rfl, Nat.le_of_ble_eq_true rfl⟩ dX1_takeOver_41) (fun M4 => ?_)
  refine xm_aload_n hX 0 dX1_takeOver_44 rfl rfl ?_
  refine xm_aload_n hX 1 dX1_takeOver_45 rfl rfl ?_
  refine xm_get hX (k := 1) (ci := 1) (j := 4) (C := RX1) (T := TX1) (N := 11) (v := .int (M4.1 1 4)) (hL _ _ cL_1) rfl rfl rfl (by decide) (fun z hz => List.mem_cons_of_mem _ (iw_X1 z hz)) (List.mem_cons_of_mem _ gm_38) dX1_takeOver_46 ?_
  refine xm_puti hX (k := 17) (ci := 1) (j := 4) (C := RX1) (T := TX1) (N := 11) (t0 := tyX1) (hL _ _ cL_17) rfl rfl (by decide) (fun z hz => List.mem_cons_of_mem _ (iw_X1 z hz)) tyX1_ok nmX1 rfl rfl (List.mem_cons_of_mem _ gm_38) dX1_takeOver_49 (fun M5 => ?_)
  refine xm_aload_n hX 0 dX1_takeOver_52 rfl rfl ?_
  refine xm_aload_n hX 1 dX1_takeOver_53 rfl rfl ?_
  refine xm_get hX (k := 1) (ci := 1) (j := 5) (C := RX1) (T := TX1) (N := 11) (v := .int (M5.1 1 5)) (hL _ _ cL_1) rfl rfl rfl (by decide) (fun z hz => List.mem_cons_of_mem _ (iw_X1 z hz)) (List.mem_cons_of_mem _ gm_41) dX1_takeOver_54 ?_
  refine xm_puti hX (k := 17) (ci := 1) (j := 5) (C := RX1) (T := TX1) (N := 11) (t0 := tyX1) (hL _ _ cL_17) rfl rfl (by decide) (fun z hz => List.mem_cons_of_mem _ (iw_X1 z hz)) tyX1_ok nmX1 rfl rfl (List.mem_cons_of_mem _ gm_41) dX1_takeOver_57 (fun M6 => ?_)
  refine xm_aload_n hX 0 dX1_takeOver_60 rfl rfl ?_
  refine xm_aload_n hX 1 dX1_takeOver_61 rfl rfl ?_
  refine xm_get hX (k := 1) (ci := 1) (j := 6) (C := RX1) (T := TX1) (N := 11) (v := .int (M6.1 1 6)) (hL _ _ cL_1) rfl rfl rfl (by decide) (fun z hz => List.mem_cons_of_mem _ (iw_X1 z hz)) (List.mem_cons_of_mem _ gm_43) dX1_takeOver_62 ?_
  refine xm_puti hX (k := 17) (ci := 1) (j := 6) (C := RX1) (T := TX1) (N := 11) (t0 := tyX1) (hL _ _ cL_17) rfl rfl (by decide) (fun z hz => List.mem_cons_of_mem _ (iw_X1 z hz)) tyX1_ok nmX1 rfl rfl (List.mem_cons_of_mem _ gm_43) dX1_takeOver_65 (fun M7 => ?_)
  refine xm_aload_n hX 0 dX1_takeOver_68 rfl rfl ?_
  refine xm_aload_n hX 1 dX1_takeOver_69 rfl rfl ?_
  refine xm_get hX (k := 1) (ci := 1) (j := 7) (C := RX1) (T := TX1) (N := 11) (v := .int (M7.1 1 7)) (hL _ _ cL_1) rfl rfl rfl (by decide) (fun z hz => List.mem_cons_of_mem _ (iw_X1 z hz)) (List.mem_cons_of_mem _ gm_47) dX1_takeOver_70 ?_
  refine xm_puti hX (k := 17) (ci := 1) (j := 7) (C := RX1) (T := TX1) (N := 11) (t0 := tyX1) (hL _ _ cL_17) rfl rfl (by decide) (fun z hz => List.mem_cons_of_mem _ (iw_X1 z hz)) tyX1_ok nmX1 rfl rfl (List.mem_cons_of_mem _ gm_47) dX1_takeOver_73 (fun M8 => ?_)
  refine xm_aload_n hX 0 dX1_takeOver_76 rfl rfl ?_
  refine xm_aload_n hX 1 dX1_takeOver_77 rfl rfl ?_
  refine xm_get hX (k := 1) (ci := 1) (j := 8) (C := RX1) (T := TX1) (N := 11) (v := .int (M8.1 1 8)) (hL _ _ cL_1) rfl rfl rfl (by decide) (fun z hz => List.mem_cons_of_mem _ (iw_X1 z hz)) (List.mem_cons_of_mem _ gm_50) dX1_takeOver_78 ?_
  refine xm_puti hX (k := 17) (ci := 1) (j := 8) (C := RX1) (T := TX1) (N := 11) (t0 := tyX1) (hL _ _ cL_17) rfl rfl (by decide) (fun z hz => List.mem_cons_of_mem _ (iw_X1 z hz)) tyX1_ok nmX1 rfl rfl (List.mem_cons_of_mem _ gm_50) dX1_takeOver_81 (fun M9 => ?_)
  refine xm_aload_n hX 0 dX1_takeOver_84 rfl rfl ?_
  refine xm_aload_n hX 1 dX1_takeOver_85 rfl rfl ?_
  refine xm_get hX (k := 1) (ci := 1) (j := 9) (C := RX1) (T := TX1) (N := 11) (v := .int (M9.1 1 9)) (hL _ _ cL_1) rfl rfl rfl (by decide) (fun z hz => List.mem_cons_of_mem _ (iw_X1 z hz)) (List.mem_cons_of_mem _ gm_53) dX1_takeOver_86 ?_
  refine xm_puti hX (k := 17) (ci := 1) (j := 9) (C := RX1) (T := TX1) (N := 11) (t0 := tyX1) (hL _ _ cL_17) rfl rfl (by decide) (fun z hz => List.mem_cons_of_mem _ (iw_X1 z hz)) tyX1_ok nmX1 rfl rfl (List.mem_cons_of_mem _ gm_53) dX1_takeOver_89 (fun M10 => ?_)
  exact xm_vret hX dX1_takeOver_92
-- ===== OdometryDesk$State.takeOver(LOdometryDesk$State;)V ['33', '1']
def fX1_takeOver_33_1   (M : xm_M) : Option xm_M :=
  xm_bv (fX3_copy 2 9 34 9 M) (fun M1 => xm_bv (fX3_copy_ 3 5 4 8 35 5 36 8 M1) (fun M2 => xm_bv (fX3_copy_ 9 2 10 6 41 2 42 6 M2) (fun M3 => xm_bv (fX3_copy_ 12 4 13 120 44 4 45 120 M3) (fun M4 => xm_lt (xm_s M4 33 4 (M4.1 1 4)) (fun M5 => xm_lt (xm_s M5 33 5 (M5.1 1 5)) (fun M6 => xm_lt (xm_s M6 33 6 (M6.1 1 6)) (fun M7 => xm_lt (xm_s M7 33 7 (M7.1 1 7)) (fun M8 => xm_lt (xm_s M8 33 8 (M8.1 1 8)) (fun M9 => xm_lt (xm_s M9 33 9 (M9.1 1 9)) (fun M10 => some M10))))))))))
set_option maxRecDepth 20000 in
theorem kX1_takeOver_33_1 {l : Launch} {L : List xm_Sh} (hL : xm_pre L)    (M : xm_M) : xm_C l yX1_takeOver wX1_takeOver ({ frames := 3, cells := 0, slots := 0, locals := 61 }) L (fun g => [.ref (g.1 33), .ref (g.1 1)]) M xm_Fv (fX1_takeOver_33_1   M) := by
  refine xm_C.of (by decide) rfl (fun g => Nat.le_of_ble_eq_true rfl) ?_
  intro p e s m args below meth c D g A hX
  refine xm_lv (lv' := [(0, .ref (g.1 33)), (1, .ref (g.1 1))]) rfl ?_
  unfold fX1_takeOver_33_1
  refine xm_aload_n hX 1 dX1_takeOver_0 rfl rfl ?_
  refine xm_get hX (k := 1) (ci := 1) (j := 0) (C := RX1) (T := TX1) (N := 11) (v := .ref (g.1 2)) (hL _ _ cL_1) rfl rfl rfl (by decide) (fun z hz => List.mem_cons_of_mem _ (iw_X1 z hz)) (List.mem_cons_of_mem _ gm_28) dX1_takeOver_1 ?_
  refine xm_aload_n hX 0 dX1_takeOver_4 rfl rfl ?_
  refine xm_get hX (k := 33) (ci := 1) (j := 0) (C := RX1) (T := TX1) (N := 11) (v := .ref (g.1 34)) (hL _ _ cL_33) rfl rfl rfl (by decide) (fun z hz => List.mem_cons_of_mem _ (iw_X1 z hz)) (List.mem_cons_of_mem _ gm_28) dX1_takeOver_5 ?_
  refine xm_callv hX (xm_runSN hX (As := (fun g => [.ref (g.1 2), .ref (g.1 34)])) (kX3_copy hL 2 9 34 9 (hL _ _ cL_2) (hL _ _ cL_34) M) (xm_gN gm_384) rfl ⟨rfl, rfl⟩ nw_11 (List.mem_cons_of_mem _ gm_1) (List.mem_cons_of_mem _ gm_383) hdX3_copy ⟨Nat.le_of_ble_eq_true rfl, Nat.le_of_ble_eq_true rfl⟩ rfl (Nat.le_of_ble_eq_true rfl) rfl ⟨Nat.le_of_ble_eq_true rfl, Nat.le_of_ble_eq_true rfl⟩ dX1_takeOver_8) (fun M1 => ?_)
  refine xm_aload_n hX 1 dX1_takeOver_11 rfl rfl ?_
  refine xm_get hX (k := 1) (ci := 1) (j := 1) (C := RX1) (T := TX1) (N := 11) (v := .ref (g.1 3)) (hL _ _ cL_1) rfl rfl rfl (by decide) (fun z hz => List.mem_cons_of_mem _ (iw_X1 z hz)) (List.mem_cons_of_mem _ gm_30) dX1_takeOver_12 ?_
  refine xm_aload_n hX 0 dX1_takeOver_15 rfl rfl ?_
  refine xm_get hX (k := 33) (ci := 1) (j := 1) (C := RX1) (T := TX1) (N := 11) (v := .ref (g.1 35)) (hL _ _ cL_33) rfl rfl rfl (by decide) (fun z hz => List.mem_cons_of_mem _ (iw_X1 z hz)) (List.mem_cons_of_mem _ gm_30) dX1_takeOver_16 ?_
  refine xm_callv hX (xm_runSN hX (As := (fun g => [.ref (g.1 3), .ref (g.1 35)])) (kX3_copy_ hL 3 5 4 8 35 5 36 8 (hL _ _ cL_3) (cL_rowsL_3 hL) (hL _ _ cL_35) (cL_rowsL_35 hL) M1) (xm_gN gm_420) rfl ⟨rfl, rfl⟩ nw_12 (List.mem_cons_of_mem _ gm_1) (List.mem_cons_of_mem _ gm_419) hdX3_copy_ ⟨Nat.le_of_ble_eq_true rfl, Nat.le_of_ble_eq_true rfl⟩ rfl (Nat.le_of_ble_eq_true rfl) rfl ⟨Nat.le_of_ble_eq_true rfl, Nat.le_of_ble_eq_true rfl⟩ dX1_takeOver_19) (fun M2 => ?_)
  refine xm_aload_n hX 1 dX1_takeOver_22 rfl rfl ?_
  refine xm_get hX (k := 1) (ci := 1) (j := 2) (C := RX1) (T := TX1) (N := 11) (v := .ref (g.1 9)) (hL _ _ cL_1) rfl rfl rfl (by decide) (fun z hz => List.mem_cons_of_mem _ (iw_X1 z hz)) (List.mem_cons_of_mem _ gm_33) dX1_takeOver_23 ?_
  refine xm_aload_n hX 0 dX1_takeOver_26 rfl rfl ?_
  refine xm_get hX (k := 33) (ci := 1) (j := 2) (C := RX1) (T := TX1) (N := 11) (v := .ref (g.1 41)) (hL _ _ cL_33) rfl rfl rfl (by decide) (fun z hz => List.mem_cons_of_mem _ (iw_X1 z hz)) (List.mem_cons_of_mem _ gm_33) dX1_takeOver_27 ?_
  refine xm_callv hX (xm_runSN hX (As := (fun g => [.ref (g.1 9), .ref (g.1 41)])) (kX3_copy_ hL 9 2 10 6 41 2 42 6 (hL _ _ cL_9) (cL_rowsL_9 hL) (hL _ _ cL_41) (cL_rowsL_41 hL) M2) (xm_gN gm_420) rfl ⟨rfl, rfl⟩ nw_12 (List.mem_cons_of_mem _ gm_1) (List.mem_cons_of_mem _ gm_419) hdX3_copy_ ⟨Nat.le_of_ble_eq_true rfl, Nat.le_of_ble_eq_true rfl⟩ rfl (Nat.le_of_ble_eq_true rfl) rfl ⟨Nat.le_of_ble_eq_true rfl, Nat.le_of_ble_eq_true rfl⟩ dX1_takeOver_30) (fun M3 => ?_)
  refine xm_aload_n hX 1 dX1_takeOver_33 rfl rfl ?_
  refine xm_get hX (k := 1) (ci := 1) (j := 3) (C := RX1) (T := TX1) (N := 11) (v := .ref (g.1 12)) (hL _ _ cL_1) rfl rfl rfl (by decide) (fun z hz => List.mem_cons_of_mem _ (iw_X1 z hz)) (List.mem_cons_of_mem _ gm_36) dX1_takeOver_34 ?_
  refine xm_aload_n hX 0 dX1_takeOver_37 rfl rfl ?_
  refine xm_get hX (k := 33) (ci := 1) (j := 3) (C := RX1) (T := TX1) (N := 11) (v := .ref (g.1 44)) (hL _ _ cL_33) rfl rfl rfl (by decide) (fun z hz => List.mem_cons_of_mem _ (iw_X1 z hz)) (List.mem_cons_of_mem _ gm_36) dX1_takeOver_38 ?_
  refine xm_callv hX (xm_runSN hX (As := (fun g => [.ref (g.1 12), .ref (g.1 44)])) (kX3_copy_ hL 12 4 13 120 44 4 45 120 (hL _ _ cL_12) (cL_rowsL_12 hL) (hL _ _ cL_44) (cL_rowsL_44 hL) M3) (xm_gN gm_420) rfl ⟨rfl, rfl⟩ nw_12 (List.mem_cons_of_mem _ gm_1) (List.mem_cons_of_mem _ gm_419) hdX3_copy_ ⟨Nat.le_of_ble_eq_true rfl, Nat.le_of_ble_eq_true rfl⟩ rfl (Nat.le_of_ble_eq_true rfl) rfl ⟨Nat.le_of_ble_eq_true rfl, Nat.le_of_ble_eq_true rfl⟩ dX1_takeOver_41) (fun M4 => ?_)
  refine xm_aload_n hX 0 dX1_takeOver_44 rfl rfl ?_
  refine xm_aload_n hX 1 dX1_takeOver_45 rfl rfl ?_
  refine xm_get hX (k := 1) (ci := 1) (j := 4) (C := RX1) (T := TX1) (N := 11) (v := .int (M4.1 1 4)) (hL _ _ cL_1) rfl rfl rfl (by decide) (fun z hz => List.mem_cons_of_mem _ (iw_X1 z hz)) (List.mem_cons_of_mem _ gm_38) dX1_takeOver_46 ?_
  refine xm_puti hX (k := 33) (ci := 1) (j := 4) (C := RX1) (T := TX1) (N := 11) (t0 := tyX1) (hL _ _ cL_33) rfl rfl (by decide) (fun z hz => List.mem_cons_of_mem _ (iw_X1 z hz)) tyX1_ok nmX1 rfl rfl (List.mem_cons_of_mem _ gm_38) dX1_takeOver_49 (fun M5 => ?_)
  refine xm_aload_n hX 0 dX1_takeOver_52 rfl rfl ?_
  refine xm_aload_n hX 1 dX1_takeOver_53 rfl rfl ?_
  refine xm_get hX (k := 1) (ci := 1) (j := 5) (C := RX1) (T := TX1) (N := 11) (v := .int (M5.1 1 5)) (hL _ _ cL_1) rfl rfl rfl (by decide) (fun z hz => List.mem_cons_of_mem _ (iw_X1 z hz)) (List.mem_cons_of_mem _ gm_41) dX1_takeOver_54 ?_
  refine xm_puti hX (k := 33) (ci := 1) (j := 5) (C := RX1) (T := TX1) (N := 11) (t0 := tyX1) (hL _ _ cL_33) rfl rfl (by decide) (fun z hz => List.mem_cons_of_mem _ (iw_X1 z hz)) tyX1_ok nmX1 rfl rfl (List.mem_cons_of_mem _ gm_41) dX1_takeOver_57 (fun M6 => ?_)
  refine xm_aload_n hX 0 dX1_takeOver_60 rfl rfl ?_
  refine xm_aload_n hX 1 dX1_takeOver_61 rfl rfl ?_
  refine xm_get hX (k := 1) (ci := 1) (j := 6) (C := RX1) (T := TX1) (N := 11) (v := .int (M6.1 1 6)) (hL _ _ cL_1) rfl rfl rfl (by decide) (fun z hz => List.mem_cons_of_mem _ (iw_X1 z hz)) (List.mem_cons_of_mem _ gm_43) dX1_takeOver_62 ?_
  refine xm_puti hX (k := 33) (ci := 1) (j := 6) (C := RX1) (T := TX1) (N := 11) (t0 := tyX1) (hL _ _ cL_33) rfl rfl (by decide) (fun z hz => List.mem_cons_of_mem _ (iw_X1 z hz)) tyX1_ok nmX1 rfl rfl (List.mem_cons_of_mem _ gm_43) dX1_takeOver_65 (fun M7 => ?_)
  refine xm_aload_n hX 0 dX1_takeOver_68 rfl rfl ?_
  refine xm_aload_n hX 1 dX1_takeOver_69 rfl rfl ?_
  refine xm_get hX (k := 1) (ci := 1) (j := 7) (C := RX1) (T := TX1) (N := 11) (v := .int (M7.1 1 7)) (hL _ _ cL_1) rfl rfl rfl (by decide) (fun z hz => List.mem_cons_of_mem _ (iw_X1 z hz)) (List.mem_cons_of_mem _ gm_47) dX1_takeOver_70 ?_
  refine xm_puti hX (k := 33) (ci := 1) (j := 7) (C := RX1) (T := TX1) (N := 11) (t0 := tyX1) (hL _ _ cL_33) rfl rfl (by decide) (fun z hz => List.mem_cons_of_mem _ (iw_X1 z hz)) tyX1_ok nmX1 rfl rfl (List.mem_cons_of_mem _ gm_47) dX1_takeOver_73 (fun M8 => ?_)
  refine xm_aload_n hX 0 dX1_takeOver_76 rfl rfl ?_
  refine xm_aload_n hX 1 dX1_takeOver_77 rfl rfl ?_
  refine xm_get hX (k := 1) (ci := 1) (j := 8) (C := RX1) (T := TX1) (N := 11) (v := .int (M8.1 1 8)) (hL _ _ cL_1) rfl rfl rfl (by decide) (fun z hz => List.mem_cons_of_mem _ (iw_X1 z hz)) (List.mem_cons_of_mem _ gm_50) dX1_takeOver_78 ?_
  refine xm_puti hX (k := 33) (ci := 1) (j := 8) (C := RX1) (T := TX1) (N := 11) (t0 := tyX1) (hL _ _ cL_33) rfl rfl (by decide) (fun z hz => List.mem_cons_of_mem _ (iw_X1 z hz)) tyX1_ok nmX1 rfl rfl (List.mem_cons_of_mem _ gm_50) dX1_takeOver_81 (fun M9 => ?_)
  refine xm_aload_n hX 0 dX1_takeOver_84 rfl rfl ?_
  refine xm_aload_n hX 1 dX1_takeOver_85 rfl rfl ?_
  refine xm_get hX (k := 1) (ci := 1) (j := 9) (C := RX1) (T := TX1) (N := 11) (v := .int (M9.1 1 9)) (hL _ _ cL_1) rfl rfl rfl (by decide) (fun z hz => List.mem_cons_of_mem _ (iw_X1 z hz)) (List.mem_cons_of_mem _ gm_53) dX1_takeOver_86 ?_
  refine xm_puti hX (k := 33) (ci := 1) (j := 9) (C := RX1) (T := TX1) (N := 11) (t0 := tyX1) (hL _ _ cL_33) rfl rfl (by decide) (fun z hz => List.mem_cons_of_mem _ (iw_X1 z hz)) tyX1_ok nmX1 rfl rfl (List.mem_cons_of_mem _ gm_53) dX1_takeOver_89 (fun M10 => ?_)
  exact xm_vret hX dX1_takeOver_92
-- ===== OdometryDesk.save(I)I ['0']
theorem dX3_save_0 : decode cX3_save 0 = .ok (.iload_n 1, 1) := by decide +kernel
theorem dX3_save_1 : decode cX3_save 1 = .ok (.iconst 0, 1) := by decide +kernel
theorem dX3_save_2 : decode cX3_save 2 = .ok (.iconst 1, 1) := by decide +kernel
theorem dX3_save_3 : decode cX3_save 3 = .ok (.invokestatic 66, 3) := by decide +kernel
theorem dX3_save_6 : decode cX3_save 6 = .ok (.ifCond .ne 6, 3) := by decide +kernel
theorem dX3_save_9 : decode cX3_save 9 = .ok (.bipush (-2), 2) := by decide +kernel
theorem dX3_save_11 : decode cX3_save 11 = .ok (.ireturn, 1) := by decide +kernel
theorem dX3_save_12 : decode cX3_save 12 = .ok (.aload_n 0, 1) := by decide +kernel
theorem dX3_save_13 : decode cX3_save 13 = .ok (.iload_n 1, 1) := by decide +kernel
theorem dX3_save_14 : decode cX3_save 14 = .ok (.invokevirtual 197, 3) := by decide +kernel
theorem dX3_save_17 : decode cX3_save 17 = .ok (.astore_n 2, 1) := by decide +kernel
theorem dX3_save_18 : decode cX3_save 18 = .ok (.aload_n 2, 1) := by decide +kernel
theorem dX3_save_19 : decode cX3_save 19 = .ok (.aload_n 0, 1) := by decide +kernel
theorem dX3_save_20 : decode cX3_save 20 = .ok (.getfield 10, 3) := by decide +kernel
theorem dX3_save_23 : decode cX3_save 23 = .ok (.invokevirtual 201, 3) := by decide +kernel
theorem dX3_save_26 : decode cX3_save 26 = .ok (.aload_n 2, 1) := by decide +kernel
theorem dX3_save_27 : decode cX3_save 27 = .ok (.iconst 1, 1) := by decide +kernel
theorem dX3_save_28 : decode cX3_save 28 = .ok (.putfield 205, 3) := by decide +kernel
theorem dX3_save_31 : decode cX3_save 31 = .ok (.aload_n 0, 1) := by decide +kernel
theorem dX3_save_32 : decode cX3_save 32 = .ok (.getfield 10, 3) := by decide +kernel
theorem dX3_save_35 : decode cX3_save 35 = .ok (.getfield 106, 3) := by decide +kernel
theorem dX3_save_38 : decode cX3_save 38 = .ok (.ireturn, 1) := by decide +kernel
abbrev wX3_save : List Cond := .code yX3_save cX3_save 3 (some .int) :: lw_gd
theorem hdX3_save : (yX3_save.cls ≠ "java/lang/invoke/MethodHandle" ∧ yX3_save.cls ≠ "java/lang/invoke/VarHandle" ∧ (parseMethodDescriptor yX3_save.desc).map (fun d => d.parameters.length) = some 1) := by decide +kernel
def fX3_save  (a1 : Int32) (M : xm_M) : Option (Int32 × xm_M) :=
  xm_bi (fX3_isWithin a1 (0 : Int32) (1 : Int32) M) (fun x2 M1 => if x2 = 0 then some ((-2 : Int32), M1) else xm_br (fX3_slotOf a1 M1) (fun x4 M3 => if x4 = 17 then xm_bv (fX1_takeOver_17_1 M3) (fun M5 => xm_lt (xm_s M5 17 10 (1 : Int32)) (fun M6 => some (M6.1 1 6, M6))) else if x4 = 33 then xm_bv (fX1_takeOver_33_1 M3) (fun M8 => xm_lt (xm_s M8 33 10 (1 : Int32)) (fun M9 => some (M9.1 1 6, M9))) else none))
set_option maxRecDepth 20000 in
theorem kX3_save {l : Launch} {L : List xm_Sh} (hL : xm_pre L)   (a1 : Int32) (M : xm_M) : xm_C l yX3_save wX3_save ({ frames := 4, cells := 0, slots := 0, locals := 82 }) L (fun g => [.ref (g.1 0), .int a1]) M xm_Fi (fX3_save  a1 M) := by
  refine xm_C.of (by decide) rfl (fun g => Nat.le_of_ble_eq_true rfl) ?_
  intro p e s m args below meth c D g A hX
  refine xm_lv (lv' := [(0, .ref (g.1 0)), (1, .int a1)]) rfl ?_
  unfold fX3_save
  refine xm_iload_n hX 1 dX3_save_0 rfl rfl ?_
  refine xm_iconst hX (v := 0) rfl dX3_save_1 ?_
  refine xm_iconst hX (v := 1) rfl dX3_save_2 ?_
  refine xm_calli hX (xm_runS hX (As := (fun g => [.int a1, .int (0 : Int32), .int (1 : Int32)])) (kX3_isWithin hL a1 (0 : Int32) (1 : Int32) M) (xm_gS gm_149 gm_150 gm_1 gm_151) rfl ⟨rfl, rfl⟩ hdX3_isWithin ⟨Nat.le_of_ble_eq_true rfl, Nat.le_of_ble_eq_true rfl⟩ rfl (Nat.le_of_ble_eq_true rfl) rfl ⟨Nat.le_of_ble_eq_true rfl, Nat.le_of_ble_eq_true rfl⟩ dX3_save_3) (fun x2 M1 => ?_)
  refine xm_if_ne hX (tgt := 12) dX3_save_6 rfl ?_ ?_
  · refine xm_aload_n hX 0 dX3_save_12 rfl rfl ?_
    refine xm_iload_n hX 1 dX3_save_13 rfl rfl ?_
    refine xm_callr hX (xm_runV hX (k := 0) (ci := 3) (As := (fun g => [.int a1])) (kX3_slotOf hL a1 M1) (hL _ _ cL_0) rfl (xm_gV gm_412 gm_413 gm_511 gm_1 gm_414) rfl ⟨rfl, rfl⟩ ⟨rfl, hdX3_slotOf⟩ ⟨Nat.le_of_ble_eq_true rfl, Nat.le_of_ble_eq_true rfl⟩ rfl (Nat.le_of_ble_eq_true rfl) rfl ⟨Nat.le_of_ble_eq_true rfl, Nat.le_of_ble_eq_true rfl⟩ dX3_save_14) (fun x4 M3 => ?_)
    refine xm_ite (fun z7 => ?_) (fun _ => ?_)
    · rw [z7]
      refine xm_astore_n hX (lv' := [(2, .ref (g.1 17)), (0, .ref (g.1 0)), (1, .int a1)]) dX3_save_17 rfl (by decide) rfl ?_
      refine xm_aload_n hX 0 dX3_save_18 rfl rfl ?_
      refine xm_aload_n hX 1 dX3_save_19 rfl rfl ?_
      refine xm_get hX (k := 0) (ci := 3) (j := 0) (C := RX3) (T := TX3) (N := 6) (v := .ref (g.1 1)) (hL _ _ cL_0) rfl rfl rfl (by decide) (fun z hz => List.mem_cons_of_mem _ (iw_X3 z hz)) (List.mem_cons_of_mem _ gm_128) dX3_save_20 ?_
      refine xm_callv hX (xm_runV hX (k := 17) (ci := 1) (As := (fun g => [.ref (g.1 1)])) (kX1_takeOver_17_1 hL M3) (hL _ _ cL_17) rfl (xm_gV gm_415 gm_416 gm_417 gm_2 gm_418) rfl ⟨rfl, rfl⟩ ⟨rfl, hdX1_takeOver⟩ ⟨Nat.le_of_ble_eq_true rfl, Nat.le_of_ble_eq_true rfl⟩ rfl (Nat.le_of_ble_eq_true rfl) rfl ⟨Nat.le_of_ble_eq_true rfl, Nat.le_of_ble_eq_true rfl⟩ dX3_save_23) (fun M5 => ?_)
      refine xm_aload_n hX 0 dX3_save_26 rfl rfl ?_
      refine xm_iconst hX (v := 1) rfl dX3_save_27 ?_
      refine xm_putzL hX (by decide) (k := 17) (ci := 1) (j := 10) (C := RX1) (T := TX1) (N := 11) (t0 := tyX1) (hL _ _ cL_17) rfl rfl (by decide) (fun z hz => List.mem_cons_of_mem _ (iw_X1 z hz)) tyX1_ok nmX1 rfl rfl (List.mem_cons_of_mem _ gm_55) dX3_save_28 (fun M6 => ?_)
      refine xm_aload_n hX 1 dX3_save_31 rfl rfl ?_
      refine xm_get hX (k := 0) (ci := 3) (j := 0) (C := RX3) (T := TX3) (N := 6) (v := .ref (g.1 1)) (hL _ _ cL_0) rfl rfl rfl (by decide) (fun z hz => List.mem_cons_of_mem _ (iw_X3 z hz)) (List.mem_cons_of_mem _ gm_128) dX3_save_32 ?_
      refine xm_get hX (k := 1) (ci := 1) (j := 6) (C := RX1) (T := TX1) (N := 11) (v := .int (M6.1 1 6)) (hL _ _ cL_1) rfl rfl rfl (by decide) (fun z hz => List.mem_cons_of_mem _ (iw_X1 z hz)) (List.mem_cons_of_mem _ gm_45) dX3_save_35 ?_
      exact xm_iret hX dX3_save_38
    refine xm_ite (fun z10 => ?_) (fun _ => ?_)
    · rw [z10]
      refine xm_astore_n hX (lv' := [(2, .ref (g.1 33)), (0, .ref (g.1 0)), (1, .int a1)]) dX3_save_17 rfl (by decide) rfl ?_
      refine xm_aload_n hX 0 dX3_save_18 rfl rfl ?_
      refine xm_aload_n hX 1 dX3_save_19 rfl rfl ?_
      refine xm_get hX (k := 0) (ci := 3) (j := 0) (C := RX3) (T := TX3) (N := 6) (v := .ref (g.1 1)) (hL _ _ cL_0) rfl rfl rfl (by decide) (fun z hz => List.mem_cons_of_mem _ (iw_X3 z hz)) (List.mem_cons_of_mem _ gm_128) dX3_save_20 ?_
      refine xm_callv hX (xm_runV hX (k := 33) (ci := 1) (As := (fun g => [.ref (g.1 1)])) (kX1_takeOver_33_1 hL M3) (hL _ _ cL_33) rfl (xm_gV gm_415 gm_416 gm_417 gm_2 gm_418) rfl ⟨rfl, rfl⟩ ⟨rfl, hdX1_takeOver⟩ ⟨Nat.le_of_ble_eq_true rfl, Nat.le_of_ble_eq_true rfl⟩ rfl (Nat.le_of_ble_eq_true rfl) rfl ⟨Nat.le_of_ble_eq_true rfl, Nat.le_of_ble_eq_true rfl⟩ dX3_save_23) (fun M8 => ?_)
      refine xm_aload_n hX 0 dX3_save_26 rfl rfl ?_
      refine xm_iconst hX (v := 1) rfl dX3_save_27 ?_
      refine xm_putzL hX (by decide) (k := 33) (ci := 1) (j := 10) (C := RX1) (T := TX1) (N := 11) (t0 := tyX1) (hL _ _ cL_33) rfl rfl (by decide) (fun z hz => List.mem_cons_of_mem _ (iw_X1 z hz)) tyX1_ok nmX1 rfl rfl (List.mem_cons_of_mem _ gm_55) dX3_save_28 (fun M9 => ?_)
      refine xm_aload_n hX 1 dX3_save_31 rfl rfl ?_
      refine xm_get hX (k := 0) (ci := 3) (j := 0) (C := RX3) (T := TX3) (N := 6) (v := .ref (g.1 1)) (hL _ _ cL_0) rfl rfl rfl (by decide) (fun z hz => List.mem_cons_of_mem _ (iw_X3 z hz)) (List.mem_cons_of_mem _ gm_128) dX3_save_32 ?_
      refine xm_get hX (k := 1) (ci := 1) (j := 6) (C := RX1) (T := TX1) (N := 11) (v := .int (M9.1 1 6)) (hL _ _ cL_1) rfl rfl rfl (by decide) (fun z hz => List.mem_cons_of_mem _ (iw_X1 z hz)) (List.mem_cons_of_mem _ gm_45) dX3_save_35 ?_
      exact xm_iret hX dX3_save_38
    exact xm_none
  · refine xm_bipush hX (v := -2) rfl dX3_save_9 ?_
    exact xm_iret hX dX3_save_11
-- ===== OdometryDesk.see(I)I ['0']
theorem dX3_see_0 : decode cX3_see 0 = .ok (.aload_n 0, 1) := by decide +kernel
theorem dX3_see_1 : decode cX3_see 1 = .ok (.getfield 10, 3) := by decide +kernel
theorem dX3_see_4 : decode cX3_see 4 = .ok (.iload_n 1, 1) := by decide +kernel
theorem dX3_see_5 : decode cX3_see 5 = .ok (.invokevirtual 113, 3) := by decide +kernel
theorem dX3_see_8 : decode cX3_see 8 = .ok (.ireturn, 1) := by decide +kernel
abbrev wX3_see : List Cond := .code yX3_see cX3_see 2 (some .int) :: lw_gd
theorem hdX3_see : (yX3_see.cls ≠ "java/lang/invoke/MethodHandle" ∧ yX3_see.cls ≠ "java/lang/invoke/VarHandle" ∧ (parseMethodDescriptor yX3_see.desc).map (fun d => d.parameters.length) = some 1) := by decide +kernel
def fX3_see  (a1 : Int32) (M : xm_M) : Option (Int32 × xm_M) :=
  xm_bi (fX1_addSight a1 M) (fun x2 M1 => some (x2, M1))
set_option maxRecDepth 20000 in
theorem kX3_see {l : Launch} {L : List xm_Sh} (hL : xm_pre L)   (a1 : Int32) (M : xm_M) : xm_C l yX3_see wX3_see ({ frames := 2, cells := 0, slots := 0, locals := 44 }) L (fun g => [.ref (g.1 0), .int a1]) M xm_Fi (fX3_see  a1 M) := by
  refine xm_C.of (by decide) rfl (fun g => Nat.le_of_ble_eq_true rfl) ?_
  intro p e s m args below meth c D g A hX
  refine xm_lv (lv' := [(0, .ref (g.1 0)), (1, .int a1)]) rfl ?_
  unfold fX3_see
  refine xm_aload_n hX 0 dX3_see_0 rfl rfl ?_
  refine xm_get hX (k := 0) (ci := 3) (j := 0) (C := RX3) (T := TX3) (N := 6) (v := .ref (g.1 1)) (hL _ _ cL_0) rfl rfl rfl (by decide) (fun z hz => List.mem_cons_of_mem _ (iw_X3 z hz)) (List.mem_cons_of_mem _ gm_128) dX3_see_1 ?_
  refine xm_iload_n hX 1 dX3_see_4 rfl rfl ?_
  refine xm_calli hX (xm_runV hX (k := 1) (ci := 1) (As := (fun g => [.int a1])) (kX1_addSight hL a1 M) (hL _ _ cL_1) rfl (xm_gV gm_308 gm_309 gm_310 gm_2 gm_311) rfl ⟨rfl, rfl⟩ ⟨rfl, hdX1_addSight⟩ ⟨Nat.le_of_ble_eq_true rfl, Nat.le_of_ble_eq_true rfl⟩ rfl (Nat.le_of_ble_eq_true rfl) rfl ⟨Nat.le_of_ble_eq_true rfl, Nat.le_of_ble_eq_true rfl⟩ dX3_see_5) (fun x2 M1 => ?_)
  exact xm_iret hX dX3_see_8
-- ===== OdometryDesk.set(II)I ['0']
theorem dX3_set_0 : decode cX3_set 0 = .ok (.iload_n 1, 1) := by decide +kernel
theorem dX3_set_1 : decode cX3_set 1 = .ok (.iload_n 2, 1) := by decide +kernel
theorem dX3_set_2 : decode cX3_set 2 = .ok (.invokestatic 48, 3) := by decide +kernel
theorem dX3_set_5 : decode cX3_set 5 = .ok (.ifCond .ne 6, 3) := by decide +kernel
theorem dX3_set_8 : decode cX3_set 8 = .ok (.bipush (-2), 2) := by decide +kernel
theorem dX3_set_10 : decode cX3_set 10 = .ok (.ireturn, 1) := by decide +kernel
theorem dX3_set_11 : decode cX3_set 11 = .ok (.aload_n 0, 1) := by decide +kernel
theorem dX3_set_12 : decode cX3_set 12 = .ok (.getfield 10, 3) := by decide +kernel
theorem dX3_set_15 : decode cX3_set 15 = .ok (.getfield 52, 3) := by decide +kernel
theorem dX3_set_18 : decode cX3_set 18 = .ok (.iload_n 1, 1) := by decide +kernel
theorem dX3_set_19 : decode cX3_set 19 = .ok (.invokestatic 55, 3) := by decide +kernel
theorem dX3_set_22 : decode cX3_set 22 = .ok (.istore_n 3, 1) := by decide +kernel
theorem dX3_set_23 : decode cX3_set 23 = .ok (.aload_n 0, 1) := by decide +kernel
theorem dX3_set_24 : decode cX3_set 24 = .ok (.getfield 10, 3) := by decide +kernel
theorem dX3_set_27 : decode cX3_set 27 = .ok (.getfield 52, 3) := by decide +kernel
theorem dX3_set_30 : decode cX3_set 30 = .ok (.iload_n 1, 1) := by decide +kernel
theorem dX3_set_31 : decode cX3_set 31 = .ok (.iload_n 2, 1) := by decide +kernel
theorem dX3_set_32 : decode cX3_set 32 = .ok (.invokestatic 59, 3) := by decide +kernel
theorem dX3_set_35 : decode cX3_set 35 = .ok (.iload_n 3, 1) := by decide +kernel
theorem dX3_set_36 : decode cX3_set 36 = .ok (.ireturn, 1) := by decide +kernel
abbrev wX3_set : List Cond := .code yX3_set cX3_set 4 (some .int) :: lw_gd
theorem hdX3_set : (yX3_set.cls ≠ "java/lang/invoke/MethodHandle" ∧ yX3_set.cls ≠ "java/lang/invoke/VarHandle" ∧ (parseMethodDescriptor yX3_set.desc).map (fun d => d.parameters.length) = some 2) := by decide +kernel
def fX3_set  (a1 : Int32) (a2 : Int32) (M : xm_M) : Option (Int32 × xm_M) :=
  xm_bi (fX3_isSetting a1 a2 M) (fun x2 M1 => if x2 = 0 then some ((-2 : Int32), M1) else xm_bi (fX3_item 2 9 a1 M1) (fun x4 M3 => xm_bv (fX3_keep 2 9 a1 a2 M3) (fun M5 => some (x4, M5))))
set_option maxRecDepth 20000 in
theorem kX3_set {l : Launch} {L : List xm_Sh} (hL : xm_pre L)   (a1 : Int32) (a2 : Int32) (M : xm_M) : xm_C l yX3_set wX3_set ({ frames := 2, cells := 0, slots := 0, locals := 43 }) L (fun g => [.ref (g.1 0), .int a1, .int a2]) M xm_Fi (fX3_set  a1 a2 M) := by
  refine xm_C.of (by decide) rfl (fun g => Nat.le_of_ble_eq_true rfl) ?_
  intro p e s m args below meth c D g A hX
  refine xm_lv (lv' := [(0, .ref (g.1 0)), (1, .int a1), (2, .int a2)]) rfl ?_
  unfold fX3_set
  refine xm_iload_n hX 1 dX3_set_0 rfl rfl ?_
  refine xm_iload_n hX 2 dX3_set_1 rfl rfl ?_
  refine xm_calli hX (xm_runS hX (As := (fun g => [.int a1, .int a2])) (kX3_isSetting hL a1 a2 M) (xm_gS gm_144 gm_145 gm_1 gm_146) rfl ⟨rfl, rfl⟩ hdX3_isSetting ⟨Nat.le_of_ble_eq_true rfl, Nat.le_of_ble_eq_true rfl⟩ rfl (Nat.le_of_ble_eq_true rfl) rfl ⟨Nat.le_of_ble_eq_true rfl, Nat.le_of_ble_eq_true rfl⟩ dX3_set_2) (fun x2 M1 => ?_)
  refine xm_if_ne hX (tgt := 11) dX3_set_5 rfl ?_ ?_
  · refine xm_aload_n hX 0 dX3_set_11 rfl rfl ?_
    refine xm_get hX (k := 0) (ci := 3) (j := 0) (C := RX3) (T := TX3) (N := 6) (v := .ref (g.1 1)) (hL _ _ cL_0) rfl rfl rfl (by decide) (fun z hz => List.mem_cons_of_mem _ (iw_X3 z hz)) (List.mem_cons_of_mem _ gm_128) dX3_set_12 ?_
    refine xm_get hX (k := 1) (ci := 1) (j := 0) (C := RX1) (T := TX1) (N := 11) (v := .ref (g.1 2)) (hL _ _ cL_1) rfl rfl rfl (by decide) (fun z hz => List.mem_cons_of_mem _ (iw_X1 z hz)) (List.mem_cons_of_mem _ gm_29) dX3_set_15 ?_
    refine xm_iload_n hX 1 dX3_set_18 rfl rfl ?_
    refine xm_calli hX (xm_runS hX (As := (fun g => [.ref (g.1 2), .int a1])) (kX3_item hL 2 9 (hL _ _ cL_2) a1 M1) (xm_gS gm_152 gm_153 gm_1 gm_154) rfl ⟨rfl, rfl⟩ hdX3_item ⟨Nat.le_of_ble_eq_true rfl, Nat.le_of_ble_eq_true rfl⟩ rfl (Nat.le_of_ble_eq_true rfl) rfl ⟨Nat.le_of_ble_eq_true rfl, Nat.le_of_ble_eq_true rfl⟩ dX3_set_19) (fun x4 M3 => ?_)
    refine xm_istore_n hX (lv' := [(3, .int x4), (0, .ref (g.1 0)), (1, .int a1), (2, .int a2)]) dX3_set_22 rfl (by decide) rfl ?_
    refine xm_aload_n hX 1 dX3_set_23 rfl rfl ?_
    refine xm_get hX (k := 0) (ci := 3) (j := 0) (C := RX3) (T := TX3) (N := 6) (v := .ref (g.1 1)) (hL _ _ cL_0) rfl rfl rfl (by decide) (fun z hz => List.mem_cons_of_mem _ (iw_X3 z hz)) (List.mem_cons_of_mem _ gm_128) dX3_set_24 ?_
    refine xm_get hX (k := 1) (ci := 1) (j := 0) (C := RX1) (T := TX1) (N := 11) (v := .ref (g.1 2)) (hL _ _ cL_1) rfl rfl rfl (by decide) (fun z hz => List.mem_cons_of_mem _ (iw_X1 z hz)) (List.mem_cons_of_mem _ gm_29) dX3_set_27 ?_
    refine xm_iload_n hX 2 dX3_set_30 rfl rfl ?_
    refine xm_iload_n hX 3 dX3_set_31 rfl rfl ?_
    refine xm_callv hX (xm_runS hX (As := (fun g => [.ref (g.1 2), .int a1, .int a2])) (kX3_keep hL 2 9 (hL _ _ cL_2) a1 a2 M3) (xm_gS gm_155 gm_156 gm_1 gm_157) rfl ⟨rfl, rfl⟩ hdX3_keep ⟨Nat.le_of_ble_eq_true rfl, Nat.le_of_ble_eq_true rfl⟩ rfl (Nat.le_of_ble_eq_true rfl) rfl ⟨Nat.le_of_ble_eq_true rfl, Nat.le_of_ble_eq_true rfl⟩ dX3_set_32) (fun M5 => ?_)
    refine xm_iload_n hX 0 dX3_set_35 rfl rfl ?_
    exact xm_iret hX dX3_set_36
  · refine xm_bipush hX (v := -2) rfl dX3_set_8 ?_
    exact xm_iret hX dX3_set_10
-- ===== OdometryDesk.step(III)I ['0']
theorem dX3_step_0 : decode cX3_step 0 = .ok (.aload_n 0, 1) := by decide +kernel
theorem dX3_step_1 : decode cX3_step 1 = .ok (.getfield 10, 3) := by decide +kernel
theorem dX3_step_4 : decode cX3_step 4 = .ok (.iload_n 1, 1) := by decide +kernel
theorem dX3_step_5 : decode cX3_step 5 = .ok (.iload_n 2, 1) := by decide +kernel
theorem dX3_step_6 : decode cX3_step 6 = .ok (.iload_n 3, 1) := by decide +kernel
theorem dX3_step_7 : decode cX3_step 7 = .ok (.invokevirtual 109, 3) := by decide +kernel
theorem dX3_step_10 : decode cX3_step 10 = .ok (.ireturn, 1) := by decide +kernel
abbrev wX3_step : List Cond := .code yX3_step cX3_step 4 (some .int) :: lw_gd
theorem hdX3_step : (yX3_step.cls ≠ "java/lang/invoke/MethodHandle" ∧ yX3_step.cls ≠ "java/lang/invoke/VarHandle" ∧ (parseMethodDescriptor yX3_step.desc).map (fun d => d.parameters.length) = some 3) := by decide +kernel
def fX3_step  (a1 : Int32) (a2 : Int32) (a3 : Int32) (M : xm_M) : Option (Int32 × xm_M) :=
  xm_bi (fX1_addStep a1 a2 a3 M) (fun x2 M1 => some (x2, M1))
set_option maxRecDepth 20000 in
theorem kX3_step {l : Launch} {L : List xm_Sh} (hL : xm_pre L)   (a1 : Int32) (a2 : Int32) (a3 : Int32) (M : xm_M) : xm_C l yX3_step wX3_step ({ frames := 2, cells := 0, slots := 0, locals := 46 }) L (fun g => [.ref (g.1 0), .int a1, .int a2, .int a3]) M xm_Fi (fX3_step  a1 a2 a3 M) := by
  refine xm_C.of (by decide) rfl (fun g => Nat.le_of_ble_eq_true rfl) ?_
  intro p e s m args below meth c D g A hX
  refine xm_lv (lv' := [(0, .ref (g.1 0)), (1, .int a1), (2, .int a2), (3, .int a3)]) rfl ?_
  unfold fX3_step
  refine xm_aload_n hX 0 dX3_step_0 rfl rfl ?_
  refine xm_get hX (k := 0) (ci := 3) (j := 0) (C := RX3) (T := TX3) (N := 6) (v := .ref (g.1 1)) (hL _ _ cL_0) rfl rfl rfl (by decide) (fun z hz => List.mem_cons_of_mem _ (iw_X3 z hz)) (List.mem_cons_of_mem _ gm_128) dX3_step_1 ?_
  refine xm_iload_n hX 1 dX3_step_4 rfl rfl ?_
  refine xm_iload_n hX 2 dX3_step_5 rfl rfl ?_
  refine xm_iload_n hX 3 dX3_step_6 rfl rfl ?_
  refine xm_calli hX (xm_runV hX (k := 1) (ci := 1) (As := (fun g => [.int a1, .int a2, .int a3])) (kX1_addStep hL a1 a2 a3 M) (hL _ _ cL_1) rfl (xm_gV gm_321 gm_322 gm_323 gm_2 gm_324) rfl ⟨rfl, rfl⟩ ⟨rfl, hdX1_addStep⟩ ⟨Nat.le_of_ble_eq_true rfl, Nat.le_of_ble_eq_true rfl⟩ rfl (Nat.le_of_ble_eq_true rfl) rfl ⟨Nat.le_of_ble_eq_true rfl, Nat.le_of_ble_eq_true rfl⟩ dX3_step_7) (fun x2 M1 => ?_)
  exact xm_iret hX dX3_step_10
-- ===== OdometryDesk.wave(II)I ['0']
theorem dX3_wave_0 : decode cX3_wave 0 = .ok (.iload_n 1, 1) := by decide +kernel
theorem dX3_wave_1 : decode cX3_wave 1 = .ok (.iconst 0, 1) := by decide +kernel
theorem dX3_wave_2 : decode cX3_wave 2 = .ok (.ldc 149, 2) := by decide +kernel
theorem dX3_wave_4 : decode cX3_wave 4 = .ok (.invokestatic 66, 3) := by decide +kernel
theorem dX3_wave_7 : decode cX3_wave 7 = .ok (.ifCond .eq 12, 3) := by decide +kernel
theorem dX3_wave_10 : decode cX3_wave 10 = .ok (.iload_n 2, 1) := by decide +kernel
theorem dX3_wave_11 : decode cX3_wave 11 = .ok (.iconst 0, 1) := by decide +kernel
theorem dX3_wave_12 : decode cX3_wave 12 = .ok (.iconst 1, 1) := by decide +kernel
theorem dX3_wave_13 : decode cX3_wave 13 = .ok (.invokestatic 66, 3) := by decide +kernel
theorem dX3_wave_16 : decode cX3_wave 16 = .ok (.ifCond .ne 6, 3) := by decide +kernel
theorem dX3_wave_19 : decode cX3_wave 19 = .ok (.ldc 118, 2) := by decide +kernel
theorem dX3_wave_21 : decode cX3_wave 21 = .ok (.ireturn, 1) := by decide +kernel
theorem dX3_wave_22 : decode cX3_wave 22 = .ok (.iload_n 2, 1) := by decide +kernel
theorem dX3_wave_23 : decode cX3_wave 23 = .ok (.ifCond .ne 7, 3) := by decide +kernel
theorem dX3_wave_26 : decode cX3_wave 26 = .ok (.iload_n 1, 1) := by decide +kernel
theorem dX3_wave_27 : decode cX3_wave 27 = .ok (.goto 7, 3) := by decide +kernel
theorem dX3_wave_30 : decode cX3_wave 30 = .ok (.iload_n 1, 1) := by decide +kernel
theorem dX3_wave_31 : decode cX3_wave 31 = .ok (.invokestatic 150, 3) := by decide +kernel
theorem dX3_wave_34 : decode cX3_wave 34 = .ok (.invokestatic 153, 3) := by decide +kernel
theorem dX3_wave_37 : decode cX3_wave 37 = .ok (.ireturn, 1) := by decide +kernel
abbrev wX3_wave : List Cond := .code yX3_wave cX3_wave 3 (some .int) :: lw_gd
theorem hdX3_wave : (yX3_wave.cls ≠ "java/lang/invoke/MethodHandle" ∧ yX3_wave.cls ≠ "java/lang/invoke/VarHandle" ∧ (parseMethodDescriptor yX3_wave.desc).map (fun d => d.parameters.length) = some 2) := by decide +kernel
def fX3_wave_34   (s0 : Int32) (M : xm_M) : Option (Int32 × xm_M) :=
  xm_bi (fX3_sine s0 M) (fun x8 M7 => some (x8, M7))
set_option maxRecDepth 20000 in
theorem tfX3_wave_34 {p : Program} {l : Launch} {e : Env} {s : State} {m : MethodId} {args : Array Value} {below : List Frame} {meth : Method} {c : Code} {D : va_G} {g : xm_G} {A : Nat → Prop}  {L : List xm_Sh} (hL : xm_pre L) (hX : xm_X p m meth c cX3_wave 3 s args wX3_wave RX3 (some .int) D L g A)    : ∀ (s0 : Int32), ∀ (M : xm_M), xm_J p l e ({ frames := 2, cells := 0, slots := 0, locals := 48 }) s m args below meth c 3 D L g A (xm_Z below args s D L g A (xm_Fi g)) 34 [] [.int s0] M (fX3_wave_34 s0 M) := by
  intro s0 M
  unfold fX3_wave_34
  refine xm_calli hX (xm_runS hX (As := (fun g => [.int s0])) (kX3_sine hL s0 M) (xm_gS gm_361 gm_253 gm_1 gm_254) rfl ⟨rfl, rfl⟩ hdX3_sine ⟨Nat.le_of_ble_eq_true rfl, Nat.le_of_ble_eq_true rfl⟩ rfl (Nat.le_of_ble_eq_true rfl) rfl ⟨Nat.le_of_ble_eq_true rfl, Nat.le_of_ble_eq_true rfl⟩ dX3_wave_34) (fun x8 M7 => ?_)
  exact xm_iret hX dX3_wave_37
def fX3_wave  (a1 : Int32) (a2 : Int32) (M : xm_M) : Option (Int32 × xm_M) :=
  xm_bi (fX3_isWithin a1 (0 : Int32) (35999 : Int32) M) (fun x2 M1 => if x2 = 0 then some ((-1000000002 : Int32), M1) else xm_bi (fX3_isWithin a2 (0 : Int32) (1 : Int32) M1) (fun x4 M3 => if x4 = 0 then some ((-1000000002 : Int32), M3) else if a2 = 0 then fX3_wave_34 a1 M3 else xm_bi (fX3_angleOfCosine a1 M3) (fun x6 M5 => fX3_wave_34 x6 M5)))
set_option maxRecDepth 20000 in
theorem kX3_wave {l : Launch} {L : List xm_Sh} (hL : xm_pre L)   (a1 : Int32) (a2 : Int32) (M : xm_M) : xm_C l yX3_wave wX3_wave ({ frames := 2, cells := 0, slots := 0, locals := 48 }) L (fun g => [.ref (g.1 0), .int a1, .int a2]) M xm_Fi (fX3_wave  a1 a2 M) := by
  refine xm_C.of (by decide) rfl (fun g => Nat.le_of_ble_eq_true rfl) ?_
  intro p e s m args below meth c D g A hX
  refine xm_lv (lv' := [(0, .ref (g.1 0)), (1, .int a1), (2, .int a2)]) rfl ?_
  unfold fX3_wave
  refine xm_iload_n hX 1 dX3_wave_0 rfl rfl ?_
  refine xm_iconst hX (v := 0) rfl dX3_wave_1 ?_
  refine xm_ldc hX (v := 35999) (List.mem_cons_of_mem _ gm_359) dX3_wave_2 ?_
  refine xm_calli hX (xm_runS hX (As := (fun g => [.int a1, .int (0 : Int32), .int (35999 : Int32)])) (kX3_isWithin hL a1 (0 : Int32) (35999 : Int32) M) (xm_gS gm_149 gm_150 gm_1 gm_151) rfl ⟨rfl, rfl⟩ hdX3_isWithin ⟨Nat.le_of_ble_eq_true rfl, Nat.le_of_ble_eq_true rfl⟩ rfl (Nat.le_of_ble_eq_true rfl) rfl ⟨Nat.le_of_ble_eq_true rfl, Nat.le_of_ble_eq_true rfl⟩ dX3_wave_4) (fun x2 M1 => ?_)
  refine xm_if_eq hX (tgt := 19) dX3_wave_7 rfl ?_ ?_
  · refine xm_ldc hX (v := -1000000002) (List.mem_cons_of_mem _ gm_288) dX3_wave_19 ?_
    exact xm_iret hX dX3_wave_21
  · refine xm_iload_n hX 2 dX3_wave_10 rfl rfl ?_
    refine xm_iconst hX (v := 0) rfl dX3_wave_11 ?_
    refine xm_iconst hX (v := 1) rfl dX3_wave_12 ?_
    refine xm_calli hX (xm_runS hX (As := (fun g => [.int a2, .int (0 : Int32), .int (1 : Int32)])) (kX3_isWithin hL a2 (0 : Int32) (1 : Int32) M1) (xm_gS gm_149 gm_150 gm_1 gm_151) rfl ⟨rfl, rfl⟩ hdX3_isWithin ⟨Nat.le_of_ble_eq_true rfl, Nat.le_of_ble_eq_true rfl⟩ rfl (Nat.le_of_ble_eq_true rfl) rfl ⟨Nat.le_of_ble_eq_true rfl, Nat.le_of_ble_eq_true rfl⟩ dX3_wave_13) (fun x4 M3 => ?_)
    refine xm_if_ne hX (tgt := 22) dX3_wave_16 rfl ?_ ?_
    · refine xm_iload_n hX 2 dX3_wave_22 rfl rfl ?_
      refine xm_if_ne hX (tgt := 30) dX3_wave_23 rfl ?_ ?_
      · refine xm_iload_n hX 1 dX3_wave_30 rfl rfl ?_
        refine xm_calli hX (xm_runS hX (As := (fun g => [.int a1])) (kX3_angleOfCosine hL a1 M3) (xm_gS gm_360 gm_250 gm_1 gm_251) rfl ⟨rfl, rfl⟩ hdX3_angleOfCosine ⟨Nat.le_of_ble_eq_true rfl, Nat.le_of_ble_eq_true rfl⟩ rfl (Nat.le_of_ble_eq_true rfl) rfl ⟨Nat.le_of_ble_eq_true rfl, Nat.le_of_ble_eq_true rfl⟩ dX3_wave_31) (fun x6 M5 => ?_)
        refine xm_weak [] (lv' := []) rfl ?_
        exact tfX3_wave_34 hL hX x6 M5
      · refine xm_iload_n hX 1 dX3_wave_26 rfl rfl ?_
        refine xm_goto hX (tgt := 34) dX3_wave_27 rfl ?_
        refine xm_weak [] (lv' := []) rfl ?_
        exact tfX3_wave_34 hL hX a1 M3
    · refine xm_ldc hX (v := -1000000002) (List.mem_cons_of_mem _ gm_288) dX3_wave_19 ?_
      exact xm_iret hX dX3_wave_21
-- ===== OdometryDesk.wipe()I ['0']
theorem dX3_wipe_0 : decode cX3_wipe 0 = .ok (.aload_n 0, 1) := by decide +kernel
theorem dX3_wipe_1 : decode cX3_wipe 1 = .ok (.getfield 32, 3) := by decide +kernel
theorem dX3_wipe_4 : decode cX3_wipe 4 = .ok (.getfield 145, 3) := by decide +kernel
theorem dX3_wipe_7 : decode cX3_wipe 7 = .ok (.istore_n 1, 1) := by decide +kernel
theorem dX3_wipe_8 : decode cX3_wipe 8 = .ok (.aload_n 0, 1) := by decide +kernel
theorem dX3_wipe_9 : decode cX3_wipe 9 = .ok (.getfield 32, 3) := by decide +kernel
theorem dX3_wipe_12 : decode cX3_wipe 12 = .ok (.iconst 0, 1) := by decide +kernel
theorem dX3_wipe_13 : decode cX3_wipe 13 = .ok (.putfield 145, 3) := by decide +kernel
theorem dX3_wipe_16 : decode cX3_wipe 16 = .ok (.iload_n 1, 1) := by decide +kernel
theorem dX3_wipe_17 : decode cX3_wipe 17 = .ok (.ireturn, 1) := by decide +kernel
abbrev wX3_wipe : List Cond := .code yX3_wipe cX3_wipe 2 (some .int) :: lw_gd
theorem hdX3_wipe : (yX3_wipe.cls ≠ "java/lang/invoke/MethodHandle" ∧ yX3_wipe.cls ≠ "java/lang/invoke/VarHandle" ∧ (parseMethodDescriptor yX3_wipe.desc).map (fun d => d.parameters.length) = some 0) := by decide +kernel
def fX3_wipe   (M : xm_M) : Option (Int32 × xm_M) :=
  xm_lt (M.1 69 1) (fun x1 => xm_lt (xm_s M 69 1 (0 : Int32)) (fun M2 => some (x1, M2)))
set_option maxRecDepth 20000 in
theorem kX3_wipe {l : Launch} {L : List xm_Sh} (hL : xm_pre L)    (M : xm_M) : xm_C l yX3_wipe wX3_wipe ({ frames := 0, cells := 0, slots := 0, locals := 0 }) L (fun g => [.ref (g.1 0)]) M xm_Fi (fX3_wipe   M) := by
  refine xm_C.of (by decide) rfl (fun g => Nat.le_of_ble_eq_true rfl) ?_
  intro p e s m args below meth c D g A hX
  refine xm_lv (lv' := [(0, .ref (g.1 0))]) rfl ?_
  unfold fX3_wipe
  refine xm_aload_n hX 0 dX3_wipe_0 rfl rfl ?_
  refine xm_get hX (k := 0) (ci := 3) (j := 4) (C := RX3) (T := TX3) (N := 6) (v := .ref (g.1 69)) (hL _ _ cL_0) rfl rfl rfl (by decide) (fun z hz => List.mem_cons_of_mem _ (iw_X3 z hz)) (List.mem_cons_of_mem _ gm_132) dX3_wipe_1 ?_
  refine xm_get hX (k := 69) (ci := 0) (j := 1) (C := RX0) (T := TX0) (N := 5) (v := .int (M.1 69 1)) (hL _ _ cL_69) rfl rfl rfl (by decide) (fun z hz => List.mem_cons_of_mem _ (iw_X0 z hz)) (List.mem_cons_of_mem _ gm_113) dX3_wipe_4 ?_
  refine xm_nmi (fun x1 => ?_)
  refine xm_istore_n hX (lv' := [(1, .int x1), (0, .ref (g.1 0))]) dX3_wipe_7 rfl (by decide) rfl ?_
  refine xm_aload_n hX 1 dX3_wipe_8 rfl rfl ?_
  refine xm_get hX (k := 0) (ci := 3) (j := 4) (C := RX3) (T := TX3) (N := 6) (v := .ref (g.1 69)) (hL _ _ cL_0) rfl rfl rfl (by decide) (fun z hz => List.mem_cons_of_mem _ (iw_X3 z hz)) (List.mem_cons_of_mem _ gm_132) dX3_wipe_9 ?_
  refine xm_iconst hX (v := 0) rfl dX3_wipe_12 ?_
  refine xm_puti hX (k := 69) (ci := 0) (j := 1) (C := RX0) (T := TX0) (N := 5) (t0 := tyX0) (hL _ _ cL_69) rfl rfl (by decide) (fun z hz => List.mem_cons_of_mem _ (iw_X0 z hz)) tyX0_ok nmX0 rfl rfl (List.mem_cons_of_mem _ gm_113) dX3_wipe_13 (fun M2 => ?_)
  refine xm_iload_n hX 0 dX3_wipe_16 rfl rfl ?_
  exact xm_iret hX dX3_wipe_17
