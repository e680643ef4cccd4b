-- ===== OdometryDesk$Way.go(LOdometryDesk$State;[II)V ['49', '1', 'ps']
theorem dX2_go_0 : decode cX2_go 0 = .ok (.aload_n 1, 1) := by decide +kernel
theorem dX2_go_1 : decode cX2_go 1 = .ok (.getfield 119, 3) := by decide +kernel
theorem dX2_go_4 : decode cX2_go 4 = .ok (.iconst 1, 1) := by decide +kernel
theorem dX2_go_5 : decode cX2_go 5 = .ok (.iload_n 3, 1) := by decide +kernel
theorem dX2_go_6 : decode cX2_go 6 = .ok (.invokestatic 91, 3) := by decide +kernel
theorem dX2_go_9 : decode cX2_go 9 = .ok (.istore 4, 2) := by decide +kernel
theorem dX2_go_11 : decode cX2_go 11 = .ok (.aload_n 1, 1) := by decide +kernel
theorem dX2_go_12 : decode cX2_go 12 = .ok (.getfield 119, 3) := by decide +kernel
theorem dX2_go_15 : decode cX2_go 15 = .ok (.iconst 2, 1) := by decide +kernel
theorem dX2_go_16 : decode cX2_go 16 = .ok (.iload_n 3, 1) := by decide +kernel
theorem dX2_go_17 : decode cX2_go 17 = .ok (.invokestatic 91, 3) := by decide +kernel
theorem dX2_go_20 : decode cX2_go 20 = .ok (.istore 5, 2) := by decide +kernel
theorem dX2_go_22 : decode cX2_go 22 = .ok (.aload_n 1, 1) := by decide +kernel
theorem dX2_go_23 : decode cX2_go 23 = .ok (.getfield 119, 3) := by decide +kernel
theorem dX2_go_26 : decode cX2_go 26 = .ok (.iconst 3, 1) := by decide +kernel
theorem dX2_go_27 : decode cX2_go 27 = .ok (.iload_n 3, 1) := by decide +kernel
theorem dX2_go_28 : decode cX2_go 28 = .ok (.invokestatic 91, 3) := by decide +kernel
theorem dX2_go_31 : decode cX2_go 31 = .ok (.istore 6, 2) := by decide +kernel
theorem dX2_go_33 : decode cX2_go 33 = .ok (.aload_n 0, 1) := by decide +kernel
theorem dX2_go_34 : decode cX2_go 34 = .ok (.getfield 16, 3) := by decide +kernel
theorem dX2_go_37 : decode cX2_go 37 = .ok (.iconst 1, 1) := by decide +kernel
theorem dX2_go_38 : decode cX2_go 38 = .ok (.iload_n 3, 1) := by decide +kernel
theorem dX2_go_39 : decode cX2_go 39 = .ok (.iload 4, 2) := by decide +kernel
theorem dX2_go_41 : decode cX2_go 41 = .ok (.invokestatic 109, 3) := by decide +kernel
theorem dX2_go_44 : decode cX2_go 44 = .ok (.aload_n 0, 1) := by decide +kernel
theorem dX2_go_45 : decode cX2_go 45 = .ok (.getfield 16, 3) := by decide +kernel
theorem dX2_go_48 : decode cX2_go 48 = .ok (.iconst 2, 1) := by decide +kernel
theorem dX2_go_49 : decode cX2_go 49 = .ok (.iload_n 3, 1) := by decide +kernel
theorem dX2_go_50 : decode cX2_go 50 = .ok (.iload 5, 2) := by decide +kernel
theorem dX2_go_52 : decode cX2_go 52 = .ok (.invokestatic 109, 3) := by decide +kernel
theorem dX2_go_55 : decode cX2_go 55 = .ok (.aload_n 0, 1) := by decide +kernel
theorem dX2_go_56 : decode cX2_go 56 = .ok (.getfield 16, 3) := by decide +kernel
theorem dX2_go_59 : decode cX2_go 59 = .ok (.iconst 3, 1) := by decide +kernel
theorem dX2_go_60 : decode cX2_go 60 = .ok (.iload_n 3, 1) := by decide +kernel
theorem dX2_go_61 : decode cX2_go 61 = .ok (.iload 6, 2) := by decide +kernel
theorem dX2_go_63 : decode cX2_go 63 = .ok (.invokestatic 109, 3) := by decide +kernel
theorem dX2_go_66 : decode cX2_go 66 = .ok (.iload 4, 2) := by decide +kernel
theorem dX2_go_68 : decode cX2_go 68 = .ok (.ifCond .ne 45, 3) := by decide +kernel
theorem dX2_go_71 : decode cX2_go 71 = .ok (.iload 5, 2) := by decide +kernel
theorem dX2_go_73 : decode cX2_go 73 = .ok (.ifCond .ne 40, 3) := by decide +kernel
theorem dX2_go_76 : decode cX2_go 76 = .ok (.aload_n 0, 1) := by decide +kernel
theorem dX2_go_77 : decode cX2_go 77 = .ok (.iload_n 3, 1) := by decide +kernel
theorem dX2_go_78 : decode cX2_go 78 = .ok (.iconst 0, 1) := by decide +kernel
theorem dX2_go_79 : decode cX2_go 79 = .ok (.invokevirtual 125, 3) := by decide +kernel
theorem dX2_go_82 : decode cX2_go 82 = .ok (.aload_n 0, 1) := by decide +kernel
theorem dX2_go_83 : decode cX2_go 83 = .ok (.dup, 1) := by decide +kernel
theorem dX2_go_84 : decode cX2_go 84 = .ok (.getfield 47, 3) := by decide +kernel
theorem dX2_go_87 : decode cX2_go 87 = .ok (.bipush 16, 2) := by decide +kernel
theorem dX2_go_89 : decode cX2_go 89 = .ok (.iload 6, 2) := by decide +kernel
theorem dX2_go_91 : decode cX2_go 91 = .ok (.imul, 1) := by decide +kernel
theorem dX2_go_92 : decode cX2_go 92 = .ok (.aload_n 0, 1) := by decide +kernel
theorem dX2_go_93 : decode cX2_go 93 = .ok (.getfield 47, 3) := by decide +kernel
theorem dX2_go_96 : decode cX2_go 96 = .ok (.isub, 1) := by decide +kernel
theorem dX2_go_97 : decode cX2_go 97 = .ok (.i2l, 1) := by decide +kernel
theorem dX2_go_98 : decode cX2_go 98 = .ok (.aload_n 2, 1) := by decide +kernel
theorem dX2_go_99 : decode cX2_go 99 = .ok (.iconst 5, 1) := by decide +kernel
theorem dX2_go_100 : decode cX2_go 100 = .ok (.invokestatic 113, 3) := by decide +kernel
theorem dX2_go_103 : decode cX2_go 103 = .ok (.i2l, 1) := by decide +kernel
theorem dX2_go_104 : decode cX2_go 104 = .ok (.invokestatic 106, 3) := by decide +kernel
theorem dX2_go_107 : decode cX2_go 107 = .ok (.l2i, 1) := by decide +kernel
theorem dX2_go_108 : decode cX2_go 108 = .ok (.iadd, 1) := by decide +kernel
theorem dX2_go_109 : decode cX2_go 109 = .ok (.putfield 47, 3) := by decide +kernel
theorem dX2_go_112 : decode cX2_go 112 = .ok (.return_, 1) := by decide +kernel
theorem dX2_go_113 : decode cX2_go 113 = .ok (.aload_n 0, 1) := by decide +kernel
theorem dX2_go_114 : decode cX2_go 114 = .ok (.aload_n 2, 1) := by decide +kernel
theorem dX2_go_115 : decode cX2_go 115 = .ok (.iload_n 3, 1) := by decide +kernel
theorem dX2_go_116 : decode cX2_go 116 = .ok (.aload_n 2, 1) := by decide +kernel
theorem dX2_go_117 : decode cX2_go 117 = .ok (.iconst 0, 1) := by decide +kernel
theorem dX2_go_118 : decode cX2_go 118 = .ok (.invokestatic 113, 3) := by decide +kernel
theorem dX2_go_121 : decode cX2_go 121 = .ok (.i2l, 1) := by decide +kernel
theorem dX2_go_122 : decode cX2_go 122 = .ok (.iload 4, 2) := by decide +kernel
theorem dX2_go_124 : decode cX2_go 124 = .ok (.i2l, 1) := by decide +kernel
theorem dX2_go_125 : decode cX2_go 125 = .ok (.lmul, 1) := by decide +kernel
theorem dX2_go_126 : decode cX2_go 126 = .ok (.aload_n 2, 1) := by decide +kernel
theorem dX2_go_127 : decode cX2_go 127 = .ok (.iconst 1, 1) := by decide +kernel
theorem dX2_go_128 : decode cX2_go 128 = .ok (.invokestatic 113, 3) := by decide +kernel
theorem dX2_go_131 : decode cX2_go 131 = .ok (.i2l, 1) := by decide +kernel
theorem dX2_go_132 : decode cX2_go 132 = .ok (.iload 5, 2) := by decide +kernel
theorem dX2_go_134 : decode cX2_go 134 = .ok (.i2l, 1) := by decide +kernel
theorem dX2_go_135 : decode cX2_go 135 = .ok (.lmul, 1) := by decide +kernel
theorem dX2_go_136 : decode cX2_go 136 = .ok (.invokevirtual 132, 3) := by decide +kernel
theorem dX2_go_139 : decode cX2_go 139 = .ok (.aload_n 0, 1) := by decide +kernel
theorem dX2_go_140 : decode cX2_go 140 = .ok (.getfield 16, 3) := by decide +kernel
theorem dX2_go_143 : decode cX2_go 143 = .ok (.iconst 5, 1) := by decide +kernel
theorem dX2_go_144 : decode cX2_go 144 = .ok (.iload_n 3, 1) := by decide +kernel
theorem dX2_go_145 : decode cX2_go 145 = .ok (.aload_n 0, 1) := by decide +kernel
theorem dX2_go_146 : decode cX2_go 146 = .ok (.getfield 136, 3) := by decide +kernel
theorem dX2_go_149 : decode cX2_go 149 = .ok (.invokestatic 109, 3) := by decide +kernel
theorem dX2_go_152 : decode cX2_go 152 = .ok (.aload_n 0, 1) := by decide +kernel
theorem dX2_go_153 : decode cX2_go 153 = .ok (.getfield 16, 3) := by decide +kernel
theorem dX2_go_156 : decode cX2_go 156 = .ok (.bipush 6, 2) := by decide +kernel
theorem dX2_go_158 : decode cX2_go 158 = .ok (.iload_n 3, 1) := by decide +kernel
theorem dX2_go_159 : decode cX2_go 159 = .ok (.aload_n 0, 1) := by decide +kernel
theorem dX2_go_160 : decode cX2_go 160 = .ok (.getfield 139, 3) := by decide +kernel
theorem dX2_go_163 : decode cX2_go 163 = .ok (.invokestatic 109, 3) := by decide +kernel
theorem dX2_go_166 : decode cX2_go 166 = .ok (.aload_n 0, 1) := by decide +kernel
theorem dX2_go_167 : decode cX2_go 167 = .ok (.invokevirtual 142, 3) := by decide +kernel
theorem dX2_go_170 : decode cX2_go 170 = .ok (.aload_n 0, 1) := by decide +kernel
theorem dX2_go_171 : decode cX2_go 171 = .ok (.aload_n 1, 1) := by decide +kernel
theorem dX2_go_172 : decode cX2_go 172 = .ok (.aload_n 2, 1) := by decide +kernel
theorem dX2_go_173 : decode cX2_go 173 = .ok (.iload_n 3, 1) := by decide +kernel
theorem dX2_go_174 : decode cX2_go 174 = .ok (.invokevirtual 145, 3) := by decide +kernel
theorem dX2_go_177 : decode cX2_go 177 = .ok (.return_, 1) := by decide +kernel
abbrev wX2_go : List Cond := .code yX2_go cX2_go 7 none :: lw_gd
theorem hdX2_go : (yX2_go.cls ≠ "java/lang/invoke/MethodHandle" ∧ yX2_go.cls ≠ "java/lang/invoke/VarHandle" ∧ (parseMethodDescriptor yX2_go.desc).map (fun d => d.parameters.length) = some 3) := by decide +kernel
def fX2_go_113 (ps : Nat)  (b3 : Int32) (b4 : Int32) (b5 : Int32) (M : xm_M) : Option xm_M :=
  xm_bi (fX3_item ps 9 (0 : Int32) M) (fun x11 M10 => xm_bi (fX3_item ps 9 (1 : Int32) M10) (fun x13 M12 => xm_bv (fX2_weighStep ps b3 (x11.toInt64 * b4.toInt64) (x13.toInt64 * b5.toInt64) M12) (fun M14 => xm_bv (fX3_keep_ 56 11 57 120 (5 : Int32) b3 (M14.1 49 10) M14) (fun M15 => xm_bv (fX3_keep_ 56 11 57 120 (6 : Int32) b3 (M15.1 49 11) M15) (fun M16 => xm_bv (fX2_move M16) (fun M17 => xm_bv (fX2_followCorridor ps b3 M17) (fun M18 => some M18)))))))
set_option maxRecDepth 20000 in
theorem tfX2_go_113 {p : Program} {l : Launch} {e : Env} {s : State} {m : MethodId} {args : Array Value} {below : List Frame} {meth : Method} {c : Code} {D : va_G} {g : xm_G} {A : Nat → Prop} (ps : Nat) {L : List xm_Sh} (hL : xm_pre L) (hX : xm_X p m meth c cX2_go 7 s args wX2_go RX2 none D L g A) (hps : L[ps]? = some (.inl (0, .int, 9)))   : ∀ (b3 : Int32), ∀ (b4 : Int32), ∀ (b5 : Int32), ∀ (M : xm_M), xm_J p l e ({ frames := 3, cells := 0, slots := 0, locals := 80 }) s m args below meth c 7 D L g A (xm_Z below args s D L g A (xm_Fv g)) 113 [(0, .ref (g.1 49)), (1, .ref (g.1 1)), (2, .ref (g.1 ps)), (3, .int b3), (4, .int b4), (5, .int b5)] [] M (fX2_go_113 ps b3 b4 b5 M) := by
  intro b3 b4 b5 M
  unfold fX2_go_113
  refine xm_aload_n hX 0 dX2_go_113 rfl rfl ?_
  refine xm_aload_n hX 2 dX2_go_114 rfl rfl ?_
  refine xm_iload_n hX 3 dX2_go_115 rfl rfl ?_
  refine xm_aload_n hX 2 dX2_go_116 rfl rfl ?_
  refine xm_iconst hX (v := 0) rfl dX2_go_117 ?_
  refine xm_calli hX (xm_runSN hX (As := (fun g => [.ref (g.1 ps), .int (0 : Int32)])) (kX3_item hL ps 9 hps (0 : Int32) M) (xm_gN gm_154) rfl ⟨rfl, rfl⟩ nw_3 (List.mem_cons_of_mem _ gm_1) (List.mem_cons_of_mem _ gm_153) hdX3_item ⟨Nat.le_of_ble_eq_true rfl, Nat.le_of_ble_eq_true rfl⟩ rfl (Nat.le_of_ble_eq_true rfl) rfl ⟨Nat.le_of_ble_eq_true rfl, Nat.le_of_ble_eq_true rfl⟩ dX2_go_118) (fun x11 M10 => ?_)
  refine xm_i2l hX dX2_go_121 ?_
  refine xm_iload hX 4 dX2_go_122 rfl ?_
  refine xm_i2l hX dX2_go_124 ?_
  refine xm_lmul hX dX2_go_125 ?_
  refine xm_aload_n hX 2 dX2_go_126 rfl rfl ?_
  refine xm_iconst hX (v := 1) rfl dX2_go_127 ?_
  refine xm_calli hX (xm_runSN hX (As := (fun g => [.ref (g.1 ps), .int (1 : Int32)])) (kX3_item hL ps 9 hps (1 : Int32) M10) (xm_gN gm_154) rfl ⟨rfl, rfl⟩ nw_3 (List.mem_cons_of_mem _ gm_1) (List.mem_cons_of_mem _ gm_153) hdX3_item ⟨Nat.le_of_ble_eq_true rfl, Nat.le_of_ble_eq_true rfl⟩ rfl (Nat.le_of_ble_eq_true rfl) rfl ⟨Nat.le_of_ble_eq_true rfl, Nat.le_of_ble_eq_true rfl⟩ dX2_go_128) (fun x13 M12 => ?_)
  refine xm_i2l hX dX2_go_131 ?_
  refine xm_iload hX 5 dX2_go_132 rfl ?_
  refine xm_i2l hX dX2_go_134 ?_
  refine xm_lmul hX dX2_go_135 ?_
  refine xm_callv hX (xm_runV hX (k := 49) (ci := 2) (As := (fun g => [.ref (g.1 ps), .int b3, .long (x11.toInt64 * b4.toInt64), .long (x13.toInt64 * b5.toInt64)])) (kX2_weighStep hL ps hps b3 (x11.toInt64 * b4.toInt64) (x13.toInt64 * b5.toInt64) M12) (hL _ _ cL_49) rfl (xm_gV gm_231 gm_232 gm_504 gm_3 gm_233) rfl ⟨rfl, rfl⟩ ⟨rfl, hdX2_weighStep⟩ ⟨Nat.le_of_ble_eq_true rfl, Nat.le_of_ble_eq_true rfl⟩ rfl (Nat.le_of_ble_eq_true rfl) rfl ⟨Nat.le_of_ble_eq_true rfl, Nat.le_of_ble_eq_true rfl⟩ dX2_go_136) (fun M14 => ?_)
  refine xm_aload_n hX 0 dX2_go_139 rfl rfl ?_
  refine xm_get hX (k := 49) (ci := 2) (j := 1) (C := RX2) (T := TX2) (N := 12) (v := .ref (g.1 56)) (hL _ _ cL_49) rfl rfl rfl (by decide) (fun z hz => List.mem_cons_of_mem _ (iw_X2 z hz)) (List.mem_cons_of_mem _ gm_75) dX2_go_140 ?_
  refine xm_iconst hX (v := 5) rfl dX2_go_143 ?_
  refine xm_iload_n hX 3 dX2_go_144 rfl rfl ?_
  refine xm_aload_n hX 0 dX2_go_145 rfl rfl ?_
  refine xm_get hX (k := 49) (ci := 2) (j := 10) (C := RX2) (T := TX2) (N := 12) (v := .int (M14.1 49 10)) (hL _ _ cL_49) rfl rfl rfl (by decide) (fun z hz => List.mem_cons_of_mem _ (iw_X2 z hz)) (List.mem_cons_of_mem _ gm_92) dX2_go_146 ?_
  refine xm_callv hX (xm_runSN hX (As := (fun g => [.ref (g.1 56), .int (5 : Int32), .int b3, .int (M14.1 49 10)])) (kX3_keep_ hL 56 11 57 120 (hL _ _ cL_56) (cL_rowsL_56 hL) (5 : Int32) b3 (M14.1 49 10) M14) (xm_gN gm_172) rfl ⟨rfl, rfl⟩ nw_0 (List.mem_cons_of_mem _ gm_1) (List.mem_cons_of_mem _ gm_171) hdX3_keep_ ⟨Nat.le_of_ble_eq_true rfl, Nat.le_of_ble_eq_true rfl⟩ rfl (Nat.le_of_ble_eq_true rfl) rfl ⟨Nat.le_of_ble_eq_true rfl, Nat.le_of_ble_eq_true rfl⟩ dX2_go_149) (fun M15 => ?_)
  refine xm_aload_n hX 0 dX2_go_152 rfl rfl ?_
  refine xm_get hX (k := 49) (ci := 2) (j := 1) (C := RX2) (T := TX2) (N := 12) (v := .ref (g.1 56)) (hL _ _ cL_49) rfl rfl rfl (by decide) (fun z hz => List.mem_cons_of_mem _ (iw_X2 z hz)) (List.mem_cons_of_mem _ gm_75) dX2_go_153 ?_
  refine xm_bipush hX (v := 6) rfl dX2_go_156 ?_
  refine xm_iload_n hX 3 dX2_go_158 rfl rfl ?_
  refine xm_aload_n hX 0 dX2_go_159 rfl rfl ?_
  refine xm_get hX (k := 49) (ci := 2) (j := 11) (C := RX2) (T := TX2) (N := 12) (v := .int (M15.1 49 11)) (hL _ _ cL_49) rfl rfl rfl (by decide) (fun z hz => List.mem_cons_of_mem _ (iw_X2 z hz)) (List.mem_cons_of_mem _ gm_93) dX2_go_160 ?_
  refine xm_callv hX (xm_runSN hX (As := (fun g => [.ref (g.1 56), .int (6 : Int32), .int b3, .int (M15.1 49 11)])) (kX3_keep_ hL 56 11 57 120 (hL _ _ cL_56) (cL_rowsL_56 hL) (6 : Int32) b3 (M15.1 49 11) M15) (xm_gN gm_172) rfl ⟨rfl, rfl⟩ nw_0 (List.mem_cons_of_mem _ gm_1) (List.mem_cons_of_mem _ gm_171) hdX3_keep_ ⟨Nat.le_of_ble_eq_true rfl, Nat.le_of_ble_eq_true rfl⟩ rfl (Nat.le_of_ble_eq_true rfl) rfl ⟨Nat.le_of_ble_eq_true rfl, Nat.le_of_ble_eq_true rfl⟩ dX2_go_163) (fun M16 => ?_)
  refine xm_aload_n hX 0 dX2_go_166 rfl rfl ?_
  refine xm_callv hX (xm_runV hX (k := 49) (ci := 2) (As := (fun g => [])) (kX2_move hL M16) (hL _ _ cL_49) rfl (xm_gV gm_241 gm_242 gm_505 gm_3 gm_243) rfl ⟨rfl, rfl⟩ ⟨rfl, hdX2_move⟩ ⟨Nat.le_of_ble_eq_true rfl, Nat.le_of_ble_eq_true rfl⟩ rfl (Nat.le_of_ble_eq_true rfl) rfl ⟨Nat.le_of_ble_eq_true rfl, Nat.le_of_ble_eq_true rfl⟩ dX2_go_167) (fun M17 => ?_)
  refine xm_aload_n hX 0 dX2_go_170 rfl rfl ?_
  refine xm_aload_n hX 1 dX2_go_171 rfl rfl ?_
  refine xm_aload_n hX 2 dX2_go_172 rfl rfl ?_
  refine xm_iload_n hX 3 dX2_go_173 rfl rfl ?_
  refine xm_callv hX (xm_runV hX (k := 49) (ci := 2) (As := (fun g => [.ref (g.1 1), .ref (g.1 ps), .int b3])) (kX2_followCorridor hL ps hps b3 M17) (hL _ _ cL_49) rfl (xm_gV gm_260 gm_261 gm_506 gm_3 gm_262) rfl ⟨rfl, rfl⟩ ⟨rfl, hdX2_followCorridor⟩ ⟨Nat.le_of_ble_eq_true rfl, Nat.le_of_ble_eq_true rfl⟩ rfl (Nat.le_of_ble_eq_true rfl) rfl ⟨Nat.le_of_ble_eq_true rfl, Nat.le_of_ble_eq_true rfl⟩ dX2_go_174) (fun M18 => ?_)
  exact xm_vret hX dX2_go_177
def fX2_go (ps : Nat) (a3 : Int32) (M : xm_M) : Option xm_M :=
  xm_bi (fX3_item_ 12 4 13 120 (1 : Int32) a3 M) (fun x2 M1 => xm_bi (fX3_item_ 12 4 13 120 (2 : Int32) a3 M1) (fun x4 M3 => xm_bi (fX3_item_ 12 4 13 120 (3 : Int32) a3 M3) (fun x6 M5 => xm_bv (fX3_keep_ 56 11 57 120 (1 : Int32) a3 x2 M5) (fun M7 => xm_bv (fX3_keep_ 56 11 57 120 (2 : Int32) a3 x4 M7) (fun M8 => xm_bv (fX3_keep_ 56 11 57 120 (3 : Int32) a3 x6 M8) (fun M9 => if x2 = 0 then if x4 = 0 then xm_bv (fX2_keepKind a3 (0 : Int32) M9) (fun M19 => xm_bi (fX3_item ps 9 (5 : Int32) M19) (fun x21 M20 => xm_bl (fX3_ratio ((((16 : Int32) * x6) - (M19.1 49 7)).toInt64) x21.toInt64 M20) (fun x23 M22 => xm_lt (xm_s M22 49 7 ((M19.1 49 7) + x23.toInt32)) (fun M24 => some M24)))) else fX2_go_113 ps a3 x2 x4 M9 else fX2_go_113 ps a3 x2 x4 M9))))))
set_option maxRecDepth 20000 in
theorem kX2_go {l : Launch} {L : List xm_Sh} (hL : xm_pre L) (ps : Nat) (hps : L[ps]? = some (.inl (0, .int, 9))) (a3 : Int32) (M : xm_M) : xm_C l yX2_go wX2_go ({ frames := 3, cells := 0, slots := 0, locals := 80 }) L (fun g => [.ref (g.1 49), .ref (g.1 1), .ref (g.1 ps), .int a3]) M xm_Fv (fX2_go ps a3 M) := by
  refine xm_C.of (by decide) rfl (fun g => Nat.le_of_ble_eq_true rfl) ?_
  intro p e s m args below meth c D g A hX
  refine xm_lv (lv' := [(0, .ref (g.1 49)), (1, .ref (g.1 1)), (2, .ref (g.1 ps)), (3, .int a3)]) rfl ?_
  unfold fX2_go
  refine xm_aload_n hX 1 dX2_go_0 rfl rfl ?_
  refine xm_get hX (k := 1) (ci := 1) (j := 3) (C := RX1) (T := TX1) (N := 11) (v := .ref (g.1 12)) (hL _ _ cL_1) rfl rfl rfl (by decide) (fun z hz => List.mem_cons_of_mem _ (iw_X1 z hz)) (List.mem_cons_of_mem _ gm_37) dX2_go_1 ?_
  refine xm_iconst hX (v := 1) rfl dX2_go_4 ?_
  refine xm_iload_n hX 3 dX2_go_5 rfl rfl ?_
  refine xm_calli hX (xm_runSN hX (As := (fun g => [.ref (g.1 12), .int (1 : Int32), .int a3])) (kX3_item_ hL 12 4 13 120 (hL _ _ cL_12) (cL_rowsL_12 hL) (1 : Int32) a3 M) (xm_gN gm_216) rfl ⟨rfl, rfl⟩ nw_2 (List.mem_cons_of_mem _ gm_1) (List.mem_cons_of_mem _ gm_215) hdX3_item_ ⟨Nat.le_of_ble_eq_true rfl, Nat.le_of_ble_eq_true rfl⟩ rfl (Nat.le_of_ble_eq_true rfl) rfl ⟨Nat.le_of_ble_eq_true rfl, Nat.le_of_ble_eq_true rfl⟩ dX2_go_6) (fun x2 M1 => ?_)
  refine xm_istore hX (lv' := [(4, .int x2), (0, .ref (g.1 49)), (1, .ref (g.1 1)), (2, .ref (g.1 ps)), (3, .int a3)]) dX2_go_9 (by decide) rfl ?_
  refine xm_aload_n hX 2 dX2_go_11 rfl rfl ?_
  refine xm_get hX (k := 1) (ci := 1) (j := 3) (C := RX1) (T := TX1) (N := 11) (v := .ref (g.1 12)) (hL _ _ cL_1) rfl rfl rfl (by decide) (fun z hz => List.mem_cons_of_mem _ (iw_X1 z hz)) (List.mem_cons_of_mem _ gm_37) dX2_go_12 ?_
  refine xm_iconst hX (v := 2) rfl dX2_go_15 ?_
  refine xm_iload_n hX 4 dX2_go_16 rfl rfl ?_
  refine xm_calli hX (xm_runSN hX (As := (fun g => [.ref (g.1 12), .int (2 : Int32), .int a3])) (kX3_item_ hL 12 4 13 120 (hL _ _ cL_12) (cL_rowsL_12 hL) (2 : Int32) a3 M1) (xm_gN gm_216) rfl ⟨rfl, rfl⟩ nw_2 (List.mem_cons_of_mem _ gm_1) (List.mem_cons_of_mem _ gm_215) hdX3_item_ ⟨Nat.le_of_ble_eq_true rfl, Nat.le_of_ble_eq_true rfl⟩ rfl (Nat.le_of_ble_eq_true rfl) rfl ⟨Nat.le_of_ble_eq_true rfl, Nat.le_of_ble_eq_true rfl⟩ dX2_go_17) (fun x4 M3 => ?_)
  refine xm_istore hX (lv' := [(5, .int x4), (4, .int x2), (0, .ref (g.1 49)), (1, .ref (g.1 1)), (2, .ref (g.1 ps)), (3, .int a3)]) dX2_go_20 (by decide) rfl ?_
  refine xm_aload_n hX 3 dX2_go_22 rfl rfl ?_
  refine xm_get hX (k := 1) (ci := 1) (j := 3) (C := RX1) (T := TX1) (N := 11) (v := .ref (g.1 12)) (hL _ _ cL_1) rfl rfl rfl (by decide) (fun z hz => List.mem_cons_of_mem _ (iw_X1 z hz)) (List.mem_cons_of_mem _ gm_37) dX2_go_23 ?_
  refine xm_iconst hX (v := 3) rfl dX2_go_26 ?_
  refine xm_iload_n hX 5 dX2_go_27 rfl rfl ?_
  refine xm_calli hX (xm_runSN hX (As := (fun g => [.ref (g.1 12), .int (3 : Int32), .int a3])) (kX3_item_ hL 12 4 13 120 (hL _ _ cL_12) (cL_rowsL_12 hL) (3 : Int32) a3 M3) (xm_gN gm_216) rfl ⟨rfl, rfl⟩ nw_2 (List.mem_cons_of_mem _ gm_1) (List.mem_cons_of_mem _ gm_215) hdX3_item_ ⟨Nat.le_of_ble_eq_true rfl, Nat.le_of_ble_eq_true rfl⟩ rfl (Nat.le_of_ble_eq_true rfl) rfl ⟨Nat.le_of_ble_eq_true rfl, Nat.le_of_ble_eq_true rfl⟩ dX2_go_28) (fun x6 M5 => ?_)
  refine xm_istore hX (lv' := [(6, .int x6), (5, .int x4), (4, .int x2), (0, .ref (g.1 49)), (1, .ref (g.1 1)), (2, .ref (g.1 ps)), (3, .int a3)]) dX2_go_31 (by decide) rfl ?_
  refine xm_aload_n hX 3 dX2_go_33 rfl rfl ?_
  refine xm_get hX (k := 49) (ci := 2) (j := 1) (C := RX2) (T := TX2) (N := 12) (v := .ref (g.1 56)) (hL _ _ cL_49) rfl rfl rfl (by decide) (fun z hz => List.mem_cons_of_mem _ (iw_X2 z hz)) (List.mem_cons_of_mem _ gm_75) dX2_go_34 ?_
  refine xm_iconst hX (v := 1) rfl dX2_go_37 ?_
  refine xm_iload_n hX 6 dX2_go_38 rfl rfl ?_
  refine xm_iload hX 2 dX2_go_39 rfl ?_
  refine xm_callv hX (xm_runSN hX (As := (fun g => [.ref (g.1 56), .int (1 : Int32), .int a3, .int x2])) (kX3_keep_ hL 56 11 57 120 (hL _ _ cL_56) (cL_rowsL_56 hL) (1 : Int32) a3 x2 M5) (xm_gN gm_172) rfl ⟨rfl, rfl⟩ nw_0 (List.mem_cons_of_mem _ gm_1) (List.mem_cons_of_mem _ gm_171) hdX3_keep_ ⟨Nat.le_of_ble_eq_true rfl, Nat.le_of_ble_eq_true rfl⟩ rfl (Nat.le_of_ble_eq_true rfl) rfl ⟨Nat.le_of_ble_eq_true rfl, Nat.le_of_ble_eq_true rfl⟩ dX2_go_41) (fun M7 => ?_)
  refine xm_aload_n hX 3 dX2_go_44 rfl rfl ?_
  refine xm_get hX (k := 49) (ci := 2) (j := 1) (C := RX2) (T := TX2) (N := 12) (v := .ref (g.1 56)) (hL _ _ cL_49) rfl rfl rfl (by decide) (fun z hz => List.mem_cons_of_mem _ (iw_X2 z hz)) (List.mem_cons_of_mem _ gm_75) dX2_go_45 ?_
  refine xm_iconst hX (v := 2) rfl dX2_go_48 ?_
  refine xm_iload_n hX 6 dX2_go_49 rfl rfl ?_
  refine xm_iload hX 1 dX2_go_50 rfl ?_
  refine xm_callv hX (xm_runSN hX (As := (fun g => [.ref (g.1 56), .int (2 : Int32), .int a3, .int x4])) (kX3_keep_ hL 56 11 57 120 (hL _ _ cL_56) (cL_rowsL_56 hL) (2 : Int32) a3 x4 M7) (xm_gN gm_172) rfl ⟨rfl, rfl⟩ nw_0 (List.mem_cons_of_mem _ gm_1) (List.mem_cons_of_mem _ gm_171) hdX3_keep_ ⟨Nat.le_of_ble_eq_true rfl, Nat.le_of_ble_eq_true rfl⟩ rfl (Nat.le_of_ble_eq_true rfl) rfl ⟨Nat.le_of_ble_eq_true rfl, Nat.le_of_ble_eq_true rfl⟩ dX2_go_52) (fun M8 => ?_)
  refine xm_aload_n hX 3 dX2_go_55 rfl rfl ?_
  refine xm_get hX (k := 49) (ci := 2) (j := 1) (C := RX2) (T := TX2) (N := 12) (v := .ref (g.1 56)) (hL _ _ cL_49) rfl rfl rfl (by decide) (fun z hz => List.mem_cons_of_mem _ (iw_X2 z hz)) (List.mem_cons_of_mem _ gm_75) dX2_go_56 ?_
  refine xm_iconst hX (v := 3) rfl dX2_go_59 ?_
  refine xm_iload_n hX 6 dX2_go_60 rfl rfl ?_
  refine xm_iload hX 0 dX2_go_61 rfl ?_
  refine xm_callv hX (xm_runSN hX (As := (fun g => [.ref (g.1 56), .int (3 : Int32), .int a3, .int x6])) (kX3_keep_ hL 56 11 57 120 (hL _ _ cL_56) (cL_rowsL_56 hL) (3 : Int32) a3 x6 M8) (xm_gN gm_172) rfl ⟨rfl, rfl⟩ nw_0 (List.mem_cons_of_mem _ gm_1) (List.mem_cons_of_mem _ gm_171) hdX3_keep_ ⟨Nat.le_of_ble_eq_true rfl, Nat.le_of_ble_eq_true rfl⟩ rfl (Nat.le_of_ble_eq_true rfl) rfl ⟨Nat.le_of_ble_eq_true rfl, Nat.le_of_ble_eq_true rfl⟩ dX2_go_63) (fun M9 => ?_)
  refine xm_iload hX 2 dX2_go_66 rfl ?_
  refine xm_if_ne hX (tgt := 113) dX2_go_68 rfl ?_ ?_
  · refine xm_weak [3, 4, 5, 6, 2, 1] (lv' := [(0, .ref (g.1 49)), (1, .ref (g.1 1)), (2, .ref (g.1 ps)), (3, .int a3), (4, .int x2), (5, .int x4)]) rfl ?_
    exact tfX2_go_113 ps hL hX hps a3 x2 x4 M9
  · refine xm_iload hX 1 dX2_go_71 rfl ?_
    refine xm_if_ne hX (tgt := 113) dX2_go_73 rfl ?_ ?_
    · refine xm_weak [3, 4, 5, 6, 2, 1] (lv' := [(0, .ref (g.1 49)), (1, .ref (g.1 1)), (2, .ref (g.1 ps)), (3, .int a3), (4, .int x2), (5, .int x4)]) rfl ?_
      exact tfX2_go_113 ps hL hX hps a3 x2 x4 M9
    · refine xm_aload_n hX 3 dX2_go_76 rfl rfl ?_
      refine xm_iload_n hX 6 dX2_go_77 rfl rfl ?_
      refine xm_iconst hX (v := 0) rfl dX2_go_78 ?_
      refine xm_callv hX (xm_runV hX (k := 49) (ci := 2) (As := (fun g => [.int a3, .int (0 : Int32)])) (kX2_keepKind hL a3 (0 : Int32) M9) (hL _ _ cL_49) rfl (xm_gV gm_220 gm_221 gm_502 gm_3 gm_222) rfl ⟨rfl, rfl⟩ ⟨rfl, hdX2_keepKind⟩ ⟨Nat.le_of_ble_eq_true rfl, Nat.le_of_ble_eq_true rfl⟩ rfl (Nat.le_of_ble_eq_true rfl) rfl ⟨Nat.le_of_ble_eq_true rfl, Nat.le_of_ble_eq_true rfl⟩ dX2_go_79) (fun M19 => ?_)
      refine xm_aload_n hX 3 dX2_go_82 rfl rfl ?_
      refine xm_dup hX rfl dX2_go_83 ?_
      refine xm_get hX (k := 49) (ci := 2) (j := 7) (C := RX2) (T := TX2) (N := 12) (v := .int (M19.1 49 7)) (hL _ _ cL_49) rfl rfl rfl (by decide) (fun z hz => List.mem_cons_of_mem _ (iw_X2 z hz)) (List.mem_cons_of_mem _ gm_87) dX2_go_84 ?_
      refine xm_bipush hX (v := 16) rfl dX2_go_87 ?_
      refine xm_iload hX 0 dX2_go_89 rfl ?_
      refine xm_imul hX dX2_go_91 ?_
      refine xm_aload_n hX 3 dX2_go_92 rfl rfl ?_
      refine xm_get hX (k := 49) (ci := 2) (j := 7) (C := RX2) (T := TX2) (N := 12) (v := .int (M19.1 49 7)) (hL _ _ cL_49) rfl rfl rfl (by decide) (fun z hz => List.mem_cons_of_mem _ (iw_X2 z hz)) (List.mem_cons_of_mem _ gm_87) dX2_go_93 ?_
      refine xm_isub hX dX2_go_96 ?_
      refine xm_i2l hX dX2_go_97 ?_
      refine xm_aload_n hX 5 dX2_go_98 rfl rfl ?_
      refine xm_iconst hX (v := 5) rfl dX2_go_99 ?_
      refine xm_calli hX (xm_runSN hX (As := (fun g => [.ref (g.1 ps), .int (5 : Int32)])) (kX3_item hL ps 9 hps (5 : Int32) M19) (xm_gN gm_154) rfl ⟨rfl, rfl⟩ nw_3 (List.mem_cons_of_mem _ gm_1) (List.mem_cons_of_mem _ gm_153) hdX3_item ⟨Nat.le_of_ble_eq_true rfl, Nat.le_of_ble_eq_true rfl⟩ rfl (Nat.le_of_ble_eq_true rfl) rfl ⟨Nat.le_of_ble_eq_true rfl, Nat.le_of_ble_eq_true rfl⟩ dX2_go_100) (fun x21 M20 => ?_)
      refine xm_i2l hX dX2_go_103 ?_
      refine xm_calll hX (xm_runSN hX (As := (fun g => [.long ((((16 : Int32) * x6) - (M19.1 49 7)).toInt64), .long (x21.toInt64)])) (kX3_ratio hL ((((16 : Int32) * x6) - (M19.1 49 7)).toInt64) x21.toInt64 M20) (xm_gN gm_230) rfl ⟨rfl, rfl⟩ nw_5 (List.mem_cons_of_mem _ gm_1) (List.mem_cons_of_mem _ gm_229) hdX3_ratio ⟨Nat.le_of_ble_eq_true rfl, Nat.le_of_ble_eq_true rfl⟩ rfl (Nat.le_of_ble_eq_true rfl) rfl ⟨Nat.le_of_ble_eq_true rfl, Nat.le_of_ble_eq_true rfl⟩ dX2_go_104) (fun x23 M22 => ?_)
      refine xm_l2i hX dX2_go_107 ?_
      refine xm_iadd hX dX2_go_108 ?_
      refine xm_puti hX (k := 49) (ci := 2) (j := 7) (C := RX2) (T := TX2) (N := 12) (t0 := tyX2) (hL _ _ cL_49) rfl rfl (by decide) (fun z hz => List.mem_cons_of_mem _ (iw_X2 z hz)) tyX2_ok nmX2 rfl rfl (List.mem_cons_of_mem _ gm_87) dX2_go_109 (fun M24 => ?_)
      exact xm_vret hX dX2_go_112
-- ===== OdometryDesk$Way.meet(LOdometryDesk$State;I)V ['49', '1']
theorem dX2_meet_0 : decode cX2_meet 0 = .ok (.aload_n 1, 1) := by decide +kernel
theorem dX2_meet_1 : decode cX2_meet 1 = .ok (.getfield 119, 3) := by decide +kernel
theorem dX2_meet_4 : decode cX2_meet 4 = .ok (.iconst 0, 1) := by decide +kernel
theorem dX2_meet_5 : decode cX2_meet 5 = .ok (.iload_n 2, 1) := by decide +kernel
theorem dX2_meet_6 : decode cX2_meet 6 = .ok (.invokestatic 91, 3) := by decide +kernel
theorem dX2_meet_9 : decode cX2_meet 9 = .ok (.istore_n 3, 1) := by decide +kernel
theorem dX2_meet_10 : decode cX2_meet 10 = .ok (.sipush 1000, 3) := by decide +kernel
theorem dX2_meet_13 : decode cX2_meet 13 = .ok (.aload_n 1, 1) := by decide +kernel
theorem dX2_meet_14 : decode cX2_meet 14 = .ok (.getfield 122, 3) := by decide +kernel
theorem dX2_meet_17 : decode cX2_meet 17 = .ok (.iconst 0, 1) := by decide +kernel
theorem dX2_meet_18 : decode cX2_meet 18 = .ok (.iload_n 3, 1) := by decide +kernel
theorem dX2_meet_19 : decode cX2_meet 19 = .ok (.invokestatic 91, 3) := by decide +kernel
theorem dX2_meet_22 : decode cX2_meet 22 = .ok (.imul, 1) := by decide +kernel
theorem dX2_meet_23 : decode cX2_meet 23 = .ok (.istore 4, 2) := by decide +kernel
theorem dX2_meet_25 : decode cX2_meet 25 = .ok (.sipush 1000, 3) := by decide +kernel
theorem dX2_meet_28 : decode cX2_meet 28 = .ok (.aload_n 1, 1) := by decide +kernel
theorem dX2_meet_29 : decode cX2_meet 29 = .ok (.getfield 122, 3) := by decide +kernel
theorem dX2_meet_32 : decode cX2_meet 32 = .ok (.iconst 1, 1) := by decide +kernel
theorem dX2_meet_33 : decode cX2_meet 33 = .ok (.iload_n 3, 1) := by decide +kernel
theorem dX2_meet_34 : decode cX2_meet 34 = .ok (.invokestatic 91, 3) := by decide +kernel
theorem dX2_meet_37 : decode cX2_meet 37 = .ok (.imul, 1) := by decide +kernel
theorem dX2_meet_38 : decode cX2_meet 38 = .ok (.istore 5, 2) := by decide +kernel
theorem dX2_meet_40 : decode cX2_meet 40 = .ok (.aload_n 0, 1) := by decide +kernel
theorem dX2_meet_41 : decode cX2_meet 41 = .ok (.iload_n 2, 1) := by decide +kernel
theorem dX2_meet_42 : decode cX2_meet 42 = .ok (.iconst 4, 1) := by decide +kernel
theorem dX2_meet_43 : decode cX2_meet 43 = .ok (.invokevirtual 125, 3) := by decide +kernel
theorem dX2_meet_46 : decode cX2_meet 46 = .ok (.aload_n 0, 1) := by decide +kernel
theorem dX2_meet_47 : decode cX2_meet 47 = .ok (.getfield 16, 3) := by decide +kernel
theorem dX2_meet_50 : decode cX2_meet 50 = .ok (.iconst 1, 1) := by decide +kernel
theorem dX2_meet_51 : decode cX2_meet 51 = .ok (.iload_n 2, 1) := by decide +kernel
theorem dX2_meet_52 : decode cX2_meet 52 = .ok (.iload_n 3, 1) := by decide +kernel
theorem dX2_meet_53 : decode cX2_meet 53 = .ok (.invokestatic 109, 3) := by decide +kernel
theorem dX2_meet_56 : decode cX2_meet 56 = .ok (.aload_n 0, 1) := by decide +kernel
theorem dX2_meet_57 : decode cX2_meet 57 = .ok (.getfield 16, 3) := by decide +kernel
theorem dX2_meet_60 : decode cX2_meet 60 = .ok (.bipush 9, 2) := by decide +kernel
theorem dX2_meet_62 : decode cX2_meet 62 = .ok (.iload_n 2, 1) := by decide +kernel
theorem dX2_meet_63 : decode cX2_meet 63 = .ok (.aload_n 0, 1) := by decide +kernel
theorem dX2_meet_64 : decode cX2_meet 64 = .ok (.getfield 29, 3) := by decide +kernel
theorem dX2_meet_67 : decode cX2_meet 67 = .ok (.iload 4, 2) := by decide +kernel
theorem dX2_meet_69 : decode cX2_meet 69 = .ok (.isub, 1) := by decide +kernel
theorem dX2_meet_70 : decode cX2_meet 70 = .ok (.invokestatic 109, 3) := by decide +kernel
theorem dX2_meet_73 : decode cX2_meet 73 = .ok (.aload_n 0, 1) := by decide +kernel
theorem dX2_meet_74 : decode cX2_meet 74 = .ok (.getfield 16, 3) := by decide +kernel
theorem dX2_meet_77 : decode cX2_meet 77 = .ok (.bipush 10, 2) := by decide +kernel
theorem dX2_meet_79 : decode cX2_meet 79 = .ok (.iload_n 2, 1) := by decide +kernel
theorem dX2_meet_80 : decode cX2_meet 80 = .ok (.aload_n 0, 1) := by decide +kernel
theorem dX2_meet_81 : decode cX2_meet 81 = .ok (.getfield 35, 3) := by decide +kernel
theorem dX2_meet_84 : decode cX2_meet 84 = .ok (.iload 5, 2) := by decide +kernel
theorem dX2_meet_86 : decode cX2_meet 86 = .ok (.isub, 1) := by decide +kernel
theorem dX2_meet_87 : decode cX2_meet 87 = .ok (.invokestatic 109, 3) := by decide +kernel
theorem dX2_meet_90 : decode cX2_meet 90 = .ok (.aload_n 0, 1) := by decide +kernel
theorem dX2_meet_91 : decode cX2_meet 91 = .ok (.dup, 1) := by decide +kernel
theorem dX2_meet_92 : decode cX2_meet 92 = .ok (.getfield 53, 3) := by decide +kernel
theorem dX2_meet_95 : decode cX2_meet 95 = .ok (.aload_n 0, 1) := by decide +kernel
theorem dX2_meet_96 : decode cX2_meet 96 = .ok (.getfield 29, 3) := by decide +kernel
theorem dX2_meet_99 : decode cX2_meet 99 = .ok (.iload 4, 2) := by decide +kernel
theorem dX2_meet_101 : decode cX2_meet 101 = .ok (.isub, 1) := by decide +kernel
theorem dX2_meet_102 : decode cX2_meet 102 = .ok (.invokestatic 129, 3) := by decide +kernel
theorem dX2_meet_105 : decode cX2_meet 105 = .ok (.i2l, 1) := by decide +kernel
theorem dX2_meet_106 : decode cX2_meet 106 = .ok (.aload_n 0, 1) := by decide +kernel
theorem dX2_meet_107 : decode cX2_meet 107 = .ok (.getfield 35, 3) := by decide +kernel
theorem dX2_meet_110 : decode cX2_meet 110 = .ok (.iload 5, 2) := by decide +kernel
theorem dX2_meet_112 : decode cX2_meet 112 = .ok (.isub, 1) := by decide +kernel
theorem dX2_meet_113 : decode cX2_meet 113 = .ok (.invokestatic 129, 3) := by decide +kernel
theorem dX2_meet_116 : decode cX2_meet 116 = .ok (.i2l, 1) := by decide +kernel
theorem dX2_meet_117 : decode cX2_meet 117 = .ok (.ladd, 1) := by decide +kernel
theorem dX2_meet_118 : decode cX2_meet 118 = .ok (.ladd, 1) := by decide +kernel
theorem dX2_meet_119 : decode cX2_meet 119 = .ok (.putfield 53, 3) := by decide +kernel
theorem dX2_meet_122 : decode cX2_meet 122 = .ok (.aload_n 0, 1) := by decide +kernel
theorem dX2_meet_123 : decode cX2_meet 123 = .ok (.iload 4, 2) := by decide +kernel
theorem dX2_meet_125 : decode cX2_meet 125 = .ok (.putfield 29, 3) := by decide +kernel
theorem dX2_meet_128 : decode cX2_meet 128 = .ok (.aload_n 0, 1) := by decide +kernel
theorem dX2_meet_129 : decode cX2_meet 129 = .ok (.iload 5, 2) := by decide +kernel
theorem dX2_meet_131 : decode cX2_meet 131 = .ok (.putfield 35, 3) := by decide +kernel
theorem dX2_meet_134 : decode cX2_meet 134 = .ok (.return_, 1) := by decide +kernel
abbrev wX2_meet : List Cond := .code yX2_meet cX2_meet 6 none :: lw_gd
theorem hdX2_meet : (yX2_meet.cls ≠ "java/lang/invoke/MethodHandle" ∧ yX2_meet.cls ≠ "java/lang/invoke/VarHandle" ∧ (parseMethodDescriptor yX2_meet.desc).map (fun d => d.parameters.length) = some 2) := by decide +kernel
def fX2_meet  (a2 : Int32) (M : xm_M) : Option xm_M :=
  xm_bi (fX3_item_ 12 4 13 120 (0 : Int32) a2 M) (fun x2 M1 => xm_bi (fX3_item_ 9 2 10 6 (0 : Int32) x2 M1) (fun x4 M3 => xm_lt ((1000 : Int32) * x4) (fun x5 => xm_bi (fX3_item_ 9 2 10 6 (1 : Int32) x2 M3) (fun x7 M6 => xm_lt ((1000 : Int32) * x7) (fun x8 => xm_bv (fX2_keepKind a2 (4 : Int32) M6) (fun M9 => xm_bv (fX3_keep_ 56 11 57 120 (1 : Int32) a2 x2 M9) (fun M10 => xm_bv (fX3_keep_ 56 11 57 120 (9 : Int32) a2 ((M10.1 49 3) - x5) M10) (fun M11 => xm_bv (fX3_keep_ 56 11 57 120 (10 : Int32) a2 ((M11.1 49 4) - x8) M11) (fun M12 => xm_lt (xm_sl M12 49 9 ((M12.2 49 9) + (((if 0 ≤ ((M12.1 49 3) - x5) then ((M12.1 49 3) - x5) else 0 - ((M12.1 49 3) - x5)).toInt64) + ((if 0 ≤ ((M12.1 49 4) - x8) then ((M12.1 49 4) - x8) else 0 - ((M12.1 49 4) - x8)).toInt64)))) (fun M13 => xm_lt (xm_s M13 49 3 x5) (fun M14 => xm_lt (xm_s M14 49 4 x8) (fun M15 => some M15))))))))))))
set_option maxRecDepth 20000 in
theorem kX2_meet {l : Launch} {L : List xm_Sh} (hL : xm_pre L)   (a2 : Int32) (M : xm_M) : xm_C l yX2_meet wX2_meet ({ frames := 2, cells := 0, slots := 0, locals := 45 }) L (fun g => [.ref (g.1 49), .ref (g.1 1), .int a2]) M xm_Fv (fX2_meet  a2 M) := by
  refine xm_C.of (by decide) rfl (fun g => Nat.le_of_ble_eq_true rfl) ?_
  intro p e s m args below meth c D g A hX
  refine xm_lv (lv' := [(0, .ref (g.1 49)), (1, .ref (g.1 1)), (2, .int a2)]) rfl ?_
  unfold fX2_meet
  refine xm_aload_n hX 1 dX2_meet_0 rfl rfl ?_
  refine xm_get hX (k := 1) (ci := 1) (j := 3) (C := RX1) (T := TX1) (N := 11) (v := .ref (g.1 12)) (hL _ _ cL_1) rfl rfl rfl (by decide) (fun z hz => List.mem_cons_of_mem _ (iw_X1 z hz)) (List.mem_cons_of_mem _ gm_37) dX2_meet_1 ?_
  refine xm_iconst hX (v := 0) rfl dX2_meet_4 ?_
  refine xm_iload_n hX 2 dX2_meet_5 rfl rfl ?_
  refine xm_calli hX (xm_runSN hX (As := (fun g => [.ref (g.1 12), .int (0 : Int32), .int a2])) (kX3_item_ hL 12 4 13 120 (hL _ _ cL_12) (cL_rowsL_12 hL) (0 : Int32) a2 M) (xm_gN gm_216) rfl ⟨rfl, rfl⟩ nw_2 (List.mem_cons_of_mem _ gm_1) (List.mem_cons_of_mem _ gm_215) hdX3_item_ ⟨Nat.le_of_ble_eq_true rfl, Nat.le_of_ble_eq_true rfl⟩ rfl (Nat.le_of_ble_eq_true rfl) rfl ⟨Nat.le_of_ble_eq_true rfl, Nat.le_of_ble_eq_true rfl⟩ dX2_meet_6) (fun x2 M1 => ?_)
  refine xm_istore_n hX (lv' := [(3, .int x2), (0, .ref (g.1 49)), (1, .ref (g.1 1)), (2, .int a2)]) dX2_meet_9 rfl (by decide) rfl ?_
  refine xm_sipush hX (v := 1000) rfl dX2_meet_10 ?_
  refine xm_aload_n hX 2 dX2_meet_13 rfl rfl ?_
  refine xm_get hX (k := 1) (ci := 1) (j := 2) (C := RX1) (T := TX1) (N := 11) (v := .ref (g.1 9)) (hL _ _ cL_1) rfl rfl rfl (by decide) (fun z hz => List.mem_cons_of_mem _ (iw_X1 z hz)) (List.mem_cons_of_mem _ gm_35) dX2_meet_14 ?_
  refine xm_iconst hX (v := 0) rfl dX2_meet_17 ?_
  refine xm_iload_n hX 0 dX2_meet_18 rfl rfl ?_
  refine xm_calli hX (xm_runSN hX (As := (fun g => [.ref (g.1 9), .int (0 : Int32), .int x2])) (kX3_item_ hL 9 2 10 6 (hL _ _ cL_9) (cL_rowsL_9 hL) (0 : Int32) x2 M1) (xm_gN gm_216) rfl ⟨rfl, rfl⟩ nw_2 (List.mem_cons_of_mem _ gm_1) (List.mem_cons_of_mem _ gm_215) hdX3_item_ ⟨Nat.le_of_ble_eq_true rfl, Nat.le_of_ble_eq_true rfl⟩ rfl (Nat.le_of_ble_eq_true rfl) rfl ⟨Nat.le_of_ble_eq_true rfl, Nat.le_of_ble_eq_true rfl⟩ dX2_meet_19) (fun x4 M3 => ?_)
  refine xm_imul hX dX2_meet_22 ?_
  refine xm_nmi (fun x5 => ?_)
  refine xm_istore hX (lv' := [(4, .int x5), (3, .int x2), (0, .ref (g.1 49)), (1, .ref (g.1 1)), (2, .int a2)]) dX2_meet_23 (by decide) rfl ?_
  refine xm_sipush hX (v := 1000) rfl dX2_meet_25 ?_
  refine xm_aload_n hX 3 dX2_meet_28 rfl rfl ?_
  refine xm_get hX (k := 1) (ci := 1) (j := 2) (C := RX1) (T := TX1) (N := 11) (v := .ref (g.1 9)) (hL _ _ cL_1) rfl rfl rfl (by decide) (fun z hz => List.mem_cons_of_mem _ (iw_X1 z hz)) (List.mem_cons_of_mem _ gm_35) dX2_meet_29 ?_
  refine xm_iconst hX (v := 1) rfl dX2_meet_32 ?_
  refine xm_iload_n hX 1 dX2_meet_33 rfl rfl ?_
  refine xm_calli hX (xm_runSN hX (As := (fun g => [.ref (g.1 9), .int (1 : Int32), .int x2])) (kX3_item_ hL 9 2 10 6 (hL _ _ cL_9) (cL_rowsL_9 hL) (1 : Int32) x2 M3) (xm_gN gm_216) rfl ⟨rfl, rfl⟩ nw_2 (List.mem_cons_of_mem _ gm_1) (List.mem_cons_of_mem _ gm_215) hdX3_item_ ⟨Nat.le_of_ble_eq_true rfl, Nat.le_of_ble_eq_true rfl⟩ rfl (Nat.le_of_ble_eq_true rfl) rfl ⟨Nat.le_of_ble_eq_true rfl, Nat.le_of_ble_eq_true rfl⟩ dX2_meet_34) (fun x7 M6 => ?_)
  refine xm_imul hX dX2_meet_37 ?_
  refine xm_nmi (fun x8 => ?_)
  refine xm_istore hX (lv' := [(5, .int x8), (4, .int x5), (3, .int x2), (0, .ref (g.1 49)), (1, .ref (g.1 1)), (2, .int a2)]) dX2_meet_38 (by decide) rfl ?_
  refine xm_aload_n hX 3 dX2_meet_40 rfl rfl ?_
  refine xm_iload_n hX 5 dX2_meet_41 rfl rfl ?_
  refine xm_iconst hX (v := 4) rfl dX2_meet_42 ?_
  refine xm_callv hX (xm_runV hX (k := 49) (ci := 2) (As := (fun g => [.int a2, .int (4 : Int32)])) (kX2_keepKind hL a2 (4 : Int32) M6) (hL _ _ cL_49) rfl (xm_gV gm_220 gm_221 gm_502 gm_3 gm_222) rfl ⟨rfl, rfl⟩ ⟨rfl, hdX2_keepKind⟩ ⟨Nat.le_of_ble_eq_true rfl, Nat.le_of_ble_eq_true rfl⟩ rfl (Nat.le_of_ble_eq_true rfl) rfl ⟨Nat.le_of_ble_eq_true rfl, Nat.le_of_ble_eq_true rfl⟩ dX2_meet_43) (fun M9 => ?_)
  refine xm_aload_n hX 3 dX2_meet_46 rfl rfl ?_
  refine xm_get hX (k := 49) (ci := 2) (j := 1) (C := RX2) (T := TX2) (N := 12) (v := .ref (g.1 56)) (hL _ _ cL_49) rfl rfl rfl (by decide) (fun z hz => List.mem_cons_of_mem _ (iw_X2 z hz)) (List.mem_cons_of_mem _ gm_75) dX2_meet_47 ?_
  refine xm_iconst hX (v := 1) rfl dX2_meet_50 ?_
  refine xm_iload_n hX 5 dX2_meet_51 rfl rfl ?_
  refine xm_iload_n hX 2 dX2_meet_52 rfl rfl ?_
  refine xm_callv hX (xm_runSN hX (As := (fun g => [.ref (g.1 56), .int (1 : Int32), .int a2, .int x2])) (kX3_keep_ hL 56 11 57 120 (hL _ _ cL_56) (cL_rowsL_56 hL) (1 : Int32) a2 x2 M9) (xm_gN gm_172) rfl ⟨rfl, rfl⟩ nw_0 (List.mem_cons_of_mem _ gm_1) (List.mem_cons_of_mem _ gm_171) hdX3_keep_ ⟨Nat.le_of_ble_eq_true rfl, Nat.le_of_ble_eq_true rfl⟩ rfl (Nat.le_of_ble_eq_true rfl) rfl ⟨Nat.le_of_ble_eq_true rfl, Nat.le_of_ble_eq_true rfl⟩ dX2_meet_53) (fun M10 => ?_)
  refine xm_aload_n hX 3 dX2_meet_56 rfl rfl ?_
  refine xm_get hX (k := 49) (ci := 2) (j := 1) (C := RX2) (T := TX2) (N := 12) (v := .ref (g.1 56)) (hL _ _ cL_49) rfl rfl rfl (by decide) (fun z hz => List.mem_cons_of_mem _ (iw_X2 z hz)) (List.mem_cons_of_mem _ gm_75) dX2_meet_57 ?_
  refine xm_bipush hX (v := 9) rfl dX2_meet_60 ?_
  refine xm_iload_n hX 5 dX2_meet_62 rfl rfl ?_
  refine xm_aload_n hX 3 dX2_meet_63 rfl rfl ?_
  refine xm_get hX (k := 49) (ci := 2) (j := 3) (C := RX2) (T := TX2) (N := 12) (v := .int (M10.1 49 3)) (hL _ _ cL_49) rfl rfl rfl (by decide) (fun z hz => List.mem_cons_of_mem _ (iw_X2 z hz)) (List.mem_cons_of_mem _ gm_79) dX2_meet_64 ?_
  refine xm_iload hX 1 dX2_meet_67 rfl ?_
  refine xm_isub hX dX2_meet_69 ?_
  refine xm_callv hX (xm_runSN hX (As := (fun g => [.ref (g.1 56), .int (9 : Int32), .int a2, .int ((M10.1 49 3) - x5)])) (kX3_keep_ hL 56 11 57 120 (hL _ _ cL_56) (cL_rowsL_56 hL) (9 : Int32) a2 ((M10.1 49 3) - x5) M10) (xm_gN gm_172) rfl ⟨rfl, rfl⟩ nw_0 (List.mem_cons_of_mem _ gm_1) (List.mem_cons_of_mem _ gm_171) hdX3_keep_ ⟨Nat.le_of_ble_eq_true rfl, Nat.le_of_ble_eq_true rfl⟩ rfl (Nat.le_of_ble_eq_true rfl) rfl ⟨Nat.le_of_ble_eq_true rfl, Nat.le_of_ble_eq_true rfl⟩ dX2_meet_70) (fun M11 => ?_)
  refine xm_aload_n hX 3 dX2_meet_73 rfl rfl ?_
  refine xm_get hX (k := 49) (ci := 2) (j := 1) (C := RX2) (T := TX2) (N := 12) (v := .ref (g.1 56)) (hL _ _ cL_49) rfl rfl rfl (by decide) (fun z hz => List.mem_cons_of_mem _ (iw_X2 z hz)) (List.mem_cons_of_mem _ gm_75) dX2_meet_74 ?_
  refine xm_bipush hX (v := 10) rfl dX2_meet_77 ?_
  refine xm_iload_n hX 5 dX2_meet_79 rfl rfl ?_
  refine xm_aload_n hX 3 dX2_meet_80 rfl rfl ?_
  refine xm_get hX (k := 49) (ci := 2) (j := 4) (C := RX2) (T := TX2) (N := 12) (v := .int (M11.1 49 4)) (hL _ _ cL_49) rfl rfl rfl (by decide) (fun z hz => List.mem_cons_of_mem _ (iw_X2 z hz)) (List.mem_cons_of_mem _ gm_81) dX2_meet_81 ?_
  refine xm_iload hX 0 dX2_meet_84 rfl ?_
  refine xm_isub hX dX2_meet_86 ?_
  refine xm_callv hX (xm_runSN hX (As := (fun g => [.ref (g.1 56), .int (10 : Int32), .int a2, .int ((M11.1 49 4) - x8)])) (kX3_keep_ hL 56 11 57 120 (hL _ _ cL_56) (cL_rowsL_56 hL) (10 : Int32) a2 ((M11.1 49 4) - x8) M11) (xm_gN gm_172) rfl ⟨rfl, rfl⟩ nw_0 (List.mem_cons_of_mem _ gm_1) (List.mem_cons_of_mem _ gm_171) hdX3_keep_ ⟨Nat.le_of_ble_eq_true rfl, Nat.le_of_ble_eq_true rfl⟩ rfl (Nat.le_of_ble_eq_true rfl) rfl ⟨Nat.le_of_ble_eq_true rfl, Nat.le_of_ble_eq_true rfl⟩ dX2_meet_87) (fun M12 => ?_)
  refine xm_aload_n hX 3 dX2_meet_90 rfl rfl ?_
  refine xm_dup hX rfl dX2_meet_91 ?_
  refine xm_get hX (k := 49) (ci := 2) (j := 9) (C := RX2) (T := TX2) (N := 12) (v := .long (M12.2 49 9)) (hL _ _ cL_49) rfl rfl rfl (by decide) (fun z hz => List.mem_cons_of_mem _ (iw_X2 z hz)) (List.mem_cons_of_mem _ gm_90) dX2_meet_92 ?_
  refine xm_aload_n hX 3 dX2_meet_95 rfl rfl ?_
  refine xm_get hX (k := 49) (ci := 2) (j := 3) (C := RX2) (T := TX2) (N := 12) (v := .int (M12.1 49 3)) (hL _ _ cL_49) rfl rfl rfl (by decide) (fun z hz => List.mem_cons_of_mem _ (iw_X2 z hz)) (List.mem_cons_of_mem _ gm_79) dX2_meet_96 ?_
  refine xm_iload hX 1 dX2_meet_99 rfl ?_
  refine xm_isub hX dX2_meet_101 ?_
  refine xm_mabs hX (List.mem_cons_of_mem _ gm_223) (List.mem_cons_of_mem _ gm_224) (List.mem_cons_of_mem _ gm_5) (List.mem_cons_of_mem _ gm_225) (Nat.le_of_ble_eq_true rfl) (Nat.le_of_ble_eq_true rfl) ⟨Nat.le_of_ble_eq_true rfl, Nat.le_of_ble_eq_true rfl⟩ dX2_meet_102 ?_
  refine xm_i2l hX dX2_meet_105 ?_
  refine xm_aload_n hX 3 dX2_meet_106 rfl rfl ?_
  refine xm_get hX (k := 49) (ci := 2) (j := 4) (C := RX2) (T := TX2) (N := 12) (v := .int (M12.1 49 4)) (hL _ _ cL_49) rfl rfl rfl (by decide) (fun z hz => List.mem_cons_of_mem _ (iw_X2 z hz)) (List.mem_cons_of_mem _ gm_81) dX2_meet_107 ?_
  refine xm_iload hX 0 dX2_meet_110 rfl ?_
  refine xm_isub hX dX2_meet_112 ?_
  refine xm_mabs hX (List.mem_cons_of_mem _ gm_223) (List.mem_cons_of_mem _ gm_224) (List.mem_cons_of_mem _ gm_5) (List.mem_cons_of_mem _ gm_225) (Nat.le_of_ble_eq_true rfl) (Nat.le_of_ble_eq_true rfl) ⟨Nat.le_of_ble_eq_true rfl, Nat.le_of_ble_eq_true rfl⟩ dX2_meet_113 ?_
  refine xm_i2l hX dX2_meet_116 ?_
  refine xm_ladd hX dX2_meet_117 ?_
  refine xm_ladd hX dX2_meet_118 ?_
  refine xm_putl hX (k := 49) (ci := 2) (j := 9) (C := RX2) (T := TX2) (N := 12) (t0 := tyX2) (hL _ _ cL_49) rfl rfl (by decide) (fun z hz => List.mem_cons_of_mem _ (iw_X2 z hz)) tyX2_ok nmX2 rfl rfl (List.mem_cons_of_mem _ gm_90) dX2_meet_119 (fun M13 => ?_)
  refine xm_aload_n hX 3 dX2_meet_122 rfl rfl ?_
  refine xm_iload hX 1 dX2_meet_123 rfl ?_
  refine xm_puti hX (k := 49) (ci := 2) (j := 3) (C := RX2) (T := TX2) (N := 12) (t0 := tyX2) (hL _ _ cL_49) rfl rfl (by decide) (fun z hz => List.mem_cons_of_mem _ (iw_X2 z hz)) tyX2_ok nmX2 rfl rfl (List.mem_cons_of_mem _ gm_79) dX2_meet_125 (fun M14 => ?_)
  refine xm_aload_n hX 3 dX2_meet_128 rfl rfl ?_
  refine xm_iload hX 0 dX2_meet_129 rfl ?_
  refine xm_puti hX (k := 49) (ci := 2) (j := 4) (C := RX2) (T := TX2) (N := 12) (t0 := tyX2) (hL _ _ cL_49) rfl rfl (by decide) (fun z hz => List.mem_cons_of_mem _ (iw_X2 z hz)) tyX2_ok nmX2 rfl rfl (List.mem_cons_of_mem _ gm_81) dX2_meet_131 (fun M15 => ?_)
  exact xm_vret hX dX2_meet_134
-- ===== OdometryDesk$Way.follow(LOdometryDesk$State;[I)V ['49', '1', '2']
theorem dX2_follow_0 : decode cX2_follow 0 = .ok (.aload_n 0, 1) := by decide +kernel
theorem dX2_follow_1 : decode cX2_follow 1 = .ok (.sipush 1000, 3) := by decide +kernel
theorem dX2_follow_4 : decode cX2_follow 4 = .ok (.aload_n 1, 1) := by decide +kernel
theorem dX2_follow_5 : decode cX2_follow 5 = .ok (.getfield 23, 3) := by decide +kernel
theorem dX2_follow_8 : decode cX2_follow 8 = .ok (.imul, 1) := by decide +kernel
theorem dX2_follow_9 : decode cX2_follow 9 = .ok (.putfield 29, 3) := by decide +kernel
theorem dX2_follow_12 : decode cX2_follow 12 = .ok (.aload_n 0, 1) := by decide +kernel
theorem dX2_follow_13 : decode cX2_follow 13 = .ok (.sipush 1000, 3) := by decide +kernel
theorem dX2_follow_16 : decode cX2_follow 16 = .ok (.aload_n 1, 1) := by decide +kernel
theorem dX2_follow_17 : decode cX2_follow 17 = .ok (.getfield 32, 3) := by decide +kernel
theorem dX2_follow_20 : decode cX2_follow 20 = .ok (.imul, 1) := by decide +kernel
theorem dX2_follow_21 : decode cX2_follow 21 = .ok (.putfield 35, 3) := by decide +kernel
theorem dX2_follow_24 : decode cX2_follow 24 = .ok (.aload_n 0, 1) := by decide +kernel
theorem dX2_follow_25 : decode cX2_follow 25 = .ok (.aload_n 1, 1) := by decide +kernel
theorem dX2_follow_26 : decode cX2_follow 26 = .ok (.getfield 38, 3) := by decide +kernel
theorem dX2_follow_29 : decode cX2_follow 29 = .ok (.putfield 41, 3) := by decide +kernel
theorem dX2_follow_32 : decode cX2_follow 32 = .ok (.aload_n 0, 1) := by decide +kernel
theorem dX2_follow_33 : decode cX2_follow 33 = .ok (.iconst 0, 1) := by decide +kernel
theorem dX2_follow_34 : decode cX2_follow 34 = .ok (.putfield 44, 3) := by decide +kernel
theorem dX2_follow_37 : decode cX2_follow 37 = .ok (.aload_n 0, 1) := by decide +kernel
theorem dX2_follow_38 : decode cX2_follow 38 = .ok (.iconst 0, 1) := by decide +kernel
theorem dX2_follow_39 : decode cX2_follow 39 = .ok (.putfield 47, 3) := by decide +kernel
theorem dX2_follow_42 : decode cX2_follow 42 = .ok (.aload_n 0, 1) := by decide +kernel
theorem dX2_follow_43 : decode cX2_follow 43 = .ok (.iconst 0, 1) := by decide +kernel
theorem dX2_follow_44 : decode cX2_follow 44 = .ok (.putfield 50, 3) := by decide +kernel
theorem dX2_follow_47 : decode cX2_follow 47 = .ok (.aload_n 0, 1) := by decide +kernel
theorem dX2_follow_48 : decode cX2_follow 48 = .ok (.lconst 0, 1) := by decide +kernel
theorem dX2_follow_49 : decode cX2_follow 49 = .ok (.putfield 53, 3) := by decide +kernel
theorem dX2_follow_52 : decode cX2_follow 52 = .ok (.aload_n 0, 1) := by decide +kernel
theorem dX2_follow_53 : decode cX2_follow 53 = .ok (.getfield 19, 3) := by decide +kernel
theorem dX2_follow_56 : decode cX2_follow 56 = .ok (.iconst 0, 1) := by decide +kernel
theorem dX2_follow_57 : decode cX2_follow 57 = .ok (.invokestatic 57, 3) := by decide +kernel
theorem dX2_follow_60 : decode cX2_follow 60 = .ok (.iconst 0, 1) := by decide +kernel
theorem dX2_follow_61 : decode cX2_follow 61 = .ok (.istore_n 3, 1) := by decide +kernel
theorem dX2_follow_62 : decode cX2_follow 62 = .ok (.iload_n 3, 1) := by decide +kernel
theorem dX2_follow_63 : decode cX2_follow 63 = .ok (.aload_n 0, 1) := by decide +kernel
theorem dX2_follow_64 : decode cX2_follow 64 = .ok (.getfield 16, 3) := by decide +kernel
theorem dX2_follow_67 : decode cX2_follow 67 = .ok (.arraylength, 1) := by decide +kernel
theorem dX2_follow_68 : decode cX2_follow 68 = .ok (.if_icmp .ge 20, 3) := by decide +kernel
theorem dX2_follow_71 : decode cX2_follow 71 = .ok (.aload_n 0, 1) := by decide +kernel
theorem dX2_follow_72 : decode cX2_follow 72 = .ok (.getfield 16, 3) := by decide +kernel
theorem dX2_follow_75 : decode cX2_follow 75 = .ok (.iload_n 3, 1) := by decide +kernel
theorem dX2_follow_76 : decode cX2_follow 76 = .ok (.aaload, 1) := by decide +kernel
theorem dX2_follow_77 : decode cX2_follow 77 = .ok (.ldc 63, 2) := by decide +kernel
theorem dX2_follow_79 : decode cX2_follow 79 = .ok (.invokestatic 57, 3) := by decide +kernel
theorem dX2_follow_82 : decode cX2_follow 82 = .ok (.iinc 3 1, 3) := by decide +kernel
theorem dX2_follow_85 : decode cX2_follow 85 = .ok (.goto (-23), 3) := by decide +kernel
theorem dX2_follow_88 : decode cX2_follow 88 = .ok (.aload_n 0, 1) := by decide +kernel
theorem dX2_follow_89 : decode cX2_follow 89 = .ok (.iconst 0, 1) := by decide +kernel
theorem dX2_follow_90 : decode cX2_follow 90 = .ok (.invokevirtual 64, 3) := by decide +kernel
theorem dX2_follow_93 : decode cX2_follow 93 = .ok (.iconst 0, 1) := by decide +kernel
theorem dX2_follow_94 : decode cX2_follow 94 = .ok (.istore_n 3, 1) := by decide +kernel
theorem dX2_follow_95 : decode cX2_follow 95 = .ok (.iload_n 3, 1) := by decide +kernel
theorem dX2_follow_96 : decode cX2_follow 96 = .ok (.aload_n 1, 1) := by decide +kernel
theorem dX2_follow_97 : decode cX2_follow 97 = .ok (.getfield 68, 3) := by decide +kernel
theorem dX2_follow_100 : decode cX2_follow 100 = .ok (.if_icmp .ge 40, 3) := by decide +kernel
theorem dX2_follow_103 : decode cX2_follow 103 = .ok (.aload_n 1, 1) := by decide +kernel
theorem dX2_follow_104 : decode cX2_follow 104 = .ok (.iload_n 3, 1) := by decide +kernel
theorem dX2_follow_105 : decode cX2_follow 105 = .ok (.invokevirtual 71, 3) := by decide +kernel
theorem dX2_follow_108 : decode cX2_follow 108 = .ok (.ifCond .eq 12, 3) := by decide +kernel
theorem dX2_follow_111 : decode cX2_follow 111 = .ok (.aload_n 0, 1) := by decide +kernel
theorem dX2_follow_112 : decode cX2_follow 112 = .ok (.aload_n 1, 1) := by decide +kernel
theorem dX2_follow_113 : decode cX2_follow 113 = .ok (.iload_n 3, 1) := by decide +kernel
theorem dX2_follow_114 : decode cX2_follow 114 = .ok (.invokevirtual 75, 3) := by decide +kernel
theorem dX2_follow_117 : decode cX2_follow 117 = .ok (.goto 10, 3) := by decide +kernel
theorem dX2_follow_120 : decode cX2_follow 120 = .ok (.aload_n 0, 1) := by decide +kernel
theorem dX2_follow_121 : decode cX2_follow 121 = .ok (.aload_n 1, 1) := by decide +kernel
theorem dX2_follow_122 : decode cX2_follow 122 = .ok (.aload_n 2, 1) := by decide +kernel
theorem dX2_follow_123 : decode cX2_follow 123 = .ok (.iload_n 3, 1) := by decide +kernel
theorem dX2_follow_124 : decode cX2_follow 124 = .ok (.invokevirtual 79, 3) := by decide +kernel
theorem dX2_follow_127 : decode cX2_follow 127 = .ok (.aload_n 0, 1) := by decide +kernel
theorem dX2_follow_128 : decode cX2_follow 128 = .ok (.iload_n 3, 1) := by decide +kernel
theorem dX2_follow_129 : decode cX2_follow 129 = .ok (.iconst 1, 1) := by decide +kernel
theorem dX2_follow_130 : decode cX2_follow 130 = .ok (.iadd, 1) := by decide +kernel
theorem dX2_follow_131 : decode cX2_follow 131 = .ok (.invokevirtual 64, 3) := by decide +kernel
theorem dX2_follow_134 : decode cX2_follow 134 = .ok (.iinc 3 1, 3) := by decide +kernel
theorem dX2_follow_137 : decode cX2_follow 137 = .ok (.goto (-42), 3) := by decide +kernel
theorem dX2_follow_140 : decode cX2_follow 140 = .ok (.return_, 1) := by decide +kernel
abbrev wX2_follow : List Cond := .code yX2_follow cX2_follow 4 none :: lw_gd
theorem hdX2_follow : (yX2_follow.cls ≠ "java/lang/invoke/MethodHandle" ∧ yX2_follow.cls ≠ "java/lang/invoke/VarHandle" ∧ (parseMethodDescriptor yX2_follow.desc).map (fun d => d.parameters.length) = some 2) := by decide +kernel
def fX2_follow_127 (ps : Nat) (k95 : Int32 → xm_M → Option xm_M) (b3 : Int32) (M : xm_M) : Option xm_M :=
  xm_bv (fX2_keepPose (b3 + (1 : Int32)) M) (fun M15 => xm_lt (b3 + Int32.ofInt 1) (fun x16 => k95 x16 M15))
set_option maxRecDepth 20000 in
theorem tfX2_follow_127 {p : Program} {l : Launch} {e : Env} {s : State} {m : MethodId} {args : Array Value} {below : List Frame} {meth : Method} {c : Code} {D : va_G} {g : xm_G} {A : Nat → Prop} (ps : Nat) {L : List xm_Sh} (hL : xm_pre L) (hX : xm_X p m meth c cX2_follow 4 s args wX2_follow RX2 none D L g A) (hps : L[ps]? = some (.inl (0, .int, 9))) (k95 : Int32 → xm_M → Option xm_M) (h95 : ∀ (b3 : Int32), ∀ (M : xm_M), xm_J p l e ({ frames := 4, cells := 0, slots := 0, locals := 106 }) s m args below meth c 4 D L g A (xm_Z below args s D L g A (xm_Fv g)) 95 [(0, .ref (g.1 49)), (1, .ref (g.1 1)), (2, .ref (g.1 ps)), (3, .int b3)] [] M (k95 b3 M)) : ∀ (b3 : Int32), ∀ (M : xm_M), xm_J p l e ({ frames := 4, cells := 0, slots := 0, locals := 106 }) s m args below meth c 4 D L g A (xm_Z below args s D L g A (xm_Fv g)) 127 [(0, .ref (g.1 49)), (1, .ref (g.1 1)), (2, .ref (g.1 ps)), (3, .int b3)] [] M (fX2_follow_127 ps k95 b3 M) := by
  intro b3 M
  unfold fX2_follow_127
  refine xm_aload_n hX 0 dX2_follow_127 rfl rfl ?_
  refine xm_iload_n hX 3 dX2_follow_128 rfl rfl ?_
  refine xm_iconst hX (v := 1) rfl dX2_follow_129 ?_
  refine xm_iadd hX dX2_follow_130 ?_
  refine xm_callv hX (xm_runV hX (k := 49) (ci := 2) (As := (fun g => [.int (b3 + (1 : Int32))])) (kX2_keepPose hL (b3 + (1 : Int32)) M) (hL _ _ cL_49) rfl (xm_gV gm_208 gm_209 gm_500 gm_3 gm_210) rfl ⟨rfl, rfl⟩ ⟨rfl, hdX2_keepPose⟩ ⟨Nat.le_of_ble_eq_true rfl, Nat.le_of_ble_eq_true rfl⟩ rfl (Nat.le_of_ble_eq_true rfl) rfl ⟨Nat.le_of_ble_eq_true rfl, Nat.le_of_ble_eq_true rfl⟩ dX2_follow_131) (fun M15 => ?_)
  refine xm_iinc hX (lv2 := fun x16 => [(3, .int x16), (0, .ref (g.1 49)), (1, .ref (g.1 1)), (2, .ref (g.1 ps))]) 3 dX2_follow_134 rfl (by decide) (fun _ => rfl) (fun x16 => ?_)
  refine xm_goto hX (tgt := 95) dX2_follow_137 rfl ?_
  refine xm_weak [1, 2, 3, 0] (lv' := [(0, .ref (g.1 49)), (1, .ref (g.1 1)), (2, .ref (g.1 ps)), (3, .int x16)]) rfl ?_
  exact h95 x16 M15
def fX2_follow_95 (ps : Nat) (k95 : Int32 → xm_M → Option xm_M) (b3 : Int32) (M : xm_M) : Option xm_M :=
  if (M.1 1 6) ≤ b3 then some M else xm_bi (fX1_isSight b3 M) (fun x13 M12 => if x13 = 0 then xm_bv (fX2_go ps b3 M12) (fun M14 => fX2_follow_127 ps k95 b3 M14) else xm_bv (fX2_meet b3 M12) (fun M17 => fX2_follow_127 ps k95 b3 M17))
set_option maxRecDepth 20000 in
theorem tfX2_follow_95 {p : Program} {l : Launch} {e : Env} {s : State} {m : MethodId} {args : Array Value} {below : List Frame} {meth : Method} {c : Code} {D : va_G} {g : xm_G} {A : Nat → Prop} (ps : Nat) {L : List xm_Sh} (hL : xm_pre L) (hX : xm_X p m meth c cX2_follow 4 s args wX2_follow RX2 none D L g A) (hps : L[ps]? = some (.inl (0, .int, 9))) (k95 : Int32 → xm_M → Option xm_M) (h95 : ∀ (b3 : Int32), ∀ (M : xm_M), xm_J p l e ({ frames := 4, cells := 0, slots := 0, locals := 106 }) s m args below meth c 4 D L g A (xm_Z below args s D L g A (xm_Fv g)) 95 [(0, .ref (g.1 49)), (1, .ref (g.1 1)), (2, .ref (g.1 ps)), (3, .int b3)] [] M (k95 b3 M)) : ∀ (b3 : Int32), ∀ (M : xm_M), xm_J p l e ({ frames := 4, cells := 0, slots := 0, locals := 106 }) s m args below meth c 4 D L g A (xm_Z below args s D L g A (xm_Fv g)) 95 [(0, .ref (g.1 49)), (1, .ref (g.1 1)), (2, .ref (g.1 ps)), (3, .int b3)] [] M (fX2_follow_95 ps k95 b3 M) := by
  intro b3 M
  unfold fX2_follow_95
  refine xm_iload_n hX 3 dX2_follow_95 rfl rfl ?_
  refine xm_aload_n hX 1 dX2_follow_96 rfl rfl ?_
  refine xm_get hX (k := 1) (ci := 1) (j := 6) (C := RX1) (T := TX1) (N := 11) (v := .int (M.1 1 6)) (hL _ _ cL_1) rfl rfl rfl (by decide) (fun z hz => List.mem_cons_of_mem _ (iw_X1 z hz)) (List.mem_cons_of_mem _ gm_44) dX2_follow_97 ?_
  refine xm_icmp_ge hX (tgt := 140) dX2_follow_100 rfl ?_ ?_
  · exact xm_vret hX dX2_follow_140
  · refine xm_aload_n hX 1 dX2_follow_103 rfl rfl ?_
    refine xm_iload_n hX 3 dX2_follow_104 rfl rfl ?_
    refine xm_calli hX (xm_runV hX (k := 1) (ci := 1) (As := (fun g => [.int b3])) (kX1_isSight hL b3 M) (hL _ _ cL_1) rfl (xm_gV gm_211 gm_212 gm_213 gm_2 gm_214) rfl ⟨rfl, rfl⟩ ⟨rfl, hdX1_isSight⟩ ⟨Nat.le_of_ble_eq_true rfl, Nat.le_of_ble_eq_true rfl⟩ rfl (Nat.le_of_ble_eq_true rfl) rfl ⟨Nat.le_of_ble_eq_true rfl, Nat.le_of_ble_eq_true rfl⟩ dX2_follow_105) (fun x13 M12 => ?_)
    refine xm_if_eq hX (tgt := 120) dX2_follow_108 rfl ?_ ?_
    · refine xm_aload_n hX 0 dX2_follow_120 rfl rfl ?_
      refine xm_aload_n hX 1 dX2_follow_121 rfl rfl ?_
      refine xm_aload_n hX 2 dX2_follow_122 rfl rfl ?_
      refine xm_iload_n hX 3 dX2_follow_123 rfl rfl ?_
      refine xm_callv hX (xm_runV hX (k := 49) (ci := 2) (As := (fun g => [.ref (g.1 1), .ref (g.1 ps), .int b3])) (kX2_go hL ps hps b3 M12) (hL _ _ cL_49) rfl (xm_gV gm_226 gm_227 gm_503 gm_3 gm_228) rfl ⟨rfl, rfl⟩ ⟨rfl, hdX2_go⟩ ⟨Nat.le_of_ble_eq_true rfl, Nat.le_of_ble_eq_true rfl⟩ rfl (Nat.le_of_ble_eq_true rfl) rfl ⟨Nat.le_of_ble_eq_true rfl, Nat.le_of_ble_eq_true rfl⟩ dX2_follow_124) (fun M14 => ?_)
      exact tfX2_follow_127 ps hL hX hps k95 h95 b3 M14
    · refine xm_aload_n hX 0 dX2_follow_111 rfl rfl ?_
      refine xm_aload_n hX 1 dX2_follow_112 rfl rfl ?_
      refine xm_iload_n hX 3 dX2_follow_113 rfl rfl ?_
      refine xm_callv hX (xm_runV hX (k := 49) (ci := 2) (As := (fun g => [.ref (g.1 1), .int b3])) (kX2_meet hL b3 M12) (hL _ _ cL_49) rfl (xm_gV gm_217 gm_218 gm_501 gm_3 gm_219) rfl ⟨rfl, rfl⟩ ⟨rfl, hdX2_meet⟩ ⟨Nat.le_of_ble_eq_true rfl, Nat.le_of_ble_eq_true rfl⟩ rfl (Nat.le_of_ble_eq_true rfl) rfl ⟨Nat.le_of_ble_eq_true rfl, Nat.le_of_ble_eq_true rfl⟩ dX2_follow_114) (fun M17 => ?_)
      refine xm_goto hX (tgt := 127) dX2_follow_117 rfl ?_
      exact tfX2_follow_127 ps hL hX hps k95 h95 b3 M17
def fX2_follow_95_it (ps : Nat)  (nq : Nat) : Int32 → xm_M → Option xm_M := xm_it (fun kq => fX2_follow_95 ps kq) (fun _ _ => none) nq
theorem tfX2_follow_95_it {p : Program} {l : Launch} {e : Env} {s : State} {m : MethodId} {args : Array Value} {below : List Frame} {meth : Method} {c : Code} {D : va_G} {g : xm_G} {A : Nat → Prop} (ps : Nat) {L : List xm_Sh} (hL : xm_pre L) (hX : xm_X p m meth c cX2_follow 4 s args wX2_follow RX2 none D L g A) (hps : L[ps]? = some (.inl (0, .int, 9)))   : ∀ (nq : Nat), ∀ (b3 : Int32), ∀ (M : xm_M), xm_J p l e ({ frames := 4, cells := 0, slots := 0, locals := 106 }) s m args below meth c 4 D L g A (xm_Z below args s D L g A (xm_Fv g)) 95 [(0, .ref (g.1 49)), (1, .ref (g.1 1)), (2, .ref (g.1 ps)), (3, .int b3)] [] M (fX2_follow_95_it ps nq b3 M) := by
  intro nq
  induction nq with
  | zero => exact fun _ _ => xm_none
  | succ nq ih => exact tfX2_follow_95 ps hL hX hps _ ih
def fX2_follow_62 (ps : Nat) (k62 : Int32 → xm_M → Option xm_M) (b3 : Int32) (M : xm_M) : Option xm_M :=
  if (11 : Int32) ≤ b3 then xm_bv (fX2_keepPose (0 : Int32) M) (fun M10 => xm_lt ((0 : Int32)) (fun x11 => fX2_follow_95_it ps xm_N x11 M10)) else if b3 < 0 ∨ 11 ≤ b3.toNatClampNeg then none else xm_bv (fJ7_fill_53178 (57 + b3.toNatClampNeg) 120 (-1000000006 : Int32) M) (fun M19 => xm_lt (b3 + Int32.ofInt 1) (fun x20 => k62 x20 M19))
set_option maxRecDepth 20000 in
theorem tfX2_follow_62 {p : Program} {l : Launch} {e : Env} {s : State} {m : MethodId} {args : Array Value} {below : List Frame} {meth : Method} {c : Code} {D : va_G} {g : xm_G} {A : Nat → Prop} (ps : Nat) {L : List xm_Sh} (hL : xm_pre L) (hX : xm_X p m meth c cX2_follow 4 s args wX2_follow RX2 none D L g A) (hps : L[ps]? = some (.inl (0, .int, 9))) (k62 : Int32 → xm_M → Option xm_M) (h62 : ∀ (b3 : Int32), ∀ (M : xm_M), xm_J p l e ({ frames := 4, cells := 0, slots := 0, locals := 106 }) s m args below meth c 4 D L g A (xm_Z below args s D L g A (xm_Fv g)) 62 [(0, .ref (g.1 49)), (1, .ref (g.1 1)), (2, .ref (g.1 ps)), (3, .int b3)] [] M (k62 b3 M)) : ∀ (b3 : Int32), ∀ (M : xm_M), xm_J p l e ({ frames := 4, cells := 0, slots := 0, locals := 106 }) s m args below meth c 4 D L g A (xm_Z below args s D L g A (xm_Fv g)) 62 [(0, .ref (g.1 49)), (1, .ref (g.1 1)), (2, .ref (g.1 ps)), (3, .int b3)] [] M (fX2_follow_62 ps k62 b3 M) := by
  intro b3 M
  unfold fX2_follow_62
  refine xm_iload_n hX 3 dX2_follow_62 rfl rfl ?_
  refine xm_aload_n hX 0 dX2_follow_63 rfl rfl ?_
  refine xm_get hX (k := 49) (ci := 2) (j := 1) (C := RX2) (T := TX2) (N := 12) (v := .ref (g.1 56)) (hL _ _ cL_49) rfl rfl rfl (by decide) (fun z hz => List.mem_cons_of_mem _ (iw_X2 z hz)) (List.mem_cons_of_mem _ gm_75) dX2_follow_64 ?_
  refine xm_alenR hX (v := (11 : Int32)) (hL _ _ cL_56) rfl dX2_follow_67 ?_
  refine xm_icmp_ge hX (tgt := 88) dX2_follow_68 rfl ?_ ?_
  · refine xm_aload_n hX 0 dX2_follow_88 rfl rfl ?_
    refine xm_iconst hX (v := 0) rfl dX2_follow_89 ?_
    refine xm_callv hX (xm_runV hX (k := 49) (ci := 2) (As := (fun g => [.int (0 : Int32)])) (kX2_keepPose hL (0 : Int32) M) (hL _ _ cL_49) rfl (xm_gV gm_208 gm_209 gm_500 gm_3 gm_210) rfl ⟨rfl, rfl⟩ ⟨rfl, hdX2_keepPose⟩ ⟨Nat.le_of_ble_eq_true rfl, Nat.le_of_ble_eq_true rfl⟩ rfl (Nat.le_of_ble_eq_true rfl) rfl ⟨Nat.le_of_ble_eq_true rfl, Nat.le_of_ble_eq_true rfl⟩ dX2_follow_90) (fun M10 => ?_)
    refine xm_iconst hX (v := 0) rfl dX2_follow_93 ?_
    refine xm_nmi (fun x11 => ?_)
    refine xm_istore_n hX (lv' := [(3, .int x11), (0, .ref (g.1 49)), (1, .ref (g.1 1)), (2, .ref (g.1 ps))]) dX2_follow_94 rfl (by decide) rfl ?_
    refine xm_weak [1, 2, 3, 0] (lv' := [(0, .ref (g.1 49)), (1, .ref (g.1 1)), (2, .ref (g.1 ps)), (3, .int x11)]) rfl ?_
    exact tfX2_follow_95_it ps hL hX hps xm_N x11 M10
  · refine xm_aload_n hX 0 dX2_follow_71 rfl rfl ?_
    refine xm_get hX (k := 49) (ci := 2) (j := 1) (C := RX2) (T := TX2) (N := 12) (v := .ref (g.1 56)) (hL _ _ cL_49) rfl rfl rfl (by decide) (fun z hz => List.mem_cons_of_mem _ (iw_X2 z hz)) (List.mem_cons_of_mem _ gm_75) dX2_follow_72 ?_
    refine xm_iload_n hX 3 dX2_follow_75 rfl rfl ?_
    refine xm_aald hX (N := 11) (k0 := 57) (hL _ _ cL_56) dX2_follow_76 (fun q18 => ?_)
    refine xm_ldc hX (v := -1000000006) (List.mem_cons_of_mem _ gm_207) dX2_follow_77 ?_
    refine xm_callv hX (xm_runS hX (As := (fun g => [.ref (g.1 (57 + b3.toNatClampNeg)), .int (-1000000006 : Int32)])) (kJ7_fill_53178 hL (57 + b3.toNatClampNeg) 120 ((cL_rowsL_56 hL) _ q18) (-1000000006 : Int32) M) (xm_gS gm_204 gm_205 gm_6 gm_206) rfl ⟨rfl, rfl⟩ hdJ7_fill_53178 ⟨Nat.le_of_ble_eq_true rfl, Nat.le_of_ble_eq_true rfl⟩ rfl (Nat.le_of_ble_eq_true rfl) rfl ⟨Nat.le_of_ble_eq_true rfl, Nat.le_of_ble_eq_true rfl⟩ dX2_follow_79) (fun M19 => ?_)
    refine xm_iinc hX (lv2 := fun x20 => [(3, .int x20), (0, .ref (g.1 49)), (1, .ref (g.1 1)), (2, .ref (g.1 ps))]) 3 dX2_follow_82 rfl (by decide) (fun _ => rfl) (fun x20 => ?_)
    refine xm_goto hX (tgt := 62) dX2_follow_85 rfl ?_
    refine xm_weak [1, 2, 3, 0] (lv' := [(0, .ref (g.1 49)), (1, .ref (g.1 1)), (2, .ref (g.1 ps)), (3, .int x20)]) rfl ?_
    exact h62 x20 M19
def fX2_follow_62_it (ps : Nat)  (nq : Nat) : Int32 → xm_M → Option xm_M := xm_it (fun kq => fX2_follow_62 ps kq) (fun _ _ => none) nq
theorem tfX2_follow_62_it {p : Program} {l : Launch} {e : Env} {s : State} {m : MethodId} {args : Array Value} {below : List Frame} {meth : Method} {c : Code} {D : va_G} {g : xm_G} {A : Nat → Prop} (ps : Nat) {L : List xm_Sh} (hL : xm_pre L) (hX : xm_X p m meth c cX2_follow 4 s args wX2_follow RX2 none D L g A) (hps : L[ps]? = some (.inl (0, .int, 9)))   : ∀ (nq : Nat), ∀ (b3 : Int32), ∀ (M : xm_M), xm_J p l e ({ frames := 4, cells := 0, slots := 0, locals := 106 }) s m args below meth c 4 D L g A (xm_Z below args s D L g A (xm_Fv g)) 62 [(0, .ref (g.1 49)), (1, .ref (g.1 1)), (2, .ref (g.1 ps)), (3, .int b3)] [] M (fX2_follow_62_it ps nq b3 M) := by
  intro nq
  induction nq with
  | zero => exact fun _ _ => xm_none
  | succ nq ih => exact tfX2_follow_62 ps hL hX hps _ ih
def fX2_follow (ps : Nat)  (M : xm_M) : Option xm_M :=
  xm_lt (xm_s M 49 3 ((1000 : Int32) * (M.1 1 7))) (fun M1 => xm_lt (xm_s M1 49 4 ((1000 : Int32) * (M1.1 1 8))) (fun M2 => xm_lt (xm_s M2 49 5 (M2.1 1 9)) (fun M3 => xm_lt (xm_s M3 49 6 (0 : Int32)) (fun M4 => xm_lt (xm_s M4 49 7 (0 : Int32)) (fun M5 => xm_lt (xm_s M5 49 8 (0 : Int32)) (fun M6 => xm_lt (xm_sl M6 49 9 (0 : Int64)) (fun M7 => xm_bv (fJ7_fill_53178 68 5 (0 : Int32) M7) (fun M8 => xm_lt ((0 : Int32)) (fun x9 => fX2_follow_62_it ps xm_N x9 M8)))))))))
set_option maxRecDepth 20000 in
theorem kX2_follow {l : Launch} {L : List xm_Sh} (hL : xm_pre L) (ps : Nat) (hps : L[ps]? = some (.inl (0, .int, 9)))  (M : xm_M) : xm_C l yX2_follow wX2_follow ({ frames := 4, cells := 0, slots := 0, locals := 106 }) L (fun g => [.ref (g.1 49), .ref (g.1 1), .ref (g.1 ps)]) M xm_Fv (fX2_follow ps  M) := by
  refine xm_C.of (by decide) rfl (fun g => Nat.le_of_ble_eq_true rfl) ?_
  intro p e s m args below meth c D g A hX
  refine xm_lv (lv' := [(0, .ref (g.1 49)), (1, .ref (g.1 1)), (2, .ref (g.1 ps))]) rfl ?_
  unfold fX2_follow
  refine xm_aload_n hX 0 dX2_follow_0 rfl rfl ?_
  refine xm_sipush hX (v := 1000) rfl dX2_follow_1 ?_
  refine xm_aload_n hX 1 dX2_follow_4 rfl rfl ?_
  refine xm_get hX (k := 1) (ci := 1) (j := 7) (C := RX1) (T := TX1) (N := 11) (v := .int (M.1 1 7)) (hL _ _ cL_1) rfl rfl rfl (by decide) (fun z hz => List.mem_cons_of_mem _ (iw_X1 z hz)) (List.mem_cons_of_mem _ gm_46) dX2_follow_5 ?_
  refine xm_imul hX dX2_follow_8 ?_
  refine xm_puti hX (k := 49) (ci := 2) (j := 3) (C := RX2) (T := TX2) (N := 12) (t0 := tyX2) (hL _ _ cL_49) rfl rfl (by decide) (fun z hz => List.mem_cons_of_mem _ (iw_X2 z hz)) tyX2_ok nmX2 rfl rfl (List.mem_cons_of_mem _ gm_79) dX2_follow_9 (fun M1 => ?_)
  refine xm_aload_n hX 0 dX2_follow_12 rfl rfl ?_
  refine xm_sipush hX (v := 1000) rfl dX2_follow_13 ?_
  refine xm_aload_n hX 1 dX2_follow_16 rfl rfl ?_
  refine xm_get hX (k := 1) (ci := 1) (j := 8) (C := RX1) (T := TX1) (N := 11) (v := .int (M1.1 1 8)) (hL _ _ cL_1) rfl rfl rfl (by decide) (fun z hz => List.mem_cons_of_mem _ (iw_X1 z hz)) (List.mem_cons_of_mem _ gm_49) dX2_follow_17 ?_
  refine xm_imul hX dX2_follow_20 ?_
  refine xm_puti hX (k := 49) (ci := 2) (j := 4) (C := RX2) (T := TX2) (N := 12) (t0 := tyX2) (hL _ _ cL_49) rfl rfl (by decide) (fun z hz => List.mem_cons_of_mem _ (iw_X2 z hz)) tyX2_ok nmX2 rfl rfl (List.mem_cons_of_mem _ gm_81) dX2_follow_21 (fun M2 => ?_)
  refine xm_aload_n hX 0 dX2_follow_24 rfl rfl ?_
  refine xm_aload_n hX 1 dX2_follow_25 rfl rfl ?_
  refine xm_get hX (k := 1) (ci := 1) (j := 9) (C := RX1) (T := TX1) (N := 11) (v := .int (M2.1 1 9)) (hL _ _ cL_1) rfl rfl rfl (by decide) (fun z hz => List.mem_cons_of_mem _ (iw_X1 z hz)) (List.mem_cons_of_mem _ gm_52) dX2_follow_26 ?_
  refine xm_puti hX (k := 49) (ci := 2) (j := 5) (C := RX2) (T := TX2) (N := 12) (t0 := tyX2) (hL _ _ cL_49) rfl rfl (by decide) (fun z hz => List.mem_cons_of_mem _ (iw_X2 z hz)) tyX2_ok nmX2 rfl rfl (List.mem_cons_of_mem _ gm_83) dX2_follow_29 (fun M3 => ?_)
  refine xm_aload_n hX 0 dX2_follow_32 rfl rfl ?_
  refine xm_iconst hX (v := 0) rfl dX2_follow_33 ?_
  refine xm_puti hX (k := 49) (ci := 2) (j := 6) (C := RX2) (T := TX2) (N := 12) (t0 := tyX2) (hL _ _ cL_49) rfl rfl (by decide) (fun z hz => List.mem_cons_of_mem _ (iw_X2 z hz)) tyX2_ok nmX2 rfl rfl (List.mem_cons_of_mem _ gm_85) dX2_follow_34 (fun M4 => ?_)
  refine xm_aload_n hX 0 dX2_follow_37 rfl rfl ?_
  refine xm_iconst hX (v := 0) rfl dX2_follow_38 ?_
  refine xm_puti hX (k := 49) (ci := 2) (j := 7) (C := RX2) (T := TX2) (N := 12) (t0 := tyX2) (hL _ _ cL_49) rfl rfl (by decide) (fun z hz => List.mem_cons_of_mem _ (iw_X2 z hz)) tyX2_ok nmX2 rfl rfl (List.mem_cons_of_mem _ gm_87) dX2_follow_39 (fun M5 => ?_)
  refine xm_aload_n hX 0 dX2_follow_42 rfl rfl ?_
  refine xm_iconst hX (v := 0) rfl dX2_follow_43 ?_
  refine xm_puti hX (k := 49) (ci := 2) (j := 8) (C := RX2) (T := TX2) (N := 12) (t0 := tyX2) (hL _ _ cL_49) rfl rfl (by decide) (fun z hz => List.mem_cons_of_mem _ (iw_X2 z hz)) tyX2_ok nmX2 rfl rfl (List.mem_cons_of_mem _ gm_88) dX2_follow_44 (fun M6 => ?_)
  refine xm_aload_n hX 0 dX2_follow_47 rfl rfl ?_
  refine xm_lconst hX (v := 0) rfl dX2_follow_48 ?_
  refine xm_putl hX (k := 49) (ci := 2) (j := 9) (C := RX2) (T := TX2) (N := 12) (t0 := tyX2) (hL _ _ cL_49) rfl rfl (by decide) (fun z hz => List.mem_cons_of_mem _ (iw_X2 z hz)) tyX2_ok nmX2 rfl rfl (List.mem_cons_of_mem _ gm_90) dX2_follow_49 (fun M7 => ?_)
  refine xm_aload_n hX 0 dX2_follow_52 rfl rfl ?_
  refine xm_get hX (k := 49) (ci := 2) (j := 2) (C := RX2) (T := TX2) (N := 12) (v := .ref (g.1 68)) (hL _ _ cL_49) rfl rfl rfl (by decide) (fun z hz => List.mem_cons_of_mem _ (iw_X2 z hz)) (List.mem_cons_of_mem _ gm_77) dX2_follow_53 ?_
  refine xm_iconst hX (v := 0) rfl dX2_follow_56 ?_
  refine xm_callv hX (xm_runS hX (As := (fun g => [.ref (g.1 68), .int (0 : Int32)])) (kJ7_fill_53178 hL 68 5 (hL _ _ cL_68) (0 : Int32) M7) (xm_gS gm_204 gm_205 gm_6 gm_206) rfl ⟨rfl, rfl⟩ hdJ7_fill_53178 ⟨Nat.le_of_ble_eq_true rfl, Nat.le_of_ble_eq_true rfl⟩ rfl (Nat.le_of_ble_eq_true rfl) rfl ⟨Nat.le_of_ble_eq_true rfl, Nat.le_of_ble_eq_true rfl⟩ dX2_follow_57) (fun M8 => ?_)
  refine xm_iconst hX (v := 0) rfl dX2_follow_60 ?_
  refine xm_nmi (fun x9 => ?_)
  refine xm_istore_n hX (lv' := [(3, .int x9), (0, .ref (g.1 49)), (1, .ref (g.1 1)), (2, .ref (g.1 ps))]) dX2_follow_61 rfl (by decide) rfl ?_
  refine xm_weak [1, 2, 3, 0] (lv' := [(0, .ref (g.1 49)), (1, .ref (g.1 1)), (2, .ref (g.1 ps)), (3, .int x9)]) rfl ?_
  exact tfX2_follow_62_it ps hL hX hps xm_N x9 M8
-- ===== OdometryDesk.about(II)I ['0']
theorem dX3_about_0 : decode cX3_about 0 = .ok (.iload_n 1, 1) := by decide +kernel
theorem dX3_about_1 : decode cX3_about 1 = .ok (.iconst 0, 1) := by decide +kernel
theorem dX3_about_2 : decode cX3_about 2 = .ok (.aload_n 0, 1) := by decide +kernel
theorem dX3_about_3 : decode cX3_about 3 = .ok (.getfield 10, 3) := by decide +kernel
theorem dX3_about_6 : decode cX3_about 6 = .ok (.getfield 106, 3) := by decide +kernel
theorem dX3_about_9 : decode cX3_about 9 = .ok (.iconst 1, 1) := by decide +kernel
theorem dX3_about_10 : decode cX3_about 10 = .ok (.isub, 1) := by decide +kernel
theorem dX3_about_11 : decode cX3_about 11 = .ok (.invokestatic 66, 3) := by decide +kernel
theorem dX3_about_14 : decode cX3_about 14 = .ok (.ifCond .ne 6, 3) := by decide +kernel
theorem dX3_about_17 : decode cX3_about 17 = .ok (.ldc 117, 2) := by decide +kernel
theorem dX3_about_19 : decode cX3_about 19 = .ok (.ireturn, 1) := by decide +kernel
theorem dX3_about_20 : decode cX3_about 20 = .ok (.iload_n 2, 1) := by decide +kernel
theorem dX3_about_21 : decode cX3_about 21 = .ok (.iconst 0, 1) := by decide +kernel
theorem dX3_about_22 : decode cX3_about 22 = .ok (.bipush 10, 2) := by decide +kernel
theorem dX3_about_24 : decode cX3_about 24 = .ok (.invokestatic 66, 3) := by decide +kernel
theorem dX3_about_27 : decode cX3_about 27 = .ok (.ifCond .ne 6, 3) := by decide +kernel
theorem dX3_about_30 : decode cX3_about 30 = .ok (.ldc 118, 2) := by decide +kernel
theorem dX3_about_32 : decode cX3_about 32 = .ok (.ireturn, 1) := by decide +kernel
theorem dX3_about_33 : decode cX3_about 33 = .ok (.aload_n 0, 1) := by decide +kernel
theorem dX3_about_34 : decode cX3_about 34 = .ok (.getfield 25, 3) := by decide +kernel
theorem dX3_about_37 : decode cX3_about 37 = .ok (.aload_n 0, 1) := by decide +kernel
theorem dX3_about_38 : decode cX3_about 38 = .ok (.getfield 10, 3) := by decide +kernel
theorem dX3_about_41 : decode cX3_about 41 = .ok (.aload_n 0, 1) := by decide +kernel
theorem dX3_about_42 : decode cX3_about 42 = .ok (.getfield 10, 3) := by decide +kernel
theorem dX3_about_45 : decode cX3_about 45 = .ok (.getfield 52, 3) := by decide +kernel
theorem dX3_about_48 : decode cX3_about 48 = .ok (.invokevirtual 119, 3) := by decide +kernel
theorem dX3_about_51 : decode cX3_about 51 = .ok (.aload_n 0, 1) := by decide +kernel
theorem dX3_about_52 : decode cX3_about 52 = .ok (.getfield 25, 3) := by decide +kernel
theorem dX3_about_55 : decode cX3_about 55 = .ok (.getfield 129, 3) := by decide +kernel
theorem dX3_about_58 : decode cX3_about 58 = .ok (.iload_n 2, 1) := by decide +kernel
theorem dX3_about_59 : decode cX3_about 59 = .ok (.iload_n 1, 1) := by decide +kernel
theorem dX3_about_60 : decode cX3_about 60 = .ok (.invokestatic 132, 3) := by decide +kernel
theorem dX3_about_63 : decode cX3_about 63 = .ok (.ireturn, 1) := by decide +kernel
abbrev wX3_about : List Cond := .code yX3_about cX3_about 3 (some .int) :: lw_gd
theorem hdX3_about : (yX3_about.cls ≠ "java/lang/invoke/MethodHandle" ∧ yX3_about.cls ≠ "java/lang/invoke/VarHandle" ∧ (parseMethodDescriptor yX3_about.desc).map (fun d => d.parameters.length) = some 2) := by decide +kernel
def fX3_about  (a1 : Int32) (a2 : Int32) (M : xm_M) : Option (Int32 × xm_M) :=
  xm_bi (fX3_isWithin a1 (0 : Int32) ((M.1 1 6) - (1 : Int32)) M) (fun x2 M1 => if x2 = 0 then some ((-1000000001 : Int32), M1) else xm_bi (fX3_isWithin a2 (0 : Int32) (10 : Int32) M1) (fun x4 M3 => if x4 = 0 then some ((-1000000002 : Int32), M3) else xm_bv (fX2_follow 2 M3) (fun M5 => xm_bi (fX3_item_ 56 11 57 120 a2 a1 M5) (fun x7 M6 => some (x7, M6)))))
set_option maxRecDepth 20000 in
theorem kX3_about {l : Launch} {L : List xm_Sh} (hL : xm_pre L)   (a1 : Int32) (a2 : Int32) (M : xm_M) : xm_C l yX3_about wX3_about ({ frames := 5, cells := 0, slots := 0, locals := 129 }) L (fun g => [.ref (g.1 0), .int a1, .int a2]) M xm_Fi (fX3_about  a1 a2 M) := by
  refine xm_C.of (by decide) rfl (fun g => Nat.le_of_ble_eq_true rfl) ?_
  intro p e s m args below meth c D g A hX
  refine xm_lv (lv' := [(0, .ref (g.1 0)), (1, .int a1), (2, .int a2)]) rfl ?_
  unfold fX3_about
  refine xm_iload_n hX 1 dX3_about_0 rfl rfl ?_
  refine xm_iconst hX (v := 0) rfl dX3_about_1 ?_
  refine xm_aload_n hX 0 dX3_about_2 rfl rfl ?_
  refine xm_get hX (k := 0) (ci := 3) (j := 0) (C := RX3) (T := TX3) (N := 6) (v := .ref (g.1 1)) (hL _ _ cL_0) rfl rfl rfl (by decide) (fun z hz => List.mem_cons_of_mem _ (iw_X3 z hz)) (List.mem_cons_of_mem _ gm_128) dX3_about_3 ?_
  refine xm_get hX (k := 1) (ci := 1) (j := 6) (C := RX1) (T := TX1) (N := 11) (v := .int (M.1 1 6)) (hL _ _ cL_1) rfl rfl rfl (by decide) (fun z hz => List.mem_cons_of_mem _ (iw_X1 z hz)) (List.mem_cons_of_mem _ gm_45) dX3_about_6 ?_
  refine xm_iconst hX (v := 1) rfl dX3_about_9 ?_
  refine xm_isub hX dX3_about_10 ?_
  refine xm_calli hX (xm_runS hX (As := (fun g => [.int a1, .int (0 : Int32), .int ((M.1 1 6) - (1 : Int32))])) (kX3_isWithin hL a1 (0 : Int32) ((M.1 1 6) - (1 : Int32)) M) (xm_gS gm_149 gm_150 gm_1 gm_151) rfl ⟨rfl, rfl⟩ hdX3_isWithin ⟨Nat.le_of_ble_eq_true rfl, Nat.le_of_ble_eq_true rfl⟩ rfl (Nat.le_of_ble_eq_true rfl) rfl ⟨Nat.le_of_ble_eq_true rfl, Nat.le_of_ble_eq_true rfl⟩ dX3_about_11) (fun x2 M1 => ?_)
  refine xm_if_ne hX (tgt := 20) dX3_about_14 rfl ?_ ?_
  · refine xm_iload_n hX 2 dX3_about_20 rfl rfl ?_
    refine xm_iconst hX (v := 0) rfl dX3_about_21 ?_
    refine xm_bipush hX (v := 10) rfl dX3_about_22 ?_
    refine xm_calli hX (xm_runS hX (As := (fun g => [.int a2, .int (0 : Int32), .int (10 : Int32)])) (kX3_isWithin hL a2 (0 : Int32) (10 : Int32) M1) (xm_gS gm_149 gm_150 gm_1 gm_151) rfl ⟨rfl, rfl⟩ hdX3_isWithin ⟨Nat.le_of_ble_eq_true rfl, Nat.le_of_ble_eq_true rfl⟩ rfl (Nat.le_of_ble_eq_true rfl) rfl ⟨Nat.le_of_ble_eq_true rfl, Nat.le_of_ble_eq_true rfl⟩ dX3_about_24) (fun x4 M3 => ?_)
    refine xm_if_ne hX (tgt := 33) dX3_about_27 rfl ?_ ?_
    · refine xm_aload_n hX 0 dX3_about_33 rfl rfl ?_
      refine xm_get hX (k := 0) (ci := 3) (j := 3) (C := RX3) (T := TX3) (N := 6) (v := .ref (g.1 49)) (hL _ _ cL_0) rfl rfl rfl (by decide) (fun z hz => List.mem_cons_of_mem _ (iw_X3 z hz)) (List.mem_cons_of_mem _ gm_131) dX3_about_34 ?_
      refine xm_aload_n hX 0 dX3_about_37 rfl rfl ?_
      refine xm_get hX (k := 0) (ci := 3) (j := 0) (C := RX3) (T := TX3) (N := 6) (v := .ref (g.1 1)) (hL _ _ cL_0) rfl rfl rfl (by decide) (fun z hz => List.mem_cons_of_mem _ (iw_X3 z hz)) (List.mem_cons_of_mem _ gm_128) dX3_about_38 ?_
      refine xm_aload_n hX 0 dX3_about_41 rfl rfl ?_
      refine xm_get hX (k := 0) (ci := 3) (j := 0) (C := RX3) (T := TX3) (N := 6) (v := .ref (g.1 1)) (hL _ _ cL_0) rfl rfl rfl (by decide) (fun z hz => List.mem_cons_of_mem _ (iw_X3 z hz)) (List.mem_cons_of_mem _ gm_128) dX3_about_42 ?_
      refine xm_get hX (k := 1) (ci := 1) (j := 0) (C := RX1) (T := TX1) (N := 11) (v := .ref (g.1 2)) (hL _ _ cL_1) rfl rfl rfl (by decide) (fun z hz => List.mem_cons_of_mem _ (iw_X1 z hz)) (List.mem_cons_of_mem _ gm_29) dX3_about_45 ?_
      refine xm_callv hX (xm_runV hX (k := 49) (ci := 2) (As := (fun g => [.ref (g.1 1), .ref (g.1 2)])) (kX2_follow hL 2 (hL _ _ cL_2) M3) (hL _ _ cL_49) rfl (xm_gV gm_200 gm_201 gm_202 gm_3 gm_203) rfl ⟨rfl, rfl⟩ ⟨rfl, hdX2_follow⟩ ⟨Nat.le_of_ble_eq_true rfl, Nat.le_of_ble_eq_true rfl⟩ rfl (Nat.le_of_ble_eq_true rfl) rfl ⟨Nat.le_of_ble_eq_true rfl, Nat.le_of_ble_eq_true rfl⟩ dX3_about_48) (fun M5 => ?_)
      refine xm_aload_n hX 0 dX3_about_51 rfl rfl ?_
      refine xm_get hX (k := 0) (ci := 3) (j := 3) (C := RX3) (T := TX3) (N := 6) (v := .ref (g.1 49)) (hL _ _ cL_0) rfl rfl rfl (by decide) (fun z hz => List.mem_cons_of_mem _ (iw_X3 z hz)) (List.mem_cons_of_mem _ gm_131) dX3_about_52 ?_
      refine xm_get hX (k := 49) (ci := 2) (j := 1) (C := RX2) (T := TX2) (N := 12) (v := .ref (g.1 56)) (hL _ _ cL_49) rfl rfl rfl (by decide) (fun z hz => List.mem_cons_of_mem _ (iw_X2 z hz)) (List.mem_cons_of_mem _ gm_76) dX3_about_55 ?_
      refine xm_iload_n hX 2 dX3_about_58 rfl rfl ?_
      refine xm_iload_n hX 1 dX3_about_59 rfl rfl ?_
      refine xm_calli hX (xm_runS hX (As := (fun g => [.ref (g.1 56), .int a2, .int a1])) (kX3_item_ hL 56 11 57 120 (hL _ _ cL_56) (cL_rowsL_56 hL) a2 a1 M5) (xm_gS gm_316 gm_215 gm_1 gm_216) rfl ⟨rfl, rfl⟩ hdX3_item_ ⟨Nat.le_of_ble_eq_true rfl, Nat.le_of_ble_eq_true rfl⟩ rfl (Nat.le_of_ble_eq_true rfl) rfl ⟨Nat.le_of_ble_eq_true rfl, Nat.le_of_ble_eq_true rfl⟩ dX3_about_60) (fun x7 M6 => ?_)
      exact xm_iret hX dX3_about_63
    · refine xm_ldc hX (v := -1000000002) (List.mem_cons_of_mem _ gm_288) dX3_about_30 ?_
      exact xm_iret hX dX3_about_32
  · refine xm_ldc hX (v := -1000000001) (List.mem_cons_of_mem _ gm_287) dX3_about_17 ?_
    exact xm_iret hX dX3_about_19
-- ===== OdometryDesk.isPlace(II)Z
theorem dX3_isPlace_0 : decode cX3_isPlace 0 = .ok (.iload_n 0, 1) := by decide +kernel
theorem dX3_isPlace_1 : decode cX3_isPlace 1 = .ok (.ldc 223, 2) := by decide +kernel
theorem dX3_isPlace_3 : decode cX3_isPlace 3 = .ok (.ldc 224, 2) := by decide +kernel
theorem dX3_isPlace_5 : decode cX3_isPlace 5 = .ok (.invokestatic 66, 3) := by decide +kernel
theorem dX3_isPlace_8 : decode cX3_isPlace 8 = .ok (.ifCond .eq 18, 3) := by decide +kernel
theorem dX3_isPlace_11 : decode cX3_isPlace 11 = .ok (.iload_n 1, 1) := by decide +kernel
theorem dX3_isPlace_12 : decode cX3_isPlace 12 = .ok (.ldc 223, 2) := by decide +kernel
theorem dX3_isPlace_14 : decode cX3_isPlace 14 = .ok (.ldc 224, 2) := by decide +kernel
theorem dX3_isPlace_16 : decode cX3_isPlace 16 = .ok (.invokestatic 66, 3) := by decide +kernel
theorem dX3_isPlace_19 : decode cX3_isPlace 19 = .ok (.ifCond .eq 7, 3) := by decide +kernel
theorem dX3_isPlace_22 : decode cX3_isPlace 22 = .ok (.iconst 1, 1) := by decide +kernel
theorem dX3_isPlace_23 : decode cX3_isPlace 23 = .ok (.goto 4, 3) := by decide +kernel
theorem dX3_isPlace_26 : decode cX3_isPlace 26 = .ok (.iconst 0, 1) := by decide +kernel
theorem dX3_isPlace_27 : decode cX3_isPlace 27 = .ok (.ireturn, 1) := by decide +kernel
abbrev wX3_isPlace : List Cond := .code yX3_isPlace cX3_isPlace 2 (some .boolean) :: lw_gd
theorem hdX3_isPlace : (yX3_isPlace.cls ≠ "java/lang/invoke/MethodHandle" ∧ yX3_isPlace.cls ≠ "java/lang/invoke/VarHandle" ∧ (parseMethodDescriptor yX3_isPlace.desc).map (fun d => d.parameters.length) = some 2) := by decide +kernel
def fX3_isPlace  (a0 : Int32) (a1 : Int32) (M : xm_M) : Option (Int32 × xm_M) :=
  xm_bi (fX3_isWithin a0 (-100000 : Int32) (100000 : Int32) M) (fun x2 M1 => if x2 = 0 then some ((0 : Int32), M1) else xm_bi (fX3_isWithin a1 (-100000 : Int32) (100000 : Int32) M1) (fun x4 M3 => if x4 = 0 then some ((0 : Int32), M3) else some ((1 : Int32), M3)))
set_option maxRecDepth 20000 in
theorem kX3_isPlace {l : Launch} {L : List xm_Sh} (hL : xm_pre L)   (a0 : Int32) (a1 : Int32) (M : xm_M) : xm_C l yX3_isPlace wX3_isPlace ({ frames := 1, cells := 0, slots := 0, locals := 22 }) L (fun g => [.int a0, .int a1]) M xm_Fi (fX3_isPlace  a0 a1 M) := by
  refine xm_C.of (by decide) rfl (fun g => Nat.le_of_ble_eq_true rfl) ?_
  intro p e s m args below meth c D g A hX
  refine xm_lv (lv' := [(0, .int a0), (1, .int a1)]) rfl ?_
  unfold fX3_isPlace
  refine xm_iload_n hX 0 dX3_isPlace_0 rfl rfl ?_
  refine xm_ldc hX (v := -100000) (List.mem_cons_of_mem _ gm_165) dX3_isPlace_1 ?_
  refine xm_ldc hX (v := 100000) (List.mem_cons_of_mem _ gm_166) dX3_isPlace_3 ?_
  refine xm_calli hX (xm_runS hX (As := (fun g => [.int a0, .int (-100000 : Int32), .int (100000 : Int32)])) (kX3_isWithin hL a0 (-100000 : Int32) (100000 : Int32) M) (xm_gS gm_149 gm_150 gm_1 gm_151) rfl ⟨rfl, rfl⟩ hdX3_isWithin ⟨Nat.le_of_ble_eq_true rfl, Nat.le_of_ble_eq_true rfl⟩ rfl (Nat.le_of_ble_eq_true rfl) rfl ⟨Nat.le_of_ble_eq_true rfl, Nat.le_of_ble_eq_true rfl⟩ dX3_isPlace_5) (fun x2 M1 => ?_)
  refine xm_if_eq hX (tgt := 26) dX3_isPlace_8 rfl ?_ ?_
  · refine xm_iconst hX (v := 0) rfl dX3_isPlace_26 ?_
    exact xm_zretL hX (by decide) dX3_isPlace_27
  · refine xm_iload_n hX 1 dX3_isPlace_11 rfl rfl ?_
    refine xm_ldc hX (v := -100000) (List.mem_cons_of_mem _ gm_165) dX3_isPlace_12 ?_
    refine xm_ldc hX (v := 100000) (List.mem_cons_of_mem _ gm_166) dX3_isPlace_14 ?_
    refine xm_calli hX (xm_runS hX (As := (fun g => [.int a1, .int (-100000 : Int32), .int (100000 : Int32)])) (kX3_isWithin hL a1 (-100000 : Int32) (100000 : Int32) M1) (xm_gS gm_149 gm_150 gm_1 gm_151) rfl ⟨rfl, rfl⟩ hdX3_isWithin ⟨Nat.le_of_ble_eq_true rfl, Nat.le_of_ble_eq_true rfl⟩ rfl (Nat.le_of_ble_eq_true rfl) rfl ⟨Nat.le_of_ble_eq_true rfl, Nat.le_of_ble_eq_true rfl⟩ dX3_isPlace_16) (fun x4 M3 => ?_)
    refine xm_if_eq hX (tgt := 26) dX3_isPlace_19 rfl ?_ ?_
    · refine xm_iconst hX (v := 0) rfl dX3_isPlace_26 ?_
      exact xm_zretL hX (by decide) dX3_isPlace_27
    · refine xm_iconst hX (v := 1) rfl dX3_isPlace_22 ?_
      refine xm_goto hX (tgt := 27) dX3_isPlace_23 rfl ?_
      exact xm_zretL hX (by decide) dX3_isPlace_27
-- ===== OdometryDesk.begin(III)I ['0']
theorem dX3_begin_0 : decode cX3_begin 0 = .ok (.iload_n 1, 1) := by decide +kernel
theorem dX3_begin_1 : decode cX3_begin 1 = .ok (.iload_n 2, 1) := by decide +kernel
theorem dX3_begin_2 : decode cX3_begin 2 = .ok (.invokestatic 63, 3) := by decide +kernel
theorem dX3_begin_5 : decode cX3_begin 5 = .ok (.ifCond .eq 13, 3) := by decide +kernel
theorem dX3_begin_8 : decode cX3_begin 8 = .ok (.iload_n 3, 1) := by decide +kernel
theorem dX3_begin_9 : decode cX3_begin 9 = .ok (.iconst 0, 1) := by decide +kernel
theorem dX3_begin_10 : decode cX3_begin 10 = .ok (.ldc 96, 2) := by decide +kernel
theorem dX3_begin_12 : decode cX3_begin 12 = .ok (.invokestatic 66, 3) := by decide +kernel
theorem dX3_begin_15 : decode cX3_begin 15 = .ok (.ifCond .ne 6, 3) := by decide +kernel
theorem dX3_begin_18 : decode cX3_begin 18 = .ok (.bipush (-2), 2) := by decide +kernel
theorem dX3_begin_20 : decode cX3_begin 20 = .ok (.ireturn, 1) := by decide +kernel
theorem dX3_begin_21 : decode cX3_begin 21 = .ok (.aload_n 0, 1) := by decide +kernel
theorem dX3_begin_22 : decode cX3_begin 22 = .ok (.getfield 10, 3) := by decide +kernel
theorem dX3_begin_25 : decode cX3_begin 25 = .ok (.iload_n 1, 1) := by decide +kernel
theorem dX3_begin_26 : decode cX3_begin 26 = .ok (.putfield 97, 3) := by decide +kernel
theorem dX3_begin_29 : decode cX3_begin 29 = .ok (.aload_n 0, 1) := by decide +kernel
theorem dX3_begin_30 : decode cX3_begin 30 = .ok (.getfield 10, 3) := by decide +kernel
theorem dX3_begin_33 : decode cX3_begin 33 = .ok (.iload_n 2, 1) := by decide +kernel
theorem dX3_begin_34 : decode cX3_begin 34 = .ok (.putfield 100, 3) := by decide +kernel
theorem dX3_begin_37 : decode cX3_begin 37 = .ok (.aload_n 0, 1) := by decide +kernel
theorem dX3_begin_38 : decode cX3_begin 38 = .ok (.getfield 10, 3) := by decide +kernel
theorem dX3_begin_41 : decode cX3_begin 41 = .ok (.iload_n 3, 1) := by decide +kernel
theorem dX3_begin_42 : decode cX3_begin 42 = .ok (.putfield 103, 3) := by decide +kernel
theorem dX3_begin_45 : decode cX3_begin 45 = .ok (.aload_n 0, 1) := by decide +kernel
theorem dX3_begin_46 : decode cX3_begin 46 = .ok (.getfield 10, 3) := by decide +kernel
theorem dX3_begin_49 : decode cX3_begin 49 = .ok (.getfield 106, 3) := by decide +kernel
theorem dX3_begin_52 : decode cX3_begin 52 = .ok (.ireturn, 1) := by decide +kernel
abbrev wX3_begin : List Cond := .code yX3_begin cX3_begin 4 (some .int) :: lw_gd
theorem hdX3_begin : (yX3_begin.cls ≠ "java/lang/invoke/MethodHandle" ∧ yX3_begin.cls ≠ "java/lang/invoke/VarHandle" ∧ (parseMethodDescriptor yX3_begin.desc).map (fun d => d.parameters.length) = some 3) := by decide +kernel
def fX3_begin  (a1 : Int32) (a2 : Int32) (a3 : Int32) (M : xm_M) : Option (Int32 × xm_M) :=
  xm_bi (fX3_isPlace a1 a2 M) (fun x2 M1 => if x2 = 0 then some ((-2 : Int32), M1) else xm_bi (fX3_isWithin a3 (0 : Int32) (3599999 : Int32) M1) (fun x4 M3 => if x4 = 0 then some ((-2 : Int32), M3) else xm_lt (xm_s M3 1 7 a1) (fun M5 => xm_lt (xm_s M5 1 8 a2) (fun M6 => xm_lt (xm_s M6 1 9 a3) (fun M7 => some (M7.1 1 6, M7))))))
set_option maxRecDepth 20000 in
theorem kX3_begin {l : Launch} {L : List xm_Sh} (hL : xm_pre L)   (a1 : Int32) (a2 : Int32) (a3 : Int32) (M : xm_M) : xm_C l yX3_begin wX3_begin ({ frames := 2, cells := 0, slots := 0, locals := 43 }) L (fun g => [.ref (g.1 0), .int a1, .int a2, .int a3]) M xm_Fi (fX3_begin  a1 a2 a3 M) := by
  refine xm_C.of (by decide) rfl (fun g => Nat.le_of_ble_eq_true rfl) ?_
  intro p e s m args below meth c D g A hX
  refine xm_lv (lv' := [(0, .ref (g.1 0)), (1, .int a1), (2, .int a2), (3, .int a3)]) rfl ?_
  unfold fX3_begin
  refine xm_iload_n hX 1 dX3_begin_0 rfl rfl ?_
  refine xm_iload_n hX 2 dX3_begin_1 rfl rfl ?_
  refine xm_calli hX (xm_runS hX (As := (fun g => [.int a1, .int a2])) (kX3_isPlace hL a1 a2 M) (xm_gS gm_162 gm_163 gm_1 gm_164) rfl ⟨rfl, rfl⟩ hdX3_isPlace ⟨Nat.le_of_ble_eq_true rfl, Nat.le_of_ble_eq_true rfl⟩ rfl (Nat.le_of_ble_eq_true rfl) rfl ⟨Nat.le_of_ble_eq_true rfl, Nat.le_of_ble_eq_true rfl⟩ dX3_begin_2) (fun x2 M1 => ?_)
  refine xm_if_eq hX (tgt := 18) dX3_begin_5 rfl ?_ ?_
  · refine xm_bipush hX (v := -2) rfl dX3_begin_18 ?_
    exact xm_iret hX dX3_begin_20
  · refine xm_iload_n hX 3 dX3_begin_8 rfl rfl ?_
    refine xm_iconst hX (v := 0) rfl dX3_begin_9 ?_
    refine xm_ldc hX (v := 3599999) (List.mem_cons_of_mem _ gm_184) dX3_begin_10 ?_
    refine xm_calli hX (xm_runS hX (As := (fun g => [.int a3, .int (0 : Int32), .int (3599999 : Int32)])) (kX3_isWithin hL a3 (0 : Int32) (3599999 : Int32) M1) (xm_gS gm_149 gm_150 gm_1 gm_151) rfl ⟨rfl, rfl⟩ hdX3_isWithin ⟨Nat.le_of_ble_eq_true rfl, Nat.le_of_ble_eq_true rfl⟩ rfl (Nat.le_of_ble_eq_true rfl) rfl ⟨Nat.le_of_ble_eq_true rfl, Nat.le_of_ble_eq_true rfl⟩ dX3_begin_12) (fun x4 M3 => ?_)
    refine xm_if_ne hX (tgt := 21) dX3_begin_15 rfl ?_ ?_
    · refine xm_aload_n hX 0 dX3_begin_21 rfl rfl ?_
      refine xm_get hX (k := 0) (ci := 3) (j := 0) (C := RX3) (T := TX3) (N := 6) (v := .ref (g.1 1)) (hL _ _ cL_0) rfl rfl rfl (by decide) (fun z hz => List.mem_cons_of_mem _ (iw_X3 z hz)) (List.mem_cons_of_mem _ gm_128) dX3_begin_22 ?_
      refine xm_iload_n hX 1 dX3_begin_25 rfl rfl ?_
      refine xm_puti hX (k := 1) (ci := 1) (j := 7) (C := RX1) (T := TX1) (N := 11) (t0 := tyX1) (hL _ _ cL_1) rfl rfl (by decide) (fun z hz => List.mem_cons_of_mem _ (iw_X1 z hz)) tyX1_ok nmX1 rfl rfl (List.mem_cons_of_mem _ gm_48) dX3_begin_26 (fun M5 => ?_)
      refine xm_aload_n hX 0 dX3_begin_29 rfl rfl ?_
      refine xm_get hX (k := 0) (ci := 3) (j := 0) (C := RX3) (T := TX3) (N := 6) (v := .ref (g.1 1)) (hL _ _ cL_0) rfl rfl rfl (by decide) (fun z hz => List.mem_cons_of_mem _ (iw_X3 z hz)) (List.mem_cons_of_mem _ gm_128) dX3_begin_30 ?_
      refine xm_iload_n hX 2 dX3_begin_33 rfl rfl ?_
      refine xm_puti hX (k := 1) (ci := 1) (j := 8) (C := RX1) (T := TX1) (N := 11) (t0 := tyX1) (hL _ _ cL_1) rfl rfl (by decide) (fun z hz => List.mem_cons_of_mem _ (iw_X1 z hz)) tyX1_ok nmX1 rfl rfl (List.mem_cons_of_mem _ gm_51) dX3_begin_34 (fun M6 => ?_)
      refine xm_aload_n hX 0 dX3_begin_37 rfl rfl ?_
      refine xm_get hX (k := 0) (ci := 3) (j := 0) (C := RX3) (T := TX3) (N := 6) (v := .ref (g.1 1)) (hL _ _ cL_0) rfl rfl rfl (by decide) (fun z hz => List.mem_cons_of_mem _ (iw_X3 z hz)) (List.mem_cons_of_mem _ gm_128) dX3_begin_38 ?_
      refine xm_iload_n hX 3 dX3_begin_41 rfl rfl ?_
      refine xm_puti hX (k := 1) (ci := 1) (j := 9) (C := RX1) (T := TX1) (N := 11) (t0 := tyX1) (hL _ _ cL_1) rfl rfl (by decide) (fun z hz => List.mem_cons_of_mem _ (iw_X1 z hz)) tyX1_ok nmX1 rfl rfl (List.mem_cons_of_mem _ gm_54) dX3_begin_42 (fun M7 => ?_)
      refine xm_aload_n hX 0 dX3_begin_45 rfl rfl ?_
      refine xm_get hX (k := 0) (ci := 3) (j := 0) (C := RX3) (T := TX3) (N := 6) (v := .ref (g.1 1)) (hL _ _ cL_0) rfl rfl rfl (by decide) (fun z hz => List.mem_cons_of_mem _ (iw_X3 z hz)) (List.mem_cons_of_mem _ gm_128) dX3_begin_46 ?_
      refine xm_get hX (k := 1) (ci := 1) (j := 6) (C := RX1) (T := TX1) (N := 11) (v := .int (M7.1 1 6)) (hL _ _ cL_1) rfl rfl rfl (by decide) (fun z hz => List.mem_cons_of_mem _ (iw_X1 z hz)) (List.mem_cons_of_mem _ gm_45) dX3_begin_49 ?_
      exact xm_iret hX dX3_begin_52
    · refine xm_bipush hX (v := -2) rfl dX3_begin_18 ?_
      exact xm_iret hX dX3_begin_20
-- ===== OdometryDesk$State.hasSights()Z ['1']
theorem dX1_hasSights_0 : decode cX1_hasSights 0 = .ok (.iconst 0, 1) := by decide +kernel
theorem dX1_hasSights_1 : decode cX1_hasSights 1 = .ok (.istore_n 1, 1) := by decide +kernel
theorem dX1_hasSights_2 : decode cX1_hasSights 2 = .ok (.iload_n 1, 1) := by decide +kernel
theorem dX1_hasSights_3 : decode cX1_hasSights 3 = .ok (.aload_n 0, 1) := by decide +kernel
theorem dX1_hasSights_4 : decode cX1_hasSights 4 = .ok (.getfield 48, 3) := by decide +kernel
theorem dX1_hasSights_7 : decode cX1_hasSights 7 = .ok (.if_icmp .ge 19, 3) := by decide +kernel
theorem dX1_hasSights_10 : decode cX1_hasSights 10 = .ok (.aload_n 0, 1) := by decide +kernel
theorem dX1_hasSights_11 : decode cX1_hasSights 11 = .ok (.iload_n 1, 1) := by decide +kernel
theorem dX1_hasSights_12 : decode cX1_hasSights 12 = .ok (.invokevirtual 74, 3) := by decide +kernel
theorem dX1_hasSights_15 : decode cX1_hasSights 15 = .ok (.ifCond .eq 5, 3) := by decide +kernel
theorem dX1_hasSights_18 : decode cX1_hasSights 18 = .ok (.iconst 1, 1) := by decide +kernel
theorem dX1_hasSights_19 : decode cX1_hasSights 19 = .ok (.ireturn, 1) := by decide +kernel
theorem dX1_hasSights_20 : decode cX1_hasSights 20 = .ok (.iinc 1 1, 3) := by decide +kernel
theorem dX1_hasSights_23 : decode cX1_hasSights 23 = .ok (.goto (-21), 3) := by decide +kernel
theorem dX1_hasSights_26 : decode cX1_hasSights 26 = .ok (.iconst 0, 1) := by decide +kernel
theorem dX1_hasSights_27 : decode cX1_hasSights 27 = .ok (.ireturn, 1) := by decide +kernel
abbrev wX1_hasSights : List Cond := .code yX1_hasSights cX1_hasSights 2 (some .boolean) :: lw_gd
theorem hdX1_hasSights : (yX1_hasSights.cls ≠ "java/lang/invoke/MethodHandle" ∧ yX1_hasSights.cls ≠ "java/lang/invoke/VarHandle" ∧ (parseMethodDescriptor yX1_hasSights.desc).map (fun d => d.parameters.length) = some 0) := by decide +kernel
def fX1_hasSights_2  (k2 : Int32 → xm_M → Option (Int32 × xm_M)) (b1 : Int32) (M : xm_M) : Option (Int32 × xm_M) :=
  if (M.1 1 6) ≤ b1 then some ((0 : Int32), M) else xm_bi (fX1_isSight b1 M) (fun x3 M2 => if x3 = 0 then xm_lt (b1 + Int32.ofInt 1) (fun x4 => k2 x4 M2) else some ((1 : Int32), M2))
set_option maxRecDepth 20000 in
theorem tfX1_hasSights_2 {p : Program} {l : Launch} {e : Env} {s : State} {m : MethodId} {args : Array Value} {below : List Frame} {meth : Method} {c : Code} {D : va_G} {g : xm_G} {A : Nat → Prop}  {L : List xm_Sh} (hL : xm_pre L) (hX : xm_X p m meth c cX1_hasSights 2 s args wX1_hasSights RX1 (some .boolean) D L g A)  (k2 : Int32 → xm_M → Option (Int32 × xm_M)) (h2 : ∀ (b1 : Int32), ∀ (M : xm_M), xm_J p l e ({ frames := 2, cells := 0, slots := 0, locals := 43 }) s m args below meth c 2 D L g A (xm_Z below args s D L g A (xm_Fi g)) 2 [(0, .ref (g.1 1)), (1, .int b1)] [] M (k2 b1 M)) : ∀ (b1 : Int32), ∀ (M : xm_M), xm_J p l e ({ frames := 2, cells := 0, slots := 0, locals := 43 }) s m args below meth c 2 D L g A (xm_Z below args s D L g A (xm_Fi g)) 2 [(0, .ref (g.1 1)), (1, .int b1)] [] M (fX1_hasSights_2 k2 b1 M) := by
  intro b1 M
  unfold fX1_hasSights_2
  refine xm_iload_n hX 1 dX1_hasSights_2 rfl rfl ?_
  refine xm_aload_n hX 0 dX1_hasSights_3 rfl rfl ?_
  refine xm_get hX (k := 1) (ci := 1) (j := 6) (C := RX1) (T := TX1) (N := 11) (v := .int (M.1 1 6)) (hL _ _ cL_1) rfl rfl rfl (by decide) (fun z hz => List.mem_cons_of_mem _ (iw_X1 z hz)) (List.mem_cons_of_mem _ gm_43) dX1_hasSights_4 ?_
  refine xm_icmp_ge hX (tgt := 26) dX1_hasSights_7 rfl ?_ ?_
  · refine xm_iconst hX (v := 0) rfl dX1_hasSights_26 ?_
    exact xm_zretL hX (by decide) dX1_hasSights_27
  · refine xm_aload_n hX 0 dX1_hasSights_10 rfl rfl ?_
    refine xm_iload_n hX 1 dX1_hasSights_11 rfl rfl ?_
    refine xm_calli hX (xm_runV hX (k := 1) (ci := 1) (As := (fun g => [.int b1])) (kX1_isSight hL b1 M) (hL _ _ cL_1) rfl (xm_gV gm_399 gm_212 gm_213 gm_2 gm_214) rfl ⟨rfl, rfl⟩ ⟨rfl, hdX1_isSight⟩ ⟨Nat.le_of_ble_eq_true rfl, Nat.le_of_ble_eq_true rfl⟩ rfl (Nat.le_of_ble_eq_true rfl) rfl ⟨Nat.le_of_ble_eq_true rfl, Nat.le_of_ble_eq_true rfl⟩ dX1_hasSights_12) (fun x3 M2 => ?_)
    refine xm_if_eq hX (tgt := 20) dX1_hasSights_15 rfl ?_ ?_
    · refine xm_iinc hX (lv2 := fun x4 => [(1, .int x4), (0, .ref (g.1 1))]) 1 dX1_hasSights_20 rfl (by decide) (fun _ => rfl) (fun x4 => ?_)
      refine xm_goto hX (tgt := 2) dX1_hasSights_23 rfl ?_
      refine xm_weak [1, 0] (lv' := [(0, .ref (g.1 1)), (1, .int x4)]) rfl ?_
      exact h2 x4 M2
    · refine xm_iconst hX (v := 1) rfl dX1_hasSights_18 ?_
      exact xm_zretL hX (by decide) dX1_hasSights_19
def fX1_hasSights_2_it   (nq : Nat) : Int32 → xm_M → Option (Int32 × xm_M) := xm_it (fun kq => fX1_hasSights_2 kq) (fun _ _ => none) nq
theorem tfX1_hasSights_2_it {p : Program} {l : Launch} {e : Env} {s : State} {m : MethodId} {args : Array Value} {below : List Frame} {meth : Method} {c : Code} {D : va_G} {g : xm_G} {A : Nat → Prop}  {L : List xm_Sh} (hL : xm_pre L) (hX : xm_X p m meth c cX1_hasSights 2 s args wX1_hasSights RX1 (some .boolean) D L g A)    : ∀ (nq : Nat), ∀ (b1 : Int32), ∀ (M : xm_M), xm_J p l e ({ frames := 2, cells := 0, slots := 0, locals := 43 }) s m args below meth c 2 D L g A (xm_Z below args s D L g A (xm_Fi g)) 2 [(0, .ref (g.1 1)), (1, .int b1)] [] M (fX1_hasSights_2_it  nq b1 M) := by
  intro nq
  induction nq with
  | zero => exact fun _ _ => xm_none
  | succ nq ih => exact tfX1_hasSights_2 hL hX _ ih
def fX1_hasSights   (M : xm_M) : Option (Int32 × xm_M) :=
  xm_lt ((0 : Int32)) (fun x1 => fX1_hasSights_2_it xm_N x1 M)
set_option maxRecDepth 20000 in
theorem kX1_hasSights {l : Launch} {L : List xm_Sh} (hL : xm_pre L)    (M : xm_M) : xm_C l yX1_hasSights wX1_hasSights ({ frames := 2, cells := 0, slots := 0, locals := 43 }) L (fun g => [.ref (g.1 1)]) M xm_Fi (fX1_hasSights   M) := by
  refine xm_C.of (by decide) rfl (fun g => Nat.le_of_ble_eq_true rfl) ?_
  intro p e s m args below meth c D g A hX
  refine xm_lv (lv' := [(0, .ref (g.1 1))]) rfl ?_
  unfold fX1_hasSights
  refine xm_iconst hX (v := 0) rfl dX1_hasSights_0 ?_
  refine xm_nmi (fun x1 => ?_)
  refine xm_istore_n hX (lv' := [(1, .int x1), (0, .ref (g.1 1))]) dX1_hasSights_1 rfl (by decide) rfl ?_
  refine xm_weak [1, 0] (lv' := [(0, .ref (g.1 1)), (1, .int x1)]) rfl ?_
  exact tfX1_hasSights_2_it hL hX xm_N x1 M
-- ===== OdometryDesk.copy([I[I)V ['2', '72']
theorem dX3_copy_0 : decode cX3_copy 0 = .ok (.aload_n 0, 1) := by decide +kernel
theorem dX3_copy_1 : decode cX3_copy 1 = .ok (.iconst 0, 1) := by decide +kernel
theorem dX3_copy_2 : decode cX3_copy 2 = .ok (.aload_n 1, 1) := by decide +kernel
theorem dX3_copy_3 : decode cX3_copy 3 = .ok (.iconst 0, 1) := by decide +kernel
theorem dX3_copy_4 : decode cX3_copy 4 = .ok (.aload_n 0, 1) := by decide +kernel
theorem dX3_copy_5 : decode cX3_copy 5 = .ok (.arraylength, 1) := by decide +kernel
theorem dX3_copy_6 : decode cX3_copy 6 = .ok (.aload_n 1, 1) := by decide +kernel
theorem dX3_copy_7 : decode cX3_copy 7 = .ok (.arraylength, 1) := by decide +kernel
theorem dX3_copy_8 : decode cX3_copy 8 = .ok (.invokestatic 78, 3) := by decide +kernel
theorem dX3_copy_11 : decode cX3_copy 11 = .ok (.invokestatic 247, 3) := by decide +kernel
theorem dX3_copy_14 : decode cX3_copy 14 = .ok (.return_, 1) := by decide +kernel
abbrev wX3_copy : List Cond := .code yX3_copy cX3_copy 2 none :: lw_gd
theorem hdX3_copy : (yX3_copy.cls ≠ "java/lang/invoke/MethodHandle" ∧ yX3_copy.cls ≠ "java/lang/invoke/VarHandle" ∧ (parseMethodDescriptor yX3_copy.desc).map (fun d => d.parameters.length) = some 2) := by decide +kernel
def fX3_copy (k : Nat) (n : Nat) (j : Nat) (nj : Nat)  (M : xm_M) : Option xm_M :=
  if (0 : Int32) < 0 ∨ (0 : Int32) < 0 ∨ (if ((Int32.ofNat nj)) < ((Int32.ofNat n)) then ((Int32.ofNat nj)) else ((Int32.ofNat n))) < 0 ∨ n < (0 : Int32).toNatClampNeg + (if ((Int32.ofNat nj)) < ((Int32.ofNat n)) then ((Int32.ofNat nj)) else ((Int32.ofNat n))).toNatClampNeg ∨ nj < (0 : Int32).toNatClampNeg + (if ((Int32.ofNat nj)) < ((Int32.ofNat n)) then ((Int32.ofNat nj)) else ((Int32.ofNat n))).toNatClampNeg then none else xm_lt (xm_r M j (va_cpy (M.1 k) (M.1 j) (0 : Int32).toNatClampNeg (0 : Int32).toNatClampNeg (if ((Int32.ofNat nj)) < ((Int32.ofNat n)) then ((Int32.ofNat nj)) else ((Int32.ofNat n))).toNatClampNeg)) (fun M1 => some M1)
set_option maxRecDepth 20000 in
theorem kX3_copy {l : Launch} {L : List xm_Sh} (hL : xm_pre L) (k : Nat) (n : Nat) (j : Nat) (nj : Nat) (hk : L[k]? = some (.inl (0, .int, n))) (hj : L[j]? = some (.inl (0, .int, nj)))  (M : xm_M) : xm_C l yX3_copy wX3_copy ({ frames := 1, cells := 0, slots := 0, locals := 18 }) L (fun g => [.ref (g.1 k), .ref (g.1 j)]) M xm_Fv (fX3_copy k n j nj  M) := by
  refine xm_C.of (by decide) rfl (fun g => Nat.le_of_ble_eq_true rfl) ?_
  intro p e s m args below meth c D g A hX
  refine xm_lv (lv' := [(0, .ref (g.1 k)), (1, .ref (g.1 j))]) rfl ?_
  unfold fX3_copy
  refine xm_aload_n hX 0 dX3_copy_0 rfl rfl ?_
  refine xm_iconst hX (v := 0) rfl dX3_copy_1 ?_
  refine xm_aload_n hX 1 dX3_copy_2 rfl rfl ?_
  refine xm_iconst hX (v := 0) rfl dX3_copy_3 ?_
  refine xm_aload_n hX 0 dX3_copy_4 rfl rfl ?_
  refine xm_alen hX (v := (Int32.ofNat n)) hk rfl dX3_copy_5 ?_
  refine xm_aload_n hX 1 dX3_copy_6 rfl rfl ?_
  refine xm_alen hX (v := (Int32.ofNat nj)) hj rfl dX3_copy_7 ?_
  refine xm_mmin hX (List.mem_cons_of_mem _ gm_167) (List.mem_cons_of_mem _ gm_168) (List.mem_cons_of_mem _ gm_5) (List.mem_cons_of_mem _ gm_169) (Nat.le_of_ble_eq_true rfl) (Nat.le_of_ble_eq_true rfl) ⟨Nat.le_of_ble_eq_true rfl, Nat.le_of_ble_eq_true rfl⟩ dX3_copy_8 ?_
  refine xm_acopy hX (List.mem_cons_of_mem _ gm_385) (List.mem_cons_of_mem _ gm_387) (List.mem_cons_of_mem _ gm_386) (List.mem_cons_of_mem _ gm_7) (n1 := n) (n2 := nj) hk hj (Nat.le_of_ble_eq_true rfl) (Nat.le_of_ble_eq_true rfl) dX3_copy_11 (fun M1 => ?_)
  exact xm_vret hX dX3_copy_14
-- ===== OdometryDesk.errorsWith(II)J ['0']
theorem dX3_errorsWith_0 : decode cX3_errorsWith 0 = .ok (.aload_n 0, 1) := by decide +kernel
theorem dX3_errorsWith_1 : decode cX3_errorsWith 1 = .ok (.getfield 10, 3) := by decide +kernel
theorem dX3_errorsWith_4 : decode cX3_errorsWith 4 = .ok (.getfield 52, 3) := by decide +kernel
theorem dX3_errorsWith_7 : decode cX3_errorsWith 7 = .ok (.aload_n 0, 1) := by decide +kernel
theorem dX3_errorsWith_8 : decode cX3_errorsWith 8 = .ok (.getfield 45, 3) := by decide +kernel
theorem dX3_errorsWith_11 : decode cX3_errorsWith 11 = .ok (.invokestatic 215, 3) := by decide +kernel
theorem dX3_errorsWith_14 : decode cX3_errorsWith 14 = .ok (.aload_n 0, 1) := by decide +kernel
theorem dX3_errorsWith_15 : decode cX3_errorsWith 15 = .ok (.getfield 45, 3) := by decide +kernel
theorem dX3_errorsWith_18 : decode cX3_errorsWith 18 = .ok (.iload_n 1, 1) := by decide +kernel
theorem dX3_errorsWith_19 : decode cX3_errorsWith 19 = .ok (.iload_n 2, 1) := by decide +kernel
theorem dX3_errorsWith_20 : decode cX3_errorsWith 20 = .ok (.invokestatic 59, 3) := by decide +kernel
theorem dX3_errorsWith_23 : decode cX3_errorsWith 23 = .ok (.aload_n 0, 1) := by decide +kernel
theorem dX3_errorsWith_24 : decode cX3_errorsWith 24 = .ok (.getfield 25, 3) := by decide +kernel
theorem dX3_errorsWith_27 : decode cX3_errorsWith 27 = .ok (.aload_n 0, 1) := by decide +kernel
theorem dX3_errorsWith_28 : decode cX3_errorsWith 28 = .ok (.getfield 10, 3) := by decide +kernel
theorem dX3_errorsWith_31 : decode cX3_errorsWith 31 = .ok (.aload_n 0, 1) := by decide +kernel
theorem dX3_errorsWith_32 : decode cX3_errorsWith 32 = .ok (.getfield 45, 3) := by decide +kernel
theorem dX3_errorsWith_35 : decode cX3_errorsWith 35 = .ok (.invokevirtual 119, 3) := by decide +kernel
theorem dX3_errorsWith_38 : decode cX3_errorsWith 38 = .ok (.aload_n 0, 1) := by decide +kernel
theorem dX3_errorsWith_39 : decode cX3_errorsWith 39 = .ok (.getfield 25, 3) := by decide +kernel
theorem dX3_errorsWith_42 : decode cX3_errorsWith 42 = .ok (.getfield 219, 3) := by decide +kernel
theorem dX3_errorsWith_45 : decode cX3_errorsWith 45 = .ok (.lreturn, 1) := by decide +kernel
abbrev wX3_errorsWith : List Cond := .code yX3_errorsWith cX3_errorsWith 3 (some .long) :: lw_gd
theorem hdX3_errorsWith : (yX3_errorsWith.cls ≠ "java/lang/invoke/MethodHandle" ∧ yX3_errorsWith.cls ≠ "java/lang/invoke/VarHandle" ∧ (parseMethodDescriptor yX3_errorsWith.desc).map (fun d => d.parameters.length) = some 2) := by decide +kernel
def fX3_errorsWith  (a1 : Int32) (a2 : Int32) (M : xm_M) : Option (Int64 × xm_M) :=
  xm_bv (fX3_copy 2 9 72 9 M) (fun M1 => xm_bv (fX3_keep 72 9 a1 a2 M1) (fun M2 => xm_bv (fX2_follow 72 M2) (fun M3 => some (M3.2 49 9, M3))))
set_option maxRecDepth 20000 in
theorem kX3_errorsWith {l : Launch} {L : List xm_Sh} (hL : xm_pre L)   (a1 : Int32) (a2 : Int32) (M : xm_M) : xm_C l yX3_errorsWith wX3_errorsWith ({ frames := 5, cells := 0, slots := 0, locals := 129 }) L (fun g => [.ref (g.1 0), .int a1, .int a2]) M xm_Fl (fX3_errorsWith  a1 a2 M) := by
  refine xm_C.of (by decide) rfl (fun g => Nat.le_of_ble_eq_true rfl) ?_
  intro p e s m args below meth c D g A hX
  refine xm_lv (lv' := [(0, .ref (g.1 0)), (1, .int a1), (2, .int a2)]) rfl ?_
  unfold fX3_errorsWith
  refine xm_aload_n hX 0 dX3_errorsWith_0 rfl rfl ?_
  refine xm_get hX (k := 0) (ci := 3) (j := 0) (C := RX3) (T := TX3) (N := 6) (v := .ref (g.1 1)) (hL _ _ cL_0) rfl rfl rfl (by decide) (fun z hz => List.mem_cons_of_mem _ (iw_X3 z hz)) (List.mem_cons_of_mem _ gm_128) dX3_errorsWith_1 ?_
  refine xm_get hX (k := 1) (ci := 1) (j := 0) (C := RX1) (T := TX1) (N := 11) (v := .ref (g.1 2)) (hL _ _ cL_1) rfl rfl rfl (by decide) (fun z hz => List.mem_cons_of_mem _ (iw_X1 z hz)) (List.mem_cons_of_mem _ gm_29) dX3_errorsWith_4 ?_
  refine xm_aload_n hX 0 dX3_errorsWith_7 rfl rfl ?_
  refine xm_get hX (k := 0) (ci := 3) (j := 5) (C := RX3) (T := TX3) (N := 6) (v := .ref (g.1 72)) (hL _ _ cL_0) rfl rfl rfl (by decide) (fun z hz => List.mem_cons_of_mem _ (iw_X3 z hz)) (List.mem_cons_of_mem _ gm_133) dX3_errorsWith_8 ?_
  refine xm_callv hX (xm_runS hX (As := (fun g => [.ref (g.1 2), .ref (g.1 72)])) (kX3_copy hL 2 9 72 9 (hL _ _ cL_2) (hL _ _ cL_72) M) (xm_gS gm_382 gm_383 gm_1 gm_384) rfl ⟨rfl, rfl⟩ hdX3_copy ⟨Nat.le_of_ble_eq_true rfl, Nat.le_of_ble_eq_true rfl⟩ rfl (Nat.le_of_ble_eq_true rfl) rfl ⟨Nat.le_of_ble_eq_true rfl, Nat.le_of_ble_eq_true rfl⟩ dX3_errorsWith_11) (fun M1 => ?_)
  refine xm_aload_n hX 0 dX3_errorsWith_14 rfl rfl ?_
  refine xm_get hX (k := 0) (ci := 3) (j := 5) (C := RX3) (T := TX3) (N := 6) (v := .ref (g.1 72)) (hL _ _ cL_0) rfl rfl rfl (by decide) (fun z hz => List.mem_cons_of_mem _ (iw_X3 z hz)) (List.mem_cons_of_mem _ gm_133) dX3_errorsWith_15 ?_
  refine xm_iload_n hX 1 dX3_errorsWith_18 rfl rfl ?_
  refine xm_iload_n hX 2 dX3_errorsWith_19 rfl rfl ?_
  refine xm_callv hX (xm_runS hX (As := (fun g => [.ref (g.1 72), .int a1, .int a2])) (kX3_keep hL 72 9 (hL _ _ cL_72) a1 a2 M1) (xm_gS gm_155 gm_156 gm_1 gm_157) rfl ⟨rfl, rfl⟩ hdX3_keep ⟨Nat.le_of_ble_eq_true rfl, Nat.le_of_ble_eq_true rfl⟩ rfl (Nat.le_of_ble_eq_true rfl) rfl ⟨Nat.le_of_ble_eq_true rfl, Nat.le_of_ble_eq_true rfl⟩ dX3_errorsWith_20) (fun M2 => ?_)
  refine xm_aload_n hX 0 dX3_errorsWith_23 rfl rfl ?_
  refine xm_get hX (k := 0) (ci := 3) (j := 3) (C := RX3) (T := TX3) (N := 6) (v := .ref (g.1 49)) (hL _ _ cL_0) rfl rfl rfl (by decide) (fun z hz => List.mem_cons_of_mem _ (iw_X3 z hz)) (List.mem_cons_of_mem _ gm_131) dX3_errorsWith_24 ?_
  refine xm_aload_n hX 0 dX3_errorsWith_27 rfl rfl ?_
  refine xm_get hX (k := 0) (ci := 3) (j := 0) (C := RX3) (T := TX3) (N := 6) (v := .ref (g.1 1)) (hL _ _ cL_0) rfl rfl rfl (by decide) (fun z hz => List.mem_cons_of_mem _ (iw_X3 z hz)) (List.mem_cons_of_mem _ gm_128) dX3_errorsWith_28 ?_
  refine xm_aload_n hX 0 dX3_errorsWith_31 rfl rfl ?_
  refine xm_get hX (k := 0) (ci := 3) (j := 5) (C := RX3) (T := TX3) (N := 6) (v := .ref (g.1 72)) (hL _ _ cL_0) rfl rfl rfl (by decide) (fun z hz => List.mem_cons_of_mem _ (iw_X3 z hz)) (List.mem_cons_of_mem _ gm_133) dX3_errorsWith_32 ?_
  refine xm_callv hX (xm_runV hX (k := 49) (ci := 2) (As := (fun g => [.ref (g.1 1), .ref (g.1 72)])) (kX2_follow hL 72 (hL _ _ cL_72) M2) (hL _ _ cL_49) rfl (xm_gV gm_200 gm_201 gm_202 gm_3 gm_203) rfl ⟨rfl, rfl⟩ ⟨rfl, hdX2_follow⟩ ⟨Nat.le_of_ble_eq_true rfl, Nat.le_of_ble_eq_true rfl⟩ rfl (Nat.le_of_ble_eq_true rfl) rfl ⟨Nat.le_of_ble_eq_true rfl, Nat.le_of_ble_eq_true rfl⟩ dX3_errorsWith_35) (fun M3 => ?_)
  refine xm_aload_n hX 0 dX3_errorsWith_38 rfl rfl ?_
  refine xm_get hX (k := 0) (ci := 3) (j := 3) (C := RX3) (T := TX3) (N := 6) (v := .ref (g.1 49)) (hL _ _ cL_0) rfl rfl rfl (by decide) (fun z hz => List.mem_cons_of_mem _ (iw_X3 z hz)) (List.mem_cons_of_mem _ gm_131) dX3_errorsWith_39 ?_
  refine xm_get hX (k := 49) (ci := 2) (j := 9) (C := RX2) (T := TX2) (N := 12) (v := .long (M3.2 49 9)) (hL _ _ cL_49) rfl rfl rfl (by decide) (fun z hz => List.mem_cons_of_mem _ (iw_X2 z hz)) (List.mem_cons_of_mem _ gm_91) dX3_errorsWith_42 ?_
  exact xm_lret hX dX3_errorsWith_45
-- ===== OdometryDesk.isSetting(II)Z
theorem dX3_isSetting_0 : decode cX3_isSetting 0 = .ok (.iload_n 0, 1) := by decide +kernel
theorem dX3_isSetting_1 : decode cX3_isSetting 1 = .ok (.ifCond .lt 40, 3) := by decide +kernel
theorem dX3_isSetting_4 : decode cX3_isSetting 4 = .ok (.iload_n 0, 1) := by decide +kernel
theorem dX3_isSetting_5 : decode cX3_isSetting 5 = .ok (.getstatic 225, 3) := by decide +kernel
theorem dX3_isSetting_8 : decode cX3_isSetting 8 = .ok (.arraylength, 1) := by decide +kernel
theorem dX3_isSetting_9 : decode cX3_isSetting 9 = .ok (.if_icmp .ge 32, 3) := by decide +kernel
theorem dX3_isSetting_12 : decode cX3_isSetting 12 = .ok (.iload_n 0, 1) := by decide +kernel
theorem dX3_isSetting_13 : decode cX3_isSetting 13 = .ok (.getstatic 228, 3) := by decide +kernel
theorem dX3_isSetting_16 : decode cX3_isSetting 16 = .ok (.arraylength, 1) := by decide +kernel
theorem dX3_isSetting_17 : decode cX3_isSetting 17 = .ok (.if_icmp .ge 24, 3) := by decide +kernel
theorem dX3_isSetting_20 : decode cX3_isSetting 20 = .ok (.iload_n 1, 1) := by decide +kernel
theorem dX3_isSetting_21 : decode cX3_isSetting 21 = .ok (.getstatic 225, 3) := by decide +kernel
theorem dX3_isSetting_24 : decode cX3_isSetting 24 = .ok (.iload_n 0, 1) := by decide +kernel
theorem dX3_isSetting_25 : decode cX3_isSetting 25 = .ok (.iaload, 1) := by decide +kernel
theorem dX3_isSetting_26 : decode cX3_isSetting 26 = .ok (.getstatic 228, 3) := by decide +kernel
theorem dX3_isSetting_29 : decode cX3_isSetting 29 = .ok (.iload_n 0, 1) := by decide +kernel
theorem dX3_isSetting_30 : decode cX3_isSetting 30 = .ok (.iaload, 1) := by decide +kernel
theorem dX3_isSetting_31 : decode cX3_isSetting 31 = .ok (.invokestatic 66, 3) := by decide +kernel
theorem dX3_isSetting_34 : decode cX3_isSetting 34 = .ok (.ifCond .eq 7, 3) := by decide +kernel
theorem dX3_isSetting_37 : decode cX3_isSetting 37 = .ok (.iconst 1, 1) := by decide +kernel
theorem dX3_isSetting_38 : decode cX3_isSetting 38 = .ok (.goto 4, 3) := by decide +kernel
theorem dX3_isSetting_41 : decode cX3_isSetting 41 = .ok (.iconst 0, 1) := by decide +kernel
theorem dX3_isSetting_42 : decode cX3_isSetting 42 = .ok (.ireturn, 1) := by decide +kernel
abbrev wX3_isSetting : List Cond := .code yX3_isSetting cX3_isSetting 2 (some .boolean) :: lw_gd
theorem hdX3_isSetting : (yX3_isSetting.cls ≠ "java/lang/invoke/MethodHandle" ∧ yX3_isSetting.cls ≠ "java/lang/invoke/VarHandle" ∧ (parseMethodDescriptor yX3_isSetting.desc).map (fun d => d.parameters.length) = some 2) := by decide +kernel
def fX3_isSetting  (a0 : Int32) (a1 : Int32) (M : xm_M) : Option (Int32 × xm_M) :=
  if a0 < 0 then some ((0 : Int32), M) else if (9 : Int32) ≤ a0 then some ((0 : Int32), M) else if (9 : Int32) ≤ a0 then some ((0 : Int32), M) else if a0 < 0 ∨ 9 ≤ a0.toNatClampNeg then none else if a0 < 0 ∨ 9 ≤ a0.toNatClampNeg then none else xm_bi (fX3_isWithin a1 (xm_low a0.toNatClampNeg) (xm_high a0.toNatClampNeg) M) (fun x6 M5 => if x6 = 0 then some ((0 : Int32), M5) else some ((1 : Int32), M5))
set_option maxRecDepth 20000 in
theorem kX3_isSetting {l : Launch} {L : List xm_Sh} (hL : xm_pre L)   (a0 : Int32) (a1 : Int32) (M : xm_M) : xm_C l yX3_isSetting wX3_isSetting ({ frames := 1, cells := 0, slots := 0, locals := 22 }) L (fun g => [.int a0, .int a1]) M xm_Fi (fX3_isSetting  a0 a1 M) := by
  refine xm_C.of (by decide) rfl (fun g => Nat.le_of_ble_eq_true rfl) ?_
  intro p e s m args below meth c D g A hX
  refine xm_lv (lv' := [(0, .int a0), (1, .int a1)]) rfl ?_
  unfold fX3_isSetting
  refine xm_iload_n hX 0 dX3_isSetting_0 rfl rfl ?_
  refine xm_if_lt hX (tgt := 41) dX3_isSetting_1 rfl ?_ ?_
  · refine xm_iconst hX (v := 0) rfl dX3_isSetting_41 ?_
    exact xm_zretL hX (by decide) dX3_isSetting_42
  · refine xm_iload_n hX 0 dX3_isSetting_4 rfl rfl ?_
    obtain ⟨t1l, t1h, t1Zl, t1Tl, t1Zh, t1Th⟩ := hX.2.2.2.2.2.2.2.2.2
    refine xm_gets hX t1Zl (List.mem_cons_of_mem _ gm_147) dX3_isSetting_5 ?_
    refine xm_tlen hX (v := 9) t1Tl rfl dX3_isSetting_8 ?_
    refine xm_icmp_ge hX (tgt := 41) dX3_isSetting_9 rfl ?_ ?_
    · refine xm_iconst hX (v := 0) rfl dX3_isSetting_41 ?_
      exact xm_zretL hX (by decide) dX3_isSetting_42
    · refine xm_iload_n hX 0 dX3_isSetting_12 rfl rfl ?_
      obtain ⟨t2l, t2h, t2Zl, t2Tl, t2Zh, t2Th⟩ := hX.2.2.2.2.2.2.2.2.2
      refine xm_gets hX t2Zh (List.mem_cons_of_mem _ gm_148) dX3_isSetting_13 ?_
      refine xm_tlen hX (v := 9) t2Th rfl dX3_isSetting_16 ?_
      refine xm_icmp_ge hX (tgt := 41) dX3_isSetting_17 rfl ?_ ?_
      · refine xm_iconst hX (v := 0) rfl dX3_isSetting_41 ?_
        exact xm_zretL hX (by decide) dX3_isSetting_42
      · refine xm_iload_n hX 1 dX3_isSetting_20 rfl rfl ?_
        obtain ⟨t3l, t3h, t3Zl, t3Tl, t3Zh, t3Th⟩ := hX.2.2.2.2.2.2.2.2.2
        refine xm_gets hX t3Zl (List.mem_cons_of_mem _ gm_147) dX3_isSetting_21 ?_
        refine xm_iload_n hX 0 dX3_isSetting_24 rfl rfl ?_
        refine xm_ti hX (f := xm_low) t3Tl dX3_isSetting_25 ?_
        obtain ⟨t4l, t4h, t4Zl, t4Tl, t4Zh, t4Th⟩ := hX.2.2.2.2.2.2.2.2.2
        refine xm_gets hX t4Zh (List.mem_cons_of_mem _ gm_148) dX3_isSetting_26 ?_
        refine xm_iload_n hX 0 dX3_isSetting_29 rfl rfl ?_
        refine xm_ti hX (f := xm_high) t4Th dX3_isSetting_30 ?_
        refine xm_calli hX (xm_runS hX (As := (fun g => [.int a1, .int (xm_low a0.toNatClampNeg), .int (xm_high a0.toNatClampNeg)])) (kX3_isWithin hL a1 (xm_low a0.toNatClampNeg) (xm_high a0.toNatClampNeg) M) (xm_gS gm_149 gm_150 gm_1 gm_151) rfl ⟨rfl, rfl⟩ hdX3_isWithin ⟨Nat.le_of_ble_eq_true rfl, Nat.le_of_ble_eq_true rfl⟩ rfl (Nat.le_of_ble_eq_true rfl) rfl ⟨Nat.le_of_ble_eq_true rfl, Nat.le_of_ble_eq_true rfl⟩ dX3_isSetting_31) (fun x6 M5 => ?_)
        refine xm_if_eq hX (tgt := 41) dX3_isSetting_34 rfl ?_ ?_
        · refine xm_iconst hX (v := 0) rfl dX3_isSetting_41 ?_
          exact xm_zretL hX (by decide) dX3_isSetting_42
        · refine xm_iconst hX (v := 1) rfl dX3_isSetting_37 ?_
          refine xm_goto hX (tgt := 42) dX3_isSetting_38 rfl ?_
          exact xm_zretL hX (by decide) dX3_isSetting_42
-- ===== OdometryDesk.bestBase()I ['0']
theorem dX3_bestBase_0 : decode cX3_bestBase 0 = .ok (.aload_n 0, 1) := by decide +kernel
theorem dX3_bestBase_1 : decode cX3_bestBase 1 = .ok (.getfield 10, 3) := by decide +kernel
theorem dX3_bestBase_4 : decode cX3_bestBase 4 = .ok (.invokevirtual 169, 3) := by decide +kernel
theorem dX3_bestBase_7 : decode cX3_bestBase 7 = .ok (.ifCond .ne 6, 3) := by decide +kernel
theorem dX3_bestBase_10 : decode cX3_bestBase 10 = .ok (.bipush (-6), 2) := by decide +kernel
theorem dX3_bestBase_12 : decode cX3_bestBase 12 = .ok (.ireturn, 1) := by decide +kernel
theorem dX3_bestBase_13 : decode cX3_bestBase 13 = .ok (.aload_n 0, 1) := by decide +kernel
theorem dX3_bestBase_14 : decode cX3_bestBase 14 = .ok (.getfield 10, 3) := by decide +kernel
theorem dX3_bestBase_17 : decode cX3_bestBase 17 = .ok (.getfield 52, 3) := by decide +kernel
theorem dX3_bestBase_20 : decode cX3_bestBase 20 = .ok (.iconst 2, 1) := by decide +kernel
theorem dX3_bestBase_21 : decode cX3_bestBase 21 = .ok (.invokestatic 55, 3) := by decide +kernel
theorem dX3_bestBase_24 : decode cX3_bestBase 24 = .ok (.istore_n 1, 1) := by decide +kernel
theorem dX3_bestBase_25 : decode cX3_bestBase 25 = .ok (.iload_n 1, 1) := by decide +kernel
theorem dX3_bestBase_26 : decode cX3_bestBase 26 = .ok (.istore_n 2, 1) := by decide +kernel
theorem dX3_bestBase_27 : decode cX3_bestBase 27 = .ok (.aload_n 0, 1) := by decide +kernel
theorem dX3_bestBase_28 : decode cX3_bestBase 28 = .ok (.iconst 2, 1) := by decide +kernel
theorem dX3_bestBase_29 : decode cX3_bestBase 29 = .ok (.iload_n 1, 1) := by decide +kernel
theorem dX3_bestBase_30 : decode cX3_bestBase 30 = .ok (.invokevirtual 156, 3) := by decide +kernel
theorem dX3_bestBase_33 : decode cX3_bestBase 33 = .ok (.lstore_n 3, 1) := by decide +kernel
theorem dX3_bestBase_34 : decode cX3_bestBase 34 = .ok (.iconst 1, 1) := by decide +kernel
theorem dX3_bestBase_35 : decode cX3_bestBase 35 = .ok (.istore 5, 2) := by decide +kernel
theorem dX3_bestBase_37 : decode cX3_bestBase 37 = .ok (.iload 5, 2) := by decide +kernel
theorem dX3_bestBase_39 : decode cX3_bestBase 39 = .ok (.bipush 20, 2) := by decide +kernel
theorem dX3_bestBase_41 : decode cX3_bestBase 41 = .ok (.if_icmp .gt 67, 3) := by decide +kernel
theorem dX3_bestBase_44 : decode cX3_bestBase 44 = .ok (.iload_n 1, 1) := by decide +kernel
theorem dX3_bestBase_45 : decode cX3_bestBase 45 = .ok (.iload 5, 2) := by decide +kernel
theorem dX3_bestBase_47 : decode cX3_bestBase 47 = .ok (.isub, 1) := by decide +kernel
theorem dX3_bestBase_48 : decode cX3_bestBase 48 = .ok (.istore 6, 2) := by decide +kernel
theorem dX3_bestBase_50 : decode cX3_bestBase 50 = .ok (.iload 6, 2) := by decide +kernel
theorem dX3_bestBase_52 : decode cX3_bestBase 52 = .ok (.iload_n 1, 1) := by decide +kernel
theorem dX3_bestBase_53 : decode cX3_bestBase 53 = .ok (.iload 5, 2) := by decide +kernel
theorem dX3_bestBase_55 : decode cX3_bestBase 55 = .ok (.iadd, 1) := by decide +kernel
theorem dX3_bestBase_56 : decode cX3_bestBase 56 = .ok (.if_icmp .gt 46, 3) := by decide +kernel
theorem dX3_bestBase_59 : decode cX3_bestBase 59 = .ok (.iconst 2, 1) := by decide +kernel
theorem dX3_bestBase_60 : decode cX3_bestBase 60 = .ok (.iload 6, 2) := by decide +kernel
theorem dX3_bestBase_62 : decode cX3_bestBase 62 = .ok (.invokestatic 48, 3) := by decide +kernel
theorem dX3_bestBase_65 : decode cX3_bestBase 65 = .ok (.ifCond .eq 25, 3) := by decide +kernel
theorem dX3_bestBase_68 : decode cX3_bestBase 68 = .ok (.aload_n 0, 1) := by decide +kernel
theorem dX3_bestBase_69 : decode cX3_bestBase 69 = .ok (.iconst 2, 1) := by decide +kernel
theorem dX3_bestBase_70 : decode cX3_bestBase 70 = .ok (.iload 6, 2) := by decide +kernel
theorem dX3_bestBase_72 : decode cX3_bestBase 72 = .ok (.invokevirtual 156, 3) := by decide +kernel
theorem dX3_bestBase_75 : decode cX3_bestBase 75 = .ok (.lstore 7, 2) := by decide +kernel
theorem dX3_bestBase_77 : decode cX3_bestBase 77 = .ok (.lload 7, 2) := by decide +kernel
theorem dX3_bestBase_79 : decode cX3_bestBase 79 = .ok (.lload_n 3, 1) := by decide +kernel
theorem dX3_bestBase_80 : decode cX3_bestBase 80 = .ok (.lcmp, 1) := by decide +kernel
theorem dX3_bestBase_81 : decode cX3_bestBase 81 = .ok (.ifCond .ge 9, 3) := by decide +kernel
theorem dX3_bestBase_84 : decode cX3_bestBase 84 = .ok (.lload 7, 2) := by decide +kernel
theorem dX3_bestBase_86 : decode cX3_bestBase 86 = .ok (.lstore_n 3, 1) := by decide +kernel
theorem dX3_bestBase_87 : decode cX3_bestBase 87 = .ok (.iload 6, 2) := by decide +kernel
theorem dX3_bestBase_89 : decode cX3_bestBase 89 = .ok (.istore_n 2, 1) := by decide +kernel
theorem dX3_bestBase_90 : decode cX3_bestBase 90 = .ok (.iload 6, 2) := by decide +kernel
theorem dX3_bestBase_92 : decode cX3_bestBase 92 = .ok (.iconst 2, 1) := by decide +kernel
theorem dX3_bestBase_93 : decode cX3_bestBase 93 = .ok (.iload 5, 2) := by decide +kernel
theorem dX3_bestBase_95 : decode cX3_bestBase 95 = .ok (.imul, 1) := by decide +kernel
theorem dX3_bestBase_96 : decode cX3_bestBase 96 = .ok (.iadd, 1) := by decide +kernel
theorem dX3_bestBase_97 : decode cX3_bestBase 97 = .ok (.istore 6, 2) := by decide +kernel
theorem dX3_bestBase_99 : decode cX3_bestBase 99 = .ok (.goto (-49), 3) := by decide +kernel
theorem dX3_bestBase_102 : decode cX3_bestBase 102 = .ok (.iinc 5 1, 3) := by decide +kernel
theorem dX3_bestBase_105 : decode cX3_bestBase 105 = .ok (.goto (-68), 3) := by decide +kernel
theorem dX3_bestBase_108 : decode cX3_bestBase 108 = .ok (.iload_n 2, 1) := by decide +kernel
theorem dX3_bestBase_109 : decode cX3_bestBase 109 = .ok (.ireturn, 1) := by decide +kernel
abbrev wX3_bestBase : List Cond := .code yX3_bestBase cX3_bestBase 9 (some .int) :: lw_gd
theorem hdX3_bestBase : (yX3_bestBase.cls ≠ "java/lang/invoke/MethodHandle" ∧ yX3_bestBase.cls ≠ "java/lang/invoke/VarHandle" ∧ (parseMethodDescriptor yX3_bestBase.desc).map (fun d => d.parameters.length) = some 0) := by decide +kernel
def fX3_bestBase_90  (k37 : Int32 → Int32 → Int64 → Int32 → xm_M → Option (Int32 × xm_M)) (k50 : Int32 → Int32 → Int64 → Int32 → Int32 → xm_M → Option (Int32 × xm_M)) (b1 : Int32) (b2 : Int32) (b3 : Int64) (b5 : Int32) (b6 : Int32) (M : xm_M) : Option (Int32 × xm_M) :=
  xm_lt (b6 + ((2 : Int32) * b5)) (fun x12 => k50 b1 b2 b3 b5 x12 M)
set_option maxRecDepth 20000 in
theorem tfX3_bestBase_90 {p : Program} {l : Launch} {e : Env} {s : State} {m : MethodId} {args : Array Value} {below : List Frame} {meth : Method} {c : Code} {D : va_G} {g : xm_G} {A : Nat → Prop}  {L : List xm_Sh} (hL : xm_pre L) (hX : xm_X p m meth c cX3_bestBase 9 s args wX3_bestBase RX3 (some .int) D L g A)  (k37 : Int32 → Int32 → Int64 → Int32 → xm_M → Option (Int32 × xm_M)) (k50 : Int32 → Int32 → Int64 → Int32 → Int32 → xm_M → Option (Int32 × xm_M)) (h37 : ∀ (b1 : Int32), ∀ (b2 : Int32), ∀ (b3 : Int64), ∀ (b5 : Int32), ∀ (M : xm_M), xm_J p l e ({ frames := 6, cells := 0, slots := 0, locals := 151 }) s m args below meth c 9 D L g A (xm_Z below args s D L g A (xm_Fi g)) 37 [(0, .ref (g.1 0)), (1, .int b1), (2, .int b2), (3, .long b3), (5, .int b5)] [] M (k37 b1 b2 b3 b5 M)) (h50 : ∀ (b1 : Int32), ∀ (b2 : Int32), ∀ (b3 : Int64), ∀ (b5 : Int32), ∀ (b6 : Int32), ∀ (M : xm_M), xm_J p l e ({ frames := 6, cells := 0, slots := 0, locals := 151 }) s m args below meth c 9 D L g A (xm_Z below args s D L g A (xm_Fi g)) 50 [(0, .ref (g.1 0)), (1, .int b1), (2, .int b2), (3, .long b3), (5, .int b5), (6, .int b6)] [] M (k50 b1 b2 b3 b5 b6 M)) : ∀ (b1 : Int32), ∀ (b2 : Int32), ∀ (b3 : Int64), ∀ (b5 : Int32), ∀ (b6 : Int32), ∀ (M : xm_M), xm_J p l e ({ frames := 6, cells := 0, slots := 0, locals := 151 }) s m args below meth c 9 D L g A (xm_Z below args s D L g A (xm_Fi g)) 90 [(0, .ref (g.1 0)), (1, .int b1), (2, .int b2), (3, .long b3), (5, .int b5), (6, .int b6)] [] M (fX3_bestBase_90 k37 k50 b1 b2 b3 b5 b6 M) := by
  intro b1 b2 b3 b5 b6 M
  unfold fX3_bestBase_90
  refine xm_iload hX 5 dX3_bestBase_90 rfl ?_
  refine xm_iconst hX (v := 2) rfl dX3_bestBase_92 ?_
  refine xm_iload hX 4 dX3_bestBase_93 rfl ?_
  refine xm_imul hX dX3_bestBase_95 ?_
  refine xm_iadd hX dX3_bestBase_96 ?_
  refine xm_nmi (fun x12 => ?_)
  refine xm_istore hX (lv' := [(6, .int x12), (0, .ref (g.1 0)), (1, .int b1), (2, .int b2), (3, .long b3), (5, .int b5)]) dX3_bestBase_97 (by decide) rfl ?_
  refine xm_goto hX (tgt := 50) dX3_bestBase_99 rfl ?_
  refine xm_weak [1, 2, 3, 4, 5, 0] (lv' := [(0, .ref (g.1 0)), (1, .int b1), (2, .int b2), (3, .long b3), (5, .int b5), (6, .int x12)]) rfl ?_
  exact h50 b1 b2 b3 b5 x12 M
def fX3_bestBase_50  (k37 : Int32 → Int32 → Int64 → Int32 → xm_M → Option (Int32 × xm_M)) (k50 : Int32 → Int32 → Int64 → Int32 → Int32 → xm_M → Option (Int32 × xm_M)) (b1 : Int32) (b2 : Int32) (b3 : Int64) (b5 : Int32) (b6 : Int32) (M : xm_M) : Option (Int32 × xm_M) :=
  if (b1 + b5) < b6 then xm_lt (b5 + Int32.ofInt 1) (fun x9 => k37 b1 b2 b3 x9 M) else xm_bi (fX3_isSetting (2 : Int32) b6 M) (fun x11 M10 => if x11 = 0 then fX3_bestBase_90 k37 k50 b1 b2 b3 b5 b6 M10 else xm_bl (fX3_errorsWith (2 : Int32) b6 M10) (fun x14 M13 => if 0 ≤ (lg_cmp x14 b3) then fX3_bestBase_90 k37 k50 b1 b2 b3 b5 b6 M13 else fX3_bestBase_90 k37 k50 b1 b6 x14 b5 b6 M13))
set_option maxRecDepth 20000 in
theorem tfX3_bestBase_50 {p : Program} {l : Launch} {e : Env} {s : State} {m : MethodId} {args : Array Value} {below : List Frame} {meth : Method} {c : Code} {D : va_G} {g : xm_G} {A : Nat → Prop}  {L : List xm_Sh} (hL : xm_pre L) (hX : xm_X p m meth c cX3_bestBase 9 s args wX3_bestBase RX3 (some .int) D L g A)  (k37 : Int32 → Int32 → Int64 → Int32 → xm_M → Option (Int32 × xm_M)) (k50 : Int32 → Int32 → Int64 → Int32 → Int32 → xm_M → Option (Int32 × xm_M)) (h37 : ∀ (b1 : Int32), ∀ (b2 : Int32), ∀ (b3 : Int64), ∀ (b5 : Int32), ∀ (M : xm_M), xm_J p l e ({ frames := 6, cells := 0, slots := 0, locals := 151 }) s m args below meth c 9 D L g A (xm_Z below args s D L g A (xm_Fi g)) 37 [(0, .ref (g.1 0)), (1, .int b1), (2, .int b2), (3, .long b3), (5, .int b5)] [] M (k37 b1 b2 b3 b5 M)) (h50 : ∀ (b1 : Int32), ∀ (b2 : Int32), ∀ (b3 : Int64), ∀ (b5 : Int32), ∀ (b6 : Int32), ∀ (M : xm_M), xm_J p l e ({ frames := 6, cells := 0, slots := 0, locals := 151 }) s m args below meth c 9 D L g A (xm_Z below args s D L g A (xm_Fi g)) 50 [(0, .ref (g.1 0)), (1, .int b1), (2, .int b2), (3, .long b3), (5, .int b5), (6, .int b6)] [] M (k50 b1 b2 b3 b5 b6 M)) : ∀ (b1 : Int32), ∀ (b2 : Int32), ∀ (b3 : Int64), ∀ (b5 : Int32), ∀ (b6 : Int32), ∀ (M : xm_M), xm_J p l e ({ frames := 6, cells := 0, slots := 0, locals := 151 }) s m args below meth c 9 D L g A (xm_Z below args s D L g A (xm_Fi g)) 50 [(0, .ref (g.1 0)), (1, .int b1), (2, .int b2), (3, .long b3), (5, .int b5), (6, .int b6)] [] M (fX3_bestBase_50 k37 k50 b1 b2 b3 b5 b6 M) := by
  intro b1 b2 b3 b5 b6 M
  unfold fX3_bestBase_50
  refine xm_iload hX 5 dX3_bestBase_50 rfl ?_
  refine xm_iload_n hX 1 dX3_bestBase_52 rfl rfl ?_
  refine xm_iload hX 4 dX3_bestBase_53 rfl ?_
  refine xm_iadd hX dX3_bestBase_55 ?_
  refine xm_icmp_gt hX (tgt := 102) dX3_bestBase_56 rfl ?_ ?_
  · refine xm_iinc hX (lv2 := fun x9 => [(5, .int x9), (0, .ref (g.1 0)), (1, .int b1), (2, .int b2), (3, .long b3), (6, .int b6)]) 4 dX3_bestBase_102 rfl (by decide) (fun _ => rfl) (fun x9 => ?_)
    refine xm_goto hX (tgt := 37) dX3_bestBase_105 rfl ?_
    refine xm_weak [1, 2, 3, 4, 0] (lv' := [(0, .ref (g.1 0)), (1, .int b1), (2, .int b2), (3, .long b3), (5, .int x9)]) rfl ?_
    exact h37 b1 b2 b3 x9 M
  · refine xm_iconst hX (v := 2) rfl dX3_bestBase_59 ?_
    refine xm_iload hX 5 dX3_bestBase_60 rfl ?_
    refine xm_calli hX (xm_runS hX (As := (fun g => [.int (2 : Int32), .int b6])) (kX3_isSetting hL (2 : Int32) b6 M) (xm_gS gm_144 gm_145 gm_1 gm_146) rfl ⟨rfl, rfl⟩ hdX3_isSetting ⟨Nat.le_of_ble_eq_true rfl, Nat.le_of_ble_eq_true rfl⟩ rfl (Nat.le_of_ble_eq_true rfl) rfl ⟨Nat.le_of_ble_eq_true rfl, Nat.le_of_ble_eq_true rfl⟩ dX3_bestBase_62) (fun x11 M10 => ?_)
    refine xm_if_eq hX (tgt := 90) dX3_bestBase_65 rfl ?_ ?_
    · exact tfX3_bestBase_90 hL hX k37 k50 h37 h50 b1 b2 b3 b5 b6 M10
    · refine xm_aload_n hX 0 dX3_bestBase_68 rfl rfl ?_
      refine xm_iconst hX (v := 2) rfl dX3_bestBase_69 ?_
      refine xm_iload hX 5 dX3_bestBase_70 rfl ?_
      refine xm_calll hX (xm_runV hX (k := 0) (ci := 3) (As := (fun g => [.int (2 : Int32), .int b6])) (kX3_errorsWith hL (2 : Int32) b6 M10) (hL _ _ cL_0) rfl (xm_gV gm_379 gm_380 gm_510 gm_1 gm_381) rfl ⟨rfl, rfl⟩ ⟨rfl, hdX3_errorsWith⟩ ⟨Nat.le_of_ble_eq_true rfl, Nat.le_of_ble_eq_true rfl⟩ rfl (Nat.le_of_ble_eq_true rfl) rfl ⟨Nat.le_of_ble_eq_true rfl, Nat.le_of_ble_eq_true rfl⟩ dX3_bestBase_72) (fun x14 M13 => ?_)
      refine xm_lstore hX (lv' := [(7, .long x14), (0, .ref (g.1 0)), (1, .int b1), (2, .int b2), (3, .long b3), (5, .int b5), (6, .int b6)]) dX3_bestBase_75 (by decide) rfl ?_
      refine xm_lload hX 0 dX3_bestBase_77 rfl ?_
      refine xm_lload_n hX 4 dX3_bestBase_79 rfl rfl ?_
      refine xm_lcmp hX dX3_bestBase_80 ?_
      refine xm_if_ge hX (tgt := 90) dX3_bestBase_81 rfl ?_ ?_
      · refine xm_weak [1, 2, 3, 4, 5, 6] (lv' := [(0, .ref (g.1 0)), (1, .int b1), (2, .int b2), (3, .long b3), (5, .int b5), (6, .int b6)]) rfl ?_
        exact tfX3_bestBase_90 hL hX k37 k50 h37 h50 b1 b2 b3 b5 b6 M13
      · refine xm_lload hX 0 dX3_bestBase_84 rfl ?_
        refine xm_lstore_n hX (lv' := [(3, .long x14), (7, .long x14), (0, .ref (g.1 0)), (1, .int b1), (2, .int b2), (5, .int b5), (6, .int b6)]) dX3_bestBase_86 rfl (by decide) rfl ?_
        refine xm_iload hX 6 dX3_bestBase_87 rfl ?_
        refine xm_istore_n hX (lv' := [(2, .int b6), (3, .long x14), (7, .long x14), (0, .ref (g.1 0)), (1, .int b1), (5, .int b5), (6, .int b6)]) dX3_bestBase_89 rfl (by decide) rfl ?_
        refine xm_weak [3, 4, 0, 1, 5, 6] (lv' := [(0, .ref (g.1 0)), (1, .int b1), (2, .int b6), (3, .long x14), (5, .int b5), (6, .int b6)]) rfl ?_
        exact tfX3_bestBase_90 hL hX k37 k50 h37 h50 b1 b6 x14 b5 b6 M13
def fX3_bestBase_50_it  (k37 : Int32 → Int32 → Int64 → Int32 → xm_M → Option (Int32 × xm_M)) (nq : Nat) : Int32 → Int32 → Int64 → Int32 → Int32 → xm_M → Option (Int32 × xm_M) := xm_it (fun kq => fX3_bestBase_50 k37 kq) (fun _ _ _ _ _ _ => none) nq
theorem tfX3_bestBase_50_it {p : Program} {l : Launch} {e : Env} {s : State} {m : MethodId} {args : Array Value} {below : List Frame} {meth : Method} {c : Code} {D : va_G} {g : xm_G} {A : Nat → Prop}  {L : List xm_Sh} (hL : xm_pre L) (hX : xm_X p m meth c cX3_bestBase 9 s args wX3_bestBase RX3 (some .int) D L g A)  (k37 : Int32 → Int32 → Int64 → Int32 → xm_M → Option (Int32 × xm_M)) (h37 : ∀ (b1 : Int32), ∀ (b2 : Int32), ∀ (b3 : Int64), ∀ (b5 : Int32), ∀ (M : xm_M), xm_J p l e ({ frames := 6, cells := 0, slots := 0, locals := 151 }) s m args below meth c 9 D L g A (xm_Z below args s D L g A (xm_Fi g)) 37 [(0, .ref (g.1 0)), (1, .int b1), (2, .int b2), (3, .long b3), (5, .int b5)] [] M (k37 b1 b2 b3 b5 M)) : ∀ (nq : Nat), ∀ (b1 : Int32), ∀ (b2 : Int32), ∀ (b3 : Int64), ∀ (b5 : Int32), ∀ (b6 : Int32), ∀ (M : xm_M), xm_J p l e ({ frames := 6, cells := 0, slots := 0, locals := 151 }) s m args below meth c 9 D L g A (xm_Z below args s D L g A (xm_Fi g)) 50 [(0, .ref (g.1 0)), (1, .int b1), (2, .int b2), (3, .long b3), (5, .int b5), (6, .int b6)] [] M (fX3_bestBase_50_it k37 nq b1 b2 b3 b5 b6 M) := by
  intro nq
  induction nq with
  | zero => exact fun _ _ _ _ _ _ => xm_none
  | succ nq ih => exact tfX3_bestBase_50 hL hX k37 _ h37 ih
def fX3_bestBase_37  (k37 : Int32 → Int32 → Int64 → Int32 → xm_M → Option (Int32 × xm_M)) (b1 : Int32) (b2 : Int32) (b3 : Int64) (b5 : Int32) (M : xm_M) : Option (Int32 × xm_M) :=
  if (20 : Int32) < b5 then some (b2, M) else xm_lt (b1 - b5) (fun x8 => fX3_bestBase_50_it k37 xm_N b1 b2 b3 b5 x8 M)
set_option maxRecDepth 20000 in
theorem tfX3_bestBase_37 {p : Program} {l : Launch} {e : Env} {s : State} {m : MethodId} {args : Array Value} {below : List Frame} {meth : Method} {c : Code} {D : va_G} {g : xm_G} {A : Nat → Prop}  {L : List xm_Sh} (hL : xm_pre L) (hX : xm_X p m meth c cX3_bestBase 9 s args wX3_bestBase RX3 (some .int) D L g A)  (k37 : Int32 → Int32 → Int64 → Int32 → xm_M → Option (Int32 × xm_M)) (h37 : ∀ (b1 : Int32), ∀ (b2 : Int32), ∀ (b3 : Int64), ∀ (b5 : Int32), ∀ (M : xm_M), xm_J p l e ({ frames := 6, cells := 0, slots := 0, locals := 151 }) s m args below meth c 9 D L g A (xm_Z below args s D L g A (xm_Fi g)) 37 [(0, .ref (g.1 0)), (1, .int b1), (2, .int b2), (3, .long b3), (5, .int b5)] [] M (k37 b1 b2 b3 b5 M)) : ∀ (b1 : Int32), ∀ (b2 : Int32), ∀ (b3 : Int64), ∀ (b5 : Int32), ∀ (M : xm_M), xm_J p l e ({ frames := 6, cells := 0, slots := 0, locals := 151 }) s m args below meth c 9 D L g A (xm_Z below args s D L g A (xm_Fi g)) 37 [(0, .ref (g.1 0)), (1, .int b1), (2, .int b2), (3, .long b3), (5, .int b5)] [] M (fX3_bestBase_37 k37 b1 b2 b3 b5 M) := by
  intro b1 b2 b3 b5 M
  unfold fX3_bestBase_37
  refine xm_iload hX 4 dX3_bestBase_37 rfl ?_
  refine xm_bipush hX (v := 20) rfl dX3_bestBase_39 ?_
  refine xm_icmp_gt hX (tgt := 108) dX3_bestBase_41 rfl ?_ ?_
  · refine xm_iload_n hX 2 dX3_bestBase_108 rfl rfl ?_
    exact xm_iret hX dX3_bestBase_109
  · refine xm_iload_n hX 1 dX3_bestBase_44 rfl rfl ?_
    refine xm_iload hX 4 dX3_bestBase_45 rfl ?_
    refine xm_isub hX dX3_bestBase_47 ?_
    refine xm_nmi (fun x8 => ?_)
    refine xm_istore hX (lv' := [(6, .int x8), (0, .ref (g.1 0)), (1, .int b1), (2, .int b2), (3, .long b3), (5, .int b5)]) dX3_bestBase_48 (by decide) rfl ?_
    refine xm_weak [1, 2, 3, 4, 5, 0] (lv' := [(0, .ref (g.1 0)), (1, .int b1), (2, .int b2), (3, .long b3), (5, .int b5), (6, .int x8)]) rfl ?_
    exact tfX3_bestBase_50_it hL hX k37 h37 xm_N b1 b2 b3 b5 x8 M
def fX3_bestBase_37_it   (nq : Nat) : Int32 → Int32 → Int64 → Int32 → xm_M → Option (Int32 × xm_M) := xm_it (fun kq => fX3_bestBase_37 kq) (fun _ _ _ _ _ => none) nq
theorem tfX3_bestBase_37_it {p : Program} {l : Launch} {e : Env} {s : State} {m : MethodId} {args : Array Value} {below : List Frame} {meth : Method} {c : Code} {D : va_G} {g : xm_G} {A : Nat → Prop}  {L : List xm_Sh} (hL : xm_pre L) (hX : xm_X p m meth c cX3_bestBase 9 s args wX3_bestBase RX3 (some .int) D L g A)    : ∀ (nq : Nat), ∀ (b1 : Int32), ∀ (b2 : Int32), ∀ (b3 : Int64), ∀ (b5 : Int32), ∀ (M : xm_M), xm_J p l e ({ frames := 6, cells := 0, slots := 0, locals := 151 }) s m args below meth c 9 D L g A (xm_Z below args s D L g A (xm_Fi g)) 37 [(0, .ref (g.1 0)), (1, .int b1), (2, .int b2), (3, .long b3), (5, .int b5)] [] M (fX3_bestBase_37_it  nq b1 b2 b3 b5 M) := by
  intro nq
  induction nq with
  | zero => exact fun _ _ _ _ _ => xm_none
  | succ nq ih => exact tfX3_bestBase_37 hL hX _ ih
def fX3_bestBase   (M : xm_M) : Option (Int32 × xm_M) :=
  xm_bi (fX1_hasSights M) (fun x2 M1 => if x2 = 0 then some ((-6 : Int32), M1) else xm_bi (fX3_item 2 9 (2 : Int32) M1) (fun x4 M3 => xm_bl (fX3_errorsWith (2 : Int32) x4 M3) (fun x6 M5 => xm_lt ((1 : Int32)) (fun x7 => fX3_bestBase_37_it xm_N x4 x4 x6 x7 M5))))
set_option maxRecDepth 20000 in
theorem kX3_bestBase {l : Launch} {L : List xm_Sh} (hL : xm_pre L)    (M : xm_M) : xm_C l yX3_bestBase wX3_bestBase ({ frames := 6, cells := 0, slots := 0, locals := 151 }) L (fun g => [.ref (g.1 0)]) M xm_Fi (fX3_bestBase   M) := by
  refine xm_C.of (by decide) rfl (fun g => Nat.le_of_ble_eq_true rfl) ?_
  intro p e s m args below meth c D g A hX
  refine xm_lv (lv' := [(0, .ref (g.1 0))]) rfl ?_
  unfold fX3_bestBase
  refine xm_aload_n hX 0 dX3_bestBase_0 rfl rfl ?_
  refine xm_get hX (k := 0) (ci := 3) (j := 0) (C := RX3) (T := TX3) (N := 6) (v := .ref (g.1 1)) (hL _ _ cL_0) rfl rfl rfl (by decide) (fun z hz => List.mem_cons_of_mem _ (iw_X3 z hz)) (List.mem_cons_of_mem _ gm_128) dX3_bestBase_1 ?_
  refine xm_calli hX (xm_runV hX (k := 1) (ci := 1) (As := (fun g => [])) (kX1_hasSights hL M) (hL _ _ cL_1) rfl (xm_gV gm_395 gm_396 gm_397 gm_2 gm_398) rfl ⟨rfl, rfl⟩ ⟨rfl, hdX1_hasSights⟩ ⟨Nat.le_of_ble_eq_true rfl, Nat.le_of_ble_eq_true rfl⟩ rfl (Nat.le_of_ble_eq_true rfl) rfl ⟨Nat.le_of_ble_eq_true rfl, Nat.le_of_ble_eq_true rfl⟩ dX3_bestBase_4) (fun x2 M1 => ?_)
  refine xm_if_ne hX (tgt := 13) dX3_bestBase_7 rfl ?_ ?_
  · refine xm_aload_n hX 0 dX3_bestBase_13 rfl rfl ?_
    refine xm_get hX (k := 0) (ci := 3) (j := 0) (C := RX3) (T := TX3) (N := 6) (v := .ref (g.1 1)) (hL _ _ cL_0) rfl rfl rfl (by decide) (fun z hz => List.mem_cons_of_mem _ (iw_X3 z hz)) (List.mem_cons_of_mem _ gm_128) dX3_bestBase_14 ?_
    refine xm_get hX (k := 1) (ci := 1) (j := 0) (C := RX1) (T := TX1) (N := 11) (v := .ref (g.1 2)) (hL _ _ cL_1) rfl rfl rfl (by decide) (fun z hz => List.mem_cons_of_mem _ (iw_X1 z hz)) (List.mem_cons_of_mem _ gm_29) dX3_bestBase_17 ?_
    refine xm_iconst hX (v := 2) rfl dX3_bestBase_20 ?_
    refine xm_calli hX (xm_runS hX (As := (fun g => [.ref (g.1 2), .int (2 : Int32)])) (kX3_item hL 2 9 (hL _ _ cL_2) (2 : Int32) M1) (xm_gS gm_152 gm_153 gm_1 gm_154) rfl ⟨rfl, rfl⟩ hdX3_item ⟨Nat.le_of_ble_eq_true rfl, Nat.le_of_ble_eq_true rfl⟩ rfl (Nat.le_of_ble_eq_true rfl) rfl ⟨Nat.le_of_ble_eq_true rfl, Nat.le_of_ble_eq_true rfl⟩ dX3_bestBase_21) (fun x4 M3 => ?_)
    refine xm_istore_n hX (lv' := [(1, .int x4), (0, .ref (g.1 0))]) dX3_bestBase_24 rfl (by decide) rfl ?_
    refine xm_iload_n hX 0 dX3_bestBase_25 rfl rfl ?_
    refine xm_istore_n hX (lv' := [(2, .int x4), (1, .int x4), (0, .ref (g.1 0))]) dX3_bestBase_26 rfl (by decide) rfl ?_
    refine xm_aload_n hX 2 dX3_bestBase_27 rfl rfl ?_
    refine xm_iconst hX (v := 2) rfl dX3_bestBase_28 ?_
    refine xm_iload_n hX 1 dX3_bestBase_29 rfl rfl ?_
    refine xm_calll hX (xm_runV hX (k := 0) (ci := 3) (As := (fun g => [.int (2 : Int32), .int x4])) (kX3_errorsWith hL (2 : Int32) x4 M3) (hL _ _ cL_0) rfl (xm_gV gm_379 gm_380 gm_510 gm_1 gm_381) rfl ⟨rfl, rfl⟩ ⟨rfl, hdX3_errorsWith⟩ ⟨Nat.le_of_ble_eq_true rfl, Nat.le_of_ble_eq_true rfl⟩ rfl (Nat.le_of_ble_eq_true rfl) rfl ⟨Nat.le_of_ble_eq_true rfl, Nat.le_of_ble_eq_true rfl⟩ dX3_bestBase_30) (fun x6 M5 => ?_)
    refine xm_lstore_n hX (lv' := [(3, .long x6), (2, .int x4), (1, .int x4), (0, .ref (g.1 0))]) dX3_bestBase_33 rfl (by decide) rfl ?_
    refine xm_iconst hX (v := 1) rfl dX3_bestBase_34 ?_
    refine xm_nmi (fun x7 => ?_)
    refine xm_istore hX (lv' := [(5, .int x7), (3, .long x6), (2, .int x4), (1, .int x4), (0, .ref (g.1 0))]) dX3_bestBase_35 (by decide) rfl ?_
    refine xm_weak [4, 3, 2, 1, 0] (lv' := [(0, .ref (g.1 0)), (1, .int x4), (2, .int x4), (3, .long x6), (5, .int x7)]) rfl ?_
    exact tfX3_bestBase_37_it hL hX xm_N x4 x4 x6 x7 M5
  · refine xm_bipush hX (v := -6) rfl dX3_bestBase_10 ?_
    exact xm_iret hX dX3_bestBase_12
-- ===== OdometryDesk.bestTrust()I ['0']
theorem dX3_bestTrust_0 : decode cX3_bestTrust 0 = .ok (.aload_n 0, 1) := by decide +kernel
theorem dX3_bestTrust_1 : decode cX3_bestTrust 1 = .ok (.getfield 10, 3) := by decide +kernel
theorem dX3_bestTrust_4 : decode cX3_bestTrust 4 = .ok (.invokevirtual 169, 3) := by decide +kernel
theorem dX3_bestTrust_7 : decode cX3_bestTrust 7 = .ok (.ifCond .ne 6, 3) := by decide +kernel
theorem dX3_bestTrust_10 : decode cX3_bestTrust 10 = .ok (.bipush (-6), 2) := by decide +kernel
theorem dX3_bestTrust_12 : decode cX3_bestTrust 12 = .ok (.ireturn, 1) := by decide +kernel
theorem dX3_bestTrust_13 : decode cX3_bestTrust 13 = .ok (.iconst 0, 1) := by decide +kernel
theorem dX3_bestTrust_14 : decode cX3_bestTrust 14 = .ok (.istore_n 1, 1) := by decide +kernel
theorem dX3_bestTrust_15 : decode cX3_bestTrust 15 = .ok (.aload_n 0, 1) := by decide +kernel
theorem dX3_bestTrust_16 : decode cX3_bestTrust 16 = .ok (.iconst 4, 1) := by decide +kernel
theorem dX3_bestTrust_17 : decode cX3_bestTrust 17 = .ok (.iconst 0, 1) := by decide +kernel
theorem dX3_bestTrust_18 : decode cX3_bestTrust 18 = .ok (.invokevirtual 156, 3) := by decide +kernel
theorem dX3_bestTrust_21 : decode cX3_bestTrust 21 = .ok (.lstore_n 2, 1) := by decide +kernel
theorem dX3_bestTrust_22 : decode cX3_bestTrust 22 = .ok (.bipush 10, 2) := by decide +kernel
theorem dX3_bestTrust_24 : decode cX3_bestTrust 24 = .ok (.istore 4, 2) := by decide +kernel
theorem dX3_bestTrust_26 : decode cX3_bestTrust 26 = .ok (.iload 4, 2) := by decide +kernel
theorem dX3_bestTrust_28 : decode cX3_bestTrust 28 = .ok (.bipush 100, 2) := by decide +kernel
theorem dX3_bestTrust_30 : decode cX3_bestTrust 30 = .ok (.if_icmp .gt 31, 3) := by decide +kernel
theorem dX3_bestTrust_33 : decode cX3_bestTrust 33 = .ok (.aload_n 0, 1) := by decide +kernel
theorem dX3_bestTrust_34 : decode cX3_bestTrust 34 = .ok (.iconst 4, 1) := by decide +kernel
theorem dX3_bestTrust_35 : decode cX3_bestTrust 35 = .ok (.iload 4, 2) := by decide +kernel
theorem dX3_bestTrust_37 : decode cX3_bestTrust 37 = .ok (.invokevirtual 156, 3) := by decide +kernel
theorem dX3_bestTrust_40 : decode cX3_bestTrust 40 = .ok (.lstore 5, 2) := by decide +kernel
theorem dX3_bestTrust_42 : decode cX3_bestTrust 42 = .ok (.lload 5, 2) := by decide +kernel
theorem dX3_bestTrust_44 : decode cX3_bestTrust 44 = .ok (.lload_n 2, 1) := by decide +kernel
theorem dX3_bestTrust_45 : decode cX3_bestTrust 45 = .ok (.lcmp, 1) := by decide +kernel
theorem dX3_bestTrust_46 : decode cX3_bestTrust 46 = .ok (.ifCond .ge 9, 3) := by decide +kernel
theorem dX3_bestTrust_49 : decode cX3_bestTrust 49 = .ok (.lload 5, 2) := by decide +kernel
theorem dX3_bestTrust_51 : decode cX3_bestTrust 51 = .ok (.lstore_n 2, 1) := by decide +kernel
theorem dX3_bestTrust_52 : decode cX3_bestTrust 52 = .ok (.iload 4, 2) := by decide +kernel
theorem dX3_bestTrust_54 : decode cX3_bestTrust 54 = .ok (.istore_n 1, 1) := by decide +kernel
theorem dX3_bestTrust_55 : decode cX3_bestTrust 55 = .ok (.iinc 4 10, 3) := by decide +kernel
theorem dX3_bestTrust_58 : decode cX3_bestTrust 58 = .ok (.goto (-32), 3) := by decide +kernel
theorem dX3_bestTrust_61 : decode cX3_bestTrust 61 = .ok (.iload_n 1, 1) := by decide +kernel
theorem dX3_bestTrust_62 : decode cX3_bestTrust 62 = .ok (.ireturn, 1) := by decide +kernel
abbrev wX3_bestTrust : List Cond := .code yX3_bestTrust cX3_bestTrust 7 (some .int) :: lw_gd
theorem hdX3_bestTrust : (yX3_bestTrust.cls ≠ "java/lang/invoke/MethodHandle" ∧ yX3_bestTrust.cls ≠ "java/lang/invoke/VarHandle" ∧ (parseMethodDescriptor yX3_bestTrust.desc).map (fun d => d.parameters.length) = some 0) := by decide +kernel
def fX3_bestTrust_55  (k26 : Int32 → Int64 → Int32 → xm_M → Option (Int32 × xm_M)) (b1 : Int32) (b2 : Int64) (b4 : Int32) (M : xm_M) : Option (Int32 × xm_M) :=
  xm_lt (b4 + Int32.ofInt 10) (fun x9 => k26 b1 b2 x9 M)
set_option maxRecDepth 20000 in
theorem tfX3_bestTrust_55 {p : Program} {l : Launch} {e : Env} {s : State} {m : MethodId} {args : Array Value} {below : List Frame} {meth : Method} {c : Code} {D : va_G} {g : xm_G} {A : Nat → Prop}  {L : List xm_Sh} (hL : xm_pre L) (hX : xm_X p m meth c cX3_bestTrust 7 s args wX3_bestTrust RX3 (some .int) D L g A)  (k26 : Int32 → Int64 → Int32 → xm_M → Option (Int32 × xm_M)) (h26 : ∀ (b1 : Int32), ∀ (b2 : Int64), ∀ (b4 : Int32), ∀ (M : xm_M), xm_J p l e ({ frames := 6, cells := 0, slots := 0, locals := 151 }) s m args below meth c 7 D L g A (xm_Z below args s D L g A (xm_Fi g)) 26 [(0, .ref (g.1 0)), (1, .int b1), (2, .long b2), (4, .int b4)] [] M (k26 b1 b2 b4 M)) : ∀ (b1 : Int32), ∀ (b2 : Int64), ∀ (b4 : Int32), ∀ (M : xm_M), xm_J p l e ({ frames := 6, cells := 0, slots := 0, locals := 151 }) s m args below meth c 7 D L g A (xm_Z below args s D L g A (xm_Fi g)) 55 [(0, .ref (g.1 0)), (1, .int b1), (2, .long b2), (4, .int b4)] [] M (fX3_bestTrust_55 k26 b1 b2 b4 M) := by
  intro b1 b2 b4 M
  unfold fX3_bestTrust_55
  refine xm_iinc hX (lv2 := fun x9 => [(4, .int x9), (0, .ref (g.1 0)), (1, .int b1), (2, .long b2)]) 3 dX3_bestTrust_55 rfl (by decide) (fun _ => rfl) (fun x9 => ?_)
  refine xm_goto hX (tgt := 26) dX3_bestTrust_58 rfl ?_
  refine xm_weak [1, 2, 3, 0] (lv' := [(0, .ref (g.1 0)), (1, .int b1), (2, .long b2), (4, .int x9)]) rfl ?_
  exact h26 b1 b2 x9 M
def fX3_bestTrust_26  (k26 : Int32 → Int64 → Int32 → xm_M → Option (Int32 × xm_M)) (b1 : Int32) (b2 : Int64) (b4 : Int32) (M : xm_M) : Option (Int32 × xm_M) :=
  if (100 : Int32) < b4 then some (b1, M) else xm_bl (fX3_errorsWith (4 : Int32) b4 M) (fun x8 M7 => if 0 ≤ (lg_cmp x8 b2) then fX3_bestTrust_55 k26 b1 b2 b4 M7 else fX3_bestTrust_55 k26 b4 x8 b4 M7)
set_option maxRecDepth 20000 in
theorem tfX3_bestTrust_26 {p : Program} {l : Launch} {e : Env} {s : State} {m : MethodId} {args : Array Value} {below : List Frame} {meth : Method} {c : Code} {D : va_G} {g : xm_G} {A : Nat → Prop}  {L : List xm_Sh} (hL : xm_pre L) (hX : xm_X p m meth c cX3_bestTrust 7 s args wX3_bestTrust RX3 (some .int) D L g A)  (k26 : Int32 → Int64 → Int32 → xm_M → Option (Int32 × xm_M)) (h26 : ∀ (b1 : Int32), ∀ (b2 : Int64), ∀ (b4 : Int32), ∀ (M : xm_M), xm_J p l e ({ frames := 6, cells := 0, slots := 0, locals := 151 }) s m args below meth c 7 D L g A (xm_Z below args s D L g A (xm_Fi g)) 26 [(0, .ref (g.1 0)), (1, .int b1), (2, .long b2), (4, .int b4)] [] M (k26 b1 b2 b4 M)) : ∀ (b1 : Int32), ∀ (b2 : Int64), ∀ (b4 : Int32), ∀ (M : xm_M), xm_J p l e ({ frames := 6, cells := 0, slots := 0, locals := 151 }) s m args below meth c 7 D L g A (xm_Z below args s D L g A (xm_Fi g)) 26 [(0, .ref (g.1 0)), (1, .int b1), (2, .long b2), (4, .int b4)] [] M (fX3_bestTrust_26 k26 b1 b2 b4 M) := by
  intro b1 b2 b4 M
  unfold fX3_bestTrust_26
  refine xm_iload hX 3 dX3_bestTrust_26 rfl ?_
  refine xm_bipush hX (v := 100) rfl dX3_bestTrust_28 ?_
  refine xm_icmp_gt hX (tgt := 61) dX3_bestTrust_30 rfl ?_ ?_
  · refine xm_iload_n hX 1 dX3_bestTrust_61 rfl rfl ?_
    exact xm_iret hX dX3_bestTrust_62
  · refine xm_aload_n hX 0 dX3_bestTrust_33 rfl rfl ?_
    refine xm_iconst hX (v := 4) rfl dX3_bestTrust_34 ?_
    refine xm_iload hX 3 dX3_bestTrust_35 rfl ?_
    refine xm_calll hX (xm_runV hX (k := 0) (ci := 3) (As := (fun g => [.int (4 : Int32), .int b4])) (kX3_errorsWith hL (4 : Int32) b4 M) (hL _ _ cL_0) rfl (xm_gV gm_379 gm_380 gm_510 gm_1 gm_381) rfl ⟨rfl, rfl⟩ ⟨rfl, hdX3_errorsWith⟩ ⟨Nat.le_of_ble_eq_true rfl, Nat.le_of_ble_eq_true rfl⟩ rfl (Nat.le_of_ble_eq_true rfl) rfl ⟨Nat.le_of_ble_eq_true rfl, Nat.le_of_ble_eq_true rfl⟩ dX3_bestTrust_37) (fun x8 M7 => ?_)
    refine xm_lstore hX (lv' := [(5, .long x8), (0, .ref (g.1 0)), (1, .int b1), (2, .long b2), (4, .int b4)]) dX3_bestTrust_40 (by decide) rfl ?_
    refine xm_lload hX 0 dX3_bestTrust_42 rfl ?_
    refine xm_lload_n hX 3 dX3_bestTrust_44 rfl rfl ?_
    refine xm_lcmp hX dX3_bestTrust_45 ?_
    refine xm_if_ge hX (tgt := 55) dX3_bestTrust_46 rfl ?_ ?_
    · refine xm_weak [1, 2, 3, 4] (lv' := [(0, .ref (g.1 0)), (1, .int b1), (2, .long b2), (4, .int b4)]) rfl ?_
      exact tfX3_bestTrust_55 hL hX k26 h26 b1 b2 b4 M7
    · refine xm_lload hX 0 dX3_bestTrust_49 rfl ?_
      refine xm_lstore_n hX (lv' := [(2, .long x8), (5, .long x8), (0, .ref (g.1 0)), (1, .int b1), (4, .int b4)]) dX3_bestTrust_51 rfl (by decide) rfl ?_
      refine xm_iload hX 4 dX3_bestTrust_52 rfl ?_
      refine xm_istore_n hX (lv' := [(1, .int b4), (2, .long x8), (5, .long x8), (0, .ref (g.1 0)), (4, .int b4)]) dX3_bestTrust_54 rfl (by decide) rfl ?_
      refine xm_weak [3, 0, 1, 4] (lv' := [(0, .ref (g.1 0)), (1, .int b4), (2, .long x8), (4, .int b4)]) rfl ?_
      exact tfX3_bestTrust_55 hL hX k26 h26 b4 x8 b4 M7
def fX3_bestTrust_26_it   (nq : Nat) : Int32 → Int64 → Int32 → xm_M → Option (Int32 × xm_M) := xm_it (fun kq => fX3_bestTrust_26 kq) (fun _ _ _ _ => none) nq
theorem tfX3_bestTrust_26_it {p : Program} {l : Launch} {e : Env} {s : State} {m : MethodId} {args : Array Value} {below : List Frame} {meth : Method} {c : Code} {D : va_G} {g : xm_G} {A : Nat → Prop}  {L : List xm_Sh} (hL : xm_pre L) (hX : xm_X p m meth c cX3_bestTrust 7 s args wX3_bestTrust RX3 (some .int) D L g A)    : ∀ (nq : Nat), ∀ (b1 : Int32), ∀ (b2 : Int64), ∀ (b4 : Int32), ∀ (M : xm_M), xm_J p l e ({ frames := 6, cells := 0, slots := 0, locals := 151 }) s m args below meth c 7 D L g A (xm_Z below args s D L g A (xm_Fi g)) 26 [(0, .ref (g.1 0)), (1, .int b1), (2, .long b2), (4, .int b4)] [] M (fX3_bestTrust_26_it  nq b1 b2 b4 M) := by
  intro nq
  induction nq with
  | zero => exact fun _ _ _ _ => xm_none
  | succ nq ih => exact tfX3_bestTrust_26 hL hX _ ih
def fX3_bestTrust   (M : xm_M) : Option (Int32 × xm_M) :=
  xm_bi (fX1_hasSights M) (fun x2 M1 => if x2 = 0 then some ((-6 : Int32), M1) else xm_lt ((0 : Int32)) (fun x3 => xm_bl (fX3_errorsWith (4 : Int32) (0 : Int32) M1) (fun x5 M4 => xm_lt ((10 : Int32)) (fun x6 => fX3_bestTrust_26_it xm_N x3 x5 x6 M4))))
set_option maxRecDepth 20000 in
theorem kX3_bestTrust {l : Launch} {L : List xm_Sh} (hL : xm_pre L)    (M : xm_M) : xm_C l yX3_bestTrust wX3_bestTrust ({ frames := 6, cells := 0, slots := 0, locals := 151 }) L (fun g => [.ref (g.1 0)]) M xm_Fi (fX3_bestTrust   M) := by
  refine xm_C.of (by decide) rfl (fun g => Nat.le_of_ble_eq_true rfl) ?_
  intro p e s m args below meth c D g A hX
  refine xm_lv (lv' := [(0, .ref (g.1 0))]) rfl ?_
  unfold fX3_bestTrust
  refine xm_aload_n hX 0 dX3_bestTrust_0 rfl rfl ?_
  refine xm_get hX (k := 0) (ci := 3) (j := 0) (C := RX3) (T := TX3) (N := 6) (v := .ref (g.1 1)) (hL _ _ cL_0) rfl rfl rfl (by decide) (fun z hz => List.mem_cons_of_mem _ (iw_X3 z hz)) (List.mem_cons_of_mem _ gm_128) dX3_bestTrust_1 ?_
  refine xm_calli hX (xm_runV hX (k := 1) (ci := 1) (As := (fun g => [])) (kX1_hasSights hL M) (hL _ _ cL_1) rfl (xm_gV gm_395 gm_396 gm_397 gm_2 gm_398) rfl ⟨rfl, rfl⟩ ⟨rfl, hdX1_hasSights⟩ ⟨Nat.le_of_ble_eq_true rfl, Nat.le_of_ble_eq_true rfl⟩ rfl (Nat.le_of_ble_eq_true rfl) rfl ⟨Nat.le_of_ble_eq_true rfl, Nat.le_of_ble_eq_true rfl⟩ dX3_bestTrust_4) (fun x2 M1 => ?_)
  refine xm_if_ne hX (tgt := 13) dX3_bestTrust_7 rfl ?_ ?_
  · refine xm_iconst hX (v := 0) rfl dX3_bestTrust_13 ?_
    refine xm_nmi (fun x3 => ?_)
    refine xm_istore_n hX (lv' := [(1, .int x3), (0, .ref (g.1 0))]) dX3_bestTrust_14 rfl (by decide) rfl ?_
    refine xm_aload_n hX 1 dX3_bestTrust_15 rfl rfl ?_
    refine xm_iconst hX (v := 4) rfl dX3_bestTrust_16 ?_
    refine xm_iconst hX (v := 0) rfl dX3_bestTrust_17 ?_
    refine xm_calll hX (xm_runV hX (k := 0) (ci := 3) (As := (fun g => [.int (4 : Int32), .int (0 : Int32)])) (kX3_errorsWith hL (4 : Int32) (0 : Int32) M1) (hL _ _ cL_0) rfl (xm_gV gm_379 gm_380 gm_510 gm_1 gm_381) rfl ⟨rfl, rfl⟩ ⟨rfl, hdX3_errorsWith⟩ ⟨Nat.le_of_ble_eq_true rfl, Nat.le_of_ble_eq_true rfl⟩ rfl (Nat.le_of_ble_eq_true rfl) rfl ⟨Nat.le_of_ble_eq_true rfl, Nat.le_of_ble_eq_true rfl⟩ dX3_bestTrust_18) (fun x5 M4 => ?_)
    refine xm_lstore_n hX (lv' := [(2, .long x5), (1, .int x3), (0, .ref (g.1 0))]) dX3_bestTrust_21 rfl (by decide) rfl ?_
    refine xm_bipush hX (v := 10) rfl dX3_bestTrust_22 ?_
    refine xm_nmi (fun x6 => ?_)
    refine xm_istore hX (lv' := [(4, .int x6), (2, .long x5), (1, .int x3), (0, .ref (g.1 0))]) dX3_bestTrust_24 (by decide) rfl ?_
    refine xm_weak [3, 2, 1, 0] (lv' := [(0, .ref (g.1 0)), (1, .int x3), (2, .long x5), (4, .int x6)]) rfl ?_
    exact tfX3_bestTrust_26_it hL hX xm_N x3 x5 x6 M4
  · refine xm_bipush hX (v := -6) rfl dX3_bestTrust_10 ?_
    exact xm_iret hX dX3_bestTrust_12
-- ===== OdometryDesk.closeCorridor()I ['0']
theorem dX3_closeCorridor_0 : decode cX3_closeCorridor 0 = .ok (.aload_n 0, 1) := by decide +kernel
theorem dX3_closeCorridor_1 : decode cX3_closeCorridor 1 = .ok (.getfield 10, 3) := by decide +kernel
theorem dX3_closeCorridor_4 : decode cX3_closeCorridor 4 = .ok (.getfield 70, 3) := by decide +kernel
theorem dX3_closeCorridor_7 : decode cX3_closeCorridor 7 = .ok (.ifCond .gt 6, 3) := by decide +kernel
theorem dX3_closeCorridor_10 : decode cX3_closeCorridor 10 = .ok (.bipush (-5), 2) := by decide +kernel
theorem dX3_closeCorridor_12 : decode cX3_closeCorridor 12 = .ok (.ireturn, 1) := by decide +kernel
theorem dX3_closeCorridor_13 : decode cX3_closeCorridor 13 = .ok (.aload_n 0, 1) := by decide +kernel
theorem dX3_closeCorridor_14 : decode cX3_closeCorridor 14 = .ok (.getfield 10, 3) := by decide +kernel
theorem dX3_closeCorridor_17 : decode cX3_closeCorridor 17 = .ok (.dup, 1) := by decide +kernel
theorem dX3_closeCorridor_18 : decode cX3_closeCorridor 18 = .ok (.getfield 70, 3) := by decide +kernel
theorem dX3_closeCorridor_21 : decode cX3_closeCorridor 21 = .ok (.iconst 1, 1) := by decide +kernel
theorem dX3_closeCorridor_22 : decode cX3_closeCorridor 22 = .ok (.isub, 1) := by decide +kernel
theorem dX3_closeCorridor_23 : decode cX3_closeCorridor 23 = .ok (.putfield 70, 3) := by decide +kernel
theorem dX3_closeCorridor_26 : decode cX3_closeCorridor 26 = .ok (.aload_n 0, 1) := by decide +kernel
theorem dX3_closeCorridor_27 : decode cX3_closeCorridor 27 = .ok (.getfield 10, 3) := by decide +kernel
theorem dX3_closeCorridor_30 : decode cX3_closeCorridor 30 = .ok (.getfield 70, 3) := by decide +kernel
theorem dX3_closeCorridor_33 : decode cX3_closeCorridor 33 = .ok (.ireturn, 1) := by decide +kernel
abbrev wX3_closeCorridor : List Cond := .code yX3_closeCorridor cX3_closeCorridor 1 (some .int) :: lw_gd
theorem hdX3_closeCorridor : (yX3_closeCorridor.cls ≠ "java/lang/invoke/MethodHandle" ∧ yX3_closeCorridor.cls ≠ "java/lang/invoke/VarHandle" ∧ (parseMethodDescriptor yX3_closeCorridor.desc).map (fun d => d.parameters.length) = some 0) := by decide +kernel
def fX3_closeCorridor   (M : xm_M) : Option (Int32 × xm_M) :=
  if 0 < (M.1 1 4) then xm_lt (xm_s M 1 4 ((M.1 1 4) - (1 : Int32))) (fun M1 => some (M1.1 1 4, M1)) else some ((-5 : Int32), M)
set_option maxRecDepth 20000 in
theorem kX3_closeCorridor {l : Launch} {L : List xm_Sh} (hL : xm_pre L)    (M : xm_M) : xm_C l yX3_closeCorridor wX3_closeCorridor ({ frames := 0, cells := 0, slots := 0, locals := 0 }) L (fun g => [.ref (g.1 0)]) M xm_Fi (fX3_closeCorridor   M) := by
  refine xm_C.of (by decide) rfl (fun g => Nat.le_of_ble_eq_true rfl) ?_
  intro p e s m args below meth c D g A hX
  refine xm_lv (lv' := [(0, .ref (g.1 0))]) rfl ?_
  unfold fX3_closeCorridor
  refine xm_aload_n hX 0 dX3_closeCorridor_0 rfl rfl ?_
  refine xm_get hX (k := 0) (ci := 3) (j := 0) (C := RX3) (T := TX3) (N := 6) (v := .ref (g.1 1)) (hL _ _ cL_0) rfl rfl rfl (by decide) (fun z hz => List.mem_cons_of_mem _ (iw_X3 z hz)) (List.mem_cons_of_mem _ gm_128) dX3_closeCorridor_1 ?_
  refine xm_get hX (k := 1) (ci := 1) (j := 4) (C := RX1) (T := TX1) (N := 11) (v := .int (M.1 1 4)) (hL _ _ cL_1) rfl rfl rfl (by decide) (fun z hz => List.mem_cons_of_mem _ (iw_X1 z hz)) (List.mem_cons_of_mem _ gm_39) dX3_closeCorridor_4 ?_
  refine xm_if_gt hX (tgt := 13) dX3_closeCorridor_7 rfl ?_ ?_
  · refine xm_aload_n hX 0 dX3_closeCorridor_13 rfl rfl ?_
    refine xm_get hX (k := 0) (ci := 3) (j := 0) (C := RX3) (T := TX3) (N := 6) (v := .ref (g.1 1)) (hL _ _ cL_0) rfl rfl rfl (by decide) (fun z hz => List.mem_cons_of_mem _ (iw_X3 z hz)) (List.mem_cons_of_mem _ gm_128) dX3_closeCorridor_14 ?_
    refine xm_dup hX rfl dX3_closeCorridor_17 ?_
    refine xm_get hX (k := 1) (ci := 1) (j := 4) (C := RX1) (T := TX1) (N := 11) (v := .int (M.1 1 4)) (hL _ _ cL_1) rfl rfl rfl (by decide) (fun z hz => List.mem_cons_of_mem _ (iw_X1 z hz)) (List.mem_cons_of_mem _ gm_39) dX3_closeCorridor_18 ?_
    refine xm_iconst hX (v := 1) rfl dX3_closeCorridor_21 ?_
    refine xm_isub hX dX3_closeCorridor_22 ?_
    refine xm_puti hX (k := 1) (ci := 1) (j := 4) (C := RX1) (T := TX1) (N := 11) (t0 := tyX1) (hL _ _ cL_1) rfl rfl (by decide) (fun z hz => List.mem_cons_of_mem _ (iw_X1 z hz)) tyX1_ok nmX1 rfl rfl (List.mem_cons_of_mem _ gm_39) dX3_closeCorridor_23 (fun M1 => ?_)
    refine xm_aload_n hX 0 dX3_closeCorridor_26 rfl rfl ?_
    refine xm_get hX (k := 0) (ci := 3) (j := 0) (C := RX3) (T := TX3) (N := 6) (v := .ref (g.1 1)) (hL _ _ cL_0) rfl rfl rfl (by decide) (fun z hz => List.mem_cons_of_mem _ (iw_X3 z hz)) (List.mem_cons_of_mem _ gm_128) dX3_closeCorridor_27 ?_
    refine xm_get hX (k := 1) (ci := 1) (j := 4) (C := RX1) (T := TX1) (N := 11) (v := .int (M1.1 1 4)) (hL _ _ cL_1) rfl rfl rfl (by decide) (fun z hz => List.mem_cons_of_mem _ (iw_X1 z hz)) (List.mem_cons_of_mem _ gm_39) dX3_closeCorridor_30 ?_
    exact xm_iret hX dX3_closeCorridor_33
  · refine xm_bipush hX (v := -5) rfl dX3_closeCorridor_10 ?_
    exact xm_iret hX dX3_closeCorridor_12
