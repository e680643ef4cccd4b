-- ===== OdometryDesk.isWithin(III)Z
theorem dX3_isWithin_0 : decode cX3_isWithin 0 = .ok (.iload_n 0, 1) := by decide +kernel
theorem dX3_isWithin_1 : decode cX3_isWithin 1 = .ok (.iload_n 1, 1) := by decide +kernel
theorem dX3_isWithin_2 : decode cX3_isWithin 2 = .ok (.if_icmp .lt 12, 3) := by decide +kernel
theorem dX3_isWithin_5 : decode cX3_isWithin 5 = .ok (.iload_n 0, 1) := by decide +kernel
theorem dX3_isWithin_6 : decode cX3_isWithin 6 = .ok (.iload_n 2, 1) := by decide +kernel
theorem dX3_isWithin_7 : decode cX3_isWithin 7 = .ok (.if_icmp .gt 7, 3) := by decide +kernel
theorem dX3_isWithin_10 : decode cX3_isWithin 10 = .ok (.iconst 1, 1) := by decide +kernel
theorem dX3_isWithin_11 : decode cX3_isWithin 11 = .ok (.goto 4, 3) := by decide +kernel
theorem dX3_isWithin_14 : decode cX3_isWithin 14 = .ok (.iconst 0, 1) := by decide +kernel
theorem dX3_isWithin_15 : decode cX3_isWithin 15 = .ok (.ireturn, 1) := by decide +kernel
abbrev wX3_isWithin : List Cond := .code yX3_isWithin cX3_isWithin 3 (some .boolean) :: lw_gd
theorem hdX3_isWithin : (yX3_isWithin.cls ≠ "java/lang/invoke/MethodHandle" ∧ yX3_isWithin.cls ≠ "java/lang/invoke/VarHandle" ∧ (parseMethodDescriptor yX3_isWithin.desc).map (fun d => d.parameters.length) = some 3) := by decide +kernel
def fX3_isWithin  (a0 : Int32) (a1 : Int32) (a2 : Int32) (M : xm_M) : Option (Int32 × xm_M) :=
  if a0 < a1 then some ((0 : Int32), M) else if a2 < a0 then some ((0 : Int32), M) else some ((1 : Int32), M)
set_option maxRecDepth 20000 in
theorem kX3_isWithin {l : Launch} {L : List xm_Sh} (hL : xm_pre L)   (a0 : Int32) (a1 : Int32) (a2 : Int32) (M : xm_M) : xm_C l yX3_isWithin wX3_isWithin ({ frames := 0, cells := 0, slots := 0, locals := 0 }) L (fun g => [.int a0, .int a1, .int a2]) M xm_Fi (fX3_isWithin  a0 a1 a2 M) := by
  refine xm_C.of (by decide) rfl (fun g => Nat.le_of_ble_eq_true rfl) ?_
  intro p e s m args below meth c D g A hX
  refine xm_lv (lv' := [(0, .int a0), (1, .int a1), (2, .int a2)]) rfl ?_
  unfold fX3_isWithin
  refine xm_iload_n hX 0 dX3_isWithin_0 rfl rfl ?_
  refine xm_iload_n hX 1 dX3_isWithin_1 rfl rfl ?_
  refine xm_icmp_lt hX (tgt := 14) dX3_isWithin_2 rfl ?_ ?_
  · refine xm_iconst hX (v := 0) rfl dX3_isWithin_14 ?_
    exact xm_zretL hX (by decide) dX3_isWithin_15
  · refine xm_iload_n hX 0 dX3_isWithin_5 rfl rfl ?_
    refine xm_iload_n hX 2 dX3_isWithin_6 rfl rfl ?_
    refine xm_icmp_gt hX (tgt := 14) dX3_isWithin_7 rfl ?_ ?_
    · refine xm_iconst hX (v := 0) rfl dX3_isWithin_14 ?_
      exact xm_zretL hX (by decide) dX3_isWithin_15
    · refine xm_iconst hX (v := 1) rfl dX3_isWithin_10 ?_
      refine xm_goto hX (tgt := 15) dX3_isWithin_11 rfl ?_
      exact xm_zretL hX (by decide) dX3_isWithin_15
-- ===== java/util/Arrays.fill([II)V ['68']
theorem dJ7_fill_53178_0 : decode cJ7_fill_53178 0 = .ok (.iconst 0, 1) := by decide +kernel
theorem dJ7_fill_53178_1 : decode cJ7_fill_53178 1 = .ok (.istore_n 2, 1) := by decide +kernel
theorem dJ7_fill_53178_2 : decode cJ7_fill_53178 2 = .ok (.aload_n 0, 1) := by decide +kernel
theorem dJ7_fill_53178_3 : decode cJ7_fill_53178 3 = .ok (.arraylength, 1) := by decide +kernel
theorem dJ7_fill_53178_4 : decode cJ7_fill_53178 4 = .ok (.istore_n 3, 1) := by decide +kernel
theorem dJ7_fill_53178_5 : decode cJ7_fill_53178 5 = .ok (.iload_n 2, 1) := by decide +kernel
theorem dJ7_fill_53178_6 : decode cJ7_fill_53178 6 = .ok (.iload_n 3, 1) := by decide +kernel
theorem dJ7_fill_53178_7 : decode cJ7_fill_53178 7 = .ok (.if_icmp .ge 13, 3) := by decide +kernel
theorem dJ7_fill_53178_10 : decode cJ7_fill_53178 10 = .ok (.aload_n 0, 1) := by decide +kernel
theorem dJ7_fill_53178_11 : decode cJ7_fill_53178 11 = .ok (.iload_n 2, 1) := by decide +kernel
theorem dJ7_fill_53178_12 : decode cJ7_fill_53178 12 = .ok (.iload_n 1, 1) := by decide +kernel
theorem dJ7_fill_53178_13 : decode cJ7_fill_53178 13 = .ok (.iastore, 1) := by decide +kernel
theorem dJ7_fill_53178_14 : decode cJ7_fill_53178 14 = .ok (.iinc 2 1, 3) := by decide +kernel
theorem dJ7_fill_53178_17 : decode cJ7_fill_53178 17 = .ok (.goto (-12), 3) := by decide +kernel
theorem dJ7_fill_53178_20 : decode cJ7_fill_53178 20 = .ok (.return_, 1) := by decide +kernel
abbrev wJ7_fill_53178 : List Cond := .code yJ7_fill_53178 cJ7_fill_53178 4 none :: lw_gd
theorem hdJ7_fill_53178 : (yJ7_fill_53178.cls ≠ "java/lang/invoke/MethodHandle" ∧ yJ7_fill_53178.cls ≠ "java/lang/invoke/VarHandle" ∧ (parseMethodDescriptor yJ7_fill_53178.desc).map (fun d => d.parameters.length) = some 2) := by decide +kernel
def fJ7_fill_53178_5 (k : Nat) (n : Nat) (k5 : Int32 → Int32 → Int32 → xm_M → Option xm_M) (b1 : Int32) (b2 : Int32) (b3 : Int32) (M : xm_M) : Option xm_M :=
  if b3 ≤ b2 then some M else if b2 < 0 ∨ n ≤ b2.toNatClampNeg then none else xm_lt (xm_s M k b2.toNatClampNeg b1) (fun M3 => xm_lt (b2 + Int32.ofInt 1) (fun x4 => k5 b1 x4 b3 M3))
set_option maxRecDepth 20000 in
theorem tfJ7_fill_53178_5 {p : Program} {l : Launch} {e : Env} {s : State} {m : MethodId} {args : Array Value} {below : List Frame} {meth : Method} {c : Code} {D : va_G} {g : xm_G} {A : Nat → Prop} (k : Nat) (n : Nat) {L : List xm_Sh} (hL : xm_pre L) (hX : xm_X p m meth c cJ7_fill_53178 4 s args wJ7_fill_53178 RJ7 none D L g A) (hk : L[k]? = some (.inl (0, .int, n))) (k5 : Int32 → Int32 → Int32 → xm_M → Option xm_M) (h5 : ∀ (b1 : Int32), ∀ (b2 : Int32), ∀ (b3 : Int32), ∀ (M : xm_M), xm_J p l e ({ frames := 0, cells := 0, slots := 0, locals := 0 }) s m args below meth c 4 D L g A (xm_Z below args s D L g A (xm_Fv g)) 5 [(0, .ref (g.1 k)), (1, .int b1), (2, .int b2), (3, .int b3)] [] M (k5 b1 b2 b3 M)) : ∀ (b1 : Int32), ∀ (b2 : Int32), ∀ (b3 : Int32), ∀ (M : xm_M), xm_J p l e ({ frames := 0, cells := 0, slots := 0, locals := 0 }) s m args below meth c 4 D L g A (xm_Z below args s D L g A (xm_Fv g)) 5 [(0, .ref (g.1 k)), (1, .int b1), (2, .int b2), (3, .int b3)] [] M (fJ7_fill_53178_5 k n k5 b1 b2 b3 M) := by
  intro b1 b2 b3 M
  unfold fJ7_fill_53178_5
  refine xm_iload_n hX 2 dJ7_fill_53178_5 rfl rfl ?_
  refine xm_iload_n hX 3 dJ7_fill_53178_6 rfl rfl ?_
  refine xm_icmp_ge hX (tgt := 20) dJ7_fill_53178_7 rfl ?_ ?_
  · exact xm_vret hX dJ7_fill_53178_20
  · refine xm_aload_n hX 0 dJ7_fill_53178_10 rfl rfl ?_
    refine xm_iload_n hX 2 dJ7_fill_53178_11 rfl rfl ?_
    refine xm_iload_n hX 1 dJ7_fill_53178_12 rfl rfl ?_
    refine xm_iast hX (n := n) hk dJ7_fill_53178_13 (fun M3 => ?_)
    refine xm_iinc hX (lv2 := fun x4 => [(2, .int x4), (0, .ref (g.1 k)), (1, .int b1), (3, .int b3)]) 2 dJ7_fill_53178_14 rfl (by decide) (fun _ => rfl) (fun x4 => ?_)
    refine xm_goto hX (tgt := 5) dJ7_fill_53178_17 rfl ?_
    refine xm_weak [1, 2, 0, 3] (lv' := [(0, .ref (g.1 k)), (1, .int b1), (2, .int x4), (3, .int b3)]) rfl ?_
    exact h5 b1 x4 b3 M3
def fJ7_fill_53178_5_it (k : Nat) (n : Nat)  (nq : Nat) : Int32 → Int32 → Int32 → xm_M → Option xm_M := xm_it (fun kq => fJ7_fill_53178_5 k n kq) (fun _ _ _ _ => none) nq
theorem tfJ7_fill_53178_5_it {p : Program} {l : Launch} {e : Env} {s : State} {m : MethodId} {args : Array Value} {below : List Frame} {meth : Method} {c : Code} {D : va_G} {g : xm_G} {A : Nat → Prop} (k : Nat) (n : Nat) {L : List xm_Sh} (hL : xm_pre L) (hX : xm_X p m meth c cJ7_fill_53178 4 s args wJ7_fill_53178 RJ7 none D L g A) (hk : L[k]? = some (.inl (0, .int, n)))   : ∀ (nq : Nat), ∀ (b1 : Int32), ∀ (b2 : Int32), ∀ (b3 : Int32), ∀ (M : xm_M), xm_J p l e ({ frames := 0, cells := 0, slots := 0, locals := 0 }) s m args below meth c 4 D L g A (xm_Z below args s D L g A (xm_Fv g)) 5 [(0, .ref (g.1 k)), (1, .int b1), (2, .int b2), (3, .int b3)] [] M (fJ7_fill_53178_5_it k n nq b1 b2 b3 M) := by
  intro nq
  induction nq with
  | zero => exact fun _ _ _ _ => xm_none
  | succ nq ih => exact tfJ7_fill_53178_5 k n hL hX hk _ ih
def fJ7_fill_53178 (k : Nat) (n : Nat) (a1 : Int32) (M : xm_M) : Option xm_M :=
  xm_lt ((0 : Int32)) (fun x1 => xm_lt ((Int32.ofNat n)) (fun x2 => fJ7_fill_53178_5_it k n xm_N a1 x1 x2 M))
set_option maxRecDepth 20000 in
theorem kJ7_fill_53178 {l : Launch} {L : List xm_Sh} (hL : xm_pre L) (k : Nat) (n : Nat) (hk : L[k]? = some (.inl (0, .int, n))) (a1 : Int32) (M : xm_M) : xm_C l yJ7_fill_53178 wJ7_fill_53178 ({ frames := 0, cells := 0, slots := 0, locals := 0 }) L (fun g => [.ref (g.1 k), .int a1]) M xm_Fv (fJ7_fill_53178 k n a1 M) := by
  refine xm_C.ofF (by decide +kernel) rfl (fun g => Nat.le_of_ble_eq_true rfl) ?_
  intro p e s m args below meth c D g A hX
  refine xm_lv (lv' := [(0, .ref (g.1 k)), (1, .int a1)]) rfl ?_
  unfold fJ7_fill_53178
  refine xm_iconst hX (v := 0) rfl dJ7_fill_53178_0 ?_
  refine xm_nmi (fun x1 => ?_)
  refine xm_istore_n hX (lv' := [(2, .int x1), (0, .ref (g.1 k)), (1, .int a1)]) dJ7_fill_53178_1 rfl (by decide) rfl ?_
  refine xm_aload_n hX 1 dJ7_fill_53178_2 rfl rfl ?_
  refine xm_alen hX (v := (Int32.ofNat n)) hk rfl dJ7_fill_53178_3 ?_
  refine xm_nmi (fun x2 => ?_)
  refine xm_istore_n hX (lv' := [(3, .int x2), (2, .int x1), (0, .ref (g.1 k)), (1, .int a1)]) dJ7_fill_53178_4 rfl (by decide) rfl ?_
  refine xm_weak [2, 3, 1, 0] (lv' := [(0, .ref (g.1 k)), (1, .int a1), (2, .int x1), (3, .int x2)]) rfl ?_
  exact tfJ7_fill_53178_5_it k n hL hX hk xm_N a1 x1 x2 M
-- ===== OdometryDesk.keep([[IIII)V ['50']
theorem dX3_keep__0 : decode cX3_keep_ 0 = .ok (.iload_n 1, 1) := by decide +kernel
theorem dX3_keep__1 : decode cX3_keep_ 1 = .ok (.ifCond .lt 27, 3) := by decide +kernel
theorem dX3_keep__4 : decode cX3_keep_ 4 = .ok (.iload_n 1, 1) := by decide +kernel
theorem dX3_keep__5 : decode cX3_keep_ 5 = .ok (.aload_n 0, 1) := by decide +kernel
theorem dX3_keep__6 : decode cX3_keep_ 6 = .ok (.arraylength, 1) := by decide +kernel
theorem dX3_keep__7 : decode cX3_keep_ 7 = .ok (.if_icmp .ge 21, 3) := by decide +kernel
theorem dX3_keep__10 : decode cX3_keep_ 10 = .ok (.iload_n 2, 1) := by decide +kernel
theorem dX3_keep__11 : decode cX3_keep_ 11 = .ok (.ifCond .lt 17, 3) := by decide +kernel
theorem dX3_keep__14 : decode cX3_keep_ 14 = .ok (.iload_n 2, 1) := by decide +kernel
theorem dX3_keep__15 : decode cX3_keep_ 15 = .ok (.aload_n 0, 1) := by decide +kernel
theorem dX3_keep__16 : decode cX3_keep_ 16 = .ok (.iload_n 1, 1) := by decide +kernel
theorem dX3_keep__17 : decode cX3_keep_ 17 = .ok (.aaload, 1) := by decide +kernel
theorem dX3_keep__18 : decode cX3_keep_ 18 = .ok (.arraylength, 1) := by decide +kernel
theorem dX3_keep__19 : decode cX3_keep_ 19 = .ok (.if_icmp .ge 9, 3) := by decide +kernel
theorem dX3_keep__22 : decode cX3_keep_ 22 = .ok (.aload_n 0, 1) := by decide +kernel
theorem dX3_keep__23 : decode cX3_keep_ 23 = .ok (.iload_n 1, 1) := by decide +kernel
theorem dX3_keep__24 : decode cX3_keep_ 24 = .ok (.aaload, 1) := by decide +kernel
theorem dX3_keep__25 : decode cX3_keep_ 25 = .ok (.iload_n 2, 1) := by decide +kernel
theorem dX3_keep__26 : decode cX3_keep_ 26 = .ok (.iload_n 3, 1) := by decide +kernel
theorem dX3_keep__27 : decode cX3_keep_ 27 = .ok (.iastore, 1) := by decide +kernel
theorem dX3_keep__28 : decode cX3_keep_ 28 = .ok (.return_, 1) := by decide +kernel
abbrev wX3_keep_ : List Cond := .code yX3_keep_ cX3_keep_ 4 none :: lw_gd
theorem hdX3_keep_ : (yX3_keep_.cls ≠ "java/lang/invoke/MethodHandle" ∧ yX3_keep_.cls ≠ "java/lang/invoke/VarHandle" ∧ (parseMethodDescriptor yX3_keep_.desc).map (fun d => d.parameters.length) = some 4) := by decide +kernel
def fX3_keep_ (k : Nat) (N : Nat) (k0 : Nat) (n : Nat) (a1 : Int32) (a2 : Int32) (a3 : Int32) (M : xm_M) : Option xm_M :=
  if a1 < 0 then some M else if ((Int32.ofNat N)) ≤ a1 then some M else if a2 < 0 then some M else if a1 < 0 ∨ N ≤ a1.toNatClampNeg then none else if ((Int32.ofNat n)) ≤ a2 then some M else if a1 < 0 ∨ N ≤ a1.toNatClampNeg then none else if a2 < 0 ∨ n ≤ a2.toNatClampNeg then none else xm_lt (xm_s M (k0 + a1.toNatClampNeg) a2.toNatClampNeg a3) (fun M3 => some M3)
set_option maxRecDepth 20000 in
theorem kX3_keep_ {l : Launch} {L : List xm_Sh} (hL : xm_pre L) (k : Nat) (N : Nat) (k0 : Nat) (n : Nat) (hk : L[k]? = some (.inr (.inl (N, k0)))) (rk : ∀ i, i < N → L[k0 + i]? = some (.inl (0, .int, n))) (a1 : Int32) (a2 : Int32) (a3 : Int32) (M : xm_M) : xm_C l yX3_keep_ wX3_keep_ ({ frames := 0, cells := 0, slots := 0, locals := 0 }) L (fun g => [.ref (g.1 k), .int a1, .int a2, .int a3]) M xm_Fv (fX3_keep_ k N k0 n a1 a2 a3 M) := by
  refine xm_C.of (by decide) rfl (fun g => Nat.le_of_ble_eq_true rfl) ?_
  intro p e s m args below meth c D g A hX
  refine xm_lv (lv' := [(0, .ref (g.1 k)), (1, .int a1), (2, .int a2), (3, .int a3)]) rfl ?_
  unfold fX3_keep_
  refine xm_iload_n hX 1 dX3_keep__0 rfl rfl ?_
  refine xm_if_lt hX (tgt := 28) dX3_keep__1 rfl ?_ ?_
  · exact xm_vret hX dX3_keep__28
  · refine xm_iload_n hX 1 dX3_keep__4 rfl rfl ?_
    refine xm_aload_n hX 0 dX3_keep__5 rfl rfl ?_
    refine xm_alenR hX (v := (Int32.ofNat N)) hk rfl dX3_keep__6 ?_
    refine xm_icmp_ge hX (tgt := 28) dX3_keep__7 rfl ?_ ?_
    · exact xm_vret hX dX3_keep__28
    · refine xm_iload_n hX 2 dX3_keep__10 rfl rfl ?_
      refine xm_if_lt hX (tgt := 28) dX3_keep__11 rfl ?_ ?_
      · exact xm_vret hX dX3_keep__28
      · refine xm_iload_n hX 2 dX3_keep__14 rfl rfl ?_
        refine xm_aload_n hX 0 dX3_keep__15 rfl rfl ?_
        refine xm_iload_n hX 1 dX3_keep__16 rfl rfl ?_
        refine xm_aald hX (N := N) (k0 := k0) hk dX3_keep__17 (fun q1 => ?_)
        refine xm_alen hX (v := (Int32.ofNat n)) (rk _ q1) rfl dX3_keep__18 ?_
        refine xm_icmp_ge hX (tgt := 28) dX3_keep__19 rfl ?_ ?_
        · exact xm_vret hX dX3_keep__28
        · refine xm_aload_n hX 0 dX3_keep__22 rfl rfl ?_
          refine xm_iload_n hX 1 dX3_keep__23 rfl rfl ?_
          refine xm_aald hX (N := N) (k0 := k0) hk dX3_keep__24 (fun q2 => ?_)
          refine xm_iload_n hX 2 dX3_keep__25 rfl rfl ?_
          refine xm_iload_n hX 3 dX3_keep__26 rfl rfl ?_
          refine xm_iast hX (n := n) (rk _ q2) dX3_keep__27 (fun M3 => ?_)
          exact xm_vret hX dX3_keep__28
-- ===== OdometryDesk$Way.keepPose(I)V ['49']
theorem dX2_keepPose_0 : decode cX2_keepPose 0 = .ok (.aload_n 0, 1) := by decide +kernel
theorem dX2_keepPose_1 : decode cX2_keepPose 1 = .ok (.getfield 11, 3) := by decide +kernel
theorem dX2_keepPose_4 : decode cX2_keepPose 4 = .ok (.iconst 0, 1) := by decide +kernel
theorem dX2_keepPose_5 : decode cX2_keepPose 5 = .ok (.iload_n 1, 1) := by decide +kernel
theorem dX2_keepPose_6 : decode cX2_keepPose 6 = .ok (.aload_n 0, 1) := by decide +kernel
theorem dX2_keepPose_7 : decode cX2_keepPose 7 = .ok (.getfield 29, 3) := by decide +kernel
theorem dX2_keepPose_10 : decode cX2_keepPose 10 = .ok (.invokestatic 109, 3) := by decide +kernel
theorem dX2_keepPose_13 : decode cX2_keepPose 13 = .ok (.aload_n 0, 1) := by decide +kernel
theorem dX2_keepPose_14 : decode cX2_keepPose 14 = .ok (.getfield 11, 3) := by decide +kernel
theorem dX2_keepPose_17 : decode cX2_keepPose 17 = .ok (.iconst 1, 1) := by decide +kernel
theorem dX2_keepPose_18 : decode cX2_keepPose 18 = .ok (.iload_n 1, 1) := by decide +kernel
theorem dX2_keepPose_19 : decode cX2_keepPose 19 = .ok (.aload_n 0, 1) := by decide +kernel
theorem dX2_keepPose_20 : decode cX2_keepPose 20 = .ok (.getfield 35, 3) := by decide +kernel
theorem dX2_keepPose_23 : decode cX2_keepPose 23 = .ok (.invokestatic 109, 3) := by decide +kernel
theorem dX2_keepPose_26 : decode cX2_keepPose 26 = .ok (.aload_n 0, 1) := by decide +kernel
theorem dX2_keepPose_27 : decode cX2_keepPose 27 = .ok (.getfield 11, 3) := by decide +kernel
theorem dX2_keepPose_30 : decode cX2_keepPose 30 = .ok (.iconst 2, 1) := by decide +kernel
theorem dX2_keepPose_31 : decode cX2_keepPose 31 = .ok (.iload_n 1, 1) := by decide +kernel
theorem dX2_keepPose_32 : decode cX2_keepPose 32 = .ok (.aload_n 0, 1) := by decide +kernel
theorem dX2_keepPose_33 : decode cX2_keepPose 33 = .ok (.getfield 41, 3) := by decide +kernel
theorem dX2_keepPose_36 : decode cX2_keepPose 36 = .ok (.invokestatic 109, 3) := by decide +kernel
theorem dX2_keepPose_39 : decode cX2_keepPose 39 = .ok (.aload_n 0, 1) := by decide +kernel
theorem dX2_keepPose_40 : decode cX2_keepPose 40 = .ok (.getfield 11, 3) := by decide +kernel
theorem dX2_keepPose_43 : decode cX2_keepPose 43 = .ok (.iconst 3, 1) := by decide +kernel
theorem dX2_keepPose_44 : decode cX2_keepPose 44 = .ok (.iload_n 1, 1) := by decide +kernel
theorem dX2_keepPose_45 : decode cX2_keepPose 45 = .ok (.aload_n 0, 1) := by decide +kernel
theorem dX2_keepPose_46 : decode cX2_keepPose 46 = .ok (.getfield 44, 3) := by decide +kernel
theorem dX2_keepPose_49 : decode cX2_keepPose 49 = .ok (.invokestatic 109, 3) := by decide +kernel
theorem dX2_keepPose_52 : decode cX2_keepPose 52 = .ok (.aload_n 0, 1) := by decide +kernel
theorem dX2_keepPose_53 : decode cX2_keepPose 53 = .ok (.getfield 11, 3) := by decide +kernel
theorem dX2_keepPose_56 : decode cX2_keepPose 56 = .ok (.iconst 4, 1) := by decide +kernel
theorem dX2_keepPose_57 : decode cX2_keepPose 57 = .ok (.iload_n 1, 1) := by decide +kernel
theorem dX2_keepPose_58 : decode cX2_keepPose 58 = .ok (.aload_n 0, 1) := by decide +kernel
theorem dX2_keepPose_59 : decode cX2_keepPose 59 = .ok (.getfield 47, 3) := by decide +kernel
theorem dX2_keepPose_62 : decode cX2_keepPose 62 = .ok (.invokestatic 109, 3) := by decide +kernel
theorem dX2_keepPose_65 : decode cX2_keepPose 65 = .ok (.return_, 1) := by decide +kernel
abbrev wX2_keepPose : List Cond := .code yX2_keepPose cX2_keepPose 2 none :: lw_gd
theorem hdX2_keepPose : (yX2_keepPose.cls ≠ "java/lang/invoke/MethodHandle" ∧ yX2_keepPose.cls ≠ "java/lang/invoke/VarHandle" ∧ (parseMethodDescriptor yX2_keepPose.desc).map (fun d => d.parameters.length) = some 1) := by decide +kernel
def fX2_keepPose  (a1 : Int32) (M : xm_M) : Option xm_M :=
  xm_bv (fX3_keep_ 50 5 51 121 (0 : Int32) a1 (M.1 49 3) M) (fun M1 => xm_bv (fX3_keep_ 50 5 51 121 (1 : Int32) a1 (M1.1 49 4) M1) (fun M2 => xm_bv (fX3_keep_ 50 5 51 121 (2 : Int32) a1 (M2.1 49 5) M2) (fun M3 => xm_bv (fX3_keep_ 50 5 51 121 (3 : Int32) a1 (M3.1 49 6) M3) (fun M4 => xm_bv (fX3_keep_ 50 5 51 121 (4 : Int32) a1 (M4.1 49 7) M4) (fun M5 => some M5)))))
set_option maxRecDepth 20000 in
theorem kX2_keepPose {l : Launch} {L : List xm_Sh} (hL : xm_pre L)   (a1 : Int32) (M : xm_M) : xm_C l yX2_keepPose wX2_keepPose ({ frames := 1, cells := 0, slots := 0, locals := 23 }) L (fun g => [.ref (g.1 49), .int a1]) M xm_Fv (fX2_keepPose  a1 M) := by
  refine xm_C.of (by decide) rfl (fun g => Nat.le_of_ble_eq_true rfl) ?_
  intro p e s m args below meth c D g A hX
  refine xm_lv (lv' := [(0, .ref (g.1 49)), (1, .int a1)]) rfl ?_
  unfold fX2_keepPose
  refine xm_aload_n hX 0 dX2_keepPose_0 rfl rfl ?_
  refine xm_get hX (k := 49) (ci := 2) (j := 0) (C := RX2) (T := TX2) (N := 12) (v := .ref (g.1 50)) (hL _ _ cL_49) rfl rfl rfl (by decide) (fun z hz => List.mem_cons_of_mem _ (iw_X2 z hz)) (List.mem_cons_of_mem _ gm_74) dX2_keepPose_1 ?_
  refine xm_iconst hX (v := 0) rfl dX2_keepPose_4 ?_
  refine xm_iload_n hX 1 dX2_keepPose_5 rfl rfl ?_
  refine xm_aload_n hX 0 dX2_keepPose_6 rfl rfl ?_
  refine xm_get hX (k := 49) (ci := 2) (j := 3) (C := RX2) (T := TX2) (N := 12) (v := .int (M.1 49 3)) (hL _ _ cL_49) rfl rfl rfl (by decide) (fun z hz => List.mem_cons_of_mem _ (iw_X2 z hz)) (List.mem_cons_of_mem _ gm_79) dX2_keepPose_7 ?_
  refine xm_callv hX (xm_runSN hX (As := (fun g => [.ref (g.1 50), .int (0 : Int32), .int a1, .int (M.1 49 3)])) (kX3_keep_ hL 50 5 51 121 (hL _ _ cL_50) (cL_rowsL_50 hL) (0 : Int32) a1 (M.1 49 3) M) (xm_gN gm_172) rfl ⟨rfl, rfl⟩ nw_0 (List.mem_cons_of_mem _ gm_1) (List.mem_cons_of_mem _ gm_171) hdX3_keep_ ⟨Nat.le_of_ble_eq_true rfl, Nat.le_of_ble_eq_true rfl⟩ rfl (Nat.le_of_ble_eq_true rfl) rfl ⟨Nat.le_of_ble_eq_true rfl, Nat.le_of_ble_eq_true rfl⟩ dX2_keepPose_10) (fun M1 => ?_)
  refine xm_aload_n hX 0 dX2_keepPose_13 rfl rfl ?_
  refine xm_get hX (k := 49) (ci := 2) (j := 0) (C := RX2) (T := TX2) (N := 12) (v := .ref (g.1 50)) (hL _ _ cL_49) rfl rfl rfl (by decide) (fun z hz => List.mem_cons_of_mem _ (iw_X2 z hz)) (List.mem_cons_of_mem _ gm_74) dX2_keepPose_14 ?_
  refine xm_iconst hX (v := 1) rfl dX2_keepPose_17 ?_
  refine xm_iload_n hX 1 dX2_keepPose_18 rfl rfl ?_
  refine xm_aload_n hX 0 dX2_keepPose_19 rfl rfl ?_
  refine xm_get hX (k := 49) (ci := 2) (j := 4) (C := RX2) (T := TX2) (N := 12) (v := .int (M1.1 49 4)) (hL _ _ cL_49) rfl rfl rfl (by decide) (fun z hz => List.mem_cons_of_mem _ (iw_X2 z hz)) (List.mem_cons_of_mem _ gm_81) dX2_keepPose_20 ?_
  refine xm_callv hX (xm_runSN hX (As := (fun g => [.ref (g.1 50), .int (1 : Int32), .int a1, .int (M1.1 49 4)])) (kX3_keep_ hL 50 5 51 121 (hL _ _ cL_50) (cL_rowsL_50 hL) (1 : Int32) a1 (M1.1 49 4) M1) (xm_gN gm_172) rfl ⟨rfl, rfl⟩ nw_0 (List.mem_cons_of_mem _ gm_1) (List.mem_cons_of_mem _ gm_171) hdX3_keep_ ⟨Nat.le_of_ble_eq_true rfl, Nat.le_of_ble_eq_true rfl⟩ rfl (Nat.le_of_ble_eq_true rfl) rfl ⟨Nat.le_of_ble_eq_true rfl, Nat.le_of_ble_eq_true rfl⟩ dX2_keepPose_23) (fun M2 => ?_)
  refine xm_aload_n hX 0 dX2_keepPose_26 rfl rfl ?_
  refine xm_get hX (k := 49) (ci := 2) (j := 0) (C := RX2) (T := TX2) (N := 12) (v := .ref (g.1 50)) (hL _ _ cL_49) rfl rfl rfl (by decide) (fun z hz => List.mem_cons_of_mem _ (iw_X2 z hz)) (List.mem_cons_of_mem _ gm_74) dX2_keepPose_27 ?_
  refine xm_iconst hX (v := 2) rfl dX2_keepPose_30 ?_
  refine xm_iload_n hX 1 dX2_keepPose_31 rfl rfl ?_
  refine xm_aload_n hX 0 dX2_keepPose_32 rfl rfl ?_
  refine xm_get hX (k := 49) (ci := 2) (j := 5) (C := RX2) (T := TX2) (N := 12) (v := .int (M2.1 49 5)) (hL _ _ cL_49) rfl rfl rfl (by decide) (fun z hz => List.mem_cons_of_mem _ (iw_X2 z hz)) (List.mem_cons_of_mem _ gm_83) dX2_keepPose_33 ?_
  refine xm_callv hX (xm_runSN hX (As := (fun g => [.ref (g.1 50), .int (2 : Int32), .int a1, .int (M2.1 49 5)])) (kX3_keep_ hL 50 5 51 121 (hL _ _ cL_50) (cL_rowsL_50 hL) (2 : Int32) a1 (M2.1 49 5) M2) (xm_gN gm_172) rfl ⟨rfl, rfl⟩ nw_0 (List.mem_cons_of_mem _ gm_1) (List.mem_cons_of_mem _ gm_171) hdX3_keep_ ⟨Nat.le_of_ble_eq_true rfl, Nat.le_of_ble_eq_true rfl⟩ rfl (Nat.le_of_ble_eq_true rfl) rfl ⟨Nat.le_of_ble_eq_true rfl, Nat.le_of_ble_eq_true rfl⟩ dX2_keepPose_36) (fun M3 => ?_)
  refine xm_aload_n hX 0 dX2_keepPose_39 rfl rfl ?_
  refine xm_get hX (k := 49) (ci := 2) (j := 0) (C := RX2) (T := TX2) (N := 12) (v := .ref (g.1 50)) (hL _ _ cL_49) rfl rfl rfl (by decide) (fun z hz => List.mem_cons_of_mem _ (iw_X2 z hz)) (List.mem_cons_of_mem _ gm_74) dX2_keepPose_40 ?_
  refine xm_iconst hX (v := 3) rfl dX2_keepPose_43 ?_
  refine xm_iload_n hX 1 dX2_keepPose_44 rfl rfl ?_
  refine xm_aload_n hX 0 dX2_keepPose_45 rfl rfl ?_
  refine xm_get hX (k := 49) (ci := 2) (j := 6) (C := RX2) (T := TX2) (N := 12) (v := .int (M3.1 49 6)) (hL _ _ cL_49) rfl rfl rfl (by decide) (fun z hz => List.mem_cons_of_mem _ (iw_X2 z hz)) (List.mem_cons_of_mem _ gm_85) dX2_keepPose_46 ?_
  refine xm_callv hX (xm_runSN hX (As := (fun g => [.ref (g.1 50), .int (3 : Int32), .int a1, .int (M3.1 49 6)])) (kX3_keep_ hL 50 5 51 121 (hL _ _ cL_50) (cL_rowsL_50 hL) (3 : Int32) a1 (M3.1 49 6) M3) (xm_gN gm_172) rfl ⟨rfl, rfl⟩ nw_0 (List.mem_cons_of_mem _ gm_1) (List.mem_cons_of_mem _ gm_171) hdX3_keep_ ⟨Nat.le_of_ble_eq_true rfl, Nat.le_of_ble_eq_true rfl⟩ rfl (Nat.le_of_ble_eq_true rfl) rfl ⟨Nat.le_of_ble_eq_true rfl, Nat.le_of_ble_eq_true rfl⟩ dX2_keepPose_49) (fun M4 => ?_)
  refine xm_aload_n hX 0 dX2_keepPose_52 rfl rfl ?_
  refine xm_get hX (k := 49) (ci := 2) (j := 0) (C := RX2) (T := TX2) (N := 12) (v := .ref (g.1 50)) (hL _ _ cL_49) rfl rfl rfl (by decide) (fun z hz => List.mem_cons_of_mem _ (iw_X2 z hz)) (List.mem_cons_of_mem _ gm_74) dX2_keepPose_53 ?_
  refine xm_iconst hX (v := 4) rfl dX2_keepPose_56 ?_
  refine xm_iload_n hX 1 dX2_keepPose_57 rfl rfl ?_
  refine xm_aload_n hX 0 dX2_keepPose_58 rfl rfl ?_
  refine xm_get hX (k := 49) (ci := 2) (j := 7) (C := RX2) (T := TX2) (N := 12) (v := .int (M4.1 49 7)) (hL _ _ cL_49) rfl rfl rfl (by decide) (fun z hz => List.mem_cons_of_mem _ (iw_X2 z hz)) (List.mem_cons_of_mem _ gm_87) dX2_keepPose_59 ?_
  refine xm_callv hX (xm_runSN hX (As := (fun g => [.ref (g.1 50), .int (4 : Int32), .int a1, .int (M4.1 49 7)])) (kX3_keep_ hL 50 5 51 121 (hL _ _ cL_50) (cL_rowsL_50 hL) (4 : Int32) a1 (M4.1 49 7) M4) (xm_gN gm_172) rfl ⟨rfl, rfl⟩ nw_0 (List.mem_cons_of_mem _ gm_1) (List.mem_cons_of_mem _ gm_171) hdX3_keep_ ⟨Nat.le_of_ble_eq_true rfl, Nat.le_of_ble_eq_true rfl⟩ rfl (Nat.le_of_ble_eq_true rfl) rfl ⟨Nat.le_of_ble_eq_true rfl, Nat.le_of_ble_eq_true rfl⟩ dX2_keepPose_62) (fun M5 => ?_)
  exact xm_vret hX dX2_keepPose_65
-- ===== OdometryDesk.item([[III)I ['12']
theorem dX3_item__0 : decode cX3_item_ 0 = .ok (.iload_n 1, 1) := by decide +kernel
theorem dX3_item__1 : decode cX3_item_ 1 = .ok (.ifCond .lt 29, 3) := by decide +kernel
theorem dX3_item__4 : decode cX3_item_ 4 = .ok (.iload_n 1, 1) := by decide +kernel
theorem dX3_item__5 : decode cX3_item_ 5 = .ok (.aload_n 0, 1) := by decide +kernel
theorem dX3_item__6 : decode cX3_item_ 6 = .ok (.arraylength, 1) := by decide +kernel
theorem dX3_item__7 : decode cX3_item_ 7 = .ok (.if_icmp .ge 23, 3) := by decide +kernel
theorem dX3_item__10 : decode cX3_item_ 10 = .ok (.iload_n 2, 1) := by decide +kernel
theorem dX3_item__11 : decode cX3_item_ 11 = .ok (.ifCond .lt 19, 3) := by decide +kernel
theorem dX3_item__14 : decode cX3_item_ 14 = .ok (.iload_n 2, 1) := by decide +kernel
theorem dX3_item__15 : decode cX3_item_ 15 = .ok (.aload_n 0, 1) := by decide +kernel
theorem dX3_item__16 : decode cX3_item_ 16 = .ok (.iload_n 1, 1) := by decide +kernel
theorem dX3_item__17 : decode cX3_item_ 17 = .ok (.aaload, 1) := by decide +kernel
theorem dX3_item__18 : decode cX3_item_ 18 = .ok (.arraylength, 1) := by decide +kernel
theorem dX3_item__19 : decode cX3_item_ 19 = .ok (.if_icmp .ge 11, 3) := by decide +kernel
theorem dX3_item__22 : decode cX3_item_ 22 = .ok (.aload_n 0, 1) := by decide +kernel
theorem dX3_item__23 : decode cX3_item_ 23 = .ok (.iload_n 1, 1) := by decide +kernel
theorem dX3_item__24 : decode cX3_item_ 24 = .ok (.aaload, 1) := by decide +kernel
theorem dX3_item__25 : decode cX3_item_ 25 = .ok (.iload_n 2, 1) := by decide +kernel
theorem dX3_item__26 : decode cX3_item_ 26 = .ok (.iaload, 1) := by decide +kernel
theorem dX3_item__27 : decode cX3_item_ 27 = .ok (.goto 4, 3) := by decide +kernel
theorem dX3_item__30 : decode cX3_item_ 30 = .ok (.iconst 0, 1) := by decide +kernel
theorem dX3_item__31 : decode cX3_item_ 31 = .ok (.ireturn, 1) := by decide +kernel
abbrev wX3_item_ : List Cond := .code yX3_item_ cX3_item_ 3 (some .int) :: lw_gd
theorem hdX3_item_ : (yX3_item_.cls ≠ "java/lang/invoke/MethodHandle" ∧ yX3_item_.cls ≠ "java/lang/invoke/VarHandle" ∧ (parseMethodDescriptor yX3_item_.desc).map (fun d => d.parameters.length) = some 3) := by decide +kernel
def fX3_item_ (k : Nat) (N : Nat) (k0 : Nat) (n : Nat) (a1 : Int32) (a2 : Int32) (M : xm_M) : Option (Int32 × xm_M) :=
  if a1 < 0 then some ((0 : Int32), M) else if ((Int32.ofNat N)) ≤ a1 then some ((0 : Int32), M) else if a2 < 0 then some ((0 : Int32), M) else if a1 < 0 ∨ N ≤ a1.toNatClampNeg then none else if ((Int32.ofNat n)) ≤ a2 then some ((0 : Int32), M) else if a1 < 0 ∨ N ≤ a1.toNatClampNeg then none else if a2 < 0 ∨ n ≤ a2.toNatClampNeg then none else some (M.1 (k0 + a1.toNatClampNeg) a2.toNatClampNeg, M)
set_option maxRecDepth 20000 in
theorem kX3_item_ {l : Launch} {L : List xm_Sh} (hL : xm_pre L) (k : Nat) (N : Nat) (k0 : Nat) (n : Nat) (hk : L[k]? = some (.inr (.inl (N, k0)))) (rk : ∀ i, i < N → L[k0 + i]? = some (.inl (0, .int, n))) (a1 : Int32) (a2 : Int32) (M : xm_M) : xm_C l yX3_item_ wX3_item_ ({ frames := 0, cells := 0, slots := 0, locals := 0 }) L (fun g => [.ref (g.1 k), .int a1, .int a2]) M xm_Fi (fX3_item_ k N k0 n a1 a2 M) := by
  refine xm_C.of (by decide) rfl (fun g => Nat.le_of_ble_eq_true rfl) ?_
  intro p e s m args below meth c D g A hX
  refine xm_lv (lv' := [(0, .ref (g.1 k)), (1, .int a1), (2, .int a2)]) rfl ?_
  unfold fX3_item_
  refine xm_iload_n hX 1 dX3_item__0 rfl rfl ?_
  refine xm_if_lt hX (tgt := 30) dX3_item__1 rfl ?_ ?_
  · refine xm_iconst hX (v := 0) rfl dX3_item__30 ?_
    exact xm_iret hX dX3_item__31
  · refine xm_iload_n hX 1 dX3_item__4 rfl rfl ?_
    refine xm_aload_n hX 0 dX3_item__5 rfl rfl ?_
    refine xm_alenR hX (v := (Int32.ofNat N)) hk rfl dX3_item__6 ?_
    refine xm_icmp_ge hX (tgt := 30) dX3_item__7 rfl ?_ ?_
    · refine xm_iconst hX (v := 0) rfl dX3_item__30 ?_
      exact xm_iret hX dX3_item__31
    · refine xm_iload_n hX 2 dX3_item__10 rfl rfl ?_
      refine xm_if_lt hX (tgt := 30) dX3_item__11 rfl ?_ ?_
      · refine xm_iconst hX (v := 0) rfl dX3_item__30 ?_
        exact xm_iret hX dX3_item__31
      · refine xm_iload_n hX 2 dX3_item__14 rfl rfl ?_
        refine xm_aload_n hX 0 dX3_item__15 rfl rfl ?_
        refine xm_iload_n hX 1 dX3_item__16 rfl rfl ?_
        refine xm_aald hX (N := N) (k0 := k0) hk dX3_item__17 (fun q1 => ?_)
        refine xm_alen hX (v := (Int32.ofNat n)) (rk _ q1) rfl dX3_item__18 ?_
        refine xm_icmp_ge hX (tgt := 30) dX3_item__19 rfl ?_ ?_
        · refine xm_iconst hX (v := 0) rfl dX3_item__30 ?_
          exact xm_iret hX dX3_item__31
        · refine xm_aload_n hX 0 dX3_item__22 rfl rfl ?_
          refine xm_iload_n hX 1 dX3_item__23 rfl rfl ?_
          refine xm_aald hX (N := N) (k0 := k0) hk dX3_item__24 (fun q2 => ?_)
          refine xm_iload_n hX 2 dX3_item__25 rfl rfl ?_
          refine xm_iald hX (n := n) (rk _ q2) dX3_item__26 ?_
          refine xm_goto hX (tgt := 31) dX3_item__27 rfl ?_
          exact xm_iret hX dX3_item__31
-- ===== OdometryDesk$State.isSight(I)Z ['1']
theorem dX1_isSight_0 : decode cX1_isSight 0 = .ok (.aload_n 0, 1) := by decide +kernel
theorem dX1_isSight_1 : decode cX1_isSight 1 = .ok (.getfield 31, 3) := by decide +kernel
theorem dX1_isSight_4 : decode cX1_isSight 4 = .ok (.iconst 0, 1) := by decide +kernel
theorem dX1_isSight_5 : decode cX1_isSight 5 = .ok (.iload_n 1, 1) := by decide +kernel
theorem dX1_isSight_6 : decode cX1_isSight 6 = .ok (.invokestatic 70, 3) := by decide +kernel
theorem dX1_isSight_9 : decode cX1_isSight 9 = .ok (.ifCond .lt 7, 3) := by decide +kernel
theorem dX1_isSight_12 : decode cX1_isSight 12 = .ok (.iconst 1, 1) := by decide +kernel
theorem dX1_isSight_13 : decode cX1_isSight 13 = .ok (.goto 4, 3) := by decide +kernel
theorem dX1_isSight_16 : decode cX1_isSight 16 = .ok (.iconst 0, 1) := by decide +kernel
theorem dX1_isSight_17 : decode cX1_isSight 17 = .ok (.ireturn, 1) := by decide +kernel
abbrev wX1_isSight : List Cond := .code yX1_isSight cX1_isSight 2 (some .boolean) :: lw_gd
theorem hdX1_isSight : (yX1_isSight.cls ≠ "java/lang/invoke/MethodHandle" ∧ yX1_isSight.cls ≠ "java/lang/invoke/VarHandle" ∧ (parseMethodDescriptor yX1_isSight.desc).map (fun d => d.parameters.length) = some 1) := by decide +kernel
def fX1_isSight  (a1 : Int32) (M : xm_M) : Option (Int32 × xm_M) :=
  xm_bi (fX3_item_ 12 4 13 120 (0 : Int32) a1 M) (fun x2 M1 => if x2 < 0 then some ((0 : Int32), M1) else some ((1 : Int32), M1))
set_option maxRecDepth 20000 in
theorem kX1_isSight {l : Launch} {L : List xm_Sh} (hL : xm_pre L)   (a1 : Int32) (M : xm_M) : xm_C l yX1_isSight wX1_isSight ({ frames := 1, cells := 0, slots := 0, locals := 22 }) L (fun g => [.ref (g.1 1), .int a1]) M xm_Fi (fX1_isSight  a1 M) := by
  refine xm_C.of (by decide) rfl (fun g => Nat.le_of_ble_eq_true rfl) ?_
  intro p e s m args below meth c D g A hX
  refine xm_lv (lv' := [(0, .ref (g.1 1)), (1, .int a1)]) rfl ?_
  unfold fX1_isSight
  refine xm_aload_n hX 0 dX1_isSight_0 rfl rfl ?_
  refine xm_get hX (k := 1) (ci := 1) (j := 3) (C := RX1) (T := TX1) (N := 11) (v := .ref (g.1 12)) (hL _ _ cL_1) rfl rfl rfl (by decide) (fun z hz => List.mem_cons_of_mem _ (iw_X1 z hz)) (List.mem_cons_of_mem _ gm_36) dX1_isSight_1 ?_
  refine xm_iconst hX (v := 0) rfl dX1_isSight_4 ?_
  refine xm_iload_n hX 1 dX1_isSight_5 rfl rfl ?_
  refine xm_calli hX (xm_runSN hX (As := (fun g => [.ref (g.1 12), .int (0 : Int32), .int a1])) (kX3_item_ hL 12 4 13 120 (hL _ _ cL_12) (cL_rowsL_12 hL) (0 : Int32) a1 M) (xm_gN gm_216) rfl ⟨rfl, rfl⟩ nw_1 (List.mem_cons_of_mem _ gm_1) (List.mem_cons_of_mem _ gm_215) hdX3_item_ ⟨Nat.le_of_ble_eq_true rfl, Nat.le_of_ble_eq_true rfl⟩ rfl (Nat.le_of_ble_eq_true rfl) rfl ⟨Nat.le_of_ble_eq_true rfl, Nat.le_of_ble_eq_true rfl⟩ dX1_isSight_6) (fun x2 M1 => ?_)
  refine xm_if_lt hX (tgt := 16) dX1_isSight_9 rfl ?_ ?_
  · refine xm_iconst hX (v := 0) rfl dX1_isSight_16 ?_
    exact xm_zretL hX (by decide) dX1_isSight_17
  · refine xm_iconst hX (v := 1) rfl dX1_isSight_12 ?_
    refine xm_goto hX (tgt := 17) dX1_isSight_13 rfl ?_
    exact xm_zretL hX (by decide) dX1_isSight_17
-- ===== OdometryDesk.item([II)I ['ps']
theorem dX3_item_0 : decode cX3_item 0 = .ok (.iload_n 1, 1) := by decide +kernel
theorem dX3_item_1 : decode cX3_item 1 = .ok (.ifCond .lt 15, 3) := by decide +kernel
theorem dX3_item_4 : decode cX3_item 4 = .ok (.iload_n 1, 1) := by decide +kernel
theorem dX3_item_5 : decode cX3_item 5 = .ok (.aload_n 0, 1) := by decide +kernel
theorem dX3_item_6 : decode cX3_item 6 = .ok (.arraylength, 1) := by decide +kernel
theorem dX3_item_7 : decode cX3_item 7 = .ok (.if_icmp .ge 9, 3) := by decide +kernel
theorem dX3_item_10 : decode cX3_item 10 = .ok (.aload_n 0, 1) := by decide +kernel
theorem dX3_item_11 : decode cX3_item 11 = .ok (.iload_n 1, 1) := by decide +kernel
theorem dX3_item_12 : decode cX3_item 12 = .ok (.iaload, 1) := by decide +kernel
theorem dX3_item_13 : decode cX3_item 13 = .ok (.goto 4, 3) := by decide +kernel
theorem dX3_item_16 : decode cX3_item 16 = .ok (.iconst 0, 1) := by decide +kernel
theorem dX3_item_17 : decode cX3_item 17 = .ok (.ireturn, 1) := by decide +kernel
abbrev wX3_item : List Cond := .code yX3_item cX3_item 2 (some .int) :: lw_gd
theorem hdX3_item : (yX3_item.cls ≠ "java/lang/invoke/MethodHandle" ∧ yX3_item.cls ≠ "java/lang/invoke/VarHandle" ∧ (parseMethodDescriptor yX3_item.desc).map (fun d => d.parameters.length) = some 2) := by decide +kernel
def fX3_item (k : Nat) (n : Nat) (a1 : Int32) (M : xm_M) : Option (Int32 × xm_M) :=
  if a1 < 0 then some ((0 : Int32), M) else if ((Int32.ofNat n)) ≤ a1 then some ((0 : Int32), M) else if a1 < 0 ∨ n ≤ a1.toNatClampNeg then none else some (M.1 k a1.toNatClampNeg, M)
set_option maxRecDepth 20000 in
theorem kX3_item {l : Launch} {L : List xm_Sh} (hL : xm_pre L) (k : Nat) (n : Nat) (hk : L[k]? = some (.inl (0, .int, n))) (a1 : Int32) (M : xm_M) : xm_C l yX3_item wX3_item ({ frames := 0, cells := 0, slots := 0, locals := 0 }) L (fun g => [.ref (g.1 k), .int a1]) M xm_Fi (fX3_item k n a1 M) := by
  refine xm_C.of (by decide) rfl (fun g => Nat.le_of_ble_eq_true rfl) ?_
  intro p e s m args below meth c D g A hX
  refine xm_lv (lv' := [(0, .ref (g.1 k)), (1, .int a1)]) rfl ?_
  unfold fX3_item
  refine xm_iload_n hX 1 dX3_item_0 rfl rfl ?_
  refine xm_if_lt hX (tgt := 16) dX3_item_1 rfl ?_ ?_
  · refine xm_iconst hX (v := 0) rfl dX3_item_16 ?_
    exact xm_iret hX dX3_item_17
  · refine xm_iload_n hX 1 dX3_item_4 rfl rfl ?_
    refine xm_aload_n hX 0 dX3_item_5 rfl rfl ?_
    refine xm_alen hX (v := (Int32.ofNat n)) hk rfl dX3_item_6 ?_
    refine xm_icmp_ge hX (tgt := 16) dX3_item_7 rfl ?_ ?_
    · refine xm_iconst hX (v := 0) rfl dX3_item_16 ?_
      exact xm_iret hX dX3_item_17
    · refine xm_aload_n hX 0 dX3_item_10 rfl rfl ?_
      refine xm_iload_n hX 1 dX3_item_11 rfl rfl ?_
      refine xm_iald hX (n := n) hk dX3_item_12 ?_
      refine xm_goto hX (tgt := 17) dX3_item_13 rfl ?_
      exact xm_iret hX dX3_item_17
-- ===== OdometryDesk.ratio(JJ)J
theorem dX3_ratio_0 : decode cX3_ratio 0 = .ok (.lload_n 2, 1) := by decide +kernel
theorem dX3_ratio_1 : decode cX3_ratio 1 = .ok (.lconst 0, 1) := by decide +kernel
theorem dX3_ratio_2 : decode cX3_ratio 2 = .ok (.lcmp, 1) := by decide +kernel
theorem dX3_ratio_3 : decode cX3_ratio 3 = .ok (.ifCond .ne 7, 3) := by decide +kernel
theorem dX3_ratio_6 : decode cX3_ratio 6 = .ok (.lconst 0, 1) := by decide +kernel
theorem dX3_ratio_7 : decode cX3_ratio 7 = .ok (.goto 6, 3) := by decide +kernel
theorem dX3_ratio_10 : decode cX3_ratio 10 = .ok (.lload_n 0, 1) := by decide +kernel
theorem dX3_ratio_11 : decode cX3_ratio 11 = .ok (.lload_n 2, 1) := by decide +kernel
theorem dX3_ratio_12 : decode cX3_ratio 12 = .ok (.ldiv, 1) := by decide +kernel
theorem dX3_ratio_13 : decode cX3_ratio 13 = .ok (.lreturn, 1) := by decide +kernel
abbrev wX3_ratio : List Cond := .code yX3_ratio cX3_ratio 4 (some .long) :: lw_gd
theorem hdX3_ratio : (yX3_ratio.cls ≠ "java/lang/invoke/MethodHandle" ∧ yX3_ratio.cls ≠ "java/lang/invoke/VarHandle" ∧ (parseMethodDescriptor yX3_ratio.desc).map (fun d => d.parameters.length) = some 2) := by decide +kernel
def fX3_ratio  (a0 : Int64) (a2 : Int64) (M : xm_M) : Option (Int64 × xm_M) :=
  if (lg_cmp a2 (0 : Int64)) = 0 then some ((0 : Int64), M) else if a2 = 0 then none else some (a0 / a2, M)
set_option maxRecDepth 20000 in
theorem kX3_ratio {l : Launch} {L : List xm_Sh} (hL : xm_pre L)   (a0 : Int64) (a2 : Int64) (M : xm_M) : xm_C l yX3_ratio wX3_ratio ({ frames := 0, cells := 0, slots := 0, locals := 0 }) L (fun g => [.long a0, .long a2]) M xm_Fl (fX3_ratio  a0 a2 M) := by
  refine xm_C.of (by decide) rfl (fun g => Nat.le_of_ble_eq_true rfl) ?_
  intro p e s m args below meth c D g A hX
  refine xm_lv (lv' := [(0, .long a0), (2, .long a2)]) rfl ?_
  unfold fX3_ratio
  refine xm_lload_n hX 1 dX3_ratio_0 rfl rfl ?_
  refine xm_lconst hX (v := 0) rfl dX3_ratio_1 ?_
  refine xm_lcmp hX dX3_ratio_2 ?_
  refine xm_if_ne hX (tgt := 10) dX3_ratio_3 rfl ?_ ?_
  · refine xm_lload_n hX 0 dX3_ratio_10 rfl rfl ?_
    refine xm_lload_n hX 1 dX3_ratio_11 rfl rfl ?_
    refine xm_ldiv hX dX3_ratio_12 ?_
    exact xm_lret hX dX3_ratio_13
  · refine xm_lconst hX (v := 0) rfl dX3_ratio_6 ?_
    refine xm_goto hX (tgt := 13) dX3_ratio_7 rfl ?_
    exact xm_lret hX dX3_ratio_13
-- ===== OdometryDesk.keep([III)V ['68']
theorem dX3_keep_0 : decode cX3_keep 0 = .ok (.iload_n 1, 1) := by decide +kernel
theorem dX3_keep_1 : decode cX3_keep 1 = .ok (.ifCond .lt 13, 3) := by decide +kernel
theorem dX3_keep_4 : decode cX3_keep 4 = .ok (.iload_n 1, 1) := by decide +kernel
theorem dX3_keep_5 : decode cX3_keep 5 = .ok (.aload_n 0, 1) := by decide +kernel
theorem dX3_keep_6 : decode cX3_keep 6 = .ok (.arraylength, 1) := by decide +kernel
theorem dX3_keep_7 : decode cX3_keep 7 = .ok (.if_icmp .ge 7, 3) := by decide +kernel
theorem dX3_keep_10 : decode cX3_keep 10 = .ok (.aload_n 0, 1) := by decide +kernel
theorem dX3_keep_11 : decode cX3_keep 11 = .ok (.iload_n 1, 1) := by decide +kernel
theorem dX3_keep_12 : decode cX3_keep 12 = .ok (.iload_n 2, 1) := by decide +kernel
theorem dX3_keep_13 : decode cX3_keep 13 = .ok (.iastore, 1) := by decide +kernel
theorem dX3_keep_14 : decode cX3_keep 14 = .ok (.return_, 1) := by decide +kernel
abbrev wX3_keep : List Cond := .code yX3_keep cX3_keep 3 none :: lw_gd
theorem hdX3_keep : (yX3_keep.cls ≠ "java/lang/invoke/MethodHandle" ∧ yX3_keep.cls ≠ "java/lang/invoke/VarHandle" ∧ (parseMethodDescriptor yX3_keep.desc).map (fun d => d.parameters.length) = some 3) := by decide +kernel
def fX3_keep (k : Nat) (n : Nat) (a1 : Int32) (a2 : Int32) (M : xm_M) : Option xm_M :=
  if a1 < 0 then some M else if ((Int32.ofNat n)) ≤ a1 then some M else if a1 < 0 ∨ n ≤ a1.toNatClampNeg then none else xm_lt (xm_s M k a1.toNatClampNeg a2) (fun M1 => some M1)
set_option maxRecDepth 20000 in
theorem kX3_keep {l : Launch} {L : List xm_Sh} (hL : xm_pre L) (k : Nat) (n : Nat) (hk : L[k]? = some (.inl (0, .int, n))) (a1 : Int32) (a2 : Int32) (M : xm_M) : xm_C l yX3_keep wX3_keep ({ frames := 0, cells := 0, slots := 0, locals := 0 }) L (fun g => [.ref (g.1 k), .int a1, .int a2]) M xm_Fv (fX3_keep k n a1 a2 M) := by
  refine xm_C.of (by decide) rfl (fun g => Nat.le_of_ble_eq_true rfl) ?_
  intro p e s m args below meth c D g A hX
  refine xm_lv (lv' := [(0, .ref (g.1 k)), (1, .int a1), (2, .int a2)]) rfl ?_
  unfold fX3_keep
  refine xm_iload_n hX 1 dX3_keep_0 rfl rfl ?_
  refine xm_if_lt hX (tgt := 14) dX3_keep_1 rfl ?_ ?_
  · exact xm_vret hX dX3_keep_14
  · refine xm_iload_n hX 1 dX3_keep_4 rfl rfl ?_
    refine xm_aload_n hX 0 dX3_keep_5 rfl rfl ?_
    refine xm_alen hX (v := (Int32.ofNat n)) hk rfl dX3_keep_6 ?_
    refine xm_icmp_ge hX (tgt := 14) dX3_keep_7 rfl ?_ ?_
    · exact xm_vret hX dX3_keep_14
    · refine xm_aload_n hX 0 dX3_keep_10 rfl rfl ?_
      refine xm_iload_n hX 1 dX3_keep_11 rfl rfl ?_
      refine xm_iload_n hX 2 dX3_keep_12 rfl rfl ?_
      refine xm_iast hX (n := n) hk dX3_keep_13 (fun M1 => ?_)
      exact xm_vret hX dX3_keep_14
-- ===== OdometryDesk$Way.keepKind(II)V ['49']
theorem dX2_keepKind_0 : decode cX2_keepKind 0 = .ok (.aload_n 0, 1) := by decide +kernel
theorem dX2_keepKind_1 : decode cX2_keepKind 1 = .ok (.getfield 16, 3) := by decide +kernel
theorem dX2_keepKind_4 : decode cX2_keepKind 4 = .ok (.iconst 0, 1) := by decide +kernel
theorem dX2_keepKind_5 : decode cX2_keepKind 5 = .ok (.iload_n 1, 1) := by decide +kernel
theorem dX2_keepKind_6 : decode cX2_keepKind 6 = .ok (.iload_n 2, 1) := by decide +kernel
theorem dX2_keepKind_7 : decode cX2_keepKind 7 = .ok (.invokestatic 109, 3) := by decide +kernel
theorem dX2_keepKind_10 : decode cX2_keepKind 10 = .ok (.aload_n 0, 1) := by decide +kernel
theorem dX2_keepKind_11 : decode cX2_keepKind 11 = .ok (.getfield 19, 3) := by decide +kernel
theorem dX2_keepKind_14 : decode cX2_keepKind 14 = .ok (.iload_n 2, 1) := by decide +kernel
theorem dX2_keepKind_15 : decode cX2_keepKind 15 = .ok (.aload_n 0, 1) := by decide +kernel
theorem dX2_keepKind_16 : decode cX2_keepKind 16 = .ok (.getfield 19, 3) := by decide +kernel
theorem dX2_keepKind_19 : decode cX2_keepKind 19 = .ok (.iload_n 2, 1) := by decide +kernel
theorem dX2_keepKind_20 : decode cX2_keepKind 20 = .ok (.invokestatic 113, 3) := by decide +kernel
theorem dX2_keepKind_23 : decode cX2_keepKind 23 = .ok (.iconst 1, 1) := by decide +kernel
theorem dX2_keepKind_24 : decode cX2_keepKind 24 = .ok (.iadd, 1) := by decide +kernel
theorem dX2_keepKind_25 : decode cX2_keepKind 25 = .ok (.invokestatic 116, 3) := by decide +kernel
theorem dX2_keepKind_28 : decode cX2_keepKind 28 = .ok (.return_, 1) := by decide +kernel
abbrev wX2_keepKind : List Cond := .code yX2_keepKind cX2_keepKind 3 none :: lw_gd
theorem hdX2_keepKind : (yX2_keepKind.cls ≠ "java/lang/invoke/MethodHandle" ∧ yX2_keepKind.cls ≠ "java/lang/invoke/VarHandle" ∧ (parseMethodDescriptor yX2_keepKind.desc).map (fun d => d.parameters.length) = some 2) := by decide +kernel
def fX2_keepKind  (a1 : Int32) (a2 : Int32) (M : xm_M) : Option xm_M :=
  xm_bv (fX3_keep_ 56 11 57 120 (0 : Int32) a1 a2 M) (fun M1 => xm_bi (fX3_item 68 5 a2 M1) (fun x3 M2 => xm_bv (fX3_keep 68 5 a2 (x3 + (1 : Int32)) M2) (fun M4 => some M4)))
set_option maxRecDepth 20000 in
theorem kX2_keepKind {l : Launch} {L : List xm_Sh} (hL : xm_pre L)   (a1 : Int32) (a2 : Int32) (M : xm_M) : xm_C l yX2_keepKind wX2_keepKind ({ frames := 1, cells := 0, slots := 0, locals := 23 }) L (fun g => [.ref (g.1 49), .int a1, .int a2]) M xm_Fv (fX2_keepKind  a1 a2 M) := by
  refine xm_C.of (by decide) rfl (fun g => Nat.le_of_ble_eq_true rfl) ?_
  intro p e s m args below meth c D g A hX
  refine xm_lv (lv' := [(0, .ref (g.1 49)), (1, .int a1), (2, .int a2)]) rfl ?_
  unfold fX2_keepKind
  refine xm_aload_n hX 0 dX2_keepKind_0 rfl rfl ?_
  refine xm_get hX (k := 49) (ci := 2) (j := 1) (C := RX2) (T := TX2) (N := 12) (v := .ref (g.1 56)) (hL _ _ cL_49) rfl rfl rfl (by decide) (fun z hz => List.mem_cons_of_mem _ (iw_X2 z hz)) (List.mem_cons_of_mem _ gm_75) dX2_keepKind_1 ?_
  refine xm_iconst hX (v := 0) rfl dX2_keepKind_4 ?_
  refine xm_iload_n hX 1 dX2_keepKind_5 rfl rfl ?_
  refine xm_iload_n hX 2 dX2_keepKind_6 rfl rfl ?_
  refine xm_callv hX (xm_runSN hX (As := (fun g => [.ref (g.1 56), .int (0 : Int32), .int a1, .int a2])) (kX3_keep_ hL 56 11 57 120 (hL _ _ cL_56) (cL_rowsL_56 hL) (0 : Int32) a1 a2 M) (xm_gN gm_172) rfl ⟨rfl, rfl⟩ nw_0 (List.mem_cons_of_mem _ gm_1) (List.mem_cons_of_mem _ gm_171) hdX3_keep_ ⟨Nat.le_of_ble_eq_true rfl, Nat.le_of_ble_eq_true rfl⟩ rfl (Nat.le_of_ble_eq_true rfl) rfl ⟨Nat.le_of_ble_eq_true rfl, Nat.le_of_ble_eq_true rfl⟩ dX2_keepKind_7) (fun M1 => ?_)
  refine xm_aload_n hX 0 dX2_keepKind_10 rfl rfl ?_
  refine xm_get hX (k := 49) (ci := 2) (j := 2) (C := RX2) (T := TX2) (N := 12) (v := .ref (g.1 68)) (hL _ _ cL_49) rfl rfl rfl (by decide) (fun z hz => List.mem_cons_of_mem _ (iw_X2 z hz)) (List.mem_cons_of_mem _ gm_77) dX2_keepKind_11 ?_
  refine xm_iload_n hX 2 dX2_keepKind_14 rfl rfl ?_
  refine xm_aload_n hX 0 dX2_keepKind_15 rfl rfl ?_
  refine xm_get hX (k := 49) (ci := 2) (j := 2) (C := RX2) (T := TX2) (N := 12) (v := .ref (g.1 68)) (hL _ _ cL_49) rfl rfl rfl (by decide) (fun z hz => List.mem_cons_of_mem _ (iw_X2 z hz)) (List.mem_cons_of_mem _ gm_77) dX2_keepKind_16 ?_
  refine xm_iload_n hX 2 dX2_keepKind_19 rfl rfl ?_
  refine xm_calli hX (xm_runSN hX (As := (fun g => [.ref (g.1 68), .int a2])) (kX3_item hL 68 5 (hL _ _ cL_68) a2 M1) (xm_gN gm_154) rfl ⟨rfl, rfl⟩ nw_3 (List.mem_cons_of_mem _ gm_1) (List.mem_cons_of_mem _ gm_153) hdX3_item ⟨Nat.le_of_ble_eq_true rfl, Nat.le_of_ble_eq_true rfl⟩ rfl (Nat.le_of_ble_eq_true rfl) rfl ⟨Nat.le_of_ble_eq_true rfl, Nat.le_of_ble_eq_true rfl⟩ dX2_keepKind_20) (fun x3 M2 => ?_)
  refine xm_iconst hX (v := 1) rfl dX2_keepKind_23 ?_
  refine xm_iadd hX dX2_keepKind_24 ?_
  refine xm_callv hX (xm_runSN hX (As := (fun g => [.ref (g.1 68), .int a2, .int (x3 + (1 : Int32))])) (kX3_keep hL 68 5 (hL _ _ cL_68) a2 (x3 + (1 : Int32)) M2) (xm_gN gm_157) rfl ⟨rfl, rfl⟩ nw_4 (List.mem_cons_of_mem _ gm_1) (List.mem_cons_of_mem _ gm_156) hdX3_keep ⟨Nat.le_of_ble_eq_true rfl, Nat.le_of_ble_eq_true rfl⟩ rfl (Nat.le_of_ble_eq_true rfl) rfl ⟨Nat.le_of_ble_eq_true rfl, Nat.le_of_ble_eq_true rfl⟩ dX2_keepKind_25) (fun M4 => ?_)
  exact xm_vret hX dX2_keepKind_28
-- ===== OdometryDesk$Way.weighStep([IIJJ)V ['49', 'ps']
theorem dX2_weighStep_0 : decode cX2_weighStep 0 = .ok (.ldc2_w 148, 3) := by decide +kernel
theorem dX2_weighStep_3 : decode cX2_weighStep 3 = .ok (.aload_n 1, 1) := by decide +kernel
theorem dX2_weighStep_4 : decode cX2_weighStep 4 = .ok (.iconst 2, 1) := by decide +kernel
theorem dX2_weighStep_5 : decode cX2_weighStep 5 = .ok (.invokestatic 113, 3) := by decide +kernel
theorem dX2_weighStep_8 : decode cX2_weighStep 8 = .ok (.i2l, 1) := by decide +kernel
theorem dX2_weighStep_9 : decode cX2_weighStep 9 = .ok (.lmul, 1) := by decide +kernel
theorem dX2_weighStep_10 : decode cX2_weighStep 10 = .ok (.lstore 7, 2) := by decide +kernel
theorem dX2_weighStep_12 : decode cX2_weighStep 12 = .ok (.lload 5, 2) := by decide +kernel
theorem dX2_weighStep_14 : decode cX2_weighStep 14 = .ok (.lload_n 3, 1) := by decide +kernel
theorem dX2_weighStep_15 : decode cX2_weighStep 15 = .ok (.lsub, 1) := by decide +kernel
theorem dX2_weighStep_16 : decode cX2_weighStep 16 = .ok (.ldc2_w 150, 3) := by decide +kernel
theorem dX2_weighStep_19 : decode cX2_weighStep 19 = .ok (.lmul, 1) := by decide +kernel
theorem dX2_weighStep_20 : decode cX2_weighStep 20 = .ok (.lload 7, 2) := by decide +kernel
theorem dX2_weighStep_22 : decode cX2_weighStep 22 = .ok (.invokestatic 106, 3) := by decide +kernel
theorem dX2_weighStep_25 : decode cX2_weighStep 25 = .ok (.lstore 9, 2) := by decide +kernel
theorem dX2_weighStep_27 : decode cX2_weighStep 27 = .ok (.aload_n 0, 1) := by decide +kernel
theorem dX2_weighStep_28 : decode cX2_weighStep 28 = .ok (.getfield 16, 3) := by decide +kernel
theorem dX2_weighStep_31 : decode cX2_weighStep 31 = .ok (.iconst 3, 1) := by decide +kernel
theorem dX2_weighStep_32 : decode cX2_weighStep 32 = .ok (.iload_n 2, 1) := by decide +kernel
theorem dX2_weighStep_33 : decode cX2_weighStep 33 = .ok (.invokestatic 91, 3) := by decide +kernel
theorem dX2_weighStep_36 : decode cX2_weighStep 36 = .ok (.aload_n 0, 1) := by decide +kernel
theorem dX2_weighStep_37 : decode cX2_weighStep 37 = .ok (.getfield 47, 3) := by decide +kernel
theorem dX2_weighStep_40 : decode cX2_weighStep 40 = .ok (.bipush 16, 2) := by decide +kernel
theorem dX2_weighStep_42 : decode cX2_weighStep 42 = .ok (.idiv, 1) := by decide +kernel
theorem dX2_weighStep_43 : decode cX2_weighStep 43 = .ok (.isub, 1) := by decide +kernel
theorem dX2_weighStep_44 : decode cX2_weighStep 44 = .ok (.i2l, 1) := by decide +kernel
theorem dX2_weighStep_45 : decode cX2_weighStep 45 = .ok (.lstore 11, 2) := by decide +kernel
theorem dX2_weighStep_47 : decode cX2_weighStep 47 = .ok (.aload_n 0, 1) := by decide +kernel
theorem dX2_weighStep_48 : decode cX2_weighStep 48 = .ok (.getfield 16, 3) := by decide +kernel
theorem dX2_weighStep_51 : decode cX2_weighStep 51 = .ok (.iconst 4, 1) := by decide +kernel
theorem dX2_weighStep_52 : decode cX2_weighStep 52 = .ok (.iload_n 2, 1) := by decide +kernel
theorem dX2_weighStep_53 : decode cX2_weighStep 53 = .ok (.lload 9, 2) := by decide +kernel
theorem dX2_weighStep_55 : decode cX2_weighStep 55 = .ok (.l2i, 1) := by decide +kernel
theorem dX2_weighStep_56 : decode cX2_weighStep 56 = .ok (.invokestatic 109, 3) := by decide +kernel
theorem dX2_weighStep_59 : decode cX2_weighStep 59 = .ok (.lload 9, 2) := by decide +kernel
theorem dX2_weighStep_61 : decode cX2_weighStep 61 = .ok (.lload 11, 2) := by decide +kernel
theorem dX2_weighStep_63 : decode cX2_weighStep 63 = .ok (.lsub, 1) := by decide +kernel
theorem dX2_weighStep_64 : decode cX2_weighStep 64 = .ok (.invokestatic 152, 3) := by decide +kernel
theorem dX2_weighStep_67 : decode cX2_weighStep 67 = .ok (.aload_n 1, 1) := by decide +kernel
theorem dX2_weighStep_68 : decode cX2_weighStep 68 = .ok (.iconst 3, 1) := by decide +kernel
theorem dX2_weighStep_69 : decode cX2_weighStep 69 = .ok (.invokestatic 113, 3) := by decide +kernel
theorem dX2_weighStep_72 : decode cX2_weighStep 72 = .ok (.i2l, 1) := by decide +kernel
theorem dX2_weighStep_73 : decode cX2_weighStep 73 = .ok (.lcmp, 1) := by decide +kernel
theorem dX2_weighStep_74 : decode cX2_weighStep 74 = .ok (.ifCond .gt 55, 3) := by decide +kernel
theorem dX2_weighStep_77 : decode cX2_weighStep 77 = .ok (.aload_n 1, 1) := by decide +kernel
theorem dX2_weighStep_78 : decode cX2_weighStep 78 = .ok (.iconst 4, 1) := by decide +kernel
theorem dX2_weighStep_79 : decode cX2_weighStep 79 = .ok (.invokestatic 113, 3) := by decide +kernel
theorem dX2_weighStep_82 : decode cX2_weighStep 82 = .ok (.istore 13, 2) := by decide +kernel
theorem dX2_weighStep_84 : decode cX2_weighStep 84 = .ok (.aload_n 0, 1) := by decide +kernel
theorem dX2_weighStep_85 : decode cX2_weighStep 85 = .ok (.iload_n 2, 1) := by decide +kernel
theorem dX2_weighStep_86 : decode cX2_weighStep 86 = .ok (.iconst 1, 1) := by decide +kernel
theorem dX2_weighStep_87 : decode cX2_weighStep 87 = .ok (.invokevirtual 125, 3) := by decide +kernel
theorem dX2_weighStep_90 : decode cX2_weighStep 90 = .ok (.aload_n 0, 1) := by decide +kernel
theorem dX2_weighStep_91 : decode cX2_weighStep 91 = .ok (.iload 13, 2) := by decide +kernel
theorem dX2_weighStep_93 : decode cX2_weighStep 93 = .ok (.i2l, 1) := by decide +kernel
theorem dX2_weighStep_94 : decode cX2_weighStep 94 = .ok (.lload 9, 2) := by decide +kernel
theorem dX2_weighStep_96 : decode cX2_weighStep 96 = .ok (.lmul, 1) := by decide +kernel
theorem dX2_weighStep_97 : decode cX2_weighStep 97 = .ok (.bipush 100, 2) := by decide +kernel
theorem dX2_weighStep_99 : decode cX2_weighStep 99 = .ok (.iload 13, 2) := by decide +kernel
theorem dX2_weighStep_101 : decode cX2_weighStep 101 = .ok (.isub, 1) := by decide +kernel
theorem dX2_weighStep_102 : decode cX2_weighStep 102 = .ok (.i2l, 1) := by decide +kernel
theorem dX2_weighStep_103 : decode cX2_weighStep 103 = .ok (.lload 11, 2) := by decide +kernel
theorem dX2_weighStep_105 : decode cX2_weighStep 105 = .ok (.lmul, 1) := by decide +kernel
theorem dX2_weighStep_106 : decode cX2_weighStep 106 = .ok (.ladd, 1) := by decide +kernel
theorem dX2_weighStep_107 : decode cX2_weighStep 107 = .ok (.ldc2_w 155, 3) := by decide +kernel
theorem dX2_weighStep_110 : decode cX2_weighStep 110 = .ok (.ldiv, 1) := by decide +kernel
theorem dX2_weighStep_111 : decode cX2_weighStep 111 = .ok (.l2i, 1) := by decide +kernel
theorem dX2_weighStep_112 : decode cX2_weighStep 112 = .ok (.putfield 136, 3) := by decide +kernel
theorem dX2_weighStep_115 : decode cX2_weighStep 115 = .ok (.aload_n 0, 1) := by decide +kernel
theorem dX2_weighStep_116 : decode cX2_weighStep 116 = .ok (.lload_n 3, 1) := by decide +kernel
theorem dX2_weighStep_117 : decode cX2_weighStep 117 = .ok (.lload 5, 2) := by decide +kernel
theorem dX2_weighStep_119 : decode cX2_weighStep 119 = .ok (.ladd, 1) := by decide +kernel
theorem dX2_weighStep_120 : decode cX2_weighStep 120 = .ok (.ldc2_w 157, 3) := by decide +kernel
theorem dX2_weighStep_123 : decode cX2_weighStep 123 = .ok (.ldiv, 1) := by decide +kernel
theorem dX2_weighStep_124 : decode cX2_weighStep 124 = .ok (.l2i, 1) := by decide +kernel
theorem dX2_weighStep_125 : decode cX2_weighStep 125 = .ok (.putfield 139, 3) := by decide +kernel
theorem dX2_weighStep_128 : decode cX2_weighStep 128 = .ok (.return_, 1) := by decide +kernel
theorem dX2_weighStep_129 : decode cX2_weighStep 129 = .ok (.lload 11, 2) := by decide +kernel
theorem dX2_weighStep_131 : decode cX2_weighStep 131 = .ok (.lload 7, 2) := by decide +kernel
theorem dX2_weighStep_133 : decode cX2_weighStep 133 = .ok (.lmul, 1) := by decide +kernel
theorem dX2_weighStep_134 : decode cX2_weighStep 134 = .ok (.ldc2_w 150, 3) := by decide +kernel
theorem dX2_weighStep_137 : decode cX2_weighStep 137 = .ok (.ldiv, 1) := by decide +kernel
theorem dX2_weighStep_138 : decode cX2_weighStep 138 = .ok (.lstore 13, 2) := by decide +kernel
theorem dX2_weighStep_140 : decode cX2_weighStep 140 = .ok (.lload 9, 2) := by decide +kernel
theorem dX2_weighStep_142 : decode cX2_weighStep 142 = .ok (.lload 11, 2) := by decide +kernel
theorem dX2_weighStep_144 : decode cX2_weighStep 144 = .ok (.lcmp, 1) := by decide +kernel
theorem dX2_weighStep_145 : decode cX2_weighStep 145 = .ok (.ifCond .le 7, 3) := by decide +kernel
theorem dX2_weighStep_148 : decode cX2_weighStep 148 = .ok (.iconst 1, 1) := by decide +kernel
theorem dX2_weighStep_149 : decode cX2_weighStep 149 = .ok (.goto 4, 3) := by decide +kernel
theorem dX2_weighStep_152 : decode cX2_weighStep 152 = .ok (.iconst 0, 1) := by decide +kernel
theorem dX2_weighStep_153 : decode cX2_weighStep 153 = .ok (.istore 15, 2) := by decide +kernel
theorem dX2_weighStep_155 : decode cX2_weighStep 155 = .ok (.aload_n 0, 1) := by decide +kernel
theorem dX2_weighStep_156 : decode cX2_weighStep 156 = .ok (.iload_n 2, 1) := by decide +kernel
theorem dX2_weighStep_157 : decode cX2_weighStep 157 = .ok (.iload 15, 2) := by decide +kernel
theorem dX2_weighStep_159 : decode cX2_weighStep 159 = .ok (.ifCond .eq 7, 3) := by decide +kernel
theorem dX2_weighStep_162 : decode cX2_weighStep 162 = .ok (.iconst 3, 1) := by decide +kernel
theorem dX2_weighStep_163 : decode cX2_weighStep 163 = .ok (.goto 4, 3) := by decide +kernel
theorem dX2_weighStep_166 : decode cX2_weighStep 166 = .ok (.iconst 2, 1) := by decide +kernel
theorem dX2_weighStep_167 : decode cX2_weighStep 167 = .ok (.invokevirtual 125, 3) := by decide +kernel
theorem dX2_weighStep_170 : decode cX2_weighStep 170 = .ok (.aload_n 0, 1) := by decide +kernel
theorem dX2_weighStep_171 : decode cX2_weighStep 171 = .ok (.lload 11, 2) := by decide +kernel
theorem dX2_weighStep_173 : decode cX2_weighStep 173 = .ok (.l2i, 1) := by decide +kernel
theorem dX2_weighStep_174 : decode cX2_weighStep 174 = .ok (.putfield 136, 3) := by decide +kernel
theorem dX2_weighStep_177 : decode cX2_weighStep 177 = .ok (.aload_n 0, 1) := by decide +kernel
theorem dX2_weighStep_178 : decode cX2_weighStep 178 = .ok (.iload 15, 2) := by decide +kernel
theorem dX2_weighStep_180 : decode cX2_weighStep 180 = .ok (.ifCond .eq 12, 3) := by decide +kernel
theorem dX2_weighStep_183 : decode cX2_weighStep 183 = .ok (.lload_n 3, 1) := by decide +kernel
theorem dX2_weighStep_184 : decode cX2_weighStep 184 = .ok (.lload_n 3, 1) := by decide +kernel
theorem dX2_weighStep_185 : decode cX2_weighStep 185 = .ok (.lload 13, 2) := by decide +kernel
theorem dX2_weighStep_187 : decode cX2_weighStep 187 = .ok (.ladd, 1) := by decide +kernel
theorem dX2_weighStep_188 : decode cX2_weighStep 188 = .ok (.ladd, 1) := by decide +kernel
theorem dX2_weighStep_189 : decode cX2_weighStep 189 = .ok (.goto 11, 3) := by decide +kernel
theorem dX2_weighStep_192 : decode cX2_weighStep 192 = .ok (.lload 5, 2) := by decide +kernel
theorem dX2_weighStep_194 : decode cX2_weighStep 194 = .ok (.lload 13, 2) := by decide +kernel
theorem dX2_weighStep_196 : decode cX2_weighStep 196 = .ok (.lsub, 1) := by decide +kernel
theorem dX2_weighStep_197 : decode cX2_weighStep 197 = .ok (.lload 5, 2) := by decide +kernel
theorem dX2_weighStep_199 : decode cX2_weighStep 199 = .ok (.ladd, 1) := by decide +kernel
theorem dX2_weighStep_200 : decode cX2_weighStep 200 = .ok (.ldc2_w 157, 3) := by decide +kernel
theorem dX2_weighStep_203 : decode cX2_weighStep 203 = .ok (.ldiv, 1) := by decide +kernel
theorem dX2_weighStep_204 : decode cX2_weighStep 204 = .ok (.l2i, 1) := by decide +kernel
theorem dX2_weighStep_205 : decode cX2_weighStep 205 = .ok (.putfield 139, 3) := by decide +kernel
theorem dX2_weighStep_208 : decode cX2_weighStep 208 = .ok (.return_, 1) := by decide +kernel
abbrev wX2_weighStep : List Cond := .code yX2_weighStep cX2_weighStep 16 none :: lw_gd
theorem hdX2_weighStep : (yX2_weighStep.cls ≠ "java/lang/invoke/MethodHandle" ∧ yX2_weighStep.cls ≠ "java/lang/invoke/VarHandle" ∧ (parseMethodDescriptor yX2_weighStep.desc).map (fun d => d.parameters.length) = some 4) := by decide +kernel
def fX2_weighStep_200 (ps : Nat)  (s0 : Int64) (M : xm_M) : Option xm_M :=
  xm_lt (xm_s M 49 11 ((s0 / (2 : Int64)).toInt32)) (fun M15 => some M15)
set_option maxRecDepth 20000 in
theorem tfX2_weighStep_200 {p : Program} {l : Launch} {e : Env} {s : State} {m : MethodId} {args : Array Value} {below : List Frame} {meth : Method} {c : Code} {D : va_G} {g : xm_G} {A : Nat → Prop} (ps : Nat) {L : List xm_Sh} (hL : xm_pre L) (hX : xm_X p m meth c cX2_weighStep 16 s args wX2_weighStep RX2 none D L g A) (hps : L[ps]? = some (.inl (0, .int, 9)))   : ∀ (s0 : Int64), ∀ (M : xm_M), xm_J p l e ({ frames := 2, cells := 0, slots := 0, locals := 45 }) s m args below meth c 16 D L g A (xm_Z below args s D L g A (xm_Fv g)) 200 [] [.long s0, .ref (g.1 49)] M (fX2_weighStep_200 ps s0 M) := by
  intro s0 M
  unfold fX2_weighStep_200
  refine xm_ldc2 hX (v := 2) (List.mem_cons_of_mem _ gm_240) dX2_weighStep_200 ?_
  refine xm_ldivL hX (by decide) dX2_weighStep_203 ?_
  refine xm_l2i hX dX2_weighStep_204 ?_
  refine xm_puti hX (k := 49) (ci := 2) (j := 11) (C := RX2) (T := TX2) (N := 12) (t0 := tyX2) (hL _ _ cL_49) rfl rfl (by decide) (fun z hz => List.mem_cons_of_mem _ (iw_X2 z hz)) tyX2_ok nmX2 rfl rfl (List.mem_cons_of_mem _ gm_93) dX2_weighStep_205 (fun M15 => ?_)
  exact xm_vret hX dX2_weighStep_208
def fX2_weighStep_167 (ps : Nat)  (b3 : Int64) (b5 : Int64) (b11 : Int64) (b13 : Int64) (b15 : Int32) (s0 : Int32) (s1 : Int32) (M : xm_M) : Option xm_M :=
  xm_bv (fX2_keepKind s1 s0 M) (fun M13 => xm_lt (xm_s M13 49 10 b11.toInt32) (fun M14 => if b15 = 0 then fX2_weighStep_200 ps ((b5 - b13) + b5) M14 else fX2_weighStep_200 ps (b3 + (b3 + b13)) M14))
set_option maxRecDepth 20000 in
theorem tfX2_weighStep_167 {p : Program} {l : Launch} {e : Env} {s : State} {m : MethodId} {args : Array Value} {below : List Frame} {meth : Method} {c : Code} {D : va_G} {g : xm_G} {A : Nat → Prop} (ps : Nat) {L : List xm_Sh} (hL : xm_pre L) (hX : xm_X p m meth c cX2_weighStep 16 s args wX2_weighStep RX2 none D L g A) (hps : L[ps]? = some (.inl (0, .int, 9)))   : ∀ (b3 : Int64), ∀ (b5 : Int64), ∀ (b11 : Int64), ∀ (b13 : Int64), ∀ (b15 : Int32), ∀ (s0 : Int32), ∀ (s1 : Int32), ∀ (M : xm_M), xm_J p l e ({ frames := 2, cells := 0, slots := 0, locals := 45 }) s m args below meth c 16 D L g A (xm_Z below args s D L g A (xm_Fv g)) 167 [(0, .ref (g.1 49)), (3, .long b3), (5, .long b5), (11, .long b11), (13, .long b13), (15, .int b15)] [.int s0, .int s1, .ref (g.1 49)] M (fX2_weighStep_167 ps b3 b5 b11 b13 b15 s0 s1 M) := by
  intro b3 b5 b11 b13 b15 s0 s1 M
  unfold fX2_weighStep_167
  refine xm_callv hX (xm_runV hX (k := 49) (ci := 2) (As := (fun g => [.int s1, .int s0])) (kX2_keepKind hL s1 s0 M) (hL _ _ cL_49) rfl (xm_gV gm_220 gm_221 gm_502 gm_3 gm_222) rfl ⟨rfl, rfl⟩ ⟨rfl, hdX2_keepKind⟩ ⟨Nat.le_of_ble_eq_true rfl, Nat.le_of_ble_eq_true rfl⟩ rfl (Nat.le_of_ble_eq_true rfl) rfl ⟨Nat.le_of_ble_eq_true rfl, Nat.le_of_ble_eq_true rfl⟩ dX2_weighStep_167) (fun M13 => ?_)
  refine xm_aload_n hX 0 dX2_weighStep_170 rfl rfl ?_
  refine xm_lload hX 3 dX2_weighStep_171 rfl ?_
  refine xm_l2i hX dX2_weighStep_173 ?_
  refine xm_puti hX (k := 49) (ci := 2) (j := 10) (C := RX2) (T := TX2) (N := 12) (t0 := tyX2) (hL _ _ cL_49) rfl rfl (by decide) (fun z hz => List.mem_cons_of_mem _ (iw_X2 z hz)) tyX2_ok nmX2 rfl rfl (List.mem_cons_of_mem _ gm_92) dX2_weighStep_174 (fun M14 => ?_)
  refine xm_aload_n hX 0 dX2_weighStep_177 rfl rfl ?_
  refine xm_iload hX 5 dX2_weighStep_178 rfl ?_
  refine xm_if_eq hX (tgt := 192) dX2_weighStep_180 rfl ?_ ?_
  · refine xm_lload hX 2 dX2_weighStep_192 rfl ?_
    refine xm_lload hX 4 dX2_weighStep_194 rfl ?_
    refine xm_lsub hX dX2_weighStep_196 ?_
    refine xm_lload hX 2 dX2_weighStep_197 rfl ?_
    refine xm_ladd hX dX2_weighStep_199 ?_
    refine xm_weak [] (lv' := []) rfl ?_
    exact tfX2_weighStep_200 ps hL hX hps ((b5 - b13) + b5) M14
  · refine xm_lload_n hX 1 dX2_weighStep_183 rfl rfl ?_
    refine xm_lload_n hX 1 dX2_weighStep_184 rfl rfl ?_
    refine xm_lload hX 4 dX2_weighStep_185 rfl ?_
    refine xm_ladd hX dX2_weighStep_187 ?_
    refine xm_ladd hX dX2_weighStep_188 ?_
    refine xm_goto hX (tgt := 200) dX2_weighStep_189 rfl ?_
    refine xm_weak [] (lv' := []) rfl ?_
    exact tfX2_weighStep_200 ps hL hX hps (b3 + (b3 + b13)) M14
def fX2_weighStep_153 (ps : Nat)  (b2 : Int32) (b3 : Int64) (b5 : Int64) (b11 : Int64) (b13 : Int64) (s0 : Int32) (M : xm_M) : Option xm_M :=
  if s0 = 0 then fX2_weighStep_167 ps b3 b5 b11 b13 s0 (2 : Int32) b2 M else fX2_weighStep_167 ps b3 b5 b11 b13 s0 (3 : Int32) b2 M
set_option maxRecDepth 20000 in
theorem tfX2_weighStep_153 {p : Program} {l : Launch} {e : Env} {s : State} {m : MethodId} {args : Array Value} {below : List Frame} {meth : Method} {c : Code} {D : va_G} {g : xm_G} {A : Nat → Prop} (ps : Nat) {L : List xm_Sh} (hL : xm_pre L) (hX : xm_X p m meth c cX2_weighStep 16 s args wX2_weighStep RX2 none D L g A) (hps : L[ps]? = some (.inl (0, .int, 9)))   : ∀ (b2 : Int32), ∀ (b3 : Int64), ∀ (b5 : Int64), ∀ (b11 : Int64), ∀ (b13 : Int64), ∀ (s0 : Int32), ∀ (M : xm_M), xm_J p l e ({ frames := 2, cells := 0, slots := 0, locals := 45 }) s m args below meth c 16 D L g A (xm_Z below args s D L g A (xm_Fv g)) 153 [(0, .ref (g.1 49)), (2, .int b2), (3, .long b3), (5, .long b5), (11, .long b11), (13, .long b13)] [.int s0] M (fX2_weighStep_153 ps b2 b3 b5 b11 b13 s0 M) := by
  intro b2 b3 b5 b11 b13 s0 M
  unfold fX2_weighStep_153
  refine xm_istore hX (lv' := [(15, .int s0), (0, .ref (g.1 49)), (2, .int b2), (3, .long b3), (5, .long b5), (11, .long b11), (13, .long b13)]) dX2_weighStep_153 (by decide) rfl ?_
  refine xm_aload_n hX 1 dX2_weighStep_155 rfl rfl ?_
  refine xm_iload_n hX 2 dX2_weighStep_156 rfl rfl ?_
  refine xm_iload hX 0 dX2_weighStep_157 rfl ?_
  refine xm_if_eq hX (tgt := 166) dX2_weighStep_159 rfl ?_ ?_
  · refine xm_iconst hX (v := 2) rfl dX2_weighStep_166 ?_
    refine xm_weak [1, 3, 4, 5, 6, 0] (lv' := [(0, .ref (g.1 49)), (3, .long b3), (5, .long b5), (11, .long b11), (13, .long b13), (15, .int s0)]) rfl ?_
    exact tfX2_weighStep_167 ps hL hX hps b3 b5 b11 b13 s0 (2 : Int32) b2 M
  · refine xm_iconst hX (v := 3) rfl dX2_weighStep_162 ?_
    refine xm_goto hX (tgt := 167) dX2_weighStep_163 rfl ?_
    refine xm_weak [1, 3, 4, 5, 6, 0] (lv' := [(0, .ref (g.1 49)), (3, .long b3), (5, .long b5), (11, .long b11), (13, .long b13), (15, .int s0)]) rfl ?_
    exact tfX2_weighStep_167 ps hL hX hps b3 b5 b11 b13 s0 (3 : Int32) b2 M
def fX2_weighStep (ps : Nat) (a2 : Int32) (a3 : Int64) (a5 : Int64) (M : xm_M) : Option xm_M :=
  xm_bi (fX3_item ps 9 (2 : Int32) M) (fun x2 M1 => xm_lt ((1000 : Int64) * x2.toInt64) (fun x3 => xm_bl (fX3_ratio ((a5 - a3) * (572958 : Int64)) x3 M1) (fun x5 M4 => xm_bi (fX3_item_ 56 11 57 120 (3 : Int32) a2 M4) (fun x7 M6 => xm_lt ((x7 - ((M6.1 49 7) / (16 : Int32))).toInt64) (fun x8 => xm_bv (fX3_keep_ 56 11 57 120 (4 : Int32) a2 x5.toInt32 M6) (fun M9 => xm_bi (fX3_item ps 9 (3 : Int32) M9) (fun x11 M10 => if 0 < (lg_cmp (if 0 < (x5 - x8) then (x5 - x8) else -(x5 - x8)) x11.toInt64) then xm_lt ((x8 * x3) / (572958 : Int64)) (fun x12 => if (lg_cmp x5 x8) ≤ 0 then fX2_weighStep_153 ps a2 a3 a5 x8 x12 (0 : Int32) M10 else fX2_weighStep_153 ps a2 a3 a5 x8 x12 (1 : Int32) M10) else xm_bi (fX3_item ps 9 (4 : Int32) M10) (fun x17 M16 => xm_bv (fX2_keepKind a2 (1 : Int32) M16) (fun M18 => xm_lt (xm_s M18 49 10 ((((x17.toInt64 * x5) + ((((100 : Int32) - x17).toInt64) * x8)) / (100 : Int64)).toInt32)) (fun M19 => xm_lt (xm_s M19 49 11 (((a3 + a5) / (2 : Int64)).toInt32)) (fun M20 => some M20)))))))))))
set_option maxRecDepth 20000 in
theorem kX2_weighStep {l : Launch} {L : List xm_Sh} (hL : xm_pre L) (ps : Nat) (hps : L[ps]? = some (.inl (0, .int, 9))) (a2 : Int32) (a3 : Int64) (a5 : Int64) (M : xm_M) : xm_C l yX2_weighStep wX2_weighStep ({ frames := 2, cells := 0, slots := 0, locals := 45 }) L (fun g => [.ref (g.1 49), .ref (g.1 ps), .int a2, .long a3, .long a5]) M xm_Fv (fX2_weighStep ps a2 a3 a5 M) := by
  refine xm_C.of (by decide) rfl (fun g => Nat.le_of_ble_eq_true rfl) ?_
  intro p e s m args below meth c D g A hX
  refine xm_lv (lv' := [(0, .ref (g.1 49)), (1, .ref (g.1 ps)), (2, .int a2), (3, .long a3), (5, .long a5)]) rfl ?_
  unfold fX2_weighStep
  refine xm_ldc2 hX (v := 1000) (List.mem_cons_of_mem _ gm_234) dX2_weighStep_0 ?_
  refine xm_aload_n hX 1 dX2_weighStep_3 rfl rfl ?_
  refine xm_iconst hX (v := 2) rfl dX2_weighStep_4 ?_
  refine xm_calli hX (xm_runSN hX (As := (fun g => [.ref (g.1 ps), .int (2 : Int32)])) (kX3_item hL ps 9 hps (2 : Int32) M) (xm_gN gm_154) rfl ⟨rfl, rfl⟩ nw_3 (List.mem_cons_of_mem _ gm_1) (List.mem_cons_of_mem _ gm_153) hdX3_item ⟨Nat.le_of_ble_eq_true rfl, Nat.le_of_ble_eq_true rfl⟩ rfl (Nat.le_of_ble_eq_true rfl) rfl ⟨Nat.le_of_ble_eq_true rfl, Nat.le_of_ble_eq_true rfl⟩ dX2_weighStep_5) (fun x2 M1 => ?_)
  refine xm_i2l hX dX2_weighStep_8 ?_
  refine xm_lmul hX dX2_weighStep_9 ?_
  refine xm_nml (fun x3 => ?_)
  refine xm_lstore hX (lv' := [(7, .long x3), (0, .ref (g.1 49)), (1, .ref (g.1 ps)), (2, .int a2), (3, .long a3), (5, .long a5)]) dX2_weighStep_10 (by decide) rfl ?_
  refine xm_lload hX 5 dX2_weighStep_12 rfl ?_
  refine xm_lload_n hX 4 dX2_weighStep_14 rfl rfl ?_
  refine xm_lsub hX dX2_weighStep_15 ?_
  refine xm_ldc2 hX (v := 572958) (List.mem_cons_of_mem _ gm_235) dX2_weighStep_16 ?_
  refine xm_lmul hX dX2_weighStep_19 ?_
  refine xm_lload hX 0 dX2_weighStep_20 rfl ?_
  refine xm_calll hX (xm_runSN hX (As := (fun g => [.long ((a5 - a3) * (572958 : Int64)), .long x3])) (kX3_ratio hL ((a5 - a3) * (572958 : Int64)) x3 M1) (xm_gN gm_230) rfl ⟨rfl, rfl⟩ nw_5 (List.mem_cons_of_mem _ gm_1) (List.mem_cons_of_mem _ gm_229) hdX3_ratio ⟨Nat.le_of_ble_eq_true rfl, Nat.le_of_ble_eq_true rfl⟩ rfl (Nat.le_of_ble_eq_true rfl) rfl ⟨Nat.le_of_ble_eq_true rfl, Nat.le_of_ble_eq_true rfl⟩ dX2_weighStep_22) (fun x5 M4 => ?_)
  refine xm_lstore hX (lv' := [(9, .long x5), (7, .long x3), (0, .ref (g.1 49)), (1, .ref (g.1 ps)), (2, .int a2), (3, .long a3), (5, .long a5)]) dX2_weighStep_25 (by decide) rfl ?_
  refine xm_aload_n hX 2 dX2_weighStep_27 rfl rfl ?_
  refine xm_get hX (k := 49) (ci := 2) (j := 1) (C := RX2) (T := TX2) (N := 12) (v := .ref (g.1 56)) (hL _ _ cL_49) rfl rfl rfl (by decide) (fun z hz => List.mem_cons_of_mem _ (iw_X2 z hz)) (List.mem_cons_of_mem _ gm_75) dX2_weighStep_28 ?_
  refine xm_iconst hX (v := 3) rfl dX2_weighStep_31 ?_
  refine xm_iload_n hX 4 dX2_weighStep_32 rfl rfl ?_
  refine xm_calli hX (xm_runSN hX (As := (fun g => [.ref (g.1 56), .int (3 : Int32), .int a2])) (kX3_item_ hL 56 11 57 120 (hL _ _ cL_56) (cL_rowsL_56 hL) (3 : Int32) a2 M4) (xm_gN gm_216) rfl ⟨rfl, rfl⟩ nw_2 (List.mem_cons_of_mem _ gm_1) (List.mem_cons_of_mem _ gm_215) hdX3_item_ ⟨Nat.le_of_ble_eq_true rfl, Nat.le_of_ble_eq_true rfl⟩ rfl (Nat.le_of_ble_eq_true rfl) rfl ⟨Nat.le_of_ble_eq_true rfl, Nat.le_of_ble_eq_true rfl⟩ dX2_weighStep_33) (fun x7 M6 => ?_)
  refine xm_aload_n hX 2 dX2_weighStep_36 rfl rfl ?_
  refine xm_get hX (k := 49) (ci := 2) (j := 7) (C := RX2) (T := TX2) (N := 12) (v := .int (M6.1 49 7)) (hL _ _ cL_49) rfl rfl rfl (by decide) (fun z hz => List.mem_cons_of_mem _ (iw_X2 z hz)) (List.mem_cons_of_mem _ gm_87) dX2_weighStep_37 ?_
  refine xm_bipush hX (v := 16) rfl dX2_weighStep_40 ?_
  refine xm_idivL hX (by decide) dX2_weighStep_42 ?_
  refine xm_isub hX dX2_weighStep_43 ?_
  refine xm_i2l hX dX2_weighStep_44 ?_
  refine xm_nml (fun x8 => ?_)
  refine xm_lstore hX (lv' := [(11, .long x8), (9, .long x5), (7, .long x3), (0, .ref (g.1 49)), (1, .ref (g.1 ps)), (2, .int a2), (3, .long a3), (5, .long a5)]) dX2_weighStep_45 (by decide) rfl ?_
  refine xm_aload_n hX 3 dX2_weighStep_47 rfl rfl ?_
  refine xm_get hX (k := 49) (ci := 2) (j := 1) (C := RX2) (T := TX2) (N := 12) (v := .ref (g.1 56)) (hL _ _ cL_49) rfl rfl rfl (by decide) (fun z hz => List.mem_cons_of_mem _ (iw_X2 z hz)) (List.mem_cons_of_mem _ gm_75) dX2_weighStep_48 ?_
  refine xm_iconst hX (v := 4) rfl dX2_weighStep_51 ?_
  refine xm_iload_n hX 5 dX2_weighStep_52 rfl rfl ?_
  refine xm_lload hX 1 dX2_weighStep_53 rfl ?_
  refine xm_l2i hX dX2_weighStep_55 ?_
  refine xm_callv hX (xm_runSN hX (As := (fun g => [.ref (g.1 56), .int (4 : Int32), .int a2, .int (x5.toInt32)])) (kX3_keep_ hL 56 11 57 120 (hL _ _ cL_56) (cL_rowsL_56 hL) (4 : Int32) a2 x5.toInt32 M6) (xm_gN gm_172) rfl ⟨rfl, rfl⟩ nw_0 (List.mem_cons_of_mem _ gm_1) (List.mem_cons_of_mem _ gm_171) hdX3_keep_ ⟨Nat.le_of_ble_eq_true rfl, Nat.le_of_ble_eq_true rfl⟩ rfl (Nat.le_of_ble_eq_true rfl) rfl ⟨Nat.le_of_ble_eq_true rfl, Nat.le_of_ble_eq_true rfl⟩ dX2_weighStep_56) (fun M9 => ?_)
  refine xm_lload hX 1 dX2_weighStep_59 rfl ?_
  refine xm_lload hX 0 dX2_weighStep_61 rfl ?_
  refine xm_lsub hX dX2_weighStep_63 ?_
  refine xm_mabsl hX (List.mem_cons_of_mem _ gm_236) (List.mem_cons_of_mem _ gm_237) (List.mem_cons_of_mem _ gm_5) (List.mem_cons_of_mem _ gm_238) (Nat.le_of_ble_eq_true rfl) (Nat.le_of_ble_eq_true rfl) ⟨Nat.le_of_ble_eq_true rfl, Nat.le_of_ble_eq_true rfl⟩ dX2_weighStep_64 ?_
  refine xm_aload_n hX 4 dX2_weighStep_67 rfl rfl ?_
  refine xm_iconst hX (v := 3) rfl dX2_weighStep_68 ?_
  refine xm_calli hX (xm_runSN hX (As := (fun g => [.ref (g.1 ps), .int (3 : Int32)])) (kX3_item hL ps 9 hps (3 : Int32) M9) (xm_gN gm_154) rfl ⟨rfl, rfl⟩ nw_3 (List.mem_cons_of_mem _ gm_1) (List.mem_cons_of_mem _ gm_153) hdX3_item ⟨Nat.le_of_ble_eq_true rfl, Nat.le_of_ble_eq_true rfl⟩ rfl (Nat.le_of_ble_eq_true rfl) rfl ⟨Nat.le_of_ble_eq_true rfl, Nat.le_of_ble_eq_true rfl⟩ dX2_weighStep_69) (fun x11 M10 => ?_)
  refine xm_i2l hX dX2_weighStep_72 ?_
  refine xm_lcmp hX dX2_weighStep_73 ?_
  refine xm_if_gt hX (tgt := 129) dX2_weighStep_74 rfl ?_ ?_
  · refine xm_lload hX 0 dX2_weighStep_129 rfl ?_
    refine xm_lload hX 2 dX2_weighStep_131 rfl ?_
    refine xm_lmul hX dX2_weighStep_133 ?_
    refine xm_ldc2 hX (v := 572958) (List.mem_cons_of_mem _ gm_235) dX2_weighStep_134 ?_
    refine xm_ldivL hX (by decide) dX2_weighStep_137 ?_
    refine xm_nml (fun x12 => ?_)
    refine xm_lstore hX (lv' := [(13, .long x12), (11, .long x8), (9, .long x5), (7, .long x3), (0, .ref (g.1 49)), (1, .ref (g.1 ps)), (2, .int a2), (3, .long a3), (5, .long a5)]) dX2_weighStep_138 (by decide) rfl ?_
    refine xm_lload hX 2 dX2_weighStep_140 rfl ?_
    refine xm_lload hX 1 dX2_weighStep_142 rfl ?_
    refine xm_lcmp hX dX2_weighStep_144 ?_
    refine xm_if_le hX (tgt := 152) dX2_weighStep_145 rfl ?_ ?_
    · refine xm_iconst hX (v := 0) rfl dX2_weighStep_152 ?_
      refine xm_weak [4, 6, 7, 8, 1, 0] (lv' := [(0, .ref (g.1 49)), (2, .int a2), (3, .long a3), (5, .long a5), (11, .long x8), (13, .long x12)]) rfl ?_
      exact tfX2_weighStep_153 ps hL hX hps a2 a3 a5 x8 x12 (0 : Int32) M10
    · refine xm_iconst hX (v := 1) rfl dX2_weighStep_148 ?_
      refine xm_goto hX (tgt := 153) dX2_weighStep_149 rfl ?_
      refine xm_weak [4, 6, 7, 8, 1, 0] (lv' := [(0, .ref (g.1 49)), (2, .int a2), (3, .long a3), (5, .long a5), (11, .long x8), (13, .long x12)]) rfl ?_
      exact tfX2_weighStep_153 ps hL hX hps a2 a3 a5 x8 x12 (1 : Int32) M10
  · refine xm_aload_n hX 4 dX2_weighStep_77 rfl rfl ?_
    refine xm_iconst hX (v := 4) rfl dX2_weighStep_78 ?_
    refine xm_calli hX (xm_runSN hX (As := (fun g => [.ref (g.1 ps), .int (4 : Int32)])) (kX3_item hL ps 9 hps (4 : Int32) M10) (xm_gN gm_154) rfl ⟨rfl, rfl⟩ nw_3 (List.mem_cons_of_mem _ gm_1) (List.mem_cons_of_mem _ gm_153) hdX3_item ⟨Nat.le_of_ble_eq_true rfl, Nat.le_of_ble_eq_true rfl⟩ rfl (Nat.le_of_ble_eq_true rfl) rfl ⟨Nat.le_of_ble_eq_true rfl, Nat.le_of_ble_eq_true rfl⟩ dX2_weighStep_79) (fun x17 M16 => ?_)
    refine xm_istore hX (lv' := [(13, .int x17), (11, .long x8), (9, .long x5), (7, .long x3), (0, .ref (g.1 49)), (1, .ref (g.1 ps)), (2, .int a2), (3, .long a3), (5, .long a5)]) dX2_weighStep_82 (by decide) rfl ?_
    refine xm_aload_n hX 4 dX2_weighStep_84 rfl rfl ?_
    refine xm_iload_n hX 6 dX2_weighStep_85 rfl rfl ?_
    refine xm_iconst hX (v := 1) rfl dX2_weighStep_86 ?_
    refine xm_callv hX (xm_runV hX (k := 49) (ci := 2) (As := (fun g => [.int a2, .int (1 : Int32)])) (kX2_keepKind hL a2 (1 : Int32) M16) (hL _ _ cL_49) rfl (xm_gV gm_220 gm_221 gm_502 gm_3 gm_222) rfl ⟨rfl, rfl⟩ ⟨rfl, hdX2_keepKind⟩ ⟨Nat.le_of_ble_eq_true rfl, Nat.le_of_ble_eq_true rfl⟩ rfl (Nat.le_of_ble_eq_true rfl) rfl ⟨Nat.le_of_ble_eq_true rfl, Nat.le_of_ble_eq_true rfl⟩ dX2_weighStep_87) (fun M18 => ?_)
    refine xm_aload_n hX 4 dX2_weighStep_90 rfl rfl ?_
    refine xm_iload hX 0 dX2_weighStep_91 rfl ?_
    refine xm_i2l hX dX2_weighStep_93 ?_
    refine xm_lload hX 2 dX2_weighStep_94 rfl ?_
    refine xm_lmul hX dX2_weighStep_96 ?_
    refine xm_bipush hX (v := 100) rfl dX2_weighStep_97 ?_
    refine xm_iload hX 0 dX2_weighStep_99 rfl ?_
    refine xm_isub hX dX2_weighStep_101 ?_
    refine xm_i2l hX dX2_weighStep_102 ?_
    refine xm_lload hX 1 dX2_weighStep_103 rfl ?_
    refine xm_lmul hX dX2_weighStep_105 ?_
    refine xm_ladd hX dX2_weighStep_106 ?_
    refine xm_ldc2 hX (v := 100) (List.mem_cons_of_mem _ gm_239) dX2_weighStep_107 ?_
    refine xm_ldivL hX (by decide) dX2_weighStep_110 ?_
    refine xm_l2i hX dX2_weighStep_111 ?_
    refine xm_puti hX (k := 49) (ci := 2) (j := 10) (C := RX2) (T := TX2) (N := 12) (t0 := tyX2) (hL _ _ cL_49) rfl rfl (by decide) (fun z hz => List.mem_cons_of_mem _ (iw_X2 z hz)) tyX2_ok nmX2 rfl rfl (List.mem_cons_of_mem _ gm_92) dX2_weighStep_112 (fun M19 => ?_)
    refine xm_aload_n hX 4 dX2_weighStep_115 rfl rfl ?_
    refine xm_lload_n hX 7 dX2_weighStep_116 rfl rfl ?_
    refine xm_lload hX 8 dX2_weighStep_117 rfl ?_
    refine xm_ladd hX dX2_weighStep_119 ?_
    refine xm_ldc2 hX (v := 2) (List.mem_cons_of_mem _ gm_240) dX2_weighStep_120 ?_
    refine xm_ldivL hX (by decide) dX2_weighStep_123 ?_
    refine xm_l2i hX dX2_weighStep_124 ?_
    refine xm_puti hX (k := 49) (ci := 2) (j := 11) (C := RX2) (T := TX2) (N := 12) (t0 := tyX2) (hL _ _ cL_49) rfl rfl (by decide) (fun z hz => List.mem_cons_of_mem _ (iw_X2 z hz)) tyX2_ok nmX2 rfl rfl (List.mem_cons_of_mem _ gm_93) dX2_weighStep_125 (fun M20 => ?_)
    exact xm_vret hX dX2_weighStep_128
-- ===== java/lang/Math.floorMod(JJ)J
theorem dJ9_floorMod_f86c9_0 : decode cJ9_floorMod_f86c9 0 = .ok (.lload_n 0, 1) := by decide +kernel
theorem dJ9_floorMod_f86c9_1 : decode cJ9_floorMod_f86c9 1 = .ok (.lload_n 2, 1) := by decide +kernel
theorem dJ9_floorMod_f86c9_2 : decode cJ9_floorMod_f86c9 2 = .ok (.lrem, 1) := by decide +kernel
theorem dJ9_floorMod_f86c9_3 : decode cJ9_floorMod_f86c9 3 = .ok (.lstore 4, 2) := by decide +kernel
theorem dJ9_floorMod_f86c9_5 : decode cJ9_floorMod_f86c9 5 = .ok (.lload_n 0, 1) := by decide +kernel
theorem dJ9_floorMod_f86c9_6 : decode cJ9_floorMod_f86c9 6 = .ok (.lload_n 2, 1) := by decide +kernel
theorem dJ9_floorMod_f86c9_7 : decode cJ9_floorMod_f86c9 7 = .ok (.lxor, 1) := by decide +kernel
theorem dJ9_floorMod_f86c9_8 : decode cJ9_floorMod_f86c9 8 = .ok (.lconst 0, 1) := by decide +kernel
theorem dJ9_floorMod_f86c9_9 : decode cJ9_floorMod_f86c9 9 = .ok (.lcmp, 1) := by decide +kernel
theorem dJ9_floorMod_f86c9_10 : decode cJ9_floorMod_f86c9 10 = .ok (.ifCond .ge 15, 3) := by decide +kernel
theorem dJ9_floorMod_f86c9_13 : decode cJ9_floorMod_f86c9 13 = .ok (.lload 4, 2) := by decide +kernel
theorem dJ9_floorMod_f86c9_15 : decode cJ9_floorMod_f86c9 15 = .ok (.lconst 0, 1) := by decide +kernel
theorem dJ9_floorMod_f86c9_16 : decode cJ9_floorMod_f86c9 16 = .ok (.lcmp, 1) := by decide +kernel
theorem dJ9_floorMod_f86c9_17 : decode cJ9_floorMod_f86c9 17 = .ok (.ifCond .eq 8, 3) := by decide +kernel
theorem dJ9_floorMod_f86c9_20 : decode cJ9_floorMod_f86c9 20 = .ok (.lload 4, 2) := by decide +kernel
theorem dJ9_floorMod_f86c9_22 : decode cJ9_floorMod_f86c9 22 = .ok (.lload_n 2, 1) := by decide +kernel
theorem dJ9_floorMod_f86c9_23 : decode cJ9_floorMod_f86c9 23 = .ok (.ladd, 1) := by decide +kernel
theorem dJ9_floorMod_f86c9_24 : decode cJ9_floorMod_f86c9 24 = .ok (.lreturn, 1) := by decide +kernel
theorem dJ9_floorMod_f86c9_25 : decode cJ9_floorMod_f86c9 25 = .ok (.lload 4, 2) := by decide +kernel
theorem dJ9_floorMod_f86c9_27 : decode cJ9_floorMod_f86c9 27 = .ok (.lreturn, 1) := by decide +kernel
abbrev wJ9_floorMod_f86c9 : List Cond := .code yJ9_floorMod_f86c9 cJ9_floorMod_f86c9 6 (some .long) :: lw_gd
theorem hdJ9_floorMod_f86c9 : (yJ9_floorMod_f86c9.cls ≠ "java/lang/invoke/MethodHandle" ∧ yJ9_floorMod_f86c9.cls ≠ "java/lang/invoke/VarHandle" ∧ (parseMethodDescriptor yJ9_floorMod_f86c9.desc).map (fun d => d.parameters.length) = some 2) := by decide +kernel
def fJ9_floorMod_f86c9_25   (b4 : Int64) (M : xm_M) : Option (Int64 × xm_M) :=
  some (b4, M)
set_option maxRecDepth 20000 in
theorem tfJ9_floorMod_f86c9_25 {p : Program} {l : Launch} {e : Env} {s : State} {m : MethodId} {args : Array Value} {below : List Frame} {meth : Method} {c : Code} {D : va_G} {g : xm_G} {A : Nat → Prop}  {L : List xm_Sh} (hL : xm_pre L) (hX : xm_X p m meth c cJ9_floorMod_f86c9 6 s args wJ9_floorMod_f86c9 RJ9 (some .long) D L g A)    : ∀ (b4 : Int64), ∀ (M : xm_M), xm_J p l e ({ frames := 0, cells := 0, slots := 0, locals := 0 }) s m args below meth c 6 D L g A (xm_Z below args s D L g A (xm_Fl g)) 25 [(4, .long b4)] [] M (fJ9_floorMod_f86c9_25 b4 M) := by
  intro b4 M
  unfold fJ9_floorMod_f86c9_25
  refine xm_lload hX 0 dJ9_floorMod_f86c9_25 rfl ?_
  exact xm_lret hX dJ9_floorMod_f86c9_27
def fJ9_floorMod_f86c9  (a0 : Int64) (a2 : Int64) (M : xm_M) : Option (Int64 × xm_M) :=
  if a2 = 0 then none else xm_lt (a0 - a0 / a2 * a2) (fun x1 => if 0 ≤ (lg_cmp (a0 ^^^ a2) (0 : Int64)) then fJ9_floorMod_f86c9_25 x1 M else if (lg_cmp x1 (0 : Int64)) = 0 then fJ9_floorMod_f86c9_25 x1 M else some (x1 + a2, M))
set_option maxRecDepth 20000 in
theorem kJ9_floorMod_f86c9 {l : Launch} {L : List xm_Sh} (hL : xm_pre L)   (a0 : Int64) (a2 : Int64) (M : xm_M) : xm_C l yJ9_floorMod_f86c9 wJ9_floorMod_f86c9 ({ frames := 0, cells := 0, slots := 0, locals := 0 }) L (fun g => [.long a0, .long a2]) M xm_Fl (fJ9_floorMod_f86c9  a0 a2 M) := by
  refine xm_C.ofF (by decide +kernel) rfl (fun g => Nat.le_of_ble_eq_true rfl) ?_
  intro p e s m args below meth c D g A hX
  refine xm_lv (lv' := [(0, .long a0), (2, .long a2)]) rfl ?_
  unfold fJ9_floorMod_f86c9
  refine xm_lload_n hX 0 dJ9_floorMod_f86c9_0 rfl rfl ?_
  refine xm_lload_n hX 1 dJ9_floorMod_f86c9_1 rfl rfl ?_
  refine xm_lrem hX dJ9_floorMod_f86c9_2 ?_
  refine xm_nml (fun x1 => ?_)
  refine xm_lstore hX (lv' := [(4, .long x1), (0, .long a0), (2, .long a2)]) dJ9_floorMod_f86c9_3 (by decide) rfl ?_
  refine xm_lload_n hX 1 dJ9_floorMod_f86c9_5 rfl rfl ?_
  refine xm_lload_n hX 2 dJ9_floorMod_f86c9_6 rfl rfl ?_
  refine xm_lxor hX dJ9_floorMod_f86c9_7 ?_
  refine xm_lconst hX (v := 0) rfl dJ9_floorMod_f86c9_8 ?_
  refine xm_lcmp hX dJ9_floorMod_f86c9_9 ?_
  refine xm_if_ge hX (tgt := 25) dJ9_floorMod_f86c9_10 rfl ?_ ?_
  · refine xm_weak [0] (lv' := [(4, .long x1)]) rfl ?_
    exact tfJ9_floorMod_f86c9_25 hL hX x1 M
  · refine xm_lload hX 0 dJ9_floorMod_f86c9_13 rfl ?_
    refine xm_lconst hX (v := 0) rfl dJ9_floorMod_f86c9_15 ?_
    refine xm_lcmp hX dJ9_floorMod_f86c9_16 ?_
    refine xm_if_eq hX (tgt := 25) dJ9_floorMod_f86c9_17 rfl ?_ ?_
    · refine xm_weak [0] (lv' := [(4, .long x1)]) rfl ?_
      exact tfJ9_floorMod_f86c9_25 hL hX x1 M
    · refine xm_lload hX 0 dJ9_floorMod_f86c9_20 rfl ?_
      refine xm_lload_n hX 2 dJ9_floorMod_f86c9_22 rfl rfl ?_
      refine xm_ladd hX dJ9_floorMod_f86c9_23 ?_
      exact xm_lret hX dJ9_floorMod_f86c9_24
-- ===== OdometryDesk.asHeading(J)I
theorem dX3_asHeading_0 : decode cX3_asHeading 0 = .ok (.lload_n 0, 1) := by decide +kernel
theorem dX3_asHeading_1 : decode cX3_asHeading 1 = .ok (.ldc2_w 242, 3) := by decide +kernel
theorem dX3_asHeading_4 : decode cX3_asHeading 4 = .ok (.invokestatic 244, 3) := by decide +kernel
theorem dX3_asHeading_7 : decode cX3_asHeading 7 = .ok (.l2i, 1) := by decide +kernel
theorem dX3_asHeading_8 : decode cX3_asHeading 8 = .ok (.ireturn, 1) := by decide +kernel
abbrev wX3_asHeading : List Cond := .code yX3_asHeading cX3_asHeading 2 (some .int) :: lw_gd
theorem hdX3_asHeading : (yX3_asHeading.cls ≠ "java/lang/invoke/MethodHandle" ∧ yX3_asHeading.cls ≠ "java/lang/invoke/VarHandle" ∧ (parseMethodDescriptor yX3_asHeading.desc).map (fun d => d.parameters.length) = some 1) := by decide +kernel
def fX3_asHeading  (a0 : Int64) (M : xm_M) : Option (Int32 × xm_M) :=
  xm_bl (fJ9_floorMod_f86c9 a0 (3600000 : Int64) M) (fun x2 M1 => some (x2.toInt32, M1))
set_option maxRecDepth 20000 in
theorem kX3_asHeading {l : Launch} {L : List xm_Sh} (hL : xm_pre L)   (a0 : Int64) (M : xm_M) : xm_C l yX3_asHeading wX3_asHeading ({ frames := 1, cells := 0, slots := 0, locals := 25 }) L (fun g => [.long a0]) M xm_Fi (fX3_asHeading  a0 M) := by
  refine xm_C.of (by decide) rfl (fun g => Nat.le_of_ble_eq_true rfl) ?_
  intro p e s m args below meth c D g A hX
  refine xm_lv (lv' := [(0, .long a0)]) rfl ?_
  unfold fX3_asHeading
  refine xm_lload_n hX 0 dX3_asHeading_0 rfl rfl ?_
  refine xm_ldc2 hX (v := 3600000) (List.mem_cons_of_mem _ gm_246) dX3_asHeading_1 ?_
  refine xm_calll hX (xm_runS hX (As := (fun g => [.long a0, .long (3600000 : Int64)])) (kJ9_floorMod_f86c9 hL a0 (3600000 : Int64) M) (xm_gS gm_247 gm_248 gm_5 gm_249) rfl ⟨rfl, rfl⟩ hdJ9_floorMod_f86c9 ⟨Nat.le_of_ble_eq_true rfl, Nat.le_of_ble_eq_true rfl⟩ rfl (Nat.le_of_ble_eq_true rfl) rfl ⟨Nat.le_of_ble_eq_true rfl, Nat.le_of_ble_eq_true rfl⟩ dX3_asHeading_4) (fun x2 M1 => ?_)
  refine xm_l2i hX dX3_asHeading_7 ?_
  exact xm_iret hX dX3_asHeading_8
-- ===== OdometryDesk.angleOfCosine(I)I
theorem dX3_angleOfCosine_0 : decode cX3_angleOfCosine 0 = .ok (.iload_n 0, 1) := by decide +kernel
theorem dX3_angleOfCosine_1 : decode cX3_angleOfCosine 1 = .ok (.sipush 9000, 3) := by decide +kernel
theorem dX3_angleOfCosine_4 : decode cX3_angleOfCosine 4 = .ok (.iadd, 1) := by decide +kernel
theorem dX3_angleOfCosine_5 : decode cX3_angleOfCosine 5 = .ok (.ldc 241, 2) := by decide +kernel
theorem dX3_angleOfCosine_7 : decode cX3_angleOfCosine 7 = .ok (.irem, 1) := by decide +kernel
theorem dX3_angleOfCosine_8 : decode cX3_angleOfCosine 8 = .ok (.ireturn, 1) := by decide +kernel
abbrev wX3_angleOfCosine : List Cond := .code yX3_angleOfCosine cX3_angleOfCosine 1 (some .int) :: lw_gd
theorem hdX3_angleOfCosine : (yX3_angleOfCosine.cls ≠ "java/lang/invoke/MethodHandle" ∧ yX3_angleOfCosine.cls ≠ "java/lang/invoke/VarHandle" ∧ (parseMethodDescriptor yX3_angleOfCosine.desc).map (fun d => d.parameters.length) = some 1) := by decide +kernel
def fX3_angleOfCosine  (a0 : Int32) (M : xm_M) : Option (Int32 × xm_M) :=
  some ((a0 + (9000 : Int32)) - (a0 + (9000 : Int32)) / (36000 : Int32) * (36000 : Int32), M)
set_option maxRecDepth 20000 in
theorem kX3_angleOfCosine {l : Launch} {L : List xm_Sh} (hL : xm_pre L)   (a0 : Int32) (M : xm_M) : xm_C l yX3_angleOfCosine wX3_angleOfCosine ({ frames := 0, cells := 0, slots := 0, locals := 0 }) L (fun g => [.int a0]) M xm_Fi (fX3_angleOfCosine  a0 M) := by
  refine xm_C.of (by decide) rfl (fun g => Nat.le_of_ble_eq_true rfl) ?_
  intro p e s m args below meth c D g A hX
  refine xm_lv (lv' := [(0, .int a0)]) rfl ?_
  unfold fX3_angleOfCosine
  refine xm_iload_n hX 0 dX3_angleOfCosine_0 rfl rfl ?_
  refine xm_sipush hX (v := 9000) rfl dX3_angleOfCosine_1 ?_
  refine xm_iadd hX dX3_angleOfCosine_4 ?_
  refine xm_ldc hX (v := 36000) (List.mem_cons_of_mem _ gm_252) dX3_angleOfCosine_5 ?_
  refine xm_iremL hX (by decide) dX3_angleOfCosine_7 ?_
  exact xm_iret hX dX3_angleOfCosine_8
-- ===== OdometryDesk.sine(I)I
theorem dX3_sine_0 : decode cX3_sine 0 = .ok (.iload_n 0, 1) := by decide +kernel
theorem dX3_sine_1 : decode cX3_sine 1 = .ok (.sipush 18000, 3) := by decide +kernel
theorem dX3_sine_4 : decode cX3_sine 4 = .ok (.if_icmp .le 12, 3) := by decide +kernel
theorem dX3_sine_7 : decode cX3_sine 7 = .ok (.iload_n 0, 1) := by decide +kernel
theorem dX3_sine_8 : decode cX3_sine 8 = .ok (.sipush 18000, 3) := by decide +kernel
theorem dX3_sine_11 : decode cX3_sine 11 = .ok (.isub, 1) := by decide +kernel
theorem dX3_sine_12 : decode cX3_sine 12 = .ok (.i2l, 1) := by decide +kernel
theorem dX3_sine_13 : decode cX3_sine 13 = .ok (.goto 5, 3) := by decide +kernel
theorem dX3_sine_16 : decode cX3_sine 16 = .ok (.iload_n 0, 1) := by decide +kernel
theorem dX3_sine_17 : decode cX3_sine 17 = .ok (.i2l, 1) := by decide +kernel
theorem dX3_sine_18 : decode cX3_sine 18 = .ok (.lstore_n 1, 1) := by decide +kernel
theorem dX3_sine_19 : decode cX3_sine 19 = .ok (.lload_n 1, 1) := by decide +kernel
theorem dX3_sine_20 : decode cX3_sine 20 = .ok (.ldc2_w 231, 3) := by decide +kernel
theorem dX3_sine_23 : decode cX3_sine 23 = .ok (.lload_n 1, 1) := by decide +kernel
theorem dX3_sine_24 : decode cX3_sine 24 = .ok (.lsub, 1) := by decide +kernel
theorem dX3_sine_25 : decode cX3_sine 25 = .ok (.lmul, 1) := by decide +kernel
theorem dX3_sine_26 : decode cX3_sine 26 = .ok (.lstore_n 3, 1) := by decide +kernel
theorem dX3_sine_27 : decode cX3_sine 27 = .ok (.ldc2_w 233, 3) := by decide +kernel
theorem dX3_sine_30 : decode cX3_sine 30 = .ok (.lload_n 3, 1) := by decide +kernel
theorem dX3_sine_31 : decode cX3_sine 31 = .ok (.lmul, 1) := by decide +kernel
theorem dX3_sine_32 : decode cX3_sine 32 = .ok (.ldc2_w 235, 3) := by decide +kernel
theorem dX3_sine_35 : decode cX3_sine 35 = .ok (.lload_n 3, 1) := by decide +kernel
theorem dX3_sine_36 : decode cX3_sine 36 = .ok (.lsub, 1) := by decide +kernel
theorem dX3_sine_37 : decode cX3_sine 37 = .ok (.invokestatic 237, 3) := by decide +kernel
theorem dX3_sine_40 : decode cX3_sine 40 = .ok (.l2i, 1) := by decide +kernel
theorem dX3_sine_41 : decode cX3_sine 41 = .ok (.istore 5, 2) := by decide +kernel
theorem dX3_sine_43 : decode cX3_sine 43 = .ok (.iload_n 0, 1) := by decide +kernel
theorem dX3_sine_44 : decode cX3_sine 44 = .ok (.sipush 18000, 3) := by decide +kernel
theorem dX3_sine_47 : decode cX3_sine 47 = .ok (.if_icmp .le 9, 3) := by decide +kernel
theorem dX3_sine_50 : decode cX3_sine 50 = .ok (.iload 5, 2) := by decide +kernel
theorem dX3_sine_52 : decode cX3_sine 52 = .ok (.ineg, 1) := by decide +kernel
theorem dX3_sine_53 : decode cX3_sine 53 = .ok (.goto 5, 3) := by decide +kernel
theorem dX3_sine_56 : decode cX3_sine 56 = .ok (.iload 5, 2) := by decide +kernel
theorem dX3_sine_58 : decode cX3_sine 58 = .ok (.ireturn, 1) := by decide +kernel
abbrev wX3_sine : List Cond := .code yX3_sine cX3_sine 6 (some .int) :: lw_gd
theorem hdX3_sine : (yX3_sine.cls ≠ "java/lang/invoke/MethodHandle" ∧ yX3_sine.cls ≠ "java/lang/invoke/VarHandle" ∧ (parseMethodDescriptor yX3_sine.desc).map (fun d => d.parameters.length) = some 1) := by decide +kernel
def fX3_sine_18   (b0 : Int32) (s0 : Int64) (M : xm_M) : Option (Int32 × xm_M) :=
  xm_lt (s0 * ((18000 : Int64) - s0)) (fun x1 => xm_bl (fX3_ratio ((4000000 : Int64) * x1) ((405000000 : Int64) - x1) M) (fun x3 M2 => xm_lt (x3.toInt32) (fun x4 => if b0 ≤ (18000 : Int32) then some (x4, M2) else some (-x4, M2))))
set_option maxRecDepth 20000 in
theorem tfX3_sine_18 {p : Program} {l : Launch} {e : Env} {s : State} {m : MethodId} {args : Array Value} {below : List Frame} {meth : Method} {c : Code} {D : va_G} {g : xm_G} {A : Nat → Prop}  {L : List xm_Sh} (hL : xm_pre L) (hX : xm_X p m meth c cX3_sine 6 s args wX3_sine RX3 (some .int) D L g A)    : ∀ (b0 : Int32), ∀ (s0 : Int64), ∀ (M : xm_M), xm_J p l e ({ frames := 1, cells := 0, slots := 0, locals := 23 }) s m args below meth c 6 D L g A (xm_Z below args s D L g A (xm_Fi g)) 18 [(0, .int b0)] [.long s0] M (fX3_sine_18 b0 s0 M) := by
  intro b0 s0 M
  unfold fX3_sine_18
  refine xm_lstore_n hX (lv' := [(1, .long s0), (0, .int b0)]) dX3_sine_18 rfl (by decide) rfl ?_
  refine xm_lload_n hX 0 dX3_sine_19 rfl rfl ?_
  refine xm_ldc2 hX (v := 18000) (List.mem_cons_of_mem _ gm_255) dX3_sine_20 ?_
  refine xm_lload_n hX 0 dX3_sine_23 rfl rfl ?_
  refine xm_lsub hX dX3_sine_24 ?_
  refine xm_lmul hX dX3_sine_25 ?_
  refine xm_nml (fun x1 => ?_)
  refine xm_lstore_n hX (lv' := [(3, .long x1), (1, .long s0), (0, .int b0)]) dX3_sine_26 rfl (by decide) rfl ?_
  refine xm_ldc2 hX (v := 4000000) (List.mem_cons_of_mem _ gm_256) dX3_sine_27 ?_
  refine xm_lload_n hX 0 dX3_sine_30 rfl rfl ?_
  refine xm_lmul hX dX3_sine_31 ?_
  refine xm_ldc2 hX (v := 405000000) (List.mem_cons_of_mem _ gm_257) dX3_sine_32 ?_
  refine xm_lload_n hX 0 dX3_sine_35 rfl rfl ?_
  refine xm_lsub hX dX3_sine_36 ?_
  refine xm_calll hX (xm_runS hX (As := (fun g => [.long ((4000000 : Int64) * x1), .long ((405000000 : Int64) - x1)])) (kX3_ratio hL ((4000000 : Int64) * x1) ((405000000 : Int64) - x1) M) (xm_gS gm_258 gm_229 gm_1 gm_230) rfl ⟨rfl, rfl⟩ hdX3_ratio ⟨Nat.le_of_ble_eq_true rfl, Nat.le_of_ble_eq_true rfl⟩ rfl (Nat.le_of_ble_eq_true rfl) rfl ⟨Nat.le_of_ble_eq_true rfl, Nat.le_of_ble_eq_true rfl⟩ dX3_sine_37) (fun x3 M2 => ?_)
  refine xm_l2i hX dX3_sine_40 ?_
  refine xm_nmi (fun x4 => ?_)
  refine xm_istore hX (lv' := [(5, .int x4), (3, .long x1), (1, .long s0), (0, .int b0)]) dX3_sine_41 (by decide) rfl ?_
  refine xm_iload_n hX 3 dX3_sine_43 rfl rfl ?_
  refine xm_sipush hX (v := 18000) rfl dX3_sine_44 ?_
  refine xm_icmp_le hX (tgt := 56) dX3_sine_47 rfl ?_ ?_
  · refine xm_iload hX 0 dX3_sine_56 rfl ?_
    exact xm_iret hX dX3_sine_58
  · refine xm_iload hX 0 dX3_sine_50 rfl ?_
    refine xm_ineg hX dX3_sine_52 ?_
    refine xm_goto hX (tgt := 58) dX3_sine_53 rfl ?_
    exact xm_iret hX dX3_sine_58
def fX3_sine  (a0 : Int32) (M : xm_M) : Option (Int32 × xm_M) :=
  if a0 ≤ (18000 : Int32) then fX3_sine_18 a0 a0.toInt64 M else fX3_sine_18 a0 ((a0 - (18000 : Int32)).toInt64) M
set_option maxRecDepth 20000 in
theorem kX3_sine {l : Launch} {L : List xm_Sh} (hL : xm_pre L)   (a0 : Int32) (M : xm_M) : xm_C l yX3_sine wX3_sine ({ frames := 1, cells := 0, slots := 0, locals := 23 }) L (fun g => [.int a0]) M xm_Fi (fX3_sine  a0 M) := by
  refine xm_C.of (by decide) rfl (fun g => Nat.le_of_ble_eq_true rfl) ?_
  intro p e s m args below meth c D g A hX
  refine xm_lv (lv' := [(0, .int a0)]) rfl ?_
  unfold fX3_sine
  refine xm_iload_n hX 0 dX3_sine_0 rfl rfl ?_
  refine xm_sipush hX (v := 18000) rfl dX3_sine_1 ?_
  refine xm_icmp_le hX (tgt := 16) dX3_sine_4 rfl ?_ ?_
  · refine xm_iload_n hX 0 dX3_sine_16 rfl rfl ?_
    refine xm_i2l hX dX3_sine_17 ?_
    exact tfX3_sine_18 hL hX a0 a0.toInt64 M
  · refine xm_iload_n hX 0 dX3_sine_7 rfl rfl ?_
    refine xm_sipush hX (v := 18000) rfl dX3_sine_8 ?_
    refine xm_isub hX dX3_sine_11 ?_
    refine xm_i2l hX dX3_sine_12 ?_
    refine xm_goto hX (tgt := 18) dX3_sine_13 rfl ?_
    exact tfX3_sine_18 hL hX a0 ((a0 - (18000 : Int32)).toInt64) M
-- ===== OdometryDesk$Way.move()V ['49']
theorem dX2_move_0 : decode cX2_move 0 = .ok (.aload_n 0, 1) := by decide +kernel
theorem dX2_move_1 : decode cX2_move 1 = .ok (.getfield 41, 3) := by decide +kernel
theorem dX2_move_4 : decode cX2_move 4 = .ok (.i2l, 1) := by decide +kernel
theorem dX2_move_5 : decode cX2_move 5 = .ok (.aload_n 0, 1) := by decide +kernel
theorem dX2_move_6 : decode cX2_move 6 = .ok (.getfield 136, 3) := by decide +kernel
theorem dX2_move_9 : decode cX2_move 9 = .ok (.iconst 2, 1) := by decide +kernel
theorem dX2_move_10 : decode cX2_move 10 = .ok (.idiv, 1) := by decide +kernel
theorem dX2_move_11 : decode cX2_move 11 = .ok (.i2l, 1) := by decide +kernel
theorem dX2_move_12 : decode cX2_move 12 = .ok (.ladd, 1) := by decide +kernel
theorem dX2_move_13 : decode cX2_move 13 = .ok (.invokestatic 159, 3) := by decide +kernel
theorem dX2_move_16 : decode cX2_move 16 = .ok (.bipush 100, 2) := by decide +kernel
theorem dX2_move_18 : decode cX2_move 18 = .ok (.idiv, 1) := by decide +kernel
theorem dX2_move_19 : decode cX2_move 19 = .ok (.istore_n 1, 1) := by decide +kernel
theorem dX2_move_20 : decode cX2_move 20 = .ok (.aload_n 0, 1) := by decide +kernel
theorem dX2_move_21 : decode cX2_move 21 = .ok (.dup, 1) := by decide +kernel
theorem dX2_move_22 : decode cX2_move 22 = .ok (.getfield 29, 3) := by decide +kernel
theorem dX2_move_25 : decode cX2_move 25 = .ok (.aload_n 0, 1) := by decide +kernel
theorem dX2_move_26 : decode cX2_move 26 = .ok (.getfield 139, 3) := by decide +kernel
theorem dX2_move_29 : decode cX2_move 29 = .ok (.i2l, 1) := by decide +kernel
theorem dX2_move_30 : decode cX2_move 30 = .ok (.iload_n 1, 1) := by decide +kernel
theorem dX2_move_31 : decode cX2_move 31 = .ok (.invokestatic 163, 3) := by decide +kernel
theorem dX2_move_34 : decode cX2_move 34 = .ok (.invokestatic 166, 3) := by decide +kernel
theorem dX2_move_37 : decode cX2_move 37 = .ok (.i2l, 1) := by decide +kernel
theorem dX2_move_38 : decode cX2_move 38 = .ok (.lmul, 1) := by decide +kernel
theorem dX2_move_39 : decode cX2_move 39 = .ok (.ldc2_w 169, 3) := by decide +kernel
theorem dX2_move_42 : decode cX2_move 42 = .ok (.ldiv, 1) := by decide +kernel
theorem dX2_move_43 : decode cX2_move 43 = .ok (.l2i, 1) := by decide +kernel
theorem dX2_move_44 : decode cX2_move 44 = .ok (.iadd, 1) := by decide +kernel
theorem dX2_move_45 : decode cX2_move 45 = .ok (.putfield 29, 3) := by decide +kernel
theorem dX2_move_48 : decode cX2_move 48 = .ok (.aload_n 0, 1) := by decide +kernel
theorem dX2_move_49 : decode cX2_move 49 = .ok (.dup, 1) := by decide +kernel
theorem dX2_move_50 : decode cX2_move 50 = .ok (.getfield 35, 3) := by decide +kernel
theorem dX2_move_53 : decode cX2_move 53 = .ok (.aload_n 0, 1) := by decide +kernel
theorem dX2_move_54 : decode cX2_move 54 = .ok (.getfield 139, 3) := by decide +kernel
theorem dX2_move_57 : decode cX2_move 57 = .ok (.i2l, 1) := by decide +kernel
theorem dX2_move_58 : decode cX2_move 58 = .ok (.iload_n 1, 1) := by decide +kernel
theorem dX2_move_59 : decode cX2_move 59 = .ok (.invokestatic 166, 3) := by decide +kernel
theorem dX2_move_62 : decode cX2_move 62 = .ok (.i2l, 1) := by decide +kernel
theorem dX2_move_63 : decode cX2_move 63 = .ok (.lmul, 1) := by decide +kernel
theorem dX2_move_64 : decode cX2_move 64 = .ok (.ldc2_w 169, 3) := by decide +kernel
theorem dX2_move_67 : decode cX2_move 67 = .ok (.ldiv, 1) := by decide +kernel
theorem dX2_move_68 : decode cX2_move 68 = .ok (.l2i, 1) := by decide +kernel
theorem dX2_move_69 : decode cX2_move 69 = .ok (.iadd, 1) := by decide +kernel
theorem dX2_move_70 : decode cX2_move 70 = .ok (.putfield 35, 3) := by decide +kernel
theorem dX2_move_73 : decode cX2_move 73 = .ok (.aload_n 0, 1) := by decide +kernel
theorem dX2_move_74 : decode cX2_move 74 = .ok (.aload_n 0, 1) := by decide +kernel
theorem dX2_move_75 : decode cX2_move 75 = .ok (.getfield 41, 3) := by decide +kernel
theorem dX2_move_78 : decode cX2_move 78 = .ok (.i2l, 1) := by decide +kernel
theorem dX2_move_79 : decode cX2_move 79 = .ok (.aload_n 0, 1) := by decide +kernel
theorem dX2_move_80 : decode cX2_move 80 = .ok (.getfield 136, 3) := by decide +kernel
theorem dX2_move_83 : decode cX2_move 83 = .ok (.i2l, 1) := by decide +kernel
theorem dX2_move_84 : decode cX2_move 84 = .ok (.ladd, 1) := by decide +kernel
theorem dX2_move_85 : decode cX2_move 85 = .ok (.invokestatic 159, 3) := by decide +kernel
theorem dX2_move_88 : decode cX2_move 88 = .ok (.putfield 41, 3) := by decide +kernel
theorem dX2_move_91 : decode cX2_move 91 = .ok (.aload_n 0, 1) := by decide +kernel
theorem dX2_move_92 : decode cX2_move 92 = .ok (.dup, 1) := by decide +kernel
theorem dX2_move_93 : decode cX2_move 93 = .ok (.getfield 44, 3) := by decide +kernel
theorem dX2_move_96 : decode cX2_move 96 = .ok (.aload_n 0, 1) := by decide +kernel
theorem dX2_move_97 : decode cX2_move 97 = .ok (.getfield 139, 3) := by decide +kernel
theorem dX2_move_100 : decode cX2_move 100 = .ok (.invokestatic 129, 3) := by decide +kernel
theorem dX2_move_103 : decode cX2_move 103 = .ok (.iadd, 1) := by decide +kernel
theorem dX2_move_104 : decode cX2_move 104 = .ok (.putfield 44, 3) := by decide +kernel
theorem dX2_move_107 : decode cX2_move 107 = .ok (.return_, 1) := by decide +kernel
abbrev wX2_move : List Cond := .code yX2_move cX2_move 2 none :: lw_gd
theorem hdX2_move : (yX2_move.cls ≠ "java/lang/invoke/MethodHandle" ∧ yX2_move.cls ≠ "java/lang/invoke/VarHandle" ∧ (parseMethodDescriptor yX2_move.desc).map (fun d => d.parameters.length) = some 0) := by decide +kernel
def fX2_move   (M : xm_M) : Option xm_M :=
  xm_bi (fX3_asHeading (((M.1 49 5).toInt64) + (((M.1 49 10) / (2 : Int32)).toInt64)) M) (fun x2 M1 => xm_lt (x2 / (100 : Int32)) (fun x3 => xm_bi (fX3_angleOfCosine x3 M1) (fun x5 M4 => xm_bi (fX3_sine x5 M4) (fun x7 M6 => xm_lt (xm_s M6 49 3 ((M1.1 49 3) + (((((M1.1 49 11).toInt64) * x7.toInt64) / (1000000 : Int64)).toInt32))) (fun M8 => xm_bi (fX3_sine x3 M8) (fun x10 M9 => xm_lt (xm_s M9 49 4 ((M8.1 49 4) + (((((M8.1 49 11).toInt64) * x10.toInt64) / (1000000 : Int64)).toInt32))) (fun M11 => xm_bi (fX3_asHeading (((M11.1 49 5).toInt64) + ((M11.1 49 10).toInt64)) M11) (fun x13 M12 => xm_lt (xm_s M12 49 5 x13) (fun M14 => xm_lt (xm_s M14 49 6 ((M14.1 49 6) + (if 0 ≤ (M14.1 49 11) then (M14.1 49 11) else 0 - (M14.1 49 11)))) (fun M15 => some M15))))))))))
set_option maxRecDepth 20000 in
theorem kX2_move {l : Launch} {L : List xm_Sh} (hL : xm_pre L)    (M : xm_M) : xm_C l yX2_move wX2_move ({ frames := 2, cells := 0, slots := 0, locals := 48 }) L (fun g => [.ref (g.1 49)]) M xm_Fv (fX2_move   M) := by
  refine xm_C.of (by decide) rfl (fun g => Nat.le_of_ble_eq_true rfl) ?_
  intro p e s m args below meth c D g A hX
  refine xm_lv (lv' := [(0, .ref (g.1 49))]) rfl ?_
  unfold fX2_move
  refine xm_aload_n hX 0 dX2_move_0 rfl rfl ?_
  refine xm_get hX (k := 49) (ci := 2) (j := 5) (C := RX2) (T := TX2) (N := 12) (v := .int (M.1 49 5)) (hL _ _ cL_49) rfl rfl rfl (by decide) (fun z hz => List.mem_cons_of_mem _ (iw_X2 z hz)) (List.mem_cons_of_mem _ gm_83) dX2_move_1 ?_
  refine xm_i2l hX dX2_move_4 ?_
  refine xm_aload_n hX 0 dX2_move_5 rfl rfl ?_
  refine xm_get hX (k := 49) (ci := 2) (j := 10) (C := RX2) (T := TX2) (N := 12) (v := .int (M.1 49 10)) (hL _ _ cL_49) rfl rfl rfl (by decide) (fun z hz => List.mem_cons_of_mem _ (iw_X2 z hz)) (List.mem_cons_of_mem _ gm_92) dX2_move_6 ?_
  refine xm_iconst hX (v := 2) rfl dX2_move_9 ?_
  refine xm_idivL hX (by decide) dX2_move_10 ?_
  refine xm_i2l hX dX2_move_11 ?_
  refine xm_ladd hX dX2_move_12 ?_
  refine xm_calli hX (xm_runSN hX (As := (fun g => [.long (((M.1 49 5).toInt64) + (((M.1 49 10) / (2 : Int32)).toInt64))])) (kX3_asHeading hL (((M.1 49 5).toInt64) + (((M.1 49 10) / (2 : Int32)).toInt64)) M) (xm_gN gm_245) rfl ⟨rfl, rfl⟩ nw_6 (List.mem_cons_of_mem _ gm_1) (List.mem_cons_of_mem _ gm_244) hdX3_asHeading ⟨Nat.le_of_ble_eq_true rfl, Nat.le_of_ble_eq_true rfl⟩ rfl (Nat.le_of_ble_eq_true rfl) rfl ⟨Nat.le_of_ble_eq_true rfl, Nat.le_of_ble_eq_true rfl⟩ dX2_move_13) (fun x2 M1 => ?_)
  refine xm_bipush hX (v := 100) rfl dX2_move_16 ?_
  refine xm_idivL hX (by decide) dX2_move_18 ?_
  refine xm_nmi (fun x3 => ?_)
  refine xm_istore_n hX (lv' := [(1, .int x3), (0, .ref (g.1 49))]) dX2_move_19 rfl (by decide) rfl ?_
  refine xm_aload_n hX 1 dX2_move_20 rfl rfl ?_
  refine xm_dup hX rfl dX2_move_21 ?_
  refine xm_get hX (k := 49) (ci := 2) (j := 3) (C := RX2) (T := TX2) (N := 12) (v := .int (M1.1 49 3)) (hL _ _ cL_49) rfl rfl rfl (by decide) (fun z hz => List.mem_cons_of_mem _ (iw_X2 z hz)) (List.mem_cons_of_mem _ gm_79) dX2_move_22 ?_
  refine xm_aload_n hX 1 dX2_move_25 rfl rfl ?_
  refine xm_get hX (k := 49) (ci := 2) (j := 11) (C := RX2) (T := TX2) (N := 12) (v := .int (M1.1 49 11)) (hL _ _ cL_49) rfl rfl rfl (by decide) (fun z hz => List.mem_cons_of_mem _ (iw_X2 z hz)) (List.mem_cons_of_mem _ gm_93) dX2_move_26 ?_
  refine xm_i2l hX dX2_move_29 ?_
  refine xm_iload_n hX 0 dX2_move_30 rfl rfl ?_
  refine xm_calli hX (xm_runSN hX (As := (fun g => [.int x3])) (kX3_angleOfCosine hL x3 M1) (xm_gN gm_251) rfl ⟨rfl, rfl⟩ nw_7 (List.mem_cons_of_mem _ gm_1) (List.mem_cons_of_mem _ gm_250) hdX3_angleOfCosine ⟨Nat.le_of_ble_eq_true rfl, Nat.le_of_ble_eq_true rfl⟩ rfl (Nat.le_of_ble_eq_true rfl) rfl ⟨Nat.le_of_ble_eq_true rfl, Nat.le_of_ble_eq_true rfl⟩ dX2_move_31) (fun x5 M4 => ?_)
  refine xm_calli hX (xm_runSN hX (As := (fun g => [.int x5])) (kX3_sine hL x5 M4) (xm_gN gm_254) rfl ⟨rfl, rfl⟩ nw_8 (List.mem_cons_of_mem _ gm_1) (List.mem_cons_of_mem _ gm_253) hdX3_sine ⟨Nat.le_of_ble_eq_true rfl, Nat.le_of_ble_eq_true rfl⟩ rfl (Nat.le_of_ble_eq_true rfl) rfl ⟨Nat.le_of_ble_eq_true rfl, Nat.le_of_ble_eq_true rfl⟩ dX2_move_34) (fun x7 M6 => ?_)
  refine xm_i2l hX dX2_move_37 ?_
  refine xm_lmul hX dX2_move_38 ?_
  refine xm_ldc2 hX (v := 1000000) (List.mem_cons_of_mem _ gm_259) dX2_move_39 ?_
  refine xm_ldivL hX (by decide) dX2_move_42 ?_
  refine xm_l2i hX dX2_move_43 ?_
  refine xm_iadd hX dX2_move_44 ?_
  refine xm_puti hX (k := 49) (ci := 2) (j := 3) (C := RX2) (T := TX2) (N := 12) (t0 := tyX2) (hL _ _ cL_49) rfl rfl (by decide) (fun z hz => List.mem_cons_of_mem _ (iw_X2 z hz)) tyX2_ok nmX2 rfl rfl (List.mem_cons_of_mem _ gm_79) dX2_move_45 (fun M8 => ?_)
  refine xm_aload_n hX 1 dX2_move_48 rfl rfl ?_
  refine xm_dup hX rfl dX2_move_49 ?_
  refine xm_get hX (k := 49) (ci := 2) (j := 4) (C := RX2) (T := TX2) (N := 12) (v := .int (M8.1 49 4)) (hL _ _ cL_49) rfl rfl rfl (by decide) (fun z hz => List.mem_cons_of_mem _ (iw_X2 z hz)) (List.mem_cons_of_mem _ gm_81) dX2_move_50 ?_
  refine xm_aload_n hX 1 dX2_move_53 rfl rfl ?_
  refine xm_get hX (k := 49) (ci := 2) (j := 11) (C := RX2) (T := TX2) (N := 12) (v := .int (M8.1 49 11)) (hL _ _ cL_49) rfl rfl rfl (by decide) (fun z hz => List.mem_cons_of_mem _ (iw_X2 z hz)) (List.mem_cons_of_mem _ gm_93) dX2_move_54 ?_
  refine xm_i2l hX dX2_move_57 ?_
  refine xm_iload_n hX 0 dX2_move_58 rfl rfl ?_
  refine xm_calli hX (xm_runSN hX (As := (fun g => [.int x3])) (kX3_sine hL x3 M8) (xm_gN gm_254) rfl ⟨rfl, rfl⟩ nw_8 (List.mem_cons_of_mem _ gm_1) (List.mem_cons_of_mem _ gm_253) hdX3_sine ⟨Nat.le_of_ble_eq_true rfl, Nat.le_of_ble_eq_true rfl⟩ rfl (Nat.le_of_ble_eq_true rfl) rfl ⟨Nat.le_of_ble_eq_true rfl, Nat.le_of_ble_eq_true rfl⟩ dX2_move_59) (fun x10 M9 => ?_)
  refine xm_i2l hX dX2_move_62 ?_
  refine xm_lmul hX dX2_move_63 ?_
  refine xm_ldc2 hX (v := 1000000) (List.mem_cons_of_mem _ gm_259) dX2_move_64 ?_
  refine xm_ldivL hX (by decide) dX2_move_67 ?_
  refine xm_l2i hX dX2_move_68 ?_
  refine xm_iadd hX dX2_move_69 ?_
  refine xm_puti hX (k := 49) (ci := 2) (j := 4) (C := RX2) (T := TX2) (N := 12) (t0 := tyX2) (hL _ _ cL_49) rfl rfl (by decide) (fun z hz => List.mem_cons_of_mem _ (iw_X2 z hz)) tyX2_ok nmX2 rfl rfl (List.mem_cons_of_mem _ gm_81) dX2_move_70 (fun M11 => ?_)
  refine xm_aload_n hX 1 dX2_move_73 rfl rfl ?_
  refine xm_aload_n hX 1 dX2_move_74 rfl rfl ?_
  refine xm_get hX (k := 49) (ci := 2) (j := 5) (C := RX2) (T := TX2) (N := 12) (v := .int (M11.1 49 5)) (hL _ _ cL_49) rfl rfl rfl (by decide) (fun z hz => List.mem_cons_of_mem _ (iw_X2 z hz)) (List.mem_cons_of_mem _ gm_83) dX2_move_75 ?_
  refine xm_i2l hX dX2_move_78 ?_
  refine xm_aload_n hX 1 dX2_move_79 rfl rfl ?_
  refine xm_get hX (k := 49) (ci := 2) (j := 10) (C := RX2) (T := TX2) (N := 12) (v := .int (M11.1 49 10)) (hL _ _ cL_49) rfl rfl rfl (by decide) (fun z hz => List.mem_cons_of_mem _ (iw_X2 z hz)) (List.mem_cons_of_mem _ gm_92) dX2_move_80 ?_
  refine xm_i2l hX dX2_move_83 ?_
  refine xm_ladd hX dX2_move_84 ?_
  refine xm_calli hX (xm_runSN hX (As := (fun g => [.long (((M11.1 49 5).toInt64) + ((M11.1 49 10).toInt64))])) (kX3_asHeading hL (((M11.1 49 5).toInt64) + ((M11.1 49 10).toInt64)) M11) (xm_gN gm_245) rfl ⟨rfl, rfl⟩ nw_6 (List.mem_cons_of_mem _ gm_1) (List.mem_cons_of_mem _ gm_244) hdX3_asHeading ⟨Nat.le_of_ble_eq_true rfl, Nat.le_of_ble_eq_true rfl⟩ rfl (Nat.le_of_ble_eq_true rfl) rfl ⟨Nat.le_of_ble_eq_true rfl, Nat.le_of_ble_eq_true rfl⟩ dX2_move_85) (fun x13 M12 => ?_)
  refine xm_puti hX (k := 49) (ci := 2) (j := 5) (C := RX2) (T := TX2) (N := 12) (t0 := tyX2) (hL _ _ cL_49) rfl rfl (by decide) (fun z hz => List.mem_cons_of_mem _ (iw_X2 z hz)) tyX2_ok nmX2 rfl rfl (List.mem_cons_of_mem _ gm_83) dX2_move_88 (fun M14 => ?_)
  refine xm_aload_n hX 1 dX2_move_91 rfl rfl ?_
  refine xm_dup hX rfl dX2_move_92 ?_
  refine xm_get hX (k := 49) (ci := 2) (j := 6) (C := RX2) (T := TX2) (N := 12) (v := .int (M14.1 49 6)) (hL _ _ cL_49) rfl rfl rfl (by decide) (fun z hz => List.mem_cons_of_mem _ (iw_X2 z hz)) (List.mem_cons_of_mem _ gm_85) dX2_move_93 ?_
  refine xm_aload_n hX 1 dX2_move_96 rfl rfl ?_
  refine xm_get hX (k := 49) (ci := 2) (j := 11) (C := RX2) (T := TX2) (N := 12) (v := .int (M14.1 49 11)) (hL _ _ cL_49) rfl rfl rfl (by decide) (fun z hz => List.mem_cons_of_mem _ (iw_X2 z hz)) (List.mem_cons_of_mem _ gm_93) dX2_move_97 ?_
  refine xm_mabs hX (List.mem_cons_of_mem _ gm_223) (List.mem_cons_of_mem _ gm_224) (List.mem_cons_of_mem _ gm_5) (List.mem_cons_of_mem _ gm_225) (Nat.le_of_ble_eq_true rfl) (Nat.le_of_ble_eq_true rfl) ⟨Nat.le_of_ble_eq_true rfl, Nat.le_of_ble_eq_true rfl⟩ dX2_move_100 ?_
  refine xm_iadd hX dX2_move_103 ?_
  refine xm_puti hX (k := 49) (ci := 2) (j := 6) (C := RX2) (T := TX2) (N := 12) (t0 := tyX2) (hL _ _ cL_49) rfl rfl (by decide) (fun z hz => List.mem_cons_of_mem _ (iw_X2 z hz)) tyX2_ok nmX2 rfl rfl (List.mem_cons_of_mem _ gm_85) dX2_move_104 (fun M15 => ?_)
  exact xm_vret hX dX2_move_107
-- ===== java/lang/Math.floorMod(II)I
theorem dJ9_floorMod_7cf53_0 : decode cJ9_floorMod_7cf53 0 = .ok (.iload_n 0, 1) := by decide +kernel
theorem dJ9_floorMod_7cf53_1 : decode cJ9_floorMod_7cf53 1 = .ok (.iload_n 1, 1) := by decide +kernel
theorem dJ9_floorMod_7cf53_2 : decode cJ9_floorMod_7cf53 2 = .ok (.irem, 1) := by decide +kernel
theorem dJ9_floorMod_7cf53_3 : decode cJ9_floorMod_7cf53 3 = .ok (.istore_n 2, 1) := by decide +kernel
theorem dJ9_floorMod_7cf53_4 : decode cJ9_floorMod_7cf53 4 = .ok (.iload_n 0, 1) := by decide +kernel
theorem dJ9_floorMod_7cf53_5 : decode cJ9_floorMod_7cf53 5 = .ok (.iload_n 1, 1) := by decide +kernel
theorem dJ9_floorMod_7cf53_6 : decode cJ9_floorMod_7cf53 6 = .ok (.ixor, 1) := by decide +kernel
theorem dJ9_floorMod_7cf53_7 : decode cJ9_floorMod_7cf53 7 = .ok (.ifCond .ge 11, 3) := by decide +kernel
theorem dJ9_floorMod_7cf53_10 : decode cJ9_floorMod_7cf53 10 = .ok (.iload_n 2, 1) := by decide +kernel
theorem dJ9_floorMod_7cf53_11 : decode cJ9_floorMod_7cf53 11 = .ok (.ifCond .eq 7, 3) := by decide +kernel
theorem dJ9_floorMod_7cf53_14 : decode cJ9_floorMod_7cf53 14 = .ok (.iload_n 2, 1) := by decide +kernel
theorem dJ9_floorMod_7cf53_15 : decode cJ9_floorMod_7cf53 15 = .ok (.iload_n 1, 1) := by decide +kernel
theorem dJ9_floorMod_7cf53_16 : decode cJ9_floorMod_7cf53 16 = .ok (.iadd, 1) := by decide +kernel
theorem dJ9_floorMod_7cf53_17 : decode cJ9_floorMod_7cf53 17 = .ok (.ireturn, 1) := by decide +kernel
theorem dJ9_floorMod_7cf53_18 : decode cJ9_floorMod_7cf53 18 = .ok (.iload_n 2, 1) := by decide +kernel
theorem dJ9_floorMod_7cf53_19 : decode cJ9_floorMod_7cf53 19 = .ok (.ireturn, 1) := by decide +kernel
abbrev wJ9_floorMod_7cf53 : List Cond := .code yJ9_floorMod_7cf53 cJ9_floorMod_7cf53 3 (some .int) :: lw_gd
theorem hdJ9_floorMod_7cf53 : (yJ9_floorMod_7cf53.cls ≠ "java/lang/invoke/MethodHandle" ∧ yJ9_floorMod_7cf53.cls ≠ "java/lang/invoke/VarHandle" ∧ (parseMethodDescriptor yJ9_floorMod_7cf53.desc).map (fun d => d.parameters.length) = some 2) := by decide +kernel
def fJ9_floorMod_7cf53_18   (b2 : Int32) (M : xm_M) : Option (Int32 × xm_M) :=
  some (b2, M)
set_option maxRecDepth 20000 in
theorem tfJ9_floorMod_7cf53_18 {p : Program} {l : Launch} {e : Env} {s : State} {m : MethodId} {args : Array Value} {below : List Frame} {meth : Method} {c : Code} {D : va_G} {g : xm_G} {A : Nat → Prop}  {L : List xm_Sh} (hL : xm_pre L) (hX : xm_X p m meth c cJ9_floorMod_7cf53 3 s args wJ9_floorMod_7cf53 RJ9 (some .int) D L g A)    : ∀ (b2 : Int32), ∀ (M : xm_M), xm_J p l e ({ frames := 0, cells := 0, slots := 0, locals := 0 }) s m args below meth c 3 D L g A (xm_Z below args s D L g A (xm_Fi g)) 18 [(2, .int b2)] [] M (fJ9_floorMod_7cf53_18 b2 M) := by
  intro b2 M
  unfold fJ9_floorMod_7cf53_18
  refine xm_iload_n hX 0 dJ9_floorMod_7cf53_18 rfl rfl ?_
  exact xm_iret hX dJ9_floorMod_7cf53_19
def fJ9_floorMod_7cf53  (a0 : Int32) (a1 : Int32) (M : xm_M) : Option (Int32 × xm_M) :=
  if a1 = 0 then none else xm_lt (a0 - a0 / a1 * a1) (fun x1 => if 0 ≤ (a0 ^^^ a1) then fJ9_floorMod_7cf53_18 x1 M else if x1 = 0 then fJ9_floorMod_7cf53_18 x1 M else some (x1 + a1, M))
set_option maxRecDepth 20000 in
theorem kJ9_floorMod_7cf53 {l : Launch} {L : List xm_Sh} (hL : xm_pre L)   (a0 : Int32) (a1 : Int32) (M : xm_M) : xm_C l yJ9_floorMod_7cf53 wJ9_floorMod_7cf53 ({ frames := 0, cells := 0, slots := 0, locals := 0 }) L (fun g => [.int a0, .int a1]) M xm_Fi (fJ9_floorMod_7cf53  a0 a1 M) := by
  refine xm_C.ofF (by decide +kernel) rfl (fun g => Nat.le_of_ble_eq_true rfl) ?_
  intro p e s m args below meth c D g A hX
  refine xm_lv (lv' := [(0, .int a0), (1, .int a1)]) rfl ?_
  unfold fJ9_floorMod_7cf53
  refine xm_iload_n hX 0 dJ9_floorMod_7cf53_0 rfl rfl ?_
  refine xm_iload_n hX 1 dJ9_floorMod_7cf53_1 rfl rfl ?_
  refine xm_irem hX dJ9_floorMod_7cf53_2 ?_
  refine xm_nmi (fun x1 => ?_)
  refine xm_istore_n hX (lv' := [(2, .int x1), (0, .int a0), (1, .int a1)]) dJ9_floorMod_7cf53_3 rfl (by decide) rfl ?_
  refine xm_iload_n hX 1 dJ9_floorMod_7cf53_4 rfl rfl ?_
  refine xm_iload_n hX 2 dJ9_floorMod_7cf53_5 rfl rfl ?_
  refine xm_ixor hX dJ9_floorMod_7cf53_6 ?_
  refine xm_if_ge hX (tgt := 18) dJ9_floorMod_7cf53_7 rfl ?_ ?_
  · refine xm_weak [0] (lv' := [(2, .int x1)]) rfl ?_
    exact tfJ9_floorMod_7cf53_18 hL hX x1 M
  · refine xm_iload_n hX 0 dJ9_floorMod_7cf53_10 rfl rfl ?_
    refine xm_if_eq hX (tgt := 18) dJ9_floorMod_7cf53_11 rfl ?_ ?_
    · refine xm_weak [0] (lv' := [(2, .int x1)]) rfl ?_
      exact tfJ9_floorMod_7cf53_18 hL hX x1 M
    · refine xm_iload_n hX 0 dJ9_floorMod_7cf53_14 rfl rfl ?_
      refine xm_iload_n hX 2 dJ9_floorMod_7cf53_15 rfl rfl ?_
      refine xm_iadd hX dJ9_floorMod_7cf53_16 ?_
      exact xm_iret hX dJ9_floorMod_7cf53_17
-- ===== OdometryDesk$Way.offDirection(I)I ['49']
theorem dX2_offDirection_0 : decode cX2_offDirection 0 = .ok (.aload_n 0, 1) := by decide +kernel
theorem dX2_offDirection_1 : decode cX2_offDirection 1 = .ok (.getfield 41, 3) := by decide +kernel
theorem dX2_offDirection_4 : decode cX2_offDirection 4 = .ok (.bipush 100, 2) := by decide +kernel
theorem dX2_offDirection_6 : decode cX2_offDirection 6 = .ok (.iload_n 1, 1) := by decide +kernel
theorem dX2_offDirection_7 : decode cX2_offDirection 7 = .ok (.imul, 1) := by decide +kernel
theorem dX2_offDirection_8 : decode cX2_offDirection 8 = .ok (.isub, 1) := by decide +kernel
theorem dX2_offDirection_9 : decode cX2_offDirection 9 = .ok (.ldc 184, 2) := by decide +kernel
theorem dX2_offDirection_11 : decode cX2_offDirection 11 = .ok (.iadd, 1) := by decide +kernel
theorem dX2_offDirection_12 : decode cX2_offDirection 12 = .ok (.ldc 185, 2) := by decide +kernel
theorem dX2_offDirection_14 : decode cX2_offDirection 14 = .ok (.invokestatic 186, 3) := by decide +kernel
theorem dX2_offDirection_17 : decode cX2_offDirection 17 = .ok (.ldc 184, 2) := by decide +kernel
theorem dX2_offDirection_19 : decode cX2_offDirection 19 = .ok (.isub, 1) := by decide +kernel
theorem dX2_offDirection_20 : decode cX2_offDirection 20 = .ok (.ireturn, 1) := by decide +kernel
abbrev wX2_offDirection : List Cond := .code yX2_offDirection cX2_offDirection 2 (some .int) :: lw_gd
theorem hdX2_offDirection : (yX2_offDirection.cls ≠ "java/lang/invoke/MethodHandle" ∧ yX2_offDirection.cls ≠ "java/lang/invoke/VarHandle" ∧ (parseMethodDescriptor yX2_offDirection.desc).map (fun d => d.parameters.length) = some 1) := by decide +kernel
def fX2_offDirection  (a1 : Int32) (M : xm_M) : Option (Int32 × xm_M) :=
  xm_bi (fJ9_floorMod_7cf53 (((M.1 49 5) - ((100 : Int32) * a1)) + (900000 : Int32)) (1800000 : Int32) M) (fun x2 M1 => some (x2 - (900000 : Int32), M1))
set_option maxRecDepth 20000 in
theorem kX2_offDirection {l : Launch} {L : List xm_Sh} (hL : xm_pre L)   (a1 : Int32) (M : xm_M) : xm_C l yX2_offDirection wX2_offDirection ({ frames := 1, cells := 0, slots := 0, locals := 22 }) L (fun g => [.ref (g.1 49), .int a1]) M xm_Fi (fX2_offDirection  a1 M) := by
  refine xm_C.of (by decide) rfl (fun g => Nat.le_of_ble_eq_true rfl) ?_
  intro p e s m args below meth c D g A hX
  refine xm_lv (lv' := [(0, .ref (g.1 49)), (1, .int a1)]) rfl ?_
  unfold fX2_offDirection
  refine xm_aload_n hX 0 dX2_offDirection_0 rfl rfl ?_
  refine xm_get hX (k := 49) (ci := 2) (j := 5) (C := RX2) (T := TX2) (N := 12) (v := .int (M.1 49 5)) (hL _ _ cL_49) rfl rfl rfl (by decide) (fun z hz => List.mem_cons_of_mem _ (iw_X2 z hz)) (List.mem_cons_of_mem _ gm_83) dX2_offDirection_1 ?_
  refine xm_bipush hX (v := 100) rfl dX2_offDirection_4 ?_
  refine xm_iload_n hX 1 dX2_offDirection_6 rfl rfl ?_
  refine xm_imul hX dX2_offDirection_7 ?_
  refine xm_isub hX dX2_offDirection_8 ?_
  refine xm_ldc hX (v := 900000) (List.mem_cons_of_mem _ gm_266) dX2_offDirection_9 ?_
  refine xm_iadd hX dX2_offDirection_11 ?_
  refine xm_ldc hX (v := 1800000) (List.mem_cons_of_mem _ gm_267) dX2_offDirection_12 ?_
  refine xm_calli hX (xm_runS hX (As := (fun g => [.int (((M.1 49 5) - ((100 : Int32) * a1)) + (900000 : Int32)), .int (1800000 : Int32)])) (kJ9_floorMod_7cf53 hL (((M.1 49 5) - ((100 : Int32) * a1)) + (900000 : Int32)) (1800000 : Int32) M) (xm_gS gm_268 gm_269 gm_5 gm_270) rfl ⟨rfl, rfl⟩ hdJ9_floorMod_7cf53 ⟨Nat.le_of_ble_eq_true rfl, Nat.le_of_ble_eq_true rfl⟩ rfl (Nat.le_of_ble_eq_true rfl) rfl ⟨Nat.le_of_ble_eq_true rfl, Nat.le_of_ble_eq_true rfl⟩ dX2_offDirection_14) (fun x2 M1 => ?_)
  refine xm_ldc hX (v := 900000) (List.mem_cons_of_mem _ gm_266) dX2_offDirection_17 ?_
  refine xm_isub hX dX2_offDirection_19 ?_
  exact xm_iret hX dX2_offDirection_20
-- ===== OdometryDesk$State.isNear(IIII)Z ['1']
theorem dX1_isNear_0 : decode cX1_isNear 0 = .ok (.iload_n 2, 1) := by decide +kernel
theorem dX1_isNear_1 : decode cX1_isNear 1 = .ok (.aload_n 0, 1) := by decide +kernel
theorem dX1_isNear_2 : decode cX1_isNear 2 = .ok (.getfield 25, 3) := by decide +kernel
theorem dX1_isNear_5 : decode cX1_isNear 5 = .ok (.iconst 0, 1) := by decide +kernel
theorem dX1_isNear_6 : decode cX1_isNear 6 = .ok (.iload_n 1, 1) := by decide +kernel
theorem dX1_isNear_7 : decode cX1_isNear 7 = .ok (.invokestatic 70, 3) := by decide +kernel
theorem dX1_isNear_10 : decode cX1_isNear 10 = .ok (.iload 4, 2) := by decide +kernel
theorem dX1_isNear_12 : decode cX1_isNear 12 = .ok (.isub, 1) := by decide +kernel
theorem dX1_isNear_13 : decode cX1_isNear 13 = .ok (.aload_n 0, 1) := by decide +kernel
theorem dX1_isNear_14 : decode cX1_isNear 14 = .ok (.getfield 25, 3) := by decide +kernel
theorem dX1_isNear_17 : decode cX1_isNear 17 = .ok (.iconst 1, 1) := by decide +kernel
theorem dX1_isNear_18 : decode cX1_isNear 18 = .ok (.iload_n 1, 1) := by decide +kernel
theorem dX1_isNear_19 : decode cX1_isNear 19 = .ok (.invokestatic 70, 3) := by decide +kernel
theorem dX1_isNear_22 : decode cX1_isNear 22 = .ok (.iload 4, 2) := by decide +kernel
theorem dX1_isNear_24 : decode cX1_isNear 24 = .ok (.iadd, 1) := by decide +kernel
theorem dX1_isNear_25 : decode cX1_isNear 25 = .ok (.invokestatic 60, 3) := by decide +kernel
theorem dX1_isNear_28 : decode cX1_isNear 28 = .ok (.ifCond .eq 38, 3) := by decide +kernel
theorem dX1_isNear_31 : decode cX1_isNear 31 = .ok (.iload_n 3, 1) := by decide +kernel
theorem dX1_isNear_32 : decode cX1_isNear 32 = .ok (.aload_n 0, 1) := by decide +kernel
theorem dX1_isNear_33 : decode cX1_isNear 33 = .ok (.getfield 25, 3) := by decide +kernel
theorem dX1_isNear_36 : decode cX1_isNear 36 = .ok (.iconst 2, 1) := by decide +kernel
theorem dX1_isNear_37 : decode cX1_isNear 37 = .ok (.iload_n 1, 1) := by decide +kernel
theorem dX1_isNear_38 : decode cX1_isNear 38 = .ok (.invokestatic 70, 3) := by decide +kernel
theorem dX1_isNear_41 : decode cX1_isNear 41 = .ok (.iload 4, 2) := by decide +kernel
theorem dX1_isNear_43 : decode cX1_isNear 43 = .ok (.isub, 1) := by decide +kernel
theorem dX1_isNear_44 : decode cX1_isNear 44 = .ok (.aload_n 0, 1) := by decide +kernel
theorem dX1_isNear_45 : decode cX1_isNear 45 = .ok (.getfield 25, 3) := by decide +kernel
theorem dX1_isNear_48 : decode cX1_isNear 48 = .ok (.iconst 3, 1) := by decide +kernel
theorem dX1_isNear_49 : decode cX1_isNear 49 = .ok (.iload_n 1, 1) := by decide +kernel
theorem dX1_isNear_50 : decode cX1_isNear 50 = .ok (.invokestatic 70, 3) := by decide +kernel
theorem dX1_isNear_53 : decode cX1_isNear 53 = .ok (.iload 4, 2) := by decide +kernel
theorem dX1_isNear_55 : decode cX1_isNear 55 = .ok (.iadd, 1) := by decide +kernel
theorem dX1_isNear_56 : decode cX1_isNear 56 = .ok (.invokestatic 60, 3) := by decide +kernel
theorem dX1_isNear_59 : decode cX1_isNear 59 = .ok (.ifCond .eq 7, 3) := by decide +kernel
theorem dX1_isNear_62 : decode cX1_isNear 62 = .ok (.iconst 1, 1) := by decide +kernel
theorem dX1_isNear_63 : decode cX1_isNear 63 = .ok (.goto 4, 3) := by decide +kernel
theorem dX1_isNear_66 : decode cX1_isNear 66 = .ok (.iconst 0, 1) := by decide +kernel
theorem dX1_isNear_67 : decode cX1_isNear 67 = .ok (.ireturn, 1) := by decide +kernel
abbrev wX1_isNear : List Cond := .code yX1_isNear cX1_isNear 5 (some .boolean) :: lw_gd
theorem hdX1_isNear : (yX1_isNear.cls ≠ "java/lang/invoke/MethodHandle" ∧ yX1_isNear.cls ≠ "java/lang/invoke/VarHandle" ∧ (parseMethodDescriptor yX1_isNear.desc).map (fun d => d.parameters.length) = some 4) := by decide +kernel
def fX1_isNear  (a1 : Int32) (a2 : Int32) (a3 : Int32) (a4 : Int32) (M : xm_M) : Option (Int32 × xm_M) :=
  xm_bi (fX3_item_ 3 5 4 8 (0 : Int32) a1 M) (fun x2 M1 => xm_bi (fX3_item_ 3 5 4 8 (1 : Int32) a1 M1) (fun x4 M3 => xm_bi (fX3_isWithin a2 (x2 - a4) (x4 + a4) M3) (fun x6 M5 => if x6 = 0 then some ((0 : Int32), M5) else xm_bi (fX3_item_ 3 5 4 8 (2 : Int32) a1 M5) (fun x8 M7 => xm_bi (fX3_item_ 3 5 4 8 (3 : Int32) a1 M7) (fun x10 M9 => xm_bi (fX3_isWithin a3 (x8 - a4) (x10 + a4) M9) (fun x12 M11 => if x12 = 0 then some ((0 : Int32), M11) else some ((1 : Int32), M11)))))))
set_option maxRecDepth 20000 in
theorem kX1_isNear {l : Launch} {L : List xm_Sh} (hL : xm_pre L)   (a1 : Int32) (a2 : Int32) (a3 : Int32) (a4 : Int32) (M : xm_M) : xm_C l yX1_isNear wX1_isNear ({ frames := 1, cells := 0, slots := 0, locals := 22 }) L (fun g => [.ref (g.1 1), .int a1, .int a2, .int a3, .int a4]) M xm_Fi (fX1_isNear  a1 a2 a3 a4 M) := by
  refine xm_C.of (by decide) rfl (fun g => Nat.le_of_ble_eq_true rfl) ?_
  intro p e s m args below meth c D g A hX
  refine xm_lv (lv' := [(0, .ref (g.1 1)), (1, .int a1), (2, .int a2), (3, .int a3), (4, .int a4)]) rfl ?_
  unfold fX1_isNear
  refine xm_iload_n hX 2 dX1_isNear_0 rfl rfl ?_
  refine xm_aload_n hX 0 dX1_isNear_1 rfl rfl ?_
  refine xm_get hX (k := 1) (ci := 1) (j := 1) (C := RX1) (T := TX1) (N := 11) (v := .ref (g.1 3)) (hL _ _ cL_1) rfl rfl rfl (by decide) (fun z hz => List.mem_cons_of_mem _ (iw_X1 z hz)) (List.mem_cons_of_mem _ gm_30) dX1_isNear_2 ?_
  refine xm_iconst hX (v := 0) rfl dX1_isNear_5 ?_
  refine xm_iload_n hX 1 dX1_isNear_6 rfl rfl ?_
  refine xm_calli hX (xm_runSN hX (As := (fun g => [.ref (g.1 3), .int (0 : Int32), .int a1])) (kX3_item_ hL 3 5 4 8 (hL _ _ cL_3) (cL_rowsL_3 hL) (0 : Int32) a1 M) (xm_gN gm_216) rfl ⟨rfl, rfl⟩ nw_1 (List.mem_cons_of_mem _ gm_1) (List.mem_cons_of_mem _ gm_215) hdX3_item_ ⟨Nat.le_of_ble_eq_true rfl, Nat.le_of_ble_eq_true rfl⟩ rfl (Nat.le_of_ble_eq_true rfl) rfl ⟨Nat.le_of_ble_eq_true rfl, Nat.le_of_ble_eq_true rfl⟩ dX1_isNear_7) (fun x2 M1 => ?_)
  refine xm_iload hX 4 dX1_isNear_10 rfl ?_
  refine xm_isub hX dX1_isNear_12 ?_
  refine xm_aload_n hX 0 dX1_isNear_13 rfl rfl ?_
  refine xm_get hX (k := 1) (ci := 1) (j := 1) (C := RX1) (T := TX1) (N := 11) (v := .ref (g.1 3)) (hL _ _ cL_1) rfl rfl rfl (by decide) (fun z hz => List.mem_cons_of_mem _ (iw_X1 z hz)) (List.mem_cons_of_mem _ gm_30) dX1_isNear_14 ?_
  refine xm_iconst hX (v := 1) rfl dX1_isNear_17 ?_
  refine xm_iload_n hX 1 dX1_isNear_18 rfl rfl ?_
  refine xm_calli hX (xm_runSN hX (As := (fun g => [.ref (g.1 3), .int (1 : Int32), .int a1])) (kX3_item_ hL 3 5 4 8 (hL _ _ cL_3) (cL_rowsL_3 hL) (1 : Int32) a1 M1) (xm_gN gm_216) rfl ⟨rfl, rfl⟩ nw_1 (List.mem_cons_of_mem _ gm_1) (List.mem_cons_of_mem _ gm_215) hdX3_item_ ⟨Nat.le_of_ble_eq_true rfl, Nat.le_of_ble_eq_true rfl⟩ rfl (Nat.le_of_ble_eq_true rfl) rfl ⟨Nat.le_of_ble_eq_true rfl, Nat.le_of_ble_eq_true rfl⟩ dX1_isNear_19) (fun x4 M3 => ?_)
  refine xm_iload hX 4 dX1_isNear_22 rfl ?_
  refine xm_iadd hX dX1_isNear_24 ?_
  refine xm_calli hX (xm_runSN hX (As := (fun g => [.int a2, .int (x2 - a4), .int (x4 + a4)])) (kX3_isWithin hL a2 (x2 - a4) (x4 + a4) M3) (xm_gN gm_151) rfl ⟨rfl, rfl⟩ nw_9 (List.mem_cons_of_mem _ gm_1) (List.mem_cons_of_mem _ gm_150) hdX3_isWithin ⟨Nat.le_of_ble_eq_true rfl, Nat.le_of_ble_eq_true rfl⟩ rfl (Nat.le_of_ble_eq_true rfl) rfl ⟨Nat.le_of_ble_eq_true rfl, Nat.le_of_ble_eq_true rfl⟩ dX1_isNear_25) (fun x6 M5 => ?_)
  refine xm_if_eq hX (tgt := 66) dX1_isNear_28 rfl ?_ ?_
  · refine xm_iconst hX (v := 0) rfl dX1_isNear_66 ?_
    exact xm_zretL hX (by decide) dX1_isNear_67
  · refine xm_iload_n hX 3 dX1_isNear_31 rfl rfl ?_
    refine xm_aload_n hX 0 dX1_isNear_32 rfl rfl ?_
    refine xm_get hX (k := 1) (ci := 1) (j := 1) (C := RX1) (T := TX1) (N := 11) (v := .ref (g.1 3)) (hL _ _ cL_1) rfl rfl rfl (by decide) (fun z hz => List.mem_cons_of_mem _ (iw_X1 z hz)) (List.mem_cons_of_mem _ gm_30) dX1_isNear_33 ?_
    refine xm_iconst hX (v := 2) rfl dX1_isNear_36 ?_
    refine xm_iload_n hX 1 dX1_isNear_37 rfl rfl ?_
    refine xm_calli hX (xm_runSN hX (As := (fun g => [.ref (g.1 3), .int (2 : Int32), .int a1])) (kX3_item_ hL 3 5 4 8 (hL _ _ cL_3) (cL_rowsL_3 hL) (2 : Int32) a1 M5) (xm_gN gm_216) rfl ⟨rfl, rfl⟩ nw_1 (List.mem_cons_of_mem _ gm_1) (List.mem_cons_of_mem _ gm_215) hdX3_item_ ⟨Nat.le_of_ble_eq_true rfl, Nat.le_of_ble_eq_true rfl⟩ rfl (Nat.le_of_ble_eq_true rfl) rfl ⟨Nat.le_of_ble_eq_true rfl, Nat.le_of_ble_eq_true rfl⟩ dX1_isNear_38) (fun x8 M7 => ?_)
    refine xm_iload hX 4 dX1_isNear_41 rfl ?_
    refine xm_isub hX dX1_isNear_43 ?_
    refine xm_aload_n hX 0 dX1_isNear_44 rfl rfl ?_
    refine xm_get hX (k := 1) (ci := 1) (j := 1) (C := RX1) (T := TX1) (N := 11) (v := .ref (g.1 3)) (hL _ _ cL_1) rfl rfl rfl (by decide) (fun z hz => List.mem_cons_of_mem _ (iw_X1 z hz)) (List.mem_cons_of_mem _ gm_30) dX1_isNear_45 ?_
    refine xm_iconst hX (v := 3) rfl dX1_isNear_48 ?_
    refine xm_iload_n hX 1 dX1_isNear_49 rfl rfl ?_
    refine xm_calli hX (xm_runSN hX (As := (fun g => [.ref (g.1 3), .int (3 : Int32), .int a1])) (kX3_item_ hL 3 5 4 8 (hL _ _ cL_3) (cL_rowsL_3 hL) (3 : Int32) a1 M7) (xm_gN gm_216) rfl ⟨rfl, rfl⟩ nw_1 (List.mem_cons_of_mem _ gm_1) (List.mem_cons_of_mem _ gm_215) hdX3_item_ ⟨Nat.le_of_ble_eq_true rfl, Nat.le_of_ble_eq_true rfl⟩ rfl (Nat.le_of_ble_eq_true rfl) rfl ⟨Nat.le_of_ble_eq_true rfl, Nat.le_of_ble_eq_true rfl⟩ dX1_isNear_50) (fun x10 M9 => ?_)
    refine xm_iload hX 4 dX1_isNear_53 rfl ?_
    refine xm_iadd hX dX1_isNear_55 ?_
    refine xm_calli hX (xm_runSN hX (As := (fun g => [.int a3, .int (x8 - a4), .int (x10 + a4)])) (kX3_isWithin hL a3 (x8 - a4) (x10 + a4) M9) (xm_gN gm_151) rfl ⟨rfl, rfl⟩ nw_9 (List.mem_cons_of_mem _ gm_1) (List.mem_cons_of_mem _ gm_150) hdX3_isWithin ⟨Nat.le_of_ble_eq_true rfl, Nat.le_of_ble_eq_true rfl⟩ rfl (Nat.le_of_ble_eq_true rfl) rfl ⟨Nat.le_of_ble_eq_true rfl, Nat.le_of_ble_eq_true rfl⟩ dX1_isNear_56) (fun x12 M11 => ?_)
    refine xm_if_eq hX (tgt := 66) dX1_isNear_59 rfl ?_ ?_
    · refine xm_iconst hX (v := 0) rfl dX1_isNear_66 ?_
      exact xm_zretL hX (by decide) dX1_isNear_67
    · refine xm_iconst hX (v := 1) rfl dX1_isNear_62 ?_
      refine xm_goto hX (tgt := 67) dX1_isNear_63 rfl ?_
      exact xm_zretL hX (by decide) dX1_isNear_67
-- ===== OdometryDesk$Way.followCorridor(LOdometryDesk$State;[II)V ['49', '1', 'ps']
theorem dX2_followCorridor_0 : decode cX2_followCorridor 0 = .ok (.iconst 0, 1) := by decide +kernel
theorem dX2_followCorridor_1 : decode cX2_followCorridor 1 = .ok (.istore 4, 2) := by decide +kernel
theorem dX2_followCorridor_3 : decode cX2_followCorridor 3 = .ok (.iload 4, 2) := by decide +kernel
theorem dX2_followCorridor_5 : decode cX2_followCorridor 5 = .ok (.aload_n 1, 1) := by decide +kernel
theorem dX2_followCorridor_6 : decode cX2_followCorridor 6 = .ok (.getfield 171, 3) := by decide +kernel
theorem dX2_followCorridor_9 : decode cX2_followCorridor 9 = .ok (.if_icmp .ge 135, 3) := by decide +kernel
theorem dX2_followCorridor_12 : decode cX2_followCorridor 12 = .ok (.aload_n 0, 1) := by decide +kernel
theorem dX2_followCorridor_13 : decode cX2_followCorridor 13 = .ok (.aload_n 1, 1) := by decide +kernel
theorem dX2_followCorridor_14 : decode cX2_followCorridor 14 = .ok (.getfield 174, 3) := by decide +kernel
theorem dX2_followCorridor_17 : decode cX2_followCorridor 17 = .ok (.iconst 4, 1) := by decide +kernel
theorem dX2_followCorridor_18 : decode cX2_followCorridor 18 = .ok (.iload 4, 2) := by decide +kernel
theorem dX2_followCorridor_20 : decode cX2_followCorridor 20 = .ok (.invokestatic 91, 3) := by decide +kernel
theorem dX2_followCorridor_23 : decode cX2_followCorridor 23 = .ok (.invokevirtual 177, 3) := by decide +kernel
theorem dX2_followCorridor_26 : decode cX2_followCorridor 26 = .ok (.istore 5, 2) := by decide +kernel
theorem dX2_followCorridor_28 : decode cX2_followCorridor 28 = .ok (.aload_n 1, 1) := by decide +kernel
theorem dX2_followCorridor_29 : decode cX2_followCorridor 29 = .ok (.iload 4, 2) := by decide +kernel
theorem dX2_followCorridor_31 : decode cX2_followCorridor 31 = .ok (.aload_n 0, 1) := by decide +kernel
theorem dX2_followCorridor_32 : decode cX2_followCorridor 32 = .ok (.getfield 29, 3) := by decide +kernel
theorem dX2_followCorridor_35 : decode cX2_followCorridor 35 = .ok (.sipush 1000, 3) := by decide +kernel
theorem dX2_followCorridor_38 : decode cX2_followCorridor 38 = .ok (.idiv, 1) := by decide +kernel
theorem dX2_followCorridor_39 : decode cX2_followCorridor 39 = .ok (.aload_n 0, 1) := by decide +kernel
theorem dX2_followCorridor_40 : decode cX2_followCorridor 40 = .ok (.getfield 35, 3) := by decide +kernel
theorem dX2_followCorridor_43 : decode cX2_followCorridor 43 = .ok (.sipush 1000, 3) := by decide +kernel
theorem dX2_followCorridor_46 : decode cX2_followCorridor 46 = .ok (.idiv, 1) := by decide +kernel
theorem dX2_followCorridor_47 : decode cX2_followCorridor 47 = .ok (.aload_n 2, 1) := by decide +kernel
theorem dX2_followCorridor_48 : decode cX2_followCorridor 48 = .ok (.bipush 7, 2) := by decide +kernel
theorem dX2_followCorridor_50 : decode cX2_followCorridor 50 = .ok (.invokestatic 113, 3) := by decide +kernel
theorem dX2_followCorridor_53 : decode cX2_followCorridor 53 = .ok (.invokevirtual 180, 3) := by decide +kernel
theorem dX2_followCorridor_56 : decode cX2_followCorridor 56 = .ok (.ifCond .eq 82, 3) := by decide +kernel
theorem dX2_followCorridor_59 : decode cX2_followCorridor 59 = .ok (.iload 5, 2) := by decide +kernel
theorem dX2_followCorridor_61 : decode cX2_followCorridor 61 = .ok (.invokestatic 129, 3) := by decide +kernel
theorem dX2_followCorridor_64 : decode cX2_followCorridor 64 = .ok (.aload_n 2, 1) := by decide +kernel
theorem dX2_followCorridor_65 : decode cX2_followCorridor 65 = .ok (.bipush 8, 2) := by decide +kernel
theorem dX2_followCorridor_67 : decode cX2_followCorridor 67 = .ok (.invokestatic 113, 3) := by decide +kernel
theorem dX2_followCorridor_70 : decode cX2_followCorridor 70 = .ok (.if_icmp .gt 68, 3) := by decide +kernel
theorem dX2_followCorridor_73 : decode cX2_followCorridor 73 = .ok (.iload 5, 2) := by decide +kernel
theorem dX2_followCorridor_75 : decode cX2_followCorridor 75 = .ok (.aload_n 2, 1) := by decide +kernel
theorem dX2_followCorridor_76 : decode cX2_followCorridor 76 = .ok (.bipush 6, 2) := by decide +kernel
theorem dX2_followCorridor_78 : decode cX2_followCorridor 78 = .ok (.invokestatic 113, 3) := by decide +kernel
theorem dX2_followCorridor_81 : decode cX2_followCorridor 81 = .ok (.imul, 1) := by decide +kernel
theorem dX2_followCorridor_82 : decode cX2_followCorridor 82 = .ok (.bipush 100, 2) := by decide +kernel
theorem dX2_followCorridor_84 : decode cX2_followCorridor 84 = .ok (.idiv, 1) := by decide +kernel
theorem dX2_followCorridor_85 : decode cX2_followCorridor 85 = .ok (.istore 6, 2) := by decide +kernel
theorem dX2_followCorridor_87 : decode cX2_followCorridor 87 = .ok (.aload_n 0, 1) := by decide +kernel
theorem dX2_followCorridor_88 : decode cX2_followCorridor 88 = .ok (.aload_n 0, 1) := by decide +kernel
theorem dX2_followCorridor_89 : decode cX2_followCorridor 89 = .ok (.getfield 41, 3) := by decide +kernel
theorem dX2_followCorridor_92 : decode cX2_followCorridor 92 = .ok (.i2l, 1) := by decide +kernel
theorem dX2_followCorridor_93 : decode cX2_followCorridor 93 = .ok (.iload 6, 2) := by decide +kernel
theorem dX2_followCorridor_95 : decode cX2_followCorridor 95 = .ok (.i2l, 1) := by decide +kernel
theorem dX2_followCorridor_96 : decode cX2_followCorridor 96 = .ok (.lsub, 1) := by decide +kernel
theorem dX2_followCorridor_97 : decode cX2_followCorridor 97 = .ok (.invokestatic 159, 3) := by decide +kernel
theorem dX2_followCorridor_100 : decode cX2_followCorridor 100 = .ok (.putfield 41, 3) := by decide +kernel
theorem dX2_followCorridor_103 : decode cX2_followCorridor 103 = .ok (.aload_n 0, 1) := by decide +kernel
theorem dX2_followCorridor_104 : decode cX2_followCorridor 104 = .ok (.dup, 1) := by decide +kernel
theorem dX2_followCorridor_105 : decode cX2_followCorridor 105 = .ok (.getfield 50, 3) := by decide +kernel
theorem dX2_followCorridor_108 : decode cX2_followCorridor 108 = .ok (.iconst 1, 1) := by decide +kernel
theorem dX2_followCorridor_109 : decode cX2_followCorridor 109 = .ok (.iadd, 1) := by decide +kernel
theorem dX2_followCorridor_110 : decode cX2_followCorridor 110 = .ok (.putfield 50, 3) := by decide +kernel
theorem dX2_followCorridor_113 : decode cX2_followCorridor 113 = .ok (.aload_n 0, 1) := by decide +kernel
theorem dX2_followCorridor_114 : decode cX2_followCorridor 114 = .ok (.getfield 16, 3) := by decide +kernel
theorem dX2_followCorridor_117 : decode cX2_followCorridor 117 = .ok (.bipush 7, 2) := by decide +kernel
theorem dX2_followCorridor_119 : decode cX2_followCorridor 119 = .ok (.iload_n 3, 1) := by decide +kernel
theorem dX2_followCorridor_120 : decode cX2_followCorridor 120 = .ok (.iload 4, 2) := by decide +kernel
theorem dX2_followCorridor_122 : decode cX2_followCorridor 122 = .ok (.invokestatic 109, 3) := by decide +kernel
theorem dX2_followCorridor_125 : decode cX2_followCorridor 125 = .ok (.aload_n 0, 1) := by decide +kernel
theorem dX2_followCorridor_126 : decode cX2_followCorridor 126 = .ok (.getfield 16, 3) := by decide +kernel
theorem dX2_followCorridor_129 : decode cX2_followCorridor 129 = .ok (.bipush 8, 2) := by decide +kernel
theorem dX2_followCorridor_131 : decode cX2_followCorridor 131 = .ok (.iload_n 3, 1) := by decide +kernel
theorem dX2_followCorridor_132 : decode cX2_followCorridor 132 = .ok (.iload 6, 2) := by decide +kernel
theorem dX2_followCorridor_134 : decode cX2_followCorridor 134 = .ok (.invokestatic 109, 3) := by decide +kernel
theorem dX2_followCorridor_137 : decode cX2_followCorridor 137 = .ok (.return_, 1) := by decide +kernel
theorem dX2_followCorridor_138 : decode cX2_followCorridor 138 = .ok (.iinc 4 1, 3) := by decide +kernel
theorem dX2_followCorridor_141 : decode cX2_followCorridor 141 = .ok (.goto (-138), 3) := by decide +kernel
theorem dX2_followCorridor_144 : decode cX2_followCorridor 144 = .ok (.return_, 1) := by decide +kernel
abbrev wX2_followCorridor : List Cond := .code yX2_followCorridor cX2_followCorridor 7 none :: lw_gd
theorem hdX2_followCorridor : (yX2_followCorridor.cls ≠ "java/lang/invoke/MethodHandle" ∧ yX2_followCorridor.cls ≠ "java/lang/invoke/VarHandle" ∧ (parseMethodDescriptor yX2_followCorridor.desc).map (fun d => d.parameters.length) = some 3) := by decide +kernel
def fX2_followCorridor_138 (ps : Nat) (k3 : Int32 → Int32 → xm_M → Option xm_M) (b3 : Int32) (b4 : Int32) (M : xm_M) : Option xm_M :=
  xm_lt (b4 + Int32.ofInt 1) (fun x10 => k3 b3 x10 M)
set_option maxRecDepth 20000 in
theorem tfX2_followCorridor_138 {p : Program} {l : Launch} {e : Env} {s : State} {m : MethodId} {args : Array Value} {below : List Frame} {meth : Method} {c : Code} {D : va_G} {g : xm_G} {A : Nat → Prop} (ps : Nat) {L : List xm_Sh} (hL : xm_pre L) (hX : xm_X p m meth c cX2_followCorridor 7 s args wX2_followCorridor RX2 none D L g A) (hps : L[ps]? = some (.inl (0, .int, 9))) (k3 : Int32 → Int32 → xm_M → Option xm_M) (h3 : ∀ (b3 : Int32), ∀ (b4 : Int32), ∀ (M : xm_M), xm_J p l e ({ frames := 2, cells := 0, slots := 0, locals := 46 }) s m args below meth c 7 D L g A (xm_Z below args s D L g A (xm_Fv g)) 3 [(0, .ref (g.1 49)), (1, .ref (g.1 1)), (2, .ref (g.1 ps)), (3, .int b3), (4, .int b4)] [] M (k3 b3 b4 M)) : ∀ (b3 : Int32), ∀ (b4 : Int32), ∀ (M : xm_M), xm_J p l e ({ frames := 2, cells := 0, slots := 0, locals := 46 }) s m args below meth c 7 D L g A (xm_Z below args s D L g A (xm_Fv g)) 138 [(0, .ref (g.1 49)), (1, .ref (g.1 1)), (2, .ref (g.1 ps)), (3, .int b3), (4, .int b4)] [] M (fX2_followCorridor_138 ps k3 b3 b4 M) := by
  intro b3 b4 M
  unfold fX2_followCorridor_138
  refine xm_iinc hX (lv2 := fun x10 => [(4, .int x10), (0, .ref (g.1 49)), (1, .ref (g.1 1)), (2, .ref (g.1 ps)), (3, .int b3)]) 4 dX2_followCorridor_138 rfl (by decide) (fun _ => rfl) (fun x10 => ?_)
  refine xm_goto hX (tgt := 3) dX2_followCorridor_141 rfl ?_
  refine xm_weak [1, 2, 3, 4, 0] (lv' := [(0, .ref (g.1 49)), (1, .ref (g.1 1)), (2, .ref (g.1 ps)), (3, .int b3), (4, .int x10)]) rfl ?_
  exact h3 b3 x10 M
def fX2_followCorridor_3 (ps : Nat) (k3 : Int32 → Int32 → xm_M → Option xm_M) (b3 : Int32) (b4 : Int32) (M : xm_M) : Option xm_M :=
  if (M.1 1 4) ≤ b4 then some M else xm_bi (fX3_item_ 3 5 4 8 (4 : Int32) b4 M) (fun x3 M2 => xm_bi (fX2_offDirection x3 M2) (fun x5 M4 => xm_bi (fX3_item ps 9 (7 : Int32) M4) (fun x7 M6 => xm_bi (fX1_isNear b4 ((M4.1 49 3) / (1000 : Int32)) ((M4.1 49 4) / (1000 : Int32)) x7 M6) (fun x9 M8 => if x9 = 0 then fX2_followCorridor_138 ps k3 b3 b4 M8 else xm_bi (fX3_item ps 9 (8 : Int32) M8) (fun x12 M11 => if x12 < (if 0 ≤ x5 then x5 else 0 - x5) then fX2_followCorridor_138 ps k3 b3 b4 M11 else xm_bi (fX3_item ps 9 (6 : Int32) M11) (fun x14 M13 => xm_lt ((x5 * x14) / (100 : Int32)) (fun x15 => xm_bi (fX3_asHeading (((M13.1 49 5).toInt64) - x15.toInt64) M13) (fun x17 M16 => xm_lt (xm_s M16 49 5 x17) (fun M18 => xm_lt (xm_s M18 49 8 ((M18.1 49 8) + (1 : Int32))) (fun M19 => xm_bv (fX3_keep_ 56 11 57 120 (7 : Int32) b3 b4 M19) (fun M20 => xm_bv (fX3_keep_ 56 11 57 120 (8 : Int32) b3 x15 M20) (fun M21 => some M21))))))))))))
set_option maxRecDepth 20000 in
theorem tfX2_followCorridor_3 {p : Program} {l : Launch} {e : Env} {s : State} {m : MethodId} {args : Array Value} {below : List Frame} {meth : Method} {c : Code} {D : va_G} {g : xm_G} {A : Nat → Prop} (ps : Nat) {L : List xm_Sh} (hL : xm_pre L) (hX : xm_X p m meth c cX2_followCorridor 7 s args wX2_followCorridor RX2 none D L g A) (hps : L[ps]? = some (.inl (0, .int, 9))) (k3 : Int32 → Int32 → xm_M → Option xm_M) (h3 : ∀ (b3 : Int32), ∀ (b4 : Int32), ∀ (M : xm_M), xm_J p l e ({ frames := 2, cells := 0, slots := 0, locals := 46 }) s m args below meth c 7 D L g A (xm_Z below args s D L g A (xm_Fv g)) 3 [(0, .ref (g.1 49)), (1, .ref (g.1 1)), (2, .ref (g.1 ps)), (3, .int b3), (4, .int b4)] [] M (k3 b3 b4 M)) : ∀ (b3 : Int32), ∀ (b4 : Int32), ∀ (M : xm_M), xm_J p l e ({ frames := 2, cells := 0, slots := 0, locals := 46 }) s m args below meth c 7 D L g A (xm_Z below args s D L g A (xm_Fv g)) 3 [(0, .ref (g.1 49)), (1, .ref (g.1 1)), (2, .ref (g.1 ps)), (3, .int b3), (4, .int b4)] [] M (fX2_followCorridor_3 ps k3 b3 b4 M) := by
  intro b3 b4 M
  unfold fX2_followCorridor_3
  refine xm_iload hX 4 dX2_followCorridor_3 rfl ?_
  refine xm_aload_n hX 1 dX2_followCorridor_5 rfl rfl ?_
  refine xm_get hX (k := 1) (ci := 1) (j := 4) (C := RX1) (T := TX1) (N := 11) (v := .int (M.1 1 4)) (hL _ _ cL_1) rfl rfl rfl (by decide) (fun z hz => List.mem_cons_of_mem _ (iw_X1 z hz)) (List.mem_cons_of_mem _ gm_40) dX2_followCorridor_6 ?_
  refine xm_icmp_ge hX (tgt := 144) dX2_followCorridor_9 rfl ?_ ?_
  · exact xm_vret hX dX2_followCorridor_144
  · refine xm_aload_n hX 0 dX2_followCorridor_12 rfl rfl ?_
    refine xm_aload_n hX 1 dX2_followCorridor_13 rfl rfl ?_
    refine xm_get hX (k := 1) (ci := 1) (j := 1) (C := RX1) (T := TX1) (N := 11) (v := .ref (g.1 3)) (hL _ _ cL_1) rfl rfl rfl (by decide) (fun z hz => List.mem_cons_of_mem _ (iw_X1 z hz)) (List.mem_cons_of_mem _ gm_32) dX2_followCorridor_14 ?_
    refine xm_iconst hX (v := 4) rfl dX2_followCorridor_17 ?_
    refine xm_iload hX 4 dX2_followCorridor_18 rfl ?_
    refine xm_calli hX (xm_runSN hX (As := (fun g => [.ref (g.1 3), .int (4 : Int32), .int b4])) (kX3_item_ hL 3 5 4 8 (hL _ _ cL_3) (cL_rowsL_3 hL) (4 : Int32) b4 M) (xm_gN gm_216) rfl ⟨rfl, rfl⟩ nw_2 (List.mem_cons_of_mem _ gm_1) (List.mem_cons_of_mem _ gm_215) hdX3_item_ ⟨Nat.le_of_ble_eq_true rfl, Nat.le_of_ble_eq_true rfl⟩ rfl (Nat.le_of_ble_eq_true rfl) rfl ⟨Nat.le_of_ble_eq_true rfl, Nat.le_of_ble_eq_true rfl⟩ dX2_followCorridor_20) (fun x3 M2 => ?_)
    refine xm_calli hX (xm_runV hX (k := 49) (ci := 2) (As := (fun g => [.int x3])) (kX2_offDirection hL x3 M2) (hL _ _ cL_49) rfl (xm_gV gm_263 gm_264 gm_507 gm_3 gm_265) rfl ⟨rfl, rfl⟩ ⟨rfl, hdX2_offDirection⟩ ⟨Nat.le_of_ble_eq_true rfl, Nat.le_of_ble_eq_true rfl⟩ rfl (Nat.le_of_ble_eq_true rfl) rfl ⟨Nat.le_of_ble_eq_true rfl, Nat.le_of_ble_eq_true rfl⟩ dX2_followCorridor_23) (fun x5 M4 => ?_)
    refine xm_istore hX (lv' := [(5, .int x5), (0, .ref (g.1 49)), (1, .ref (g.1 1)), (2, .ref (g.1 ps)), (3, .int b3), (4, .int b4)]) dX2_followCorridor_26 (by decide) rfl ?_
    refine xm_aload_n hX 2 dX2_followCorridor_28 rfl rfl ?_
    refine xm_iload hX 5 dX2_followCorridor_29 rfl ?_
    refine xm_aload_n hX 1 dX2_followCorridor_31 rfl rfl ?_
    refine xm_get hX (k := 49) (ci := 2) (j := 3) (C := RX2) (T := TX2) (N := 12) (v := .int (M4.1 49 3)) (hL _ _ cL_49) rfl rfl rfl (by decide) (fun z hz => List.mem_cons_of_mem _ (iw_X2 z hz)) (List.mem_cons_of_mem _ gm_79) dX2_followCorridor_32 ?_
    refine xm_sipush hX (v := 1000) rfl dX2_followCorridor_35 ?_
    refine xm_idivL hX (by decide) dX2_followCorridor_38 ?_
    refine xm_aload_n hX 1 dX2_followCorridor_39 rfl rfl ?_
    refine xm_get hX (k := 49) (ci := 2) (j := 4) (C := RX2) (T := TX2) (N := 12) (v := .int (M4.1 49 4)) (hL _ _ cL_49) rfl rfl rfl (by decide) (fun z hz => List.mem_cons_of_mem _ (iw_X2 z hz)) (List.mem_cons_of_mem _ gm_81) dX2_followCorridor_40 ?_
    refine xm_sipush hX (v := 1000) rfl dX2_followCorridor_43 ?_
    refine xm_idivL hX (by decide) dX2_followCorridor_46 ?_
    refine xm_aload_n hX 3 dX2_followCorridor_47 rfl rfl ?_
    refine xm_bipush hX (v := 7) rfl dX2_followCorridor_48 ?_
    refine xm_calli hX (xm_runSN hX (As := (fun g => [.ref (g.1 ps), .int (7 : Int32)])) (kX3_item hL ps 9 hps (7 : Int32) M4) (xm_gN gm_154) rfl ⟨rfl, rfl⟩ nw_3 (List.mem_cons_of_mem _ gm_1) (List.mem_cons_of_mem _ gm_153) hdX3_item ⟨Nat.le_of_ble_eq_true rfl, Nat.le_of_ble_eq_true rfl⟩ rfl (Nat.le_of_ble_eq_true rfl) rfl ⟨Nat.le_of_ble_eq_true rfl, Nat.le_of_ble_eq_true rfl⟩ dX2_followCorridor_50) (fun x7 M6 => ?_)
    refine xm_calli hX (xm_runV hX (k := 1) (ci := 1) (As := (fun g => [.int b4, .int ((M4.1 49 3) / (1000 : Int32)), .int ((M4.1 49 4) / (1000 : Int32)), .int x7])) (kX1_isNear hL b4 ((M4.1 49 3) / (1000 : Int32)) ((M4.1 49 4) / (1000 : Int32)) x7 M6) (hL _ _ cL_1) rfl (xm_gV gm_271 gm_272 gm_273 gm_2 gm_274) rfl ⟨rfl, rfl⟩ ⟨rfl, hdX1_isNear⟩ ⟨Nat.le_of_ble_eq_true rfl, Nat.le_of_ble_eq_true rfl⟩ rfl (Nat.le_of_ble_eq_true rfl) rfl ⟨Nat.le_of_ble_eq_true rfl, Nat.le_of_ble_eq_true rfl⟩ dX2_followCorridor_53) (fun x9 M8 => ?_)
    refine xm_if_eq hX (tgt := 138) dX2_followCorridor_56 rfl ?_ ?_
    · refine xm_weak [1, 2, 3, 4, 5] (lv' := [(0, .ref (g.1 49)), (1, .ref (g.1 1)), (2, .ref (g.1 ps)), (3, .int b3), (4, .int b4)]) rfl ?_
      exact tfX2_followCorridor_138 ps hL hX hps k3 h3 b3 b4 M8
    · refine xm_iload hX 0 dX2_followCorridor_59 rfl ?_
      refine xm_mabs hX (List.mem_cons_of_mem _ gm_223) (List.mem_cons_of_mem _ gm_224) (List.mem_cons_of_mem _ gm_5) (List.mem_cons_of_mem _ gm_225) (Nat.le_of_ble_eq_true rfl) (Nat.le_of_ble_eq_true rfl) ⟨Nat.le_of_ble_eq_true rfl, Nat.le_of_ble_eq_true rfl⟩ dX2_followCorridor_61 ?_
      refine xm_aload_n hX 3 dX2_followCorridor_64 rfl rfl ?_
      refine xm_bipush hX (v := 8) rfl dX2_followCorridor_65 ?_
      refine xm_calli hX (xm_runSN hX (As := (fun g => [.ref (g.1 ps), .int (8 : Int32)])) (kX3_item hL ps 9 hps (8 : Int32) M8) (xm_gN gm_154) rfl ⟨rfl, rfl⟩ nw_3 (List.mem_cons_of_mem _ gm_1) (List.mem_cons_of_mem _ gm_153) hdX3_item ⟨Nat.le_of_ble_eq_true rfl, Nat.le_of_ble_eq_true rfl⟩ rfl (Nat.le_of_ble_eq_true rfl) rfl ⟨Nat.le_of_ble_eq_true rfl, Nat.le_of_ble_eq_true rfl⟩ dX2_followCorridor_67) (fun x12 M11 => ?_)
      refine xm_icmp_gt hX (tgt := 138) dX2_followCorridor_70 rfl ?_ ?_
      · refine xm_weak [1, 2, 3, 4, 5] (lv' := [(0, .ref (g.1 49)), (1, .ref (g.1 1)), (2, .ref (g.1 ps)), (3, .int b3), (4, .int b4)]) rfl ?_
        exact tfX2_followCorridor_138 ps hL hX hps k3 h3 b3 b4 M11
      · refine xm_iload hX 0 dX2_followCorridor_73 rfl ?_
        refine xm_aload_n hX 3 dX2_followCorridor_75 rfl rfl ?_
        refine xm_bipush hX (v := 6) rfl dX2_followCorridor_76 ?_
        refine xm_calli hX (xm_runSN hX (As := (fun g => [.ref (g.1 ps), .int (6 : Int32)])) (kX3_item hL ps 9 hps (6 : Int32) M11) (xm_gN gm_154) rfl ⟨rfl, rfl⟩ nw_3 (List.mem_cons_of_mem _ gm_1) (List.mem_cons_of_mem _ gm_153) hdX3_item ⟨Nat.le_of_ble_eq_true rfl, Nat.le_of_ble_eq_true rfl⟩ rfl (Nat.le_of_ble_eq_true rfl) rfl ⟨Nat.le_of_ble_eq_true rfl, Nat.le_of_ble_eq_true rfl⟩ dX2_followCorridor_78) (fun x14 M13 => ?_)
        refine xm_imul hX dX2_followCorridor_81 ?_
        refine xm_bipush hX (v := 100) rfl dX2_followCorridor_82 ?_
        refine xm_idivL hX (by decide) dX2_followCorridor_84 ?_
        refine xm_nmi (fun x15 => ?_)
        refine xm_istore hX (lv' := [(6, .int x15), (5, .int x5), (0, .ref (g.1 49)), (1, .ref (g.1 1)), (2, .ref (g.1 ps)), (3, .int b3), (4, .int b4)]) dX2_followCorridor_85 (by decide) rfl ?_
        refine xm_aload_n hX 2 dX2_followCorridor_87 rfl rfl ?_
        refine xm_aload_n hX 2 dX2_followCorridor_88 rfl rfl ?_
        refine xm_get hX (k := 49) (ci := 2) (j := 5) (C := RX2) (T := TX2) (N := 12) (v := .int (M13.1 49 5)) (hL _ _ cL_49) rfl rfl rfl (by decide) (fun z hz => List.mem_cons_of_mem _ (iw_X2 z hz)) (List.mem_cons_of_mem _ gm_83) dX2_followCorridor_89 ?_
        refine xm_i2l hX dX2_followCorridor_92 ?_
        refine xm_iload hX 0 dX2_followCorridor_93 rfl ?_
        refine xm_i2l hX dX2_followCorridor_95 ?_
        refine xm_lsub hX dX2_followCorridor_96 ?_
        refine xm_calli hX (xm_runSN hX (As := (fun g => [.long (((M13.1 49 5).toInt64) - x15.toInt64)])) (kX3_asHeading hL (((M13.1 49 5).toInt64) - x15.toInt64) M13) (xm_gN gm_245) rfl ⟨rfl, rfl⟩ nw_6 (List.mem_cons_of_mem _ gm_1) (List.mem_cons_of_mem _ gm_244) hdX3_asHeading ⟨Nat.le_of_ble_eq_true rfl, Nat.le_of_ble_eq_true rfl⟩ rfl (Nat.le_of_ble_eq_true rfl) rfl ⟨Nat.le_of_ble_eq_true rfl, Nat.le_of_ble_eq_true rfl⟩ dX2_followCorridor_97) (fun x17 M16 => ?_)
        refine xm_puti hX (k := 49) (ci := 2) (j := 5) (C := RX2) (T := TX2) (N := 12) (t0 := tyX2) (hL _ _ cL_49) rfl rfl (by decide) (fun z hz => List.mem_cons_of_mem _ (iw_X2 z hz)) tyX2_ok nmX2 rfl rfl (List.mem_cons_of_mem _ gm_83) dX2_followCorridor_100 (fun M18 => ?_)
        refine xm_aload_n hX 2 dX2_followCorridor_103 rfl rfl ?_
        refine xm_dup hX rfl dX2_followCorridor_104 ?_
        refine xm_get hX (k := 49) (ci := 2) (j := 8) (C := RX2) (T := TX2) (N := 12) (v := .int (M18.1 49 8)) (hL _ _ cL_49) rfl rfl rfl (by decide) (fun z hz => List.mem_cons_of_mem _ (iw_X2 z hz)) (List.mem_cons_of_mem _ gm_88) dX2_followCorridor_105 ?_
        refine xm_iconst hX (v := 1) rfl dX2_followCorridor_108 ?_
        refine xm_iadd hX dX2_followCorridor_109 ?_
        refine xm_puti hX (k := 49) (ci := 2) (j := 8) (C := RX2) (T := TX2) (N := 12) (t0 := tyX2) (hL _ _ cL_49) rfl rfl (by decide) (fun z hz => List.mem_cons_of_mem _ (iw_X2 z hz)) tyX2_ok nmX2 rfl rfl (List.mem_cons_of_mem _ gm_88) dX2_followCorridor_110 (fun M19 => ?_)
        refine xm_aload_n hX 2 dX2_followCorridor_113 rfl rfl ?_
        refine xm_get hX (k := 49) (ci := 2) (j := 1) (C := RX2) (T := TX2) (N := 12) (v := .ref (g.1 56)) (hL _ _ cL_49) rfl rfl rfl (by decide) (fun z hz => List.mem_cons_of_mem _ (iw_X2 z hz)) (List.mem_cons_of_mem _ gm_75) dX2_followCorridor_114 ?_
        refine xm_bipush hX (v := 7) rfl dX2_followCorridor_117 ?_
        refine xm_iload_n hX 5 dX2_followCorridor_119 rfl rfl ?_
        refine xm_iload hX 6 dX2_followCorridor_120 rfl ?_
        refine xm_callv hX (xm_runSN hX (As := (fun g => [.ref (g.1 56), .int (7 : Int32), .int b3, .int b4])) (kX3_keep_ hL 56 11 57 120 (hL _ _ cL_56) (cL_rowsL_56 hL) (7 : Int32) b3 b4 M19) (xm_gN gm_172) rfl ⟨rfl, rfl⟩ nw_0 (List.mem_cons_of_mem _ gm_1) (List.mem_cons_of_mem _ gm_171) hdX3_keep_ ⟨Nat.le_of_ble_eq_true rfl, Nat.le_of_ble_eq_true rfl⟩ rfl (Nat.le_of_ble_eq_true rfl) rfl ⟨Nat.le_of_ble_eq_true rfl, Nat.le_of_ble_eq_true rfl⟩ dX2_followCorridor_122) (fun M20 => ?_)
        refine xm_aload_n hX 2 dX2_followCorridor_125 rfl rfl ?_
        refine xm_get hX (k := 49) (ci := 2) (j := 1) (C := RX2) (T := TX2) (N := 12) (v := .ref (g.1 56)) (hL _ _ cL_49) rfl rfl rfl (by decide) (fun z hz => List.mem_cons_of_mem _ (iw_X2 z hz)) (List.mem_cons_of_mem _ gm_75) dX2_followCorridor_126 ?_
        refine xm_bipush hX (v := 8) rfl dX2_followCorridor_129 ?_
        refine xm_iload_n hX 5 dX2_followCorridor_131 rfl rfl ?_
        refine xm_iload hX 0 dX2_followCorridor_132 rfl ?_
        refine xm_callv hX (xm_runSN hX (As := (fun g => [.ref (g.1 56), .int (8 : Int32), .int b3, .int x15])) (kX3_keep_ hL 56 11 57 120 (hL _ _ cL_56) (cL_rowsL_56 hL) (8 : Int32) b3 x15 M20) (xm_gN gm_172) rfl ⟨rfl, rfl⟩ nw_0 (List.mem_cons_of_mem _ gm_1) (List.mem_cons_of_mem _ gm_171) hdX3_keep_ ⟨Nat.le_of_ble_eq_true rfl, Nat.le_of_ble_eq_true rfl⟩ rfl (Nat.le_of_ble_eq_true rfl) rfl ⟨Nat.le_of_ble_eq_true rfl, Nat.le_of_ble_eq_true rfl⟩ dX2_followCorridor_134) (fun M21 => ?_)
        exact xm_vret hX dX2_followCorridor_137
def fX2_followCorridor_3_it (ps : Nat)  (nq : Nat) : Int32 → Int32 → xm_M → Option xm_M := xm_it (fun kq => fX2_followCorridor_3 ps kq) (fun _ _ _ => none) nq
theorem tfX2_followCorridor_3_it {p : Program} {l : Launch} {e : Env} {s : State} {m : MethodId} {args : Array Value} {below : List Frame} {meth : Method} {c : Code} {D : va_G} {g : xm_G} {A : Nat → Prop} (ps : Nat) {L : List xm_Sh} (hL : xm_pre L) (hX : xm_X p m meth c cX2_followCorridor 7 s args wX2_followCorridor RX2 none D L g A) (hps : L[ps]? = some (.inl (0, .int, 9)))   : ∀ (nq : Nat), ∀ (b3 : Int32), ∀ (b4 : Int32), ∀ (M : xm_M), xm_J p l e ({ frames := 2, cells := 0, slots := 0, locals := 46 }) s m args below meth c 7 D L g A (xm_Z below args s D L g A (xm_Fv g)) 3 [(0, .ref (g.1 49)), (1, .ref (g.1 1)), (2, .ref (g.1 ps)), (3, .int b3), (4, .int b4)] [] M (fX2_followCorridor_3_it ps nq b3 b4 M) := by
  intro nq
  induction nq with
  | zero => exact fun _ _ _ => xm_none
  | succ nq ih => exact tfX2_followCorridor_3 ps hL hX hps _ ih
def fX2_followCorridor (ps : Nat) (a3 : Int32) (M : xm_M) : Option xm_M :=
  xm_lt ((0 : Int32)) (fun x1 => fX2_followCorridor_3_it ps xm_N a3 x1 M)
set_option maxRecDepth 20000 in
theorem kX2_followCorridor {l : Launch} {L : List xm_Sh} (hL : xm_pre L) (ps : Nat) (hps : L[ps]? = some (.inl (0, .int, 9))) (a3 : Int32) (M : xm_M) : xm_C l yX2_followCorridor wX2_followCorridor ({ frames := 2, cells := 0, slots := 0, locals := 46 }) L (fun g => [.ref (g.1 49), .ref (g.1 1), .ref (g.1 ps), .int a3]) M xm_Fv (fX2_followCorridor ps a3 M) := by
  refine xm_C.of (by decide) rfl (fun g => Nat.le_of_ble_eq_true rfl) ?_
  intro p e s m args below meth c D g A hX
  refine xm_lv (lv' := [(0, .ref (g.1 49)), (1, .ref (g.1 1)), (2, .ref (g.1 ps)), (3, .int a3)]) rfl ?_
  unfold fX2_followCorridor
  refine xm_iconst hX (v := 0) rfl dX2_followCorridor_0 ?_
  refine xm_nmi (fun x1 => ?_)
  refine xm_istore hX (lv' := [(4, .int x1), (0, .ref (g.1 49)), (1, .ref (g.1 1)), (2, .ref (g.1 ps)), (3, .int a3)]) dX2_followCorridor_1 (by decide) rfl ?_
  refine xm_weak [1, 2, 3, 4, 0] (lv' := [(0, .ref (g.1 49)), (1, .ref (g.1 1)), (2, .ref (g.1 ps)), (3, .int a3), (4, .int x1)]) rfl ?_
  exact tfX2_followCorridor_3_it ps hL hX hps xm_N a3 x1 M
