section
-- ===== PART A: goes FIRST, ahead of the names: the tables' words, and 'selects' of the private methods out of them =====
/-- a private method of a class that the tables say can be made, by its rows of tables_1 -/
def lw_okq (q : MethodName × Nat) : Prop := (q.1.cls ≠ "java/lang/invoke/MethodHandle" ∧ q.1.cls ≠ "java/lang/invoke/VarHandle") ∧ Cond.instantiable q.1.cls q.2 ∈ tables_1 ∧ Cond.privateMethod q.1 ∈ tables_1 ∧ Cond.instanceMethod q.1 ∈ tables_1
theorem lw_p0 : lw_okq (⟨"OdometryDesk$Way", "keepPose", "(I)V"⟩, 12) := ⟨⟨by decide +kernel, by decide +kernel⟩, List.mem_of_getElem? (i := 87) (by decide +kernel), List.mem_of_getElem? (i := 276) (by decide +kernel), List.mem_of_getElem? (i := 277) (by decide +kernel)⟩
theorem lw_p1 : lw_okq (⟨"OdometryDesk$Way", "meet", "(LOdometryDesk$State;I)V"⟩, 12) := ⟨⟨by decide +kernel, by decide +kernel⟩, List.mem_of_getElem? (i := 87) (by decide +kernel), List.mem_of_getElem? (i := 288) (by decide +kernel), List.mem_of_getElem? (i := 289) (by decide +kernel)⟩
theorem lw_p2 : lw_okq (⟨"OdometryDesk$Way", "keepKind", "(II)V"⟩, 12) := ⟨⟨by decide +kernel, by decide +kernel⟩, List.mem_of_getElem? (i := 87) (by decide +kernel), List.mem_of_getElem? (i := 293) (by decide +kernel), List.mem_of_getElem? (i := 294) (by decide +kernel)⟩
theorem lw_p3 : lw_okq (⟨"OdometryDesk$Way", "go", "(LOdometryDesk$State;[II)V"⟩, 12) := ⟨⟨by decide +kernel, by decide +kernel⟩, List.mem_of_getElem? (i := 87) (by decide +kernel), List.mem_of_getElem? (i := 302) (by decide +kernel), List.mem_of_getElem? (i := 303) (by decide +kernel)⟩
theorem lw_p4 : lw_okq (⟨"OdometryDesk$Way", "weighStep", "([IIJJ)V"⟩, 12) := ⟨⟨by decide +kernel, by decide +kernel⟩, List.mem_of_getElem? (i := 87) (by decide +kernel), List.mem_of_getElem? (i := 309) (by decide +kernel), List.mem_of_getElem? (i := 310) (by decide +kernel)⟩
theorem lw_p5 : lw_okq (⟨"OdometryDesk$Way", "move", "()V"⟩, 12) := ⟨⟨by decide +kernel, by decide +kernel⟩, List.mem_of_getElem? (i := 87) (by decide +kernel), List.mem_of_getElem? (i := 320) (by decide +kernel), List.mem_of_getElem? (i := 321) (by decide +kernel)⟩
theorem lw_p6 : lw_okq (⟨"OdometryDesk$Way", "followCorridor", "(LOdometryDesk$State;[II)V"⟩, 12) := ⟨⟨by decide +kernel, by decide +kernel⟩, List.mem_of_getElem? (i := 87) (by decide +kernel), List.mem_of_getElem? (i := 343) (by decide +kernel), List.mem_of_getElem? (i := 344) (by decide +kernel)⟩
theorem lw_p7 : lw_okq (⟨"OdometryDesk$Way", "offDirection", "(I)I"⟩, 12) := ⟨⟨by decide +kernel, by decide +kernel⟩, List.mem_of_getElem? (i := 87) (by decide +kernel), List.mem_of_getElem? (i := 347) (by decide +kernel), List.mem_of_getElem? (i := 348) (by decide +kernel)⟩
theorem lw_p8 : lw_okq (⟨"OdometryDesk$Way", "firstSightFrom", "(II)I"⟩, 12) := ⟨⟨by decide +kernel, by decide +kernel⟩, List.mem_of_getElem? (i := 87) (by decide +kernel), List.mem_of_getElem? (i := 368) (by decide +kernel), List.mem_of_getElem? (i := 369) (by decide +kernel)⟩
theorem lw_p9 : lw_okq (⟨"OdometryDesk$Way", "lastSightAhead", "(I)I"⟩, 12) := ⟨⟨by decide +kernel, by decide +kernel⟩, List.mem_of_getElem? (i := 87) (by decide +kernel), List.mem_of_getElem? (i := 373) (by decide +kernel), List.mem_of_getElem? (i := 374) (by decide +kernel)⟩
theorem lw_p10 : lw_okq (⟨"OdometryDesk", "errorsWith", "(II)J"⟩, 6) := ⟨⟨by decide +kernel, by decide +kernel⟩, List.mem_of_getElem? (i := 10) (by decide +kernel), List.mem_of_getElem? (i := 405) (by decide +kernel), List.mem_of_getElem? (i := 406) (by decide +kernel)⟩
theorem lw_p11 : lw_okq (⟨"OdometryDesk$Pad", "readNumber", "(II)Z"⟩, 5) := ⟨⟨by decide +kernel, by decide +kernel⟩, List.mem_of_getElem? (i := 139) (by decide +kernel), List.mem_of_getElem? (i := 463) (by decide +kernel), List.mem_of_getElem? (i := 464) (by decide +kernel)⟩
theorem lw_p12 : lw_okq (⟨"OdometryDesk$Pad", "digit", "()I"⟩, 5) := ⟨⟨by decide +kernel, by decide +kernel⟩, List.mem_of_getElem? (i := 139) (by decide +kernel), List.mem_of_getElem? (i := 467) (by decide +kernel), List.mem_of_getElem? (i := 468) (by decide +kernel)⟩
theorem lw_p13 : lw_okq (⟨"OdometryDesk$Pad", "readInteger", "(II)Z"⟩, 5) := ⟨⟨by decide +kernel, by decide +kernel⟩, List.mem_of_getElem? (i := 139) (by decide +kernel), List.mem_of_getElem? (i := 471) (by decide +kernel), List.mem_of_getElem? (i := 472) (by decide +kernel)⟩
theorem lw_p14 : lw_okq (⟨"OdometryDesk", "addRead", "()I"⟩, 6) := ⟨⟨by decide +kernel, by decide +kernel⟩, List.mem_of_getElem? (i := 10) (by decide +kernel), List.mem_of_getElem? (i := 482) (by decide +kernel), List.mem_of_getElem? (i := 483) (by decide +kernel)⟩
theorem lw_p15 : lw_okq (⟨"OdometryDesk", "slotOf", "(I)LOdometryDesk$State;"⟩, 6) := ⟨⟨by decide +kernel, by decide +kernel⟩, List.mem_of_getElem? (i := 10) (by decide +kernel), List.mem_of_getElem? (i := 490) (by decide +kernel), List.mem_of_getElem? (i := 491) (by decide +kernel)⟩
def lw_privs_1 : List (MethodName × Nat) := [(⟨"OdometryDesk$Way", "keepPose", "(I)V"⟩, 12), (⟨"OdometryDesk$Way", "meet", "(LOdometryDesk$State;I)V"⟩, 12), (⟨"OdometryDesk$Way", "keepKind", "(II)V"⟩, 12), (⟨"OdometryDesk$Way", "go", "(LOdometryDesk$State;[II)V"⟩, 12), (⟨"OdometryDesk$Way", "weighStep", "([IIJJ)V"⟩, 12), (⟨"OdometryDesk$Way", "move", "()V"⟩, 12), (⟨"OdometryDesk$Way", "followCorridor", "(LOdometryDesk$State;[II)V"⟩, 12), (⟨"OdometryDesk$Way", "offDirection", "(I)I"⟩, 12), (⟨"OdometryDesk$Way", "firstSightFrom", "(II)I"⟩, 12), (⟨"OdometryDesk$Way", "lastSightAhead", "(I)I"⟩, 12), (⟨"OdometryDesk", "errorsWith", "(II)J"⟩, 6), (⟨"OdometryDesk$Pad", "readNumber", "(II)Z"⟩, 5), (⟨"OdometryDesk$Pad", "digit", "()I"⟩, 5), (⟨"OdometryDesk$Pad", "readInteger", "(II)Z"⟩, 5), (⟨"OdometryDesk", "addRead", "()I"⟩, 6), (⟨"OdometryDesk", "slotOf", "(I)LOdometryDesk$State;"⟩, 6)]
theorem lw_r1 : ∀ q ∈ lw_privs_1, lw_okq q := List.forall_mem_cons.mpr ⟨lw_p0, List.forall_mem_cons.mpr ⟨lw_p1, List.forall_mem_cons.mpr ⟨lw_p2, List.forall_mem_cons.mpr ⟨lw_p3, List.forall_mem_cons.mpr ⟨lw_p4, List.forall_mem_cons.mpr ⟨lw_p5, List.forall_mem_cons.mpr ⟨lw_p6, List.forall_mem_cons.mpr ⟨lw_p7, List.forall_mem_cons.mpr ⟨lw_p8, List.forall_mem_cons.mpr ⟨lw_p9, List.forall_mem_cons.mpr ⟨lw_p10, List.forall_mem_cons.mpr ⟨lw_p11, List.forall_mem_cons.mpr ⟨lw_p12, List.forall_mem_cons.mpr ⟨lw_p13, List.forall_mem_cons.mpr ⟨lw_p14, List.forall_mem_cons.mpr ⟨lw_p15, fun _ h => absurd h List.not_mem_nil⟩⟩⟩⟩⟩⟩⟩⟩⟩⟩⟩⟩⟩⟩⟩⟩
theorem lw_p16 : lw_okq (⟨"OdometryDeskModel", "setting", "(I)I"⟩, 27) := ⟨⟨by decide +kernel, by decide +kernel⟩, List.mem_of_getElem? (i := 506) (by decide +kernel), List.mem_of_getElem? (i := 608) (by decide +kernel), List.mem_of_getElem? (i := 609) (by decide +kernel)⟩
theorem lw_p17 : lw_okq (⟨"OdometryDeskModel", "add", "(IIII)V"⟩, 27) := ⟨⟨by decide +kernel, by decide +kernel⟩, List.mem_of_getElem? (i := 506) (by decide +kernel), List.mem_of_getElem? (i := 639) (by decide +kernel), List.mem_of_getElem? (i := 640) (by decide +kernel)⟩
theorem lw_p18 : lw_okq (⟨"OdometryDeskModel", "startOf", "(I)I"⟩, 27) := ⟨⟨by decide +kernel, by decide +kernel⟩, List.mem_of_getElem? (i := 506) (by decide +kernel), List.mem_of_getElem? (i := 657) (by decide +kernel), List.mem_of_getElem? (i := 658) (by decide +kernel)⟩
theorem lw_p19 : lw_okq (⟨"OdometryDeskModel", "findAll", "()V"⟩, 27) := ⟨⟨by decide +kernel, by decide +kernel⟩, List.mem_of_getElem? (i := 506) (by decide +kernel), List.mem_of_getElem? (i := 661) (by decide +kernel), List.mem_of_getElem? (i := 662) (by decide +kernel)⟩
theorem lw_p20 : lw_okq (⟨"OdometryDeskModel", "ofEntry", "(II)I"⟩, 27) := ⟨⟨by decide +kernel, by decide +kernel⟩, List.mem_of_getElem? (i := 506) (by decide +kernel), List.mem_of_getElem? (i := 665) (by decide +kernel), List.mem_of_getElem? (i := 666) (by decide +kernel)⟩
theorem lw_p21 : lw_okq (⟨"OdometryDeskModel", "findSight", "(I)V"⟩, 27) := ⟨⟨by decide +kernel, by decide +kernel⟩, List.mem_of_getElem? (i := 506) (by decide +kernel), List.mem_of_getElem? (i := 669) (by decide +kernel), List.mem_of_getElem? (i := 670) (by decide +kernel)⟩
theorem lw_p22 : lw_okq (⟨"OdometryDeskModel", "findStep", "(I)V"⟩, 27) := ⟨⟨by decide +kernel, by decide +kernel⟩, List.mem_of_getElem? (i := 506) (by decide +kernel), List.mem_of_getElem? (i := 673) (by decide +kernel), List.mem_of_getElem? (i := 674) (by decide +kernel)⟩
theorem lw_p23 : lw_okq (⟨"OdometryDeskModel", "findPull", "(I)V"⟩, 27) := ⟨⟨by decide +kernel, by decide +kernel⟩, List.mem_of_getElem? (i := 506) (by decide +kernel), List.mem_of_getElem? (i := 698) (by decide +kernel), List.mem_of_getElem? (i := 699) (by decide +kernel)⟩
theorem lw_p24 : lw_okq (⟨"OdometryDeskModel", "isNear", "(I)Z"⟩, 27) := ⟨⟨by decide +kernel, by decide +kernel⟩, List.mem_of_getElem? (i := 506) (by decide +kernel), List.mem_of_getElem? (i := 702) (by decide +kernel), List.mem_of_getElem? (i := 703) (by decide +kernel)⟩
theorem lw_p25 : lw_okq (⟨"OdometryDeskModel", "offOf", "(I)I"⟩, 27) := ⟨⟨by decide +kernel, by decide +kernel⟩, List.mem_of_getElem? (i := 506) (by decide +kernel), List.mem_of_getElem? (i := 706) (by decide +kernel), List.mem_of_getElem? (i := 707) (by decide +kernel)⟩
theorem lw_p26 : lw_okq (⟨"OdometryDeskModel", "spread", "(IZ)I"⟩, 27) := ⟨⟨by decide +kernel, by decide +kernel⟩, List.mem_of_getElem? (i := 506) (by decide +kernel), List.mem_of_getElem? (i := 716) (by decide +kernel), List.mem_of_getElem? (i := 717) (by decide +kernel)⟩
theorem lw_p27 : lw_okq (⟨"OdometryDeskModel", "hasNumber", "(II)Z"⟩, 27) := ⟨⟨by decide +kernel, by decide +kernel⟩, List.mem_of_getElem? (i := 506) (by decide +kernel), List.mem_of_getElem? (i := 724) (by decide +kernel), List.mem_of_getElem? (i := 725) (by decide +kernel)⟩
theorem lw_p28 : lw_okq (⟨"OdometryDeskModel", "toldOf", "(II)I"⟩, 27) := ⟨⟨by decide +kernel, by decide +kernel⟩, List.mem_of_getElem? (i := 506) (by decide +kernel), List.mem_of_getElem? (i := 728) (by decide +kernel), List.mem_of_getElem? (i := 729) (by decide +kernel)⟩
theorem lw_p29 : lw_okq (⟨"OdometryDeskModel", "manyOf", "(I)I"⟩, 27) := ⟨⟨by decide +kernel, by decide +kernel⟩, List.mem_of_getElem? (i := 506) (by decide +kernel), List.mem_of_getElem? (i := 737) (by decide +kernel), List.mem_of_getElem? (i := 738) (by decide +kernel)⟩
theorem lw_p30 : lw_okq (⟨"OdometryDeskModel", "manyPulled", "()I"⟩, 27) := ⟨⟨by decide +kernel, by decide +kernel⟩, List.mem_of_getElem? (i := 506) (by decide +kernel), List.mem_of_getElem? (i := 741) (by decide +kernel), List.mem_of_getElem? (i := 742) (by decide +kernel)⟩
theorem lw_p31 : lw_okq (⟨"OdometryDeskModel", "errorsTold", "()I"⟩, 27) := ⟨⟨by decide +kernel, by decide +kernel⟩, List.mem_of_getElem? (i := 506) (by decide +kernel), List.mem_of_getElem? (i := 745) (by decide +kernel), List.mem_of_getElem? (i := 746) (by decide +kernel)⟩
def lw_privs_2 : List (MethodName × Nat) := [(⟨"OdometryDeskModel", "setting", "(I)I"⟩, 27), (⟨"OdometryDeskModel", "add", "(IIII)V"⟩, 27), (⟨"OdometryDeskModel", "startOf", "(I)I"⟩, 27), (⟨"OdometryDeskModel", "findAll", "()V"⟩, 27), (⟨"OdometryDeskModel", "ofEntry", "(II)I"⟩, 27), (⟨"OdometryDeskModel", "findSight", "(I)V"⟩, 27), (⟨"OdometryDeskModel", "findStep", "(I)V"⟩, 27), (⟨"OdometryDeskModel", "findPull", "(I)V"⟩, 27), (⟨"OdometryDeskModel", "isNear", "(I)Z"⟩, 27), (⟨"OdometryDeskModel", "offOf", "(I)I"⟩, 27), (⟨"OdometryDeskModel", "spread", "(IZ)I"⟩, 27), (⟨"OdometryDeskModel", "hasNumber", "(II)Z"⟩, 27), (⟨"OdometryDeskModel", "toldOf", "(II)I"⟩, 27), (⟨"OdometryDeskModel", "manyOf", "(I)I"⟩, 27), (⟨"OdometryDeskModel", "manyPulled", "()I"⟩, 27), (⟨"OdometryDeskModel", "errorsTold", "()I"⟩, 27)]
theorem lw_r2 : ∀ q ∈ lw_privs_2, lw_okq q := List.forall_mem_cons.mpr ⟨lw_p16, List.forall_mem_cons.mpr ⟨lw_p17, List.forall_mem_cons.mpr ⟨lw_p18, List.forall_mem_cons.mpr ⟨lw_p19, List.forall_mem_cons.mpr ⟨lw_p20, List.forall_mem_cons.mpr ⟨lw_p21, List.forall_mem_cons.mpr ⟨lw_p22, List.forall_mem_cons.mpr ⟨lw_p23, List.forall_mem_cons.mpr ⟨lw_p24, List.forall_mem_cons.mpr ⟨lw_p25, List.forall_mem_cons.mpr ⟨lw_p26, List.forall_mem_cons.mpr ⟨lw_p27, List.forall_mem_cons.mpr ⟨lw_p28, List.forall_mem_cons.mpr ⟨lw_p29, List.forall_mem_cons.mpr ⟨lw_p30, List.forall_mem_cons.mpr ⟨lw_p31, fun _ h => absurd h List.not_mem_nil⟩⟩⟩⟩⟩⟩⟩⟩⟩⟩⟩⟩⟩⟩⟩⟩
theorem lw_p32 : lw_okq (⟨"OdometryDeskModel", "sumOfErrors", "()J"⟩, 27) := ⟨⟨by decide +kernel, by decide +kernel⟩, List.mem_of_getElem? (i := 506) (by decide +kernel), List.mem_of_getElem? (i := 749) (by decide +kernel), List.mem_of_getElem? (i := 750) (by decide +kernel)⟩
theorem lw_p33 : lw_okq (⟨"OdometryDeskModel", "sights", "()I"⟩, 27) := ⟨⟨by decide +kernel, by decide +kernel⟩, List.mem_of_getElem? (i := 506) (by decide +kernel), List.mem_of_getElem? (i := 768) (by decide +kernel), List.mem_of_getElem? (i := 769) (by decide +kernel)⟩
theorem lw_p34 : lw_okq (⟨"OdometryDeskModel", "errorsWith", "(II)J"⟩, 27) := ⟨⟨by decide +kernel, by decide +kernel⟩, List.mem_of_getElem? (i := 506) (by decide +kernel), List.mem_of_getElem? (i := 772) (by decide +kernel), List.mem_of_getElem? (i := 773) (by decide +kernel)⟩
theorem lw_p35 : lw_okq (⟨"OdometryDeskModel", "takeEntry", "()V"⟩, 27) := ⟨⟨by decide +kernel, by decide +kernel⟩, List.mem_of_getElem? (i := 506) (by decide +kernel), List.mem_of_getElem? (i := 793) (by decide +kernel), List.mem_of_getElem? (i := 794) (by decide +kernel)⟩
theorem lw_p36 : lw_okq (⟨"OdometryDeskModel", "next", "()I"⟩, 27) := ⟨⟨by decide +kernel, by decide +kernel⟩, List.mem_of_getElem? (i := 506) (by decide +kernel), List.mem_of_getElem? (i := 797) (by decide +kernel), List.mem_of_getElem? (i := 798) (by decide +kernel)⟩
theorem lw_p37 : lw_okq (⟨"OdometryDeskModel", "takeNumber", "(I)I"⟩, 27) := ⟨⟨by decide +kernel, by decide +kernel⟩, List.mem_of_getElem? (i := 506) (by decide +kernel), List.mem_of_getElem? (i := 801) (by decide +kernel), List.mem_of_getElem? (i := 802) (by decide +kernel)⟩
theorem lw_p38 : lw_okq (⟨"OdometryDeskModel", "takeInteger", "(I)I"⟩, 27) := ⟨⟨by decide +kernel, by decide +kernel⟩, List.mem_of_getElem? (i := 506) (by decide +kernel), List.mem_of_getElem? (i := 805) (by decide +kernel), List.mem_of_getElem? (i := 806) (by decide +kernel)⟩
theorem lw_p39 : lw_okq (⟨"OdometryDeskModel", "need", "(I)V"⟩, 27) := ⟨⟨by decide +kernel, by decide +kernel⟩, List.mem_of_getElem? (i := 506) (by decide +kernel), List.mem_of_getElem? (i := 809) (by decide +kernel), List.mem_of_getElem? (i := 810) (by decide +kernel)⟩
def lw_privs_3 : List (MethodName × Nat) := [(⟨"OdometryDeskModel", "sumOfErrors", "()J"⟩, 27), (⟨"OdometryDeskModel", "sights", "()I"⟩, 27), (⟨"OdometryDeskModel", "errorsWith", "(II)J"⟩, 27), (⟨"OdometryDeskModel", "takeEntry", "()V"⟩, 27), (⟨"OdometryDeskModel", "next", "()I"⟩, 27), (⟨"OdometryDeskModel", "takeNumber", "(I)I"⟩, 27), (⟨"OdometryDeskModel", "takeInteger", "(I)I"⟩, 27), (⟨"OdometryDeskModel", "need", "(I)V"⟩, 27)]
theorem lw_r3 : ∀ q ∈ lw_privs_3, lw_okq q := List.forall_mem_cons.mpr ⟨lw_p32, List.forall_mem_cons.mpr ⟨lw_p33, List.forall_mem_cons.mpr ⟨lw_p34, List.forall_mem_cons.mpr ⟨lw_p35, List.forall_mem_cons.mpr ⟨lw_p36, List.forall_mem_cons.mpr ⟨lw_p37, List.forall_mem_cons.mpr ⟨lw_p38, List.forall_mem_cons.mpr ⟨lw_p39, fun _ h => absurd h List.not_mem_nil⟩⟩⟩⟩⟩⟩⟩⟩
def lw_privs : List (MethodName × Nat) := lw_privs_1 ++ (lw_privs_2 ++ (lw_privs_3))
def lw_tbl : List Cond := k2_sels lw_privs ++ tables_1
theorem lw_privs_ok : ∀ q ∈ lw_privs, lw_okq q := by
  show ∀ q ∈ lw_privs_1 ++ (lw_privs_2 ++ (lw_privs_3)), lw_okq q
  exact List.forall_mem_append.mpr ⟨lw_r1, List.forall_mem_append.mpr ⟨lw_r2, lw_r3⟩⟩
end
section
def RX0 : String := "OdometryDesk$Pad"
def TX0 : u_T := fun k => match k with
  | 0 => ("OdometryDesk$Pad", "signs", "[I", true)
  | 1 => ("OdometryDesk$Pad", "length", "I", false)
  | 2 => ("OdometryDesk$Pad", "at", "I", false)
  | 3 => ("OdometryDesk$Pad", "isSight", "Z", false)
  | _ => ("OdometryDesk$Pad", "numbers", "[I", true)
def tyX0 : Nat → FieldType := fun k => match k with
  | 0 => .array .int
  | 1 => .int
  | 2 => .int
  | 3 => .boolean
  | _ => .array .int
abbrev wsX00 : List Cond := u_ws RX0 TX0 5
theorem nmX0 : ∀ a, a < 5 → ∀ b, b < 5 → a ≠ b → (TX0 a).2.1 ≠ (TX0 b).2.1 := by decide +kernel
theorem tyX0_ok : ∀ k, k < 5 → parseFieldDescriptor (TX0 k).2.2.1 = some (tyX0 k) := by decide +kernel
abbrev cX0_init : ByteArray := prog_2_method_1_code
def yX0_init : MethodName := ⟨RX0, "<init>", "()V"⟩
abbrev cX0_signsIn : ByteArray := prog_2_method_2_code
def yX0_signsIn : MethodName := ⟨RX0, "signsIn", "(J)I"⟩
abbrev cX0_append : ByteArray := prog_2_method_3_code
def yX0_append : MethodName := ⟨RX0, "append", "(JI)V"⟩
abbrev cX0_findFault : ByteArray := prog_2_method_4_code
def yX0_findFault : MethodName := ⟨RX0, "findFault", "()I"⟩
abbrev cX0_readEntry : ByteArray := prog_2_method_5_code
def yX0_readEntry : MethodName := ⟨RX0, "readEntry", "()Z"⟩
abbrev cX0_takes : ByteArray := prog_2_method_6_code
def yX0_takes : MethodName := ⟨RX0, "takes", "(C)Z"⟩
abbrev cX0_readInteger : ByteArray := prog_2_method_7_code
def yX0_readInteger : MethodName := ⟨RX0, "readInteger", "(II)Z"⟩
abbrev cX0_readNumber : ByteArray := prog_2_method_8_code
def yX0_readNumber : MethodName := ⟨RX0, "readNumber", "(II)Z"⟩
abbrev cX0_digit : ByteArray := prog_2_method_9_code
def yX0_digit : MethodName := ⟨RX0, "digit", "()I"⟩
def RX1 : String := "OdometryDesk$State"
def TX1 : u_T := fun k => match k with
  | 0 => ("OdometryDesk$State", "settings", "[I", true)
  | 1 => ("OdometryDesk$State", "corridors", "[[I", true)
  | 2 => ("OdometryDesk$State", "markers", "[[I", true)
  | 3 => ("OdometryDesk$State", "log", "[[I", true)
  | 4 => ("OdometryDesk$State", "corridorCount", "I", false)
  | 5 => ("OdometryDesk$State", "markerCount", "I", false)
  | 6 => ("OdometryDesk$State", "entries", "I", false)
  | 7 => ("OdometryDesk$State", "startX", "I", false)
  | 8 => ("OdometryDesk$State", "startY", "I", false)
  | 9 => ("OdometryDesk$State", "startHeading", "I", false)
  | _ => ("OdometryDesk$State", "isSaved", "Z", false)
def tyX1 : Nat → FieldType := fun k => match k with
  | 0 => .array .int
  | 1 => .array (.array .int)
  | 2 => .array (.array .int)
  | 3 => .array (.array .int)
  | 4 => .int
  | 5 => .int
  | 6 => .int
  | 7 => .int
  | 8 => .int
  | 9 => .int
  | _ => .boolean
abbrev wsX10 : List Cond := u_ws RX1 TX1 11
theorem nmX1 : ∀ a, a < 11 → ∀ b, b < 11 → a ≠ b → (TX1 a).2.1 ≠ (TX1 b).2.1 := by decide +kernel
theorem tyX1_ok : ∀ k, k < 11 → parseFieldDescriptor (TX1 k).2.2.1 = some (tyX1 k) := by decide +kernel
abbrev cX1_init : ByteArray := prog_3_method_1_code
def yX1_init : MethodName := ⟨RX1, "<init>", "()V"⟩
abbrev cX1_takeOver : ByteArray := prog_3_method_2_code
def yX1_takeOver : MethodName := ⟨RX1, "takeOver", "(LOdometryDesk$State;)V"⟩
abbrev cX1_addStep : ByteArray := prog_3_method_3_code
def yX1_addStep : MethodName := ⟨RX1, "addStep", "(III)I"⟩
abbrev cX1_addSight : ByteArray := prog_3_method_4_code
def yX1_addSight : MethodName := ⟨RX1, "addSight", "(I)I"⟩
abbrev cX1_isSight : ByteArray := prog_3_method_5_code
def yX1_isSight : MethodName := ⟨RX1, "isSight", "(I)Z"⟩
abbrev cX1_hasSights : ByteArray := prog_3_method_6_code
def yX1_hasSights : MethodName := ⟨RX1, "hasSights", "()Z"⟩
abbrev cX1_isNear : ByteArray := prog_3_method_7_code
def yX1_isNear : MethodName := ⟨RX1, "isNear", "(IIII)Z"⟩
def RX2 : String := "OdometryDesk$Way"
def TX2 : u_T := fun k => match k with
  | 0 => ("OdometryDesk$Way", "poses", "[[I", true)
  | 1 => ("OdometryDesk$Way", "facts", "[[I", true)
  | 2 => ("OdometryDesk$Way", "kinds", "[I", true)
  | 3 => ("OdometryDesk$Way", "x", "I", false)
  | 4 => ("OdometryDesk$Way", "y", "I", false)
  | 5 => ("OdometryDesk$Way", "heading", "I", false)
  | 6 => ("OdometryDesk$Way", "length", "I", false)
  | 7 => ("OdometryDesk$Way", "bias", "I", false)
  | 8 => ("OdometryDesk$Way", "pulls", "I", false)
  | 9 => ("OdometryDesk$Way", "errors", "J", false)
  | 10 => ("OdometryDesk$Way", "turn", "I", false)
  | _ => ("OdometryDesk$Way", "distance", "I", false)
def tyX2 : Nat → FieldType := fun k => match k with
  | 0 => .array (.array .int)
  | 1 => .array (.array .int)
  | 2 => .array .int
  | 3 => .int
  | 4 => .int
  | 5 => .int
  | 6 => .int
  | 7 => .int
  | 8 => .int
  | 9 => .long
  | 10 => .int
  | _ => .int
abbrev wsX20 : List Cond := u_ws RX2 TX2 12
theorem nmX2 : ∀ a, a < 12 → ∀ b, b < 12 → a ≠ b → (TX2 a).2.1 ≠ (TX2 b).2.1 := by decide +kernel
theorem tyX2_ok : ∀ k, k < 12 → parseFieldDescriptor (TX2 k).2.2.1 = some (tyX2 k) := by decide +kernel
abbrev cX2_init : ByteArray := prog_4_method_1_code
def yX2_init : MethodName := ⟨RX2, "<init>", "()V"⟩
abbrev cX2_follow : ByteArray := prog_4_method_2_code
def yX2_follow : MethodName := ⟨RX2, "follow", "(LOdometryDesk$State;[I)V"⟩
abbrev cX2_toldErrors : ByteArray := prog_4_method_3_code
def yX2_toldErrors : MethodName := ⟨RX2, "toldErrors", "()I"⟩
abbrev cX2_behind : ByteArray := prog_4_method_4_code
def yX2_behind : MethodName := ⟨RX2, "behind", "(II)I"⟩
abbrev cX2_spreadPlace : ByteArray := prog_4_method_5_code
def yX2_spreadPlace : MethodName := ⟨RX2, "spreadPlace", "(III)I"⟩
abbrev cX2_firstSightFrom : ByteArray := prog_4_method_6_code
def yX2_firstSightFrom : MethodName := ⟨RX2, "firstSightFrom", "(II)I"⟩
abbrev cX2_lastSightAhead : ByteArray := prog_4_method_7_code
def yX2_lastSightAhead : MethodName := ⟨RX2, "lastSightAhead", "(I)I"⟩
abbrev cX2_keepPose : ByteArray := prog_4_method_8_code
def yX2_keepPose : MethodName := ⟨RX2, "keepPose", "(I)V"⟩
abbrev cX2_keepKind : ByteArray := prog_4_method_9_code
def yX2_keepKind : MethodName := ⟨RX2, "keepKind", "(II)V"⟩
abbrev cX2_meet : ByteArray := prog_4_method_10_code
def yX2_meet : MethodName := ⟨RX2, "meet", "(LOdometryDesk$State;I)V"⟩
abbrev cX2_go : ByteArray := prog_4_method_11_code
def yX2_go : MethodName := ⟨RX2, "go", "(LOdometryDesk$State;[II)V"⟩
abbrev cX2_weighStep : ByteArray := prog_4_method_12_code
def yX2_weighStep : MethodName := ⟨RX2, "weighStep", "([IIJJ)V"⟩
abbrev cX2_move : ByteArray := prog_4_method_13_code
def yX2_move : MethodName := ⟨RX2, "move", "()V"⟩
abbrev cX2_followCorridor : ByteArray := prog_4_method_14_code
def yX2_followCorridor : MethodName := ⟨RX2, "followCorridor", "(LOdometryDesk$State;[II)V"⟩
abbrev cX2_offDirection : ByteArray := prog_4_method_15_code
def yX2_offDirection : MethodName := ⟨RX2, "offDirection", "(I)I"⟩
def RX3 : String := "OdometryDesk"
def TX3 : u_T := fun k => match k with
  | 0 => ("OdometryDesk", "state", "LOdometryDesk$State;", true)
  | 1 => ("OdometryDesk", "firstSlot", "LOdometryDesk$State;", true)
  | 2 => ("OdometryDesk", "secondSlot", "LOdometryDesk$State;", true)
  | 3 => ("OdometryDesk", "way", "LOdometryDesk$Way;", true)
  | 4 => ("OdometryDesk", "pad", "LOdometryDesk$Pad;", true)
  | _ => ("OdometryDesk", "tried", "[I", true)
def tyX3 : Nat → FieldType := fun k => match k with
  | 0 => .object "OdometryDesk$State"
  | 1 => .object "OdometryDesk$State"
  | 2 => .object "OdometryDesk$State"
  | 3 => .object "OdometryDesk$Way"
  | 4 => .object "OdometryDesk$Pad"
  | _ => .array .int
abbrev wsX30 : List Cond := u_ws RX3 TX3 6
theorem nmX3 : ∀ a, a < 6 → ∀ b, b < 6 → a ≠ b → (TX3 a).2.1 ≠ (TX3 b).2.1 := by decide +kernel
theorem tyX3_ok : ∀ k, k < 6 → parseFieldDescriptor (TX3 k).2.2.1 = some (tyX3 k) := by decide +kernel
abbrev cX3_init : ByteArray := prog_1_method_1_code
def yX3_init : MethodName := ⟨RX3, "<init>", "()V"⟩
abbrev cX3_set : ByteArray := prog_1_method_2_code
def yX3_set : MethodName := ⟨RX3, "set", "(II)I"⟩
abbrev cX3_corridor : ByteArray := prog_1_method_3_code
def yX3_corridor : MethodName := ⟨RX3, "corridor", "(IIIII)I"⟩
abbrev cX3_marker : ByteArray := prog_1_method_4_code
def yX3_marker : MethodName := ⟨RX3, "marker", "(II)I"⟩
abbrev cX3_closeCorridor : ByteArray := prog_1_method_5_code
def yX3_closeCorridor : MethodName := ⟨RX3, "closeCorridor", "()I"⟩
abbrev cX3_begin : ByteArray := prog_1_method_6_code
def yX3_begin : MethodName := ⟨RX3, "begin", "(III)I"⟩
abbrev cX3_step : ByteArray := prog_1_method_7_code
def yX3_step : MethodName := ⟨RX3, "step", "(III)I"⟩
abbrev cX3_see : ByteArray := prog_1_method_8_code
def yX3_see : MethodName := ⟨RX3, "see", "(I)I"⟩
abbrev cX3_cut : ByteArray := prog_1_method_9_code
def yX3_cut : MethodName := ⟨RX3, "cut", "(I)I"⟩
abbrev cX3_pose : ByteArray := prog_1_method_10_code
def yX3_pose : MethodName := ⟨RX3, "pose", "(II)I"⟩
abbrev cX3_about : ByteArray := prog_1_method_11_code
def yX3_about : MethodName := ⟨RX3, "about", "(II)I"⟩
abbrev cX3_count : ByteArray := prog_1_method_12_code
def yX3_count : MethodName := ⟨RX3, "count", "(I)I"⟩
abbrev cX3_wave : ByteArray := prog_1_method_13_code
def yX3_wave : MethodName := ⟨RX3, "wave", "(II)I"⟩
abbrev cX3_ifSet : ByteArray := prog_1_method_14_code
def yX3_ifSet : MethodName := ⟨RX3, "ifSet", "(III)I"⟩
abbrev cX3_bestBase : ByteArray := prog_1_method_15_code
def yX3_bestBase : MethodName := ⟨RX3, "bestBase", "()I"⟩
abbrev cX3_bestTrust : ByteArray := prog_1_method_16_code
def yX3_bestTrust : MethodName := ⟨RX3, "bestTrust", "()I"⟩
abbrev cX3_put : ByteArray := prog_1_method_17_code
def yX3_put : MethodName := ⟨RX3, "put", "(J)I"⟩
abbrev cX3_wipe : ByteArray := prog_1_method_18_code
def yX3_wipe : MethodName := ⟨RX3, "wipe", "()I"⟩
abbrev cX3_fault : ByteArray := prog_1_method_19_code
def yX3_fault : MethodName := ⟨RX3, "fault", "()I"⟩
abbrev cX3_load : ByteArray := prog_1_method_20_code
def yX3_load : MethodName := ⟨RX3, "load", "()I"⟩
abbrev cX3_save : ByteArray := prog_1_method_21_code
def yX3_save : MethodName := ⟨RX3, "save", "(I)I"⟩
abbrev cX3_restore : ByteArray := prog_1_method_22_code
def yX3_restore : MethodName := ⟨RX3, "restore", "(I)I"⟩
abbrev cX3_slotOf : ByteArray := prog_1_method_23_code
def yX3_slotOf : MethodName := ⟨RX3, "slotOf", "(I)LOdometryDesk$State;"⟩
abbrev cX3_addRead : ByteArray := prog_1_method_24_code
def yX3_addRead : MethodName := ⟨RX3, "addRead", "()I"⟩
abbrev cX3_errorsWith : ByteArray := prog_1_method_25_code
def yX3_errorsWith : MethodName := ⟨RX3, "errorsWith", "(II)J"⟩
abbrev cX3_isWithin : ByteArray := prog_1_method_26_code
def yX3_isWithin : MethodName := ⟨RX3, "isWithin", "(III)Z"⟩
abbrev cX3_isPlace : ByteArray := prog_1_method_27_code
def yX3_isPlace : MethodName := ⟨RX3, "isPlace", "(II)Z"⟩
abbrev cX3_isSetting : ByteArray := prog_1_method_28_code
def yX3_isSetting : MethodName := ⟨RX3, "isSetting", "(II)Z"⟩
abbrev cX3_sine : ByteArray := prog_1_method_29_code
def yX3_sine : MethodName := ⟨RX3, "sine", "(I)I"⟩
abbrev cX3_angleOfCosine : ByteArray := prog_1_method_30_code
def yX3_angleOfCosine : MethodName := ⟨RX3, "angleOfCosine", "(I)I"⟩
abbrev cX3_asHeading : ByteArray := prog_1_method_31_code
def yX3_asHeading : MethodName := ⟨RX3, "asHeading", "(J)I"⟩
abbrev cX3_ratio : ByteArray := prog_1_method_32_code
def yX3_ratio : MethodName := ⟨RX3, "ratio", "(JJ)J"⟩
abbrev cX3_item : ByteArray := prog_1_method_33_code
def yX3_item : MethodName := ⟨RX3, "item", "([II)I"⟩
abbrev cX3_keep : ByteArray := prog_1_method_34_code
def yX3_keep : MethodName := ⟨RX3, "keep", "([III)V"⟩
abbrev cX3_item_ : ByteArray := prog_1_method_35_code
def yX3_item_ : MethodName := ⟨RX3, "item", "([[III)I"⟩
abbrev cX3_keep_ : ByteArray := prog_1_method_36_code
def yX3_keep_ : MethodName := ⟨RX3, "keep", "([[IIII)V"⟩
abbrev cX3_copy : ByteArray := prog_1_method_37_code
def yX3_copy : MethodName := ⟨RX3, "copy", "([I[I)V"⟩
abbrev cX3_copy_ : ByteArray := prog_1_method_38_code
def yX3_copy_ : MethodName := ⟨RX3, "copy", "([[I[[I)V"⟩
def RX4 : String := "OdometryDeskModel"
def TX4 : u_T := fun k => match k with
  | 0 => ("OdometryDeskModel", "at", "[I", true)
  | 1 => ("OdometryDeskModel", "slots", "[I", true)
  | 2 => ("OdometryDeskModel", "isSaved", "[Z", true)
  | 3 => ("OdometryDeskModel", "pad", "[I", true)
  | 4 => ("OdometryDeskModel", "padMany", "I", false)
  | 5 => ("OdometryDeskModel", "kind", "[I", true)
  | 6 => ("OdometryDeskModel", "xs", "[I", true)
  | 7 => ("OdometryDeskModel", "ys", "[I", true)
  | 8 => ("OdometryDeskModel", "headings", "[I", true)
  | 9 => ("OdometryDeskModel", "ways", "[I", true)
  | 10 => ("OdometryDeskModel", "biases", "[I", true)
  | 11 => ("OdometryDeskModel", "byWheels", "[I", true)
  | 12 => ("OdometryDeskModel", "turns", "[I", true)
  | 13 => ("OdometryDeskModel", "distances", "[I", true)
  | 14 => ("OdometryDeskModel", "pulledBy", "[I", true)
  | 15 => ("OdometryDeskModel", "pulled", "[I", true)
  | 16 => ("OdometryDeskModel", "errorX", "[I", true)
  | 17 => ("OdometryDeskModel", "errorY", "[I", true)
  | 18 => ("OdometryDeskModel", "x", "I", false)
  | 19 => ("OdometryDeskModel", "y", "I", false)
  | 20 => ("OdometryDeskModel", "goes", "I", false)
  | 21 => ("OdometryDeskModel", "way", "I", false)
  | 22 => ("OdometryDeskModel", "bias", "I", false)
  | 23 => ("OdometryDeskModel", "spot", "I", false)
  | 24 => ("OdometryDeskModel", "isWrong", "Z", false)
  | 25 => ("OdometryDeskModel", "read", "[I", true)
  | _ => ("OdometryDeskModel", "readMany", "I", false)
def tyX4 : Nat → FieldType := fun k => match k with
  | 0 => .array .int
  | 1 => .array .int
  | 2 => .array .boolean
  | 3 => .array .int
  | 4 => .int
  | 5 => .array .int
  | 6 => .array .int
  | 7 => .array .int
  | 8 => .array .int
  | 9 => .array .int
  | 10 => .array .int
  | 11 => .array .int
  | 12 => .array .int
  | 13 => .array .int
  | 14 => .array .int
  | 15 => .array .int
  | 16 => .array .int
  | 17 => .array .int
  | 18 => .int
  | 19 => .int
  | 20 => .int
  | 21 => .int
  | 22 => .int
  | 23 => .int
  | 24 => .boolean
  | 25 => .array .int
  | _ => .int
abbrev wsX40 : List Cond := u_ws RX4 TX4 27
theorem nmX4 : ∀ a, a < 27 → ∀ b, b < 27 → a ≠ b → (TX4 a).2.1 ≠ (TX4 b).2.1 := by decide +kernel
theorem tyX4_ok : ∀ k, k < 27 → parseFieldDescriptor (TX4 k).2.2.1 = some (tyX4 k) := by decide +kernel
abbrev cX4_init : ByteArray := prog_6_method_1_code
def yX4_init : MethodName := ⟨RX4, "<init>", "()V"⟩
abbrev cX4_in : ByteArray := prog_6_method_3_code
def yX4_in : MethodName := ⟨RX4, "in", "(III)Z"⟩
abbrev cX4_isPlace : ByteArray := prog_6_method_4_code
def yX4_isPlace : MethodName := ⟨RX4, "isPlace", "(I)Z"⟩
abbrev cX4_setting : ByteArray := prog_6_method_5_code
def yX4_setting : MethodName := ⟨RX4, "setting", "(I)I"⟩
abbrev cX4_takes : ByteArray := prog_6_method_6_code
def yX4_takes : MethodName := ⟨RX4, "takes", "(II)Z"⟩
abbrev cX4_set : ByteArray := prog_6_method_7_code
def yX4_set : MethodName := ⟨RX4, "set", "(II)I"⟩
abbrev cX4_corridor : ByteArray := prog_6_method_8_code
def yX4_corridor : MethodName := ⟨RX4, "corridor", "(IIIII)I"⟩
abbrev cX4_marker : ByteArray := prog_6_method_9_code
def yX4_marker : MethodName := ⟨RX4, "marker", "(II)I"⟩
abbrev cX4_closeCorridor : ByteArray := prog_6_method_10_code
def yX4_closeCorridor : MethodName := ⟨RX4, "closeCorridor", "()I"⟩
abbrev cX4_begin : ByteArray := prog_6_method_11_code
def yX4_begin : MethodName := ⟨RX4, "begin", "(III)I"⟩
abbrev cX4_add : ByteArray := prog_6_method_12_code
def yX4_add : MethodName := ⟨RX4, "add", "(IIII)V"⟩
abbrev cX4_step : ByteArray := prog_6_method_13_code
def yX4_step : MethodName := ⟨RX4, "step", "(III)I"⟩
abbrev cX4_see : ByteArray := prog_6_method_14_code
def yX4_see : MethodName := ⟨RX4, "see", "(I)I"⟩
abbrev cX4_cut : ByteArray := prog_6_method_15_code
def yX4_cut : MethodName := ⟨RX4, "cut", "(I)I"⟩
abbrev cX4_ofEntry : ByteArray := prog_6_method_16_code
def yX4_ofEntry : MethodName := ⟨RX4, "ofEntry", "(II)I"⟩
abbrev cX4_halfSine : ByteArray := prog_6_method_17_code
def yX4_halfSine : MethodName := ⟨RX4, "halfSine", "(I)I"⟩
abbrev cX4_sine : ByteArray := prog_6_method_18_code
def yX4_sine : MethodName := ⟨RX4, "sine", "(I)I"⟩
abbrev cX4_cosine : ByteArray := prog_6_method_19_code
def yX4_cosine : MethodName := ⟨RX4, "cosine", "(I)I"⟩
abbrev cX4_heading : ByteArray := prog_6_method_20_code
def yX4_heading : MethodName := ⟨RX4, "heading", "(J)I"⟩
abbrev cX4_sizeOf : ByteArray := prog_6_method_21_code
def yX4_sizeOf : MethodName := ⟨RX4, "sizeOf", "(I)I"⟩
abbrev cX4_findAll : ByteArray := prog_6_method_22_code
def yX4_findAll : MethodName := ⟨RX4, "findAll", "()V"⟩
abbrev cX4_findSight : ByteArray := prog_6_method_23_code
def yX4_findSight : MethodName := ⟨RX4, "findSight", "(I)V"⟩
abbrev cX4_findStep : ByteArray := prog_6_method_24_code
def yX4_findStep : MethodName := ⟨RX4, "findStep", "(I)V"⟩
abbrev cX4_isNear : ByteArray := prog_6_method_25_code
def yX4_isNear : MethodName := ⟨RX4, "isNear", "(I)Z"⟩
abbrev cX4_offOf : ByteArray := prog_6_method_26_code
def yX4_offOf : MethodName := ⟨RX4, "offOf", "(I)I"⟩
abbrev cX4_findPull : ByteArray := prog_6_method_27_code
def yX4_findPull : MethodName := ⟨RX4, "findPull", "(I)V"⟩
abbrev cX4_manyOf : ByteArray := prog_6_method_28_code
def yX4_manyOf : MethodName := ⟨RX4, "manyOf", "(I)I"⟩
abbrev cX4_manyPulled : ByteArray := prog_6_method_29_code
def yX4_manyPulled : MethodName := ⟨RX4, "manyPulled", "()I"⟩
abbrev cX4_sumOfErrors : ByteArray := prog_6_method_30_code
def yX4_sumOfErrors : MethodName := ⟨RX4, "sumOfErrors", "()J"⟩
abbrev cX4_errorsTold : ByteArray := prog_6_method_31_code
def yX4_errorsTold : MethodName := ⟨RX4, "errorsTold", "()I"⟩
abbrev cX4_spread : ByteArray := prog_6_method_32_code
def yX4_spread : MethodName := ⟨RX4, "spread", "(IZ)I"⟩
abbrev cX4_startOf : ByteArray := prog_6_method_33_code
def yX4_startOf : MethodName := ⟨RX4, "startOf", "(I)I"⟩
abbrev cX4_pose : ByteArray := prog_6_method_34_code
def yX4_pose : MethodName := ⟨RX4, "pose", "(II)I"⟩
abbrev cX4_hasNumber : ByteArray := prog_6_method_35_code
def yX4_hasNumber : MethodName := ⟨RX4, "hasNumber", "(II)Z"⟩
abbrev cX4_toldOf : ByteArray := prog_6_method_36_code
def yX4_toldOf : MethodName := ⟨RX4, "toldOf", "(II)I"⟩
abbrev cX4_about : ByteArray := prog_6_method_37_code
def yX4_about : MethodName := ⟨RX4, "about", "(II)I"⟩
abbrev cX4_count : ByteArray := prog_6_method_38_code
def yX4_count : MethodName := ⟨RX4, "count", "(I)I"⟩
abbrev cX4_wave : ByteArray := prog_6_method_39_code
def yX4_wave : MethodName := ⟨RX4, "wave", "(II)I"⟩
abbrev cX4_ifSet : ByteArray := prog_6_method_40_code
def yX4_ifSet : MethodName := ⟨RX4, "ifSet", "(III)I"⟩
abbrev cX4_errorsWith : ByteArray := prog_6_method_41_code
def yX4_errorsWith : MethodName := ⟨RX4, "errorsWith", "(II)J"⟩
abbrev cX4_sights : ByteArray := prog_6_method_42_code
def yX4_sights : MethodName := ⟨RX4, "sights", "()I"⟩
abbrev cX4_bestBase : ByteArray := prog_6_method_43_code
def yX4_bestBase : MethodName := ⟨RX4, "bestBase", "()I"⟩
abbrev cX4_bestTrust : ByteArray := prog_6_method_44_code
def yX4_bestTrust : MethodName := ⟨RX4, "bestTrust", "()I"⟩
abbrev cX4_put : ByteArray := prog_6_method_45_code
def yX4_put : MethodName := ⟨RX4, "put", "(J)I"⟩
abbrev cX4_wipe : ByteArray := prog_6_method_46_code
def yX4_wipe : MethodName := ⟨RX4, "wipe", "()I"⟩
abbrev cX4_next : ByteArray := prog_6_method_47_code
def yX4_next : MethodName := ⟨RX4, "next", "()I"⟩
abbrev cX4_takeNumber : ByteArray := prog_6_method_48_code
def yX4_takeNumber : MethodName := ⟨RX4, "takeNumber", "(I)I"⟩
abbrev cX4_takeInteger : ByteArray := prog_6_method_49_code
def yX4_takeInteger : MethodName := ⟨RX4, "takeInteger", "(I)I"⟩
abbrev cX4_need : ByteArray := prog_6_method_50_code
def yX4_need : MethodName := ⟨RX4, "need", "(I)V"⟩
abbrev cX4_takeEntry : ByteArray := prog_6_method_51_code
def yX4_takeEntry : MethodName := ⟨RX4, "takeEntry", "()V"⟩
abbrev cX4_fault : ByteArray := prog_6_method_52_code
def yX4_fault : MethodName := ⟨RX4, "fault", "()I"⟩
abbrev cX4_load : ByteArray := prog_6_method_53_code
def yX4_load : MethodName := ⟨RX4, "load", "()I"⟩
abbrev cX4_save : ByteArray := prog_6_method_54_code
def yX4_save : MethodName := ⟨RX4, "save", "(I)I"⟩
abbrev cX4_restore : ByteArray := prog_6_method_55_code
def yX4_restore : MethodName := ⟨RX4, "restore", "(I)I"⟩
def RJx8e188 : String := "java/lang/Cloneable"
def RJ9 : String := "java/lang/Math"
abbrev cJ9_floorMod_7cf53 : ByteArray := prog_8_method_50_code
def yJ9_floorMod_7cf53 : MethodName := ⟨RJ9, "floorMod", "(II)I"⟩
abbrev cJ9_floorMod_f86c9 : ByteArray := prog_8_method_52_code
def yJ9_floorMod_f86c9 : MethodName := ⟨RJ9, "floorMod", "(JJ)J"⟩
abbrev cJ9_abs_0f7a4 : ByteArray := prog_8_method_59_code
def yJ9_abs_0f7a4 : MethodName := ⟨RJ9, "abs", "(I)I"⟩
abbrev cJ9_abs_067f4 : ByteArray := prog_8_method_61_code
def yJ9_abs_067f4 : MethodName := ⟨RJ9, "abs", "(J)J"⟩
abbrev cJ9_max_7cf53 : ByteArray := prog_8_method_65_code
def yJ9_max_7cf53 : MethodName := ⟨RJ9, "max", "(II)I"⟩
abbrev cJ9_min_7cf53 : ByteArray := prog_8_method_69_code
def yJ9_min_7cf53 : MethodName := ⟨RJ9, "min", "(II)I"⟩
abbrev cJ9_min_f86c9 : ByteArray := prog_8_method_70_code
def yJ9_min_f86c9 : MethodName := ⟨RJ9, "min", "(JJ)J"⟩
def RJ10 : String := "java/lang/System"
def RJ7 : String := "java/util/Arrays"
abbrev cJ7_fill_53178 : ByteArray := prog_10_method_103_code
def yJ7_fill_53178 : MethodName := ⟨RJ7, "fill", "([II)V"⟩
def RL : String := "OdometryDeskLaw"
abbrev cL_law : ByteArray := code
def yL_law : MethodName := ⟨RL, "law", "([I)Z"⟩
abbrev vwCl : List vw_C := [(RX0, TX0, 5), (RX1, TX1, 11), (RX2, TX2, 12), (RX3, TX3, 6), (RX4, TX4, 27)]
/-- the words of the tables that hold wherever the tables are as warm -/
def lw_gd : List Cond := lw_tbl.filter goodWord
theorem lw_gd_in : ∀ w ∈ lw_gd, w ∈ lw_tbl := fun _ h => (List.mem_filter.mp h).1
theorem lw_gd_good : ∀ w ∈ lw_gd, (w.onTables && w.keeps) = true ∨ ∃ ty, w = .arrayClass ty := fun _ h => good_of_word (List.mem_filter.mp h).2
theorem lw_gm {w : Cond} (h : w ∈ tables_1) (hg : goodWord w = true) : w ∈ lw_gd := List.mem_filter.mpr ⟨List.mem_append_right _ h, hg⟩
theorem lw_gs {w : Cond} (h : w ∈ k2_sels lw_privs) (hg : goodWord w = true) : w ∈ lw_gd := List.mem_filter.mpr ⟨List.mem_append_left _ h, hg⟩
theorem lw_in1 {w : Cond} (h : w ∈ tables_1_1) : w ∈ tables_1 := List.mem_append_left _ h
theorem lw_in2 {w : Cond} (h : w ∈ tables_1_2) : w ∈ tables_1 := List.mem_append_right _ (List.mem_append_left _ h)
theorem lw_in3 {w : Cond} (h : w ∈ tables_1_3) : w ∈ tables_1 := List.mem_append_right _ (List.mem_append_right _ (List.mem_append_left _ h))
theorem lw_in4 {w : Cond} (h : w ∈ tables_1_4) : w ∈ tables_1 := List.mem_append_right _ (List.mem_append_right _ (List.mem_append_right _ (h)))
theorem gm_0 : (Jvm.Cond.initialized "OdometryDeskLaw") ∈ lw_gd := lw_gm (lw_in1 (List.mem_of_getElem? (i := 0) rfl)) rfl
theorem gm_1 : (Jvm.Cond.initialized "OdometryDesk") ∈ lw_gd := lw_gm (lw_in1 (List.mem_of_getElem? (i := 1) rfl)) rfl
theorem gm_2 : (Jvm.Cond.initialized "OdometryDesk$State") ∈ lw_gd := lw_gm (lw_in1 (List.mem_of_getElem? (i := 2) rfl)) rfl
theorem gm_3 : (Jvm.Cond.initialized "OdometryDesk$Way") ∈ lw_gd := lw_gm (lw_in1 (List.mem_of_getElem? (i := 3) rfl)) rfl
theorem gm_4 : (Jvm.Cond.initialized "OdometryDesk$Pad") ∈ lw_gd := lw_gm (lw_in1 (List.mem_of_getElem? (i := 4) rfl)) rfl
theorem gm_5 : (Jvm.Cond.initialized "OdometryDeskModel") ∈ lw_gd := lw_gm (lw_in1 (List.mem_of_getElem? (i := 5) rfl)) rfl
theorem gm_6 : (Jvm.Cond.initialized "java/lang/Math") ∈ lw_gd := lw_gm (lw_in1 (List.mem_of_getElem? (i := 6) rfl)) rfl
theorem gm_7 : (Jvm.Cond.initialized "java/util/Arrays") ∈ lw_gd := lw_gm (lw_in1 (List.mem_of_getElem? (i := 7) rfl)) rfl
theorem gm_8 : (Jvm.Cond.initialized "java/lang/System") ∈ lw_gd := lw_gm (lw_in1 (List.mem_of_getElem? (i := 8) rfl)) rfl
theorem gm_9 : (Jvm.Cond.classLink "OdometryDeskLaw" (7 : Nat) "OdometryDesk") ∈ lw_gd := lw_gm (lw_in1 (List.mem_of_getElem? (i := 9) rfl)) rfl
theorem gm_10 : (Jvm.Cond.instantiable "OdometryDesk" (6 : Nat)) ∈ lw_gd := lw_gm (lw_in1 (List.mem_of_getElem? (i := 10) rfl)) rfl
theorem gm_11 : (Jvm.Cond.methodLink "OdometryDeskLaw" (9 : Nat) ({ cls := "OdometryDesk", name := "<init>", desc := "()V" } : Jvm.MethodName)) ∈ lw_gd := lw_gm (lw_in1 (List.mem_of_getElem? (i := 11) rfl)) rfl
theorem gm_12 : (Jvm.Cond.instanceMethod ({ cls := "OdometryDesk", name := "<init>", desc := "()V" } : Jvm.MethodName)) ∈ lw_gd := lw_gm (lw_in1 (List.mem_of_getElem? (i := 12) rfl)) rfl
theorem gm_13 : (Jvm.Cond.code ({ cls := "OdometryDesk", name := "<init>", desc := "()V" } : Jvm.MethodName) prog_1_method_1_code (1 : Nat) (Option.none : Option Jvm.ClassFile.FieldType)) ∈ lw_gd := lw_gm (lw_in1 (List.mem_of_getElem? (i := 13) rfl)) rfl
theorem gm_14 : (Jvm.Cond.methodLink "OdometryDesk" (1 : Nat) ({ cls := "java/lang/Object", name := "<init>", desc := "()V" } : Jvm.MethodName)) ∈ lw_gd := lw_gm (lw_in1 (List.mem_of_getElem? (i := 14) rfl)) rfl
theorem gm_15 : (Jvm.Cond.instanceMethod ({ cls := "java/lang/Object", name := "<init>", desc := "()V" } : Jvm.MethodName)) ∈ lw_gd := lw_gm (lw_in1 (List.mem_of_getElem? (i := 15) rfl)) rfl
theorem gm_16 : (Jvm.Cond.code ({ cls := "java/lang/Object", name := "<init>", desc := "()V" } : Jvm.MethodName) object_method_1_code (1 : Nat) (Option.none : Option Jvm.ClassFile.FieldType)) ∈ lw_gd := lw_gm (lw_in1 (List.mem_of_getElem? (i := 16) rfl)) rfl
theorem gm_17 : (Jvm.Cond.classLink "OdometryDesk" (7 : Nat) "OdometryDesk$State") ∈ lw_gd := lw_gm (lw_in1 (List.mem_of_getElem? (i := 17) rfl)) rfl
theorem gm_18 : (Jvm.Cond.instantiable "OdometryDesk$State" (11 : Nat)) ∈ lw_gd := lw_gm (lw_in1 (List.mem_of_getElem? (i := 18) rfl)) rfl
theorem gm_19 : (Jvm.Cond.instanceMethod ({ cls := "OdometryDesk$State", name := "<init>", desc := "()V" } : Jvm.MethodName)) ∈ lw_gd := lw_gm (lw_in1 (List.mem_of_getElem? (i := 20) rfl)) rfl
theorem gm_20 : (Jvm.Cond.code ({ cls := "OdometryDesk$State", name := "<init>", desc := "()V" } : Jvm.MethodName) prog_3_method_1_code (1 : Nat) (Option.none : Option Jvm.ClassFile.FieldType)) ∈ lw_gd := lw_gm (lw_in1 (List.mem_of_getElem? (i := 21) rfl)) rfl
theorem gm_21 : (Jvm.Cond.methodLink "OdometryDesk$State" (3 : Nat) ({ cls := "java/lang/Object", name := "<init>", desc := "()V" } : Jvm.MethodName)) ∈ lw_gd := lw_gm (lw_in1 (List.mem_of_getElem? (i := 22) rfl)) rfl
theorem gm_22 : (Jvm.Cond.methodLink "OdometryDesk$State" (13 : Nat) ({ cls := "[I", name := "clone", desc := "()Ljava/lang/Object;" } : Jvm.MethodName)) ∈ lw_gd := lw_gm (lw_in1 (List.mem_of_getElem? (i := 25) rfl)) rfl
theorem gm_23 : (Jvm.Cond.sameMethod "[I" "java/lang/Object" "clone" "()Ljava/lang/Object;") ∈ lw_gd := lw_gm (lw_in1 (List.mem_of_getElem? (i := 26) rfl)) rfl
theorem gm_24 : (Jvm.Cond.native ({ cls := "java/lang/Object", name := "clone", desc := "()Ljava/lang/Object;" } : Jvm.MethodName)) ∈ lw_gd := lw_gm (lw_in1 (List.mem_of_getElem? (i := 27) rfl)) rfl
theorem gm_25 : (Jvm.Cond.instanceMethod ({ cls := "java/lang/Object", name := "clone", desc := "()Ljava/lang/Object;" } : Jvm.MethodName)) ∈ lw_gd := lw_gm (lw_in1 (List.mem_of_getElem? (i := 28) rfl)) rfl
theorem gm_26 : (Jvm.Cond.selects "[I" ({ cls := "[I", name := "clone", desc := "()Ljava/lang/Object;" } : Jvm.MethodName) ({ cls := "java/lang/Object", name := "clone", desc := "()Ljava/lang/Object;" } : Jvm.MethodName)) ∈ lw_gd := lw_gm (lw_in1 (List.mem_of_getElem? (i := 29) rfl)) rfl
theorem gm_27 : (Jvm.Cond.classLink "OdometryDesk$State" (14 : Nat) "[I") ∈ lw_gd := lw_gm (lw_in1 (List.mem_of_getElem? (i := 31) rfl)) rfl
theorem gm_28 : (Jvm.Cond.classLink "OdometryDesk$State" (23 : Nat) "[[I") ∈ lw_gd := lw_gm (lw_in1 (List.mem_of_getElem? (i := 32) rfl)) rfl
theorem gm_29 : (Jvm.Cond.fieldLink "OdometryDesk$State" (18 : Nat) "OdometryDesk$State" "settings" "[I") ∈ lw_gd := lw_gm (lw_in1 (List.mem_of_getElem? (i := 34) rfl)) rfl
theorem gm_30 : (Jvm.Cond.fieldLink "OdometryDesk" (52 : Nat) "OdometryDesk$State" "settings" "[I") ∈ lw_gd := lw_gm (lw_in1 (List.mem_of_getElem? (i := 35) rfl)) rfl
theorem gm_31 : (Jvm.Cond.fieldLink "OdometryDesk$State" (25 : Nat) "OdometryDesk$State" "corridors" "[[I") ∈ lw_gd := lw_gm (lw_in1 (List.mem_of_getElem? (i := 36) rfl)) rfl
theorem gm_32 : (Jvm.Cond.fieldLink "OdometryDesk" (74 : Nat) "OdometryDesk$State" "corridors" "[[I") ∈ lw_gd := lw_gm (lw_in1 (List.mem_of_getElem? (i := 37) rfl)) rfl
theorem gm_33 : (Jvm.Cond.fieldLink "OdometryDesk$Way" (174 : Nat) "OdometryDesk$State" "corridors" "[[I") ∈ lw_gd := lw_gm (lw_in1 (List.mem_of_getElem? (i := 38) rfl)) rfl
theorem gm_34 : (Jvm.Cond.fieldLink "OdometryDesk$State" (28 : Nat) "OdometryDesk$State" "markers" "[[I") ∈ lw_gd := lw_gm (lw_in1 (List.mem_of_getElem? (i := 39) rfl)) rfl
theorem gm_35 : (Jvm.Cond.fieldLink "OdometryDesk" (93 : Nat) "OdometryDesk$State" "markers" "[[I") ∈ lw_gd := lw_gm (lw_in1 (List.mem_of_getElem? (i := 40) rfl)) rfl
theorem gm_36 : (Jvm.Cond.fieldLink "OdometryDesk$Way" (122 : Nat) "OdometryDesk$State" "markers" "[[I") ∈ lw_gd := lw_gm (lw_in1 (List.mem_of_getElem? (i := 41) rfl)) rfl
theorem gm_37 : (Jvm.Cond.fieldLink "OdometryDesk$State" (31 : Nat) "OdometryDesk$State" "log" "[[I") ∈ lw_gd := lw_gm (lw_in1 (List.mem_of_getElem? (i := 42) rfl)) rfl
theorem gm_38 : (Jvm.Cond.fieldLink "OdometryDesk$Way" (119 : Nat) "OdometryDesk$State" "log" "[[I") ∈ lw_gd := lw_gm (lw_in1 (List.mem_of_getElem? (i := 43) rfl)) rfl
theorem gm_39 : (Jvm.Cond.fieldLink "OdometryDesk$State" (41 : Nat) "OdometryDesk$State" "corridorCount" "I") ∈ lw_gd := lw_gm (lw_in1 (List.mem_of_getElem? (i := 44) rfl)) rfl
theorem gm_40 : (Jvm.Cond.fieldLink "OdometryDesk" (70 : Nat) "OdometryDesk$State" "corridorCount" "I") ∈ lw_gd := lw_gm (lw_in1 (List.mem_of_getElem? (i := 45) rfl)) rfl
theorem gm_41 : (Jvm.Cond.fieldLink "OdometryDesk$Way" (171 : Nat) "OdometryDesk$State" "corridorCount" "I") ∈ lw_gd := lw_gm (lw_in1 (List.mem_of_getElem? (i := 46) rfl)) rfl
theorem gm_42 : (Jvm.Cond.fieldLink "OdometryDesk$State" (45 : Nat) "OdometryDesk$State" "markerCount" "I") ∈ lw_gd := lw_gm (lw_in1 (List.mem_of_getElem? (i := 47) rfl)) rfl
theorem gm_43 : (Jvm.Cond.fieldLink "OdometryDesk" (90 : Nat) "OdometryDesk$State" "markerCount" "I") ∈ lw_gd := lw_gm (lw_in1 (List.mem_of_getElem? (i := 48) rfl)) rfl
theorem gm_44 : (Jvm.Cond.fieldLink "OdometryDesk$State" (48 : Nat) "OdometryDesk$State" "entries" "I") ∈ lw_gd := lw_gm (lw_in1 (List.mem_of_getElem? (i := 49) rfl)) rfl
theorem gm_45 : (Jvm.Cond.fieldLink "OdometryDesk$Way" (68 : Nat) "OdometryDesk$State" "entries" "I") ∈ lw_gd := lw_gm (lw_in1 (List.mem_of_getElem? (i := 50) rfl)) rfl
theorem gm_46 : (Jvm.Cond.fieldLink "OdometryDesk" (106 : Nat) "OdometryDesk$State" "entries" "I") ∈ lw_gd := lw_gm (lw_in1 (List.mem_of_getElem? (i := 51) rfl)) rfl
theorem gm_47 : (Jvm.Cond.fieldLink "OdometryDesk$Way" (23 : Nat) "OdometryDesk$State" "startX" "I") ∈ lw_gd := lw_gm (lw_in1 (List.mem_of_getElem? (i := 52) rfl)) rfl
theorem gm_48 : (Jvm.Cond.fieldLink "OdometryDesk$State" (51 : Nat) "OdometryDesk$State" "startX" "I") ∈ lw_gd := lw_gm (lw_in1 (List.mem_of_getElem? (i := 53) rfl)) rfl
theorem gm_49 : (Jvm.Cond.fieldLink "OdometryDesk" (97 : Nat) "OdometryDesk$State" "startX" "I") ∈ lw_gd := lw_gm (lw_in1 (List.mem_of_getElem? (i := 54) rfl)) rfl
theorem gm_50 : (Jvm.Cond.fieldLink "OdometryDesk$Way" (32 : Nat) "OdometryDesk$State" "startY" "I") ∈ lw_gd := lw_gm (lw_in1 (List.mem_of_getElem? (i := 55) rfl)) rfl
theorem gm_51 : (Jvm.Cond.fieldLink "OdometryDesk$State" (54 : Nat) "OdometryDesk$State" "startY" "I") ∈ lw_gd := lw_gm (lw_in1 (List.mem_of_getElem? (i := 56) rfl)) rfl
theorem gm_52 : (Jvm.Cond.fieldLink "OdometryDesk" (100 : Nat) "OdometryDesk$State" "startY" "I") ∈ lw_gd := lw_gm (lw_in1 (List.mem_of_getElem? (i := 57) rfl)) rfl
theorem gm_53 : (Jvm.Cond.fieldLink "OdometryDesk$Way" (38 : Nat) "OdometryDesk$State" "startHeading" "I") ∈ lw_gd := lw_gm (lw_in1 (List.mem_of_getElem? (i := 58) rfl)) rfl
theorem gm_54 : (Jvm.Cond.fieldLink "OdometryDesk$State" (57 : Nat) "OdometryDesk$State" "startHeading" "I") ∈ lw_gd := lw_gm (lw_in1 (List.mem_of_getElem? (i := 59) rfl)) rfl
theorem gm_55 : (Jvm.Cond.fieldLink "OdometryDesk" (103 : Nat) "OdometryDesk$State" "startHeading" "I") ∈ lw_gd := lw_gm (lw_in1 (List.mem_of_getElem? (i := 60) rfl)) rfl
theorem gm_56 : (Jvm.Cond.fieldLink "OdometryDesk" (205 : Nat) "OdometryDesk$State" "isSaved" "Z") ∈ lw_gd := lw_gm (lw_in1 (List.mem_of_getElem? (i := 61) rfl)) rfl
theorem gm_57 : (Jvm.Cond.laysFinal "OdometryDesk$State" "OdometryDesk$State" "settings" "[I") ∈ lw_gd := lw_gm (lw_in1 (List.mem_of_getElem? (i := 62) rfl)) rfl
theorem gm_58 : (Jvm.Cond.laysFinal "OdometryDesk$State" "OdometryDesk$State" "corridors" "[[I") ∈ lw_gd := lw_gm (lw_in1 (List.mem_of_getElem? (i := 64) rfl)) rfl
theorem gm_59 : (Jvm.Cond.laysFinal "OdometryDesk$State" "OdometryDesk$State" "markers" "[[I") ∈ lw_gd := lw_gm (lw_in1 (List.mem_of_getElem? (i := 66) rfl)) rfl
theorem gm_60 : (Jvm.Cond.laysFinal "OdometryDesk$State" "OdometryDesk$State" "log" "[[I") ∈ lw_gd := lw_gm (lw_in1 (List.mem_of_getElem? (i := 68) rfl)) rfl
theorem gm_61 : (Jvm.Cond.lays "OdometryDesk$State" "OdometryDesk$State" "corridorCount" "I") ∈ lw_gd := lw_gm (lw_in1 (List.mem_of_getElem? (i := 70) rfl)) rfl
theorem gm_62 : (Jvm.Cond.lays "OdometryDesk$State" "OdometryDesk$State" "markerCount" "I") ∈ lw_gd := lw_gm (lw_in1 (List.mem_of_getElem? (i := 72) rfl)) rfl
theorem gm_63 : (Jvm.Cond.lays "OdometryDesk$State" "OdometryDesk$State" "entries" "I") ∈ lw_gd := lw_gm (lw_in1 (List.mem_of_getElem? (i := 74) rfl)) rfl
theorem gm_64 : (Jvm.Cond.lays "OdometryDesk$State" "OdometryDesk$State" "startX" "I") ∈ lw_gd := lw_gm (lw_in1 (List.mem_of_getElem? (i := 76) rfl)) rfl
theorem gm_65 : (Jvm.Cond.lays "OdometryDesk$State" "OdometryDesk$State" "startY" "I") ∈ lw_gd := lw_gm (lw_in1 (List.mem_of_getElem? (i := 78) rfl)) rfl
theorem gm_66 : (Jvm.Cond.lays "OdometryDesk$State" "OdometryDesk$State" "startHeading" "I") ∈ lw_gd := lw_gm (lw_in1 (List.mem_of_getElem? (i := 80) rfl)) rfl
theorem gm_67 : (Jvm.Cond.lays "OdometryDesk$State" "OdometryDesk$State" "isSaved" "Z") ∈ lw_gd := lw_gm (lw_in1 (List.mem_of_getElem? (i := 82) rfl)) rfl
theorem gm_68 : (Jvm.Cond.arrayClass Jvm.ClassFile.FieldType.int) ∈ lw_gd := lw_gm (lw_in1 (List.mem_of_getElem? (i := 85) rfl)) rfl
theorem gm_69 : (Jvm.Cond.classLink "OdometryDesk" (22 : Nat) "OdometryDesk$Way") ∈ lw_gd := lw_gm (lw_in1 (List.mem_of_getElem? (i := 86) rfl)) rfl
theorem gm_70 : (Jvm.Cond.instantiable "OdometryDesk$Way" (12 : Nat)) ∈ lw_gd := lw_gm (lw_in1 (List.mem_of_getElem? (i := 87) rfl)) rfl
theorem gm_71 : (Jvm.Cond.instanceMethod ({ cls := "OdometryDesk$Way", name := "<init>", desc := "()V" } : Jvm.MethodName)) ∈ lw_gd := lw_gm (lw_in1 (List.mem_of_getElem? (i := 89) rfl)) rfl
theorem gm_72 : (Jvm.Cond.code ({ cls := "OdometryDesk$Way", name := "<init>", desc := "()V" } : Jvm.MethodName) prog_4_method_1_code (1 : Nat) (Option.none : Option Jvm.ClassFile.FieldType)) ∈ lw_gd := lw_gm (lw_in1 (List.mem_of_getElem? (i := 90) rfl)) rfl
theorem gm_73 : (Jvm.Cond.methodLink "OdometryDesk$Way" (3 : Nat) ({ cls := "java/lang/Object", name := "<init>", desc := "()V" } : Jvm.MethodName)) ∈ lw_gd := lw_gm (lw_in1 (List.mem_of_getElem? (i := 91) rfl)) rfl
theorem gm_74 : (Jvm.Cond.classLink "OdometryDesk$Way" (9 : Nat) "[[I") ∈ lw_gd := lw_gm (lw_in1 (List.mem_of_getElem? (i := 92) rfl)) rfl
theorem gm_75 : (Jvm.Cond.fieldLink "OdometryDesk$Way" (11 : Nat) "OdometryDesk$Way" "poses" "[[I") ∈ lw_gd := lw_gm (lw_in1 (List.mem_of_getElem? (i := 93) rfl)) rfl
theorem gm_76 : (Jvm.Cond.fieldLink "OdometryDesk$Way" (16 : Nat) "OdometryDesk$Way" "facts" "[[I") ∈ lw_gd := lw_gm (lw_in1 (List.mem_of_getElem? (i := 94) rfl)) rfl
theorem gm_77 : (Jvm.Cond.fieldLink "OdometryDesk" (129 : Nat) "OdometryDesk$Way" "facts" "[[I") ∈ lw_gd := lw_gm (lw_in1 (List.mem_of_getElem? (i := 95) rfl)) rfl
theorem gm_78 : (Jvm.Cond.fieldLink "OdometryDesk$Way" (19 : Nat) "OdometryDesk$Way" "kinds" "[I") ∈ lw_gd := lw_gm (lw_in1 (List.mem_of_getElem? (i := 96) rfl)) rfl
theorem gm_79 : (Jvm.Cond.fieldLink "OdometryDesk" (146 : Nat) "OdometryDesk$Way" "kinds" "[I") ∈ lw_gd := lw_gm (lw_in1 (List.mem_of_getElem? (i := 97) rfl)) rfl
theorem gm_80 : (Jvm.Cond.fieldLink "OdometryDesk$Way" (29 : Nat) "OdometryDesk$Way" "x" "I") ∈ lw_gd := lw_gm (lw_in1 (List.mem_of_getElem? (i := 98) rfl)) rfl
theorem gm_81 : (Jvm.Cond.fieldLink "OdometryDesk" (160 : Nat) "OdometryDesk$Way" "x" "I") ∈ lw_gd := lw_gm (lw_in1 (List.mem_of_getElem? (i := 99) rfl)) rfl
theorem gm_82 : (Jvm.Cond.fieldLink "OdometryDesk$Way" (35 : Nat) "OdometryDesk$Way" "y" "I") ∈ lw_gd := lw_gm (lw_in1 (List.mem_of_getElem? (i := 100) rfl)) rfl
theorem gm_83 : (Jvm.Cond.fieldLink "OdometryDesk" (163 : Nat) "OdometryDesk$Way" "y" "I") ∈ lw_gd := lw_gm (lw_in1 (List.mem_of_getElem? (i := 101) rfl)) rfl
theorem gm_84 : (Jvm.Cond.fieldLink "OdometryDesk$Way" (41 : Nat) "OdometryDesk$Way" "heading" "I") ∈ lw_gd := lw_gm (lw_in1 (List.mem_of_getElem? (i := 102) rfl)) rfl
theorem gm_85 : (Jvm.Cond.fieldLink "OdometryDesk" (166 : Nat) "OdometryDesk$Way" "heading" "I") ∈ lw_gd := lw_gm (lw_in1 (List.mem_of_getElem? (i := 103) rfl)) rfl
theorem gm_86 : (Jvm.Cond.fieldLink "OdometryDesk$Way" (44 : Nat) "OdometryDesk$Way" "length" "I") ∈ lw_gd := lw_gm (lw_in1 (List.mem_of_getElem? (i := 104) rfl)) rfl
theorem gm_87 : (Jvm.Cond.fieldLink "OdometryDesk" (142 : Nat) "OdometryDesk$Way" "length" "I") ∈ lw_gd := lw_gm (lw_in1 (List.mem_of_getElem? (i := 105) rfl)) rfl
theorem gm_88 : (Jvm.Cond.fieldLink "OdometryDesk$Way" (47 : Nat) "OdometryDesk$Way" "bias" "I") ∈ lw_gd := lw_gm (lw_in1 (List.mem_of_getElem? (i := 106) rfl)) rfl
theorem gm_89 : (Jvm.Cond.fieldLink "OdometryDesk$Way" (50 : Nat) "OdometryDesk$Way" "pulls" "I") ∈ lw_gd := lw_gm (lw_in1 (List.mem_of_getElem? (i := 107) rfl)) rfl
theorem gm_90 : (Jvm.Cond.fieldLink "OdometryDesk" (135 : Nat) "OdometryDesk$Way" "pulls" "I") ∈ lw_gd := lw_gm (lw_in1 (List.mem_of_getElem? (i := 108) rfl)) rfl
theorem gm_91 : (Jvm.Cond.fieldLink "OdometryDesk$Way" (53 : Nat) "OdometryDesk$Way" "errors" "J") ∈ lw_gd := lw_gm (lw_in1 (List.mem_of_getElem? (i := 109) rfl)) rfl
theorem gm_92 : (Jvm.Cond.fieldLink "OdometryDesk" (219 : Nat) "OdometryDesk$Way" "errors" "J") ∈ lw_gd := lw_gm (lw_in1 (List.mem_of_getElem? (i := 110) rfl)) rfl
theorem gm_93 : (Jvm.Cond.fieldLink "OdometryDesk$Way" (136 : Nat) "OdometryDesk$Way" "turn" "I") ∈ lw_gd := lw_gm (lw_in1 (List.mem_of_getElem? (i := 111) rfl)) rfl
theorem gm_94 : (Jvm.Cond.fieldLink "OdometryDesk$Way" (139 : Nat) "OdometryDesk$Way" "distance" "I") ∈ lw_gd := lw_gm (lw_in1 (List.mem_of_getElem? (i := 112) rfl)) rfl
theorem gm_95 : (Jvm.Cond.laysFinal "OdometryDesk$Way" "OdometryDesk$Way" "poses" "[[I") ∈ lw_gd := lw_gm (lw_in1 (List.mem_of_getElem? (i := 113) rfl)) rfl
theorem gm_96 : (Jvm.Cond.laysFinal "OdometryDesk$Way" "OdometryDesk$Way" "facts" "[[I") ∈ lw_gd := lw_gm (lw_in1 (List.mem_of_getElem? (i := 115) rfl)) rfl
theorem gm_97 : (Jvm.Cond.laysFinal "OdometryDesk$Way" "OdometryDesk$Way" "kinds" "[I") ∈ lw_gd := lw_gm (lw_in1 (List.mem_of_getElem? (i := 117) rfl)) rfl
theorem gm_98 : (Jvm.Cond.lays "OdometryDesk$Way" "OdometryDesk$Way" "x" "I") ∈ lw_gd := lw_gm (lw_in1 (List.mem_of_getElem? (i := 119) rfl)) rfl
theorem gm_99 : (Jvm.Cond.lays "OdometryDesk$Way" "OdometryDesk$Way" "y" "I") ∈ lw_gd := lw_gm (lw_in1 (List.mem_of_getElem? (i := 121) rfl)) rfl
theorem gm_100 : (Jvm.Cond.lays "OdometryDesk$Way" "OdometryDesk$Way" "heading" "I") ∈ lw_gd := lw_gm (lw_in1 (List.mem_of_getElem? (i := 123) rfl)) rfl
theorem gm_101 : (Jvm.Cond.lays "OdometryDesk$Way" "OdometryDesk$Way" "length" "I") ∈ lw_gd := lw_gm (lw_in1 (List.mem_of_getElem? (i := 125) rfl)) rfl
theorem gm_102 : (Jvm.Cond.lays "OdometryDesk$Way" "OdometryDesk$Way" "bias" "I") ∈ lw_gd := lw_gm (lw_in1 (List.mem_of_getElem? (i := 127) rfl)) rfl
theorem gm_103 : (Jvm.Cond.lays "OdometryDesk$Way" "OdometryDesk$Way" "pulls" "I") ∈ lw_gd := lw_gm (lw_in1 (List.mem_of_getElem? (i := 129) rfl)) rfl
theorem gm_104 : (Jvm.Cond.lays "OdometryDesk$Way" "OdometryDesk$Way" "errors" "J") ∈ lw_gd := lw_gm (lw_in1 (List.mem_of_getElem? (i := 131) rfl)) rfl
theorem gm_105 : (Jvm.Cond.lays "OdometryDesk$Way" "OdometryDesk$Way" "turn" "I") ∈ lw_gd := lw_gm (lw_in1 (List.mem_of_getElem? (i := 133) rfl)) rfl
theorem gm_106 : (Jvm.Cond.lays "OdometryDesk$Way" "OdometryDesk$Way" "distance" "I") ∈ lw_gd := lw_gm (lw_in1 (List.mem_of_getElem? (i := 135) rfl)) rfl
theorem gm_107 : (Jvm.Cond.classLink "OdometryDesk" (29 : Nat) "OdometryDesk$Pad") ∈ lw_gd := lw_gm (lw_in1 (List.mem_of_getElem? (i := 138) rfl)) rfl
theorem gm_108 : (Jvm.Cond.instantiable "OdometryDesk$Pad" (5 : Nat)) ∈ lw_gd := lw_gm (lw_in1 (List.mem_of_getElem? (i := 139) rfl)) rfl
theorem gm_109 : (Jvm.Cond.instanceMethod ({ cls := "OdometryDesk$Pad", name := "<init>", desc := "()V" } : Jvm.MethodName)) ∈ lw_gd := lw_gm (lw_in1 (List.mem_of_getElem? (i := 141) rfl)) rfl
theorem gm_110 : (Jvm.Cond.code ({ cls := "OdometryDesk$Pad", name := "<init>", desc := "()V" } : Jvm.MethodName) prog_2_method_1_code (1 : Nat) (Option.none : Option Jvm.ClassFile.FieldType)) ∈ lw_gd := lw_gm (lw_in1 (List.mem_of_getElem? (i := 142) rfl)) rfl
theorem gm_111 : (Jvm.Cond.methodLink "OdometryDesk$Pad" (3 : Nat) ({ cls := "java/lang/Object", name := "<init>", desc := "()V" } : Jvm.MethodName)) ∈ lw_gd := lw_gm (lw_in1 (List.mem_of_getElem? (i := 143) rfl)) rfl
theorem gm_112 : (Jvm.Cond.fieldLink "OdometryDesk$Pad" (9 : Nat) "OdometryDesk$Pad" "signs" "[I") ∈ lw_gd := lw_gm (lw_in1 (List.mem_of_getElem? (i := 144) rfl)) rfl
theorem gm_113 : (Jvm.Cond.fieldLink "OdometryDesk$Pad" (24 : Nat) "OdometryDesk$Pad" "length" "I") ∈ lw_gd := lw_gm (lw_in1 (List.mem_of_getElem? (i := 145) rfl)) rfl
theorem gm_114 : (Jvm.Cond.fieldLink "OdometryDesk" (145 : Nat) "OdometryDesk$Pad" "length" "I") ∈ lw_gd := lw_gm (lw_in1 (List.mem_of_getElem? (i := 146) rfl)) rfl
theorem gm_115 : (Jvm.Cond.fieldLink "OdometryDesk$Pad" (32 : Nat) "OdometryDesk$Pad" "at" "I") ∈ lw_gd := lw_gm (lw_in1 (List.mem_of_getElem? (i := 147) rfl)) rfl
theorem gm_116 : (Jvm.Cond.fieldLink "OdometryDesk" (184 : Nat) "OdometryDesk$Pad" "at" "I") ∈ lw_gd := lw_gm (lw_in1 (List.mem_of_getElem? (i := 148) rfl)) rfl
theorem gm_117 : (Jvm.Cond.fieldLink "OdometryDesk$Pad" (43 : Nat) "OdometryDesk$Pad" "isSight" "Z") ∈ lw_gd := lw_gm (lw_in1 (List.mem_of_getElem? (i := 149) rfl)) rfl
theorem gm_118 : (Jvm.Cond.fieldLink "OdometryDesk" (212 : Nat) "OdometryDesk$Pad" "isSight" "Z") ∈ lw_gd := lw_gm (lw_in1 (List.mem_of_getElem? (i := 150) rfl)) rfl
theorem gm_119 : (Jvm.Cond.fieldLink "OdometryDesk$Pad" (15 : Nat) "OdometryDesk$Pad" "numbers" "[I") ∈ lw_gd := lw_gm (lw_in1 (List.mem_of_getElem? (i := 151) rfl)) rfl
theorem gm_120 : (Jvm.Cond.fieldLink "OdometryDesk" (209 : Nat) "OdometryDesk$Pad" "numbers" "[I") ∈ lw_gd := lw_gm (lw_in1 (List.mem_of_getElem? (i := 152) rfl)) rfl
theorem gm_121 : (Jvm.Cond.laysFinal "OdometryDesk$Pad" "OdometryDesk$Pad" "signs" "[I") ∈ lw_gd := lw_gm (lw_in1 (List.mem_of_getElem? (i := 153) rfl)) rfl
theorem gm_122 : (Jvm.Cond.lays "OdometryDesk$Pad" "OdometryDesk$Pad" "length" "I") ∈ lw_gd := lw_gm (lw_in1 (List.mem_of_getElem? (i := 155) rfl)) rfl
theorem gm_123 : (Jvm.Cond.lays "OdometryDesk$Pad" "OdometryDesk$Pad" "at" "I") ∈ lw_gd := lw_gm (lw_in1 (List.mem_of_getElem? (i := 157) rfl)) rfl
theorem gm_124 : (Jvm.Cond.lays "OdometryDesk$Pad" "OdometryDesk$Pad" "isSight" "Z") ∈ lw_gd := lw_gm (lw_in1 (List.mem_of_getElem? (i := 159) rfl)) rfl
theorem gm_125 : (Jvm.Cond.laysFinal "OdometryDesk$Pad" "OdometryDesk$Pad" "numbers" "[I") ∈ lw_gd := lw_gm (lw_in1 (List.mem_of_getElem? (i := 161) rfl)) rfl
theorem gm_126 : (Jvm.Cond.fieldLink "OdometryDesk" (36 : Nat) "OdometryDesk" "FIRST_VALUES" "[I") ∈ lw_gd := lw_gm (lw_in1 (List.mem_of_getElem? (i := 164) rfl)) rfl
theorem gm_127 : (Jvm.Cond.methodLink "OdometryDesk" (40 : Nat) ({ cls := "[I", name := "clone", desc := "()Ljava/lang/Object;" } : Jvm.MethodName)) ∈ lw_gd := lw_gm (lw_in1 (List.mem_of_getElem? (i := 165) rfl)) rfl
theorem gm_128 : (Jvm.Cond.classLink "OdometryDesk" (41 : Nat) "[I") ∈ lw_gd := lw_gm (lw_in1 (List.mem_of_getElem? (i := 166) rfl)) rfl
theorem gm_129 : (Jvm.Cond.fieldLink "OdometryDesk" (10 : Nat) "OdometryDesk" "state" "LOdometryDesk$State;") ∈ lw_gd := lw_gm (lw_in1 (List.mem_of_getElem? (i := 167) rfl)) rfl
theorem gm_130 : (Jvm.Cond.fieldLink "OdometryDesk" (16 : Nat) "OdometryDesk" "firstSlot" "LOdometryDesk$State;") ∈ lw_gd := lw_gm (lw_in1 (List.mem_of_getElem? (i := 168) rfl)) rfl
theorem gm_131 : (Jvm.Cond.fieldLink "OdometryDesk" (19 : Nat) "OdometryDesk" "secondSlot" "LOdometryDesk$State;") ∈ lw_gd := lw_gm (lw_in1 (List.mem_of_getElem? (i := 169) rfl)) rfl
theorem gm_132 : (Jvm.Cond.fieldLink "OdometryDesk" (25 : Nat) "OdometryDesk" "way" "LOdometryDesk$Way;") ∈ lw_gd := lw_gm (lw_in1 (List.mem_of_getElem? (i := 170) rfl)) rfl
theorem gm_133 : (Jvm.Cond.fieldLink "OdometryDesk" (32 : Nat) "OdometryDesk" "pad" "LOdometryDesk$Pad;") ∈ lw_gd := lw_gm (lw_in1 (List.mem_of_getElem? (i := 171) rfl)) rfl
theorem gm_134 : (Jvm.Cond.fieldLink "OdometryDesk" (45 : Nat) "OdometryDesk" "tried" "[I") ∈ lw_gd := lw_gm (lw_in1 (List.mem_of_getElem? (i := 172) rfl)) rfl
theorem gm_135 : (Jvm.Cond.laysFinal "OdometryDesk" "OdometryDesk" "state" "LOdometryDesk$State;") ∈ lw_gd := lw_gm (lw_in1 (List.mem_of_getElem? (i := 173) rfl)) rfl
theorem gm_136 : (Jvm.Cond.laysFinal "OdometryDesk" "OdometryDesk" "firstSlot" "LOdometryDesk$State;") ∈ lw_gd := lw_gm (lw_in1 (List.mem_of_getElem? (i := 175) rfl)) rfl
theorem gm_137 : (Jvm.Cond.laysFinal "OdometryDesk" "OdometryDesk" "secondSlot" "LOdometryDesk$State;") ∈ lw_gd := lw_gm (lw_in1 (List.mem_of_getElem? (i := 177) rfl)) rfl
theorem gm_138 : (Jvm.Cond.laysFinal "OdometryDesk" "OdometryDesk" "way" "LOdometryDesk$Way;") ∈ lw_gd := lw_gm (lw_in1 (List.mem_of_getElem? (i := 179) rfl)) rfl
theorem gm_139 : (Jvm.Cond.laysFinal "OdometryDesk" "OdometryDesk" "pad" "LOdometryDesk$Pad;") ∈ lw_gd := lw_gm (lw_in1 (List.mem_of_getElem? (i := 181) rfl)) rfl
theorem gm_140 : (Jvm.Cond.laysFinal "OdometryDesk" "OdometryDesk" "tried" "[I") ∈ lw_gd := lw_gm (lw_in1 (List.mem_of_getElem? (i := 183) rfl)) rfl
theorem gm_141 : (Jvm.Cond.methodLink "OdometryDeskLaw" (13 : Nat) ({ cls := "OdometryDesk", name := "set", desc := "(II)I" } : Jvm.MethodName)) ∈ lw_gd := lw_gm (lw_in1 (List.mem_of_getElem? (i := 186) rfl)) rfl
theorem gm_142 : (Jvm.Cond.instanceMethod ({ cls := "OdometryDesk", name := "set", desc := "(II)I" } : Jvm.MethodName)) ∈ lw_gd := lw_gm (lw_in1 (List.mem_of_getElem? (i := 187) rfl)) rfl
theorem gm_143 : (Jvm.Cond.selects "OdometryDesk" ({ cls := "OdometryDesk", name := "set", desc := "(II)I" } : Jvm.MethodName) ({ cls := "OdometryDesk", name := "set", desc := "(II)I" } : Jvm.MethodName)) ∈ lw_gd := lw_gm (lw_in1 (List.mem_of_getElem? (i := 188) rfl)) rfl
theorem gm_144 : (Jvm.Cond.code ({ cls := "OdometryDesk", name := "set", desc := "(II)I" } : Jvm.MethodName) prog_1_method_2_code (4 : Nat) (Option.some Jvm.ClassFile.FieldType.int)) ∈ lw_gd := lw_gm (lw_in1 (List.mem_of_getElem? (i := 189) rfl)) rfl
theorem gm_145 : (Jvm.Cond.methodLink "OdometryDesk" (48 : Nat) ({ cls := "OdometryDesk", name := "isSetting", desc := "(II)Z" } : Jvm.MethodName)) ∈ lw_gd := lw_gm (lw_in1 (List.mem_of_getElem? (i := 190) rfl)) rfl
theorem gm_146 : (Jvm.Cond.static ({ cls := "OdometryDesk", name := "isSetting", desc := "(II)Z" } : Jvm.MethodName)) ∈ lw_gd := lw_gm (lw_in1 (List.mem_of_getElem? (i := 191) rfl)) rfl
theorem gm_147 : (Jvm.Cond.code ({ cls := "OdometryDesk", name := "isSetting", desc := "(II)Z" } : Jvm.MethodName) prog_1_method_28_code (2 : Nat) (Option.some Jvm.ClassFile.FieldType.boolean)) ∈ lw_gd := lw_gm (lw_in1 (List.mem_of_getElem? (i := 192) rfl)) rfl
theorem gm_148 : (Jvm.Cond.fieldLink "OdometryDesk" (225 : Nat) "OdometryDesk" "LOWEST" "[I") ∈ lw_gd := lw_gm (lw_in1 (List.mem_of_getElem? (i := 193) rfl)) rfl
theorem gm_149 : (Jvm.Cond.fieldLink "OdometryDesk" (228 : Nat) "OdometryDesk" "HIGHEST" "[I") ∈ lw_gd := lw_gm (lw_in1 (List.mem_of_getElem? (i := 195) rfl)) rfl
theorem gm_150 : (Jvm.Cond.methodLink "OdometryDesk" (66 : Nat) ({ cls := "OdometryDesk", name := "isWithin", desc := "(III)Z" } : Jvm.MethodName)) ∈ lw_gd := lw_gm (lw_in1 (List.mem_of_getElem? (i := 197) rfl)) rfl
theorem gm_151 : (Jvm.Cond.static ({ cls := "OdometryDesk", name := "isWithin", desc := "(III)Z" } : Jvm.MethodName)) ∈ lw_gd := lw_gm (lw_in1 (List.mem_of_getElem? (i := 198) rfl)) rfl
theorem gm_152 : (Jvm.Cond.code ({ cls := "OdometryDesk", name := "isWithin", desc := "(III)Z" } : Jvm.MethodName) prog_1_method_26_code (3 : Nat) (Option.some Jvm.ClassFile.FieldType.boolean)) ∈ lw_gd := lw_gm (lw_in1 (List.mem_of_getElem? (i := 199) rfl)) rfl
theorem gm_153 : (Jvm.Cond.methodLink "OdometryDesk" (55 : Nat) ({ cls := "OdometryDesk", name := "item", desc := "([II)I" } : Jvm.MethodName)) ∈ lw_gd := lw_gm (lw_in1 (List.mem_of_getElem? (i := 200) rfl)) rfl
theorem gm_154 : (Jvm.Cond.static ({ cls := "OdometryDesk", name := "item", desc := "([II)I" } : Jvm.MethodName)) ∈ lw_gd := lw_gm (lw_in1 (List.mem_of_getElem? (i := 201) rfl)) rfl
theorem gm_155 : (Jvm.Cond.code ({ cls := "OdometryDesk", name := "item", desc := "([II)I" } : Jvm.MethodName) prog_1_method_33_code (2 : Nat) (Option.some Jvm.ClassFile.FieldType.int)) ∈ lw_gd := lw_gm (lw_in1 (List.mem_of_getElem? (i := 202) rfl)) rfl
theorem gm_156 : (Jvm.Cond.methodLink "OdometryDesk" (59 : Nat) ({ cls := "OdometryDesk", name := "keep", desc := "([III)V" } : Jvm.MethodName)) ∈ lw_gd := lw_gm (lw_in1 (List.mem_of_getElem? (i := 203) rfl)) rfl
theorem gm_157 : (Jvm.Cond.static ({ cls := "OdometryDesk", name := "keep", desc := "([III)V" } : Jvm.MethodName)) ∈ lw_gd := lw_gm (lw_in1 (List.mem_of_getElem? (i := 204) rfl)) rfl
theorem gm_158 : (Jvm.Cond.code ({ cls := "OdometryDesk", name := "keep", desc := "([III)V" } : Jvm.MethodName) prog_1_method_34_code (3 : Nat) (Option.none : Option Jvm.ClassFile.FieldType)) ∈ lw_gd := lw_gm (lw_in1 (List.mem_of_getElem? (i := 205) rfl)) rfl
theorem gm_159 : (Jvm.Cond.methodLink "OdometryDeskLaw" (18 : Nat) ({ cls := "OdometryDesk", name := "corridor", desc := "(IIIII)I" } : Jvm.MethodName)) ∈ lw_gd := lw_gm (lw_in1 (List.mem_of_getElem? (i := 206) rfl)) rfl
theorem gm_160 : (Jvm.Cond.instanceMethod ({ cls := "OdometryDesk", name := "corridor", desc := "(IIIII)I" } : Jvm.MethodName)) ∈ lw_gd := lw_gm (lw_in1 (List.mem_of_getElem? (i := 207) rfl)) rfl
theorem gm_161 : (Jvm.Cond.selects "OdometryDesk" ({ cls := "OdometryDesk", name := "corridor", desc := "(IIIII)I" } : Jvm.MethodName) ({ cls := "OdometryDesk", name := "corridor", desc := "(IIIII)I" } : Jvm.MethodName)) ∈ lw_gd := lw_gm (lw_in1 (List.mem_of_getElem? (i := 208) rfl)) rfl
theorem gm_162 : (Jvm.Cond.code ({ cls := "OdometryDesk", name := "corridor", desc := "(IIIII)I" } : Jvm.MethodName) prog_1_method_3_code (7 : Nat) (Option.some Jvm.ClassFile.FieldType.int)) ∈ lw_gd := lw_gm (lw_in1 (List.mem_of_getElem? (i := 209) rfl)) rfl
theorem gm_163 : (Jvm.Cond.methodLink "OdometryDesk" (63 : Nat) ({ cls := "OdometryDesk", name := "isPlace", desc := "(II)Z" } : Jvm.MethodName)) ∈ lw_gd := lw_gm (lw_in1 (List.mem_of_getElem? (i := 210) rfl)) rfl
theorem gm_164 : (Jvm.Cond.static ({ cls := "OdometryDesk", name := "isPlace", desc := "(II)Z" } : Jvm.MethodName)) ∈ lw_gd := lw_gm (lw_in1 (List.mem_of_getElem? (i := 211) rfl)) rfl
theorem gm_165 : (Jvm.Cond.code ({ cls := "OdometryDesk", name := "isPlace", desc := "(II)Z" } : Jvm.MethodName) prog_1_method_27_code (2 : Nat) (Option.some Jvm.ClassFile.FieldType.boolean)) ∈ lw_gd := lw_gm (lw_in1 (List.mem_of_getElem? (i := 212) rfl)) rfl
theorem gm_166 : (Jvm.Cond.constant "OdometryDesk" (223 : Nat) (-100000 : Int32)) ∈ lw_gd := lw_gm (lw_in1 (List.mem_of_getElem? (i := 213) rfl)) rfl
theorem gm_167 : (Jvm.Cond.constant "OdometryDesk" (224 : Nat) (100000 : Int32)) ∈ lw_gd := lw_gm (lw_in1 (List.mem_of_getElem? (i := 214) rfl)) rfl
theorem gm_168 : (Jvm.Cond.methodLink "OdometryDesk" (78 : Nat) ({ cls := "java/lang/Math", name := "min", desc := "(II)I" } : Jvm.MethodName)) ∈ lw_gd := lw_gm (lw_in1 (List.mem_of_getElem? (i := 215) rfl)) rfl
theorem gm_169 : (Jvm.Cond.static ({ cls := "java/lang/Math", name := "min", desc := "(II)I" } : Jvm.MethodName)) ∈ lw_gd := lw_gm (lw_in1 (List.mem_of_getElem? (i := 216) rfl)) rfl
theorem gm_170 : (Jvm.Cond.code ({ cls := "java/lang/Math", name := "min", desc := "(II)I" } : Jvm.MethodName) prog_8_method_69_code (2 : Nat) (Option.some Jvm.ClassFile.FieldType.int)) ∈ lw_gd := lw_gm (lw_in1 (List.mem_of_getElem? (i := 217) rfl)) rfl
theorem gm_171 : (Jvm.Cond.methodLink "OdometryDesk" (84 : Nat) ({ cls := "OdometryDesk", name := "keep", desc := "([[IIII)V" } : Jvm.MethodName)) ∈ lw_gd := lw_gm (lw_in1 (List.mem_of_getElem? (i := 218) rfl)) rfl
theorem gm_172 : (Jvm.Cond.static ({ cls := "OdometryDesk", name := "keep", desc := "([[IIII)V" } : Jvm.MethodName)) ∈ lw_gd := lw_gm (lw_in1 (List.mem_of_getElem? (i := 219) rfl)) rfl
theorem gm_173 : (Jvm.Cond.code ({ cls := "OdometryDesk", name := "keep", desc := "([[IIII)V" } : Jvm.MethodName) prog_1_method_36_code (4 : Nat) (Option.none : Option Jvm.ClassFile.FieldType)) ∈ lw_gd := lw_gm (lw_in1 (List.mem_of_getElem? (i := 220) rfl)) rfl
theorem gm_174 : (Jvm.Cond.methodLink "OdometryDesk" (87 : Nat) ({ cls := "java/lang/Math", name := "max", desc := "(II)I" } : Jvm.MethodName)) ∈ lw_gd := lw_gm (lw_in1 (List.mem_of_getElem? (i := 221) rfl)) rfl
theorem gm_175 : (Jvm.Cond.static ({ cls := "java/lang/Math", name := "max", desc := "(II)I" } : Jvm.MethodName)) ∈ lw_gd := lw_gm (lw_in1 (List.mem_of_getElem? (i := 222) rfl)) rfl
theorem gm_176 : (Jvm.Cond.code ({ cls := "java/lang/Math", name := "max", desc := "(II)I" } : Jvm.MethodName) prog_8_method_65_code (2 : Nat) (Option.some Jvm.ClassFile.FieldType.int)) ∈ lw_gd := lw_gm (lw_in1 (List.mem_of_getElem? (i := 223) rfl)) rfl
theorem gm_177 : (Jvm.Cond.methodLink "OdometryDeskLaw" (23 : Nat) ({ cls := "OdometryDesk", name := "marker", desc := "(II)I" } : Jvm.MethodName)) ∈ lw_gd := lw_gm (lw_in1 (List.mem_of_getElem? (i := 224) rfl)) rfl
theorem gm_178 : (Jvm.Cond.instanceMethod ({ cls := "OdometryDesk", name := "marker", desc := "(II)I" } : Jvm.MethodName)) ∈ lw_gd := lw_gm (lw_in1 (List.mem_of_getElem? (i := 225) rfl)) rfl
theorem gm_179 : (Jvm.Cond.selects "OdometryDesk" ({ cls := "OdometryDesk", name := "marker", desc := "(II)I" } : Jvm.MethodName) ({ cls := "OdometryDesk", name := "marker", desc := "(II)I" } : Jvm.MethodName)) ∈ lw_gd := lw_gm (lw_in1 (List.mem_of_getElem? (i := 226) rfl)) rfl
theorem gm_180 : (Jvm.Cond.code ({ cls := "OdometryDesk", name := "marker", desc := "(II)I" } : Jvm.MethodName) prog_1_method_4_code (4 : Nat) (Option.some Jvm.ClassFile.FieldType.int)) ∈ lw_gd := lw_gm (lw_in1 (List.mem_of_getElem? (i := 227) rfl)) rfl
theorem gm_181 : (Jvm.Cond.methodLink "OdometryDeskLaw" (27 : Nat) ({ cls := "OdometryDesk", name := "closeCorridor", desc := "()I" } : Jvm.MethodName)) ∈ lw_gd := lw_gm (lw_in1 (List.mem_of_getElem? (i := 228) rfl)) rfl
theorem gm_182 : (Jvm.Cond.instanceMethod ({ cls := "OdometryDesk", name := "closeCorridor", desc := "()I" } : Jvm.MethodName)) ∈ lw_gd := lw_gm (lw_in1 (List.mem_of_getElem? (i := 229) rfl)) rfl
theorem gm_183 : (Jvm.Cond.selects "OdometryDesk" ({ cls := "OdometryDesk", name := "closeCorridor", desc := "()I" } : Jvm.MethodName) ({ cls := "OdometryDesk", name := "closeCorridor", desc := "()I" } : Jvm.MethodName)) ∈ lw_gd := lw_gm (lw_in1 (List.mem_of_getElem? (i := 230) rfl)) rfl
theorem gm_184 : (Jvm.Cond.code ({ cls := "OdometryDesk", name := "closeCorridor", desc := "()I" } : Jvm.MethodName) prog_1_method_5_code (1 : Nat) (Option.some Jvm.ClassFile.FieldType.int)) ∈ lw_gd := lw_gm (lw_in1 (List.mem_of_getElem? (i := 231) rfl)) rfl
theorem gm_185 : (Jvm.Cond.methodLink "OdometryDeskLaw" (32 : Nat) ({ cls := "OdometryDesk", name := "begin", desc := "(III)I" } : Jvm.MethodName)) ∈ lw_gd := lw_gm (lw_in1 (List.mem_of_getElem? (i := 232) rfl)) rfl
theorem gm_186 : (Jvm.Cond.instanceMethod ({ cls := "OdometryDesk", name := "begin", desc := "(III)I" } : Jvm.MethodName)) ∈ lw_gd := lw_gm (lw_in1 (List.mem_of_getElem? (i := 233) rfl)) rfl
theorem gm_187 : (Jvm.Cond.selects "OdometryDesk" ({ cls := "OdometryDesk", name := "begin", desc := "(III)I" } : Jvm.MethodName) ({ cls := "OdometryDesk", name := "begin", desc := "(III)I" } : Jvm.MethodName)) ∈ lw_gd := lw_gm (lw_in1 (List.mem_of_getElem? (i := 234) rfl)) rfl
theorem gm_188 : (Jvm.Cond.code ({ cls := "OdometryDesk", name := "begin", desc := "(III)I" } : Jvm.MethodName) prog_1_method_6_code (4 : Nat) (Option.some Jvm.ClassFile.FieldType.int)) ∈ lw_gd := lw_gm (lw_in1 (List.mem_of_getElem? (i := 235) rfl)) rfl
theorem gm_189 : (Jvm.Cond.constant "OdometryDesk" (96 : Nat) (3599999 : Int32)) ∈ lw_gd := lw_gm (lw_in1 (List.mem_of_getElem? (i := 236) rfl)) rfl
theorem gm_190 : (Jvm.Cond.methodLink "OdometryDeskLaw" (37 : Nat) ({ cls := "OdometryDesk", name := "step", desc := "(III)I" } : Jvm.MethodName)) ∈ lw_gd := lw_gm (lw_in1 (List.mem_of_getElem? (i := 237) rfl)) rfl
theorem gm_191 : (Jvm.Cond.instanceMethod ({ cls := "OdometryDesk", name := "step", desc := "(III)I" } : Jvm.MethodName)) ∈ lw_gd := lw_gm (lw_in1 (List.mem_of_getElem? (i := 238) rfl)) rfl
theorem gm_192 : (Jvm.Cond.selects "OdometryDesk" ({ cls := "OdometryDesk", name := "step", desc := "(III)I" } : Jvm.MethodName) ({ cls := "OdometryDesk", name := "step", desc := "(III)I" } : Jvm.MethodName)) ∈ lw_gd := lw_gm (lw_in1 (List.mem_of_getElem? (i := 239) rfl)) rfl
theorem gm_193 : (Jvm.Cond.code ({ cls := "OdometryDesk", name := "step", desc := "(III)I" } : Jvm.MethodName) prog_1_method_7_code (4 : Nat) (Option.some Jvm.ClassFile.FieldType.int)) ∈ lw_gd := lw_gm (lw_in2 (List.mem_of_getElem? (i := 0) rfl)) rfl
theorem gm_194 : (Jvm.Cond.methodLink "OdometryDesk" (109 : Nat) ({ cls := "OdometryDesk$State", name := "addStep", desc := "(III)I" } : Jvm.MethodName)) ∈ lw_gd := lw_gm (lw_in2 (List.mem_of_getElem? (i := 1) rfl)) rfl
theorem gm_195 : (Jvm.Cond.instanceMethod ({ cls := "OdometryDesk$State", name := "addStep", desc := "(III)I" } : Jvm.MethodName)) ∈ lw_gd := lw_gm (lw_in2 (List.mem_of_getElem? (i := 2) rfl)) rfl
theorem gm_196 : (Jvm.Cond.selects "OdometryDesk$State" ({ cls := "OdometryDesk$State", name := "addStep", desc := "(III)I" } : Jvm.MethodName) ({ cls := "OdometryDesk$State", name := "addStep", desc := "(III)I" } : Jvm.MethodName)) ∈ lw_gd := lw_gm (lw_in2 (List.mem_of_getElem? (i := 3) rfl)) rfl
theorem gm_197 : (Jvm.Cond.code ({ cls := "OdometryDesk$State", name := "addStep", desc := "(III)I" } : Jvm.MethodName) prog_3_method_3_code (4 : Nat) (Option.some Jvm.ClassFile.FieldType.int)) ∈ lw_gd := lw_gm (lw_in2 (List.mem_of_getElem? (i := 4) rfl)) rfl
theorem gm_198 : (Jvm.Cond.constant "OdometryDesk$State" (64 : Nat) (-300000 : Int32)) ∈ lw_gd := lw_gm (lw_in2 (List.mem_of_getElem? (i := 6) rfl)) rfl
theorem gm_199 : (Jvm.Cond.constant "OdometryDesk$State" (65 : Nat) (300000 : Int32)) ∈ lw_gd := lw_gm (lw_in2 (List.mem_of_getElem? (i := 7) rfl)) rfl
theorem gm_200 : (Jvm.Cond.methodLink "OdometryDeskLaw" (41 : Nat) ({ cls := "OdometryDesk", name := "see", desc := "(I)I" } : Jvm.MethodName)) ∈ lw_gd := lw_gm (lw_in2 (List.mem_of_getElem? (i := 9) rfl)) rfl
theorem gm_201 : (Jvm.Cond.instanceMethod ({ cls := "OdometryDesk", name := "see", desc := "(I)I" } : Jvm.MethodName)) ∈ lw_gd := lw_gm (lw_in2 (List.mem_of_getElem? (i := 10) rfl)) rfl
theorem gm_202 : (Jvm.Cond.selects "OdometryDesk" ({ cls := "OdometryDesk", name := "see", desc := "(I)I" } : Jvm.MethodName) ({ cls := "OdometryDesk", name := "see", desc := "(I)I" } : Jvm.MethodName)) ∈ lw_gd := lw_gm (lw_in2 (List.mem_of_getElem? (i := 11) rfl)) rfl
theorem gm_203 : (Jvm.Cond.code ({ cls := "OdometryDesk", name := "see", desc := "(I)I" } : Jvm.MethodName) prog_1_method_8_code (2 : Nat) (Option.some Jvm.ClassFile.FieldType.int)) ∈ lw_gd := lw_gm (lw_in2 (List.mem_of_getElem? (i := 12) rfl)) rfl
theorem gm_204 : (Jvm.Cond.methodLink "OdometryDesk" (113 : Nat) ({ cls := "OdometryDesk$State", name := "addSight", desc := "(I)I" } : Jvm.MethodName)) ∈ lw_gd := lw_gm (lw_in2 (List.mem_of_getElem? (i := 13) rfl)) rfl
theorem gm_205 : (Jvm.Cond.instanceMethod ({ cls := "OdometryDesk$State", name := "addSight", desc := "(I)I" } : Jvm.MethodName)) ∈ lw_gd := lw_gm (lw_in2 (List.mem_of_getElem? (i := 14) rfl)) rfl
theorem gm_206 : (Jvm.Cond.selects "OdometryDesk$State" ({ cls := "OdometryDesk$State", name := "addSight", desc := "(I)I" } : Jvm.MethodName) ({ cls := "OdometryDesk$State", name := "addSight", desc := "(I)I" } : Jvm.MethodName)) ∈ lw_gd := lw_gm (lw_in2 (List.mem_of_getElem? (i := 15) rfl)) rfl
theorem gm_207 : (Jvm.Cond.code ({ cls := "OdometryDesk$State", name := "addSight", desc := "(I)I" } : Jvm.MethodName) prog_3_method_4_code (2 : Nat) (Option.some Jvm.ClassFile.FieldType.int)) ∈ lw_gd := lw_gm (lw_in2 (List.mem_of_getElem? (i := 16) rfl)) rfl
theorem gm_208 : (Jvm.Cond.methodLink "OdometryDeskLaw" (46 : Nat) ({ cls := "OdometryDesk", name := "cut", desc := "(I)I" } : Jvm.MethodName)) ∈ lw_gd := lw_gm (lw_in2 (List.mem_of_getElem? (i := 17) rfl)) rfl
theorem gm_209 : (Jvm.Cond.instanceMethod ({ cls := "OdometryDesk", name := "cut", desc := "(I)I" } : Jvm.MethodName)) ∈ lw_gd := lw_gm (lw_in2 (List.mem_of_getElem? (i := 18) rfl)) rfl
theorem gm_210 : (Jvm.Cond.selects "OdometryDesk" ({ cls := "OdometryDesk", name := "cut", desc := "(I)I" } : Jvm.MethodName) ({ cls := "OdometryDesk", name := "cut", desc := "(I)I" } : Jvm.MethodName)) ∈ lw_gd := lw_gm (lw_in2 (List.mem_of_getElem? (i := 19) rfl)) rfl
theorem gm_211 : (Jvm.Cond.code ({ cls := "OdometryDesk", name := "cut", desc := "(I)I" } : Jvm.MethodName) prog_1_method_9_code (2 : Nat) (Option.some Jvm.ClassFile.FieldType.int)) ∈ lw_gd := lw_gm (lw_in2 (List.mem_of_getElem? (i := 20) rfl)) rfl
theorem gm_212 : (Jvm.Cond.methodLink "OdometryDeskLaw" (50 : Nat) ({ cls := "OdometryDesk", name := "pose", desc := "(II)I" } : Jvm.MethodName)) ∈ lw_gd := lw_gm (lw_in2 (List.mem_of_getElem? (i := 21) rfl)) rfl
theorem gm_213 : (Jvm.Cond.instanceMethod ({ cls := "OdometryDesk", name := "pose", desc := "(II)I" } : Jvm.MethodName)) ∈ lw_gd := lw_gm (lw_in2 (List.mem_of_getElem? (i := 22) rfl)) rfl
theorem gm_214 : (Jvm.Cond.selects "OdometryDesk" ({ cls := "OdometryDesk", name := "pose", desc := "(II)I" } : Jvm.MethodName) ({ cls := "OdometryDesk", name := "pose", desc := "(II)I" } : Jvm.MethodName)) ∈ lw_gd := lw_gm (lw_in2 (List.mem_of_getElem? (i := 23) rfl)) rfl
theorem gm_215 : (Jvm.Cond.code ({ cls := "OdometryDesk", name := "pose", desc := "(II)I" } : Jvm.MethodName) prog_1_method_10_code (3 : Nat) (Option.some Jvm.ClassFile.FieldType.int)) ∈ lw_gd := lw_gm (lw_in2 (List.mem_of_getElem? (i := 24) rfl)) rfl
theorem gm_216 : (Jvm.Cond.constant "OdometryDesk" (117 : Nat) (-1000000001 : Int32)) ∈ lw_gd := lw_gm (lw_in2 (List.mem_of_getElem? (i := 25) rfl)) rfl
theorem gm_217 : (Jvm.Cond.constant "OdometryDesk" (118 : Nat) (-1000000002 : Int32)) ∈ lw_gd := lw_gm (lw_in2 (List.mem_of_getElem? (i := 26) rfl)) rfl
theorem gm_218 : (Jvm.Cond.methodLink "OdometryDesk" (119 : Nat) ({ cls := "OdometryDesk$Way", name := "follow", desc := "(LOdometryDesk$State;[I)V" } : Jvm.MethodName)) ∈ lw_gd := lw_gm (lw_in2 (List.mem_of_getElem? (i := 27) rfl)) rfl
theorem gm_219 : (Jvm.Cond.instanceMethod ({ cls := "OdometryDesk$Way", name := "follow", desc := "(LOdometryDesk$State;[I)V" } : Jvm.MethodName)) ∈ lw_gd := lw_gm (lw_in2 (List.mem_of_getElem? (i := 28) rfl)) rfl
theorem gm_220 : (Jvm.Cond.selects "OdometryDesk$Way" ({ cls := "OdometryDesk$Way", name := "follow", desc := "(LOdometryDesk$State;[I)V" } : Jvm.MethodName) ({ cls := "OdometryDesk$Way", name := "follow", desc := "(LOdometryDesk$State;[I)V" } : Jvm.MethodName)) ∈ lw_gd := lw_gm (lw_in2 (List.mem_of_getElem? (i := 29) rfl)) rfl
theorem gm_221 : (Jvm.Cond.code ({ cls := "OdometryDesk$Way", name := "follow", desc := "(LOdometryDesk$State;[I)V" } : Jvm.MethodName) prog_4_method_2_code (4 : Nat) (Option.none : Option Jvm.ClassFile.FieldType)) ∈ lw_gd := lw_gm (lw_in2 (List.mem_of_getElem? (i := 30) rfl)) rfl
theorem gm_222 : (Jvm.Cond.methodLink "OdometryDesk$Way" (57 : Nat) ({ cls := "java/util/Arrays", name := "fill", desc := "([II)V" } : Jvm.MethodName)) ∈ lw_gd := lw_gm (lw_in2 (List.mem_of_getElem? (i := 31) rfl)) rfl
theorem gm_223 : (Jvm.Cond.static ({ cls := "java/util/Arrays", name := "fill", desc := "([II)V" } : Jvm.MethodName)) ∈ lw_gd := lw_gm (lw_in2 (List.mem_of_getElem? (i := 32) rfl)) rfl
theorem gm_224 : (Jvm.Cond.code ({ cls := "java/util/Arrays", name := "fill", desc := "([II)V" } : Jvm.MethodName) prog_10_method_103_code (4 : Nat) (Option.none : Option Jvm.ClassFile.FieldType)) ∈ lw_gd := lw_gm (lw_in2 (List.mem_of_getElem? (i := 33) rfl)) rfl
theorem gm_225 : (Jvm.Cond.constant "OdometryDesk$Way" (63 : Nat) (-1000000006 : Int32)) ∈ lw_gd := lw_gm (lw_in2 (List.mem_of_getElem? (i := 34) rfl)) rfl
theorem gm_226 : (Jvm.Cond.methodLink "OdometryDesk$Way" (64 : Nat) ({ cls := "OdometryDesk$Way", name := "keepPose", desc := "(I)V" } : Jvm.MethodName)) ∈ lw_gd := lw_gm (lw_in2 (List.mem_of_getElem? (i := 35) rfl)) rfl
theorem gm_227 : (Jvm.Cond.instanceMethod ({ cls := "OdometryDesk$Way", name := "keepPose", desc := "(I)V" } : Jvm.MethodName)) ∈ lw_gd := lw_gm (lw_in2 (List.mem_of_getElem? (i := 37) rfl)) rfl
theorem gm_228 : (Jvm.Cond.code ({ cls := "OdometryDesk$Way", name := "keepPose", desc := "(I)V" } : Jvm.MethodName) prog_4_method_8_code (2 : Nat) (Option.none : Option Jvm.ClassFile.FieldType)) ∈ lw_gd := lw_gm (lw_in2 (List.mem_of_getElem? (i := 38) rfl)) rfl
theorem gm_229 : (Jvm.Cond.methodLink "OdometryDesk$Way" (71 : Nat) ({ cls := "OdometryDesk$State", name := "isSight", desc := "(I)Z" } : Jvm.MethodName)) ∈ lw_gd := lw_gm (lw_in2 (List.mem_of_getElem? (i := 40) rfl)) rfl
theorem gm_230 : (Jvm.Cond.instanceMethod ({ cls := "OdometryDesk$State", name := "isSight", desc := "(I)Z" } : Jvm.MethodName)) ∈ lw_gd := lw_gm (lw_in2 (List.mem_of_getElem? (i := 41) rfl)) rfl
theorem gm_231 : (Jvm.Cond.selects "OdometryDesk$State" ({ cls := "OdometryDesk$State", name := "isSight", desc := "(I)Z" } : Jvm.MethodName) ({ cls := "OdometryDesk$State", name := "isSight", desc := "(I)Z" } : Jvm.MethodName)) ∈ lw_gd := lw_gm (lw_in2 (List.mem_of_getElem? (i := 42) rfl)) rfl
theorem gm_232 : (Jvm.Cond.code ({ cls := "OdometryDesk$State", name := "isSight", desc := "(I)Z" } : Jvm.MethodName) prog_3_method_5_code (2 : Nat) (Option.some Jvm.ClassFile.FieldType.boolean)) ∈ lw_gd := lw_gm (lw_in2 (List.mem_of_getElem? (i := 43) rfl)) rfl
theorem gm_233 : (Jvm.Cond.static ({ cls := "OdometryDesk", name := "item", desc := "([[III)I" } : Jvm.MethodName)) ∈ lw_gd := lw_gm (lw_in2 (List.mem_of_getElem? (i := 45) rfl)) rfl
theorem gm_234 : (Jvm.Cond.code ({ cls := "OdometryDesk", name := "item", desc := "([[III)I" } : Jvm.MethodName) prog_1_method_35_code (3 : Nat) (Option.some Jvm.ClassFile.FieldType.int)) ∈ lw_gd := lw_gm (lw_in2 (List.mem_of_getElem? (i := 46) rfl)) rfl
theorem gm_235 : (Jvm.Cond.methodLink "OdometryDesk$Way" (75 : Nat) ({ cls := "OdometryDesk$Way", name := "meet", desc := "(LOdometryDesk$State;I)V" } : Jvm.MethodName)) ∈ lw_gd := lw_gm (lw_in2 (List.mem_of_getElem? (i := 47) rfl)) rfl
theorem gm_236 : (Jvm.Cond.instanceMethod ({ cls := "OdometryDesk$Way", name := "meet", desc := "(LOdometryDesk$State;I)V" } : Jvm.MethodName)) ∈ lw_gd := lw_gm (lw_in2 (List.mem_of_getElem? (i := 49) rfl)) rfl
theorem gm_237 : (Jvm.Cond.code ({ cls := "OdometryDesk$Way", name := "meet", desc := "(LOdometryDesk$State;I)V" } : Jvm.MethodName) prog_4_method_10_code (6 : Nat) (Option.none : Option Jvm.ClassFile.FieldType)) ∈ lw_gd := lw_gm (lw_in2 (List.mem_of_getElem? (i := 50) rfl)) rfl
theorem gm_238 : (Jvm.Cond.methodLink "OdometryDesk$Way" (125 : Nat) ({ cls := "OdometryDesk$Way", name := "keepKind", desc := "(II)V" } : Jvm.MethodName)) ∈ lw_gd := lw_gm (lw_in2 (List.mem_of_getElem? (i := 52) rfl)) rfl
theorem gm_239 : (Jvm.Cond.instanceMethod ({ cls := "OdometryDesk$Way", name := "keepKind", desc := "(II)V" } : Jvm.MethodName)) ∈ lw_gd := lw_gm (lw_in2 (List.mem_of_getElem? (i := 54) rfl)) rfl
theorem gm_240 : (Jvm.Cond.code ({ cls := "OdometryDesk$Way", name := "keepKind", desc := "(II)V" } : Jvm.MethodName) prog_4_method_9_code (3 : Nat) (Option.none : Option Jvm.ClassFile.FieldType)) ∈ lw_gd := lw_gm (lw_in2 (List.mem_of_getElem? (i := 55) rfl)) rfl
theorem gm_241 : (Jvm.Cond.methodLink "OdometryDesk$Way" (129 : Nat) ({ cls := "java/lang/Math", name := "abs", desc := "(I)I" } : Jvm.MethodName)) ∈ lw_gd := lw_gm (lw_in2 (List.mem_of_getElem? (i := 58) rfl)) rfl
theorem gm_242 : (Jvm.Cond.static ({ cls := "java/lang/Math", name := "abs", desc := "(I)I" } : Jvm.MethodName)) ∈ lw_gd := lw_gm (lw_in2 (List.mem_of_getElem? (i := 59) rfl)) rfl
theorem gm_243 : (Jvm.Cond.code ({ cls := "java/lang/Math", name := "abs", desc := "(I)I" } : Jvm.MethodName) prog_8_method_59_code (1 : Nat) (Option.some Jvm.ClassFile.FieldType.int)) ∈ lw_gd := lw_gm (lw_in2 (List.mem_of_getElem? (i := 60) rfl)) rfl
theorem gm_244 : (Jvm.Cond.methodLink "OdometryDesk$Way" (79 : Nat) ({ cls := "OdometryDesk$Way", name := "go", desc := "(LOdometryDesk$State;[II)V" } : Jvm.MethodName)) ∈ lw_gd := lw_gm (lw_in2 (List.mem_of_getElem? (i := 61) rfl)) rfl
theorem gm_245 : (Jvm.Cond.instanceMethod ({ cls := "OdometryDesk$Way", name := "go", desc := "(LOdometryDesk$State;[II)V" } : Jvm.MethodName)) ∈ lw_gd := lw_gm (lw_in2 (List.mem_of_getElem? (i := 63) rfl)) rfl
theorem gm_246 : (Jvm.Cond.code ({ cls := "OdometryDesk$Way", name := "go", desc := "(LOdometryDesk$State;[II)V" } : Jvm.MethodName) prog_4_method_11_code (7 : Nat) (Option.none : Option Jvm.ClassFile.FieldType)) ∈ lw_gd := lw_gm (lw_in2 (List.mem_of_getElem? (i := 64) rfl)) rfl
theorem gm_247 : (Jvm.Cond.static ({ cls := "OdometryDesk", name := "ratio", desc := "(JJ)J" } : Jvm.MethodName)) ∈ lw_gd := lw_gm (lw_in2 (List.mem_of_getElem? (i := 66) rfl)) rfl
theorem gm_248 : (Jvm.Cond.code ({ cls := "OdometryDesk", name := "ratio", desc := "(JJ)J" } : Jvm.MethodName) prog_1_method_32_code (4 : Nat) (Option.some Jvm.ClassFile.FieldType.long)) ∈ lw_gd := lw_gm (lw_in2 (List.mem_of_getElem? (i := 67) rfl)) rfl
theorem gm_249 : (Jvm.Cond.methodLink "OdometryDesk$Way" (132 : Nat) ({ cls := "OdometryDesk$Way", name := "weighStep", desc := "([IIJJ)V" } : Jvm.MethodName)) ∈ lw_gd := lw_gm (lw_in2 (List.mem_of_getElem? (i := 68) rfl)) rfl
theorem gm_250 : (Jvm.Cond.instanceMethod ({ cls := "OdometryDesk$Way", name := "weighStep", desc := "([IIJJ)V" } : Jvm.MethodName)) ∈ lw_gd := lw_gm (lw_in2 (List.mem_of_getElem? (i := 70) rfl)) rfl
theorem gm_251 : (Jvm.Cond.code ({ cls := "OdometryDesk$Way", name := "weighStep", desc := "([IIJJ)V" } : Jvm.MethodName) prog_4_method_12_code (16 : Nat) (Option.none : Option Jvm.ClassFile.FieldType)) ∈ lw_gd := lw_gm (lw_in2 (List.mem_of_getElem? (i := 71) rfl)) rfl
theorem gm_252 : (Jvm.Cond.constantLong "OdometryDesk$Way" (148 : Nat) (1000 : Int64)) ∈ lw_gd := lw_gm (lw_in2 (List.mem_of_getElem? (i := 72) rfl)) rfl
theorem gm_253 : (Jvm.Cond.constantLong "OdometryDesk$Way" (150 : Nat) (572958 : Int64)) ∈ lw_gd := lw_gm (lw_in2 (List.mem_of_getElem? (i := 73) rfl)) rfl
theorem gm_254 : (Jvm.Cond.methodLink "OdometryDesk$Way" (152 : Nat) ({ cls := "java/lang/Math", name := "abs", desc := "(J)J" } : Jvm.MethodName)) ∈ lw_gd := lw_gm (lw_in2 (List.mem_of_getElem? (i := 74) rfl)) rfl
theorem gm_255 : (Jvm.Cond.static ({ cls := "java/lang/Math", name := "abs", desc := "(J)J" } : Jvm.MethodName)) ∈ lw_gd := lw_gm (lw_in2 (List.mem_of_getElem? (i := 75) rfl)) rfl
theorem gm_256 : (Jvm.Cond.code ({ cls := "java/lang/Math", name := "abs", desc := "(J)J" } : Jvm.MethodName) prog_8_method_61_code (2 : Nat) (Option.some Jvm.ClassFile.FieldType.long)) ∈ lw_gd := lw_gm (lw_in2 (List.mem_of_getElem? (i := 76) rfl)) rfl
theorem gm_257 : (Jvm.Cond.constantLong "OdometryDesk$Way" (155 : Nat) (100 : Int64)) ∈ lw_gd := lw_gm (lw_in2 (List.mem_of_getElem? (i := 77) rfl)) rfl
theorem gm_258 : (Jvm.Cond.constantLong "OdometryDesk$Way" (157 : Nat) (2 : Int64)) ∈ lw_gd := lw_gm (lw_in2 (List.mem_of_getElem? (i := 78) rfl)) rfl
theorem gm_259 : (Jvm.Cond.methodLink "OdometryDesk$Way" (142 : Nat) ({ cls := "OdometryDesk$Way", name := "move", desc := "()V" } : Jvm.MethodName)) ∈ lw_gd := lw_gm (lw_in2 (List.mem_of_getElem? (i := 79) rfl)) rfl
theorem gm_260 : (Jvm.Cond.instanceMethod ({ cls := "OdometryDesk$Way", name := "move", desc := "()V" } : Jvm.MethodName)) ∈ lw_gd := lw_gm (lw_in2 (List.mem_of_getElem? (i := 81) rfl)) rfl
theorem gm_261 : (Jvm.Cond.code ({ cls := "OdometryDesk$Way", name := "move", desc := "()V" } : Jvm.MethodName) prog_4_method_13_code (2 : Nat) (Option.none : Option Jvm.ClassFile.FieldType)) ∈ lw_gd := lw_gm (lw_in2 (List.mem_of_getElem? (i := 82) rfl)) rfl
theorem gm_262 : (Jvm.Cond.static ({ cls := "OdometryDesk", name := "asHeading", desc := "(J)I" } : Jvm.MethodName)) ∈ lw_gd := lw_gm (lw_in2 (List.mem_of_getElem? (i := 84) rfl)) rfl
theorem gm_263 : (Jvm.Cond.code ({ cls := "OdometryDesk", name := "asHeading", desc := "(J)I" } : Jvm.MethodName) prog_1_method_31_code (2 : Nat) (Option.some Jvm.ClassFile.FieldType.int)) ∈ lw_gd := lw_gm (lw_in2 (List.mem_of_getElem? (i := 85) rfl)) rfl
theorem gm_264 : (Jvm.Cond.constantLong "OdometryDesk" (242 : Nat) (3600000 : Int64)) ∈ lw_gd := lw_gm (lw_in2 (List.mem_of_getElem? (i := 86) rfl)) rfl
theorem gm_265 : (Jvm.Cond.methodLink "OdometryDesk" (244 : Nat) ({ cls := "java/lang/Math", name := "floorMod", desc := "(JJ)J" } : Jvm.MethodName)) ∈ lw_gd := lw_gm (lw_in2 (List.mem_of_getElem? (i := 87) rfl)) rfl
theorem gm_266 : (Jvm.Cond.static ({ cls := "java/lang/Math", name := "floorMod", desc := "(JJ)J" } : Jvm.MethodName)) ∈ lw_gd := lw_gm (lw_in2 (List.mem_of_getElem? (i := 88) rfl)) rfl
theorem gm_267 : (Jvm.Cond.code ({ cls := "java/lang/Math", name := "floorMod", desc := "(JJ)J" } : Jvm.MethodName) prog_8_method_52_code (6 : Nat) (Option.some Jvm.ClassFile.FieldType.long)) ∈ lw_gd := lw_gm (lw_in2 (List.mem_of_getElem? (i := 89) rfl)) rfl
theorem gm_268 : (Jvm.Cond.static ({ cls := "OdometryDesk", name := "angleOfCosine", desc := "(I)I" } : Jvm.MethodName)) ∈ lw_gd := lw_gm (lw_in2 (List.mem_of_getElem? (i := 91) rfl)) rfl
theorem gm_269 : (Jvm.Cond.code ({ cls := "OdometryDesk", name := "angleOfCosine", desc := "(I)I" } : Jvm.MethodName) prog_1_method_30_code (1 : Nat) (Option.some Jvm.ClassFile.FieldType.int)) ∈ lw_gd := lw_gm (lw_in2 (List.mem_of_getElem? (i := 92) rfl)) rfl
theorem gm_270 : (Jvm.Cond.constant "OdometryDesk" (241 : Nat) (36000 : Int32)) ∈ lw_gd := lw_gm (lw_in2 (List.mem_of_getElem? (i := 93) rfl)) rfl
theorem gm_271 : (Jvm.Cond.static ({ cls := "OdometryDesk", name := "sine", desc := "(I)I" } : Jvm.MethodName)) ∈ lw_gd := lw_gm (lw_in2 (List.mem_of_getElem? (i := 95) rfl)) rfl
theorem gm_272 : (Jvm.Cond.code ({ cls := "OdometryDesk", name := "sine", desc := "(I)I" } : Jvm.MethodName) prog_1_method_29_code (6 : Nat) (Option.some Jvm.ClassFile.FieldType.int)) ∈ lw_gd := lw_gm (lw_in2 (List.mem_of_getElem? (i := 96) rfl)) rfl
theorem gm_273 : (Jvm.Cond.constantLong "OdometryDesk" (231 : Nat) (18000 : Int64)) ∈ lw_gd := lw_gm (lw_in2 (List.mem_of_getElem? (i := 97) rfl)) rfl
theorem gm_274 : (Jvm.Cond.constantLong "OdometryDesk" (233 : Nat) (4000000 : Int64)) ∈ lw_gd := lw_gm (lw_in2 (List.mem_of_getElem? (i := 98) rfl)) rfl
theorem gm_275 : (Jvm.Cond.constantLong "OdometryDesk" (235 : Nat) (405000000 : Int64)) ∈ lw_gd := lw_gm (lw_in2 (List.mem_of_getElem? (i := 99) rfl)) rfl
theorem gm_276 : (Jvm.Cond.methodLink "OdometryDesk" (237 : Nat) ({ cls := "OdometryDesk", name := "ratio", desc := "(JJ)J" } : Jvm.MethodName)) ∈ lw_gd := lw_gm (lw_in2 (List.mem_of_getElem? (i := 100) rfl)) rfl
theorem gm_277 : (Jvm.Cond.constantLong "OdometryDesk$Way" (169 : Nat) (1000000 : Int64)) ∈ lw_gd := lw_gm (lw_in2 (List.mem_of_getElem? (i := 101) rfl)) rfl
theorem gm_278 : (Jvm.Cond.methodLink "OdometryDesk$Way" (145 : Nat) ({ cls := "OdometryDesk$Way", name := "followCorridor", desc := "(LOdometryDesk$State;[II)V" } : Jvm.MethodName)) ∈ lw_gd := lw_gm (lw_in2 (List.mem_of_getElem? (i := 102) rfl)) rfl
theorem gm_279 : (Jvm.Cond.instanceMethod ({ cls := "OdometryDesk$Way", name := "followCorridor", desc := "(LOdometryDesk$State;[II)V" } : Jvm.MethodName)) ∈ lw_gd := lw_gm (lw_in2 (List.mem_of_getElem? (i := 104) rfl)) rfl
theorem gm_280 : (Jvm.Cond.code ({ cls := "OdometryDesk$Way", name := "followCorridor", desc := "(LOdometryDesk$State;[II)V" } : Jvm.MethodName) prog_4_method_14_code (7 : Nat) (Option.none : Option Jvm.ClassFile.FieldType)) ∈ lw_gd := lw_gm (lw_in2 (List.mem_of_getElem? (i := 105) rfl)) rfl
theorem gm_281 : (Jvm.Cond.methodLink "OdometryDesk$Way" (177 : Nat) ({ cls := "OdometryDesk$Way", name := "offDirection", desc := "(I)I" } : Jvm.MethodName)) ∈ lw_gd := lw_gm (lw_in2 (List.mem_of_getElem? (i := 106) rfl)) rfl
theorem gm_282 : (Jvm.Cond.instanceMethod ({ cls := "OdometryDesk$Way", name := "offDirection", desc := "(I)I" } : Jvm.MethodName)) ∈ lw_gd := lw_gm (lw_in2 (List.mem_of_getElem? (i := 108) rfl)) rfl
theorem gm_283 : (Jvm.Cond.code ({ cls := "OdometryDesk$Way", name := "offDirection", desc := "(I)I" } : Jvm.MethodName) prog_4_method_15_code (2 : Nat) (Option.some Jvm.ClassFile.FieldType.int)) ∈ lw_gd := lw_gm (lw_in2 (List.mem_of_getElem? (i := 109) rfl)) rfl
theorem gm_284 : (Jvm.Cond.constant "OdometryDesk$Way" (184 : Nat) (900000 : Int32)) ∈ lw_gd := lw_gm (lw_in2 (List.mem_of_getElem? (i := 110) rfl)) rfl
theorem gm_285 : (Jvm.Cond.constant "OdometryDesk$Way" (185 : Nat) (1800000 : Int32)) ∈ lw_gd := lw_gm (lw_in2 (List.mem_of_getElem? (i := 111) rfl)) rfl
theorem gm_286 : (Jvm.Cond.methodLink "OdometryDesk$Way" (186 : Nat) ({ cls := "java/lang/Math", name := "floorMod", desc := "(II)I" } : Jvm.MethodName)) ∈ lw_gd := lw_gm (lw_in2 (List.mem_of_getElem? (i := 112) rfl)) rfl
theorem gm_287 : (Jvm.Cond.static ({ cls := "java/lang/Math", name := "floorMod", desc := "(II)I" } : Jvm.MethodName)) ∈ lw_gd := lw_gm (lw_in2 (List.mem_of_getElem? (i := 113) rfl)) rfl
theorem gm_288 : (Jvm.Cond.code ({ cls := "java/lang/Math", name := "floorMod", desc := "(II)I" } : Jvm.MethodName) prog_8_method_50_code (3 : Nat) (Option.some Jvm.ClassFile.FieldType.int)) ∈ lw_gd := lw_gm (lw_in2 (List.mem_of_getElem? (i := 114) rfl)) rfl
theorem gm_289 : (Jvm.Cond.methodLink "OdometryDesk$Way" (180 : Nat) ({ cls := "OdometryDesk$State", name := "isNear", desc := "(IIII)Z" } : Jvm.MethodName)) ∈ lw_gd := lw_gm (lw_in2 (List.mem_of_getElem? (i := 115) rfl)) rfl
theorem gm_290 : (Jvm.Cond.instanceMethod ({ cls := "OdometryDesk$State", name := "isNear", desc := "(IIII)Z" } : Jvm.MethodName)) ∈ lw_gd := lw_gm (lw_in2 (List.mem_of_getElem? (i := 116) rfl)) rfl
theorem gm_291 : (Jvm.Cond.selects "OdometryDesk$State" ({ cls := "OdometryDesk$State", name := "isNear", desc := "(IIII)Z" } : Jvm.MethodName) ({ cls := "OdometryDesk$State", name := "isNear", desc := "(IIII)Z" } : Jvm.MethodName)) ∈ lw_gd := lw_gm (lw_in2 (List.mem_of_getElem? (i := 117) rfl)) rfl
theorem gm_292 : (Jvm.Cond.code ({ cls := "OdometryDesk$State", name := "isNear", desc := "(IIII)Z" } : Jvm.MethodName) prog_3_method_7_code (5 : Nat) (Option.some Jvm.ClassFile.FieldType.boolean)) ∈ lw_gd := lw_gm (lw_in2 (List.mem_of_getElem? (i := 118) rfl)) rfl
theorem gm_293 : (Jvm.Cond.methodLink "OdometryDesk" (123 : Nat) ({ cls := "OdometryDesk$Way", name := "behind", desc := "(II)I" } : Jvm.MethodName)) ∈ lw_gd := lw_gm (lw_in2 (List.mem_of_getElem? (i := 119) rfl)) rfl
theorem gm_294 : (Jvm.Cond.instanceMethod ({ cls := "OdometryDesk$Way", name := "behind", desc := "(II)I" } : Jvm.MethodName)) ∈ lw_gd := lw_gm (lw_in2 (List.mem_of_getElem? (i := 120) rfl)) rfl
theorem gm_295 : (Jvm.Cond.selects "OdometryDesk$Way" ({ cls := "OdometryDesk$Way", name := "behind", desc := "(II)I" } : Jvm.MethodName) ({ cls := "OdometryDesk$Way", name := "behind", desc := "(II)I" } : Jvm.MethodName)) ∈ lw_gd := lw_gm (lw_in2 (List.mem_of_getElem? (i := 121) rfl)) rfl
theorem gm_296 : (Jvm.Cond.code ({ cls := "OdometryDesk$Way", name := "behind", desc := "(II)I" } : Jvm.MethodName) prog_4_method_4_code (3 : Nat) (Option.some Jvm.ClassFile.FieldType.int)) ∈ lw_gd := lw_gm (lw_in2 (List.mem_of_getElem? (i := 122) rfl)) rfl
theorem gm_297 : (Jvm.Cond.methodLink "OdometryDesk" (126 : Nat) ({ cls := "OdometryDesk$Way", name := "spreadPlace", desc := "(III)I" } : Jvm.MethodName)) ∈ lw_gd := lw_gm (lw_in2 (List.mem_of_getElem? (i := 123) rfl)) rfl
theorem gm_298 : (Jvm.Cond.instanceMethod ({ cls := "OdometryDesk$Way", name := "spreadPlace", desc := "(III)I" } : Jvm.MethodName)) ∈ lw_gd := lw_gm (lw_in2 (List.mem_of_getElem? (i := 124) rfl)) rfl
theorem gm_299 : (Jvm.Cond.selects "OdometryDesk$Way" ({ cls := "OdometryDesk$Way", name := "spreadPlace", desc := "(III)I" } : Jvm.MethodName) ({ cls := "OdometryDesk$Way", name := "spreadPlace", desc := "(III)I" } : Jvm.MethodName)) ∈ lw_gd := lw_gm (lw_in2 (List.mem_of_getElem? (i := 125) rfl)) rfl
theorem gm_300 : (Jvm.Cond.code ({ cls := "OdometryDesk$Way", name := "spreadPlace", desc := "(III)I" } : Jvm.MethodName) prog_4_method_5_code (10 : Nat) (Option.some Jvm.ClassFile.FieldType.int)) ∈ lw_gd := lw_gm (lw_in2 (List.mem_of_getElem? (i := 126) rfl)) rfl
theorem gm_301 : (Jvm.Cond.methodLink "OdometryDesk$Way" (95 : Nat) ({ cls := "OdometryDesk$Way", name := "firstSightFrom", desc := "(II)I" } : Jvm.MethodName)) ∈ lw_gd := lw_gm (lw_in2 (List.mem_of_getElem? (i := 127) rfl)) rfl
theorem gm_302 : (Jvm.Cond.instanceMethod ({ cls := "OdometryDesk$Way", name := "firstSightFrom", desc := "(II)I" } : Jvm.MethodName)) ∈ lw_gd := lw_gm (lw_in2 (List.mem_of_getElem? (i := 129) rfl)) rfl
theorem gm_303 : (Jvm.Cond.code ({ cls := "OdometryDesk$Way", name := "firstSightFrom", desc := "(II)I" } : Jvm.MethodName) prog_4_method_6_code (4 : Nat) (Option.some Jvm.ClassFile.FieldType.int)) ∈ lw_gd := lw_gm (lw_in2 (List.mem_of_getElem? (i := 130) rfl)) rfl
theorem gm_304 : (Jvm.Cond.methodLink "OdometryDesk$Way" (99 : Nat) ({ cls := "OdometryDesk$Way", name := "behind", desc := "(II)I" } : Jvm.MethodName)) ∈ lw_gd := lw_gm (lw_in2 (List.mem_of_getElem? (i := 131) rfl)) rfl
theorem gm_305 : (Jvm.Cond.methodLink "OdometryDesk$Way" (102 : Nat) ({ cls := "OdometryDesk$Way", name := "lastSightAhead", desc := "(I)I" } : Jvm.MethodName)) ∈ lw_gd := lw_gm (lw_in2 (List.mem_of_getElem? (i := 132) rfl)) rfl
theorem gm_306 : (Jvm.Cond.instanceMethod ({ cls := "OdometryDesk$Way", name := "lastSightAhead", desc := "(I)I" } : Jvm.MethodName)) ∈ lw_gd := lw_gm (lw_in2 (List.mem_of_getElem? (i := 134) rfl)) rfl
theorem gm_307 : (Jvm.Cond.code ({ cls := "OdometryDesk$Way", name := "lastSightAhead", desc := "(I)I" } : Jvm.MethodName) prog_4_method_7_code (3 : Nat) (Option.some Jvm.ClassFile.FieldType.int)) ∈ lw_gd := lw_gm (lw_in2 (List.mem_of_getElem? (i := 135) rfl)) rfl
theorem gm_308 : (Jvm.Cond.methodLink "OdometryDeskLaw" (54 : Nat) ({ cls := "OdometryDesk", name := "about", desc := "(II)I" } : Jvm.MethodName)) ∈ lw_gd := lw_gm (lw_in2 (List.mem_of_getElem? (i := 136) rfl)) rfl
theorem gm_309 : (Jvm.Cond.instanceMethod ({ cls := "OdometryDesk", name := "about", desc := "(II)I" } : Jvm.MethodName)) ∈ lw_gd := lw_gm (lw_in2 (List.mem_of_getElem? (i := 137) rfl)) rfl
theorem gm_310 : (Jvm.Cond.selects "OdometryDesk" ({ cls := "OdometryDesk", name := "about", desc := "(II)I" } : Jvm.MethodName) ({ cls := "OdometryDesk", name := "about", desc := "(II)I" } : Jvm.MethodName)) ∈ lw_gd := lw_gm (lw_in2 (List.mem_of_getElem? (i := 138) rfl)) rfl
theorem gm_311 : (Jvm.Cond.code ({ cls := "OdometryDesk", name := "about", desc := "(II)I" } : Jvm.MethodName) prog_1_method_11_code (3 : Nat) (Option.some Jvm.ClassFile.FieldType.int)) ∈ lw_gd := lw_gm (lw_in2 (List.mem_of_getElem? (i := 139) rfl)) rfl
theorem gm_312 : (Jvm.Cond.methodLink "OdometryDesk" (132 : Nat) ({ cls := "OdometryDesk", name := "item", desc := "([[III)I" } : Jvm.MethodName)) ∈ lw_gd := lw_gm (lw_in2 (List.mem_of_getElem? (i := 140) rfl)) rfl
theorem gm_313 : (Jvm.Cond.methodLink "OdometryDeskLaw" (58 : Nat) ({ cls := "OdometryDesk", name := "count", desc := "(I)I" } : Jvm.MethodName)) ∈ lw_gd := lw_gm (lw_in2 (List.mem_of_getElem? (i := 141) rfl)) rfl
theorem gm_314 : (Jvm.Cond.instanceMethod ({ cls := "OdometryDesk", name := "count", desc := "(I)I" } : Jvm.MethodName)) ∈ lw_gd := lw_gm (lw_in2 (List.mem_of_getElem? (i := 142) rfl)) rfl
theorem gm_315 : (Jvm.Cond.selects "OdometryDesk" ({ cls := "OdometryDesk", name := "count", desc := "(I)I" } : Jvm.MethodName) ({ cls := "OdometryDesk", name := "count", desc := "(I)I" } : Jvm.MethodName)) ∈ lw_gd := lw_gm (lw_in2 (List.mem_of_getElem? (i := 143) rfl)) rfl
theorem gm_316 : (Jvm.Cond.code ({ cls := "OdometryDesk", name := "count", desc := "(I)I" } : Jvm.MethodName) prog_1_method_12_code (2 : Nat) (Option.some Jvm.ClassFile.FieldType.int)) ∈ lw_gd := lw_gm (lw_in2 (List.mem_of_getElem? (i := 144) rfl)) rfl
theorem gm_317 : (Jvm.Cond.methodLink "OdometryDesk" (138 : Nat) ({ cls := "OdometryDesk$Way", name := "toldErrors", desc := "()I" } : Jvm.MethodName)) ∈ lw_gd := lw_gm (lw_in2 (List.mem_of_getElem? (i := 145) rfl)) rfl
theorem gm_318 : (Jvm.Cond.instanceMethod ({ cls := "OdometryDesk$Way", name := "toldErrors", desc := "()I" } : Jvm.MethodName)) ∈ lw_gd := lw_gm (lw_in2 (List.mem_of_getElem? (i := 146) rfl)) rfl
theorem gm_319 : (Jvm.Cond.selects "OdometryDesk$Way" ({ cls := "OdometryDesk$Way", name := "toldErrors", desc := "()I" } : Jvm.MethodName) ({ cls := "OdometryDesk$Way", name := "toldErrors", desc := "()I" } : Jvm.MethodName)) ∈ lw_gd := lw_gm (lw_in2 (List.mem_of_getElem? (i := 147) rfl)) rfl
theorem gm_320 : (Jvm.Cond.code ({ cls := "OdometryDesk$Way", name := "toldErrors", desc := "()I" } : Jvm.MethodName) prog_4_method_3_code (1 : Nat) (Option.some Jvm.ClassFile.FieldType.int)) ∈ lw_gd := lw_gm (lw_in2 (List.mem_of_getElem? (i := 148) rfl)) rfl
theorem gm_321 : (Jvm.Cond.constantLong "OdometryDesk$Way" (83 : Nat) (2000000000 : Int64)) ∈ lw_gd := lw_gm (lw_in2 (List.mem_of_getElem? (i := 149) rfl)) rfl
theorem gm_322 : (Jvm.Cond.methodLink "OdometryDesk$Way" (85 : Nat) ({ cls := "java/lang/Math", name := "min", desc := "(JJ)J" } : Jvm.MethodName)) ∈ lw_gd := lw_gm (lw_in2 (List.mem_of_getElem? (i := 150) rfl)) rfl
theorem gm_323 : (Jvm.Cond.static ({ cls := "java/lang/Math", name := "min", desc := "(JJ)J" } : Jvm.MethodName)) ∈ lw_gd := lw_gm (lw_in2 (List.mem_of_getElem? (i := 151) rfl)) rfl
theorem gm_324 : (Jvm.Cond.code ({ cls := "java/lang/Math", name := "min", desc := "(JJ)J" } : Jvm.MethodName) prog_8_method_70_code (4 : Nat) (Option.some Jvm.ClassFile.FieldType.long)) ∈ lw_gd := lw_gm (lw_in2 (List.mem_of_getElem? (i := 152) rfl)) rfl
theorem gm_325 : (Jvm.Cond.methodLink "OdometryDeskLaw" (62 : Nat) ({ cls := "OdometryDesk", name := "wave", desc := "(II)I" } : Jvm.MethodName)) ∈ lw_gd := lw_gm (lw_in2 (List.mem_of_getElem? (i := 153) rfl)) rfl
theorem gm_326 : (Jvm.Cond.instanceMethod ({ cls := "OdometryDesk", name := "wave", desc := "(II)I" } : Jvm.MethodName)) ∈ lw_gd := lw_gm (lw_in2 (List.mem_of_getElem? (i := 154) rfl)) rfl
theorem gm_327 : (Jvm.Cond.selects "OdometryDesk" ({ cls := "OdometryDesk", name := "wave", desc := "(II)I" } : Jvm.MethodName) ({ cls := "OdometryDesk", name := "wave", desc := "(II)I" } : Jvm.MethodName)) ∈ lw_gd := lw_gm (lw_in2 (List.mem_of_getElem? (i := 155) rfl)) rfl
theorem gm_328 : (Jvm.Cond.code ({ cls := "OdometryDesk", name := "wave", desc := "(II)I" } : Jvm.MethodName) prog_1_method_13_code (3 : Nat) (Option.some Jvm.ClassFile.FieldType.int)) ∈ lw_gd := lw_gm (lw_in2 (List.mem_of_getElem? (i := 156) rfl)) rfl
theorem gm_329 : (Jvm.Cond.constant "OdometryDesk" (149 : Nat) (35999 : Int32)) ∈ lw_gd := lw_gm (lw_in2 (List.mem_of_getElem? (i := 157) rfl)) rfl
theorem gm_330 : (Jvm.Cond.methodLink "OdometryDesk" (150 : Nat) ({ cls := "OdometryDesk", name := "angleOfCosine", desc := "(I)I" } : Jvm.MethodName)) ∈ lw_gd := lw_gm (lw_in2 (List.mem_of_getElem? (i := 158) rfl)) rfl
theorem gm_331 : (Jvm.Cond.methodLink "OdometryDesk" (153 : Nat) ({ cls := "OdometryDesk", name := "sine", desc := "(I)I" } : Jvm.MethodName)) ∈ lw_gd := lw_gm (lw_in2 (List.mem_of_getElem? (i := 159) rfl)) rfl
theorem gm_332 : (Jvm.Cond.methodLink "OdometryDeskLaw" (66 : Nat) ({ cls := "OdometryDesk", name := "ifSet", desc := "(III)I" } : Jvm.MethodName)) ∈ lw_gd := lw_gm (lw_in2 (List.mem_of_getElem? (i := 160) rfl)) rfl
theorem gm_333 : (Jvm.Cond.instanceMethod ({ cls := "OdometryDesk", name := "ifSet", desc := "(III)I" } : Jvm.MethodName)) ∈ lw_gd := lw_gm (lw_in2 (List.mem_of_getElem? (i := 161) rfl)) rfl
theorem gm_334 : (Jvm.Cond.selects "OdometryDesk" ({ cls := "OdometryDesk", name := "ifSet", desc := "(III)I" } : Jvm.MethodName) ({ cls := "OdometryDesk", name := "ifSet", desc := "(III)I" } : Jvm.MethodName)) ∈ lw_gd := lw_gm (lw_in2 (List.mem_of_getElem? (i := 162) rfl)) rfl
theorem gm_335 : (Jvm.Cond.code ({ cls := "OdometryDesk", name := "ifSet", desc := "(III)I" } : Jvm.MethodName) prog_1_method_14_code (4 : Nat) (Option.some Jvm.ClassFile.FieldType.int)) ∈ lw_gd := lw_gm (lw_in2 (List.mem_of_getElem? (i := 163) rfl)) rfl
theorem gm_336 : (Jvm.Cond.methodLink "OdometryDesk" (156 : Nat) ({ cls := "OdometryDesk", name := "errorsWith", desc := "(II)J" } : Jvm.MethodName)) ∈ lw_gd := lw_gm (lw_in2 (List.mem_of_getElem? (i := 164) rfl)) rfl
theorem gm_337 : (Jvm.Cond.instanceMethod ({ cls := "OdometryDesk", name := "errorsWith", desc := "(II)J" } : Jvm.MethodName)) ∈ lw_gd := lw_gm (lw_in2 (List.mem_of_getElem? (i := 166) rfl)) rfl
theorem gm_338 : (Jvm.Cond.code ({ cls := "OdometryDesk", name := "errorsWith", desc := "(II)J" } : Jvm.MethodName) prog_1_method_25_code (3 : Nat) (Option.some Jvm.ClassFile.FieldType.long)) ∈ lw_gd := lw_gm (lw_in2 (List.mem_of_getElem? (i := 167) rfl)) rfl
theorem gm_339 : (Jvm.Cond.methodLink "OdometryDesk" (215 : Nat) ({ cls := "OdometryDesk", name := "copy", desc := "([I[I)V" } : Jvm.MethodName)) ∈ lw_gd := lw_gm (lw_in2 (List.mem_of_getElem? (i := 168) rfl)) rfl
theorem gm_340 : (Jvm.Cond.static ({ cls := "OdometryDesk", name := "copy", desc := "([I[I)V" } : Jvm.MethodName)) ∈ lw_gd := lw_gm (lw_in2 (List.mem_of_getElem? (i := 169) rfl)) rfl
theorem gm_341 : (Jvm.Cond.code ({ cls := "OdometryDesk", name := "copy", desc := "([I[I)V" } : Jvm.MethodName) prog_1_method_37_code (2 : Nat) (Option.none : Option Jvm.ClassFile.FieldType)) ∈ lw_gd := lw_gm (lw_in2 (List.mem_of_getElem? (i := 170) rfl)) rfl
theorem gm_342 : (Jvm.Cond.methodLink "OdometryDesk" (247 : Nat) ({ cls := "java/lang/System", name := "arraycopy", desc := "(Ljava/lang/Object;ILjava/lang/Object;II)V" } : Jvm.MethodName)) ∈ lw_gd := lw_gm (lw_in2 (List.mem_of_getElem? (i := 171) rfl)) rfl
theorem gm_343 : (Jvm.Cond.static ({ cls := "java/lang/System", name := "arraycopy", desc := "(Ljava/lang/Object;ILjava/lang/Object;II)V" } : Jvm.MethodName)) ∈ lw_gd := lw_gm (lw_in2 (List.mem_of_getElem? (i := 172) rfl)) rfl
theorem gm_344 : (Jvm.Cond.native ({ cls := "java/lang/System", name := "arraycopy", desc := "(Ljava/lang/Object;ILjava/lang/Object;II)V" } : Jvm.MethodName)) ∈ lw_gd := lw_gm (lw_in2 (List.mem_of_getElem? (i := 173) rfl)) rfl
theorem gm_345 : (Jvm.Cond.methodLink "OdometryDeskLaw" (70 : Nat) ({ cls := "OdometryDesk", name := "bestBase", desc := "()I" } : Jvm.MethodName)) ∈ lw_gd := lw_gm (lw_in2 (List.mem_of_getElem? (i := 174) rfl)) rfl
theorem gm_346 : (Jvm.Cond.instanceMethod ({ cls := "OdometryDesk", name := "bestBase", desc := "()I" } : Jvm.MethodName)) ∈ lw_gd := lw_gm (lw_in2 (List.mem_of_getElem? (i := 175) rfl)) rfl
theorem gm_347 : (Jvm.Cond.selects "OdometryDesk" ({ cls := "OdometryDesk", name := "bestBase", desc := "()I" } : Jvm.MethodName) ({ cls := "OdometryDesk", name := "bestBase", desc := "()I" } : Jvm.MethodName)) ∈ lw_gd := lw_gm (lw_in2 (List.mem_of_getElem? (i := 176) rfl)) rfl
theorem gm_348 : (Jvm.Cond.code ({ cls := "OdometryDesk", name := "bestBase", desc := "()I" } : Jvm.MethodName) prog_1_method_15_code (9 : Nat) (Option.some Jvm.ClassFile.FieldType.int)) ∈ lw_gd := lw_gm (lw_in2 (List.mem_of_getElem? (i := 177) rfl)) rfl
theorem gm_349 : (Jvm.Cond.methodLink "OdometryDesk" (169 : Nat) ({ cls := "OdometryDesk$State", name := "hasSights", desc := "()Z" } : Jvm.MethodName)) ∈ lw_gd := lw_gm (lw_in2 (List.mem_of_getElem? (i := 178) rfl)) rfl
theorem gm_350 : (Jvm.Cond.instanceMethod ({ cls := "OdometryDesk$State", name := "hasSights", desc := "()Z" } : Jvm.MethodName)) ∈ lw_gd := lw_gm (lw_in2 (List.mem_of_getElem? (i := 179) rfl)) rfl
theorem gm_351 : (Jvm.Cond.selects "OdometryDesk$State" ({ cls := "OdometryDesk$State", name := "hasSights", desc := "()Z" } : Jvm.MethodName) ({ cls := "OdometryDesk$State", name := "hasSights", desc := "()Z" } : Jvm.MethodName)) ∈ lw_gd := lw_gm (lw_in2 (List.mem_of_getElem? (i := 180) rfl)) rfl
theorem gm_352 : (Jvm.Cond.code ({ cls := "OdometryDesk$State", name := "hasSights", desc := "()Z" } : Jvm.MethodName) prog_3_method_6_code (2 : Nat) (Option.some Jvm.ClassFile.FieldType.boolean)) ∈ lw_gd := lw_gm (lw_in2 (List.mem_of_getElem? (i := 181) rfl)) rfl
theorem gm_353 : (Jvm.Cond.methodLink "OdometryDesk$State" (74 : Nat) ({ cls := "OdometryDesk$State", name := "isSight", desc := "(I)Z" } : Jvm.MethodName)) ∈ lw_gd := lw_gm (lw_in2 (List.mem_of_getElem? (i := 182) rfl)) rfl
theorem gm_354 : (Jvm.Cond.methodLink "OdometryDeskLaw" (74 : Nat) ({ cls := "OdometryDesk", name := "bestTrust", desc := "()I" } : Jvm.MethodName)) ∈ lw_gd := lw_gm (lw_in2 (List.mem_of_getElem? (i := 183) rfl)) rfl
theorem gm_355 : (Jvm.Cond.instanceMethod ({ cls := "OdometryDesk", name := "bestTrust", desc := "()I" } : Jvm.MethodName)) ∈ lw_gd := lw_gm (lw_in2 (List.mem_of_getElem? (i := 184) rfl)) rfl
theorem gm_356 : (Jvm.Cond.selects "OdometryDesk" ({ cls := "OdometryDesk", name := "bestTrust", desc := "()I" } : Jvm.MethodName) ({ cls := "OdometryDesk", name := "bestTrust", desc := "()I" } : Jvm.MethodName)) ∈ lw_gd := lw_gm (lw_in2 (List.mem_of_getElem? (i := 185) rfl)) rfl
theorem gm_357 : (Jvm.Cond.code ({ cls := "OdometryDesk", name := "bestTrust", desc := "()I" } : Jvm.MethodName) prog_1_method_16_code (7 : Nat) (Option.some Jvm.ClassFile.FieldType.int)) ∈ lw_gd := lw_gm (lw_in2 (List.mem_of_getElem? (i := 186) rfl)) rfl
theorem gm_358 : (Jvm.Cond.methodLink "OdometryDeskLaw" (80 : Nat) ({ cls := "OdometryDesk", name := "put", desc := "(J)I" } : Jvm.MethodName)) ∈ lw_gd := lw_gm (lw_in2 (List.mem_of_getElem? (i := 187) rfl)) rfl
theorem gm_359 : (Jvm.Cond.instanceMethod ({ cls := "OdometryDesk", name := "put", desc := "(J)I" } : Jvm.MethodName)) ∈ lw_gd := lw_gm (lw_in2 (List.mem_of_getElem? (i := 188) rfl)) rfl
theorem gm_360 : (Jvm.Cond.selects "OdometryDesk" ({ cls := "OdometryDesk", name := "put", desc := "(J)I" } : Jvm.MethodName) ({ cls := "OdometryDesk", name := "put", desc := "(J)I" } : Jvm.MethodName)) ∈ lw_gd := lw_gm (lw_in2 (List.mem_of_getElem? (i := 189) rfl)) rfl
theorem gm_361 : (Jvm.Cond.code ({ cls := "OdometryDesk", name := "put", desc := "(J)I" } : Jvm.MethodName) prog_1_method_17_code (4 : Nat) (Option.some Jvm.ClassFile.FieldType.int)) ∈ lw_gd := lw_gm (lw_in2 (List.mem_of_getElem? (i := 190) rfl)) rfl
theorem gm_362 : (Jvm.Cond.methodLink "OdometryDesk" (173 : Nat) ({ cls := "OdometryDesk$Pad", name := "signsIn", desc := "(J)I" } : Jvm.MethodName)) ∈ lw_gd := lw_gm (lw_in2 (List.mem_of_getElem? (i := 191) rfl)) rfl
theorem gm_363 : (Jvm.Cond.static ({ cls := "OdometryDesk$Pad", name := "signsIn", desc := "(J)I" } : Jvm.MethodName)) ∈ lw_gd := lw_gm (lw_in2 (List.mem_of_getElem? (i := 192) rfl)) rfl
theorem gm_364 : (Jvm.Cond.code ({ cls := "OdometryDesk$Pad", name := "signsIn", desc := "(J)I" } : Jvm.MethodName) prog_2_method_2_code (5 : Nat) (Option.some Jvm.ClassFile.FieldType.int)) ∈ lw_gd := lw_gm (lw_in2 (List.mem_of_getElem? (i := 193) rfl)) rfl
theorem gm_365 : (Jvm.Cond.constantLong "OdometryDesk$Pad" (18 : Nat) (255 : Int64)) ∈ lw_gd := lw_gm (lw_in2 (List.mem_of_getElem? (i := 194) rfl)) rfl
theorem gm_366 : (Jvm.Cond.methodLink "OdometryDesk" (177 : Nat) ({ cls := "OdometryDesk$Pad", name := "append", desc := "(JI)V" } : Jvm.MethodName)) ∈ lw_gd := lw_gm (lw_in2 (List.mem_of_getElem? (i := 196) rfl)) rfl
theorem gm_367 : (Jvm.Cond.instanceMethod ({ cls := "OdometryDesk$Pad", name := "append", desc := "(JI)V" } : Jvm.MethodName)) ∈ lw_gd := lw_gm (lw_in2 (List.mem_of_getElem? (i := 197) rfl)) rfl
theorem gm_368 : (Jvm.Cond.selects "OdometryDesk$Pad" ({ cls := "OdometryDesk$Pad", name := "append", desc := "(JI)V" } : Jvm.MethodName) ({ cls := "OdometryDesk$Pad", name := "append", desc := "(JI)V" } : Jvm.MethodName)) ∈ lw_gd := lw_gm (lw_in2 (List.mem_of_getElem? (i := 198) rfl)) rfl
theorem gm_369 : (Jvm.Cond.code ({ cls := "OdometryDesk$Pad", name := "append", desc := "(JI)V" } : Jvm.MethodName) prog_2_method_3_code (5 : Nat) (Option.none : Option Jvm.ClassFile.FieldType)) ∈ lw_gd := lw_gm (lw_in2 (List.mem_of_getElem? (i := 199) rfl)) rfl
theorem gm_370 : (Jvm.Cond.methodLink "OdometryDeskLaw" (85 : Nat) ({ cls := "OdometryDesk", name := "wipe", desc := "()I" } : Jvm.MethodName)) ∈ lw_gd := lw_gm (lw_in2 (List.mem_of_getElem? (i := 201) rfl)) rfl
theorem gm_371 : (Jvm.Cond.instanceMethod ({ cls := "OdometryDesk", name := "wipe", desc := "()I" } : Jvm.MethodName)) ∈ lw_gd := lw_gm (lw_in2 (List.mem_of_getElem? (i := 202) rfl)) rfl
theorem gm_372 : (Jvm.Cond.selects "OdometryDesk" ({ cls := "OdometryDesk", name := "wipe", desc := "()I" } : Jvm.MethodName) ({ cls := "OdometryDesk", name := "wipe", desc := "()I" } : Jvm.MethodName)) ∈ lw_gd := lw_gm (lw_in2 (List.mem_of_getElem? (i := 203) rfl)) rfl
theorem gm_373 : (Jvm.Cond.code ({ cls := "OdometryDesk", name := "wipe", desc := "()I" } : Jvm.MethodName) prog_1_method_18_code (2 : Nat) (Option.some Jvm.ClassFile.FieldType.int)) ∈ lw_gd := lw_gm (lw_in2 (List.mem_of_getElem? (i := 204) rfl)) rfl
theorem gm_374 : (Jvm.Cond.methodLink "OdometryDeskLaw" (89 : Nat) ({ cls := "OdometryDesk", name := "fault", desc := "()I" } : Jvm.MethodName)) ∈ lw_gd := lw_gm (lw_in2 (List.mem_of_getElem? (i := 205) rfl)) rfl
theorem gm_375 : (Jvm.Cond.instanceMethod ({ cls := "OdometryDesk", name := "fault", desc := "()I" } : Jvm.MethodName)) ∈ lw_gd := lw_gm (lw_in2 (List.mem_of_getElem? (i := 206) rfl)) rfl
theorem gm_376 : (Jvm.Cond.selects "OdometryDesk" ({ cls := "OdometryDesk", name := "fault", desc := "()I" } : Jvm.MethodName) ({ cls := "OdometryDesk", name := "fault", desc := "()I" } : Jvm.MethodName)) ∈ lw_gd := lw_gm (lw_in2 (List.mem_of_getElem? (i := 207) rfl)) rfl
theorem gm_377 : (Jvm.Cond.code ({ cls := "OdometryDesk", name := "fault", desc := "()I" } : Jvm.MethodName) prog_1_method_19_code (1 : Nat) (Option.some Jvm.ClassFile.FieldType.int)) ∈ lw_gd := lw_gm (lw_in2 (List.mem_of_getElem? (i := 208) rfl)) rfl
theorem gm_378 : (Jvm.Cond.methodLink "OdometryDesk" (181 : Nat) ({ cls := "OdometryDesk$Pad", name := "findFault", desc := "()I" } : Jvm.MethodName)) ∈ lw_gd := lw_gm (lw_in2 (List.mem_of_getElem? (i := 209) rfl)) rfl
theorem gm_379 : (Jvm.Cond.instanceMethod ({ cls := "OdometryDesk$Pad", name := "findFault", desc := "()I" } : Jvm.MethodName)) ∈ lw_gd := lw_gm (lw_in2 (List.mem_of_getElem? (i := 210) rfl)) rfl
theorem gm_380 : (Jvm.Cond.selects "OdometryDesk$Pad" ({ cls := "OdometryDesk$Pad", name := "findFault", desc := "()I" } : Jvm.MethodName) ({ cls := "OdometryDesk$Pad", name := "findFault", desc := "()I" } : Jvm.MethodName)) ∈ lw_gd := lw_gm (lw_in2 (List.mem_of_getElem? (i := 211) rfl)) rfl
theorem gm_381 : (Jvm.Cond.code ({ cls := "OdometryDesk$Pad", name := "findFault", desc := "()I" } : Jvm.MethodName) prog_2_method_4_code (2 : Nat) (Option.some Jvm.ClassFile.FieldType.int)) ∈ lw_gd := lw_gm (lw_in2 (List.mem_of_getElem? (i := 212) rfl)) rfl
theorem gm_382 : (Jvm.Cond.methodLink "OdometryDesk$Pad" (35 : Nat) ({ cls := "OdometryDesk$Pad", name := "readEntry", desc := "()Z" } : Jvm.MethodName)) ∈ lw_gd := lw_gm (lw_in2 (List.mem_of_getElem? (i := 213) rfl)) rfl
theorem gm_383 : (Jvm.Cond.instanceMethod ({ cls := "OdometryDesk$Pad", name := "readEntry", desc := "()Z" } : Jvm.MethodName)) ∈ lw_gd := lw_gm (lw_in2 (List.mem_of_getElem? (i := 214) rfl)) rfl
theorem gm_384 : (Jvm.Cond.selects "OdometryDesk$Pad" ({ cls := "OdometryDesk$Pad", name := "readEntry", desc := "()Z" } : Jvm.MethodName) ({ cls := "OdometryDesk$Pad", name := "readEntry", desc := "()Z" } : Jvm.MethodName)) ∈ lw_gd := lw_gm (lw_in2 (List.mem_of_getElem? (i := 215) rfl)) rfl
theorem gm_385 : (Jvm.Cond.code ({ cls := "OdometryDesk$Pad", name := "readEntry", desc := "()Z" } : Jvm.MethodName) prog_2_method_5_code (1 : Nat) (Option.some Jvm.ClassFile.FieldType.boolean)) ∈ lw_gd := lw_gm (lw_in2 (List.mem_of_getElem? (i := 216) rfl)) rfl
theorem gm_386 : (Jvm.Cond.methodLink "OdometryDesk$Pad" (39 : Nat) ({ cls := "OdometryDesk$Pad", name := "takes", desc := "(C)Z" } : Jvm.MethodName)) ∈ lw_gd := lw_gm (lw_in2 (List.mem_of_getElem? (i := 217) rfl)) rfl
theorem gm_387 : (Jvm.Cond.instanceMethod ({ cls := "OdometryDesk$Pad", name := "takes", desc := "(C)Z" } : Jvm.MethodName)) ∈ lw_gd := lw_gm (lw_in2 (List.mem_of_getElem? (i := 218) rfl)) rfl
theorem gm_388 : (Jvm.Cond.selects "OdometryDesk$Pad" ({ cls := "OdometryDesk$Pad", name := "takes", desc := "(C)Z" } : Jvm.MethodName) ({ cls := "OdometryDesk$Pad", name := "takes", desc := "(C)Z" } : Jvm.MethodName)) ∈ lw_gd := lw_gm (lw_in2 (List.mem_of_getElem? (i := 219) rfl)) rfl
theorem gm_389 : (Jvm.Cond.code ({ cls := "OdometryDesk$Pad", name := "takes", desc := "(C)Z" } : Jvm.MethodName) prog_2_method_6_code (2 : Nat) (Option.some Jvm.ClassFile.FieldType.boolean)) ∈ lw_gd := lw_gm (lw_in2 (List.mem_of_getElem? (i := 220) rfl)) rfl
theorem gm_390 : (Jvm.Cond.methodLink "OdometryDesk$Pad" (47 : Nat) ({ cls := "OdometryDesk$Pad", name := "readNumber", desc := "(II)Z" } : Jvm.MethodName)) ∈ lw_gd := lw_gm (lw_in2 (List.mem_of_getElem? (i := 222) rfl)) rfl
theorem gm_391 : (Jvm.Cond.instanceMethod ({ cls := "OdometryDesk$Pad", name := "readNumber", desc := "(II)Z" } : Jvm.MethodName)) ∈ lw_gd := lw_gm (lw_in2 (List.mem_of_getElem? (i := 224) rfl)) rfl
theorem gm_392 : (Jvm.Cond.code ({ cls := "OdometryDesk$Pad", name := "readNumber", desc := "(II)Z" } : Jvm.MethodName) prog_2_method_8_code (4 : Nat) (Option.some Jvm.ClassFile.FieldType.boolean)) ∈ lw_gd := lw_gm (lw_in2 (List.mem_of_getElem? (i := 225) rfl)) rfl
theorem gm_393 : (Jvm.Cond.methodLink "OdometryDesk$Pad" (59 : Nat) ({ cls := "OdometryDesk$Pad", name := "digit", desc := "()I" } : Jvm.MethodName)) ∈ lw_gd := lw_gm (lw_in2 (List.mem_of_getElem? (i := 226) rfl)) rfl
theorem gm_394 : (Jvm.Cond.instanceMethod ({ cls := "OdometryDesk$Pad", name := "digit", desc := "()I" } : Jvm.MethodName)) ∈ lw_gd := lw_gm (lw_in2 (List.mem_of_getElem? (i := 228) rfl)) rfl
theorem gm_395 : (Jvm.Cond.code ({ cls := "OdometryDesk$Pad", name := "digit", desc := "()I" } : Jvm.MethodName) prog_2_method_9_code (2 : Nat) (Option.some Jvm.ClassFile.FieldType.int)) ∈ lw_gd := lw_gm (lw_in2 (List.mem_of_getElem? (i := 229) rfl)) rfl
theorem gm_396 : (Jvm.Cond.methodLink "OdometryDesk$Pad" (51 : Nat) ({ cls := "OdometryDesk$Pad", name := "readInteger", desc := "(II)Z" } : Jvm.MethodName)) ∈ lw_gd := lw_gm (lw_in2 (List.mem_of_getElem? (i := 230) rfl)) rfl
theorem gm_397 : (Jvm.Cond.instanceMethod ({ cls := "OdometryDesk$Pad", name := "readInteger", desc := "(II)Z" } : Jvm.MethodName)) ∈ lw_gd := lw_gm (lw_in2 (List.mem_of_getElem? (i := 232) rfl)) rfl
theorem gm_398 : (Jvm.Cond.code ({ cls := "OdometryDesk$Pad", name := "readInteger", desc := "(II)Z" } : Jvm.MethodName) prog_2_method_7_code (4 : Nat) (Option.some Jvm.ClassFile.FieldType.boolean)) ∈ lw_gd := lw_gm (lw_in2 (List.mem_of_getElem? (i := 233) rfl)) rfl
theorem gm_399 : (Jvm.Cond.constant "OdometryDesk$Pad" (54 : Nat) (300000 : Int32)) ∈ lw_gd := lw_gm (lw_in2 (List.mem_of_getElem? (i := 234) rfl)) rfl
theorem gm_400 : (Jvm.Cond.methodLink "OdometryDeskLaw" (93 : Nat) ({ cls := "OdometryDesk", name := "load", desc := "()I" } : Jvm.MethodName)) ∈ lw_gd := lw_gm (lw_in2 (List.mem_of_getElem? (i := 235) rfl)) rfl
theorem gm_401 : (Jvm.Cond.instanceMethod ({ cls := "OdometryDesk", name := "load", desc := "()I" } : Jvm.MethodName)) ∈ lw_gd := lw_gm (lw_in2 (List.mem_of_getElem? (i := 236) rfl)) rfl
theorem gm_402 : (Jvm.Cond.selects "OdometryDesk" ({ cls := "OdometryDesk", name := "load", desc := "()I" } : Jvm.MethodName) ({ cls := "OdometryDesk", name := "load", desc := "()I" } : Jvm.MethodName)) ∈ lw_gd := lw_gm (lw_in2 (List.mem_of_getElem? (i := 237) rfl)) rfl
theorem gm_403 : (Jvm.Cond.code ({ cls := "OdometryDesk", name := "load", desc := "()I" } : Jvm.MethodName) prog_1_method_20_code (3 : Nat) (Option.some Jvm.ClassFile.FieldType.int)) ∈ lw_gd := lw_gm (lw_in2 (List.mem_of_getElem? (i := 238) rfl)) rfl
theorem gm_404 : (Jvm.Cond.methodLink "OdometryDesk" (187 : Nat) ({ cls := "OdometryDesk$Pad", name := "readEntry", desc := "()Z" } : Jvm.MethodName)) ∈ lw_gd := lw_gm (lw_in2 (List.mem_of_getElem? (i := 239) rfl)) rfl
theorem gm_405 : (Jvm.Cond.methodLink "OdometryDesk" (190 : Nat) ({ cls := "OdometryDesk$Pad", name := "takes", desc := "(C)Z" } : Jvm.MethodName)) ∈ lw_gd := lw_gm (lw_in3 (List.mem_of_getElem? (i := 0) rfl)) rfl
theorem gm_406 : (Jvm.Cond.methodLink "OdometryDesk" (194 : Nat) ({ cls := "OdometryDesk", name := "addRead", desc := "()I" } : Jvm.MethodName)) ∈ lw_gd := lw_gm (lw_in3 (List.mem_of_getElem? (i := 1) rfl)) rfl
theorem gm_407 : (Jvm.Cond.instanceMethod ({ cls := "OdometryDesk", name := "addRead", desc := "()I" } : Jvm.MethodName)) ∈ lw_gd := lw_gm (lw_in3 (List.mem_of_getElem? (i := 3) rfl)) rfl
theorem gm_408 : (Jvm.Cond.code ({ cls := "OdometryDesk", name := "addRead", desc := "()I" } : Jvm.MethodName) prog_1_method_24_code (2 : Nat) (Option.some Jvm.ClassFile.FieldType.int)) ∈ lw_gd := lw_gm (lw_in3 (List.mem_of_getElem? (i := 4) rfl)) rfl
theorem gm_409 : (Jvm.Cond.methodLink "OdometryDeskLaw" (97 : Nat) ({ cls := "OdometryDesk", name := "save", desc := "(I)I" } : Jvm.MethodName)) ∈ lw_gd := lw_gm (lw_in3 (List.mem_of_getElem? (i := 5) rfl)) rfl
theorem gm_410 : (Jvm.Cond.instanceMethod ({ cls := "OdometryDesk", name := "save", desc := "(I)I" } : Jvm.MethodName)) ∈ lw_gd := lw_gm (lw_in3 (List.mem_of_getElem? (i := 6) rfl)) rfl
theorem gm_411 : (Jvm.Cond.selects "OdometryDesk" ({ cls := "OdometryDesk", name := "save", desc := "(I)I" } : Jvm.MethodName) ({ cls := "OdometryDesk", name := "save", desc := "(I)I" } : Jvm.MethodName)) ∈ lw_gd := lw_gm (lw_in3 (List.mem_of_getElem? (i := 7) rfl)) rfl
theorem gm_412 : (Jvm.Cond.code ({ cls := "OdometryDesk", name := "save", desc := "(I)I" } : Jvm.MethodName) prog_1_method_21_code (3 : Nat) (Option.some Jvm.ClassFile.FieldType.int)) ∈ lw_gd := lw_gm (lw_in3 (List.mem_of_getElem? (i := 8) rfl)) rfl
theorem gm_413 : (Jvm.Cond.methodLink "OdometryDesk" (197 : Nat) ({ cls := "OdometryDesk", name := "slotOf", desc := "(I)LOdometryDesk$State;" } : Jvm.MethodName)) ∈ lw_gd := lw_gm (lw_in3 (List.mem_of_getElem? (i := 9) rfl)) rfl
theorem gm_414 : (Jvm.Cond.instanceMethod ({ cls := "OdometryDesk", name := "slotOf", desc := "(I)LOdometryDesk$State;" } : Jvm.MethodName)) ∈ lw_gd := lw_gm (lw_in3 (List.mem_of_getElem? (i := 11) rfl)) rfl
theorem gm_415 : (Jvm.Cond.code ({ cls := "OdometryDesk", name := "slotOf", desc := "(I)LOdometryDesk$State;" } : Jvm.MethodName) prog_1_method_23_code (2 : Nat) (Option.some (Jvm.ClassFile.FieldType.object "OdometryDesk$State"))) ∈ lw_gd := lw_gm (lw_in3 (List.mem_of_getElem? (i := 12) rfl)) rfl
theorem gm_416 : (Jvm.Cond.methodLink "OdometryDesk" (201 : Nat) ({ cls := "OdometryDesk$State", name := "takeOver", desc := "(LOdometryDesk$State;)V" } : Jvm.MethodName)) ∈ lw_gd := lw_gm (lw_in3 (List.mem_of_getElem? (i := 13) rfl)) rfl
theorem gm_417 : (Jvm.Cond.instanceMethod ({ cls := "OdometryDesk$State", name := "takeOver", desc := "(LOdometryDesk$State;)V" } : Jvm.MethodName)) ∈ lw_gd := lw_gm (lw_in3 (List.mem_of_getElem? (i := 14) rfl)) rfl
theorem gm_418 : (Jvm.Cond.selects "OdometryDesk$State" ({ cls := "OdometryDesk$State", name := "takeOver", desc := "(LOdometryDesk$State;)V" } : Jvm.MethodName) ({ cls := "OdometryDesk$State", name := "takeOver", desc := "(LOdometryDesk$State;)V" } : Jvm.MethodName)) ∈ lw_gd := lw_gm (lw_in3 (List.mem_of_getElem? (i := 15) rfl)) rfl
theorem gm_419 : (Jvm.Cond.code ({ cls := "OdometryDesk$State", name := "takeOver", desc := "(LOdometryDesk$State;)V" } : Jvm.MethodName) prog_3_method_2_code (2 : Nat) (Option.none : Option Jvm.ClassFile.FieldType)) ∈ lw_gd := lw_gm (lw_in3 (List.mem_of_getElem? (i := 16) rfl)) rfl
theorem gm_420 : (Jvm.Cond.static ({ cls := "OdometryDesk", name := "copy", desc := "([[I[[I)V" } : Jvm.MethodName)) ∈ lw_gd := lw_gm (lw_in3 (List.mem_of_getElem? (i := 19) rfl)) rfl
theorem gm_421 : (Jvm.Cond.code ({ cls := "OdometryDesk", name := "copy", desc := "([[I[[I)V" } : Jvm.MethodName) prog_1_method_38_code (3 : Nat) (Option.none : Option Jvm.ClassFile.FieldType)) ∈ lw_gd := lw_gm (lw_in3 (List.mem_of_getElem? (i := 20) rfl)) rfl
theorem gm_422 : (Jvm.Cond.methodLink "OdometryDeskLaw" (101 : Nat) ({ cls := "OdometryDesk", name := "restore", desc := "(I)I" } : Jvm.MethodName)) ∈ lw_gd := lw_gm (lw_in3 (List.mem_of_getElem? (i := 21) rfl)) rfl
theorem gm_423 : (Jvm.Cond.instanceMethod ({ cls := "OdometryDesk", name := "restore", desc := "(I)I" } : Jvm.MethodName)) ∈ lw_gd := lw_gm (lw_in3 (List.mem_of_getElem? (i := 22) rfl)) rfl
theorem gm_424 : (Jvm.Cond.selects "OdometryDesk" ({ cls := "OdometryDesk", name := "restore", desc := "(I)I" } : Jvm.MethodName) ({ cls := "OdometryDesk", name := "restore", desc := "(I)I" } : Jvm.MethodName)) ∈ lw_gd := lw_gm (lw_in3 (List.mem_of_getElem? (i := 23) rfl)) rfl
theorem gm_425 : (Jvm.Cond.code ({ cls := "OdometryDesk", name := "restore", desc := "(I)I" } : Jvm.MethodName) prog_1_method_22_code (3 : Nat) (Option.some Jvm.ClassFile.FieldType.int)) ∈ lw_gd := lw_gm (lw_in3 (List.mem_of_getElem? (i := 24) rfl)) rfl
theorem gm_426 : (Jvm.Cond.classLink "OdometryDeskLaw" (10 : Nat) "OdometryDeskModel") ∈ lw_gd := lw_gm (lw_in3 (List.mem_of_getElem? (i := 25) rfl)) rfl
theorem gm_427 : (Jvm.Cond.instantiable "OdometryDeskModel" (27 : Nat)) ∈ lw_gd := lw_gm (lw_in3 (List.mem_of_getElem? (i := 26) rfl)) rfl
theorem gm_428 : (Jvm.Cond.methodLink "OdometryDeskLaw" (12 : Nat) ({ cls := "OdometryDeskModel", name := "<init>", desc := "()V" } : Jvm.MethodName)) ∈ lw_gd := lw_gm (lw_in3 (List.mem_of_getElem? (i := 27) rfl)) rfl
theorem gm_429 : (Jvm.Cond.instanceMethod ({ cls := "OdometryDeskModel", name := "<init>", desc := "()V" } : Jvm.MethodName)) ∈ lw_gd := lw_gm (lw_in3 (List.mem_of_getElem? (i := 28) rfl)) rfl
theorem gm_430 : (Jvm.Cond.code ({ cls := "OdometryDeskModel", name := "<init>", desc := "()V" } : Jvm.MethodName) prog_6_method_1_code (1 : Nat) (Option.none : Option Jvm.ClassFile.FieldType)) ∈ lw_gd := lw_gm (lw_in3 (List.mem_of_getElem? (i := 29) rfl)) rfl
theorem gm_431 : (Jvm.Cond.methodLink "OdometryDeskModel" (1 : Nat) ({ cls := "java/lang/Object", name := "<init>", desc := "()V" } : Jvm.MethodName)) ∈ lw_gd := lw_gm (lw_in3 (List.mem_of_getElem? (i := 30) rfl)) rfl
theorem gm_432 : (Jvm.Cond.constant "OdometryDeskModel" (65 : Nat) (100000 : Int32)) ∈ lw_gd := lw_gm (lw_in3 (List.mem_of_getElem? (i := 31) rfl)) rfl
theorem gm_433 : (Jvm.Cond.fieldLink "OdometryDeskModel" (7 : Nat) "OdometryDeskModel" "at" "[I") ∈ lw_gd := lw_gm (lw_in3 (List.mem_of_getElem? (i := 32) rfl)) rfl
theorem gm_434 : (Jvm.Cond.fieldLink "OdometryDeskModel" (13 : Nat) "OdometryDeskModel" "slots" "[I") ∈ lw_gd := lw_gm (lw_in3 (List.mem_of_getElem? (i := 33) rfl)) rfl
theorem gm_435 : (Jvm.Cond.fieldLink "OdometryDeskModel" (16 : Nat) "OdometryDeskModel" "isSaved" "[Z") ∈ lw_gd := lw_gm (lw_in3 (List.mem_of_getElem? (i := 34) rfl)) rfl
theorem gm_436 : (Jvm.Cond.fieldLink "OdometryDeskModel" (20 : Nat) "OdometryDeskModel" "pad" "[I") ∈ lw_gd := lw_gm (lw_in3 (List.mem_of_getElem? (i := 35) rfl)) rfl
theorem gm_437 : (Jvm.Cond.fieldLink "OdometryDeskModel" (200 : Nat) "OdometryDeskModel" "padMany" "I") ∈ lw_gd := lw_gm (lw_in3 (List.mem_of_getElem? (i := 36) rfl)) rfl
theorem gm_438 : (Jvm.Cond.fieldLink "OdometryDeskModel" (23 : Nat) "OdometryDeskModel" "kind" "[I") ∈ lw_gd := lw_gm (lw_in3 (List.mem_of_getElem? (i := 37) rfl)) rfl
theorem gm_439 : (Jvm.Cond.fieldLink "OdometryDeskModel" (26 : Nat) "OdometryDeskModel" "xs" "[I") ∈ lw_gd := lw_gm (lw_in3 (List.mem_of_getElem? (i := 38) rfl)) rfl
theorem gm_440 : (Jvm.Cond.fieldLink "OdometryDeskModel" (29 : Nat) "OdometryDeskModel" "ys" "[I") ∈ lw_gd := lw_gm (lw_in3 (List.mem_of_getElem? (i := 39) rfl)) rfl
theorem gm_441 : (Jvm.Cond.fieldLink "OdometryDeskModel" (32 : Nat) "OdometryDeskModel" "headings" "[I") ∈ lw_gd := lw_gm (lw_in3 (List.mem_of_getElem? (i := 40) rfl)) rfl
theorem gm_442 : (Jvm.Cond.fieldLink "OdometryDeskModel" (35 : Nat) "OdometryDeskModel" "ways" "[I") ∈ lw_gd := lw_gm (lw_in3 (List.mem_of_getElem? (i := 41) rfl)) rfl
theorem gm_443 : (Jvm.Cond.fieldLink "OdometryDeskModel" (38 : Nat) "OdometryDeskModel" "biases" "[I") ∈ lw_gd := lw_gm (lw_in3 (List.mem_of_getElem? (i := 42) rfl)) rfl
theorem gm_444 : (Jvm.Cond.fieldLink "OdometryDeskModel" (41 : Nat) "OdometryDeskModel" "byWheels" "[I") ∈ lw_gd := lw_gm (lw_in3 (List.mem_of_getElem? (i := 43) rfl)) rfl
theorem gm_445 : (Jvm.Cond.fieldLink "OdometryDeskModel" (44 : Nat) "OdometryDeskModel" "turns" "[I") ∈ lw_gd := lw_gm (lw_in3 (List.mem_of_getElem? (i := 44) rfl)) rfl
theorem gm_446 : (Jvm.Cond.fieldLink "OdometryDeskModel" (47 : Nat) "OdometryDeskModel" "distances" "[I") ∈ lw_gd := lw_gm (lw_in3 (List.mem_of_getElem? (i := 45) rfl)) rfl
theorem gm_447 : (Jvm.Cond.fieldLink "OdometryDeskModel" (50 : Nat) "OdometryDeskModel" "pulledBy" "[I") ∈ lw_gd := lw_gm (lw_in3 (List.mem_of_getElem? (i := 46) rfl)) rfl
theorem gm_448 : (Jvm.Cond.fieldLink "OdometryDeskModel" (53 : Nat) "OdometryDeskModel" "pulled" "[I") ∈ lw_gd := lw_gm (lw_in3 (List.mem_of_getElem? (i := 47) rfl)) rfl
theorem gm_449 : (Jvm.Cond.fieldLink "OdometryDeskModel" (56 : Nat) "OdometryDeskModel" "errorX" "[I") ∈ lw_gd := lw_gm (lw_in3 (List.mem_of_getElem? (i := 48) rfl)) rfl
theorem gm_450 : (Jvm.Cond.fieldLink "OdometryDeskModel" (59 : Nat) "OdometryDeskModel" "errorY" "[I") ∈ lw_gd := lw_gm (lw_in3 (List.mem_of_getElem? (i := 49) rfl)) rfl
theorem gm_451 : (Jvm.Cond.fieldLink "OdometryDeskModel" (105 : Nat) "OdometryDeskModel" "x" "I") ∈ lw_gd := lw_gm (lw_in3 (List.mem_of_getElem? (i := 50) rfl)) rfl
theorem gm_452 : (Jvm.Cond.fieldLink "OdometryDeskModel" (109 : Nat) "OdometryDeskModel" "y" "I") ∈ lw_gd := lw_gm (lw_in3 (List.mem_of_getElem? (i := 51) rfl)) rfl
theorem gm_453 : (Jvm.Cond.fieldLink "OdometryDeskModel" (112 : Nat) "OdometryDeskModel" "goes" "I") ∈ lw_gd := lw_gm (lw_in3 (List.mem_of_getElem? (i := 52) rfl)) rfl
theorem gm_454 : (Jvm.Cond.fieldLink "OdometryDeskModel" (115 : Nat) "OdometryDeskModel" "way" "I") ∈ lw_gd := lw_gm (lw_in3 (List.mem_of_getElem? (i := 53) rfl)) rfl
theorem gm_455 : (Jvm.Cond.fieldLink "OdometryDeskModel" (118 : Nat) "OdometryDeskModel" "bias" "I") ∈ lw_gd := lw_gm (lw_in3 (List.mem_of_getElem? (i := 54) rfl)) rfl
theorem gm_456 : (Jvm.Cond.fieldLink "OdometryDeskModel" (213 : Nat) "OdometryDeskModel" "spot" "I") ∈ lw_gd := lw_gm (lw_in3 (List.mem_of_getElem? (i := 55) rfl)) rfl
theorem gm_457 : (Jvm.Cond.fieldLink "OdometryDeskModel" (216 : Nat) "OdometryDeskModel" "isWrong" "Z") ∈ lw_gd := lw_gm (lw_in3 (List.mem_of_getElem? (i := 56) rfl)) rfl
theorem gm_458 : (Jvm.Cond.fieldLink "OdometryDeskModel" (62 : Nat) "OdometryDeskModel" "read" "[I") ∈ lw_gd := lw_gm (lw_in3 (List.mem_of_getElem? (i := 57) rfl)) rfl
theorem gm_459 : (Jvm.Cond.fieldLink "OdometryDeskModel" (226 : Nat) "OdometryDeskModel" "readMany" "I") ∈ lw_gd := lw_gm (lw_in3 (List.mem_of_getElem? (i := 58) rfl)) rfl
theorem gm_460 : (Jvm.Cond.laysFinal "OdometryDeskModel" "OdometryDeskModel" "at" "[I") ∈ lw_gd := lw_gm (lw_in3 (List.mem_of_getElem? (i := 59) rfl)) rfl
theorem gm_461 : (Jvm.Cond.laysFinal "OdometryDeskModel" "OdometryDeskModel" "slots" "[I") ∈ lw_gd := lw_gm (lw_in3 (List.mem_of_getElem? (i := 61) rfl)) rfl
theorem gm_462 : (Jvm.Cond.laysFinal "OdometryDeskModel" "OdometryDeskModel" "isSaved" "[Z") ∈ lw_gd := lw_gm (lw_in3 (List.mem_of_getElem? (i := 63) rfl)) rfl
theorem gm_463 : (Jvm.Cond.laysFinal "OdometryDeskModel" "OdometryDeskModel" "pad" "[I") ∈ lw_gd := lw_gm (lw_in3 (List.mem_of_getElem? (i := 65) rfl)) rfl
theorem gm_464 : (Jvm.Cond.lays "OdometryDeskModel" "OdometryDeskModel" "padMany" "I") ∈ lw_gd := lw_gm (lw_in3 (List.mem_of_getElem? (i := 67) rfl)) rfl
theorem gm_465 : (Jvm.Cond.laysFinal "OdometryDeskModel" "OdometryDeskModel" "kind" "[I") ∈ lw_gd := lw_gm (lw_in3 (List.mem_of_getElem? (i := 69) rfl)) rfl
theorem gm_466 : (Jvm.Cond.laysFinal "OdometryDeskModel" "OdometryDeskModel" "xs" "[I") ∈ lw_gd := lw_gm (lw_in3 (List.mem_of_getElem? (i := 71) rfl)) rfl
theorem gm_467 : (Jvm.Cond.laysFinal "OdometryDeskModel" "OdometryDeskModel" "ys" "[I") ∈ lw_gd := lw_gm (lw_in3 (List.mem_of_getElem? (i := 73) rfl)) rfl
theorem gm_468 : (Jvm.Cond.laysFinal "OdometryDeskModel" "OdometryDeskModel" "headings" "[I") ∈ lw_gd := lw_gm (lw_in3 (List.mem_of_getElem? (i := 75) rfl)) rfl
theorem gm_469 : (Jvm.Cond.laysFinal "OdometryDeskModel" "OdometryDeskModel" "ways" "[I") ∈ lw_gd := lw_gm (lw_in3 (List.mem_of_getElem? (i := 77) rfl)) rfl
theorem gm_470 : (Jvm.Cond.laysFinal "OdometryDeskModel" "OdometryDeskModel" "biases" "[I") ∈ lw_gd := lw_gm (lw_in3 (List.mem_of_getElem? (i := 79) rfl)) rfl
theorem gm_471 : (Jvm.Cond.laysFinal "OdometryDeskModel" "OdometryDeskModel" "byWheels" "[I") ∈ lw_gd := lw_gm (lw_in3 (List.mem_of_getElem? (i := 81) rfl)) rfl
theorem gm_472 : (Jvm.Cond.laysFinal "OdometryDeskModel" "OdometryDeskModel" "turns" "[I") ∈ lw_gd := lw_gm (lw_in3 (List.mem_of_getElem? (i := 83) rfl)) rfl
theorem gm_473 : (Jvm.Cond.laysFinal "OdometryDeskModel" "OdometryDeskModel" "distances" "[I") ∈ lw_gd := lw_gm (lw_in3 (List.mem_of_getElem? (i := 85) rfl)) rfl
theorem gm_474 : (Jvm.Cond.laysFinal "OdometryDeskModel" "OdometryDeskModel" "pulledBy" "[I") ∈ lw_gd := lw_gm (lw_in3 (List.mem_of_getElem? (i := 87) rfl)) rfl
theorem gm_475 : (Jvm.Cond.laysFinal "OdometryDeskModel" "OdometryDeskModel" "pulled" "[I") ∈ lw_gd := lw_gm (lw_in3 (List.mem_of_getElem? (i := 89) rfl)) rfl
theorem gm_476 : (Jvm.Cond.laysFinal "OdometryDeskModel" "OdometryDeskModel" "errorX" "[I") ∈ lw_gd := lw_gm (lw_in3 (List.mem_of_getElem? (i := 91) rfl)) rfl
theorem gm_477 : (Jvm.Cond.laysFinal "OdometryDeskModel" "OdometryDeskModel" "errorY" "[I") ∈ lw_gd := lw_gm (lw_in3 (List.mem_of_getElem? (i := 93) rfl)) rfl
theorem gm_478 : (Jvm.Cond.lays "OdometryDeskModel" "OdometryDeskModel" "x" "I") ∈ lw_gd := lw_gm (lw_in3 (List.mem_of_getElem? (i := 95) rfl)) rfl
theorem gm_479 : (Jvm.Cond.lays "OdometryDeskModel" "OdometryDeskModel" "y" "I") ∈ lw_gd := lw_gm (lw_in3 (List.mem_of_getElem? (i := 97) rfl)) rfl
theorem gm_480 : (Jvm.Cond.lays "OdometryDeskModel" "OdometryDeskModel" "goes" "I") ∈ lw_gd := lw_gm (lw_in3 (List.mem_of_getElem? (i := 99) rfl)) rfl
theorem gm_481 : (Jvm.Cond.lays "OdometryDeskModel" "OdometryDeskModel" "way" "I") ∈ lw_gd := lw_gm (lw_in3 (List.mem_of_getElem? (i := 101) rfl)) rfl
theorem gm_482 : (Jvm.Cond.lays "OdometryDeskModel" "OdometryDeskModel" "bias" "I") ∈ lw_gd := lw_gm (lw_in3 (List.mem_of_getElem? (i := 103) rfl)) rfl
theorem gm_483 : (Jvm.Cond.lays "OdometryDeskModel" "OdometryDeskModel" "spot" "I") ∈ lw_gd := lw_gm (lw_in3 (List.mem_of_getElem? (i := 105) rfl)) rfl
theorem gm_484 : (Jvm.Cond.lays "OdometryDeskModel" "OdometryDeskModel" "isWrong" "Z") ∈ lw_gd := lw_gm (lw_in3 (List.mem_of_getElem? (i := 107) rfl)) rfl
theorem gm_485 : (Jvm.Cond.laysFinal "OdometryDeskModel" "OdometryDeskModel" "read" "[I") ∈ lw_gd := lw_gm (lw_in3 (List.mem_of_getElem? (i := 109) rfl)) rfl
theorem gm_486 : (Jvm.Cond.lays "OdometryDeskModel" "OdometryDeskModel" "readMany" "I") ∈ lw_gd := lw_gm (lw_in3 (List.mem_of_getElem? (i := 111) rfl)) rfl
theorem gm_487 : (Jvm.Cond.arrayClass Jvm.ClassFile.FieldType.boolean) ∈ lw_gd := lw_gm (lw_in3 (List.mem_of_getElem? (i := 114) rfl)) rfl
theorem gm_488 : (Jvm.Cond.methodLink "OdometryDeskLaw" (17 : Nat) ({ cls := "OdometryDeskModel", name := "set", desc := "(II)I" } : Jvm.MethodName)) ∈ lw_gd := lw_gm (lw_in3 (List.mem_of_getElem? (i := 115) rfl)) rfl
theorem gm_489 : (Jvm.Cond.instanceMethod ({ cls := "OdometryDeskModel", name := "set", desc := "(II)I" } : Jvm.MethodName)) ∈ lw_gd := lw_gm (lw_in3 (List.mem_of_getElem? (i := 116) rfl)) rfl
theorem gm_490 : (Jvm.Cond.selects "OdometryDeskModel" ({ cls := "OdometryDeskModel", name := "set", desc := "(II)I" } : Jvm.MethodName) ({ cls := "OdometryDeskModel", name := "set", desc := "(II)I" } : Jvm.MethodName)) ∈ lw_gd := lw_gm (lw_in3 (List.mem_of_getElem? (i := 117) rfl)) rfl
theorem gm_491 : (Jvm.Cond.code ({ cls := "OdometryDeskModel", name := "set", desc := "(II)I" } : Jvm.MethodName) prog_6_method_7_code (4 : Nat) (Option.some Jvm.ClassFile.FieldType.int)) ∈ lw_gd := lw_gm (lw_in3 (List.mem_of_getElem? (i := 118) rfl)) rfl
theorem gm_492 : (Jvm.Cond.methodLink "OdometryDeskModel" (73 : Nat) ({ cls := "OdometryDeskModel", name := "takes", desc := "(II)Z" } : Jvm.MethodName)) ∈ lw_gd := lw_gm (lw_in3 (List.mem_of_getElem? (i := 119) rfl)) rfl
theorem gm_493 : (Jvm.Cond.static ({ cls := "OdometryDeskModel", name := "takes", desc := "(II)Z" } : Jvm.MethodName)) ∈ lw_gd := lw_gm (lw_in3 (List.mem_of_getElem? (i := 120) rfl)) rfl
theorem gm_494 : (Jvm.Cond.code ({ cls := "OdometryDeskModel", name := "takes", desc := "(II)Z" } : Jvm.MethodName) prog_6_method_6_code (2 : Nat) (Option.some Jvm.ClassFile.FieldType.boolean)) ∈ lw_gd := lw_gm (lw_in3 (List.mem_of_getElem? (i := 121) rfl)) rfl
theorem gm_495 : (Jvm.Cond.methodLink "OdometryDeskModel" (67 : Nat) ({ cls := "OdometryDeskModel", name := "in", desc := "(III)Z" } : Jvm.MethodName)) ∈ lw_gd := lw_gm (lw_in3 (List.mem_of_getElem? (i := 122) rfl)) rfl
theorem gm_496 : (Jvm.Cond.static ({ cls := "OdometryDeskModel", name := "in", desc := "(III)Z" } : Jvm.MethodName)) ∈ lw_gd := lw_gm (lw_in3 (List.mem_of_getElem? (i := 123) rfl)) rfl
theorem gm_497 : (Jvm.Cond.code ({ cls := "OdometryDeskModel", name := "in", desc := "(III)Z" } : Jvm.MethodName) prog_6_method_3_code (3 : Nat) (Option.some Jvm.ClassFile.FieldType.boolean)) ∈ lw_gd := lw_gm (lw_in3 (List.mem_of_getElem? (i := 124) rfl)) rfl
theorem gm_498 : (Jvm.Cond.constant "OdometryDeskModel" (71 : Nat) (200000 : Int32)) ∈ lw_gd := lw_gm (lw_in3 (List.mem_of_getElem? (i := 125) rfl)) rfl
theorem gm_499 : (Jvm.Cond.constant "OdometryDeskModel" (72 : Nat) (900000 : Int32)) ∈ lw_gd := lw_gm (lw_in3 (List.mem_of_getElem? (i := 126) rfl)) rfl
theorem gm_500 : (Jvm.Cond.methodLink "OdometryDeskModel" (77 : Nat) ({ cls := "OdometryDeskModel", name := "setting", desc := "(I)I" } : Jvm.MethodName)) ∈ lw_gd := lw_gm (lw_in3 (List.mem_of_getElem? (i := 127) rfl)) rfl
theorem gm_501 : (Jvm.Cond.instanceMethod ({ cls := "OdometryDeskModel", name := "setting", desc := "(I)I" } : Jvm.MethodName)) ∈ lw_gd := lw_gm (lw_in3 (List.mem_of_getElem? (i := 129) rfl)) rfl
theorem gm_502 : (Jvm.Cond.code ({ cls := "OdometryDeskModel", name := "setting", desc := "(I)I" } : Jvm.MethodName) prog_6_method_5_code (2 : Nat) (Option.some Jvm.ClassFile.FieldType.int)) ∈ lw_gd := lw_gm (lw_in3 (List.mem_of_getElem? (i := 130) rfl)) rfl
theorem gm_503 : (Jvm.Cond.methodLink "OdometryDeskLaw" (22 : Nat) ({ cls := "OdometryDeskModel", name := "corridor", desc := "(IIIII)I" } : Jvm.MethodName)) ∈ lw_gd := lw_gm (lw_in3 (List.mem_of_getElem? (i := 131) rfl)) rfl
theorem gm_504 : (Jvm.Cond.instanceMethod ({ cls := "OdometryDeskModel", name := "corridor", desc := "(IIIII)I" } : Jvm.MethodName)) ∈ lw_gd := lw_gm (lw_in3 (List.mem_of_getElem? (i := 132) rfl)) rfl
theorem gm_505 : (Jvm.Cond.selects "OdometryDeskModel" ({ cls := "OdometryDeskModel", name := "corridor", desc := "(IIIII)I" } : Jvm.MethodName) ({ cls := "OdometryDeskModel", name := "corridor", desc := "(IIIII)I" } : Jvm.MethodName)) ∈ lw_gd := lw_gm (lw_in3 (List.mem_of_getElem? (i := 133) rfl)) rfl
theorem gm_506 : (Jvm.Cond.code ({ cls := "OdometryDeskModel", name := "corridor", desc := "(IIIII)I" } : Jvm.MethodName) prog_6_method_8_code (7 : Nat) (Option.some Jvm.ClassFile.FieldType.int)) ∈ lw_gd := lw_gm (lw_in3 (List.mem_of_getElem? (i := 134) rfl)) rfl
theorem gm_507 : (Jvm.Cond.methodLink "OdometryDeskModel" (81 : Nat) ({ cls := "OdometryDeskModel", name := "isPlace", desc := "(I)Z" } : Jvm.MethodName)) ∈ lw_gd := lw_gm (lw_in3 (List.mem_of_getElem? (i := 135) rfl)) rfl
theorem gm_508 : (Jvm.Cond.static ({ cls := "OdometryDeskModel", name := "isPlace", desc := "(I)Z" } : Jvm.MethodName)) ∈ lw_gd := lw_gm (lw_in3 (List.mem_of_getElem? (i := 136) rfl)) rfl
theorem gm_509 : (Jvm.Cond.code ({ cls := "OdometryDeskModel", name := "isPlace", desc := "(I)Z" } : Jvm.MethodName) prog_6_method_4_code (1 : Nat) (Option.some Jvm.ClassFile.FieldType.boolean)) ∈ lw_gd := lw_gm (lw_in3 (List.mem_of_getElem? (i := 137) rfl)) rfl
theorem gm_510 : (Jvm.Cond.constant "OdometryDeskModel" (66 : Nat) (-100000 : Int32)) ∈ lw_gd := lw_gm (lw_in3 (List.mem_of_getElem? (i := 138) rfl)) rfl
theorem gm_511 : (Jvm.Cond.methodLink "OdometryDeskLaw" (26 : Nat) ({ cls := "OdometryDeskModel", name := "marker", desc := "(II)I" } : Jvm.MethodName)) ∈ lw_gd := lw_gm (lw_in3 (List.mem_of_getElem? (i := 139) rfl)) rfl
theorem gm_512 : (Jvm.Cond.instanceMethod ({ cls := "OdometryDeskModel", name := "marker", desc := "(II)I" } : Jvm.MethodName)) ∈ lw_gd := lw_gm (lw_in3 (List.mem_of_getElem? (i := 140) rfl)) rfl
theorem gm_513 : (Jvm.Cond.selects "OdometryDeskModel" ({ cls := "OdometryDeskModel", name := "marker", desc := "(II)I" } : Jvm.MethodName) ({ cls := "OdometryDeskModel", name := "marker", desc := "(II)I" } : Jvm.MethodName)) ∈ lw_gd := lw_gm (lw_in3 (List.mem_of_getElem? (i := 141) rfl)) rfl
theorem gm_514 : (Jvm.Cond.code ({ cls := "OdometryDeskModel", name := "marker", desc := "(II)I" } : Jvm.MethodName) prog_6_method_9_code (3 : Nat) (Option.some Jvm.ClassFile.FieldType.int)) ∈ lw_gd := lw_gm (lw_in3 (List.mem_of_getElem? (i := 142) rfl)) rfl
theorem gm_515 : (Jvm.Cond.methodLink "OdometryDeskLaw" (31 : Nat) ({ cls := "OdometryDeskModel", name := "closeCorridor", desc := "()I" } : Jvm.MethodName)) ∈ lw_gd := lw_gm (lw_in3 (List.mem_of_getElem? (i := 143) rfl)) rfl
theorem gm_516 : (Jvm.Cond.instanceMethod ({ cls := "OdometryDeskModel", name := "closeCorridor", desc := "()I" } : Jvm.MethodName)) ∈ lw_gd := lw_gm (lw_in3 (List.mem_of_getElem? (i := 144) rfl)) rfl
theorem gm_517 : (Jvm.Cond.selects "OdometryDeskModel" ({ cls := "OdometryDeskModel", name := "closeCorridor", desc := "()I" } : Jvm.MethodName) ({ cls := "OdometryDeskModel", name := "closeCorridor", desc := "()I" } : Jvm.MethodName)) ∈ lw_gd := lw_gm (lw_in3 (List.mem_of_getElem? (i := 145) rfl)) rfl
theorem gm_518 : (Jvm.Cond.code ({ cls := "OdometryDeskModel", name := "closeCorridor", desc := "()I" } : Jvm.MethodName) prog_6_method_10_code (1 : Nat) (Option.some Jvm.ClassFile.FieldType.int)) ∈ lw_gd := lw_gm (lw_in3 (List.mem_of_getElem? (i := 146) rfl)) rfl
theorem gm_519 : (Jvm.Cond.methodLink "OdometryDeskLaw" (36 : Nat) ({ cls := "OdometryDeskModel", name := "begin", desc := "(III)I" } : Jvm.MethodName)) ∈ lw_gd := lw_gm (lw_in3 (List.mem_of_getElem? (i := 147) rfl)) rfl
theorem gm_520 : (Jvm.Cond.instanceMethod ({ cls := "OdometryDeskModel", name := "begin", desc := "(III)I" } : Jvm.MethodName)) ∈ lw_gd := lw_gm (lw_in3 (List.mem_of_getElem? (i := 148) rfl)) rfl
theorem gm_521 : (Jvm.Cond.selects "OdometryDeskModel" ({ cls := "OdometryDeskModel", name := "begin", desc := "(III)I" } : Jvm.MethodName) ({ cls := "OdometryDeskModel", name := "begin", desc := "(III)I" } : Jvm.MethodName)) ∈ lw_gd := lw_gm (lw_in3 (List.mem_of_getElem? (i := 149) rfl)) rfl
theorem gm_522 : (Jvm.Cond.code ({ cls := "OdometryDeskModel", name := "begin", desc := "(III)I" } : Jvm.MethodName) prog_6_method_11_code (4 : Nat) (Option.some Jvm.ClassFile.FieldType.int)) ∈ lw_gd := lw_gm (lw_in3 (List.mem_of_getElem? (i := 150) rfl)) rfl
theorem gm_523 : (Jvm.Cond.constant "OdometryDeskModel" (85 : Nat) (3599999 : Int32)) ∈ lw_gd := lw_gm (lw_in3 (List.mem_of_getElem? (i := 151) rfl)) rfl
theorem gm_524 : (Jvm.Cond.methodLink "OdometryDeskLaw" (40 : Nat) ({ cls := "OdometryDeskModel", name := "step", desc := "(III)I" } : Jvm.MethodName)) ∈ lw_gd := lw_gm (lw_in3 (List.mem_of_getElem? (i := 152) rfl)) rfl
theorem gm_525 : (Jvm.Cond.instanceMethod ({ cls := "OdometryDeskModel", name := "step", desc := "(III)I" } : Jvm.MethodName)) ∈ lw_gd := lw_gm (lw_in3 (List.mem_of_getElem? (i := 153) rfl)) rfl
theorem gm_526 : (Jvm.Cond.selects "OdometryDeskModel" ({ cls := "OdometryDeskModel", name := "step", desc := "(III)I" } : Jvm.MethodName) ({ cls := "OdometryDeskModel", name := "step", desc := "(III)I" } : Jvm.MethodName)) ∈ lw_gd := lw_gm (lw_in3 (List.mem_of_getElem? (i := 154) rfl)) rfl
theorem gm_527 : (Jvm.Cond.code ({ cls := "OdometryDeskModel", name := "step", desc := "(III)I" } : Jvm.MethodName) prog_6_method_13_code (4 : Nat) (Option.some Jvm.ClassFile.FieldType.int)) ∈ lw_gd := lw_gm (lw_in3 (List.mem_of_getElem? (i := 155) rfl)) rfl
theorem gm_528 : (Jvm.Cond.constant "OdometryDeskModel" (86 : Nat) (-300000 : Int32)) ∈ lw_gd := lw_gm (lw_in3 (List.mem_of_getElem? (i := 156) rfl)) rfl
theorem gm_529 : (Jvm.Cond.constant "OdometryDeskModel" (87 : Nat) (300000 : Int32)) ∈ lw_gd := lw_gm (lw_in3 (List.mem_of_getElem? (i := 157) rfl)) rfl
theorem gm_530 : (Jvm.Cond.methodLink "OdometryDeskModel" (88 : Nat) ({ cls := "OdometryDeskModel", name := "add", desc := "(IIII)V" } : Jvm.MethodName)) ∈ lw_gd := lw_gm (lw_in3 (List.mem_of_getElem? (i := 158) rfl)) rfl
theorem gm_531 : (Jvm.Cond.instanceMethod ({ cls := "OdometryDeskModel", name := "add", desc := "(IIII)V" } : Jvm.MethodName)) ∈ lw_gd := lw_gm (lw_in3 (List.mem_of_getElem? (i := 160) rfl)) rfl
theorem gm_532 : (Jvm.Cond.code ({ cls := "OdometryDeskModel", name := "add", desc := "(IIII)V" } : Jvm.MethodName) prog_6_method_12_code (6 : Nat) (Option.none : Option Jvm.ClassFile.FieldType)) ∈ lw_gd := lw_gm (lw_in3 (List.mem_of_getElem? (i := 161) rfl)) rfl
theorem gm_533 : (Jvm.Cond.methodLink "OdometryDeskLaw" (45 : Nat) ({ cls := "OdometryDeskModel", name := "see", desc := "(I)I" } : Jvm.MethodName)) ∈ lw_gd := lw_gm (lw_in3 (List.mem_of_getElem? (i := 162) rfl)) rfl
theorem gm_534 : (Jvm.Cond.instanceMethod ({ cls := "OdometryDeskModel", name := "see", desc := "(I)I" } : Jvm.MethodName)) ∈ lw_gd := lw_gm (lw_in3 (List.mem_of_getElem? (i := 163) rfl)) rfl
theorem gm_535 : (Jvm.Cond.selects "OdometryDeskModel" ({ cls := "OdometryDeskModel", name := "see", desc := "(I)I" } : Jvm.MethodName) ({ cls := "OdometryDeskModel", name := "see", desc := "(I)I" } : Jvm.MethodName)) ∈ lw_gd := lw_gm (lw_in3 (List.mem_of_getElem? (i := 164) rfl)) rfl
theorem gm_536 : (Jvm.Cond.code ({ cls := "OdometryDeskModel", name := "see", desc := "(I)I" } : Jvm.MethodName) prog_6_method_14_code (2 : Nat) (Option.some Jvm.ClassFile.FieldType.int)) ∈ lw_gd := lw_gm (lw_in3 (List.mem_of_getElem? (i := 165) rfl)) rfl
theorem gm_537 : (Jvm.Cond.methodLink "OdometryDeskLaw" (49 : Nat) ({ cls := "OdometryDeskModel", name := "cut", desc := "(I)I" } : Jvm.MethodName)) ∈ lw_gd := lw_gm (lw_in3 (List.mem_of_getElem? (i := 166) rfl)) rfl
theorem gm_538 : (Jvm.Cond.instanceMethod ({ cls := "OdometryDeskModel", name := "cut", desc := "(I)I" } : Jvm.MethodName)) ∈ lw_gd := lw_gm (lw_in3 (List.mem_of_getElem? (i := 167) rfl)) rfl
theorem gm_539 : (Jvm.Cond.selects "OdometryDeskModel" ({ cls := "OdometryDeskModel", name := "cut", desc := "(I)I" } : Jvm.MethodName) ({ cls := "OdometryDeskModel", name := "cut", desc := "(I)I" } : Jvm.MethodName)) ∈ lw_gd := lw_gm (lw_in3 (List.mem_of_getElem? (i := 168) rfl)) rfl
theorem gm_540 : (Jvm.Cond.code ({ cls := "OdometryDeskModel", name := "cut", desc := "(I)I" } : Jvm.MethodName) prog_6_method_15_code (2 : Nat) (Option.some Jvm.ClassFile.FieldType.int)) ∈ lw_gd := lw_gm (lw_in3 (List.mem_of_getElem? (i := 169) rfl)) rfl
theorem gm_541 : (Jvm.Cond.methodLink "OdometryDeskLaw" (53 : Nat) ({ cls := "OdometryDeskModel", name := "pose", desc := "(II)I" } : Jvm.MethodName)) ∈ lw_gd := lw_gm (lw_in3 (List.mem_of_getElem? (i := 170) rfl)) rfl
theorem gm_542 : (Jvm.Cond.instanceMethod ({ cls := "OdometryDeskModel", name := "pose", desc := "(II)I" } : Jvm.MethodName)) ∈ lw_gd := lw_gm (lw_in3 (List.mem_of_getElem? (i := 171) rfl)) rfl
theorem gm_543 : (Jvm.Cond.selects "OdometryDeskModel" ({ cls := "OdometryDeskModel", name := "pose", desc := "(II)I" } : Jvm.MethodName) ({ cls := "OdometryDeskModel", name := "pose", desc := "(II)I" } : Jvm.MethodName)) ∈ lw_gd := lw_gm (lw_in3 (List.mem_of_getElem? (i := 172) rfl)) rfl
theorem gm_544 : (Jvm.Cond.code ({ cls := "OdometryDeskModel", name := "pose", desc := "(II)I" } : Jvm.MethodName) prog_6_method_34_code (3 : Nat) (Option.some Jvm.ClassFile.FieldType.int)) ∈ lw_gd := lw_gm (lw_in3 (List.mem_of_getElem? (i := 173) rfl)) rfl
theorem gm_545 : (Jvm.Cond.constant "OdometryDeskModel" (171 : Nat) (-1000000001 : Int32)) ∈ lw_gd := lw_gm (lw_in3 (List.mem_of_getElem? (i := 174) rfl)) rfl
theorem gm_546 : (Jvm.Cond.constant "OdometryDeskModel" (172 : Nat) (-1000000002 : Int32)) ∈ lw_gd := lw_gm (lw_in3 (List.mem_of_getElem? (i := 175) rfl)) rfl
theorem gm_547 : (Jvm.Cond.methodLink "OdometryDeskModel" (173 : Nat) ({ cls := "OdometryDeskModel", name := "startOf", desc := "(I)I" } : Jvm.MethodName)) ∈ lw_gd := lw_gm (lw_in3 (List.mem_of_getElem? (i := 176) rfl)) rfl
theorem gm_548 : (Jvm.Cond.instanceMethod ({ cls := "OdometryDeskModel", name := "startOf", desc := "(I)I" } : Jvm.MethodName)) ∈ lw_gd := lw_gm (lw_in3 (List.mem_of_getElem? (i := 178) rfl)) rfl
theorem gm_549 : (Jvm.Cond.code ({ cls := "OdometryDeskModel", name := "startOf", desc := "(I)I" } : Jvm.MethodName) prog_6_method_33_code (2 : Nat) (Option.some Jvm.ClassFile.FieldType.int)) ∈ lw_gd := lw_gm (lw_in3 (List.mem_of_getElem? (i := 179) rfl)) rfl
theorem gm_550 : (Jvm.Cond.methodLink "OdometryDeskModel" (176 : Nat) ({ cls := "OdometryDeskModel", name := "findAll", desc := "()V" } : Jvm.MethodName)) ∈ lw_gd := lw_gm (lw_in3 (List.mem_of_getElem? (i := 180) rfl)) rfl
theorem gm_551 : (Jvm.Cond.instanceMethod ({ cls := "OdometryDeskModel", name := "findAll", desc := "()V" } : Jvm.MethodName)) ∈ lw_gd := lw_gm (lw_in3 (List.mem_of_getElem? (i := 182) rfl)) rfl
theorem gm_552 : (Jvm.Cond.code ({ cls := "OdometryDeskModel", name := "findAll", desc := "()V" } : Jvm.MethodName) prog_6_method_22_code (2 : Nat) (Option.none : Option Jvm.ClassFile.FieldType)) ∈ lw_gd := lw_gm (lw_in3 (List.mem_of_getElem? (i := 183) rfl)) rfl
theorem gm_553 : (Jvm.Cond.methodLink "OdometryDeskModel" (121 : Nat) ({ cls := "OdometryDeskModel", name := "ofEntry", desc := "(II)I" } : Jvm.MethodName)) ∈ lw_gd := lw_gm (lw_in3 (List.mem_of_getElem? (i := 184) rfl)) rfl
theorem gm_554 : (Jvm.Cond.instanceMethod ({ cls := "OdometryDeskModel", name := "ofEntry", desc := "(II)I" } : Jvm.MethodName)) ∈ lw_gd := lw_gm (lw_in3 (List.mem_of_getElem? (i := 186) rfl)) rfl
theorem gm_555 : (Jvm.Cond.code ({ cls := "OdometryDeskModel", name := "ofEntry", desc := "(II)I" } : Jvm.MethodName) prog_6_method_16_code (3 : Nat) (Option.some Jvm.ClassFile.FieldType.int)) ∈ lw_gd := lw_gm (lw_in3 (List.mem_of_getElem? (i := 187) rfl)) rfl
theorem gm_556 : (Jvm.Cond.methodLink "OdometryDeskModel" (125 : Nat) ({ cls := "OdometryDeskModel", name := "findSight", desc := "(I)V" } : Jvm.MethodName)) ∈ lw_gd := lw_gm (lw_in3 (List.mem_of_getElem? (i := 188) rfl)) rfl
theorem gm_557 : (Jvm.Cond.instanceMethod ({ cls := "OdometryDeskModel", name := "findSight", desc := "(I)V" } : Jvm.MethodName)) ∈ lw_gd := lw_gm (lw_in3 (List.mem_of_getElem? (i := 190) rfl)) rfl
theorem gm_558 : (Jvm.Cond.code ({ cls := "OdometryDeskModel", name := "findSight", desc := "(I)V" } : Jvm.MethodName) prog_6_method_23_code (5 : Nat) (Option.none : Option Jvm.ClassFile.FieldType)) ∈ lw_gd := lw_gm (lw_in3 (List.mem_of_getElem? (i := 191) rfl)) rfl
theorem gm_559 : (Jvm.Cond.methodLink "OdometryDeskModel" (129 : Nat) ({ cls := "OdometryDeskModel", name := "findStep", desc := "(I)V" } : Jvm.MethodName)) ∈ lw_gd := lw_gm (lw_in3 (List.mem_of_getElem? (i := 192) rfl)) rfl
theorem gm_560 : (Jvm.Cond.instanceMethod ({ cls := "OdometryDeskModel", name := "findStep", desc := "(I)V" } : Jvm.MethodName)) ∈ lw_gd := lw_gm (lw_in3 (List.mem_of_getElem? (i := 194) rfl)) rfl
theorem gm_561 : (Jvm.Cond.code ({ cls := "OdometryDeskModel", name := "findStep", desc := "(I)V" } : Jvm.MethodName) prog_6_method_24_code (19 : Nat) (Option.none : Option Jvm.ClassFile.FieldType)) ∈ lw_gd := lw_gm (lw_in3 (List.mem_of_getElem? (i := 195) rfl)) rfl
theorem gm_562 : (Jvm.Cond.constantLong "OdometryDeskModel" (135 : Nat) (1000 : Int64)) ∈ lw_gd := lw_gm (lw_in3 (List.mem_of_getElem? (i := 196) rfl)) rfl
theorem gm_563 : (Jvm.Cond.constantLong "OdometryDeskModel" (137 : Nat) (572958 : Int64)) ∈ lw_gd := lw_gm (lw_in3 (List.mem_of_getElem? (i := 197) rfl)) rfl
theorem gm_564 : (Jvm.Cond.constantLong "OdometryDeskModel" (139 : Nat) (100 : Int64)) ∈ lw_gd := lw_gm (lw_in3 (List.mem_of_getElem? (i := 198) rfl)) rfl
theorem gm_565 : (Jvm.Cond.constantLong "OdometryDeskModel" (141 : Nat) (2 : Int64)) ∈ lw_gd := lw_gm (lw_in3 (List.mem_of_getElem? (i := 199) rfl)) rfl
theorem gm_566 : (Jvm.Cond.methodLink "OdometryDeskModel" (143 : Nat) ({ cls := "OdometryDeskModel", name := "heading", desc := "(J)I" } : Jvm.MethodName)) ∈ lw_gd := lw_gm (lw_in3 (List.mem_of_getElem? (i := 200) rfl)) rfl
theorem gm_567 : (Jvm.Cond.static ({ cls := "OdometryDeskModel", name := "heading", desc := "(J)I" } : Jvm.MethodName)) ∈ lw_gd := lw_gm (lw_in3 (List.mem_of_getElem? (i := 201) rfl)) rfl
theorem gm_568 : (Jvm.Cond.code ({ cls := "OdometryDeskModel", name := "heading", desc := "(J)I" } : Jvm.MethodName) prog_6_method_20_code (4 : Nat) (Option.some Jvm.ClassFile.FieldType.int)) ∈ lw_gd := lw_gm (lw_in3 (List.mem_of_getElem? (i := 202) rfl)) rfl
theorem gm_569 : (Jvm.Cond.constantLong "OdometryDeskModel" (103 : Nat) (3600000 : Int64)) ∈ lw_gd := lw_gm (lw_in3 (List.mem_of_getElem? (i := 203) rfl)) rfl
theorem gm_570 : (Jvm.Cond.methodLink "OdometryDeskModel" (147 : Nat) ({ cls := "OdometryDeskModel", name := "cosine", desc := "(I)I" } : Jvm.MethodName)) ∈ lw_gd := lw_gm (lw_in3 (List.mem_of_getElem? (i := 204) rfl)) rfl
theorem gm_571 : (Jvm.Cond.static ({ cls := "OdometryDeskModel", name := "cosine", desc := "(I)I" } : Jvm.MethodName)) ∈ lw_gd := lw_gm (lw_in3 (List.mem_of_getElem? (i := 205) rfl)) rfl
theorem gm_572 : (Jvm.Cond.code ({ cls := "OdometryDeskModel", name := "cosine", desc := "(I)I" } : Jvm.MethodName) prog_6_method_19_code (1 : Nat) (Option.some Jvm.ClassFile.FieldType.int)) ∈ lw_gd := lw_gm (lw_in3 (List.mem_of_getElem? (i := 206) rfl)) rfl
theorem gm_573 : (Jvm.Cond.constant "OdometryDeskModel" (99 : Nat) (36000 : Int32)) ∈ lw_gd := lw_gm (lw_in3 (List.mem_of_getElem? (i := 207) rfl)) rfl
theorem gm_574 : (Jvm.Cond.methodLink "OdometryDeskModel" (100 : Nat) ({ cls := "OdometryDeskModel", name := "sine", desc := "(I)I" } : Jvm.MethodName)) ∈ lw_gd := lw_gm (lw_in3 (List.mem_of_getElem? (i := 208) rfl)) rfl
theorem gm_575 : (Jvm.Cond.static ({ cls := "OdometryDeskModel", name := "sine", desc := "(I)I" } : Jvm.MethodName)) ∈ lw_gd := lw_gm (lw_in3 (List.mem_of_getElem? (i := 209) rfl)) rfl
theorem gm_576 : (Jvm.Cond.code ({ cls := "OdometryDeskModel", name := "sine", desc := "(I)I" } : Jvm.MethodName) prog_6_method_18_code (1 : Nat) (Option.some Jvm.ClassFile.FieldType.int)) ∈ lw_gd := lw_gm (lw_in3 (List.mem_of_getElem? (i := 210) rfl)) rfl
theorem gm_577 : (Jvm.Cond.methodLink "OdometryDeskModel" (96 : Nat) ({ cls := "OdometryDeskModel", name := "halfSine", desc := "(I)I" } : Jvm.MethodName)) ∈ lw_gd := lw_gm (lw_in3 (List.mem_of_getElem? (i := 211) rfl)) rfl
theorem gm_578 : (Jvm.Cond.static ({ cls := "OdometryDeskModel", name := "halfSine", desc := "(I)I" } : Jvm.MethodName)) ∈ lw_gd := lw_gm (lw_in3 (List.mem_of_getElem? (i := 212) rfl)) rfl
theorem gm_579 : (Jvm.Cond.code ({ cls := "OdometryDeskModel", name := "halfSine", desc := "(I)I" } : Jvm.MethodName) prog_6_method_17_code (3 : Nat) (Option.some Jvm.ClassFile.FieldType.int)) ∈ lw_gd := lw_gm (lw_in3 (List.mem_of_getElem? (i := 213) rfl)) rfl
theorem gm_580 : (Jvm.Cond.constantLong "OdometryDeskModel" (92 : Nat) (4000000 : Int64)) ∈ lw_gd := lw_gm (lw_in3 (List.mem_of_getElem? (i := 214) rfl)) rfl
theorem gm_581 : (Jvm.Cond.constantLong "OdometryDeskModel" (94 : Nat) (405000000 : Int64)) ∈ lw_gd := lw_gm (lw_in3 (List.mem_of_getElem? (i := 215) rfl)) rfl
theorem gm_582 : (Jvm.Cond.constantLong "OdometryDeskModel" (150 : Nat) (1000000 : Int64)) ∈ lw_gd := lw_gm (lw_in3 (List.mem_of_getElem? (i := 216) rfl)) rfl
theorem gm_583 : (Jvm.Cond.methodLink "OdometryDeskModel" (132 : Nat) ({ cls := "OdometryDeskModel", name := "findPull", desc := "(I)V" } : Jvm.MethodName)) ∈ lw_gd := lw_gm (lw_in3 (List.mem_of_getElem? (i := 217) rfl)) rfl
theorem gm_584 : (Jvm.Cond.instanceMethod ({ cls := "OdometryDeskModel", name := "findPull", desc := "(I)V" } : Jvm.MethodName)) ∈ lw_gd := lw_gm (lw_in3 (List.mem_of_getElem? (i := 219) rfl)) rfl
theorem gm_585 : (Jvm.Cond.code ({ cls := "OdometryDeskModel", name := "findPull", desc := "(I)V" } : Jvm.MethodName) prog_6_method_27_code (3 : Nat) (Option.none : Option Jvm.ClassFile.FieldType)) ∈ lw_gd := lw_gm (lw_in3 (List.mem_of_getElem? (i := 220) rfl)) rfl
theorem gm_586 : (Jvm.Cond.methodLink "OdometryDeskModel" (155 : Nat) ({ cls := "OdometryDeskModel", name := "isNear", desc := "(I)Z" } : Jvm.MethodName)) ∈ lw_gd := lw_gm (lw_in3 (List.mem_of_getElem? (i := 221) rfl)) rfl
theorem gm_587 : (Jvm.Cond.instanceMethod ({ cls := "OdometryDeskModel", name := "isNear", desc := "(I)Z" } : Jvm.MethodName)) ∈ lw_gd := lw_gm (lw_in3 (List.mem_of_getElem? (i := 223) rfl)) rfl
theorem gm_588 : (Jvm.Cond.code ({ cls := "OdometryDeskModel", name := "isNear", desc := "(I)Z" } : Jvm.MethodName) prog_6_method_25_code (4 : Nat) (Option.some Jvm.ClassFile.FieldType.boolean)) ∈ lw_gd := lw_gm (lw_in3 (List.mem_of_getElem? (i := 224) rfl)) rfl
theorem gm_589 : (Jvm.Cond.methodLink "OdometryDeskModel" (158 : Nat) ({ cls := "OdometryDeskModel", name := "offOf", desc := "(I)I" } : Jvm.MethodName)) ∈ lw_gd := lw_gm (lw_in3 (List.mem_of_getElem? (i := 225) rfl)) rfl
theorem gm_590 : (Jvm.Cond.instanceMethod ({ cls := "OdometryDeskModel", name := "offOf", desc := "(I)I" } : Jvm.MethodName)) ∈ lw_gd := lw_gm (lw_in3 (List.mem_of_getElem? (i := 227) rfl)) rfl
theorem gm_591 : (Jvm.Cond.code ({ cls := "OdometryDeskModel", name := "offOf", desc := "(I)I" } : Jvm.MethodName) prog_6_method_26_code (3 : Nat) (Option.some Jvm.ClassFile.FieldType.int)) ∈ lw_gd := lw_gm (lw_in3 (List.mem_of_getElem? (i := 228) rfl)) rfl
theorem gm_592 : (Jvm.Cond.constant "OdometryDeskModel" (152 : Nat) (1800000 : Int32)) ∈ lw_gd := lw_gm (lw_in3 (List.mem_of_getElem? (i := 229) rfl)) rfl
theorem gm_593 : (Jvm.Cond.constant "OdometryDeskModel" (153 : Nat) (-900000 : Int32)) ∈ lw_gd := lw_gm (lw_in3 (List.mem_of_getElem? (i := 230) rfl)) rfl
theorem gm_594 : (Jvm.Cond.constant "OdometryDeskModel" (154 : Nat) (899999 : Int32)) ∈ lw_gd := lw_gm (lw_in3 (List.mem_of_getElem? (i := 231) rfl)) rfl
theorem gm_595 : (Jvm.Cond.methodLink "OdometryDeskModel" (161 : Nat) ({ cls := "OdometryDeskModel", name := "sizeOf", desc := "(I)I" } : Jvm.MethodName)) ∈ lw_gd := lw_gm (lw_in3 (List.mem_of_getElem? (i := 232) rfl)) rfl
theorem gm_596 : (Jvm.Cond.static ({ cls := "OdometryDeskModel", name := "sizeOf", desc := "(I)I" } : Jvm.MethodName)) ∈ lw_gd := lw_gm (lw_in3 (List.mem_of_getElem? (i := 233) rfl)) rfl
theorem gm_597 : (Jvm.Cond.code ({ cls := "OdometryDeskModel", name := "sizeOf", desc := "(I)I" } : Jvm.MethodName) prog_6_method_21_code (1 : Nat) (Option.some Jvm.ClassFile.FieldType.int)) ∈ lw_gd := lw_gm (lw_in3 (List.mem_of_getElem? (i := 234) rfl)) rfl
theorem gm_598 : (Jvm.Cond.methodLink "OdometryDeskModel" (179 : Nat) ({ cls := "OdometryDeskModel", name := "spread", desc := "(IZ)I" } : Jvm.MethodName)) ∈ lw_gd := lw_gm (lw_in3 (List.mem_of_getElem? (i := 235) rfl)) rfl
theorem gm_599 : (Jvm.Cond.instanceMethod ({ cls := "OdometryDeskModel", name := "spread", desc := "(IZ)I" } : Jvm.MethodName)) ∈ lw_gd := lw_gm (lw_in3 (List.mem_of_getElem? (i := 237) rfl)) rfl
theorem gm_600 : (Jvm.Cond.code ({ cls := "OdometryDeskModel", name := "spread", desc := "(IZ)I" } : Jvm.MethodName) prog_6_method_32_code (10 : Nat) (Option.some Jvm.ClassFile.FieldType.int)) ∈ lw_gd := lw_gm (lw_in3 (List.mem_of_getElem? (i := 238) rfl)) rfl
theorem gm_601 : (Jvm.Cond.methodLink "OdometryDeskLaw" (57 : Nat) ({ cls := "OdometryDeskModel", name := "about", desc := "(II)I" } : Jvm.MethodName)) ∈ lw_gd := lw_gm (lw_in3 (List.mem_of_getElem? (i := 239) rfl)) rfl
theorem gm_602 : (Jvm.Cond.instanceMethod ({ cls := "OdometryDeskModel", name := "about", desc := "(II)I" } : Jvm.MethodName)) ∈ lw_gd := lw_gm (lw_in4 (List.mem_of_getElem? (i := 0) rfl)) rfl
theorem gm_603 : (Jvm.Cond.selects "OdometryDeskModel" ({ cls := "OdometryDeskModel", name := "about", desc := "(II)I" } : Jvm.MethodName) ({ cls := "OdometryDeskModel", name := "about", desc := "(II)I" } : Jvm.MethodName)) ∈ lw_gd := lw_gm (lw_in4 (List.mem_of_getElem? (i := 1) rfl)) rfl
theorem gm_604 : (Jvm.Cond.code ({ cls := "OdometryDeskModel", name := "about", desc := "(II)I" } : Jvm.MethodName) prog_6_method_37_code (3 : Nat) (Option.some Jvm.ClassFile.FieldType.int)) ∈ lw_gd := lw_gm (lw_in4 (List.mem_of_getElem? (i := 2) rfl)) rfl
theorem gm_605 : (Jvm.Cond.methodLink "OdometryDeskModel" (183 : Nat) ({ cls := "OdometryDeskModel", name := "hasNumber", desc := "(II)Z" } : Jvm.MethodName)) ∈ lw_gd := lw_gm (lw_in4 (List.mem_of_getElem? (i := 3) rfl)) rfl
theorem gm_606 : (Jvm.Cond.instanceMethod ({ cls := "OdometryDeskModel", name := "hasNumber", desc := "(II)Z" } : Jvm.MethodName)) ∈ lw_gd := lw_gm (lw_in4 (List.mem_of_getElem? (i := 5) rfl)) rfl
theorem gm_607 : (Jvm.Cond.code ({ cls := "OdometryDeskModel", name := "hasNumber", desc := "(II)Z" } : Jvm.MethodName) prog_6_method_35_code (4 : Nat) (Option.some Jvm.ClassFile.FieldType.boolean)) ∈ lw_gd := lw_gm (lw_in4 (List.mem_of_getElem? (i := 6) rfl)) rfl
theorem gm_608 : (Jvm.Cond.methodLink "OdometryDeskModel" (186 : Nat) ({ cls := "OdometryDeskModel", name := "toldOf", desc := "(II)I" } : Jvm.MethodName)) ∈ lw_gd := lw_gm (lw_in4 (List.mem_of_getElem? (i := 7) rfl)) rfl
theorem gm_609 : (Jvm.Cond.instanceMethod ({ cls := "OdometryDeskModel", name := "toldOf", desc := "(II)I" } : Jvm.MethodName)) ∈ lw_gd := lw_gm (lw_in4 (List.mem_of_getElem? (i := 9) rfl)) rfl
theorem gm_610 : (Jvm.Cond.code ({ cls := "OdometryDeskModel", name := "toldOf", desc := "(II)I" } : Jvm.MethodName) prog_6_method_36_code (3 : Nat) (Option.some Jvm.ClassFile.FieldType.int)) ∈ lw_gd := lw_gm (lw_in4 (List.mem_of_getElem? (i := 10) rfl)) rfl
theorem gm_611 : (Jvm.Cond.constant "OdometryDeskModel" (189 : Nat) (-1000000006 : Int32)) ∈ lw_gd := lw_gm (lw_in4 (List.mem_of_getElem? (i := 11) rfl)) rfl
theorem gm_612 : (Jvm.Cond.methodLink "OdometryDeskLaw" (61 : Nat) ({ cls := "OdometryDeskModel", name := "count", desc := "(I)I" } : Jvm.MethodName)) ∈ lw_gd := lw_gm (lw_in4 (List.mem_of_getElem? (i := 12) rfl)) rfl
theorem gm_613 : (Jvm.Cond.instanceMethod ({ cls := "OdometryDeskModel", name := "count", desc := "(I)I" } : Jvm.MethodName)) ∈ lw_gd := lw_gm (lw_in4 (List.mem_of_getElem? (i := 13) rfl)) rfl
theorem gm_614 : (Jvm.Cond.selects "OdometryDeskModel" ({ cls := "OdometryDeskModel", name := "count", desc := "(I)I" } : Jvm.MethodName) ({ cls := "OdometryDeskModel", name := "count", desc := "(I)I" } : Jvm.MethodName)) ∈ lw_gd := lw_gm (lw_in4 (List.mem_of_getElem? (i := 14) rfl)) rfl
theorem gm_615 : (Jvm.Cond.code ({ cls := "OdometryDeskModel", name := "count", desc := "(I)I" } : Jvm.MethodName) prog_6_method_38_code (2 : Nat) (Option.some Jvm.ClassFile.FieldType.int)) ∈ lw_gd := lw_gm (lw_in4 (List.mem_of_getElem? (i := 15) rfl)) rfl
theorem gm_616 : (Jvm.Cond.methodLink "OdometryDeskModel" (190 : Nat) ({ cls := "OdometryDeskModel", name := "manyOf", desc := "(I)I" } : Jvm.MethodName)) ∈ lw_gd := lw_gm (lw_in4 (List.mem_of_getElem? (i := 16) rfl)) rfl
theorem gm_617 : (Jvm.Cond.instanceMethod ({ cls := "OdometryDeskModel", name := "manyOf", desc := "(I)I" } : Jvm.MethodName)) ∈ lw_gd := lw_gm (lw_in4 (List.mem_of_getElem? (i := 18) rfl)) rfl
theorem gm_618 : (Jvm.Cond.code ({ cls := "OdometryDeskModel", name := "manyOf", desc := "(I)I" } : Jvm.MethodName) prog_6_method_28_code (4 : Nat) (Option.some Jvm.ClassFile.FieldType.int)) ∈ lw_gd := lw_gm (lw_in4 (List.mem_of_getElem? (i := 19) rfl)) rfl
theorem gm_619 : (Jvm.Cond.methodLink "OdometryDeskModel" (193 : Nat) ({ cls := "OdometryDeskModel", name := "manyPulled", desc := "()I" } : Jvm.MethodName)) ∈ lw_gd := lw_gm (lw_in4 (List.mem_of_getElem? (i := 20) rfl)) rfl
theorem gm_620 : (Jvm.Cond.instanceMethod ({ cls := "OdometryDeskModel", name := "manyPulled", desc := "()I" } : Jvm.MethodName)) ∈ lw_gd := lw_gm (lw_in4 (List.mem_of_getElem? (i := 22) rfl)) rfl
theorem gm_621 : (Jvm.Cond.code ({ cls := "OdometryDeskModel", name := "manyPulled", desc := "()I" } : Jvm.MethodName) prog_6_method_29_code (3 : Nat) (Option.some Jvm.ClassFile.FieldType.int)) ∈ lw_gd := lw_gm (lw_in4 (List.mem_of_getElem? (i := 23) rfl)) rfl
theorem gm_622 : (Jvm.Cond.methodLink "OdometryDeskModel" (197 : Nat) ({ cls := "OdometryDeskModel", name := "errorsTold", desc := "()I" } : Jvm.MethodName)) ∈ lw_gd := lw_gm (lw_in4 (List.mem_of_getElem? (i := 24) rfl)) rfl
theorem gm_623 : (Jvm.Cond.instanceMethod ({ cls := "OdometryDeskModel", name := "errorsTold", desc := "()I" } : Jvm.MethodName)) ∈ lw_gd := lw_gm (lw_in4 (List.mem_of_getElem? (i := 26) rfl)) rfl
theorem gm_624 : (Jvm.Cond.code ({ cls := "OdometryDeskModel", name := "errorsTold", desc := "()I" } : Jvm.MethodName) prog_6_method_31_code (1 : Nat) (Option.some Jvm.ClassFile.FieldType.int)) ∈ lw_gd := lw_gm (lw_in4 (List.mem_of_getElem? (i := 27) rfl)) rfl
theorem gm_625 : (Jvm.Cond.methodLink "OdometryDeskModel" (164 : Nat) ({ cls := "OdometryDeskModel", name := "sumOfErrors", desc := "()J" } : Jvm.MethodName)) ∈ lw_gd := lw_gm (lw_in4 (List.mem_of_getElem? (i := 28) rfl)) rfl
theorem gm_626 : (Jvm.Cond.instanceMethod ({ cls := "OdometryDeskModel", name := "sumOfErrors", desc := "()J" } : Jvm.MethodName)) ∈ lw_gd := lw_gm (lw_in4 (List.mem_of_getElem? (i := 30) rfl)) rfl
theorem gm_627 : (Jvm.Cond.code ({ cls := "OdometryDeskModel", name := "sumOfErrors", desc := "()J" } : Jvm.MethodName) prog_6_method_30_code (4 : Nat) (Option.some Jvm.ClassFile.FieldType.long)) ∈ lw_gd := lw_gm (lw_in4 (List.mem_of_getElem? (i := 31) rfl)) rfl
theorem gm_628 : (Jvm.Cond.constantLong "OdometryDeskModel" (168 : Nat) (2000000000 : Int64)) ∈ lw_gd := lw_gm (lw_in4 (List.mem_of_getElem? (i := 32) rfl)) rfl
theorem gm_629 : (Jvm.Cond.constant "OdometryDeskModel" (170 : Nat) (2000000000 : Int32)) ∈ lw_gd := lw_gm (lw_in4 (List.mem_of_getElem? (i := 33) rfl)) rfl
theorem gm_630 : (Jvm.Cond.methodLink "OdometryDeskLaw" (65 : Nat) ({ cls := "OdometryDeskModel", name := "wave", desc := "(II)I" } : Jvm.MethodName)) ∈ lw_gd := lw_gm (lw_in4 (List.mem_of_getElem? (i := 34) rfl)) rfl
theorem gm_631 : (Jvm.Cond.instanceMethod ({ cls := "OdometryDeskModel", name := "wave", desc := "(II)I" } : Jvm.MethodName)) ∈ lw_gd := lw_gm (lw_in4 (List.mem_of_getElem? (i := 35) rfl)) rfl
theorem gm_632 : (Jvm.Cond.selects "OdometryDeskModel" ({ cls := "OdometryDeskModel", name := "wave", desc := "(II)I" } : Jvm.MethodName) ({ cls := "OdometryDeskModel", name := "wave", desc := "(II)I" } : Jvm.MethodName)) ∈ lw_gd := lw_gm (lw_in4 (List.mem_of_getElem? (i := 36) rfl)) rfl
theorem gm_633 : (Jvm.Cond.code ({ cls := "OdometryDeskModel", name := "wave", desc := "(II)I" } : Jvm.MethodName) prog_6_method_39_code (3 : Nat) (Option.some Jvm.ClassFile.FieldType.int)) ∈ lw_gd := lw_gm (lw_in4 (List.mem_of_getElem? (i := 37) rfl)) rfl
theorem gm_634 : (Jvm.Cond.constant "OdometryDeskModel" (203 : Nat) (35999 : Int32)) ∈ lw_gd := lw_gm (lw_in4 (List.mem_of_getElem? (i := 38) rfl)) rfl
theorem gm_635 : (Jvm.Cond.methodLink "OdometryDeskLaw" (69 : Nat) ({ cls := "OdometryDeskModel", name := "ifSet", desc := "(III)I" } : Jvm.MethodName)) ∈ lw_gd := lw_gm (lw_in4 (List.mem_of_getElem? (i := 39) rfl)) rfl
theorem gm_636 : (Jvm.Cond.instanceMethod ({ cls := "OdometryDeskModel", name := "ifSet", desc := "(III)I" } : Jvm.MethodName)) ∈ lw_gd := lw_gm (lw_in4 (List.mem_of_getElem? (i := 40) rfl)) rfl
theorem gm_637 : (Jvm.Cond.selects "OdometryDeskModel" ({ cls := "OdometryDeskModel", name := "ifSet", desc := "(III)I" } : Jvm.MethodName) ({ cls := "OdometryDeskModel", name := "ifSet", desc := "(III)I" } : Jvm.MethodName)) ∈ lw_gd := lw_gm (lw_in4 (List.mem_of_getElem? (i := 41) rfl)) rfl
theorem gm_638 : (Jvm.Cond.code ({ cls := "OdometryDeskModel", name := "ifSet", desc := "(III)I" } : Jvm.MethodName) prog_6_method_40_code (5 : Nat) (Option.some Jvm.ClassFile.FieldType.int)) ∈ lw_gd := lw_gm (lw_in4 (List.mem_of_getElem? (i := 42) rfl)) rfl
theorem gm_639 : (Jvm.Cond.methodLink "OdometryDeskLaw" (73 : Nat) ({ cls := "OdometryDeskModel", name := "bestBase", desc := "()I" } : Jvm.MethodName)) ∈ lw_gd := lw_gm (lw_in4 (List.mem_of_getElem? (i := 43) rfl)) rfl
theorem gm_640 : (Jvm.Cond.instanceMethod ({ cls := "OdometryDeskModel", name := "bestBase", desc := "()I" } : Jvm.MethodName)) ∈ lw_gd := lw_gm (lw_in4 (List.mem_of_getElem? (i := 44) rfl)) rfl
theorem gm_641 : (Jvm.Cond.selects "OdometryDeskModel" ({ cls := "OdometryDeskModel", name := "bestBase", desc := "()I" } : Jvm.MethodName) ({ cls := "OdometryDeskModel", name := "bestBase", desc := "()I" } : Jvm.MethodName)) ∈ lw_gd := lw_gm (lw_in4 (List.mem_of_getElem? (i := 45) rfl)) rfl
theorem gm_642 : (Jvm.Cond.code ({ cls := "OdometryDeskModel", name := "bestBase", desc := "()I" } : Jvm.MethodName) prog_6_method_43_code (10 : Nat) (Option.some Jvm.ClassFile.FieldType.int)) ∈ lw_gd := lw_gm (lw_in4 (List.mem_of_getElem? (i := 46) rfl)) rfl
theorem gm_643 : (Jvm.Cond.methodLink "OdometryDeskModel" (204 : Nat) ({ cls := "OdometryDeskModel", name := "sights", desc := "()I" } : Jvm.MethodName)) ∈ lw_gd := lw_gm (lw_in4 (List.mem_of_getElem? (i := 47) rfl)) rfl
theorem gm_644 : (Jvm.Cond.instanceMethod ({ cls := "OdometryDeskModel", name := "sights", desc := "()I" } : Jvm.MethodName)) ∈ lw_gd := lw_gm (lw_in4 (List.mem_of_getElem? (i := 49) rfl)) rfl
theorem gm_645 : (Jvm.Cond.code ({ cls := "OdometryDeskModel", name := "sights", desc := "()I" } : Jvm.MethodName) prog_6_method_42_code (1 : Nat) (Option.some Jvm.ClassFile.FieldType.int)) ∈ lw_gd := lw_gm (lw_in4 (List.mem_of_getElem? (i := 50) rfl)) rfl
theorem gm_646 : (Jvm.Cond.methodLink "OdometryDeskModel" (207 : Nat) ({ cls := "OdometryDeskModel", name := "errorsWith", desc := "(II)J" } : Jvm.MethodName)) ∈ lw_gd := lw_gm (lw_in4 (List.mem_of_getElem? (i := 51) rfl)) rfl
theorem gm_647 : (Jvm.Cond.instanceMethod ({ cls := "OdometryDeskModel", name := "errorsWith", desc := "(II)J" } : Jvm.MethodName)) ∈ lw_gd := lw_gm (lw_in4 (List.mem_of_getElem? (i := 53) rfl)) rfl
theorem gm_648 : (Jvm.Cond.code ({ cls := "OdometryDeskModel", name := "errorsWith", desc := "(II)J" } : Jvm.MethodName) prog_6_method_41_code (4 : Nat) (Option.some Jvm.ClassFile.FieldType.long)) ∈ lw_gd := lw_gm (lw_in4 (List.mem_of_getElem? (i := 54) rfl)) rfl
theorem gm_649 : (Jvm.Cond.methodLink "OdometryDeskLaw" (77 : Nat) ({ cls := "OdometryDeskModel", name := "bestTrust", desc := "()I" } : Jvm.MethodName)) ∈ lw_gd := lw_gm (lw_in4 (List.mem_of_getElem? (i := 55) rfl)) rfl
theorem gm_650 : (Jvm.Cond.instanceMethod ({ cls := "OdometryDeskModel", name := "bestTrust", desc := "()I" } : Jvm.MethodName)) ∈ lw_gd := lw_gm (lw_in4 (List.mem_of_getElem? (i := 56) rfl)) rfl
theorem gm_651 : (Jvm.Cond.selects "OdometryDeskModel" ({ cls := "OdometryDeskModel", name := "bestTrust", desc := "()I" } : Jvm.MethodName) ({ cls := "OdometryDeskModel", name := "bestTrust", desc := "()I" } : Jvm.MethodName)) ∈ lw_gd := lw_gm (lw_in4 (List.mem_of_getElem? (i := 57) rfl)) rfl
theorem gm_652 : (Jvm.Cond.code ({ cls := "OdometryDeskModel", name := "bestTrust", desc := "()I" } : Jvm.MethodName) prog_6_method_44_code (7 : Nat) (Option.some Jvm.ClassFile.FieldType.int)) ∈ lw_gd := lw_gm (lw_in4 (List.mem_of_getElem? (i := 58) rfl)) rfl
theorem gm_653 : (Jvm.Cond.methodLink "OdometryDeskLaw" (84 : Nat) ({ cls := "OdometryDeskModel", name := "put", desc := "(J)I" } : Jvm.MethodName)) ∈ lw_gd := lw_gm (lw_in4 (List.mem_of_getElem? (i := 59) rfl)) rfl
theorem gm_654 : (Jvm.Cond.instanceMethod ({ cls := "OdometryDeskModel", name := "put", desc := "(J)I" } : Jvm.MethodName)) ∈ lw_gd := lw_gm (lw_in4 (List.mem_of_getElem? (i := 60) rfl)) rfl
theorem gm_655 : (Jvm.Cond.selects "OdometryDeskModel" ({ cls := "OdometryDeskModel", name := "put", desc := "(J)I" } : Jvm.MethodName) ({ cls := "OdometryDeskModel", name := "put", desc := "(J)I" } : Jvm.MethodName)) ∈ lw_gd := lw_gm (lw_in4 (List.mem_of_getElem? (i := 61) rfl)) rfl
theorem gm_656 : (Jvm.Cond.code ({ cls := "OdometryDeskModel", name := "put", desc := "(J)I" } : Jvm.MethodName) prog_6_method_45_code (7 : Nat) (Option.some Jvm.ClassFile.FieldType.int)) ∈ lw_gd := lw_gm (lw_in4 (List.mem_of_getElem? (i := 62) rfl)) rfl
theorem gm_657 : (Jvm.Cond.constantLong "OdometryDeskModel" (211 : Nat) (255 : Int64)) ∈ lw_gd := lw_gm (lw_in4 (List.mem_of_getElem? (i := 63) rfl)) rfl
theorem gm_658 : (Jvm.Cond.methodLink "OdometryDeskLaw" (88 : Nat) ({ cls := "OdometryDeskModel", name := "wipe", desc := "()I" } : Jvm.MethodName)) ∈ lw_gd := lw_gm (lw_in4 (List.mem_of_getElem? (i := 64) rfl)) rfl
theorem gm_659 : (Jvm.Cond.instanceMethod ({ cls := "OdometryDeskModel", name := "wipe", desc := "()I" } : Jvm.MethodName)) ∈ lw_gd := lw_gm (lw_in4 (List.mem_of_getElem? (i := 65) rfl)) rfl
theorem gm_660 : (Jvm.Cond.selects "OdometryDeskModel" ({ cls := "OdometryDeskModel", name := "wipe", desc := "()I" } : Jvm.MethodName) ({ cls := "OdometryDeskModel", name := "wipe", desc := "()I" } : Jvm.MethodName)) ∈ lw_gd := lw_gm (lw_in4 (List.mem_of_getElem? (i := 66) rfl)) rfl
theorem gm_661 : (Jvm.Cond.code ({ cls := "OdometryDeskModel", name := "wipe", desc := "()I" } : Jvm.MethodName) prog_6_method_46_code (2 : Nat) (Option.some Jvm.ClassFile.FieldType.int)) ∈ lw_gd := lw_gm (lw_in4 (List.mem_of_getElem? (i := 67) rfl)) rfl
theorem gm_662 : (Jvm.Cond.methodLink "OdometryDeskLaw" (92 : Nat) ({ cls := "OdometryDeskModel", name := "fault", desc := "()I" } : Jvm.MethodName)) ∈ lw_gd := lw_gm (lw_in4 (List.mem_of_getElem? (i := 68) rfl)) rfl
theorem gm_663 : (Jvm.Cond.instanceMethod ({ cls := "OdometryDeskModel", name := "fault", desc := "()I" } : Jvm.MethodName)) ∈ lw_gd := lw_gm (lw_in4 (List.mem_of_getElem? (i := 69) rfl)) rfl
theorem gm_664 : (Jvm.Cond.selects "OdometryDeskModel" ({ cls := "OdometryDeskModel", name := "fault", desc := "()I" } : Jvm.MethodName) ({ cls := "OdometryDeskModel", name := "fault", desc := "()I" } : Jvm.MethodName)) ∈ lw_gd := lw_gm (lw_in4 (List.mem_of_getElem? (i := 70) rfl)) rfl
theorem gm_665 : (Jvm.Cond.code ({ cls := "OdometryDeskModel", name := "fault", desc := "()I" } : Jvm.MethodName) prog_6_method_52_code (1 : Nat) (Option.some Jvm.ClassFile.FieldType.int)) ∈ lw_gd := lw_gm (lw_in4 (List.mem_of_getElem? (i := 71) rfl)) rfl
theorem gm_666 : (Jvm.Cond.methodLink "OdometryDeskModel" (235 : Nat) ({ cls := "OdometryDeskModel", name := "takeEntry", desc := "()V" } : Jvm.MethodName)) ∈ lw_gd := lw_gm (lw_in4 (List.mem_of_getElem? (i := 72) rfl)) rfl
theorem gm_667 : (Jvm.Cond.instanceMethod ({ cls := "OdometryDeskModel", name := "takeEntry", desc := "()V" } : Jvm.MethodName)) ∈ lw_gd := lw_gm (lw_in4 (List.mem_of_getElem? (i := 74) rfl)) rfl
theorem gm_668 : (Jvm.Cond.code ({ cls := "OdometryDeskModel", name := "takeEntry", desc := "()V" } : Jvm.MethodName) prog_6_method_51_code (2 : Nat) (Option.none : Option Jvm.ClassFile.FieldType)) ∈ lw_gd := lw_gm (lw_in4 (List.mem_of_getElem? (i := 75) rfl)) rfl
theorem gm_669 : (Jvm.Cond.methodLink "OdometryDeskModel" (220 : Nat) ({ cls := "OdometryDeskModel", name := "next", desc := "()I" } : Jvm.MethodName)) ∈ lw_gd := lw_gm (lw_in4 (List.mem_of_getElem? (i := 76) rfl)) rfl
theorem gm_670 : (Jvm.Cond.instanceMethod ({ cls := "OdometryDeskModel", name := "next", desc := "()I" } : Jvm.MethodName)) ∈ lw_gd := lw_gm (lw_in4 (List.mem_of_getElem? (i := 78) rfl)) rfl
theorem gm_671 : (Jvm.Cond.code ({ cls := "OdometryDeskModel", name := "next", desc := "()I" } : Jvm.MethodName) prog_6_method_47_code (1 : Nat) (Option.some Jvm.ClassFile.FieldType.int)) ∈ lw_gd := lw_gm (lw_in4 (List.mem_of_getElem? (i := 79) rfl)) rfl
theorem gm_672 : (Jvm.Cond.methodLink "OdometryDeskModel" (223 : Nat) ({ cls := "OdometryDeskModel", name := "takeNumber", desc := "(I)I" } : Jvm.MethodName)) ∈ lw_gd := lw_gm (lw_in4 (List.mem_of_getElem? (i := 80) rfl)) rfl
theorem gm_673 : (Jvm.Cond.instanceMethod ({ cls := "OdometryDeskModel", name := "takeNumber", desc := "(I)I" } : Jvm.MethodName)) ∈ lw_gd := lw_gm (lw_in4 (List.mem_of_getElem? (i := 82) rfl)) rfl
theorem gm_674 : (Jvm.Cond.code ({ cls := "OdometryDeskModel", name := "takeNumber", desc := "(I)I" } : Jvm.MethodName) prog_6_method_48_code (4 : Nat) (Option.some Jvm.ClassFile.FieldType.int)) ∈ lw_gd := lw_gm (lw_in4 (List.mem_of_getElem? (i := 83) rfl)) rfl
theorem gm_675 : (Jvm.Cond.methodLink "OdometryDeskModel" (229 : Nat) ({ cls := "OdometryDeskModel", name := "takeInteger", desc := "(I)I" } : Jvm.MethodName)) ∈ lw_gd := lw_gm (lw_in4 (List.mem_of_getElem? (i := 84) rfl)) rfl
theorem gm_676 : (Jvm.Cond.instanceMethod ({ cls := "OdometryDeskModel", name := "takeInteger", desc := "(I)I" } : Jvm.MethodName)) ∈ lw_gd := lw_gm (lw_in4 (List.mem_of_getElem? (i := 86) rfl)) rfl
theorem gm_677 : (Jvm.Cond.code ({ cls := "OdometryDeskModel", name := "takeInteger", desc := "(I)I" } : Jvm.MethodName) prog_6_method_49_code (4 : Nat) (Option.some Jvm.ClassFile.FieldType.int)) ∈ lw_gd := lw_gm (lw_in4 (List.mem_of_getElem? (i := 87) rfl)) rfl
theorem gm_678 : (Jvm.Cond.methodLink "OdometryDeskModel" (232 : Nat) ({ cls := "OdometryDeskModel", name := "need", desc := "(I)V" } : Jvm.MethodName)) ∈ lw_gd := lw_gm (lw_in4 (List.mem_of_getElem? (i := 88) rfl)) rfl
theorem gm_679 : (Jvm.Cond.instanceMethod ({ cls := "OdometryDeskModel", name := "need", desc := "(I)V" } : Jvm.MethodName)) ∈ lw_gd := lw_gm (lw_in4 (List.mem_of_getElem? (i := 90) rfl)) rfl
theorem gm_680 : (Jvm.Cond.code ({ cls := "OdometryDeskModel", name := "need", desc := "(I)V" } : Jvm.MethodName) prog_6_method_50_code (2 : Nat) (Option.none : Option Jvm.ClassFile.FieldType)) ∈ lw_gd := lw_gm (lw_in4 (List.mem_of_getElem? (i := 91) rfl)) rfl
theorem gm_681 : (Jvm.Cond.methodLink "OdometryDeskLaw" (96 : Nat) ({ cls := "OdometryDeskModel", name := "load", desc := "()I" } : Jvm.MethodName)) ∈ lw_gd := lw_gm (lw_in4 (List.mem_of_getElem? (i := 92) rfl)) rfl
theorem gm_682 : (Jvm.Cond.instanceMethod ({ cls := "OdometryDeskModel", name := "load", desc := "()I" } : Jvm.MethodName)) ∈ lw_gd := lw_gm (lw_in4 (List.mem_of_getElem? (i := 93) rfl)) rfl
theorem gm_683 : (Jvm.Cond.selects "OdometryDeskModel" ({ cls := "OdometryDeskModel", name := "load", desc := "()I" } : Jvm.MethodName) ({ cls := "OdometryDeskModel", name := "load", desc := "()I" } : Jvm.MethodName)) ∈ lw_gd := lw_gm (lw_in4 (List.mem_of_getElem? (i := 94) rfl)) rfl
theorem gm_684 : (Jvm.Cond.code ({ cls := "OdometryDeskModel", name := "load", desc := "()I" } : Jvm.MethodName) prog_6_method_53_code (5 : Nat) (Option.some Jvm.ClassFile.FieldType.int)) ∈ lw_gd := lw_gm (lw_in4 (List.mem_of_getElem? (i := 95) rfl)) rfl
theorem gm_685 : (Jvm.Cond.methodLink "OdometryDeskModel" (238 : Nat) ({ cls := "OdometryDeskModel", name := "fault", desc := "()I" } : Jvm.MethodName)) ∈ lw_gd := lw_gm (lw_in4 (List.mem_of_getElem? (i := 96) rfl)) rfl
theorem gm_686 : (Jvm.Cond.methodLink "OdometryDeskModel" (241 : Nat) ({ cls := "OdometryDeskModel", name := "see", desc := "(I)I" } : Jvm.MethodName)) ∈ lw_gd := lw_gm (lw_in4 (List.mem_of_getElem? (i := 97) rfl)) rfl
theorem gm_687 : (Jvm.Cond.methodLink "OdometryDeskModel" (244 : Nat) ({ cls := "OdometryDeskModel", name := "step", desc := "(III)I" } : Jvm.MethodName)) ∈ lw_gd := lw_gm (lw_in4 (List.mem_of_getElem? (i := 98) rfl)) rfl
theorem gm_688 : (Jvm.Cond.methodLink "OdometryDeskLaw" (100 : Nat) ({ cls := "OdometryDeskModel", name := "save", desc := "(I)I" } : Jvm.MethodName)) ∈ lw_gd := lw_gm (lw_in4 (List.mem_of_getElem? (i := 99) rfl)) rfl
theorem gm_689 : (Jvm.Cond.instanceMethod ({ cls := "OdometryDeskModel", name := "save", desc := "(I)I" } : Jvm.MethodName)) ∈ lw_gd := lw_gm (lw_in4 (List.mem_of_getElem? (i := 100) rfl)) rfl
theorem gm_690 : (Jvm.Cond.selects "OdometryDeskModel" ({ cls := "OdometryDeskModel", name := "save", desc := "(I)I" } : Jvm.MethodName) ({ cls := "OdometryDeskModel", name := "save", desc := "(I)I" } : Jvm.MethodName)) ∈ lw_gd := lw_gm (lw_in4 (List.mem_of_getElem? (i := 101) rfl)) rfl
theorem gm_691 : (Jvm.Cond.code ({ cls := "OdometryDeskModel", name := "save", desc := "(I)I" } : Jvm.MethodName) prog_6_method_54_code (3 : Nat) (Option.some Jvm.ClassFile.FieldType.int)) ∈ lw_gd := lw_gm (lw_in4 (List.mem_of_getElem? (i := 102) rfl)) rfl
theorem gm_692 : (Jvm.Cond.methodLink "OdometryDeskLaw" (104 : Nat) ({ cls := "OdometryDeskModel", name := "restore", desc := "(I)I" } : Jvm.MethodName)) ∈ lw_gd := lw_gm (lw_in4 (List.mem_of_getElem? (i := 103) rfl)) rfl
theorem gm_693 : (Jvm.Cond.instanceMethod ({ cls := "OdometryDeskModel", name := "restore", desc := "(I)I" } : Jvm.MethodName)) ∈ lw_gd := lw_gm (lw_in4 (List.mem_of_getElem? (i := 104) rfl)) rfl
theorem gm_694 : (Jvm.Cond.selects "OdometryDeskModel" ({ cls := "OdometryDeskModel", name := "restore", desc := "(I)I" } : Jvm.MethodName) ({ cls := "OdometryDeskModel", name := "restore", desc := "(I)I" } : Jvm.MethodName)) ∈ lw_gd := lw_gm (lw_in4 (List.mem_of_getElem? (i := 105) rfl)) rfl
theorem gm_695 : (Jvm.Cond.code ({ cls := "OdometryDeskModel", name := "restore", desc := "(I)I" } : Jvm.MethodName) prog_6_method_55_code (3 : Nat) (Option.some Jvm.ClassFile.FieldType.int)) ∈ lw_gd := lw_gm (lw_in4 (List.mem_of_getElem? (i := 106) rfl)) rfl
theorem gm_696 : (Jvm.Cond.constantLong "OdometryDeskLaw" (78 : Nat) (4294967295 : Int64)) ∈ lw_gd := lw_gm (lw_in4 (List.mem_of_getElem? (i := 107) rfl)) rfl
theorem gm_697 : Cond.selects "OdometryDesk$Way" ⟨"OdometryDesk$Way", "keepPose", "(I)V"⟩ ⟨"OdometryDesk$Way", "keepPose", "(I)V"⟩ ∈ lw_gd := lw_gs (List.mem_of_getElem? (i := 0) rfl) rfl
theorem gm_698 : Cond.selects "OdometryDesk$Way" ⟨"OdometryDesk$Way", "meet", "(LOdometryDesk$State;I)V"⟩ ⟨"OdometryDesk$Way", "meet", "(LOdometryDesk$State;I)V"⟩ ∈ lw_gd := lw_gs (List.mem_of_getElem? (i := 1) rfl) rfl
theorem gm_699 : Cond.selects "OdometryDesk$Way" ⟨"OdometryDesk$Way", "keepKind", "(II)V"⟩ ⟨"OdometryDesk$Way", "keepKind", "(II)V"⟩ ∈ lw_gd := lw_gs (List.mem_of_getElem? (i := 2) rfl) rfl
theorem gm_700 : Cond.selects "OdometryDesk$Way" ⟨"OdometryDesk$Way", "go", "(LOdometryDesk$State;[II)V"⟩ ⟨"OdometryDesk$Way", "go", "(LOdometryDesk$State;[II)V"⟩ ∈ lw_gd := lw_gs (List.mem_of_getElem? (i := 3) rfl) rfl
theorem gm_701 : Cond.selects "OdometryDesk$Way" ⟨"OdometryDesk$Way", "weighStep", "([IIJJ)V"⟩ ⟨"OdometryDesk$Way", "weighStep", "([IIJJ)V"⟩ ∈ lw_gd := lw_gs (List.mem_of_getElem? (i := 4) rfl) rfl
theorem gm_702 : Cond.selects "OdometryDesk$Way" ⟨"OdometryDesk$Way", "move", "()V"⟩ ⟨"OdometryDesk$Way", "move", "()V"⟩ ∈ lw_gd := lw_gs (List.mem_of_getElem? (i := 5) rfl) rfl
theorem gm_703 : Cond.selects "OdometryDesk$Way" ⟨"OdometryDesk$Way", "followCorridor", "(LOdometryDesk$State;[II)V"⟩ ⟨"OdometryDesk$Way", "followCorridor", "(LOdometryDesk$State;[II)V"⟩ ∈ lw_gd := lw_gs (List.mem_of_getElem? (i := 6) rfl) rfl
theorem gm_704 : Cond.selects "OdometryDesk$Way" ⟨"OdometryDesk$Way", "offDirection", "(I)I"⟩ ⟨"OdometryDesk$Way", "offDirection", "(I)I"⟩ ∈ lw_gd := lw_gs (List.mem_of_getElem? (i := 7) rfl) rfl
theorem gm_705 : Cond.selects "OdometryDesk$Way" ⟨"OdometryDesk$Way", "firstSightFrom", "(II)I"⟩ ⟨"OdometryDesk$Way", "firstSightFrom", "(II)I"⟩ ∈ lw_gd := lw_gs (List.mem_of_getElem? (i := 8) rfl) rfl
theorem gm_706 : Cond.selects "OdometryDesk$Way" ⟨"OdometryDesk$Way", "lastSightAhead", "(I)I"⟩ ⟨"OdometryDesk$Way", "lastSightAhead", "(I)I"⟩ ∈ lw_gd := lw_gs (List.mem_of_getElem? (i := 9) rfl) rfl
theorem gm_707 : Cond.selects "OdometryDesk" ⟨"OdometryDesk", "errorsWith", "(II)J"⟩ ⟨"OdometryDesk", "errorsWith", "(II)J"⟩ ∈ lw_gd := lw_gs (List.mem_of_getElem? (i := 10) rfl) rfl
theorem gm_708 : Cond.selects "OdometryDesk$Pad" ⟨"OdometryDesk$Pad", "readNumber", "(II)Z"⟩ ⟨"OdometryDesk$Pad", "readNumber", "(II)Z"⟩ ∈ lw_gd := lw_gs (List.mem_of_getElem? (i := 11) rfl) rfl
theorem gm_709 : Cond.selects "OdometryDesk$Pad" ⟨"OdometryDesk$Pad", "digit", "()I"⟩ ⟨"OdometryDesk$Pad", "digit", "()I"⟩ ∈ lw_gd := lw_gs (List.mem_of_getElem? (i := 12) rfl) rfl
theorem gm_710 : Cond.selects "OdometryDesk$Pad" ⟨"OdometryDesk$Pad", "readInteger", "(II)Z"⟩ ⟨"OdometryDesk$Pad", "readInteger", "(II)Z"⟩ ∈ lw_gd := lw_gs (List.mem_of_getElem? (i := 13) rfl) rfl
theorem gm_711 : Cond.selects "OdometryDesk" ⟨"OdometryDesk", "addRead", "()I"⟩ ⟨"OdometryDesk", "addRead", "()I"⟩ ∈ lw_gd := lw_gs (List.mem_of_getElem? (i := 14) rfl) rfl
theorem gm_712 : Cond.selects "OdometryDesk" ⟨"OdometryDesk", "slotOf", "(I)LOdometryDesk$State;"⟩ ⟨"OdometryDesk", "slotOf", "(I)LOdometryDesk$State;"⟩ ∈ lw_gd := lw_gs (List.mem_of_getElem? (i := 15) rfl) rfl
theorem gm_713 : Cond.selects "OdometryDeskModel" ⟨"OdometryDeskModel", "setting", "(I)I"⟩ ⟨"OdometryDeskModel", "setting", "(I)I"⟩ ∈ lw_gd := lw_gs (List.mem_of_getElem? (i := 16) rfl) rfl
theorem gm_714 : Cond.selects "OdometryDeskModel" ⟨"OdometryDeskModel", "add", "(IIII)V"⟩ ⟨"OdometryDeskModel", "add", "(IIII)V"⟩ ∈ lw_gd := lw_gs (List.mem_of_getElem? (i := 17) rfl) rfl
theorem gm_715 : Cond.selects "OdometryDeskModel" ⟨"OdometryDeskModel", "startOf", "(I)I"⟩ ⟨"OdometryDeskModel", "startOf", "(I)I"⟩ ∈ lw_gd := lw_gs (List.mem_of_getElem? (i := 18) rfl) rfl
theorem gm_716 : Cond.selects "OdometryDeskModel" ⟨"OdometryDeskModel", "findAll", "()V"⟩ ⟨"OdometryDeskModel", "findAll", "()V"⟩ ∈ lw_gd := lw_gs (List.mem_of_getElem? (i := 19) rfl) rfl
theorem gm_717 : Cond.selects "OdometryDeskModel" ⟨"OdometryDeskModel", "ofEntry", "(II)I"⟩ ⟨"OdometryDeskModel", "ofEntry", "(II)I"⟩ ∈ lw_gd := lw_gs (List.mem_of_getElem? (i := 20) rfl) rfl
theorem gm_718 : Cond.selects "OdometryDeskModel" ⟨"OdometryDeskModel", "findSight", "(I)V"⟩ ⟨"OdometryDeskModel", "findSight", "(I)V"⟩ ∈ lw_gd := lw_gs (List.mem_of_getElem? (i := 21) rfl) rfl
theorem gm_719 : Cond.selects "OdometryDeskModel" ⟨"OdometryDeskModel", "findStep", "(I)V"⟩ ⟨"OdometryDeskModel", "findStep", "(I)V"⟩ ∈ lw_gd := lw_gs (List.mem_of_getElem? (i := 22) rfl) rfl
theorem gm_720 : Cond.selects "OdometryDeskModel" ⟨"OdometryDeskModel", "findPull", "(I)V"⟩ ⟨"OdometryDeskModel", "findPull", "(I)V"⟩ ∈ lw_gd := lw_gs (List.mem_of_getElem? (i := 23) rfl) rfl
theorem gm_721 : Cond.selects "OdometryDeskModel" ⟨"OdometryDeskModel", "isNear", "(I)Z"⟩ ⟨"OdometryDeskModel", "isNear", "(I)Z"⟩ ∈ lw_gd := lw_gs (List.mem_of_getElem? (i := 24) rfl) rfl
theorem gm_722 : Cond.selects "OdometryDeskModel" ⟨"OdometryDeskModel", "offOf", "(I)I"⟩ ⟨"OdometryDeskModel", "offOf", "(I)I"⟩ ∈ lw_gd := lw_gs (List.mem_of_getElem? (i := 25) rfl) rfl
theorem gm_723 : Cond.selects "OdometryDeskModel" ⟨"OdometryDeskModel", "spread", "(IZ)I"⟩ ⟨"OdometryDeskModel", "spread", "(IZ)I"⟩ ∈ lw_gd := lw_gs (List.mem_of_getElem? (i := 26) rfl) rfl
theorem gm_724 : Cond.selects "OdometryDeskModel" ⟨"OdometryDeskModel", "hasNumber", "(II)Z"⟩ ⟨"OdometryDeskModel", "hasNumber", "(II)Z"⟩ ∈ lw_gd := lw_gs (List.mem_of_getElem? (i := 27) rfl) rfl
theorem gm_725 : Cond.selects "OdometryDeskModel" ⟨"OdometryDeskModel", "toldOf", "(II)I"⟩ ⟨"OdometryDeskModel", "toldOf", "(II)I"⟩ ∈ lw_gd := lw_gs (List.mem_of_getElem? (i := 28) rfl) rfl
theorem gm_726 : Cond.selects "OdometryDeskModel" ⟨"OdometryDeskModel", "manyOf", "(I)I"⟩ ⟨"OdometryDeskModel", "manyOf", "(I)I"⟩ ∈ lw_gd := lw_gs (List.mem_of_getElem? (i := 29) rfl) rfl
theorem gm_727 : Cond.selects "OdometryDeskModel" ⟨"OdometryDeskModel", "manyPulled", "()I"⟩ ⟨"OdometryDeskModel", "manyPulled", "()I"⟩ ∈ lw_gd := lw_gs (List.mem_of_getElem? (i := 30) rfl) rfl
theorem gm_728 : Cond.selects "OdometryDeskModel" ⟨"OdometryDeskModel", "errorsTold", "()I"⟩ ⟨"OdometryDeskModel", "errorsTold", "()I"⟩ ∈ lw_gd := lw_gs (List.mem_of_getElem? (i := 31) rfl) rfl
theorem gm_729 : Cond.selects "OdometryDeskModel" ⟨"OdometryDeskModel", "sumOfErrors", "()J"⟩ ⟨"OdometryDeskModel", "sumOfErrors", "()J"⟩ ∈ lw_gd := lw_gs (List.mem_of_getElem? (i := 32) rfl) rfl
theorem gm_730 : Cond.selects "OdometryDeskModel" ⟨"OdometryDeskModel", "sights", "()I"⟩ ⟨"OdometryDeskModel", "sights", "()I"⟩ ∈ lw_gd := lw_gs (List.mem_of_getElem? (i := 33) rfl) rfl
theorem gm_731 : Cond.selects "OdometryDeskModel" ⟨"OdometryDeskModel", "errorsWith", "(II)J"⟩ ⟨"OdometryDeskModel", "errorsWith", "(II)J"⟩ ∈ lw_gd := lw_gs (List.mem_of_getElem? (i := 34) rfl) rfl
theorem gm_732 : Cond.selects "OdometryDeskModel" ⟨"OdometryDeskModel", "takeEntry", "()V"⟩ ⟨"OdometryDeskModel", "takeEntry", "()V"⟩ ∈ lw_gd := lw_gs (List.mem_of_getElem? (i := 35) rfl) rfl
theorem gm_733 : Cond.selects "OdometryDeskModel" ⟨"OdometryDeskModel", "next", "()I"⟩ ⟨"OdometryDeskModel", "next", "()I"⟩ ∈ lw_gd := lw_gs (List.mem_of_getElem? (i := 36) rfl) rfl
theorem gm_734 : Cond.selects "OdometryDeskModel" ⟨"OdometryDeskModel", "takeNumber", "(I)I"⟩ ⟨"OdometryDeskModel", "takeNumber", "(I)I"⟩ ∈ lw_gd := lw_gs (List.mem_of_getElem? (i := 37) rfl) rfl
theorem gm_735 : Cond.selects "OdometryDeskModel" ⟨"OdometryDeskModel", "takeInteger", "(I)I"⟩ ⟨"OdometryDeskModel", "takeInteger", "(I)I"⟩ ∈ lw_gd := lw_gs (List.mem_of_getElem? (i := 38) rfl) rfl
theorem gm_736 : Cond.selects "OdometryDeskModel" ⟨"OdometryDeskModel", "need", "(I)V"⟩ ⟨"OdometryDeskModel", "need", "(I)V"⟩ ∈ lw_gd := lw_gs (List.mem_of_getElem? (i := 39) rfl) rfl
theorem iw_X0 : ∀ w ∈ u_ws RX0 TX0 5, w ∈ lw_gd := fun w hw => by
  obtain ⟨k, hk, rfl⟩ := List.mem_map.mp hw
  have hk := List.mem_range.mp hk
  match k, hk with
  | 0, _ => exact gm_121
  | 1, _ => exact gm_122
  | 2, _ => exact gm_123
  | 3, _ => exact gm_124
  | 4, _ => exact gm_125
  | k + 5, h => exact absurd h (by omega)
theorem iw_X1 : ∀ w ∈ u_ws RX1 TX1 11, w ∈ lw_gd := fun w hw => by
  obtain ⟨k, hk, rfl⟩ := List.mem_map.mp hw
  have hk := List.mem_range.mp hk
  match k, hk with
  | 0, _ => exact gm_57
  | 1, _ => exact gm_58
  | 2, _ => exact gm_59
  | 3, _ => exact gm_60
  | 4, _ => exact gm_61
  | 5, _ => exact gm_62
  | 6, _ => exact gm_63
  | 7, _ => exact gm_64
  | 8, _ => exact gm_65
  | 9, _ => exact gm_66
  | 10, _ => exact gm_67
  | k + 11, h => exact absurd h (by omega)
theorem iw_X2 : ∀ w ∈ u_ws RX2 TX2 12, w ∈ lw_gd := fun w hw => by
  obtain ⟨k, hk, rfl⟩ := List.mem_map.mp hw
  have hk := List.mem_range.mp hk
  match k, hk with
  | 0, _ => exact gm_95
  | 1, _ => exact gm_96
  | 2, _ => exact gm_97
  | 3, _ => exact gm_98
  | 4, _ => exact gm_99
  | 5, _ => exact gm_100
  | 6, _ => exact gm_101
  | 7, _ => exact gm_102
  | 8, _ => exact gm_103
  | 9, _ => exact gm_104
  | 10, _ => exact gm_105
  | 11, _ => exact gm_106
  | k + 12, h => exact absurd h (by omega)
theorem iw_X3 : ∀ w ∈ u_ws RX3 TX3 6, w ∈ lw_gd := fun w hw => by
  obtain ⟨k, hk, rfl⟩ := List.mem_map.mp hw
  have hk := List.mem_range.mp hk
  match k, hk with
  | 0, _ => exact gm_135
  | 1, _ => exact gm_136
  | 2, _ => exact gm_137
  | 3, _ => exact gm_138
  | 4, _ => exact gm_139
  | 5, _ => exact gm_140
  | k + 6, h => exact absurd h (by omega)
theorem iw_X4 : ∀ w ∈ u_ws RX4 TX4 27, w ∈ lw_gd := fun w hw => by
  obtain ⟨k, hk, rfl⟩ := List.mem_map.mp hw
  have hk := List.mem_range.mp hk
  match k, hk with
  | 0, _ => exact gm_460
  | 1, _ => exact gm_461
  | 2, _ => exact gm_462
  | 3, _ => exact gm_463
  | 4, _ => exact gm_464
  | 5, _ => exact gm_465
  | 6, _ => exact gm_466
  | 7, _ => exact gm_467
  | 8, _ => exact gm_468
  | 9, _ => exact gm_469
  | 10, _ => exact gm_470
  | 11, _ => exact gm_471
  | 12, _ => exact gm_472
  | 13, _ => exact gm_473
  | 14, _ => exact gm_474
  | 15, _ => exact gm_475
  | 16, _ => exact gm_476
  | 17, _ => exact gm_477
  | 18, _ => exact gm_478
  | 19, _ => exact gm_479
  | 20, _ => exact gm_480
  | 21, _ => exact gm_481
  | 22, _ => exact gm_482
  | 23, _ => exact gm_483
  | 24, _ => exact gm_484
  | 25, _ => exact gm_485
  | 26, _ => exact gm_486
  | k + 27, h => exact absurd h (by omega)
/-- the links between nest mates, constructors apart -/
def xm_nw : List (String × Nat × MethodName × String) := [(RX1, 60, yX3_isWithin, "OdometryDesk"), (RX1, 66, yX3_keep_, "OdometryDesk"), (RX2, 109, yX3_keep_, "OdometryDesk"), (RX1, 70, yX3_item_, "OdometryDesk"), (RX2, 91, yX3_item_, "OdometryDesk"), (RX2, 113, yX3_item, "OdometryDesk"), (RX2, 116, yX3_keep, "OdometryDesk"), (RX2, 106, yX3_ratio, "OdometryDesk"), (RX2, 159, yX3_asHeading, "OdometryDesk"), (RX2, 163, yX3_angleOfCosine, "OdometryDesk"), (RX2, 166, yX3_sine, "OdometryDesk"), (RX0, 20, yX3_isWithin, "OdometryDesk"), (RX0, 28, yX3_keep, "OdometryDesk"), (RX0, 55, yX3_item, "OdometryDesk"), (RX1, 34, yX3_copy, "OdometryDesk"), (RX1, 38, yX3_copy_, "OdometryDesk")]
theorem nw_0 : (RX1, 60, yX3_isWithin, "OdometryDesk") ∈ xm_nw := List.mem_of_getElem? (i := 0) rfl
theorem nw_1 : (RX1, 66, yX3_keep_, "OdometryDesk") ∈ xm_nw := List.mem_of_getElem? (i := 1) rfl
theorem nw_2 : (RX2, 109, yX3_keep_, "OdometryDesk") ∈ xm_nw := List.mem_of_getElem? (i := 2) rfl
theorem nw_3 : (RX1, 70, yX3_item_, "OdometryDesk") ∈ xm_nw := List.mem_of_getElem? (i := 3) rfl
theorem nw_4 : (RX2, 91, yX3_item_, "OdometryDesk") ∈ xm_nw := List.mem_of_getElem? (i := 4) rfl
theorem nw_5 : (RX2, 113, yX3_item, "OdometryDesk") ∈ xm_nw := List.mem_of_getElem? (i := 5) rfl
theorem nw_6 : (RX2, 116, yX3_keep, "OdometryDesk") ∈ xm_nw := List.mem_of_getElem? (i := 6) rfl
theorem nw_7 : (RX2, 106, yX3_ratio, "OdometryDesk") ∈ xm_nw := List.mem_of_getElem? (i := 7) rfl
theorem nw_8 : (RX2, 159, yX3_asHeading, "OdometryDesk") ∈ xm_nw := List.mem_of_getElem? (i := 8) rfl
theorem nw_9 : (RX2, 163, yX3_angleOfCosine, "OdometryDesk") ∈ xm_nw := List.mem_of_getElem? (i := 9) rfl
theorem nw_10 : (RX2, 166, yX3_sine, "OdometryDesk") ∈ xm_nw := List.mem_of_getElem? (i := 10) rfl
theorem nw_11 : (RX0, 20, yX3_isWithin, "OdometryDesk") ∈ xm_nw := List.mem_of_getElem? (i := 11) rfl
theorem nw_12 : (RX0, 28, yX3_keep, "OdometryDesk") ∈ xm_nw := List.mem_of_getElem? (i := 12) rfl
theorem nw_13 : (RX0, 55, yX3_item, "OdometryDesk") ∈ xm_nw := List.mem_of_getElem? (i := 13) rfl
theorem nw_14 : (RX1, 34, yX3_copy, "OdometryDesk") ∈ xm_nw := List.mem_of_getElem? (i := 14) rfl
theorem nw_15 : (RX1, 38, yX3_copy_, "OdometryDesk") ∈ xm_nw := List.mem_of_getElem? (i := 15) rfl
end
section
/-! THE PURE PICTURE. A memory: the ints and the longs of every cell by the cell's number and the place in it. Shapes: what a cell is. A world is made of both and of the addresses. -/
abbrev xm_M : Type := (Nat → Nat → Int32) × (Nat → Nat → Int64)
abbrev xm_Sh : Type := (Nat × FieldType × Nat) ⊕ (Nat × Nat) ⊕ (Nat × List (Nat × Nat))
abbrev xm_G : Type := (Nat → Nat) × List (ClassId × FieldType)
def xm_cid (g : xm_G) (t : Nat) : ClassId := (g.2.getD t (0, .int)).1
def xm_fv (g : xm_G) (f : Nat → Int32) (h : Nat → Int64) (j : Nat) (q : Nat × Nat) : Value := if q.1 = 0 then .int (f j) else if q.1 = 1 then .long (h j) else .ref (g.1 q.2)
def xm_fs (g : xm_G) (f : Nat → Int32) (h : Nat → Int64) (fs : List (Nat × Nat)) : List Value := fs.mapIdx (xm_fv g f h)
def xm_rows (g : xm_G) (b : Nat × Nat) : Nat → Option Nat := fun i => if i < b.1 then some (g.1 (b.2 + i)) else none
def xm_cell (g : xm_G) (sh : xm_Sh) (f : Nat → Int32) (h : Nat → Int64) : va_E := match sh with
  | .inl a => .inl (xm_cid g a.1, a.2.2, .inl f)
  | .inr (.inl b) => .inl (xm_cid g 1, b.1, .inr (.inr (.inr (.inr (xm_rows g b)))))
  | .inr (.inr q) => .inr (q.1, xm_fs g f h q.2)
def xm_w (L : List xm_Sh) (g : xm_G) (M : xm_M) : va_W := L.mapIdx (fun k sh => (g.1 k, xm_cell g sh (M.1 k) (M.2 k)))
/-- a memory with one int more, with one long more, with a row of ints -/
def xm_s (M : xm_M) (k j : Nat) (v : Int32) : xm_M := (fun a b => if a = k ∧ b = j then v else M.1 a b, M.2)
def xm_sl (M : xm_M) (k j : Nat) (v : Int64) : xm_M := (M.1, fun a b => if a = k ∧ b = j then v else M.2 a b)
def xm_r (M : xm_M) (k : Nat) (f : Nat → Int32) : xm_M := (fun a => if a = k then f else M.1 a, M.2)
theorem xm_s_o {M : xm_M} {k j : Nat} {v : Int32} (a : Nat) (h : a ≠ k) : (xm_s M k j v).1 a = M.1 a ∧ (xm_s M k j v).2 a = M.2 a := ⟨funext fun b => by simp [xm_s, h], rfl⟩
theorem xm_sl_o {M : xm_M} {k j : Nat} {v : Int64} (a : Nat) (h : a ≠ k) : (xm_sl M k j v).1 a = M.1 a ∧ (xm_sl M k j v).2 a = M.2 a := ⟨rfl, funext fun b => by simp [xm_sl, h]⟩
theorem xm_r_o {M : xm_M} {k : Nat} {f : Nat → Int32} (a : Nat) (h : a ≠ k) : (xm_r M k f).1 a = M.1 a ∧ (xm_r M k f).2 a = M.2 a := ⟨by simp [xm_r, h], rfl⟩
theorem xm_s_at {M : xm_M} {k j : Nat} {v : Int32} : (xm_s M k j v).1 k = upd (M.1 k) j v := funext fun b => by simp [xm_s, upd]
theorem xm_r_at {M : xm_M} {k : Nat} {f : Nat → Int32} : (xm_r M k f).1 k = f := by simp [xm_r]
theorem xm_w_at {L : List xm_Sh} {g : xm_G} {M : xm_M} {k : Nat} {sh : xm_Sh} (h : L[k]? = some sh) : (xm_w L g M)[k]? = some (g.1 k, xm_cell g sh (M.1 k) (M.2 k)) := by simp [xm_w, List.getElem?_mapIdx, h]
theorem xm_w_len {L : List xm_Sh} {g : xm_G} {M : xm_M} : (xm_w L g M).length = L.length := by simp [xm_w]
theorem xm_w_spec {L : List xm_Sh} {g : xm_G} {M : xm_M} {k : Nat} {q : Nat × va_E} (h : (xm_w L g M)[k]? = some q) : k < L.length ∧ q.1 = g.1 k := by
  have hl : k < L.length := by rw [← xm_w_len (g := g) (M := M)]; exact (List.getElem?_eq_some_iff.mp h).1
  refine ⟨hl, ?_⟩
  rw [xm_w_at (List.getElem?_eq_getElem hl)] at h
  rw [← Option.some.inj h]
theorem xm_w_set {L : List xm_Sh} {g : xm_G} {M M' : xm_M} {k : Nat} {sh : xm_Sh} {e : va_E} (h : L[k]? = some sh) (he : e = xm_cell g sh (M'.1 k) (M'.2 k)) (ho : ∀ a, a ≠ k → M'.1 a = M.1 a ∧ M'.2 a = M.2 a) : (xm_w L g M).set k (g.1 k, e) = xm_w L g M' := by
  apply List.ext_getElem?
  intro i
  by_cases hi : k = i
  · subst hi
    have hl : k < (xm_w L g M).length := by rw [xm_w_len]; exact (List.getElem?_eq_some_iff.mp h).1
    rw [List.getElem?_set_self hl, xm_w_at h, he]
  · rw [List.getElem?_set_ne hi]
    unfold xm_w
    rw [List.getElem?_mapIdx, List.getElem?_mapIdx]
    have h2 := ho i (Ne.symm hi)
    cases L[i]? with
    | none => rfl
    | some z => simp [h2.1, h2.2]
def xm_inj (L : List xm_Sh) (g : xm_G) : Prop := ∀ i j : Nat, i < L.length → j < L.length → g.1 i = g.1 j → i = j
theorem xm_D {L : List xm_Sh} {g : xm_G} {A : Nat → Prop} (hi : xm_inj L g) (hA : ∀ k, k < L.length → A (g.1 k)) (M : xm_M) : va_D A (xm_w L g M) := by
  refine ⟨fun i j p q h1 h2 h => ?_, fun k q h => ?_⟩
  · have e1 := xm_w_spec h1
    have e2 := xm_w_spec h2
    exact hi i j e1.1 e2.1 (by rw [← e1.2, ← e2.2]; exact h)
  · have e1 := xm_w_spec h
    rw [e1.2]
    exact hA k e1.1
/-- what a method of this world may change: its cells, and what is new -/
def xm_A (L : List xm_Sh) (g : xm_G) (sz : Nat) : Nat → Prop := fun q => (∃ k, k < L.length ∧ q = g.1 k) ∨ sz ≤ q
def xm_tyk (g : xm_G) (sh : xm_Sh) : Prop := match sh with
  | .inl a => g.2[a.1]? = some (xm_cid g a.1, a.2.1)
  | .inr (.inl _) => g.2[1]? = some (xm_cid g 1, .array .int)
  | .inr (.inr _) => True
def xm_tyok (L : List xm_Sh) (g : xm_G) : Prop := ∀ (k : Nat) (sh : xm_Sh), L[k]? = some sh → xm_tyk g sh
/-- nest mates' links -/
def xm_nwW (q : String × Nat × MethodName × String) : Cond := .methodLinkNest q.1 q.2.1 q.2.2.1 q.2.2.2
def xm_Nx (U : State) : Prop := ∀ q ∈ xm_nw, va_Nw (xm_nwW q) U
theorem xm_Nx.warm {s U : State} (h : xm_Nx s) (hW : s.WarmedH U.vm) : xm_Nx U := fun q hq => va_Nw.warmM hW (h q hq)
theorem xm_Nx.same {u U : State} (h : xm_Nx u) (e : u.vm = U.vm) : xm_Nx U := fun q hq => va_Nw.same rfl e (h q hq)
def xm_low : Nat → Int32 := fun j => ([100, 100, 100, 0, 0, 1, 0, 0, 0] : List Int32).getD j 0
def xm_high : Nat → Int32 := fun j => ([2000, 2000, 1000, 200000, 100, 64, 100, 2000, 900000] : List Int32).getD j 0
def xm_St (A : Nat → Prop) (U : State) (H : Heap) : Prop := ∃ tl th : Nat, va_Z "OdometryDesk" "LOWEST" "[I" (.ref tl) A U H ∧ va_T .int tl 9 (fun j => .int (xm_low j)) A U H ∧ va_Z "OdometryDesk" "HIGHEST" "[I" (.ref th) A U H ∧ va_T .int th 9 (fun j => .int (xm_high j)) A U H
theorem xm_St.moved {A : Nat → Prop} {u U : State} {H : Heap} (hvm : u.vm.Alike U.vm) (h : xm_St A u H) : xm_St A U H := by
  obtain ⟨tl, th, h1, h2, h3, h4⟩ := h
  exact ⟨tl, th, h1.moved hvm, h2.moved hvm, h3.moved hvm, h4.moved hvm⟩
theorem xm_St.kept {A : Nat → Prop} {U : State} {H H1 : Heap} (h : xm_St A U H) (hq : ∀ a : Nat, a < H.size → ¬ A a → H1[a]? = H[a]?) : xm_St A U H1 := by
  obtain ⟨tl, th, h1, h2, h3, h4⟩ := h
  exact ⟨tl, th, h1.kept hq, h2.kept hq, h3.kept hq, h4.kept hq⟩
theorem xm_St.narrow {A B : Nat → Prop} {U : State} {H : Heap} (h : xm_St A U H) (hAB : ∀ q, B q → A q) : xm_St B U H := by
  obtain ⟨tl, th, h1, h2, h3, h4⟩ := h
  exact ⟨tl, th, h1.narrow hAB, h2.narrow hAB, h3.narrow hAB, h4.narrow hAB⟩
def xm_Pre (D : va_G) (L : List xm_Sh) (g : xm_G) (M : xm_M) (sz : Nat) (U : State) : Prop := U.heap.size = sz ∧ va_P D vwCl (xm_w L g M) U.heap ∧ va_K D vwCl g.2 U ∧ xm_Nx U ∧ xm_inj L g ∧ xm_tyok L g ∧ xm_St (xm_A L g sz) U U.heap
def xm_Q (D : va_G) (L : List xm_Sh) (g : xm_G) (A : Nat → Prop) (vM : Option Value × xm_M) : Array Value → State → Outcome → State → Prop := fun _ st oc t => oc = .returned vM.1 ∧ va_P D vwCl (xm_w L g vM.2) t.heap ∧ va_F A st t
/-- A CONTRACT: where the pure function answers, the method answers that, and leaves that memory -/
def xm_C {ρ : Type} (l : Launch) (y : MethodName) (ws : List Cond) (rm : Room) (L : List xm_Sh) (As : xm_G → List Value) (M : xm_M) (Fn : xm_G → ρ → Option Value × xm_M) (X : Option ρ) : Prop :=
  ∀ (D : va_G) (g : xm_G) (sz : Nat) (r : ρ), X = some r → Met l y ws rm (va_Pc (As g) (xm_Pre D L g M sz)) (xm_Q D L g (xm_A L g sz) (Fn g r)) 0 0 (xm_A L g sz)
theorem xm_blind {D : va_G} {L : List xm_Sh} {g : xm_G} {M : xm_M} {sz : Nat} {As : List Value} : FrameBlind (va_Pc As (xm_Pre D L g M sz)) :=
  fun a U fr mk q => ⟨q.1, q.2.1, q.2.2.1, va_K.moved (u := U) (U := U.calling fr mk a) (Vm.Alike.refl U.vm) q.2.2.2.1, xm_Nx.same (u := U) (U := U.calling fr mk a) q.2.2.2.2.1 rfl, q.2.2.2.2.2.1, q.2.2.2.2.2.2.1, xm_St.moved (u := U) (U := U.calling fr mk a) (Vm.Alike.refl U.vm) q.2.2.2.2.2.2.2⟩
/-- the ends: an int, a long, nothing, a cell -/
abbrev xm_Fi : xm_G → Int32 × xm_M → Option Value × xm_M := fun _ r => (some (.int r.1), r.2)
abbrev xm_Fl : xm_G → Int64 × xm_M → Option Value × xm_M := fun _ r => (some (.long r.1), r.2)
abbrev xm_Fv : xm_G → xm_M → Option Value × xm_M := fun _ r => (none, r)
abbrev xm_Fr : xm_G → Nat × xm_M → Option Value × xm_M := fun g r => (some (.ref (g.1 r.1)), r.2)
/-- a value, or a memory, that gets a name -/
def xm_lt {α β : Type} (v : α) (f : α → β) : β := f v
/-- behind a call -/
def xm_bi {ρ : Type} (f : Option (Int32 × xm_M)) (K : Int32 → xm_M → Option ρ) : Option ρ := f.bind (fun r => K r.1 r.2)
def xm_bl {ρ : Type} (f : Option (Int64 × xm_M)) (K : Int64 → xm_M → Option ρ) : Option ρ := f.bind (fun r => K r.1 r.2)
def xm_bv {ρ : Type} (f : Option xm_M) (K : xm_M → Option ρ) : Option ρ := f.bind K
def xm_br {ρ : Type} (f : Option (Nat × xm_M)) (K : Nat → xm_M → Option ρ) : Option ρ := f.bind (fun r => K r.1 r.2)
/-- so many times -/
def xm_it {α : Type} (f : α → α) (z : α) : Nat → α
  | 0 => z
  | n + 1 => f (xm_it f z n)
def xm_N : Nat := 4096
/-- what holds throughout a method -/
def xm_X (p : Program) (m : MethodId) (meth : Method) (c : Code) (cc : ByteArray) (nL : Nat) (s : State) (args : Array Value) (Ts : List Cond) (own : String) (ret : Option FieldType) (D : va_G) (L : List xm_Sh) (g : xm_G) (A : Nat → Prop) : Prop :=
  CallFix p m c cc nL s args Ts own ∧ meth.sig.returnType = ret ∧ meth.locks = false ∧ va_K D vwCl g.2 s ∧ xm_Nx s ∧ xm_inj L g ∧ xm_tyok L g ∧ (∀ k, k < L.length → A (g.1 k)) ∧ (∀ q, s.heap.size ≤ q → A q) ∧ xm_St A s s.heap
/-- THE JUDGEMENT: from here, where the pure function answers r, the method comes to its end with r -/
def xm_J (p : Program) (l : Launch) (e : Env) (R : Room) (s : State) (m : MethodId) (args : Array Value) (below : List Frame) (meth : Method) (c : Code) (nL : Nat) (D : va_G) (L : List xm_Sh) (g : xm_G) (A : Nat → Prop) {ρ : Type} (Fn : ρ → Option Value × xm_M) (pc : Nat) (lv : List (Nat × Value)) (st : List Value) (M : xm_M) (X : Option ρ) : Prop :=
  ∀ r : ρ, X = some r → ∀ (ls : Array Slot) (H : Heap) (locs : List Loc), lv_has ls nL lv → va_P D vwCl (xm_w L g M) H → va_S A s.heap H locs → W p l e R s m args below meth c H locs 0 0 (MQ below (xm_Q D L g A (Fn r)) args s 0 0 A) (F0 m pc ls st)
theorem xm_C.of {ρ : Type} {l : Launch} {y : MethodName} {ws ws' : List Cond} {rm : Room} {L : List xm_Sh} {As : xm_G → List Value} {M : xm_M} {Fn : xm_G → ρ → Option Value × xm_M} {X : Option ρ} {cc : ByteArray} {maxL : Nat} {ret : Option FieldType} (hy : plainName y.cls = true) (hw : ws = Cond.code y cc maxL ret :: ws') (hn : ∀ g, (lg_sl (As g)).length ≤ maxL)
    (body : ∀ p e s m args below meth c D g A, xm_X p m meth c cc maxL s args ws y.cls ret D L g A → xm_J p l e rm s m args below meth c maxL D L g A (Fn g) 0 (lv_args 0 (As g)) [] M X) : xm_C l y ws rm L As M Fn X := by
  intro D g sz r hr
  refine Met.ofW hy hw ?_
  intro p e s m args below meth c s₁ B hml hv
  obtain ⟨rfl, hsz, hP, hK, hN, hI, hT, hSt⟩ := hv
  subst hsz
  have h := body p e s m (As g).toArray below meth c D g (xm_A L g s.heap.size) ⟨⟨B.exec, B.bytes, hml, findClass_of_methodNamed B.named, atoms_spec (ws := ws) B.pre⟩, B.returns, B.notSynchronized, hK, hN, hI, hT, fun k hk => Or.inl ⟨k, hk, rfl⟩, fun q hq => Or.inr hq, hSt⟩ r hr
  rw [lg_entry_eq]
  exact h _ _ _ (lv_entry (As g) (hn g)) hP va_S.rf
theorem xm_C.ofF {ρ : Type} {l : Launch} {y : MethodName} {ws ws' : List Cond} {rm : Room} {L : List xm_Sh} {As : xm_G → List Value} {M : xm_M} {Fn : xm_G → ρ → Option Value × xm_M} {X : Option ρ} {cc : ByteArray} {maxL : Nat} {ret : Option FieldType} (hy : plainFor y = true) (hw : ws = Cond.code y cc maxL ret :: ws') (hn : ∀ g, (lg_sl (As g)).length ≤ maxL)
    (body : ∀ p e s m args below meth c D g A, xm_X p m meth c cc maxL s args ws y.cls ret D L g A → xm_J p l e rm s m args below meth c maxL D L g A (Fn g) 0 (lv_args 0 (As g)) [] M X) : xm_C l y ws rm L As M Fn X := by
  intro D g sz r hr
  refine va_MetF hy hw ?_
  intro p e s m args below meth c s₁ B hml hv
  obtain ⟨rfl, hsz, hP, hK, hN, hI, hT, hSt⟩ := hv
  subst hsz
  have h := body p e s m (As g).toArray below meth c D g (xm_A L g s.heap.size) ⟨⟨B.exec, B.bytes, hml, findClass_of_methodNamed B.named, atoms_spec (ws := ws) B.pre⟩, B.returns, B.notSynchronized, hK, hN, hI, hT, fun k hk => Or.inl ⟨k, hk, rfl⟩, fun q hq => Or.inr hq, hSt⟩ r hr
  rw [lg_entry_eq]
  exact h _ _ _ (lv_entry (As g) (hn g)) hP va_S.rf
section XM
variable {p : Program} {l : Launch} {e : Env} {R : Room} {s : State} {m : MethodId} {args : Array Value} {below : List Frame} {meth : Method} {c : Code} {cc : ByteArray} {nL : Nat} {Ts : List Cond} {own : String} {ret : Option FieldType} {D : va_G} {L : List xm_Sh} {g : xm_G} {A : Nat → Prop}
variable {ρ : Type} {Fn : ρ → Option Value × xm_M} {pc tgt : Nat} {lv lv' : List (Nat × Value)} {rest : List Value} {M : xm_M} {X Y : Option ρ}
theorem xm_none {st : List Value} : xm_J p l e R s m args below meth c nL D L g A Fn pc lv st M (none : Option ρ) := fun r hr => by cases hr
theorem xm_X.hD (hX : xm_X p m meth c cc nL s args Ts own ret D L g A) (M : xm_M) : va_D A (xm_w L g M) := xm_D hX.2.2.2.2.2.1 hX.2.2.2.2.2.2.2.1 M
theorem xm_ite {st : List Value} {P : Prop} [Decidable P] (ht : P → xm_J p l e R s m args below meth c nL D L g A Fn pc lv st M X) (hf : ¬ P → xm_J p l e R s m args below meth c nL D L g A Fn pc lv st M Y) : xm_J p l e R s m args below meth c nL D L g A Fn pc lv st M (if P then X else Y) := by
  by_cases h : P
  · rw [if_pos h]; exact ht h
  · rw [if_neg h]; exact hf h
/-- names for what lies on top, for a long there, for the memory -/
theorem xm_nmi {x : Int32} {f : Int32 → Option ρ} (k : ∀ y : Int32, xm_J p l e R s m args below meth c nL D L g A Fn pc lv (.int y :: rest) M (f y)) : xm_J p l e R s m args below meth c nL D L g A Fn pc lv (.int x :: rest) M (xm_lt x f) := k x
theorem xm_nml {x : Int64} {f : Int64 → Option ρ} (k : ∀ y : Int64, xm_J p l e R s m args below meth c nL D L g A Fn pc lv (.long y :: rest) M (f y)) : xm_J p l e R s m args below meth c nL D L g A Fn pc lv (.long x :: rest) M (xm_lt x f) := k x
theorem xm_nmM {st : List Value} {f : xm_M → Option ρ} (k : ∀ M1 : xm_M, xm_J p l e R s m args below meth c nL D L g A Fn pc lv st M1 (f M1)) : xm_J p l e R s m args below meth c nL D L g A Fn pc lv st M (xm_lt M f) := k M
theorem xm_iconst (hX : xm_X p m meth c cc nL s args Ts own ret D L g A) {n : Int} {v : Int32} (hv : Int32.ofInt n = v) (hdg : decode cc pc = .ok (.iconst n, 1)) (k : xm_J p l e R s m args below meth c nL D L g A Fn (pc + 1) lv (.int v :: rest) M X) : xm_J p l e R s m args below meth c nL D L g A Fn pc lv rest M X := fun r hr ls H locs hl hP hS => lv_iconst hX.1.1 hX.1.2.1 hdg hv (k r hr ls H locs hl hP hS)
theorem xm_bipush (hX : xm_X p m meth c cc nL s args Ts own ret D L g A) {n : Int} {v : Int32} (hv : (Int8.ofInt n).toInt32 = v) (hdg : decode cc pc = .ok (.bipush n, 2)) (k : xm_J p l e R s m args below meth c nL D L g A Fn (pc + 2) lv (.int v :: rest) M X) : xm_J p l e R s m args below meth c nL D L g A Fn pc lv rest M X := fun r hr ls H locs hl hP hS => lv_bipush hX.1.1 hX.1.2.1 hdg hv (k r hr ls H locs hl hP hS)
theorem xm_sipush (hX : xm_X p m meth c cc nL s args Ts own ret D L g A) {n : Int} {v : Int32} (hv : (Int16.ofInt n).toInt32 = v) (hdg : decode cc pc = .ok (.sipush n, 3)) (k : xm_J p l e R s m args below meth c nL D L g A Fn (pc + 3) lv (.int v :: rest) M X) : xm_J p l e R s m args below meth c nL D L g A Fn pc lv rest M X := fun r hr ls H locs hl hP hS => lv_sipush hX.1.1 hX.1.2.1 hdg hv (k r hr ls H locs hl hP hS)
theorem xm_lconst (hX : xm_X p m meth c cc nL s args Ts own ret D L g A) {n : Fin 2} {v : Int64} (hv : Int64.ofNat (n : Nat) = v) (hdg : decode cc pc = .ok (.lconst n, 1)) (k : xm_J p l e R s m args below meth c nL D L g A Fn (pc + 1) lv (.long v :: rest) M X) : xm_J p l e R s m args below meth c nL D L g A Fn pc lv rest M X := fun r hr ls H locs hl hP hS => lv_lconst hX.1.1 hX.1.2.1 hdg hv (k r hr ls H locs hl hP hS)
theorem xm_iload_n (hX : xm_X p m meth c cc nL s args Ts own ret D L g A) {k9 : Fin 4} {i : Nat} {x : Int32} (j : Nat) (hdg : decode cc pc = .ok (.iload_n k9, 1)) (hi : (k9 : Nat) = i) (hj : lv[j]? = some (i, .int x)) (k : xm_J p l e R s m args below meth c nL D L g A Fn (pc + 1) lv (.int x :: rest) M X) : xm_J p l e R s m args below meth c nL D L g A Fn pc lv rest M X := fun r hr ls H locs hl hP hS => lv_iload_n hX.1.1 hX.1.2.1 hdg hi (lv_at hl j hj) (k r hr ls H locs hl hP hS)
theorem xm_iload (hX : xm_X p m meth c cc nL s args Ts own ret D L g A) {i : Nat} {x : Int32} (j : Nat) (hdg : decode cc pc = .ok (.iload i, 2)) (hj : lv[j]? = some (i, .int x)) (k : xm_J p l e R s m args below meth c nL D L g A Fn (pc + 2) lv (.int x :: rest) M X) : xm_J p l e R s m args below meth c nL D L g A Fn pc lv rest M X := fun r hr ls H locs hl hP hS => lv_iload hX.1.1 hX.1.2.1 hdg (lv_at hl j hj) (k r hr ls H locs hl hP hS)
theorem xm_istore_n (hX : xm_X p m meth c cc nL s args Ts own ret D L g A) {k9 : Fin 4} {i : Nat} {x : Int32} (hdg : decode cc pc = .ok (.istore_n k9, 1)) (hi : (k9 : Nat) = i) (hn : i < nL) (hv : (i, Value.int x) :: lv.filter (fun q => !(q.1 == i) && !(q.1 + 1 == i && q.2.category == 2)) = lv') (k : xm_J p l e R s m args below meth c nL D L g A Fn (pc + 1) lv' rest M X) : xm_J p l e R s m args below meth c nL D L g A Fn pc lv (.int x :: rest) M X := fun r hr ls H locs hl hP hS => lv_istore_n hX.1.1 hX.1.2.1 hdg hi hl hn hv (fun ls1 hl1 => k r hr ls1 H locs hl1 hP hS)
theorem xm_istore (hX : xm_X p m meth c cc nL s args Ts own ret D L g A) {i : Nat} {x : Int32} (hdg : decode cc pc = .ok (.istore i, 2)) (hn : i < nL) (hv : (i, Value.int x) :: lv.filter (fun q => !(q.1 == i) && !(q.1 + 1 == i && q.2.category == 2)) = lv') (k : xm_J p l e R s m args below meth c nL D L g A Fn (pc + 2) lv' rest M X) : xm_J p l e R s m args below meth c nL D L g A Fn pc lv (.int x :: rest) M X := fun r hr ls H locs hl hP hS => lv_istore hX.1.1 hX.1.2.1 hdg hl hn hv (fun ls1 hl1 => k r hr ls1 H locs hl1 hP hS)
theorem xm_lload_n (hX : xm_X p m meth c cc nL s args Ts own ret D L g A) {k9 : Fin 4} {i : Nat} {x : Int64} (j : Nat) (hdg : decode cc pc = .ok (.lload_n k9, 1)) (hi : (k9 : Nat) = i) (hj : lv[j]? = some (i, .long x)) (k : xm_J p l e R s m args below meth c nL D L g A Fn (pc + 1) lv (.long x :: rest) M X) : xm_J p l e R s m args below meth c nL D L g A Fn pc lv rest M X := fun r hr ls H locs hl hP hS => lv_lload_n hX.1.1 hX.1.2.1 hdg hi (lv_at hl j hj) (k r hr ls H locs hl hP hS)
theorem xm_lload (hX : xm_X p m meth c cc nL s args Ts own ret D L g A) {i : Nat} {x : Int64} (j : Nat) (hdg : decode cc pc = .ok (.lload i, 2)) (hj : lv[j]? = some (i, .long x)) (k : xm_J p l e R s m args below meth c nL D L g A Fn (pc + 2) lv (.long x :: rest) M X) : xm_J p l e R s m args below meth c nL D L g A Fn pc lv rest M X := fun r hr ls H locs hl hP hS => lv_lload hX.1.1 hX.1.2.1 hdg (lv_at hl j hj) (k r hr ls H locs hl hP hS)
theorem xm_lstore_n (hX : xm_X p m meth c cc nL s args Ts own ret D L g A) {k9 : Fin 4} {i : Nat} {x : Int64} (hdg : decode cc pc = .ok (.lstore_n k9, 1)) (hi : (k9 : Nat) = i) (hn : i + 1 < nL) (hv : (i, Value.long x) :: lv.filter (fun q => !(q.1 == i) && (!(q.1 == i + 1) && !(q.1 + 1 == i && q.2.category == 2))) = lv') (k : xm_J p l e R s m args below meth c nL D L g A Fn (pc + 1) lv' rest M X) : xm_J p l e R s m args below meth c nL D L g A Fn pc lv (.long x :: rest) M X := fun r hr ls H locs hl hP hS => lv_lstore_n hX.1.1 hX.1.2.1 hdg hi hl hn hv (fun ls1 hl1 => k r hr ls1 H locs hl1 hP hS)
theorem xm_lstore (hX : xm_X p m meth c cc nL s args Ts own ret D L g A) {i : Nat} {x : Int64} (hdg : decode cc pc = .ok (.lstore i, 2)) (hn : i + 1 < nL) (hv : (i, Value.long x) :: lv.filter (fun q => !(q.1 == i) && (!(q.1 == i + 1) && !(q.1 + 1 == i && q.2.category == 2))) = lv') (k : xm_J p l e R s m args below meth c nL D L g A Fn (pc + 2) lv' rest M X) : xm_J p l e R s m args below meth c nL D L g A Fn pc lv (.long x :: rest) M X := fun r hr ls H locs hl hP hS => lv_lstore hX.1.1 hX.1.2.1 hdg hl hn hv (fun ls1 hl1 => k r hr ls1 H locs hl1 hP hS)
theorem xm_aload_n (hX : xm_X p m meth c cc nL s args Ts own ret D L g A) {k9 : Fin 4} {i : Nat} {x : Nat} (j : Nat) (hdg : decode cc pc = .ok (.aload_n k9, 1)) (hi : (k9 : Nat) = i) (hj : lv[j]? = some (i, .ref x)) (k : xm_J p l e R s m args below meth c nL D L g A Fn (pc + 1) lv (.ref x :: rest) M X) : xm_J p l e R s m args below meth c nL D L g A Fn pc lv rest M X := fun r hr ls H locs hl hP hS => lv_aload_n hX.1.1 hX.1.2.1 hdg hi (lv_at hl j hj) (k r hr ls H locs hl hP hS)
theorem xm_aload (hX : xm_X p m meth c cc nL s args Ts own ret D L g A) {i : Nat} {x : Nat} (j : Nat) (hdg : decode cc pc = .ok (.aload i, 2)) (hj : lv[j]? = some (i, .ref x)) (k : xm_J p l e R s m args below meth c nL D L g A Fn (pc + 2) lv (.ref x :: rest) M X) : xm_J p l e R s m args below meth c nL D L g A Fn pc lv rest M X := fun r hr ls H locs hl hP hS => lv_aload hX.1.1 hX.1.2.1 hdg (lv_at hl j hj) (k r hr ls H locs hl hP hS)
theorem xm_astore_n (hX : xm_X p m meth c cc nL s args Ts own ret D L g A) {k9 : Fin 4} {i : Nat} {x : Nat} (hdg : decode cc pc = .ok (.astore_n k9, 1)) (hi : (k9 : Nat) = i) (hn : i < nL) (hv : (i, Value.ref x) :: lv.filter (fun q => !(q.1 == i) && !(q.1 + 1 == i && q.2.category == 2)) = lv') (k : xm_J p l e R s m args below meth c nL D L g A Fn (pc + 1) lv' rest M X) : xm_J p l e R s m args below meth c nL D L g A Fn pc lv (.ref x :: rest) M X := fun r hr ls H locs hl hP hS => lv_astore_n hX.1.1 hX.1.2.1 hdg hi hl hn hv (fun ls1 hl1 => k r hr ls1 H locs hl1 hP hS)
theorem xm_astore (hX : xm_X p m meth c cc nL s args Ts own ret D L g A) {i : Nat} {x : Nat} (hdg : decode cc pc = .ok (.astore i, 2)) (hn : i < nL) (hv : (i, Value.ref x) :: lv.filter (fun q => !(q.1 == i) && !(q.1 + 1 == i && q.2.category == 2)) = lv') (k : xm_J p l e R s m args below meth c nL D L g A Fn (pc + 2) lv' rest M X) : xm_J p l e R s m args below meth c nL D L g A Fn pc lv (.ref x :: rest) M X := fun r hr ls H locs hl hP hS => lv_astore hX.1.1 hX.1.2.1 hdg hl hn hv (fun ls1 hl1 => k r hr ls1 H locs hl1 hP hS)
theorem xm_iinc (hX : xm_X p m meth c cc nL s args Ts own ret D L g A) {i : Nat} {n : Int} {x : Int32} {f : Int32 → Option ρ} {lv2 : Int32 → List (Nat × Value)} (j : Nat) (hdg : decode cc pc = .ok (.iinc i n, 3)) (hj : lv[j]? = some (i, .int x)) (hn : i < nL) (hv : ∀ v, (i, Value.int v) :: lv.filter (fun q => !(q.1 == i) && !(q.1 + 1 == i && q.2.category == 2)) = lv2 v) (k : ∀ v : Int32, xm_J p l e R s m args below meth c nL D L g A Fn (pc + 3) (lv2 v) rest M (f v)) : xm_J p l e R s m args below meth c nL D L g A Fn pc lv rest M (xm_lt (x + Int32.ofInt n) f) := fun r hr ls H locs hl hP hS => lv_iinc hX.1.1 hX.1.2.1 hdg hl hj rfl hn (hv _) (fun ls1 hl1 => k _ r hr ls1 H locs hl1 hP hS)
theorem xm_iadd (hX : xm_X p m meth c cc nL s args Ts own ret D L g A) {x y : Int32} (hdg : decode cc pc = .ok (.iadd, 1)) (k : xm_J p l e R s m args below meth c nL D L g A Fn (pc + 1) lv (.int (x + y) :: rest) M X) : xm_J p l e R s m args below meth c nL D L g A Fn pc lv (.int y :: .int x :: rest) M X := fun r hr ls H locs hl hP hS => lv_iadd hX.1.1 hX.1.2.1 hdg (k r hr ls H locs hl hP hS)
theorem xm_isub (hX : xm_X p m meth c cc nL s args Ts own ret D L g A) {x y : Int32} (hdg : decode cc pc = .ok (.isub, 1)) (k : xm_J p l e R s m args below meth c nL D L g A Fn (pc + 1) lv (.int (x - y) :: rest) M X) : xm_J p l e R s m args below meth c nL D L g A Fn pc lv (.int y :: .int x :: rest) M X := fun r hr ls H locs hl hP hS => lv_isub hX.1.1 hX.1.2.1 hdg (k r hr ls H locs hl hP hS)
theorem xm_imul (hX : xm_X p m meth c cc nL s args Ts own ret D L g A) {x y : Int32} (hdg : decode cc pc = .ok (.imul, 1)) (k : xm_J p l e R s m args below meth c nL D L g A Fn (pc + 1) lv (.int (x * y) :: rest) M X) : xm_J p l e R s m args below meth c nL D L g A Fn pc lv (.int y :: .int x :: rest) M X := fun r hr ls H locs hl hP hS => lv_imul hX.1.1 hX.1.2.1 hdg (k r hr ls H locs hl hP hS)
theorem xm_iand (hX : xm_X p m meth c cc nL s args Ts own ret D L g A) {x y : Int32} (hdg : decode cc pc = .ok (.iand, 1)) (k : xm_J p l e R s m args below meth c nL D L g A Fn (pc + 1) lv (.int (x &&& y) :: rest) M X) : xm_J p l e R s m args below meth c nL D L g A Fn pc lv (.int y :: .int x :: rest) M X := fun r hr ls H locs hl hP hS => lv_iand hX.1.1 hX.1.2.1 hdg (k r hr ls H locs hl hP hS)
theorem xm_ior (hX : xm_X p m meth c cc nL s args Ts own ret D L g A) {x y : Int32} (hdg : decode cc pc = .ok (.ior, 1)) (k : xm_J p l e R s m args below meth c nL D L g A Fn (pc + 1) lv (.int (x ||| y) :: rest) M X) : xm_J p l e R s m args below meth c nL D L g A Fn pc lv (.int y :: .int x :: rest) M X := fun r hr ls H locs hl hP hS => lv_ior hX.1.1 hX.1.2.1 hdg (k r hr ls H locs hl hP hS)
theorem xm_ixor (hX : xm_X p m meth c cc nL s args Ts own ret D L g A) {x y : Int32} (hdg : decode cc pc = .ok (.ixor, 1)) (k : xm_J p l e R s m args below meth c nL D L g A Fn (pc + 1) lv (.int (x ^^^ y) :: rest) M X) : xm_J p l e R s m args below meth c nL D L g A Fn pc lv (.int y :: .int x :: rest) M X := fun r hr ls H locs hl hP hS => lv_ixor hX.1.1 hX.1.2.1 hdg (k r hr ls H locs hl hP hS)
theorem xm_ladd (hX : xm_X p m meth c cc nL s args Ts own ret D L g A) {x y : Int64} (hdg : decode cc pc = .ok (.ladd, 1)) (k : xm_J p l e R s m args below meth c nL D L g A Fn (pc + 1) lv (.long (x + y) :: rest) M X) : xm_J p l e R s m args below meth c nL D L g A Fn pc lv (.long y :: .long x :: rest) M X := fun r hr ls H locs hl hP hS => lv_ladd hX.1.1 hX.1.2.1 hdg (k r hr ls H locs hl hP hS)
theorem xm_lsub (hX : xm_X p m meth c cc nL s args Ts own ret D L g A) {x y : Int64} (hdg : decode cc pc = .ok (.lsub, 1)) (k : xm_J p l e R s m args below meth c nL D L g A Fn (pc + 1) lv (.long (x - y) :: rest) M X) : xm_J p l e R s m args below meth c nL D L g A Fn pc lv (.long y :: .long x :: rest) M X := fun r hr ls H locs hl hP hS => lv_lsub hX.1.1 hX.1.2.1 hdg (k r hr ls H locs hl hP hS)
theorem xm_lmul (hX : xm_X p m meth c cc nL s args Ts own ret D L g A) {x y : Int64} (hdg : decode cc pc = .ok (.lmul, 1)) (k : xm_J p l e R s m args below meth c nL D L g A Fn (pc + 1) lv (.long (x * y) :: rest) M X) : xm_J p l e R s m args below meth c nL D L g A Fn pc lv (.long y :: .long x :: rest) M X := fun r hr ls H locs hl hP hS => lv_lmul hX.1.1 hX.1.2.1 hdg (k r hr ls H locs hl hP hS)
theorem xm_land (hX : xm_X p m meth c cc nL s args Ts own ret D L g A) {x y : Int64} (hdg : decode cc pc = .ok (.land, 1)) (k : xm_J p l e R s m args below meth c nL D L g A Fn (pc + 1) lv (.long (x &&& y) :: rest) M X) : xm_J p l e R s m args below meth c nL D L g A Fn pc lv (.long y :: .long x :: rest) M X := fun r hr ls H locs hl hP hS => lv_land hX.1.1 hX.1.2.1 hdg (k r hr ls H locs hl hP hS)
theorem xm_lor (hX : xm_X p m meth c cc nL s args Ts own ret D L g A) {x y : Int64} (hdg : decode cc pc = .ok (.lor, 1)) (k : xm_J p l e R s m args below meth c nL D L g A Fn (pc + 1) lv (.long (x ||| y) :: rest) M X) : xm_J p l e R s m args below meth c nL D L g A Fn pc lv (.long y :: .long x :: rest) M X := fun r hr ls H locs hl hP hS => lv_lor hX.1.1 hX.1.2.1 hdg (k r hr ls H locs hl hP hS)
theorem xm_lxor (hX : xm_X p m meth c cc nL s args Ts own ret D L g A) {x y : Int64} (hdg : decode cc pc = .ok (.lxor, 1)) (k : xm_J p l e R s m args below meth c nL D L g A Fn (pc + 1) lv (.long (x ^^^ y) :: rest) M X) : xm_J p l e R s m args below meth c nL D L g A Fn pc lv (.long y :: .long x :: rest) M X := fun r hr ls H locs hl hP hS => lv_lxor hX.1.1 hX.1.2.1 hdg (k r hr ls H locs hl hP hS)
theorem xm_ineg (hX : xm_X p m meth c cc nL s args Ts own ret D L g A) {x : Int32} (hdg : decode cc pc = .ok (.ineg, 1)) (k : xm_J p l e R s m args below meth c nL D L g A Fn (pc + 1) lv (.int (-x) :: rest) M X) : xm_J p l e R s m args below meth c nL D L g A Fn pc lv (.int x :: rest) M X := fun r hr ls H locs hl hP hS => lv_ineg hX.1.1 hX.1.2.1 hdg (k r hr ls H locs hl hP hS)
theorem xm_lneg (hX : xm_X p m meth c cc nL s args Ts own ret D L g A) {x : Int64} (hdg : decode cc pc = .ok (.lneg, 1)) (k : xm_J p l e R s m args below meth c nL D L g A Fn (pc + 1) lv (.long (-x) :: rest) M X) : xm_J p l e R s m args below meth c nL D L g A Fn pc lv (.long x :: rest) M X := fun r hr ls H locs hl hP hS => lv_lneg hX.1.1 hX.1.2.1 hdg (k r hr ls H locs hl hP hS)
theorem xm_i2l (hX : xm_X p m meth c cc nL s args Ts own ret D L g A) {x : Int32} (hdg : decode cc pc = .ok (.i2l, 1)) (k : xm_J p l e R s m args below meth c nL D L g A Fn (pc + 1) lv (.long x.toInt64 :: rest) M X) : xm_J p l e R s m args below meth c nL D L g A Fn pc lv (.int x :: rest) M X := fun r hr ls H locs hl hP hS => lv_i2l hX.1.1 hX.1.2.1 hdg rfl (k r hr ls H locs hl hP hS)
theorem xm_l2i (hX : xm_X p m meth c cc nL s args Ts own ret D L g A) {x : Int64} (hdg : decode cc pc = .ok (.l2i, 1)) (k : xm_J p l e R s m args below meth c nL D L g A Fn (pc + 1) lv (.int x.toInt32 :: rest) M X) : xm_J p l e R s m args below meth c nL D L g A Fn pc lv (.long x :: rest) M X := fun r hr ls H locs hl hP hS => lv_l2i hX.1.1 hX.1.2.1 hdg rfl (k r hr ls H locs hl hP hS)
theorem xm_lushr (hX : xm_X p m meth c cc nL s args Ts own ret D L g A) {x : Int64} {y : Int32} (hdg : decode cc pc = .ok (.lushr, 1)) (k : xm_J p l e R s m args below meth c nL D L g A Fn (pc + 1) lv (.long (x.toUInt64 >>> (y.toInt64.toUInt64 &&& Int64.toUInt64 63)).toInt64 :: rest) M X) : xm_J p l e R s m args below meth c nL D L g A Fn pc lv (.int y :: .long x :: rest) M X := fun r hr ls H locs hl hP hS => lv_lushr hX.1.1 hX.1.2.1 hdg rfl (k r hr ls H locs hl hP hS)
theorem xm_lshl (hX : xm_X p m meth c cc nL s args Ts own ret D L g A) {x : Int64} {y : Int32} (hdg : decode cc pc = .ok (.lshl, 1)) (k : xm_J p l e R s m args below meth c nL D L g A Fn (pc + 1) lv (.long (x <<< (y.toInt64 &&& 63)) :: rest) M X) : xm_J p l e R s m args below meth c nL D L g A Fn pc lv (.int y :: .long x :: rest) M X := fun r hr ls H locs hl hP hS => lv_lshl hX.1.1 hX.1.2.1 hdg rfl (k r hr ls H locs hl hP hS)
theorem xm_lshr (hX : xm_X p m meth c cc nL s args Ts own ret D L g A) {x : Int64} {y : Int32} (hdg : decode cc pc = .ok (.lshr, 1)) (k : xm_J p l e R s m args below meth c nL D L g A Fn (pc + 1) lv (.long (x >>> (y.toInt64 &&& 63)) :: rest) M X) : xm_J p l e R s m args below meth c nL D L g A Fn pc lv (.int y :: .long x :: rest) M X := fun r hr ls H locs hl hP hS => lv_lshr hX.1.1 hX.1.2.1 hdg rfl (k r hr ls H locs hl hP hS)
theorem xm_ishr (hX : xm_X p m meth c cc nL s args Ts own ret D L g A) {x y : Int32} (hdg : decode cc pc = .ok (.ishr, 1)) (k : xm_J p l e R s m args below meth c nL D L g A Fn (pc + 1) lv (.int (x >>> (y &&& 31)) :: rest) M X) : xm_J p l e R s m args below meth c nL D L g A Fn pc lv (.int y :: .int x :: rest) M X := fun r hr ls H locs hl hP hS => lv_ishr hX.1.1 hX.1.2.1 hdg (k r hr ls H locs hl hP hS)
theorem xm_lcmp (hX : xm_X p m meth c cc nL s args Ts own ret D L g A) {x y : Int64} (hdg : decode cc pc = .ok (.lcmp, 1)) (k : xm_J p l e R s m args below meth c nL D L g A Fn (pc + 1) lv (.int (lg_cmp x y) :: rest) M X) : xm_J p l e R s m args below meth c nL D L g A Fn pc lv (.long y :: .long x :: rest) M X := fun r hr ls H locs hl hP hS => W.lcmp hX.1.1 hX.1.2.1 hdg (k r hr ls H locs hl hP hS)
theorem xm_dup (hX : xm_X p m meth c cc nL s args Ts own ret D L g A) {v : Value} (hv : v.category = 1) (hdg : decode cc pc = .ok (.dup, 1)) (k : xm_J p l e R s m args below meth c nL D L g A Fn (pc + 1) lv (v :: v :: rest) M X) : xm_J p l e R s m args below meth c nL D L g A Fn pc lv (v :: rest) M X := fun r hr ls H locs hl hP hS => lv_dup hX.1.1 hX.1.2.1 hdg hv (k r hr ls H locs hl hP hS)
theorem xm_pop (hX : xm_X p m meth c cc nL s args Ts own ret D L g A) {v : Value} (hv : v.category = 1) (hdg : decode cc pc = .ok (.pop, 1)) (k : xm_J p l e R s m args below meth c nL D L g A Fn (pc + 1) lv rest M X) : xm_J p l e R s m args below meth c nL D L g A Fn pc lv (v :: rest) M X := fun r hr ls H locs hl hP hS => lv_pop hX.1.1 hX.1.2.1 hdg hv (k r hr ls H locs hl hP hS)
theorem xm_dup2_11 (hX : xm_X p m meth c cc nL s args Ts own ret D L g A) {v u : Value} (hv : v.category = 1) (hu : u.category = 1) (hdg : decode cc pc = .ok (.dup2, 1)) (k : xm_J p l e R s m args below meth c nL D L g A Fn (pc + 1) lv (v :: u :: v :: u :: rest) M X) : xm_J p l e R s m args below meth c nL D L g A Fn pc lv (v :: u :: rest) M X := fun r hr ls H locs hl hP hS => lv_dup2_11 hX.1.1 hX.1.2.1 hdg hv hu (k r hr ls H locs hl hP hS)
theorem xm_dup2_2 (hX : xm_X p m meth c cc nL s args Ts own ret D L g A) {v : Value} (hv : v.category = 2) (hdg : decode cc pc = .ok (.dup2, 1)) (k : xm_J p l e R s m args below meth c nL D L g A Fn (pc + 1) lv (v :: v :: rest) M X) : xm_J p l e R s m args below meth c nL D L g A Fn pc lv (v :: rest) M X := fun r hr ls H locs hl hP hS => lv_dup2_2 hX.1.1 hX.1.2.1 hdg hv (k r hr ls H locs hl hP hS)
theorem xm_pop2_2 (hX : xm_X p m meth c cc nL s args Ts own ret D L g A) {v : Value} (hv : v.category = 2) (hdg : decode cc pc = .ok (.pop2, 1)) (k : xm_J p l e R s m args below meth c nL D L g A Fn (pc + 1) lv rest M X) : xm_J p l e R s m args below meth c nL D L g A Fn pc lv (v :: rest) M X := fun r hr ls H locs hl hP hS => lv_pop2_2 hX.1.1 hX.1.2.1 hdg hv (k r hr ls H locs hl hP hS)
theorem xm_idiv (hX : xm_X p m meth c cc nL s args Ts own ret D L g A) {x y : Int32} (hdg : decode cc pc = .ok (.idiv, 1)) (k : xm_J p l e R s m args below meth c nL D L g A Fn (pc + 1) lv (.int (x / y) :: rest) M X) : xm_J p l e R s m args below meth c nL D L g A Fn pc lv (.int y :: .int x :: rest) M (if y = 0 then none else X) := by
  by_cases h : y = 0
  · rw [if_pos h]; exact xm_none
  · rw [if_neg h]; exact fun r hr ls H locs hl hP hS => lv_idiv hX.1.1 hX.1.2.1 hdg h (k r hr ls H locs hl hP hS)
theorem xm_irem (hX : xm_X p m meth c cc nL s args Ts own ret D L g A) {x y : Int32} (hdg : decode cc pc = .ok (.irem, 1)) (k : xm_J p l e R s m args below meth c nL D L g A Fn (pc + 1) lv (.int (x - x / y * y) :: rest) M X) : xm_J p l e R s m args below meth c nL D L g A Fn pc lv (.int y :: .int x :: rest) M (if y = 0 then none else X) := by
  by_cases h : y = 0
  · rw [if_pos h]; exact xm_none
  · rw [if_neg h]; exact fun r hr ls H locs hl hP hS => lv_irem hX.1.1 hX.1.2.1 hdg h (k r hr ls H locs hl hP hS)
theorem xm_ldiv (hX : xm_X p m meth c cc nL s args Ts own ret D L g A) {x y : Int64} (hdg : decode cc pc = .ok (.ldiv, 1)) (k : xm_J p l e R s m args below meth c nL D L g A Fn (pc + 1) lv (.long (x / y) :: rest) M X) : xm_J p l e R s m args below meth c nL D L g A Fn pc lv (.long y :: .long x :: rest) M (if y = 0 then none else X) := by
  by_cases h : y = 0
  · rw [if_pos h]; exact xm_none
  · rw [if_neg h]; exact fun r hr ls H locs hl hP hS => lv_ldiv hX.1.1 hX.1.2.1 hdg h (k r hr ls H locs hl hP hS)
theorem xm_lrem (hX : xm_X p m meth c cc nL s args Ts own ret D L g A) {x y : Int64} (hdg : decode cc pc = .ok (.lrem, 1)) (k : xm_J p l e R s m args below meth c nL D L g A Fn (pc + 1) lv (.long (x - x / y * y) :: rest) M X) : xm_J p l e R s m args below meth c nL D L g A Fn pc lv (.long y :: .long x :: rest) M (if y = 0 then none else X) := by
  by_cases h : y = 0
  · rw [if_pos h]; exact xm_none
  · rw [if_neg h]; exact fun r hr ls H locs hl hP hS => lv_lrem hX.1.1 hX.1.2.1 hdg h (k r hr ls H locs hl hP hS)
theorem xm_goto (hX : xm_X p m meth c cc nL s args Ts own ret D L g A) {off : Int} (hdg : decode cc pc = .ok (.goto off, 3)) (ht : (pc : Int) + off = (tgt : Int)) (k : xm_J p l e R s m args below meth c nL D L g A Fn tgt lv rest M X) : xm_J p l e R s m args below meth c nL D L g A Fn pc lv rest M X := fun r hr ls H locs hl hP hS => lv_goto hX.1.1 hX.1.2.1 hdg ht (k r hr ls H locs hl hP hS)
theorem xm_if_eq (hX : xm_X p m meth c cc nL s args Ts own ret D L g A) {x : Int32} {off : Int} (hdg : decode cc pc = .ok (.ifCond .eq off, 3)) (ht : (pc : Int) + off = (tgt : Int)) (kt : xm_J p l e R s m args below meth c nL D L g A Fn tgt lv rest M X) (kf : xm_J p l e R s m args below meth c nL D L g A Fn (pc + 3) lv rest M Y) : xm_J p l e R s m args below meth c nL D L g A Fn pc lv (.int x :: rest) M (if x = 0 then X else Y) := fun r hr ls H locs hl hP hS => lv_if_eq hX.1.1 hX.1.2.1 hdg ht (fun h => kt r (by first | rw [if_pos h] at hr; exact hr | rw [if_neg h] at hr; exact hr) ls H locs hl hP hS) (fun h => kf r (by first | rw [if_neg h] at hr; exact hr | rw [if_pos (Classical.not_not.mp h)] at hr; exact hr) ls H locs hl hP hS)
theorem xm_if_ne (hX : xm_X p m meth c cc nL s args Ts own ret D L g A) {x : Int32} {off : Int} (hdg : decode cc pc = .ok (.ifCond .ne off, 3)) (ht : (pc : Int) + off = (tgt : Int)) (kt : xm_J p l e R s m args below meth c nL D L g A Fn tgt lv rest M X) (kf : xm_J p l e R s m args below meth c nL D L g A Fn (pc + 3) lv rest M Y) : xm_J p l e R s m args below meth c nL D L g A Fn pc lv (.int x :: rest) M (if x = 0 then Y else X) := fun r hr ls H locs hl hP hS => lv_if_ne hX.1.1 hX.1.2.1 hdg ht (fun h => kt r (by rw [if_neg h] at hr; exact hr) ls H locs hl hP hS) (fun h => kf r (by rw [if_pos h] at hr; exact hr) ls H locs hl hP hS)
theorem xm_if_lt (hX : xm_X p m meth c cc nL s args Ts own ret D L g A) {x : Int32} {off : Int} (hdg : decode cc pc = .ok (.ifCond .lt off, 3)) (ht : (pc : Int) + off = (tgt : Int)) (kt : xm_J p l e R s m args below meth c nL D L g A Fn tgt lv rest M X) (kf : xm_J p l e R s m args below meth c nL D L g A Fn (pc + 3) lv rest M Y) : xm_J p l e R s m args below meth c nL D L g A Fn pc lv (.int x :: rest) M (if x < 0 then X else Y) := fun r hr ls H locs hl hP hS => lv_if_lt hX.1.1 hX.1.2.1 hdg ht (fun h => kt r (by first | rw [if_pos h] at hr; exact hr | rw [if_neg h] at hr; exact hr) ls H locs hl hP hS) (fun h => kf r (by first | rw [if_neg h] at hr; exact hr | rw [if_pos (Classical.not_not.mp h)] at hr; exact hr) ls H locs hl hP hS)
theorem xm_if_ge (hX : xm_X p m meth c cc nL s args Ts own ret D L g A) {x : Int32} {off : Int} (hdg : decode cc pc = .ok (.ifCond .ge off, 3)) (ht : (pc : Int) + off = (tgt : Int)) (kt : xm_J p l e R s m args below meth c nL D L g A Fn tgt lv rest M X) (kf : xm_J p l e R s m args below meth c nL D L g A Fn (pc + 3) lv rest M Y) : xm_J p l e R s m args below meth c nL D L g A Fn pc lv (.int x :: rest) M (if 0 ≤ x then X else Y) := fun r hr ls H locs hl hP hS => lv_if_ge hX.1.1 hX.1.2.1 hdg ht (fun h => kt r (by first | rw [if_pos h] at hr; exact hr | rw [if_neg h] at hr; exact hr) ls H locs hl hP hS) (fun h => kf r (by first | rw [if_neg h] at hr; exact hr | rw [if_pos (Classical.not_not.mp h)] at hr; exact hr) ls H locs hl hP hS)
theorem xm_if_gt (hX : xm_X p m meth c cc nL s args Ts own ret D L g A) {x : Int32} {off : Int} (hdg : decode cc pc = .ok (.ifCond .gt off, 3)) (ht : (pc : Int) + off = (tgt : Int)) (kt : xm_J p l e R s m args below meth c nL D L g A Fn tgt lv rest M X) (kf : xm_J p l e R s m args below meth c nL D L g A Fn (pc + 3) lv rest M Y) : xm_J p l e R s m args below meth c nL D L g A Fn pc lv (.int x :: rest) M (if 0 < x then X else Y) := fun r hr ls H locs hl hP hS => lv_if_gt hX.1.1 hX.1.2.1 hdg ht (fun h => kt r (by first | rw [if_pos h] at hr; exact hr | rw [if_neg h] at hr; exact hr) ls H locs hl hP hS) (fun h => kf r (by first | rw [if_neg h] at hr; exact hr | rw [if_pos (Classical.not_not.mp h)] at hr; exact hr) ls H locs hl hP hS)
theorem xm_if_le (hX : xm_X p m meth c cc nL s args Ts own ret D L g A) {x : Int32} {off : Int} (hdg : decode cc pc = .ok (.ifCond .le off, 3)) (ht : (pc : Int) + off = (tgt : Int)) (kt : xm_J p l e R s m args below meth c nL D L g A Fn tgt lv rest M X) (kf : xm_J p l e R s m args below meth c nL D L g A Fn (pc + 3) lv rest M Y) : xm_J p l e R s m args below meth c nL D L g A Fn pc lv (.int x :: rest) M (if x ≤ 0 then X else Y) := fun r hr ls H locs hl hP hS => lv_if_le hX.1.1 hX.1.2.1 hdg ht (fun h => kt r (by first | rw [if_pos h] at hr; exact hr | rw [if_neg h] at hr; exact hr) ls H locs hl hP hS) (fun h => kf r (by first | rw [if_neg h] at hr; exact hr | rw [if_pos (Classical.not_not.mp h)] at hr; exact hr) ls H locs hl hP hS)
theorem xm_icmp_eq (hX : xm_X p m meth c cc nL s args Ts own ret D L g A) {x y : Int32} {off : Int} (hdg : decode cc pc = .ok (.if_icmp .eq off, 3)) (ht : (pc : Int) + off = (tgt : Int)) (kt : xm_J p l e R s m args below meth c nL D L g A Fn tgt lv rest M X) (kf : xm_J p l e R s m args below meth c nL D L g A Fn (pc + 3) lv rest M Y) : xm_J p l e R s m args below meth c nL D L g A Fn pc lv (.int y :: .int x :: rest) M (if x = y then X else Y) := fun r hr ls H locs hl hP hS => lv_icmp_eq hX.1.1 hX.1.2.1 hdg ht (fun h => kt r (by first | rw [if_pos h] at hr; exact hr | rw [if_neg h] at hr; exact hr) ls H locs hl hP hS) (fun h => kf r (by first | rw [if_neg h] at hr; exact hr | rw [if_pos (Classical.not_not.mp h)] at hr; exact hr) ls H locs hl hP hS)
theorem xm_icmp_ne (hX : xm_X p m meth c cc nL s args Ts own ret D L g A) {x y : Int32} {off : Int} (hdg : decode cc pc = .ok (.if_icmp .ne off, 3)) (ht : (pc : Int) + off = (tgt : Int)) (kt : xm_J p l e R s m args below meth c nL D L g A Fn tgt lv rest M X) (kf : xm_J p l e R s m args below meth c nL D L g A Fn (pc + 3) lv rest M Y) : xm_J p l e R s m args below meth c nL D L g A Fn pc lv (.int y :: .int x :: rest) M (if x = y then Y else X) := fun r hr ls H locs hl hP hS => lv_icmp_ne hX.1.1 hX.1.2.1 hdg ht (fun h => kt r (by rw [if_neg h] at hr; exact hr) ls H locs hl hP hS) (fun h => kf r (by rw [if_pos h] at hr; exact hr) ls H locs hl hP hS)
theorem xm_icmp_lt (hX : xm_X p m meth c cc nL s args Ts own ret D L g A) {x y : Int32} {off : Int} (hdg : decode cc pc = .ok (.if_icmp .lt off, 3)) (ht : (pc : Int) + off = (tgt : Int)) (kt : xm_J p l e R s m args below meth c nL D L g A Fn tgt lv rest M X) (kf : xm_J p l e R s m args below meth c nL D L g A Fn (pc + 3) lv rest M Y) : xm_J p l e R s m args below meth c nL D L g A Fn pc lv (.int y :: .int x :: rest) M (if x < y then X else Y) := fun r hr ls H locs hl hP hS => lv_icmp_lt hX.1.1 hX.1.2.1 hdg ht (fun h => kt r (by first | rw [if_pos h] at hr; exact hr | rw [if_neg h] at hr; exact hr) ls H locs hl hP hS) (fun h => kf r (by first | rw [if_neg h] at hr; exact hr | rw [if_pos (Classical.not_not.mp h)] at hr; exact hr) ls H locs hl hP hS)
theorem xm_icmp_ge (hX : xm_X p m meth c cc nL s args Ts own ret D L g A) {x y : Int32} {off : Int} (hdg : decode cc pc = .ok (.if_icmp .ge off, 3)) (ht : (pc : Int) + off = (tgt : Int)) (kt : xm_J p l e R s m args below meth c nL D L g A Fn tgt lv rest M X) (kf : xm_J p l e R s m args below meth c nL D L g A Fn (pc + 3) lv rest M Y) : xm_J p l e R s m args below meth c nL D L g A Fn pc lv (.int y :: .int x :: rest) M (if y ≤ x then X else Y) := fun r hr ls H locs hl hP hS => lv_icmp_ge hX.1.1 hX.1.2.1 hdg ht (fun h => kt r (by first | rw [if_pos h] at hr; exact hr | rw [if_neg h] at hr; exact hr) ls H locs hl hP hS) (fun h => kf r (by first | rw [if_neg h] at hr; exact hr | rw [if_pos (Classical.not_not.mp h)] at hr; exact hr) ls H locs hl hP hS)
theorem xm_icmp_gt (hX : xm_X p m meth c cc nL s args Ts own ret D L g A) {x y : Int32} {off : Int} (hdg : decode cc pc = .ok (.if_icmp .gt off, 3)) (ht : (pc : Int) + off = (tgt : Int)) (kt : xm_J p l e R s m args below meth c nL D L g A Fn tgt lv rest M X) (kf : xm_J p l e R s m args below meth c nL D L g A Fn (pc + 3) lv rest M Y) : xm_J p l e R s m args below meth c nL D L g A Fn pc lv (.int y :: .int x :: rest) M (if y < x then X else Y) := fun r hr ls H locs hl hP hS => lv_icmp_gt hX.1.1 hX.1.2.1 hdg ht (fun h => kt r (by first | rw [if_pos h] at hr; exact hr | rw [if_neg h] at hr; exact hr) ls H locs hl hP hS) (fun h => kf r (by first | rw [if_neg h] at hr; exact hr | rw [if_pos (Classical.not_not.mp h)] at hr; exact hr) ls H locs hl hP hS)
theorem xm_icmp_le (hX : xm_X p m meth c cc nL s args Ts own ret D L g A) {x y : Int32} {off : Int} (hdg : decode cc pc = .ok (.if_icmp .le off, 3)) (ht : (pc : Int) + off = (tgt : Int)) (kt : xm_J p l e R s m args below meth c nL D L g A Fn tgt lv rest M X) (kf : xm_J p l e R s m args below meth c nL D L g A Fn (pc + 3) lv rest M Y) : xm_J p l e R s m args below meth c nL D L g A Fn pc lv (.int y :: .int x :: rest) M (if x ≤ y then X else Y) := fun r hr ls H locs hl hP hS => lv_icmp_le hX.1.1 hX.1.2.1 hdg ht (fun h => kt r (by first | rw [if_pos h] at hr; exact hr | rw [if_neg h] at hr; exact hr) ls H locs hl hP hS) (fun h => kf r (by first | rw [if_neg h] at hr; exact hr | rw [if_pos (Classical.not_not.mp h)] at hr; exact hr) ls H locs hl hP hS)
theorem xm_tsIn (hX : xm_X p m meth c cc nL s args Ts own ret D L g A) {dflt lo hi : Int} {offs : Array Int} {len : Nat} {x k9 : Int32} {off : Int} (hdg : decode cc pc = .ok (.tableswitch dflt lo hi offs, len)) (h : x = k9) (h1 : ¬ k9.toInt < lo) (h2 : ¬ hi < k9.toInt) (ho : offs[(k9.toInt - lo).toNat]? = some off) (ht : (pc : Int) + off = (tgt : Int)) (k : xm_J p l e R s m args below meth c nL D L g A Fn tgt lv rest M X) : xm_J p l e R s m args below meth c nL D L g A Fn pc lv (.int x :: rest) M X := by
  subst h
  exact fun r hr ls H locs hl hP hS => lv_tableIn hX.1.1 hX.1.2.1 hdg h1 h2 ho ht (k r hr ls H locs hl hP hS)
theorem xm_tsOut (hX : xm_X p m meth c cc nL s args Ts own ret D L g A) {dflt lo hi : Int} {offs : Array Int} {len : Nat} {x : Int32} (hdg : decode cc pc = .ok (.tableswitch dflt lo hi offs, len)) (h : x.toInt < lo ∨ hi < x.toInt) (ht : (pc : Int) + dflt = (tgt : Int)) (k : xm_J p l e R s m args below meth c nL D L g A Fn tgt lv rest M X) : xm_J p l e R s m args below meth c nL D L g A Fn pc lv (.int x :: rest) M X :=
  fun r hr ls H locs hl hP hS => lv_tableOut hX.1.1 hX.1.2.1 hdg h ht (k r hr ls H locs hl hP hS)
theorem xm_ldc (hX : xm_X p m meth c cc nL s args Ts own ret D L g A) {index : Nat} {v : Int32} (hw : Cond.constant own index v ∈ Ts) (hdg : decode cc pc = .ok (.ldc index, 2)) (k : xm_J p l e R s m args below meth c nL D L g A Fn (pc + 2) lv (.int v :: rest) M X) : xm_J p l e R s m args below meth c nL D L g A Fn pc lv rest M X :=
  fun r hr ls H locs hl hP hS => lv_ldc hX.1.1 hX.1.2.1 hX.1.2.2.2.1 (hX.1.2.2.2.2 _ hw) hdg (k r hr ls H locs hl hP hS)
theorem xm_ldcw (hX : xm_X p m meth c cc nL s args Ts own ret D L g A) {index : Nat} {v : Int32} (hw : Cond.constant own index v ∈ Ts) (hdg : decode cc pc = .ok (.ldc_w index, 3)) (k : xm_J p l e R s m args below meth c nL D L g A Fn (pc + 3) lv (.int v :: rest) M X) : xm_J p l e R s m args below meth c nL D L g A Fn pc lv rest M X :=
  fun r hr ls H locs hl hP hS => lv_ldcw hX.1.1 hX.1.2.1 hX.1.2.2.2.1 (hX.1.2.2.2.2 _ hw) hdg (k r hr ls H locs hl hP hS)
theorem xm_ldc2 (hX : xm_X p m meth c cc nL s args Ts own ret D L g A) {index : Nat} {v : Int64} (hw : Cond.constantLong own index v ∈ Ts) (hdg : decode cc pc = .ok (.ldc2_w index, 3)) (k : xm_J p l e R s m args below meth c nL D L g A Fn (pc + 3) lv (.long v :: rest) M X) : xm_J p l e R s m args below meth c nL D L g A Fn pc lv rest M X :=
  fun r hr ls H locs hl hP hS => lv_ldc2 hX.1.1 hX.1.2.1 hX.1.2.2.2.1 (hX.1.2.2.2.2 _ hw) hdg (k r hr ls H locs hl hP hS)
/-! the cells -/
theorem xm_fs_at {f : Nat → Int32} {h : Nat → Int64} {fs : List (Nat × Nat)} {j : Nat} {q : Nat × Nat} (hq : fs[j]? = some q) : (xm_fs g f h fs)[j]? = some (xm_fv g f h j q) := by simp [xm_fs, List.getElem?_mapIdx, hq]
theorem xm_get (hX : xm_X p m meth c cc nL s args Ts own ret D L g A) {k ci j index : Nat} {fs : List (Nat × Nat)} {q : Nat × Nat} {C : String} {T : u_T} {N : Nat} {v : Value} (hS : L[k]? = some (.inr (.inr (ci, fs)))) (hc : vwCl[ci]? = some (C, T, N)) (hq : fs[j]? = some q) (hv : xm_fv g (M.1 k) (M.2 k) j q = v) (hj : j < N) (hin : ∀ w ∈ u_ws C T N, w ∈ Ts) (hw : Cond.fieldLink own index (T j).1 (T j).2.1 (T j).2.2.1 ∈ Ts) (hdg : decode cc pc = .ok (.getfield index, 3))
    (kk : xm_J p l e R s m args below meth c nL D L g A Fn (pc + 3) lv (v :: rest) M X) : xm_J p l e R s m args below meth c nL D L g A Fn pc lv (.ref (g.1 k) :: rest) M X := fun r hr ls H locs hl hP hSS =>
  va_get (D := D) (ci := ci) (v := v) (C := C) (T := T) (N := N) (ref := (T j).1) hX.1.1 hX.1.2.1 hX.1.2.2.2.2 hin hX.1.2.2.2.1 hX.2.2.2.1 hP k (xm_w_at hS) hc j hj (hX.1.2.2.2.2 _ hw) (fun _ h9 => h9) (by rw [xm_fs_at hq, hv]) hdg (kk r hr ls H locs hl hP hSS)
theorem xm_fs_set {M M' : xm_M} {k j : Nat} {fs : List (Nat × Nat)} {q : Nat × Nat} {v : Value} (hq : fs[j]? = some q) (hv : xm_fv g (M'.1 k) (M'.2 k) j q = v) (ho : ∀ i, i ≠ j → M'.1 k i = M.1 k i ∧ M'.2 k i = M.2 k i) : (xm_fs g (M.1 k) (M.2 k) fs).set j v = xm_fs g (M'.1 k) (M'.2 k) fs := by
  apply List.ext_getElem?
  intro i
  by_cases hi : j = i
  · subst hi
    have hl : j < (xm_fs g (M.1 k) (M.2 k) fs).length := by
      have := (List.getElem?_eq_some_iff.mp hq).1
      simpa [xm_fs] using this
    rw [List.getElem?_set_self hl, xm_fs_at hq, hv]
  · rw [List.getElem?_set_ne hi]
    unfold xm_fs
    rw [List.getElem?_mapIdx, List.getElem?_mapIdx]
    have h2 := ho i (Ne.symm hi)
    cases fs[i]? with
    | none => rfl
    | some z => simp [xm_fv, h2.1, h2.2]
theorem xm_putG (hX : xm_X p m meth c cc nL s args Ts own ret D L g A) {M1 : xm_M} {k ci j index : Nat} {fs : List (Nat × Nat)} {q : Nat × Nat} {C : String} {T : u_T} {N : Nat} {v : Value} {ty : FieldType} {t0 : Nat → FieldType} (hS : L[k]? = some (.inr (.inr (ci, fs)))) (hc : vwCl[ci]? = some (C, T, N)) (hq : fs[j]? = some q) (hv : xm_fv g (M1.1 k) (M1.2 k) j q = v) (ho : ∀ i, i ≠ j → M1.1 k i = M.1 k i ∧ M1.2 k i = M.2 k i) (ho2 : ∀ a, a ≠ k → M1.1 a = M.1 a ∧ M1.2 a = M.2 a) (hj : j < N) (hin : ∀ w ∈ u_ws C T N, w ∈ Ts) (ht0 : ∀ k, k < N → parseFieldDescriptor (T k).2.2.1 = some (t0 k)) (hnm : ∀ a, a < N → ∀ b, b < N → a ≠ b → (T a).2.1 ≠ (T b).2.1) (hfin : (T j).2.2.2 = false) (hd : parseFieldDescriptor (T j).2.2.1 = some ty) (hn : narrow ty v = v) (hfit : fits ty v = true) (hw : Cond.fieldLink own index (T j).1 (T j).2.1 (T j).2.2.1 ∈ Ts) (hdg : decode cc pc = .ok (.putfield index, 3))
    (kk : xm_J p l e R s m args below meth c nL D L g A Fn (pc + 3) lv rest M1 X) : xm_J p l e R s m args below meth c nL D L g A Fn pc lv (v :: .ref (g.1 k) :: rest) M X := fun r hr ls H locs hl hP hSS => by
  have e : (xm_w L g M).set k (g.1 k, .inr (ci, (xm_fs g (M.1 k) (M.2 k) fs).set j v)) = xm_w L g M1 := xm_w_set hS (by rw [xm_fs_set hq hv ho]; rfl) ho2
  refine va_put (D := D) (ci := ci) (v := v) (ty := ty) (C := C) (T := T) (N := N) (ref := (T j).1) hX.1.1 hX.1.2.1 hX.1.2.2.2.2 hin t0 ht0 hnm hX.1.2.2.2.1 hX.2.2.2.1 hP (xm_X.hD hX M) hSS k (xm_w_at hS) hc j hj (hX.1.2.2.2.2 _ hw) (fun _ h9 => h9) hfin hd hn hfit (by have := (List.getElem?_eq_some_iff.mp hq).1; simpa [xm_fs] using this) hdg (fun H1 locs1 hP1 _ hS1 => kk r hr ls H1 locs1 hl (by rw [e] at hP1; exact hP1) hS1)
theorem xm_puti (hX : xm_X p m meth c cc nL s args Ts own ret D L g A) {f : xm_M → Option ρ} {k ci j index : Nat} {fs : List (Nat × Nat)} {z : Nat} {C : String} {T : u_T} {N : Nat} {x : Int32} {t0 : Nat → FieldType} (hS : L[k]? = some (.inr (.inr (ci, fs)))) (hc : vwCl[ci]? = some (C, T, N)) (hq : fs[j]? = some (0, z)) (hj : j < N) (hin : ∀ w ∈ u_ws C T N, w ∈ Ts) (ht0 : ∀ k, k < N → parseFieldDescriptor (T k).2.2.1 = some (t0 k)) (hnm : ∀ a, a < N → ∀ b, b < N → a ≠ b → (T a).2.1 ≠ (T b).2.1) (hfin : (T j).2.2.2 = false) (hd : parseFieldDescriptor (T j).2.2.1 = some .int) (hw : Cond.fieldLink own index (T j).1 (T j).2.1 (T j).2.2.1 ∈ Ts) (hdg : decode cc pc = .ok (.putfield index, 3))
    (kk : ∀ M1 : xm_M, xm_J p l e R s m args below meth c nL D L g A Fn (pc + 3) lv rest M1 (f M1)) : xm_J p l e R s m args below meth c nL D L g A Fn pc lv (.int x :: .ref (g.1 k) :: rest) M (xm_lt (xm_s M k j x) f) :=
  xm_putG hX (M1 := xm_s M k j x) (v := .int x) hS hc hq (by simp [xm_fv, xm_s]) (fun i hi => by simp [xm_s, hi]) xm_s_o hj hin ht0 hnm hfin hd rfl rfl hw hdg (kk _)
/-- a boolean field takes 0 and 1 -/
theorem xm_putz (hX : xm_X p m meth c cc nL s args Ts own ret D L g A) {f : xm_M → Option ρ} {k ci j index : Nat} {fs : List (Nat × Nat)} {z : Nat} {C : String} {T : u_T} {N : Nat} {x : Int32} {t0 : Nat → FieldType} (hS : L[k]? = some (.inr (.inr (ci, fs)))) (hc : vwCl[ci]? = some (C, T, N)) (hq : fs[j]? = some (0, z)) (hj : j < N) (hin : ∀ w ∈ u_ws C T N, w ∈ Ts) (ht0 : ∀ k, k < N → parseFieldDescriptor (T k).2.2.1 = some (t0 k)) (hnm : ∀ a, a < N → ∀ b, b < N → a ≠ b → (T a).2.1 ≠ (T b).2.1) (hfin : (T j).2.2.2 = false) (hd : parseFieldDescriptor (T j).2.2.1 = some .boolean) (hw : Cond.fieldLink own index (T j).1 (T j).2.1 (T j).2.2.1 ∈ Ts) (hdg : decode cc pc = .ok (.putfield index, 3))
    (kk : ∀ M1 : xm_M, xm_J p l e R s m args below meth c nL D L g A Fn (pc + 3) lv rest M1 (f M1)) : xm_J p l e R s m args below meth c nL D L g A Fn pc lv (.int x :: .ref (g.1 k) :: rest) M (if x = 0 ∨ x = 1 then xm_lt (xm_s M k j x) f else none) := by
  refine xm_ite (fun h => ?_) (fun _ => xm_none)
  refine xm_putG hX (M1 := xm_s M k j x) (v := .int x) hS hc hq (by simp [xm_fv, xm_s]) (fun i hi => by simp [xm_s, hi]) xm_s_o hj hin ht0 hnm hfin hd ?_ ?_ hw hdg (kk _)
  · rcases h with rfl | rfl <;> rfl
  · rcases h with rfl | rfl <;> rfl
theorem xm_putl (hX : xm_X p m meth c cc nL s args Ts own ret D L g A) {f : xm_M → Option ρ} {k ci j index : Nat} {fs : List (Nat × Nat)} {z : Nat} {C : String} {T : u_T} {N : Nat} {x : Int64} {t0 : Nat → FieldType} (hS : L[k]? = some (.inr (.inr (ci, fs)))) (hc : vwCl[ci]? = some (C, T, N)) (hq : fs[j]? = some (1, z)) (hj : j < N) (hin : ∀ w ∈ u_ws C T N, w ∈ Ts) (ht0 : ∀ k, k < N → parseFieldDescriptor (T k).2.2.1 = some (t0 k)) (hnm : ∀ a, a < N → ∀ b, b < N → a ≠ b → (T a).2.1 ≠ (T b).2.1) (hfin : (T j).2.2.2 = false) (hd : parseFieldDescriptor (T j).2.2.1 = some .long) (hw : Cond.fieldLink own index (T j).1 (T j).2.1 (T j).2.2.1 ∈ Ts) (hdg : decode cc pc = .ok (.putfield index, 3))
    (kk : ∀ M1 : xm_M, xm_J p l e R s m args below meth c nL D L g A Fn (pc + 3) lv rest M1 (f M1)) : xm_J p l e R s m args below meth c nL D L g A Fn pc lv (.long x :: .ref (g.1 k) :: rest) M (xm_lt (xm_sl M k j x) f) :=
  xm_putG hX (M1 := xm_sl M k j x) (v := .long x) hS hc hq (by simp [xm_fv, xm_sl]) (fun i hi => by simp [xm_sl, hi]) xm_sl_o hj hin ht0 hnm hfin hd rfl rfl hw hdg (kk _)
theorem xm_inb {i : Int32} {n : Nat} (h : ¬ (i < 0 ∨ n ≤ i.toNatClampNeg)) : vp_in i n := h
theorem xm_iald (hX : xm_X p m meth c cc nL s args Ts own ret D L g A) {k t n : Nat} {i : Int32} (hS : L[k]? = some (.inl (t, .int, n))) (hdg : decode cc pc = .ok (.iaload, 1)) (kk : xm_J p l e R s m args below meth c nL D L g A Fn (pc + 1) lv (.int (M.1 k i.toNatClampNeg) :: rest) M X) : xm_J p l e R s m args below meth c nL D L g A Fn pc lv (.int i :: .ref (g.1 k) :: rest) M (if i < 0 ∨ n ≤ i.toNatClampNeg then none else X) :=
  xm_ite (fun _ => xm_none) (fun h r hr ls H locs hl hP hSS => va_iald hX.1.1 hX.1.2.1 hX.2.2.2.1 hP k t (xm_w_at hS) (hX.2.2.2.2.2.2.1 k _ hS) (xm_inb h) hdg (kk r hr ls H locs hl hP hSS))
theorem xm_zald (hX : xm_X p m meth c cc nL s args Ts own ret D L g A) {k t n : Nat} {i : Int32} (hS : L[k]? = some (.inl (t, .boolean, n))) (hdg : decode cc pc = .ok (.baload, 1)) (kk : xm_J p l e R s m args below meth c nL D L g A Fn (pc + 1) lv (.int (M.1 k i.toNatClampNeg) :: rest) M X) : xm_J p l e R s m args below meth c nL D L g A Fn pc lv (.int i :: .ref (g.1 k) :: rest) M (if i < 0 ∨ n ≤ i.toNatClampNeg then none else X) :=
  xm_ite (fun _ => xm_none) (fun h r hr ls H locs hl hP hSS => va_zald hX.1.1 hX.1.2.1 hX.2.2.2.1 hP k t (xm_w_at hS) (hX.2.2.2.2.2.2.1 k _ hS) (xm_inb h) hdg (kk r hr ls H locs hl hP hSS))
theorem xm_iast (hX : xm_X p m meth c cc nL s args Ts own ret D L g A) {f : xm_M → Option ρ} {k t n : Nat} {i x : Int32} (hS : L[k]? = some (.inl (t, .int, n))) (hdg : decode cc pc = .ok (.iastore, 1)) (kk : ∀ M1 : xm_M, xm_J p l e R s m args below meth c nL D L g A Fn (pc + 1) lv rest M1 (f M1)) : xm_J p l e R s m args below meth c nL D L g A Fn pc lv (.int x :: .int i :: .ref (g.1 k) :: rest) M (if i < 0 ∨ n ≤ i.toNatClampNeg then none else xm_lt (xm_s M k i.toNatClampNeg x) f) :=
  xm_ite (fun _ => xm_none) (fun h r hr ls H locs hl hP hSS => va_iast hX.1.1 hX.1.2.1 hX.2.2.2.1 hP (xm_X.hD hX M) hSS k t (xm_w_at hS) (hX.2.2.2.2.2.2.1 k _ hS) (xm_inb h) hdg (fun H1 locs1 hP1 _ hS1 => kk _ r hr ls H1 locs1 hl (by
    have e : (xm_w L g M).set k (g.1 k, .inl (xm_cid g t, n, .inl (upd (M.1 k) i.toNatClampNeg x))) = xm_w L g (xm_s M k i.toNatClampNeg x) := xm_w_set hS (by rw [xm_s_at]; rfl) xm_s_o
    rw [e] at hP1; exact hP1) hS1))
theorem xm_zast (hX : xm_X p m meth c cc nL s args Ts own ret D L g A) {f : xm_M → Option ρ} {k t n : Nat} {i x : Int32} (hS : L[k]? = some (.inl (t, .boolean, n))) (hdg : decode cc pc = .ok (.bastore, 1)) (kk : ∀ M1 : xm_M, xm_J p l e R s m args below meth c nL D L g A Fn (pc + 1) lv rest M1 (f M1)) : xm_J p l e R s m args below meth c nL D L g A Fn pc lv (.int x :: .int i :: .ref (g.1 k) :: rest) M (if i < 0 ∨ n ≤ i.toNatClampNeg then none else xm_lt (xm_s M k i.toNatClampNeg (vp_nar .boolean x)) f) :=
  xm_ite (fun _ => xm_none) (fun h r hr ls H locs hl hP hSS => va_zast hX.1.1 hX.1.2.1 hX.2.2.2.1 hP (xm_X.hD hX M) hSS k t (xm_w_at hS) (hX.2.2.2.2.2.2.1 k _ hS) (xm_inb h) hdg (fun H1 locs1 hP1 _ hS1 => kk _ r hr ls H1 locs1 hl (by
    have e : (xm_w L g M).set k (g.1 k, .inl (xm_cid g t, n, .inl (upd (M.1 k) i.toNatClampNeg (vp_nar .boolean x)))) = xm_w L g (xm_s M k i.toNatClampNeg (vp_nar .boolean x)) := xm_w_set hS (by rw [xm_s_at]; rfl) xm_s_o
    rw [e] at hP1; exact hP1) hS1))
theorem xm_alen (hX : xm_X p m meth c cc nL s args Ts own ret D L g A) {k t n : Nat} {ty : FieldType} {v : Int32} (hS : L[k]? = some (.inl (t, ty, n))) (hv : Int32.ofNat n = v) (hdg : decode cc pc = .ok (.arraylength, 1)) (kk : xm_J p l e R s m args below meth c nL D L g A Fn (pc + 1) lv (.int v :: rest) M X) : xm_J p l e R s m args below meth c nL D L g A Fn pc lv (.ref (g.1 k) :: rest) M X :=
  fun r hr ls H locs hl hP hSS => va_alen hX.1.1 hX.1.2.1 hX.2.2.2.1 hP k t (xm_w_at hS) (hX.2.2.2.2.2.2.1 k _ hS) hv hdg (kk r hr ls H locs hl hP hSS)
theorem xm_alenR (hX : xm_X p m meth c cc nL s args Ts own ret D L g A) {k N k0 : Nat} {v : Int32} (hS : L[k]? = some (.inr (.inl (N, k0)))) (hv : Int32.ofNat N = v) (hdg : decode cc pc = .ok (.arraylength, 1)) (kk : xm_J p l e R s m args below meth c nL D L g A Fn (pc + 1) lv (.int v :: rest) M X) : xm_J p l e R s m args below meth c nL D L g A Fn pc lv (.ref (g.1 k) :: rest) M X :=
  fun r hr ls H locs hl hP hSS => va_alen hX.1.1 hX.1.2.1 hX.2.2.2.1 hP k 1 (xm_w_at hS) (hX.2.2.2.2.2.2.1 k _ hS) hv hdg (kk r hr ls H locs hl hP hSS)
theorem xm_aald (hX : xm_X p m meth c cc nL s args Ts own ret D L g A) {k N k0 : Nat} {i : Int32} (hS : L[k]? = some (.inr (.inl (N, k0)))) (hdg : decode cc pc = .ok (.aaload, 1)) (kk : i.toNatClampNeg < N → xm_J p l e R s m args below meth c nL D L g A Fn (pc + 1) lv (.ref (g.1 (k0 + i.toNatClampNeg)) :: rest) M X) : xm_J p l e R s m args below meth c nL D L g A Fn pc lv (.int i :: .ref (g.1 k) :: rest) M (if i < 0 ∨ N ≤ i.toNatClampNeg then none else X) :=
  xm_ite (fun _ => xm_none) (fun h r hr ls H locs hl hP hSS => by
    have hlt : i.toNatClampNeg < N := Nat.not_le.mp fun q => h (Or.inr q)
    have ev : va_rf (xm_rows g (N, k0) i.toNatClampNeg) = .ref (g.1 (k0 + i.toNatClampNeg)) := by simp [xm_rows, hlt, va_rf]
    refine W.aald (v := va_rf (xm_rows g (N, k0) i.toNatClampNeg)) (ty := .array .int) hX.1.1 hX.1.2.1 (hP k _ (xm_w_at hS)) ((hX.2.2.2.1.2 1 _ (hX.2.2.2.2.2.2.1 k _ hS)).1 N (fun j => va_rf (xm_rows g (N, k0) j))) rfl (fun q => by cases q) (by show ¬ (i < 0 ∨ (arrV _ _ _).slots.size ≤ _); rw [arrV_size]; exact h) (by show (arrV _ _ _).slots[_]? = _; rw [arrV_read _ _ hlt]) rfl rfl hdg ?_
    rw [ev]
    exact kk hlt r hr ls H locs hl hP hSS)
/-! Math, System.arraycopy -/
theorem xm_mmin (hX : xm_X p m meth c cc nL s args Ts own ret D L g A) {index : Nat} (h1 : Cond.methodLink own index Lib.Math.min.name ∈ Ts) (h2 : Cond.static Lib.Math.min.name ∈ Ts) (h3 : Cond.initialized "java/lang/Math" ∈ Ts) (h4 : Cond.code Lib.Math.min.name Lib.Math.min.code 2 (some .int) ∈ Ts) (hf : 1 ≤ R.frames) (hlo : (rest.map fun v => v.category).sum + 13 ≤ R.locals) {x y : Int32} (hdg : decode cc pc = .ok (.invokestatic index, 3)) (kk : xm_J p l e R s m args below meth c nL D L g A Fn (pc + 3) lv (.int (if y < x then y else x) :: rest) M X) : xm_J p l e R s m args below meth c nL D L g A Fn pc lv (.int y :: .int x :: rest) M X :=
  fun r hr ls H locs hl hP hSS => va_mmin hX.1.1 hX.1.2.1 (by rw [hX.1.2.2.1]; exact hl.1.symm) hX.1.2.2.2.1 (hX.1.2.2.2.2 _ h1) (hX.1.2.2.2.2 _ h2) (hX.1.2.2.2.2 _ h3) (hX.1.2.2.2.2 _ h4) hf hlo (Nat.zero_le _) (Nat.zero_le _) hdg (kk r hr ls H locs hl hP hSS)
theorem xm_mmax (hX : xm_X p m meth c cc nL s args Ts own ret D L g A) {index : Nat} (h1 : Cond.methodLink own index Lib.Math.max.name ∈ Ts) (h2 : Cond.static Lib.Math.max.name ∈ Ts) (h3 : Cond.initialized "java/lang/Math" ∈ Ts) (h4 : Cond.code Lib.Math.max.name Lib.Math.max.code 2 (some .int) ∈ Ts) (hf : 1 ≤ R.frames) (hlo : (rest.map fun v => v.category).sum + 13 ≤ R.locals) {x y : Int32} (hdg : decode cc pc = .ok (.invokestatic index, 3)) (kk : xm_J p l e R s m args below meth c nL D L g A Fn (pc + 3) lv (.int (if x < y then y else x) :: rest) M X) : xm_J p l e R s m args below meth c nL D L g A Fn pc lv (.int y :: .int x :: rest) M X :=
  fun r hr ls H locs hl hP hSS => va_mmax hX.1.1 hX.1.2.1 (by rw [hX.1.2.2.1]; exact hl.1.symm) hX.1.2.2.2.1 (hX.1.2.2.2.2 _ h1) (hX.1.2.2.2.2 _ h2) (hX.1.2.2.2.2 _ h3) (hX.1.2.2.2.2 _ h4) hf hlo (Nat.zero_le _) (Nat.zero_le _) hdg (kk r hr ls H locs hl hP hSS)
theorem xm_mabs (hX : xm_X p m meth c cc nL s args Ts own ret D L g A) {index : Nat} (h1 : Cond.methodLink own index Lib.Math.abs.name ∈ Ts) (h2 : Cond.static Lib.Math.abs.name ∈ Ts) (h3 : Cond.initialized "java/lang/Math" ∈ Ts) (h4 : Cond.code Lib.Math.abs.name Lib.Math.abs.code 1 (some .int) ∈ Ts) (hf : 1 ≤ R.frames) (hlo : (rest.map fun v => v.category).sum + 13 ≤ R.locals) {x : Int32} (hdg : decode cc pc = .ok (.invokestatic index, 3)) (kk : xm_J p l e R s m args below meth c nL D L g A Fn (pc + 3) lv (.int (if 0 ≤ x then x else 0 - x) :: rest) M X) : xm_J p l e R s m args below meth c nL D L g A Fn pc lv (.int x :: rest) M X :=
  fun r hr ls H locs hl hP hSS => va_mabs hX.1.1 hX.1.2.1 (by rw [hX.1.2.2.1]; exact hl.1.symm) hX.1.2.2.2.1 (hX.1.2.2.2.2 _ h1) (hX.1.2.2.2.2 _ h2) (hX.1.2.2.2.2 _ h3) (hX.1.2.2.2.2 _ h4) hf hlo (Nat.zero_le _) (Nat.zero_le _) hdg (kk r hr ls H locs hl hP hSS)
theorem xm_mminl (hX : xm_X p m meth c cc nL s args Ts own ret D L g A) {index : Nat} (h1 : Cond.methodLink own index Lib.MathLoose.min_long.x ∈ Ts) (h2 : Cond.static Lib.MathLoose.min_long.x ∈ Ts) (h3 : Cond.initialized "java/lang/Math" ∈ Ts) (h4 : Cond.code Lib.MathLoose.min_long.x Lib.MathLoose.min_long.code 4 (some .long) ∈ Ts) (hf : 1 ≤ R.frames) (hlo : (rest.map fun v => v.category).sum + 15 ≤ R.locals) {x y : Int64} (hdg : decode cc pc = .ok (.invokestatic index, 3)) (kk : xm_J p l e R s m args below meth c nL D L g A Fn (pc + 3) lv (.long (if y < x then y else x) :: rest) M X) : xm_J p l e R s m args below meth c nL D L g A Fn pc lv (.long y :: .long x :: rest) M X :=
  fun r hr ls H locs hl hP hSS => va_mmin_long hX.1.1 hX.1.2.1 (by rw [hX.1.2.2.1]; exact hl.1.symm) hX.1.2.2.2.1 (hX.1.2.2.2.2 _ h1) (hX.1.2.2.2.2 _ h2) (hX.1.2.2.2.2 _ h3) (hX.1.2.2.2.2 _ h4) hf hlo (Nat.zero_le _) (Nat.zero_le _) hdg (kk r hr ls H locs hl hP hSS)
theorem xm_mabsl (hX : xm_X p m meth c cc nL s args Ts own ret D L g A) {index : Nat} (h1 : Cond.methodLink own index Lib.MathLoose.abs_long.x ∈ Ts) (h2 : Cond.static Lib.MathLoose.abs_long.x ∈ Ts) (h3 : Cond.initialized "java/lang/Math" ∈ Ts) (h4 : Cond.code Lib.MathLoose.abs_long.x Lib.MathLoose.abs_long.code 2 (some .long) ∈ Ts) (hf : 1 ≤ R.frames) (hlo : (rest.map fun v => v.category).sum + 13 ≤ R.locals) {x : Int64} (hdg : decode cc pc = .ok (.invokestatic index, 3)) (kk : xm_J p l e R s m args below meth c nL D L g A Fn (pc + 3) lv (.long (if 0 < x then x else -x) :: rest) M X) : xm_J p l e R s m args below meth c nL D L g A Fn pc lv (.long x :: rest) M X :=
  fun r hr ls H locs hl hP hSS => va_mabs_long hX.1.1 hX.1.2.1 (by rw [hX.1.2.2.1]; exact hl.1.symm) hX.1.2.2.2.1 (hX.1.2.2.2.2 _ h1) (hX.1.2.2.2.2 _ h2) (hX.1.2.2.2.2 _ h3) (hX.1.2.2.2.2 _ h4) hf hlo (Nat.zero_le _) (Nat.zero_le _) hdg (kk r hr ls H locs hl hP hSS)
/-- a row of ints copied into another, from the first on -/
theorem xm_acopy (hX : xm_X p m meth c cc nL s args Ts own ret D L g A) {f : xm_M → Option ρ} {index : Nat} (h1 : Cond.methodLink own index arraycopyName ∈ Ts) (h2 : Cond.native arraycopyName ∈ Ts) (h3 : Cond.static arraycopyName ∈ Ts) (h4 : Cond.initialized "java/lang/System" ∈ Ts) {k1 k2 t n1 n2 : Nat} (hS1 : L[k1]? = some (.inl (t, .int, n1))) (hS2 : L[k2]? = some (.inl (t, .int, n2))) {sp dp n : Int32} (hf : 1 ≤ R.frames) (hlo : (rest.map fun v => v.category).sum + (nativeFrameWords "java/lang/System" "arraycopy" 5 + 11) ≤ R.locals) (hdg : decode cc pc = .ok (.invokestatic index, 3))
    (kk : ∀ M1 : xm_M, xm_J p l e R s m args below meth c nL D L g A Fn (pc + 3) lv rest M1 (f M1)) : xm_J p l e R s m args below meth c nL D L g A Fn pc lv (.int n :: .int dp :: .ref (g.1 k2) :: .int sp :: .ref (g.1 k1) :: rest) M (if sp < 0 ∨ dp < 0 ∨ n < 0 ∨ n1 < sp.toNatClampNeg + n.toNatClampNeg ∨ n2 < dp.toNatClampNeg + n.toNatClampNeg then none else xm_lt (xm_r M k2 (va_cpy (M.1 k1) (M.1 k2) sp.toNatClampNeg dp.toNatClampNeg n.toNatClampNeg)) f) :=
  xm_ite (fun _ => xm_none) (fun h r hr ls H locs hl hP hSS => va_copyi hX.1.1 hX.1.2.1 (by rw [hX.1.2.2.1]; exact hl.1.symm) hX.1.2.2.2.1 (hX.1.2.2.2.2 _ h1) (hX.1.2.2.2.2 _ h2) (hX.1.2.2.2.2 _ h3) (hX.1.2.2.2.2 _ h4) hX.2.2.2.1 hP (xm_X.hD hX M) hSS k1 k2 t t (xm_w_at hS1) (xm_w_at hS2) (hX.2.2.2.2.2.2.1 k1 _ hS1) (hX.2.2.2.2.2.2.1 k2 _ hS2) rfl
    (fun z => h (Or.inl z)) (fun z => h (Or.inr (Or.inl z))) (fun z => h (Or.inr (Or.inr (Or.inl z)))) (Nat.not_lt.mp fun z => h (Or.inr (Or.inr (Or.inr (Or.inl z))))) (Nat.not_lt.mp fun z => h (Or.inr (Or.inr (Or.inr (Or.inr z))))) (fun _ _ => rfl) hf hlo hdg (fun H1 locs1 hP1 _ hS1' => kk _ r hr ls H1 locs1 hl (by
    have e : (xm_w L g M).set k2 (g.1 k2, .inl (xm_cid g t, n2, .inl (va_cpy (M.1 k1) (M.1 k2) sp.toNatClampNeg dp.toNatClampNeg n.toNatClampNeg))) = xm_w L g (xm_r M k2 (va_cpy (M.1 k1) (M.1 k2) sp.toNatClampNeg dp.toNatClampNeg n.toNatClampNeg)) := xm_w_set hS2 (by rw [xm_r_at]; rfl) xm_r_o
    rw [e] at hP1; exact hP1) hS1'))
/-! statics: the two tables of the settings' ranges -/
theorem xm_gets (hX : xm_X p m meth c cc nL s args Ts own ret D L g A) {C n d : String} {v : Value} {index : Nat} (hZ : va_Z C n d v A s s.heap) (hw : Cond.fieldLink own index C n d ∈ Ts) (hdg : decode cc pc = .ok (.getstatic index, 3)) (kk : xm_J p l e R s m args below meth c nL D L g A Fn (pc + 3) lv (v :: rest) M X) : xm_J p l e R s m args below meth c nL D L g A Fn pc lv rest M X :=
  fun r hr ls H locs hl hP hSS => va_gets hX.1.1 hX.1.2.1 hZ hSS hX.1.2.2.2.1 (hX.1.2.2.2.2 _ hw) (fun _ h => h) hdg (kk r hr ls H locs hl hP hSS)
theorem xm_tlen (hX : xm_X p m meth c cc nL s args Ts own ret D L g A) {t n : Nat} {f : Nat → Value} {v : Int32} (hT : va_T .int t n f A s s.heap) (hv : Int32.ofNat n = v) (hdg : decode cc pc = .ok (.arraylength, 1)) (kk : xm_J p l e R s m args below meth c nL D L g A Fn (pc + 1) lv (.int v :: rest) M X) : xm_J p l e R s m args below meth c nL D L g A Fn pc lv (.ref t :: rest) M X :=
  fun r hr ls H locs hl hP hSS => va_tlen hX.1.1 hX.1.2.1 hT hSS hv hdg (kk r hr ls H locs hl hP hSS)
theorem xm_ti (hX : xm_X p m meth c cc nL s args Ts own ret D L g A) {t n : Nat} {f : Nat → Int32} {i : Int32} (hT : va_T .int t n (fun j => .int (f j)) A s s.heap) (hdg : decode cc pc = .ok (.iaload, 1)) (kk : xm_J p l e R s m args below meth c nL D L g A Fn (pc + 1) lv (.int (f i.toNatClampNeg) :: rest) M X) : xm_J p l e R s m args below meth c nL D L g A Fn pc lv (.int i :: .ref t :: rest) M (if i < 0 ∨ n ≤ i.toNatClampNeg then none else X) :=
  xm_ite (fun _ => xm_none) (fun h r hr ls H locs hl hP hSS => va_ti hX.1.1 hX.1.2.1 hT hSS (xm_inb h) rfl hdg (kk r hr ls H locs hl hP hSS))
/-! ends -/
theorem xm_iret (hX : xm_X p m meth c cc nL s args Ts own (some .int) D L g A) {v : Int32} (hdg : decode cc pc = .ok (.ireturn, 1)) : xm_J p l e R s m args below meth c nL D L g A (xm_Fi g) pc lv [.int v] M (some (v, M)) := fun r hr ls H locs hl hP hSS => by
  cases hr
  exact W.iret (v := v) hX.1.1 hX.1.2.1 hX.2.1 (fun t ht hW => ⟨rfl, by rw [ht]; exact hP, hSS.F ht⟩) hSS.2.2 hdg hX.2.2.1
theorem xm_zret (hX : xm_X p m meth c cc nL s args Ts own (some .boolean) D L g A) {v : Int32} (hdg : decode cc pc = .ok (.ireturn, 1)) : xm_J p l e R s m args below meth c nL D L g A (xm_Fi g) pc lv [.int v] M (if v = 0 ∨ v = 1 then some (v, M) else none) :=
  xm_ite (fun h r hr ls H locs hl hP hSS => by
    cases hr
    exact W.zret (v := v) hX.1.1 hX.1.2.1 hX.2.1 (by rcases h with rfl | rfl <;> rfl) (fun t ht hW => ⟨rfl, by rw [ht]; exact hP, hSS.F ht⟩) hSS.2.2 hdg hX.2.2.1) (fun _ => xm_none)
theorem xm_lret (hX : xm_X p m meth c cc nL s args Ts own (some .long) D L g A) {v : Int64} (hdg : decode cc pc = .ok (.lreturn, 1)) : xm_J p l e R s m args below meth c nL D L g A (xm_Fl g) pc lv [.long v] M (some (v, M)) := fun r hr ls H locs hl hP hSS => by
  cases hr
  exact W.lret (v := v) hX.1.1 hX.1.2.1 hX.2.1 (fun t ht hW => ⟨rfl, by rw [ht]; exact hP, hSS.F ht⟩) hSS.2.2 hdg hX.2.2.1
theorem xm_vret (hX : xm_X p m meth c cc nL s args Ts own none D L g A) (hdg : decode cc pc = .ok (.return_, 1)) : xm_J p l e R s m args below meth c nL D L g A (xm_Fv g) pc lv [] M (some M) := fun r hr ls H locs hl hP hSS => by
  cases hr
  exact W.vret hX.1.1 hX.1.2.1 hX.2.1 (fun t ht hW => ⟨rfl, by rw [ht]; exact hP, hSS.F ht⟩) hSS.2.2 hdg hX.2.2.1
/-! calls -/
theorem xm_sub (hX : xm_X p m meth c cc nL s args Ts own ret D L g A) {H : Heap} {locs : List Loc} (hS : va_S A s.heap H locs) : ∀ q, xm_A L g H.size q → A q := fun q h => by
  rcases h with ⟨k, hk, rfl⟩ | h
  · exact hX.2.2.2.2.2.2.2.1 k hk
  · exact hX.2.2.2.2.2.2.2.2.1 q (Nat.le_trans hS.1 h)
theorem xm_preU (hX : xm_X p m meth c cc nL s args Ts own ret D L g A) {H : Heap} {locs : List Loc} (hP : va_P D vwCl (xm_w L g M) H) (hS : va_S A s.heap H locs) {As : List Value} : ∀ U : State, U.heap = H → s.WarmedH U.vm → va_Pc As (xm_Pre D L g M H.size) As.toArray U := fun U hU hW =>
  ⟨rfl, by rw [hU], by rw [hU]; exact hP, va_K.moved hW.alike hX.2.2.2.1, hX.2.2.2.2.1.warm hW, hX.2.2.2.2.2.1, hX.2.2.2.2.2.2.1, by rw [hU]; exact (((hX.2.2.2.2.2.2.2.2.2).moved hW.alike).kept (fun a h1 h2 => hS.2.1 a h1 h2)).narrow (xm_sub hX hS)⟩
theorem xm_call {σ : Type} {Fc : σ → Option Value × xm_M} {f : Option σ} {K : σ → Option ρ} {st0 : List Value} {a : Array Value} (hX : xm_X p m meth c cc nL s args Ts own ret D L g A)
    (hrun : ∀ r1, f = some r1 → ∀ (ls : Array Slot) (H : Heap) (locs : List Loc), lv_has ls nL lv → va_P D vwCl (xm_w L g M) H → va_S A s.heap H locs → va_Run p l e R s m args below meth c H locs 0 0 0 0 (F0 m pc ls st0) rest (xm_Q D L g (xm_A L g H.size) (Fc r1) a) (xm_A L g H.size))
    (kk : ∀ r1 : σ, f = some r1 → xm_J p l e R s m args below meth c nL D L g A Fn (pc + 3) lv ((Fc r1).1.toList ++ rest) (Fc r1).2 (K r1)) : xm_J p l e R s m args below meth c nL D L g A Fn pc lv st0 M (f.bind K) := by
  intro r hr ls H locs hl hP hS
  cases hf : f with
  | none => rw [hf] at hr; cases hr
  | some r1 =>
    rw [hf] at hr
    intro T hT X
    obtain ⟨v, st₀, t, T', L', h0, X', hL, e1, e2, ⟨hv, hP1, hz, hk⟩, stp⟩ := hrun r1 hf ls H locs hl hP hS T hT X
    rw [h0] at hz hk
    cases hv
    obtain ⟨t2, a1, b1⟩ := kk r1 hf r hr ls T'.heap (locs ++ L') hl (by rw [e1]; exact hP1)
      ⟨Nat.le_trans hS.1 (by rw [e1]; exact hz), fun q h1 h2 => by rw [e1, hk q (Nat.lt_of_lt_of_le h1 hS.1) (fun z => h2 (xm_sub hX hS q z))]; exact hS.2.1 q h1 h2, fun q hq => by
        rcases List.mem_append.mp hq with h | h
        · exact hS.2.2 q h
        · exact xm_sub hX hS _ (hL q h)⟩ T' rfl X'
    exact ⟨t2, stp t2 a1, b1⟩
theorem xm_runS {σ : Type} {Fc : xm_G → σ → Option Value × xm_M} {st0 : List Value} {f : Option σ} {y : MethodName} {ws2 ws3 : List Cond} {rm : Room} {bytes : ByteArray} {maxL n index : Nat} {rt : Option FieldType} {As : xm_G → List Value} (hX : xm_X p m meth c cc nL s args Ts own ret D L g A) (hC : xm_C l y ws2 rm L As M Fc f) (hG : GoodIn Ts (va_wsS own index y ws2)) (hw : ws2 = Cond.code y bytes maxL rt :: ws3) (hr0 : rm.cells = 0 ∧ rm.slots = 0)
    (hd : y.cls ≠ "java/lang/invoke/MethodHandle" ∧ y.cls ≠ "java/lang/invoke/VarHandle" ∧ (parseMethodDescriptor y.desc).map (fun d => d.parameters.length) = some n) (hR : rm.frames + 1 ≤ R.frames ∧ 8 + (maxL + 11) + rm.locals ≤ R.locals) (hn : (As g).length = n) (hq : (rest.map fun v => v.category).sum ≤ 8) (hst : st0 = (As g).reverse ++ rest) (hdg : decode cc pc = .ok (.invokestatic index, 3)) :
    ∀ r1, f = some r1 → ∀ (ls : Array Slot) (H : Heap) (locs : List Loc), lv_has ls nL lv → va_P D vwCl (xm_w L g M) H → va_S A s.heap H locs → va_Run p l e R s m args below meth c H locs 0 0 0 0 (F0 m pc ls st0) rest (xm_Q D L g (xm_A L g H.size) (Fc g r1) (As g).toArray) (xm_A L g H.size) := fun r1 h1 ls H locs hl hP hS =>
  va_runS hX.1 (hC D g H.size r1 h1) (va_cwS n hX.1.2.2.2.2 hG hw hr0.1 hr0.2 hd hR) ⟨xm_blind, xm_preU hX hP hS⟩ rfl hn hl.1 hst (lv_room hq) hdg ⟨Nat.zero_le _, Nat.zero_le _⟩
theorem xm_runSN {σ : Type} {Fc : xm_G → σ → Option Value × xm_M} {st0 : List Value} {f : Option σ} {y : MethodName} {host : String} {ws2 ws3 : List Cond} {rm : Room} {bytes : ByteArray} {maxL n index : Nat} {rt : Option FieldType} {As : xm_G → List Value} (hX : xm_X p m meth c cc nL s args Ts own ret D L g A) (hC : xm_C l y ws2 rm L As M Fc f) (hG : GoodIn Ts ws2) (hw : ws2 = Cond.code y bytes maxL rt :: ws3) (hr0 : rm.cells = 0 ∧ rm.slots = 0)
    (hN : (own, index, y, host) ∈ xm_nw) (hi : Cond.initialized y.cls ∈ Ts) (hs : Cond.static y ∈ Ts)
    (hd : y.cls ≠ "java/lang/invoke/MethodHandle" ∧ y.cls ≠ "java/lang/invoke/VarHandle" ∧ (parseMethodDescriptor y.desc).map (fun d => d.parameters.length) = some n) (hR : rm.frames + 1 ≤ R.frames ∧ 8 + (maxL + 11) + rm.locals ≤ R.locals) (hn : (As g).length = n) (hq : (rest.map fun v => v.category).sum ≤ 8) (hst : st0 = (As g).reverse ++ rest) (hdg : decode cc pc = .ok (.invokestatic index, 3)) :
    ∀ r1, f = some r1 → ∀ (ls : Array Slot) (H : Heap) (locs : List Loc), lv_has ls nL lv → va_P D vwCl (xm_w L g M) H → va_S A s.heap H locs → va_Run p l e R s m args below meth c H locs 0 0 0 0 (F0 m pc ls st0) rest (xm_Q D L g (xm_A L g H.size) (Fc g r1) (As g).toArray) (xm_A L g H.size) := fun r1 h1 ls H locs hl hP hS =>
  va_runSN hX.1 (hC D g H.size r1 h1) ⟨va_cnB n hX.1.2.2.2.2 hG hw hr0.1 hr0.2 (hX.2.2.2.2.1 _ hN) (hX.1.2.2.2.2 _ hi) hd hR, hX.1.2.2.2.2 _ hs, trivial⟩ ⟨xm_blind, xm_preU hX hP hS⟩ rfl hn hl.1 hst (lv_room hq) hdg ⟨Nat.zero_le _, Nat.zero_le _⟩
theorem xm_runV {σ : Type} {Fc : xm_G → σ → Option Value × xm_M} {st0 : List Value} {f : Option σ} {y : MethodName} {C : String} {ws2 ws3 : List Cond} {rm : Room} {bytes : ByteArray} {maxL n index k ci : Nat} {fs : List (Nat × Nat)} {T : u_T} {N : Nat} {rt : Option FieldType} {As : xm_G → List Value} (hX : xm_X p m meth c cc nL s args Ts own ret D L g A) (hC : xm_C l y ws2 rm L (fun g => .ref (g.1 k) :: As g) M Fc f) (hSk : L[k]? = some (.inr (.inr (ci, fs)))) (hc : vwCl[ci]? = some (C, T, N)) (hG : GoodIn Ts (wsV own index C y ws2)) (hw : ws2 = Cond.code y bytes maxL rt :: ws3) (hr0 : rm.cells = 0 ∧ rm.slots = 0)
    (hd : y.cls = C ∧ y.cls ≠ "java/lang/invoke/MethodHandle" ∧ y.cls ≠ "java/lang/invoke/VarHandle" ∧ (parseMethodDescriptor y.desc).map (fun d => d.parameters.length) = some n) (hR : rm.frames + 1 ≤ R.frames ∧ 8 + (maxL + 11) + rm.locals ≤ R.locals) (hn : (As g).length = n) (hq : (rest.map fun v => v.category).sum ≤ 8) (hst : st0 = (As g).reverse ++ .ref (g.1 k) :: rest) (hdg : decode cc pc = .ok (.invokevirtual index, 3)) :
    ∀ r1, f = some r1 → ∀ (ls : Array Slot) (H : Heap) (locs : List Loc), lv_has ls nL lv → va_P D vwCl (xm_w L g M) H → va_S A s.heap H locs → va_Run p l e R s m args below meth c H locs 0 0 0 0 (F0 m pc ls st0) rest (xm_Q D L g (xm_A L g H.size) (Fc g r1) (.ref (g.1 k) :: As g).toArray) (xm_A L g H.size) := fun r1 h1 ls H locs hl hP hS =>
  va_runV hX.1 (hC D g H.size r1 h1) (cwV n hX.1.2.2.2.2 hG hw hr0.1 hr0.2 hd hR) ⟨xm_blind, va_recv hX.2.2.2.1 hP (ci := ci) (q0 := k) hc (xm_w_at hSk), xm_preU hX hP hS⟩ rfl hn hl.1 hst (lv_room hq) hdg ⟨Nat.zero_le _, Nat.zero_le _⟩
theorem xm_aret {own2 : String} (hX : xm_X p m meth c cc nL s args Ts own (some (.object own2)) D L g A) {k : Nat} (hdg : decode cc pc = .ok (.areturn, 1)) : xm_J p l e R s m args below meth c nL D L g A (xm_Fr g) pc lv [.ref (g.1 k)] M (some (k, M)) := fun r hr ls H locs hl hP hSS => by
  cases hr
  exact W.aret (v := .ref (g.1 k)) hX.1.1 hX.1.2.1 hX.2.1 (Or.inl ⟨_, rfl⟩) (Or.inr ⟨_, rfl⟩) (fun t ht hW => ⟨rfl, by rw [ht]; exact hP, hSS.F ht⟩) hSS.2.2 hdg hX.2.2.1
theorem xm_calli {f : Option (Int32 × xm_M)} {K : Int32 → xm_M → Option ρ} {st0 : List Value} {a : Array Value} (hX : xm_X p m meth c cc nL s args Ts own ret D L g A)
    (hrun : ∀ r1, f = some r1 → ∀ (ls : Array Slot) (H : Heap) (locs : List Loc), lv_has ls nL lv → va_P D vwCl (xm_w L g M) H → va_S A s.heap H locs → va_Run p l e R s m args below meth c H locs 0 0 0 0 (F0 m pc ls st0) rest (xm_Q D L g (xm_A L g H.size) (xm_Fi g r1) a) (xm_A L g H.size))
    (kk : ∀ (x : Int32) (M1 : xm_M), xm_J p l e R s m args below meth c nL D L g A Fn (pc + 3) lv (.int x :: rest) M1 (K x M1)) : xm_J p l e R s m args below meth c nL D L g A Fn pc lv st0 M (xm_bi f K) := xm_call hX hrun (fun r1 _ => kk r1.1 r1.2)
theorem xm_calll {f : Option (Int64 × xm_M)} {K : Int64 → xm_M → Option ρ} {st0 : List Value} {a : Array Value} (hX : xm_X p m meth c cc nL s args Ts own ret D L g A)
    (hrun : ∀ r1, f = some r1 → ∀ (ls : Array Slot) (H : Heap) (locs : List Loc), lv_has ls nL lv → va_P D vwCl (xm_w L g M) H → va_S A s.heap H locs → va_Run p l e R s m args below meth c H locs 0 0 0 0 (F0 m pc ls st0) rest (xm_Q D L g (xm_A L g H.size) (xm_Fl g r1) a) (xm_A L g H.size))
    (kk : ∀ (x : Int64) (M1 : xm_M), xm_J p l e R s m args below meth c nL D L g A Fn (pc + 3) lv (.long x :: rest) M1 (K x M1)) : xm_J p l e R s m args below meth c nL D L g A Fn pc lv st0 M (xm_bl f K) := xm_call hX hrun (fun r1 _ => kk r1.1 r1.2)
theorem xm_callv {f : Option xm_M} {K : xm_M → Option ρ} {st0 : List Value} {a : Array Value} (hX : xm_X p m meth c cc nL s args Ts own ret D L g A)
    (hrun : ∀ r1, f = some r1 → ∀ (ls : Array Slot) (H : Heap) (locs : List Loc), lv_has ls nL lv → va_P D vwCl (xm_w L g M) H → va_S A s.heap H locs → va_Run p l e R s m args below meth c H locs 0 0 0 0 (F0 m pc ls st0) rest (xm_Q D L g (xm_A L g H.size) (xm_Fv g r1) a) (xm_A L g H.size))
    (kk : ∀ (M1 : xm_M), xm_J p l e R s m args below meth c nL D L g A Fn (pc + 3) lv rest M1 (K M1)) : xm_J p l e R s m args below meth c nL D L g A Fn pc lv st0 M (xm_bv f K) := xm_call hX hrun (fun r1 _ => kk r1)
theorem xm_callr {f : Option (Nat × xm_M)} {K : Nat → xm_M → Option ρ} {st0 : List Value} {a : Array Value} (hX : xm_X p m meth c cc nL s args Ts own ret D L g A)
    (hrun : ∀ r1, f = some r1 → ∀ (ls : Array Slot) (H : Heap) (locs : List Loc), lv_has ls nL lv → va_P D vwCl (xm_w L g M) H → va_S A s.heap H locs → va_Run p l e R s m args below meth c H locs 0 0 0 0 (F0 m pc ls st0) rest (xm_Q D L g (xm_A L g H.size) (xm_Fr g r1) a) (xm_A L g H.size))
    (kk : ∀ (x : Nat) (M1 : xm_M), xm_J p l e R s m args below meth c nL D L g A Fn (pc + 3) lv (.ref (g.1 x) :: rest) M1 (K x M1)) : xm_J p l e R s m args below meth c nL D L g A Fn pc lv st0 M (xm_br f K) := xm_call hX hrun (fun r1 _ => kk r1.1 r1.2)
theorem xm_weak {st : List Value} (is : List Nat) (h : lv_pick lv is = lv') (k : xm_J p l e R s m args below meth c nL D L g A Fn pc lv' st M X) : xm_J p l e R s m args below meth c nL D L g A Fn pc lv st M X := fun r hr ls H locs hl hP hS => k r hr ls H locs (lv_sub hl is h) hP hS
theorem xm_lv {st : List Value} (h : lv = lv') (k : xm_J p l e R s m args below meth c nL D L g A Fn pc lv' st M X) : xm_J p l e R s m args below meth c nL D L g A Fn pc lv st M X := h ▸ k
end XM
/-! words of a call, out of the one list -/
theorem xm_gS {c0 : Cond} {own : String} {index : Nat} {y : MethodName} {bytes : ByteArray} {maxL : Nat} {rt : Option FieldType} (h1 : Cond.methodLink own index y ∈ lw_gd) (h2 : Cond.static y ∈ lw_gd) (h3 : Cond.initialized y.cls ∈ lw_gd) (h4 : Cond.code y bytes maxL rt ∈ lw_gd) : GoodIn (c0 :: lw_gd) (va_wsS own index y (Cond.code y bytes maxL rt :: lw_gd)) := by
  intro w hw
  have hm : w ∈ lw_gd := by
    rcases List.mem_append.mp hw with h | h
    · rcases List.mem_cons.mp h with rfl | h
      · exact h1
      · rcases List.mem_cons.mp h with rfl | h
        · exact h2
        · rw [List.mem_singleton.mp h]; exact h3
    · rcases List.mem_cons.mp h with rfl | h
      · exact h4
      · exact h
  exact ⟨List.mem_cons_of_mem _ hm, lw_gd_good w hm⟩
theorem xm_gN {c0 : Cond} {y : MethodName} {bytes : ByteArray} {maxL : Nat} {rt : Option FieldType} (h4 : Cond.code y bytes maxL rt ∈ lw_gd) : GoodIn (c0 :: lw_gd) (Cond.code y bytes maxL rt :: lw_gd) := by
  intro w hw
  have hm : w ∈ lw_gd := by
    rcases List.mem_cons.mp hw with rfl | h
    · exact h4
    · exact h
  exact ⟨List.mem_cons_of_mem _ hm, lw_gd_good w hm⟩
theorem xm_gV {c0 : Cond} {own C : String} {index : Nat} {y : MethodName} {bytes : ByteArray} {maxL : Nat} {rt : Option FieldType} (h1 : Cond.methodLink own index y ∈ lw_gd) (h2 : Cond.instanceMethod y ∈ lw_gd) (h3 : Cond.selects C y y ∈ lw_gd) (h0 : Cond.initialized C ∈ lw_gd) (h4 : Cond.code y bytes maxL rt ∈ lw_gd) : GoodIn (c0 :: lw_gd) (wsV own index C y (Cond.code y bytes maxL rt :: lw_gd)) := by
  intro w hw
  have hm : w ∈ lw_gd := by
    rcases List.mem_append.mp hw with h | h
    · rcases List.mem_cons.mp h with rfl | h
      · exact h1
      · rcases List.mem_cons.mp h with rfl | h
        · exact h2
        · rcases List.mem_cons.mp h with rfl | h
          · exact h3
          · rw [List.mem_singleton.mp h]; exact h0
    · rcases List.mem_cons.mp h with rfl | h
      · exact h4
      · exact h
  exact ⟨List.mem_cons_of_mem _ hm, lw_gd_good w hm⟩
end
section
/-- what the cells of this world are -/
def cL : List xm_Sh := [.inr (.inr (3, [(2, 1), (2, 17), (2, 33), (2, 49), (2, 69), (2, 72)])), .inr (.inr (1, [(2, 2), (2, 3), (2, 9), (2, 12), (0, 0), (0, 0), (0, 0), (0, 0), (0, 0), (0, 0), (0, 0)])), .inl (0, .int, 9), .inr (.inl (5, 4)), .inl (0, .int, 8), .inl (0, .int, 8), .inl (0, .int, 8), .inl (0, .int, 8), .inl (0, .int, 8), .inr (.inl (2, 10)), .inl (0, .int, 6), .inl (0, .int, 6), .inr (.inl (4, 13)), .inl (0, .int, 120), .inl (0, .int, 120), .inl (0, .int, 120), .inl (0, .int, 120), .inr (.inr (1, [(2, 18), (2, 19), (2, 25), (2, 28), (0, 0), (0, 0), (0, 0), (0, 0), (0, 0), (0, 0), (0, 0)])), .inl (0, .int, 9), .inr (.inl (5, 20)), .inl (0, .int, 8), .inl (0, .int, 8), .inl (0, .int, 8), .inl (0, .int, 8), .inl (0, .int, 8), .inr (.inl (2, 26)), .inl (0, .int, 6), .inl (0, .int, 6), .inr (.inl (4, 29)), .inl (0, .int, 120), .inl (0, .int, 120), .inl (0, .int, 120), .inl (0, .int, 120), .inr (.inr (1, [(2, 34), (2, 35), (2, 41), (2, 44), (0, 0), (0, 0), (0, 0), (0, 0), (0, 0), (0, 0), (0, 0)])), .inl (0, .int, 9), .inr (.inl (5, 36)), .inl (0, .int, 8), .inl (0, .int, 8), .inl (0, .int, 8), .inl (0, .int, 8), .inl (0, .int, 8), .inr (.inl (2, 42)), .inl (0, .int, 6), .inl (0, .int, 6), .inr (.inl (4, 45)), .inl (0, .int, 120), .inl (0, .int, 120), .inl (0, .int, 120), .inl (0, .int, 120), .inr (.inr (2, [(2, 50), (2, 56), (2, 68), (0, 0), (0, 0), (0, 0), (0, 0), (0, 0), (0, 0), (1, 0), (0, 0), (0, 0)])), .inr (.inl (5, 51)), .inl (0, .int, 121), .inl (0, .int, 121), .inl (0, .int, 121), .inl (0, .int, 121), .inl (0, .int, 121), .inr (.inl (11, 57)), .inl (0, .int, 120), .inl (0, .int, 120), .inl (0, .int, 120), .inl (0, .int, 120), .inl (0, .int, 120), .inl (0, .int, 120), .inl (0, .int, 120), .inl (0, .int, 120), .inl (0, .int, 120), .inl (0, .int, 120), .inl (0, .int, 120), .inl (0, .int, 5), .inr (.inr (0, [(2, 70), (0, 0), (0, 0), (0, 0), (2, 71)])), .inl (0, .int, 100), .inl (0, .int, 3), .inl (0, .int, 9)]
theorem cL_0 : cL[0]? = some (.inr (.inr (3, [(2, 1), (2, 17), (2, 33), (2, 49), (2, 69), (2, 72)]))) := rfl
theorem cL_1 : cL[1]? = some (.inr (.inr (1, [(2, 2), (2, 3), (2, 9), (2, 12), (0, 0), (0, 0), (0, 0), (0, 0), (0, 0), (0, 0), (0, 0)]))) := rfl
theorem cL_2 : cL[2]? = some (.inl (0, .int, 9)) := rfl
theorem cL_3 : cL[3]? = some (.inr (.inl (5, 4))) := rfl
theorem cL_rows_3 : ∀ i, i < 5 → cL[4 + i]? = some (.inl (0, .int, 8)) := fun i hi => match i, hi with
  | 0, _ => rfl
  | 1, _ => rfl
  | 2, _ => rfl
  | 3, _ => rfl
  | 4, _ => rfl
  | i + 5, h => absurd h (by omega)
theorem cL_4 : cL[4]? = some (.inl (0, .int, 8)) := rfl
theorem cL_5 : cL[5]? = some (.inl (0, .int, 8)) := rfl
theorem cL_6 : cL[6]? = some (.inl (0, .int, 8)) := rfl
theorem cL_7 : cL[7]? = some (.inl (0, .int, 8)) := rfl
theorem cL_8 : cL[8]? = some (.inl (0, .int, 8)) := rfl
theorem cL_9 : cL[9]? = some (.inr (.inl (2, 10))) := rfl
theorem cL_rows_9 : ∀ i, i < 2 → cL[10 + i]? = some (.inl (0, .int, 6)) := fun i hi => match i, hi with
  | 0, _ => rfl
  | 1, _ => rfl
  | i + 2, h => absurd h (by omega)
theorem cL_10 : cL[10]? = some (.inl (0, .int, 6)) := rfl
theorem cL_11 : cL[11]? = some (.inl (0, .int, 6)) := rfl
theorem cL_12 : cL[12]? = some (.inr (.inl (4, 13))) := rfl
theorem cL_rows_12 : ∀ i, i < 4 → cL[13 + i]? = some (.inl (0, .int, 120)) := fun i hi => match i, hi with
  | 0, _ => rfl
  | 1, _ => rfl
  | 2, _ => rfl
  | 3, _ => rfl
  | i + 4, h => absurd h (by omega)
theorem cL_13 : cL[13]? = some (.inl (0, .int, 120)) := rfl
theorem cL_14 : cL[14]? = some (.inl (0, .int, 120)) := rfl
theorem cL_15 : cL[15]? = some (.inl (0, .int, 120)) := rfl
theorem cL_16 : cL[16]? = some (.inl (0, .int, 120)) := rfl
theorem cL_17 : cL[17]? = some (.inr (.inr (1, [(2, 18), (2, 19), (2, 25), (2, 28), (0, 0), (0, 0), (0, 0), (0, 0), (0, 0), (0, 0), (0, 0)]))) := rfl
theorem cL_18 : cL[18]? = some (.inl (0, .int, 9)) := rfl
theorem cL_19 : cL[19]? = some (.inr (.inl (5, 20))) := rfl
theorem cL_rows_19 : ∀ i, i < 5 → cL[20 + i]? = some (.inl (0, .int, 8)) := fun i hi => match i, hi with
  | 0, _ => rfl
  | 1, _ => rfl
  | 2, _ => rfl
  | 3, _ => rfl
  | 4, _ => rfl
  | i + 5, h => absurd h (by omega)
theorem cL_20 : cL[20]? = some (.inl (0, .int, 8)) := rfl
theorem cL_21 : cL[21]? = some (.inl (0, .int, 8)) := rfl
theorem cL_22 : cL[22]? = some (.inl (0, .int, 8)) := rfl
theorem cL_23 : cL[23]? = some (.inl (0, .int, 8)) := rfl
theorem cL_24 : cL[24]? = some (.inl (0, .int, 8)) := rfl
theorem cL_25 : cL[25]? = some (.inr (.inl (2, 26))) := rfl
theorem cL_rows_25 : ∀ i, i < 2 → cL[26 + i]? = some (.inl (0, .int, 6)) := fun i hi => match i, hi with
  | 0, _ => rfl
  | 1, _ => rfl
  | i + 2, h => absurd h (by omega)
theorem cL_26 : cL[26]? = some (.inl (0, .int, 6)) := rfl
theorem cL_27 : cL[27]? = some (.inl (0, .int, 6)) := rfl
theorem cL_28 : cL[28]? = some (.inr (.inl (4, 29))) := rfl
theorem cL_rows_28 : ∀ i, i < 4 → cL[29 + i]? = some (.inl (0, .int, 120)) := fun i hi => match i, hi with
  | 0, _ => rfl
  | 1, _ => rfl
  | 2, _ => rfl
  | 3, _ => rfl
  | i + 4, h => absurd h (by omega)
theorem cL_29 : cL[29]? = some (.inl (0, .int, 120)) := rfl
theorem cL_30 : cL[30]? = some (.inl (0, .int, 120)) := rfl
theorem cL_31 : cL[31]? = some (.inl (0, .int, 120)) := rfl
theorem cL_32 : cL[32]? = some (.inl (0, .int, 120)) := rfl
theorem cL_33 : cL[33]? = some (.inr (.inr (1, [(2, 34), (2, 35), (2, 41), (2, 44), (0, 0), (0, 0), (0, 0), (0, 0), (0, 0), (0, 0), (0, 0)]))) := rfl
theorem cL_34 : cL[34]? = some (.inl (0, .int, 9)) := rfl
theorem cL_35 : cL[35]? = some (.inr (.inl (5, 36))) := rfl
theorem cL_rows_35 : ∀ i, i < 5 → cL[36 + i]? = some (.inl (0, .int, 8)) := fun i hi => match i, hi with
  | 0, _ => rfl
  | 1, _ => rfl
  | 2, _ => rfl
  | 3, _ => rfl
  | 4, _ => rfl
  | i + 5, h => absurd h (by omega)
theorem cL_36 : cL[36]? = some (.inl (0, .int, 8)) := rfl
theorem cL_37 : cL[37]? = some (.inl (0, .int, 8)) := rfl
theorem cL_38 : cL[38]? = some (.inl (0, .int, 8)) := rfl
theorem cL_39 : cL[39]? = some (.inl (0, .int, 8)) := rfl
theorem cL_40 : cL[40]? = some (.inl (0, .int, 8)) := rfl
theorem cL_41 : cL[41]? = some (.inr (.inl (2, 42))) := rfl
theorem cL_rows_41 : ∀ i, i < 2 → cL[42 + i]? = some (.inl (0, .int, 6)) := fun i hi => match i, hi with
  | 0, _ => rfl
  | 1, _ => rfl
  | i + 2, h => absurd h (by omega)
theorem cL_42 : cL[42]? = some (.inl (0, .int, 6)) := rfl
theorem cL_43 : cL[43]? = some (.inl (0, .int, 6)) := rfl
theorem cL_44 : cL[44]? = some (.inr (.inl (4, 45))) := rfl
theorem cL_rows_44 : ∀ i, i < 4 → cL[45 + i]? = some (.inl (0, .int, 120)) := fun i hi => match i, hi with
  | 0, _ => rfl
  | 1, _ => rfl
  | 2, _ => rfl
  | 3, _ => rfl
  | i + 4, h => absurd h (by omega)
theorem cL_45 : cL[45]? = some (.inl (0, .int, 120)) := rfl
theorem cL_46 : cL[46]? = some (.inl (0, .int, 120)) := rfl
theorem cL_47 : cL[47]? = some (.inl (0, .int, 120)) := rfl
theorem cL_48 : cL[48]? = some (.inl (0, .int, 120)) := rfl
theorem cL_49 : cL[49]? = some (.inr (.inr (2, [(2, 50), (2, 56), (2, 68), (0, 0), (0, 0), (0, 0), (0, 0), (0, 0), (0, 0), (1, 0), (0, 0), (0, 0)]))) := rfl
theorem cL_50 : cL[50]? = some (.inr (.inl (5, 51))) := rfl
theorem cL_rows_50 : ∀ i, i < 5 → cL[51 + i]? = some (.inl (0, .int, 121)) := fun i hi => match i, hi with
  | 0, _ => rfl
  | 1, _ => rfl
  | 2, _ => rfl
  | 3, _ => rfl
  | 4, _ => rfl
  | i + 5, h => absurd h (by omega)
theorem cL_51 : cL[51]? = some (.inl (0, .int, 121)) := rfl
theorem cL_52 : cL[52]? = some (.inl (0, .int, 121)) := rfl
theorem cL_53 : cL[53]? = some (.inl (0, .int, 121)) := rfl
theorem cL_54 : cL[54]? = some (.inl (0, .int, 121)) := rfl
theorem cL_55 : cL[55]? = some (.inl (0, .int, 121)) := rfl
theorem cL_56 : cL[56]? = some (.inr (.inl (11, 57))) := rfl
theorem cL_rows_56 : ∀ i, i < 11 → cL[57 + i]? = some (.inl (0, .int, 120)) := fun i hi => match i, hi with
  | 0, _ => rfl
  | 1, _ => rfl
  | 2, _ => rfl
  | 3, _ => rfl
  | 4, _ => rfl
  | 5, _ => rfl
  | 6, _ => rfl
  | 7, _ => rfl
  | 8, _ => rfl
  | 9, _ => rfl
  | 10, _ => rfl
  | i + 11, h => absurd h (by omega)
theorem cL_57 : cL[57]? = some (.inl (0, .int, 120)) := rfl
theorem cL_58 : cL[58]? = some (.inl (0, .int, 120)) := rfl
theorem cL_59 : cL[59]? = some (.inl (0, .int, 120)) := rfl
theorem cL_60 : cL[60]? = some (.inl (0, .int, 120)) := rfl
theorem cL_61 : cL[61]? = some (.inl (0, .int, 120)) := rfl
theorem cL_62 : cL[62]? = some (.inl (0, .int, 120)) := rfl
theorem cL_63 : cL[63]? = some (.inl (0, .int, 120)) := rfl
theorem cL_64 : cL[64]? = some (.inl (0, .int, 120)) := rfl
theorem cL_65 : cL[65]? = some (.inl (0, .int, 120)) := rfl
theorem cL_66 : cL[66]? = some (.inl (0, .int, 120)) := rfl
theorem cL_67 : cL[67]? = some (.inl (0, .int, 120)) := rfl
theorem cL_68 : cL[68]? = some (.inl (0, .int, 5)) := rfl
theorem cL_69 : cL[69]? = some (.inr (.inr (0, [(2, 70), (0, 0), (0, 0), (0, 0), (2, 71)]))) := rfl
theorem cL_70 : cL[70]? = some (.inl (0, .int, 100)) := rfl
theorem cL_71 : cL[71]? = some (.inl (0, .int, 3)) := rfl
theorem cL_72 : cL[72]? = some (.inl (0, .int, 9)) := rfl
/-- what the cells of this world are -/
def mL : List xm_Sh := [.inr (.inr (4, [(2, 1), (2, 2), (2, 3), (2, 4), (0, 0), (2, 5), (2, 6), (2, 7), (2, 8), (2, 9), (2, 10), (2, 11), (2, 12), (2, 13), (2, 14), (2, 15), (2, 16), (2, 17), (0, 0), (0, 0), (0, 0), (0, 0), (0, 0), (0, 0), (0, 0), (2, 18), (0, 0)])), .inl (0, .int, 547), .inl (0, .int, 1094), .inl (2, .boolean, 2), .inl (0, .int, 100), .inl (0, .int, 120), .inl (0, .int, 120), .inl (0, .int, 120), .inl (0, .int, 120), .inl (0, .int, 120), .inl (0, .int, 120), .inl (0, .int, 120), .inl (0, .int, 120), .inl (0, .int, 120), .inl (0, .int, 120), .inl (0, .int, 120), .inl (0, .int, 120), .inl (0, .int, 120), .inl (0, .int, 250)]
theorem mL_0 : mL[0]? = some (.inr (.inr (4, [(2, 1), (2, 2), (2, 3), (2, 4), (0, 0), (2, 5), (2, 6), (2, 7), (2, 8), (2, 9), (2, 10), (2, 11), (2, 12), (2, 13), (2, 14), (2, 15), (2, 16), (2, 17), (0, 0), (0, 0), (0, 0), (0, 0), (0, 0), (0, 0), (0, 0), (2, 18), (0, 0)]))) := rfl
theorem mL_1 : mL[1]? = some (.inl (0, .int, 547)) := rfl
theorem mL_2 : mL[2]? = some (.inl (0, .int, 1094)) := rfl
theorem mL_3 : mL[3]? = some (.inl (2, .boolean, 2)) := rfl
theorem mL_4 : mL[4]? = some (.inl (0, .int, 100)) := rfl
theorem mL_5 : mL[5]? = some (.inl (0, .int, 120)) := rfl
theorem mL_6 : mL[6]? = some (.inl (0, .int, 120)) := rfl
theorem mL_7 : mL[7]? = some (.inl (0, .int, 120)) := rfl
theorem mL_8 : mL[8]? = some (.inl (0, .int, 120)) := rfl
theorem mL_9 : mL[9]? = some (.inl (0, .int, 120)) := rfl
theorem mL_10 : mL[10]? = some (.inl (0, .int, 120)) := rfl
theorem mL_11 : mL[11]? = some (.inl (0, .int, 120)) := rfl
theorem mL_12 : mL[12]? = some (.inl (0, .int, 120)) := rfl
theorem mL_13 : mL[13]? = some (.inl (0, .int, 120)) := rfl
theorem mL_14 : mL[14]? = some (.inl (0, .int, 120)) := rfl
theorem mL_15 : mL[15]? = some (.inl (0, .int, 120)) := rfl
theorem mL_16 : mL[16]? = some (.inl (0, .int, 120)) := rfl
theorem mL_17 : mL[17]? = some (.inl (0, .int, 120)) := rfl
theorem mL_18 : mL[18]? = some (.inl (0, .int, 250)) := rfl
end
section
-- ===== OdometryDesk.isWithin(III)Z
theorem dX3_isWithin_0 : decode cX3_isWithin 0 = .ok (.iload_n 0, 1) := by decide +kernel
theorem dX3_isWithin_1 : decode cX3_isWithin 1 = .ok (.iload_n 1, 1) := by decide +kernel
theorem dX3_isWithin_2 : decode cX3_isWithin 2 = .ok (.if_icmp .lt 12, 3) := by decide +kernel
theorem dX3_isWithin_5 : decode cX3_isWithin 5 = .ok (.iload_n 0, 1) := by decide +kernel
theorem dX3_isWithin_6 : decode cX3_isWithin 6 = .ok (.iload_n 2, 1) := by decide +kernel
theorem dX3_isWithin_7 : decode cX3_isWithin 7 = .ok (.if_icmp .gt 7, 3) := by decide +kernel
theorem dX3_isWithin_10 : decode cX3_isWithin 10 = .ok (.iconst 1, 1) := by decide +kernel
theorem dX3_isWithin_11 : decode cX3_isWithin 11 = .ok (.goto 4, 3) := by decide +kernel
theorem dX3_isWithin_14 : decode cX3_isWithin 14 = .ok (.iconst 0, 1) := by decide +kernel
theorem dX3_isWithin_15 : decode cX3_isWithin 15 = .ok (.ireturn, 1) := by decide +kernel
abbrev wX3_isWithin : List Cond := .code yX3_isWithin cX3_isWithin 3 (some .boolean) :: lw_gd
theorem hdX3_isWithin : (yX3_isWithin.cls ≠ "java/lang/invoke/MethodHandle" ∧ yX3_isWithin.cls ≠ "java/lang/invoke/VarHandle" ∧ (parseMethodDescriptor yX3_isWithin.desc).map (fun d => d.parameters.length) = some 3) := by decide +kernel
def fX3_isWithin  (a0 : Int32) (a1 : Int32) (a2 : Int32) (M : xm_M) : Option (Int32 × xm_M) :=
  if a0 < a1 then if ((0 : Int32)) = 0 ∨ ((0 : Int32)) = 1 then some ((0 : Int32), M) else none else if a2 < a0 then if ((0 : Int32)) = 0 ∨ ((0 : Int32)) = 1 then some ((0 : Int32), M) else none else if ((1 : Int32)) = 0 ∨ ((1 : Int32)) = 1 then some ((1 : Int32), M) else none
set_option maxRecDepth 20000 in
theorem kX3_isWithin {l : Launch}   (a0 : Int32) (a1 : Int32) (a2 : Int32) (M : xm_M) : xm_C l yX3_isWithin wX3_isWithin ({ frames := 0, cells := 0, slots := 0, locals := 0 }) cL (fun g => [.int a0, .int a1, .int a2]) M xm_Fi (fX3_isWithin  a0 a1 a2 M) := by
  refine xm_C.of (by decide) rfl (fun g => Nat.le_of_ble_eq_true rfl) ?_
  intro p e s m args below meth c D g A hX
  refine xm_lv (lv' := [(0, .int a0), (1, .int a1), (2, .int a2)]) rfl ?_
  unfold fX3_isWithin
  refine xm_iload_n hX 0 dX3_isWithin_0 rfl rfl ?_
  refine xm_iload_n hX 1 dX3_isWithin_1 rfl rfl ?_
  refine xm_icmp_lt hX (tgt := 14) dX3_isWithin_2 rfl ?_ ?_
  · refine xm_iconst hX (v := 0) rfl dX3_isWithin_14 ?_
    exact xm_zret hX dX3_isWithin_15
  · refine xm_iload_n hX 0 dX3_isWithin_5 rfl rfl ?_
    refine xm_iload_n hX 2 dX3_isWithin_6 rfl rfl ?_
    refine xm_icmp_gt hX (tgt := 14) dX3_isWithin_7 rfl ?_ ?_
    · refine xm_iconst hX (v := 0) rfl dX3_isWithin_14 ?_
      exact xm_zret hX dX3_isWithin_15
    · refine xm_iconst hX (v := 1) rfl dX3_isWithin_10 ?_
      refine xm_goto hX (tgt := 15) dX3_isWithin_11 rfl ?_
      exact xm_zret hX dX3_isWithin_15
-- ===== java/util/Arrays.fill([II)V ['68']
theorem dJ7_fill_53178_0 : decode cJ7_fill_53178 0 = .ok (.iconst 0, 1) := by decide +kernel
theorem dJ7_fill_53178_1 : decode cJ7_fill_53178 1 = .ok (.istore_n 2, 1) := by decide +kernel
theorem dJ7_fill_53178_2 : decode cJ7_fill_53178 2 = .ok (.aload_n 0, 1) := by decide +kernel
theorem dJ7_fill_53178_3 : decode cJ7_fill_53178 3 = .ok (.arraylength, 1) := by decide +kernel
theorem dJ7_fill_53178_4 : decode cJ7_fill_53178 4 = .ok (.istore_n 3, 1) := by decide +kernel
theorem dJ7_fill_53178_5 : decode cJ7_fill_53178 5 = .ok (.iload_n 2, 1) := by decide +kernel
theorem dJ7_fill_53178_6 : decode cJ7_fill_53178 6 = .ok (.iload_n 3, 1) := by decide +kernel
theorem dJ7_fill_53178_7 : decode cJ7_fill_53178 7 = .ok (.if_icmp .ge 13, 3) := by decide +kernel
theorem dJ7_fill_53178_10 : decode cJ7_fill_53178 10 = .ok (.aload_n 0, 1) := by decide +kernel
theorem dJ7_fill_53178_11 : decode cJ7_fill_53178 11 = .ok (.iload_n 2, 1) := by decide +kernel
theorem dJ7_fill_53178_12 : decode cJ7_fill_53178 12 = .ok (.iload_n 1, 1) := by decide +kernel
theorem dJ7_fill_53178_13 : decode cJ7_fill_53178 13 = .ok (.iastore, 1) := by decide +kernel
theorem dJ7_fill_53178_14 : decode cJ7_fill_53178 14 = .ok (.iinc 2 1, 3) := by decide +kernel
theorem dJ7_fill_53178_17 : decode cJ7_fill_53178 17 = .ok (.goto (-12), 3) := by decide +kernel
theorem dJ7_fill_53178_20 : decode cJ7_fill_53178 20 = .ok (.return_, 1) := by decide +kernel
abbrev wJ7_fill_53178 : List Cond := .code yJ7_fill_53178 cJ7_fill_53178 4 none :: lw_gd
theorem hdJ7_fill_53178 : (yJ7_fill_53178.cls ≠ "java/lang/invoke/MethodHandle" ∧ yJ7_fill_53178.cls ≠ "java/lang/invoke/VarHandle" ∧ (parseMethodDescriptor yJ7_fill_53178.desc).map (fun d => d.parameters.length) = some 2) := by decide +kernel
def fJ7_fill_53178_5 (k : Nat) (n : Nat) (k5 : Int32 → Int32 → Int32 → xm_M → Option xm_M) (b1 : Int32) (b2 : Int32) (b3 : Int32) (M : xm_M) : Option xm_M :=
  if b3 ≤ b2 then some M else if b2 < 0 ∨ n ≤ b2.toNatClampNeg then none else xm_lt (xm_s M k b2.toNatClampNeg b1) (fun M3 => xm_lt (b2 + Int32.ofInt 1) (fun x4 => k5 b1 x4 b3 M3))
set_option maxRecDepth 20000 in
theorem tfJ7_fill_53178_5 {p : Program} {l : Launch} {e : Env} {s : State} {m : MethodId} {args : Array Value} {below : List Frame} {meth : Method} {c : Code} {D : va_G} {g : xm_G} {A : Nat → Prop} (hX : xm_X p m meth c cJ7_fill_53178 4 s args wJ7_fill_53178 RJ7 none D cL g A) (k : Nat) (n : Nat) (hk : cL[k]? = some (.inl (0, .int, n))) (k5 : Int32 → Int32 → Int32 → xm_M → Option xm_M) (h5 : ∀ (b1 : Int32), ∀ (b2 : Int32), ∀ (b3 : Int32), ∀ (M : xm_M), xm_J p l e ({ frames := 0, cells := 0, slots := 0, locals := 0 }) s m args below meth c 4 D cL g A (xm_Fv g) 5 [(0, .ref (g.1 k)), (1, .int b1), (2, .int b2), (3, .int b3)] [] M (k5 b1 b2 b3 M)) : ∀ (b1 : Int32), ∀ (b2 : Int32), ∀ (b3 : Int32), ∀ (M : xm_M), xm_J p l e ({ frames := 0, cells := 0, slots := 0, locals := 0 }) s m args below meth c 4 D cL g A (xm_Fv g) 5 [(0, .ref (g.1 k)), (1, .int b1), (2, .int b2), (3, .int b3)] [] M (fJ7_fill_53178_5 k n k5 b1 b2 b3 M) := by
  intro b1 b2 b3 M
  unfold fJ7_fill_53178_5
  refine xm_iload_n hX 2 dJ7_fill_53178_5 rfl rfl ?_
  refine xm_iload_n hX 3 dJ7_fill_53178_6 rfl rfl ?_
  refine xm_icmp_ge hX (tgt := 20) dJ7_fill_53178_7 rfl ?_ ?_
  · exact xm_vret hX dJ7_fill_53178_20
  · refine xm_aload_n hX 0 dJ7_fill_53178_10 rfl rfl ?_
    refine xm_iload_n hX 2 dJ7_fill_53178_11 rfl rfl ?_
    refine xm_iload_n hX 1 dJ7_fill_53178_12 rfl rfl ?_
    refine xm_iast hX (n := n) hk dJ7_fill_53178_13 (fun M3 => ?_)
    refine xm_iinc hX (lv2 := fun x4 => [(2, .int x4), (0, .ref (g.1 k)), (1, .int b1), (3, .int b3)]) 2 dJ7_fill_53178_14 rfl (by decide) (fun _ => rfl) (fun x4 => ?_)
    refine xm_goto hX (tgt := 5) dJ7_fill_53178_17 rfl ?_
    refine xm_weak [1, 2, 0, 3] (lv' := [(0, .ref (g.1 k)), (1, .int b1), (2, .int x4), (3, .int b3)]) rfl ?_
    exact h5 b1 x4 b3 M3
def fJ7_fill_53178_5_it (k : Nat) (n : Nat)  (nq : Nat) : Int32 → Int32 → Int32 → xm_M → Option xm_M := xm_it (fun kq => fJ7_fill_53178_5 k n kq) (fun _ _ _ _ => none) nq
theorem tfJ7_fill_53178_5_it {p : Program} {l : Launch} {e : Env} {s : State} {m : MethodId} {args : Array Value} {below : List Frame} {meth : Method} {c : Code} {D : va_G} {g : xm_G} {A : Nat → Prop} (hX : xm_X p m meth c cJ7_fill_53178 4 s args wJ7_fill_53178 RJ7 none D cL g A) (k : Nat) (n : Nat) (hk : cL[k]? = some (.inl (0, .int, n)))   : ∀ (nq : Nat), ∀ (b1 : Int32), ∀ (b2 : Int32), ∀ (b3 : Int32), ∀ (M : xm_M), xm_J p l e ({ frames := 0, cells := 0, slots := 0, locals := 0 }) s m args below meth c 4 D cL g A (xm_Fv g) 5 [(0, .ref (g.1 k)), (1, .int b1), (2, .int b2), (3, .int b3)] [] M (fJ7_fill_53178_5_it k n nq b1 b2 b3 M) := by
  intro nq
  induction nq with
  | zero => exact fun _ _ _ _ => xm_none
  | succ nq ih => exact tfJ7_fill_53178_5 hX k n hk _ ih
def fJ7_fill_53178 (k : Nat) (n : Nat) (a1 : Int32) (M : xm_M) : Option xm_M :=
  xm_lt ((0 : Int32)) (fun x1 => xm_lt ((Int32.ofNat n)) (fun x2 => fJ7_fill_53178_5_it k n xm_N a1 x1 x2 M))
set_option maxRecDepth 20000 in
theorem kJ7_fill_53178 {l : Launch} (k : Nat) (n : Nat) (hk : cL[k]? = some (.inl (0, .int, n))) (a1 : Int32) (M : xm_M) : xm_C l yJ7_fill_53178 wJ7_fill_53178 ({ frames := 0, cells := 0, slots := 0, locals := 0 }) cL (fun g => [.ref (g.1 k), .int a1]) M xm_Fv (fJ7_fill_53178 k n a1 M) := by
  refine xm_C.ofF (by decide +kernel) rfl (fun g => Nat.le_of_ble_eq_true rfl) ?_
  intro p e s m args below meth c D g A hX
  refine xm_lv (lv' := [(0, .ref (g.1 k)), (1, .int a1)]) rfl ?_
  unfold fJ7_fill_53178
  refine xm_iconst hX (v := 0) rfl dJ7_fill_53178_0 ?_
  refine xm_nmi (fun x1 => ?_)
  refine xm_istore_n hX (lv' := [(2, .int x1), (0, .ref (g.1 k)), (1, .int a1)]) dJ7_fill_53178_1 rfl (by decide) rfl ?_
  refine xm_aload_n hX 1 dJ7_fill_53178_2 rfl rfl ?_
  refine xm_alen hX (v := (Int32.ofNat n)) hk rfl dJ7_fill_53178_3 ?_
  refine xm_nmi (fun x2 => ?_)
  refine xm_istore_n hX (lv' := [(3, .int x2), (2, .int x1), (0, .ref (g.1 k)), (1, .int a1)]) dJ7_fill_53178_4 rfl (by decide) rfl ?_
  refine xm_weak [2, 3, 1, 0] (lv' := [(0, .ref (g.1 k)), (1, .int a1), (2, .int x1), (3, .int x2)]) rfl ?_
  exact tfJ7_fill_53178_5_it hX k n hk xm_N a1 x1 x2 M
-- ===== OdometryDesk.keep([[IIII)V ['50']
theorem dX3_keep__0 : decode cX3_keep_ 0 = .ok (.iload_n 1, 1) := by decide +kernel
theorem dX3_keep__1 : decode cX3_keep_ 1 = .ok (.ifCond .lt 27, 3) := by decide +kernel
theorem dX3_keep__4 : decode cX3_keep_ 4 = .ok (.iload_n 1, 1) := by decide +kernel
theorem dX3_keep__5 : decode cX3_keep_ 5 = .ok (.aload_n 0, 1) := by decide +kernel
theorem dX3_keep__6 : decode cX3_keep_ 6 = .ok (.arraylength, 1) := by decide +kernel
theorem dX3_keep__7 : decode cX3_keep_ 7 = .ok (.if_icmp .ge 21, 3) := by decide +kernel
theorem dX3_keep__10 : decode cX3_keep_ 10 = .ok (.iload_n 2, 1) := by decide +kernel
theorem dX3_keep__11 : decode cX3_keep_ 11 = .ok (.ifCond .lt 17, 3) := by decide +kernel
theorem dX3_keep__14 : decode cX3_keep_ 14 = .ok (.iload_n 2, 1) := by decide +kernel
theorem dX3_keep__15 : decode cX3_keep_ 15 = .ok (.aload_n 0, 1) := by decide +kernel
theorem dX3_keep__16 : decode cX3_keep_ 16 = .ok (.iload_n 1, 1) := by decide +kernel
theorem dX3_keep__17 : decode cX3_keep_ 17 = .ok (.aaload, 1) := by decide +kernel
theorem dX3_keep__18 : decode cX3_keep_ 18 = .ok (.arraylength, 1) := by decide +kernel
theorem dX3_keep__19 : decode cX3_keep_ 19 = .ok (.if_icmp .ge 9, 3) := by decide +kernel
theorem dX3_keep__22 : decode cX3_keep_ 22 = .ok (.aload_n 0, 1) := by decide +kernel
theorem dX3_keep__23 : decode cX3_keep_ 23 = .ok (.iload_n 1, 1) := by decide +kernel
theorem dX3_keep__24 : decode cX3_keep_ 24 = .ok (.aaload, 1) := by decide +kernel
theorem dX3_keep__25 : decode cX3_keep_ 25 = .ok (.iload_n 2, 1) := by decide +kernel
theorem dX3_keep__26 : decode cX3_keep_ 26 = .ok (.iload_n 3, 1) := by decide +kernel
theorem dX3_keep__27 : decode cX3_keep_ 27 = .ok (.iastore, 1) := by decide +kernel
theorem dX3_keep__28 : decode cX3_keep_ 28 = .ok (.return_, 1) := by decide +kernel
abbrev wX3_keep_ : List Cond := .code yX3_keep_ cX3_keep_ 4 none :: lw_gd
theorem hdX3_keep_ : (yX3_keep_.cls ≠ "java/lang/invoke/MethodHandle" ∧ yX3_keep_.cls ≠ "java/lang/invoke/VarHandle" ∧ (parseMethodDescriptor yX3_keep_.desc).map (fun d => d.parameters.length) = some 4) := by decide +kernel
def fX3_keep_ (k : Nat) (N : Nat) (k0 : Nat) (n : Nat) (a1 : Int32) (a2 : Int32) (a3 : Int32) (M : xm_M) : Option xm_M :=
  if a1 < 0 then some M else if ((Int32.ofNat N)) ≤ a1 then some M else if a2 < 0 then some M else if a1 < 0 ∨ N ≤ a1.toNatClampNeg then none else if ((Int32.ofNat n)) ≤ a2 then some M else if a1 < 0 ∨ N ≤ a1.toNatClampNeg then none else if a2 < 0 ∨ n ≤ a2.toNatClampNeg then none else xm_lt (xm_s M (k0 + a1.toNatClampNeg) a2.toNatClampNeg a3) (fun M3 => some M3)
set_option maxRecDepth 20000 in
theorem kX3_keep_ {l : Launch} (k : Nat) (N : Nat) (k0 : Nat) (n : Nat) (hk : cL[k]? = some (.inr (.inl (N, k0)))) (rk : ∀ i, i < N → cL[k0 + i]? = some (.inl (0, .int, n))) (a1 : Int32) (a2 : Int32) (a3 : Int32) (M : xm_M) : xm_C l yX3_keep_ wX3_keep_ ({ frames := 0, cells := 0, slots := 0, locals := 0 }) cL (fun g => [.ref (g.1 k), .int a1, .int a2, .int a3]) M xm_Fv (fX3_keep_ k N k0 n a1 a2 a3 M) := by
  refine xm_C.of (by decide) rfl (fun g => Nat.le_of_ble_eq_true rfl) ?_
  intro p e s m args below meth c D g A hX
  refine xm_lv (lv' := [(0, .ref (g.1 k)), (1, .int a1), (2, .int a2), (3, .int a3)]) rfl ?_
  unfold fX3_keep_
  refine xm_iload_n hX 1 dX3_keep__0 rfl rfl ?_
  refine xm_if_lt hX (tgt := 28) dX3_keep__1 rfl ?_ ?_
  · exact xm_vret hX dX3_keep__28
  · refine xm_iload_n hX 1 dX3_keep__4 rfl rfl ?_
    refine xm_aload_n hX 0 dX3_keep__5 rfl rfl ?_
    refine xm_alenR hX (v := (Int32.ofNat N)) hk rfl dX3_keep__6 ?_
    refine xm_icmp_ge hX (tgt := 28) dX3_keep__7 rfl ?_ ?_
    · exact xm_vret hX dX3_keep__28
    · refine xm_iload_n hX 2 dX3_keep__10 rfl rfl ?_
      refine xm_if_lt hX (tgt := 28) dX3_keep__11 rfl ?_ ?_
      · exact xm_vret hX dX3_keep__28
      · refine xm_iload_n hX 2 dX3_keep__14 rfl rfl ?_
        refine xm_aload_n hX 0 dX3_keep__15 rfl rfl ?_
        refine xm_iload_n hX 1 dX3_keep__16 rfl rfl ?_
        refine xm_aald hX (N := N) (k0 := k0) hk dX3_keep__17 (fun q1 => ?_)
        refine xm_alen hX (v := (Int32.ofNat n)) (rk _ q1) rfl dX3_keep__18 ?_
        refine xm_icmp_ge hX (tgt := 28) dX3_keep__19 rfl ?_ ?_
        · exact xm_vret hX dX3_keep__28
        · refine xm_aload_n hX 0 dX3_keep__22 rfl rfl ?_
          refine xm_iload_n hX 1 dX3_keep__23 rfl rfl ?_
          refine xm_aald hX (N := N) (k0 := k0) hk dX3_keep__24 (fun q2 => ?_)
          refine xm_iload_n hX 2 dX3_keep__25 rfl rfl ?_
          refine xm_iload_n hX 3 dX3_keep__26 rfl rfl ?_
          refine xm_iast hX (n := n) (rk _ q2) dX3_keep__27 (fun M3 => ?_)
          exact xm_vret hX dX3_keep__28
-- ===== OdometryDesk$Way.keepPose(I)V ['49']
theorem dX2_keepPose_0 : decode cX2_keepPose 0 = .ok (.aload_n 0, 1) := by decide +kernel
theorem dX2_keepPose_1 : decode cX2_keepPose 1 = .ok (.getfield 11, 3) := by decide +kernel
theorem dX2_keepPose_4 : decode cX2_keepPose 4 = .ok (.iconst 0, 1) := by decide +kernel
theorem dX2_keepPose_5 : decode cX2_keepPose 5 = .ok (.iload_n 1, 1) := by decide +kernel
theorem dX2_keepPose_6 : decode cX2_keepPose 6 = .ok (.aload_n 0, 1) := by decide +kernel
theorem dX2_keepPose_7 : decode cX2_keepPose 7 = .ok (.getfield 29, 3) := by decide +kernel
theorem dX2_keepPose_10 : decode cX2_keepPose 10 = .ok (.invokestatic 109, 3) := by decide +kernel
theorem dX2_keepPose_13 : decode cX2_keepPose 13 = .ok (.aload_n 0, 1) := by decide +kernel
theorem dX2_keepPose_14 : decode cX2_keepPose 14 = .ok (.getfield 11, 3) := by decide +kernel
theorem dX2_keepPose_17 : decode cX2_keepPose 17 = .ok (.iconst 1, 1) := by decide +kernel
theorem dX2_keepPose_18 : decode cX2_keepPose 18 = .ok (.iload_n 1, 1) := by decide +kernel
theorem dX2_keepPose_19 : decode cX2_keepPose 19 = .ok (.aload_n 0, 1) := by decide +kernel
theorem dX2_keepPose_20 : decode cX2_keepPose 20 = .ok (.getfield 35, 3) := by decide +kernel
theorem dX2_keepPose_23 : decode cX2_keepPose 23 = .ok (.invokestatic 109, 3) := by decide +kernel
theorem dX2_keepPose_26 : decode cX2_keepPose 26 = .ok (.aload_n 0, 1) := by decide +kernel
theorem dX2_keepPose_27 : decode cX2_keepPose 27 = .ok (.getfield 11, 3) := by decide +kernel
theorem dX2_keepPose_30 : decode cX2_keepPose 30 = .ok (.iconst 2, 1) := by decide +kernel
theorem dX2_keepPose_31 : decode cX2_keepPose 31 = .ok (.iload_n 1, 1) := by decide +kernel
theorem dX2_keepPose_32 : decode cX2_keepPose 32 = .ok (.aload_n 0, 1) := by decide +kernel
theorem dX2_keepPose_33 : decode cX2_keepPose 33 = .ok (.getfield 41, 3) := by decide +kernel
theorem dX2_keepPose_36 : decode cX2_keepPose 36 = .ok (.invokestatic 109, 3) := by decide +kernel
theorem dX2_keepPose_39 : decode cX2_keepPose 39 = .ok (.aload_n 0, 1) := by decide +kernel
theorem dX2_keepPose_40 : decode cX2_keepPose 40 = .ok (.getfield 11, 3) := by decide +kernel
theorem dX2_keepPose_43 : decode cX2_keepPose 43 = .ok (.iconst 3, 1) := by decide +kernel
theorem dX2_keepPose_44 : decode cX2_keepPose 44 = .ok (.iload_n 1, 1) := by decide +kernel
theorem dX2_keepPose_45 : decode cX2_keepPose 45 = .ok (.aload_n 0, 1) := by decide +kernel
theorem dX2_keepPose_46 : decode cX2_keepPose 46 = .ok (.getfield 44, 3) := by decide +kernel
theorem dX2_keepPose_49 : decode cX2_keepPose 49 = .ok (.invokestatic 109, 3) := by decide +kernel
theorem dX2_keepPose_52 : decode cX2_keepPose 52 = .ok (.aload_n 0, 1) := by decide +kernel
theorem dX2_keepPose_53 : decode cX2_keepPose 53 = .ok (.getfield 11, 3) := by decide +kernel
theorem dX2_keepPose_56 : decode cX2_keepPose 56 = .ok (.iconst 4, 1) := by decide +kernel
theorem dX2_keepPose_57 : decode cX2_keepPose 57 = .ok (.iload_n 1, 1) := by decide +kernel
theorem dX2_keepPose_58 : decode cX2_keepPose 58 = .ok (.aload_n 0, 1) := by decide +kernel
theorem dX2_keepPose_59 : decode cX2_keepPose 59 = .ok (.getfield 47, 3) := by decide +kernel
theorem dX2_keepPose_62 : decode cX2_keepPose 62 = .ok (.invokestatic 109, 3) := by decide +kernel
theorem dX2_keepPose_65 : decode cX2_keepPose 65 = .ok (.return_, 1) := by decide +kernel
abbrev wX2_keepPose : List Cond := .code yX2_keepPose cX2_keepPose 2 none :: lw_gd
theorem hdX2_keepPose : (yX2_keepPose.cls ≠ "java/lang/invoke/MethodHandle" ∧ yX2_keepPose.cls ≠ "java/lang/invoke/VarHandle" ∧ (parseMethodDescriptor yX2_keepPose.desc).map (fun d => d.parameters.length) = some 1) := by decide +kernel
def fX2_keepPose  (a1 : Int32) (M : xm_M) : Option xm_M :=
  xm_bv (fX3_keep_ 50 5 51 121 ((0 : Int32)) a1 (M.1 49 3) M) (fun M1 => xm_bv (fX3_keep_ 50 5 51 121 ((1 : Int32)) a1 (M1.1 49 4) M1) (fun M2 => xm_bv (fX3_keep_ 50 5 51 121 ((2 : Int32)) a1 (M2.1 49 5) M2) (fun M3 => xm_bv (fX3_keep_ 50 5 51 121 ((3 : Int32)) a1 (M3.1 49 6) M3) (fun M4 => xm_bv (fX3_keep_ 50 5 51 121 ((4 : Int32)) a1 (M4.1 49 7) M4) (fun M5 => some M5)))))
set_option maxRecDepth 20000 in
theorem kX2_keepPose {l : Launch}   (a1 : Int32) (M : xm_M) : xm_C l yX2_keepPose wX2_keepPose ({ frames := 1, cells := 0, slots := 0, locals := 23 }) cL (fun g => [.ref (g.1 49), .int a1]) M xm_Fv (fX2_keepPose  a1 M) := by
  refine xm_C.of (by decide) rfl (fun g => Nat.le_of_ble_eq_true rfl) ?_
  intro p e s m args below meth c D g A hX
  refine xm_lv (lv' := [(0, .ref (g.1 49)), (1, .int a1)]) rfl ?_
  unfold fX2_keepPose
  refine xm_aload_n hX 0 dX2_keepPose_0 rfl rfl ?_
  refine xm_get hX (k := 49) (ci := 2) (j := 0) (C := RX2) (T := TX2) (N := 12) (v := .ref (g.1 50)) cL_49 rfl rfl rfl (by decide) (fun z hz => List.mem_cons_of_mem _ (iw_X2 z hz)) (List.mem_cons_of_mem _ gm_75) dX2_keepPose_1 ?_
  refine xm_iconst hX (v := 0) rfl dX2_keepPose_4 ?_
  refine xm_iload_n hX 1 dX2_keepPose_5 rfl rfl ?_
  refine xm_aload_n hX 0 dX2_keepPose_6 rfl rfl ?_
  refine xm_get hX (k := 49) (ci := 2) (j := 3) (C := RX2) (T := TX2) (N := 12) (v := .int (M.1 49 3)) cL_49 rfl rfl rfl (by decide) (fun z hz => List.mem_cons_of_mem _ (iw_X2 z hz)) (List.mem_cons_of_mem _ gm_80) dX2_keepPose_7 ?_
  refine xm_callv hX (xm_runSN hX (As := (fun g => [.ref (g.1 50), .int ((0 : Int32)), .int a1, .int (M.1 49 3)])) (kX3_keep_ 50 5 51 121 cL_50 cL_rows_50 ((0 : Int32)) a1 (M.1 49 3) M) (xm_gN gm_173) rfl ⟨rfl, rfl⟩ nw_2 (List.mem_cons_of_mem _ gm_1) (List.mem_cons_of_mem _ gm_172) hdX3_keep_ ⟨Nat.le_of_ble_eq_true rfl, Nat.le_of_ble_eq_true rfl⟩ rfl (Nat.le_of_ble_eq_true rfl) rfl dX2_keepPose_10) (fun M1 => ?_)
  refine xm_aload_n hX 0 dX2_keepPose_13 rfl rfl ?_
  refine xm_get hX (k := 49) (ci := 2) (j := 0) (C := RX2) (T := TX2) (N := 12) (v := .ref (g.1 50)) cL_49 rfl rfl rfl (by decide) (fun z hz => List.mem_cons_of_mem _ (iw_X2 z hz)) (List.mem_cons_of_mem _ gm_75) dX2_keepPose_14 ?_
  refine xm_iconst hX (v := 1) rfl dX2_keepPose_17 ?_
  refine xm_iload_n hX 1 dX2_keepPose_18 rfl rfl ?_
  refine xm_aload_n hX 0 dX2_keepPose_19 rfl rfl ?_
  refine xm_get hX (k := 49) (ci := 2) (j := 4) (C := RX2) (T := TX2) (N := 12) (v := .int (M1.1 49 4)) cL_49 rfl rfl rfl (by decide) (fun z hz => List.mem_cons_of_mem _ (iw_X2 z hz)) (List.mem_cons_of_mem _ gm_82) dX2_keepPose_20 ?_
  refine xm_callv hX (xm_runSN hX (As := (fun g => [.ref (g.1 50), .int ((1 : Int32)), .int a1, .int (M1.1 49 4)])) (kX3_keep_ 50 5 51 121 cL_50 cL_rows_50 ((1 : Int32)) a1 (M1.1 49 4) M1) (xm_gN gm_173) rfl ⟨rfl, rfl⟩ nw_2 (List.mem_cons_of_mem _ gm_1) (List.mem_cons_of_mem _ gm_172) hdX3_keep_ ⟨Nat.le_of_ble_eq_true rfl, Nat.le_of_ble_eq_true rfl⟩ rfl (Nat.le_of_ble_eq_true rfl) rfl dX2_keepPose_23) (fun M2 => ?_)
  refine xm_aload_n hX 0 dX2_keepPose_26 rfl rfl ?_
  refine xm_get hX (k := 49) (ci := 2) (j := 0) (C := RX2) (T := TX2) (N := 12) (v := .ref (g.1 50)) cL_49 rfl rfl rfl (by decide) (fun z hz => List.mem_cons_of_mem _ (iw_X2 z hz)) (List.mem_cons_of_mem _ gm_75) dX2_keepPose_27 ?_
  refine xm_iconst hX (v := 2) rfl dX2_keepPose_30 ?_
  refine xm_iload_n hX 1 dX2_keepPose_31 rfl rfl ?_
  refine xm_aload_n hX 0 dX2_keepPose_32 rfl rfl ?_
  refine xm_get hX (k := 49) (ci := 2) (j := 5) (C := RX2) (T := TX2) (N := 12) (v := .int (M2.1 49 5)) cL_49 rfl rfl rfl (by decide) (fun z hz => List.mem_cons_of_mem _ (iw_X2 z hz)) (List.mem_cons_of_mem _ gm_84) dX2_keepPose_33 ?_
  refine xm_callv hX (xm_runSN hX (As := (fun g => [.ref (g.1 50), .int ((2 : Int32)), .int a1, .int (M2.1 49 5)])) (kX3_keep_ 50 5 51 121 cL_50 cL_rows_50 ((2 : Int32)) a1 (M2.1 49 5) M2) (xm_gN gm_173) rfl ⟨rfl, rfl⟩ nw_2 (List.mem_cons_of_mem _ gm_1) (List.mem_cons_of_mem _ gm_172) hdX3_keep_ ⟨Nat.le_of_ble_eq_true rfl, Nat.le_of_ble_eq_true rfl⟩ rfl (Nat.le_of_ble_eq_true rfl) rfl dX2_keepPose_36) (fun M3 => ?_)
  refine xm_aload_n hX 0 dX2_keepPose_39 rfl rfl ?_
  refine xm_get hX (k := 49) (ci := 2) (j := 0) (C := RX2) (T := TX2) (N := 12) (v := .ref (g.1 50)) cL_49 rfl rfl rfl (by decide) (fun z hz => List.mem_cons_of_mem _ (iw_X2 z hz)) (List.mem_cons_of_mem _ gm_75) dX2_keepPose_40 ?_
  refine xm_iconst hX (v := 3) rfl dX2_keepPose_43 ?_
  refine xm_iload_n hX 1 dX2_keepPose_44 rfl rfl ?_
  refine xm_aload_n hX 0 dX2_keepPose_45 rfl rfl ?_
  refine xm_get hX (k := 49) (ci := 2) (j := 6) (C := RX2) (T := TX2) (N := 12) (v := .int (M3.1 49 6)) cL_49 rfl rfl rfl (by decide) (fun z hz => List.mem_cons_of_mem _ (iw_X2 z hz)) (List.mem_cons_of_mem _ gm_86) dX2_keepPose_46 ?_
  refine xm_callv hX (xm_runSN hX (As := (fun g => [.ref (g.1 50), .int ((3 : Int32)), .int a1, .int (M3.1 49 6)])) (kX3_keep_ 50 5 51 121 cL_50 cL_rows_50 ((3 : Int32)) a1 (M3.1 49 6) M3) (xm_gN gm_173) rfl ⟨rfl, rfl⟩ nw_2 (List.mem_cons_of_mem _ gm_1) (List.mem_cons_of_mem _ gm_172) hdX3_keep_ ⟨Nat.le_of_ble_eq_true rfl, Nat.le_of_ble_eq_true rfl⟩ rfl (Nat.le_of_ble_eq_true rfl) rfl dX2_keepPose_49) (fun M4 => ?_)
  refine xm_aload_n hX 0 dX2_keepPose_52 rfl rfl ?_
  refine xm_get hX (k := 49) (ci := 2) (j := 0) (C := RX2) (T := TX2) (N := 12) (v := .ref (g.1 50)) cL_49 rfl rfl rfl (by decide) (fun z hz => List.mem_cons_of_mem _ (iw_X2 z hz)) (List.mem_cons_of_mem _ gm_75) dX2_keepPose_53 ?_
  refine xm_iconst hX (v := 4) rfl dX2_keepPose_56 ?_
  refine xm_iload_n hX 1 dX2_keepPose_57 rfl rfl ?_
  refine xm_aload_n hX 0 dX2_keepPose_58 rfl rfl ?_
  refine xm_get hX (k := 49) (ci := 2) (j := 7) (C := RX2) (T := TX2) (N := 12) (v := .int (M4.1 49 7)) cL_49 rfl rfl rfl (by decide) (fun z hz => List.mem_cons_of_mem _ (iw_X2 z hz)) (List.mem_cons_of_mem _ gm_88) dX2_keepPose_59 ?_
  refine xm_callv hX (xm_runSN hX (As := (fun g => [.ref (g.1 50), .int ((4 : Int32)), .int a1, .int (M4.1 49 7)])) (kX3_keep_ 50 5 51 121 cL_50 cL_rows_50 ((4 : Int32)) a1 (M4.1 49 7) M4) (xm_gN gm_173) rfl ⟨rfl, rfl⟩ nw_2 (List.mem_cons_of_mem _ gm_1) (List.mem_cons_of_mem _ gm_172) hdX3_keep_ ⟨Nat.le_of_ble_eq_true rfl, Nat.le_of_ble_eq_true rfl⟩ rfl (Nat.le_of_ble_eq_true rfl) rfl dX2_keepPose_62) (fun M5 => ?_)
  exact xm_vret hX dX2_keepPose_65
-- ===== OdometryDesk.item([[III)I ['12']
theorem dX3_item__0 : decode cX3_item_ 0 = .ok (.iload_n 1, 1) := by decide +kernel
theorem dX3_item__1 : decode cX3_item_ 1 = .ok (.ifCond .lt 29, 3) := by decide +kernel
theorem dX3_item__4 : decode cX3_item_ 4 = .ok (.iload_n 1, 1) := by decide +kernel
theorem dX3_item__5 : decode cX3_item_ 5 = .ok (.aload_n 0, 1) := by decide +kernel
theorem dX3_item__6 : decode cX3_item_ 6 = .ok (.arraylength, 1) := by decide +kernel
theorem dX3_item__7 : decode cX3_item_ 7 = .ok (.if_icmp .ge 23, 3) := by decide +kernel
theorem dX3_item__10 : decode cX3_item_ 10 = .ok (.iload_n 2, 1) := by decide +kernel
theorem dX3_item__11 : decode cX3_item_ 11 = .ok (.ifCond .lt 19, 3) := by decide +kernel
theorem dX3_item__14 : decode cX3_item_ 14 = .ok (.iload_n 2, 1) := by decide +kernel
theorem dX3_item__15 : decode cX3_item_ 15 = .ok (.aload_n 0, 1) := by decide +kernel
theorem dX3_item__16 : decode cX3_item_ 16 = .ok (.iload_n 1, 1) := by decide +kernel
theorem dX3_item__17 : decode cX3_item_ 17 = .ok (.aaload, 1) := by decide +kernel
theorem dX3_item__18 : decode cX3_item_ 18 = .ok (.arraylength, 1) := by decide +kernel
theorem dX3_item__19 : decode cX3_item_ 19 = .ok (.if_icmp .ge 11, 3) := by decide +kernel
theorem dX3_item__22 : decode cX3_item_ 22 = .ok (.aload_n 0, 1) := by decide +kernel
theorem dX3_item__23 : decode cX3_item_ 23 = .ok (.iload_n 1, 1) := by decide +kernel
theorem dX3_item__24 : decode cX3_item_ 24 = .ok (.aaload, 1) := by decide +kernel
theorem dX3_item__25 : decode cX3_item_ 25 = .ok (.iload_n 2, 1) := by decide +kernel
theorem dX3_item__26 : decode cX3_item_ 26 = .ok (.iaload, 1) := by decide +kernel
theorem dX3_item__27 : decode cX3_item_ 27 = .ok (.goto 4, 3) := by decide +kernel
theorem dX3_item__30 : decode cX3_item_ 30 = .ok (.iconst 0, 1) := by decide +kernel
theorem dX3_item__31 : decode cX3_item_ 31 = .ok (.ireturn, 1) := by decide +kernel
abbrev wX3_item_ : List Cond := .code yX3_item_ cX3_item_ 3 (some .int) :: lw_gd
theorem hdX3_item_ : (yX3_item_.cls ≠ "java/lang/invoke/MethodHandle" ∧ yX3_item_.cls ≠ "java/lang/invoke/VarHandle" ∧ (parseMethodDescriptor yX3_item_.desc).map (fun d => d.parameters.length) = some 3) := by decide +kernel
def fX3_item_ (k : Nat) (N : Nat) (k0 : Nat) (n : Nat) (a1 : Int32) (a2 : Int32) (M : xm_M) : Option (Int32 × xm_M) :=
  if a1 < 0 then some ((0 : Int32), M) else if ((Int32.ofNat N)) ≤ a1 then some ((0 : Int32), M) else if a2 < 0 then some ((0 : Int32), M) else if a1 < 0 ∨ N ≤ a1.toNatClampNeg then none else if ((Int32.ofNat n)) ≤ a2 then some ((0 : Int32), M) else if a1 < 0 ∨ N ≤ a1.toNatClampNeg then none else if a2 < 0 ∨ n ≤ a2.toNatClampNeg then none else some (M.1 (k0 + a1.toNatClampNeg) a2.toNatClampNeg, M)
set_option maxRecDepth 20000 in
theorem kX3_item_ {l : Launch} (k : Nat) (N : Nat) (k0 : Nat) (n : Nat) (hk : cL[k]? = some (.inr (.inl (N, k0)))) (rk : ∀ i, i < N → cL[k0 + i]? = some (.inl (0, .int, n))) (a1 : Int32) (a2 : Int32) (M : xm_M) : xm_C l yX3_item_ wX3_item_ ({ frames := 0, cells := 0, slots := 0, locals := 0 }) cL (fun g => [.ref (g.1 k), .int a1, .int a2]) M xm_Fi (fX3_item_ k N k0 n a1 a2 M) := by
  refine xm_C.of (by decide) rfl (fun g => Nat.le_of_ble_eq_true rfl) ?_
  intro p e s m args below meth c D g A hX
  refine xm_lv (lv' := [(0, .ref (g.1 k)), (1, .int a1), (2, .int a2)]) rfl ?_
  unfold fX3_item_
  refine xm_iload_n hX 1 dX3_item__0 rfl rfl ?_
  refine xm_if_lt hX (tgt := 30) dX3_item__1 rfl ?_ ?_
  · refine xm_iconst hX (v := 0) rfl dX3_item__30 ?_
    exact xm_iret hX dX3_item__31
  · refine xm_iload_n hX 1 dX3_item__4 rfl rfl ?_
    refine xm_aload_n hX 0 dX3_item__5 rfl rfl ?_
    refine xm_alenR hX (v := (Int32.ofNat N)) hk rfl dX3_item__6 ?_
    refine xm_icmp_ge hX (tgt := 30) dX3_item__7 rfl ?_ ?_
    · refine xm_iconst hX (v := 0) rfl dX3_item__30 ?_
      exact xm_iret hX dX3_item__31
    · refine xm_iload_n hX 2 dX3_item__10 rfl rfl ?_
      refine xm_if_lt hX (tgt := 30) dX3_item__11 rfl ?_ ?_
      · refine xm_iconst hX (v := 0) rfl dX3_item__30 ?_
        exact xm_iret hX dX3_item__31
      · refine xm_iload_n hX 2 dX3_item__14 rfl rfl ?_
        refine xm_aload_n hX 0 dX3_item__15 rfl rfl ?_
        refine xm_iload_n hX 1 dX3_item__16 rfl rfl ?_
        refine xm_aald hX (N := N) (k0 := k0) hk dX3_item__17 (fun q1 => ?_)
        refine xm_alen hX (v := (Int32.ofNat n)) (rk _ q1) rfl dX3_item__18 ?_
        refine xm_icmp_ge hX (tgt := 30) dX3_item__19 rfl ?_ ?_
        · refine xm_iconst hX (v := 0) rfl dX3_item__30 ?_
          exact xm_iret hX dX3_item__31
        · refine xm_aload_n hX 0 dX3_item__22 rfl rfl ?_
          refine xm_iload_n hX 1 dX3_item__23 rfl rfl ?_
          refine xm_aald hX (N := N) (k0 := k0) hk dX3_item__24 (fun q2 => ?_)
          refine xm_iload_n hX 2 dX3_item__25 rfl rfl ?_
          refine xm_iald hX (n := n) (rk _ q2) dX3_item__26 ?_
          refine xm_goto hX (tgt := 31) dX3_item__27 rfl ?_
          exact xm_iret hX dX3_item__31
-- ===== OdometryDesk$State.isSight(I)Z ['1']
theorem dX1_isSight_0 : decode cX1_isSight 0 = .ok (.aload_n 0, 1) := by decide +kernel
theorem dX1_isSight_1 : decode cX1_isSight 1 = .ok (.getfield 31, 3) := by decide +kernel
theorem dX1_isSight_4 : decode cX1_isSight 4 = .ok (.iconst 0, 1) := by decide +kernel
theorem dX1_isSight_5 : decode cX1_isSight 5 = .ok (.iload_n 1, 1) := by decide +kernel
theorem dX1_isSight_6 : decode cX1_isSight 6 = .ok (.invokestatic 70, 3) := by decide +kernel
theorem dX1_isSight_9 : decode cX1_isSight 9 = .ok (.ifCond .lt 7, 3) := by decide +kernel
theorem dX1_isSight_12 : decode cX1_isSight 12 = .ok (.iconst 1, 1) := by decide +kernel
theorem dX1_isSight_13 : decode cX1_isSight 13 = .ok (.goto 4, 3) := by decide +kernel
theorem dX1_isSight_16 : decode cX1_isSight 16 = .ok (.iconst 0, 1) := by decide +kernel
theorem dX1_isSight_17 : decode cX1_isSight 17 = .ok (.ireturn, 1) := by decide +kernel
abbrev wX1_isSight : List Cond := .code yX1_isSight cX1_isSight 2 (some .boolean) :: lw_gd
theorem hdX1_isSight : (yX1_isSight.cls ≠ "java/lang/invoke/MethodHandle" ∧ yX1_isSight.cls ≠ "java/lang/invoke/VarHandle" ∧ (parseMethodDescriptor yX1_isSight.desc).map (fun d => d.parameters.length) = some 1) := by decide +kernel
def fX1_isSight  (a1 : Int32) (M : xm_M) : Option (Int32 × xm_M) :=
  xm_bi (fX3_item_ 12 4 13 120 ((0 : Int32)) a1 M) (fun x2 M1 => if x2 < 0 then if ((0 : Int32)) = 0 ∨ ((0 : Int32)) = 1 then some ((0 : Int32), M1) else none else if ((1 : Int32)) = 0 ∨ ((1 : Int32)) = 1 then some ((1 : Int32), M1) else none)
set_option maxRecDepth 20000 in
theorem kX1_isSight {l : Launch}   (a1 : Int32) (M : xm_M) : xm_C l yX1_isSight wX1_isSight ({ frames := 1, cells := 0, slots := 0, locals := 22 }) cL (fun g => [.ref (g.1 1), .int a1]) M xm_Fi (fX1_isSight  a1 M) := by
  refine xm_C.of (by decide) rfl (fun g => Nat.le_of_ble_eq_true rfl) ?_
  intro p e s m args below meth c D g A hX
  refine xm_lv (lv' := [(0, .ref (g.1 1)), (1, .int a1)]) rfl ?_
  unfold fX1_isSight
  refine xm_aload_n hX 0 dX1_isSight_0 rfl rfl ?_
  refine xm_get hX (k := 1) (ci := 1) (j := 3) (C := RX1) (T := TX1) (N := 11) (v := .ref (g.1 12)) cL_1 rfl rfl rfl (by decide) (fun z hz => List.mem_cons_of_mem _ (iw_X1 z hz)) (List.mem_cons_of_mem _ gm_37) dX1_isSight_1 ?_
  refine xm_iconst hX (v := 0) rfl dX1_isSight_4 ?_
  refine xm_iload_n hX 1 dX1_isSight_5 rfl rfl ?_
  refine xm_calli hX (xm_runSN hX (As := (fun g => [.ref (g.1 12), .int ((0 : Int32)), .int a1])) (kX3_item_ 12 4 13 120 cL_12 cL_rows_12 ((0 : Int32)) a1 M) (xm_gN gm_234) rfl ⟨rfl, rfl⟩ nw_3 (List.mem_cons_of_mem _ gm_1) (List.mem_cons_of_mem _ gm_233) hdX3_item_ ⟨Nat.le_of_ble_eq_true rfl, Nat.le_of_ble_eq_true rfl⟩ rfl (Nat.le_of_ble_eq_true rfl) rfl dX1_isSight_6) (fun x2 M1 => ?_)
  refine xm_if_lt hX (tgt := 16) dX1_isSight_9 rfl ?_ ?_
  · refine xm_iconst hX (v := 0) rfl dX1_isSight_16 ?_
    exact xm_zret hX dX1_isSight_17
  · refine xm_iconst hX (v := 1) rfl dX1_isSight_12 ?_
    refine xm_goto hX (tgt := 17) dX1_isSight_13 rfl ?_
    exact xm_zret hX dX1_isSight_17
-- ===== OdometryDesk.item([II)I ['ps']
theorem dX3_item_0 : decode cX3_item 0 = .ok (.iload_n 1, 1) := by decide +kernel
theorem dX3_item_1 : decode cX3_item 1 = .ok (.ifCond .lt 15, 3) := by decide +kernel
theorem dX3_item_4 : decode cX3_item 4 = .ok (.iload_n 1, 1) := by decide +kernel
theorem dX3_item_5 : decode cX3_item 5 = .ok (.aload_n 0, 1) := by decide +kernel
theorem dX3_item_6 : decode cX3_item 6 = .ok (.arraylength, 1) := by decide +kernel
theorem dX3_item_7 : decode cX3_item 7 = .ok (.if_icmp .ge 9, 3) := by decide +kernel
theorem dX3_item_10 : decode cX3_item 10 = .ok (.aload_n 0, 1) := by decide +kernel
theorem dX3_item_11 : decode cX3_item 11 = .ok (.iload_n 1, 1) := by decide +kernel
theorem dX3_item_12 : decode cX3_item 12 = .ok (.iaload, 1) := by decide +kernel
theorem dX3_item_13 : decode cX3_item 13 = .ok (.goto 4, 3) := by decide +kernel
theorem dX3_item_16 : decode cX3_item 16 = .ok (.iconst 0, 1) := by decide +kernel
theorem dX3_item_17 : decode cX3_item 17 = .ok (.ireturn, 1) := by decide +kernel
abbrev wX3_item : List Cond := .code yX3_item cX3_item 2 (some .int) :: lw_gd
theorem hdX3_item : (yX3_item.cls ≠ "java/lang/invoke/MethodHandle" ∧ yX3_item.cls ≠ "java/lang/invoke/VarHandle" ∧ (parseMethodDescriptor yX3_item.desc).map (fun d => d.parameters.length) = some 2) := by decide +kernel
def fX3_item (k : Nat) (n : Nat) (a1 : Int32) (M : xm_M) : Option (Int32 × xm_M) :=
  if a1 < 0 then some ((0 : Int32), M) else if ((Int32.ofNat n)) ≤ a1 then some ((0 : Int32), M) else if a1 < 0 ∨ n ≤ a1.toNatClampNeg then none else some (M.1 k a1.toNatClampNeg, M)
set_option maxRecDepth 20000 in
theorem kX3_item {l : Launch} (k : Nat) (n : Nat) (hk : cL[k]? = some (.inl (0, .int, n))) (a1 : Int32) (M : xm_M) : xm_C l yX3_item wX3_item ({ frames := 0, cells := 0, slots := 0, locals := 0 }) cL (fun g => [.ref (g.1 k), .int a1]) M xm_Fi (fX3_item k n a1 M) := by
  refine xm_C.of (by decide) rfl (fun g => Nat.le_of_ble_eq_true rfl) ?_
  intro p e s m args below meth c D g A hX
  refine xm_lv (lv' := [(0, .ref (g.1 k)), (1, .int a1)]) rfl ?_
  unfold fX3_item
  refine xm_iload_n hX 1 dX3_item_0 rfl rfl ?_
  refine xm_if_lt hX (tgt := 16) dX3_item_1 rfl ?_ ?_
  · refine xm_iconst hX (v := 0) rfl dX3_item_16 ?_
    exact xm_iret hX dX3_item_17
  · refine xm_iload_n hX 1 dX3_item_4 rfl rfl ?_
    refine xm_aload_n hX 0 dX3_item_5 rfl rfl ?_
    refine xm_alen hX (v := (Int32.ofNat n)) hk rfl dX3_item_6 ?_
    refine xm_icmp_ge hX (tgt := 16) dX3_item_7 rfl ?_ ?_
    · refine xm_iconst hX (v := 0) rfl dX3_item_16 ?_
      exact xm_iret hX dX3_item_17
    · refine xm_aload_n hX 0 dX3_item_10 rfl rfl ?_
      refine xm_iload_n hX 1 dX3_item_11 rfl rfl ?_
      refine xm_iald hX (n := n) hk dX3_item_12 ?_
      refine xm_goto hX (tgt := 17) dX3_item_13 rfl ?_
      exact xm_iret hX dX3_item_17
-- ===== OdometryDesk.ratio(JJ)J
theorem dX3_ratio_0 : decode cX3_ratio 0 = .ok (.lload_n 2, 1) := by decide +kernel
theorem dX3_ratio_1 : decode cX3_ratio 1 = .ok (.lconst 0, 1) := by decide +kernel
theorem dX3_ratio_2 : decode cX3_ratio 2 = .ok (.lcmp, 1) := by decide +kernel
theorem dX3_ratio_3 : decode cX3_ratio 3 = .ok (.ifCond .ne 7, 3) := by decide +kernel
theorem dX3_ratio_6 : decode cX3_ratio 6 = .ok (.lconst 0, 1) := by decide +kernel
theorem dX3_ratio_7 : decode cX3_ratio 7 = .ok (.goto 6, 3) := by decide +kernel
theorem dX3_ratio_10 : decode cX3_ratio 10 = .ok (.lload_n 0, 1) := by decide +kernel
theorem dX3_ratio_11 : decode cX3_ratio 11 = .ok (.lload_n 2, 1) := by decide +kernel
theorem dX3_ratio_12 : decode cX3_ratio 12 = .ok (.ldiv, 1) := by decide +kernel
theorem dX3_ratio_13 : decode cX3_ratio 13 = .ok (.lreturn, 1) := by decide +kernel
abbrev wX3_ratio : List Cond := .code yX3_ratio cX3_ratio 4 (some .long) :: lw_gd
theorem hdX3_ratio : (yX3_ratio.cls ≠ "java/lang/invoke/MethodHandle" ∧ yX3_ratio.cls ≠ "java/lang/invoke/VarHandle" ∧ (parseMethodDescriptor yX3_ratio.desc).map (fun d => d.parameters.length) = some 2) := by decide +kernel
def fX3_ratio  (a0 : Int64) (a2 : Int64) (M : xm_M) : Option (Int64 × xm_M) :=
  if (lg_cmp a2 ((0 : Int64))) = 0 then some ((0 : Int64), M) else if a2 = 0 then none else some (a0 / a2, M)
set_option maxRecDepth 20000 in
theorem kX3_ratio {l : Launch}   (a0 : Int64) (a2 : Int64) (M : xm_M) : xm_C l yX3_ratio wX3_ratio ({ frames := 0, cells := 0, slots := 0, locals := 0 }) cL (fun g => [.long a0, .long a2]) M xm_Fl (fX3_ratio  a0 a2 M) := by
  refine xm_C.of (by decide) rfl (fun g => Nat.le_of_ble_eq_true rfl) ?_
  intro p e s m args below meth c D g A hX
  refine xm_lv (lv' := [(0, .long a0), (2, .long a2)]) rfl ?_
  unfold fX3_ratio
  refine xm_lload_n hX 1 dX3_ratio_0 rfl rfl ?_
  refine xm_lconst hX (v := 0) rfl dX3_ratio_1 ?_
  refine xm_lcmp hX dX3_ratio_2 ?_
  refine xm_if_ne hX (tgt := 10) dX3_ratio_3 rfl ?_ ?_
  · refine xm_lload_n hX 0 dX3_ratio_10 rfl rfl ?_
    refine xm_lload_n hX 1 dX3_ratio_11 rfl rfl ?_
    refine xm_ldiv hX dX3_ratio_12 ?_
    exact xm_lret hX dX3_ratio_13
  · refine xm_lconst hX (v := 0) rfl dX3_ratio_6 ?_
    refine xm_goto hX (tgt := 13) dX3_ratio_7 rfl ?_
    exact xm_lret hX dX3_ratio_13
-- ===== OdometryDesk.keep([III)V ['68']
theorem dX3_keep_0 : decode cX3_keep 0 = .ok (.iload_n 1, 1) := by decide +kernel
theorem dX3_keep_1 : decode cX3_keep 1 = .ok (.ifCond .lt 13, 3) := by decide +kernel
theorem dX3_keep_4 : decode cX3_keep 4 = .ok (.iload_n 1, 1) := by decide +kernel
theorem dX3_keep_5 : decode cX3_keep 5 = .ok (.aload_n 0, 1) := by decide +kernel
theorem dX3_keep_6 : decode cX3_keep 6 = .ok (.arraylength, 1) := by decide +kernel
theorem dX3_keep_7 : decode cX3_keep 7 = .ok (.if_icmp .ge 7, 3) := by decide +kernel
theorem dX3_keep_10 : decode cX3_keep 10 = .ok (.aload_n 0, 1) := by decide +kernel
theorem dX3_keep_11 : decode cX3_keep 11 = .ok (.iload_n 1, 1) := by decide +kernel
theorem dX3_keep_12 : decode cX3_keep 12 = .ok (.iload_n 2, 1) := by decide +kernel
theorem dX3_keep_13 : decode cX3_keep 13 = .ok (.iastore, 1) := by decide +kernel
theorem dX3_keep_14 : decode cX3_keep 14 = .ok (.return_, 1) := by decide +kernel
abbrev wX3_keep : List Cond := .code yX3_keep cX3_keep 3 none :: lw_gd
theorem hdX3_keep : (yX3_keep.cls ≠ "java/lang/invoke/MethodHandle" ∧ yX3_keep.cls ≠ "java/lang/invoke/VarHandle" ∧ (parseMethodDescriptor yX3_keep.desc).map (fun d => d.parameters.length) = some 3) := by decide +kernel
def fX3_keep (k : Nat) (n : Nat) (a1 : Int32) (a2 : Int32) (M : xm_M) : Option xm_M :=
  if a1 < 0 then some M else if ((Int32.ofNat n)) ≤ a1 then some M else if a1 < 0 ∨ n ≤ a1.toNatClampNeg then none else xm_lt (xm_s M k a1.toNatClampNeg a2) (fun M1 => some M1)
set_option maxRecDepth 20000 in
theorem kX3_keep {l : Launch} (k : Nat) (n : Nat) (hk : cL[k]? = some (.inl (0, .int, n))) (a1 : Int32) (a2 : Int32) (M : xm_M) : xm_C l yX3_keep wX3_keep ({ frames := 0, cells := 0, slots := 0, locals := 0 }) cL (fun g => [.ref (g.1 k), .int a1, .int a2]) M xm_Fv (fX3_keep k n a1 a2 M) := by
  refine xm_C.of (by decide) rfl (fun g => Nat.le_of_ble_eq_true rfl) ?_
  intro p e s m args below meth c D g A hX
  refine xm_lv (lv' := [(0, .ref (g.1 k)), (1, .int a1), (2, .int a2)]) rfl ?_
  unfold fX3_keep
  refine xm_iload_n hX 1 dX3_keep_0 rfl rfl ?_
  refine xm_if_lt hX (tgt := 14) dX3_keep_1 rfl ?_ ?_
  · exact xm_vret hX dX3_keep_14
  · refine xm_iload_n hX 1 dX3_keep_4 rfl rfl ?_
    refine xm_aload_n hX 0 dX3_keep_5 rfl rfl ?_
    refine xm_alen hX (v := (Int32.ofNat n)) hk rfl dX3_keep_6 ?_
    refine xm_icmp_ge hX (tgt := 14) dX3_keep_7 rfl ?_ ?_
    · exact xm_vret hX dX3_keep_14
    · refine xm_aload_n hX 0 dX3_keep_10 rfl rfl ?_
      refine xm_iload_n hX 1 dX3_keep_11 rfl rfl ?_
      refine xm_iload_n hX 2 dX3_keep_12 rfl rfl ?_
      refine xm_iast hX (n := n) hk dX3_keep_13 (fun M1 => ?_)
      exact xm_vret hX dX3_keep_14
-- ===== OdometryDesk$Way.keepKind(II)V ['49']
theorem dX2_keepKind_0 : decode cX2_keepKind 0 = .ok (.aload_n 0, 1) := by decide +kernel
theorem dX2_keepKind_1 : decode cX2_keepKind 1 = .ok (.getfield 16, 3) := by decide +kernel
theorem dX2_keepKind_4 : decode cX2_keepKind 4 = .ok (.iconst 0, 1) := by decide +kernel
theorem dX2_keepKind_5 : decode cX2_keepKind 5 = .ok (.iload_n 1, 1) := by decide +kernel
theorem dX2_keepKind_6 : decode cX2_keepKind 6 = .ok (.iload_n 2, 1) := by decide +kernel
theorem dX2_keepKind_7 : decode cX2_keepKind 7 = .ok (.invokestatic 109, 3) := by decide +kernel
theorem dX2_keepKind_10 : decode cX2_keepKind 10 = .ok (.aload_n 0, 1) := by decide +kernel
theorem dX2_keepKind_11 : decode cX2_keepKind 11 = .ok (.getfield 19, 3) := by decide +kernel
theorem dX2_keepKind_14 : decode cX2_keepKind 14 = .ok (.iload_n 2, 1) := by decide +kernel
theorem dX2_keepKind_15 : decode cX2_keepKind 15 = .ok (.aload_n 0, 1) := by decide +kernel
theorem dX2_keepKind_16 : decode cX2_keepKind 16 = .ok (.getfield 19, 3) := by decide +kernel
theorem dX2_keepKind_19 : decode cX2_keepKind 19 = .ok (.iload_n 2, 1) := by decide +kernel
theorem dX2_keepKind_20 : decode cX2_keepKind 20 = .ok (.invokestatic 113, 3) := by decide +kernel
theorem dX2_keepKind_23 : decode cX2_keepKind 23 = .ok (.iconst 1, 1) := by decide +kernel
theorem dX2_keepKind_24 : decode cX2_keepKind 24 = .ok (.iadd, 1) := by decide +kernel
theorem dX2_keepKind_25 : decode cX2_keepKind 25 = .ok (.invokestatic 116, 3) := by decide +kernel
theorem dX2_keepKind_28 : decode cX2_keepKind 28 = .ok (.return_, 1) := by decide +kernel
abbrev wX2_keepKind : List Cond := .code yX2_keepKind cX2_keepKind 3 none :: lw_gd
theorem hdX2_keepKind : (yX2_keepKind.cls ≠ "java/lang/invoke/MethodHandle" ∧ yX2_keepKind.cls ≠ "java/lang/invoke/VarHandle" ∧ (parseMethodDescriptor yX2_keepKind.desc).map (fun d => d.parameters.length) = some 2) := by decide +kernel
def fX2_keepKind  (a1 : Int32) (a2 : Int32) (M : xm_M) : Option xm_M :=
  xm_bv (fX3_keep_ 56 11 57 120 ((0 : Int32)) a1 a2 M) (fun M1 => xm_bi (fX3_item 68 5 a2 M1) (fun x3 M2 => xm_bv (fX3_keep 68 5 a2 (x3 + ((1 : Int32))) M2) (fun M4 => some M4)))
set_option maxRecDepth 20000 in
theorem kX2_keepKind {l : Launch}   (a1 : Int32) (a2 : Int32) (M : xm_M) : xm_C l yX2_keepKind wX2_keepKind ({ frames := 1, cells := 0, slots := 0, locals := 23 }) cL (fun g => [.ref (g.1 49), .int a1, .int a2]) M xm_Fv (fX2_keepKind  a1 a2 M) := by
  refine xm_C.of (by decide) rfl (fun g => Nat.le_of_ble_eq_true rfl) ?_
  intro p e s m args below meth c D g A hX
  refine xm_lv (lv' := [(0, .ref (g.1 49)), (1, .int a1), (2, .int a2)]) rfl ?_
  unfold fX2_keepKind
  refine xm_aload_n hX 0 dX2_keepKind_0 rfl rfl ?_
  refine xm_get hX (k := 49) (ci := 2) (j := 1) (C := RX2) (T := TX2) (N := 12) (v := .ref (g.1 56)) cL_49 rfl rfl rfl (by decide) (fun z hz => List.mem_cons_of_mem _ (iw_X2 z hz)) (List.mem_cons_of_mem _ gm_76) dX2_keepKind_1 ?_
  refine xm_iconst hX (v := 0) rfl dX2_keepKind_4 ?_
  refine xm_iload_n hX 1 dX2_keepKind_5 rfl rfl ?_
  refine xm_iload_n hX 2 dX2_keepKind_6 rfl rfl ?_
  refine xm_callv hX (xm_runSN hX (As := (fun g => [.ref (g.1 56), .int ((0 : Int32)), .int a1, .int a2])) (kX3_keep_ 56 11 57 120 cL_56 cL_rows_56 ((0 : Int32)) a1 a2 M) (xm_gN gm_173) rfl ⟨rfl, rfl⟩ nw_2 (List.mem_cons_of_mem _ gm_1) (List.mem_cons_of_mem _ gm_172) hdX3_keep_ ⟨Nat.le_of_ble_eq_true rfl, Nat.le_of_ble_eq_true rfl⟩ rfl (Nat.le_of_ble_eq_true rfl) rfl dX2_keepKind_7) (fun M1 => ?_)
  refine xm_aload_n hX 0 dX2_keepKind_10 rfl rfl ?_
  refine xm_get hX (k := 49) (ci := 2) (j := 2) (C := RX2) (T := TX2) (N := 12) (v := .ref (g.1 68)) cL_49 rfl rfl rfl (by decide) (fun z hz => List.mem_cons_of_mem _ (iw_X2 z hz)) (List.mem_cons_of_mem _ gm_78) dX2_keepKind_11 ?_
  refine xm_iload_n hX 2 dX2_keepKind_14 rfl rfl ?_
  refine xm_aload_n hX 0 dX2_keepKind_15 rfl rfl ?_
  refine xm_get hX (k := 49) (ci := 2) (j := 2) (C := RX2) (T := TX2) (N := 12) (v := .ref (g.1 68)) cL_49 rfl rfl rfl (by decide) (fun z hz => List.mem_cons_of_mem _ (iw_X2 z hz)) (List.mem_cons_of_mem _ gm_78) dX2_keepKind_16 ?_
  refine xm_iload_n hX 2 dX2_keepKind_19 rfl rfl ?_
  refine xm_calli hX (xm_runSN hX (As := (fun g => [.ref (g.1 68), .int a2])) (kX3_item 68 5 cL_68 a2 M1) (xm_gN gm_155) rfl ⟨rfl, rfl⟩ nw_5 (List.mem_cons_of_mem _ gm_1) (List.mem_cons_of_mem _ gm_154) hdX3_item ⟨Nat.le_of_ble_eq_true rfl, Nat.le_of_ble_eq_true rfl⟩ rfl (Nat.le_of_ble_eq_true rfl) rfl dX2_keepKind_20) (fun x3 M2 => ?_)
  refine xm_iconst hX (v := 1) rfl dX2_keepKind_23 ?_
  refine xm_iadd hX dX2_keepKind_24 ?_
  refine xm_callv hX (xm_runSN hX (As := (fun g => [.ref (g.1 68), .int a2, .int (x3 + ((1 : Int32)))])) (kX3_keep 68 5 cL_68 a2 (x3 + ((1 : Int32))) M2) (xm_gN gm_158) rfl ⟨rfl, rfl⟩ nw_6 (List.mem_cons_of_mem _ gm_1) (List.mem_cons_of_mem _ gm_157) hdX3_keep ⟨Nat.le_of_ble_eq_true rfl, Nat.le_of_ble_eq_true rfl⟩ rfl (Nat.le_of_ble_eq_true rfl) rfl dX2_keepKind_25) (fun M4 => ?_)
  exact xm_vret hX dX2_keepKind_28
-- ===== OdometryDesk$Way.weighStep([IIJJ)V ['49', 'ps']
theorem dX2_weighStep_0 : decode cX2_weighStep 0 = .ok (.ldc2_w 148, 3) := by decide +kernel
theorem dX2_weighStep_3 : decode cX2_weighStep 3 = .ok (.aload_n 1, 1) := by decide +kernel
theorem dX2_weighStep_4 : decode cX2_weighStep 4 = .ok (.iconst 2, 1) := by decide +kernel
theorem dX2_weighStep_5 : decode cX2_weighStep 5 = .ok (.invokestatic 113, 3) := by decide +kernel
theorem dX2_weighStep_8 : decode cX2_weighStep 8 = .ok (.i2l, 1) := by decide +kernel
theorem dX2_weighStep_9 : decode cX2_weighStep 9 = .ok (.lmul, 1) := by decide +kernel
theorem dX2_weighStep_10 : decode cX2_weighStep 10 = .ok (.lstore 7, 2) := by decide +kernel
theorem dX2_weighStep_12 : decode cX2_weighStep 12 = .ok (.lload 5, 2) := by decide +kernel
theorem dX2_weighStep_14 : decode cX2_weighStep 14 = .ok (.lload_n 3, 1) := by decide +kernel
theorem dX2_weighStep_15 : decode cX2_weighStep 15 = .ok (.lsub, 1) := by decide +kernel
theorem dX2_weighStep_16 : decode cX2_weighStep 16 = .ok (.ldc2_w 150, 3) := by decide +kernel
theorem dX2_weighStep_19 : decode cX2_weighStep 19 = .ok (.lmul, 1) := by decide +kernel
theorem dX2_weighStep_20 : decode cX2_weighStep 20 = .ok (.lload 7, 2) := by decide +kernel
theorem dX2_weighStep_22 : decode cX2_weighStep 22 = .ok (.invokestatic 106, 3) := by decide +kernel
theorem dX2_weighStep_25 : decode cX2_weighStep 25 = .ok (.lstore 9, 2) := by decide +kernel
theorem dX2_weighStep_27 : decode cX2_weighStep 27 = .ok (.aload_n 0, 1) := by decide +kernel
theorem dX2_weighStep_28 : decode cX2_weighStep 28 = .ok (.getfield 16, 3) := by decide +kernel
theorem dX2_weighStep_31 : decode cX2_weighStep 31 = .ok (.iconst 3, 1) := by decide +kernel
theorem dX2_weighStep_32 : decode cX2_weighStep 32 = .ok (.iload_n 2, 1) := by decide +kernel
theorem dX2_weighStep_33 : decode cX2_weighStep 33 = .ok (.invokestatic 91, 3) := by decide +kernel
theorem dX2_weighStep_36 : decode cX2_weighStep 36 = .ok (.aload_n 0, 1) := by decide +kernel
theorem dX2_weighStep_37 : decode cX2_weighStep 37 = .ok (.getfield 47, 3) := by decide +kernel
theorem dX2_weighStep_40 : decode cX2_weighStep 40 = .ok (.bipush 16, 2) := by decide +kernel
theorem dX2_weighStep_42 : decode cX2_weighStep 42 = .ok (.idiv, 1) := by decide +kernel
theorem dX2_weighStep_43 : decode cX2_weighStep 43 = .ok (.isub, 1) := by decide +kernel
theorem dX2_weighStep_44 : decode cX2_weighStep 44 = .ok (.i2l, 1) := by decide +kernel
theorem dX2_weighStep_45 : decode cX2_weighStep 45 = .ok (.lstore 11, 2) := by decide +kernel
theorem dX2_weighStep_47 : decode cX2_weighStep 47 = .ok (.aload_n 0, 1) := by decide +kernel
theorem dX2_weighStep_48 : decode cX2_weighStep 48 = .ok (.getfield 16, 3) := by decide +kernel
theorem dX2_weighStep_51 : decode cX2_weighStep 51 = .ok (.iconst 4, 1) := by decide +kernel
theorem dX2_weighStep_52 : decode cX2_weighStep 52 = .ok (.iload_n 2, 1) := by decide +kernel
theorem dX2_weighStep_53 : decode cX2_weighStep 53 = .ok (.lload 9, 2) := by decide +kernel
theorem dX2_weighStep_55 : decode cX2_weighStep 55 = .ok (.l2i, 1) := by decide +kernel
theorem dX2_weighStep_56 : decode cX2_weighStep 56 = .ok (.invokestatic 109, 3) := by decide +kernel
theorem dX2_weighStep_59 : decode cX2_weighStep 59 = .ok (.lload 9, 2) := by decide +kernel
theorem dX2_weighStep_61 : decode cX2_weighStep 61 = .ok (.lload 11, 2) := by decide +kernel
theorem dX2_weighStep_63 : decode cX2_weighStep 63 = .ok (.lsub, 1) := by decide +kernel
theorem dX2_weighStep_64 : decode cX2_weighStep 64 = .ok (.invokestatic 152, 3) := by decide +kernel
theorem dX2_weighStep_67 : decode cX2_weighStep 67 = .ok (.aload_n 1, 1) := by decide +kernel
theorem dX2_weighStep_68 : decode cX2_weighStep 68 = .ok (.iconst 3, 1) := by decide +kernel
theorem dX2_weighStep_69 : decode cX2_weighStep 69 = .ok (.invokestatic 113, 3) := by decide +kernel
theorem dX2_weighStep_72 : decode cX2_weighStep 72 = .ok (.i2l, 1) := by decide +kernel
theorem dX2_weighStep_73 : decode cX2_weighStep 73 = .ok (.lcmp, 1) := by decide +kernel
theorem dX2_weighStep_74 : decode cX2_weighStep 74 = .ok (.ifCond .gt 55, 3) := by decide +kernel
theorem dX2_weighStep_77 : decode cX2_weighStep 77 = .ok (.aload_n 1, 1) := by decide +kernel
theorem dX2_weighStep_78 : decode cX2_weighStep 78 = .ok (.iconst 4, 1) := by decide +kernel
theorem dX2_weighStep_79 : decode cX2_weighStep 79 = .ok (.invokestatic 113, 3) := by decide +kernel
theorem dX2_weighStep_82 : decode cX2_weighStep 82 = .ok (.istore 13, 2) := by decide +kernel
theorem dX2_weighStep_84 : decode cX2_weighStep 84 = .ok (.aload_n 0, 1) := by decide +kernel
theorem dX2_weighStep_85 : decode cX2_weighStep 85 = .ok (.iload_n 2, 1) := by decide +kernel
theorem dX2_weighStep_86 : decode cX2_weighStep 86 = .ok (.iconst 1, 1) := by decide +kernel
theorem dX2_weighStep_87 : decode cX2_weighStep 87 = .ok (.invokevirtual 125, 3) := by decide +kernel
theorem dX2_weighStep_90 : decode cX2_weighStep 90 = .ok (.aload_n 0, 1) := by decide +kernel
theorem dX2_weighStep_91 : decode cX2_weighStep 91 = .ok (.iload 13, 2) := by decide +kernel
theorem dX2_weighStep_93 : decode cX2_weighStep 93 = .ok (.i2l, 1) := by decide +kernel
theorem dX2_weighStep_94 : decode cX2_weighStep 94 = .ok (.lload 9, 2) := by decide +kernel
theorem dX2_weighStep_96 : decode cX2_weighStep 96 = .ok (.lmul, 1) := by decide +kernel
theorem dX2_weighStep_97 : decode cX2_weighStep 97 = .ok (.bipush 100, 2) := by decide +kernel
theorem dX2_weighStep_99 : decode cX2_weighStep 99 = .ok (.iload 13, 2) := by decide +kernel
theorem dX2_weighStep_101 : decode cX2_weighStep 101 = .ok (.isub, 1) := by decide +kernel
theorem dX2_weighStep_102 : decode cX2_weighStep 102 = .ok (.i2l, 1) := by decide +kernel
theorem dX2_weighStep_103 : decode cX2_weighStep 103 = .ok (.lload 11, 2) := by decide +kernel
theorem dX2_weighStep_105 : decode cX2_weighStep 105 = .ok (.lmul, 1) := by decide +kernel
theorem dX2_weighStep_106 : decode cX2_weighStep 106 = .ok (.ladd, 1) := by decide +kernel
theorem dX2_weighStep_107 : decode cX2_weighStep 107 = .ok (.ldc2_w 155, 3) := by decide +kernel
theorem dX2_weighStep_110 : decode cX2_weighStep 110 = .ok (.ldiv, 1) := by decide +kernel
theorem dX2_weighStep_111 : decode cX2_weighStep 111 = .ok (.l2i, 1) := by decide +kernel
theorem dX2_weighStep_112 : decode cX2_weighStep 112 = .ok (.putfield 136, 3) := by decide +kernel
theorem dX2_weighStep_115 : decode cX2_weighStep 115 = .ok (.aload_n 0, 1) := by decide +kernel
theorem dX2_weighStep_116 : decode cX2_weighStep 116 = .ok (.lload_n 3, 1) := by decide +kernel
theorem dX2_weighStep_117 : decode cX2_weighStep 117 = .ok (.lload 5, 2) := by decide +kernel
theorem dX2_weighStep_119 : decode cX2_weighStep 119 = .ok (.ladd, 1) := by decide +kernel
theorem dX2_weighStep_120 : decode cX2_weighStep 120 = .ok (.ldc2_w 157, 3) := by decide +kernel
theorem dX2_weighStep_123 : decode cX2_weighStep 123 = .ok (.ldiv, 1) := by decide +kernel
theorem dX2_weighStep_124 : decode cX2_weighStep 124 = .ok (.l2i, 1) := by decide +kernel
theorem dX2_weighStep_125 : decode cX2_weighStep 125 = .ok (.putfield 139, 3) := by decide +kernel
theorem dX2_weighStep_128 : decode cX2_weighStep 128 = .ok (.return_, 1) := by decide +kernel
theorem dX2_weighStep_129 : decode cX2_weighStep 129 = .ok (.lload 11, 2) := by decide +kernel
theorem dX2_weighStep_131 : decode cX2_weighStep 131 = .ok (.lload 7, 2) := by decide +kernel
theorem dX2_weighStep_133 : decode cX2_weighStep 133 = .ok (.lmul, 1) := by decide +kernel
theorem dX2_weighStep_134 : decode cX2_weighStep 134 = .ok (.ldc2_w 150, 3) := by decide +kernel
theorem dX2_weighStep_137 : decode cX2_weighStep 137 = .ok (.ldiv, 1) := by decide +kernel
theorem dX2_weighStep_138 : decode cX2_weighStep 138 = .ok (.lstore 13, 2) := by decide +kernel
theorem dX2_weighStep_140 : decode cX2_weighStep 140 = .ok (.lload 9, 2) := by decide +kernel
theorem dX2_weighStep_142 : decode cX2_weighStep 142 = .ok (.lload 11, 2) := by decide +kernel
theorem dX2_weighStep_144 : decode cX2_weighStep 144 = .ok (.lcmp, 1) := by decide +kernel
theorem dX2_weighStep_145 : decode cX2_weighStep 145 = .ok (.ifCond .le 7, 3) := by decide +kernel
theorem dX2_weighStep_148 : decode cX2_weighStep 148 = .ok (.iconst 1, 1) := by decide +kernel
theorem dX2_weighStep_149 : decode cX2_weighStep 149 = .ok (.goto 4, 3) := by decide +kernel
theorem dX2_weighStep_152 : decode cX2_weighStep 152 = .ok (.iconst 0, 1) := by decide +kernel
theorem dX2_weighStep_153 : decode cX2_weighStep 153 = .ok (.istore 15, 2) := by decide +kernel
theorem dX2_weighStep_155 : decode cX2_weighStep 155 = .ok (.aload_n 0, 1) := by decide +kernel
theorem dX2_weighStep_156 : decode cX2_weighStep 156 = .ok (.iload_n 2, 1) := by decide +kernel
theorem dX2_weighStep_157 : decode cX2_weighStep 157 = .ok (.iload 15, 2) := by decide +kernel
theorem dX2_weighStep_159 : decode cX2_weighStep 159 = .ok (.ifCond .eq 7, 3) := by decide +kernel
theorem dX2_weighStep_162 : decode cX2_weighStep 162 = .ok (.iconst 3, 1) := by decide +kernel
theorem dX2_weighStep_163 : decode cX2_weighStep 163 = .ok (.goto 4, 3) := by decide +kernel
theorem dX2_weighStep_166 : decode cX2_weighStep 166 = .ok (.iconst 2, 1) := by decide +kernel
theorem dX2_weighStep_167 : decode cX2_weighStep 167 = .ok (.invokevirtual 125, 3) := by decide +kernel
theorem dX2_weighStep_170 : decode cX2_weighStep 170 = .ok (.aload_n 0, 1) := by decide +kernel
theorem dX2_weighStep_171 : decode cX2_weighStep 171 = .ok (.lload 11, 2) := by decide +kernel
theorem dX2_weighStep_173 : decode cX2_weighStep 173 = .ok (.l2i, 1) := by decide +kernel
theorem dX2_weighStep_174 : decode cX2_weighStep 174 = .ok (.putfield 136, 3) := by decide +kernel
theorem dX2_weighStep_177 : decode cX2_weighStep 177 = .ok (.aload_n 0, 1) := by decide +kernel
theorem dX2_weighStep_178 : decode cX2_weighStep 178 = .ok (.iload 15, 2) := by decide +kernel
theorem dX2_weighStep_180 : decode cX2_weighStep 180 = .ok (.ifCond .eq 12, 3) := by decide +kernel
theorem dX2_weighStep_183 : decode cX2_weighStep 183 = .ok (.lload_n 3, 1) := by decide +kernel
theorem dX2_weighStep_184 : decode cX2_weighStep 184 = .ok (.lload_n 3, 1) := by decide +kernel
theorem dX2_weighStep_185 : decode cX2_weighStep 185 = .ok (.lload 13, 2) := by decide +kernel
theorem dX2_weighStep_187 : decode cX2_weighStep 187 = .ok (.ladd, 1) := by decide +kernel
theorem dX2_weighStep_188 : decode cX2_weighStep 188 = .ok (.ladd, 1) := by decide +kernel
theorem dX2_weighStep_189 : decode cX2_weighStep 189 = .ok (.goto 11, 3) := by decide +kernel
theorem dX2_weighStep_192 : decode cX2_weighStep 192 = .ok (.lload 5, 2) := by decide +kernel
theorem dX2_weighStep_194 : decode cX2_weighStep 194 = .ok (.lload 13, 2) := by decide +kernel
theorem dX2_weighStep_196 : decode cX2_weighStep 196 = .ok (.lsub, 1) := by decide +kernel
theorem dX2_weighStep_197 : decode cX2_weighStep 197 = .ok (.lload 5, 2) := by decide +kernel
theorem dX2_weighStep_199 : decode cX2_weighStep 199 = .ok (.ladd, 1) := by decide +kernel
theorem dX2_weighStep_200 : decode cX2_weighStep 200 = .ok (.ldc2_w 157, 3) := by decide +kernel
theorem dX2_weighStep_203 : decode cX2_weighStep 203 = .ok (.ldiv, 1) := by decide +kernel
theorem dX2_weighStep_204 : decode cX2_weighStep 204 = .ok (.l2i, 1) := by decide +kernel
theorem dX2_weighStep_205 : decode cX2_weighStep 205 = .ok (.putfield 139, 3) := by decide +kernel
theorem dX2_weighStep_208 : decode cX2_weighStep 208 = .ok (.return_, 1) := by decide +kernel
abbrev wX2_weighStep : List Cond := .code yX2_weighStep cX2_weighStep 16 none :: lw_gd
theorem hdX2_weighStep : (yX2_weighStep.cls ≠ "java/lang/invoke/MethodHandle" ∧ yX2_weighStep.cls ≠ "java/lang/invoke/VarHandle" ∧ (parseMethodDescriptor yX2_weighStep.desc).map (fun d => d.parameters.length) = some 4) := by decide +kernel
def fX2_weighStep_200 (ps : Nat)  (s0 : Int64) (M : xm_M) : Option xm_M :=
  if ((2 : Int64)) = 0 then none else xm_lt (xm_s M 49 11 ((s0 / ((2 : Int64))).toInt32)) (fun M15 => some M15)
set_option maxRecDepth 20000 in
theorem tfX2_weighStep_200 {p : Program} {l : Launch} {e : Env} {s : State} {m : MethodId} {args : Array Value} {below : List Frame} {meth : Method} {c : Code} {D : va_G} {g : xm_G} {A : Nat → Prop} (hX : xm_X p m meth c cX2_weighStep 16 s args wX2_weighStep RX2 none D cL g A) (ps : Nat) (hps : cL[ps]? = some (.inl (0, .int, 9)))   : ∀ (s0 : Int64), ∀ (M : xm_M), xm_J p l e ({ frames := 2, cells := 0, slots := 0, locals := 45 }) s m args below meth c 16 D cL g A (xm_Fv g) 200 [] [.long s0, .ref (g.1 49)] M (fX2_weighStep_200 ps s0 M) := by
  intro s0 M
  unfold fX2_weighStep_200
  refine xm_ldc2 hX (v := 2) (List.mem_cons_of_mem _ gm_258) dX2_weighStep_200 ?_
  refine xm_ldiv hX dX2_weighStep_203 ?_
  refine xm_l2i hX dX2_weighStep_204 ?_
  refine xm_puti hX (k := 49) (ci := 2) (j := 11) (C := RX2) (T := TX2) (N := 12) (t0 := tyX2) cL_49 rfl rfl (by decide) (fun z hz => List.mem_cons_of_mem _ (iw_X2 z hz)) tyX2_ok nmX2 rfl rfl (List.mem_cons_of_mem _ gm_94) dX2_weighStep_205 (fun M15 => ?_)
  exact xm_vret hX dX2_weighStep_208
def fX2_weighStep_167 (ps : Nat)  (b3 : Int64) (b5 : Int64) (b11 : Int64) (b13 : Int64) (b15 : Int32) (s0 : Int32) (s1 : Int32) (M : xm_M) : Option xm_M :=
  xm_bv (fX2_keepKind s1 s0 M) (fun M13 => xm_lt (xm_s M13 49 10 b11.toInt32) (fun M14 => if b15 = 0 then fX2_weighStep_200 ps ((b5 - b13) + b5) M14 else fX2_weighStep_200 ps (b3 + (b3 + b13)) M14))
set_option maxRecDepth 20000 in
theorem tfX2_weighStep_167 {p : Program} {l : Launch} {e : Env} {s : State} {m : MethodId} {args : Array Value} {below : List Frame} {meth : Method} {c : Code} {D : va_G} {g : xm_G} {A : Nat → Prop} (hX : xm_X p m meth c cX2_weighStep 16 s args wX2_weighStep RX2 none D cL g A) (ps : Nat) (hps : cL[ps]? = some (.inl (0, .int, 9)))   : ∀ (b3 : Int64), ∀ (b5 : Int64), ∀ (b11 : Int64), ∀ (b13 : Int64), ∀ (b15 : Int32), ∀ (s0 : Int32), ∀ (s1 : Int32), ∀ (M : xm_M), xm_J p l e ({ frames := 2, cells := 0, slots := 0, locals := 45 }) s m args below meth c 16 D cL g A (xm_Fv g) 167 [(0, .ref (g.1 49)), (3, .long b3), (5, .long b5), (11, .long b11), (13, .long b13), (15, .int b15)] [.int s0, .int s1, .ref (g.1 49)] M (fX2_weighStep_167 ps b3 b5 b11 b13 b15 s0 s1 M) := by
  intro b3 b5 b11 b13 b15 s0 s1 M
  unfold fX2_weighStep_167
  refine xm_callv hX (xm_runV hX (k := 49) (ci := 2) (As := (fun g => [.int s1, .int s0])) (kX2_keepKind s1 s0 M) cL_49 rfl (xm_gV gm_238 gm_239 gm_699 gm_3 gm_240) rfl ⟨rfl, rfl⟩ ⟨rfl, hdX2_keepKind⟩ ⟨Nat.le_of_ble_eq_true rfl, Nat.le_of_ble_eq_true rfl⟩ rfl (Nat.le_of_ble_eq_true rfl) rfl dX2_weighStep_167) (fun M13 => ?_)
  refine xm_aload_n hX 0 dX2_weighStep_170 rfl rfl ?_
  refine xm_lload hX 3 dX2_weighStep_171 rfl ?_
  refine xm_l2i hX dX2_weighStep_173 ?_
  refine xm_puti hX (k := 49) (ci := 2) (j := 10) (C := RX2) (T := TX2) (N := 12) (t0 := tyX2) cL_49 rfl rfl (by decide) (fun z hz => List.mem_cons_of_mem _ (iw_X2 z hz)) tyX2_ok nmX2 rfl rfl (List.mem_cons_of_mem _ gm_93) dX2_weighStep_174 (fun M14 => ?_)
  refine xm_aload_n hX 0 dX2_weighStep_177 rfl rfl ?_
  refine xm_iload hX 5 dX2_weighStep_178 rfl ?_
  refine xm_if_eq hX (tgt := 192) dX2_weighStep_180 rfl ?_ ?_
  · refine xm_lload hX 2 dX2_weighStep_192 rfl ?_
    refine xm_lload hX 4 dX2_weighStep_194 rfl ?_
    refine xm_lsub hX dX2_weighStep_196 ?_
    refine xm_lload hX 2 dX2_weighStep_197 rfl ?_
    refine xm_ladd hX dX2_weighStep_199 ?_
    refine xm_weak [] (lv' := []) rfl ?_
    exact tfX2_weighStep_200 hX ps hps ((b5 - b13) + b5) M14
  · refine xm_lload_n hX 1 dX2_weighStep_183 rfl rfl ?_
    refine xm_lload_n hX 1 dX2_weighStep_184 rfl rfl ?_
    refine xm_lload hX 4 dX2_weighStep_185 rfl ?_
    refine xm_ladd hX dX2_weighStep_187 ?_
    refine xm_ladd hX dX2_weighStep_188 ?_
    refine xm_goto hX (tgt := 200) dX2_weighStep_189 rfl ?_
    refine xm_weak [] (lv' := []) rfl ?_
    exact tfX2_weighStep_200 hX ps hps (b3 + (b3 + b13)) M14
def fX2_weighStep_153 (ps : Nat)  (b2 : Int32) (b3 : Int64) (b5 : Int64) (b11 : Int64) (b13 : Int64) (s0 : Int32) (M : xm_M) : Option xm_M :=
  if s0 = 0 then fX2_weighStep_167 ps b3 b5 b11 b13 s0 ((2 : Int32)) b2 M else fX2_weighStep_167 ps b3 b5 b11 b13 s0 ((3 : Int32)) b2 M
set_option maxRecDepth 20000 in
theorem tfX2_weighStep_153 {p : Program} {l : Launch} {e : Env} {s : State} {m : MethodId} {args : Array Value} {below : List Frame} {meth : Method} {c : Code} {D : va_G} {g : xm_G} {A : Nat → Prop} (hX : xm_X p m meth c cX2_weighStep 16 s args wX2_weighStep RX2 none D cL g A) (ps : Nat) (hps : cL[ps]? = some (.inl (0, .int, 9)))   : ∀ (b2 : Int32), ∀ (b3 : Int64), ∀ (b5 : Int64), ∀ (b11 : Int64), ∀ (b13 : Int64), ∀ (s0 : Int32), ∀ (M : xm_M), xm_J p l e ({ frames := 2, cells := 0, slots := 0, locals := 45 }) s m args below meth c 16 D cL g A (xm_Fv g) 153 [(0, .ref (g.1 49)), (2, .int b2), (3, .long b3), (5, .long b5), (11, .long b11), (13, .long b13)] [.int s0] M (fX2_weighStep_153 ps b2 b3 b5 b11 b13 s0 M) := by
  intro b2 b3 b5 b11 b13 s0 M
  unfold fX2_weighStep_153
  refine xm_istore hX (lv' := [(15, .int s0), (0, .ref (g.1 49)), (2, .int b2), (3, .long b3), (5, .long b5), (11, .long b11), (13, .long b13)]) dX2_weighStep_153 (by decide) rfl ?_
  refine xm_aload_n hX 1 dX2_weighStep_155 rfl rfl ?_
  refine xm_iload_n hX 2 dX2_weighStep_156 rfl rfl ?_
  refine xm_iload hX 0 dX2_weighStep_157 rfl ?_
  refine xm_if_eq hX (tgt := 166) dX2_weighStep_159 rfl ?_ ?_
  · refine xm_iconst hX (v := 2) rfl dX2_weighStep_166 ?_
    refine xm_weak [1, 3, 4, 5, 6, 0] (lv' := [(0, .ref (g.1 49)), (3, .long b3), (5, .long b5), (11, .long b11), (13, .long b13), (15, .int s0)]) rfl ?_
    exact tfX2_weighStep_167 hX ps hps b3 b5 b11 b13 s0 ((2 : Int32)) b2 M
  · refine xm_iconst hX (v := 3) rfl dX2_weighStep_162 ?_
    refine xm_goto hX (tgt := 167) dX2_weighStep_163 rfl ?_
    refine xm_weak [1, 3, 4, 5, 6, 0] (lv' := [(0, .ref (g.1 49)), (3, .long b3), (5, .long b5), (11, .long b11), (13, .long b13), (15, .int s0)]) rfl ?_
    exact tfX2_weighStep_167 hX ps hps b3 b5 b11 b13 s0 ((3 : Int32)) b2 M
def fX2_weighStep (ps : Nat) (a2 : Int32) (a3 : Int64) (a5 : Int64) (M : xm_M) : Option xm_M :=
  xm_bi (fX3_item ps 9 ((2 : Int32)) M) (fun x2 M1 => xm_lt (((1000 : Int64)) * x2.toInt64) (fun x3 => xm_bl (fX3_ratio ((a5 - a3) * ((572958 : Int64))) x3 M1) (fun x5 M4 => xm_bi (fX3_item_ 56 11 57 120 ((3 : Int32)) a2 M4) (fun x7 M6 => if ((16 : Int32)) = 0 then none else xm_lt ((x7 - ((M6.1 49 7) / ((16 : Int32)))).toInt64) (fun x8 => xm_bv (fX3_keep_ 56 11 57 120 ((4 : Int32)) a2 x5.toInt32 M6) (fun M9 => xm_bi (fX3_item ps 9 ((3 : Int32)) M9) (fun x11 M10 => if 0 < (lg_cmp (if 0 < (x5 - x8) then (x5 - x8) else -(x5 - x8)) x11.toInt64) then if ((572958 : Int64)) = 0 then none else xm_lt ((x8 * x3) / ((572958 : Int64))) (fun x12 => if (lg_cmp x5 x8) ≤ 0 then fX2_weighStep_153 ps a2 a3 a5 x8 x12 ((0 : Int32)) M10 else fX2_weighStep_153 ps a2 a3 a5 x8 x12 ((1 : Int32)) M10) else xm_bi (fX3_item ps 9 ((4 : Int32)) M10) (fun x17 M16 => xm_bv (fX2_keepKind a2 ((1 : Int32)) M16) (fun M18 => if ((100 : Int64)) = 0 then none else xm_lt (xm_s M18 49 10 ((((x17.toInt64 * x5) + (((((100 : Int32)) - x17).toInt64) * x8)) / ((100 : Int64))).toInt32)) (fun M19 => if ((2 : Int64)) = 0 then none else xm_lt (xm_s M19 49 11 (((a3 + a5) / ((2 : Int64))).toInt32)) (fun M20 => some M20)))))))))))
set_option maxRecDepth 20000 in
theorem kX2_weighStep {l : Launch} (ps : Nat) (hps : cL[ps]? = some (.inl (0, .int, 9))) (a2 : Int32) (a3 : Int64) (a5 : Int64) (M : xm_M) : xm_C l yX2_weighStep wX2_weighStep ({ frames := 2, cells := 0, slots := 0, locals := 45 }) cL (fun g => [.ref (g.1 49), .ref (g.1 ps), .int a2, .long a3, .long a5]) M xm_Fv (fX2_weighStep ps a2 a3 a5 M) := by
  refine xm_C.of (by decide) rfl (fun g => Nat.le_of_ble_eq_true rfl) ?_
  intro p e s m args below meth c D g A hX
  refine xm_lv (lv' := [(0, .ref (g.1 49)), (1, .ref (g.1 ps)), (2, .int a2), (3, .long a3), (5, .long a5)]) rfl ?_
  unfold fX2_weighStep
  refine xm_ldc2 hX (v := 1000) (List.mem_cons_of_mem _ gm_252) dX2_weighStep_0 ?_
  refine xm_aload_n hX 1 dX2_weighStep_3 rfl rfl ?_
  refine xm_iconst hX (v := 2) rfl dX2_weighStep_4 ?_
  refine xm_calli hX (xm_runSN hX (As := (fun g => [.ref (g.1 ps), .int ((2 : Int32))])) (kX3_item ps 9 hps ((2 : Int32)) M) (xm_gN gm_155) rfl ⟨rfl, rfl⟩ nw_5 (List.mem_cons_of_mem _ gm_1) (List.mem_cons_of_mem _ gm_154) hdX3_item ⟨Nat.le_of_ble_eq_true rfl, Nat.le_of_ble_eq_true rfl⟩ rfl (Nat.le_of_ble_eq_true rfl) rfl dX2_weighStep_5) (fun x2 M1 => ?_)
  refine xm_i2l hX dX2_weighStep_8 ?_
  refine xm_lmul hX dX2_weighStep_9 ?_
  refine xm_nml (fun x3 => ?_)
  refine xm_lstore hX (lv' := [(7, .long x3), (0, .ref (g.1 49)), (1, .ref (g.1 ps)), (2, .int a2), (3, .long a3), (5, .long a5)]) dX2_weighStep_10 (by decide) rfl ?_
  refine xm_lload hX 5 dX2_weighStep_12 rfl ?_
  refine xm_lload_n hX 4 dX2_weighStep_14 rfl rfl ?_
  refine xm_lsub hX dX2_weighStep_15 ?_
  refine xm_ldc2 hX (v := 572958) (List.mem_cons_of_mem _ gm_253) dX2_weighStep_16 ?_
  refine xm_lmul hX dX2_weighStep_19 ?_
  refine xm_lload hX 0 dX2_weighStep_20 rfl ?_
  refine xm_calll hX (xm_runSN hX (As := (fun g => [.long ((a5 - a3) * ((572958 : Int64))), .long x3])) (kX3_ratio ((a5 - a3) * ((572958 : Int64))) x3 M1) (xm_gN gm_248) rfl ⟨rfl, rfl⟩ nw_7 (List.mem_cons_of_mem _ gm_1) (List.mem_cons_of_mem _ gm_247) hdX3_ratio ⟨Nat.le_of_ble_eq_true rfl, Nat.le_of_ble_eq_true rfl⟩ rfl (Nat.le_of_ble_eq_true rfl) rfl dX2_weighStep_22) (fun x5 M4 => ?_)
  refine xm_lstore hX (lv' := [(9, .long x5), (7, .long x3), (0, .ref (g.1 49)), (1, .ref (g.1 ps)), (2, .int a2), (3, .long a3), (5, .long a5)]) dX2_weighStep_25 (by decide) rfl ?_
  refine xm_aload_n hX 2 dX2_weighStep_27 rfl rfl ?_
  refine xm_get hX (k := 49) (ci := 2) (j := 1) (C := RX2) (T := TX2) (N := 12) (v := .ref (g.1 56)) cL_49 rfl rfl rfl (by decide) (fun z hz => List.mem_cons_of_mem _ (iw_X2 z hz)) (List.mem_cons_of_mem _ gm_76) dX2_weighStep_28 ?_
  refine xm_iconst hX (v := 3) rfl dX2_weighStep_31 ?_
  refine xm_iload_n hX 4 dX2_weighStep_32 rfl rfl ?_
  refine xm_calli hX (xm_runSN hX (As := (fun g => [.ref (g.1 56), .int ((3 : Int32)), .int a2])) (kX3_item_ 56 11 57 120 cL_56 cL_rows_56 ((3 : Int32)) a2 M4) (xm_gN gm_234) rfl ⟨rfl, rfl⟩ nw_4 (List.mem_cons_of_mem _ gm_1) (List.mem_cons_of_mem _ gm_233) hdX3_item_ ⟨Nat.le_of_ble_eq_true rfl, Nat.le_of_ble_eq_true rfl⟩ rfl (Nat.le_of_ble_eq_true rfl) rfl dX2_weighStep_33) (fun x7 M6 => ?_)
  refine xm_aload_n hX 2 dX2_weighStep_36 rfl rfl ?_
  refine xm_get hX (k := 49) (ci := 2) (j := 7) (C := RX2) (T := TX2) (N := 12) (v := .int (M6.1 49 7)) cL_49 rfl rfl rfl (by decide) (fun z hz => List.mem_cons_of_mem _ (iw_X2 z hz)) (List.mem_cons_of_mem _ gm_88) dX2_weighStep_37 ?_
  refine xm_bipush hX (v := 16) rfl dX2_weighStep_40 ?_
  refine xm_idiv hX dX2_weighStep_42 ?_
  refine xm_isub hX dX2_weighStep_43 ?_
  refine xm_i2l hX dX2_weighStep_44 ?_
  refine xm_nml (fun x8 => ?_)
  refine xm_lstore hX (lv' := [(11, .long x8), (9, .long x5), (7, .long x3), (0, .ref (g.1 49)), (1, .ref (g.1 ps)), (2, .int a2), (3, .long a3), (5, .long a5)]) dX2_weighStep_45 (by decide) rfl ?_
  refine xm_aload_n hX 3 dX2_weighStep_47 rfl rfl ?_
  refine xm_get hX (k := 49) (ci := 2) (j := 1) (C := RX2) (T := TX2) (N := 12) (v := .ref (g.1 56)) cL_49 rfl rfl rfl (by decide) (fun z hz => List.mem_cons_of_mem _ (iw_X2 z hz)) (List.mem_cons_of_mem _ gm_76) dX2_weighStep_48 ?_
  refine xm_iconst hX (v := 4) rfl dX2_weighStep_51 ?_
  refine xm_iload_n hX 5 dX2_weighStep_52 rfl rfl ?_
  refine xm_lload hX 1 dX2_weighStep_53 rfl ?_
  refine xm_l2i hX dX2_weighStep_55 ?_
  refine xm_callv hX (xm_runSN hX (As := (fun g => [.ref (g.1 56), .int ((4 : Int32)), .int a2, .int (x5.toInt32)])) (kX3_keep_ 56 11 57 120 cL_56 cL_rows_56 ((4 : Int32)) a2 x5.toInt32 M6) (xm_gN gm_173) rfl ⟨rfl, rfl⟩ nw_2 (List.mem_cons_of_mem _ gm_1) (List.mem_cons_of_mem _ gm_172) hdX3_keep_ ⟨Nat.le_of_ble_eq_true rfl, Nat.le_of_ble_eq_true rfl⟩ rfl (Nat.le_of_ble_eq_true rfl) rfl dX2_weighStep_56) (fun M9 => ?_)
  refine xm_lload hX 1 dX2_weighStep_59 rfl ?_
  refine xm_lload hX 0 dX2_weighStep_61 rfl ?_
  refine xm_lsub hX dX2_weighStep_63 ?_
  refine xm_mabsl hX (List.mem_cons_of_mem _ gm_254) (List.mem_cons_of_mem _ gm_255) (List.mem_cons_of_mem _ gm_6) (List.mem_cons_of_mem _ gm_256) (Nat.le_of_ble_eq_true rfl) (Nat.le_of_ble_eq_true rfl) dX2_weighStep_64 ?_
  refine xm_aload_n hX 4 dX2_weighStep_67 rfl rfl ?_
  refine xm_iconst hX (v := 3) rfl dX2_weighStep_68 ?_
  refine xm_calli hX (xm_runSN hX (As := (fun g => [.ref (g.1 ps), .int ((3 : Int32))])) (kX3_item ps 9 hps ((3 : Int32)) M9) (xm_gN gm_155) rfl ⟨rfl, rfl⟩ nw_5 (List.mem_cons_of_mem _ gm_1) (List.mem_cons_of_mem _ gm_154) hdX3_item ⟨Nat.le_of_ble_eq_true rfl, Nat.le_of_ble_eq_true rfl⟩ rfl (Nat.le_of_ble_eq_true rfl) rfl dX2_weighStep_69) (fun x11 M10 => ?_)
  refine xm_i2l hX dX2_weighStep_72 ?_
  refine xm_lcmp hX dX2_weighStep_73 ?_
  refine xm_if_gt hX (tgt := 129) dX2_weighStep_74 rfl ?_ ?_
  · refine xm_lload hX 0 dX2_weighStep_129 rfl ?_
    refine xm_lload hX 2 dX2_weighStep_131 rfl ?_
    refine xm_lmul hX dX2_weighStep_133 ?_
    refine xm_ldc2 hX (v := 572958) (List.mem_cons_of_mem _ gm_253) dX2_weighStep_134 ?_
    refine xm_ldiv hX dX2_weighStep_137 ?_
    refine xm_nml (fun x12 => ?_)
    refine xm_lstore hX (lv' := [(13, .long x12), (11, .long x8), (9, .long x5), (7, .long x3), (0, .ref (g.1 49)), (1, .ref (g.1 ps)), (2, .int a2), (3, .long a3), (5, .long a5)]) dX2_weighStep_138 (by decide) rfl ?_
    refine xm_lload hX 2 dX2_weighStep_140 rfl ?_
    refine xm_lload hX 1 dX2_weighStep_142 rfl ?_
    refine xm_lcmp hX dX2_weighStep_144 ?_
    refine xm_if_le hX (tgt := 152) dX2_weighStep_145 rfl ?_ ?_
    · refine xm_iconst hX (v := 0) rfl dX2_weighStep_152 ?_
      refine xm_weak [4, 6, 7, 8, 1, 0] (lv' := [(0, .ref (g.1 49)), (2, .int a2), (3, .long a3), (5, .long a5), (11, .long x8), (13, .long x12)]) rfl ?_
      exact tfX2_weighStep_153 hX ps hps a2 a3 a5 x8 x12 ((0 : Int32)) M10
    · refine xm_iconst hX (v := 1) rfl dX2_weighStep_148 ?_
      refine xm_goto hX (tgt := 153) dX2_weighStep_149 rfl ?_
      refine xm_weak [4, 6, 7, 8, 1, 0] (lv' := [(0, .ref (g.1 49)), (2, .int a2), (3, .long a3), (5, .long a5), (11, .long x8), (13, .long x12)]) rfl ?_
      exact tfX2_weighStep_153 hX ps hps a2 a3 a5 x8 x12 ((1 : Int32)) M10
  · refine xm_aload_n hX 4 dX2_weighStep_77 rfl rfl ?_
    refine xm_iconst hX (v := 4) rfl dX2_weighStep_78 ?_
    refine xm_calli hX (xm_runSN hX (As := (fun g => [.ref (g.1 ps), .int ((4 : Int32))])) (kX3_item ps 9 hps ((4 : Int32)) M10) (xm_gN gm_155) rfl ⟨rfl, rfl⟩ nw_5 (List.mem_cons_of_mem _ gm_1) (List.mem_cons_of_mem _ gm_154) hdX3_item ⟨Nat.le_of_ble_eq_true rfl, Nat.le_of_ble_eq_true rfl⟩ rfl (Nat.le_of_ble_eq_true rfl) rfl dX2_weighStep_79) (fun x17 M16 => ?_)
    refine xm_istore hX (lv' := [(13, .int x17), (11, .long x8), (9, .long x5), (7, .long x3), (0, .ref (g.1 49)), (1, .ref (g.1 ps)), (2, .int a2), (3, .long a3), (5, .long a5)]) dX2_weighStep_82 (by decide) rfl ?_
    refine xm_aload_n hX 4 dX2_weighStep_84 rfl rfl ?_
    refine xm_iload_n hX 6 dX2_weighStep_85 rfl rfl ?_
    refine xm_iconst hX (v := 1) rfl dX2_weighStep_86 ?_
    refine xm_callv hX (xm_runV hX (k := 49) (ci := 2) (As := (fun g => [.int a2, .int ((1 : Int32))])) (kX2_keepKind a2 ((1 : Int32)) M16) cL_49 rfl (xm_gV gm_238 gm_239 gm_699 gm_3 gm_240) rfl ⟨rfl, rfl⟩ ⟨rfl, hdX2_keepKind⟩ ⟨Nat.le_of_ble_eq_true rfl, Nat.le_of_ble_eq_true rfl⟩ rfl (Nat.le_of_ble_eq_true rfl) rfl dX2_weighStep_87) (fun M18 => ?_)
    refine xm_aload_n hX 4 dX2_weighStep_90 rfl rfl ?_
    refine xm_iload hX 0 dX2_weighStep_91 rfl ?_
    refine xm_i2l hX dX2_weighStep_93 ?_
    refine xm_lload hX 2 dX2_weighStep_94 rfl ?_
    refine xm_lmul hX dX2_weighStep_96 ?_
    refine xm_bipush hX (v := 100) rfl dX2_weighStep_97 ?_
    refine xm_iload hX 0 dX2_weighStep_99 rfl ?_
    refine xm_isub hX dX2_weighStep_101 ?_
    refine xm_i2l hX dX2_weighStep_102 ?_
    refine xm_lload hX 1 dX2_weighStep_103 rfl ?_
    refine xm_lmul hX dX2_weighStep_105 ?_
    refine xm_ladd hX dX2_weighStep_106 ?_
    refine xm_ldc2 hX (v := 100) (List.mem_cons_of_mem _ gm_257) dX2_weighStep_107 ?_
    refine xm_ldiv hX dX2_weighStep_110 ?_
    refine xm_l2i hX dX2_weighStep_111 ?_
    refine xm_puti hX (k := 49) (ci := 2) (j := 10) (C := RX2) (T := TX2) (N := 12) (t0 := tyX2) cL_49 rfl rfl (by decide) (fun z hz => List.mem_cons_of_mem _ (iw_X2 z hz)) tyX2_ok nmX2 rfl rfl (List.mem_cons_of_mem _ gm_93) dX2_weighStep_112 (fun M19 => ?_)
    refine xm_aload_n hX 4 dX2_weighStep_115 rfl rfl ?_
    refine xm_lload_n hX 7 dX2_weighStep_116 rfl rfl ?_
    refine xm_lload hX 8 dX2_weighStep_117 rfl ?_
    refine xm_ladd hX dX2_weighStep_119 ?_
    refine xm_ldc2 hX (v := 2) (List.mem_cons_of_mem _ gm_258) dX2_weighStep_120 ?_
    refine xm_ldiv hX dX2_weighStep_123 ?_
    refine xm_l2i hX dX2_weighStep_124 ?_
    refine xm_puti hX (k := 49) (ci := 2) (j := 11) (C := RX2) (T := TX2) (N := 12) (t0 := tyX2) cL_49 rfl rfl (by decide) (fun z hz => List.mem_cons_of_mem _ (iw_X2 z hz)) tyX2_ok nmX2 rfl rfl (List.mem_cons_of_mem _ gm_94) dX2_weighStep_125 (fun M20 => ?_)
    exact xm_vret hX dX2_weighStep_128
-- ===== java/lang/Math.floorMod(JJ)J
theorem dJ9_floorMod_f86c9_0 : decode cJ9_floorMod_f86c9 0 = .ok (.lload_n 0, 1) := by decide +kernel
theorem dJ9_floorMod_f86c9_1 : decode cJ9_floorMod_f86c9 1 = .ok (.lload_n 2, 1) := by decide +kernel
theorem dJ9_floorMod_f86c9_2 : decode cJ9_floorMod_f86c9 2 = .ok (.lrem, 1) := by decide +kernel
theorem dJ9_floorMod_f86c9_3 : decode cJ9_floorMod_f86c9 3 = .ok (.lstore 4, 2) := by decide +kernel
theorem dJ9_floorMod_f86c9_5 : decode cJ9_floorMod_f86c9 5 = .ok (.lload_n 0, 1) := by decide +kernel
theorem dJ9_floorMod_f86c9_6 : decode cJ9_floorMod_f86c9 6 = .ok (.lload_n 2, 1) := by decide +kernel
theorem dJ9_floorMod_f86c9_7 : decode cJ9_floorMod_f86c9 7 = .ok (.lxor, 1) := by decide +kernel
theorem dJ9_floorMod_f86c9_8 : decode cJ9_floorMod_f86c9 8 = .ok (.lconst 0, 1) := by decide +kernel
theorem dJ9_floorMod_f86c9_9 : decode cJ9_floorMod_f86c9 9 = .ok (.lcmp, 1) := by decide +kernel
theorem dJ9_floorMod_f86c9_10 : decode cJ9_floorMod_f86c9 10 = .ok (.ifCond .ge 15, 3) := by decide +kernel
theorem dJ9_floorMod_f86c9_13 : decode cJ9_floorMod_f86c9 13 = .ok (.lload 4, 2) := by decide +kernel
theorem dJ9_floorMod_f86c9_15 : decode cJ9_floorMod_f86c9 15 = .ok (.lconst 0, 1) := by decide +kernel
theorem dJ9_floorMod_f86c9_16 : decode cJ9_floorMod_f86c9 16 = .ok (.lcmp, 1) := by decide +kernel
theorem dJ9_floorMod_f86c9_17 : decode cJ9_floorMod_f86c9 17 = .ok (.ifCond .eq 8, 3) := by decide +kernel
theorem dJ9_floorMod_f86c9_20 : decode cJ9_floorMod_f86c9 20 = .ok (.lload 4, 2) := by decide +kernel
theorem dJ9_floorMod_f86c9_22 : decode cJ9_floorMod_f86c9 22 = .ok (.lload_n 2, 1) := by decide +kernel
theorem dJ9_floorMod_f86c9_23 : decode cJ9_floorMod_f86c9 23 = .ok (.ladd, 1) := by decide +kernel
theorem dJ9_floorMod_f86c9_24 : decode cJ9_floorMod_f86c9 24 = .ok (.lreturn, 1) := by decide +kernel
theorem dJ9_floorMod_f86c9_25 : decode cJ9_floorMod_f86c9 25 = .ok (.lload 4, 2) := by decide +kernel
theorem dJ9_floorMod_f86c9_27 : decode cJ9_floorMod_f86c9 27 = .ok (.lreturn, 1) := by decide +kernel
abbrev wJ9_floorMod_f86c9 : List Cond := .code yJ9_floorMod_f86c9 cJ9_floorMod_f86c9 6 (some .long) :: lw_gd
theorem hdJ9_floorMod_f86c9 : (yJ9_floorMod_f86c9.cls ≠ "java/lang/invoke/MethodHandle" ∧ yJ9_floorMod_f86c9.cls ≠ "java/lang/invoke/VarHandle" ∧ (parseMethodDescriptor yJ9_floorMod_f86c9.desc).map (fun d => d.parameters.length) = some 2) := by decide +kernel
def fJ9_floorMod_f86c9_25   (b4 : Int64) (M : xm_M) : Option (Int64 × xm_M) :=
  some (b4, M)
set_option maxRecDepth 20000 in
theorem tfJ9_floorMod_f86c9_25 {p : Program} {l : Launch} {e : Env} {s : State} {m : MethodId} {args : Array Value} {below : List Frame} {meth : Method} {c : Code} {D : va_G} {g : xm_G} {A : Nat → Prop} (hX : xm_X p m meth c cJ9_floorMod_f86c9 6 s args wJ9_floorMod_f86c9 RJ9 (some .long) D cL g A)     : ∀ (b4 : Int64), ∀ (M : xm_M), xm_J p l e ({ frames := 0, cells := 0, slots := 0, locals := 0 }) s m args below meth c 6 D cL g A (xm_Fl g) 25 [(4, .long b4)] [] M (fJ9_floorMod_f86c9_25 b4 M) := by
  intro b4 M
  unfold fJ9_floorMod_f86c9_25
  refine xm_lload hX 0 dJ9_floorMod_f86c9_25 rfl ?_
  exact xm_lret hX dJ9_floorMod_f86c9_27
def fJ9_floorMod_f86c9  (a0 : Int64) (a2 : Int64) (M : xm_M) : Option (Int64 × xm_M) :=
  if a2 = 0 then none else xm_lt (a0 - a0 / a2 * a2) (fun x1 => if 0 ≤ (lg_cmp (a0 ^^^ a2) ((0 : Int64))) then fJ9_floorMod_f86c9_25 x1 M else if (lg_cmp x1 ((0 : Int64))) = 0 then fJ9_floorMod_f86c9_25 x1 M else some (x1 + a2, M))
set_option maxRecDepth 20000 in
theorem kJ9_floorMod_f86c9 {l : Launch}   (a0 : Int64) (a2 : Int64) (M : xm_M) : xm_C l yJ9_floorMod_f86c9 wJ9_floorMod_f86c9 ({ frames := 0, cells := 0, slots := 0, locals := 0 }) cL (fun g => [.long a0, .long a2]) M xm_Fl (fJ9_floorMod_f86c9  a0 a2 M) := by
  refine xm_C.ofF (by decide +kernel) rfl (fun g => Nat.le_of_ble_eq_true rfl) ?_
  intro p e s m args below meth c D g A hX
  refine xm_lv (lv' := [(0, .long a0), (2, .long a2)]) rfl ?_
  unfold fJ9_floorMod_f86c9
  refine xm_lload_n hX 0 dJ9_floorMod_f86c9_0 rfl rfl ?_
  refine xm_lload_n hX 1 dJ9_floorMod_f86c9_1 rfl rfl ?_
  refine xm_lrem hX dJ9_floorMod_f86c9_2 ?_
  refine xm_nml (fun x1 => ?_)
  refine xm_lstore hX (lv' := [(4, .long x1), (0, .long a0), (2, .long a2)]) dJ9_floorMod_f86c9_3 (by decide) rfl ?_
  refine xm_lload_n hX 1 dJ9_floorMod_f86c9_5 rfl rfl ?_
  refine xm_lload_n hX 2 dJ9_floorMod_f86c9_6 rfl rfl ?_
  refine xm_lxor hX dJ9_floorMod_f86c9_7 ?_
  refine xm_lconst hX (v := 0) rfl dJ9_floorMod_f86c9_8 ?_
  refine xm_lcmp hX dJ9_floorMod_f86c9_9 ?_
  refine xm_if_ge hX (tgt := 25) dJ9_floorMod_f86c9_10 rfl ?_ ?_
  · refine xm_weak [0] (lv' := [(4, .long x1)]) rfl ?_
    exact tfJ9_floorMod_f86c9_25 hX x1 M
  · refine xm_lload hX 0 dJ9_floorMod_f86c9_13 rfl ?_
    refine xm_lconst hX (v := 0) rfl dJ9_floorMod_f86c9_15 ?_
    refine xm_lcmp hX dJ9_floorMod_f86c9_16 ?_
    refine xm_if_eq hX (tgt := 25) dJ9_floorMod_f86c9_17 rfl ?_ ?_
    · refine xm_weak [0] (lv' := [(4, .long x1)]) rfl ?_
      exact tfJ9_floorMod_f86c9_25 hX x1 M
    · refine xm_lload hX 0 dJ9_floorMod_f86c9_20 rfl ?_
      refine xm_lload_n hX 2 dJ9_floorMod_f86c9_22 rfl rfl ?_
      refine xm_ladd hX dJ9_floorMod_f86c9_23 ?_
      exact xm_lret hX dJ9_floorMod_f86c9_24
-- ===== OdometryDesk.asHeading(J)I
theorem dX3_asHeading_0 : decode cX3_asHeading 0 = .ok (.lload_n 0, 1) := by decide +kernel
theorem dX3_asHeading_1 : decode cX3_asHeading 1 = .ok (.ldc2_w 242, 3) := by decide +kernel
theorem dX3_asHeading_4 : decode cX3_asHeading 4 = .ok (.invokestatic 244, 3) := by decide +kernel
theorem dX3_asHeading_7 : decode cX3_asHeading 7 = .ok (.l2i, 1) := by decide +kernel
theorem dX3_asHeading_8 : decode cX3_asHeading 8 = .ok (.ireturn, 1) := by decide +kernel
abbrev wX3_asHeading : List Cond := .code yX3_asHeading cX3_asHeading 2 (some .int) :: lw_gd
theorem hdX3_asHeading : (yX3_asHeading.cls ≠ "java/lang/invoke/MethodHandle" ∧ yX3_asHeading.cls ≠ "java/lang/invoke/VarHandle" ∧ (parseMethodDescriptor yX3_asHeading.desc).map (fun d => d.parameters.length) = some 1) := by decide +kernel
def fX3_asHeading  (a0 : Int64) (M : xm_M) : Option (Int32 × xm_M) :=
  xm_bl (fJ9_floorMod_f86c9 a0 ((3600000 : Int64)) M) (fun x2 M1 => some (x2.toInt32, M1))
set_option maxRecDepth 20000 in
theorem kX3_asHeading {l : Launch}   (a0 : Int64) (M : xm_M) : xm_C l yX3_asHeading wX3_asHeading ({ frames := 1, cells := 0, slots := 0, locals := 25 }) cL (fun g => [.long a0]) M xm_Fi (fX3_asHeading  a0 M) := by
  refine xm_C.of (by decide) rfl (fun g => Nat.le_of_ble_eq_true rfl) ?_
  intro p e s m args below meth c D g A hX
  refine xm_lv (lv' := [(0, .long a0)]) rfl ?_
  unfold fX3_asHeading
  refine xm_lload_n hX 0 dX3_asHeading_0 rfl rfl ?_
  refine xm_ldc2 hX (v := 3600000) (List.mem_cons_of_mem _ gm_264) dX3_asHeading_1 ?_
  refine xm_calll hX (xm_runS hX (As := (fun g => [.long a0, .long ((3600000 : Int64))])) (kJ9_floorMod_f86c9 a0 ((3600000 : Int64)) M) (xm_gS gm_265 gm_266 gm_6 gm_267) rfl ⟨rfl, rfl⟩ hdJ9_floorMod_f86c9 ⟨Nat.le_of_ble_eq_true rfl, Nat.le_of_ble_eq_true rfl⟩ rfl (Nat.le_of_ble_eq_true rfl) rfl dX3_asHeading_4) (fun x2 M1 => ?_)
  refine xm_l2i hX dX3_asHeading_7 ?_
  exact xm_iret hX dX3_asHeading_8
-- ===== OdometryDesk.angleOfCosine(I)I
theorem dX3_angleOfCosine_0 : decode cX3_angleOfCosine 0 = .ok (.iload_n 0, 1) := by decide +kernel
theorem dX3_angleOfCosine_1 : decode cX3_angleOfCosine 1 = .ok (.sipush 9000, 3) := by decide +kernel
theorem dX3_angleOfCosine_4 : decode cX3_angleOfCosine 4 = .ok (.iadd, 1) := by decide +kernel
theorem dX3_angleOfCosine_5 : decode cX3_angleOfCosine 5 = .ok (.ldc 241, 2) := by decide +kernel
theorem dX3_angleOfCosine_7 : decode cX3_angleOfCosine 7 = .ok (.irem, 1) := by decide +kernel
theorem dX3_angleOfCosine_8 : decode cX3_angleOfCosine 8 = .ok (.ireturn, 1) := by decide +kernel
abbrev wX3_angleOfCosine : List Cond := .code yX3_angleOfCosine cX3_angleOfCosine 1 (some .int) :: lw_gd
theorem hdX3_angleOfCosine : (yX3_angleOfCosine.cls ≠ "java/lang/invoke/MethodHandle" ∧ yX3_angleOfCosine.cls ≠ "java/lang/invoke/VarHandle" ∧ (parseMethodDescriptor yX3_angleOfCosine.desc).map (fun d => d.parameters.length) = some 1) := by decide +kernel
def fX3_angleOfCosine  (a0 : Int32) (M : xm_M) : Option (Int32 × xm_M) :=
  if ((36000 : Int32)) = 0 then none else some ((a0 + ((9000 : Int32))) - (a0 + ((9000 : Int32))) / ((36000 : Int32)) * ((36000 : Int32)), M)
set_option maxRecDepth 20000 in
theorem kX3_angleOfCosine {l : Launch}   (a0 : Int32) (M : xm_M) : xm_C l yX3_angleOfCosine wX3_angleOfCosine ({ frames := 0, cells := 0, slots := 0, locals := 0 }) cL (fun g => [.int a0]) M xm_Fi (fX3_angleOfCosine  a0 M) := by
  refine xm_C.of (by decide) rfl (fun g => Nat.le_of_ble_eq_true rfl) ?_
  intro p e s m args below meth c D g A hX
  refine xm_lv (lv' := [(0, .int a0)]) rfl ?_
  unfold fX3_angleOfCosine
  refine xm_iload_n hX 0 dX3_angleOfCosine_0 rfl rfl ?_
  refine xm_sipush hX (v := 9000) rfl dX3_angleOfCosine_1 ?_
  refine xm_iadd hX dX3_angleOfCosine_4 ?_
  refine xm_ldc hX (v := 36000) (List.mem_cons_of_mem _ gm_270) dX3_angleOfCosine_5 ?_
  refine xm_irem hX dX3_angleOfCosine_7 ?_
  exact xm_iret hX dX3_angleOfCosine_8
-- ===== OdometryDesk.sine(I)I
theorem dX3_sine_0 : decode cX3_sine 0 = .ok (.iload_n 0, 1) := by decide +kernel
theorem dX3_sine_1 : decode cX3_sine 1 = .ok (.sipush 18000, 3) := by decide +kernel
theorem dX3_sine_4 : decode cX3_sine 4 = .ok (.if_icmp .le 12, 3) := by decide +kernel
theorem dX3_sine_7 : decode cX3_sine 7 = .ok (.iload_n 0, 1) := by decide +kernel
theorem dX3_sine_8 : decode cX3_sine 8 = .ok (.sipush 18000, 3) := by decide +kernel
theorem dX3_sine_11 : decode cX3_sine 11 = .ok (.isub, 1) := by decide +kernel
theorem dX3_sine_12 : decode cX3_sine 12 = .ok (.i2l, 1) := by decide +kernel
theorem dX3_sine_13 : decode cX3_sine 13 = .ok (.goto 5, 3) := by decide +kernel
theorem dX3_sine_16 : decode cX3_sine 16 = .ok (.iload_n 0, 1) := by decide +kernel
theorem dX3_sine_17 : decode cX3_sine 17 = .ok (.i2l, 1) := by decide +kernel
theorem dX3_sine_18 : decode cX3_sine 18 = .ok (.lstore_n 1, 1) := by decide +kernel
theorem dX3_sine_19 : decode cX3_sine 19 = .ok (.lload_n 1, 1) := by decide +kernel
theorem dX3_sine_20 : decode cX3_sine 20 = .ok (.ldc2_w 231, 3) := by decide +kernel
theorem dX3_sine_23 : decode cX3_sine 23 = .ok (.lload_n 1, 1) := by decide +kernel
theorem dX3_sine_24 : decode cX3_sine 24 = .ok (.lsub, 1) := by decide +kernel
theorem dX3_sine_25 : decode cX3_sine 25 = .ok (.lmul, 1) := by decide +kernel
theorem dX3_sine_26 : decode cX3_sine 26 = .ok (.lstore_n 3, 1) := by decide +kernel
theorem dX3_sine_27 : decode cX3_sine 27 = .ok (.ldc2_w 233, 3) := by decide +kernel
theorem dX3_sine_30 : decode cX3_sine 30 = .ok (.lload_n 3, 1) := by decide +kernel
theorem dX3_sine_31 : decode cX3_sine 31 = .ok (.lmul, 1) := by decide +kernel
theorem dX3_sine_32 : decode cX3_sine 32 = .ok (.ldc2_w 235, 3) := by decide +kernel
theorem dX3_sine_35 : decode cX3_sine 35 = .ok (.lload_n 3, 1) := by decide +kernel
theorem dX3_sine_36 : decode cX3_sine 36 = .ok (.lsub, 1) := by decide +kernel
theorem dX3_sine_37 : decode cX3_sine 37 = .ok (.invokestatic 237, 3) := by decide +kernel
theorem dX3_sine_40 : decode cX3_sine 40 = .ok (.l2i, 1) := by decide +kernel
theorem dX3_sine_41 : decode cX3_sine 41 = .ok (.istore 5, 2) := by decide +kernel
theorem dX3_sine_43 : decode cX3_sine 43 = .ok (.iload_n 0, 1) := by decide +kernel
theorem dX3_sine_44 : decode cX3_sine 44 = .ok (.sipush 18000, 3) := by decide +kernel
theorem dX3_sine_47 : decode cX3_sine 47 = .ok (.if_icmp .le 9, 3) := by decide +kernel
theorem dX3_sine_50 : decode cX3_sine 50 = .ok (.iload 5, 2) := by decide +kernel
theorem dX3_sine_52 : decode cX3_sine 52 = .ok (.ineg, 1) := by decide +kernel
theorem dX3_sine_53 : decode cX3_sine 53 = .ok (.goto 5, 3) := by decide +kernel
theorem dX3_sine_56 : decode cX3_sine 56 = .ok (.iload 5, 2) := by decide +kernel
theorem dX3_sine_58 : decode cX3_sine 58 = .ok (.ireturn, 1) := by decide +kernel
abbrev wX3_sine : List Cond := .code yX3_sine cX3_sine 6 (some .int) :: lw_gd
theorem hdX3_sine : (yX3_sine.cls ≠ "java/lang/invoke/MethodHandle" ∧ yX3_sine.cls ≠ "java/lang/invoke/VarHandle" ∧ (parseMethodDescriptor yX3_sine.desc).map (fun d => d.parameters.length) = some 1) := by decide +kernel
def fX3_sine_18   (b0 : Int32) (s0 : Int64) (M : xm_M) : Option (Int32 × xm_M) :=
  xm_lt (s0 * (((18000 : Int64)) - s0)) (fun x1 => xm_bl (fX3_ratio (((4000000 : Int64)) * x1) (((405000000 : Int64)) - x1) M) (fun x3 M2 => xm_lt (x3.toInt32) (fun x4 => if b0 ≤ ((18000 : Int32)) then some (x4, M2) else some (-x4, M2))))
set_option maxRecDepth 20000 in
theorem tfX3_sine_18 {p : Program} {l : Launch} {e : Env} {s : State} {m : MethodId} {args : Array Value} {below : List Frame} {meth : Method} {c : Code} {D : va_G} {g : xm_G} {A : Nat → Prop} (hX : xm_X p m meth c cX3_sine 6 s args wX3_sine RX3 (some .int) D cL g A)     : ∀ (b0 : Int32), ∀ (s0 : Int64), ∀ (M : xm_M), xm_J p l e ({ frames := 1, cells := 0, slots := 0, locals := 23 }) s m args below meth c 6 D cL g A (xm_Fi g) 18 [(0, .int b0)] [.long s0] M (fX3_sine_18 b0 s0 M) := by
  intro b0 s0 M
  unfold fX3_sine_18
  refine xm_lstore_n hX (lv' := [(1, .long s0), (0, .int b0)]) dX3_sine_18 rfl (by decide) rfl ?_
  refine xm_lload_n hX 0 dX3_sine_19 rfl rfl ?_
  refine xm_ldc2 hX (v := 18000) (List.mem_cons_of_mem _ gm_273) dX3_sine_20 ?_
  refine xm_lload_n hX 0 dX3_sine_23 rfl rfl ?_
  refine xm_lsub hX dX3_sine_24 ?_
  refine xm_lmul hX dX3_sine_25 ?_
  refine xm_nml (fun x1 => ?_)
  refine xm_lstore_n hX (lv' := [(3, .long x1), (1, .long s0), (0, .int b0)]) dX3_sine_26 rfl (by decide) rfl ?_
  refine xm_ldc2 hX (v := 4000000) (List.mem_cons_of_mem _ gm_274) dX3_sine_27 ?_
  refine xm_lload_n hX 0 dX3_sine_30 rfl rfl ?_
  refine xm_lmul hX dX3_sine_31 ?_
  refine xm_ldc2 hX (v := 405000000) (List.mem_cons_of_mem _ gm_275) dX3_sine_32 ?_
  refine xm_lload_n hX 0 dX3_sine_35 rfl rfl ?_
  refine xm_lsub hX dX3_sine_36 ?_
  refine xm_calll hX (xm_runS hX (As := (fun g => [.long (((4000000 : Int64)) * x1), .long (((405000000 : Int64)) - x1)])) (kX3_ratio (((4000000 : Int64)) * x1) (((405000000 : Int64)) - x1) M) (xm_gS gm_276 gm_247 gm_1 gm_248) rfl ⟨rfl, rfl⟩ hdX3_ratio ⟨Nat.le_of_ble_eq_true rfl, Nat.le_of_ble_eq_true rfl⟩ rfl (Nat.le_of_ble_eq_true rfl) rfl dX3_sine_37) (fun x3 M2 => ?_)
  refine xm_l2i hX dX3_sine_40 ?_
  refine xm_nmi (fun x4 => ?_)
  refine xm_istore hX (lv' := [(5, .int x4), (3, .long x1), (1, .long s0), (0, .int b0)]) dX3_sine_41 (by decide) rfl ?_
  refine xm_iload_n hX 3 dX3_sine_43 rfl rfl ?_
  refine xm_sipush hX (v := 18000) rfl dX3_sine_44 ?_
  refine xm_icmp_le hX (tgt := 56) dX3_sine_47 rfl ?_ ?_
  · refine xm_iload hX 0 dX3_sine_56 rfl ?_
    exact xm_iret hX dX3_sine_58
  · refine xm_iload hX 0 dX3_sine_50 rfl ?_
    refine xm_ineg hX dX3_sine_52 ?_
    refine xm_goto hX (tgt := 58) dX3_sine_53 rfl ?_
    exact xm_iret hX dX3_sine_58
def fX3_sine  (a0 : Int32) (M : xm_M) : Option (Int32 × xm_M) :=
  if a0 ≤ ((18000 : Int32)) then fX3_sine_18 a0 a0.toInt64 M else fX3_sine_18 a0 ((a0 - ((18000 : Int32))).toInt64) M
set_option maxRecDepth 20000 in
theorem kX3_sine {l : Launch}   (a0 : Int32) (M : xm_M) : xm_C l yX3_sine wX3_sine ({ frames := 1, cells := 0, slots := 0, locals := 23 }) cL (fun g => [.int a0]) M xm_Fi (fX3_sine  a0 M) := by
  refine xm_C.of (by decide) rfl (fun g => Nat.le_of_ble_eq_true rfl) ?_
  intro p e s m args below meth c D g A hX
  refine xm_lv (lv' := [(0, .int a0)]) rfl ?_
  unfold fX3_sine
  refine xm_iload_n hX 0 dX3_sine_0 rfl rfl ?_
  refine xm_sipush hX (v := 18000) rfl dX3_sine_1 ?_
  refine xm_icmp_le hX (tgt := 16) dX3_sine_4 rfl ?_ ?_
  · refine xm_iload_n hX 0 dX3_sine_16 rfl rfl ?_
    refine xm_i2l hX dX3_sine_17 ?_
    exact tfX3_sine_18 hX a0 a0.toInt64 M
  · refine xm_iload_n hX 0 dX3_sine_7 rfl rfl ?_
    refine xm_sipush hX (v := 18000) rfl dX3_sine_8 ?_
    refine xm_isub hX dX3_sine_11 ?_
    refine xm_i2l hX dX3_sine_12 ?_
    refine xm_goto hX (tgt := 18) dX3_sine_13 rfl ?_
    exact tfX3_sine_18 hX a0 ((a0 - ((18000 : Int32))).toInt64) M
-- ===== OdometryDesk$Way.move()V ['49']
theorem dX2_move_0 : decode cX2_move 0 = .ok (.aload_n 0, 1) := by decide +kernel
theorem dX2_move_1 : decode cX2_move 1 = .ok (.getfield 41, 3) := by decide +kernel
theorem dX2_move_4 : decode cX2_move 4 = .ok (.i2l, 1) := by decide +kernel
theorem dX2_move_5 : decode cX2_move 5 = .ok (.aload_n 0, 1) := by decide +kernel
theorem dX2_move_6 : decode cX2_move 6 = .ok (.getfield 136, 3) := by decide +kernel
theorem dX2_move_9 : decode cX2_move 9 = .ok (.iconst 2, 1) := by decide +kernel
theorem dX2_move_10 : decode cX2_move 10 = .ok (.idiv, 1) := by decide +kernel
theorem dX2_move_11 : decode cX2_move 11 = .ok (.i2l, 1) := by decide +kernel
theorem dX2_move_12 : decode cX2_move 12 = .ok (.ladd, 1) := by decide +kernel
theorem dX2_move_13 : decode cX2_move 13 = .ok (.invokestatic 159, 3) := by decide +kernel
theorem dX2_move_16 : decode cX2_move 16 = .ok (.bipush 100, 2) := by decide +kernel
theorem dX2_move_18 : decode cX2_move 18 = .ok (.idiv, 1) := by decide +kernel
theorem dX2_move_19 : decode cX2_move 19 = .ok (.istore_n 1, 1) := by decide +kernel
theorem dX2_move_20 : decode cX2_move 20 = .ok (.aload_n 0, 1) := by decide +kernel
theorem dX2_move_21 : decode cX2_move 21 = .ok (.dup, 1) := by decide +kernel
theorem dX2_move_22 : decode cX2_move 22 = .ok (.getfield 29, 3) := by decide +kernel
theorem dX2_move_25 : decode cX2_move 25 = .ok (.aload_n 0, 1) := by decide +kernel
theorem dX2_move_26 : decode cX2_move 26 = .ok (.getfield 139, 3) := by decide +kernel
theorem dX2_move_29 : decode cX2_move 29 = .ok (.i2l, 1) := by decide +kernel
theorem dX2_move_30 : decode cX2_move 30 = .ok (.iload_n 1, 1) := by decide +kernel
theorem dX2_move_31 : decode cX2_move 31 = .ok (.invokestatic 163, 3) := by decide +kernel
theorem dX2_move_34 : decode cX2_move 34 = .ok (.invokestatic 166, 3) := by decide +kernel
theorem dX2_move_37 : decode cX2_move 37 = .ok (.i2l, 1) := by decide +kernel
theorem dX2_move_38 : decode cX2_move 38 = .ok (.lmul, 1) := by decide +kernel
theorem dX2_move_39 : decode cX2_move 39 = .ok (.ldc2_w 169, 3) := by decide +kernel
theorem dX2_move_42 : decode cX2_move 42 = .ok (.ldiv, 1) := by decide +kernel
theorem dX2_move_43 : decode cX2_move 43 = .ok (.l2i, 1) := by decide +kernel
theorem dX2_move_44 : decode cX2_move 44 = .ok (.iadd, 1) := by decide +kernel
theorem dX2_move_45 : decode cX2_move 45 = .ok (.putfield 29, 3) := by decide +kernel
theorem dX2_move_48 : decode cX2_move 48 = .ok (.aload_n 0, 1) := by decide +kernel
theorem dX2_move_49 : decode cX2_move 49 = .ok (.dup, 1) := by decide +kernel
theorem dX2_move_50 : decode cX2_move 50 = .ok (.getfield 35, 3) := by decide +kernel
theorem dX2_move_53 : decode cX2_move 53 = .ok (.aload_n 0, 1) := by decide +kernel
theorem dX2_move_54 : decode cX2_move 54 = .ok (.getfield 139, 3) := by decide +kernel
theorem dX2_move_57 : decode cX2_move 57 = .ok (.i2l, 1) := by decide +kernel
theorem dX2_move_58 : decode cX2_move 58 = .ok (.iload_n 1, 1) := by decide +kernel
theorem dX2_move_59 : decode cX2_move 59 = .ok (.invokestatic 166, 3) := by decide +kernel
theorem dX2_move_62 : decode cX2_move 62 = .ok (.i2l, 1) := by decide +kernel
theorem dX2_move_63 : decode cX2_move 63 = .ok (.lmul, 1) := by decide +kernel
theorem dX2_move_64 : decode cX2_move 64 = .ok (.ldc2_w 169, 3) := by decide +kernel
theorem dX2_move_67 : decode cX2_move 67 = .ok (.ldiv, 1) := by decide +kernel
theorem dX2_move_68 : decode cX2_move 68 = .ok (.l2i, 1) := by decide +kernel
theorem dX2_move_69 : decode cX2_move 69 = .ok (.iadd, 1) := by decide +kernel
theorem dX2_move_70 : decode cX2_move 70 = .ok (.putfield 35, 3) := by decide +kernel
theorem dX2_move_73 : decode cX2_move 73 = .ok (.aload_n 0, 1) := by decide +kernel
theorem dX2_move_74 : decode cX2_move 74 = .ok (.aload_n 0, 1) := by decide +kernel
theorem dX2_move_75 : decode cX2_move 75 = .ok (.getfield 41, 3) := by decide +kernel
theorem dX2_move_78 : decode cX2_move 78 = .ok (.i2l, 1) := by decide +kernel
theorem dX2_move_79 : decode cX2_move 79 = .ok (.aload_n 0, 1) := by decide +kernel
theorem dX2_move_80 : decode cX2_move 80 = .ok (.getfield 136, 3) := by decide +kernel
theorem dX2_move_83 : decode cX2_move 83 = .ok (.i2l, 1) := by decide +kernel
theorem dX2_move_84 : decode cX2_move 84 = .ok (.ladd, 1) := by decide +kernel
theorem dX2_move_85 : decode cX2_move 85 = .ok (.invokestatic 159, 3) := by decide +kernel
theorem dX2_move_88 : decode cX2_move 88 = .ok (.putfield 41, 3) := by decide +kernel
theorem dX2_move_91 : decode cX2_move 91 = .ok (.aload_n 0, 1) := by decide +kernel
theorem dX2_move_92 : decode cX2_move 92 = .ok (.dup, 1) := by decide +kernel
theorem dX2_move_93 : decode cX2_move 93 = .ok (.getfield 44, 3) := by decide +kernel
theorem dX2_move_96 : decode cX2_move 96 = .ok (.aload_n 0, 1) := by decide +kernel
theorem dX2_move_97 : decode cX2_move 97 = .ok (.getfield 139, 3) := by decide +kernel
theorem dX2_move_100 : decode cX2_move 100 = .ok (.invokestatic 129, 3) := by decide +kernel
theorem dX2_move_103 : decode cX2_move 103 = .ok (.iadd, 1) := by decide +kernel
theorem dX2_move_104 : decode cX2_move 104 = .ok (.putfield 44, 3) := by decide +kernel
theorem dX2_move_107 : decode cX2_move 107 = .ok (.return_, 1) := by decide +kernel
abbrev wX2_move : List Cond := .code yX2_move cX2_move 2 none :: lw_gd
theorem hdX2_move : (yX2_move.cls ≠ "java/lang/invoke/MethodHandle" ∧ yX2_move.cls ≠ "java/lang/invoke/VarHandle" ∧ (parseMethodDescriptor yX2_move.desc).map (fun d => d.parameters.length) = some 0) := by decide +kernel
def fX2_move   (M : xm_M) : Option xm_M :=
  if ((2 : Int32)) = 0 then none else xm_bi (fX3_asHeading (((M.1 49 5).toInt64) + (((M.1 49 10) / ((2 : Int32))).toInt64)) M) (fun x2 M1 => if ((100 : Int32)) = 0 then none else xm_lt (x2 / ((100 : Int32))) (fun x3 => xm_bi (fX3_angleOfCosine x3 M1) (fun x5 M4 => xm_bi (fX3_sine x5 M4) (fun x7 M6 => if ((1000000 : Int64)) = 0 then none else xm_lt (xm_s M6 49 3 ((M1.1 49 3) + (((((M1.1 49 11).toInt64) * x7.toInt64) / ((1000000 : Int64))).toInt32))) (fun M8 => xm_bi (fX3_sine x3 M8) (fun x10 M9 => if ((1000000 : Int64)) = 0 then none else xm_lt (xm_s M9 49 4 ((M8.1 49 4) + (((((M8.1 49 11).toInt64) * x10.toInt64) / ((1000000 : Int64))).toInt32))) (fun M11 => xm_bi (fX3_asHeading (((M11.1 49 5).toInt64) + ((M11.1 49 10).toInt64)) M11) (fun x13 M12 => xm_lt (xm_s M12 49 5 x13) (fun M14 => xm_lt (xm_s M14 49 6 ((M14.1 49 6) + (if 0 ≤ (M14.1 49 11) then (M14.1 49 11) else 0 - (M14.1 49 11)))) (fun M15 => some M15))))))))))
set_option maxRecDepth 20000 in
theorem kX2_move {l : Launch}    (M : xm_M) : xm_C l yX2_move wX2_move ({ frames := 2, cells := 0, slots := 0, locals := 48 }) cL (fun g => [.ref (g.1 49)]) M xm_Fv (fX2_move   M) := by
  refine xm_C.of (by decide) rfl (fun g => Nat.le_of_ble_eq_true rfl) ?_
  intro p e s m args below meth c D g A hX
  refine xm_lv (lv' := [(0, .ref (g.1 49))]) rfl ?_
  unfold fX2_move
  refine xm_aload_n hX 0 dX2_move_0 rfl rfl ?_
  refine xm_get hX (k := 49) (ci := 2) (j := 5) (C := RX2) (T := TX2) (N := 12) (v := .int (M.1 49 5)) cL_49 rfl rfl rfl (by decide) (fun z hz => List.mem_cons_of_mem _ (iw_X2 z hz)) (List.mem_cons_of_mem _ gm_84) dX2_move_1 ?_
  refine xm_i2l hX dX2_move_4 ?_
  refine xm_aload_n hX 0 dX2_move_5 rfl rfl ?_
  refine xm_get hX (k := 49) (ci := 2) (j := 10) (C := RX2) (T := TX2) (N := 12) (v := .int (M.1 49 10)) cL_49 rfl rfl rfl (by decide) (fun z hz => List.mem_cons_of_mem _ (iw_X2 z hz)) (List.mem_cons_of_mem _ gm_93) dX2_move_6 ?_
  refine xm_iconst hX (v := 2) rfl dX2_move_9 ?_
  refine xm_idiv hX dX2_move_10 ?_
  refine xm_i2l hX dX2_move_11 ?_
  refine xm_ladd hX dX2_move_12 ?_
  refine xm_calli hX (xm_runSN hX (As := (fun g => [.long (((M.1 49 5).toInt64) + (((M.1 49 10) / ((2 : Int32))).toInt64))])) (kX3_asHeading (((M.1 49 5).toInt64) + (((M.1 49 10) / ((2 : Int32))).toInt64)) M) (xm_gN gm_263) rfl ⟨rfl, rfl⟩ nw_8 (List.mem_cons_of_mem _ gm_1) (List.mem_cons_of_mem _ gm_262) hdX3_asHeading ⟨Nat.le_of_ble_eq_true rfl, Nat.le_of_ble_eq_true rfl⟩ rfl (Nat.le_of_ble_eq_true rfl) rfl dX2_move_13) (fun x2 M1 => ?_)
  refine xm_bipush hX (v := 100) rfl dX2_move_16 ?_
  refine xm_idiv hX dX2_move_18 ?_
  refine xm_nmi (fun x3 => ?_)
  refine xm_istore_n hX (lv' := [(1, .int x3), (0, .ref (g.1 49))]) dX2_move_19 rfl (by decide) rfl ?_
  refine xm_aload_n hX 1 dX2_move_20 rfl rfl ?_
  refine xm_dup hX rfl dX2_move_21 ?_
  refine xm_get hX (k := 49) (ci := 2) (j := 3) (C := RX2) (T := TX2) (N := 12) (v := .int (M1.1 49 3)) cL_49 rfl rfl rfl (by decide) (fun z hz => List.mem_cons_of_mem _ (iw_X2 z hz)) (List.mem_cons_of_mem _ gm_80) dX2_move_22 ?_
  refine xm_aload_n hX 1 dX2_move_25 rfl rfl ?_
  refine xm_get hX (k := 49) (ci := 2) (j := 11) (C := RX2) (T := TX2) (N := 12) (v := .int (M1.1 49 11)) cL_49 rfl rfl rfl (by decide) (fun z hz => List.mem_cons_of_mem _ (iw_X2 z hz)) (List.mem_cons_of_mem _ gm_94) dX2_move_26 ?_
  refine xm_i2l hX dX2_move_29 ?_
  refine xm_iload_n hX 0 dX2_move_30 rfl rfl ?_
  refine xm_calli hX (xm_runSN hX (As := (fun g => [.int x3])) (kX3_angleOfCosine x3 M1) (xm_gN gm_269) rfl ⟨rfl, rfl⟩ nw_9 (List.mem_cons_of_mem _ gm_1) (List.mem_cons_of_mem _ gm_268) hdX3_angleOfCosine ⟨Nat.le_of_ble_eq_true rfl, Nat.le_of_ble_eq_true rfl⟩ rfl (Nat.le_of_ble_eq_true rfl) rfl dX2_move_31) (fun x5 M4 => ?_)
  refine xm_calli hX (xm_runSN hX (As := (fun g => [.int x5])) (kX3_sine x5 M4) (xm_gN gm_272) rfl ⟨rfl, rfl⟩ nw_10 (List.mem_cons_of_mem _ gm_1) (List.mem_cons_of_mem _ gm_271) hdX3_sine ⟨Nat.le_of_ble_eq_true rfl, Nat.le_of_ble_eq_true rfl⟩ rfl (Nat.le_of_ble_eq_true rfl) rfl dX2_move_34) (fun x7 M6 => ?_)
  refine xm_i2l hX dX2_move_37 ?_
  refine xm_lmul hX dX2_move_38 ?_
  refine xm_ldc2 hX (v := 1000000) (List.mem_cons_of_mem _ gm_277) dX2_move_39 ?_
  refine xm_ldiv hX dX2_move_42 ?_
  refine xm_l2i hX dX2_move_43 ?_
  refine xm_iadd hX dX2_move_44 ?_
  refine xm_puti hX (k := 49) (ci := 2) (j := 3) (C := RX2) (T := TX2) (N := 12) (t0 := tyX2) cL_49 rfl rfl (by decide) (fun z hz => List.mem_cons_of_mem _ (iw_X2 z hz)) tyX2_ok nmX2 rfl rfl (List.mem_cons_of_mem _ gm_80) dX2_move_45 (fun M8 => ?_)
  refine xm_aload_n hX 1 dX2_move_48 rfl rfl ?_
  refine xm_dup hX rfl dX2_move_49 ?_
  refine xm_get hX (k := 49) (ci := 2) (j := 4) (C := RX2) (T := TX2) (N := 12) (v := .int (M8.1 49 4)) cL_49 rfl rfl rfl (by decide) (fun z hz => List.mem_cons_of_mem _ (iw_X2 z hz)) (List.mem_cons_of_mem _ gm_82) dX2_move_50 ?_
  refine xm_aload_n hX 1 dX2_move_53 rfl rfl ?_
  refine xm_get hX (k := 49) (ci := 2) (j := 11) (C := RX2) (T := TX2) (N := 12) (v := .int (M8.1 49 11)) cL_49 rfl rfl rfl (by decide) (fun z hz => List.mem_cons_of_mem _ (iw_X2 z hz)) (List.mem_cons_of_mem _ gm_94) dX2_move_54 ?_
  refine xm_i2l hX dX2_move_57 ?_
  refine xm_iload_n hX 0 dX2_move_58 rfl rfl ?_
  refine xm_calli hX (xm_runSN hX (As := (fun g => [.int x3])) (kX3_sine x3 M8) (xm_gN gm_272) rfl ⟨rfl, rfl⟩ nw_10 (List.mem_cons_of_mem _ gm_1) (List.mem_cons_of_mem _ gm_271) hdX3_sine ⟨Nat.le_of_ble_eq_true rfl, Nat.le_of_ble_eq_true rfl⟩ rfl (Nat.le_of_ble_eq_true rfl) rfl dX2_move_59) (fun x10 M9 => ?_)
  refine xm_i2l hX dX2_move_62 ?_
  refine xm_lmul hX dX2_move_63 ?_
  refine xm_ldc2 hX (v := 1000000) (List.mem_cons_of_mem _ gm_277) dX2_move_64 ?_
  refine xm_ldiv hX dX2_move_67 ?_
  refine xm_l2i hX dX2_move_68 ?_
  refine xm_iadd hX dX2_move_69 ?_
  refine xm_puti hX (k := 49) (ci := 2) (j := 4) (C := RX2) (T := TX2) (N := 12) (t0 := tyX2) cL_49 rfl rfl (by decide) (fun z hz => List.mem_cons_of_mem _ (iw_X2 z hz)) tyX2_ok nmX2 rfl rfl (List.mem_cons_of_mem _ gm_82) dX2_move_70 (fun M11 => ?_)
  refine xm_aload_n hX 1 dX2_move_73 rfl rfl ?_
  refine xm_aload_n hX 1 dX2_move_74 rfl rfl ?_
  refine xm_get hX (k := 49) (ci := 2) (j := 5) (C := RX2) (T := TX2) (N := 12) (v := .int (M11.1 49 5)) cL_49 rfl rfl rfl (by decide) (fun z hz => List.mem_cons_of_mem _ (iw_X2 z hz)) (List.mem_cons_of_mem _ gm_84) dX2_move_75 ?_
  refine xm_i2l hX dX2_move_78 ?_
  refine xm_aload_n hX 1 dX2_move_79 rfl rfl ?_
  refine xm_get hX (k := 49) (ci := 2) (j := 10) (C := RX2) (T := TX2) (N := 12) (v := .int (M11.1 49 10)) cL_49 rfl rfl rfl (by decide) (fun z hz => List.mem_cons_of_mem _ (iw_X2 z hz)) (List.mem_cons_of_mem _ gm_93) dX2_move_80 ?_
  refine xm_i2l hX dX2_move_83 ?_
  refine xm_ladd hX dX2_move_84 ?_
  refine xm_calli hX (xm_runSN hX (As := (fun g => [.long (((M11.1 49 5).toInt64) + ((M11.1 49 10).toInt64))])) (kX3_asHeading (((M11.1 49 5).toInt64) + ((M11.1 49 10).toInt64)) M11) (xm_gN gm_263) rfl ⟨rfl, rfl⟩ nw_8 (List.mem_cons_of_mem _ gm_1) (List.mem_cons_of_mem _ gm_262) hdX3_asHeading ⟨Nat.le_of_ble_eq_true rfl, Nat.le_of_ble_eq_true rfl⟩ rfl (Nat.le_of_ble_eq_true rfl) rfl dX2_move_85) (fun x13 M12 => ?_)
  refine xm_puti hX (k := 49) (ci := 2) (j := 5) (C := RX2) (T := TX2) (N := 12) (t0 := tyX2) cL_49 rfl rfl (by decide) (fun z hz => List.mem_cons_of_mem _ (iw_X2 z hz)) tyX2_ok nmX2 rfl rfl (List.mem_cons_of_mem _ gm_84) dX2_move_88 (fun M14 => ?_)
  refine xm_aload_n hX 1 dX2_move_91 rfl rfl ?_
  refine xm_dup hX rfl dX2_move_92 ?_
  refine xm_get hX (k := 49) (ci := 2) (j := 6) (C := RX2) (T := TX2) (N := 12) (v := .int (M14.1 49 6)) cL_49 rfl rfl rfl (by decide) (fun z hz => List.mem_cons_of_mem _ (iw_X2 z hz)) (List.mem_cons_of_mem _ gm_86) dX2_move_93 ?_
  refine xm_aload_n hX 1 dX2_move_96 rfl rfl ?_
  refine xm_get hX (k := 49) (ci := 2) (j := 11) (C := RX2) (T := TX2) (N := 12) (v := .int (M14.1 49 11)) cL_49 rfl rfl rfl (by decide) (fun z hz => List.mem_cons_of_mem _ (iw_X2 z hz)) (List.mem_cons_of_mem _ gm_94) dX2_move_97 ?_
  refine xm_mabs hX (List.mem_cons_of_mem _ gm_241) (List.mem_cons_of_mem _ gm_242) (List.mem_cons_of_mem _ gm_6) (List.mem_cons_of_mem _ gm_243) (Nat.le_of_ble_eq_true rfl) (Nat.le_of_ble_eq_true rfl) dX2_move_100 ?_
  refine xm_iadd hX dX2_move_103 ?_
  refine xm_puti hX (k := 49) (ci := 2) (j := 6) (C := RX2) (T := TX2) (N := 12) (t0 := tyX2) cL_49 rfl rfl (by decide) (fun z hz => List.mem_cons_of_mem _ (iw_X2 z hz)) tyX2_ok nmX2 rfl rfl (List.mem_cons_of_mem _ gm_86) dX2_move_104 (fun M15 => ?_)
  exact xm_vret hX dX2_move_107
-- ===== java/lang/Math.floorMod(II)I
theorem dJ9_floorMod_7cf53_0 : decode cJ9_floorMod_7cf53 0 = .ok (.iload_n 0, 1) := by decide +kernel
theorem dJ9_floorMod_7cf53_1 : decode cJ9_floorMod_7cf53 1 = .ok (.iload_n 1, 1) := by decide +kernel
theorem dJ9_floorMod_7cf53_2 : decode cJ9_floorMod_7cf53 2 = .ok (.irem, 1) := by decide +kernel
theorem dJ9_floorMod_7cf53_3 : decode cJ9_floorMod_7cf53 3 = .ok (.istore_n 2, 1) := by decide +kernel
theorem dJ9_floorMod_7cf53_4 : decode cJ9_floorMod_7cf53 4 = .ok (.iload_n 0, 1) := by decide +kernel
theorem dJ9_floorMod_7cf53_5 : decode cJ9_floorMod_7cf53 5 = .ok (.iload_n 1, 1) := by decide +kernel
theorem dJ9_floorMod_7cf53_6 : decode cJ9_floorMod_7cf53 6 = .ok (.ixor, 1) := by decide +kernel
theorem dJ9_floorMod_7cf53_7 : decode cJ9_floorMod_7cf53 7 = .ok (.ifCond .ge 11, 3) := by decide +kernel
theorem dJ9_floorMod_7cf53_10 : decode cJ9_floorMod_7cf53 10 = .ok (.iload_n 2, 1) := by decide +kernel
theorem dJ9_floorMod_7cf53_11 : decode cJ9_floorMod_7cf53 11 = .ok (.ifCond .eq 7, 3) := by decide +kernel
theorem dJ9_floorMod_7cf53_14 : decode cJ9_floorMod_7cf53 14 = .ok (.iload_n 2, 1) := by decide +kernel
theorem dJ9_floorMod_7cf53_15 : decode cJ9_floorMod_7cf53 15 = .ok (.iload_n 1, 1) := by decide +kernel
theorem dJ9_floorMod_7cf53_16 : decode cJ9_floorMod_7cf53 16 = .ok (.iadd, 1) := by decide +kernel
theorem dJ9_floorMod_7cf53_17 : decode cJ9_floorMod_7cf53 17 = .ok (.ireturn, 1) := by decide +kernel
theorem dJ9_floorMod_7cf53_18 : decode cJ9_floorMod_7cf53 18 = .ok (.iload_n 2, 1) := by decide +kernel
theorem dJ9_floorMod_7cf53_19 : decode cJ9_floorMod_7cf53 19 = .ok (.ireturn, 1) := by decide +kernel
abbrev wJ9_floorMod_7cf53 : List Cond := .code yJ9_floorMod_7cf53 cJ9_floorMod_7cf53 3 (some .int) :: lw_gd
theorem hdJ9_floorMod_7cf53 : (yJ9_floorMod_7cf53.cls ≠ "java/lang/invoke/MethodHandle" ∧ yJ9_floorMod_7cf53.cls ≠ "java/lang/invoke/VarHandle" ∧ (parseMethodDescriptor yJ9_floorMod_7cf53.desc).map (fun d => d.parameters.length) = some 2) := by decide +kernel
def fJ9_floorMod_7cf53_18   (b2 : Int32) (M : xm_M) : Option (Int32 × xm_M) :=
  some (b2, M)
set_option maxRecDepth 20000 in
theorem tfJ9_floorMod_7cf53_18 {p : Program} {l : Launch} {e : Env} {s : State} {m : MethodId} {args : Array Value} {below : List Frame} {meth : Method} {c : Code} {D : va_G} {g : xm_G} {A : Nat → Prop} (hX : xm_X p m meth c cJ9_floorMod_7cf53 3 s args wJ9_floorMod_7cf53 RJ9 (some .int) D cL g A)     : ∀ (b2 : Int32), ∀ (M : xm_M), xm_J p l e ({ frames := 0, cells := 0, slots := 0, locals := 0 }) s m args below meth c 3 D cL g A (xm_Fi g) 18 [(2, .int b2)] [] M (fJ9_floorMod_7cf53_18 b2 M) := by
  intro b2 M
  unfold fJ9_floorMod_7cf53_18
  refine xm_iload_n hX 0 dJ9_floorMod_7cf53_18 rfl rfl ?_
  exact xm_iret hX dJ9_floorMod_7cf53_19
def fJ9_floorMod_7cf53  (a0 : Int32) (a1 : Int32) (M : xm_M) : Option (Int32 × xm_M) :=
  if a1 = 0 then none else xm_lt (a0 - a0 / a1 * a1) (fun x1 => if 0 ≤ (a0 ^^^ a1) then fJ9_floorMod_7cf53_18 x1 M else if x1 = 0 then fJ9_floorMod_7cf53_18 x1 M else some (x1 + a1, M))
set_option maxRecDepth 20000 in
theorem kJ9_floorMod_7cf53 {l : Launch}   (a0 : Int32) (a1 : Int32) (M : xm_M) : xm_C l yJ9_floorMod_7cf53 wJ9_floorMod_7cf53 ({ frames := 0, cells := 0, slots := 0, locals := 0 }) cL (fun g => [.int a0, .int a1]) M xm_Fi (fJ9_floorMod_7cf53  a0 a1 M) := by
  refine xm_C.ofF (by decide +kernel) rfl (fun g => Nat.le_of_ble_eq_true rfl) ?_
  intro p e s m args below meth c D g A hX
  refine xm_lv (lv' := [(0, .int a0), (1, .int a1)]) rfl ?_
  unfold fJ9_floorMod_7cf53
  refine xm_iload_n hX 0 dJ9_floorMod_7cf53_0 rfl rfl ?_
  refine xm_iload_n hX 1 dJ9_floorMod_7cf53_1 rfl rfl ?_
  refine xm_irem hX dJ9_floorMod_7cf53_2 ?_
  refine xm_nmi (fun x1 => ?_)
  refine xm_istore_n hX (lv' := [(2, .int x1), (0, .int a0), (1, .int a1)]) dJ9_floorMod_7cf53_3 rfl (by decide) rfl ?_
  refine xm_iload_n hX 1 dJ9_floorMod_7cf53_4 rfl rfl ?_
  refine xm_iload_n hX 2 dJ9_floorMod_7cf53_5 rfl rfl ?_
  refine xm_ixor hX dJ9_floorMod_7cf53_6 ?_
  refine xm_if_ge hX (tgt := 18) dJ9_floorMod_7cf53_7 rfl ?_ ?_
  · refine xm_weak [0] (lv' := [(2, .int x1)]) rfl ?_
    exact tfJ9_floorMod_7cf53_18 hX x1 M
  · refine xm_iload_n hX 0 dJ9_floorMod_7cf53_10 rfl rfl ?_
    refine xm_if_eq hX (tgt := 18) dJ9_floorMod_7cf53_11 rfl ?_ ?_
    · refine xm_weak [0] (lv' := [(2, .int x1)]) rfl ?_
      exact tfJ9_floorMod_7cf53_18 hX x1 M
    · refine xm_iload_n hX 0 dJ9_floorMod_7cf53_14 rfl rfl ?_
      refine xm_iload_n hX 2 dJ9_floorMod_7cf53_15 rfl rfl ?_
      refine xm_iadd hX dJ9_floorMod_7cf53_16 ?_
      exact xm_iret hX dJ9_floorMod_7cf53_17
-- ===== OdometryDesk$Way.offDirection(I)I ['49']
theorem dX2_offDirection_0 : decode cX2_offDirection 0 = .ok (.aload_n 0, 1) := by decide +kernel
theorem dX2_offDirection_1 : decode cX2_offDirection 1 = .ok (.getfield 41, 3) := by decide +kernel
theorem dX2_offDirection_4 : decode cX2_offDirection 4 = .ok (.bipush 100, 2) := by decide +kernel
theorem dX2_offDirection_6 : decode cX2_offDirection 6 = .ok (.iload_n 1, 1) := by decide +kernel
theorem dX2_offDirection_7 : decode cX2_offDirection 7 = .ok (.imul, 1) := by decide +kernel
theorem dX2_offDirection_8 : decode cX2_offDirection 8 = .ok (.isub, 1) := by decide +kernel
theorem dX2_offDirection_9 : decode cX2_offDirection 9 = .ok (.ldc 184, 2) := by decide +kernel
theorem dX2_offDirection_11 : decode cX2_offDirection 11 = .ok (.iadd, 1) := by decide +kernel
theorem dX2_offDirection_12 : decode cX2_offDirection 12 = .ok (.ldc 185, 2) := by decide +kernel
theorem dX2_offDirection_14 : decode cX2_offDirection 14 = .ok (.invokestatic 186, 3) := by decide +kernel
theorem dX2_offDirection_17 : decode cX2_offDirection 17 = .ok (.ldc 184, 2) := by decide +kernel
theorem dX2_offDirection_19 : decode cX2_offDirection 19 = .ok (.isub, 1) := by decide +kernel
theorem dX2_offDirection_20 : decode cX2_offDirection 20 = .ok (.ireturn, 1) := by decide +kernel
abbrev wX2_offDirection : List Cond := .code yX2_offDirection cX2_offDirection 2 (some .int) :: lw_gd
theorem hdX2_offDirection : (yX2_offDirection.cls ≠ "java/lang/invoke/MethodHandle" ∧ yX2_offDirection.cls ≠ "java/lang/invoke/VarHandle" ∧ (parseMethodDescriptor yX2_offDirection.desc).map (fun d => d.parameters.length) = some 1) := by decide +kernel
def fX2_offDirection  (a1 : Int32) (M : xm_M) : Option (Int32 × xm_M) :=
  xm_bi (fJ9_floorMod_7cf53 (((M.1 49 5) - (((100 : Int32)) * a1)) + ((900000 : Int32))) ((1800000 : Int32)) M) (fun x2 M1 => some (x2 - ((900000 : Int32)), M1))
set_option maxRecDepth 20000 in
theorem kX2_offDirection {l : Launch}   (a1 : Int32) (M : xm_M) : xm_C l yX2_offDirection wX2_offDirection ({ frames := 1, cells := 0, slots := 0, locals := 22 }) cL (fun g => [.ref (g.1 49), .int a1]) M xm_Fi (fX2_offDirection  a1 M) := by
  refine xm_C.of (by decide) rfl (fun g => Nat.le_of_ble_eq_true rfl) ?_
  intro p e s m args below meth c D g A hX
  refine xm_lv (lv' := [(0, .ref (g.1 49)), (1, .int a1)]) rfl ?_
  unfold fX2_offDirection
  refine xm_aload_n hX 0 dX2_offDirection_0 rfl rfl ?_
  refine xm_get hX (k := 49) (ci := 2) (j := 5) (C := RX2) (T := TX2) (N := 12) (v := .int (M.1 49 5)) cL_49 rfl rfl rfl (by decide) (fun z hz => List.mem_cons_of_mem _ (iw_X2 z hz)) (List.mem_cons_of_mem _ gm_84) dX2_offDirection_1 ?_
  refine xm_bipush hX (v := 100) rfl dX2_offDirection_4 ?_
  refine xm_iload_n hX 1 dX2_offDirection_6 rfl rfl ?_
  refine xm_imul hX dX2_offDirection_7 ?_
  refine xm_isub hX dX2_offDirection_8 ?_
  refine xm_ldc hX (v := 900000) (List.mem_cons_of_mem _ gm_284) dX2_offDirection_9 ?_
  refine xm_iadd hX dX2_offDirection_11 ?_
  refine xm_ldc hX (v := 1800000) (List.mem_cons_of_mem _ gm_285) dX2_offDirection_12 ?_
  refine xm_calli hX (xm_runS hX (As := (fun g => [.int (((M.1 49 5) - (((100 : Int32)) * a1)) + ((900000 : Int32))), .int ((1800000 : Int32))])) (kJ9_floorMod_7cf53 (((M.1 49 5) - (((100 : Int32)) * a1)) + ((900000 : Int32))) ((1800000 : Int32)) M) (xm_gS gm_286 gm_287 gm_6 gm_288) rfl ⟨rfl, rfl⟩ hdJ9_floorMod_7cf53 ⟨Nat.le_of_ble_eq_true rfl, Nat.le_of_ble_eq_true rfl⟩ rfl (Nat.le_of_ble_eq_true rfl) rfl dX2_offDirection_14) (fun x2 M1 => ?_)
  refine xm_ldc hX (v := 900000) (List.mem_cons_of_mem _ gm_284) dX2_offDirection_17 ?_
  refine xm_isub hX dX2_offDirection_19 ?_
  exact xm_iret hX dX2_offDirection_20
-- ===== OdometryDesk$State.isNear(IIII)Z ['1']
theorem dX1_isNear_0 : decode cX1_isNear 0 = .ok (.iload_n 2, 1) := by decide +kernel
theorem dX1_isNear_1 : decode cX1_isNear 1 = .ok (.aload_n 0, 1) := by decide +kernel
theorem dX1_isNear_2 : decode cX1_isNear 2 = .ok (.getfield 25, 3) := by decide +kernel
theorem dX1_isNear_5 : decode cX1_isNear 5 = .ok (.iconst 0, 1) := by decide +kernel
theorem dX1_isNear_6 : decode cX1_isNear 6 = .ok (.iload_n 1, 1) := by decide +kernel
theorem dX1_isNear_7 : decode cX1_isNear 7 = .ok (.invokestatic 70, 3) := by decide +kernel
theorem dX1_isNear_10 : decode cX1_isNear 10 = .ok (.iload 4, 2) := by decide +kernel
theorem dX1_isNear_12 : decode cX1_isNear 12 = .ok (.isub, 1) := by decide +kernel
theorem dX1_isNear_13 : decode cX1_isNear 13 = .ok (.aload_n 0, 1) := by decide +kernel
theorem dX1_isNear_14 : decode cX1_isNear 14 = .ok (.getfield 25, 3) := by decide +kernel
theorem dX1_isNear_17 : decode cX1_isNear 17 = .ok (.iconst 1, 1) := by decide +kernel
theorem dX1_isNear_18 : decode cX1_isNear 18 = .ok (.iload_n 1, 1) := by decide +kernel
theorem dX1_isNear_19 : decode cX1_isNear 19 = .ok (.invokestatic 70, 3) := by decide +kernel
theorem dX1_isNear_22 : decode cX1_isNear 22 = .ok (.iload 4, 2) := by decide +kernel
theorem dX1_isNear_24 : decode cX1_isNear 24 = .ok (.iadd, 1) := by decide +kernel
theorem dX1_isNear_25 : decode cX1_isNear 25 = .ok (.invokestatic 60, 3) := by decide +kernel
theorem dX1_isNear_28 : decode cX1_isNear 28 = .ok (.ifCond .eq 38, 3) := by decide +kernel
theorem dX1_isNear_31 : decode cX1_isNear 31 = .ok (.iload_n 3, 1) := by decide +kernel
theorem dX1_isNear_32 : decode cX1_isNear 32 = .ok (.aload_n 0, 1) := by decide +kernel
theorem dX1_isNear_33 : decode cX1_isNear 33 = .ok (.getfield 25, 3) := by decide +kernel
theorem dX1_isNear_36 : decode cX1_isNear 36 = .ok (.iconst 2, 1) := by decide +kernel
theorem dX1_isNear_37 : decode cX1_isNear 37 = .ok (.iload_n 1, 1) := by decide +kernel
theorem dX1_isNear_38 : decode cX1_isNear 38 = .ok (.invokestatic 70, 3) := by decide +kernel
theorem dX1_isNear_41 : decode cX1_isNear 41 = .ok (.iload 4, 2) := by decide +kernel
theorem dX1_isNear_43 : decode cX1_isNear 43 = .ok (.isub, 1) := by decide +kernel
theorem dX1_isNear_44 : decode cX1_isNear 44 = .ok (.aload_n 0, 1) := by decide +kernel
theorem dX1_isNear_45 : decode cX1_isNear 45 = .ok (.getfield 25, 3) := by decide +kernel
theorem dX1_isNear_48 : decode cX1_isNear 48 = .ok (.iconst 3, 1) := by decide +kernel
theorem dX1_isNear_49 : decode cX1_isNear 49 = .ok (.iload_n 1, 1) := by decide +kernel
theorem dX1_isNear_50 : decode cX1_isNear 50 = .ok (.invokestatic 70, 3) := by decide +kernel
theorem dX1_isNear_53 : decode cX1_isNear 53 = .ok (.iload 4, 2) := by decide +kernel
theorem dX1_isNear_55 : decode cX1_isNear 55 = .ok (.iadd, 1) := by decide +kernel
theorem dX1_isNear_56 : decode cX1_isNear 56 = .ok (.invokestatic 60, 3) := by decide +kernel
theorem dX1_isNear_59 : decode cX1_isNear 59 = .ok (.ifCond .eq 7, 3) := by decide +kernel
theorem dX1_isNear_62 : decode cX1_isNear 62 = .ok (.iconst 1, 1) := by decide +kernel
theorem dX1_isNear_63 : decode cX1_isNear 63 = .ok (.goto 4, 3) := by decide +kernel
theorem dX1_isNear_66 : decode cX1_isNear 66 = .ok (.iconst 0, 1) := by decide +kernel
theorem dX1_isNear_67 : decode cX1_isNear 67 = .ok (.ireturn, 1) := by decide +kernel
abbrev wX1_isNear : List Cond := .code yX1_isNear cX1_isNear 5 (some .boolean) :: lw_gd
theorem hdX1_isNear : (yX1_isNear.cls ≠ "java/lang/invoke/MethodHandle" ∧ yX1_isNear.cls ≠ "java/lang/invoke/VarHandle" ∧ (parseMethodDescriptor yX1_isNear.desc).map (fun d => d.parameters.length) = some 4) := by decide +kernel
def fX1_isNear  (a1 : Int32) (a2 : Int32) (a3 : Int32) (a4 : Int32) (M : xm_M) : Option (Int32 × xm_M) :=
  xm_bi (fX3_item_ 3 5 4 8 ((0 : Int32)) a1 M) (fun x2 M1 => xm_bi (fX3_item_ 3 5 4 8 ((1 : Int32)) a1 M1) (fun x4 M3 => xm_bi (fX3_isWithin a2 (x2 - a4) (x4 + a4) M3) (fun x6 M5 => if x6 = 0 then if ((0 : Int32)) = 0 ∨ ((0 : Int32)) = 1 then some ((0 : Int32), M5) else none else xm_bi (fX3_item_ 3 5 4 8 ((2 : Int32)) a1 M5) (fun x8 M7 => xm_bi (fX3_item_ 3 5 4 8 ((3 : Int32)) a1 M7) (fun x10 M9 => xm_bi (fX3_isWithin a3 (x8 - a4) (x10 + a4) M9) (fun x12 M11 => if x12 = 0 then if ((0 : Int32)) = 0 ∨ ((0 : Int32)) = 1 then some ((0 : Int32), M11) else none else if ((1 : Int32)) = 0 ∨ ((1 : Int32)) = 1 then some ((1 : Int32), M11) else none))))))
set_option maxRecDepth 20000 in
theorem kX1_isNear {l : Launch}   (a1 : Int32) (a2 : Int32) (a3 : Int32) (a4 : Int32) (M : xm_M) : xm_C l yX1_isNear wX1_isNear ({ frames := 1, cells := 0, slots := 0, locals := 22 }) cL (fun g => [.ref (g.1 1), .int a1, .int a2, .int a3, .int a4]) M xm_Fi (fX1_isNear  a1 a2 a3 a4 M) := by
  refine xm_C.of (by decide) rfl (fun g => Nat.le_of_ble_eq_true rfl) ?_
  intro p e s m args below meth c D g A hX
  refine xm_lv (lv' := [(0, .ref (g.1 1)), (1, .int a1), (2, .int a2), (3, .int a3), (4, .int a4)]) rfl ?_
  unfold fX1_isNear
  refine xm_iload_n hX 2 dX1_isNear_0 rfl rfl ?_
  refine xm_aload_n hX 0 dX1_isNear_1 rfl rfl ?_
  refine xm_get hX (k := 1) (ci := 1) (j := 1) (C := RX1) (T := TX1) (N := 11) (v := .ref (g.1 3)) cL_1 rfl rfl rfl (by decide) (fun z hz => List.mem_cons_of_mem _ (iw_X1 z hz)) (List.mem_cons_of_mem _ gm_31) dX1_isNear_2 ?_
  refine xm_iconst hX (v := 0) rfl dX1_isNear_5 ?_
  refine xm_iload_n hX 1 dX1_isNear_6 rfl rfl ?_
  refine xm_calli hX (xm_runSN hX (As := (fun g => [.ref (g.1 3), .int ((0 : Int32)), .int a1])) (kX3_item_ 3 5 4 8 cL_3 cL_rows_3 ((0 : Int32)) a1 M) (xm_gN gm_234) rfl ⟨rfl, rfl⟩ nw_3 (List.mem_cons_of_mem _ gm_1) (List.mem_cons_of_mem _ gm_233) hdX3_item_ ⟨Nat.le_of_ble_eq_true rfl, Nat.le_of_ble_eq_true rfl⟩ rfl (Nat.le_of_ble_eq_true rfl) rfl dX1_isNear_7) (fun x2 M1 => ?_)
  refine xm_iload hX 4 dX1_isNear_10 rfl ?_
  refine xm_isub hX dX1_isNear_12 ?_
  refine xm_aload_n hX 0 dX1_isNear_13 rfl rfl ?_
  refine xm_get hX (k := 1) (ci := 1) (j := 1) (C := RX1) (T := TX1) (N := 11) (v := .ref (g.1 3)) cL_1 rfl rfl rfl (by decide) (fun z hz => List.mem_cons_of_mem _ (iw_X1 z hz)) (List.mem_cons_of_mem _ gm_31) dX1_isNear_14 ?_
  refine xm_iconst hX (v := 1) rfl dX1_isNear_17 ?_
  refine xm_iload_n hX 1 dX1_isNear_18 rfl rfl ?_
  refine xm_calli hX (xm_runSN hX (As := (fun g => [.ref (g.1 3), .int ((1 : Int32)), .int a1])) (kX3_item_ 3 5 4 8 cL_3 cL_rows_3 ((1 : Int32)) a1 M1) (xm_gN gm_234) rfl ⟨rfl, rfl⟩ nw_3 (List.mem_cons_of_mem _ gm_1) (List.mem_cons_of_mem _ gm_233) hdX3_item_ ⟨Nat.le_of_ble_eq_true rfl, Nat.le_of_ble_eq_true rfl⟩ rfl (Nat.le_of_ble_eq_true rfl) rfl dX1_isNear_19) (fun x4 M3 => ?_)
  refine xm_iload hX 4 dX1_isNear_22 rfl ?_
  refine xm_iadd hX dX1_isNear_24 ?_
  refine xm_calli hX (xm_runSN hX (As := (fun g => [.int a2, .int (x2 - a4), .int (x4 + a4)])) (kX3_isWithin a2 (x2 - a4) (x4 + a4) M3) (xm_gN gm_152) rfl ⟨rfl, rfl⟩ nw_0 (List.mem_cons_of_mem _ gm_1) (List.mem_cons_of_mem _ gm_151) hdX3_isWithin ⟨Nat.le_of_ble_eq_true rfl, Nat.le_of_ble_eq_true rfl⟩ rfl (Nat.le_of_ble_eq_true rfl) rfl dX1_isNear_25) (fun x6 M5 => ?_)
  refine xm_if_eq hX (tgt := 66) dX1_isNear_28 rfl ?_ ?_
  · refine xm_iconst hX (v := 0) rfl dX1_isNear_66 ?_
    exact xm_zret hX dX1_isNear_67
  · refine xm_iload_n hX 3 dX1_isNear_31 rfl rfl ?_
    refine xm_aload_n hX 0 dX1_isNear_32 rfl rfl ?_
    refine xm_get hX (k := 1) (ci := 1) (j := 1) (C := RX1) (T := TX1) (N := 11) (v := .ref (g.1 3)) cL_1 rfl rfl rfl (by decide) (fun z hz => List.mem_cons_of_mem _ (iw_X1 z hz)) (List.mem_cons_of_mem _ gm_31) dX1_isNear_33 ?_
    refine xm_iconst hX (v := 2) rfl dX1_isNear_36 ?_
    refine xm_iload_n hX 1 dX1_isNear_37 rfl rfl ?_
    refine xm_calli hX (xm_runSN hX (As := (fun g => [.ref (g.1 3), .int ((2 : Int32)), .int a1])) (kX3_item_ 3 5 4 8 cL_3 cL_rows_3 ((2 : Int32)) a1 M5) (xm_gN gm_234) rfl ⟨rfl, rfl⟩ nw_3 (List.mem_cons_of_mem _ gm_1) (List.mem_cons_of_mem _ gm_233) hdX3_item_ ⟨Nat.le_of_ble_eq_true rfl, Nat.le_of_ble_eq_true rfl⟩ rfl (Nat.le_of_ble_eq_true rfl) rfl dX1_isNear_38) (fun x8 M7 => ?_)
    refine xm_iload hX 4 dX1_isNear_41 rfl ?_
    refine xm_isub hX dX1_isNear_43 ?_
    refine xm_aload_n hX 0 dX1_isNear_44 rfl rfl ?_
    refine xm_get hX (k := 1) (ci := 1) (j := 1) (C := RX1) (T := TX1) (N := 11) (v := .ref (g.1 3)) cL_1 rfl rfl rfl (by decide) (fun z hz => List.mem_cons_of_mem _ (iw_X1 z hz)) (List.mem_cons_of_mem _ gm_31) dX1_isNear_45 ?_
    refine xm_iconst hX (v := 3) rfl dX1_isNear_48 ?_
    refine xm_iload_n hX 1 dX1_isNear_49 rfl rfl ?_
    refine xm_calli hX (xm_runSN hX (As := (fun g => [.ref (g.1 3), .int ((3 : Int32)), .int a1])) (kX3_item_ 3 5 4 8 cL_3 cL_rows_3 ((3 : Int32)) a1 M7) (xm_gN gm_234) rfl ⟨rfl, rfl⟩ nw_3 (List.mem_cons_of_mem _ gm_1) (List.mem_cons_of_mem _ gm_233) hdX3_item_ ⟨Nat.le_of_ble_eq_true rfl, Nat.le_of_ble_eq_true rfl⟩ rfl (Nat.le_of_ble_eq_true rfl) rfl dX1_isNear_50) (fun x10 M9 => ?_)
    refine xm_iload hX 4 dX1_isNear_53 rfl ?_
    refine xm_iadd hX dX1_isNear_55 ?_
    refine xm_calli hX (xm_runSN hX (As := (fun g => [.int a3, .int (x8 - a4), .int (x10 + a4)])) (kX3_isWithin a3 (x8 - a4) (x10 + a4) M9) (xm_gN gm_152) rfl ⟨rfl, rfl⟩ nw_0 (List.mem_cons_of_mem _ gm_1) (List.mem_cons_of_mem _ gm_151) hdX3_isWithin ⟨Nat.le_of_ble_eq_true rfl, Nat.le_of_ble_eq_true rfl⟩ rfl (Nat.le_of_ble_eq_true rfl) rfl dX1_isNear_56) (fun x12 M11 => ?_)
    refine xm_if_eq hX (tgt := 66) dX1_isNear_59 rfl ?_ ?_
    · refine xm_iconst hX (v := 0) rfl dX1_isNear_66 ?_
      exact xm_zret hX dX1_isNear_67
    · refine xm_iconst hX (v := 1) rfl dX1_isNear_62 ?_
      refine xm_goto hX (tgt := 67) dX1_isNear_63 rfl ?_
      exact xm_zret hX dX1_isNear_67
-- ===== OdometryDesk$Way.followCorridor(LOdometryDesk$State;[II)V ['49', '1', 'ps']
theorem dX2_followCorridor_0 : decode cX2_followCorridor 0 = .ok (.iconst 0, 1) := by decide +kernel
theorem dX2_followCorridor_1 : decode cX2_followCorridor 1 = .ok (.istore 4, 2) := by decide +kernel
theorem dX2_followCorridor_3 : decode cX2_followCorridor 3 = .ok (.iload 4, 2) := by decide +kernel
theorem dX2_followCorridor_5 : decode cX2_followCorridor 5 = .ok (.aload_n 1, 1) := by decide +kernel
theorem dX2_followCorridor_6 : decode cX2_followCorridor 6 = .ok (.getfield 171, 3) := by decide +kernel
theorem dX2_followCorridor_9 : decode cX2_followCorridor 9 = .ok (.if_icmp .ge 135, 3) := by decide +kernel
theorem dX2_followCorridor_12 : decode cX2_followCorridor 12 = .ok (.aload_n 0, 1) := by decide +kernel
theorem dX2_followCorridor_13 : decode cX2_followCorridor 13 = .ok (.aload_n 1, 1) := by decide +kernel
theorem dX2_followCorridor_14 : decode cX2_followCorridor 14 = .ok (.getfield 174, 3) := by decide +kernel
theorem dX2_followCorridor_17 : decode cX2_followCorridor 17 = .ok (.iconst 4, 1) := by decide +kernel
theorem dX2_followCorridor_18 : decode cX2_followCorridor 18 = .ok (.iload 4, 2) := by decide +kernel
theorem dX2_followCorridor_20 : decode cX2_followCorridor 20 = .ok (.invokestatic 91, 3) := by decide +kernel
theorem dX2_followCorridor_23 : decode cX2_followCorridor 23 = .ok (.invokevirtual 177, 3) := by decide +kernel
theorem dX2_followCorridor_26 : decode cX2_followCorridor 26 = .ok (.istore 5, 2) := by decide +kernel
theorem dX2_followCorridor_28 : decode cX2_followCorridor 28 = .ok (.aload_n 1, 1) := by decide +kernel
theorem dX2_followCorridor_29 : decode cX2_followCorridor 29 = .ok (.iload 4, 2) := by decide +kernel
theorem dX2_followCorridor_31 : decode cX2_followCorridor 31 = .ok (.aload_n 0, 1) := by decide +kernel
theorem dX2_followCorridor_32 : decode cX2_followCorridor 32 = .ok (.getfield 29, 3) := by decide +kernel
theorem dX2_followCorridor_35 : decode cX2_followCorridor 35 = .ok (.sipush 1000, 3) := by decide +kernel
theorem dX2_followCorridor_38 : decode cX2_followCorridor 38 = .ok (.idiv, 1) := by decide +kernel
theorem dX2_followCorridor_39 : decode cX2_followCorridor 39 = .ok (.aload_n 0, 1) := by decide +kernel
theorem dX2_followCorridor_40 : decode cX2_followCorridor 40 = .ok (.getfield 35, 3) := by decide +kernel
theorem dX2_followCorridor_43 : decode cX2_followCorridor 43 = .ok (.sipush 1000, 3) := by decide +kernel
theorem dX2_followCorridor_46 : decode cX2_followCorridor 46 = .ok (.idiv, 1) := by decide +kernel
theorem dX2_followCorridor_47 : decode cX2_followCorridor 47 = .ok (.aload_n 2, 1) := by decide +kernel
theorem dX2_followCorridor_48 : decode cX2_followCorridor 48 = .ok (.bipush 7, 2) := by decide +kernel
theorem dX2_followCorridor_50 : decode cX2_followCorridor 50 = .ok (.invokestatic 113, 3) := by decide +kernel
theorem dX2_followCorridor_53 : decode cX2_followCorridor 53 = .ok (.invokevirtual 180, 3) := by decide +kernel
theorem dX2_followCorridor_56 : decode cX2_followCorridor 56 = .ok (.ifCond .eq 82, 3) := by decide +kernel
theorem dX2_followCorridor_59 : decode cX2_followCorridor 59 = .ok (.iload 5, 2) := by decide +kernel
theorem dX2_followCorridor_61 : decode cX2_followCorridor 61 = .ok (.invokestatic 129, 3) := by decide +kernel
theorem dX2_followCorridor_64 : decode cX2_followCorridor 64 = .ok (.aload_n 2, 1) := by decide +kernel
theorem dX2_followCorridor_65 : decode cX2_followCorridor 65 = .ok (.bipush 8, 2) := by decide +kernel
theorem dX2_followCorridor_67 : decode cX2_followCorridor 67 = .ok (.invokestatic 113, 3) := by decide +kernel
theorem dX2_followCorridor_70 : decode cX2_followCorridor 70 = .ok (.if_icmp .gt 68, 3) := by decide +kernel
theorem dX2_followCorridor_73 : decode cX2_followCorridor 73 = .ok (.iload 5, 2) := by decide +kernel
theorem dX2_followCorridor_75 : decode cX2_followCorridor 75 = .ok (.aload_n 2, 1) := by decide +kernel
theorem dX2_followCorridor_76 : decode cX2_followCorridor 76 = .ok (.bipush 6, 2) := by decide +kernel
theorem dX2_followCorridor_78 : decode cX2_followCorridor 78 = .ok (.invokestatic 113, 3) := by decide +kernel
theorem dX2_followCorridor_81 : decode cX2_followCorridor 81 = .ok (.imul, 1) := by decide +kernel
theorem dX2_followCorridor_82 : decode cX2_followCorridor 82 = .ok (.bipush 100, 2) := by decide +kernel
theorem dX2_followCorridor_84 : decode cX2_followCorridor 84 = .ok (.idiv, 1) := by decide +kernel
theorem dX2_followCorridor_85 : decode cX2_followCorridor 85 = .ok (.istore 6, 2) := by decide +kernel
theorem dX2_followCorridor_87 : decode cX2_followCorridor 87 = .ok (.aload_n 0, 1) := by decide +kernel
theorem dX2_followCorridor_88 : decode cX2_followCorridor 88 = .ok (.aload_n 0, 1) := by decide +kernel
theorem dX2_followCorridor_89 : decode cX2_followCorridor 89 = .ok (.getfield 41, 3) := by decide +kernel
theorem dX2_followCorridor_92 : decode cX2_followCorridor 92 = .ok (.i2l, 1) := by decide +kernel
theorem dX2_followCorridor_93 : decode cX2_followCorridor 93 = .ok (.iload 6, 2) := by decide +kernel
theorem dX2_followCorridor_95 : decode cX2_followCorridor 95 = .ok (.i2l, 1) := by decide +kernel
theorem dX2_followCorridor_96 : decode cX2_followCorridor 96 = .ok (.lsub, 1) := by decide +kernel
theorem dX2_followCorridor_97 : decode cX2_followCorridor 97 = .ok (.invokestatic 159, 3) := by decide +kernel
theorem dX2_followCorridor_100 : decode cX2_followCorridor 100 = .ok (.putfield 41, 3) := by decide +kernel
theorem dX2_followCorridor_103 : decode cX2_followCorridor 103 = .ok (.aload_n 0, 1) := by decide +kernel
theorem dX2_followCorridor_104 : decode cX2_followCorridor 104 = .ok (.dup, 1) := by decide +kernel
theorem dX2_followCorridor_105 : decode cX2_followCorridor 105 = .ok (.getfield 50, 3) := by decide +kernel
theorem dX2_followCorridor_108 : decode cX2_followCorridor 108 = .ok (.iconst 1, 1) := by decide +kernel
theorem dX2_followCorridor_109 : decode cX2_followCorridor 109 = .ok (.iadd, 1) := by decide +kernel
theorem dX2_followCorridor_110 : decode cX2_followCorridor 110 = .ok (.putfield 50, 3) := by decide +kernel
theorem dX2_followCorridor_113 : decode cX2_followCorridor 113 = .ok (.aload_n 0, 1) := by decide +kernel
theorem dX2_followCorridor_114 : decode cX2_followCorridor 114 = .ok (.getfield 16, 3) := by decide +kernel
theorem dX2_followCorridor_117 : decode cX2_followCorridor 117 = .ok (.bipush 7, 2) := by decide +kernel
theorem dX2_followCorridor_119 : decode cX2_followCorridor 119 = .ok (.iload_n 3, 1) := by decide +kernel
theorem dX2_followCorridor_120 : decode cX2_followCorridor 120 = .ok (.iload 4, 2) := by decide +kernel
theorem dX2_followCorridor_122 : decode cX2_followCorridor 122 = .ok (.invokestatic 109, 3) := by decide +kernel
theorem dX2_followCorridor_125 : decode cX2_followCorridor 125 = .ok (.aload_n 0, 1) := by decide +kernel
theorem dX2_followCorridor_126 : decode cX2_followCorridor 126 = .ok (.getfield 16, 3) := by decide +kernel
theorem dX2_followCorridor_129 : decode cX2_followCorridor 129 = .ok (.bipush 8, 2) := by decide +kernel
theorem dX2_followCorridor_131 : decode cX2_followCorridor 131 = .ok (.iload_n 3, 1) := by decide +kernel
theorem dX2_followCorridor_132 : decode cX2_followCorridor 132 = .ok (.iload 6, 2) := by decide +kernel
theorem dX2_followCorridor_134 : decode cX2_followCorridor 134 = .ok (.invokestatic 109, 3) := by decide +kernel
theorem dX2_followCorridor_137 : decode cX2_followCorridor 137 = .ok (.return_, 1) := by decide +kernel
theorem dX2_followCorridor_138 : decode cX2_followCorridor 138 = .ok (.iinc 4 1, 3) := by decide +kernel
theorem dX2_followCorridor_141 : decode cX2_followCorridor 141 = .ok (.goto (-138), 3) := by decide +kernel
theorem dX2_followCorridor_144 : decode cX2_followCorridor 144 = .ok (.return_, 1) := by decide +kernel
abbrev wX2_followCorridor : List Cond := .code yX2_followCorridor cX2_followCorridor 7 none :: lw_gd
theorem hdX2_followCorridor : (yX2_followCorridor.cls ≠ "java/lang/invoke/MethodHandle" ∧ yX2_followCorridor.cls ≠ "java/lang/invoke/VarHandle" ∧ (parseMethodDescriptor yX2_followCorridor.desc).map (fun d => d.parameters.length) = some 3) := by decide +kernel
def fX2_followCorridor_138 (ps : Nat) (k3 : Int32 → Int32 → xm_M → Option xm_M) (b3 : Int32) (b4 : Int32) (M : xm_M) : Option xm_M :=
  xm_lt (b4 + Int32.ofInt 1) (fun x10 => k3 b3 x10 M)
set_option maxRecDepth 20000 in
theorem tfX2_followCorridor_138 {p : Program} {l : Launch} {e : Env} {s : State} {m : MethodId} {args : Array Value} {below : List Frame} {meth : Method} {c : Code} {D : va_G} {g : xm_G} {A : Nat → Prop} (hX : xm_X p m meth c cX2_followCorridor 7 s args wX2_followCorridor RX2 none D cL g A) (ps : Nat) (hps : cL[ps]? = some (.inl (0, .int, 9))) (k3 : Int32 → Int32 → xm_M → Option xm_M) (h3 : ∀ (b3 : Int32), ∀ (b4 : Int32), ∀ (M : xm_M), xm_J p l e ({ frames := 2, cells := 0, slots := 0, locals := 46 }) s m args below meth c 7 D cL g A (xm_Fv g) 3 [(0, .ref (g.1 49)), (1, .ref (g.1 1)), (2, .ref (g.1 ps)), (3, .int b3), (4, .int b4)] [] M (k3 b3 b4 M)) : ∀ (b3 : Int32), ∀ (b4 : Int32), ∀ (M : xm_M), xm_J p l e ({ frames := 2, cells := 0, slots := 0, locals := 46 }) s m args below meth c 7 D cL g A (xm_Fv g) 138 [(0, .ref (g.1 49)), (1, .ref (g.1 1)), (2, .ref (g.1 ps)), (3, .int b3), (4, .int b4)] [] M (fX2_followCorridor_138 ps k3 b3 b4 M) := by
  intro b3 b4 M
  unfold fX2_followCorridor_138
  refine xm_iinc hX (lv2 := fun x10 => [(4, .int x10), (0, .ref (g.1 49)), (1, .ref (g.1 1)), (2, .ref (g.1 ps)), (3, .int b3)]) 4 dX2_followCorridor_138 rfl (by decide) (fun _ => rfl) (fun x10 => ?_)
  refine xm_goto hX (tgt := 3) dX2_followCorridor_141 rfl ?_
  refine xm_weak [1, 2, 3, 4, 0] (lv' := [(0, .ref (g.1 49)), (1, .ref (g.1 1)), (2, .ref (g.1 ps)), (3, .int b3), (4, .int x10)]) rfl ?_
  exact h3 b3 x10 M
def fX2_followCorridor_3 (ps : Nat) (k3 : Int32 → Int32 → xm_M → Option xm_M) (b3 : Int32) (b4 : Int32) (M : xm_M) : Option xm_M :=
  if (M.1 1 4) ≤ b4 then some M else xm_bi (fX3_item_ 3 5 4 8 ((4 : Int32)) b4 M) (fun x3 M2 => xm_bi (fX2_offDirection x3 M2) (fun x5 M4 => if ((1000 : Int32)) = 0 then none else if ((1000 : Int32)) = 0 then none else xm_bi (fX3_item ps 9 ((7 : Int32)) M4) (fun x7 M6 => xm_bi (fX1_isNear b4 ((M4.1 49 3) / ((1000 : Int32))) ((M4.1 49 4) / ((1000 : Int32))) x7 M6) (fun x9 M8 => if x9 = 0 then fX2_followCorridor_138 ps k3 b3 b4 M8 else xm_bi (fX3_item ps 9 ((8 : Int32)) M8) (fun x12 M11 => if x12 < (if 0 ≤ x5 then x5 else 0 - x5) then fX2_followCorridor_138 ps k3 b3 b4 M11 else xm_bi (fX3_item ps 9 ((6 : Int32)) M11) (fun x14 M13 => if ((100 : Int32)) = 0 then none else xm_lt ((x5 * x14) / ((100 : Int32))) (fun x15 => xm_bi (fX3_asHeading (((M13.1 49 5).toInt64) - x15.toInt64) M13) (fun x17 M16 => xm_lt (xm_s M16 49 5 x17) (fun M18 => xm_lt (xm_s M18 49 8 ((M18.1 49 8) + ((1 : Int32)))) (fun M19 => xm_bv (fX3_keep_ 56 11 57 120 ((7 : Int32)) b3 b4 M19) (fun M20 => xm_bv (fX3_keep_ 56 11 57 120 ((8 : Int32)) b3 x15 M20) (fun M21 => some M21))))))))))))
set_option maxRecDepth 20000 in
theorem tfX2_followCorridor_3 {p : Program} {l : Launch} {e : Env} {s : State} {m : MethodId} {args : Array Value} {below : List Frame} {meth : Method} {c : Code} {D : va_G} {g : xm_G} {A : Nat → Prop} (hX : xm_X p m meth c cX2_followCorridor 7 s args wX2_followCorridor RX2 none D cL g A) (ps : Nat) (hps : cL[ps]? = some (.inl (0, .int, 9))) (k3 : Int32 → Int32 → xm_M → Option xm_M) (h3 : ∀ (b3 : Int32), ∀ (b4 : Int32), ∀ (M : xm_M), xm_J p l e ({ frames := 2, cells := 0, slots := 0, locals := 46 }) s m args below meth c 7 D cL g A (xm_Fv g) 3 [(0, .ref (g.1 49)), (1, .ref (g.1 1)), (2, .ref (g.1 ps)), (3, .int b3), (4, .int b4)] [] M (k3 b3 b4 M)) : ∀ (b3 : Int32), ∀ (b4 : Int32), ∀ (M : xm_M), xm_J p l e ({ frames := 2, cells := 0, slots := 0, locals := 46 }) s m args below meth c 7 D cL g A (xm_Fv g) 3 [(0, .ref (g.1 49)), (1, .ref (g.1 1)), (2, .ref (g.1 ps)), (3, .int b3), (4, .int b4)] [] M (fX2_followCorridor_3 ps k3 b3 b4 M) := by
  intro b3 b4 M
  unfold fX2_followCorridor_3
  refine xm_iload hX 4 dX2_followCorridor_3 rfl ?_
  refine xm_aload_n hX 1 dX2_followCorridor_5 rfl rfl ?_
  refine xm_get hX (k := 1) (ci := 1) (j := 4) (C := RX1) (T := TX1) (N := 11) (v := .int (M.1 1 4)) cL_1 rfl rfl rfl (by decide) (fun z hz => List.mem_cons_of_mem _ (iw_X1 z hz)) (List.mem_cons_of_mem _ gm_41) dX2_followCorridor_6 ?_
  refine xm_icmp_ge hX (tgt := 144) dX2_followCorridor_9 rfl ?_ ?_
  · exact xm_vret hX dX2_followCorridor_144
  · refine xm_aload_n hX 0 dX2_followCorridor_12 rfl rfl ?_
    refine xm_aload_n hX 1 dX2_followCorridor_13 rfl rfl ?_
    refine xm_get hX (k := 1) (ci := 1) (j := 1) (C := RX1) (T := TX1) (N := 11) (v := .ref (g.1 3)) cL_1 rfl rfl rfl (by decide) (fun z hz => List.mem_cons_of_mem _ (iw_X1 z hz)) (List.mem_cons_of_mem _ gm_33) dX2_followCorridor_14 ?_
    refine xm_iconst hX (v := 4) rfl dX2_followCorridor_17 ?_
    refine xm_iload hX 4 dX2_followCorridor_18 rfl ?_
    refine xm_calli hX (xm_runSN hX (As := (fun g => [.ref (g.1 3), .int ((4 : Int32)), .int b4])) (kX3_item_ 3 5 4 8 cL_3 cL_rows_3 ((4 : Int32)) b4 M) (xm_gN gm_234) rfl ⟨rfl, rfl⟩ nw_4 (List.mem_cons_of_mem _ gm_1) (List.mem_cons_of_mem _ gm_233) hdX3_item_ ⟨Nat.le_of_ble_eq_true rfl, Nat.le_of_ble_eq_true rfl⟩ rfl (Nat.le_of_ble_eq_true rfl) rfl dX2_followCorridor_20) (fun x3 M2 => ?_)
    refine xm_calli hX (xm_runV hX (k := 49) (ci := 2) (As := (fun g => [.int x3])) (kX2_offDirection x3 M2) cL_49 rfl (xm_gV gm_281 gm_282 gm_704 gm_3 gm_283) rfl ⟨rfl, rfl⟩ ⟨rfl, hdX2_offDirection⟩ ⟨Nat.le_of_ble_eq_true rfl, Nat.le_of_ble_eq_true rfl⟩ rfl (Nat.le_of_ble_eq_true rfl) rfl dX2_followCorridor_23) (fun x5 M4 => ?_)
    refine xm_istore hX (lv' := [(5, .int x5), (0, .ref (g.1 49)), (1, .ref (g.1 1)), (2, .ref (g.1 ps)), (3, .int b3), (4, .int b4)]) dX2_followCorridor_26 (by decide) rfl ?_
    refine xm_aload_n hX 2 dX2_followCorridor_28 rfl rfl ?_
    refine xm_iload hX 5 dX2_followCorridor_29 rfl ?_
    refine xm_aload_n hX 1 dX2_followCorridor_31 rfl rfl ?_
    refine xm_get hX (k := 49) (ci := 2) (j := 3) (C := RX2) (T := TX2) (N := 12) (v := .int (M4.1 49 3)) cL_49 rfl rfl rfl (by decide) (fun z hz => List.mem_cons_of_mem _ (iw_X2 z hz)) (List.mem_cons_of_mem _ gm_80) dX2_followCorridor_32 ?_
    refine xm_sipush hX (v := 1000) rfl dX2_followCorridor_35 ?_
    refine xm_idiv hX dX2_followCorridor_38 ?_
    refine xm_aload_n hX 1 dX2_followCorridor_39 rfl rfl ?_
    refine xm_get hX (k := 49) (ci := 2) (j := 4) (C := RX2) (T := TX2) (N := 12) (v := .int (M4.1 49 4)) cL_49 rfl rfl rfl (by decide) (fun z hz => List.mem_cons_of_mem _ (iw_X2 z hz)) (List.mem_cons_of_mem _ gm_82) dX2_followCorridor_40 ?_
    refine xm_sipush hX (v := 1000) rfl dX2_followCorridor_43 ?_
    refine xm_idiv hX dX2_followCorridor_46 ?_
    refine xm_aload_n hX 3 dX2_followCorridor_47 rfl rfl ?_
    refine xm_bipush hX (v := 7) rfl dX2_followCorridor_48 ?_
    refine xm_calli hX (xm_runSN hX (As := (fun g => [.ref (g.1 ps), .int ((7 : Int32))])) (kX3_item ps 9 hps ((7 : Int32)) M4) (xm_gN gm_155) rfl ⟨rfl, rfl⟩ nw_5 (List.mem_cons_of_mem _ gm_1) (List.mem_cons_of_mem _ gm_154) hdX3_item ⟨Nat.le_of_ble_eq_true rfl, Nat.le_of_ble_eq_true rfl⟩ rfl (Nat.le_of_ble_eq_true rfl) rfl dX2_followCorridor_50) (fun x7 M6 => ?_)
    refine xm_calli hX (xm_runV hX (k := 1) (ci := 1) (As := (fun g => [.int b4, .int ((M4.1 49 3) / ((1000 : Int32))), .int ((M4.1 49 4) / ((1000 : Int32))), .int x7])) (kX1_isNear b4 ((M4.1 49 3) / ((1000 : Int32))) ((M4.1 49 4) / ((1000 : Int32))) x7 M6) cL_1 rfl (xm_gV gm_289 gm_290 gm_291 gm_2 gm_292) rfl ⟨rfl, rfl⟩ ⟨rfl, hdX1_isNear⟩ ⟨Nat.le_of_ble_eq_true rfl, Nat.le_of_ble_eq_true rfl⟩ rfl (Nat.le_of_ble_eq_true rfl) rfl dX2_followCorridor_53) (fun x9 M8 => ?_)
    refine xm_if_eq hX (tgt := 138) dX2_followCorridor_56 rfl ?_ ?_
    · refine xm_weak [1, 2, 3, 4, 5] (lv' := [(0, .ref (g.1 49)), (1, .ref (g.1 1)), (2, .ref (g.1 ps)), (3, .int b3), (4, .int b4)]) rfl ?_
      exact tfX2_followCorridor_138 hX ps hps k3 h3 b3 b4 M8
    · refine xm_iload hX 0 dX2_followCorridor_59 rfl ?_
      refine xm_mabs hX (List.mem_cons_of_mem _ gm_241) (List.mem_cons_of_mem _ gm_242) (List.mem_cons_of_mem _ gm_6) (List.mem_cons_of_mem _ gm_243) (Nat.le_of_ble_eq_true rfl) (Nat.le_of_ble_eq_true rfl) dX2_followCorridor_61 ?_
      refine xm_aload_n hX 3 dX2_followCorridor_64 rfl rfl ?_
      refine xm_bipush hX (v := 8) rfl dX2_followCorridor_65 ?_
      refine xm_calli hX (xm_runSN hX (As := (fun g => [.ref (g.1 ps), .int ((8 : Int32))])) (kX3_item ps 9 hps ((8 : Int32)) M8) (xm_gN gm_155) rfl ⟨rfl, rfl⟩ nw_5 (List.mem_cons_of_mem _ gm_1) (List.mem_cons_of_mem _ gm_154) hdX3_item ⟨Nat.le_of_ble_eq_true rfl, Nat.le_of_ble_eq_true rfl⟩ rfl (Nat.le_of_ble_eq_true rfl) rfl dX2_followCorridor_67) (fun x12 M11 => ?_)
      refine xm_icmp_gt hX (tgt := 138) dX2_followCorridor_70 rfl ?_ ?_
      · refine xm_weak [1, 2, 3, 4, 5] (lv' := [(0, .ref (g.1 49)), (1, .ref (g.1 1)), (2, .ref (g.1 ps)), (3, .int b3), (4, .int b4)]) rfl ?_
        exact tfX2_followCorridor_138 hX ps hps k3 h3 b3 b4 M11
      · refine xm_iload hX 0 dX2_followCorridor_73 rfl ?_
        refine xm_aload_n hX 3 dX2_followCorridor_75 rfl rfl ?_
        refine xm_bipush hX (v := 6) rfl dX2_followCorridor_76 ?_
        refine xm_calli hX (xm_runSN hX (As := (fun g => [.ref (g.1 ps), .int ((6 : Int32))])) (kX3_item ps 9 hps ((6 : Int32)) M11) (xm_gN gm_155) rfl ⟨rfl, rfl⟩ nw_5 (List.mem_cons_of_mem _ gm_1) (List.mem_cons_of_mem _ gm_154) hdX3_item ⟨Nat.le_of_ble_eq_true rfl, Nat.le_of_ble_eq_true rfl⟩ rfl (Nat.le_of_ble_eq_true rfl) rfl dX2_followCorridor_78) (fun x14 M13 => ?_)
        refine xm_imul hX dX2_followCorridor_81 ?_
        refine xm_bipush hX (v := 100) rfl dX2_followCorridor_82 ?_
        refine xm_idiv hX dX2_followCorridor_84 ?_
        refine xm_nmi (fun x15 => ?_)
        refine xm_istore hX (lv' := [(6, .int x15), (5, .int x5), (0, .ref (g.1 49)), (1, .ref (g.1 1)), (2, .ref (g.1 ps)), (3, .int b3), (4, .int b4)]) dX2_followCorridor_85 (by decide) rfl ?_
        refine xm_aload_n hX 2 dX2_followCorridor_87 rfl rfl ?_
        refine xm_aload_n hX 2 dX2_followCorridor_88 rfl rfl ?_
        refine xm_get hX (k := 49) (ci := 2) (j := 5) (C := RX2) (T := TX2) (N := 12) (v := .int (M13.1 49 5)) cL_49 rfl rfl rfl (by decide) (fun z hz => List.mem_cons_of_mem _ (iw_X2 z hz)) (List.mem_cons_of_mem _ gm_84) dX2_followCorridor_89 ?_
        refine xm_i2l hX dX2_followCorridor_92 ?_
        refine xm_iload hX 0 dX2_followCorridor_93 rfl ?_
        refine xm_i2l hX dX2_followCorridor_95 ?_
        refine xm_lsub hX dX2_followCorridor_96 ?_
        refine xm_calli hX (xm_runSN hX (As := (fun g => [.long (((M13.1 49 5).toInt64) - x15.toInt64)])) (kX3_asHeading (((M13.1 49 5).toInt64) - x15.toInt64) M13) (xm_gN gm_263) rfl ⟨rfl, rfl⟩ nw_8 (List.mem_cons_of_mem _ gm_1) (List.mem_cons_of_mem _ gm_262) hdX3_asHeading ⟨Nat.le_of_ble_eq_true rfl, Nat.le_of_ble_eq_true rfl⟩ rfl (Nat.le_of_ble_eq_true rfl) rfl dX2_followCorridor_97) (fun x17 M16 => ?_)
        refine xm_puti hX (k := 49) (ci := 2) (j := 5) (C := RX2) (T := TX2) (N := 12) (t0 := tyX2) cL_49 rfl rfl (by decide) (fun z hz => List.mem_cons_of_mem _ (iw_X2 z hz)) tyX2_ok nmX2 rfl rfl (List.mem_cons_of_mem _ gm_84) dX2_followCorridor_100 (fun M18 => ?_)
        refine xm_aload_n hX 2 dX2_followCorridor_103 rfl rfl ?_
        refine xm_dup hX rfl dX2_followCorridor_104 ?_
        refine xm_get hX (k := 49) (ci := 2) (j := 8) (C := RX2) (T := TX2) (N := 12) (v := .int (M18.1 49 8)) cL_49 rfl rfl rfl (by decide) (fun z hz => List.mem_cons_of_mem _ (iw_X2 z hz)) (List.mem_cons_of_mem _ gm_89) dX2_followCorridor_105 ?_
        refine xm_iconst hX (v := 1) rfl dX2_followCorridor_108 ?_
        refine xm_iadd hX dX2_followCorridor_109 ?_
        refine xm_puti hX (k := 49) (ci := 2) (j := 8) (C := RX2) (T := TX2) (N := 12) (t0 := tyX2) cL_49 rfl rfl (by decide) (fun z hz => List.mem_cons_of_mem _ (iw_X2 z hz)) tyX2_ok nmX2 rfl rfl (List.mem_cons_of_mem _ gm_89) dX2_followCorridor_110 (fun M19 => ?_)
        refine xm_aload_n hX 2 dX2_followCorridor_113 rfl rfl ?_
        refine xm_get hX (k := 49) (ci := 2) (j := 1) (C := RX2) (T := TX2) (N := 12) (v := .ref (g.1 56)) cL_49 rfl rfl rfl (by decide) (fun z hz => List.mem_cons_of_mem _ (iw_X2 z hz)) (List.mem_cons_of_mem _ gm_76) dX2_followCorridor_114 ?_
        refine xm_bipush hX (v := 7) rfl dX2_followCorridor_117 ?_
        refine xm_iload_n hX 5 dX2_followCorridor_119 rfl rfl ?_
        refine xm_iload hX 6 dX2_followCorridor_120 rfl ?_
        refine xm_callv hX (xm_runSN hX (As := (fun g => [.ref (g.1 56), .int ((7 : Int32)), .int b3, .int b4])) (kX3_keep_ 56 11 57 120 cL_56 cL_rows_56 ((7 : Int32)) b3 b4 M19) (xm_gN gm_173) rfl ⟨rfl, rfl⟩ nw_2 (List.mem_cons_of_mem _ gm_1) (List.mem_cons_of_mem _ gm_172) hdX3_keep_ ⟨Nat.le_of_ble_eq_true rfl, Nat.le_of_ble_eq_true rfl⟩ rfl (Nat.le_of_ble_eq_true rfl) rfl dX2_followCorridor_122) (fun M20 => ?_)
        refine xm_aload_n hX 2 dX2_followCorridor_125 rfl rfl ?_
        refine xm_get hX (k := 49) (ci := 2) (j := 1) (C := RX2) (T := TX2) (N := 12) (v := .ref (g.1 56)) cL_49 rfl rfl rfl (by decide) (fun z hz => List.mem_cons_of_mem _ (iw_X2 z hz)) (List.mem_cons_of_mem _ gm_76) dX2_followCorridor_126 ?_
        refine xm_bipush hX (v := 8) rfl dX2_followCorridor_129 ?_
        refine xm_iload_n hX 5 dX2_followCorridor_131 rfl rfl ?_
        refine xm_iload hX 0 dX2_followCorridor_132 rfl ?_
        refine xm_callv hX (xm_runSN hX (As := (fun g => [.ref (g.1 56), .int ((8 : Int32)), .int b3, .int x15])) (kX3_keep_ 56 11 57 120 cL_56 cL_rows_56 ((8 : Int32)) b3 x15 M20) (xm_gN gm_173) rfl ⟨rfl, rfl⟩ nw_2 (List.mem_cons_of_mem _ gm_1) (List.mem_cons_of_mem _ gm_172) hdX3_keep_ ⟨Nat.le_of_ble_eq_true rfl, Nat.le_of_ble_eq_true rfl⟩ rfl (Nat.le_of_ble_eq_true rfl) rfl dX2_followCorridor_134) (fun M21 => ?_)
        exact xm_vret hX dX2_followCorridor_137
def fX2_followCorridor_3_it (ps : Nat)  (nq : Nat) : Int32 → Int32 → xm_M → Option xm_M := xm_it (fun kq => fX2_followCorridor_3 ps kq) (fun _ _ _ => none) nq
theorem tfX2_followCorridor_3_it {p : Program} {l : Launch} {e : Env} {s : State} {m : MethodId} {args : Array Value} {below : List Frame} {meth : Method} {c : Code} {D : va_G} {g : xm_G} {A : Nat → Prop} (hX : xm_X p m meth c cX2_followCorridor 7 s args wX2_followCorridor RX2 none D cL g A) (ps : Nat) (hps : cL[ps]? = some (.inl (0, .int, 9)))   : ∀ (nq : Nat), ∀ (b3 : Int32), ∀ (b4 : Int32), ∀ (M : xm_M), xm_J p l e ({ frames := 2, cells := 0, slots := 0, locals := 46 }) s m args below meth c 7 D cL g A (xm_Fv g) 3 [(0, .ref (g.1 49)), (1, .ref (g.1 1)), (2, .ref (g.1 ps)), (3, .int b3), (4, .int b4)] [] M (fX2_followCorridor_3_it ps nq b3 b4 M) := by
  intro nq
  induction nq with
  | zero => exact fun _ _ _ => xm_none
  | succ nq ih => exact tfX2_followCorridor_3 hX ps hps _ ih
def fX2_followCorridor (ps : Nat) (a3 : Int32) (M : xm_M) : Option xm_M :=
  xm_lt ((0 : Int32)) (fun x1 => fX2_followCorridor_3_it ps xm_N a3 x1 M)
set_option maxRecDepth 20000 in
theorem kX2_followCorridor {l : Launch} (ps : Nat) (hps : cL[ps]? = some (.inl (0, .int, 9))) (a3 : Int32) (M : xm_M) : xm_C l yX2_followCorridor wX2_followCorridor ({ frames := 2, cells := 0, slots := 0, locals := 46 }) cL (fun g => [.ref (g.1 49), .ref (g.1 1), .ref (g.1 ps), .int a3]) M xm_Fv (fX2_followCorridor ps a3 M) := by
  refine xm_C.of (by decide) rfl (fun g => Nat.le_of_ble_eq_true rfl) ?_
  intro p e s m args below meth c D g A hX
  refine xm_lv (lv' := [(0, .ref (g.1 49)), (1, .ref (g.1 1)), (2, .ref (g.1 ps)), (3, .int a3)]) rfl ?_
  unfold fX2_followCorridor
  refine xm_iconst hX (v := 0) rfl dX2_followCorridor_0 ?_
  refine xm_nmi (fun x1 => ?_)
  refine xm_istore hX (lv' := [(4, .int x1), (0, .ref (g.1 49)), (1, .ref (g.1 1)), (2, .ref (g.1 ps)), (3, .int a3)]) dX2_followCorridor_1 (by decide) rfl ?_
  refine xm_weak [1, 2, 3, 4, 0] (lv' := [(0, .ref (g.1 49)), (1, .ref (g.1 1)), (2, .ref (g.1 ps)), (3, .int a3), (4, .int x1)]) rfl ?_
  exact tfX2_followCorridor_3_it hX ps hps xm_N a3 x1 M
end
section
-- ===== OdometryDesk$Way.go(LOdometryDesk$State;[II)V ['49', '1', 'ps']
theorem dX2_go_0 : decode cX2_go 0 = .ok (.aload_n 1, 1) := by decide +kernel
theorem dX2_go_1 : decode cX2_go 1 = .ok (.getfield 119, 3) := by decide +kernel
theorem dX2_go_4 : decode cX2_go 4 = .ok (.iconst 1, 1) := by decide +kernel
theorem dX2_go_5 : decode cX2_go 5 = .ok (.iload_n 3, 1) := by decide +kernel
theorem dX2_go_6 : decode cX2_go 6 = .ok (.invokestatic 91, 3) := by decide +kernel
theorem dX2_go_9 : decode cX2_go 9 = .ok (.istore 4, 2) := by decide +kernel
theorem dX2_go_11 : decode cX2_go 11 = .ok (.aload_n 1, 1) := by decide +kernel
theorem dX2_go_12 : decode cX2_go 12 = .ok (.getfield 119, 3) := by decide +kernel
theorem dX2_go_15 : decode cX2_go 15 = .ok (.iconst 2, 1) := by decide +kernel
theorem dX2_go_16 : decode cX2_go 16 = .ok (.iload_n 3, 1) := by decide +kernel
theorem dX2_go_17 : decode cX2_go 17 = .ok (.invokestatic 91, 3) := by decide +kernel
theorem dX2_go_20 : decode cX2_go 20 = .ok (.istore 5, 2) := by decide +kernel
theorem dX2_go_22 : decode cX2_go 22 = .ok (.aload_n 1, 1) := by decide +kernel
theorem dX2_go_23 : decode cX2_go 23 = .ok (.getfield 119, 3) := by decide +kernel
theorem dX2_go_26 : decode cX2_go 26 = .ok (.iconst 3, 1) := by decide +kernel
theorem dX2_go_27 : decode cX2_go 27 = .ok (.iload_n 3, 1) := by decide +kernel
theorem dX2_go_28 : decode cX2_go 28 = .ok (.invokestatic 91, 3) := by decide +kernel
theorem dX2_go_31 : decode cX2_go 31 = .ok (.istore 6, 2) := by decide +kernel
theorem dX2_go_33 : decode cX2_go 33 = .ok (.aload_n 0, 1) := by decide +kernel
theorem dX2_go_34 : decode cX2_go 34 = .ok (.getfield 16, 3) := by decide +kernel
theorem dX2_go_37 : decode cX2_go 37 = .ok (.iconst 1, 1) := by decide +kernel
theorem dX2_go_38 : decode cX2_go 38 = .ok (.iload_n 3, 1) := by decide +kernel
theorem dX2_go_39 : decode cX2_go 39 = .ok (.iload 4, 2) := by decide +kernel
theorem dX2_go_41 : decode cX2_go 41 = .ok (.invokestatic 109, 3) := by decide +kernel
theorem dX2_go_44 : decode cX2_go 44 = .ok (.aload_n 0, 1) := by decide +kernel
theorem dX2_go_45 : decode cX2_go 45 = .ok (.getfield 16, 3) := by decide +kernel
theorem dX2_go_48 : decode cX2_go 48 = .ok (.iconst 2, 1) := by decide +kernel
theorem dX2_go_49 : decode cX2_go 49 = .ok (.iload_n 3, 1) := by decide +kernel
theorem dX2_go_50 : decode cX2_go 50 = .ok (.iload 5, 2) := by decide +kernel
theorem dX2_go_52 : decode cX2_go 52 = .ok (.invokestatic 109, 3) := by decide +kernel
theorem dX2_go_55 : decode cX2_go 55 = .ok (.aload_n 0, 1) := by decide +kernel
theorem dX2_go_56 : decode cX2_go 56 = .ok (.getfield 16, 3) := by decide +kernel
theorem dX2_go_59 : decode cX2_go 59 = .ok (.iconst 3, 1) := by decide +kernel
theorem dX2_go_60 : decode cX2_go 60 = .ok (.iload_n 3, 1) := by decide +kernel
theorem dX2_go_61 : decode cX2_go 61 = .ok (.iload 6, 2) := by decide +kernel
theorem dX2_go_63 : decode cX2_go 63 = .ok (.invokestatic 109, 3) := by decide +kernel
theorem dX2_go_66 : decode cX2_go 66 = .ok (.iload 4, 2) := by decide +kernel
theorem dX2_go_68 : decode cX2_go 68 = .ok (.ifCond .ne 45, 3) := by decide +kernel
theorem dX2_go_71 : decode cX2_go 71 = .ok (.iload 5, 2) := by decide +kernel
theorem dX2_go_73 : decode cX2_go 73 = .ok (.ifCond .ne 40, 3) := by decide +kernel
theorem dX2_go_76 : decode cX2_go 76 = .ok (.aload_n 0, 1) := by decide +kernel
theorem dX2_go_77 : decode cX2_go 77 = .ok (.iload_n 3, 1) := by decide +kernel
theorem dX2_go_78 : decode cX2_go 78 = .ok (.iconst 0, 1) := by decide +kernel
theorem dX2_go_79 : decode cX2_go 79 = .ok (.invokevirtual 125, 3) := by decide +kernel
theorem dX2_go_82 : decode cX2_go 82 = .ok (.aload_n 0, 1) := by decide +kernel
theorem dX2_go_83 : decode cX2_go 83 = .ok (.dup, 1) := by decide +kernel
theorem dX2_go_84 : decode cX2_go 84 = .ok (.getfield 47, 3) := by decide +kernel
theorem dX2_go_87 : decode cX2_go 87 = .ok (.bipush 16, 2) := by decide +kernel
theorem dX2_go_89 : decode cX2_go 89 = .ok (.iload 6, 2) := by decide +kernel
theorem dX2_go_91 : decode cX2_go 91 = .ok (.imul, 1) := by decide +kernel
theorem dX2_go_92 : decode cX2_go 92 = .ok (.aload_n 0, 1) := by decide +kernel
theorem dX2_go_93 : decode cX2_go 93 = .ok (.getfield 47, 3) := by decide +kernel
theorem dX2_go_96 : decode cX2_go 96 = .ok (.isub, 1) := by decide +kernel
theorem dX2_go_97 : decode cX2_go 97 = .ok (.i2l, 1) := by decide +kernel
theorem dX2_go_98 : decode cX2_go 98 = .ok (.aload_n 2, 1) := by decide +kernel
theorem dX2_go_99 : decode cX2_go 99 = .ok (.iconst 5, 1) := by decide +kernel
theorem dX2_go_100 : decode cX2_go 100 = .ok (.invokestatic 113, 3) := by decide +kernel
theorem dX2_go_103 : decode cX2_go 103 = .ok (.i2l, 1) := by decide +kernel
theorem dX2_go_104 : decode cX2_go 104 = .ok (.invokestatic 106, 3) := by decide +kernel
theorem dX2_go_107 : decode cX2_go 107 = .ok (.l2i, 1) := by decide +kernel
theorem dX2_go_108 : decode cX2_go 108 = .ok (.iadd, 1) := by decide +kernel
theorem dX2_go_109 : decode cX2_go 109 = .ok (.putfield 47, 3) := by decide +kernel
theorem dX2_go_112 : decode cX2_go 112 = .ok (.return_, 1) := by decide +kernel
theorem dX2_go_113 : decode cX2_go 113 = .ok (.aload_n 0, 1) := by decide +kernel
theorem dX2_go_114 : decode cX2_go 114 = .ok (.aload_n 2, 1) := by decide +kernel
theorem dX2_go_115 : decode cX2_go 115 = .ok (.iload_n 3, 1) := by decide +kernel
theorem dX2_go_116 : decode cX2_go 116 = .ok (.aload_n 2, 1) := by decide +kernel
theorem dX2_go_117 : decode cX2_go 117 = .ok (.iconst 0, 1) := by decide +kernel
theorem dX2_go_118 : decode cX2_go 118 = .ok (.invokestatic 113, 3) := by decide +kernel
theorem dX2_go_121 : decode cX2_go 121 = .ok (.i2l, 1) := by decide +kernel
theorem dX2_go_122 : decode cX2_go 122 = .ok (.iload 4, 2) := by decide +kernel
theorem dX2_go_124 : decode cX2_go 124 = .ok (.i2l, 1) := by decide +kernel
theorem dX2_go_125 : decode cX2_go 125 = .ok (.lmul, 1) := by decide +kernel
theorem dX2_go_126 : decode cX2_go 126 = .ok (.aload_n 2, 1) := by decide +kernel
theorem dX2_go_127 : decode cX2_go 127 = .ok (.iconst 1, 1) := by decide +kernel
theorem dX2_go_128 : decode cX2_go 128 = .ok (.invokestatic 113, 3) := by decide +kernel
theorem dX2_go_131 : decode cX2_go 131 = .ok (.i2l, 1) := by decide +kernel
theorem dX2_go_132 : decode cX2_go 132 = .ok (.iload 5, 2) := by decide +kernel
theorem dX2_go_134 : decode cX2_go 134 = .ok (.i2l, 1) := by decide +kernel
theorem dX2_go_135 : decode cX2_go 135 = .ok (.lmul, 1) := by decide +kernel
theorem dX2_go_136 : decode cX2_go 136 = .ok (.invokevirtual 132, 3) := by decide +kernel
theorem dX2_go_139 : decode cX2_go 139 = .ok (.aload_n 0, 1) := by decide +kernel
theorem dX2_go_140 : decode cX2_go 140 = .ok (.getfield 16, 3) := by decide +kernel
theorem dX2_go_143 : decode cX2_go 143 = .ok (.iconst 5, 1) := by decide +kernel
theorem dX2_go_144 : decode cX2_go 144 = .ok (.iload_n 3, 1) := by decide +kernel
theorem dX2_go_145 : decode cX2_go 145 = .ok (.aload_n 0, 1) := by decide +kernel
theorem dX2_go_146 : decode cX2_go 146 = .ok (.getfield 136, 3) := by decide +kernel
theorem dX2_go_149 : decode cX2_go 149 = .ok (.invokestatic 109, 3) := by decide +kernel
theorem dX2_go_152 : decode cX2_go 152 = .ok (.aload_n 0, 1) := by decide +kernel
theorem dX2_go_153 : decode cX2_go 153 = .ok (.getfield 16, 3) := by decide +kernel
theorem dX2_go_156 : decode cX2_go 156 = .ok (.bipush 6, 2) := by decide +kernel
theorem dX2_go_158 : decode cX2_go 158 = .ok (.iload_n 3, 1) := by decide +kernel
theorem dX2_go_159 : decode cX2_go 159 = .ok (.aload_n 0, 1) := by decide +kernel
theorem dX2_go_160 : decode cX2_go 160 = .ok (.getfield 139, 3) := by decide +kernel
theorem dX2_go_163 : decode cX2_go 163 = .ok (.invokestatic 109, 3) := by decide +kernel
theorem dX2_go_166 : decode cX2_go 166 = .ok (.aload_n 0, 1) := by decide +kernel
theorem dX2_go_167 : decode cX2_go 167 = .ok (.invokevirtual 142, 3) := by decide +kernel
theorem dX2_go_170 : decode cX2_go 170 = .ok (.aload_n 0, 1) := by decide +kernel
theorem dX2_go_171 : decode cX2_go 171 = .ok (.aload_n 1, 1) := by decide +kernel
theorem dX2_go_172 : decode cX2_go 172 = .ok (.aload_n 2, 1) := by decide +kernel
theorem dX2_go_173 : decode cX2_go 173 = .ok (.iload_n 3, 1) := by decide +kernel
theorem dX2_go_174 : decode cX2_go 174 = .ok (.invokevirtual 145, 3) := by decide +kernel
theorem dX2_go_177 : decode cX2_go 177 = .ok (.return_, 1) := by decide +kernel
abbrev wX2_go : List Cond := .code yX2_go cX2_go 7 none :: lw_gd
theorem hdX2_go : (yX2_go.cls ≠ "java/lang/invoke/MethodHandle" ∧ yX2_go.cls ≠ "java/lang/invoke/VarHandle" ∧ (parseMethodDescriptor yX2_go.desc).map (fun d => d.parameters.length) = some 3) := by decide +kernel
def fX2_go_113 (ps : Nat)  (b3 : Int32) (b4 : Int32) (b5 : Int32) (M : xm_M) : Option xm_M :=
  xm_bi (fX3_item ps 9 ((0 : Int32)) M) (fun x11 M10 => xm_bi (fX3_item ps 9 ((1 : Int32)) M10) (fun x13 M12 => xm_bv (fX2_weighStep ps b3 (x11.toInt64 * b4.toInt64) (x13.toInt64 * b5.toInt64) M12) (fun M14 => xm_bv (fX3_keep_ 56 11 57 120 ((5 : Int32)) b3 (M14.1 49 10) M14) (fun M15 => xm_bv (fX3_keep_ 56 11 57 120 ((6 : Int32)) b3 (M15.1 49 11) M15) (fun M16 => xm_bv (fX2_move M16) (fun M17 => xm_bv (fX2_followCorridor ps b3 M17) (fun M18 => some M18)))))))
set_option maxRecDepth 20000 in
theorem tfX2_go_113 {p : Program} {l : Launch} {e : Env} {s : State} {m : MethodId} {args : Array Value} {below : List Frame} {meth : Method} {c : Code} {D : va_G} {g : xm_G} {A : Nat → Prop} (hX : xm_X p m meth c cX2_go 7 s args wX2_go RX2 none D cL g A) (ps : Nat) (hps : cL[ps]? = some (.inl (0, .int, 9)))   : ∀ (b3 : Int32), ∀ (b4 : Int32), ∀ (b5 : Int32), ∀ (M : xm_M), xm_J p l e ({ frames := 3, cells := 0, slots := 0, locals := 80 }) s m args below meth c 7 D cL g A (xm_Fv g) 113 [(0, .ref (g.1 49)), (1, .ref (g.1 1)), (2, .ref (g.1 ps)), (3, .int b3), (4, .int b4), (5, .int b5)] [] M (fX2_go_113 ps b3 b4 b5 M) := by
  intro b3 b4 b5 M
  unfold fX2_go_113
  refine xm_aload_n hX 0 dX2_go_113 rfl rfl ?_
  refine xm_aload_n hX 2 dX2_go_114 rfl rfl ?_
  refine xm_iload_n hX 3 dX2_go_115 rfl rfl ?_
  refine xm_aload_n hX 2 dX2_go_116 rfl rfl ?_
  refine xm_iconst hX (v := 0) rfl dX2_go_117 ?_
  refine xm_calli hX (xm_runSN hX (As := (fun g => [.ref (g.1 ps), .int ((0 : Int32))])) (kX3_item ps 9 hps ((0 : Int32)) M) (xm_gN gm_155) rfl ⟨rfl, rfl⟩ nw_5 (List.mem_cons_of_mem _ gm_1) (List.mem_cons_of_mem _ gm_154) hdX3_item ⟨Nat.le_of_ble_eq_true rfl, Nat.le_of_ble_eq_true rfl⟩ rfl (Nat.le_of_ble_eq_true rfl) rfl dX2_go_118) (fun x11 M10 => ?_)
  refine xm_i2l hX dX2_go_121 ?_
  refine xm_iload hX 4 dX2_go_122 rfl ?_
  refine xm_i2l hX dX2_go_124 ?_
  refine xm_lmul hX dX2_go_125 ?_
  refine xm_aload_n hX 2 dX2_go_126 rfl rfl ?_
  refine xm_iconst hX (v := 1) rfl dX2_go_127 ?_
  refine xm_calli hX (xm_runSN hX (As := (fun g => [.ref (g.1 ps), .int ((1 : Int32))])) (kX3_item ps 9 hps ((1 : Int32)) M10) (xm_gN gm_155) rfl ⟨rfl, rfl⟩ nw_5 (List.mem_cons_of_mem _ gm_1) (List.mem_cons_of_mem _ gm_154) hdX3_item ⟨Nat.le_of_ble_eq_true rfl, Nat.le_of_ble_eq_true rfl⟩ rfl (Nat.le_of_ble_eq_true rfl) rfl dX2_go_128) (fun x13 M12 => ?_)
  refine xm_i2l hX dX2_go_131 ?_
  refine xm_iload hX 5 dX2_go_132 rfl ?_
  refine xm_i2l hX dX2_go_134 ?_
  refine xm_lmul hX dX2_go_135 ?_
  refine xm_callv hX (xm_runV hX (k := 49) (ci := 2) (As := (fun g => [.ref (g.1 ps), .int b3, .long (x11.toInt64 * b4.toInt64), .long (x13.toInt64 * b5.toInt64)])) (kX2_weighStep ps hps b3 (x11.toInt64 * b4.toInt64) (x13.toInt64 * b5.toInt64) M12) cL_49 rfl (xm_gV gm_249 gm_250 gm_701 gm_3 gm_251) rfl ⟨rfl, rfl⟩ ⟨rfl, hdX2_weighStep⟩ ⟨Nat.le_of_ble_eq_true rfl, Nat.le_of_ble_eq_true rfl⟩ rfl (Nat.le_of_ble_eq_true rfl) rfl dX2_go_136) (fun M14 => ?_)
  refine xm_aload_n hX 0 dX2_go_139 rfl rfl ?_
  refine xm_get hX (k := 49) (ci := 2) (j := 1) (C := RX2) (T := TX2) (N := 12) (v := .ref (g.1 56)) cL_49 rfl rfl rfl (by decide) (fun z hz => List.mem_cons_of_mem _ (iw_X2 z hz)) (List.mem_cons_of_mem _ gm_76) dX2_go_140 ?_
  refine xm_iconst hX (v := 5) rfl dX2_go_143 ?_
  refine xm_iload_n hX 3 dX2_go_144 rfl rfl ?_
  refine xm_aload_n hX 0 dX2_go_145 rfl rfl ?_
  refine xm_get hX (k := 49) (ci := 2) (j := 10) (C := RX2) (T := TX2) (N := 12) (v := .int (M14.1 49 10)) cL_49 rfl rfl rfl (by decide) (fun z hz => List.mem_cons_of_mem _ (iw_X2 z hz)) (List.mem_cons_of_mem _ gm_93) dX2_go_146 ?_
  refine xm_callv hX (xm_runSN hX (As := (fun g => [.ref (g.1 56), .int ((5 : Int32)), .int b3, .int (M14.1 49 10)])) (kX3_keep_ 56 11 57 120 cL_56 cL_rows_56 ((5 : Int32)) b3 (M14.1 49 10) M14) (xm_gN gm_173) rfl ⟨rfl, rfl⟩ nw_2 (List.mem_cons_of_mem _ gm_1) (List.mem_cons_of_mem _ gm_172) hdX3_keep_ ⟨Nat.le_of_ble_eq_true rfl, Nat.le_of_ble_eq_true rfl⟩ rfl (Nat.le_of_ble_eq_true rfl) rfl dX2_go_149) (fun M15 => ?_)
  refine xm_aload_n hX 0 dX2_go_152 rfl rfl ?_
  refine xm_get hX (k := 49) (ci := 2) (j := 1) (C := RX2) (T := TX2) (N := 12) (v := .ref (g.1 56)) cL_49 rfl rfl rfl (by decide) (fun z hz => List.mem_cons_of_mem _ (iw_X2 z hz)) (List.mem_cons_of_mem _ gm_76) dX2_go_153 ?_
  refine xm_bipush hX (v := 6) rfl dX2_go_156 ?_
  refine xm_iload_n hX 3 dX2_go_158 rfl rfl ?_
  refine xm_aload_n hX 0 dX2_go_159 rfl rfl ?_
  refine xm_get hX (k := 49) (ci := 2) (j := 11) (C := RX2) (T := TX2) (N := 12) (v := .int (M15.1 49 11)) cL_49 rfl rfl rfl (by decide) (fun z hz => List.mem_cons_of_mem _ (iw_X2 z hz)) (List.mem_cons_of_mem _ gm_94) dX2_go_160 ?_
  refine xm_callv hX (xm_runSN hX (As := (fun g => [.ref (g.1 56), .int ((6 : Int32)), .int b3, .int (M15.1 49 11)])) (kX3_keep_ 56 11 57 120 cL_56 cL_rows_56 ((6 : Int32)) b3 (M15.1 49 11) M15) (xm_gN gm_173) rfl ⟨rfl, rfl⟩ nw_2 (List.mem_cons_of_mem _ gm_1) (List.mem_cons_of_mem _ gm_172) hdX3_keep_ ⟨Nat.le_of_ble_eq_true rfl, Nat.le_of_ble_eq_true rfl⟩ rfl (Nat.le_of_ble_eq_true rfl) rfl dX2_go_163) (fun M16 => ?_)
  refine xm_aload_n hX 0 dX2_go_166 rfl rfl ?_
  refine xm_callv hX (xm_runV hX (k := 49) (ci := 2) (As := (fun g => [])) (kX2_move M16) cL_49 rfl (xm_gV gm_259 gm_260 gm_702 gm_3 gm_261) rfl ⟨rfl, rfl⟩ ⟨rfl, hdX2_move⟩ ⟨Nat.le_of_ble_eq_true rfl, Nat.le_of_ble_eq_true rfl⟩ rfl (Nat.le_of_ble_eq_true rfl) rfl dX2_go_167) (fun M17 => ?_)
  refine xm_aload_n hX 0 dX2_go_170 rfl rfl ?_
  refine xm_aload_n hX 1 dX2_go_171 rfl rfl ?_
  refine xm_aload_n hX 2 dX2_go_172 rfl rfl ?_
  refine xm_iload_n hX 3 dX2_go_173 rfl rfl ?_
  refine xm_callv hX (xm_runV hX (k := 49) (ci := 2) (As := (fun g => [.ref (g.1 1), .ref (g.1 ps), .int b3])) (kX2_followCorridor ps hps b3 M17) cL_49 rfl (xm_gV gm_278 gm_279 gm_703 gm_3 gm_280) rfl ⟨rfl, rfl⟩ ⟨rfl, hdX2_followCorridor⟩ ⟨Nat.le_of_ble_eq_true rfl, Nat.le_of_ble_eq_true rfl⟩ rfl (Nat.le_of_ble_eq_true rfl) rfl dX2_go_174) (fun M18 => ?_)
  exact xm_vret hX dX2_go_177
def fX2_go (ps : Nat) (a3 : Int32) (M : xm_M) : Option xm_M :=
  xm_bi (fX3_item_ 12 4 13 120 ((1 : Int32)) a3 M) (fun x2 M1 => xm_bi (fX3_item_ 12 4 13 120 ((2 : Int32)) a3 M1) (fun x4 M3 => xm_bi (fX3_item_ 12 4 13 120 ((3 : Int32)) a3 M3) (fun x6 M5 => xm_bv (fX3_keep_ 56 11 57 120 ((1 : Int32)) a3 x2 M5) (fun M7 => xm_bv (fX3_keep_ 56 11 57 120 ((2 : Int32)) a3 x4 M7) (fun M8 => xm_bv (fX3_keep_ 56 11 57 120 ((3 : Int32)) a3 x6 M8) (fun M9 => if x2 = 0 then if x4 = 0 then xm_bv (fX2_keepKind a3 ((0 : Int32)) M9) (fun M19 => xm_bi (fX3_item ps 9 ((5 : Int32)) M19) (fun x21 M20 => xm_bl (fX3_ratio (((((16 : Int32)) * x6) - (M19.1 49 7)).toInt64) x21.toInt64 M20) (fun x23 M22 => xm_lt (xm_s M22 49 7 ((M19.1 49 7) + x23.toInt32)) (fun M24 => some M24)))) else fX2_go_113 ps a3 x2 x4 M9 else fX2_go_113 ps a3 x2 x4 M9))))))
set_option maxRecDepth 20000 in
theorem kX2_go {l : Launch} (ps : Nat) (hps : cL[ps]? = some (.inl (0, .int, 9))) (a3 : Int32) (M : xm_M) : xm_C l yX2_go wX2_go ({ frames := 3, cells := 0, slots := 0, locals := 80 }) cL (fun g => [.ref (g.1 49), .ref (g.1 1), .ref (g.1 ps), .int a3]) M xm_Fv (fX2_go ps a3 M) := by
  refine xm_C.of (by decide) rfl (fun g => Nat.le_of_ble_eq_true rfl) ?_
  intro p e s m args below meth c D g A hX
  refine xm_lv (lv' := [(0, .ref (g.1 49)), (1, .ref (g.1 1)), (2, .ref (g.1 ps)), (3, .int a3)]) rfl ?_
  unfold fX2_go
  refine xm_aload_n hX 1 dX2_go_0 rfl rfl ?_
  refine xm_get hX (k := 1) (ci := 1) (j := 3) (C := RX1) (T := TX1) (N := 11) (v := .ref (g.1 12)) cL_1 rfl rfl rfl (by decide) (fun z hz => List.mem_cons_of_mem _ (iw_X1 z hz)) (List.mem_cons_of_mem _ gm_38) dX2_go_1 ?_
  refine xm_iconst hX (v := 1) rfl dX2_go_4 ?_
  refine xm_iload_n hX 3 dX2_go_5 rfl rfl ?_
  refine xm_calli hX (xm_runSN hX (As := (fun g => [.ref (g.1 12), .int ((1 : Int32)), .int a3])) (kX3_item_ 12 4 13 120 cL_12 cL_rows_12 ((1 : Int32)) a3 M) (xm_gN gm_234) rfl ⟨rfl, rfl⟩ nw_4 (List.mem_cons_of_mem _ gm_1) (List.mem_cons_of_mem _ gm_233) hdX3_item_ ⟨Nat.le_of_ble_eq_true rfl, Nat.le_of_ble_eq_true rfl⟩ rfl (Nat.le_of_ble_eq_true rfl) rfl dX2_go_6) (fun x2 M1 => ?_)
  refine xm_istore hX (lv' := [(4, .int x2), (0, .ref (g.1 49)), (1, .ref (g.1 1)), (2, .ref (g.1 ps)), (3, .int a3)]) dX2_go_9 (by decide) rfl ?_
  refine xm_aload_n hX 2 dX2_go_11 rfl rfl ?_
  refine xm_get hX (k := 1) (ci := 1) (j := 3) (C := RX1) (T := TX1) (N := 11) (v := .ref (g.1 12)) cL_1 rfl rfl rfl (by decide) (fun z hz => List.mem_cons_of_mem _ (iw_X1 z hz)) (List.mem_cons_of_mem _ gm_38) dX2_go_12 ?_
  refine xm_iconst hX (v := 2) rfl dX2_go_15 ?_
  refine xm_iload_n hX 4 dX2_go_16 rfl rfl ?_
  refine xm_calli hX (xm_runSN hX (As := (fun g => [.ref (g.1 12), .int ((2 : Int32)), .int a3])) (kX3_item_ 12 4 13 120 cL_12 cL_rows_12 ((2 : Int32)) a3 M1) (xm_gN gm_234) rfl ⟨rfl, rfl⟩ nw_4 (List.mem_cons_of_mem _ gm_1) (List.mem_cons_of_mem _ gm_233) hdX3_item_ ⟨Nat.le_of_ble_eq_true rfl, Nat.le_of_ble_eq_true rfl⟩ rfl (Nat.le_of_ble_eq_true rfl) rfl dX2_go_17) (fun x4 M3 => ?_)
  refine xm_istore hX (lv' := [(5, .int x4), (4, .int x2), (0, .ref (g.1 49)), (1, .ref (g.1 1)), (2, .ref (g.1 ps)), (3, .int a3)]) dX2_go_20 (by decide) rfl ?_
  refine xm_aload_n hX 3 dX2_go_22 rfl rfl ?_
  refine xm_get hX (k := 1) (ci := 1) (j := 3) (C := RX1) (T := TX1) (N := 11) (v := .ref (g.1 12)) cL_1 rfl rfl rfl (by decide) (fun z hz => List.mem_cons_of_mem _ (iw_X1 z hz)) (List.mem_cons_of_mem _ gm_38) dX2_go_23 ?_
  refine xm_iconst hX (v := 3) rfl dX2_go_26 ?_
  refine xm_iload_n hX 5 dX2_go_27 rfl rfl ?_
  refine xm_calli hX (xm_runSN hX (As := (fun g => [.ref (g.1 12), .int ((3 : Int32)), .int a3])) (kX3_item_ 12 4 13 120 cL_12 cL_rows_12 ((3 : Int32)) a3 M3) (xm_gN gm_234) rfl ⟨rfl, rfl⟩ nw_4 (List.mem_cons_of_mem _ gm_1) (List.mem_cons_of_mem _ gm_233) hdX3_item_ ⟨Nat.le_of_ble_eq_true rfl, Nat.le_of_ble_eq_true rfl⟩ rfl (Nat.le_of_ble_eq_true rfl) rfl dX2_go_28) (fun x6 M5 => ?_)
  refine xm_istore hX (lv' := [(6, .int x6), (5, .int x4), (4, .int x2), (0, .ref (g.1 49)), (1, .ref (g.1 1)), (2, .ref (g.1 ps)), (3, .int a3)]) dX2_go_31 (by decide) rfl ?_
  refine xm_aload_n hX 3 dX2_go_33 rfl rfl ?_
  refine xm_get hX (k := 49) (ci := 2) (j := 1) (C := RX2) (T := TX2) (N := 12) (v := .ref (g.1 56)) cL_49 rfl rfl rfl (by decide) (fun z hz => List.mem_cons_of_mem _ (iw_X2 z hz)) (List.mem_cons_of_mem _ gm_76) dX2_go_34 ?_
  refine xm_iconst hX (v := 1) rfl dX2_go_37 ?_
  refine xm_iload_n hX 6 dX2_go_38 rfl rfl ?_
  refine xm_iload hX 2 dX2_go_39 rfl ?_
  refine xm_callv hX (xm_runSN hX (As := (fun g => [.ref (g.1 56), .int ((1 : Int32)), .int a3, .int x2])) (kX3_keep_ 56 11 57 120 cL_56 cL_rows_56 ((1 : Int32)) a3 x2 M5) (xm_gN gm_173) rfl ⟨rfl, rfl⟩ nw_2 (List.mem_cons_of_mem _ gm_1) (List.mem_cons_of_mem _ gm_172) hdX3_keep_ ⟨Nat.le_of_ble_eq_true rfl, Nat.le_of_ble_eq_true rfl⟩ rfl (Nat.le_of_ble_eq_true rfl) rfl dX2_go_41) (fun M7 => ?_)
  refine xm_aload_n hX 3 dX2_go_44 rfl rfl ?_
  refine xm_get hX (k := 49) (ci := 2) (j := 1) (C := RX2) (T := TX2) (N := 12) (v := .ref (g.1 56)) cL_49 rfl rfl rfl (by decide) (fun z hz => List.mem_cons_of_mem _ (iw_X2 z hz)) (List.mem_cons_of_mem _ gm_76) dX2_go_45 ?_
  refine xm_iconst hX (v := 2) rfl dX2_go_48 ?_
  refine xm_iload_n hX 6 dX2_go_49 rfl rfl ?_
  refine xm_iload hX 1 dX2_go_50 rfl ?_
  refine xm_callv hX (xm_runSN hX (As := (fun g => [.ref (g.1 56), .int ((2 : Int32)), .int a3, .int x4])) (kX3_keep_ 56 11 57 120 cL_56 cL_rows_56 ((2 : Int32)) a3 x4 M7) (xm_gN gm_173) rfl ⟨rfl, rfl⟩ nw_2 (List.mem_cons_of_mem _ gm_1) (List.mem_cons_of_mem _ gm_172) hdX3_keep_ ⟨Nat.le_of_ble_eq_true rfl, Nat.le_of_ble_eq_true rfl⟩ rfl (Nat.le_of_ble_eq_true rfl) rfl dX2_go_52) (fun M8 => ?_)
  refine xm_aload_n hX 3 dX2_go_55 rfl rfl ?_
  refine xm_get hX (k := 49) (ci := 2) (j := 1) (C := RX2) (T := TX2) (N := 12) (v := .ref (g.1 56)) cL_49 rfl rfl rfl (by decide) (fun z hz => List.mem_cons_of_mem _ (iw_X2 z hz)) (List.mem_cons_of_mem _ gm_76) dX2_go_56 ?_
  refine xm_iconst hX (v := 3) rfl dX2_go_59 ?_
  refine xm_iload_n hX 6 dX2_go_60 rfl rfl ?_
  refine xm_iload hX 0 dX2_go_61 rfl ?_
  refine xm_callv hX (xm_runSN hX (As := (fun g => [.ref (g.1 56), .int ((3 : Int32)), .int a3, .int x6])) (kX3_keep_ 56 11 57 120 cL_56 cL_rows_56 ((3 : Int32)) a3 x6 M8) (xm_gN gm_173) rfl ⟨rfl, rfl⟩ nw_2 (List.mem_cons_of_mem _ gm_1) (List.mem_cons_of_mem _ gm_172) hdX3_keep_ ⟨Nat.le_of_ble_eq_true rfl, Nat.le_of_ble_eq_true rfl⟩ rfl (Nat.le_of_ble_eq_true rfl) rfl dX2_go_63) (fun M9 => ?_)
  refine xm_iload hX 2 dX2_go_66 rfl ?_
  refine xm_if_ne hX (tgt := 113) dX2_go_68 rfl ?_ ?_
  · refine xm_weak [3, 4, 5, 6, 2, 1] (lv' := [(0, .ref (g.1 49)), (1, .ref (g.1 1)), (2, .ref (g.1 ps)), (3, .int a3), (4, .int x2), (5, .int x4)]) rfl ?_
    exact tfX2_go_113 hX ps hps a3 x2 x4 M9
  · refine xm_iload hX 1 dX2_go_71 rfl ?_
    refine xm_if_ne hX (tgt := 113) dX2_go_73 rfl ?_ ?_
    · refine xm_weak [3, 4, 5, 6, 2, 1] (lv' := [(0, .ref (g.1 49)), (1, .ref (g.1 1)), (2, .ref (g.1 ps)), (3, .int a3), (4, .int x2), (5, .int x4)]) rfl ?_
      exact tfX2_go_113 hX ps hps a3 x2 x4 M9
    · refine xm_aload_n hX 3 dX2_go_76 rfl rfl ?_
      refine xm_iload_n hX 6 dX2_go_77 rfl rfl ?_
      refine xm_iconst hX (v := 0) rfl dX2_go_78 ?_
      refine xm_callv hX (xm_runV hX (k := 49) (ci := 2) (As := (fun g => [.int a3, .int ((0 : Int32))])) (kX2_keepKind a3 ((0 : Int32)) M9) cL_49 rfl (xm_gV gm_238 gm_239 gm_699 gm_3 gm_240) rfl ⟨rfl, rfl⟩ ⟨rfl, hdX2_keepKind⟩ ⟨Nat.le_of_ble_eq_true rfl, Nat.le_of_ble_eq_true rfl⟩ rfl (Nat.le_of_ble_eq_true rfl) rfl dX2_go_79) (fun M19 => ?_)
      refine xm_aload_n hX 3 dX2_go_82 rfl rfl ?_
      refine xm_dup hX rfl dX2_go_83 ?_
      refine xm_get hX (k := 49) (ci := 2) (j := 7) (C := RX2) (T := TX2) (N := 12) (v := .int (M19.1 49 7)) cL_49 rfl rfl rfl (by decide) (fun z hz => List.mem_cons_of_mem _ (iw_X2 z hz)) (List.mem_cons_of_mem _ gm_88) dX2_go_84 ?_
      refine xm_bipush hX (v := 16) rfl dX2_go_87 ?_
      refine xm_iload hX 0 dX2_go_89 rfl ?_
      refine xm_imul hX dX2_go_91 ?_
      refine xm_aload_n hX 3 dX2_go_92 rfl rfl ?_
      refine xm_get hX (k := 49) (ci := 2) (j := 7) (C := RX2) (T := TX2) (N := 12) (v := .int (M19.1 49 7)) cL_49 rfl rfl rfl (by decide) (fun z hz => List.mem_cons_of_mem _ (iw_X2 z hz)) (List.mem_cons_of_mem _ gm_88) dX2_go_93 ?_
      refine xm_isub hX dX2_go_96 ?_
      refine xm_i2l hX dX2_go_97 ?_
      refine xm_aload_n hX 5 dX2_go_98 rfl rfl ?_
      refine xm_iconst hX (v := 5) rfl dX2_go_99 ?_
      refine xm_calli hX (xm_runSN hX (As := (fun g => [.ref (g.1 ps), .int ((5 : Int32))])) (kX3_item ps 9 hps ((5 : Int32)) M19) (xm_gN gm_155) rfl ⟨rfl, rfl⟩ nw_5 (List.mem_cons_of_mem _ gm_1) (List.mem_cons_of_mem _ gm_154) hdX3_item ⟨Nat.le_of_ble_eq_true rfl, Nat.le_of_ble_eq_true rfl⟩ rfl (Nat.le_of_ble_eq_true rfl) rfl dX2_go_100) (fun x21 M20 => ?_)
      refine xm_i2l hX dX2_go_103 ?_
      refine xm_calll hX (xm_runSN hX (As := (fun g => [.long (((((16 : Int32)) * x6) - (M19.1 49 7)).toInt64), .long (x21.toInt64)])) (kX3_ratio (((((16 : Int32)) * x6) - (M19.1 49 7)).toInt64) x21.toInt64 M20) (xm_gN gm_248) rfl ⟨rfl, rfl⟩ nw_7 (List.mem_cons_of_mem _ gm_1) (List.mem_cons_of_mem _ gm_247) hdX3_ratio ⟨Nat.le_of_ble_eq_true rfl, Nat.le_of_ble_eq_true rfl⟩ rfl (Nat.le_of_ble_eq_true rfl) rfl dX2_go_104) (fun x23 M22 => ?_)
      refine xm_l2i hX dX2_go_107 ?_
      refine xm_iadd hX dX2_go_108 ?_
      refine xm_puti hX (k := 49) (ci := 2) (j := 7) (C := RX2) (T := TX2) (N := 12) (t0 := tyX2) cL_49 rfl rfl (by decide) (fun z hz => List.mem_cons_of_mem _ (iw_X2 z hz)) tyX2_ok nmX2 rfl rfl (List.mem_cons_of_mem _ gm_88) dX2_go_109 (fun M24 => ?_)
      exact xm_vret hX dX2_go_112
-- ===== OdometryDesk$Way.meet(LOdometryDesk$State;I)V ['49', '1']
theorem dX2_meet_0 : decode cX2_meet 0 = .ok (.aload_n 1, 1) := by decide +kernel
theorem dX2_meet_1 : decode cX2_meet 1 = .ok (.getfield 119, 3) := by decide +kernel
theorem dX2_meet_4 : decode cX2_meet 4 = .ok (.iconst 0, 1) := by decide +kernel
theorem dX2_meet_5 : decode cX2_meet 5 = .ok (.iload_n 2, 1) := by decide +kernel
theorem dX2_meet_6 : decode cX2_meet 6 = .ok (.invokestatic 91, 3) := by decide +kernel
theorem dX2_meet_9 : decode cX2_meet 9 = .ok (.istore_n 3, 1) := by decide +kernel
theorem dX2_meet_10 : decode cX2_meet 10 = .ok (.sipush 1000, 3) := by decide +kernel
theorem dX2_meet_13 : decode cX2_meet 13 = .ok (.aload_n 1, 1) := by decide +kernel
theorem dX2_meet_14 : decode cX2_meet 14 = .ok (.getfield 122, 3) := by decide +kernel
theorem dX2_meet_17 : decode cX2_meet 17 = .ok (.iconst 0, 1) := by decide +kernel
theorem dX2_meet_18 : decode cX2_meet 18 = .ok (.iload_n 3, 1) := by decide +kernel
theorem dX2_meet_19 : decode cX2_meet 19 = .ok (.invokestatic 91, 3) := by decide +kernel
theorem dX2_meet_22 : decode cX2_meet 22 = .ok (.imul, 1) := by decide +kernel
theorem dX2_meet_23 : decode cX2_meet 23 = .ok (.istore 4, 2) := by decide +kernel
theorem dX2_meet_25 : decode cX2_meet 25 = .ok (.sipush 1000, 3) := by decide +kernel
theorem dX2_meet_28 : decode cX2_meet 28 = .ok (.aload_n 1, 1) := by decide +kernel
theorem dX2_meet_29 : decode cX2_meet 29 = .ok (.getfield 122, 3) := by decide +kernel
theorem dX2_meet_32 : decode cX2_meet 32 = .ok (.iconst 1, 1) := by decide +kernel
theorem dX2_meet_33 : decode cX2_meet 33 = .ok (.iload_n 3, 1) := by decide +kernel
theorem dX2_meet_34 : decode cX2_meet 34 = .ok (.invokestatic 91, 3) := by decide +kernel
theorem dX2_meet_37 : decode cX2_meet 37 = .ok (.imul, 1) := by decide +kernel
theorem dX2_meet_38 : decode cX2_meet 38 = .ok (.istore 5, 2) := by decide +kernel
theorem dX2_meet_40 : decode cX2_meet 40 = .ok (.aload_n 0, 1) := by decide +kernel
theorem dX2_meet_41 : decode cX2_meet 41 = .ok (.iload_n 2, 1) := by decide +kernel
theorem dX2_meet_42 : decode cX2_meet 42 = .ok (.iconst 4, 1) := by decide +kernel
theorem dX2_meet_43 : decode cX2_meet 43 = .ok (.invokevirtual 125, 3) := by decide +kernel
theorem dX2_meet_46 : decode cX2_meet 46 = .ok (.aload_n 0, 1) := by decide +kernel
theorem dX2_meet_47 : decode cX2_meet 47 = .ok (.getfield 16, 3) := by decide +kernel
theorem dX2_meet_50 : decode cX2_meet 50 = .ok (.iconst 1, 1) := by decide +kernel
theorem dX2_meet_51 : decode cX2_meet 51 = .ok (.iload_n 2, 1) := by decide +kernel
theorem dX2_meet_52 : decode cX2_meet 52 = .ok (.iload_n 3, 1) := by decide +kernel
theorem dX2_meet_53 : decode cX2_meet 53 = .ok (.invokestatic 109, 3) := by decide +kernel
theorem dX2_meet_56 : decode cX2_meet 56 = .ok (.aload_n 0, 1) := by decide +kernel
theorem dX2_meet_57 : decode cX2_meet 57 = .ok (.getfield 16, 3) := by decide +kernel
theorem dX2_meet_60 : decode cX2_meet 60 = .ok (.bipush 9, 2) := by decide +kernel
theorem dX2_meet_62 : decode cX2_meet 62 = .ok (.iload_n 2, 1) := by decide +kernel
theorem dX2_meet_63 : decode cX2_meet 63 = .ok (.aload_n 0, 1) := by decide +kernel
theorem dX2_meet_64 : decode cX2_meet 64 = .ok (.getfield 29, 3) := by decide +kernel
theorem dX2_meet_67 : decode cX2_meet 67 = .ok (.iload 4, 2) := by decide +kernel
theorem dX2_meet_69 : decode cX2_meet 69 = .ok (.isub, 1) := by decide +kernel
theorem dX2_meet_70 : decode cX2_meet 70 = .ok (.invokestatic 109, 3) := by decide +kernel
theorem dX2_meet_73 : decode cX2_meet 73 = .ok (.aload_n 0, 1) := by decide +kernel
theorem dX2_meet_74 : decode cX2_meet 74 = .ok (.getfield 16, 3) := by decide +kernel
theorem dX2_meet_77 : decode cX2_meet 77 = .ok (.bipush 10, 2) := by decide +kernel
theorem dX2_meet_79 : decode cX2_meet 79 = .ok (.iload_n 2, 1) := by decide +kernel
theorem dX2_meet_80 : decode cX2_meet 80 = .ok (.aload_n 0, 1) := by decide +kernel
theorem dX2_meet_81 : decode cX2_meet 81 = .ok (.getfield 35, 3) := by decide +kernel
theorem dX2_meet_84 : decode cX2_meet 84 = .ok (.iload 5, 2) := by decide +kernel
theorem dX2_meet_86 : decode cX2_meet 86 = .ok (.isub, 1) := by decide +kernel
theorem dX2_meet_87 : decode cX2_meet 87 = .ok (.invokestatic 109, 3) := by decide +kernel
theorem dX2_meet_90 : decode cX2_meet 90 = .ok (.aload_n 0, 1) := by decide +kernel
theorem dX2_meet_91 : decode cX2_meet 91 = .ok (.dup, 1) := by decide +kernel
theorem dX2_meet_92 : decode cX2_meet 92 = .ok (.getfield 53, 3) := by decide +kernel
theorem dX2_meet_95 : decode cX2_meet 95 = .ok (.aload_n 0, 1) := by decide +kernel
theorem dX2_meet_96 : decode cX2_meet 96 = .ok (.getfield 29, 3) := by decide +kernel
theorem dX2_meet_99 : decode cX2_meet 99 = .ok (.iload 4, 2) := by decide +kernel
theorem dX2_meet_101 : decode cX2_meet 101 = .ok (.isub, 1) := by decide +kernel
theorem dX2_meet_102 : decode cX2_meet 102 = .ok (.invokestatic 129, 3) := by decide +kernel
theorem dX2_meet_105 : decode cX2_meet 105 = .ok (.i2l, 1) := by decide +kernel
theorem dX2_meet_106 : decode cX2_meet 106 = .ok (.aload_n 0, 1) := by decide +kernel
theorem dX2_meet_107 : decode cX2_meet 107 = .ok (.getfield 35, 3) := by decide +kernel
theorem dX2_meet_110 : decode cX2_meet 110 = .ok (.iload 5, 2) := by decide +kernel
theorem dX2_meet_112 : decode cX2_meet 112 = .ok (.isub, 1) := by decide +kernel
theorem dX2_meet_113 : decode cX2_meet 113 = .ok (.invokestatic 129, 3) := by decide +kernel
theorem dX2_meet_116 : decode cX2_meet 116 = .ok (.i2l, 1) := by decide +kernel
theorem dX2_meet_117 : decode cX2_meet 117 = .ok (.ladd, 1) := by decide +kernel
theorem dX2_meet_118 : decode cX2_meet 118 = .ok (.ladd, 1) := by decide +kernel
theorem dX2_meet_119 : decode cX2_meet 119 = .ok (.putfield 53, 3) := by decide +kernel
theorem dX2_meet_122 : decode cX2_meet 122 = .ok (.aload_n 0, 1) := by decide +kernel
theorem dX2_meet_123 : decode cX2_meet 123 = .ok (.iload 4, 2) := by decide +kernel
theorem dX2_meet_125 : decode cX2_meet 125 = .ok (.putfield 29, 3) := by decide +kernel
theorem dX2_meet_128 : decode cX2_meet 128 = .ok (.aload_n 0, 1) := by decide +kernel
theorem dX2_meet_129 : decode cX2_meet 129 = .ok (.iload 5, 2) := by decide +kernel
theorem dX2_meet_131 : decode cX2_meet 131 = .ok (.putfield 35, 3) := by decide +kernel
theorem dX2_meet_134 : decode cX2_meet 134 = .ok (.return_, 1) := by decide +kernel
abbrev wX2_meet : List Cond := .code yX2_meet cX2_meet 6 none :: lw_gd
theorem hdX2_meet : (yX2_meet.cls ≠ "java/lang/invoke/MethodHandle" ∧ yX2_meet.cls ≠ "java/lang/invoke/VarHandle" ∧ (parseMethodDescriptor yX2_meet.desc).map (fun d => d.parameters.length) = some 2) := by decide +kernel
def fX2_meet  (a2 : Int32) (M : xm_M) : Option xm_M :=
  xm_bi (fX3_item_ 12 4 13 120 ((0 : Int32)) a2 M) (fun x2 M1 => xm_bi (fX3_item_ 9 2 10 6 ((0 : Int32)) x2 M1) (fun x4 M3 => xm_lt (((1000 : Int32)) * x4) (fun x5 => xm_bi (fX3_item_ 9 2 10 6 ((1 : Int32)) x2 M3) (fun x7 M6 => xm_lt (((1000 : Int32)) * x7) (fun x8 => xm_bv (fX2_keepKind a2 ((4 : Int32)) M6) (fun M9 => xm_bv (fX3_keep_ 56 11 57 120 ((1 : Int32)) a2 x2 M9) (fun M10 => xm_bv (fX3_keep_ 56 11 57 120 ((9 : Int32)) a2 ((M10.1 49 3) - x5) M10) (fun M11 => xm_bv (fX3_keep_ 56 11 57 120 ((10 : Int32)) a2 ((M11.1 49 4) - x8) M11) (fun M12 => xm_lt (xm_sl M12 49 9 ((M12.2 49 9) + (((if 0 ≤ ((M12.1 49 3) - x5) then ((M12.1 49 3) - x5) else 0 - ((M12.1 49 3) - x5)).toInt64) + ((if 0 ≤ ((M12.1 49 4) - x8) then ((M12.1 49 4) - x8) else 0 - ((M12.1 49 4) - x8)).toInt64)))) (fun M13 => xm_lt (xm_s M13 49 3 x5) (fun M14 => xm_lt (xm_s M14 49 4 x8) (fun M15 => some M15))))))))))))
set_option maxRecDepth 20000 in
theorem kX2_meet {l : Launch}   (a2 : Int32) (M : xm_M) : xm_C l yX2_meet wX2_meet ({ frames := 2, cells := 0, slots := 0, locals := 45 }) cL (fun g => [.ref (g.1 49), .ref (g.1 1), .int a2]) M xm_Fv (fX2_meet  a2 M) := by
  refine xm_C.of (by decide) rfl (fun g => Nat.le_of_ble_eq_true rfl) ?_
  intro p e s m args below meth c D g A hX
  refine xm_lv (lv' := [(0, .ref (g.1 49)), (1, .ref (g.1 1)), (2, .int a2)]) rfl ?_
  unfold fX2_meet
  refine xm_aload_n hX 1 dX2_meet_0 rfl rfl ?_
  refine xm_get hX (k := 1) (ci := 1) (j := 3) (C := RX1) (T := TX1) (N := 11) (v := .ref (g.1 12)) cL_1 rfl rfl rfl (by decide) (fun z hz => List.mem_cons_of_mem _ (iw_X1 z hz)) (List.mem_cons_of_mem _ gm_38) dX2_meet_1 ?_
  refine xm_iconst hX (v := 0) rfl dX2_meet_4 ?_
  refine xm_iload_n hX 2 dX2_meet_5 rfl rfl ?_
  refine xm_calli hX (xm_runSN hX (As := (fun g => [.ref (g.1 12), .int ((0 : Int32)), .int a2])) (kX3_item_ 12 4 13 120 cL_12 cL_rows_12 ((0 : Int32)) a2 M) (xm_gN gm_234) rfl ⟨rfl, rfl⟩ nw_4 (List.mem_cons_of_mem _ gm_1) (List.mem_cons_of_mem _ gm_233) hdX3_item_ ⟨Nat.le_of_ble_eq_true rfl, Nat.le_of_ble_eq_true rfl⟩ rfl (Nat.le_of_ble_eq_true rfl) rfl dX2_meet_6) (fun x2 M1 => ?_)
  refine xm_istore_n hX (lv' := [(3, .int x2), (0, .ref (g.1 49)), (1, .ref (g.1 1)), (2, .int a2)]) dX2_meet_9 rfl (by decide) rfl ?_
  refine xm_sipush hX (v := 1000) rfl dX2_meet_10 ?_
  refine xm_aload_n hX 2 dX2_meet_13 rfl rfl ?_
  refine xm_get hX (k := 1) (ci := 1) (j := 2) (C := RX1) (T := TX1) (N := 11) (v := .ref (g.1 9)) cL_1 rfl rfl rfl (by decide) (fun z hz => List.mem_cons_of_mem _ (iw_X1 z hz)) (List.mem_cons_of_mem _ gm_36) dX2_meet_14 ?_
  refine xm_iconst hX (v := 0) rfl dX2_meet_17 ?_
  refine xm_iload_n hX 0 dX2_meet_18 rfl rfl ?_
  refine xm_calli hX (xm_runSN hX (As := (fun g => [.ref (g.1 9), .int ((0 : Int32)), .int x2])) (kX3_item_ 9 2 10 6 cL_9 cL_rows_9 ((0 : Int32)) x2 M1) (xm_gN gm_234) rfl ⟨rfl, rfl⟩ nw_4 (List.mem_cons_of_mem _ gm_1) (List.mem_cons_of_mem _ gm_233) hdX3_item_ ⟨Nat.le_of_ble_eq_true rfl, Nat.le_of_ble_eq_true rfl⟩ rfl (Nat.le_of_ble_eq_true rfl) rfl dX2_meet_19) (fun x4 M3 => ?_)
  refine xm_imul hX dX2_meet_22 ?_
  refine xm_nmi (fun x5 => ?_)
  refine xm_istore hX (lv' := [(4, .int x5), (3, .int x2), (0, .ref (g.1 49)), (1, .ref (g.1 1)), (2, .int a2)]) dX2_meet_23 (by decide) rfl ?_
  refine xm_sipush hX (v := 1000) rfl dX2_meet_25 ?_
  refine xm_aload_n hX 3 dX2_meet_28 rfl rfl ?_
  refine xm_get hX (k := 1) (ci := 1) (j := 2) (C := RX1) (T := TX1) (N := 11) (v := .ref (g.1 9)) cL_1 rfl rfl rfl (by decide) (fun z hz => List.mem_cons_of_mem _ (iw_X1 z hz)) (List.mem_cons_of_mem _ gm_36) dX2_meet_29 ?_
  refine xm_iconst hX (v := 1) rfl dX2_meet_32 ?_
  refine xm_iload_n hX 1 dX2_meet_33 rfl rfl ?_
  refine xm_calli hX (xm_runSN hX (As := (fun g => [.ref (g.1 9), .int ((1 : Int32)), .int x2])) (kX3_item_ 9 2 10 6 cL_9 cL_rows_9 ((1 : Int32)) x2 M3) (xm_gN gm_234) rfl ⟨rfl, rfl⟩ nw_4 (List.mem_cons_of_mem _ gm_1) (List.mem_cons_of_mem _ gm_233) hdX3_item_ ⟨Nat.le_of_ble_eq_true rfl, Nat.le_of_ble_eq_true rfl⟩ rfl (Nat.le_of_ble_eq_true rfl) rfl dX2_meet_34) (fun x7 M6 => ?_)
  refine xm_imul hX dX2_meet_37 ?_
  refine xm_nmi (fun x8 => ?_)
  refine xm_istore hX (lv' := [(5, .int x8), (4, .int x5), (3, .int x2), (0, .ref (g.1 49)), (1, .ref (g.1 1)), (2, .int a2)]) dX2_meet_38 (by decide) rfl ?_
  refine xm_aload_n hX 3 dX2_meet_40 rfl rfl ?_
  refine xm_iload_n hX 5 dX2_meet_41 rfl rfl ?_
  refine xm_iconst hX (v := 4) rfl dX2_meet_42 ?_
  refine xm_callv hX (xm_runV hX (k := 49) (ci := 2) (As := (fun g => [.int a2, .int ((4 : Int32))])) (kX2_keepKind a2 ((4 : Int32)) M6) cL_49 rfl (xm_gV gm_238 gm_239 gm_699 gm_3 gm_240) rfl ⟨rfl, rfl⟩ ⟨rfl, hdX2_keepKind⟩ ⟨Nat.le_of_ble_eq_true rfl, Nat.le_of_ble_eq_true rfl⟩ rfl (Nat.le_of_ble_eq_true rfl) rfl dX2_meet_43) (fun M9 => ?_)
  refine xm_aload_n hX 3 dX2_meet_46 rfl rfl ?_
  refine xm_get hX (k := 49) (ci := 2) (j := 1) (C := RX2) (T := TX2) (N := 12) (v := .ref (g.1 56)) cL_49 rfl rfl rfl (by decide) (fun z hz => List.mem_cons_of_mem _ (iw_X2 z hz)) (List.mem_cons_of_mem _ gm_76) dX2_meet_47 ?_
  refine xm_iconst hX (v := 1) rfl dX2_meet_50 ?_
  refine xm_iload_n hX 5 dX2_meet_51 rfl rfl ?_
  refine xm_iload_n hX 2 dX2_meet_52 rfl rfl ?_
  refine xm_callv hX (xm_runSN hX (As := (fun g => [.ref (g.1 56), .int ((1 : Int32)), .int a2, .int x2])) (kX3_keep_ 56 11 57 120 cL_56 cL_rows_56 ((1 : Int32)) a2 x2 M9) (xm_gN gm_173) rfl ⟨rfl, rfl⟩ nw_2 (List.mem_cons_of_mem _ gm_1) (List.mem_cons_of_mem _ gm_172) hdX3_keep_ ⟨Nat.le_of_ble_eq_true rfl, Nat.le_of_ble_eq_true rfl⟩ rfl (Nat.le_of_ble_eq_true rfl) rfl dX2_meet_53) (fun M10 => ?_)
  refine xm_aload_n hX 3 dX2_meet_56 rfl rfl ?_
  refine xm_get hX (k := 49) (ci := 2) (j := 1) (C := RX2) (T := TX2) (N := 12) (v := .ref (g.1 56)) cL_49 rfl rfl rfl (by decide) (fun z hz => List.mem_cons_of_mem _ (iw_X2 z hz)) (List.mem_cons_of_mem _ gm_76) dX2_meet_57 ?_
  refine xm_bipush hX (v := 9) rfl dX2_meet_60 ?_
  refine xm_iload_n hX 5 dX2_meet_62 rfl rfl ?_
  refine xm_aload_n hX 3 dX2_meet_63 rfl rfl ?_
  refine xm_get hX (k := 49) (ci := 2) (j := 3) (C := RX2) (T := TX2) (N := 12) (v := .int (M10.1 49 3)) cL_49 rfl rfl rfl (by decide) (fun z hz => List.mem_cons_of_mem _ (iw_X2 z hz)) (List.mem_cons_of_mem _ gm_80) dX2_meet_64 ?_
  refine xm_iload hX 1 dX2_meet_67 rfl ?_
  refine xm_isub hX dX2_meet_69 ?_
  refine xm_callv hX (xm_runSN hX (As := (fun g => [.ref (g.1 56), .int ((9 : Int32)), .int a2, .int ((M10.1 49 3) - x5)])) (kX3_keep_ 56 11 57 120 cL_56 cL_rows_56 ((9 : Int32)) a2 ((M10.1 49 3) - x5) M10) (xm_gN gm_173) rfl ⟨rfl, rfl⟩ nw_2 (List.mem_cons_of_mem _ gm_1) (List.mem_cons_of_mem _ gm_172) hdX3_keep_ ⟨Nat.le_of_ble_eq_true rfl, Nat.le_of_ble_eq_true rfl⟩ rfl (Nat.le_of_ble_eq_true rfl) rfl dX2_meet_70) (fun M11 => ?_)
  refine xm_aload_n hX 3 dX2_meet_73 rfl rfl ?_
  refine xm_get hX (k := 49) (ci := 2) (j := 1) (C := RX2) (T := TX2) (N := 12) (v := .ref (g.1 56)) cL_49 rfl rfl rfl (by decide) (fun z hz => List.mem_cons_of_mem _ (iw_X2 z hz)) (List.mem_cons_of_mem _ gm_76) dX2_meet_74 ?_
  refine xm_bipush hX (v := 10) rfl dX2_meet_77 ?_
  refine xm_iload_n hX 5 dX2_meet_79 rfl rfl ?_
  refine xm_aload_n hX 3 dX2_meet_80 rfl rfl ?_
  refine xm_get hX (k := 49) (ci := 2) (j := 4) (C := RX2) (T := TX2) (N := 12) (v := .int (M11.1 49 4)) cL_49 rfl rfl rfl (by decide) (fun z hz => List.mem_cons_of_mem _ (iw_X2 z hz)) (List.mem_cons_of_mem _ gm_82) dX2_meet_81 ?_
  refine xm_iload hX 0 dX2_meet_84 rfl ?_
  refine xm_isub hX dX2_meet_86 ?_
  refine xm_callv hX (xm_runSN hX (As := (fun g => [.ref (g.1 56), .int ((10 : Int32)), .int a2, .int ((M11.1 49 4) - x8)])) (kX3_keep_ 56 11 57 120 cL_56 cL_rows_56 ((10 : Int32)) a2 ((M11.1 49 4) - x8) M11) (xm_gN gm_173) rfl ⟨rfl, rfl⟩ nw_2 (List.mem_cons_of_mem _ gm_1) (List.mem_cons_of_mem _ gm_172) hdX3_keep_ ⟨Nat.le_of_ble_eq_true rfl, Nat.le_of_ble_eq_true rfl⟩ rfl (Nat.le_of_ble_eq_true rfl) rfl dX2_meet_87) (fun M12 => ?_)
  refine xm_aload_n hX 3 dX2_meet_90 rfl rfl ?_
  refine xm_dup hX rfl dX2_meet_91 ?_
  refine xm_get hX (k := 49) (ci := 2) (j := 9) (C := RX2) (T := TX2) (N := 12) (v := .long (M12.2 49 9)) cL_49 rfl rfl rfl (by decide) (fun z hz => List.mem_cons_of_mem _ (iw_X2 z hz)) (List.mem_cons_of_mem _ gm_91) dX2_meet_92 ?_
  refine xm_aload_n hX 3 dX2_meet_95 rfl rfl ?_
  refine xm_get hX (k := 49) (ci := 2) (j := 3) (C := RX2) (T := TX2) (N := 12) (v := .int (M12.1 49 3)) cL_49 rfl rfl rfl (by decide) (fun z hz => List.mem_cons_of_mem _ (iw_X2 z hz)) (List.mem_cons_of_mem _ gm_80) dX2_meet_96 ?_
  refine xm_iload hX 1 dX2_meet_99 rfl ?_
  refine xm_isub hX dX2_meet_101 ?_
  refine xm_mabs hX (List.mem_cons_of_mem _ gm_241) (List.mem_cons_of_mem _ gm_242) (List.mem_cons_of_mem _ gm_6) (List.mem_cons_of_mem _ gm_243) (Nat.le_of_ble_eq_true rfl) (Nat.le_of_ble_eq_true rfl) dX2_meet_102 ?_
  refine xm_i2l hX dX2_meet_105 ?_
  refine xm_aload_n hX 3 dX2_meet_106 rfl rfl ?_
  refine xm_get hX (k := 49) (ci := 2) (j := 4) (C := RX2) (T := TX2) (N := 12) (v := .int (M12.1 49 4)) cL_49 rfl rfl rfl (by decide) (fun z hz => List.mem_cons_of_mem _ (iw_X2 z hz)) (List.mem_cons_of_mem _ gm_82) dX2_meet_107 ?_
  refine xm_iload hX 0 dX2_meet_110 rfl ?_
  refine xm_isub hX dX2_meet_112 ?_
  refine xm_mabs hX (List.mem_cons_of_mem _ gm_241) (List.mem_cons_of_mem _ gm_242) (List.mem_cons_of_mem _ gm_6) (List.mem_cons_of_mem _ gm_243) (Nat.le_of_ble_eq_true rfl) (Nat.le_of_ble_eq_true rfl) dX2_meet_113 ?_
  refine xm_i2l hX dX2_meet_116 ?_
  refine xm_ladd hX dX2_meet_117 ?_
  refine xm_ladd hX dX2_meet_118 ?_
  refine xm_putl hX (k := 49) (ci := 2) (j := 9) (C := RX2) (T := TX2) (N := 12) (t0 := tyX2) cL_49 rfl rfl (by decide) (fun z hz => List.mem_cons_of_mem _ (iw_X2 z hz)) tyX2_ok nmX2 rfl rfl (List.mem_cons_of_mem _ gm_91) dX2_meet_119 (fun M13 => ?_)
  refine xm_aload_n hX 3 dX2_meet_122 rfl rfl ?_
  refine xm_iload hX 1 dX2_meet_123 rfl ?_
  refine xm_puti hX (k := 49) (ci := 2) (j := 3) (C := RX2) (T := TX2) (N := 12) (t0 := tyX2) cL_49 rfl rfl (by decide) (fun z hz => List.mem_cons_of_mem _ (iw_X2 z hz)) tyX2_ok nmX2 rfl rfl (List.mem_cons_of_mem _ gm_80) dX2_meet_125 (fun M14 => ?_)
  refine xm_aload_n hX 3 dX2_meet_128 rfl rfl ?_
  refine xm_iload hX 0 dX2_meet_129 rfl ?_
  refine xm_puti hX (k := 49) (ci := 2) (j := 4) (C := RX2) (T := TX2) (N := 12) (t0 := tyX2) cL_49 rfl rfl (by decide) (fun z hz => List.mem_cons_of_mem _ (iw_X2 z hz)) tyX2_ok nmX2 rfl rfl (List.mem_cons_of_mem _ gm_82) dX2_meet_131 (fun M15 => ?_)
  exact xm_vret hX dX2_meet_134
-- ===== OdometryDesk$Way.follow(LOdometryDesk$State;[I)V ['49', '1', '2']
theorem dX2_follow_0 : decode cX2_follow 0 = .ok (.aload_n 0, 1) := by decide +kernel
theorem dX2_follow_1 : decode cX2_follow 1 = .ok (.sipush 1000, 3) := by decide +kernel
theorem dX2_follow_4 : decode cX2_follow 4 = .ok (.aload_n 1, 1) := by decide +kernel
theorem dX2_follow_5 : decode cX2_follow 5 = .ok (.getfield 23, 3) := by decide +kernel
theorem dX2_follow_8 : decode cX2_follow 8 = .ok (.imul, 1) := by decide +kernel
theorem dX2_follow_9 : decode cX2_follow 9 = .ok (.putfield 29, 3) := by decide +kernel
theorem dX2_follow_12 : decode cX2_follow 12 = .ok (.aload_n 0, 1) := by decide +kernel
theorem dX2_follow_13 : decode cX2_follow 13 = .ok (.sipush 1000, 3) := by decide +kernel
theorem dX2_follow_16 : decode cX2_follow 16 = .ok (.aload_n 1, 1) := by decide +kernel
theorem dX2_follow_17 : decode cX2_follow 17 = .ok (.getfield 32, 3) := by decide +kernel
theorem dX2_follow_20 : decode cX2_follow 20 = .ok (.imul, 1) := by decide +kernel
theorem dX2_follow_21 : decode cX2_follow 21 = .ok (.putfield 35, 3) := by decide +kernel
theorem dX2_follow_24 : decode cX2_follow 24 = .ok (.aload_n 0, 1) := by decide +kernel
theorem dX2_follow_25 : decode cX2_follow 25 = .ok (.aload_n 1, 1) := by decide +kernel
theorem dX2_follow_26 : decode cX2_follow 26 = .ok (.getfield 38, 3) := by decide +kernel
theorem dX2_follow_29 : decode cX2_follow 29 = .ok (.putfield 41, 3) := by decide +kernel
theorem dX2_follow_32 : decode cX2_follow 32 = .ok (.aload_n 0, 1) := by decide +kernel
theorem dX2_follow_33 : decode cX2_follow 33 = .ok (.iconst 0, 1) := by decide +kernel
theorem dX2_follow_34 : decode cX2_follow 34 = .ok (.putfield 44, 3) := by decide +kernel
theorem dX2_follow_37 : decode cX2_follow 37 = .ok (.aload_n 0, 1) := by decide +kernel
theorem dX2_follow_38 : decode cX2_follow 38 = .ok (.iconst 0, 1) := by decide +kernel
theorem dX2_follow_39 : decode cX2_follow 39 = .ok (.putfield 47, 3) := by decide +kernel
theorem dX2_follow_42 : decode cX2_follow 42 = .ok (.aload_n 0, 1) := by decide +kernel
theorem dX2_follow_43 : decode cX2_follow 43 = .ok (.iconst 0, 1) := by decide +kernel
theorem dX2_follow_44 : decode cX2_follow 44 = .ok (.putfield 50, 3) := by decide +kernel
theorem dX2_follow_47 : decode cX2_follow 47 = .ok (.aload_n 0, 1) := by decide +kernel
theorem dX2_follow_48 : decode cX2_follow 48 = .ok (.lconst 0, 1) := by decide +kernel
theorem dX2_follow_49 : decode cX2_follow 49 = .ok (.putfield 53, 3) := by decide +kernel
theorem dX2_follow_52 : decode cX2_follow 52 = .ok (.aload_n 0, 1) := by decide +kernel
theorem dX2_follow_53 : decode cX2_follow 53 = .ok (.getfield 19, 3) := by decide +kernel
theorem dX2_follow_56 : decode cX2_follow 56 = .ok (.iconst 0, 1) := by decide +kernel
theorem dX2_follow_57 : decode cX2_follow 57 = .ok (.invokestatic 57, 3) := by decide +kernel
theorem dX2_follow_60 : decode cX2_follow 60 = .ok (.iconst 0, 1) := by decide +kernel
theorem dX2_follow_61 : decode cX2_follow 61 = .ok (.istore_n 3, 1) := by decide +kernel
theorem dX2_follow_62 : decode cX2_follow 62 = .ok (.iload_n 3, 1) := by decide +kernel
theorem dX2_follow_63 : decode cX2_follow 63 = .ok (.aload_n 0, 1) := by decide +kernel
theorem dX2_follow_64 : decode cX2_follow 64 = .ok (.getfield 16, 3) := by decide +kernel
theorem dX2_follow_67 : decode cX2_follow 67 = .ok (.arraylength, 1) := by decide +kernel
theorem dX2_follow_68 : decode cX2_follow 68 = .ok (.if_icmp .ge 20, 3) := by decide +kernel
theorem dX2_follow_71 : decode cX2_follow 71 = .ok (.aload_n 0, 1) := by decide +kernel
theorem dX2_follow_72 : decode cX2_follow 72 = .ok (.getfield 16, 3) := by decide +kernel
theorem dX2_follow_75 : decode cX2_follow 75 = .ok (.iload_n 3, 1) := by decide +kernel
theorem dX2_follow_76 : decode cX2_follow 76 = .ok (.aaload, 1) := by decide +kernel
theorem dX2_follow_77 : decode cX2_follow 77 = .ok (.ldc 63, 2) := by decide +kernel
theorem dX2_follow_79 : decode cX2_follow 79 = .ok (.invokestatic 57, 3) := by decide +kernel
theorem dX2_follow_82 : decode cX2_follow 82 = .ok (.iinc 3 1, 3) := by decide +kernel
theorem dX2_follow_85 : decode cX2_follow 85 = .ok (.goto (-23), 3) := by decide +kernel
theorem dX2_follow_88 : decode cX2_follow 88 = .ok (.aload_n 0, 1) := by decide +kernel
theorem dX2_follow_89 : decode cX2_follow 89 = .ok (.iconst 0, 1) := by decide +kernel
theorem dX2_follow_90 : decode cX2_follow 90 = .ok (.invokevirtual 64, 3) := by decide +kernel
theorem dX2_follow_93 : decode cX2_follow 93 = .ok (.iconst 0, 1) := by decide +kernel
theorem dX2_follow_94 : decode cX2_follow 94 = .ok (.istore_n 3, 1) := by decide +kernel
theorem dX2_follow_95 : decode cX2_follow 95 = .ok (.iload_n 3, 1) := by decide +kernel
theorem dX2_follow_96 : decode cX2_follow 96 = .ok (.aload_n 1, 1) := by decide +kernel
theorem dX2_follow_97 : decode cX2_follow 97 = .ok (.getfield 68, 3) := by decide +kernel
theorem dX2_follow_100 : decode cX2_follow 100 = .ok (.if_icmp .ge 40, 3) := by decide +kernel
theorem dX2_follow_103 : decode cX2_follow 103 = .ok (.aload_n 1, 1) := by decide +kernel
theorem dX2_follow_104 : decode cX2_follow 104 = .ok (.iload_n 3, 1) := by decide +kernel
theorem dX2_follow_105 : decode cX2_follow 105 = .ok (.invokevirtual 71, 3) := by decide +kernel
theorem dX2_follow_108 : decode cX2_follow 108 = .ok (.ifCond .eq 12, 3) := by decide +kernel
theorem dX2_follow_111 : decode cX2_follow 111 = .ok (.aload_n 0, 1) := by decide +kernel
theorem dX2_follow_112 : decode cX2_follow 112 = .ok (.aload_n 1, 1) := by decide +kernel
theorem dX2_follow_113 : decode cX2_follow 113 = .ok (.iload_n 3, 1) := by decide +kernel
theorem dX2_follow_114 : decode cX2_follow 114 = .ok (.invokevirtual 75, 3) := by decide +kernel
theorem dX2_follow_117 : decode cX2_follow 117 = .ok (.goto 10, 3) := by decide +kernel
theorem dX2_follow_120 : decode cX2_follow 120 = .ok (.aload_n 0, 1) := by decide +kernel
theorem dX2_follow_121 : decode cX2_follow 121 = .ok (.aload_n 1, 1) := by decide +kernel
theorem dX2_follow_122 : decode cX2_follow 122 = .ok (.aload_n 2, 1) := by decide +kernel
theorem dX2_follow_123 : decode cX2_follow 123 = .ok (.iload_n 3, 1) := by decide +kernel
theorem dX2_follow_124 : decode cX2_follow 124 = .ok (.invokevirtual 79, 3) := by decide +kernel
theorem dX2_follow_127 : decode cX2_follow 127 = .ok (.aload_n 0, 1) := by decide +kernel
theorem dX2_follow_128 : decode cX2_follow 128 = .ok (.iload_n 3, 1) := by decide +kernel
theorem dX2_follow_129 : decode cX2_follow 129 = .ok (.iconst 1, 1) := by decide +kernel
theorem dX2_follow_130 : decode cX2_follow 130 = .ok (.iadd, 1) := by decide +kernel
theorem dX2_follow_131 : decode cX2_follow 131 = .ok (.invokevirtual 64, 3) := by decide +kernel
theorem dX2_follow_134 : decode cX2_follow 134 = .ok (.iinc 3 1, 3) := by decide +kernel
theorem dX2_follow_137 : decode cX2_follow 137 = .ok (.goto (-42), 3) := by decide +kernel
theorem dX2_follow_140 : decode cX2_follow 140 = .ok (.return_, 1) := by decide +kernel
abbrev wX2_follow : List Cond := .code yX2_follow cX2_follow 4 none :: lw_gd
theorem hdX2_follow : (yX2_follow.cls ≠ "java/lang/invoke/MethodHandle" ∧ yX2_follow.cls ≠ "java/lang/invoke/VarHandle" ∧ (parseMethodDescriptor yX2_follow.desc).map (fun d => d.parameters.length) = some 2) := by decide +kernel
def fX2_follow_127 (ps : Nat) (k95 : Int32 → xm_M → Option xm_M) (b3 : Int32) (M : xm_M) : Option xm_M :=
  xm_bv (fX2_keepPose (b3 + ((1 : Int32))) M) (fun M15 => xm_lt (b3 + Int32.ofInt 1) (fun x16 => k95 x16 M15))
set_option maxRecDepth 20000 in
theorem tfX2_follow_127 {p : Program} {l : Launch} {e : Env} {s : State} {m : MethodId} {args : Array Value} {below : List Frame} {meth : Method} {c : Code} {D : va_G} {g : xm_G} {A : Nat → Prop} (hX : xm_X p m meth c cX2_follow 4 s args wX2_follow RX2 none D cL g A) (ps : Nat) (hps : cL[ps]? = some (.inl (0, .int, 9))) (k95 : Int32 → xm_M → Option xm_M) (h95 : ∀ (b3 : Int32), ∀ (M : xm_M), xm_J p l e ({ frames := 4, cells := 0, slots := 0, locals := 106 }) s m args below meth c 4 D cL g A (xm_Fv g) 95 [(0, .ref (g.1 49)), (1, .ref (g.1 1)), (2, .ref (g.1 ps)), (3, .int b3)] [] M (k95 b3 M)) : ∀ (b3 : Int32), ∀ (M : xm_M), xm_J p l e ({ frames := 4, cells := 0, slots := 0, locals := 106 }) s m args below meth c 4 D cL g A (xm_Fv g) 127 [(0, .ref (g.1 49)), (1, .ref (g.1 1)), (2, .ref (g.1 ps)), (3, .int b3)] [] M (fX2_follow_127 ps k95 b3 M) := by
  intro b3 M
  unfold fX2_follow_127
  refine xm_aload_n hX 0 dX2_follow_127 rfl rfl ?_
  refine xm_iload_n hX 3 dX2_follow_128 rfl rfl ?_
  refine xm_iconst hX (v := 1) rfl dX2_follow_129 ?_
  refine xm_iadd hX dX2_follow_130 ?_
  refine xm_callv hX (xm_runV hX (k := 49) (ci := 2) (As := (fun g => [.int (b3 + ((1 : Int32)))])) (kX2_keepPose (b3 + ((1 : Int32))) M) cL_49 rfl (xm_gV gm_226 gm_227 gm_697 gm_3 gm_228) rfl ⟨rfl, rfl⟩ ⟨rfl, hdX2_keepPose⟩ ⟨Nat.le_of_ble_eq_true rfl, Nat.le_of_ble_eq_true rfl⟩ rfl (Nat.le_of_ble_eq_true rfl) rfl dX2_follow_131) (fun M15 => ?_)
  refine xm_iinc hX (lv2 := fun x16 => [(3, .int x16), (0, .ref (g.1 49)), (1, .ref (g.1 1)), (2, .ref (g.1 ps))]) 3 dX2_follow_134 rfl (by decide) (fun _ => rfl) (fun x16 => ?_)
  refine xm_goto hX (tgt := 95) dX2_follow_137 rfl ?_
  refine xm_weak [1, 2, 3, 0] (lv' := [(0, .ref (g.1 49)), (1, .ref (g.1 1)), (2, .ref (g.1 ps)), (3, .int x16)]) rfl ?_
  exact h95 x16 M15
def fX2_follow_95 (ps : Nat) (k95 : Int32 → xm_M → Option xm_M) (b3 : Int32) (M : xm_M) : Option xm_M :=
  if (M.1 1 6) ≤ b3 then some M else xm_bi (fX1_isSight b3 M) (fun x13 M12 => if x13 = 0 then xm_bv (fX2_go ps b3 M12) (fun M14 => fX2_follow_127 ps k95 b3 M14) else xm_bv (fX2_meet b3 M12) (fun M17 => fX2_follow_127 ps k95 b3 M17))
set_option maxRecDepth 20000 in
theorem tfX2_follow_95 {p : Program} {l : Launch} {e : Env} {s : State} {m : MethodId} {args : Array Value} {below : List Frame} {meth : Method} {c : Code} {D : va_G} {g : xm_G} {A : Nat → Prop} (hX : xm_X p m meth c cX2_follow 4 s args wX2_follow RX2 none D cL g A) (ps : Nat) (hps : cL[ps]? = some (.inl (0, .int, 9))) (k95 : Int32 → xm_M → Option xm_M) (h95 : ∀ (b3 : Int32), ∀ (M : xm_M), xm_J p l e ({ frames := 4, cells := 0, slots := 0, locals := 106 }) s m args below meth c 4 D cL g A (xm_Fv g) 95 [(0, .ref (g.1 49)), (1, .ref (g.1 1)), (2, .ref (g.1 ps)), (3, .int b3)] [] M (k95 b3 M)) : ∀ (b3 : Int32), ∀ (M : xm_M), xm_J p l e ({ frames := 4, cells := 0, slots := 0, locals := 106 }) s m args below meth c 4 D cL g A (xm_Fv g) 95 [(0, .ref (g.1 49)), (1, .ref (g.1 1)), (2, .ref (g.1 ps)), (3, .int b3)] [] M (fX2_follow_95 ps k95 b3 M) := by
  intro b3 M
  unfold fX2_follow_95
  refine xm_iload_n hX 3 dX2_follow_95 rfl rfl ?_
  refine xm_aload_n hX 1 dX2_follow_96 rfl rfl ?_
  refine xm_get hX (k := 1) (ci := 1) (j := 6) (C := RX1) (T := TX1) (N := 11) (v := .int (M.1 1 6)) cL_1 rfl rfl rfl (by decide) (fun z hz => List.mem_cons_of_mem _ (iw_X1 z hz)) (List.mem_cons_of_mem _ gm_45) dX2_follow_97 ?_
  refine xm_icmp_ge hX (tgt := 140) dX2_follow_100 rfl ?_ ?_
  · exact xm_vret hX dX2_follow_140
  · refine xm_aload_n hX 1 dX2_follow_103 rfl rfl ?_
    refine xm_iload_n hX 3 dX2_follow_104 rfl rfl ?_
    refine xm_calli hX (xm_runV hX (k := 1) (ci := 1) (As := (fun g => [.int b3])) (kX1_isSight b3 M) cL_1 rfl (xm_gV gm_229 gm_230 gm_231 gm_2 gm_232) rfl ⟨rfl, rfl⟩ ⟨rfl, hdX1_isSight⟩ ⟨Nat.le_of_ble_eq_true rfl, Nat.le_of_ble_eq_true rfl⟩ rfl (Nat.le_of_ble_eq_true rfl) rfl dX2_follow_105) (fun x13 M12 => ?_)
    refine xm_if_eq hX (tgt := 120) dX2_follow_108 rfl ?_ ?_
    · refine xm_aload_n hX 0 dX2_follow_120 rfl rfl ?_
      refine xm_aload_n hX 1 dX2_follow_121 rfl rfl ?_
      refine xm_aload_n hX 2 dX2_follow_122 rfl rfl ?_
      refine xm_iload_n hX 3 dX2_follow_123 rfl rfl ?_
      refine xm_callv hX (xm_runV hX (k := 49) (ci := 2) (As := (fun g => [.ref (g.1 1), .ref (g.1 ps), .int b3])) (kX2_go ps hps b3 M12) cL_49 rfl (xm_gV gm_244 gm_245 gm_700 gm_3 gm_246) rfl ⟨rfl, rfl⟩ ⟨rfl, hdX2_go⟩ ⟨Nat.le_of_ble_eq_true rfl, Nat.le_of_ble_eq_true rfl⟩ rfl (Nat.le_of_ble_eq_true rfl) rfl dX2_follow_124) (fun M14 => ?_)
      exact tfX2_follow_127 hX ps hps k95 h95 b3 M14
    · refine xm_aload_n hX 0 dX2_follow_111 rfl rfl ?_
      refine xm_aload_n hX 1 dX2_follow_112 rfl rfl ?_
      refine xm_iload_n hX 3 dX2_follow_113 rfl rfl ?_
      refine xm_callv hX (xm_runV hX (k := 49) (ci := 2) (As := (fun g => [.ref (g.1 1), .int b3])) (kX2_meet b3 M12) cL_49 rfl (xm_gV gm_235 gm_236 gm_698 gm_3 gm_237) rfl ⟨rfl, rfl⟩ ⟨rfl, hdX2_meet⟩ ⟨Nat.le_of_ble_eq_true rfl, Nat.le_of_ble_eq_true rfl⟩ rfl (Nat.le_of_ble_eq_true rfl) rfl dX2_follow_114) (fun M17 => ?_)
      refine xm_goto hX (tgt := 127) dX2_follow_117 rfl ?_
      exact tfX2_follow_127 hX ps hps k95 h95 b3 M17
def fX2_follow_95_it (ps : Nat)  (nq : Nat) : Int32 → xm_M → Option xm_M := xm_it (fun kq => fX2_follow_95 ps kq) (fun _ _ => none) nq
theorem tfX2_follow_95_it {p : Program} {l : Launch} {e : Env} {s : State} {m : MethodId} {args : Array Value} {below : List Frame} {meth : Method} {c : Code} {D : va_G} {g : xm_G} {A : Nat → Prop} (hX : xm_X p m meth c cX2_follow 4 s args wX2_follow RX2 none D cL g A) (ps : Nat) (hps : cL[ps]? = some (.inl (0, .int, 9)))   : ∀ (nq : Nat), ∀ (b3 : Int32), ∀ (M : xm_M), xm_J p l e ({ frames := 4, cells := 0, slots := 0, locals := 106 }) s m args below meth c 4 D cL g A (xm_Fv g) 95 [(0, .ref (g.1 49)), (1, .ref (g.1 1)), (2, .ref (g.1 ps)), (3, .int b3)] [] M (fX2_follow_95_it ps nq b3 M) := by
  intro nq
  induction nq with
  | zero => exact fun _ _ => xm_none
  | succ nq ih => exact tfX2_follow_95 hX ps hps _ ih
def fX2_follow_62 (ps : Nat) (k62 : Int32 → xm_M → Option xm_M) (b3 : Int32) (M : xm_M) : Option xm_M :=
  if ((Int32.ofNat 11)) ≤ b3 then xm_bv (fX2_keepPose ((0 : Int32)) M) (fun M10 => xm_lt ((0 : Int32)) (fun x11 => fX2_follow_95_it ps xm_N x11 M10)) else if b3 < 0 ∨ 11 ≤ b3.toNatClampNeg then none else xm_bv (fJ7_fill_53178 (57 + b3.toNatClampNeg) 120 ((-1000000006 : Int32)) M) (fun M19 => xm_lt (b3 + Int32.ofInt 1) (fun x20 => k62 x20 M19))
set_option maxRecDepth 20000 in
theorem tfX2_follow_62 {p : Program} {l : Launch} {e : Env} {s : State} {m : MethodId} {args : Array Value} {below : List Frame} {meth : Method} {c : Code} {D : va_G} {g : xm_G} {A : Nat → Prop} (hX : xm_X p m meth c cX2_follow 4 s args wX2_follow RX2 none D cL g A) (ps : Nat) (hps : cL[ps]? = some (.inl (0, .int, 9))) (k62 : Int32 → xm_M → Option xm_M) (h62 : ∀ (b3 : Int32), ∀ (M : xm_M), xm_J p l e ({ frames := 4, cells := 0, slots := 0, locals := 106 }) s m args below meth c 4 D cL g A (xm_Fv g) 62 [(0, .ref (g.1 49)), (1, .ref (g.1 1)), (2, .ref (g.1 ps)), (3, .int b3)] [] M (k62 b3 M)) : ∀ (b3 : Int32), ∀ (M : xm_M), xm_J p l e ({ frames := 4, cells := 0, slots := 0, locals := 106 }) s m args below meth c 4 D cL g A (xm_Fv g) 62 [(0, .ref (g.1 49)), (1, .ref (g.1 1)), (2, .ref (g.1 ps)), (3, .int b3)] [] M (fX2_follow_62 ps k62 b3 M) := by
  intro b3 M
  unfold fX2_follow_62
  refine xm_iload_n hX 3 dX2_follow_62 rfl rfl ?_
  refine xm_aload_n hX 0 dX2_follow_63 rfl rfl ?_
  refine xm_get hX (k := 49) (ci := 2) (j := 1) (C := RX2) (T := TX2) (N := 12) (v := .ref (g.1 56)) cL_49 rfl rfl rfl (by decide) (fun z hz => List.mem_cons_of_mem _ (iw_X2 z hz)) (List.mem_cons_of_mem _ gm_76) dX2_follow_64 ?_
  refine xm_alenR hX (v := (Int32.ofNat 11)) cL_56 rfl dX2_follow_67 ?_
  refine xm_icmp_ge hX (tgt := 88) dX2_follow_68 rfl ?_ ?_
  · refine xm_aload_n hX 0 dX2_follow_88 rfl rfl ?_
    refine xm_iconst hX (v := 0) rfl dX2_follow_89 ?_
    refine xm_callv hX (xm_runV hX (k := 49) (ci := 2) (As := (fun g => [.int ((0 : Int32))])) (kX2_keepPose ((0 : Int32)) M) cL_49 rfl (xm_gV gm_226 gm_227 gm_697 gm_3 gm_228) rfl ⟨rfl, rfl⟩ ⟨rfl, hdX2_keepPose⟩ ⟨Nat.le_of_ble_eq_true rfl, Nat.le_of_ble_eq_true rfl⟩ rfl (Nat.le_of_ble_eq_true rfl) rfl dX2_follow_90) (fun M10 => ?_)
    refine xm_iconst hX (v := 0) rfl dX2_follow_93 ?_
    refine xm_nmi (fun x11 => ?_)
    refine xm_istore_n hX (lv' := [(3, .int x11), (0, .ref (g.1 49)), (1, .ref (g.1 1)), (2, .ref (g.1 ps))]) dX2_follow_94 rfl (by decide) rfl ?_
    refine xm_weak [1, 2, 3, 0] (lv' := [(0, .ref (g.1 49)), (1, .ref (g.1 1)), (2, .ref (g.1 ps)), (3, .int x11)]) rfl ?_
    exact tfX2_follow_95_it hX ps hps xm_N x11 M10
  · refine xm_aload_n hX 0 dX2_follow_71 rfl rfl ?_
    refine xm_get hX (k := 49) (ci := 2) (j := 1) (C := RX2) (T := TX2) (N := 12) (v := .ref (g.1 56)) cL_49 rfl rfl rfl (by decide) (fun z hz => List.mem_cons_of_mem _ (iw_X2 z hz)) (List.mem_cons_of_mem _ gm_76) dX2_follow_72 ?_
    refine xm_iload_n hX 3 dX2_follow_75 rfl rfl ?_
    refine xm_aald hX (N := 11) (k0 := 57) cL_56 dX2_follow_76 (fun q18 => ?_)
    refine xm_ldc hX (v := -1000000006) (List.mem_cons_of_mem _ gm_225) dX2_follow_77 ?_
    refine xm_callv hX (xm_runS hX (As := (fun g => [.ref (g.1 (57 + b3.toNatClampNeg)), .int ((-1000000006 : Int32))])) (kJ7_fill_53178 (57 + b3.toNatClampNeg) 120 (cL_rows_56 _ q18) ((-1000000006 : Int32)) M) (xm_gS gm_222 gm_223 gm_7 gm_224) rfl ⟨rfl, rfl⟩ hdJ7_fill_53178 ⟨Nat.le_of_ble_eq_true rfl, Nat.le_of_ble_eq_true rfl⟩ rfl (Nat.le_of_ble_eq_true rfl) rfl dX2_follow_79) (fun M19 => ?_)
    refine xm_iinc hX (lv2 := fun x20 => [(3, .int x20), (0, .ref (g.1 49)), (1, .ref (g.1 1)), (2, .ref (g.1 ps))]) 3 dX2_follow_82 rfl (by decide) (fun _ => rfl) (fun x20 => ?_)
    refine xm_goto hX (tgt := 62) dX2_follow_85 rfl ?_
    refine xm_weak [1, 2, 3, 0] (lv' := [(0, .ref (g.1 49)), (1, .ref (g.1 1)), (2, .ref (g.1 ps)), (3, .int x20)]) rfl ?_
    exact h62 x20 M19
def fX2_follow_62_it (ps : Nat)  (nq : Nat) : Int32 → xm_M → Option xm_M := xm_it (fun kq => fX2_follow_62 ps kq) (fun _ _ => none) nq
theorem tfX2_follow_62_it {p : Program} {l : Launch} {e : Env} {s : State} {m : MethodId} {args : Array Value} {below : List Frame} {meth : Method} {c : Code} {D : va_G} {g : xm_G} {A : Nat → Prop} (hX : xm_X p m meth c cX2_follow 4 s args wX2_follow RX2 none D cL g A) (ps : Nat) (hps : cL[ps]? = some (.inl (0, .int, 9)))   : ∀ (nq : Nat), ∀ (b3 : Int32), ∀ (M : xm_M), xm_J p l e ({ frames := 4, cells := 0, slots := 0, locals := 106 }) s m args below meth c 4 D cL g A (xm_Fv g) 62 [(0, .ref (g.1 49)), (1, .ref (g.1 1)), (2, .ref (g.1 ps)), (3, .int b3)] [] M (fX2_follow_62_it ps nq b3 M) := by
  intro nq
  induction nq with
  | zero => exact fun _ _ => xm_none
  | succ nq ih => exact tfX2_follow_62 hX ps hps _ ih
def fX2_follow (ps : Nat)  (M : xm_M) : Option xm_M :=
  xm_lt (xm_s M 49 3 (((1000 : Int32)) * (M.1 1 7))) (fun M1 => xm_lt (xm_s M1 49 4 (((1000 : Int32)) * (M1.1 1 8))) (fun M2 => xm_lt (xm_s M2 49 5 (M2.1 1 9)) (fun M3 => xm_lt (xm_s M3 49 6 ((0 : Int32))) (fun M4 => xm_lt (xm_s M4 49 7 ((0 : Int32))) (fun M5 => xm_lt (xm_s M5 49 8 ((0 : Int32))) (fun M6 => xm_lt (xm_sl M6 49 9 ((0 : Int64))) (fun M7 => xm_bv (fJ7_fill_53178 68 5 ((0 : Int32)) M7) (fun M8 => xm_lt ((0 : Int32)) (fun x9 => fX2_follow_62_it ps xm_N x9 M8)))))))))
set_option maxRecDepth 20000 in
theorem kX2_follow {l : Launch} (ps : Nat) (hps : cL[ps]? = some (.inl (0, .int, 9)))  (M : xm_M) : xm_C l yX2_follow wX2_follow ({ frames := 4, cells := 0, slots := 0, locals := 106 }) cL (fun g => [.ref (g.1 49), .ref (g.1 1), .ref (g.1 ps)]) M xm_Fv (fX2_follow ps  M) := by
  refine xm_C.of (by decide) rfl (fun g => Nat.le_of_ble_eq_true rfl) ?_
  intro p e s m args below meth c D g A hX
  refine xm_lv (lv' := [(0, .ref (g.1 49)), (1, .ref (g.1 1)), (2, .ref (g.1 ps))]) rfl ?_
  unfold fX2_follow
  refine xm_aload_n hX 0 dX2_follow_0 rfl rfl ?_
  refine xm_sipush hX (v := 1000) rfl dX2_follow_1 ?_
  refine xm_aload_n hX 1 dX2_follow_4 rfl rfl ?_
  refine xm_get hX (k := 1) (ci := 1) (j := 7) (C := RX1) (T := TX1) (N := 11) (v := .int (M.1 1 7)) cL_1 rfl rfl rfl (by decide) (fun z hz => List.mem_cons_of_mem _ (iw_X1 z hz)) (List.mem_cons_of_mem _ gm_47) dX2_follow_5 ?_
  refine xm_imul hX dX2_follow_8 ?_
  refine xm_puti hX (k := 49) (ci := 2) (j := 3) (C := RX2) (T := TX2) (N := 12) (t0 := tyX2) cL_49 rfl rfl (by decide) (fun z hz => List.mem_cons_of_mem _ (iw_X2 z hz)) tyX2_ok nmX2 rfl rfl (List.mem_cons_of_mem _ gm_80) dX2_follow_9 (fun M1 => ?_)
  refine xm_aload_n hX 0 dX2_follow_12 rfl rfl ?_
  refine xm_sipush hX (v := 1000) rfl dX2_follow_13 ?_
  refine xm_aload_n hX 1 dX2_follow_16 rfl rfl ?_
  refine xm_get hX (k := 1) (ci := 1) (j := 8) (C := RX1) (T := TX1) (N := 11) (v := .int (M1.1 1 8)) cL_1 rfl rfl rfl (by decide) (fun z hz => List.mem_cons_of_mem _ (iw_X1 z hz)) (List.mem_cons_of_mem _ gm_50) dX2_follow_17 ?_
  refine xm_imul hX dX2_follow_20 ?_
  refine xm_puti hX (k := 49) (ci := 2) (j := 4) (C := RX2) (T := TX2) (N := 12) (t0 := tyX2) cL_49 rfl rfl (by decide) (fun z hz => List.mem_cons_of_mem _ (iw_X2 z hz)) tyX2_ok nmX2 rfl rfl (List.mem_cons_of_mem _ gm_82) dX2_follow_21 (fun M2 => ?_)
  refine xm_aload_n hX 0 dX2_follow_24 rfl rfl ?_
  refine xm_aload_n hX 1 dX2_follow_25 rfl rfl ?_
  refine xm_get hX (k := 1) (ci := 1) (j := 9) (C := RX1) (T := TX1) (N := 11) (v := .int (M2.1 1 9)) cL_1 rfl rfl rfl (by decide) (fun z hz => List.mem_cons_of_mem _ (iw_X1 z hz)) (List.mem_cons_of_mem _ gm_53) dX2_follow_26 ?_
  refine xm_puti hX (k := 49) (ci := 2) (j := 5) (C := RX2) (T := TX2) (N := 12) (t0 := tyX2) cL_49 rfl rfl (by decide) (fun z hz => List.mem_cons_of_mem _ (iw_X2 z hz)) tyX2_ok nmX2 rfl rfl (List.mem_cons_of_mem _ gm_84) dX2_follow_29 (fun M3 => ?_)
  refine xm_aload_n hX 0 dX2_follow_32 rfl rfl ?_
  refine xm_iconst hX (v := 0) rfl dX2_follow_33 ?_
  refine xm_puti hX (k := 49) (ci := 2) (j := 6) (C := RX2) (T := TX2) (N := 12) (t0 := tyX2) cL_49 rfl rfl (by decide) (fun z hz => List.mem_cons_of_mem _ (iw_X2 z hz)) tyX2_ok nmX2 rfl rfl (List.mem_cons_of_mem _ gm_86) dX2_follow_34 (fun M4 => ?_)
  refine xm_aload_n hX 0 dX2_follow_37 rfl rfl ?_
  refine xm_iconst hX (v := 0) rfl dX2_follow_38 ?_
  refine xm_puti hX (k := 49) (ci := 2) (j := 7) (C := RX2) (T := TX2) (N := 12) (t0 := tyX2) cL_49 rfl rfl (by decide) (fun z hz => List.mem_cons_of_mem _ (iw_X2 z hz)) tyX2_ok nmX2 rfl rfl (List.mem_cons_of_mem _ gm_88) dX2_follow_39 (fun M5 => ?_)
  refine xm_aload_n hX 0 dX2_follow_42 rfl rfl ?_
  refine xm_iconst hX (v := 0) rfl dX2_follow_43 ?_
  refine xm_puti hX (k := 49) (ci := 2) (j := 8) (C := RX2) (T := TX2) (N := 12) (t0 := tyX2) cL_49 rfl rfl (by decide) (fun z hz => List.mem_cons_of_mem _ (iw_X2 z hz)) tyX2_ok nmX2 rfl rfl (List.mem_cons_of_mem _ gm_89) dX2_follow_44 (fun M6 => ?_)
  refine xm_aload_n hX 0 dX2_follow_47 rfl rfl ?_
  refine xm_lconst hX (v := 0) rfl dX2_follow_48 ?_
  refine xm_putl hX (k := 49) (ci := 2) (j := 9) (C := RX2) (T := TX2) (N := 12) (t0 := tyX2) cL_49 rfl rfl (by decide) (fun z hz => List.mem_cons_of_mem _ (iw_X2 z hz)) tyX2_ok nmX2 rfl rfl (List.mem_cons_of_mem _ gm_91) dX2_follow_49 (fun M7 => ?_)
  refine xm_aload_n hX 0 dX2_follow_52 rfl rfl ?_
  refine xm_get hX (k := 49) (ci := 2) (j := 2) (C := RX2) (T := TX2) (N := 12) (v := .ref (g.1 68)) cL_49 rfl rfl rfl (by decide) (fun z hz => List.mem_cons_of_mem _ (iw_X2 z hz)) (List.mem_cons_of_mem _ gm_78) dX2_follow_53 ?_
  refine xm_iconst hX (v := 0) rfl dX2_follow_56 ?_
  refine xm_callv hX (xm_runS hX (As := (fun g => [.ref (g.1 68), .int ((0 : Int32))])) (kJ7_fill_53178 68 5 cL_68 ((0 : Int32)) M7) (xm_gS gm_222 gm_223 gm_7 gm_224) rfl ⟨rfl, rfl⟩ hdJ7_fill_53178 ⟨Nat.le_of_ble_eq_true rfl, Nat.le_of_ble_eq_true rfl⟩ rfl (Nat.le_of_ble_eq_true rfl) rfl dX2_follow_57) (fun M8 => ?_)
  refine xm_iconst hX (v := 0) rfl dX2_follow_60 ?_
  refine xm_nmi (fun x9 => ?_)
  refine xm_istore_n hX (lv' := [(3, .int x9), (0, .ref (g.1 49)), (1, .ref (g.1 1)), (2, .ref (g.1 ps))]) dX2_follow_61 rfl (by decide) rfl ?_
  refine xm_weak [1, 2, 3, 0] (lv' := [(0, .ref (g.1 49)), (1, .ref (g.1 1)), (2, .ref (g.1 ps)), (3, .int x9)]) rfl ?_
  exact tfX2_follow_62_it hX ps hps xm_N x9 M8
-- ===== OdometryDesk.about(II)I ['0']
theorem dX3_about_0 : decode cX3_about 0 = .ok (.iload_n 1, 1) := by decide +kernel
theorem dX3_about_1 : decode cX3_about 1 = .ok (.iconst 0, 1) := by decide +kernel
theorem dX3_about_2 : decode cX3_about 2 = .ok (.aload_n 0, 1) := by decide +kernel
theorem dX3_about_3 : decode cX3_about 3 = .ok (.getfield 10, 3) := by decide +kernel
theorem dX3_about_6 : decode cX3_about 6 = .ok (.getfield 106, 3) := by decide +kernel
theorem dX3_about_9 : decode cX3_about 9 = .ok (.iconst 1, 1) := by decide +kernel
theorem dX3_about_10 : decode cX3_about 10 = .ok (.isub, 1) := by decide +kernel
theorem dX3_about_11 : decode cX3_about 11 = .ok (.invokestatic 66, 3) := by decide +kernel
theorem dX3_about_14 : decode cX3_about 14 = .ok (.ifCond .ne 6, 3) := by decide +kernel
theorem dX3_about_17 : decode cX3_about 17 = .ok (.ldc 117, 2) := by decide +kernel
theorem dX3_about_19 : decode cX3_about 19 = .ok (.ireturn, 1) := by decide +kernel
theorem dX3_about_20 : decode cX3_about 20 = .ok (.iload_n 2, 1) := by decide +kernel
theorem dX3_about_21 : decode cX3_about 21 = .ok (.iconst 0, 1) := by decide +kernel
theorem dX3_about_22 : decode cX3_about 22 = .ok (.bipush 10, 2) := by decide +kernel
theorem dX3_about_24 : decode cX3_about 24 = .ok (.invokestatic 66, 3) := by decide +kernel
theorem dX3_about_27 : decode cX3_about 27 = .ok (.ifCond .ne 6, 3) := by decide +kernel
theorem dX3_about_30 : decode cX3_about 30 = .ok (.ldc 118, 2) := by decide +kernel
theorem dX3_about_32 : decode cX3_about 32 = .ok (.ireturn, 1) := by decide +kernel
theorem dX3_about_33 : decode cX3_about 33 = .ok (.aload_n 0, 1) := by decide +kernel
theorem dX3_about_34 : decode cX3_about 34 = .ok (.getfield 25, 3) := by decide +kernel
theorem dX3_about_37 : decode cX3_about 37 = .ok (.aload_n 0, 1) := by decide +kernel
theorem dX3_about_38 : decode cX3_about 38 = .ok (.getfield 10, 3) := by decide +kernel
theorem dX3_about_41 : decode cX3_about 41 = .ok (.aload_n 0, 1) := by decide +kernel
theorem dX3_about_42 : decode cX3_about 42 = .ok (.getfield 10, 3) := by decide +kernel
theorem dX3_about_45 : decode cX3_about 45 = .ok (.getfield 52, 3) := by decide +kernel
theorem dX3_about_48 : decode cX3_about 48 = .ok (.invokevirtual 119, 3) := by decide +kernel
theorem dX3_about_51 : decode cX3_about 51 = .ok (.aload_n 0, 1) := by decide +kernel
theorem dX3_about_52 : decode cX3_about 52 = .ok (.getfield 25, 3) := by decide +kernel
theorem dX3_about_55 : decode cX3_about 55 = .ok (.getfield 129, 3) := by decide +kernel
theorem dX3_about_58 : decode cX3_about 58 = .ok (.iload_n 2, 1) := by decide +kernel
theorem dX3_about_59 : decode cX3_about 59 = .ok (.iload_n 1, 1) := by decide +kernel
theorem dX3_about_60 : decode cX3_about 60 = .ok (.invokestatic 132, 3) := by decide +kernel
theorem dX3_about_63 : decode cX3_about 63 = .ok (.ireturn, 1) := by decide +kernel
abbrev wX3_about : List Cond := .code yX3_about cX3_about 3 (some .int) :: lw_gd
theorem hdX3_about : (yX3_about.cls ≠ "java/lang/invoke/MethodHandle" ∧ yX3_about.cls ≠ "java/lang/invoke/VarHandle" ∧ (parseMethodDescriptor yX3_about.desc).map (fun d => d.parameters.length) = some 2) := by decide +kernel
def fX3_about  (a1 : Int32) (a2 : Int32) (M : xm_M) : Option (Int32 × xm_M) :=
  xm_bi (fX3_isWithin a1 ((0 : Int32)) ((M.1 1 6) - ((1 : Int32))) M) (fun x2 M1 => if x2 = 0 then some ((-1000000001 : Int32), M1) else xm_bi (fX3_isWithin a2 ((0 : Int32)) ((10 : Int32)) M1) (fun x4 M3 => if x4 = 0 then some ((-1000000002 : Int32), M3) else xm_bv (fX2_follow 2 M3) (fun M5 => xm_bi (fX3_item_ 56 11 57 120 a2 a1 M5) (fun x7 M6 => some (x7, M6)))))
set_option maxRecDepth 20000 in
theorem kX3_about {l : Launch}   (a1 : Int32) (a2 : Int32) (M : xm_M) : xm_C l yX3_about wX3_about ({ frames := 5, cells := 0, slots := 0, locals := 129 }) cL (fun g => [.ref (g.1 0), .int a1, .int a2]) M xm_Fi (fX3_about  a1 a2 M) := by
  refine xm_C.of (by decide) rfl (fun g => Nat.le_of_ble_eq_true rfl) ?_
  intro p e s m args below meth c D g A hX
  refine xm_lv (lv' := [(0, .ref (g.1 0)), (1, .int a1), (2, .int a2)]) rfl ?_
  unfold fX3_about
  refine xm_iload_n hX 1 dX3_about_0 rfl rfl ?_
  refine xm_iconst hX (v := 0) rfl dX3_about_1 ?_
  refine xm_aload_n hX 0 dX3_about_2 rfl rfl ?_
  refine xm_get hX (k := 0) (ci := 3) (j := 0) (C := RX3) (T := TX3) (N := 6) (v := .ref (g.1 1)) cL_0 rfl rfl rfl (by decide) (fun z hz => List.mem_cons_of_mem _ (iw_X3 z hz)) (List.mem_cons_of_mem _ gm_129) dX3_about_3 ?_
  refine xm_get hX (k := 1) (ci := 1) (j := 6) (C := RX1) (T := TX1) (N := 11) (v := .int (M.1 1 6)) cL_1 rfl rfl rfl (by decide) (fun z hz => List.mem_cons_of_mem _ (iw_X1 z hz)) (List.mem_cons_of_mem _ gm_46) dX3_about_6 ?_
  refine xm_iconst hX (v := 1) rfl dX3_about_9 ?_
  refine xm_isub hX dX3_about_10 ?_
  refine xm_calli hX (xm_runS hX (As := (fun g => [.int a1, .int ((0 : Int32)), .int ((M.1 1 6) - ((1 : Int32)))])) (kX3_isWithin a1 ((0 : Int32)) ((M.1 1 6) - ((1 : Int32))) M) (xm_gS gm_150 gm_151 gm_1 gm_152) rfl ⟨rfl, rfl⟩ hdX3_isWithin ⟨Nat.le_of_ble_eq_true rfl, Nat.le_of_ble_eq_true rfl⟩ rfl (Nat.le_of_ble_eq_true rfl) rfl dX3_about_11) (fun x2 M1 => ?_)
  refine xm_if_ne hX (tgt := 20) dX3_about_14 rfl ?_ ?_
  · refine xm_iload_n hX 2 dX3_about_20 rfl rfl ?_
    refine xm_iconst hX (v := 0) rfl dX3_about_21 ?_
    refine xm_bipush hX (v := 10) rfl dX3_about_22 ?_
    refine xm_calli hX (xm_runS hX (As := (fun g => [.int a2, .int ((0 : Int32)), .int ((10 : Int32))])) (kX3_isWithin a2 ((0 : Int32)) ((10 : Int32)) M1) (xm_gS gm_150 gm_151 gm_1 gm_152) rfl ⟨rfl, rfl⟩ hdX3_isWithin ⟨Nat.le_of_ble_eq_true rfl, Nat.le_of_ble_eq_true rfl⟩ rfl (Nat.le_of_ble_eq_true rfl) rfl dX3_about_24) (fun x4 M3 => ?_)
    refine xm_if_ne hX (tgt := 33) dX3_about_27 rfl ?_ ?_
    · refine xm_aload_n hX 0 dX3_about_33 rfl rfl ?_
      refine xm_get hX (k := 0) (ci := 3) (j := 3) (C := RX3) (T := TX3) (N := 6) (v := .ref (g.1 49)) cL_0 rfl rfl rfl (by decide) (fun z hz => List.mem_cons_of_mem _ (iw_X3 z hz)) (List.mem_cons_of_mem _ gm_132) dX3_about_34 ?_
      refine xm_aload_n hX 0 dX3_about_37 rfl rfl ?_
      refine xm_get hX (k := 0) (ci := 3) (j := 0) (C := RX3) (T := TX3) (N := 6) (v := .ref (g.1 1)) cL_0 rfl rfl rfl (by decide) (fun z hz => List.mem_cons_of_mem _ (iw_X3 z hz)) (List.mem_cons_of_mem _ gm_129) dX3_about_38 ?_
      refine xm_aload_n hX 0 dX3_about_41 rfl rfl ?_
      refine xm_get hX (k := 0) (ci := 3) (j := 0) (C := RX3) (T := TX3) (N := 6) (v := .ref (g.1 1)) cL_0 rfl rfl rfl (by decide) (fun z hz => List.mem_cons_of_mem _ (iw_X3 z hz)) (List.mem_cons_of_mem _ gm_129) dX3_about_42 ?_
      refine xm_get hX (k := 1) (ci := 1) (j := 0) (C := RX1) (T := TX1) (N := 11) (v := .ref (g.1 2)) cL_1 rfl rfl rfl (by decide) (fun z hz => List.mem_cons_of_mem _ (iw_X1 z hz)) (List.mem_cons_of_mem _ gm_30) dX3_about_45 ?_
      refine xm_callv hX (xm_runV hX (k := 49) (ci := 2) (As := (fun g => [.ref (g.1 1), .ref (g.1 2)])) (kX2_follow 2 cL_2 M3) cL_49 rfl (xm_gV gm_218 gm_219 gm_220 gm_3 gm_221) rfl ⟨rfl, rfl⟩ ⟨rfl, hdX2_follow⟩ ⟨Nat.le_of_ble_eq_true rfl, Nat.le_of_ble_eq_true rfl⟩ rfl (Nat.le_of_ble_eq_true rfl) rfl dX3_about_48) (fun M5 => ?_)
      refine xm_aload_n hX 0 dX3_about_51 rfl rfl ?_
      refine xm_get hX (k := 0) (ci := 3) (j := 3) (C := RX3) (T := TX3) (N := 6) (v := .ref (g.1 49)) cL_0 rfl rfl rfl (by decide) (fun z hz => List.mem_cons_of_mem _ (iw_X3 z hz)) (List.mem_cons_of_mem _ gm_132) dX3_about_52 ?_
      refine xm_get hX (k := 49) (ci := 2) (j := 1) (C := RX2) (T := TX2) (N := 12) (v := .ref (g.1 56)) cL_49 rfl rfl rfl (by decide) (fun z hz => List.mem_cons_of_mem _ (iw_X2 z hz)) (List.mem_cons_of_mem _ gm_77) dX3_about_55 ?_
      refine xm_iload_n hX 2 dX3_about_58 rfl rfl ?_
      refine xm_iload_n hX 1 dX3_about_59 rfl rfl ?_
      refine xm_calli hX (xm_runS hX (As := (fun g => [.ref (g.1 56), .int a2, .int a1])) (kX3_item_ 56 11 57 120 cL_56 cL_rows_56 a2 a1 M5) (xm_gS gm_312 gm_233 gm_1 gm_234) rfl ⟨rfl, rfl⟩ hdX3_item_ ⟨Nat.le_of_ble_eq_true rfl, Nat.le_of_ble_eq_true rfl⟩ rfl (Nat.le_of_ble_eq_true rfl) rfl dX3_about_60) (fun x7 M6 => ?_)
      exact xm_iret hX dX3_about_63
    · refine xm_ldc hX (v := -1000000002) (List.mem_cons_of_mem _ gm_217) dX3_about_30 ?_
      exact xm_iret hX dX3_about_32
  · refine xm_ldc hX (v := -1000000001) (List.mem_cons_of_mem _ gm_216) dX3_about_17 ?_
    exact xm_iret hX dX3_about_19
-- ===== OdometryDesk.isPlace(II)Z
theorem dX3_isPlace_0 : decode cX3_isPlace 0 = .ok (.iload_n 0, 1) := by decide +kernel
theorem dX3_isPlace_1 : decode cX3_isPlace 1 = .ok (.ldc 223, 2) := by decide +kernel
theorem dX3_isPlace_3 : decode cX3_isPlace 3 = .ok (.ldc 224, 2) := by decide +kernel
theorem dX3_isPlace_5 : decode cX3_isPlace 5 = .ok (.invokestatic 66, 3) := by decide +kernel
theorem dX3_isPlace_8 : decode cX3_isPlace 8 = .ok (.ifCond .eq 18, 3) := by decide +kernel
theorem dX3_isPlace_11 : decode cX3_isPlace 11 = .ok (.iload_n 1, 1) := by decide +kernel
theorem dX3_isPlace_12 : decode cX3_isPlace 12 = .ok (.ldc 223, 2) := by decide +kernel
theorem dX3_isPlace_14 : decode cX3_isPlace 14 = .ok (.ldc 224, 2) := by decide +kernel
theorem dX3_isPlace_16 : decode cX3_isPlace 16 = .ok (.invokestatic 66, 3) := by decide +kernel
theorem dX3_isPlace_19 : decode cX3_isPlace 19 = .ok (.ifCond .eq 7, 3) := by decide +kernel
theorem dX3_isPlace_22 : decode cX3_isPlace 22 = .ok (.iconst 1, 1) := by decide +kernel
theorem dX3_isPlace_23 : decode cX3_isPlace 23 = .ok (.goto 4, 3) := by decide +kernel
theorem dX3_isPlace_26 : decode cX3_isPlace 26 = .ok (.iconst 0, 1) := by decide +kernel
theorem dX3_isPlace_27 : decode cX3_isPlace 27 = .ok (.ireturn, 1) := by decide +kernel
abbrev wX3_isPlace : List Cond := .code yX3_isPlace cX3_isPlace 2 (some .boolean) :: lw_gd
theorem hdX3_isPlace : (yX3_isPlace.cls ≠ "java/lang/invoke/MethodHandle" ∧ yX3_isPlace.cls ≠ "java/lang/invoke/VarHandle" ∧ (parseMethodDescriptor yX3_isPlace.desc).map (fun d => d.parameters.length) = some 2) := by decide +kernel
def fX3_isPlace  (a0 : Int32) (a1 : Int32) (M : xm_M) : Option (Int32 × xm_M) :=
  xm_bi (fX3_isWithin a0 ((-100000 : Int32)) ((100000 : Int32)) M) (fun x2 M1 => if x2 = 0 then if ((0 : Int32)) = 0 ∨ ((0 : Int32)) = 1 then some ((0 : Int32), M1) else none else xm_bi (fX3_isWithin a1 ((-100000 : Int32)) ((100000 : Int32)) M1) (fun x4 M3 => if x4 = 0 then if ((0 : Int32)) = 0 ∨ ((0 : Int32)) = 1 then some ((0 : Int32), M3) else none else if ((1 : Int32)) = 0 ∨ ((1 : Int32)) = 1 then some ((1 : Int32), M3) else none))
set_option maxRecDepth 20000 in
theorem kX3_isPlace {l : Launch}   (a0 : Int32) (a1 : Int32) (M : xm_M) : xm_C l yX3_isPlace wX3_isPlace ({ frames := 1, cells := 0, slots := 0, locals := 22 }) cL (fun g => [.int a0, .int a1]) M xm_Fi (fX3_isPlace  a0 a1 M) := by
  refine xm_C.of (by decide) rfl (fun g => Nat.le_of_ble_eq_true rfl) ?_
  intro p e s m args below meth c D g A hX
  refine xm_lv (lv' := [(0, .int a0), (1, .int a1)]) rfl ?_
  unfold fX3_isPlace
  refine xm_iload_n hX 0 dX3_isPlace_0 rfl rfl ?_
  refine xm_ldc hX (v := -100000) (List.mem_cons_of_mem _ gm_166) dX3_isPlace_1 ?_
  refine xm_ldc hX (v := 100000) (List.mem_cons_of_mem _ gm_167) dX3_isPlace_3 ?_
  refine xm_calli hX (xm_runS hX (As := (fun g => [.int a0, .int ((-100000 : Int32)), .int ((100000 : Int32))])) (kX3_isWithin a0 ((-100000 : Int32)) ((100000 : Int32)) M) (xm_gS gm_150 gm_151 gm_1 gm_152) rfl ⟨rfl, rfl⟩ hdX3_isWithin ⟨Nat.le_of_ble_eq_true rfl, Nat.le_of_ble_eq_true rfl⟩ rfl (Nat.le_of_ble_eq_true rfl) rfl dX3_isPlace_5) (fun x2 M1 => ?_)
  refine xm_if_eq hX (tgt := 26) dX3_isPlace_8 rfl ?_ ?_
  · refine xm_iconst hX (v := 0) rfl dX3_isPlace_26 ?_
    exact xm_zret hX dX3_isPlace_27
  · refine xm_iload_n hX 1 dX3_isPlace_11 rfl rfl ?_
    refine xm_ldc hX (v := -100000) (List.mem_cons_of_mem _ gm_166) dX3_isPlace_12 ?_
    refine xm_ldc hX (v := 100000) (List.mem_cons_of_mem _ gm_167) dX3_isPlace_14 ?_
    refine xm_calli hX (xm_runS hX (As := (fun g => [.int a1, .int ((-100000 : Int32)), .int ((100000 : Int32))])) (kX3_isWithin a1 ((-100000 : Int32)) ((100000 : Int32)) M1) (xm_gS gm_150 gm_151 gm_1 gm_152) rfl ⟨rfl, rfl⟩ hdX3_isWithin ⟨Nat.le_of_ble_eq_true rfl, Nat.le_of_ble_eq_true rfl⟩ rfl (Nat.le_of_ble_eq_true rfl) rfl dX3_isPlace_16) (fun x4 M3 => ?_)
    refine xm_if_eq hX (tgt := 26) dX3_isPlace_19 rfl ?_ ?_
    · refine xm_iconst hX (v := 0) rfl dX3_isPlace_26 ?_
      exact xm_zret hX dX3_isPlace_27
    · refine xm_iconst hX (v := 1) rfl dX3_isPlace_22 ?_
      refine xm_goto hX (tgt := 27) dX3_isPlace_23 rfl ?_
      exact xm_zret hX dX3_isPlace_27
-- ===== OdometryDesk.begin(III)I ['0']
theorem dX3_begin_0 : decode cX3_begin 0 = .ok (.iload_n 1, 1) := by decide +kernel
theorem dX3_begin_1 : decode cX3_begin 1 = .ok (.iload_n 2, 1) := by decide +kernel
theorem dX3_begin_2 : decode cX3_begin 2 = .ok (.invokestatic 63, 3) := by decide +kernel
theorem dX3_begin_5 : decode cX3_begin 5 = .ok (.ifCond .eq 13, 3) := by decide +kernel
theorem dX3_begin_8 : decode cX3_begin 8 = .ok (.iload_n 3, 1) := by decide +kernel
theorem dX3_begin_9 : decode cX3_begin 9 = .ok (.iconst 0, 1) := by decide +kernel
theorem dX3_begin_10 : decode cX3_begin 10 = .ok (.ldc 96, 2) := by decide +kernel
theorem dX3_begin_12 : decode cX3_begin 12 = .ok (.invokestatic 66, 3) := by decide +kernel
theorem dX3_begin_15 : decode cX3_begin 15 = .ok (.ifCond .ne 6, 3) := by decide +kernel
theorem dX3_begin_18 : decode cX3_begin 18 = .ok (.bipush (-2), 2) := by decide +kernel
theorem dX3_begin_20 : decode cX3_begin 20 = .ok (.ireturn, 1) := by decide +kernel
theorem dX3_begin_21 : decode cX3_begin 21 = .ok (.aload_n 0, 1) := by decide +kernel
theorem dX3_begin_22 : decode cX3_begin 22 = .ok (.getfield 10, 3) := by decide +kernel
theorem dX3_begin_25 : decode cX3_begin 25 = .ok (.iload_n 1, 1) := by decide +kernel
theorem dX3_begin_26 : decode cX3_begin 26 = .ok (.putfield 97, 3) := by decide +kernel
theorem dX3_begin_29 : decode cX3_begin 29 = .ok (.aload_n 0, 1) := by decide +kernel
theorem dX3_begin_30 : decode cX3_begin 30 = .ok (.getfield 10, 3) := by decide +kernel
theorem dX3_begin_33 : decode cX3_begin 33 = .ok (.iload_n 2, 1) := by decide +kernel
theorem dX3_begin_34 : decode cX3_begin 34 = .ok (.putfield 100, 3) := by decide +kernel
theorem dX3_begin_37 : decode cX3_begin 37 = .ok (.aload_n 0, 1) := by decide +kernel
theorem dX3_begin_38 : decode cX3_begin 38 = .ok (.getfield 10, 3) := by decide +kernel
theorem dX3_begin_41 : decode cX3_begin 41 = .ok (.iload_n 3, 1) := by decide +kernel
theorem dX3_begin_42 : decode cX3_begin 42 = .ok (.putfield 103, 3) := by decide +kernel
theorem dX3_begin_45 : decode cX3_begin 45 = .ok (.aload_n 0, 1) := by decide +kernel
theorem dX3_begin_46 : decode cX3_begin 46 = .ok (.getfield 10, 3) := by decide +kernel
theorem dX3_begin_49 : decode cX3_begin 49 = .ok (.getfield 106, 3) := by decide +kernel
theorem dX3_begin_52 : decode cX3_begin 52 = .ok (.ireturn, 1) := by decide +kernel
abbrev wX3_begin : List Cond := .code yX3_begin cX3_begin 4 (some .int) :: lw_gd
theorem hdX3_begin : (yX3_begin.cls ≠ "java/lang/invoke/MethodHandle" ∧ yX3_begin.cls ≠ "java/lang/invoke/VarHandle" ∧ (parseMethodDescriptor yX3_begin.desc).map (fun d => d.parameters.length) = some 3) := by decide +kernel
def fX3_begin  (a1 : Int32) (a2 : Int32) (a3 : Int32) (M : xm_M) : Option (Int32 × xm_M) :=
  xm_bi (fX3_isPlace a1 a2 M) (fun x2 M1 => if x2 = 0 then some ((-2 : Int32), M1) else xm_bi (fX3_isWithin a3 ((0 : Int32)) ((3599999 : Int32)) M1) (fun x4 M3 => if x4 = 0 then some ((-2 : Int32), M3) else xm_lt (xm_s M3 1 7 a1) (fun M5 => xm_lt (xm_s M5 1 8 a2) (fun M6 => xm_lt (xm_s M6 1 9 a3) (fun M7 => some (M7.1 1 6, M7))))))
set_option maxRecDepth 20000 in
theorem kX3_begin {l : Launch}   (a1 : Int32) (a2 : Int32) (a3 : Int32) (M : xm_M) : xm_C l yX3_begin wX3_begin ({ frames := 2, cells := 0, slots := 0, locals := 43 }) cL (fun g => [.ref (g.1 0), .int a1, .int a2, .int a3]) M xm_Fi (fX3_begin  a1 a2 a3 M) := by
  refine xm_C.of (by decide) rfl (fun g => Nat.le_of_ble_eq_true rfl) ?_
  intro p e s m args below meth c D g A hX
  refine xm_lv (lv' := [(0, .ref (g.1 0)), (1, .int a1), (2, .int a2), (3, .int a3)]) rfl ?_
  unfold fX3_begin
  refine xm_iload_n hX 1 dX3_begin_0 rfl rfl ?_
  refine xm_iload_n hX 2 dX3_begin_1 rfl rfl ?_
  refine xm_calli hX (xm_runS hX (As := (fun g => [.int a1, .int a2])) (kX3_isPlace a1 a2 M) (xm_gS gm_163 gm_164 gm_1 gm_165) rfl ⟨rfl, rfl⟩ hdX3_isPlace ⟨Nat.le_of_ble_eq_true rfl, Nat.le_of_ble_eq_true rfl⟩ rfl (Nat.le_of_ble_eq_true rfl) rfl dX3_begin_2) (fun x2 M1 => ?_)
  refine xm_if_eq hX (tgt := 18) dX3_begin_5 rfl ?_ ?_
  · refine xm_bipush hX (v := -2) rfl dX3_begin_18 ?_
    exact xm_iret hX dX3_begin_20
  · refine xm_iload_n hX 3 dX3_begin_8 rfl rfl ?_
    refine xm_iconst hX (v := 0) rfl dX3_begin_9 ?_
    refine xm_ldc hX (v := 3599999) (List.mem_cons_of_mem _ gm_189) dX3_begin_10 ?_
    refine xm_calli hX (xm_runS hX (As := (fun g => [.int a3, .int ((0 : Int32)), .int ((3599999 : Int32))])) (kX3_isWithin a3 ((0 : Int32)) ((3599999 : Int32)) M1) (xm_gS gm_150 gm_151 gm_1 gm_152) rfl ⟨rfl, rfl⟩ hdX3_isWithin ⟨Nat.le_of_ble_eq_true rfl, Nat.le_of_ble_eq_true rfl⟩ rfl (Nat.le_of_ble_eq_true rfl) rfl dX3_begin_12) (fun x4 M3 => ?_)
    refine xm_if_ne hX (tgt := 21) dX3_begin_15 rfl ?_ ?_
    · refine xm_aload_n hX 0 dX3_begin_21 rfl rfl ?_
      refine xm_get hX (k := 0) (ci := 3) (j := 0) (C := RX3) (T := TX3) (N := 6) (v := .ref (g.1 1)) cL_0 rfl rfl rfl (by decide) (fun z hz => List.mem_cons_of_mem _ (iw_X3 z hz)) (List.mem_cons_of_mem _ gm_129) dX3_begin_22 ?_
      refine xm_iload_n hX 1 dX3_begin_25 rfl rfl ?_
      refine xm_puti hX (k := 1) (ci := 1) (j := 7) (C := RX1) (T := TX1) (N := 11) (t0 := tyX1) cL_1 rfl rfl (by decide) (fun z hz => List.mem_cons_of_mem _ (iw_X1 z hz)) tyX1_ok nmX1 rfl rfl (List.mem_cons_of_mem _ gm_49) dX3_begin_26 (fun M5 => ?_)
      refine xm_aload_n hX 0 dX3_begin_29 rfl rfl ?_
      refine xm_get hX (k := 0) (ci := 3) (j := 0) (C := RX3) (T := TX3) (N := 6) (v := .ref (g.1 1)) cL_0 rfl rfl rfl (by decide) (fun z hz => List.mem_cons_of_mem _ (iw_X3 z hz)) (List.mem_cons_of_mem _ gm_129) dX3_begin_30 ?_
      refine xm_iload_n hX 2 dX3_begin_33 rfl rfl ?_
      refine xm_puti hX (k := 1) (ci := 1) (j := 8) (C := RX1) (T := TX1) (N := 11) (t0 := tyX1) cL_1 rfl rfl (by decide) (fun z hz => List.mem_cons_of_mem _ (iw_X1 z hz)) tyX1_ok nmX1 rfl rfl (List.mem_cons_of_mem _ gm_52) dX3_begin_34 (fun M6 => ?_)
      refine xm_aload_n hX 0 dX3_begin_37 rfl rfl ?_
      refine xm_get hX (k := 0) (ci := 3) (j := 0) (C := RX3) (T := TX3) (N := 6) (v := .ref (g.1 1)) cL_0 rfl rfl rfl (by decide) (fun z hz => List.mem_cons_of_mem _ (iw_X3 z hz)) (List.mem_cons_of_mem _ gm_129) dX3_begin_38 ?_
      refine xm_iload_n hX 3 dX3_begin_41 rfl rfl ?_
      refine xm_puti hX (k := 1) (ci := 1) (j := 9) (C := RX1) (T := TX1) (N := 11) (t0 := tyX1) cL_1 rfl rfl (by decide) (fun z hz => List.mem_cons_of_mem _ (iw_X1 z hz)) tyX1_ok nmX1 rfl rfl (List.mem_cons_of_mem _ gm_55) dX3_begin_42 (fun M7 => ?_)
      refine xm_aload_n hX 0 dX3_begin_45 rfl rfl ?_
      refine xm_get hX (k := 0) (ci := 3) (j := 0) (C := RX3) (T := TX3) (N := 6) (v := .ref (g.1 1)) cL_0 rfl rfl rfl (by decide) (fun z hz => List.mem_cons_of_mem _ (iw_X3 z hz)) (List.mem_cons_of_mem _ gm_129) dX3_begin_46 ?_
      refine xm_get hX (k := 1) (ci := 1) (j := 6) (C := RX1) (T := TX1) (N := 11) (v := .int (M7.1 1 6)) cL_1 rfl rfl rfl (by decide) (fun z hz => List.mem_cons_of_mem _ (iw_X1 z hz)) (List.mem_cons_of_mem _ gm_46) dX3_begin_49 ?_
      exact xm_iret hX dX3_begin_52
    · refine xm_bipush hX (v := -2) rfl dX3_begin_18 ?_
      exact xm_iret hX dX3_begin_20
-- ===== OdometryDesk$State.hasSights()Z ['1']
theorem dX1_hasSights_0 : decode cX1_hasSights 0 = .ok (.iconst 0, 1) := by decide +kernel
theorem dX1_hasSights_1 : decode cX1_hasSights 1 = .ok (.istore_n 1, 1) := by decide +kernel
theorem dX1_hasSights_2 : decode cX1_hasSights 2 = .ok (.iload_n 1, 1) := by decide +kernel
theorem dX1_hasSights_3 : decode cX1_hasSights 3 = .ok (.aload_n 0, 1) := by decide +kernel
theorem dX1_hasSights_4 : decode cX1_hasSights 4 = .ok (.getfield 48, 3) := by decide +kernel
theorem dX1_hasSights_7 : decode cX1_hasSights 7 = .ok (.if_icmp .ge 19, 3) := by decide +kernel
theorem dX1_hasSights_10 : decode cX1_hasSights 10 = .ok (.aload_n 0, 1) := by decide +kernel
theorem dX1_hasSights_11 : decode cX1_hasSights 11 = .ok (.iload_n 1, 1) := by decide +kernel
theorem dX1_hasSights_12 : decode cX1_hasSights 12 = .ok (.invokevirtual 74, 3) := by decide +kernel
theorem dX1_hasSights_15 : decode cX1_hasSights 15 = .ok (.ifCond .eq 5, 3) := by decide +kernel
theorem dX1_hasSights_18 : decode cX1_hasSights 18 = .ok (.iconst 1, 1) := by decide +kernel
theorem dX1_hasSights_19 : decode cX1_hasSights 19 = .ok (.ireturn, 1) := by decide +kernel
theorem dX1_hasSights_20 : decode cX1_hasSights 20 = .ok (.iinc 1 1, 3) := by decide +kernel
theorem dX1_hasSights_23 : decode cX1_hasSights 23 = .ok (.goto (-21), 3) := by decide +kernel
theorem dX1_hasSights_26 : decode cX1_hasSights 26 = .ok (.iconst 0, 1) := by decide +kernel
theorem dX1_hasSights_27 : decode cX1_hasSights 27 = .ok (.ireturn, 1) := by decide +kernel
abbrev wX1_hasSights : List Cond := .code yX1_hasSights cX1_hasSights 2 (some .boolean) :: lw_gd
theorem hdX1_hasSights : (yX1_hasSights.cls ≠ "java/lang/invoke/MethodHandle" ∧ yX1_hasSights.cls ≠ "java/lang/invoke/VarHandle" ∧ (parseMethodDescriptor yX1_hasSights.desc).map (fun d => d.parameters.length) = some 0) := by decide +kernel
def fX1_hasSights_2  (k2 : Int32 → xm_M → Option (Int32 × xm_M)) (b1 : Int32) (M : xm_M) : Option (Int32 × xm_M) :=
  if (M.1 1 6) ≤ b1 then if ((0 : Int32)) = 0 ∨ ((0 : Int32)) = 1 then some ((0 : Int32), M) else none else xm_bi (fX1_isSight b1 M) (fun x3 M2 => if x3 = 0 then xm_lt (b1 + Int32.ofInt 1) (fun x4 => k2 x4 M2) else if ((1 : Int32)) = 0 ∨ ((1 : Int32)) = 1 then some ((1 : Int32), M2) else none)
set_option maxRecDepth 20000 in
theorem tfX1_hasSights_2 {p : Program} {l : Launch} {e : Env} {s : State} {m : MethodId} {args : Array Value} {below : List Frame} {meth : Method} {c : Code} {D : va_G} {g : xm_G} {A : Nat → Prop} (hX : xm_X p m meth c cX1_hasSights 2 s args wX1_hasSights RX1 (some .boolean) D cL g A)   (k2 : Int32 → xm_M → Option (Int32 × xm_M)) (h2 : ∀ (b1 : Int32), ∀ (M : xm_M), xm_J p l e ({ frames := 2, cells := 0, slots := 0, locals := 43 }) s m args below meth c 2 D cL g A (xm_Fi g) 2 [(0, .ref (g.1 1)), (1, .int b1)] [] M (k2 b1 M)) : ∀ (b1 : Int32), ∀ (M : xm_M), xm_J p l e ({ frames := 2, cells := 0, slots := 0, locals := 43 }) s m args below meth c 2 D cL g A (xm_Fi g) 2 [(0, .ref (g.1 1)), (1, .int b1)] [] M (fX1_hasSights_2 k2 b1 M) := by
  intro b1 M
  unfold fX1_hasSights_2
  refine xm_iload_n hX 1 dX1_hasSights_2 rfl rfl ?_
  refine xm_aload_n hX 0 dX1_hasSights_3 rfl rfl ?_
  refine xm_get hX (k := 1) (ci := 1) (j := 6) (C := RX1) (T := TX1) (N := 11) (v := .int (M.1 1 6)) cL_1 rfl rfl rfl (by decide) (fun z hz => List.mem_cons_of_mem _ (iw_X1 z hz)) (List.mem_cons_of_mem _ gm_44) dX1_hasSights_4 ?_
  refine xm_icmp_ge hX (tgt := 26) dX1_hasSights_7 rfl ?_ ?_
  · refine xm_iconst hX (v := 0) rfl dX1_hasSights_26 ?_
    exact xm_zret hX dX1_hasSights_27
  · refine xm_aload_n hX 0 dX1_hasSights_10 rfl rfl ?_
    refine xm_iload_n hX 1 dX1_hasSights_11 rfl rfl ?_
    refine xm_calli hX (xm_runV hX (k := 1) (ci := 1) (As := (fun g => [.int b1])) (kX1_isSight b1 M) cL_1 rfl (xm_gV gm_353 gm_230 gm_231 gm_2 gm_232) rfl ⟨rfl, rfl⟩ ⟨rfl, hdX1_isSight⟩ ⟨Nat.le_of_ble_eq_true rfl, Nat.le_of_ble_eq_true rfl⟩ rfl (Nat.le_of_ble_eq_true rfl) rfl dX1_hasSights_12) (fun x3 M2 => ?_)
    refine xm_if_eq hX (tgt := 20) dX1_hasSights_15 rfl ?_ ?_
    · refine xm_iinc hX (lv2 := fun x4 => [(1, .int x4), (0, .ref (g.1 1))]) 1 dX1_hasSights_20 rfl (by decide) (fun _ => rfl) (fun x4 => ?_)
      refine xm_goto hX (tgt := 2) dX1_hasSights_23 rfl ?_
      refine xm_weak [1, 0] (lv' := [(0, .ref (g.1 1)), (1, .int x4)]) rfl ?_
      exact h2 x4 M2
    · refine xm_iconst hX (v := 1) rfl dX1_hasSights_18 ?_
      exact xm_zret hX dX1_hasSights_19
def fX1_hasSights_2_it   (nq : Nat) : Int32 → xm_M → Option (Int32 × xm_M) := xm_it (fun kq => fX1_hasSights_2 kq) (fun _ _ => none) nq
theorem tfX1_hasSights_2_it {p : Program} {l : Launch} {e : Env} {s : State} {m : MethodId} {args : Array Value} {below : List Frame} {meth : Method} {c : Code} {D : va_G} {g : xm_G} {A : Nat → Prop} (hX : xm_X p m meth c cX1_hasSights 2 s args wX1_hasSights RX1 (some .boolean) D cL g A)     : ∀ (nq : Nat), ∀ (b1 : Int32), ∀ (M : xm_M), xm_J p l e ({ frames := 2, cells := 0, slots := 0, locals := 43 }) s m args below meth c 2 D cL g A (xm_Fi g) 2 [(0, .ref (g.1 1)), (1, .int b1)] [] M (fX1_hasSights_2_it  nq b1 M) := by
  intro nq
  induction nq with
  | zero => exact fun _ _ => xm_none
  | succ nq ih => exact tfX1_hasSights_2 hX _ ih
def fX1_hasSights   (M : xm_M) : Option (Int32 × xm_M) :=
  xm_lt ((0 : Int32)) (fun x1 => fX1_hasSights_2_it xm_N x1 M)
set_option maxRecDepth 20000 in
theorem kX1_hasSights {l : Launch}    (M : xm_M) : xm_C l yX1_hasSights wX1_hasSights ({ frames := 2, cells := 0, slots := 0, locals := 43 }) cL (fun g => [.ref (g.1 1)]) M xm_Fi (fX1_hasSights   M) := by
  refine xm_C.of (by decide) rfl (fun g => Nat.le_of_ble_eq_true rfl) ?_
  intro p e s m args below meth c D g A hX
  refine xm_lv (lv' := [(0, .ref (g.1 1))]) rfl ?_
  unfold fX1_hasSights
  refine xm_iconst hX (v := 0) rfl dX1_hasSights_0 ?_
  refine xm_nmi (fun x1 => ?_)
  refine xm_istore_n hX (lv' := [(1, .int x1), (0, .ref (g.1 1))]) dX1_hasSights_1 rfl (by decide) rfl ?_
  refine xm_weak [1, 0] (lv' := [(0, .ref (g.1 1)), (1, .int x1)]) rfl ?_
  exact tfX1_hasSights_2_it hX xm_N x1 M
-- ===== OdometryDesk.copy([I[I)V ['2', '72']
theorem dX3_copy_0 : decode cX3_copy 0 = .ok (.aload_n 0, 1) := by decide +kernel
theorem dX3_copy_1 : decode cX3_copy 1 = .ok (.iconst 0, 1) := by decide +kernel
theorem dX3_copy_2 : decode cX3_copy 2 = .ok (.aload_n 1, 1) := by decide +kernel
theorem dX3_copy_3 : decode cX3_copy 3 = .ok (.iconst 0, 1) := by decide +kernel
theorem dX3_copy_4 : decode cX3_copy 4 = .ok (.aload_n 0, 1) := by decide +kernel
theorem dX3_copy_5 : decode cX3_copy 5 = .ok (.arraylength, 1) := by decide +kernel
theorem dX3_copy_6 : decode cX3_copy 6 = .ok (.aload_n 1, 1) := by decide +kernel
theorem dX3_copy_7 : decode cX3_copy 7 = .ok (.arraylength, 1) := by decide +kernel
theorem dX3_copy_8 : decode cX3_copy 8 = .ok (.invokestatic 78, 3) := by decide +kernel
theorem dX3_copy_11 : decode cX3_copy 11 = .ok (.invokestatic 247, 3) := by decide +kernel
theorem dX3_copy_14 : decode cX3_copy 14 = .ok (.return_, 1) := by decide +kernel
abbrev wX3_copy : List Cond := .code yX3_copy cX3_copy 2 none :: lw_gd
theorem hdX3_copy : (yX3_copy.cls ≠ "java/lang/invoke/MethodHandle" ∧ yX3_copy.cls ≠ "java/lang/invoke/VarHandle" ∧ (parseMethodDescriptor yX3_copy.desc).map (fun d => d.parameters.length) = some 2) := by decide +kernel
def fX3_copy (k : Nat) (n : Nat) (j : Nat) (nj : Nat)  (M : xm_M) : Option xm_M :=
  if ((0 : Int32)) < 0 ∨ ((0 : Int32)) < 0 ∨ (if ((Int32.ofNat nj)) < ((Int32.ofNat n)) then ((Int32.ofNat nj)) else ((Int32.ofNat n))) < 0 ∨ n < ((0 : Int32)).toNatClampNeg + (if ((Int32.ofNat nj)) < ((Int32.ofNat n)) then ((Int32.ofNat nj)) else ((Int32.ofNat n))).toNatClampNeg ∨ nj < ((0 : Int32)).toNatClampNeg + (if ((Int32.ofNat nj)) < ((Int32.ofNat n)) then ((Int32.ofNat nj)) else ((Int32.ofNat n))).toNatClampNeg then none else xm_lt (xm_r M j (va_cpy (M.1 k) (M.1 j) ((0 : Int32)).toNatClampNeg ((0 : Int32)).toNatClampNeg (if ((Int32.ofNat nj)) < ((Int32.ofNat n)) then ((Int32.ofNat nj)) else ((Int32.ofNat n))).toNatClampNeg)) (fun M1 => some M1)
set_option maxRecDepth 20000 in
theorem kX3_copy {l : Launch} (k : Nat) (n : Nat) (j : Nat) (nj : Nat) (hk : cL[k]? = some (.inl (0, .int, n))) (hj : cL[j]? = some (.inl (0, .int, nj)))  (M : xm_M) : xm_C l yX3_copy wX3_copy ({ frames := 1, cells := 0, slots := 0, locals := 18 }) cL (fun g => [.ref (g.1 k), .ref (g.1 j)]) M xm_Fv (fX3_copy k n j nj  M) := by
  refine xm_C.of (by decide) rfl (fun g => Nat.le_of_ble_eq_true rfl) ?_
  intro p e s m args below meth c D g A hX
  refine xm_lv (lv' := [(0, .ref (g.1 k)), (1, .ref (g.1 j))]) rfl ?_
  unfold fX3_copy
  refine xm_aload_n hX 0 dX3_copy_0 rfl rfl ?_
  refine xm_iconst hX (v := 0) rfl dX3_copy_1 ?_
  refine xm_aload_n hX 1 dX3_copy_2 rfl rfl ?_
  refine xm_iconst hX (v := 0) rfl dX3_copy_3 ?_
  refine xm_aload_n hX 0 dX3_copy_4 rfl rfl ?_
  refine xm_alen hX (v := (Int32.ofNat n)) hk rfl dX3_copy_5 ?_
  refine xm_aload_n hX 1 dX3_copy_6 rfl rfl ?_
  refine xm_alen hX (v := (Int32.ofNat nj)) hj rfl dX3_copy_7 ?_
  refine xm_mmin hX (List.mem_cons_of_mem _ gm_168) (List.mem_cons_of_mem _ gm_169) (List.mem_cons_of_mem _ gm_6) (List.mem_cons_of_mem _ gm_170) (Nat.le_of_ble_eq_true rfl) (Nat.le_of_ble_eq_true rfl) dX3_copy_8 ?_
  refine xm_acopy hX (List.mem_cons_of_mem _ gm_342) (List.mem_cons_of_mem _ gm_344) (List.mem_cons_of_mem _ gm_343) (List.mem_cons_of_mem _ gm_8) (n1 := n) (n2 := nj) hk hj (Nat.le_of_ble_eq_true rfl) (Nat.le_of_ble_eq_true rfl) dX3_copy_11 (fun M1 => ?_)
  exact xm_vret hX dX3_copy_14
-- ===== OdometryDesk.errorsWith(II)J ['0']
theorem dX3_errorsWith_0 : decode cX3_errorsWith 0 = .ok (.aload_n 0, 1) := by decide +kernel
theorem dX3_errorsWith_1 : decode cX3_errorsWith 1 = .ok (.getfield 10, 3) := by decide +kernel
theorem dX3_errorsWith_4 : decode cX3_errorsWith 4 = .ok (.getfield 52, 3) := by decide +kernel
theorem dX3_errorsWith_7 : decode cX3_errorsWith 7 = .ok (.aload_n 0, 1) := by decide +kernel
theorem dX3_errorsWith_8 : decode cX3_errorsWith 8 = .ok (.getfield 45, 3) := by decide +kernel
theorem dX3_errorsWith_11 : decode cX3_errorsWith 11 = .ok (.invokestatic 215, 3) := by decide +kernel
theorem dX3_errorsWith_14 : decode cX3_errorsWith 14 = .ok (.aload_n 0, 1) := by decide +kernel
theorem dX3_errorsWith_15 : decode cX3_errorsWith 15 = .ok (.getfield 45, 3) := by decide +kernel
theorem dX3_errorsWith_18 : decode cX3_errorsWith 18 = .ok (.iload_n 1, 1) := by decide +kernel
theorem dX3_errorsWith_19 : decode cX3_errorsWith 19 = .ok (.iload_n 2, 1) := by decide +kernel
theorem dX3_errorsWith_20 : decode cX3_errorsWith 20 = .ok (.invokestatic 59, 3) := by decide +kernel
theorem dX3_errorsWith_23 : decode cX3_errorsWith 23 = .ok (.aload_n 0, 1) := by decide +kernel
theorem dX3_errorsWith_24 : decode cX3_errorsWith 24 = .ok (.getfield 25, 3) := by decide +kernel
theorem dX3_errorsWith_27 : decode cX3_errorsWith 27 = .ok (.aload_n 0, 1) := by decide +kernel
theorem dX3_errorsWith_28 : decode cX3_errorsWith 28 = .ok (.getfield 10, 3) := by decide +kernel
theorem dX3_errorsWith_31 : decode cX3_errorsWith 31 = .ok (.aload_n 0, 1) := by decide +kernel
theorem dX3_errorsWith_32 : decode cX3_errorsWith 32 = .ok (.getfield 45, 3) := by decide +kernel
theorem dX3_errorsWith_35 : decode cX3_errorsWith 35 = .ok (.invokevirtual 119, 3) := by decide +kernel
theorem dX3_errorsWith_38 : decode cX3_errorsWith 38 = .ok (.aload_n 0, 1) := by decide +kernel
theorem dX3_errorsWith_39 : decode cX3_errorsWith 39 = .ok (.getfield 25, 3) := by decide +kernel
theorem dX3_errorsWith_42 : decode cX3_errorsWith 42 = .ok (.getfield 219, 3) := by decide +kernel
theorem dX3_errorsWith_45 : decode cX3_errorsWith 45 = .ok (.lreturn, 1) := by decide +kernel
abbrev wX3_errorsWith : List Cond := .code yX3_errorsWith cX3_errorsWith 3 (some .long) :: lw_gd
theorem hdX3_errorsWith : (yX3_errorsWith.cls ≠ "java/lang/invoke/MethodHandle" ∧ yX3_errorsWith.cls ≠ "java/lang/invoke/VarHandle" ∧ (parseMethodDescriptor yX3_errorsWith.desc).map (fun d => d.parameters.length) = some 2) := by decide +kernel
def fX3_errorsWith  (a1 : Int32) (a2 : Int32) (M : xm_M) : Option (Int64 × xm_M) :=
  xm_bv (fX3_copy 2 9 72 9 M) (fun M1 => xm_bv (fX3_keep 72 9 a1 a2 M1) (fun M2 => xm_bv (fX2_follow 72 M2) (fun M3 => some (M3.2 49 9, M3))))
set_option maxRecDepth 20000 in
theorem kX3_errorsWith {l : Launch}   (a1 : Int32) (a2 : Int32) (M : xm_M) : xm_C l yX3_errorsWith wX3_errorsWith ({ frames := 5, cells := 0, slots := 0, locals := 129 }) cL (fun g => [.ref (g.1 0), .int a1, .int a2]) M xm_Fl (fX3_errorsWith  a1 a2 M) := by
  refine xm_C.of (by decide) rfl (fun g => Nat.le_of_ble_eq_true rfl) ?_
  intro p e s m args below meth c D g A hX
  refine xm_lv (lv' := [(0, .ref (g.1 0)), (1, .int a1), (2, .int a2)]) rfl ?_
  unfold fX3_errorsWith
  refine xm_aload_n hX 0 dX3_errorsWith_0 rfl rfl ?_
  refine xm_get hX (k := 0) (ci := 3) (j := 0) (C := RX3) (T := TX3) (N := 6) (v := .ref (g.1 1)) cL_0 rfl rfl rfl (by decide) (fun z hz => List.mem_cons_of_mem _ (iw_X3 z hz)) (List.mem_cons_of_mem _ gm_129) dX3_errorsWith_1 ?_
  refine xm_get hX (k := 1) (ci := 1) (j := 0) (C := RX1) (T := TX1) (N := 11) (v := .ref (g.1 2)) cL_1 rfl rfl rfl (by decide) (fun z hz => List.mem_cons_of_mem _ (iw_X1 z hz)) (List.mem_cons_of_mem _ gm_30) dX3_errorsWith_4 ?_
  refine xm_aload_n hX 0 dX3_errorsWith_7 rfl rfl ?_
  refine xm_get hX (k := 0) (ci := 3) (j := 5) (C := RX3) (T := TX3) (N := 6) (v := .ref (g.1 72)) cL_0 rfl rfl rfl (by decide) (fun z hz => List.mem_cons_of_mem _ (iw_X3 z hz)) (List.mem_cons_of_mem _ gm_134) dX3_errorsWith_8 ?_
  refine xm_callv hX (xm_runS hX (As := (fun g => [.ref (g.1 2), .ref (g.1 72)])) (kX3_copy 2 9 72 9 cL_2 cL_72 M) (xm_gS gm_339 gm_340 gm_1 gm_341) rfl ⟨rfl, rfl⟩ hdX3_copy ⟨Nat.le_of_ble_eq_true rfl, Nat.le_of_ble_eq_true rfl⟩ rfl (Nat.le_of_ble_eq_true rfl) rfl dX3_errorsWith_11) (fun M1 => ?_)
  refine xm_aload_n hX 0 dX3_errorsWith_14 rfl rfl ?_
  refine xm_get hX (k := 0) (ci := 3) (j := 5) (C := RX3) (T := TX3) (N := 6) (v := .ref (g.1 72)) cL_0 rfl rfl rfl (by decide) (fun z hz => List.mem_cons_of_mem _ (iw_X3 z hz)) (List.mem_cons_of_mem _ gm_134) dX3_errorsWith_15 ?_
  refine xm_iload_n hX 1 dX3_errorsWith_18 rfl rfl ?_
  refine xm_iload_n hX 2 dX3_errorsWith_19 rfl rfl ?_
  refine xm_callv hX (xm_runS hX (As := (fun g => [.ref (g.1 72), .int a1, .int a2])) (kX3_keep 72 9 cL_72 a1 a2 M1) (xm_gS gm_156 gm_157 gm_1 gm_158) rfl ⟨rfl, rfl⟩ hdX3_keep ⟨Nat.le_of_ble_eq_true rfl, Nat.le_of_ble_eq_true rfl⟩ rfl (Nat.le_of_ble_eq_true rfl) rfl dX3_errorsWith_20) (fun M2 => ?_)
  refine xm_aload_n hX 0 dX3_errorsWith_23 rfl rfl ?_
  refine xm_get hX (k := 0) (ci := 3) (j := 3) (C := RX3) (T := TX3) (N := 6) (v := .ref (g.1 49)) cL_0 rfl rfl rfl (by decide) (fun z hz => List.mem_cons_of_mem _ (iw_X3 z hz)) (List.mem_cons_of_mem _ gm_132) dX3_errorsWith_24 ?_
  refine xm_aload_n hX 0 dX3_errorsWith_27 rfl rfl ?_
  refine xm_get hX (k := 0) (ci := 3) (j := 0) (C := RX3) (T := TX3) (N := 6) (v := .ref (g.1 1)) cL_0 rfl rfl rfl (by decide) (fun z hz => List.mem_cons_of_mem _ (iw_X3 z hz)) (List.mem_cons_of_mem _ gm_129) dX3_errorsWith_28 ?_
  refine xm_aload_n hX 0 dX3_errorsWith_31 rfl rfl ?_
  refine xm_get hX (k := 0) (ci := 3) (j := 5) (C := RX3) (T := TX3) (N := 6) (v := .ref (g.1 72)) cL_0 rfl rfl rfl (by decide) (fun z hz => List.mem_cons_of_mem _ (iw_X3 z hz)) (List.mem_cons_of_mem _ gm_134) dX3_errorsWith_32 ?_
  refine xm_callv hX (xm_runV hX (k := 49) (ci := 2) (As := (fun g => [.ref (g.1 1), .ref (g.1 72)])) (kX2_follow 72 cL_72 M2) cL_49 rfl (xm_gV gm_218 gm_219 gm_220 gm_3 gm_221) rfl ⟨rfl, rfl⟩ ⟨rfl, hdX2_follow⟩ ⟨Nat.le_of_ble_eq_true rfl, Nat.le_of_ble_eq_true rfl⟩ rfl (Nat.le_of_ble_eq_true rfl) rfl dX3_errorsWith_35) (fun M3 => ?_)
  refine xm_aload_n hX 0 dX3_errorsWith_38 rfl rfl ?_
  refine xm_get hX (k := 0) (ci := 3) (j := 3) (C := RX3) (T := TX3) (N := 6) (v := .ref (g.1 49)) cL_0 rfl rfl rfl (by decide) (fun z hz => List.mem_cons_of_mem _ (iw_X3 z hz)) (List.mem_cons_of_mem _ gm_132) dX3_errorsWith_39 ?_
  refine xm_get hX (k := 49) (ci := 2) (j := 9) (C := RX2) (T := TX2) (N := 12) (v := .long (M3.2 49 9)) cL_49 rfl rfl rfl (by decide) (fun z hz => List.mem_cons_of_mem _ (iw_X2 z hz)) (List.mem_cons_of_mem _ gm_92) dX3_errorsWith_42 ?_
  exact xm_lret hX dX3_errorsWith_45
-- ===== OdometryDesk.isSetting(II)Z
theorem dX3_isSetting_0 : decode cX3_isSetting 0 = .ok (.iload_n 0, 1) := by decide +kernel
theorem dX3_isSetting_1 : decode cX3_isSetting 1 = .ok (.ifCond .lt 40, 3) := by decide +kernel
theorem dX3_isSetting_4 : decode cX3_isSetting 4 = .ok (.iload_n 0, 1) := by decide +kernel
theorem dX3_isSetting_5 : decode cX3_isSetting 5 = .ok (.getstatic 225, 3) := by decide +kernel
theorem dX3_isSetting_8 : decode cX3_isSetting 8 = .ok (.arraylength, 1) := by decide +kernel
theorem dX3_isSetting_9 : decode cX3_isSetting 9 = .ok (.if_icmp .ge 32, 3) := by decide +kernel
theorem dX3_isSetting_12 : decode cX3_isSetting 12 = .ok (.iload_n 0, 1) := by decide +kernel
theorem dX3_isSetting_13 : decode cX3_isSetting 13 = .ok (.getstatic 228, 3) := by decide +kernel
theorem dX3_isSetting_16 : decode cX3_isSetting 16 = .ok (.arraylength, 1) := by decide +kernel
theorem dX3_isSetting_17 : decode cX3_isSetting 17 = .ok (.if_icmp .ge 24, 3) := by decide +kernel
theorem dX3_isSetting_20 : decode cX3_isSetting 20 = .ok (.iload_n 1, 1) := by decide +kernel
theorem dX3_isSetting_21 : decode cX3_isSetting 21 = .ok (.getstatic 225, 3) := by decide +kernel
theorem dX3_isSetting_24 : decode cX3_isSetting 24 = .ok (.iload_n 0, 1) := by decide +kernel
theorem dX3_isSetting_25 : decode cX3_isSetting 25 = .ok (.iaload, 1) := by decide +kernel
theorem dX3_isSetting_26 : decode cX3_isSetting 26 = .ok (.getstatic 228, 3) := by decide +kernel
theorem dX3_isSetting_29 : decode cX3_isSetting 29 = .ok (.iload_n 0, 1) := by decide +kernel
theorem dX3_isSetting_30 : decode cX3_isSetting 30 = .ok (.iaload, 1) := by decide +kernel
theorem dX3_isSetting_31 : decode cX3_isSetting 31 = .ok (.invokestatic 66, 3) := by decide +kernel
theorem dX3_isSetting_34 : decode cX3_isSetting 34 = .ok (.ifCond .eq 7, 3) := by decide +kernel
theorem dX3_isSetting_37 : decode cX3_isSetting 37 = .ok (.iconst 1, 1) := by decide +kernel
theorem dX3_isSetting_38 : decode cX3_isSetting 38 = .ok (.goto 4, 3) := by decide +kernel
theorem dX3_isSetting_41 : decode cX3_isSetting 41 = .ok (.iconst 0, 1) := by decide +kernel
theorem dX3_isSetting_42 : decode cX3_isSetting 42 = .ok (.ireturn, 1) := by decide +kernel
abbrev wX3_isSetting : List Cond := .code yX3_isSetting cX3_isSetting 2 (some .boolean) :: lw_gd
theorem hdX3_isSetting : (yX3_isSetting.cls ≠ "java/lang/invoke/MethodHandle" ∧ yX3_isSetting.cls ≠ "java/lang/invoke/VarHandle" ∧ (parseMethodDescriptor yX3_isSetting.desc).map (fun d => d.parameters.length) = some 2) := by decide +kernel
def fX3_isSetting  (a0 : Int32) (a1 : Int32) (M : xm_M) : Option (Int32 × xm_M) :=
  if a0 < 0 then if ((0 : Int32)) = 0 ∨ ((0 : Int32)) = 1 then some ((0 : Int32), M) else none else if ((9 : Int32)) ≤ a0 then if ((0 : Int32)) = 0 ∨ ((0 : Int32)) = 1 then some ((0 : Int32), M) else none else if ((9 : Int32)) ≤ a0 then if ((0 : Int32)) = 0 ∨ ((0 : Int32)) = 1 then some ((0 : Int32), M) else none else if a0 < 0 ∨ 9 ≤ a0.toNatClampNeg then none else if a0 < 0 ∨ 9 ≤ a0.toNatClampNeg then none else xm_bi (fX3_isWithin a1 (xm_low a0.toNatClampNeg) (xm_high a0.toNatClampNeg) M) (fun x6 M5 => if x6 = 0 then if ((0 : Int32)) = 0 ∨ ((0 : Int32)) = 1 then some ((0 : Int32), M5) else none else if ((1 : Int32)) = 0 ∨ ((1 : Int32)) = 1 then some ((1 : Int32), M5) else none)
set_option maxRecDepth 20000 in
theorem kX3_isSetting {l : Launch}   (a0 : Int32) (a1 : Int32) (M : xm_M) : xm_C l yX3_isSetting wX3_isSetting ({ frames := 1, cells := 0, slots := 0, locals := 22 }) cL (fun g => [.int a0, .int a1]) M xm_Fi (fX3_isSetting  a0 a1 M) := by
  refine xm_C.of (by decide) rfl (fun g => Nat.le_of_ble_eq_true rfl) ?_
  intro p e s m args below meth c D g A hX
  refine xm_lv (lv' := [(0, .int a0), (1, .int a1)]) rfl ?_
  unfold fX3_isSetting
  refine xm_iload_n hX 0 dX3_isSetting_0 rfl rfl ?_
  refine xm_if_lt hX (tgt := 41) dX3_isSetting_1 rfl ?_ ?_
  · refine xm_iconst hX (v := 0) rfl dX3_isSetting_41 ?_
    exact xm_zret hX dX3_isSetting_42
  · refine xm_iload_n hX 0 dX3_isSetting_4 rfl rfl ?_
    obtain ⟨t1l, t1h, t1Zl, t1Tl, t1Zh, t1Th⟩ := hX.2.2.2.2.2.2.2.2.2
    refine xm_gets hX t1Zl (List.mem_cons_of_mem _ gm_148) dX3_isSetting_5 ?_
    refine xm_tlen hX (v := 9) t1Tl rfl dX3_isSetting_8 ?_
    refine xm_icmp_ge hX (tgt := 41) dX3_isSetting_9 rfl ?_ ?_
    · refine xm_iconst hX (v := 0) rfl dX3_isSetting_41 ?_
      exact xm_zret hX dX3_isSetting_42
    · refine xm_iload_n hX 0 dX3_isSetting_12 rfl rfl ?_
      obtain ⟨t2l, t2h, t2Zl, t2Tl, t2Zh, t2Th⟩ := hX.2.2.2.2.2.2.2.2.2
      refine xm_gets hX t2Zh (List.mem_cons_of_mem _ gm_149) dX3_isSetting_13 ?_
      refine xm_tlen hX (v := 9) t2Th rfl dX3_isSetting_16 ?_
      refine xm_icmp_ge hX (tgt := 41) dX3_isSetting_17 rfl ?_ ?_
      · refine xm_iconst hX (v := 0) rfl dX3_isSetting_41 ?_
        exact xm_zret hX dX3_isSetting_42
      · refine xm_iload_n hX 1 dX3_isSetting_20 rfl rfl ?_
        obtain ⟨t3l, t3h, t3Zl, t3Tl, t3Zh, t3Th⟩ := hX.2.2.2.2.2.2.2.2.2
        refine xm_gets hX t3Zl (List.mem_cons_of_mem _ gm_148) dX3_isSetting_21 ?_
        refine xm_iload_n hX 0 dX3_isSetting_24 rfl rfl ?_
        refine xm_ti hX (f := xm_low) t3Tl dX3_isSetting_25 ?_
        obtain ⟨t4l, t4h, t4Zl, t4Tl, t4Zh, t4Th⟩ := hX.2.2.2.2.2.2.2.2.2
        refine xm_gets hX t4Zh (List.mem_cons_of_mem _ gm_149) dX3_isSetting_26 ?_
        refine xm_iload_n hX 0 dX3_isSetting_29 rfl rfl ?_
        refine xm_ti hX (f := xm_high) t4Th dX3_isSetting_30 ?_
        refine xm_calli hX (xm_runS hX (As := (fun g => [.int a1, .int (xm_low a0.toNatClampNeg), .int (xm_high a0.toNatClampNeg)])) (kX3_isWithin a1 (xm_low a0.toNatClampNeg) (xm_high a0.toNatClampNeg) M) (xm_gS gm_150 gm_151 gm_1 gm_152) rfl ⟨rfl, rfl⟩ hdX3_isWithin ⟨Nat.le_of_ble_eq_true rfl, Nat.le_of_ble_eq_true rfl⟩ rfl (Nat.le_of_ble_eq_true rfl) rfl dX3_isSetting_31) (fun x6 M5 => ?_)
        refine xm_if_eq hX (tgt := 41) dX3_isSetting_34 rfl ?_ ?_
        · refine xm_iconst hX (v := 0) rfl dX3_isSetting_41 ?_
          exact xm_zret hX dX3_isSetting_42
        · refine xm_iconst hX (v := 1) rfl dX3_isSetting_37 ?_
          refine xm_goto hX (tgt := 42) dX3_isSetting_38 rfl ?_
          exact xm_zret hX dX3_isSetting_42
-- ===== OdometryDesk.bestBase()I ['0']
theorem dX3_bestBase_0 : decode cX3_bestBase 0 = .ok (.aload_n 0, 1) := by decide +kernel
theorem dX3_bestBase_1 : decode cX3_bestBase 1 = .ok (.getfield 10, 3) := by decide +kernel
theorem dX3_bestBase_4 : decode cX3_bestBase 4 = .ok (.invokevirtual 169, 3) := by decide +kernel
theorem dX3_bestBase_7 : decode cX3_bestBase 7 = .ok (.ifCond .ne 6, 3) := by decide +kernel
theorem dX3_bestBase_10 : decode cX3_bestBase 10 = .ok (.bipush (-6), 2) := by decide +kernel
theorem dX3_bestBase_12 : decode cX3_bestBase 12 = .ok (.ireturn, 1) := by decide +kernel
theorem dX3_bestBase_13 : decode cX3_bestBase 13 = .ok (.aload_n 0, 1) := by decide +kernel
theorem dX3_bestBase_14 : decode cX3_bestBase 14 = .ok (.getfield 10, 3) := by decide +kernel
theorem dX3_bestBase_17 : decode cX3_bestBase 17 = .ok (.getfield 52, 3) := by decide +kernel
theorem dX3_bestBase_20 : decode cX3_bestBase 20 = .ok (.iconst 2, 1) := by decide +kernel
theorem dX3_bestBase_21 : decode cX3_bestBase 21 = .ok (.invokestatic 55, 3) := by decide +kernel
theorem dX3_bestBase_24 : decode cX3_bestBase 24 = .ok (.istore_n 1, 1) := by decide +kernel
theorem dX3_bestBase_25 : decode cX3_bestBase 25 = .ok (.iload_n 1, 1) := by decide +kernel
theorem dX3_bestBase_26 : decode cX3_bestBase 26 = .ok (.istore_n 2, 1) := by decide +kernel
theorem dX3_bestBase_27 : decode cX3_bestBase 27 = .ok (.aload_n 0, 1) := by decide +kernel
theorem dX3_bestBase_28 : decode cX3_bestBase 28 = .ok (.iconst 2, 1) := by decide +kernel
theorem dX3_bestBase_29 : decode cX3_bestBase 29 = .ok (.iload_n 1, 1) := by decide +kernel
theorem dX3_bestBase_30 : decode cX3_bestBase 30 = .ok (.invokevirtual 156, 3) := by decide +kernel
theorem dX3_bestBase_33 : decode cX3_bestBase 33 = .ok (.lstore_n 3, 1) := by decide +kernel
theorem dX3_bestBase_34 : decode cX3_bestBase 34 = .ok (.iconst 1, 1) := by decide +kernel
theorem dX3_bestBase_35 : decode cX3_bestBase 35 = .ok (.istore 5, 2) := by decide +kernel
theorem dX3_bestBase_37 : decode cX3_bestBase 37 = .ok (.iload 5, 2) := by decide +kernel
theorem dX3_bestBase_39 : decode cX3_bestBase 39 = .ok (.bipush 20, 2) := by decide +kernel
theorem dX3_bestBase_41 : decode cX3_bestBase 41 = .ok (.if_icmp .gt 67, 3) := by decide +kernel
theorem dX3_bestBase_44 : decode cX3_bestBase 44 = .ok (.iload_n 1, 1) := by decide +kernel
theorem dX3_bestBase_45 : decode cX3_bestBase 45 = .ok (.iload 5, 2) := by decide +kernel
theorem dX3_bestBase_47 : decode cX3_bestBase 47 = .ok (.isub, 1) := by decide +kernel
theorem dX3_bestBase_48 : decode cX3_bestBase 48 = .ok (.istore 6, 2) := by decide +kernel
theorem dX3_bestBase_50 : decode cX3_bestBase 50 = .ok (.iload 6, 2) := by decide +kernel
theorem dX3_bestBase_52 : decode cX3_bestBase 52 = .ok (.iload_n 1, 1) := by decide +kernel
theorem dX3_bestBase_53 : decode cX3_bestBase 53 = .ok (.iload 5, 2) := by decide +kernel
theorem dX3_bestBase_55 : decode cX3_bestBase 55 = .ok (.iadd, 1) := by decide +kernel
theorem dX3_bestBase_56 : decode cX3_bestBase 56 = .ok (.if_icmp .gt 46, 3) := by decide +kernel
theorem dX3_bestBase_59 : decode cX3_bestBase 59 = .ok (.iconst 2, 1) := by decide +kernel
theorem dX3_bestBase_60 : decode cX3_bestBase 60 = .ok (.iload 6, 2) := by decide +kernel
theorem dX3_bestBase_62 : decode cX3_bestBase 62 = .ok (.invokestatic 48, 3) := by decide +kernel
theorem dX3_bestBase_65 : decode cX3_bestBase 65 = .ok (.ifCond .eq 25, 3) := by decide +kernel
theorem dX3_bestBase_68 : decode cX3_bestBase 68 = .ok (.aload_n 0, 1) := by decide +kernel
theorem dX3_bestBase_69 : decode cX3_bestBase 69 = .ok (.iconst 2, 1) := by decide +kernel
theorem dX3_bestBase_70 : decode cX3_bestBase 70 = .ok (.iload 6, 2) := by decide +kernel
theorem dX3_bestBase_72 : decode cX3_bestBase 72 = .ok (.invokevirtual 156, 3) := by decide +kernel
theorem dX3_bestBase_75 : decode cX3_bestBase 75 = .ok (.lstore 7, 2) := by decide +kernel
theorem dX3_bestBase_77 : decode cX3_bestBase 77 = .ok (.lload 7, 2) := by decide +kernel
theorem dX3_bestBase_79 : decode cX3_bestBase 79 = .ok (.lload_n 3, 1) := by decide +kernel
theorem dX3_bestBase_80 : decode cX3_bestBase 80 = .ok (.lcmp, 1) := by decide +kernel
theorem dX3_bestBase_81 : decode cX3_bestBase 81 = .ok (.ifCond .ge 9, 3) := by decide +kernel
theorem dX3_bestBase_84 : decode cX3_bestBase 84 = .ok (.lload 7, 2) := by decide +kernel
theorem dX3_bestBase_86 : decode cX3_bestBase 86 = .ok (.lstore_n 3, 1) := by decide +kernel
theorem dX3_bestBase_87 : decode cX3_bestBase 87 = .ok (.iload 6, 2) := by decide +kernel
theorem dX3_bestBase_89 : decode cX3_bestBase 89 = .ok (.istore_n 2, 1) := by decide +kernel
theorem dX3_bestBase_90 : decode cX3_bestBase 90 = .ok (.iload 6, 2) := by decide +kernel
theorem dX3_bestBase_92 : decode cX3_bestBase 92 = .ok (.iconst 2, 1) := by decide +kernel
theorem dX3_bestBase_93 : decode cX3_bestBase 93 = .ok (.iload 5, 2) := by decide +kernel
theorem dX3_bestBase_95 : decode cX3_bestBase 95 = .ok (.imul, 1) := by decide +kernel
theorem dX3_bestBase_96 : decode cX3_bestBase 96 = .ok (.iadd, 1) := by decide +kernel
theorem dX3_bestBase_97 : decode cX3_bestBase 97 = .ok (.istore 6, 2) := by decide +kernel
theorem dX3_bestBase_99 : decode cX3_bestBase 99 = .ok (.goto (-49), 3) := by decide +kernel
theorem dX3_bestBase_102 : decode cX3_bestBase 102 = .ok (.iinc 5 1, 3) := by decide +kernel
theorem dX3_bestBase_105 : decode cX3_bestBase 105 = .ok (.goto (-68), 3) := by decide +kernel
theorem dX3_bestBase_108 : decode cX3_bestBase 108 = .ok (.iload_n 2, 1) := by decide +kernel
theorem dX3_bestBase_109 : decode cX3_bestBase 109 = .ok (.ireturn, 1) := by decide +kernel
abbrev wX3_bestBase : List Cond := .code yX3_bestBase cX3_bestBase 9 (some .int) :: lw_gd
theorem hdX3_bestBase : (yX3_bestBase.cls ≠ "java/lang/invoke/MethodHandle" ∧ yX3_bestBase.cls ≠ "java/lang/invoke/VarHandle" ∧ (parseMethodDescriptor yX3_bestBase.desc).map (fun d => d.parameters.length) = some 0) := by decide +kernel
def fX3_bestBase_90  (k37 : Int32 → Int32 → Int64 → Int32 → xm_M → Option (Int32 × xm_M)) (k50 : Int32 → Int32 → Int64 → Int32 → Int32 → xm_M → Option (Int32 × xm_M)) (b1 : Int32) (b2 : Int32) (b3 : Int64) (b5 : Int32) (b6 : Int32) (M : xm_M) : Option (Int32 × xm_M) :=
  xm_lt (b6 + (((2 : Int32)) * b5)) (fun x12 => k50 b1 b2 b3 b5 x12 M)
set_option maxRecDepth 20000 in
theorem tfX3_bestBase_90 {p : Program} {l : Launch} {e : Env} {s : State} {m : MethodId} {args : Array Value} {below : List Frame} {meth : Method} {c : Code} {D : va_G} {g : xm_G} {A : Nat → Prop} (hX : xm_X p m meth c cX3_bestBase 9 s args wX3_bestBase RX3 (some .int) D cL g A)   (k37 : Int32 → Int32 → Int64 → Int32 → xm_M → Option (Int32 × xm_M)) (k50 : Int32 → Int32 → Int64 → Int32 → Int32 → xm_M → Option (Int32 × xm_M)) (h37 : ∀ (b1 : Int32), ∀ (b2 : Int32), ∀ (b3 : Int64), ∀ (b5 : Int32), ∀ (M : xm_M), xm_J p l e ({ frames := 6, cells := 0, slots := 0, locals := 151 }) s m args below meth c 9 D cL g A (xm_Fi g) 37 [(0, .ref (g.1 0)), (1, .int b1), (2, .int b2), (3, .long b3), (5, .int b5)] [] M (k37 b1 b2 b3 b5 M)) (h50 : ∀ (b1 : Int32), ∀ (b2 : Int32), ∀ (b3 : Int64), ∀ (b5 : Int32), ∀ (b6 : Int32), ∀ (M : xm_M), xm_J p l e ({ frames := 6, cells := 0, slots := 0, locals := 151 }) s m args below meth c 9 D cL g A (xm_Fi g) 50 [(0, .ref (g.1 0)), (1, .int b1), (2, .int b2), (3, .long b3), (5, .int b5), (6, .int b6)] [] M (k50 b1 b2 b3 b5 b6 M)) : ∀ (b1 : Int32), ∀ (b2 : Int32), ∀ (b3 : Int64), ∀ (b5 : Int32), ∀ (b6 : Int32), ∀ (M : xm_M), xm_J p l e ({ frames := 6, cells := 0, slots := 0, locals := 151 }) s m args below meth c 9 D cL g A (xm_Fi g) 90 [(0, .ref (g.1 0)), (1, .int b1), (2, .int b2), (3, .long b3), (5, .int b5), (6, .int b6)] [] M (fX3_bestBase_90 k37 k50 b1 b2 b3 b5 b6 M) := by
  intro b1 b2 b3 b5 b6 M
  unfold fX3_bestBase_90
  refine xm_iload hX 5 dX3_bestBase_90 rfl ?_
  refine xm_iconst hX (v := 2) rfl dX3_bestBase_92 ?_
  refine xm_iload hX 4 dX3_bestBase_93 rfl ?_
  refine xm_imul hX dX3_bestBase_95 ?_
  refine xm_iadd hX dX3_bestBase_96 ?_
  refine xm_nmi (fun x12 => ?_)
  refine xm_istore hX (lv' := [(6, .int x12), (0, .ref (g.1 0)), (1, .int b1), (2, .int b2), (3, .long b3), (5, .int b5)]) dX3_bestBase_97 (by decide) rfl ?_
  refine xm_goto hX (tgt := 50) dX3_bestBase_99 rfl ?_
  refine xm_weak [1, 2, 3, 4, 5, 0] (lv' := [(0, .ref (g.1 0)), (1, .int b1), (2, .int b2), (3, .long b3), (5, .int b5), (6, .int x12)]) rfl ?_
  exact h50 b1 b2 b3 b5 x12 M
def fX3_bestBase_50  (k37 : Int32 → Int32 → Int64 → Int32 → xm_M → Option (Int32 × xm_M)) (k50 : Int32 → Int32 → Int64 → Int32 → Int32 → xm_M → Option (Int32 × xm_M)) (b1 : Int32) (b2 : Int32) (b3 : Int64) (b5 : Int32) (b6 : Int32) (M : xm_M) : Option (Int32 × xm_M) :=
  if (b1 + b5) < b6 then xm_lt (b5 + Int32.ofInt 1) (fun x9 => k37 b1 b2 b3 x9 M) else xm_bi (fX3_isSetting ((2 : Int32)) b6 M) (fun x11 M10 => if x11 = 0 then fX3_bestBase_90 k37 k50 b1 b2 b3 b5 b6 M10 else xm_bl (fX3_errorsWith ((2 : Int32)) b6 M10) (fun x14 M13 => if 0 ≤ (lg_cmp x14 b3) then fX3_bestBase_90 k37 k50 b1 b2 b3 b5 b6 M13 else fX3_bestBase_90 k37 k50 b1 b6 x14 b5 b6 M13))
set_option maxRecDepth 20000 in
theorem tfX3_bestBase_50 {p : Program} {l : Launch} {e : Env} {s : State} {m : MethodId} {args : Array Value} {below : List Frame} {meth : Method} {c : Code} {D : va_G} {g : xm_G} {A : Nat → Prop} (hX : xm_X p m meth c cX3_bestBase 9 s args wX3_bestBase RX3 (some .int) D cL g A)   (k37 : Int32 → Int32 → Int64 → Int32 → xm_M → Option (Int32 × xm_M)) (k50 : Int32 → Int32 → Int64 → Int32 → Int32 → xm_M → Option (Int32 × xm_M)) (h37 : ∀ (b1 : Int32), ∀ (b2 : Int32), ∀ (b3 : Int64), ∀ (b5 : Int32), ∀ (M : xm_M), xm_J p l e ({ frames := 6, cells := 0, slots := 0, locals := 151 }) s m args below meth c 9 D cL g A (xm_Fi g) 37 [(0, .ref (g.1 0)), (1, .int b1), (2, .int b2), (3, .long b3), (5, .int b5)] [] M (k37 b1 b2 b3 b5 M)) (h50 : ∀ (b1 : Int32), ∀ (b2 : Int32), ∀ (b3 : Int64), ∀ (b5 : Int32), ∀ (b6 : Int32), ∀ (M : xm_M), xm_J p l e ({ frames := 6, cells := 0, slots := 0, locals := 151 }) s m args below meth c 9 D cL g A (xm_Fi g) 50 [(0, .ref (g.1 0)), (1, .int b1), (2, .int b2), (3, .long b3), (5, .int b5), (6, .int b6)] [] M (k50 b1 b2 b3 b5 b6 M)) : ∀ (b1 : Int32), ∀ (b2 : Int32), ∀ (b3 : Int64), ∀ (b5 : Int32), ∀ (b6 : Int32), ∀ (M : xm_M), xm_J p l e ({ frames := 6, cells := 0, slots := 0, locals := 151 }) s m args below meth c 9 D cL g A (xm_Fi g) 50 [(0, .ref (g.1 0)), (1, .int b1), (2, .int b2), (3, .long b3), (5, .int b5), (6, .int b6)] [] M (fX3_bestBase_50 k37 k50 b1 b2 b3 b5 b6 M) := by
  intro b1 b2 b3 b5 b6 M
  unfold fX3_bestBase_50
  refine xm_iload hX 5 dX3_bestBase_50 rfl ?_
  refine xm_iload_n hX 1 dX3_bestBase_52 rfl rfl ?_
  refine xm_iload hX 4 dX3_bestBase_53 rfl ?_
  refine xm_iadd hX dX3_bestBase_55 ?_
  refine xm_icmp_gt hX (tgt := 102) dX3_bestBase_56 rfl ?_ ?_
  · refine xm_iinc hX (lv2 := fun x9 => [(5, .int x9), (0, .ref (g.1 0)), (1, .int b1), (2, .int b2), (3, .long b3), (6, .int b6)]) 4 dX3_bestBase_102 rfl (by decide) (fun _ => rfl) (fun x9 => ?_)
    refine xm_goto hX (tgt := 37) dX3_bestBase_105 rfl ?_
    refine xm_weak [1, 2, 3, 4, 0] (lv' := [(0, .ref (g.1 0)), (1, .int b1), (2, .int b2), (3, .long b3), (5, .int x9)]) rfl ?_
    exact h37 b1 b2 b3 x9 M
  · refine xm_iconst hX (v := 2) rfl dX3_bestBase_59 ?_
    refine xm_iload hX 5 dX3_bestBase_60 rfl ?_
    refine xm_calli hX (xm_runS hX (As := (fun g => [.int ((2 : Int32)), .int b6])) (kX3_isSetting ((2 : Int32)) b6 M) (xm_gS gm_145 gm_146 gm_1 gm_147) rfl ⟨rfl, rfl⟩ hdX3_isSetting ⟨Nat.le_of_ble_eq_true rfl, Nat.le_of_ble_eq_true rfl⟩ rfl (Nat.le_of_ble_eq_true rfl) rfl dX3_bestBase_62) (fun x11 M10 => ?_)
    refine xm_if_eq hX (tgt := 90) dX3_bestBase_65 rfl ?_ ?_
    · exact tfX3_bestBase_90 hX k37 k50 h37 h50 b1 b2 b3 b5 b6 M10
    · refine xm_aload_n hX 0 dX3_bestBase_68 rfl rfl ?_
      refine xm_iconst hX (v := 2) rfl dX3_bestBase_69 ?_
      refine xm_iload hX 5 dX3_bestBase_70 rfl ?_
      refine xm_calll hX (xm_runV hX (k := 0) (ci := 3) (As := (fun g => [.int ((2 : Int32)), .int b6])) (kX3_errorsWith ((2 : Int32)) b6 M10) cL_0 rfl (xm_gV gm_336 gm_337 gm_707 gm_1 gm_338) rfl ⟨rfl, rfl⟩ ⟨rfl, hdX3_errorsWith⟩ ⟨Nat.le_of_ble_eq_true rfl, Nat.le_of_ble_eq_true rfl⟩ rfl (Nat.le_of_ble_eq_true rfl) rfl dX3_bestBase_72) (fun x14 M13 => ?_)
      refine xm_lstore hX (lv' := [(7, .long x14), (0, .ref (g.1 0)), (1, .int b1), (2, .int b2), (3, .long b3), (5, .int b5), (6, .int b6)]) dX3_bestBase_75 (by decide) rfl ?_
      refine xm_lload hX 0 dX3_bestBase_77 rfl ?_
      refine xm_lload_n hX 4 dX3_bestBase_79 rfl rfl ?_
      refine xm_lcmp hX dX3_bestBase_80 ?_
      refine xm_if_ge hX (tgt := 90) dX3_bestBase_81 rfl ?_ ?_
      · refine xm_weak [1, 2, 3, 4, 5, 6] (lv' := [(0, .ref (g.1 0)), (1, .int b1), (2, .int b2), (3, .long b3), (5, .int b5), (6, .int b6)]) rfl ?_
        exact tfX3_bestBase_90 hX k37 k50 h37 h50 b1 b2 b3 b5 b6 M13
      · refine xm_lload hX 0 dX3_bestBase_84 rfl ?_
        refine xm_lstore_n hX (lv' := [(3, .long x14), (7, .long x14), (0, .ref (g.1 0)), (1, .int b1), (2, .int b2), (5, .int b5), (6, .int b6)]) dX3_bestBase_86 rfl (by decide) rfl ?_
        refine xm_iload hX 6 dX3_bestBase_87 rfl ?_
        refine xm_istore_n hX (lv' := [(2, .int b6), (3, .long x14), (7, .long x14), (0, .ref (g.1 0)), (1, .int b1), (5, .int b5), (6, .int b6)]) dX3_bestBase_89 rfl (by decide) rfl ?_
        refine xm_weak [3, 4, 0, 1, 5, 6] (lv' := [(0, .ref (g.1 0)), (1, .int b1), (2, .int b6), (3, .long x14), (5, .int b5), (6, .int b6)]) rfl ?_
        exact tfX3_bestBase_90 hX k37 k50 h37 h50 b1 b6 x14 b5 b6 M13
def fX3_bestBase_50_it  (k37 : Int32 → Int32 → Int64 → Int32 → xm_M → Option (Int32 × xm_M)) (nq : Nat) : Int32 → Int32 → Int64 → Int32 → Int32 → xm_M → Option (Int32 × xm_M) := xm_it (fun kq => fX3_bestBase_50 k37 kq) (fun _ _ _ _ _ _ => none) nq
theorem tfX3_bestBase_50_it {p : Program} {l : Launch} {e : Env} {s : State} {m : MethodId} {args : Array Value} {below : List Frame} {meth : Method} {c : Code} {D : va_G} {g : xm_G} {A : Nat → Prop} (hX : xm_X p m meth c cX3_bestBase 9 s args wX3_bestBase RX3 (some .int) D cL g A)   (k37 : Int32 → Int32 → Int64 → Int32 → xm_M → Option (Int32 × xm_M)) (h37 : ∀ (b1 : Int32), ∀ (b2 : Int32), ∀ (b3 : Int64), ∀ (b5 : Int32), ∀ (M : xm_M), xm_J p l e ({ frames := 6, cells := 0, slots := 0, locals := 151 }) s m args below meth c 9 D cL g A (xm_Fi g) 37 [(0, .ref (g.1 0)), (1, .int b1), (2, .int b2), (3, .long b3), (5, .int b5)] [] M (k37 b1 b2 b3 b5 M)) : ∀ (nq : Nat), ∀ (b1 : Int32), ∀ (b2 : Int32), ∀ (b3 : Int64), ∀ (b5 : Int32), ∀ (b6 : Int32), ∀ (M : xm_M), xm_J p l e ({ frames := 6, cells := 0, slots := 0, locals := 151 }) s m args below meth c 9 D cL g A (xm_Fi g) 50 [(0, .ref (g.1 0)), (1, .int b1), (2, .int b2), (3, .long b3), (5, .int b5), (6, .int b6)] [] M (fX3_bestBase_50_it k37 nq b1 b2 b3 b5 b6 M) := by
  intro nq
  induction nq with
  | zero => exact fun _ _ _ _ _ _ => xm_none
  | succ nq ih => exact tfX3_bestBase_50 hX k37 _ h37 ih
def fX3_bestBase_37  (k37 : Int32 → Int32 → Int64 → Int32 → xm_M → Option (Int32 × xm_M)) (b1 : Int32) (b2 : Int32) (b3 : Int64) (b5 : Int32) (M : xm_M) : Option (Int32 × xm_M) :=
  if ((20 : Int32)) < b5 then some (b2, M) else xm_lt (b1 - b5) (fun x8 => fX3_bestBase_50_it k37 xm_N b1 b2 b3 b5 x8 M)
set_option maxRecDepth 20000 in
theorem tfX3_bestBase_37 {p : Program} {l : Launch} {e : Env} {s : State} {m : MethodId} {args : Array Value} {below : List Frame} {meth : Method} {c : Code} {D : va_G} {g : xm_G} {A : Nat → Prop} (hX : xm_X p m meth c cX3_bestBase 9 s args wX3_bestBase RX3 (some .int) D cL g A)   (k37 : Int32 → Int32 → Int64 → Int32 → xm_M → Option (Int32 × xm_M)) (h37 : ∀ (b1 : Int32), ∀ (b2 : Int32), ∀ (b3 : Int64), ∀ (b5 : Int32), ∀ (M : xm_M), xm_J p l e ({ frames := 6, cells := 0, slots := 0, locals := 151 }) s m args below meth c 9 D cL g A (xm_Fi g) 37 [(0, .ref (g.1 0)), (1, .int b1), (2, .int b2), (3, .long b3), (5, .int b5)] [] M (k37 b1 b2 b3 b5 M)) : ∀ (b1 : Int32), ∀ (b2 : Int32), ∀ (b3 : Int64), ∀ (b5 : Int32), ∀ (M : xm_M), xm_J p l e ({ frames := 6, cells := 0, slots := 0, locals := 151 }) s m args below meth c 9 D cL g A (xm_Fi g) 37 [(0, .ref (g.1 0)), (1, .int b1), (2, .int b2), (3, .long b3), (5, .int b5)] [] M (fX3_bestBase_37 k37 b1 b2 b3 b5 M) := by
  intro b1 b2 b3 b5 M
  unfold fX3_bestBase_37
  refine xm_iload hX 4 dX3_bestBase_37 rfl ?_
  refine xm_bipush hX (v := 20) rfl dX3_bestBase_39 ?_
  refine xm_icmp_gt hX (tgt := 108) dX3_bestBase_41 rfl ?_ ?_
  · refine xm_iload_n hX 2 dX3_bestBase_108 rfl rfl ?_
    exact xm_iret hX dX3_bestBase_109
  · refine xm_iload_n hX 1 dX3_bestBase_44 rfl rfl ?_
    refine xm_iload hX 4 dX3_bestBase_45 rfl ?_
    refine xm_isub hX dX3_bestBase_47 ?_
    refine xm_nmi (fun x8 => ?_)
    refine xm_istore hX (lv' := [(6, .int x8), (0, .ref (g.1 0)), (1, .int b1), (2, .int b2), (3, .long b3), (5, .int b5)]) dX3_bestBase_48 (by decide) rfl ?_
    refine xm_weak [1, 2, 3, 4, 5, 0] (lv' := [(0, .ref (g.1 0)), (1, .int b1), (2, .int b2), (3, .long b3), (5, .int b5), (6, .int x8)]) rfl ?_
    exact tfX3_bestBase_50_it hX k37 h37 xm_N b1 b2 b3 b5 x8 M
def fX3_bestBase_37_it   (nq : Nat) : Int32 → Int32 → Int64 → Int32 → xm_M → Option (Int32 × xm_M) := xm_it (fun kq => fX3_bestBase_37 kq) (fun _ _ _ _ _ => none) nq
theorem tfX3_bestBase_37_it {p : Program} {l : Launch} {e : Env} {s : State} {m : MethodId} {args : Array Value} {below : List Frame} {meth : Method} {c : Code} {D : va_G} {g : xm_G} {A : Nat → Prop} (hX : xm_X p m meth c cX3_bestBase 9 s args wX3_bestBase RX3 (some .int) D cL g A)     : ∀ (nq : Nat), ∀ (b1 : Int32), ∀ (b2 : Int32), ∀ (b3 : Int64), ∀ (b5 : Int32), ∀ (M : xm_M), xm_J p l e ({ frames := 6, cells := 0, slots := 0, locals := 151 }) s m args below meth c 9 D cL g A (xm_Fi g) 37 [(0, .ref (g.1 0)), (1, .int b1), (2, .int b2), (3, .long b3), (5, .int b5)] [] M (fX3_bestBase_37_it  nq b1 b2 b3 b5 M) := by
  intro nq
  induction nq with
  | zero => exact fun _ _ _ _ _ => xm_none
  | succ nq ih => exact tfX3_bestBase_37 hX _ ih
def fX3_bestBase   (M : xm_M) : Option (Int32 × xm_M) :=
  xm_bi (fX1_hasSights M) (fun x2 M1 => if x2 = 0 then some ((-6 : Int32), M1) else xm_bi (fX3_item 2 9 ((2 : Int32)) M1) (fun x4 M3 => xm_bl (fX3_errorsWith ((2 : Int32)) x4 M3) (fun x6 M5 => xm_lt ((1 : Int32)) (fun x7 => fX3_bestBase_37_it xm_N x4 x4 x6 x7 M5))))
set_option maxRecDepth 20000 in
theorem kX3_bestBase {l : Launch}    (M : xm_M) : xm_C l yX3_bestBase wX3_bestBase ({ frames := 6, cells := 0, slots := 0, locals := 151 }) cL (fun g => [.ref (g.1 0)]) M xm_Fi (fX3_bestBase   M) := by
  refine xm_C.of (by decide) rfl (fun g => Nat.le_of_ble_eq_true rfl) ?_
  intro p e s m args below meth c D g A hX
  refine xm_lv (lv' := [(0, .ref (g.1 0))]) rfl ?_
  unfold fX3_bestBase
  refine xm_aload_n hX 0 dX3_bestBase_0 rfl rfl ?_
  refine xm_get hX (k := 0) (ci := 3) (j := 0) (C := RX3) (T := TX3) (N := 6) (v := .ref (g.1 1)) cL_0 rfl rfl rfl (by decide) (fun z hz => List.mem_cons_of_mem _ (iw_X3 z hz)) (List.mem_cons_of_mem _ gm_129) dX3_bestBase_1 ?_
  refine xm_calli hX (xm_runV hX (k := 1) (ci := 1) (As := (fun g => [])) (kX1_hasSights M) cL_1 rfl (xm_gV gm_349 gm_350 gm_351 gm_2 gm_352) rfl ⟨rfl, rfl⟩ ⟨rfl, hdX1_hasSights⟩ ⟨Nat.le_of_ble_eq_true rfl, Nat.le_of_ble_eq_true rfl⟩ rfl (Nat.le_of_ble_eq_true rfl) rfl dX3_bestBase_4) (fun x2 M1 => ?_)
  refine xm_if_ne hX (tgt := 13) dX3_bestBase_7 rfl ?_ ?_
  · refine xm_aload_n hX 0 dX3_bestBase_13 rfl rfl ?_
    refine xm_get hX (k := 0) (ci := 3) (j := 0) (C := RX3) (T := TX3) (N := 6) (v := .ref (g.1 1)) cL_0 rfl rfl rfl (by decide) (fun z hz => List.mem_cons_of_mem _ (iw_X3 z hz)) (List.mem_cons_of_mem _ gm_129) dX3_bestBase_14 ?_
    refine xm_get hX (k := 1) (ci := 1) (j := 0) (C := RX1) (T := TX1) (N := 11) (v := .ref (g.1 2)) cL_1 rfl rfl rfl (by decide) (fun z hz => List.mem_cons_of_mem _ (iw_X1 z hz)) (List.mem_cons_of_mem _ gm_30) dX3_bestBase_17 ?_
    refine xm_iconst hX (v := 2) rfl dX3_bestBase_20 ?_
    refine xm_calli hX (xm_runS hX (As := (fun g => [.ref (g.1 2), .int ((2 : Int32))])) (kX3_item 2 9 cL_2 ((2 : Int32)) M1) (xm_gS gm_153 gm_154 gm_1 gm_155) rfl ⟨rfl, rfl⟩ hdX3_item ⟨Nat.le_of_ble_eq_true rfl, Nat.le_of_ble_eq_true rfl⟩ rfl (Nat.le_of_ble_eq_true rfl) rfl dX3_bestBase_21) (fun x4 M3 => ?_)
    refine xm_istore_n hX (lv' := [(1, .int x4), (0, .ref (g.1 0))]) dX3_bestBase_24 rfl (by decide) rfl ?_
    refine xm_iload_n hX 0 dX3_bestBase_25 rfl rfl ?_
    refine xm_istore_n hX (lv' := [(2, .int x4), (1, .int x4), (0, .ref (g.1 0))]) dX3_bestBase_26 rfl (by decide) rfl ?_
    refine xm_aload_n hX 2 dX3_bestBase_27 rfl rfl ?_
    refine xm_iconst hX (v := 2) rfl dX3_bestBase_28 ?_
    refine xm_iload_n hX 1 dX3_bestBase_29 rfl rfl ?_
    refine xm_calll hX (xm_runV hX (k := 0) (ci := 3) (As := (fun g => [.int ((2 : Int32)), .int x4])) (kX3_errorsWith ((2 : Int32)) x4 M3) cL_0 rfl (xm_gV gm_336 gm_337 gm_707 gm_1 gm_338) rfl ⟨rfl, rfl⟩ ⟨rfl, hdX3_errorsWith⟩ ⟨Nat.le_of_ble_eq_true rfl, Nat.le_of_ble_eq_true rfl⟩ rfl (Nat.le_of_ble_eq_true rfl) rfl dX3_bestBase_30) (fun x6 M5 => ?_)
    refine xm_lstore_n hX (lv' := [(3, .long x6), (2, .int x4), (1, .int x4), (0, .ref (g.1 0))]) dX3_bestBase_33 rfl (by decide) rfl ?_
    refine xm_iconst hX (v := 1) rfl dX3_bestBase_34 ?_
    refine xm_nmi (fun x7 => ?_)
    refine xm_istore hX (lv' := [(5, .int x7), (3, .long x6), (2, .int x4), (1, .int x4), (0, .ref (g.1 0))]) dX3_bestBase_35 (by decide) rfl ?_
    refine xm_weak [4, 3, 2, 1, 0] (lv' := [(0, .ref (g.1 0)), (1, .int x4), (2, .int x4), (3, .long x6), (5, .int x7)]) rfl ?_
    exact tfX3_bestBase_37_it hX xm_N x4 x4 x6 x7 M5
  · refine xm_bipush hX (v := -6) rfl dX3_bestBase_10 ?_
    exact xm_iret hX dX3_bestBase_12
-- ===== OdometryDesk.bestTrust()I ['0']
theorem dX3_bestTrust_0 : decode cX3_bestTrust 0 = .ok (.aload_n 0, 1) := by decide +kernel
theorem dX3_bestTrust_1 : decode cX3_bestTrust 1 = .ok (.getfield 10, 3) := by decide +kernel
theorem dX3_bestTrust_4 : decode cX3_bestTrust 4 = .ok (.invokevirtual 169, 3) := by decide +kernel
theorem dX3_bestTrust_7 : decode cX3_bestTrust 7 = .ok (.ifCond .ne 6, 3) := by decide +kernel
theorem dX3_bestTrust_10 : decode cX3_bestTrust 10 = .ok (.bipush (-6), 2) := by decide +kernel
theorem dX3_bestTrust_12 : decode cX3_bestTrust 12 = .ok (.ireturn, 1) := by decide +kernel
theorem dX3_bestTrust_13 : decode cX3_bestTrust 13 = .ok (.iconst 0, 1) := by decide +kernel
theorem dX3_bestTrust_14 : decode cX3_bestTrust 14 = .ok (.istore_n 1, 1) := by decide +kernel
theorem dX3_bestTrust_15 : decode cX3_bestTrust 15 = .ok (.aload_n 0, 1) := by decide +kernel
theorem dX3_bestTrust_16 : decode cX3_bestTrust 16 = .ok (.iconst 4, 1) := by decide +kernel
theorem dX3_bestTrust_17 : decode cX3_bestTrust 17 = .ok (.iconst 0, 1) := by decide +kernel
theorem dX3_bestTrust_18 : decode cX3_bestTrust 18 = .ok (.invokevirtual 156, 3) := by decide +kernel
theorem dX3_bestTrust_21 : decode cX3_bestTrust 21 = .ok (.lstore_n 2, 1) := by decide +kernel
theorem dX3_bestTrust_22 : decode cX3_bestTrust 22 = .ok (.bipush 10, 2) := by decide +kernel
theorem dX3_bestTrust_24 : decode cX3_bestTrust 24 = .ok (.istore 4, 2) := by decide +kernel
theorem dX3_bestTrust_26 : decode cX3_bestTrust 26 = .ok (.iload 4, 2) := by decide +kernel
theorem dX3_bestTrust_28 : decode cX3_bestTrust 28 = .ok (.bipush 100, 2) := by decide +kernel
theorem dX3_bestTrust_30 : decode cX3_bestTrust 30 = .ok (.if_icmp .gt 31, 3) := by decide +kernel
theorem dX3_bestTrust_33 : decode cX3_bestTrust 33 = .ok (.aload_n 0, 1) := by decide +kernel
theorem dX3_bestTrust_34 : decode cX3_bestTrust 34 = .ok (.iconst 4, 1) := by decide +kernel
theorem dX3_bestTrust_35 : decode cX3_bestTrust 35 = .ok (.iload 4, 2) := by decide +kernel
theorem dX3_bestTrust_37 : decode cX3_bestTrust 37 = .ok (.invokevirtual 156, 3) := by decide +kernel
theorem dX3_bestTrust_40 : decode cX3_bestTrust 40 = .ok (.lstore 5, 2) := by decide +kernel
theorem dX3_bestTrust_42 : decode cX3_bestTrust 42 = .ok (.lload 5, 2) := by decide +kernel
theorem dX3_bestTrust_44 : decode cX3_bestTrust 44 = .ok (.lload_n 2, 1) := by decide +kernel
theorem dX3_bestTrust_45 : decode cX3_bestTrust 45 = .ok (.lcmp, 1) := by decide +kernel
theorem dX3_bestTrust_46 : decode cX3_bestTrust 46 = .ok (.ifCond .ge 9, 3) := by decide +kernel
theorem dX3_bestTrust_49 : decode cX3_bestTrust 49 = .ok (.lload 5, 2) := by decide +kernel
theorem dX3_bestTrust_51 : decode cX3_bestTrust 51 = .ok (.lstore_n 2, 1) := by decide +kernel
theorem dX3_bestTrust_52 : decode cX3_bestTrust 52 = .ok (.iload 4, 2) := by decide +kernel
theorem dX3_bestTrust_54 : decode cX3_bestTrust 54 = .ok (.istore_n 1, 1) := by decide +kernel
theorem dX3_bestTrust_55 : decode cX3_bestTrust 55 = .ok (.iinc 4 10, 3) := by decide +kernel
theorem dX3_bestTrust_58 : decode cX3_bestTrust 58 = .ok (.goto (-32), 3) := by decide +kernel
theorem dX3_bestTrust_61 : decode cX3_bestTrust 61 = .ok (.iload_n 1, 1) := by decide +kernel
theorem dX3_bestTrust_62 : decode cX3_bestTrust 62 = .ok (.ireturn, 1) := by decide +kernel
abbrev wX3_bestTrust : List Cond := .code yX3_bestTrust cX3_bestTrust 7 (some .int) :: lw_gd
theorem hdX3_bestTrust : (yX3_bestTrust.cls ≠ "java/lang/invoke/MethodHandle" ∧ yX3_bestTrust.cls ≠ "java/lang/invoke/VarHandle" ∧ (parseMethodDescriptor yX3_bestTrust.desc).map (fun d => d.parameters.length) = some 0) := by decide +kernel
def fX3_bestTrust_55  (k26 : Int32 → Int64 → Int32 → xm_M → Option (Int32 × xm_M)) (b1 : Int32) (b2 : Int64) (b4 : Int32) (M : xm_M) : Option (Int32 × xm_M) :=
  xm_lt (b4 + Int32.ofInt 10) (fun x9 => k26 b1 b2 x9 M)
set_option maxRecDepth 20000 in
theorem tfX3_bestTrust_55 {p : Program} {l : Launch} {e : Env} {s : State} {m : MethodId} {args : Array Value} {below : List Frame} {meth : Method} {c : Code} {D : va_G} {g : xm_G} {A : Nat → Prop} (hX : xm_X p m meth c cX3_bestTrust 7 s args wX3_bestTrust RX3 (some .int) D cL g A)   (k26 : Int32 → Int64 → Int32 → xm_M → Option (Int32 × xm_M)) (h26 : ∀ (b1 : Int32), ∀ (b2 : Int64), ∀ (b4 : Int32), ∀ (M : xm_M), xm_J p l e ({ frames := 6, cells := 0, slots := 0, locals := 151 }) s m args below meth c 7 D cL g A (xm_Fi g) 26 [(0, .ref (g.1 0)), (1, .int b1), (2, .long b2), (4, .int b4)] [] M (k26 b1 b2 b4 M)) : ∀ (b1 : Int32), ∀ (b2 : Int64), ∀ (b4 : Int32), ∀ (M : xm_M), xm_J p l e ({ frames := 6, cells := 0, slots := 0, locals := 151 }) s m args below meth c 7 D cL g A (xm_Fi g) 55 [(0, .ref (g.1 0)), (1, .int b1), (2, .long b2), (4, .int b4)] [] M (fX3_bestTrust_55 k26 b1 b2 b4 M) := by
  intro b1 b2 b4 M
  unfold fX3_bestTrust_55
  refine xm_iinc hX (lv2 := fun x9 => [(4, .int x9), (0, .ref (g.1 0)), (1, .int b1), (2, .long b2)]) 3 dX3_bestTrust_55 rfl (by decide) (fun _ => rfl) (fun x9 => ?_)
  refine xm_goto hX (tgt := 26) dX3_bestTrust_58 rfl ?_
  refine xm_weak [1, 2, 3, 0] (lv' := [(0, .ref (g.1 0)), (1, .int b1), (2, .long b2), (4, .int x9)]) rfl ?_
  exact h26 b1 b2 x9 M
def fX3_bestTrust_26  (k26 : Int32 → Int64 → Int32 → xm_M → Option (Int32 × xm_M)) (b1 : Int32) (b2 : Int64) (b4 : Int32) (M : xm_M) : Option (Int32 × xm_M) :=
  if ((100 : Int32)) < b4 then some (b1, M) else xm_bl (fX3_errorsWith ((4 : Int32)) b4 M) (fun x8 M7 => if 0 ≤ (lg_cmp x8 b2) then fX3_bestTrust_55 k26 b1 b2 b4 M7 else fX3_bestTrust_55 k26 b4 x8 b4 M7)
set_option maxRecDepth 20000 in
theorem tfX3_bestTrust_26 {p : Program} {l : Launch} {e : Env} {s : State} {m : MethodId} {args : Array Value} {below : List Frame} {meth : Method} {c : Code} {D : va_G} {g : xm_G} {A : Nat → Prop} (hX : xm_X p m meth c cX3_bestTrust 7 s args wX3_bestTrust RX3 (some .int) D cL g A)   (k26 : Int32 → Int64 → Int32 → xm_M → Option (Int32 × xm_M)) (h26 : ∀ (b1 : Int32), ∀ (b2 : Int64), ∀ (b4 : Int32), ∀ (M : xm_M), xm_J p l e ({ frames := 6, cells := 0, slots := 0, locals := 151 }) s m args below meth c 7 D cL g A (xm_Fi g) 26 [(0, .ref (g.1 0)), (1, .int b1), (2, .long b2), (4, .int b4)] [] M (k26 b1 b2 b4 M)) : ∀ (b1 : Int32), ∀ (b2 : Int64), ∀ (b4 : Int32), ∀ (M : xm_M), xm_J p l e ({ frames := 6, cells := 0, slots := 0, locals := 151 }) s m args below meth c 7 D cL g A (xm_Fi g) 26 [(0, .ref (g.1 0)), (1, .int b1), (2, .long b2), (4, .int b4)] [] M (fX3_bestTrust_26 k26 b1 b2 b4 M) := by
  intro b1 b2 b4 M
  unfold fX3_bestTrust_26
  refine xm_iload hX 3 dX3_bestTrust_26 rfl ?_
  refine xm_bipush hX (v := 100) rfl dX3_bestTrust_28 ?_
  refine xm_icmp_gt hX (tgt := 61) dX3_bestTrust_30 rfl ?_ ?_
  · refine xm_iload_n hX 1 dX3_bestTrust_61 rfl rfl ?_
    exact xm_iret hX dX3_bestTrust_62
  · refine xm_aload_n hX 0 dX3_bestTrust_33 rfl rfl ?_
    refine xm_iconst hX (v := 4) rfl dX3_bestTrust_34 ?_
    refine xm_iload hX 3 dX3_bestTrust_35 rfl ?_
    refine xm_calll hX (xm_runV hX (k := 0) (ci := 3) (As := (fun g => [.int ((4 : Int32)), .int b4])) (kX3_errorsWith ((4 : Int32)) b4 M) cL_0 rfl (xm_gV gm_336 gm_337 gm_707 gm_1 gm_338) rfl ⟨rfl, rfl⟩ ⟨rfl, hdX3_errorsWith⟩ ⟨Nat.le_of_ble_eq_true rfl, Nat.le_of_ble_eq_true rfl⟩ rfl (Nat.le_of_ble_eq_true rfl) rfl dX3_bestTrust_37) (fun x8 M7 => ?_)
    refine xm_lstore hX (lv' := [(5, .long x8), (0, .ref (g.1 0)), (1, .int b1), (2, .long b2), (4, .int b4)]) dX3_bestTrust_40 (by decide) rfl ?_
    refine xm_lload hX 0 dX3_bestTrust_42 rfl ?_
    refine xm_lload_n hX 3 dX3_bestTrust_44 rfl rfl ?_
    refine xm_lcmp hX dX3_bestTrust_45 ?_
    refine xm_if_ge hX (tgt := 55) dX3_bestTrust_46 rfl ?_ ?_
    · refine xm_weak [1, 2, 3, 4] (lv' := [(0, .ref (g.1 0)), (1, .int b1), (2, .long b2), (4, .int b4)]) rfl ?_
      exact tfX3_bestTrust_55 hX k26 h26 b1 b2 b4 M7
    · refine xm_lload hX 0 dX3_bestTrust_49 rfl ?_
      refine xm_lstore_n hX (lv' := [(2, .long x8), (5, .long x8), (0, .ref (g.1 0)), (1, .int b1), (4, .int b4)]) dX3_bestTrust_51 rfl (by decide) rfl ?_
      refine xm_iload hX 4 dX3_bestTrust_52 rfl ?_
      refine xm_istore_n hX (lv' := [(1, .int b4), (2, .long x8), (5, .long x8), (0, .ref (g.1 0)), (4, .int b4)]) dX3_bestTrust_54 rfl (by decide) rfl ?_
      refine xm_weak [3, 0, 1, 4] (lv' := [(0, .ref (g.1 0)), (1, .int b4), (2, .long x8), (4, .int b4)]) rfl ?_
      exact tfX3_bestTrust_55 hX k26 h26 b4 x8 b4 M7
def fX3_bestTrust_26_it   (nq : Nat) : Int32 → Int64 → Int32 → xm_M → Option (Int32 × xm_M) := xm_it (fun kq => fX3_bestTrust_26 kq) (fun _ _ _ _ => none) nq
theorem tfX3_bestTrust_26_it {p : Program} {l : Launch} {e : Env} {s : State} {m : MethodId} {args : Array Value} {below : List Frame} {meth : Method} {c : Code} {D : va_G} {g : xm_G} {A : Nat → Prop} (hX : xm_X p m meth c cX3_bestTrust 7 s args wX3_bestTrust RX3 (some .int) D cL g A)     : ∀ (nq : Nat), ∀ (b1 : Int32), ∀ (b2 : Int64), ∀ (b4 : Int32), ∀ (M : xm_M), xm_J p l e ({ frames := 6, cells := 0, slots := 0, locals := 151 }) s m args below meth c 7 D cL g A (xm_Fi g) 26 [(0, .ref (g.1 0)), (1, .int b1), (2, .long b2), (4, .int b4)] [] M (fX3_bestTrust_26_it  nq b1 b2 b4 M) := by
  intro nq
  induction nq with
  | zero => exact fun _ _ _ _ => xm_none
  | succ nq ih => exact tfX3_bestTrust_26 hX _ ih
def fX3_bestTrust   (M : xm_M) : Option (Int32 × xm_M) :=
  xm_bi (fX1_hasSights M) (fun x2 M1 => if x2 = 0 then some ((-6 : Int32), M1) else xm_lt ((0 : Int32)) (fun x3 => xm_bl (fX3_errorsWith ((4 : Int32)) ((0 : Int32)) M1) (fun x5 M4 => xm_lt ((10 : Int32)) (fun x6 => fX3_bestTrust_26_it xm_N x3 x5 x6 M4))))
set_option maxRecDepth 20000 in
theorem kX3_bestTrust {l : Launch}    (M : xm_M) : xm_C l yX3_bestTrust wX3_bestTrust ({ frames := 6, cells := 0, slots := 0, locals := 151 }) cL (fun g => [.ref (g.1 0)]) M xm_Fi (fX3_bestTrust   M) := by
  refine xm_C.of (by decide) rfl (fun g => Nat.le_of_ble_eq_true rfl) ?_
  intro p e s m args below meth c D g A hX
  refine xm_lv (lv' := [(0, .ref (g.1 0))]) rfl ?_
  unfold fX3_bestTrust
  refine xm_aload_n hX 0 dX3_bestTrust_0 rfl rfl ?_
  refine xm_get hX (k := 0) (ci := 3) (j := 0) (C := RX3) (T := TX3) (N := 6) (v := .ref (g.1 1)) cL_0 rfl rfl rfl (by decide) (fun z hz => List.mem_cons_of_mem _ (iw_X3 z hz)) (List.mem_cons_of_mem _ gm_129) dX3_bestTrust_1 ?_
  refine xm_calli hX (xm_runV hX (k := 1) (ci := 1) (As := (fun g => [])) (kX1_hasSights M) cL_1 rfl (xm_gV gm_349 gm_350 gm_351 gm_2 gm_352) rfl ⟨rfl, rfl⟩ ⟨rfl, hdX1_hasSights⟩ ⟨Nat.le_of_ble_eq_true rfl, Nat.le_of_ble_eq_true rfl⟩ rfl (Nat.le_of_ble_eq_true rfl) rfl dX3_bestTrust_4) (fun x2 M1 => ?_)
  refine xm_if_ne hX (tgt := 13) dX3_bestTrust_7 rfl ?_ ?_
  · refine xm_iconst hX (v := 0) rfl dX3_bestTrust_13 ?_
    refine xm_nmi (fun x3 => ?_)
    refine xm_istore_n hX (lv' := [(1, .int x3), (0, .ref (g.1 0))]) dX3_bestTrust_14 rfl (by decide) rfl ?_
    refine xm_aload_n hX 1 dX3_bestTrust_15 rfl rfl ?_
    refine xm_iconst hX (v := 4) rfl dX3_bestTrust_16 ?_
    refine xm_iconst hX (v := 0) rfl dX3_bestTrust_17 ?_
    refine xm_calll hX (xm_runV hX (k := 0) (ci := 3) (As := (fun g => [.int ((4 : Int32)), .int ((0 : Int32))])) (kX3_errorsWith ((4 : Int32)) ((0 : Int32)) M1) cL_0 rfl (xm_gV gm_336 gm_337 gm_707 gm_1 gm_338) rfl ⟨rfl, rfl⟩ ⟨rfl, hdX3_errorsWith⟩ ⟨Nat.le_of_ble_eq_true rfl, Nat.le_of_ble_eq_true rfl⟩ rfl (Nat.le_of_ble_eq_true rfl) rfl dX3_bestTrust_18) (fun x5 M4 => ?_)
    refine xm_lstore_n hX (lv' := [(2, .long x5), (1, .int x3), (0, .ref (g.1 0))]) dX3_bestTrust_21 rfl (by decide) rfl ?_
    refine xm_bipush hX (v := 10) rfl dX3_bestTrust_22 ?_
    refine xm_nmi (fun x6 => ?_)
    refine xm_istore hX (lv' := [(4, .int x6), (2, .long x5), (1, .int x3), (0, .ref (g.1 0))]) dX3_bestTrust_24 (by decide) rfl ?_
    refine xm_weak [3, 2, 1, 0] (lv' := [(0, .ref (g.1 0)), (1, .int x3), (2, .long x5), (4, .int x6)]) rfl ?_
    exact tfX3_bestTrust_26_it hX xm_N x3 x5 x6 M4
  · refine xm_bipush hX (v := -6) rfl dX3_bestTrust_10 ?_
    exact xm_iret hX dX3_bestTrust_12
-- ===== OdometryDesk.closeCorridor()I ['0']
theorem dX3_closeCorridor_0 : decode cX3_closeCorridor 0 = .ok (.aload_n 0, 1) := by decide +kernel
theorem dX3_closeCorridor_1 : decode cX3_closeCorridor 1 = .ok (.getfield 10, 3) := by decide +kernel
theorem dX3_closeCorridor_4 : decode cX3_closeCorridor 4 = .ok (.getfield 70, 3) := by decide +kernel
theorem dX3_closeCorridor_7 : decode cX3_closeCorridor 7 = .ok (.ifCond .gt 6, 3) := by decide +kernel
theorem dX3_closeCorridor_10 : decode cX3_closeCorridor 10 = .ok (.bipush (-5), 2) := by decide +kernel
theorem dX3_closeCorridor_12 : decode cX3_closeCorridor 12 = .ok (.ireturn, 1) := by decide +kernel
theorem dX3_closeCorridor_13 : decode cX3_closeCorridor 13 = .ok (.aload_n 0, 1) := by decide +kernel
theorem dX3_closeCorridor_14 : decode cX3_closeCorridor 14 = .ok (.getfield 10, 3) := by decide +kernel
theorem dX3_closeCorridor_17 : decode cX3_closeCorridor 17 = .ok (.dup, 1) := by decide +kernel
theorem dX3_closeCorridor_18 : decode cX3_closeCorridor 18 = .ok (.getfield 70, 3) := by decide +kernel
theorem dX3_closeCorridor_21 : decode cX3_closeCorridor 21 = .ok (.iconst 1, 1) := by decide +kernel
theorem dX3_closeCorridor_22 : decode cX3_closeCorridor 22 = .ok (.isub, 1) := by decide +kernel
theorem dX3_closeCorridor_23 : decode cX3_closeCorridor 23 = .ok (.putfield 70, 3) := by decide +kernel
theorem dX3_closeCorridor_26 : decode cX3_closeCorridor 26 = .ok (.aload_n 0, 1) := by decide +kernel
theorem dX3_closeCorridor_27 : decode cX3_closeCorridor 27 = .ok (.getfield 10, 3) := by decide +kernel
theorem dX3_closeCorridor_30 : decode cX3_closeCorridor 30 = .ok (.getfield 70, 3) := by decide +kernel
theorem dX3_closeCorridor_33 : decode cX3_closeCorridor 33 = .ok (.ireturn, 1) := by decide +kernel
abbrev wX3_closeCorridor : List Cond := .code yX3_closeCorridor cX3_closeCorridor 1 (some .int) :: lw_gd
theorem hdX3_closeCorridor : (yX3_closeCorridor.cls ≠ "java/lang/invoke/MethodHandle" ∧ yX3_closeCorridor.cls ≠ "java/lang/invoke/VarHandle" ∧ (parseMethodDescriptor yX3_closeCorridor.desc).map (fun d => d.parameters.length) = some 0) := by decide +kernel
def fX3_closeCorridor   (M : xm_M) : Option (Int32 × xm_M) :=
  if 0 < (M.1 1 4) then xm_lt (xm_s M 1 4 ((M.1 1 4) - ((1 : Int32)))) (fun M1 => some (M1.1 1 4, M1)) else some ((-5 : Int32), M)
set_option maxRecDepth 20000 in
theorem kX3_closeCorridor {l : Launch}    (M : xm_M) : xm_C l yX3_closeCorridor wX3_closeCorridor ({ frames := 0, cells := 0, slots := 0, locals := 0 }) cL (fun g => [.ref (g.1 0)]) M xm_Fi (fX3_closeCorridor   M) := by
  refine xm_C.of (by decide) rfl (fun g => Nat.le_of_ble_eq_true rfl) ?_
  intro p e s m args below meth c D g A hX
  refine xm_lv (lv' := [(0, .ref (g.1 0))]) rfl ?_
  unfold fX3_closeCorridor
  refine xm_aload_n hX 0 dX3_closeCorridor_0 rfl rfl ?_
  refine xm_get hX (k := 0) (ci := 3) (j := 0) (C := RX3) (T := TX3) (N := 6) (v := .ref (g.1 1)) cL_0 rfl rfl rfl (by decide) (fun z hz => List.mem_cons_of_mem _ (iw_X3 z hz)) (List.mem_cons_of_mem _ gm_129) dX3_closeCorridor_1 ?_
  refine xm_get hX (k := 1) (ci := 1) (j := 4) (C := RX1) (T := TX1) (N := 11) (v := .int (M.1 1 4)) cL_1 rfl rfl rfl (by decide) (fun z hz => List.mem_cons_of_mem _ (iw_X1 z hz)) (List.mem_cons_of_mem _ gm_40) dX3_closeCorridor_4 ?_
  refine xm_if_gt hX (tgt := 13) dX3_closeCorridor_7 rfl ?_ ?_
  · refine xm_aload_n hX 0 dX3_closeCorridor_13 rfl rfl ?_
    refine xm_get hX (k := 0) (ci := 3) (j := 0) (C := RX3) (T := TX3) (N := 6) (v := .ref (g.1 1)) cL_0 rfl rfl rfl (by decide) (fun z hz => List.mem_cons_of_mem _ (iw_X3 z hz)) (List.mem_cons_of_mem _ gm_129) dX3_closeCorridor_14 ?_
    refine xm_dup hX rfl dX3_closeCorridor_17 ?_
    refine xm_get hX (k := 1) (ci := 1) (j := 4) (C := RX1) (T := TX1) (N := 11) (v := .int (M.1 1 4)) cL_1 rfl rfl rfl (by decide) (fun z hz => List.mem_cons_of_mem _ (iw_X1 z hz)) (List.mem_cons_of_mem _ gm_40) dX3_closeCorridor_18 ?_
    refine xm_iconst hX (v := 1) rfl dX3_closeCorridor_21 ?_
    refine xm_isub hX dX3_closeCorridor_22 ?_
    refine xm_puti hX (k := 1) (ci := 1) (j := 4) (C := RX1) (T := TX1) (N := 11) (t0 := tyX1) cL_1 rfl rfl (by decide) (fun z hz => List.mem_cons_of_mem _ (iw_X1 z hz)) tyX1_ok nmX1 rfl rfl (List.mem_cons_of_mem _ gm_40) dX3_closeCorridor_23 (fun M1 => ?_)
    refine xm_aload_n hX 0 dX3_closeCorridor_26 rfl rfl ?_
    refine xm_get hX (k := 0) (ci := 3) (j := 0) (C := RX3) (T := TX3) (N := 6) (v := .ref (g.1 1)) cL_0 rfl rfl rfl (by decide) (fun z hz => List.mem_cons_of_mem _ (iw_X3 z hz)) (List.mem_cons_of_mem _ gm_129) dX3_closeCorridor_27 ?_
    refine xm_get hX (k := 1) (ci := 1) (j := 4) (C := RX1) (T := TX1) (N := 11) (v := .int (M1.1 1 4)) cL_1 rfl rfl rfl (by decide) (fun z hz => List.mem_cons_of_mem _ (iw_X1 z hz)) (List.mem_cons_of_mem _ gm_40) dX3_closeCorridor_30 ?_
    exact xm_iret hX dX3_closeCorridor_33
  · refine xm_bipush hX (v := -5) rfl dX3_closeCorridor_10 ?_
    exact xm_iret hX dX3_closeCorridor_12
end
section
-- ===== OdometryDesk.corridor(IIIII)I ['0']
theorem dX3_corridor_0 : decode cX3_corridor 0 = .ok (.iload_n 1, 1) := by decide +kernel
theorem dX3_corridor_1 : decode cX3_corridor 1 = .ok (.iload_n 2, 1) := by decide +kernel
theorem dX3_corridor_2 : decode cX3_corridor 2 = .ok (.invokestatic 63, 3) := by decide +kernel
theorem dX3_corridor_5 : decode cX3_corridor 5 = .ok (.ifCond .eq 24, 3) := by decide +kernel
theorem dX3_corridor_8 : decode cX3_corridor 8 = .ok (.iload_n 3, 1) := by decide +kernel
theorem dX3_corridor_9 : decode cX3_corridor 9 = .ok (.iload 4, 2) := by decide +kernel
theorem dX3_corridor_11 : decode cX3_corridor 11 = .ok (.invokestatic 63, 3) := by decide +kernel
theorem dX3_corridor_14 : decode cX3_corridor 14 = .ok (.ifCond .eq 15, 3) := by decide +kernel
theorem dX3_corridor_17 : decode cX3_corridor 17 = .ok (.iload 5, 2) := by decide +kernel
theorem dX3_corridor_19 : decode cX3_corridor 19 = .ok (.iconst 0, 1) := by decide +kernel
theorem dX3_corridor_20 : decode cX3_corridor 20 = .ok (.sipush 17999, 3) := by decide +kernel
theorem dX3_corridor_23 : decode cX3_corridor 23 = .ok (.invokestatic 66, 3) := by decide +kernel
theorem dX3_corridor_26 : decode cX3_corridor 26 = .ok (.ifCond .ne 6, 3) := by decide +kernel
theorem dX3_corridor_29 : decode cX3_corridor 29 = .ok (.bipush (-2), 2) := by decide +kernel
theorem dX3_corridor_31 : decode cX3_corridor 31 = .ok (.ireturn, 1) := by decide +kernel
theorem dX3_corridor_32 : decode cX3_corridor 32 = .ok (.aload_n 0, 1) := by decide +kernel
theorem dX3_corridor_33 : decode cX3_corridor 33 = .ok (.getfield 10, 3) := by decide +kernel
theorem dX3_corridor_36 : decode cX3_corridor 36 = .ok (.getfield 70, 3) := by decide +kernel
theorem dX3_corridor_39 : decode cX3_corridor 39 = .ok (.istore 6, 2) := by decide +kernel
theorem dX3_corridor_41 : decode cX3_corridor 41 = .ok (.iload 6, 2) := by decide +kernel
theorem dX3_corridor_43 : decode cX3_corridor 43 = .ok (.bipush 8, 2) := by decide +kernel
theorem dX3_corridor_45 : decode cX3_corridor 45 = .ok (.if_icmp .lt 6, 3) := by decide +kernel
theorem dX3_corridor_48 : decode cX3_corridor 48 = .ok (.bipush (-4), 2) := by decide +kernel
theorem dX3_corridor_50 : decode cX3_corridor 50 = .ok (.ireturn, 1) := by decide +kernel
theorem dX3_corridor_51 : decode cX3_corridor 51 = .ok (.aload_n 0, 1) := by decide +kernel
theorem dX3_corridor_52 : decode cX3_corridor 52 = .ok (.getfield 10, 3) := by decide +kernel
theorem dX3_corridor_55 : decode cX3_corridor 55 = .ok (.getfield 74, 3) := by decide +kernel
theorem dX3_corridor_58 : decode cX3_corridor 58 = .ok (.iconst 0, 1) := by decide +kernel
theorem dX3_corridor_59 : decode cX3_corridor 59 = .ok (.iload 6, 2) := by decide +kernel
theorem dX3_corridor_61 : decode cX3_corridor 61 = .ok (.iload_n 1, 1) := by decide +kernel
theorem dX3_corridor_62 : decode cX3_corridor 62 = .ok (.iload_n 3, 1) := by decide +kernel
theorem dX3_corridor_63 : decode cX3_corridor 63 = .ok (.invokestatic 78, 3) := by decide +kernel
theorem dX3_corridor_66 : decode cX3_corridor 66 = .ok (.invokestatic 84, 3) := by decide +kernel
theorem dX3_corridor_69 : decode cX3_corridor 69 = .ok (.aload_n 0, 1) := by decide +kernel
theorem dX3_corridor_70 : decode cX3_corridor 70 = .ok (.getfield 10, 3) := by decide +kernel
theorem dX3_corridor_73 : decode cX3_corridor 73 = .ok (.getfield 74, 3) := by decide +kernel
theorem dX3_corridor_76 : decode cX3_corridor 76 = .ok (.iconst 1, 1) := by decide +kernel
theorem dX3_corridor_77 : decode cX3_corridor 77 = .ok (.iload 6, 2) := by decide +kernel
theorem dX3_corridor_79 : decode cX3_corridor 79 = .ok (.iload_n 1, 1) := by decide +kernel
theorem dX3_corridor_80 : decode cX3_corridor 80 = .ok (.iload_n 3, 1) := by decide +kernel
theorem dX3_corridor_81 : decode cX3_corridor 81 = .ok (.invokestatic 87, 3) := by decide +kernel
theorem dX3_corridor_84 : decode cX3_corridor 84 = .ok (.invokestatic 84, 3) := by decide +kernel
theorem dX3_corridor_87 : decode cX3_corridor 87 = .ok (.aload_n 0, 1) := by decide +kernel
theorem dX3_corridor_88 : decode cX3_corridor 88 = .ok (.getfield 10, 3) := by decide +kernel
theorem dX3_corridor_91 : decode cX3_corridor 91 = .ok (.getfield 74, 3) := by decide +kernel
theorem dX3_corridor_94 : decode cX3_corridor 94 = .ok (.iconst 2, 1) := by decide +kernel
theorem dX3_corridor_95 : decode cX3_corridor 95 = .ok (.iload 6, 2) := by decide +kernel
theorem dX3_corridor_97 : decode cX3_corridor 97 = .ok (.iload_n 2, 1) := by decide +kernel
theorem dX3_corridor_98 : decode cX3_corridor 98 = .ok (.iload 4, 2) := by decide +kernel
theorem dX3_corridor_100 : decode cX3_corridor 100 = .ok (.invokestatic 78, 3) := by decide +kernel
theorem dX3_corridor_103 : decode cX3_corridor 103 = .ok (.invokestatic 84, 3) := by decide +kernel
theorem dX3_corridor_106 : decode cX3_corridor 106 = .ok (.aload_n 0, 1) := by decide +kernel
theorem dX3_corridor_107 : decode cX3_corridor 107 = .ok (.getfield 10, 3) := by decide +kernel
theorem dX3_corridor_110 : decode cX3_corridor 110 = .ok (.getfield 74, 3) := by decide +kernel
theorem dX3_corridor_113 : decode cX3_corridor 113 = .ok (.iconst 3, 1) := by decide +kernel
theorem dX3_corridor_114 : decode cX3_corridor 114 = .ok (.iload 6, 2) := by decide +kernel
theorem dX3_corridor_116 : decode cX3_corridor 116 = .ok (.iload_n 2, 1) := by decide +kernel
theorem dX3_corridor_117 : decode cX3_corridor 117 = .ok (.iload 4, 2) := by decide +kernel
theorem dX3_corridor_119 : decode cX3_corridor 119 = .ok (.invokestatic 87, 3) := by decide +kernel
theorem dX3_corridor_122 : decode cX3_corridor 122 = .ok (.invokestatic 84, 3) := by decide +kernel
theorem dX3_corridor_125 : decode cX3_corridor 125 = .ok (.aload_n 0, 1) := by decide +kernel
theorem dX3_corridor_126 : decode cX3_corridor 126 = .ok (.getfield 10, 3) := by decide +kernel
theorem dX3_corridor_129 : decode cX3_corridor 129 = .ok (.getfield 74, 3) := by decide +kernel
theorem dX3_corridor_132 : decode cX3_corridor 132 = .ok (.iconst 4, 1) := by decide +kernel
theorem dX3_corridor_133 : decode cX3_corridor 133 = .ok (.iload 6, 2) := by decide +kernel
theorem dX3_corridor_135 : decode cX3_corridor 135 = .ok (.iload 5, 2) := by decide +kernel
theorem dX3_corridor_137 : decode cX3_corridor 137 = .ok (.invokestatic 84, 3) := by decide +kernel
theorem dX3_corridor_140 : decode cX3_corridor 140 = .ok (.aload_n 0, 1) := by decide +kernel
theorem dX3_corridor_141 : decode cX3_corridor 141 = .ok (.getfield 10, 3) := by decide +kernel
theorem dX3_corridor_144 : decode cX3_corridor 144 = .ok (.iload 6, 2) := by decide +kernel
theorem dX3_corridor_146 : decode cX3_corridor 146 = .ok (.iconst 1, 1) := by decide +kernel
theorem dX3_corridor_147 : decode cX3_corridor 147 = .ok (.iadd, 1) := by decide +kernel
theorem dX3_corridor_148 : decode cX3_corridor 148 = .ok (.putfield 70, 3) := by decide +kernel
theorem dX3_corridor_151 : decode cX3_corridor 151 = .ok (.iload 6, 2) := by decide +kernel
theorem dX3_corridor_153 : decode cX3_corridor 153 = .ok (.ireturn, 1) := by decide +kernel
abbrev wX3_corridor : List Cond := .code yX3_corridor cX3_corridor 7 (some .int) :: lw_gd
theorem hdX3_corridor : (yX3_corridor.cls ≠ "java/lang/invoke/MethodHandle" ∧ yX3_corridor.cls ≠ "java/lang/invoke/VarHandle" ∧ (parseMethodDescriptor yX3_corridor.desc).map (fun d => d.parameters.length) = some 5) := by decide +kernel
def fX3_corridor  (a1 : Int32) (a2 : Int32) (a3 : Int32) (a4 : Int32) (a5 : Int32) (M : xm_M) : Option (Int32 × xm_M) :=
  xm_bi (fX3_isPlace a1 a2 M) (fun x2 M1 => if x2 = 0 then some ((-2 : Int32), M1) else xm_bi (fX3_isPlace a3 a4 M1) (fun x4 M3 => if x4 = 0 then some ((-2 : Int32), M3) else xm_bi (fX3_isWithin a5 ((0 : Int32)) ((17999 : Int32)) M3) (fun x6 M5 => if x6 = 0 then some ((-2 : Int32), M5) else xm_lt (M5.1 1 4) (fun x7 => if x7 < ((8 : Int32)) then xm_bv (fX3_keep_ 3 5 4 8 ((0 : Int32)) x7 (if a3 < a1 then a3 else a1) M5) (fun M8 => xm_bv (fX3_keep_ 3 5 4 8 ((1 : Int32)) x7 (if a1 < a3 then a3 else a1) M8) (fun M9 => xm_bv (fX3_keep_ 3 5 4 8 ((2 : Int32)) x7 (if a4 < a2 then a4 else a2) M9) (fun M10 => xm_bv (fX3_keep_ 3 5 4 8 ((3 : Int32)) x7 (if a2 < a4 then a4 else a2) M10) (fun M11 => xm_bv (fX3_keep_ 3 5 4 8 ((4 : Int32)) x7 a5 M11) (fun M12 => xm_lt (xm_s M12 1 4 (x7 + ((1 : Int32)))) (fun M13 => some (x7, M13))))))) else some ((-4 : Int32), M5)))))
set_option maxRecDepth 20000 in
theorem kX3_corridor {l : Launch}   (a1 : Int32) (a2 : Int32) (a3 : Int32) (a4 : Int32) (a5 : Int32) (M : xm_M) : xm_C l yX3_corridor wX3_corridor ({ frames := 2, cells := 0, slots := 0, locals := 43 }) cL (fun g => [.ref (g.1 0), .int a1, .int a2, .int a3, .int a4, .int a5]) M xm_Fi (fX3_corridor  a1 a2 a3 a4 a5 M) := by
  refine xm_C.of (by decide) rfl (fun g => Nat.le_of_ble_eq_true rfl) ?_
  intro p e s m args below meth c D g A hX
  refine xm_lv (lv' := [(0, .ref (g.1 0)), (1, .int a1), (2, .int a2), (3, .int a3), (4, .int a4), (5, .int a5)]) rfl ?_
  unfold fX3_corridor
  refine xm_iload_n hX 1 dX3_corridor_0 rfl rfl ?_
  refine xm_iload_n hX 2 dX3_corridor_1 rfl rfl ?_
  refine xm_calli hX (xm_runS hX (As := (fun g => [.int a1, .int a2])) (kX3_isPlace a1 a2 M) (xm_gS gm_163 gm_164 gm_1 gm_165) rfl ⟨rfl, rfl⟩ hdX3_isPlace ⟨Nat.le_of_ble_eq_true rfl, Nat.le_of_ble_eq_true rfl⟩ rfl (Nat.le_of_ble_eq_true rfl) rfl dX3_corridor_2) (fun x2 M1 => ?_)
  refine xm_if_eq hX (tgt := 29) dX3_corridor_5 rfl ?_ ?_
  · refine xm_bipush hX (v := -2) rfl dX3_corridor_29 ?_
    exact xm_iret hX dX3_corridor_31
  · refine xm_iload_n hX 3 dX3_corridor_8 rfl rfl ?_
    refine xm_iload hX 4 dX3_corridor_9 rfl ?_
    refine xm_calli hX (xm_runS hX (As := (fun g => [.int a3, .int a4])) (kX3_isPlace a3 a4 M1) (xm_gS gm_163 gm_164 gm_1 gm_165) rfl ⟨rfl, rfl⟩ hdX3_isPlace ⟨Nat.le_of_ble_eq_true rfl, Nat.le_of_ble_eq_true rfl⟩ rfl (Nat.le_of_ble_eq_true rfl) rfl dX3_corridor_11) (fun x4 M3 => ?_)
    refine xm_if_eq hX (tgt := 29) dX3_corridor_14 rfl ?_ ?_
    · refine xm_bipush hX (v := -2) rfl dX3_corridor_29 ?_
      exact xm_iret hX dX3_corridor_31
    · refine xm_iload hX 5 dX3_corridor_17 rfl ?_
      refine xm_iconst hX (v := 0) rfl dX3_corridor_19 ?_
      refine xm_sipush hX (v := 17999) rfl dX3_corridor_20 ?_
      refine xm_calli hX (xm_runS hX (As := (fun g => [.int a5, .int ((0 : Int32)), .int ((17999 : Int32))])) (kX3_isWithin a5 ((0 : Int32)) ((17999 : Int32)) M3) (xm_gS gm_150 gm_151 gm_1 gm_152) rfl ⟨rfl, rfl⟩ hdX3_isWithin ⟨Nat.le_of_ble_eq_true rfl, Nat.le_of_ble_eq_true rfl⟩ rfl (Nat.le_of_ble_eq_true rfl) rfl dX3_corridor_23) (fun x6 M5 => ?_)
      refine xm_if_ne hX (tgt := 32) dX3_corridor_26 rfl ?_ ?_
      · refine xm_aload_n hX 0 dX3_corridor_32 rfl rfl ?_
        refine xm_get hX (k := 0) (ci := 3) (j := 0) (C := RX3) (T := TX3) (N := 6) (v := .ref (g.1 1)) cL_0 rfl rfl rfl (by decide) (fun z hz => List.mem_cons_of_mem _ (iw_X3 z hz)) (List.mem_cons_of_mem _ gm_129) dX3_corridor_33 ?_
        refine xm_get hX (k := 1) (ci := 1) (j := 4) (C := RX1) (T := TX1) (N := 11) (v := .int (M5.1 1 4)) cL_1 rfl rfl rfl (by decide) (fun z hz => List.mem_cons_of_mem _ (iw_X1 z hz)) (List.mem_cons_of_mem _ gm_40) dX3_corridor_36 ?_
        refine xm_nmi (fun x7 => ?_)
        refine xm_istore hX (lv' := [(6, .int x7), (0, .ref (g.1 0)), (1, .int a1), (2, .int a2), (3, .int a3), (4, .int a4), (5, .int a5)]) dX3_corridor_39 (by decide) rfl ?_
        refine xm_iload hX 0 dX3_corridor_41 rfl ?_
        refine xm_bipush hX (v := 8) rfl dX3_corridor_43 ?_
        refine xm_icmp_lt hX (tgt := 51) dX3_corridor_45 rfl ?_ ?_
        · refine xm_aload_n hX 1 dX3_corridor_51 rfl rfl ?_
          refine xm_get hX (k := 0) (ci := 3) (j := 0) (C := RX3) (T := TX3) (N := 6) (v := .ref (g.1 1)) cL_0 rfl rfl rfl (by decide) (fun z hz => List.mem_cons_of_mem _ (iw_X3 z hz)) (List.mem_cons_of_mem _ gm_129) dX3_corridor_52 ?_
          refine xm_get hX (k := 1) (ci := 1) (j := 1) (C := RX1) (T := TX1) (N := 11) (v := .ref (g.1 3)) cL_1 rfl rfl rfl (by decide) (fun z hz => List.mem_cons_of_mem _ (iw_X1 z hz)) (List.mem_cons_of_mem _ gm_32) dX3_corridor_55 ?_
          refine xm_iconst hX (v := 0) rfl dX3_corridor_58 ?_
          refine xm_iload hX 0 dX3_corridor_59 rfl ?_
          refine xm_iload_n hX 2 dX3_corridor_61 rfl rfl ?_
          refine xm_iload_n hX 4 dX3_corridor_62 rfl rfl ?_
          refine xm_mmin hX (List.mem_cons_of_mem _ gm_168) (List.mem_cons_of_mem _ gm_169) (List.mem_cons_of_mem _ gm_6) (List.mem_cons_of_mem _ gm_170) (Nat.le_of_ble_eq_true rfl) (Nat.le_of_ble_eq_true rfl) dX3_corridor_63 ?_
          refine xm_callv hX (xm_runS hX (As := (fun g => [.ref (g.1 3), .int ((0 : Int32)), .int x7, .int (if a3 < a1 then a3 else a1)])) (kX3_keep_ 3 5 4 8 cL_3 cL_rows_3 ((0 : Int32)) x7 (if a3 < a1 then a3 else a1) M5) (xm_gS gm_171 gm_172 gm_1 gm_173) rfl ⟨rfl, rfl⟩ hdX3_keep_ ⟨Nat.le_of_ble_eq_true rfl, Nat.le_of_ble_eq_true rfl⟩ rfl (Nat.le_of_ble_eq_true rfl) rfl dX3_corridor_66) (fun M8 => ?_)
          refine xm_aload_n hX 1 dX3_corridor_69 rfl rfl ?_
          refine xm_get hX (k := 0) (ci := 3) (j := 0) (C := RX3) (T := TX3) (N := 6) (v := .ref (g.1 1)) cL_0 rfl rfl rfl (by decide) (fun z hz => List.mem_cons_of_mem _ (iw_X3 z hz)) (List.mem_cons_of_mem _ gm_129) dX3_corridor_70 ?_
          refine xm_get hX (k := 1) (ci := 1) (j := 1) (C := RX1) (T := TX1) (N := 11) (v := .ref (g.1 3)) cL_1 rfl rfl rfl (by decide) (fun z hz => List.mem_cons_of_mem _ (iw_X1 z hz)) (List.mem_cons_of_mem _ gm_32) dX3_corridor_73 ?_
          refine xm_iconst hX (v := 1) rfl dX3_corridor_76 ?_
          refine xm_iload hX 0 dX3_corridor_77 rfl ?_
          refine xm_iload_n hX 2 dX3_corridor_79 rfl rfl ?_
          refine xm_iload_n hX 4 dX3_corridor_80 rfl rfl ?_
          refine xm_mmax hX (List.mem_cons_of_mem _ gm_174) (List.mem_cons_of_mem _ gm_175) (List.mem_cons_of_mem _ gm_6) (List.mem_cons_of_mem _ gm_176) (Nat.le_of_ble_eq_true rfl) (Nat.le_of_ble_eq_true rfl) dX3_corridor_81 ?_
          refine xm_callv hX (xm_runS hX (As := (fun g => [.ref (g.1 3), .int ((1 : Int32)), .int x7, .int (if a1 < a3 then a3 else a1)])) (kX3_keep_ 3 5 4 8 cL_3 cL_rows_3 ((1 : Int32)) x7 (if a1 < a3 then a3 else a1) M8) (xm_gS gm_171 gm_172 gm_1 gm_173) rfl ⟨rfl, rfl⟩ hdX3_keep_ ⟨Nat.le_of_ble_eq_true rfl, Nat.le_of_ble_eq_true rfl⟩ rfl (Nat.le_of_ble_eq_true rfl) rfl dX3_corridor_84) (fun M9 => ?_)
          refine xm_aload_n hX 1 dX3_corridor_87 rfl rfl ?_
          refine xm_get hX (k := 0) (ci := 3) (j := 0) (C := RX3) (T := TX3) (N := 6) (v := .ref (g.1 1)) cL_0 rfl rfl rfl (by decide) (fun z hz => List.mem_cons_of_mem _ (iw_X3 z hz)) (List.mem_cons_of_mem _ gm_129) dX3_corridor_88 ?_
          refine xm_get hX (k := 1) (ci := 1) (j := 1) (C := RX1) (T := TX1) (N := 11) (v := .ref (g.1 3)) cL_1 rfl rfl rfl (by decide) (fun z hz => List.mem_cons_of_mem _ (iw_X1 z hz)) (List.mem_cons_of_mem _ gm_32) dX3_corridor_91 ?_
          refine xm_iconst hX (v := 2) rfl dX3_corridor_94 ?_
          refine xm_iload hX 0 dX3_corridor_95 rfl ?_
          refine xm_iload_n hX 3 dX3_corridor_97 rfl rfl ?_
          refine xm_iload hX 5 dX3_corridor_98 rfl ?_
          refine xm_mmin hX (List.mem_cons_of_mem _ gm_168) (List.mem_cons_of_mem _ gm_169) (List.mem_cons_of_mem _ gm_6) (List.mem_cons_of_mem _ gm_170) (Nat.le_of_ble_eq_true rfl) (Nat.le_of_ble_eq_true rfl) dX3_corridor_100 ?_
          refine xm_callv hX (xm_runS hX (As := (fun g => [.ref (g.1 3), .int ((2 : Int32)), .int x7, .int (if a4 < a2 then a4 else a2)])) (kX3_keep_ 3 5 4 8 cL_3 cL_rows_3 ((2 : Int32)) x7 (if a4 < a2 then a4 else a2) M9) (xm_gS gm_171 gm_172 gm_1 gm_173) rfl ⟨rfl, rfl⟩ hdX3_keep_ ⟨Nat.le_of_ble_eq_true rfl, Nat.le_of_ble_eq_true rfl⟩ rfl (Nat.le_of_ble_eq_true rfl) rfl dX3_corridor_103) (fun M10 => ?_)
          refine xm_aload_n hX 1 dX3_corridor_106 rfl rfl ?_
          refine xm_get hX (k := 0) (ci := 3) (j := 0) (C := RX3) (T := TX3) (N := 6) (v := .ref (g.1 1)) cL_0 rfl rfl rfl (by decide) (fun z hz => List.mem_cons_of_mem _ (iw_X3 z hz)) (List.mem_cons_of_mem _ gm_129) dX3_corridor_107 ?_
          refine xm_get hX (k := 1) (ci := 1) (j := 1) (C := RX1) (T := TX1) (N := 11) (v := .ref (g.1 3)) cL_1 rfl rfl rfl (by decide) (fun z hz => List.mem_cons_of_mem _ (iw_X1 z hz)) (List.mem_cons_of_mem _ gm_32) dX3_corridor_110 ?_
          refine xm_iconst hX (v := 3) rfl dX3_corridor_113 ?_
          refine xm_iload hX 0 dX3_corridor_114 rfl ?_
          refine xm_iload_n hX 3 dX3_corridor_116 rfl rfl ?_
          refine xm_iload hX 5 dX3_corridor_117 rfl ?_
          refine xm_mmax hX (List.mem_cons_of_mem _ gm_174) (List.mem_cons_of_mem _ gm_175) (List.mem_cons_of_mem _ gm_6) (List.mem_cons_of_mem _ gm_176) (Nat.le_of_ble_eq_true rfl) (Nat.le_of_ble_eq_true rfl) dX3_corridor_119 ?_
          refine xm_callv hX (xm_runS hX (As := (fun g => [.ref (g.1 3), .int ((3 : Int32)), .int x7, .int (if a2 < a4 then a4 else a2)])) (kX3_keep_ 3 5 4 8 cL_3 cL_rows_3 ((3 : Int32)) x7 (if a2 < a4 then a4 else a2) M10) (xm_gS gm_171 gm_172 gm_1 gm_173) rfl ⟨rfl, rfl⟩ hdX3_keep_ ⟨Nat.le_of_ble_eq_true rfl, Nat.le_of_ble_eq_true rfl⟩ rfl (Nat.le_of_ble_eq_true rfl) rfl dX3_corridor_122) (fun M11 => ?_)
          refine xm_aload_n hX 1 dX3_corridor_125 rfl rfl ?_
          refine xm_get hX (k := 0) (ci := 3) (j := 0) (C := RX3) (T := TX3) (N := 6) (v := .ref (g.1 1)) cL_0 rfl rfl rfl (by decide) (fun z hz => List.mem_cons_of_mem _ (iw_X3 z hz)) (List.mem_cons_of_mem _ gm_129) dX3_corridor_126 ?_
          refine xm_get hX (k := 1) (ci := 1) (j := 1) (C := RX1) (T := TX1) (N := 11) (v := .ref (g.1 3)) cL_1 rfl rfl rfl (by decide) (fun z hz => List.mem_cons_of_mem _ (iw_X1 z hz)) (List.mem_cons_of_mem _ gm_32) dX3_corridor_129 ?_
          refine xm_iconst hX (v := 4) rfl dX3_corridor_132 ?_
          refine xm_iload hX 0 dX3_corridor_133 rfl ?_
          refine xm_iload hX 6 dX3_corridor_135 rfl ?_
          refine xm_callv hX (xm_runS hX (As := (fun g => [.ref (g.1 3), .int ((4 : Int32)), .int x7, .int a5])) (kX3_keep_ 3 5 4 8 cL_3 cL_rows_3 ((4 : Int32)) x7 a5 M11) (xm_gS gm_171 gm_172 gm_1 gm_173) rfl ⟨rfl, rfl⟩ hdX3_keep_ ⟨Nat.le_of_ble_eq_true rfl, Nat.le_of_ble_eq_true rfl⟩ rfl (Nat.le_of_ble_eq_true rfl) rfl dX3_corridor_137) (fun M12 => ?_)
          refine xm_aload_n hX 1 dX3_corridor_140 rfl rfl ?_
          refine xm_get hX (k := 0) (ci := 3) (j := 0) (C := RX3) (T := TX3) (N := 6) (v := .ref (g.1 1)) cL_0 rfl rfl rfl (by decide) (fun z hz => List.mem_cons_of_mem _ (iw_X3 z hz)) (List.mem_cons_of_mem _ gm_129) dX3_corridor_141 ?_
          refine xm_iload hX 0 dX3_corridor_144 rfl ?_
          refine xm_iconst hX (v := 1) rfl dX3_corridor_146 ?_
          refine xm_iadd hX dX3_corridor_147 ?_
          refine xm_puti hX (k := 1) (ci := 1) (j := 4) (C := RX1) (T := TX1) (N := 11) (t0 := tyX1) cL_1 rfl rfl (by decide) (fun z hz => List.mem_cons_of_mem _ (iw_X1 z hz)) tyX1_ok nmX1 rfl rfl (List.mem_cons_of_mem _ gm_40) dX3_corridor_148 (fun M13 => ?_)
          refine xm_iload hX 0 dX3_corridor_151 rfl ?_
          exact xm_iret hX dX3_corridor_153
        · refine xm_bipush hX (v := -4) rfl dX3_corridor_48 ?_
          exact xm_iret hX dX3_corridor_50
      · refine xm_bipush hX (v := -2) rfl dX3_corridor_29 ?_
        exact xm_iret hX dX3_corridor_31
-- ===== OdometryDesk$Way.toldErrors()I ['49']
theorem dX2_toldErrors_0 : decode cX2_toldErrors 0 = .ok (.aload_n 0, 1) := by decide +kernel
theorem dX2_toldErrors_1 : decode cX2_toldErrors 1 = .ok (.getfield 53, 3) := by decide +kernel
theorem dX2_toldErrors_4 : decode cX2_toldErrors 4 = .ok (.ldc2_w 83, 3) := by decide +kernel
theorem dX2_toldErrors_7 : decode cX2_toldErrors 7 = .ok (.invokestatic 85, 3) := by decide +kernel
theorem dX2_toldErrors_10 : decode cX2_toldErrors 10 = .ok (.l2i, 1) := by decide +kernel
theorem dX2_toldErrors_11 : decode cX2_toldErrors 11 = .ok (.ireturn, 1) := by decide +kernel
abbrev wX2_toldErrors : List Cond := .code yX2_toldErrors cX2_toldErrors 1 (some .int) :: lw_gd
theorem hdX2_toldErrors : (yX2_toldErrors.cls ≠ "java/lang/invoke/MethodHandle" ∧ yX2_toldErrors.cls ≠ "java/lang/invoke/VarHandle" ∧ (parseMethodDescriptor yX2_toldErrors.desc).map (fun d => d.parameters.length) = some 0) := by decide +kernel
def fX2_toldErrors   (M : xm_M) : Option (Int32 × xm_M) :=
  some ((if ((2000000000 : Int64)) < (M.2 49 9) then ((2000000000 : Int64)) else (M.2 49 9)).toInt32, M)
set_option maxRecDepth 20000 in
theorem kX2_toldErrors {l : Launch}    (M : xm_M) : xm_C l yX2_toldErrors wX2_toldErrors ({ frames := 1, cells := 0, slots := 0, locals := 15 }) cL (fun g => [.ref (g.1 49)]) M xm_Fi (fX2_toldErrors   M) := by
  refine xm_C.of (by decide) rfl (fun g => Nat.le_of_ble_eq_true rfl) ?_
  intro p e s m args below meth c D g A hX
  refine xm_lv (lv' := [(0, .ref (g.1 49))]) rfl ?_
  unfold fX2_toldErrors
  refine xm_aload_n hX 0 dX2_toldErrors_0 rfl rfl ?_
  refine xm_get hX (k := 49) (ci := 2) (j := 9) (C := RX2) (T := TX2) (N := 12) (v := .long (M.2 49 9)) cL_49 rfl rfl rfl (by decide) (fun z hz => List.mem_cons_of_mem _ (iw_X2 z hz)) (List.mem_cons_of_mem _ gm_91) dX2_toldErrors_1 ?_
  refine xm_ldc2 hX (v := 2000000000) (List.mem_cons_of_mem _ gm_321) dX2_toldErrors_4 ?_
  refine xm_mminl hX (List.mem_cons_of_mem _ gm_322) (List.mem_cons_of_mem _ gm_323) (List.mem_cons_of_mem _ gm_6) (List.mem_cons_of_mem _ gm_324) (Nat.le_of_ble_eq_true rfl) (Nat.le_of_ble_eq_true rfl) dX2_toldErrors_7 ?_
  refine xm_l2i hX dX2_toldErrors_10 ?_
  exact xm_iret hX dX2_toldErrors_11
-- ===== OdometryDesk.count(I)I ['0']
theorem dX3_count_0 : decode cX3_count 0 = .ok (.iload_n 1, 1) := by decide +kernel
theorem dX3_count_1 : decode cX3_count 1 = .ok (.iconst 0, 1) := by decide +kernel
theorem dX3_count_2 : decode cX3_count 2 = .ok (.bipush 20, 2) := by decide +kernel
theorem dX3_count_4 : decode cX3_count 4 = .ok (.invokestatic 66, 3) := by decide +kernel
theorem dX3_count_7 : decode cX3_count 7 = .ok (.ifCond .ne 6, 3) := by decide +kernel
theorem dX3_count_10 : decode cX3_count 10 = .ok (.bipush (-2), 2) := by decide +kernel
theorem dX3_count_12 : decode cX3_count 12 = .ok (.ireturn, 1) := by decide +kernel
theorem dX3_count_13 : decode cX3_count 13 = .ok (.iload_n 1, 1) := by decide +kernel
theorem dX3_count_14 : decode cX3_count 14 = .ok (.bipush 12, 2) := by decide +kernel
theorem dX3_count_16 : decode cX3_count 16 = .ok (.if_icmp .lt 18, 3) := by decide +kernel
theorem dX3_count_19 : decode cX3_count 19 = .ok (.aload_n 0, 1) := by decide +kernel
theorem dX3_count_20 : decode cX3_count 20 = .ok (.getfield 10, 3) := by decide +kernel
theorem dX3_count_23 : decode cX3_count 23 = .ok (.getfield 52, 3) := by decide +kernel
theorem dX3_count_26 : decode cX3_count 26 = .ok (.iload_n 1, 1) := by decide +kernel
theorem dX3_count_27 : decode cX3_count 27 = .ok (.bipush 12, 2) := by decide +kernel
theorem dX3_count_29 : decode cX3_count 29 = .ok (.isub, 1) := by decide +kernel
theorem dX3_count_30 : decode cX3_count 30 = .ok (.invokestatic 55, 3) := by decide +kernel
theorem dX3_count_33 : decode cX3_count 33 = .ok (.ireturn, 1) := by decide +kernel
theorem dX3_count_34 : decode cX3_count 34 = .ok (.aload_n 0, 1) := by decide +kernel
theorem dX3_count_35 : decode cX3_count 35 = .ok (.getfield 25, 3) := by decide +kernel
theorem dX3_count_38 : decode cX3_count 38 = .ok (.aload_n 0, 1) := by decide +kernel
theorem dX3_count_39 : decode cX3_count 39 = .ok (.getfield 10, 3) := by decide +kernel
theorem dX3_count_42 : decode cX3_count 42 = .ok (.aload_n 0, 1) := by decide +kernel
theorem dX3_count_43 : decode cX3_count 43 = .ok (.getfield 10, 3) := by decide +kernel
theorem dX3_count_46 : decode cX3_count 46 = .ok (.getfield 52, 3) := by decide +kernel
theorem dX3_count_49 : decode cX3_count 49 = .ok (.invokevirtual 119, 3) := by decide +kernel
theorem dX3_count_52 : decode cX3_count 52 = .ok (.iload_n 1, 1) := by decide +kernel
theorem dX3_count_53 : decode cX3_count 53 = .ok (.tableswitch 119 0 11 #[63, 119, 119, 119, 119, 119, 71, 79, 87, 95, 103, 111], 63) := by decide +kernel
theorem dX3_count_116 : decode cX3_count 116 = .ok (.aload_n 0, 1) := by decide +kernel
theorem dX3_count_117 : decode cX3_count 117 = .ok (.getfield 10, 3) := by decide +kernel
theorem dX3_count_120 : decode cX3_count 120 = .ok (.getfield 106, 3) := by decide +kernel
theorem dX3_count_123 : decode cX3_count 123 = .ok (.ireturn, 1) := by decide +kernel
theorem dX3_count_124 : decode cX3_count 124 = .ok (.aload_n 0, 1) := by decide +kernel
theorem dX3_count_125 : decode cX3_count 125 = .ok (.getfield 25, 3) := by decide +kernel
theorem dX3_count_128 : decode cX3_count 128 = .ok (.getfield 135, 3) := by decide +kernel
theorem dX3_count_131 : decode cX3_count 131 = .ok (.ireturn, 1) := by decide +kernel
theorem dX3_count_132 : decode cX3_count 132 = .ok (.aload_n 0, 1) := by decide +kernel
theorem dX3_count_133 : decode cX3_count 133 = .ok (.getfield 25, 3) := by decide +kernel
theorem dX3_count_136 : decode cX3_count 136 = .ok (.invokevirtual 138, 3) := by decide +kernel
theorem dX3_count_139 : decode cX3_count 139 = .ok (.ireturn, 1) := by decide +kernel
theorem dX3_count_140 : decode cX3_count 140 = .ok (.aload_n 0, 1) := by decide +kernel
theorem dX3_count_141 : decode cX3_count 141 = .ok (.getfield 25, 3) := by decide +kernel
theorem dX3_count_144 : decode cX3_count 144 = .ok (.getfield 142, 3) := by decide +kernel
theorem dX3_count_147 : decode cX3_count 147 = .ok (.ireturn, 1) := by decide +kernel
theorem dX3_count_148 : decode cX3_count 148 = .ok (.aload_n 0, 1) := by decide +kernel
theorem dX3_count_149 : decode cX3_count 149 = .ok (.getfield 10, 3) := by decide +kernel
theorem dX3_count_152 : decode cX3_count 152 = .ok (.getfield 70, 3) := by decide +kernel
theorem dX3_count_155 : decode cX3_count 155 = .ok (.ireturn, 1) := by decide +kernel
theorem dX3_count_156 : decode cX3_count 156 = .ok (.aload_n 0, 1) := by decide +kernel
theorem dX3_count_157 : decode cX3_count 157 = .ok (.getfield 10, 3) := by decide +kernel
theorem dX3_count_160 : decode cX3_count 160 = .ok (.getfield 90, 3) := by decide +kernel
theorem dX3_count_163 : decode cX3_count 163 = .ok (.ireturn, 1) := by decide +kernel
theorem dX3_count_164 : decode cX3_count 164 = .ok (.aload_n 0, 1) := by decide +kernel
theorem dX3_count_165 : decode cX3_count 165 = .ok (.getfield 32, 3) := by decide +kernel
theorem dX3_count_168 : decode cX3_count 168 = .ok (.getfield 145, 3) := by decide +kernel
theorem dX3_count_171 : decode cX3_count 171 = .ok (.ireturn, 1) := by decide +kernel
theorem dX3_count_172 : decode cX3_count 172 = .ok (.aload_n 0, 1) := by decide +kernel
theorem dX3_count_173 : decode cX3_count 173 = .ok (.getfield 25, 3) := by decide +kernel
theorem dX3_count_176 : decode cX3_count 176 = .ok (.getfield 146, 3) := by decide +kernel
theorem dX3_count_179 : decode cX3_count 179 = .ok (.iload_n 1, 1) := by decide +kernel
theorem dX3_count_180 : decode cX3_count 180 = .ok (.iconst 1, 1) := by decide +kernel
theorem dX3_count_181 : decode cX3_count 181 = .ok (.isub, 1) := by decide +kernel
theorem dX3_count_182 : decode cX3_count 182 = .ok (.invokestatic 55, 3) := by decide +kernel
theorem dX3_count_185 : decode cX3_count 185 = .ok (.ireturn, 1) := by decide +kernel
abbrev wX3_count : List Cond := .code yX3_count cX3_count 2 (some .int) :: lw_gd
theorem hdX3_count : (yX3_count.cls ≠ "java/lang/invoke/MethodHandle" ∧ yX3_count.cls ≠ "java/lang/invoke/VarHandle" ∧ (parseMethodDescriptor yX3_count.desc).map (fun d => d.parameters.length) = some 1) := by decide +kernel
def fX3_count_172   (b1 : Int32) (M : xm_M) : Option (Int32 × xm_M) :=
  xm_bi (fX3_item 68 5 (b1 - ((1 : Int32))) M) (fun x6 M5 => some (x6, M5))
set_option maxRecDepth 20000 in
theorem tfX3_count_172 {p : Program} {l : Launch} {e : Env} {s : State} {m : MethodId} {args : Array Value} {below : List Frame} {meth : Method} {c : Code} {D : va_G} {g : xm_G} {A : Nat → Prop} (hX : xm_X p m meth c cX3_count 2 s args wX3_count RX3 (some .int) D cL g A)     : ∀ (b1 : Int32), ∀ (M : xm_M), xm_J p l e ({ frames := 5, cells := 0, slots := 0, locals := 129 }) s m args below meth c 2 D cL g A (xm_Fi g) 172 [(0, .ref (g.1 0)), (1, .int b1)] [] M (fX3_count_172 b1 M) := by
  intro b1 M
  unfold fX3_count_172
  refine xm_aload_n hX 0 dX3_count_172 rfl rfl ?_
  refine xm_get hX (k := 0) (ci := 3) (j := 3) (C := RX3) (T := TX3) (N := 6) (v := .ref (g.1 49)) cL_0 rfl rfl rfl (by decide) (fun z hz => List.mem_cons_of_mem _ (iw_X3 z hz)) (List.mem_cons_of_mem _ gm_132) dX3_count_173 ?_
  refine xm_get hX (k := 49) (ci := 2) (j := 2) (C := RX2) (T := TX2) (N := 12) (v := .ref (g.1 68)) cL_49 rfl rfl rfl (by decide) (fun z hz => List.mem_cons_of_mem _ (iw_X2 z hz)) (List.mem_cons_of_mem _ gm_79) dX3_count_176 ?_
  refine xm_iload_n hX 1 dX3_count_179 rfl rfl ?_
  refine xm_iconst hX (v := 1) rfl dX3_count_180 ?_
  refine xm_isub hX dX3_count_181 ?_
  refine xm_calli hX (xm_runS hX (As := (fun g => [.ref (g.1 68), .int (b1 - ((1 : Int32)))])) (kX3_item 68 5 cL_68 (b1 - ((1 : Int32))) M) (xm_gS gm_153 gm_154 gm_1 gm_155) rfl ⟨rfl, rfl⟩ hdX3_item ⟨Nat.le_of_ble_eq_true rfl, Nat.le_of_ble_eq_true rfl⟩ rfl (Nat.le_of_ble_eq_true rfl) rfl dX3_count_182) (fun x6 M5 => ?_)
  exact xm_iret hX dX3_count_185
def fX3_count  (a1 : Int32) (M : xm_M) : Option (Int32 × xm_M) :=
  xm_bi (fX3_isWithin a1 ((0 : Int32)) ((20 : Int32)) M) (fun x2 M1 => if x2 = 0 then some ((-2 : Int32), M1) else if a1 < ((12 : Int32)) then xm_bv (fX2_follow 2 M1) (fun M3 => if a1 = 0 then some (M3.1 1 6, M3) else if a1 = 1 then fX3_count_172 a1 M3 else if a1 = 2 then fX3_count_172 a1 M3 else if a1 = 3 then fX3_count_172 a1 M3 else if a1 = 4 then fX3_count_172 a1 M3 else if a1 = 5 then fX3_count_172 a1 M3 else if a1 = 6 then some (M3.1 49 8, M3) else if a1 = 7 then xm_bi (fX2_toldErrors M3) (fun x14 M13 => some (x14, M13)) else if a1 = 8 then some (M3.1 49 6, M3) else if a1 = 9 then some (M3.1 1 4, M3) else if a1 = 10 then some (M3.1 1 5, M3) else if a1 = 11 then some (M3.1 69 1, M3) else fX3_count_172 a1 M3) else xm_bi (fX3_item 2 9 (a1 - ((12 : Int32))) M1) (fun x21 M20 => some (x21, M20)))
set_option maxRecDepth 20000 in
theorem kX3_count {l : Launch}   (a1 : Int32) (M : xm_M) : xm_C l yX3_count wX3_count ({ frames := 5, cells := 0, slots := 0, locals := 129 }) cL (fun g => [.ref (g.1 0), .int a1]) M xm_Fi (fX3_count  a1 M) := by
  refine xm_C.of (by decide) rfl (fun g => Nat.le_of_ble_eq_true rfl) ?_
  intro p e s m args below meth c D g A hX
  refine xm_lv (lv' := [(0, .ref (g.1 0)), (1, .int a1)]) rfl ?_
  unfold fX3_count
  refine xm_iload_n hX 1 dX3_count_0 rfl rfl ?_
  refine xm_iconst hX (v := 0) rfl dX3_count_1 ?_
  refine xm_bipush hX (v := 20) rfl dX3_count_2 ?_
  refine xm_calli hX (xm_runS hX (As := (fun g => [.int a1, .int ((0 : Int32)), .int ((20 : Int32))])) (kX3_isWithin a1 ((0 : Int32)) ((20 : Int32)) M) (xm_gS gm_150 gm_151 gm_1 gm_152) rfl ⟨rfl, rfl⟩ hdX3_isWithin ⟨Nat.le_of_ble_eq_true rfl, Nat.le_of_ble_eq_true rfl⟩ rfl (Nat.le_of_ble_eq_true rfl) rfl dX3_count_4) (fun x2 M1 => ?_)
  refine xm_if_ne hX (tgt := 13) dX3_count_7 rfl ?_ ?_
  · refine xm_iload_n hX 1 dX3_count_13 rfl rfl ?_
    refine xm_bipush hX (v := 12) rfl dX3_count_14 ?_
    refine xm_icmp_lt hX (tgt := 34) dX3_count_16 rfl ?_ ?_
    · refine xm_aload_n hX 0 dX3_count_34 rfl rfl ?_
      refine xm_get hX (k := 0) (ci := 3) (j := 3) (C := RX3) (T := TX3) (N := 6) (v := .ref (g.1 49)) cL_0 rfl rfl rfl (by decide) (fun z hz => List.mem_cons_of_mem _ (iw_X3 z hz)) (List.mem_cons_of_mem _ gm_132) dX3_count_35 ?_
      refine xm_aload_n hX 0 dX3_count_38 rfl rfl ?_
      refine xm_get hX (k := 0) (ci := 3) (j := 0) (C := RX3) (T := TX3) (N := 6) (v := .ref (g.1 1)) cL_0 rfl rfl rfl (by decide) (fun z hz => List.mem_cons_of_mem _ (iw_X3 z hz)) (List.mem_cons_of_mem _ gm_129) dX3_count_39 ?_
      refine xm_aload_n hX 0 dX3_count_42 rfl rfl ?_
      refine xm_get hX (k := 0) (ci := 3) (j := 0) (C := RX3) (T := TX3) (N := 6) (v := .ref (g.1 1)) cL_0 rfl rfl rfl (by decide) (fun z hz => List.mem_cons_of_mem _ (iw_X3 z hz)) (List.mem_cons_of_mem _ gm_129) dX3_count_43 ?_
      refine xm_get hX (k := 1) (ci := 1) (j := 0) (C := RX1) (T := TX1) (N := 11) (v := .ref (g.1 2)) cL_1 rfl rfl rfl (by decide) (fun z hz => List.mem_cons_of_mem _ (iw_X1 z hz)) (List.mem_cons_of_mem _ gm_30) dX3_count_46 ?_
      refine xm_callv hX (xm_runV hX (k := 49) (ci := 2) (As := (fun g => [.ref (g.1 1), .ref (g.1 2)])) (kX2_follow 2 cL_2 M1) cL_49 rfl (xm_gV gm_218 gm_219 gm_220 gm_3 gm_221) rfl ⟨rfl, rfl⟩ ⟨rfl, hdX2_follow⟩ ⟨Nat.le_of_ble_eq_true rfl, Nat.le_of_ble_eq_true rfl⟩ rfl (Nat.le_of_ble_eq_true rfl) rfl dX3_count_49) (fun M3 => ?_)
      refine xm_iload_n hX 1 dX3_count_52 rfl rfl ?_
      refine xm_ite (fun z4 => ?_) (fun z4 => ?_)
      · refine xm_tsIn hX (tgt := 116) dX3_count_53 z4 (by decide) (by decide) rfl rfl ?_
        refine xm_aload_n hX 0 dX3_count_116 rfl rfl ?_
        refine xm_get hX (k := 0) (ci := 3) (j := 0) (C := RX3) (T := TX3) (N := 6) (v := .ref (g.1 1)) cL_0 rfl rfl rfl (by decide) (fun z hz => List.mem_cons_of_mem _ (iw_X3 z hz)) (List.mem_cons_of_mem _ gm_129) dX3_count_117 ?_
        refine xm_get hX (k := 1) (ci := 1) (j := 6) (C := RX1) (T := TX1) (N := 11) (v := .int (M3.1 1 6)) cL_1 rfl rfl rfl (by decide) (fun z hz => List.mem_cons_of_mem _ (iw_X1 z hz)) (List.mem_cons_of_mem _ gm_46) dX3_count_120 ?_
        exact xm_iret hX dX3_count_123
      refine xm_ite (fun z7 => ?_) (fun z7 => ?_)
      · refine xm_tsIn hX (tgt := 172) dX3_count_53 z7 (by decide) (by decide) rfl rfl ?_
        exact tfX3_count_172 hX a1 M3
      refine xm_ite (fun z8 => ?_) (fun z8 => ?_)
      · refine xm_tsIn hX (tgt := 172) dX3_count_53 z8 (by decide) (by decide) rfl rfl ?_
        exact tfX3_count_172 hX a1 M3
      refine xm_ite (fun z9 => ?_) (fun z9 => ?_)
      · refine xm_tsIn hX (tgt := 172) dX3_count_53 z9 (by decide) (by decide) rfl rfl ?_
        exact tfX3_count_172 hX a1 M3
      refine xm_ite (fun z10 => ?_) (fun z10 => ?_)
      · refine xm_tsIn hX (tgt := 172) dX3_count_53 z10 (by decide) (by decide) rfl rfl ?_
        exact tfX3_count_172 hX a1 M3
      refine xm_ite (fun z11 => ?_) (fun z11 => ?_)
      · refine xm_tsIn hX (tgt := 172) dX3_count_53 z11 (by decide) (by decide) rfl rfl ?_
        exact tfX3_count_172 hX a1 M3
      refine xm_ite (fun z12 => ?_) (fun z12 => ?_)
      · refine xm_tsIn hX (tgt := 124) dX3_count_53 z12 (by decide) (by decide) rfl rfl ?_
        refine xm_aload_n hX 0 dX3_count_124 rfl rfl ?_
        refine xm_get hX (k := 0) (ci := 3) (j := 3) (C := RX3) (T := TX3) (N := 6) (v := .ref (g.1 49)) cL_0 rfl rfl rfl (by decide) (fun z hz => List.mem_cons_of_mem _ (iw_X3 z hz)) (List.mem_cons_of_mem _ gm_132) dX3_count_125 ?_
        refine xm_get hX (k := 49) (ci := 2) (j := 8) (C := RX2) (T := TX2) (N := 12) (v := .int (M3.1 49 8)) cL_49 rfl rfl rfl (by decide) (fun z hz => List.mem_cons_of_mem _ (iw_X2 z hz)) (List.mem_cons_of_mem _ gm_90) dX3_count_128 ?_
        exact xm_iret hX dX3_count_131
      refine xm_ite (fun z15 => ?_) (fun z15 => ?_)
      · refine xm_tsIn hX (tgt := 132) dX3_count_53 z15 (by decide) (by decide) rfl rfl ?_
        refine xm_aload_n hX 0 dX3_count_132 rfl rfl ?_
        refine xm_get hX (k := 0) (ci := 3) (j := 3) (C := RX3) (T := TX3) (N := 6) (v := .ref (g.1 49)) cL_0 rfl rfl rfl (by decide) (fun z hz => List.mem_cons_of_mem _ (iw_X3 z hz)) (List.mem_cons_of_mem _ gm_132) dX3_count_133 ?_
        refine xm_calli hX (xm_runV hX (k := 49) (ci := 2) (As := (fun g => [])) (kX2_toldErrors M3) cL_49 rfl (xm_gV gm_317 gm_318 gm_319 gm_3 gm_320) rfl ⟨rfl, rfl⟩ ⟨rfl, hdX2_toldErrors⟩ ⟨Nat.le_of_ble_eq_true rfl, Nat.le_of_ble_eq_true rfl⟩ rfl (Nat.le_of_ble_eq_true rfl) rfl dX3_count_136) (fun x14 M13 => ?_)
        exact xm_iret hX dX3_count_139
      refine xm_ite (fun z16 => ?_) (fun z16 => ?_)
      · refine xm_tsIn hX (tgt := 140) dX3_count_53 z16 (by decide) (by decide) rfl rfl ?_
        refine xm_aload_n hX 0 dX3_count_140 rfl rfl ?_
        refine xm_get hX (k := 0) (ci := 3) (j := 3) (C := RX3) (T := TX3) (N := 6) (v := .ref (g.1 49)) cL_0 rfl rfl rfl (by decide) (fun z hz => List.mem_cons_of_mem _ (iw_X3 z hz)) (List.mem_cons_of_mem _ gm_132) dX3_count_141 ?_
        refine xm_get hX (k := 49) (ci := 2) (j := 6) (C := RX2) (T := TX2) (N := 12) (v := .int (M3.1 49 6)) cL_49 rfl rfl rfl (by decide) (fun z hz => List.mem_cons_of_mem _ (iw_X2 z hz)) (List.mem_cons_of_mem _ gm_87) dX3_count_144 ?_
        exact xm_iret hX dX3_count_147
      refine xm_ite (fun z17 => ?_) (fun z17 => ?_)
      · refine xm_tsIn hX (tgt := 148) dX3_count_53 z17 (by decide) (by decide) rfl rfl ?_
        refine xm_aload_n hX 0 dX3_count_148 rfl rfl ?_
        refine xm_get hX (k := 0) (ci := 3) (j := 0) (C := RX3) (T := TX3) (N := 6) (v := .ref (g.1 1)) cL_0 rfl rfl rfl (by decide) (fun z hz => List.mem_cons_of_mem _ (iw_X3 z hz)) (List.mem_cons_of_mem _ gm_129) dX3_count_149 ?_
        refine xm_get hX (k := 1) (ci := 1) (j := 4) (C := RX1) (T := TX1) (N := 11) (v := .int (M3.1 1 4)) cL_1 rfl rfl rfl (by decide) (fun z hz => List.mem_cons_of_mem _ (iw_X1 z hz)) (List.mem_cons_of_mem _ gm_40) dX3_count_152 ?_
        exact xm_iret hX dX3_count_155
      refine xm_ite (fun z18 => ?_) (fun z18 => ?_)
      · refine xm_tsIn hX (tgt := 156) dX3_count_53 z18 (by decide) (by decide) rfl rfl ?_
        refine xm_aload_n hX 0 dX3_count_156 rfl rfl ?_
        refine xm_get hX (k := 0) (ci := 3) (j := 0) (C := RX3) (T := TX3) (N := 6) (v := .ref (g.1 1)) cL_0 rfl rfl rfl (by decide) (fun z hz => List.mem_cons_of_mem _ (iw_X3 z hz)) (List.mem_cons_of_mem _ gm_129) dX3_count_157 ?_
        refine xm_get hX (k := 1) (ci := 1) (j := 5) (C := RX1) (T := TX1) (N := 11) (v := .int (M3.1 1 5)) cL_1 rfl rfl rfl (by decide) (fun z hz => List.mem_cons_of_mem _ (iw_X1 z hz)) (List.mem_cons_of_mem _ gm_43) dX3_count_160 ?_
        exact xm_iret hX dX3_count_163
      refine xm_ite (fun z19 => ?_) (fun z19 => ?_)
      · refine xm_tsIn hX (tgt := 164) dX3_count_53 z19 (by decide) (by decide) rfl rfl ?_
        refine xm_aload_n hX 0 dX3_count_164 rfl rfl ?_
        refine xm_get hX (k := 0) (ci := 3) (j := 4) (C := RX3) (T := TX3) (N := 6) (v := .ref (g.1 69)) cL_0 rfl rfl rfl (by decide) (fun z hz => List.mem_cons_of_mem _ (iw_X3 z hz)) (List.mem_cons_of_mem _ gm_133) dX3_count_165 ?_
        refine xm_get hX (k := 69) (ci := 0) (j := 1) (C := RX0) (T := TX0) (N := 5) (v := .int (M3.1 69 1)) cL_69 rfl rfl rfl (by decide) (fun z hz => List.mem_cons_of_mem _ (iw_X0 z hz)) (List.mem_cons_of_mem _ gm_114) dX3_count_168 ?_
        exact xm_iret hX dX3_count_171
      refine xm_tsOut hX (tgt := 172) dX3_count_53 (by have qz4 := lv_neT (a := 0) z4 rfl; have qz7 := lv_neT (a := 1) z7 rfl; have qz8 := lv_neT (a := 2) z8 rfl; have qz9 := lv_neT (a := 3) z9 rfl; have qz10 := lv_neT (a := 4) z10 rfl; have qz11 := lv_neT (a := 5) z11 rfl; have qz12 := lv_neT (a := 6) z12 rfl; have qz15 := lv_neT (a := 7) z15 rfl; have qz16 := lv_neT (a := 8) z16 rfl; have qz17 := lv_neT (a := 9) z17 rfl; have qz18 := lv_neT (a := 10) z18 rfl; have qz19 := lv_neT (a := 11) z19 rfl; omega) rfl ?_
      exact tfX3_count_172 hX a1 M3
    · refine xm_aload_n hX 0 dX3_count_19 rfl rfl ?_
      refine xm_get hX (k := 0) (ci := 3) (j := 0) (C := RX3) (T := TX3) (N := 6) (v := .ref (g.1 1)) cL_0 rfl rfl rfl (by decide) (fun z hz => List.mem_cons_of_mem _ (iw_X3 z hz)) (List.mem_cons_of_mem _ gm_129) dX3_count_20 ?_
      refine xm_get hX (k := 1) (ci := 1) (j := 0) (C := RX1) (T := TX1) (N := 11) (v := .ref (g.1 2)) cL_1 rfl rfl rfl (by decide) (fun z hz => List.mem_cons_of_mem _ (iw_X1 z hz)) (List.mem_cons_of_mem _ gm_30) dX3_count_23 ?_
      refine xm_iload_n hX 1 dX3_count_26 rfl rfl ?_
      refine xm_bipush hX (v := 12) rfl dX3_count_27 ?_
      refine xm_isub hX dX3_count_29 ?_
      refine xm_calli hX (xm_runS hX (As := (fun g => [.ref (g.1 2), .int (a1 - ((12 : Int32)))])) (kX3_item 2 9 cL_2 (a1 - ((12 : Int32))) M1) (xm_gS gm_153 gm_154 gm_1 gm_155) rfl ⟨rfl, rfl⟩ hdX3_item ⟨Nat.le_of_ble_eq_true rfl, Nat.le_of_ble_eq_true rfl⟩ rfl (Nat.le_of_ble_eq_true rfl) rfl dX3_count_30) (fun x21 M20 => ?_)
      exact xm_iret hX dX3_count_33
  · refine xm_bipush hX (v := -2) rfl dX3_count_10 ?_
    exact xm_iret hX dX3_count_12
-- ===== OdometryDesk.cut(I)I ['0']
theorem dX3_cut_0 : decode cX3_cut 0 = .ok (.iload_n 1, 1) := by decide +kernel
theorem dX3_cut_1 : decode cX3_cut 1 = .ok (.iconst 1, 1) := by decide +kernel
theorem dX3_cut_2 : decode cX3_cut 2 = .ok (.if_icmp .lt 14, 3) := by decide +kernel
theorem dX3_cut_5 : decode cX3_cut 5 = .ok (.iload_n 1, 1) := by decide +kernel
theorem dX3_cut_6 : decode cX3_cut 6 = .ok (.aload_n 0, 1) := by decide +kernel
theorem dX3_cut_7 : decode cX3_cut 7 = .ok (.getfield 10, 3) := by decide +kernel
theorem dX3_cut_10 : decode cX3_cut 10 = .ok (.getfield 106, 3) := by decide +kernel
theorem dX3_cut_13 : decode cX3_cut 13 = .ok (.if_icmp .le 6, 3) := by decide +kernel
theorem dX3_cut_16 : decode cX3_cut 16 = .ok (.bipush (-2), 2) := by decide +kernel
theorem dX3_cut_18 : decode cX3_cut 18 = .ok (.ireturn, 1) := by decide +kernel
theorem dX3_cut_19 : decode cX3_cut 19 = .ok (.aload_n 0, 1) := by decide +kernel
theorem dX3_cut_20 : decode cX3_cut 20 = .ok (.getfield 10, 3) := by decide +kernel
theorem dX3_cut_23 : decode cX3_cut 23 = .ok (.dup, 1) := by decide +kernel
theorem dX3_cut_24 : decode cX3_cut 24 = .ok (.getfield 106, 3) := by decide +kernel
theorem dX3_cut_27 : decode cX3_cut 27 = .ok (.iload_n 1, 1) := by decide +kernel
theorem dX3_cut_28 : decode cX3_cut 28 = .ok (.isub, 1) := by decide +kernel
theorem dX3_cut_29 : decode cX3_cut 29 = .ok (.putfield 106, 3) := by decide +kernel
theorem dX3_cut_32 : decode cX3_cut 32 = .ok (.aload_n 0, 1) := by decide +kernel
theorem dX3_cut_33 : decode cX3_cut 33 = .ok (.getfield 10, 3) := by decide +kernel
theorem dX3_cut_36 : decode cX3_cut 36 = .ok (.getfield 106, 3) := by decide +kernel
theorem dX3_cut_39 : decode cX3_cut 39 = .ok (.ireturn, 1) := by decide +kernel
abbrev wX3_cut : List Cond := .code yX3_cut cX3_cut 2 (some .int) :: lw_gd
theorem hdX3_cut : (yX3_cut.cls ≠ "java/lang/invoke/MethodHandle" ∧ yX3_cut.cls ≠ "java/lang/invoke/VarHandle" ∧ (parseMethodDescriptor yX3_cut.desc).map (fun d => d.parameters.length) = some 1) := by decide +kernel
def fX3_cut  (a1 : Int32) (M : xm_M) : Option (Int32 × xm_M) :=
  if a1 < ((1 : Int32)) then some ((-2 : Int32), M) else if a1 ≤ (M.1 1 6) then xm_lt (xm_s M 1 6 ((M.1 1 6) - a1)) (fun M1 => some (M1.1 1 6, M1)) else some ((-2 : Int32), M)
set_option maxRecDepth 20000 in
theorem kX3_cut {l : Launch}   (a1 : Int32) (M : xm_M) : xm_C l yX3_cut wX3_cut ({ frames := 0, cells := 0, slots := 0, locals := 0 }) cL (fun g => [.ref (g.1 0), .int a1]) M xm_Fi (fX3_cut  a1 M) := by
  refine xm_C.of (by decide) rfl (fun g => Nat.le_of_ble_eq_true rfl) ?_
  intro p e s m args below meth c D g A hX
  refine xm_lv (lv' := [(0, .ref (g.1 0)), (1, .int a1)]) rfl ?_
  unfold fX3_cut
  refine xm_iload_n hX 1 dX3_cut_0 rfl rfl ?_
  refine xm_iconst hX (v := 1) rfl dX3_cut_1 ?_
  refine xm_icmp_lt hX (tgt := 16) dX3_cut_2 rfl ?_ ?_
  · refine xm_bipush hX (v := -2) rfl dX3_cut_16 ?_
    exact xm_iret hX dX3_cut_18
  · refine xm_iload_n hX 1 dX3_cut_5 rfl rfl ?_
    refine xm_aload_n hX 0 dX3_cut_6 rfl rfl ?_
    refine xm_get hX (k := 0) (ci := 3) (j := 0) (C := RX3) (T := TX3) (N := 6) (v := .ref (g.1 1)) cL_0 rfl rfl rfl (by decide) (fun z hz => List.mem_cons_of_mem _ (iw_X3 z hz)) (List.mem_cons_of_mem _ gm_129) dX3_cut_7 ?_
    refine xm_get hX (k := 1) (ci := 1) (j := 6) (C := RX1) (T := TX1) (N := 11) (v := .int (M.1 1 6)) cL_1 rfl rfl rfl (by decide) (fun z hz => List.mem_cons_of_mem _ (iw_X1 z hz)) (List.mem_cons_of_mem _ gm_46) dX3_cut_10 ?_
    refine xm_icmp_le hX (tgt := 19) dX3_cut_13 rfl ?_ ?_
    · refine xm_aload_n hX 0 dX3_cut_19 rfl rfl ?_
      refine xm_get hX (k := 0) (ci := 3) (j := 0) (C := RX3) (T := TX3) (N := 6) (v := .ref (g.1 1)) cL_0 rfl rfl rfl (by decide) (fun z hz => List.mem_cons_of_mem _ (iw_X3 z hz)) (List.mem_cons_of_mem _ gm_129) dX3_cut_20 ?_
      refine xm_dup hX rfl dX3_cut_23 ?_
      refine xm_get hX (k := 1) (ci := 1) (j := 6) (C := RX1) (T := TX1) (N := 11) (v := .int (M.1 1 6)) cL_1 rfl rfl rfl (by decide) (fun z hz => List.mem_cons_of_mem _ (iw_X1 z hz)) (List.mem_cons_of_mem _ gm_46) dX3_cut_24 ?_
      refine xm_iload_n hX 1 dX3_cut_27 rfl rfl ?_
      refine xm_isub hX dX3_cut_28 ?_
      refine xm_puti hX (k := 1) (ci := 1) (j := 6) (C := RX1) (T := TX1) (N := 11) (t0 := tyX1) cL_1 rfl rfl (by decide) (fun z hz => List.mem_cons_of_mem _ (iw_X1 z hz)) tyX1_ok nmX1 rfl rfl (List.mem_cons_of_mem _ gm_46) dX3_cut_29 (fun M1 => ?_)
      refine xm_aload_n hX 0 dX3_cut_32 rfl rfl ?_
      refine xm_get hX (k := 0) (ci := 3) (j := 0) (C := RX3) (T := TX3) (N := 6) (v := .ref (g.1 1)) cL_0 rfl rfl rfl (by decide) (fun z hz => List.mem_cons_of_mem _ (iw_X3 z hz)) (List.mem_cons_of_mem _ gm_129) dX3_cut_33 ?_
      refine xm_get hX (k := 1) (ci := 1) (j := 6) (C := RX1) (T := TX1) (N := 11) (v := .int (M1.1 1 6)) cL_1 rfl rfl rfl (by decide) (fun z hz => List.mem_cons_of_mem _ (iw_X1 z hz)) (List.mem_cons_of_mem _ gm_46) dX3_cut_36 ?_
      exact xm_iret hX dX3_cut_39
    · refine xm_bipush hX (v := -2) rfl dX3_cut_16 ?_
      exact xm_iret hX dX3_cut_18
-- ===== OdometryDesk$Pad.takes(C)Z ['69']
theorem dX0_takes_0 : decode cX0_takes 0 = .ok (.aload_n 0, 1) := by decide +kernel
theorem dX0_takes_1 : decode cX0_takes 1 = .ok (.getfield 32, 3) := by decide +kernel
theorem dX0_takes_4 : decode cX0_takes 4 = .ok (.aload_n 0, 1) := by decide +kernel
theorem dX0_takes_5 : decode cX0_takes 5 = .ok (.getfield 24, 3) := by decide +kernel
theorem dX0_takes_8 : decode cX0_takes 8 = .ok (.if_icmp .ge 18, 3) := by decide +kernel
theorem dX0_takes_11 : decode cX0_takes 11 = .ok (.aload_n 0, 1) := by decide +kernel
theorem dX0_takes_12 : decode cX0_takes 12 = .ok (.getfield 9, 3) := by decide +kernel
theorem dX0_takes_15 : decode cX0_takes 15 = .ok (.aload_n 0, 1) := by decide +kernel
theorem dX0_takes_16 : decode cX0_takes 16 = .ok (.getfield 32, 3) := by decide +kernel
theorem dX0_takes_19 : decode cX0_takes 19 = .ok (.invokestatic 55, 3) := by decide +kernel
theorem dX0_takes_22 : decode cX0_takes 22 = .ok (.iload_n 1, 1) := by decide +kernel
theorem dX0_takes_23 : decode cX0_takes 23 = .ok (.if_icmp .eq 5, 3) := by decide +kernel
theorem dX0_takes_26 : decode cX0_takes 26 = .ok (.iconst 0, 1) := by decide +kernel
theorem dX0_takes_27 : decode cX0_takes 27 = .ok (.ireturn, 1) := by decide +kernel
theorem dX0_takes_28 : decode cX0_takes 28 = .ok (.aload_n 0, 1) := by decide +kernel
theorem dX0_takes_29 : decode cX0_takes 29 = .ok (.dup, 1) := by decide +kernel
theorem dX0_takes_30 : decode cX0_takes 30 = .ok (.getfield 32, 3) := by decide +kernel
theorem dX0_takes_33 : decode cX0_takes 33 = .ok (.iconst 1, 1) := by decide +kernel
theorem dX0_takes_34 : decode cX0_takes 34 = .ok (.iadd, 1) := by decide +kernel
theorem dX0_takes_35 : decode cX0_takes 35 = .ok (.putfield 32, 3) := by decide +kernel
theorem dX0_takes_38 : decode cX0_takes 38 = .ok (.iconst 1, 1) := by decide +kernel
theorem dX0_takes_39 : decode cX0_takes 39 = .ok (.ireturn, 1) := by decide +kernel
abbrev wX0_takes : List Cond := .code yX0_takes cX0_takes 2 (some .boolean) :: lw_gd
theorem hdX0_takes : (yX0_takes.cls ≠ "java/lang/invoke/MethodHandle" ∧ yX0_takes.cls ≠ "java/lang/invoke/VarHandle" ∧ (parseMethodDescriptor yX0_takes.desc).map (fun d => d.parameters.length) = some 1) := by decide +kernel
def fX0_takes  (a1 : Int32) (M : xm_M) : Option (Int32 × xm_M) :=
  if (M.1 69 1) ≤ (M.1 69 2) then if ((0 : Int32)) = 0 ∨ ((0 : Int32)) = 1 then some ((0 : Int32), M) else none else xm_bi (fX3_item 70 100 (M.1 69 2) M) (fun x2 M1 => if x2 = a1 then xm_lt (xm_s M1 69 2 ((M1.1 69 2) + ((1 : Int32)))) (fun M3 => if ((1 : Int32)) = 0 ∨ ((1 : Int32)) = 1 then some ((1 : Int32), M3) else none) else if ((0 : Int32)) = 0 ∨ ((0 : Int32)) = 1 then some ((0 : Int32), M1) else none)
set_option maxRecDepth 20000 in
theorem kX0_takes {l : Launch}   (a1 : Int32) (M : xm_M) : xm_C l yX0_takes wX0_takes ({ frames := 1, cells := 0, slots := 0, locals := 21 }) cL (fun g => [.ref (g.1 69), .int a1]) M xm_Fi (fX0_takes  a1 M) := by
  refine xm_C.of (by decide) rfl (fun g => Nat.le_of_ble_eq_true rfl) ?_
  intro p e s m args below meth c D g A hX
  refine xm_lv (lv' := [(0, .ref (g.1 69)), (1, .int a1)]) rfl ?_
  unfold fX0_takes
  refine xm_aload_n hX 0 dX0_takes_0 rfl rfl ?_
  refine xm_get hX (k := 69) (ci := 0) (j := 2) (C := RX0) (T := TX0) (N := 5) (v := .int (M.1 69 2)) cL_69 rfl rfl rfl (by decide) (fun z hz => List.mem_cons_of_mem _ (iw_X0 z hz)) (List.mem_cons_of_mem _ gm_115) dX0_takes_1 ?_
  refine xm_aload_n hX 0 dX0_takes_4 rfl rfl ?_
  refine xm_get hX (k := 69) (ci := 0) (j := 1) (C := RX0) (T := TX0) (N := 5) (v := .int (M.1 69 1)) cL_69 rfl rfl rfl (by decide) (fun z hz => List.mem_cons_of_mem _ (iw_X0 z hz)) (List.mem_cons_of_mem _ gm_113) dX0_takes_5 ?_
  refine xm_icmp_ge hX (tgt := 26) dX0_takes_8 rfl ?_ ?_
  · refine xm_iconst hX (v := 0) rfl dX0_takes_26 ?_
    exact xm_zret hX dX0_takes_27
  · refine xm_aload_n hX 0 dX0_takes_11 rfl rfl ?_
    refine xm_get hX (k := 69) (ci := 0) (j := 0) (C := RX0) (T := TX0) (N := 5) (v := .ref (g.1 70)) cL_69 rfl rfl rfl (by decide) (fun z hz => List.mem_cons_of_mem _ (iw_X0 z hz)) (List.mem_cons_of_mem _ gm_112) dX0_takes_12 ?_
    refine xm_aload_n hX 0 dX0_takes_15 rfl rfl ?_
    refine xm_get hX (k := 69) (ci := 0) (j := 2) (C := RX0) (T := TX0) (N := 5) (v := .int (M.1 69 2)) cL_69 rfl rfl rfl (by decide) (fun z hz => List.mem_cons_of_mem _ (iw_X0 z hz)) (List.mem_cons_of_mem _ gm_115) dX0_takes_16 ?_
    refine xm_calli hX (xm_runSN hX (As := (fun g => [.ref (g.1 70), .int (M.1 69 2)])) (kX3_item 70 100 cL_70 (M.1 69 2) M) (xm_gN gm_155) rfl ⟨rfl, rfl⟩ nw_13 (List.mem_cons_of_mem _ gm_1) (List.mem_cons_of_mem _ gm_154) hdX3_item ⟨Nat.le_of_ble_eq_true rfl, Nat.le_of_ble_eq_true rfl⟩ rfl (Nat.le_of_ble_eq_true rfl) rfl dX0_takes_19) (fun x2 M1 => ?_)
    refine xm_iload_n hX 1 dX0_takes_22 rfl rfl ?_
    refine xm_icmp_eq hX (tgt := 28) dX0_takes_23 rfl ?_ ?_
    · refine xm_aload_n hX 0 dX0_takes_28 rfl rfl ?_
      refine xm_dup hX rfl dX0_takes_29 ?_
      refine xm_get hX (k := 69) (ci := 0) (j := 2) (C := RX0) (T := TX0) (N := 5) (v := .int (M1.1 69 2)) cL_69 rfl rfl rfl (by decide) (fun z hz => List.mem_cons_of_mem _ (iw_X0 z hz)) (List.mem_cons_of_mem _ gm_115) dX0_takes_30 ?_
      refine xm_iconst hX (v := 1) rfl dX0_takes_33 ?_
      refine xm_iadd hX dX0_takes_34 ?_
      refine xm_puti hX (k := 69) (ci := 0) (j := 2) (C := RX0) (T := TX0) (N := 5) (t0 := tyX0) cL_69 rfl rfl (by decide) (fun z hz => List.mem_cons_of_mem _ (iw_X0 z hz)) tyX0_ok nmX0 rfl rfl (List.mem_cons_of_mem _ gm_115) dX0_takes_35 (fun M3 => ?_)
      refine xm_iconst hX (v := 1) rfl dX0_takes_38 ?_
      exact xm_zret hX dX0_takes_39
    · refine xm_iconst hX (v := 0) rfl dX0_takes_26 ?_
      exact xm_zret hX dX0_takes_27
-- ===== OdometryDesk$Pad.digit()I ['69']
theorem dX0_digit_0 : decode cX0_digit 0 = .ok (.aload_n 0, 1) := by decide +kernel
theorem dX0_digit_1 : decode cX0_digit 1 = .ok (.getfield 32, 3) := by decide +kernel
theorem dX0_digit_4 : decode cX0_digit 4 = .ok (.aload_n 0, 1) := by decide +kernel
theorem dX0_digit_5 : decode cX0_digit 5 = .ok (.getfield 24, 3) := by decide +kernel
theorem dX0_digit_8 : decode cX0_digit 8 = .ok (.if_icmp .ge 17, 3) := by decide +kernel
theorem dX0_digit_11 : decode cX0_digit 11 = .ok (.aload_n 0, 1) := by decide +kernel
theorem dX0_digit_12 : decode cX0_digit 12 = .ok (.getfield 9, 3) := by decide +kernel
theorem dX0_digit_15 : decode cX0_digit 15 = .ok (.aload_n 0, 1) := by decide +kernel
theorem dX0_digit_16 : decode cX0_digit 16 = .ok (.getfield 32, 3) := by decide +kernel
theorem dX0_digit_19 : decode cX0_digit 19 = .ok (.invokestatic 55, 3) := by decide +kernel
theorem dX0_digit_22 : decode cX0_digit 22 = .ok (.goto 4, 3) := by decide +kernel
theorem dX0_digit_25 : decode cX0_digit 25 = .ok (.iconst 0, 1) := by decide +kernel
theorem dX0_digit_26 : decode cX0_digit 26 = .ok (.istore_n 1, 1) := by decide +kernel
theorem dX0_digit_27 : decode cX0_digit 27 = .ok (.iload_n 1, 1) := by decide +kernel
theorem dX0_digit_28 : decode cX0_digit 28 = .ok (.bipush 48, 2) := by decide +kernel
theorem dX0_digit_30 : decode cX0_digit 30 = .ok (.bipush 57, 2) := by decide +kernel
theorem dX0_digit_32 : decode cX0_digit 32 = .ok (.invokestatic 20, 3) := by decide +kernel
theorem dX0_digit_35 : decode cX0_digit 35 = .ok (.ifCond .eq 10, 3) := by decide +kernel
theorem dX0_digit_38 : decode cX0_digit 38 = .ok (.iload_n 1, 1) := by decide +kernel
theorem dX0_digit_39 : decode cX0_digit 39 = .ok (.bipush 48, 2) := by decide +kernel
theorem dX0_digit_41 : decode cX0_digit 41 = .ok (.isub, 1) := by decide +kernel
theorem dX0_digit_42 : decode cX0_digit 42 = .ok (.goto 4, 3) := by decide +kernel
theorem dX0_digit_45 : decode cX0_digit 45 = .ok (.iconst (-1), 1) := by decide +kernel
theorem dX0_digit_46 : decode cX0_digit 46 = .ok (.ireturn, 1) := by decide +kernel
abbrev wX0_digit : List Cond := .code yX0_digit cX0_digit 2 (some .int) :: lw_gd
theorem hdX0_digit : (yX0_digit.cls ≠ "java/lang/invoke/MethodHandle" ∧ yX0_digit.cls ≠ "java/lang/invoke/VarHandle" ∧ (parseMethodDescriptor yX0_digit.desc).map (fun d => d.parameters.length) = some 0) := by decide +kernel
def fX0_digit_26   (s0 : Int32) (M : xm_M) : Option (Int32 × xm_M) :=
  xm_bi (fX3_isWithin s0 ((48 : Int32)) ((57 : Int32)) M) (fun x2 M1 => if x2 = 0 then some ((-1 : Int32), M1) else some (s0 - ((48 : Int32)), M1))
set_option maxRecDepth 20000 in
theorem tfX0_digit_26 {p : Program} {l : Launch} {e : Env} {s : State} {m : MethodId} {args : Array Value} {below : List Frame} {meth : Method} {c : Code} {D : va_G} {g : xm_G} {A : Nat → Prop} (hX : xm_X p m meth c cX0_digit 2 s args wX0_digit RX0 (some .int) D cL g A)     : ∀ (s0 : Int32), ∀ (M : xm_M), xm_J p l e ({ frames := 1, cells := 0, slots := 0, locals := 22 }) s m args below meth c 2 D cL g A (xm_Fi g) 26 [] [.int s0] M (fX0_digit_26 s0 M) := by
  intro s0 M
  unfold fX0_digit_26
  refine xm_istore_n hX (lv' := [(1, .int s0)]) dX0_digit_26 rfl (by decide) rfl ?_
  refine xm_iload_n hX 0 dX0_digit_27 rfl rfl ?_
  refine xm_bipush hX (v := 48) rfl dX0_digit_28 ?_
  refine xm_bipush hX (v := 57) rfl dX0_digit_30 ?_
  refine xm_calli hX (xm_runSN hX (As := (fun g => [.int s0, .int ((48 : Int32)), .int ((57 : Int32))])) (kX3_isWithin s0 ((48 : Int32)) ((57 : Int32)) M) (xm_gN gm_152) rfl ⟨rfl, rfl⟩ nw_11 (List.mem_cons_of_mem _ gm_1) (List.mem_cons_of_mem _ gm_151) hdX3_isWithin ⟨Nat.le_of_ble_eq_true rfl, Nat.le_of_ble_eq_true rfl⟩ rfl (Nat.le_of_ble_eq_true rfl) rfl dX0_digit_32) (fun x2 M1 => ?_)
  refine xm_if_eq hX (tgt := 45) dX0_digit_35 rfl ?_ ?_
  · refine xm_iconst hX (v := -1) rfl dX0_digit_45 ?_
    exact xm_iret hX dX0_digit_46
  · refine xm_iload_n hX 0 dX0_digit_38 rfl rfl ?_
    refine xm_bipush hX (v := 48) rfl dX0_digit_39 ?_
    refine xm_isub hX dX0_digit_41 ?_
    refine xm_goto hX (tgt := 46) dX0_digit_42 rfl ?_
    exact xm_iret hX dX0_digit_46
def fX0_digit   (M : xm_M) : Option (Int32 × xm_M) :=
  if (M.1 69 1) ≤ (M.1 69 2) then fX0_digit_26 ((0 : Int32)) M else xm_bi (fX3_item 70 100 (M.1 69 2) M) (fun x4 M3 => fX0_digit_26 x4 M3)
set_option maxRecDepth 20000 in
theorem kX0_digit {l : Launch}    (M : xm_M) : xm_C l yX0_digit wX0_digit ({ frames := 1, cells := 0, slots := 0, locals := 22 }) cL (fun g => [.ref (g.1 69)]) M xm_Fi (fX0_digit   M) := by
  refine xm_C.of (by decide) rfl (fun g => Nat.le_of_ble_eq_true rfl) ?_
  intro p e s m args below meth c D g A hX
  refine xm_lv (lv' := [(0, .ref (g.1 69))]) rfl ?_
  unfold fX0_digit
  refine xm_aload_n hX 0 dX0_digit_0 rfl rfl ?_
  refine xm_get hX (k := 69) (ci := 0) (j := 2) (C := RX0) (T := TX0) (N := 5) (v := .int (M.1 69 2)) cL_69 rfl rfl rfl (by decide) (fun z hz => List.mem_cons_of_mem _ (iw_X0 z hz)) (List.mem_cons_of_mem _ gm_115) dX0_digit_1 ?_
  refine xm_aload_n hX 0 dX0_digit_4 rfl rfl ?_
  refine xm_get hX (k := 69) (ci := 0) (j := 1) (C := RX0) (T := TX0) (N := 5) (v := .int (M.1 69 1)) cL_69 rfl rfl rfl (by decide) (fun z hz => List.mem_cons_of_mem _ (iw_X0 z hz)) (List.mem_cons_of_mem _ gm_113) dX0_digit_5 ?_
  refine xm_icmp_ge hX (tgt := 25) dX0_digit_8 rfl ?_ ?_
  · refine xm_iconst hX (v := 0) rfl dX0_digit_25 ?_
    refine xm_weak [] (lv' := []) rfl ?_
    exact tfX0_digit_26 hX ((0 : Int32)) M
  · refine xm_aload_n hX 0 dX0_digit_11 rfl rfl ?_
    refine xm_get hX (k := 69) (ci := 0) (j := 0) (C := RX0) (T := TX0) (N := 5) (v := .ref (g.1 70)) cL_69 rfl rfl rfl (by decide) (fun z hz => List.mem_cons_of_mem _ (iw_X0 z hz)) (List.mem_cons_of_mem _ gm_112) dX0_digit_12 ?_
    refine xm_aload_n hX 0 dX0_digit_15 rfl rfl ?_
    refine xm_get hX (k := 69) (ci := 0) (j := 2) (C := RX0) (T := TX0) (N := 5) (v := .int (M.1 69 2)) cL_69 rfl rfl rfl (by decide) (fun z hz => List.mem_cons_of_mem _ (iw_X0 z hz)) (List.mem_cons_of_mem _ gm_115) dX0_digit_16 ?_
    refine xm_calli hX (xm_runSN hX (As := (fun g => [.ref (g.1 70), .int (M.1 69 2)])) (kX3_item 70 100 cL_70 (M.1 69 2) M) (xm_gN gm_155) rfl ⟨rfl, rfl⟩ nw_13 (List.mem_cons_of_mem _ gm_1) (List.mem_cons_of_mem _ gm_154) hdX3_item ⟨Nat.le_of_ble_eq_true rfl, Nat.le_of_ble_eq_true rfl⟩ rfl (Nat.le_of_ble_eq_true rfl) rfl dX0_digit_19) (fun x4 M3 => ?_)
    refine xm_goto hX (tgt := 26) dX0_digit_22 rfl ?_
    refine xm_weak [] (lv' := []) rfl ?_
    exact tfX0_digit_26 hX x4 M3
-- ===== OdometryDesk$Pad.readNumber(II)Z ['69']
theorem dX0_readNumber_0 : decode cX0_readNumber 0 = .ok (.aload_n 0, 1) := by decide +kernel
theorem dX0_readNumber_1 : decode cX0_readNumber 1 = .ok (.invokevirtual 59, 3) := by decide +kernel
theorem dX0_readNumber_4 : decode cX0_readNumber 4 = .ok (.istore_n 3, 1) := by decide +kernel
theorem dX0_readNumber_5 : decode cX0_readNumber 5 = .ok (.iload_n 3, 1) := by decide +kernel
theorem dX0_readNumber_6 : decode cX0_readNumber 6 = .ok (.ifCond .lt 8, 3) := by decide +kernel
theorem dX0_readNumber_9 : decode cX0_readNumber 9 = .ok (.iload_n 3, 1) := by decide +kernel
theorem dX0_readNumber_10 : decode cX0_readNumber 10 = .ok (.iload_n 2, 1) := by decide +kernel
theorem dX0_readNumber_11 : decode cX0_readNumber 11 = .ok (.if_icmp .le 5, 3) := by decide +kernel
theorem dX0_readNumber_14 : decode cX0_readNumber 14 = .ok (.iconst 0, 1) := by decide +kernel
theorem dX0_readNumber_15 : decode cX0_readNumber 15 = .ok (.ireturn, 1) := by decide +kernel
theorem dX0_readNumber_16 : decode cX0_readNumber 16 = .ok (.aload_n 0, 1) := by decide +kernel
theorem dX0_readNumber_17 : decode cX0_readNumber 17 = .ok (.dup, 1) := by decide +kernel
theorem dX0_readNumber_18 : decode cX0_readNumber 18 = .ok (.getfield 32, 3) := by decide +kernel
theorem dX0_readNumber_21 : decode cX0_readNumber 21 = .ok (.iconst 1, 1) := by decide +kernel
theorem dX0_readNumber_22 : decode cX0_readNumber 22 = .ok (.iadd, 1) := by decide +kernel
theorem dX0_readNumber_23 : decode cX0_readNumber 23 = .ok (.putfield 32, 3) := by decide +kernel
theorem dX0_readNumber_26 : decode cX0_readNumber 26 = .ok (.aload_n 0, 1) := by decide +kernel
theorem dX0_readNumber_27 : decode cX0_readNumber 27 = .ok (.getfield 32, 3) := by decide +kernel
theorem dX0_readNumber_30 : decode cX0_readNumber 30 = .ok (.aload_n 0, 1) := by decide +kernel
theorem dX0_readNumber_31 : decode cX0_readNumber 31 = .ok (.getfield 24, 3) := by decide +kernel
theorem dX0_readNumber_34 : decode cX0_readNumber 34 = .ok (.if_icmp .ge 50, 3) := by decide +kernel
theorem dX0_readNumber_37 : decode cX0_readNumber 37 = .ok (.iload_n 3, 1) := by decide +kernel
theorem dX0_readNumber_38 : decode cX0_readNumber 38 = .ok (.ifCond .le 46, 3) := by decide +kernel
theorem dX0_readNumber_41 : decode cX0_readNumber 41 = .ok (.aload_n 0, 1) := by decide +kernel
theorem dX0_readNumber_42 : decode cX0_readNumber 42 = .ok (.invokevirtual 59, 3) := by decide +kernel
theorem dX0_readNumber_45 : decode cX0_readNumber 45 = .ok (.ifCond .lt 39, 3) := by decide +kernel
theorem dX0_readNumber_48 : decode cX0_readNumber 48 = .ok (.bipush 10, 2) := by decide +kernel
theorem dX0_readNumber_50 : decode cX0_readNumber 50 = .ok (.iload_n 3, 1) := by decide +kernel
theorem dX0_readNumber_51 : decode cX0_readNumber 51 = .ok (.imul, 1) := by decide +kernel
theorem dX0_readNumber_52 : decode cX0_readNumber 52 = .ok (.aload_n 0, 1) := by decide +kernel
theorem dX0_readNumber_53 : decode cX0_readNumber 53 = .ok (.invokevirtual 59, 3) := by decide +kernel
theorem dX0_readNumber_56 : decode cX0_readNumber 56 = .ok (.iadd, 1) := by decide +kernel
theorem dX0_readNumber_57 : decode cX0_readNumber 57 = .ok (.iload_n 2, 1) := by decide +kernel
theorem dX0_readNumber_58 : decode cX0_readNumber 58 = .ok (.if_icmp .gt 26, 3) := by decide +kernel
theorem dX0_readNumber_61 : decode cX0_readNumber 61 = .ok (.bipush 10, 2) := by decide +kernel
theorem dX0_readNumber_63 : decode cX0_readNumber 63 = .ok (.iload_n 3, 1) := by decide +kernel
theorem dX0_readNumber_64 : decode cX0_readNumber 64 = .ok (.imul, 1) := by decide +kernel
theorem dX0_readNumber_65 : decode cX0_readNumber 65 = .ok (.aload_n 0, 1) := by decide +kernel
theorem dX0_readNumber_66 : decode cX0_readNumber 66 = .ok (.invokevirtual 59, 3) := by decide +kernel
theorem dX0_readNumber_69 : decode cX0_readNumber 69 = .ok (.iadd, 1) := by decide +kernel
theorem dX0_readNumber_70 : decode cX0_readNumber 70 = .ok (.istore_n 3, 1) := by decide +kernel
theorem dX0_readNumber_71 : decode cX0_readNumber 71 = .ok (.aload_n 0, 1) := by decide +kernel
theorem dX0_readNumber_72 : decode cX0_readNumber 72 = .ok (.dup, 1) := by decide +kernel
theorem dX0_readNumber_73 : decode cX0_readNumber 73 = .ok (.getfield 32, 3) := by decide +kernel
theorem dX0_readNumber_76 : decode cX0_readNumber 76 = .ok (.iconst 1, 1) := by decide +kernel
theorem dX0_readNumber_77 : decode cX0_readNumber 77 = .ok (.iadd, 1) := by decide +kernel
theorem dX0_readNumber_78 : decode cX0_readNumber 78 = .ok (.putfield 32, 3) := by decide +kernel
theorem dX0_readNumber_81 : decode cX0_readNumber 81 = .ok (.goto (-55), 3) := by decide +kernel
theorem dX0_readNumber_84 : decode cX0_readNumber 84 = .ok (.aload_n 0, 1) := by decide +kernel
theorem dX0_readNumber_85 : decode cX0_readNumber 85 = .ok (.getfield 15, 3) := by decide +kernel
theorem dX0_readNumber_88 : decode cX0_readNumber 88 = .ok (.iload_n 1, 1) := by decide +kernel
theorem dX0_readNumber_89 : decode cX0_readNumber 89 = .ok (.iload_n 3, 1) := by decide +kernel
theorem dX0_readNumber_90 : decode cX0_readNumber 90 = .ok (.invokestatic 28, 3) := by decide +kernel
theorem dX0_readNumber_93 : decode cX0_readNumber 93 = .ok (.iconst 1, 1) := by decide +kernel
theorem dX0_readNumber_94 : decode cX0_readNumber 94 = .ok (.ireturn, 1) := by decide +kernel
abbrev wX0_readNumber : List Cond := .code yX0_readNumber cX0_readNumber 4 (some .boolean) :: lw_gd
theorem hdX0_readNumber : (yX0_readNumber.cls ≠ "java/lang/invoke/MethodHandle" ∧ yX0_readNumber.cls ≠ "java/lang/invoke/VarHandle" ∧ (parseMethodDescriptor yX0_readNumber.desc).map (fun d => d.parameters.length) = some 2) := by decide +kernel
def fX0_readNumber_84   (b1 : Int32) (b3 : Int32) (M : xm_M) : Option (Int32 × xm_M) :=
  xm_bv (fX3_keep 71 3 b1 b3 M) (fun M4 => if ((1 : Int32)) = 0 ∨ ((1 : Int32)) = 1 then some ((1 : Int32), M4) else none)
set_option maxRecDepth 20000 in
theorem tfX0_readNumber_84 {p : Program} {l : Launch} {e : Env} {s : State} {m : MethodId} {args : Array Value} {below : List Frame} {meth : Method} {c : Code} {D : va_G} {g : xm_G} {A : Nat → Prop} (hX : xm_X p m meth c cX0_readNumber 4 s args wX0_readNumber RX0 (some .boolean) D cL g A)     : ∀ (b1 : Int32), ∀ (b3 : Int32), ∀ (M : xm_M), xm_J p l e ({ frames := 2, cells := 0, slots := 0, locals := 43 }) s m args below meth c 4 D cL g A (xm_Fi g) 84 [(0, .ref (g.1 69)), (1, .int b1), (3, .int b3)] [] M (fX0_readNumber_84 b1 b3 M) := by
  intro b1 b3 M
  unfold fX0_readNumber_84
  refine xm_aload_n hX 0 dX0_readNumber_84 rfl rfl ?_
  refine xm_get hX (k := 69) (ci := 0) (j := 4) (C := RX0) (T := TX0) (N := 5) (v := .ref (g.1 71)) cL_69 rfl rfl rfl (by decide) (fun z hz => List.mem_cons_of_mem _ (iw_X0 z hz)) (List.mem_cons_of_mem _ gm_119) dX0_readNumber_85 ?_
  refine xm_iload_n hX 1 dX0_readNumber_88 rfl rfl ?_
  refine xm_iload_n hX 2 dX0_readNumber_89 rfl rfl ?_
  refine xm_callv hX (xm_runSN hX (As := (fun g => [.ref (g.1 71), .int b1, .int b3])) (kX3_keep 71 3 cL_71 b1 b3 M) (xm_gN gm_158) rfl ⟨rfl, rfl⟩ nw_12 (List.mem_cons_of_mem _ gm_1) (List.mem_cons_of_mem _ gm_157) hdX3_keep ⟨Nat.le_of_ble_eq_true rfl, Nat.le_of_ble_eq_true rfl⟩ rfl (Nat.le_of_ble_eq_true rfl) rfl dX0_readNumber_90) (fun M4 => ?_)
  refine xm_iconst hX (v := 1) rfl dX0_readNumber_93 ?_
  exact xm_zret hX dX0_readNumber_94
def fX0_readNumber_26  (k26 : Int32 → Int32 → Int32 → xm_M → Option (Int32 × xm_M)) (b1 : Int32) (b2 : Int32) (b3 : Int32) (M : xm_M) : Option (Int32 × xm_M) :=
  if (M.1 69 1) ≤ (M.1 69 2) then fX0_readNumber_84 b1 b3 M else if b3 ≤ 0 then fX0_readNumber_84 b1 b3 M else xm_bi (fX0_digit M) (fun x6 M5 => if x6 < 0 then fX0_readNumber_84 b1 b3 M5 else xm_bi (fX0_digit M5) (fun x8 M7 => if b2 < ((((10 : Int32)) * b3) + x8) then fX0_readNumber_84 b1 b3 M7 else xm_bi (fX0_digit M7) (fun x10 M9 => xm_lt ((((10 : Int32)) * b3) + x10) (fun x11 => xm_lt (xm_s M9 69 2 ((M9.1 69 2) + ((1 : Int32)))) (fun M12 => k26 b1 b2 x11 M12)))))
set_option maxRecDepth 20000 in
theorem tfX0_readNumber_26 {p : Program} {l : Launch} {e : Env} {s : State} {m : MethodId} {args : Array Value} {below : List Frame} {meth : Method} {c : Code} {D : va_G} {g : xm_G} {A : Nat → Prop} (hX : xm_X p m meth c cX0_readNumber 4 s args wX0_readNumber RX0 (some .boolean) D cL g A)   (k26 : Int32 → Int32 → Int32 → xm_M → Option (Int32 × xm_M)) (h26 : ∀ (b1 : Int32), ∀ (b2 : Int32), ∀ (b3 : Int32), ∀ (M : xm_M), xm_J p l e ({ frames := 2, cells := 0, slots := 0, locals := 43 }) s m args below meth c 4 D cL g A (xm_Fi g) 26 [(0, .ref (g.1 69)), (1, .int b1), (2, .int b2), (3, .int b3)] [] M (k26 b1 b2 b3 M)) : ∀ (b1 : Int32), ∀ (b2 : Int32), ∀ (b3 : Int32), ∀ (M : xm_M), xm_J p l e ({ frames := 2, cells := 0, slots := 0, locals := 43 }) s m args below meth c 4 D cL g A (xm_Fi g) 26 [(0, .ref (g.1 69)), (1, .int b1), (2, .int b2), (3, .int b3)] [] M (fX0_readNumber_26 k26 b1 b2 b3 M) := by
  intro b1 b2 b3 M
  unfold fX0_readNumber_26
  refine xm_aload_n hX 0 dX0_readNumber_26 rfl rfl ?_
  refine xm_get hX (k := 69) (ci := 0) (j := 2) (C := RX0) (T := TX0) (N := 5) (v := .int (M.1 69 2)) cL_69 rfl rfl rfl (by decide) (fun z hz => List.mem_cons_of_mem _ (iw_X0 z hz)) (List.mem_cons_of_mem _ gm_115) dX0_readNumber_27 ?_
  refine xm_aload_n hX 0 dX0_readNumber_30 rfl rfl ?_
  refine xm_get hX (k := 69) (ci := 0) (j := 1) (C := RX0) (T := TX0) (N := 5) (v := .int (M.1 69 1)) cL_69 rfl rfl rfl (by decide) (fun z hz => List.mem_cons_of_mem _ (iw_X0 z hz)) (List.mem_cons_of_mem _ gm_113) dX0_readNumber_31 ?_
  refine xm_icmp_ge hX (tgt := 84) dX0_readNumber_34 rfl ?_ ?_
  · refine xm_weak [0, 1, 3] (lv' := [(0, .ref (g.1 69)), (1, .int b1), (3, .int b3)]) rfl ?_
    exact tfX0_readNumber_84 hX b1 b3 M
  · refine xm_iload_n hX 3 dX0_readNumber_37 rfl rfl ?_
    refine xm_if_le hX (tgt := 84) dX0_readNumber_38 rfl ?_ ?_
    · refine xm_weak [0, 1, 3] (lv' := [(0, .ref (g.1 69)), (1, .int b1), (3, .int b3)]) rfl ?_
      exact tfX0_readNumber_84 hX b1 b3 M
    · refine xm_aload_n hX 0 dX0_readNumber_41 rfl rfl ?_
      refine xm_calli hX (xm_runV hX (k := 69) (ci := 0) (As := (fun g => [])) (kX0_digit M) cL_69 rfl (xm_gV gm_393 gm_394 gm_709 gm_4 gm_395) rfl ⟨rfl, rfl⟩ ⟨rfl, hdX0_digit⟩ ⟨Nat.le_of_ble_eq_true rfl, Nat.le_of_ble_eq_true rfl⟩ rfl (Nat.le_of_ble_eq_true rfl) rfl dX0_readNumber_42) (fun x6 M5 => ?_)
      refine xm_if_lt hX (tgt := 84) dX0_readNumber_45 rfl ?_ ?_
      · refine xm_weak [0, 1, 3] (lv' := [(0, .ref (g.1 69)), (1, .int b1), (3, .int b3)]) rfl ?_
        exact tfX0_readNumber_84 hX b1 b3 M5
      · refine xm_bipush hX (v := 10) rfl dX0_readNumber_48 ?_
        refine xm_iload_n hX 3 dX0_readNumber_50 rfl rfl ?_
        refine xm_imul hX dX0_readNumber_51 ?_
        refine xm_aload_n hX 0 dX0_readNumber_52 rfl rfl ?_
        refine xm_calli hX (xm_runV hX (k := 69) (ci := 0) (As := (fun g => [])) (kX0_digit M5) cL_69 rfl (xm_gV gm_393 gm_394 gm_709 gm_4 gm_395) rfl ⟨rfl, rfl⟩ ⟨rfl, hdX0_digit⟩ ⟨Nat.le_of_ble_eq_true rfl, Nat.le_of_ble_eq_true rfl⟩ rfl (Nat.le_of_ble_eq_true rfl) rfl dX0_readNumber_53) (fun x8 M7 => ?_)
        refine xm_iadd hX dX0_readNumber_56 ?_
        refine xm_iload_n hX 2 dX0_readNumber_57 rfl rfl ?_
        refine xm_icmp_gt hX (tgt := 84) dX0_readNumber_58 rfl ?_ ?_
        · refine xm_weak [0, 1, 3] (lv' := [(0, .ref (g.1 69)), (1, .int b1), (3, .int b3)]) rfl ?_
          exact tfX0_readNumber_84 hX b1 b3 M7
        · refine xm_bipush hX (v := 10) rfl dX0_readNumber_61 ?_
          refine xm_iload_n hX 3 dX0_readNumber_63 rfl rfl ?_
          refine xm_imul hX dX0_readNumber_64 ?_
          refine xm_aload_n hX 0 dX0_readNumber_65 rfl rfl ?_
          refine xm_calli hX (xm_runV hX (k := 69) (ci := 0) (As := (fun g => [])) (kX0_digit M7) cL_69 rfl (xm_gV gm_393 gm_394 gm_709 gm_4 gm_395) rfl ⟨rfl, rfl⟩ ⟨rfl, hdX0_digit⟩ ⟨Nat.le_of_ble_eq_true rfl, Nat.le_of_ble_eq_true rfl⟩ rfl (Nat.le_of_ble_eq_true rfl) rfl dX0_readNumber_66) (fun x10 M9 => ?_)
          refine xm_iadd hX dX0_readNumber_69 ?_
          refine xm_nmi (fun x11 => ?_)
          refine xm_istore_n hX (lv' := [(3, .int x11), (0, .ref (g.1 69)), (1, .int b1), (2, .int b2)]) dX0_readNumber_70 rfl (by decide) rfl ?_
          refine xm_aload_n hX 1 dX0_readNumber_71 rfl rfl ?_
          refine xm_dup hX rfl dX0_readNumber_72 ?_
          refine xm_get hX (k := 69) (ci := 0) (j := 2) (C := RX0) (T := TX0) (N := 5) (v := .int (M9.1 69 2)) cL_69 rfl rfl rfl (by decide) (fun z hz => List.mem_cons_of_mem _ (iw_X0 z hz)) (List.mem_cons_of_mem _ gm_115) dX0_readNumber_73 ?_
          refine xm_iconst hX (v := 1) rfl dX0_readNumber_76 ?_
          refine xm_iadd hX dX0_readNumber_77 ?_
          refine xm_puti hX (k := 69) (ci := 0) (j := 2) (C := RX0) (T := TX0) (N := 5) (t0 := tyX0) cL_69 rfl rfl (by decide) (fun z hz => List.mem_cons_of_mem _ (iw_X0 z hz)) tyX0_ok nmX0 rfl rfl (List.mem_cons_of_mem _ gm_115) dX0_readNumber_78 (fun M12 => ?_)
          refine xm_goto hX (tgt := 26) dX0_readNumber_81 rfl ?_
          refine xm_weak [1, 2, 3, 0] (lv' := [(0, .ref (g.1 69)), (1, .int b1), (2, .int b2), (3, .int x11)]) rfl ?_
          exact h26 b1 b2 x11 M12
def fX0_readNumber_26_it   (nq : Nat) : Int32 → Int32 → Int32 → xm_M → Option (Int32 × xm_M) := xm_it (fun kq => fX0_readNumber_26 kq) (fun _ _ _ _ => none) nq
theorem tfX0_readNumber_26_it {p : Program} {l : Launch} {e : Env} {s : State} {m : MethodId} {args : Array Value} {below : List Frame} {meth : Method} {c : Code} {D : va_G} {g : xm_G} {A : Nat → Prop} (hX : xm_X p m meth c cX0_readNumber 4 s args wX0_readNumber RX0 (some .boolean) D cL g A)     : ∀ (nq : Nat), ∀ (b1 : Int32), ∀ (b2 : Int32), ∀ (b3 : Int32), ∀ (M : xm_M), xm_J p l e ({ frames := 2, cells := 0, slots := 0, locals := 43 }) s m args below meth c 4 D cL g A (xm_Fi g) 26 [(0, .ref (g.1 69)), (1, .int b1), (2, .int b2), (3, .int b3)] [] M (fX0_readNumber_26_it  nq b1 b2 b3 M) := by
  intro nq
  induction nq with
  | zero => exact fun _ _ _ _ => xm_none
  | succ nq ih => exact tfX0_readNumber_26 hX _ ih
def fX0_readNumber  (a1 : Int32) (a2 : Int32) (M : xm_M) : Option (Int32 × xm_M) :=
  xm_bi (fX0_digit M) (fun x2 M1 => if x2 < 0 then if ((0 : Int32)) = 0 ∨ ((0 : Int32)) = 1 then some ((0 : Int32), M1) else none else if x2 ≤ a2 then xm_lt (xm_s M1 69 2 ((M1.1 69 2) + ((1 : Int32)))) (fun M3 => fX0_readNumber_26_it xm_N a1 a2 x2 M3) else if ((0 : Int32)) = 0 ∨ ((0 : Int32)) = 1 then some ((0 : Int32), M1) else none)
set_option maxRecDepth 20000 in
theorem kX0_readNumber {l : Launch}   (a1 : Int32) (a2 : Int32) (M : xm_M) : xm_C l yX0_readNumber wX0_readNumber ({ frames := 2, cells := 0, slots := 0, locals := 43 }) cL (fun g => [.ref (g.1 69), .int a1, .int a2]) M xm_Fi (fX0_readNumber  a1 a2 M) := by
  refine xm_C.of (by decide) rfl (fun g => Nat.le_of_ble_eq_true rfl) ?_
  intro p e s m args below meth c D g A hX
  refine xm_lv (lv' := [(0, .ref (g.1 69)), (1, .int a1), (2, .int a2)]) rfl ?_
  unfold fX0_readNumber
  refine xm_aload_n hX 0 dX0_readNumber_0 rfl rfl ?_
  refine xm_calli hX (xm_runV hX (k := 69) (ci := 0) (As := (fun g => [])) (kX0_digit M) cL_69 rfl (xm_gV gm_393 gm_394 gm_709 gm_4 gm_395) rfl ⟨rfl, rfl⟩ ⟨rfl, hdX0_digit⟩ ⟨Nat.le_of_ble_eq_true rfl, Nat.le_of_ble_eq_true rfl⟩ rfl (Nat.le_of_ble_eq_true rfl) rfl dX0_readNumber_1) (fun x2 M1 => ?_)
  refine xm_istore_n hX (lv' := [(3, .int x2), (0, .ref (g.1 69)), (1, .int a1), (2, .int a2)]) dX0_readNumber_4 rfl (by decide) rfl ?_
  refine xm_iload_n hX 0 dX0_readNumber_5 rfl rfl ?_
  refine xm_if_lt hX (tgt := 14) dX0_readNumber_6 rfl ?_ ?_
  · refine xm_iconst hX (v := 0) rfl dX0_readNumber_14 ?_
    exact xm_zret hX dX0_readNumber_15
  · refine xm_iload_n hX 0 dX0_readNumber_9 rfl rfl ?_
    refine xm_iload_n hX 3 dX0_readNumber_10 rfl rfl ?_
    refine xm_icmp_le hX (tgt := 16) dX0_readNumber_11 rfl ?_ ?_
    · refine xm_aload_n hX 1 dX0_readNumber_16 rfl rfl ?_
      refine xm_dup hX rfl dX0_readNumber_17 ?_
      refine xm_get hX (k := 69) (ci := 0) (j := 2) (C := RX0) (T := TX0) (N := 5) (v := .int (M1.1 69 2)) cL_69 rfl rfl rfl (by decide) (fun z hz => List.mem_cons_of_mem _ (iw_X0 z hz)) (List.mem_cons_of_mem _ gm_115) dX0_readNumber_18 ?_
      refine xm_iconst hX (v := 1) rfl dX0_readNumber_21 ?_
      refine xm_iadd hX dX0_readNumber_22 ?_
      refine xm_puti hX (k := 69) (ci := 0) (j := 2) (C := RX0) (T := TX0) (N := 5) (t0 := tyX0) cL_69 rfl rfl (by decide) (fun z hz => List.mem_cons_of_mem _ (iw_X0 z hz)) tyX0_ok nmX0 rfl rfl (List.mem_cons_of_mem _ gm_115) dX0_readNumber_23 (fun M3 => ?_)
      refine xm_weak [1, 2, 3, 0] (lv' := [(0, .ref (g.1 69)), (1, .int a1), (2, .int a2), (3, .int x2)]) rfl ?_
      exact tfX0_readNumber_26_it hX xm_N a1 a2 x2 M3
    · refine xm_iconst hX (v := 0) rfl dX0_readNumber_14 ?_
      exact xm_zret hX dX0_readNumber_15
-- ===== OdometryDesk$Pad.readInteger(II)Z ['69']
theorem dX0_readInteger_0 : decode cX0_readInteger 0 = .ok (.aload_n 0, 1) := by decide +kernel
theorem dX0_readInteger_1 : decode cX0_readInteger 1 = .ok (.bipush 45, 2) := by decide +kernel
theorem dX0_readInteger_3 : decode cX0_readInteger 3 = .ok (.invokevirtual 39, 3) := by decide +kernel
theorem dX0_readInteger_6 : decode cX0_readInteger 6 = .ok (.istore_n 3, 1) := by decide +kernel
theorem dX0_readInteger_7 : decode cX0_readInteger 7 = .ok (.aload_n 0, 1) := by decide +kernel
theorem dX0_readInteger_8 : decode cX0_readInteger 8 = .ok (.iload_n 1, 1) := by decide +kernel
theorem dX0_readInteger_9 : decode cX0_readInteger 9 = .ok (.iload_n 2, 1) := by decide +kernel
theorem dX0_readInteger_10 : decode cX0_readInteger 10 = .ok (.invokevirtual 47, 3) := by decide +kernel
theorem dX0_readInteger_13 : decode cX0_readInteger 13 = .ok (.ifCond .ne 5, 3) := by decide +kernel
theorem dX0_readInteger_16 : decode cX0_readInteger 16 = .ok (.iconst 0, 1) := by decide +kernel
theorem dX0_readInteger_17 : decode cX0_readInteger 17 = .ok (.ireturn, 1) := by decide +kernel
theorem dX0_readInteger_18 : decode cX0_readInteger 18 = .ok (.iload_n 3, 1) := by decide +kernel
theorem dX0_readInteger_19 : decode cX0_readInteger 19 = .ok (.ifCond .eq 20, 3) := by decide +kernel
theorem dX0_readInteger_22 : decode cX0_readInteger 22 = .ok (.aload_n 0, 1) := by decide +kernel
theorem dX0_readInteger_23 : decode cX0_readInteger 23 = .ok (.getfield 15, 3) := by decide +kernel
theorem dX0_readInteger_26 : decode cX0_readInteger 26 = .ok (.iload_n 1, 1) := by decide +kernel
theorem dX0_readInteger_27 : decode cX0_readInteger 27 = .ok (.aload_n 0, 1) := by decide +kernel
theorem dX0_readInteger_28 : decode cX0_readInteger 28 = .ok (.getfield 15, 3) := by decide +kernel
theorem dX0_readInteger_31 : decode cX0_readInteger 31 = .ok (.iload_n 1, 1) := by decide +kernel
theorem dX0_readInteger_32 : decode cX0_readInteger 32 = .ok (.invokestatic 55, 3) := by decide +kernel
theorem dX0_readInteger_35 : decode cX0_readInteger 35 = .ok (.ineg, 1) := by decide +kernel
theorem dX0_readInteger_36 : decode cX0_readInteger 36 = .ok (.invokestatic 28, 3) := by decide +kernel
theorem dX0_readInteger_39 : decode cX0_readInteger 39 = .ok (.iconst 1, 1) := by decide +kernel
theorem dX0_readInteger_40 : decode cX0_readInteger 40 = .ok (.ireturn, 1) := by decide +kernel
abbrev wX0_readInteger : List Cond := .code yX0_readInteger cX0_readInteger 4 (some .boolean) :: lw_gd
theorem hdX0_readInteger : (yX0_readInteger.cls ≠ "java/lang/invoke/MethodHandle" ∧ yX0_readInteger.cls ≠ "java/lang/invoke/VarHandle" ∧ (parseMethodDescriptor yX0_readInteger.desc).map (fun d => d.parameters.length) = some 2) := by decide +kernel
def fX0_readInteger  (a1 : Int32) (a2 : Int32) (M : xm_M) : Option (Int32 × xm_M) :=
  xm_bi (fX0_takes ((45 : Int32)) M) (fun x2 M1 => xm_bi (fX0_readNumber a1 a2 M1) (fun x4 M3 => if x4 = 0 then if ((0 : Int32)) = 0 ∨ ((0 : Int32)) = 1 then some ((0 : Int32), M3) else none else if x2 = 0 then if ((1 : Int32)) = 0 ∨ ((1 : Int32)) = 1 then some ((1 : Int32), M3) else none else xm_bi (fX3_item 71 3 a1 M3) (fun x6 M5 => xm_bv (fX3_keep 71 3 a1 (-x6) M5) (fun M7 => if ((1 : Int32)) = 0 ∨ ((1 : Int32)) = 1 then some ((1 : Int32), M7) else none))))
set_option maxRecDepth 20000 in
theorem kX0_readInteger {l : Launch}   (a1 : Int32) (a2 : Int32) (M : xm_M) : xm_C l yX0_readInteger wX0_readInteger ({ frames := 3, cells := 0, slots := 0, locals := 66 }) cL (fun g => [.ref (g.1 69), .int a1, .int a2]) M xm_Fi (fX0_readInteger  a1 a2 M) := by
  refine xm_C.of (by decide) rfl (fun g => Nat.le_of_ble_eq_true rfl) ?_
  intro p e s m args below meth c D g A hX
  refine xm_lv (lv' := [(0, .ref (g.1 69)), (1, .int a1), (2, .int a2)]) rfl ?_
  unfold fX0_readInteger
  refine xm_aload_n hX 0 dX0_readInteger_0 rfl rfl ?_
  refine xm_bipush hX (v := 45) rfl dX0_readInteger_1 ?_
  refine xm_calli hX (xm_runV hX (k := 69) (ci := 0) (As := (fun g => [.int ((45 : Int32))])) (kX0_takes ((45 : Int32)) M) cL_69 rfl (xm_gV gm_386 gm_387 gm_388 gm_4 gm_389) rfl ⟨rfl, rfl⟩ ⟨rfl, hdX0_takes⟩ ⟨Nat.le_of_ble_eq_true rfl, Nat.le_of_ble_eq_true rfl⟩ rfl (Nat.le_of_ble_eq_true rfl) rfl dX0_readInteger_3) (fun x2 M1 => ?_)
  refine xm_istore_n hX (lv' := [(3, .int x2), (0, .ref (g.1 69)), (1, .int a1), (2, .int a2)]) dX0_readInteger_6 rfl (by decide) rfl ?_
  refine xm_aload_n hX 1 dX0_readInteger_7 rfl rfl ?_
  refine xm_iload_n hX 2 dX0_readInteger_8 rfl rfl ?_
  refine xm_iload_n hX 3 dX0_readInteger_9 rfl rfl ?_
  refine xm_calli hX (xm_runV hX (k := 69) (ci := 0) (As := (fun g => [.int a1, .int a2])) (kX0_readNumber a1 a2 M1) cL_69 rfl (xm_gV gm_390 gm_391 gm_708 gm_4 gm_392) rfl ⟨rfl, rfl⟩ ⟨rfl, hdX0_readNumber⟩ ⟨Nat.le_of_ble_eq_true rfl, Nat.le_of_ble_eq_true rfl⟩ rfl (Nat.le_of_ble_eq_true rfl) rfl dX0_readInteger_10) (fun x4 M3 => ?_)
  refine xm_if_ne hX (tgt := 18) dX0_readInteger_13 rfl ?_ ?_
  · refine xm_iload_n hX 0 dX0_readInteger_18 rfl rfl ?_
    refine xm_if_eq hX (tgt := 39) dX0_readInteger_19 rfl ?_ ?_
    · refine xm_iconst hX (v := 1) rfl dX0_readInteger_39 ?_
      exact xm_zret hX dX0_readInteger_40
    · refine xm_aload_n hX 1 dX0_readInteger_22 rfl rfl ?_
      refine xm_get hX (k := 69) (ci := 0) (j := 4) (C := RX0) (T := TX0) (N := 5) (v := .ref (g.1 71)) cL_69 rfl rfl rfl (by decide) (fun z hz => List.mem_cons_of_mem _ (iw_X0 z hz)) (List.mem_cons_of_mem _ gm_119) dX0_readInteger_23 ?_
      refine xm_iload_n hX 2 dX0_readInteger_26 rfl rfl ?_
      refine xm_aload_n hX 1 dX0_readInteger_27 rfl rfl ?_
      refine xm_get hX (k := 69) (ci := 0) (j := 4) (C := RX0) (T := TX0) (N := 5) (v := .ref (g.1 71)) cL_69 rfl rfl rfl (by decide) (fun z hz => List.mem_cons_of_mem _ (iw_X0 z hz)) (List.mem_cons_of_mem _ gm_119) dX0_readInteger_28 ?_
      refine xm_iload_n hX 2 dX0_readInteger_31 rfl rfl ?_
      refine xm_calli hX (xm_runSN hX (As := (fun g => [.ref (g.1 71), .int a1])) (kX3_item 71 3 cL_71 a1 M3) (xm_gN gm_155) rfl ⟨rfl, rfl⟩ nw_13 (List.mem_cons_of_mem _ gm_1) (List.mem_cons_of_mem _ gm_154) hdX3_item ⟨Nat.le_of_ble_eq_true rfl, Nat.le_of_ble_eq_true rfl⟩ rfl (Nat.le_of_ble_eq_true rfl) rfl dX0_readInteger_32) (fun x6 M5 => ?_)
      refine xm_ineg hX dX0_readInteger_35 ?_
      refine xm_callv hX (xm_runSN hX (As := (fun g => [.ref (g.1 71), .int a1, .int (-x6)])) (kX3_keep 71 3 cL_71 a1 (-x6) M5) (xm_gN gm_158) rfl ⟨rfl, rfl⟩ nw_12 (List.mem_cons_of_mem _ gm_1) (List.mem_cons_of_mem _ gm_157) hdX3_keep ⟨Nat.le_of_ble_eq_true rfl, Nat.le_of_ble_eq_true rfl⟩ rfl (Nat.le_of_ble_eq_true rfl) rfl dX0_readInteger_36) (fun M7 => ?_)
      refine xm_iconst hX (v := 1) rfl dX0_readInteger_39 ?_
      exact xm_zret hX dX0_readInteger_40
  · refine xm_iconst hX (v := 0) rfl dX0_readInteger_16 ?_
    exact xm_zret hX dX0_readInteger_17
-- ===== OdometryDesk$Pad.readEntry()Z ['69']
theorem dX0_readEntry_0 : decode cX0_readEntry 0 = .ok (.aload_n 0, 1) := by decide +kernel
theorem dX0_readEntry_1 : decode cX0_readEntry 1 = .ok (.aload_n 0, 1) := by decide +kernel
theorem dX0_readEntry_2 : decode cX0_readEntry 2 = .ok (.bipush 109, 2) := by decide +kernel
theorem dX0_readEntry_4 : decode cX0_readEntry 4 = .ok (.invokevirtual 39, 3) := by decide +kernel
theorem dX0_readEntry_7 : decode cX0_readEntry 7 = .ok (.putfield 43, 3) := by decide +kernel
theorem dX0_readEntry_10 : decode cX0_readEntry 10 = .ok (.aload_n 0, 1) := by decide +kernel
theorem dX0_readEntry_11 : decode cX0_readEntry 11 = .ok (.getfield 43, 3) := by decide +kernel
theorem dX0_readEntry_14 : decode cX0_readEntry 14 = .ok (.ifCond .eq 10, 3) := by decide +kernel
theorem dX0_readEntry_17 : decode cX0_readEntry 17 = .ok (.aload_n 0, 1) := by decide +kernel
theorem dX0_readEntry_18 : decode cX0_readEntry 18 = .ok (.iconst 0, 1) := by decide +kernel
theorem dX0_readEntry_19 : decode cX0_readEntry 19 = .ok (.iconst 5, 1) := by decide +kernel
theorem dX0_readEntry_20 : decode cX0_readEntry 20 = .ok (.invokevirtual 47, 3) := by decide +kernel
theorem dX0_readEntry_23 : decode cX0_readEntry 23 = .ok (.ireturn, 1) := by decide +kernel
theorem dX0_readEntry_24 : decode cX0_readEntry 24 = .ok (.aload_n 0, 1) := by decide +kernel
theorem dX0_readEntry_25 : decode cX0_readEntry 25 = .ok (.iconst 0, 1) := by decide +kernel
theorem dX0_readEntry_26 : decode cX0_readEntry 26 = .ok (.sipush 300, 3) := by decide +kernel
theorem dX0_readEntry_29 : decode cX0_readEntry 29 = .ok (.invokevirtual 51, 3) := by decide +kernel
theorem dX0_readEntry_32 : decode cX0_readEntry 32 = .ok (.ifCond .eq 46, 3) := by decide +kernel
theorem dX0_readEntry_35 : decode cX0_readEntry 35 = .ok (.aload_n 0, 1) := by decide +kernel
theorem dX0_readEntry_36 : decode cX0_readEntry 36 = .ok (.bipush 44, 2) := by decide +kernel
theorem dX0_readEntry_38 : decode cX0_readEntry 38 = .ok (.invokevirtual 39, 3) := by decide +kernel
theorem dX0_readEntry_41 : decode cX0_readEntry 41 = .ok (.ifCond .eq 37, 3) := by decide +kernel
theorem dX0_readEntry_44 : decode cX0_readEntry 44 = .ok (.aload_n 0, 1) := by decide +kernel
theorem dX0_readEntry_45 : decode cX0_readEntry 45 = .ok (.iconst 1, 1) := by decide +kernel
theorem dX0_readEntry_46 : decode cX0_readEntry 46 = .ok (.sipush 300, 3) := by decide +kernel
theorem dX0_readEntry_49 : decode cX0_readEntry 49 = .ok (.invokevirtual 51, 3) := by decide +kernel
theorem dX0_readEntry_52 : decode cX0_readEntry 52 = .ok (.ifCond .eq 26, 3) := by decide +kernel
theorem dX0_readEntry_55 : decode cX0_readEntry 55 = .ok (.aload_n 0, 1) := by decide +kernel
theorem dX0_readEntry_56 : decode cX0_readEntry 56 = .ok (.bipush 44, 2) := by decide +kernel
theorem dX0_readEntry_58 : decode cX0_readEntry 58 = .ok (.invokevirtual 39, 3) := by decide +kernel
theorem dX0_readEntry_61 : decode cX0_readEntry 61 = .ok (.ifCond .eq 17, 3) := by decide +kernel
theorem dX0_readEntry_64 : decode cX0_readEntry 64 = .ok (.aload_n 0, 1) := by decide +kernel
theorem dX0_readEntry_65 : decode cX0_readEntry 65 = .ok (.iconst 2, 1) := by decide +kernel
theorem dX0_readEntry_66 : decode cX0_readEntry 66 = .ok (.ldc 54, 2) := by decide +kernel
theorem dX0_readEntry_68 : decode cX0_readEntry 68 = .ok (.invokevirtual 51, 3) := by decide +kernel
theorem dX0_readEntry_71 : decode cX0_readEntry 71 = .ok (.ifCond .eq 7, 3) := by decide +kernel
theorem dX0_readEntry_74 : decode cX0_readEntry 74 = .ok (.iconst 1, 1) := by decide +kernel
theorem dX0_readEntry_75 : decode cX0_readEntry 75 = .ok (.goto 4, 3) := by decide +kernel
theorem dX0_readEntry_78 : decode cX0_readEntry 78 = .ok (.iconst 0, 1) := by decide +kernel
theorem dX0_readEntry_79 : decode cX0_readEntry 79 = .ok (.ireturn, 1) := by decide +kernel
abbrev wX0_readEntry : List Cond := .code yX0_readEntry cX0_readEntry 1 (some .boolean) :: lw_gd
theorem hdX0_readEntry : (yX0_readEntry.cls ≠ "java/lang/invoke/MethodHandle" ∧ yX0_readEntry.cls ≠ "java/lang/invoke/VarHandle" ∧ (parseMethodDescriptor yX0_readEntry.desc).map (fun d => d.parameters.length) = some 0) := by decide +kernel
def fX0_readEntry   (M : xm_M) : Option (Int32 × xm_M) :=
  xm_bi (fX0_takes ((109 : Int32)) M) (fun x2 M1 => if x2 = 0 ∨ x2 = 1 then xm_lt (xm_s M1 69 3 x2) (fun M3 => if (M3.1 69 3) = 0 then xm_bi (fX0_readInteger ((0 : Int32)) ((300 : Int32)) M3) (fun x5 M4 => if x5 = 0 then if ((0 : Int32)) = 0 ∨ ((0 : Int32)) = 1 then some ((0 : Int32), M4) else none else xm_bi (fX0_takes ((44 : Int32)) M4) (fun x7 M6 => if x7 = 0 then if ((0 : Int32)) = 0 ∨ ((0 : Int32)) = 1 then some ((0 : Int32), M6) else none else xm_bi (fX0_readInteger ((1 : Int32)) ((300 : Int32)) M6) (fun x9 M8 => if x9 = 0 then if ((0 : Int32)) = 0 ∨ ((0 : Int32)) = 1 then some ((0 : Int32), M8) else none else xm_bi (fX0_takes ((44 : Int32)) M8) (fun x11 M10 => if x11 = 0 then if ((0 : Int32)) = 0 ∨ ((0 : Int32)) = 1 then some ((0 : Int32), M10) else none else xm_bi (fX0_readInteger ((2 : Int32)) ((300000 : Int32)) M10) (fun x13 M12 => if x13 = 0 then if ((0 : Int32)) = 0 ∨ ((0 : Int32)) = 1 then some ((0 : Int32), M12) else none else if ((1 : Int32)) = 0 ∨ ((1 : Int32)) = 1 then some ((1 : Int32), M12) else none))))) else xm_bi (fX0_readNumber ((0 : Int32)) ((5 : Int32)) M3) (fun x15 M14 => if x15 = 0 ∨ x15 = 1 then some (x15, M14) else none)) else none)
set_option maxRecDepth 20000 in
theorem kX0_readEntry {l : Launch}    (M : xm_M) : xm_C l yX0_readEntry wX0_readEntry ({ frames := 4, cells := 0, slots := 0, locals := 89 }) cL (fun g => [.ref (g.1 69)]) M xm_Fi (fX0_readEntry   M) := by
  refine xm_C.of (by decide) rfl (fun g => Nat.le_of_ble_eq_true rfl) ?_
  intro p e s m args below meth c D g A hX
  refine xm_lv (lv' := [(0, .ref (g.1 69))]) rfl ?_
  unfold fX0_readEntry
  refine xm_aload_n hX 0 dX0_readEntry_0 rfl rfl ?_
  refine xm_aload_n hX 0 dX0_readEntry_1 rfl rfl ?_
  refine xm_bipush hX (v := 109) rfl dX0_readEntry_2 ?_
  refine xm_calli hX (xm_runV hX (k := 69) (ci := 0) (As := (fun g => [.int ((109 : Int32))])) (kX0_takes ((109 : Int32)) M) cL_69 rfl (xm_gV gm_386 gm_387 gm_388 gm_4 gm_389) rfl ⟨rfl, rfl⟩ ⟨rfl, hdX0_takes⟩ ⟨Nat.le_of_ble_eq_true rfl, Nat.le_of_ble_eq_true rfl⟩ rfl (Nat.le_of_ble_eq_true rfl) rfl dX0_readEntry_4) (fun x2 M1 => ?_)
  refine xm_putz hX (k := 69) (ci := 0) (j := 3) (C := RX0) (T := TX0) (N := 5) (t0 := tyX0) cL_69 rfl rfl (by decide) (fun z hz => List.mem_cons_of_mem _ (iw_X0 z hz)) tyX0_ok nmX0 rfl rfl (List.mem_cons_of_mem _ gm_117) dX0_readEntry_7 (fun M3 => ?_)
  refine xm_aload_n hX 0 dX0_readEntry_10 rfl rfl ?_
  refine xm_get hX (k := 69) (ci := 0) (j := 3) (C := RX0) (T := TX0) (N := 5) (v := .int (M3.1 69 3)) cL_69 rfl rfl rfl (by decide) (fun z hz => List.mem_cons_of_mem _ (iw_X0 z hz)) (List.mem_cons_of_mem _ gm_117) dX0_readEntry_11 ?_
  refine xm_if_eq hX (tgt := 24) dX0_readEntry_14 rfl ?_ ?_
  · refine xm_aload_n hX 0 dX0_readEntry_24 rfl rfl ?_
    refine xm_iconst hX (v := 0) rfl dX0_readEntry_25 ?_
    refine xm_sipush hX (v := 300) rfl dX0_readEntry_26 ?_
    refine xm_calli hX (xm_runV hX (k := 69) (ci := 0) (As := (fun g => [.int ((0 : Int32)), .int ((300 : Int32))])) (kX0_readInteger ((0 : Int32)) ((300 : Int32)) M3) cL_69 rfl (xm_gV gm_396 gm_397 gm_710 gm_4 gm_398) rfl ⟨rfl, rfl⟩ ⟨rfl, hdX0_readInteger⟩ ⟨Nat.le_of_ble_eq_true rfl, Nat.le_of_ble_eq_true rfl⟩ rfl (Nat.le_of_ble_eq_true rfl) rfl dX0_readEntry_29) (fun x5 M4 => ?_)
    refine xm_if_eq hX (tgt := 78) dX0_readEntry_32 rfl ?_ ?_
    · refine xm_iconst hX (v := 0) rfl dX0_readEntry_78 ?_
      exact xm_zret hX dX0_readEntry_79
    · refine xm_aload_n hX 0 dX0_readEntry_35 rfl rfl ?_
      refine xm_bipush hX (v := 44) rfl dX0_readEntry_36 ?_
      refine xm_calli hX (xm_runV hX (k := 69) (ci := 0) (As := (fun g => [.int ((44 : Int32))])) (kX0_takes ((44 : Int32)) M4) cL_69 rfl (xm_gV gm_386 gm_387 gm_388 gm_4 gm_389) rfl ⟨rfl, rfl⟩ ⟨rfl, hdX0_takes⟩ ⟨Nat.le_of_ble_eq_true rfl, Nat.le_of_ble_eq_true rfl⟩ rfl (Nat.le_of_ble_eq_true rfl) rfl dX0_readEntry_38) (fun x7 M6 => ?_)
      refine xm_if_eq hX (tgt := 78) dX0_readEntry_41 rfl ?_ ?_
      · refine xm_iconst hX (v := 0) rfl dX0_readEntry_78 ?_
        exact xm_zret hX dX0_readEntry_79
      · refine xm_aload_n hX 0 dX0_readEntry_44 rfl rfl ?_
        refine xm_iconst hX (v := 1) rfl dX0_readEntry_45 ?_
        refine xm_sipush hX (v := 300) rfl dX0_readEntry_46 ?_
        refine xm_calli hX (xm_runV hX (k := 69) (ci := 0) (As := (fun g => [.int ((1 : Int32)), .int ((300 : Int32))])) (kX0_readInteger ((1 : Int32)) ((300 : Int32)) M6) cL_69 rfl (xm_gV gm_396 gm_397 gm_710 gm_4 gm_398) rfl ⟨rfl, rfl⟩ ⟨rfl, hdX0_readInteger⟩ ⟨Nat.le_of_ble_eq_true rfl, Nat.le_of_ble_eq_true rfl⟩ rfl (Nat.le_of_ble_eq_true rfl) rfl dX0_readEntry_49) (fun x9 M8 => ?_)
        refine xm_if_eq hX (tgt := 78) dX0_readEntry_52 rfl ?_ ?_
        · refine xm_iconst hX (v := 0) rfl dX0_readEntry_78 ?_
          exact xm_zret hX dX0_readEntry_79
        · refine xm_aload_n hX 0 dX0_readEntry_55 rfl rfl ?_
          refine xm_bipush hX (v := 44) rfl dX0_readEntry_56 ?_
          refine xm_calli hX (xm_runV hX (k := 69) (ci := 0) (As := (fun g => [.int ((44 : Int32))])) (kX0_takes ((44 : Int32)) M8) cL_69 rfl (xm_gV gm_386 gm_387 gm_388 gm_4 gm_389) rfl ⟨rfl, rfl⟩ ⟨rfl, hdX0_takes⟩ ⟨Nat.le_of_ble_eq_true rfl, Nat.le_of_ble_eq_true rfl⟩ rfl (Nat.le_of_ble_eq_true rfl) rfl dX0_readEntry_58) (fun x11 M10 => ?_)
          refine xm_if_eq hX (tgt := 78) dX0_readEntry_61 rfl ?_ ?_
          · refine xm_iconst hX (v := 0) rfl dX0_readEntry_78 ?_
            exact xm_zret hX dX0_readEntry_79
          · refine xm_aload_n hX 0 dX0_readEntry_64 rfl rfl ?_
            refine xm_iconst hX (v := 2) rfl dX0_readEntry_65 ?_
            refine xm_ldc hX (v := 300000) (List.mem_cons_of_mem _ gm_399) dX0_readEntry_66 ?_
            refine xm_calli hX (xm_runV hX (k := 69) (ci := 0) (As := (fun g => [.int ((2 : Int32)), .int ((300000 : Int32))])) (kX0_readInteger ((2 : Int32)) ((300000 : Int32)) M10) cL_69 rfl (xm_gV gm_396 gm_397 gm_710 gm_4 gm_398) rfl ⟨rfl, rfl⟩ ⟨rfl, hdX0_readInteger⟩ ⟨Nat.le_of_ble_eq_true rfl, Nat.le_of_ble_eq_true rfl⟩ rfl (Nat.le_of_ble_eq_true rfl) rfl dX0_readEntry_68) (fun x13 M12 => ?_)
            refine xm_if_eq hX (tgt := 78) dX0_readEntry_71 rfl ?_ ?_
            · refine xm_iconst hX (v := 0) rfl dX0_readEntry_78 ?_
              exact xm_zret hX dX0_readEntry_79
            · refine xm_iconst hX (v := 1) rfl dX0_readEntry_74 ?_
              refine xm_goto hX (tgt := 79) dX0_readEntry_75 rfl ?_
              exact xm_zret hX dX0_readEntry_79
  · refine xm_aload_n hX 0 dX0_readEntry_17 rfl rfl ?_
    refine xm_iconst hX (v := 0) rfl dX0_readEntry_18 ?_
    refine xm_iconst hX (v := 5) rfl dX0_readEntry_19 ?_
    refine xm_calli hX (xm_runV hX (k := 69) (ci := 0) (As := (fun g => [.int ((0 : Int32)), .int ((5 : Int32))])) (kX0_readNumber ((0 : Int32)) ((5 : Int32)) M3) cL_69 rfl (xm_gV gm_390 gm_391 gm_708 gm_4 gm_392) rfl ⟨rfl, rfl⟩ ⟨rfl, hdX0_readNumber⟩ ⟨Nat.le_of_ble_eq_true rfl, Nat.le_of_ble_eq_true rfl⟩ rfl (Nat.le_of_ble_eq_true rfl) rfl dX0_readEntry_20) (fun x15 M14 => ?_)
    exact xm_zret hX dX0_readEntry_23
-- ===== OdometryDesk$Pad.findFault()I ['69']
theorem dX0_findFault_0 : decode cX0_findFault 0 = .ok (.aload_n 0, 1) := by decide +kernel
theorem dX0_findFault_1 : decode cX0_findFault 1 = .ok (.iconst 0, 1) := by decide +kernel
theorem dX0_findFault_2 : decode cX0_findFault 2 = .ok (.putfield 32, 3) := by decide +kernel
theorem dX0_findFault_5 : decode cX0_findFault 5 = .ok (.iconst 0, 1) := by decide +kernel
theorem dX0_findFault_6 : decode cX0_findFault 6 = .ok (.istore_n 1, 1) := by decide +kernel
theorem dX0_findFault_7 : decode cX0_findFault 7 = .ok (.iload_n 1, 1) := by decide +kernel
theorem dX0_findFault_8 : decode cX0_findFault 8 = .ok (.bipush 100, 2) := by decide +kernel
theorem dX0_findFault_10 : decode cX0_findFault 10 = .ok (.if_icmp .gt 49, 3) := by decide +kernel
theorem dX0_findFault_13 : decode cX0_findFault 13 = .ok (.aload_n 0, 1) := by decide +kernel
theorem dX0_findFault_14 : decode cX0_findFault 14 = .ok (.invokevirtual 35, 3) := by decide +kernel
theorem dX0_findFault_17 : decode cX0_findFault 17 = .ok (.ifCond .ne 8, 3) := by decide +kernel
theorem dX0_findFault_20 : decode cX0_findFault 20 = .ok (.aload_n 0, 1) := by decide +kernel
theorem dX0_findFault_21 : decode cX0_findFault 21 = .ok (.getfield 32, 3) := by decide +kernel
theorem dX0_findFault_24 : decode cX0_findFault 24 = .ok (.ireturn, 1) := by decide +kernel
theorem dX0_findFault_25 : decode cX0_findFault 25 = .ok (.aload_n 0, 1) := by decide +kernel
theorem dX0_findFault_26 : decode cX0_findFault 26 = .ok (.getfield 32, 3) := by decide +kernel
theorem dX0_findFault_29 : decode cX0_findFault 29 = .ok (.aload_n 0, 1) := by decide +kernel
theorem dX0_findFault_30 : decode cX0_findFault 30 = .ok (.getfield 24, 3) := by decide +kernel
theorem dX0_findFault_33 : decode cX0_findFault 33 = .ok (.if_icmp .lt 6, 3) := by decide +kernel
theorem dX0_findFault_36 : decode cX0_findFault 36 = .ok (.bipush (-6), 2) := by decide +kernel
theorem dX0_findFault_38 : decode cX0_findFault 38 = .ok (.ireturn, 1) := by decide +kernel
theorem dX0_findFault_39 : decode cX0_findFault 39 = .ok (.aload_n 0, 1) := by decide +kernel
theorem dX0_findFault_40 : decode cX0_findFault 40 = .ok (.bipush 59, 2) := by decide +kernel
theorem dX0_findFault_42 : decode cX0_findFault 42 = .ok (.invokevirtual 39, 3) := by decide +kernel
theorem dX0_findFault_45 : decode cX0_findFault 45 = .ok (.ifCond .ne 8, 3) := by decide +kernel
theorem dX0_findFault_48 : decode cX0_findFault 48 = .ok (.aload_n 0, 1) := by decide +kernel
theorem dX0_findFault_49 : decode cX0_findFault 49 = .ok (.getfield 32, 3) := by decide +kernel
theorem dX0_findFault_52 : decode cX0_findFault 52 = .ok (.ireturn, 1) := by decide +kernel
theorem dX0_findFault_53 : decode cX0_findFault 53 = .ok (.iinc 1 1, 3) := by decide +kernel
theorem dX0_findFault_56 : decode cX0_findFault 56 = .ok (.goto (-49), 3) := by decide +kernel
theorem dX0_findFault_59 : decode cX0_findFault 59 = .ok (.aload_n 0, 1) := by decide +kernel
theorem dX0_findFault_60 : decode cX0_findFault 60 = .ok (.getfield 32, 3) := by decide +kernel
theorem dX0_findFault_63 : decode cX0_findFault 63 = .ok (.ireturn, 1) := by decide +kernel
abbrev wX0_findFault : List Cond := .code yX0_findFault cX0_findFault 2 (some .int) :: lw_gd
theorem hdX0_findFault : (yX0_findFault.cls ≠ "java/lang/invoke/MethodHandle" ∧ yX0_findFault.cls ≠ "java/lang/invoke/VarHandle" ∧ (parseMethodDescriptor yX0_findFault.desc).map (fun d => d.parameters.length) = some 0) := by decide +kernel
def fX0_findFault_7  (k7 : Int32 → xm_M → Option (Int32 × xm_M)) (b1 : Int32) (M : xm_M) : Option (Int32 × xm_M) :=
  if ((100 : Int32)) < b1 then some (M.1 69 2, M) else xm_bi (fX0_readEntry M) (fun x4 M3 => if x4 = 0 then some (M3.1 69 2, M3) else if (M3.1 69 2) < (M3.1 69 1) then xm_bi (fX0_takes ((59 : Int32)) M3) (fun x6 M5 => if x6 = 0 then some (M5.1 69 2, M5) else xm_lt (b1 + Int32.ofInt 1) (fun x7 => k7 x7 M5)) else some ((-6 : Int32), M3))
set_option maxRecDepth 20000 in
theorem tfX0_findFault_7 {p : Program} {l : Launch} {e : Env} {s : State} {m : MethodId} {args : Array Value} {below : List Frame} {meth : Method} {c : Code} {D : va_G} {g : xm_G} {A : Nat → Prop} (hX : xm_X p m meth c cX0_findFault 2 s args wX0_findFault RX0 (some .int) D cL g A)   (k7 : Int32 → xm_M → Option (Int32 × xm_M)) (h7 : ∀ (b1 : Int32), ∀ (M : xm_M), xm_J p l e ({ frames := 5, cells := 0, slots := 0, locals := 109 }) s m args below meth c 2 D cL g A (xm_Fi g) 7 [(0, .ref (g.1 69)), (1, .int b1)] [] M (k7 b1 M)) : ∀ (b1 : Int32), ∀ (M : xm_M), xm_J p l e ({ frames := 5, cells := 0, slots := 0, locals := 109 }) s m args below meth c 2 D cL g A (xm_Fi g) 7 [(0, .ref (g.1 69)), (1, .int b1)] [] M (fX0_findFault_7 k7 b1 M) := by
  intro b1 M
  unfold fX0_findFault_7
  refine xm_iload_n hX 1 dX0_findFault_7 rfl rfl ?_
  refine xm_bipush hX (v := 100) rfl dX0_findFault_8 ?_
  refine xm_icmp_gt hX (tgt := 59) dX0_findFault_10 rfl ?_ ?_
  · refine xm_aload_n hX 0 dX0_findFault_59 rfl rfl ?_
    refine xm_get hX (k := 69) (ci := 0) (j := 2) (C := RX0) (T := TX0) (N := 5) (v := .int (M.1 69 2)) cL_69 rfl rfl rfl (by decide) (fun z hz => List.mem_cons_of_mem _ (iw_X0 z hz)) (List.mem_cons_of_mem _ gm_115) dX0_findFault_60 ?_
    exact xm_iret hX dX0_findFault_63
  · refine xm_aload_n hX 0 dX0_findFault_13 rfl rfl ?_
    refine xm_calli hX (xm_runV hX (k := 69) (ci := 0) (As := (fun g => [])) (kX0_readEntry M) cL_69 rfl (xm_gV gm_382 gm_383 gm_384 gm_4 gm_385) rfl ⟨rfl, rfl⟩ ⟨rfl, hdX0_readEntry⟩ ⟨Nat.le_of_ble_eq_true rfl, Nat.le_of_ble_eq_true rfl⟩ rfl (Nat.le_of_ble_eq_true rfl) rfl dX0_findFault_14) (fun x4 M3 => ?_)
    refine xm_if_ne hX (tgt := 25) dX0_findFault_17 rfl ?_ ?_
    · refine xm_aload_n hX 0 dX0_findFault_25 rfl rfl ?_
      refine xm_get hX (k := 69) (ci := 0) (j := 2) (C := RX0) (T := TX0) (N := 5) (v := .int (M3.1 69 2)) cL_69 rfl rfl rfl (by decide) (fun z hz => List.mem_cons_of_mem _ (iw_X0 z hz)) (List.mem_cons_of_mem _ gm_115) dX0_findFault_26 ?_
      refine xm_aload_n hX 0 dX0_findFault_29 rfl rfl ?_
      refine xm_get hX (k := 69) (ci := 0) (j := 1) (C := RX0) (T := TX0) (N := 5) (v := .int (M3.1 69 1)) cL_69 rfl rfl rfl (by decide) (fun z hz => List.mem_cons_of_mem _ (iw_X0 z hz)) (List.mem_cons_of_mem _ gm_113) dX0_findFault_30 ?_
      refine xm_icmp_lt hX (tgt := 39) dX0_findFault_33 rfl ?_ ?_
      · refine xm_aload_n hX 0 dX0_findFault_39 rfl rfl ?_
        refine xm_bipush hX (v := 59) rfl dX0_findFault_40 ?_
        refine xm_calli hX (xm_runV hX (k := 69) (ci := 0) (As := (fun g => [.int ((59 : Int32))])) (kX0_takes ((59 : Int32)) M3) cL_69 rfl (xm_gV gm_386 gm_387 gm_388 gm_4 gm_389) rfl ⟨rfl, rfl⟩ ⟨rfl, hdX0_takes⟩ ⟨Nat.le_of_ble_eq_true rfl, Nat.le_of_ble_eq_true rfl⟩ rfl (Nat.le_of_ble_eq_true rfl) rfl dX0_findFault_42) (fun x6 M5 => ?_)
        refine xm_if_ne hX (tgt := 53) dX0_findFault_45 rfl ?_ ?_
        · refine xm_iinc hX (lv2 := fun x7 => [(1, .int x7), (0, .ref (g.1 69))]) 1 dX0_findFault_53 rfl (by decide) (fun _ => rfl) (fun x7 => ?_)
          refine xm_goto hX (tgt := 7) dX0_findFault_56 rfl ?_
          refine xm_weak [1, 0] (lv' := [(0, .ref (g.1 69)), (1, .int x7)]) rfl ?_
          exact h7 x7 M5
        · refine xm_aload_n hX 0 dX0_findFault_48 rfl rfl ?_
          refine xm_get hX (k := 69) (ci := 0) (j := 2) (C := RX0) (T := TX0) (N := 5) (v := .int (M5.1 69 2)) cL_69 rfl rfl rfl (by decide) (fun z hz => List.mem_cons_of_mem _ (iw_X0 z hz)) (List.mem_cons_of_mem _ gm_115) dX0_findFault_49 ?_
          exact xm_iret hX dX0_findFault_52
      · refine xm_bipush hX (v := -6) rfl dX0_findFault_36 ?_
        exact xm_iret hX dX0_findFault_38
    · refine xm_aload_n hX 0 dX0_findFault_20 rfl rfl ?_
      refine xm_get hX (k := 69) (ci := 0) (j := 2) (C := RX0) (T := TX0) (N := 5) (v := .int (M3.1 69 2)) cL_69 rfl rfl rfl (by decide) (fun z hz => List.mem_cons_of_mem _ (iw_X0 z hz)) (List.mem_cons_of_mem _ gm_115) dX0_findFault_21 ?_
      exact xm_iret hX dX0_findFault_24
def fX0_findFault_7_it   (nq : Nat) : Int32 → xm_M → Option (Int32 × xm_M) := xm_it (fun kq => fX0_findFault_7 kq) (fun _ _ => none) nq
theorem tfX0_findFault_7_it {p : Program} {l : Launch} {e : Env} {s : State} {m : MethodId} {args : Array Value} {below : List Frame} {meth : Method} {c : Code} {D : va_G} {g : xm_G} {A : Nat → Prop} (hX : xm_X p m meth c cX0_findFault 2 s args wX0_findFault RX0 (some .int) D cL g A)     : ∀ (nq : Nat), ∀ (b1 : Int32), ∀ (M : xm_M), xm_J p l e ({ frames := 5, cells := 0, slots := 0, locals := 109 }) s m args below meth c 2 D cL g A (xm_Fi g) 7 [(0, .ref (g.1 69)), (1, .int b1)] [] M (fX0_findFault_7_it  nq b1 M) := by
  intro nq
  induction nq with
  | zero => exact fun _ _ => xm_none
  | succ nq ih => exact tfX0_findFault_7 hX _ ih
def fX0_findFault   (M : xm_M) : Option (Int32 × xm_M) :=
  xm_lt (xm_s M 69 2 ((0 : Int32))) (fun M1 => xm_lt ((0 : Int32)) (fun x2 => fX0_findFault_7_it xm_N x2 M1))
set_option maxRecDepth 20000 in
theorem kX0_findFault {l : Launch}    (M : xm_M) : xm_C l yX0_findFault wX0_findFault ({ frames := 5, cells := 0, slots := 0, locals := 109 }) cL (fun g => [.ref (g.1 69)]) M xm_Fi (fX0_findFault   M) := by
  refine xm_C.of (by decide) rfl (fun g => Nat.le_of_ble_eq_true rfl) ?_
  intro p e s m args below meth c D g A hX
  refine xm_lv (lv' := [(0, .ref (g.1 69))]) rfl ?_
  unfold fX0_findFault
  refine xm_aload_n hX 0 dX0_findFault_0 rfl rfl ?_
  refine xm_iconst hX (v := 0) rfl dX0_findFault_1 ?_
  refine xm_puti hX (k := 69) (ci := 0) (j := 2) (C := RX0) (T := TX0) (N := 5) (t0 := tyX0) cL_69 rfl rfl (by decide) (fun z hz => List.mem_cons_of_mem _ (iw_X0 z hz)) tyX0_ok nmX0 rfl rfl (List.mem_cons_of_mem _ gm_115) dX0_findFault_2 (fun M1 => ?_)
  refine xm_iconst hX (v := 0) rfl dX0_findFault_5 ?_
  refine xm_nmi (fun x2 => ?_)
  refine xm_istore_n hX (lv' := [(1, .int x2), (0, .ref (g.1 69))]) dX0_findFault_6 rfl (by decide) rfl ?_
  refine xm_weak [1, 0] (lv' := [(0, .ref (g.1 69)), (1, .int x2)]) rfl ?_
  exact tfX0_findFault_7_it hX xm_N x2 M1
-- ===== OdometryDesk.fault()I ['0']
theorem dX3_fault_0 : decode cX3_fault 0 = .ok (.aload_n 0, 1) := by decide +kernel
theorem dX3_fault_1 : decode cX3_fault 1 = .ok (.getfield 32, 3) := by decide +kernel
theorem dX3_fault_4 : decode cX3_fault 4 = .ok (.invokevirtual 181, 3) := by decide +kernel
theorem dX3_fault_7 : decode cX3_fault 7 = .ok (.ireturn, 1) := by decide +kernel
abbrev wX3_fault : List Cond := .code yX3_fault cX3_fault 1 (some .int) :: lw_gd
theorem hdX3_fault : (yX3_fault.cls ≠ "java/lang/invoke/MethodHandle" ∧ yX3_fault.cls ≠ "java/lang/invoke/VarHandle" ∧ (parseMethodDescriptor yX3_fault.desc).map (fun d => d.parameters.length) = some 0) := by decide +kernel
def fX3_fault   (M : xm_M) : Option (Int32 × xm_M) :=
  xm_bi (fX0_findFault M) (fun x2 M1 => some (x2, M1))
set_option maxRecDepth 20000 in
theorem kX3_fault {l : Launch}    (M : xm_M) : xm_C l yX3_fault wX3_fault ({ frames := 6, cells := 0, slots := 0, locals := 130 }) cL (fun g => [.ref (g.1 0)]) M xm_Fi (fX3_fault   M) := by
  refine xm_C.of (by decide) rfl (fun g => Nat.le_of_ble_eq_true rfl) ?_
  intro p e s m args below meth c D g A hX
  refine xm_lv (lv' := [(0, .ref (g.1 0))]) rfl ?_
  unfold fX3_fault
  refine xm_aload_n hX 0 dX3_fault_0 rfl rfl ?_
  refine xm_get hX (k := 0) (ci := 3) (j := 4) (C := RX3) (T := TX3) (N := 6) (v := .ref (g.1 69)) cL_0 rfl rfl rfl (by decide) (fun z hz => List.mem_cons_of_mem _ (iw_X3 z hz)) (List.mem_cons_of_mem _ gm_133) dX3_fault_1 ?_
  refine xm_calli hX (xm_runV hX (k := 69) (ci := 0) (As := (fun g => [])) (kX0_findFault M) cL_69 rfl (xm_gV gm_378 gm_379 gm_380 gm_4 gm_381) rfl ⟨rfl, rfl⟩ ⟨rfl, hdX0_findFault⟩ ⟨Nat.le_of_ble_eq_true rfl, Nat.le_of_ble_eq_true rfl⟩ rfl (Nat.le_of_ble_eq_true rfl) rfl dX3_fault_4) (fun x2 M1 => ?_)
  exact xm_iret hX dX3_fault_7
-- ===== OdometryDesk.ifSet(III)I ['0']
theorem dX3_ifSet_0 : decode cX3_ifSet 0 = .ok (.iload_n 1, 1) := by decide +kernel
theorem dX3_ifSet_1 : decode cX3_ifSet 1 = .ok (.iload_n 2, 1) := by decide +kernel
theorem dX3_ifSet_2 : decode cX3_ifSet 2 = .ok (.invokestatic 48, 3) := by decide +kernel
theorem dX3_ifSet_5 : decode cX3_ifSet 5 = .ok (.ifCond .eq 12, 3) := by decide +kernel
theorem dX3_ifSet_8 : decode cX3_ifSet 8 = .ok (.iload_n 3, 1) := by decide +kernel
theorem dX3_ifSet_9 : decode cX3_ifSet 9 = .ok (.iconst 0, 1) := by decide +kernel
theorem dX3_ifSet_10 : decode cX3_ifSet 10 = .ok (.iconst 4, 1) := by decide +kernel
theorem dX3_ifSet_11 : decode cX3_ifSet 11 = .ok (.invokestatic 66, 3) := by decide +kernel
theorem dX3_ifSet_14 : decode cX3_ifSet 14 = .ok (.ifCond .ne 6, 3) := by decide +kernel
theorem dX3_ifSet_17 : decode cX3_ifSet 17 = .ok (.ldc 118, 2) := by decide +kernel
theorem dX3_ifSet_19 : decode cX3_ifSet 19 = .ok (.ireturn, 1) := by decide +kernel
theorem dX3_ifSet_20 : decode cX3_ifSet 20 = .ok (.aload_n 0, 1) := by decide +kernel
theorem dX3_ifSet_21 : decode cX3_ifSet 21 = .ok (.iload_n 1, 1) := by decide +kernel
theorem dX3_ifSet_22 : decode cX3_ifSet 22 = .ok (.iload_n 2, 1) := by decide +kernel
theorem dX3_ifSet_23 : decode cX3_ifSet 23 = .ok (.invokevirtual 156, 3) := by decide +kernel
theorem dX3_ifSet_26 : decode cX3_ifSet 26 = .ok (.pop2, 1) := by decide +kernel
theorem dX3_ifSet_27 : decode cX3_ifSet 27 = .ok (.iload_n 3, 1) := by decide +kernel
theorem dX3_ifSet_28 : decode cX3_ifSet 28 = .ok (.tableswitch 80 0 3 #[32, 40, 48, 56], 32) := by decide +kernel
theorem dX3_ifSet_60 : decode cX3_ifSet 60 = .ok (.aload_n 0, 1) := by decide +kernel
theorem dX3_ifSet_61 : decode cX3_ifSet 61 = .ok (.getfield 25, 3) := by decide +kernel
theorem dX3_ifSet_64 : decode cX3_ifSet 64 = .ok (.getfield 160, 3) := by decide +kernel
theorem dX3_ifSet_67 : decode cX3_ifSet 67 = .ok (.ireturn, 1) := by decide +kernel
theorem dX3_ifSet_68 : decode cX3_ifSet 68 = .ok (.aload_n 0, 1) := by decide +kernel
theorem dX3_ifSet_69 : decode cX3_ifSet 69 = .ok (.getfield 25, 3) := by decide +kernel
theorem dX3_ifSet_72 : decode cX3_ifSet 72 = .ok (.getfield 163, 3) := by decide +kernel
theorem dX3_ifSet_75 : decode cX3_ifSet 75 = .ok (.ireturn, 1) := by decide +kernel
theorem dX3_ifSet_76 : decode cX3_ifSet 76 = .ok (.aload_n 0, 1) := by decide +kernel
theorem dX3_ifSet_77 : decode cX3_ifSet 77 = .ok (.getfield 25, 3) := by decide +kernel
theorem dX3_ifSet_80 : decode cX3_ifSet 80 = .ok (.getfield 166, 3) := by decide +kernel
theorem dX3_ifSet_83 : decode cX3_ifSet 83 = .ok (.ireturn, 1) := by decide +kernel
theorem dX3_ifSet_84 : decode cX3_ifSet 84 = .ok (.aload_n 0, 1) := by decide +kernel
theorem dX3_ifSet_85 : decode cX3_ifSet 85 = .ok (.getfield 25, 3) := by decide +kernel
theorem dX3_ifSet_88 : decode cX3_ifSet 88 = .ok (.getfield 146, 3) := by decide +kernel
theorem dX3_ifSet_91 : decode cX3_ifSet 91 = .ok (.iconst 2, 1) := by decide +kernel
theorem dX3_ifSet_92 : decode cX3_ifSet 92 = .ok (.invokestatic 55, 3) := by decide +kernel
theorem dX3_ifSet_95 : decode cX3_ifSet 95 = .ok (.aload_n 0, 1) := by decide +kernel
theorem dX3_ifSet_96 : decode cX3_ifSet 96 = .ok (.getfield 25, 3) := by decide +kernel
theorem dX3_ifSet_99 : decode cX3_ifSet 99 = .ok (.getfield 146, 3) := by decide +kernel
theorem dX3_ifSet_102 : decode cX3_ifSet 102 = .ok (.iconst 3, 1) := by decide +kernel
theorem dX3_ifSet_103 : decode cX3_ifSet 103 = .ok (.invokestatic 55, 3) := by decide +kernel
theorem dX3_ifSet_106 : decode cX3_ifSet 106 = .ok (.iadd, 1) := by decide +kernel
theorem dX3_ifSet_107 : decode cX3_ifSet 107 = .ok (.ireturn, 1) := by decide +kernel
theorem dX3_ifSet_108 : decode cX3_ifSet 108 = .ok (.aload_n 0, 1) := by decide +kernel
theorem dX3_ifSet_109 : decode cX3_ifSet 109 = .ok (.getfield 25, 3) := by decide +kernel
theorem dX3_ifSet_112 : decode cX3_ifSet 112 = .ok (.invokevirtual 138, 3) := by decide +kernel
theorem dX3_ifSet_115 : decode cX3_ifSet 115 = .ok (.ireturn, 1) := by decide +kernel
abbrev wX3_ifSet : List Cond := .code yX3_ifSet cX3_ifSet 4 (some .int) :: lw_gd
theorem hdX3_ifSet : (yX3_ifSet.cls ≠ "java/lang/invoke/MethodHandle" ∧ yX3_ifSet.cls ≠ "java/lang/invoke/VarHandle" ∧ (parseMethodDescriptor yX3_ifSet.desc).map (fun d => d.parameters.length) = some 3) := by decide +kernel
def fX3_ifSet  (a1 : Int32) (a2 : Int32) (a3 : Int32) (M : xm_M) : Option (Int32 × xm_M) :=
  xm_bi (fX3_isSetting a1 a2 M) (fun x2 M1 => if x2 = 0 then some ((-1000000002 : Int32), M1) else xm_bi (fX3_isWithin a3 ((0 : Int32)) ((4 : Int32)) M1) (fun x4 M3 => if x4 = 0 then some ((-1000000002 : Int32), M3) else xm_bl (fX3_errorsWith a1 a2 M3) (fun x6 M5 => if a3 = 0 then some (M5.1 49 3, M5) else if a3 = 1 then some (M5.1 49 4, M5) else if a3 = 2 then some (M5.1 49 5, M5) else if a3 = 3 then xm_bi (fX3_item 68 5 ((2 : Int32)) M5) (fun x11 M10 => xm_bi (fX3_item 68 5 ((3 : Int32)) M10) (fun x13 M12 => some (x11 + x13, M12))) else xm_bi (fX2_toldErrors M5) (fun x16 M15 => some (x16, M15)))))
set_option maxRecDepth 20000 in
theorem kX3_ifSet {l : Launch}   (a1 : Int32) (a2 : Int32) (a3 : Int32) (M : xm_M) : xm_C l yX3_ifSet wX3_ifSet ({ frames := 6, cells := 0, slots := 0, locals := 151 }) cL (fun g => [.ref (g.1 0), .int a1, .int a2, .int a3]) M xm_Fi (fX3_ifSet  a1 a2 a3 M) := by
  refine xm_C.of (by decide) rfl (fun g => Nat.le_of_ble_eq_true rfl) ?_
  intro p e s m args below meth c D g A hX
  refine xm_lv (lv' := [(0, .ref (g.1 0)), (1, .int a1), (2, .int a2), (3, .int a3)]) rfl ?_
  unfold fX3_ifSet
  refine xm_iload_n hX 1 dX3_ifSet_0 rfl rfl ?_
  refine xm_iload_n hX 2 dX3_ifSet_1 rfl rfl ?_
  refine xm_calli hX (xm_runS hX (As := (fun g => [.int a1, .int a2])) (kX3_isSetting a1 a2 M) (xm_gS gm_145 gm_146 gm_1 gm_147) rfl ⟨rfl, rfl⟩ hdX3_isSetting ⟨Nat.le_of_ble_eq_true rfl, Nat.le_of_ble_eq_true rfl⟩ rfl (Nat.le_of_ble_eq_true rfl) rfl dX3_ifSet_2) (fun x2 M1 => ?_)
  refine xm_if_eq hX (tgt := 17) dX3_ifSet_5 rfl ?_ ?_
  · refine xm_ldc hX (v := -1000000002) (List.mem_cons_of_mem _ gm_217) dX3_ifSet_17 ?_
    exact xm_iret hX dX3_ifSet_19
  · refine xm_iload_n hX 3 dX3_ifSet_8 rfl rfl ?_
    refine xm_iconst hX (v := 0) rfl dX3_ifSet_9 ?_
    refine xm_iconst hX (v := 4) rfl dX3_ifSet_10 ?_
    refine xm_calli hX (xm_runS hX (As := (fun g => [.int a3, .int ((0 : Int32)), .int ((4 : Int32))])) (kX3_isWithin a3 ((0 : Int32)) ((4 : Int32)) M1) (xm_gS gm_150 gm_151 gm_1 gm_152) rfl ⟨rfl, rfl⟩ hdX3_isWithin ⟨Nat.le_of_ble_eq_true rfl, Nat.le_of_ble_eq_true rfl⟩ rfl (Nat.le_of_ble_eq_true rfl) rfl dX3_ifSet_11) (fun x4 M3 => ?_)
    refine xm_if_ne hX (tgt := 20) dX3_ifSet_14 rfl ?_ ?_
    · refine xm_aload_n hX 0 dX3_ifSet_20 rfl rfl ?_
      refine xm_iload_n hX 1 dX3_ifSet_21 rfl rfl ?_
      refine xm_iload_n hX 2 dX3_ifSet_22 rfl rfl ?_
      refine xm_calll hX (xm_runV hX (k := 0) (ci := 3) (As := (fun g => [.int a1, .int a2])) (kX3_errorsWith a1 a2 M3) cL_0 rfl (xm_gV gm_336 gm_337 gm_707 gm_1 gm_338) rfl ⟨rfl, rfl⟩ ⟨rfl, hdX3_errorsWith⟩ ⟨Nat.le_of_ble_eq_true rfl, Nat.le_of_ble_eq_true rfl⟩ rfl (Nat.le_of_ble_eq_true rfl) rfl dX3_ifSet_23) (fun x6 M5 => ?_)
      refine xm_pop2_2 hX rfl dX3_ifSet_26 ?_
      refine xm_iload_n hX 3 dX3_ifSet_27 rfl rfl ?_
      refine xm_ite (fun z7 => ?_) (fun z7 => ?_)
      · refine xm_tsIn hX (tgt := 60) dX3_ifSet_28 z7 (by decide) (by decide) rfl rfl ?_
        refine xm_aload_n hX 0 dX3_ifSet_60 rfl rfl ?_
        refine xm_get hX (k := 0) (ci := 3) (j := 3) (C := RX3) (T := TX3) (N := 6) (v := .ref (g.1 49)) cL_0 rfl rfl rfl (by decide) (fun z hz => List.mem_cons_of_mem _ (iw_X3 z hz)) (List.mem_cons_of_mem _ gm_132) dX3_ifSet_61 ?_
        refine xm_get hX (k := 49) (ci := 2) (j := 3) (C := RX2) (T := TX2) (N := 12) (v := .int (M5.1 49 3)) cL_49 rfl rfl rfl (by decide) (fun z hz => List.mem_cons_of_mem _ (iw_X2 z hz)) (List.mem_cons_of_mem _ gm_81) dX3_ifSet_64 ?_
        exact xm_iret hX dX3_ifSet_67
      refine xm_ite (fun z8 => ?_) (fun z8 => ?_)
      · refine xm_tsIn hX (tgt := 68) dX3_ifSet_28 z8 (by decide) (by decide) rfl rfl ?_
        refine xm_aload_n hX 0 dX3_ifSet_68 rfl rfl ?_
        refine xm_get hX (k := 0) (ci := 3) (j := 3) (C := RX3) (T := TX3) (N := 6) (v := .ref (g.1 49)) cL_0 rfl rfl rfl (by decide) (fun z hz => List.mem_cons_of_mem _ (iw_X3 z hz)) (List.mem_cons_of_mem _ gm_132) dX3_ifSet_69 ?_
        refine xm_get hX (k := 49) (ci := 2) (j := 4) (C := RX2) (T := TX2) (N := 12) (v := .int (M5.1 49 4)) cL_49 rfl rfl rfl (by decide) (fun z hz => List.mem_cons_of_mem _ (iw_X2 z hz)) (List.mem_cons_of_mem _ gm_83) dX3_ifSet_72 ?_
        exact xm_iret hX dX3_ifSet_75
      refine xm_ite (fun z9 => ?_) (fun z9 => ?_)
      · refine xm_tsIn hX (tgt := 76) dX3_ifSet_28 z9 (by decide) (by decide) rfl rfl ?_
        refine xm_aload_n hX 0 dX3_ifSet_76 rfl rfl ?_
        refine xm_get hX (k := 0) (ci := 3) (j := 3) (C := RX3) (T := TX3) (N := 6) (v := .ref (g.1 49)) cL_0 rfl rfl rfl (by decide) (fun z hz => List.mem_cons_of_mem _ (iw_X3 z hz)) (List.mem_cons_of_mem _ gm_132) dX3_ifSet_77 ?_
        refine xm_get hX (k := 49) (ci := 2) (j := 5) (C := RX2) (T := TX2) (N := 12) (v := .int (M5.1 49 5)) cL_49 rfl rfl rfl (by decide) (fun z hz => List.mem_cons_of_mem _ (iw_X2 z hz)) (List.mem_cons_of_mem _ gm_85) dX3_ifSet_80 ?_
        exact xm_iret hX dX3_ifSet_83
      refine xm_ite (fun z14 => ?_) (fun z14 => ?_)
      · refine xm_tsIn hX (tgt := 84) dX3_ifSet_28 z14 (by decide) (by decide) rfl rfl ?_
        refine xm_aload_n hX 0 dX3_ifSet_84 rfl rfl ?_
        refine xm_get hX (k := 0) (ci := 3) (j := 3) (C := RX3) (T := TX3) (N := 6) (v := .ref (g.1 49)) cL_0 rfl rfl rfl (by decide) (fun z hz => List.mem_cons_of_mem _ (iw_X3 z hz)) (List.mem_cons_of_mem _ gm_132) dX3_ifSet_85 ?_
        refine xm_get hX (k := 49) (ci := 2) (j := 2) (C := RX2) (T := TX2) (N := 12) (v := .ref (g.1 68)) cL_49 rfl rfl rfl (by decide) (fun z hz => List.mem_cons_of_mem _ (iw_X2 z hz)) (List.mem_cons_of_mem _ gm_79) dX3_ifSet_88 ?_
        refine xm_iconst hX (v := 2) rfl dX3_ifSet_91 ?_
        refine xm_calli hX (xm_runS hX (As := (fun g => [.ref (g.1 68), .int ((2 : Int32))])) (kX3_item 68 5 cL_68 ((2 : Int32)) M5) (xm_gS gm_153 gm_154 gm_1 gm_155) rfl ⟨rfl, rfl⟩ hdX3_item ⟨Nat.le_of_ble_eq_true rfl, Nat.le_of_ble_eq_true rfl⟩ rfl (Nat.le_of_ble_eq_true rfl) rfl dX3_ifSet_92) (fun x11 M10 => ?_)
        refine xm_aload_n hX 0 dX3_ifSet_95 rfl rfl ?_
        refine xm_get hX (k := 0) (ci := 3) (j := 3) (C := RX3) (T := TX3) (N := 6) (v := .ref (g.1 49)) cL_0 rfl rfl rfl (by decide) (fun z hz => List.mem_cons_of_mem _ (iw_X3 z hz)) (List.mem_cons_of_mem _ gm_132) dX3_ifSet_96 ?_
        refine xm_get hX (k := 49) (ci := 2) (j := 2) (C := RX2) (T := TX2) (N := 12) (v := .ref (g.1 68)) cL_49 rfl rfl rfl (by decide) (fun z hz => List.mem_cons_of_mem _ (iw_X2 z hz)) (List.mem_cons_of_mem _ gm_79) dX3_ifSet_99 ?_
        refine xm_iconst hX (v := 3) rfl dX3_ifSet_102 ?_
        refine xm_calli hX (xm_runS hX (As := (fun g => [.ref (g.1 68), .int ((3 : Int32))])) (kX3_item 68 5 cL_68 ((3 : Int32)) M10) (xm_gS gm_153 gm_154 gm_1 gm_155) rfl ⟨rfl, rfl⟩ hdX3_item ⟨Nat.le_of_ble_eq_true rfl, Nat.le_of_ble_eq_true rfl⟩ rfl (Nat.le_of_ble_eq_true rfl) rfl dX3_ifSet_103) (fun x13 M12 => ?_)
        refine xm_iadd hX dX3_ifSet_106 ?_
        exact xm_iret hX dX3_ifSet_107
      refine xm_tsOut hX (tgt := 108) dX3_ifSet_28 (by have qz7 := lv_neT (a := 0) z7 rfl; have qz8 := lv_neT (a := 1) z8 rfl; have qz9 := lv_neT (a := 2) z9 rfl; have qz14 := lv_neT (a := 3) z14 rfl; omega) rfl ?_
      refine xm_aload_n hX 0 dX3_ifSet_108 rfl rfl ?_
      refine xm_get hX (k := 0) (ci := 3) (j := 3) (C := RX3) (T := TX3) (N := 6) (v := .ref (g.1 49)) cL_0 rfl rfl rfl (by decide) (fun z hz => List.mem_cons_of_mem _ (iw_X3 z hz)) (List.mem_cons_of_mem _ gm_132) dX3_ifSet_109 ?_
      refine xm_calli hX (xm_runV hX (k := 49) (ci := 2) (As := (fun g => [])) (kX2_toldErrors M5) cL_49 rfl (xm_gV gm_317 gm_318 gm_319 gm_3 gm_320) rfl ⟨rfl, rfl⟩ ⟨rfl, hdX2_toldErrors⟩ ⟨Nat.le_of_ble_eq_true rfl, Nat.le_of_ble_eq_true rfl⟩ rfl (Nat.le_of_ble_eq_true rfl) rfl dX3_ifSet_112) (fun x16 M15 => ?_)
      exact xm_iret hX dX3_ifSet_115
    · refine xm_ldc hX (v := -1000000002) (List.mem_cons_of_mem _ gm_217) dX3_ifSet_17 ?_
      exact xm_iret hX dX3_ifSet_19
-- ===== OdometryDesk$State.addStep(III)I ['1']
theorem dX1_addStep_0 : decode cX1_addStep 0 = .ok (.iload_n 1, 1) := by decide +kernel
theorem dX1_addStep_1 : decode cX1_addStep 1 = .ok (.sipush (-300), 3) := by decide +kernel
theorem dX1_addStep_4 : decode cX1_addStep 4 = .ok (.sipush 300, 3) := by decide +kernel
theorem dX1_addStep_7 : decode cX1_addStep 7 = .ok (.invokestatic 60, 3) := by decide +kernel
theorem dX1_addStep_10 : decode cX1_addStep 10 = .ok (.ifCond .eq 27, 3) := by decide +kernel
theorem dX1_addStep_13 : decode cX1_addStep 13 = .ok (.iload_n 2, 1) := by decide +kernel
theorem dX1_addStep_14 : decode cX1_addStep 14 = .ok (.sipush (-300), 3) := by decide +kernel
theorem dX1_addStep_17 : decode cX1_addStep 17 = .ok (.sipush 300, 3) := by decide +kernel
theorem dX1_addStep_20 : decode cX1_addStep 20 = .ok (.invokestatic 60, 3) := by decide +kernel
theorem dX1_addStep_23 : decode cX1_addStep 23 = .ok (.ifCond .eq 14, 3) := by decide +kernel
theorem dX1_addStep_26 : decode cX1_addStep 26 = .ok (.iload_n 3, 1) := by decide +kernel
theorem dX1_addStep_27 : decode cX1_addStep 27 = .ok (.ldc 64, 2) := by decide +kernel
theorem dX1_addStep_29 : decode cX1_addStep 29 = .ok (.ldc 65, 2) := by decide +kernel
theorem dX1_addStep_31 : decode cX1_addStep 31 = .ok (.invokestatic 60, 3) := by decide +kernel
theorem dX1_addStep_34 : decode cX1_addStep 34 = .ok (.ifCond .ne 6, 3) := by decide +kernel
theorem dX1_addStep_37 : decode cX1_addStep 37 = .ok (.bipush (-2), 2) := by decide +kernel
theorem dX1_addStep_39 : decode cX1_addStep 39 = .ok (.ireturn, 1) := by decide +kernel
theorem dX1_addStep_40 : decode cX1_addStep 40 = .ok (.aload_n 0, 1) := by decide +kernel
theorem dX1_addStep_41 : decode cX1_addStep 41 = .ok (.getfield 48, 3) := by decide +kernel
theorem dX1_addStep_44 : decode cX1_addStep 44 = .ok (.bipush 120, 2) := by decide +kernel
theorem dX1_addStep_46 : decode cX1_addStep 46 = .ok (.if_icmp .lt 6, 3) := by decide +kernel
theorem dX1_addStep_49 : decode cX1_addStep 49 = .ok (.bipush (-4), 2) := by decide +kernel
theorem dX1_addStep_51 : decode cX1_addStep 51 = .ok (.ireturn, 1) := by decide +kernel
theorem dX1_addStep_52 : decode cX1_addStep 52 = .ok (.aload_n 0, 1) := by decide +kernel
theorem dX1_addStep_53 : decode cX1_addStep 53 = .ok (.getfield 31, 3) := by decide +kernel
theorem dX1_addStep_56 : decode cX1_addStep 56 = .ok (.iconst 0, 1) := by decide +kernel
theorem dX1_addStep_57 : decode cX1_addStep 57 = .ok (.aload_n 0, 1) := by decide +kernel
theorem dX1_addStep_58 : decode cX1_addStep 58 = .ok (.getfield 48, 3) := by decide +kernel
theorem dX1_addStep_61 : decode cX1_addStep 61 = .ok (.bipush (-6), 2) := by decide +kernel
theorem dX1_addStep_63 : decode cX1_addStep 63 = .ok (.invokestatic 66, 3) := by decide +kernel
theorem dX1_addStep_66 : decode cX1_addStep 66 = .ok (.aload_n 0, 1) := by decide +kernel
theorem dX1_addStep_67 : decode cX1_addStep 67 = .ok (.getfield 31, 3) := by decide +kernel
theorem dX1_addStep_70 : decode cX1_addStep 70 = .ok (.iconst 1, 1) := by decide +kernel
theorem dX1_addStep_71 : decode cX1_addStep 71 = .ok (.aload_n 0, 1) := by decide +kernel
theorem dX1_addStep_72 : decode cX1_addStep 72 = .ok (.getfield 48, 3) := by decide +kernel
theorem dX1_addStep_75 : decode cX1_addStep 75 = .ok (.iload_n 1, 1) := by decide +kernel
theorem dX1_addStep_76 : decode cX1_addStep 76 = .ok (.invokestatic 66, 3) := by decide +kernel
theorem dX1_addStep_79 : decode cX1_addStep 79 = .ok (.aload_n 0, 1) := by decide +kernel
theorem dX1_addStep_80 : decode cX1_addStep 80 = .ok (.getfield 31, 3) := by decide +kernel
theorem dX1_addStep_83 : decode cX1_addStep 83 = .ok (.iconst 2, 1) := by decide +kernel
theorem dX1_addStep_84 : decode cX1_addStep 84 = .ok (.aload_n 0, 1) := by decide +kernel
theorem dX1_addStep_85 : decode cX1_addStep 85 = .ok (.getfield 48, 3) := by decide +kernel
theorem dX1_addStep_88 : decode cX1_addStep 88 = .ok (.iload_n 2, 1) := by decide +kernel
theorem dX1_addStep_89 : decode cX1_addStep 89 = .ok (.invokestatic 66, 3) := by decide +kernel
theorem dX1_addStep_92 : decode cX1_addStep 92 = .ok (.aload_n 0, 1) := by decide +kernel
theorem dX1_addStep_93 : decode cX1_addStep 93 = .ok (.getfield 31, 3) := by decide +kernel
theorem dX1_addStep_96 : decode cX1_addStep 96 = .ok (.iconst 3, 1) := by decide +kernel
theorem dX1_addStep_97 : decode cX1_addStep 97 = .ok (.aload_n 0, 1) := by decide +kernel
theorem dX1_addStep_98 : decode cX1_addStep 98 = .ok (.getfield 48, 3) := by decide +kernel
theorem dX1_addStep_101 : decode cX1_addStep 101 = .ok (.iload_n 3, 1) := by decide +kernel
theorem dX1_addStep_102 : decode cX1_addStep 102 = .ok (.invokestatic 66, 3) := by decide +kernel
theorem dX1_addStep_105 : decode cX1_addStep 105 = .ok (.aload_n 0, 1) := by decide +kernel
theorem dX1_addStep_106 : decode cX1_addStep 106 = .ok (.dup, 1) := by decide +kernel
theorem dX1_addStep_107 : decode cX1_addStep 107 = .ok (.getfield 48, 3) := by decide +kernel
theorem dX1_addStep_110 : decode cX1_addStep 110 = .ok (.iconst 1, 1) := by decide +kernel
theorem dX1_addStep_111 : decode cX1_addStep 111 = .ok (.iadd, 1) := by decide +kernel
theorem dX1_addStep_112 : decode cX1_addStep 112 = .ok (.putfield 48, 3) := by decide +kernel
theorem dX1_addStep_115 : decode cX1_addStep 115 = .ok (.aload_n 0, 1) := by decide +kernel
theorem dX1_addStep_116 : decode cX1_addStep 116 = .ok (.getfield 48, 3) := by decide +kernel
theorem dX1_addStep_119 : decode cX1_addStep 119 = .ok (.ireturn, 1) := by decide +kernel
abbrev wX1_addStep : List Cond := .code yX1_addStep cX1_addStep 4 (some .int) :: lw_gd
theorem hdX1_addStep : (yX1_addStep.cls ≠ "java/lang/invoke/MethodHandle" ∧ yX1_addStep.cls ≠ "java/lang/invoke/VarHandle" ∧ (parseMethodDescriptor yX1_addStep.desc).map (fun d => d.parameters.length) = some 3) := by decide +kernel
def fX1_addStep  (a1 : Int32) (a2 : Int32) (a3 : Int32) (M : xm_M) : Option (Int32 × xm_M) :=
  xm_bi (fX3_isWithin a1 ((-300 : Int32)) ((300 : Int32)) M) (fun x2 M1 => if x2 = 0 then some ((-2 : Int32), M1) else xm_bi (fX3_isWithin a2 ((-300 : Int32)) ((300 : Int32)) M1) (fun x4 M3 => if x4 = 0 then some ((-2 : Int32), M3) else xm_bi (fX3_isWithin a3 ((-300000 : Int32)) ((300000 : Int32)) M3) (fun x6 M5 => if x6 = 0 then some ((-2 : Int32), M5) else if (M5.1 1 6) < ((120 : Int32)) then xm_bv (fX3_keep_ 12 4 13 120 ((0 : Int32)) (M5.1 1 6) ((-6 : Int32)) M5) (fun M7 => xm_bv (fX3_keep_ 12 4 13 120 ((1 : Int32)) (M7.1 1 6) a1 M7) (fun M8 => xm_bv (fX3_keep_ 12 4 13 120 ((2 : Int32)) (M8.1 1 6) a2 M8) (fun M9 => xm_bv (fX3_keep_ 12 4 13 120 ((3 : Int32)) (M9.1 1 6) a3 M9) (fun M10 => xm_lt (xm_s M10 1 6 ((M10.1 1 6) + ((1 : Int32)))) (fun M11 => some (M11.1 1 6, M11)))))) else some ((-4 : Int32), M5))))
set_option maxRecDepth 20000 in
theorem kX1_addStep {l : Launch}   (a1 : Int32) (a2 : Int32) (a3 : Int32) (M : xm_M) : xm_C l yX1_addStep wX1_addStep ({ frames := 1, cells := 0, slots := 0, locals := 23 }) cL (fun g => [.ref (g.1 1), .int a1, .int a2, .int a3]) M xm_Fi (fX1_addStep  a1 a2 a3 M) := by
  refine xm_C.of (by decide) rfl (fun g => Nat.le_of_ble_eq_true rfl) ?_
  intro p e s m args below meth c D g A hX
  refine xm_lv (lv' := [(0, .ref (g.1 1)), (1, .int a1), (2, .int a2), (3, .int a3)]) rfl ?_
  unfold fX1_addStep
  refine xm_iload_n hX 1 dX1_addStep_0 rfl rfl ?_
  refine xm_sipush hX (v := -300) rfl dX1_addStep_1 ?_
  refine xm_sipush hX (v := 300) rfl dX1_addStep_4 ?_
  refine xm_calli hX (xm_runSN hX (As := (fun g => [.int a1, .int ((-300 : Int32)), .int ((300 : Int32))])) (kX3_isWithin a1 ((-300 : Int32)) ((300 : Int32)) M) (xm_gN gm_152) rfl ⟨rfl, rfl⟩ nw_0 (List.mem_cons_of_mem _ gm_1) (List.mem_cons_of_mem _ gm_151) hdX3_isWithin ⟨Nat.le_of_ble_eq_true rfl, Nat.le_of_ble_eq_true rfl⟩ rfl (Nat.le_of_ble_eq_true rfl) rfl dX1_addStep_7) (fun x2 M1 => ?_)
  refine xm_if_eq hX (tgt := 37) dX1_addStep_10 rfl ?_ ?_
  · refine xm_bipush hX (v := -2) rfl dX1_addStep_37 ?_
    exact xm_iret hX dX1_addStep_39
  · refine xm_iload_n hX 2 dX1_addStep_13 rfl rfl ?_
    refine xm_sipush hX (v := -300) rfl dX1_addStep_14 ?_
    refine xm_sipush hX (v := 300) rfl dX1_addStep_17 ?_
    refine xm_calli hX (xm_runSN hX (As := (fun g => [.int a2, .int ((-300 : Int32)), .int ((300 : Int32))])) (kX3_isWithin a2 ((-300 : Int32)) ((300 : Int32)) M1) (xm_gN gm_152) rfl ⟨rfl, rfl⟩ nw_0 (List.mem_cons_of_mem _ gm_1) (List.mem_cons_of_mem _ gm_151) hdX3_isWithin ⟨Nat.le_of_ble_eq_true rfl, Nat.le_of_ble_eq_true rfl⟩ rfl (Nat.le_of_ble_eq_true rfl) rfl dX1_addStep_20) (fun x4 M3 => ?_)
    refine xm_if_eq hX (tgt := 37) dX1_addStep_23 rfl ?_ ?_
    · refine xm_bipush hX (v := -2) rfl dX1_addStep_37 ?_
      exact xm_iret hX dX1_addStep_39
    · refine xm_iload_n hX 3 dX1_addStep_26 rfl rfl ?_
      refine xm_ldc hX (v := -300000) (List.mem_cons_of_mem _ gm_198) dX1_addStep_27 ?_
      refine xm_ldc hX (v := 300000) (List.mem_cons_of_mem _ gm_199) dX1_addStep_29 ?_
      refine xm_calli hX (xm_runSN hX (As := (fun g => [.int a3, .int ((-300000 : Int32)), .int ((300000 : Int32))])) (kX3_isWithin a3 ((-300000 : Int32)) ((300000 : Int32)) M3) (xm_gN gm_152) rfl ⟨rfl, rfl⟩ nw_0 (List.mem_cons_of_mem _ gm_1) (List.mem_cons_of_mem _ gm_151) hdX3_isWithin ⟨Nat.le_of_ble_eq_true rfl, Nat.le_of_ble_eq_true rfl⟩ rfl (Nat.le_of_ble_eq_true rfl) rfl dX1_addStep_31) (fun x6 M5 => ?_)
      refine xm_if_ne hX (tgt := 40) dX1_addStep_34 rfl ?_ ?_
      · refine xm_aload_n hX 0 dX1_addStep_40 rfl rfl ?_
        refine xm_get hX (k := 1) (ci := 1) (j := 6) (C := RX1) (T := TX1) (N := 11) (v := .int (M5.1 1 6)) cL_1 rfl rfl rfl (by decide) (fun z hz => List.mem_cons_of_mem _ (iw_X1 z hz)) (List.mem_cons_of_mem _ gm_44) dX1_addStep_41 ?_
        refine xm_bipush hX (v := 120) rfl dX1_addStep_44 ?_
        refine xm_icmp_lt hX (tgt := 52) dX1_addStep_46 rfl ?_ ?_
        · refine xm_aload_n hX 0 dX1_addStep_52 rfl rfl ?_
          refine xm_get hX (k := 1) (ci := 1) (j := 3) (C := RX1) (T := TX1) (N := 11) (v := .ref (g.1 12)) cL_1 rfl rfl rfl (by decide) (fun z hz => List.mem_cons_of_mem _ (iw_X1 z hz)) (List.mem_cons_of_mem _ gm_37) dX1_addStep_53 ?_
          refine xm_iconst hX (v := 0) rfl dX1_addStep_56 ?_
          refine xm_aload_n hX 0 dX1_addStep_57 rfl rfl ?_
          refine xm_get hX (k := 1) (ci := 1) (j := 6) (C := RX1) (T := TX1) (N := 11) (v := .int (M5.1 1 6)) cL_1 rfl rfl rfl (by decide) (fun z hz => List.mem_cons_of_mem _ (iw_X1 z hz)) (List.mem_cons_of_mem _ gm_44) dX1_addStep_58 ?_
          refine xm_bipush hX (v := -6) rfl dX1_addStep_61 ?_
          refine xm_callv hX (xm_runSN hX (As := (fun g => [.ref (g.1 12), .int ((0 : Int32)), .int (M5.1 1 6), .int ((-6 : Int32))])) (kX3_keep_ 12 4 13 120 cL_12 cL_rows_12 ((0 : Int32)) (M5.1 1 6) ((-6 : Int32)) M5) (xm_gN gm_173) rfl ⟨rfl, rfl⟩ nw_1 (List.mem_cons_of_mem _ gm_1) (List.mem_cons_of_mem _ gm_172) hdX3_keep_ ⟨Nat.le_of_ble_eq_true rfl, Nat.le_of_ble_eq_true rfl⟩ rfl (Nat.le_of_ble_eq_true rfl) rfl dX1_addStep_63) (fun M7 => ?_)
          refine xm_aload_n hX 0 dX1_addStep_66 rfl rfl ?_
          refine xm_get hX (k := 1) (ci := 1) (j := 3) (C := RX1) (T := TX1) (N := 11) (v := .ref (g.1 12)) cL_1 rfl rfl rfl (by decide) (fun z hz => List.mem_cons_of_mem _ (iw_X1 z hz)) (List.mem_cons_of_mem _ gm_37) dX1_addStep_67 ?_
          refine xm_iconst hX (v := 1) rfl dX1_addStep_70 ?_
          refine xm_aload_n hX 0 dX1_addStep_71 rfl rfl ?_
          refine xm_get hX (k := 1) (ci := 1) (j := 6) (C := RX1) (T := TX1) (N := 11) (v := .int (M7.1 1 6)) cL_1 rfl rfl rfl (by decide) (fun z hz => List.mem_cons_of_mem _ (iw_X1 z hz)) (List.mem_cons_of_mem _ gm_44) dX1_addStep_72 ?_
          refine xm_iload_n hX 1 dX1_addStep_75 rfl rfl ?_
          refine xm_callv hX (xm_runSN hX (As := (fun g => [.ref (g.1 12), .int ((1 : Int32)), .int (M7.1 1 6), .int a1])) (kX3_keep_ 12 4 13 120 cL_12 cL_rows_12 ((1 : Int32)) (M7.1 1 6) a1 M7) (xm_gN gm_173) rfl ⟨rfl, rfl⟩ nw_1 (List.mem_cons_of_mem _ gm_1) (List.mem_cons_of_mem _ gm_172) hdX3_keep_ ⟨Nat.le_of_ble_eq_true rfl, Nat.le_of_ble_eq_true rfl⟩ rfl (Nat.le_of_ble_eq_true rfl) rfl dX1_addStep_76) (fun M8 => ?_)
          refine xm_aload_n hX 0 dX1_addStep_79 rfl rfl ?_
          refine xm_get hX (k := 1) (ci := 1) (j := 3) (C := RX1) (T := TX1) (N := 11) (v := .ref (g.1 12)) cL_1 rfl rfl rfl (by decide) (fun z hz => List.mem_cons_of_mem _ (iw_X1 z hz)) (List.mem_cons_of_mem _ gm_37) dX1_addStep_80 ?_
          refine xm_iconst hX (v := 2) rfl dX1_addStep_83 ?_
          refine xm_aload_n hX 0 dX1_addStep_84 rfl rfl ?_
          refine xm_get hX (k := 1) (ci := 1) (j := 6) (C := RX1) (T := TX1) (N := 11) (v := .int (M8.1 1 6)) cL_1 rfl rfl rfl (by decide) (fun z hz => List.mem_cons_of_mem _ (iw_X1 z hz)) (List.mem_cons_of_mem _ gm_44) dX1_addStep_85 ?_
          refine xm_iload_n hX 2 dX1_addStep_88 rfl rfl ?_
          refine xm_callv hX (xm_runSN hX (As := (fun g => [.ref (g.1 12), .int ((2 : Int32)), .int (M8.1 1 6), .int a2])) (kX3_keep_ 12 4 13 120 cL_12 cL_rows_12 ((2 : Int32)) (M8.1 1 6) a2 M8) (xm_gN gm_173) rfl ⟨rfl, rfl⟩ nw_1 (List.mem_cons_of_mem _ gm_1) (List.mem_cons_of_mem _ gm_172) hdX3_keep_ ⟨Nat.le_of_ble_eq_true rfl, Nat.le_of_ble_eq_true rfl⟩ rfl (Nat.le_of_ble_eq_true rfl) rfl dX1_addStep_89) (fun M9 => ?_)
          refine xm_aload_n hX 0 dX1_addStep_92 rfl rfl ?_
          refine xm_get hX (k := 1) (ci := 1) (j := 3) (C := RX1) (T := TX1) (N := 11) (v := .ref (g.1 12)) cL_1 rfl rfl rfl (by decide) (fun z hz => List.mem_cons_of_mem _ (iw_X1 z hz)) (List.mem_cons_of_mem _ gm_37) dX1_addStep_93 ?_
          refine xm_iconst hX (v := 3) rfl dX1_addStep_96 ?_
          refine xm_aload_n hX 0 dX1_addStep_97 rfl rfl ?_
          refine xm_get hX (k := 1) (ci := 1) (j := 6) (C := RX1) (T := TX1) (N := 11) (v := .int (M9.1 1 6)) cL_1 rfl rfl rfl (by decide) (fun z hz => List.mem_cons_of_mem _ (iw_X1 z hz)) (List.mem_cons_of_mem _ gm_44) dX1_addStep_98 ?_
          refine xm_iload_n hX 3 dX1_addStep_101 rfl rfl ?_
          refine xm_callv hX (xm_runSN hX (As := (fun g => [.ref (g.1 12), .int ((3 : Int32)), .int (M9.1 1 6), .int a3])) (kX3_keep_ 12 4 13 120 cL_12 cL_rows_12 ((3 : Int32)) (M9.1 1 6) a3 M9) (xm_gN gm_173) rfl ⟨rfl, rfl⟩ nw_1 (List.mem_cons_of_mem _ gm_1) (List.mem_cons_of_mem _ gm_172) hdX3_keep_ ⟨Nat.le_of_ble_eq_true rfl, Nat.le_of_ble_eq_true rfl⟩ rfl (Nat.le_of_ble_eq_true rfl) rfl dX1_addStep_102) (fun M10 => ?_)
          refine xm_aload_n hX 0 dX1_addStep_105 rfl rfl ?_
          refine xm_dup hX rfl dX1_addStep_106 ?_
          refine xm_get hX (k := 1) (ci := 1) (j := 6) (C := RX1) (T := TX1) (N := 11) (v := .int (M10.1 1 6)) cL_1 rfl rfl rfl (by decide) (fun z hz => List.mem_cons_of_mem _ (iw_X1 z hz)) (List.mem_cons_of_mem _ gm_44) dX1_addStep_107 ?_
          refine xm_iconst hX (v := 1) rfl dX1_addStep_110 ?_
          refine xm_iadd hX dX1_addStep_111 ?_
          refine xm_puti hX (k := 1) (ci := 1) (j := 6) (C := RX1) (T := TX1) (N := 11) (t0 := tyX1) cL_1 rfl rfl (by decide) (fun z hz => List.mem_cons_of_mem _ (iw_X1 z hz)) tyX1_ok nmX1 rfl rfl (List.mem_cons_of_mem _ gm_44) dX1_addStep_112 (fun M11 => ?_)
          refine xm_aload_n hX 0 dX1_addStep_115 rfl rfl ?_
          refine xm_get hX (k := 1) (ci := 1) (j := 6) (C := RX1) (T := TX1) (N := 11) (v := .int (M11.1 1 6)) cL_1 rfl rfl rfl (by decide) (fun z hz => List.mem_cons_of_mem _ (iw_X1 z hz)) (List.mem_cons_of_mem _ gm_44) dX1_addStep_116 ?_
          exact xm_iret hX dX1_addStep_119
        · refine xm_bipush hX (v := -4) rfl dX1_addStep_49 ?_
          exact xm_iret hX dX1_addStep_51
      · refine xm_bipush hX (v := -2) rfl dX1_addStep_37 ?_
        exact xm_iret hX dX1_addStep_39
-- ===== OdometryDesk$State.addSight(I)I ['1']
theorem dX1_addSight_0 : decode cX1_addSight 0 = .ok (.iload_n 1, 1) := by decide +kernel
theorem dX1_addSight_1 : decode cX1_addSight 1 = .ok (.iconst 0, 1) := by decide +kernel
theorem dX1_addSight_2 : decode cX1_addSight 2 = .ok (.aload_n 0, 1) := by decide +kernel
theorem dX1_addSight_3 : decode cX1_addSight 3 = .ok (.getfield 45, 3) := by decide +kernel
theorem dX1_addSight_6 : decode cX1_addSight 6 = .ok (.iconst 1, 1) := by decide +kernel
theorem dX1_addSight_7 : decode cX1_addSight 7 = .ok (.isub, 1) := by decide +kernel
theorem dX1_addSight_8 : decode cX1_addSight 8 = .ok (.invokestatic 60, 3) := by decide +kernel
theorem dX1_addSight_11 : decode cX1_addSight 11 = .ok (.ifCond .ne 5, 3) := by decide +kernel
theorem dX1_addSight_14 : decode cX1_addSight 14 = .ok (.iconst (-1), 1) := by decide +kernel
theorem dX1_addSight_15 : decode cX1_addSight 15 = .ok (.ireturn, 1) := by decide +kernel
theorem dX1_addSight_16 : decode cX1_addSight 16 = .ok (.aload_n 0, 1) := by decide +kernel
theorem dX1_addSight_17 : decode cX1_addSight 17 = .ok (.getfield 48, 3) := by decide +kernel
theorem dX1_addSight_20 : decode cX1_addSight 20 = .ok (.bipush 120, 2) := by decide +kernel
theorem dX1_addSight_22 : decode cX1_addSight 22 = .ok (.if_icmp .lt 6, 3) := by decide +kernel
theorem dX1_addSight_25 : decode cX1_addSight 25 = .ok (.bipush (-4), 2) := by decide +kernel
theorem dX1_addSight_27 : decode cX1_addSight 27 = .ok (.ireturn, 1) := by decide +kernel
theorem dX1_addSight_28 : decode cX1_addSight 28 = .ok (.aload_n 0, 1) := by decide +kernel
theorem dX1_addSight_29 : decode cX1_addSight 29 = .ok (.getfield 31, 3) := by decide +kernel
theorem dX1_addSight_32 : decode cX1_addSight 32 = .ok (.iconst 0, 1) := by decide +kernel
theorem dX1_addSight_33 : decode cX1_addSight 33 = .ok (.aload_n 0, 1) := by decide +kernel
theorem dX1_addSight_34 : decode cX1_addSight 34 = .ok (.getfield 48, 3) := by decide +kernel
theorem dX1_addSight_37 : decode cX1_addSight 37 = .ok (.iload_n 1, 1) := by decide +kernel
theorem dX1_addSight_38 : decode cX1_addSight 38 = .ok (.invokestatic 66, 3) := by decide +kernel
theorem dX1_addSight_41 : decode cX1_addSight 41 = .ok (.aload_n 0, 1) := by decide +kernel
theorem dX1_addSight_42 : decode cX1_addSight 42 = .ok (.dup, 1) := by decide +kernel
theorem dX1_addSight_43 : decode cX1_addSight 43 = .ok (.getfield 48, 3) := by decide +kernel
theorem dX1_addSight_46 : decode cX1_addSight 46 = .ok (.iconst 1, 1) := by decide +kernel
theorem dX1_addSight_47 : decode cX1_addSight 47 = .ok (.iadd, 1) := by decide +kernel
theorem dX1_addSight_48 : decode cX1_addSight 48 = .ok (.putfield 48, 3) := by decide +kernel
theorem dX1_addSight_51 : decode cX1_addSight 51 = .ok (.aload_n 0, 1) := by decide +kernel
theorem dX1_addSight_52 : decode cX1_addSight 52 = .ok (.getfield 48, 3) := by decide +kernel
theorem dX1_addSight_55 : decode cX1_addSight 55 = .ok (.ireturn, 1) := by decide +kernel
abbrev wX1_addSight : List Cond := .code yX1_addSight cX1_addSight 2 (some .int) :: lw_gd
theorem hdX1_addSight : (yX1_addSight.cls ≠ "java/lang/invoke/MethodHandle" ∧ yX1_addSight.cls ≠ "java/lang/invoke/VarHandle" ∧ (parseMethodDescriptor yX1_addSight.desc).map (fun d => d.parameters.length) = some 1) := by decide +kernel
def fX1_addSight  (a1 : Int32) (M : xm_M) : Option (Int32 × xm_M) :=
  xm_bi (fX3_isWithin a1 ((0 : Int32)) ((M.1 1 5) - ((1 : Int32))) M) (fun x2 M1 => if x2 = 0 then some ((-1 : Int32), M1) else if (M1.1 1 6) < ((120 : Int32)) then xm_bv (fX3_keep_ 12 4 13 120 ((0 : Int32)) (M1.1 1 6) a1 M1) (fun M3 => xm_lt (xm_s M3 1 6 ((M3.1 1 6) + ((1 : Int32)))) (fun M4 => some (M4.1 1 6, M4))) else some ((-4 : Int32), M1))
set_option maxRecDepth 20000 in
theorem kX1_addSight {l : Launch}   (a1 : Int32) (M : xm_M) : xm_C l yX1_addSight wX1_addSight ({ frames := 1, cells := 0, slots := 0, locals := 23 }) cL (fun g => [.ref (g.1 1), .int a1]) M xm_Fi (fX1_addSight  a1 M) := by
  refine xm_C.of (by decide) rfl (fun g => Nat.le_of_ble_eq_true rfl) ?_
  intro p e s m args below meth c D g A hX
  refine xm_lv (lv' := [(0, .ref (g.1 1)), (1, .int a1)]) rfl ?_
  unfold fX1_addSight
  refine xm_iload_n hX 1 dX1_addSight_0 rfl rfl ?_
  refine xm_iconst hX (v := 0) rfl dX1_addSight_1 ?_
  refine xm_aload_n hX 0 dX1_addSight_2 rfl rfl ?_
  refine xm_get hX (k := 1) (ci := 1) (j := 5) (C := RX1) (T := TX1) (N := 11) (v := .int (M.1 1 5)) cL_1 rfl rfl rfl (by decide) (fun z hz => List.mem_cons_of_mem _ (iw_X1 z hz)) (List.mem_cons_of_mem _ gm_42) dX1_addSight_3 ?_
  refine xm_iconst hX (v := 1) rfl dX1_addSight_6 ?_
  refine xm_isub hX dX1_addSight_7 ?_
  refine xm_calli hX (xm_runSN hX (As := (fun g => [.int a1, .int ((0 : Int32)), .int ((M.1 1 5) - ((1 : Int32)))])) (kX3_isWithin a1 ((0 : Int32)) ((M.1 1 5) - ((1 : Int32))) M) (xm_gN gm_152) rfl ⟨rfl, rfl⟩ nw_0 (List.mem_cons_of_mem _ gm_1) (List.mem_cons_of_mem _ gm_151) hdX3_isWithin ⟨Nat.le_of_ble_eq_true rfl, Nat.le_of_ble_eq_true rfl⟩ rfl (Nat.le_of_ble_eq_true rfl) rfl dX1_addSight_8) (fun x2 M1 => ?_)
  refine xm_if_ne hX (tgt := 16) dX1_addSight_11 rfl ?_ ?_
  · refine xm_aload_n hX 0 dX1_addSight_16 rfl rfl ?_
    refine xm_get hX (k := 1) (ci := 1) (j := 6) (C := RX1) (T := TX1) (N := 11) (v := .int (M1.1 1 6)) cL_1 rfl rfl rfl (by decide) (fun z hz => List.mem_cons_of_mem _ (iw_X1 z hz)) (List.mem_cons_of_mem _ gm_44) dX1_addSight_17 ?_
    refine xm_bipush hX (v := 120) rfl dX1_addSight_20 ?_
    refine xm_icmp_lt hX (tgt := 28) dX1_addSight_22 rfl ?_ ?_
    · refine xm_aload_n hX 0 dX1_addSight_28 rfl rfl ?_
      refine xm_get hX (k := 1) (ci := 1) (j := 3) (C := RX1) (T := TX1) (N := 11) (v := .ref (g.1 12)) cL_1 rfl rfl rfl (by decide) (fun z hz => List.mem_cons_of_mem _ (iw_X1 z hz)) (List.mem_cons_of_mem _ gm_37) dX1_addSight_29 ?_
      refine xm_iconst hX (v := 0) rfl dX1_addSight_32 ?_
      refine xm_aload_n hX 0 dX1_addSight_33 rfl rfl ?_
      refine xm_get hX (k := 1) (ci := 1) (j := 6) (C := RX1) (T := TX1) (N := 11) (v := .int (M1.1 1 6)) cL_1 rfl rfl rfl (by decide) (fun z hz => List.mem_cons_of_mem _ (iw_X1 z hz)) (List.mem_cons_of_mem _ gm_44) dX1_addSight_34 ?_
      refine xm_iload_n hX 1 dX1_addSight_37 rfl rfl ?_
      refine xm_callv hX (xm_runSN hX (As := (fun g => [.ref (g.1 12), .int ((0 : Int32)), .int (M1.1 1 6), .int a1])) (kX3_keep_ 12 4 13 120 cL_12 cL_rows_12 ((0 : Int32)) (M1.1 1 6) a1 M1) (xm_gN gm_173) rfl ⟨rfl, rfl⟩ nw_1 (List.mem_cons_of_mem _ gm_1) (List.mem_cons_of_mem _ gm_172) hdX3_keep_ ⟨Nat.le_of_ble_eq_true rfl, Nat.le_of_ble_eq_true rfl⟩ rfl (Nat.le_of_ble_eq_true rfl) rfl dX1_addSight_38) (fun M3 => ?_)
      refine xm_aload_n hX 0 dX1_addSight_41 rfl rfl ?_
      refine xm_dup hX rfl dX1_addSight_42 ?_
      refine xm_get hX (k := 1) (ci := 1) (j := 6) (C := RX1) (T := TX1) (N := 11) (v := .int (M3.1 1 6)) cL_1 rfl rfl rfl (by decide) (fun z hz => List.mem_cons_of_mem _ (iw_X1 z hz)) (List.mem_cons_of_mem _ gm_44) dX1_addSight_43 ?_
      refine xm_iconst hX (v := 1) rfl dX1_addSight_46 ?_
      refine xm_iadd hX dX1_addSight_47 ?_
      refine xm_puti hX (k := 1) (ci := 1) (j := 6) (C := RX1) (T := TX1) (N := 11) (t0 := tyX1) cL_1 rfl rfl (by decide) (fun z hz => List.mem_cons_of_mem _ (iw_X1 z hz)) tyX1_ok nmX1 rfl rfl (List.mem_cons_of_mem _ gm_44) dX1_addSight_48 (fun M4 => ?_)
      refine xm_aload_n hX 0 dX1_addSight_51 rfl rfl ?_
      refine xm_get hX (k := 1) (ci := 1) (j := 6) (C := RX1) (T := TX1) (N := 11) (v := .int (M4.1 1 6)) cL_1 rfl rfl rfl (by decide) (fun z hz => List.mem_cons_of_mem _ (iw_X1 z hz)) (List.mem_cons_of_mem _ gm_44) dX1_addSight_52 ?_
      exact xm_iret hX dX1_addSight_55
    · refine xm_bipush hX (v := -4) rfl dX1_addSight_25 ?_
      exact xm_iret hX dX1_addSight_27
  · refine xm_iconst hX (v := -1) rfl dX1_addSight_14 ?_
    exact xm_iret hX dX1_addSight_15
end
section
-- ===== OdometryDesk.addRead()I ['0']
theorem dX3_addRead_0 : decode cX3_addRead 0 = .ok (.aload_n 0, 1) := by decide +kernel
theorem dX3_addRead_1 : decode cX3_addRead 1 = .ok (.getfield 32, 3) := by decide +kernel
theorem dX3_addRead_4 : decode cX3_addRead 4 = .ok (.getfield 209, 3) := by decide +kernel
theorem dX3_addRead_7 : decode cX3_addRead 7 = .ok (.iconst 0, 1) := by decide +kernel
theorem dX3_addRead_8 : decode cX3_addRead 8 = .ok (.invokestatic 55, 3) := by decide +kernel
theorem dX3_addRead_11 : decode cX3_addRead 11 = .ok (.istore_n 1, 1) := by decide +kernel
theorem dX3_addRead_12 : decode cX3_addRead 12 = .ok (.aload_n 0, 1) := by decide +kernel
theorem dX3_addRead_13 : decode cX3_addRead 13 = .ok (.getfield 32, 3) := by decide +kernel
theorem dX3_addRead_16 : decode cX3_addRead 16 = .ok (.getfield 212, 3) := by decide +kernel
theorem dX3_addRead_19 : decode cX3_addRead 19 = .ok (.ifCond .eq 14, 3) := by decide +kernel
theorem dX3_addRead_22 : decode cX3_addRead 22 = .ok (.aload_n 0, 1) := by decide +kernel
theorem dX3_addRead_23 : decode cX3_addRead 23 = .ok (.getfield 10, 3) := by decide +kernel
theorem dX3_addRead_26 : decode cX3_addRead 26 = .ok (.iload_n 1, 1) := by decide +kernel
theorem dX3_addRead_27 : decode cX3_addRead 27 = .ok (.invokevirtual 113, 3) := by decide +kernel
theorem dX3_addRead_30 : decode cX3_addRead 30 = .ok (.goto 33, 3) := by decide +kernel
theorem dX3_addRead_33 : decode cX3_addRead 33 = .ok (.aload_n 0, 1) := by decide +kernel
theorem dX3_addRead_34 : decode cX3_addRead 34 = .ok (.getfield 10, 3) := by decide +kernel
theorem dX3_addRead_37 : decode cX3_addRead 37 = .ok (.iload_n 1, 1) := by decide +kernel
theorem dX3_addRead_38 : decode cX3_addRead 38 = .ok (.aload_n 0, 1) := by decide +kernel
theorem dX3_addRead_39 : decode cX3_addRead 39 = .ok (.getfield 32, 3) := by decide +kernel
theorem dX3_addRead_42 : decode cX3_addRead 42 = .ok (.getfield 209, 3) := by decide +kernel
theorem dX3_addRead_45 : decode cX3_addRead 45 = .ok (.iconst 1, 1) := by decide +kernel
theorem dX3_addRead_46 : decode cX3_addRead 46 = .ok (.invokestatic 55, 3) := by decide +kernel
theorem dX3_addRead_49 : decode cX3_addRead 49 = .ok (.aload_n 0, 1) := by decide +kernel
theorem dX3_addRead_50 : decode cX3_addRead 50 = .ok (.getfield 32, 3) := by decide +kernel
theorem dX3_addRead_53 : decode cX3_addRead 53 = .ok (.getfield 209, 3) := by decide +kernel
theorem dX3_addRead_56 : decode cX3_addRead 56 = .ok (.iconst 2, 1) := by decide +kernel
theorem dX3_addRead_57 : decode cX3_addRead 57 = .ok (.invokestatic 55, 3) := by decide +kernel
theorem dX3_addRead_60 : decode cX3_addRead 60 = .ok (.invokevirtual 109, 3) := by decide +kernel
theorem dX3_addRead_63 : decode cX3_addRead 63 = .ok (.ireturn, 1) := by decide +kernel
abbrev wX3_addRead : List Cond := .code yX3_addRead cX3_addRead 2 (some .int) :: lw_gd
theorem hdX3_addRead : (yX3_addRead.cls ≠ "java/lang/invoke/MethodHandle" ∧ yX3_addRead.cls ≠ "java/lang/invoke/VarHandle" ∧ (parseMethodDescriptor yX3_addRead.desc).map (fun d => d.parameters.length) = some 0) := by decide +kernel
def fX3_addRead   (M : xm_M) : Option (Int32 × xm_M) :=
  xm_bi (fX3_item 71 3 ((0 : Int32)) M) (fun x2 M1 => if (M1.1 69 3) = 0 then xm_bi (fX3_item 71 3 ((1 : Int32)) M1) (fun x4 M3 => xm_bi (fX3_item 71 3 ((2 : Int32)) M3) (fun x6 M5 => xm_bi (fX1_addStep x2 x4 x6 M5) (fun x8 M7 => some (x8, M7)))) else xm_bi (fX1_addSight x2 M1) (fun x10 M9 => some (x10, M9)))
set_option maxRecDepth 20000 in
theorem kX3_addRead {l : Launch}    (M : xm_M) : xm_C l yX3_addRead wX3_addRead ({ frames := 2, cells := 0, slots := 0, locals := 46 }) cL (fun g => [.ref (g.1 0)]) M xm_Fi (fX3_addRead   M) := by
  refine xm_C.of (by decide) rfl (fun g => Nat.le_of_ble_eq_true rfl) ?_
  intro p e s m args below meth c D g A hX
  refine xm_lv (lv' := [(0, .ref (g.1 0))]) rfl ?_
  unfold fX3_addRead
  refine xm_aload_n hX 0 dX3_addRead_0 rfl rfl ?_
  refine xm_get hX (k := 0) (ci := 3) (j := 4) (C := RX3) (T := TX3) (N := 6) (v := .ref (g.1 69)) cL_0 rfl rfl rfl (by decide) (fun z hz => List.mem_cons_of_mem _ (iw_X3 z hz)) (List.mem_cons_of_mem _ gm_133) dX3_addRead_1 ?_
  refine xm_get hX (k := 69) (ci := 0) (j := 4) (C := RX0) (T := TX0) (N := 5) (v := .ref (g.1 71)) cL_69 rfl rfl rfl (by decide) (fun z hz => List.mem_cons_of_mem _ (iw_X0 z hz)) (List.mem_cons_of_mem _ gm_120) dX3_addRead_4 ?_
  refine xm_iconst hX (v := 0) rfl dX3_addRead_7 ?_
  refine xm_calli hX (xm_runS hX (As := (fun g => [.ref (g.1 71), .int ((0 : Int32))])) (kX3_item 71 3 cL_71 ((0 : Int32)) M) (xm_gS gm_153 gm_154 gm_1 gm_155) rfl ⟨rfl, rfl⟩ hdX3_item ⟨Nat.le_of_ble_eq_true rfl, Nat.le_of_ble_eq_true rfl⟩ rfl (Nat.le_of_ble_eq_true rfl) rfl dX3_addRead_8) (fun x2 M1 => ?_)
  refine xm_istore_n hX (lv' := [(1, .int x2), (0, .ref (g.1 0))]) dX3_addRead_11 rfl (by decide) rfl ?_
  refine xm_aload_n hX 1 dX3_addRead_12 rfl rfl ?_
  refine xm_get hX (k := 0) (ci := 3) (j := 4) (C := RX3) (T := TX3) (N := 6) (v := .ref (g.1 69)) cL_0 rfl rfl rfl (by decide) (fun z hz => List.mem_cons_of_mem _ (iw_X3 z hz)) (List.mem_cons_of_mem _ gm_133) dX3_addRead_13 ?_
  refine xm_get hX (k := 69) (ci := 0) (j := 3) (C := RX0) (T := TX0) (N := 5) (v := .int (M1.1 69 3)) cL_69 rfl rfl rfl (by decide) (fun z hz => List.mem_cons_of_mem _ (iw_X0 z hz)) (List.mem_cons_of_mem _ gm_118) dX3_addRead_16 ?_
  refine xm_if_eq hX (tgt := 33) dX3_addRead_19 rfl ?_ ?_
  · refine xm_aload_n hX 1 dX3_addRead_33 rfl rfl ?_
    refine xm_get hX (k := 0) (ci := 3) (j := 0) (C := RX3) (T := TX3) (N := 6) (v := .ref (g.1 1)) cL_0 rfl rfl rfl (by decide) (fun z hz => List.mem_cons_of_mem _ (iw_X3 z hz)) (List.mem_cons_of_mem _ gm_129) dX3_addRead_34 ?_
    refine xm_iload_n hX 0 dX3_addRead_37 rfl rfl ?_
    refine xm_aload_n hX 1 dX3_addRead_38 rfl rfl ?_
    refine xm_get hX (k := 0) (ci := 3) (j := 4) (C := RX3) (T := TX3) (N := 6) (v := .ref (g.1 69)) cL_0 rfl rfl rfl (by decide) (fun z hz => List.mem_cons_of_mem _ (iw_X3 z hz)) (List.mem_cons_of_mem _ gm_133) dX3_addRead_39 ?_
    refine xm_get hX (k := 69) (ci := 0) (j := 4) (C := RX0) (T := TX0) (N := 5) (v := .ref (g.1 71)) cL_69 rfl rfl rfl (by decide) (fun z hz => List.mem_cons_of_mem _ (iw_X0 z hz)) (List.mem_cons_of_mem _ gm_120) dX3_addRead_42 ?_
    refine xm_iconst hX (v := 1) rfl dX3_addRead_45 ?_
    refine xm_calli hX (xm_runS hX (As := (fun g => [.ref (g.1 71), .int ((1 : Int32))])) (kX3_item 71 3 cL_71 ((1 : Int32)) M1) (xm_gS gm_153 gm_154 gm_1 gm_155) rfl ⟨rfl, rfl⟩ hdX3_item ⟨Nat.le_of_ble_eq_true rfl, Nat.le_of_ble_eq_true rfl⟩ rfl (Nat.le_of_ble_eq_true rfl) rfl dX3_addRead_46) (fun x4 M3 => ?_)
    refine xm_aload_n hX 1 dX3_addRead_49 rfl rfl ?_
    refine xm_get hX (k := 0) (ci := 3) (j := 4) (C := RX3) (T := TX3) (N := 6) (v := .ref (g.1 69)) cL_0 rfl rfl rfl (by decide) (fun z hz => List.mem_cons_of_mem _ (iw_X3 z hz)) (List.mem_cons_of_mem _ gm_133) dX3_addRead_50 ?_
    refine xm_get hX (k := 69) (ci := 0) (j := 4) (C := RX0) (T := TX0) (N := 5) (v := .ref (g.1 71)) cL_69 rfl rfl rfl (by decide) (fun z hz => List.mem_cons_of_mem _ (iw_X0 z hz)) (List.mem_cons_of_mem _ gm_120) dX3_addRead_53 ?_
    refine xm_iconst hX (v := 2) rfl dX3_addRead_56 ?_
    refine xm_calli hX (xm_runS hX (As := (fun g => [.ref (g.1 71), .int ((2 : Int32))])) (kX3_item 71 3 cL_71 ((2 : Int32)) M3) (xm_gS gm_153 gm_154 gm_1 gm_155) rfl ⟨rfl, rfl⟩ hdX3_item ⟨Nat.le_of_ble_eq_true rfl, Nat.le_of_ble_eq_true rfl⟩ rfl (Nat.le_of_ble_eq_true rfl) rfl dX3_addRead_57) (fun x6 M5 => ?_)
    refine xm_calli hX (xm_runV hX (k := 1) (ci := 1) (As := (fun g => [.int x2, .int x4, .int x6])) (kX1_addStep x2 x4 x6 M5) cL_1 rfl (xm_gV gm_194 gm_195 gm_196 gm_2 gm_197) rfl ⟨rfl, rfl⟩ ⟨rfl, hdX1_addStep⟩ ⟨Nat.le_of_ble_eq_true rfl, Nat.le_of_ble_eq_true rfl⟩ rfl (Nat.le_of_ble_eq_true rfl) rfl dX3_addRead_60) (fun x8 M7 => ?_)
    exact xm_iret hX dX3_addRead_63
  · refine xm_aload_n hX 1 dX3_addRead_22 rfl rfl ?_
    refine xm_get hX (k := 0) (ci := 3) (j := 0) (C := RX3) (T := TX3) (N := 6) (v := .ref (g.1 1)) cL_0 rfl rfl rfl (by decide) (fun z hz => List.mem_cons_of_mem _ (iw_X3 z hz)) (List.mem_cons_of_mem _ gm_129) dX3_addRead_23 ?_
    refine xm_iload_n hX 0 dX3_addRead_26 rfl rfl ?_
    refine xm_calli hX (xm_runV hX (k := 1) (ci := 1) (As := (fun g => [.int x2])) (kX1_addSight x2 M1) cL_1 rfl (xm_gV gm_204 gm_205 gm_206 gm_2 gm_207) rfl ⟨rfl, rfl⟩ ⟨rfl, hdX1_addSight⟩ ⟨Nat.le_of_ble_eq_true rfl, Nat.le_of_ble_eq_true rfl⟩ rfl (Nat.le_of_ble_eq_true rfl) rfl dX3_addRead_27) (fun x10 M9 => ?_)
    refine xm_goto hX (tgt := 63) dX3_addRead_30 rfl ?_
    exact xm_iret hX dX3_addRead_63
-- ===== OdometryDesk.load()I ['0']
theorem dX3_load_0 : decode cX3_load 0 = .ok (.aload_n 0, 1) := by decide +kernel
theorem dX3_load_1 : decode cX3_load 1 = .ok (.getfield 32, 3) := by decide +kernel
theorem dX3_load_4 : decode cX3_load 4 = .ok (.invokevirtual 181, 3) := by decide +kernel
theorem dX3_load_7 : decode cX3_load 7 = .ok (.bipush (-6), 2) := by decide +kernel
theorem dX3_load_9 : decode cX3_load 9 = .ok (.if_icmp .eq 6, 3) := by decide +kernel
theorem dX3_load_12 : decode cX3_load 12 = .ok (.bipush (-3), 2) := by decide +kernel
theorem dX3_load_14 : decode cX3_load 14 = .ok (.ireturn, 1) := by decide +kernel
theorem dX3_load_15 : decode cX3_load 15 = .ok (.iconst 0, 1) := by decide +kernel
theorem dX3_load_16 : decode cX3_load 16 = .ok (.istore_n 1, 1) := by decide +kernel
theorem dX3_load_17 : decode cX3_load 17 = .ok (.aload_n 0, 1) := by decide +kernel
theorem dX3_load_18 : decode cX3_load 18 = .ok (.getfield 32, 3) := by decide +kernel
theorem dX3_load_21 : decode cX3_load 21 = .ok (.iconst 0, 1) := by decide +kernel
theorem dX3_load_22 : decode cX3_load 22 = .ok (.putfield 184, 3) := by decide +kernel
theorem dX3_load_25 : decode cX3_load 25 = .ok (.iconst 0, 1) := by decide +kernel
theorem dX3_load_26 : decode cX3_load 26 = .ok (.istore_n 2, 1) := by decide +kernel
theorem dX3_load_27 : decode cX3_load 27 = .ok (.iload_n 2, 1) := by decide +kernel
theorem dX3_load_28 : decode cX3_load 28 = .ok (.bipush 100, 2) := by decide +kernel
theorem dX3_load_30 : decode cX3_load 30 = .ok (.if_icmp .ge 59, 3) := by decide +kernel
theorem dX3_load_33 : decode cX3_load 33 = .ok (.aload_n 0, 1) := by decide +kernel
theorem dX3_load_34 : decode cX3_load 34 = .ok (.getfield 32, 3) := by decide +kernel
theorem dX3_load_37 : decode cX3_load 37 = .ok (.getfield 184, 3) := by decide +kernel
theorem dX3_load_40 : decode cX3_load 40 = .ok (.aload_n 0, 1) := by decide +kernel
theorem dX3_load_41 : decode cX3_load 41 = .ok (.getfield 32, 3) := by decide +kernel
theorem dX3_load_44 : decode cX3_load 44 = .ok (.getfield 145, 3) := by decide +kernel
theorem dX3_load_47 : decode cX3_load 47 = .ok (.if_icmp .ge 42, 3) := by decide +kernel
theorem dX3_load_50 : decode cX3_load 50 = .ok (.aload_n 0, 1) := by decide +kernel
theorem dX3_load_51 : decode cX3_load 51 = .ok (.getfield 32, 3) := by decide +kernel
theorem dX3_load_54 : decode cX3_load 54 = .ok (.invokevirtual 187, 3) := by decide +kernel
theorem dX3_load_57 : decode cX3_load 57 = .ok (.ifCond .eq 32, 3) := by decide +kernel
theorem dX3_load_60 : decode cX3_load 60 = .ok (.aload_n 0, 1) := by decide +kernel
theorem dX3_load_61 : decode cX3_load 61 = .ok (.getfield 32, 3) := by decide +kernel
theorem dX3_load_64 : decode cX3_load 64 = .ok (.bipush 59, 2) := by decide +kernel
theorem dX3_load_66 : decode cX3_load 66 = .ok (.invokevirtual 190, 3) := by decide +kernel
theorem dX3_load_69 : decode cX3_load 69 = .ok (.pop, 1) := by decide +kernel
theorem dX3_load_70 : decode cX3_load 70 = .ok (.aload_n 0, 1) := by decide +kernel
theorem dX3_load_71 : decode cX3_load 71 = .ok (.invokevirtual 194, 3) := by decide +kernel
theorem dX3_load_74 : decode cX3_load 74 = .ok (.ifCond .ge 6, 3) := by decide +kernel
theorem dX3_load_77 : decode cX3_load 77 = .ok (.goto 12, 3) := by decide +kernel
theorem dX3_load_80 : decode cX3_load 80 = .ok (.iinc 1 1, 3) := by decide +kernel
theorem dX3_load_83 : decode cX3_load 83 = .ok (.iinc 2 1, 3) := by decide +kernel
theorem dX3_load_86 : decode cX3_load 86 = .ok (.goto (-59), 3) := by decide +kernel
theorem dX3_load_89 : decode cX3_load 89 = .ok (.aload_n 0, 1) := by decide +kernel
theorem dX3_load_90 : decode cX3_load 90 = .ok (.getfield 32, 3) := by decide +kernel
theorem dX3_load_93 : decode cX3_load 93 = .ok (.iconst 0, 1) := by decide +kernel
theorem dX3_load_94 : decode cX3_load 94 = .ok (.putfield 145, 3) := by decide +kernel
theorem dX3_load_97 : decode cX3_load 97 = .ok (.iload_n 1, 1) := by decide +kernel
theorem dX3_load_98 : decode cX3_load 98 = .ok (.ireturn, 1) := by decide +kernel
abbrev wX3_load : List Cond := .code yX3_load cX3_load 3 (some .int) :: lw_gd
theorem hdX3_load : (yX3_load.cls ≠ "java/lang/invoke/MethodHandle" ∧ yX3_load.cls ≠ "java/lang/invoke/VarHandle" ∧ (parseMethodDescriptor yX3_load.desc).map (fun d => d.parameters.length) = some 0) := by decide +kernel
def fX3_load_89   (b1 : Int32) (M : xm_M) : Option (Int32 × xm_M) :=
  xm_lt (xm_s M 69 1 ((0 : Int32))) (fun M6 => some (b1, M6))
set_option maxRecDepth 20000 in
theorem tfX3_load_89 {p : Program} {l : Launch} {e : Env} {s : State} {m : MethodId} {args : Array Value} {below : List Frame} {meth : Method} {c : Code} {D : va_G} {g : xm_G} {A : Nat → Prop} (hX : xm_X p m meth c cX3_load 3 s args wX3_load RX3 (some .int) D cL g A)     : ∀ (b1 : Int32), ∀ (M : xm_M), xm_J p l e ({ frames := 6, cells := 0, slots := 0, locals := 130 }) s m args below meth c 3 D cL g A (xm_Fi g) 89 [(0, .ref (g.1 0)), (1, .int b1)] [] M (fX3_load_89 b1 M) := by
  intro b1 M
  unfold fX3_load_89
  refine xm_aload_n hX 0 dX3_load_89 rfl rfl ?_
  refine xm_get hX (k := 0) (ci := 3) (j := 4) (C := RX3) (T := TX3) (N := 6) (v := .ref (g.1 69)) cL_0 rfl rfl rfl (by decide) (fun z hz => List.mem_cons_of_mem _ (iw_X3 z hz)) (List.mem_cons_of_mem _ gm_133) dX3_load_90 ?_
  refine xm_iconst hX (v := 0) rfl dX3_load_93 ?_
  refine xm_puti hX (k := 69) (ci := 0) (j := 1) (C := RX0) (T := TX0) (N := 5) (t0 := tyX0) cL_69 rfl rfl (by decide) (fun z hz => List.mem_cons_of_mem _ (iw_X0 z hz)) tyX0_ok nmX0 rfl rfl (List.mem_cons_of_mem _ gm_114) dX3_load_94 (fun M6 => ?_)
  refine xm_iload_n hX 1 dX3_load_97 rfl rfl ?_
  exact xm_iret hX dX3_load_98
def fX3_load_27  (k27 : Int32 → Int32 → xm_M → Option (Int32 × xm_M)) (b1 : Int32) (b2 : Int32) (M : xm_M) : Option (Int32 × xm_M) :=
  if ((100 : Int32)) ≤ b2 then fX3_load_89 b1 M else if (M.1 69 1) ≤ (M.1 69 2) then fX3_load_89 b1 M else xm_bi (fX0_readEntry M) (fun x8 M7 => if x8 = 0 then fX3_load_89 b1 M7 else xm_bi (fX0_takes ((59 : Int32)) M7) (fun x10 M9 => xm_bi (fX3_addRead M9) (fun x12 M11 => if 0 ≤ x12 then xm_lt (b1 + Int32.ofInt 1) (fun x13 => xm_lt (b2 + Int32.ofInt 1) (fun x14 => k27 x13 x14 M11)) else fX3_load_89 b1 M11)))
set_option maxRecDepth 20000 in
theorem tfX3_load_27 {p : Program} {l : Launch} {e : Env} {s : State} {m : MethodId} {args : Array Value} {below : List Frame} {meth : Method} {c : Code} {D : va_G} {g : xm_G} {A : Nat → Prop} (hX : xm_X p m meth c cX3_load 3 s args wX3_load RX3 (some .int) D cL g A)   (k27 : Int32 → Int32 → xm_M → Option (Int32 × xm_M)) (h27 : ∀ (b1 : Int32), ∀ (b2 : Int32), ∀ (M : xm_M), xm_J p l e ({ frames := 6, cells := 0, slots := 0, locals := 130 }) s m args below meth c 3 D cL g A (xm_Fi g) 27 [(0, .ref (g.1 0)), (1, .int b1), (2, .int b2)] [] M (k27 b1 b2 M)) : ∀ (b1 : Int32), ∀ (b2 : Int32), ∀ (M : xm_M), xm_J p l e ({ frames := 6, cells := 0, slots := 0, locals := 130 }) s m args below meth c 3 D cL g A (xm_Fi g) 27 [(0, .ref (g.1 0)), (1, .int b1), (2, .int b2)] [] M (fX3_load_27 k27 b1 b2 M) := by
  intro b1 b2 M
  unfold fX3_load_27
  refine xm_iload_n hX 2 dX3_load_27 rfl rfl ?_
  refine xm_bipush hX (v := 100) rfl dX3_load_28 ?_
  refine xm_icmp_ge hX (tgt := 89) dX3_load_30 rfl ?_ ?_
  · refine xm_weak [0, 1] (lv' := [(0, .ref (g.1 0)), (1, .int b1)]) rfl ?_
    exact tfX3_load_89 hX b1 M
  · refine xm_aload_n hX 0 dX3_load_33 rfl rfl ?_
    refine xm_get hX (k := 0) (ci := 3) (j := 4) (C := RX3) (T := TX3) (N := 6) (v := .ref (g.1 69)) cL_0 rfl rfl rfl (by decide) (fun z hz => List.mem_cons_of_mem _ (iw_X3 z hz)) (List.mem_cons_of_mem _ gm_133) dX3_load_34 ?_
    refine xm_get hX (k := 69) (ci := 0) (j := 2) (C := RX0) (T := TX0) (N := 5) (v := .int (M.1 69 2)) cL_69 rfl rfl rfl (by decide) (fun z hz => List.mem_cons_of_mem _ (iw_X0 z hz)) (List.mem_cons_of_mem _ gm_116) dX3_load_37 ?_
    refine xm_aload_n hX 0 dX3_load_40 rfl rfl ?_
    refine xm_get hX (k := 0) (ci := 3) (j := 4) (C := RX3) (T := TX3) (N := 6) (v := .ref (g.1 69)) cL_0 rfl rfl rfl (by decide) (fun z hz => List.mem_cons_of_mem _ (iw_X3 z hz)) (List.mem_cons_of_mem _ gm_133) dX3_load_41 ?_
    refine xm_get hX (k := 69) (ci := 0) (j := 1) (C := RX0) (T := TX0) (N := 5) (v := .int (M.1 69 1)) cL_69 rfl rfl rfl (by decide) (fun z hz => List.mem_cons_of_mem _ (iw_X0 z hz)) (List.mem_cons_of_mem _ gm_114) dX3_load_44 ?_
    refine xm_icmp_ge hX (tgt := 89) dX3_load_47 rfl ?_ ?_
    · refine xm_weak [0, 1] (lv' := [(0, .ref (g.1 0)), (1, .int b1)]) rfl ?_
      exact tfX3_load_89 hX b1 M
    · refine xm_aload_n hX 0 dX3_load_50 rfl rfl ?_
      refine xm_get hX (k := 0) (ci := 3) (j := 4) (C := RX3) (T := TX3) (N := 6) (v := .ref (g.1 69)) cL_0 rfl rfl rfl (by decide) (fun z hz => List.mem_cons_of_mem _ (iw_X3 z hz)) (List.mem_cons_of_mem _ gm_133) dX3_load_51 ?_
      refine xm_calli hX (xm_runV hX (k := 69) (ci := 0) (As := (fun g => [])) (kX0_readEntry M) cL_69 rfl (xm_gV gm_404 gm_383 gm_384 gm_4 gm_385) rfl ⟨rfl, rfl⟩ ⟨rfl, hdX0_readEntry⟩ ⟨Nat.le_of_ble_eq_true rfl, Nat.le_of_ble_eq_true rfl⟩ rfl (Nat.le_of_ble_eq_true rfl) rfl dX3_load_54) (fun x8 M7 => ?_)
      refine xm_if_eq hX (tgt := 89) dX3_load_57 rfl ?_ ?_
      · refine xm_weak [0, 1] (lv' := [(0, .ref (g.1 0)), (1, .int b1)]) rfl ?_
        exact tfX3_load_89 hX b1 M7
      · refine xm_aload_n hX 0 dX3_load_60 rfl rfl ?_
        refine xm_get hX (k := 0) (ci := 3) (j := 4) (C := RX3) (T := TX3) (N := 6) (v := .ref (g.1 69)) cL_0 rfl rfl rfl (by decide) (fun z hz => List.mem_cons_of_mem _ (iw_X3 z hz)) (List.mem_cons_of_mem _ gm_133) dX3_load_61 ?_
        refine xm_bipush hX (v := 59) rfl dX3_load_64 ?_
        refine xm_calli hX (xm_runV hX (k := 69) (ci := 0) (As := (fun g => [.int ((59 : Int32))])) (kX0_takes ((59 : Int32)) M7) cL_69 rfl (xm_gV gm_405 gm_387 gm_388 gm_4 gm_389) rfl ⟨rfl, rfl⟩ ⟨rfl, hdX0_takes⟩ ⟨Nat.le_of_ble_eq_true rfl, Nat.le_of_ble_eq_true rfl⟩ rfl (Nat.le_of_ble_eq_true rfl) rfl dX3_load_66) (fun x10 M9 => ?_)
        refine xm_pop hX rfl dX3_load_69 ?_
        refine xm_aload_n hX 0 dX3_load_70 rfl rfl ?_
        refine xm_calli hX (xm_runV hX (k := 0) (ci := 3) (As := (fun g => [])) (kX3_addRead M9) cL_0 rfl (xm_gV gm_406 gm_407 gm_711 gm_1 gm_408) rfl ⟨rfl, rfl⟩ ⟨rfl, hdX3_addRead⟩ ⟨Nat.le_of_ble_eq_true rfl, Nat.le_of_ble_eq_true rfl⟩ rfl (Nat.le_of_ble_eq_true rfl) rfl dX3_load_71) (fun x12 M11 => ?_)
        refine xm_if_ge hX (tgt := 80) dX3_load_74 rfl ?_ ?_
        · refine xm_iinc hX (lv2 := fun x13 => [(1, .int x13), (0, .ref (g.1 0)), (2, .int b2)]) 1 dX3_load_80 rfl (by decide) (fun _ => rfl) (fun x13 => ?_)
          refine xm_iinc hX (lv2 := fun x14 => [(2, .int x14), (1, .int x13), (0, .ref (g.1 0))]) 2 dX3_load_83 rfl (by decide) (fun _ => rfl) (fun x14 => ?_)
          refine xm_goto hX (tgt := 27) dX3_load_86 rfl ?_
          refine xm_weak [2, 1, 0] (lv' := [(0, .ref (g.1 0)), (1, .int x13), (2, .int x14)]) rfl ?_
          exact h27 x13 x14 M11
        · refine xm_goto hX (tgt := 89) dX3_load_77 rfl ?_
          refine xm_weak [0, 1] (lv' := [(0, .ref (g.1 0)), (1, .int b1)]) rfl ?_
          exact tfX3_load_89 hX b1 M11
def fX3_load_27_it   (nq : Nat) : Int32 → Int32 → xm_M → Option (Int32 × xm_M) := xm_it (fun kq => fX3_load_27 kq) (fun _ _ _ => none) nq
theorem tfX3_load_27_it {p : Program} {l : Launch} {e : Env} {s : State} {m : MethodId} {args : Array Value} {below : List Frame} {meth : Method} {c : Code} {D : va_G} {g : xm_G} {A : Nat → Prop} (hX : xm_X p m meth c cX3_load 3 s args wX3_load RX3 (some .int) D cL g A)     : ∀ (nq : Nat), ∀ (b1 : Int32), ∀ (b2 : Int32), ∀ (M : xm_M), xm_J p l e ({ frames := 6, cells := 0, slots := 0, locals := 130 }) s m args below meth c 3 D cL g A (xm_Fi g) 27 [(0, .ref (g.1 0)), (1, .int b1), (2, .int b2)] [] M (fX3_load_27_it  nq b1 b2 M) := by
  intro nq
  induction nq with
  | zero => exact fun _ _ _ => xm_none
  | succ nq ih => exact tfX3_load_27 hX _ ih
def fX3_load   (M : xm_M) : Option (Int32 × xm_M) :=
  xm_bi (fX0_findFault M) (fun x2 M1 => if x2 = ((-6 : Int32)) then xm_lt ((0 : Int32)) (fun x3 => xm_lt (xm_s M1 69 2 ((0 : Int32))) (fun M4 => xm_lt ((0 : Int32)) (fun x5 => fX3_load_27_it xm_N x3 x5 M4))) else some ((-3 : Int32), M1))
set_option maxRecDepth 20000 in
theorem kX3_load {l : Launch}    (M : xm_M) : xm_C l yX3_load wX3_load ({ frames := 6, cells := 0, slots := 0, locals := 130 }) cL (fun g => [.ref (g.1 0)]) M xm_Fi (fX3_load   M) := by
  refine xm_C.of (by decide) rfl (fun g => Nat.le_of_ble_eq_true rfl) ?_
  intro p e s m args below meth c D g A hX
  refine xm_lv (lv' := [(0, .ref (g.1 0))]) rfl ?_
  unfold fX3_load
  refine xm_aload_n hX 0 dX3_load_0 rfl rfl ?_
  refine xm_get hX (k := 0) (ci := 3) (j := 4) (C := RX3) (T := TX3) (N := 6) (v := .ref (g.1 69)) cL_0 rfl rfl rfl (by decide) (fun z hz => List.mem_cons_of_mem _ (iw_X3 z hz)) (List.mem_cons_of_mem _ gm_133) dX3_load_1 ?_
  refine xm_calli hX (xm_runV hX (k := 69) (ci := 0) (As := (fun g => [])) (kX0_findFault M) cL_69 rfl (xm_gV gm_378 gm_379 gm_380 gm_4 gm_381) rfl ⟨rfl, rfl⟩ ⟨rfl, hdX0_findFault⟩ ⟨Nat.le_of_ble_eq_true rfl, Nat.le_of_ble_eq_true rfl⟩ rfl (Nat.le_of_ble_eq_true rfl) rfl dX3_load_4) (fun x2 M1 => ?_)
  refine xm_bipush hX (v := -6) rfl dX3_load_7 ?_
  refine xm_icmp_eq hX (tgt := 15) dX3_load_9 rfl ?_ ?_
  · refine xm_iconst hX (v := 0) rfl dX3_load_15 ?_
    refine xm_nmi (fun x3 => ?_)
    refine xm_istore_n hX (lv' := [(1, .int x3), (0, .ref (g.1 0))]) dX3_load_16 rfl (by decide) rfl ?_
    refine xm_aload_n hX 1 dX3_load_17 rfl rfl ?_
    refine xm_get hX (k := 0) (ci := 3) (j := 4) (C := RX3) (T := TX3) (N := 6) (v := .ref (g.1 69)) cL_0 rfl rfl rfl (by decide) (fun z hz => List.mem_cons_of_mem _ (iw_X3 z hz)) (List.mem_cons_of_mem _ gm_133) dX3_load_18 ?_
    refine xm_iconst hX (v := 0) rfl dX3_load_21 ?_
    refine xm_puti hX (k := 69) (ci := 0) (j := 2) (C := RX0) (T := TX0) (N := 5) (t0 := tyX0) cL_69 rfl rfl (by decide) (fun z hz => List.mem_cons_of_mem _ (iw_X0 z hz)) tyX0_ok nmX0 rfl rfl (List.mem_cons_of_mem _ gm_116) dX3_load_22 (fun M4 => ?_)
    refine xm_iconst hX (v := 0) rfl dX3_load_25 ?_
    refine xm_nmi (fun x5 => ?_)
    refine xm_istore_n hX (lv' := [(2, .int x5), (1, .int x3), (0, .ref (g.1 0))]) dX3_load_26 rfl (by decide) rfl ?_
    refine xm_weak [2, 1, 0] (lv' := [(0, .ref (g.1 0)), (1, .int x3), (2, .int x5)]) rfl ?_
    exact tfX3_load_27_it hX xm_N x3 x5 M4
  · refine xm_bipush hX (v := -3) rfl dX3_load_12 ?_
    exact xm_iret hX dX3_load_14
-- ===== OdometryDesk.marker(II)I ['0']
theorem dX3_marker_0 : decode cX3_marker 0 = .ok (.iload_n 1, 1) := by decide +kernel
theorem dX3_marker_1 : decode cX3_marker 1 = .ok (.iload_n 2, 1) := by decide +kernel
theorem dX3_marker_2 : decode cX3_marker 2 = .ok (.invokestatic 63, 3) := by decide +kernel
theorem dX3_marker_5 : decode cX3_marker 5 = .ok (.ifCond .ne 6, 3) := by decide +kernel
theorem dX3_marker_8 : decode cX3_marker 8 = .ok (.bipush (-2), 2) := by decide +kernel
theorem dX3_marker_10 : decode cX3_marker 10 = .ok (.ireturn, 1) := by decide +kernel
theorem dX3_marker_11 : decode cX3_marker 11 = .ok (.aload_n 0, 1) := by decide +kernel
theorem dX3_marker_12 : decode cX3_marker 12 = .ok (.getfield 10, 3) := by decide +kernel
theorem dX3_marker_15 : decode cX3_marker 15 = .ok (.getfield 90, 3) := by decide +kernel
theorem dX3_marker_18 : decode cX3_marker 18 = .ok (.istore_n 3, 1) := by decide +kernel
theorem dX3_marker_19 : decode cX3_marker 19 = .ok (.iload_n 3, 1) := by decide +kernel
theorem dX3_marker_20 : decode cX3_marker 20 = .ok (.bipush 6, 2) := by decide +kernel
theorem dX3_marker_22 : decode cX3_marker 22 = .ok (.if_icmp .lt 6, 3) := by decide +kernel
theorem dX3_marker_25 : decode cX3_marker 25 = .ok (.bipush (-4), 2) := by decide +kernel
theorem dX3_marker_27 : decode cX3_marker 27 = .ok (.ireturn, 1) := by decide +kernel
theorem dX3_marker_28 : decode cX3_marker 28 = .ok (.aload_n 0, 1) := by decide +kernel
theorem dX3_marker_29 : decode cX3_marker 29 = .ok (.getfield 10, 3) := by decide +kernel
theorem dX3_marker_32 : decode cX3_marker 32 = .ok (.getfield 93, 3) := by decide +kernel
theorem dX3_marker_35 : decode cX3_marker 35 = .ok (.iconst 0, 1) := by decide +kernel
theorem dX3_marker_36 : decode cX3_marker 36 = .ok (.iload_n 3, 1) := by decide +kernel
theorem dX3_marker_37 : decode cX3_marker 37 = .ok (.iload_n 1, 1) := by decide +kernel
theorem dX3_marker_38 : decode cX3_marker 38 = .ok (.invokestatic 84, 3) := by decide +kernel
theorem dX3_marker_41 : decode cX3_marker 41 = .ok (.aload_n 0, 1) := by decide +kernel
theorem dX3_marker_42 : decode cX3_marker 42 = .ok (.getfield 10, 3) := by decide +kernel
theorem dX3_marker_45 : decode cX3_marker 45 = .ok (.getfield 93, 3) := by decide +kernel
theorem dX3_marker_48 : decode cX3_marker 48 = .ok (.iconst 1, 1) := by decide +kernel
theorem dX3_marker_49 : decode cX3_marker 49 = .ok (.iload_n 3, 1) := by decide +kernel
theorem dX3_marker_50 : decode cX3_marker 50 = .ok (.iload_n 2, 1) := by decide +kernel
theorem dX3_marker_51 : decode cX3_marker 51 = .ok (.invokestatic 84, 3) := by decide +kernel
theorem dX3_marker_54 : decode cX3_marker 54 = .ok (.aload_n 0, 1) := by decide +kernel
theorem dX3_marker_55 : decode cX3_marker 55 = .ok (.getfield 10, 3) := by decide +kernel
theorem dX3_marker_58 : decode cX3_marker 58 = .ok (.iload_n 3, 1) := by decide +kernel
theorem dX3_marker_59 : decode cX3_marker 59 = .ok (.iconst 1, 1) := by decide +kernel
theorem dX3_marker_60 : decode cX3_marker 60 = .ok (.iadd, 1) := by decide +kernel
theorem dX3_marker_61 : decode cX3_marker 61 = .ok (.putfield 90, 3) := by decide +kernel
theorem dX3_marker_64 : decode cX3_marker 64 = .ok (.iload_n 3, 1) := by decide +kernel
theorem dX3_marker_65 : decode cX3_marker 65 = .ok (.ireturn, 1) := by decide +kernel
abbrev wX3_marker : List Cond := .code yX3_marker cX3_marker 4 (some .int) :: lw_gd
theorem hdX3_marker : (yX3_marker.cls ≠ "java/lang/invoke/MethodHandle" ∧ yX3_marker.cls ≠ "java/lang/invoke/VarHandle" ∧ (parseMethodDescriptor yX3_marker.desc).map (fun d => d.parameters.length) = some 2) := by decide +kernel
def fX3_marker  (a1 : Int32) (a2 : Int32) (M : xm_M) : Option (Int32 × xm_M) :=
  xm_bi (fX3_isPlace a1 a2 M) (fun x2 M1 => if x2 = 0 then some ((-2 : Int32), M1) else xm_lt (M1.1 1 5) (fun x3 => if x3 < ((6 : Int32)) then xm_bv (fX3_keep_ 9 2 10 6 ((0 : Int32)) x3 a1 M1) (fun M4 => xm_bv (fX3_keep_ 9 2 10 6 ((1 : Int32)) x3 a2 M4) (fun M5 => xm_lt (xm_s M5 1 5 (x3 + ((1 : Int32)))) (fun M6 => some (x3, M6)))) else some ((-4 : Int32), M1)))
set_option maxRecDepth 20000 in
theorem kX3_marker {l : Launch}   (a1 : Int32) (a2 : Int32) (M : xm_M) : xm_C l yX3_marker wX3_marker ({ frames := 2, cells := 0, slots := 0, locals := 43 }) cL (fun g => [.ref (g.1 0), .int a1, .int a2]) M xm_Fi (fX3_marker  a1 a2 M) := by
  refine xm_C.of (by decide) rfl (fun g => Nat.le_of_ble_eq_true rfl) ?_
  intro p e s m args below meth c D g A hX
  refine xm_lv (lv' := [(0, .ref (g.1 0)), (1, .int a1), (2, .int a2)]) rfl ?_
  unfold fX3_marker
  refine xm_iload_n hX 1 dX3_marker_0 rfl rfl ?_
  refine xm_iload_n hX 2 dX3_marker_1 rfl rfl ?_
  refine xm_calli hX (xm_runS hX (As := (fun g => [.int a1, .int a2])) (kX3_isPlace a1 a2 M) (xm_gS gm_163 gm_164 gm_1 gm_165) rfl ⟨rfl, rfl⟩ hdX3_isPlace ⟨Nat.le_of_ble_eq_true rfl, Nat.le_of_ble_eq_true rfl⟩ rfl (Nat.le_of_ble_eq_true rfl) rfl dX3_marker_2) (fun x2 M1 => ?_)
  refine xm_if_ne hX (tgt := 11) dX3_marker_5 rfl ?_ ?_
  · refine xm_aload_n hX 0 dX3_marker_11 rfl rfl ?_
    refine xm_get hX (k := 0) (ci := 3) (j := 0) (C := RX3) (T := TX3) (N := 6) (v := .ref (g.1 1)) cL_0 rfl rfl rfl (by decide) (fun z hz => List.mem_cons_of_mem _ (iw_X3 z hz)) (List.mem_cons_of_mem _ gm_129) dX3_marker_12 ?_
    refine xm_get hX (k := 1) (ci := 1) (j := 5) (C := RX1) (T := TX1) (N := 11) (v := .int (M1.1 1 5)) cL_1 rfl rfl rfl (by decide) (fun z hz => List.mem_cons_of_mem _ (iw_X1 z hz)) (List.mem_cons_of_mem _ gm_43) dX3_marker_15 ?_
    refine xm_nmi (fun x3 => ?_)
    refine xm_istore_n hX (lv' := [(3, .int x3), (0, .ref (g.1 0)), (1, .int a1), (2, .int a2)]) dX3_marker_18 rfl (by decide) rfl ?_
    refine xm_iload_n hX 0 dX3_marker_19 rfl rfl ?_
    refine xm_bipush hX (v := 6) rfl dX3_marker_20 ?_
    refine xm_icmp_lt hX (tgt := 28) dX3_marker_22 rfl ?_ ?_
    · refine xm_aload_n hX 1 dX3_marker_28 rfl rfl ?_
      refine xm_get hX (k := 0) (ci := 3) (j := 0) (C := RX3) (T := TX3) (N := 6) (v := .ref (g.1 1)) cL_0 rfl rfl rfl (by decide) (fun z hz => List.mem_cons_of_mem _ (iw_X3 z hz)) (List.mem_cons_of_mem _ gm_129) dX3_marker_29 ?_
      refine xm_get hX (k := 1) (ci := 1) (j := 2) (C := RX1) (T := TX1) (N := 11) (v := .ref (g.1 9)) cL_1 rfl rfl rfl (by decide) (fun z hz => List.mem_cons_of_mem _ (iw_X1 z hz)) (List.mem_cons_of_mem _ gm_35) dX3_marker_32 ?_
      refine xm_iconst hX (v := 0) rfl dX3_marker_35 ?_
      refine xm_iload_n hX 0 dX3_marker_36 rfl rfl ?_
      refine xm_iload_n hX 2 dX3_marker_37 rfl rfl ?_
      refine xm_callv hX (xm_runS hX (As := (fun g => [.ref (g.1 9), .int ((0 : Int32)), .int x3, .int a1])) (kX3_keep_ 9 2 10 6 cL_9 cL_rows_9 ((0 : Int32)) x3 a1 M1) (xm_gS gm_171 gm_172 gm_1 gm_173) rfl ⟨rfl, rfl⟩ hdX3_keep_ ⟨Nat.le_of_ble_eq_true rfl, Nat.le_of_ble_eq_true rfl⟩ rfl (Nat.le_of_ble_eq_true rfl) rfl dX3_marker_38) (fun M4 => ?_)
      refine xm_aload_n hX 1 dX3_marker_41 rfl rfl ?_
      refine xm_get hX (k := 0) (ci := 3) (j := 0) (C := RX3) (T := TX3) (N := 6) (v := .ref (g.1 1)) cL_0 rfl rfl rfl (by decide) (fun z hz => List.mem_cons_of_mem _ (iw_X3 z hz)) (List.mem_cons_of_mem _ gm_129) dX3_marker_42 ?_
      refine xm_get hX (k := 1) (ci := 1) (j := 2) (C := RX1) (T := TX1) (N := 11) (v := .ref (g.1 9)) cL_1 rfl rfl rfl (by decide) (fun z hz => List.mem_cons_of_mem _ (iw_X1 z hz)) (List.mem_cons_of_mem _ gm_35) dX3_marker_45 ?_
      refine xm_iconst hX (v := 1) rfl dX3_marker_48 ?_
      refine xm_iload_n hX 0 dX3_marker_49 rfl rfl ?_
      refine xm_iload_n hX 3 dX3_marker_50 rfl rfl ?_
      refine xm_callv hX (xm_runS hX (As := (fun g => [.ref (g.1 9), .int ((1 : Int32)), .int x3, .int a2])) (kX3_keep_ 9 2 10 6 cL_9 cL_rows_9 ((1 : Int32)) x3 a2 M4) (xm_gS gm_171 gm_172 gm_1 gm_173) rfl ⟨rfl, rfl⟩ hdX3_keep_ ⟨Nat.le_of_ble_eq_true rfl, Nat.le_of_ble_eq_true rfl⟩ rfl (Nat.le_of_ble_eq_true rfl) rfl dX3_marker_51) (fun M5 => ?_)
      refine xm_aload_n hX 1 dX3_marker_54 rfl rfl ?_
      refine xm_get hX (k := 0) (ci := 3) (j := 0) (C := RX3) (T := TX3) (N := 6) (v := .ref (g.1 1)) cL_0 rfl rfl rfl (by decide) (fun z hz => List.mem_cons_of_mem _ (iw_X3 z hz)) (List.mem_cons_of_mem _ gm_129) dX3_marker_55 ?_
      refine xm_iload_n hX 0 dX3_marker_58 rfl rfl ?_
      refine xm_iconst hX (v := 1) rfl dX3_marker_59 ?_
      refine xm_iadd hX dX3_marker_60 ?_
      refine xm_puti hX (k := 1) (ci := 1) (j := 5) (C := RX1) (T := TX1) (N := 11) (t0 := tyX1) cL_1 rfl rfl (by decide) (fun z hz => List.mem_cons_of_mem _ (iw_X1 z hz)) tyX1_ok nmX1 rfl rfl (List.mem_cons_of_mem _ gm_43) dX3_marker_61 (fun M6 => ?_)
      refine xm_iload_n hX 0 dX3_marker_64 rfl rfl ?_
      exact xm_iret hX dX3_marker_65
    · refine xm_bipush hX (v := -4) rfl dX3_marker_25 ?_
      exact xm_iret hX dX3_marker_27
  · refine xm_bipush hX (v := -2) rfl dX3_marker_8 ?_
    exact xm_iret hX dX3_marker_10
-- ===== OdometryDesk$Way.firstSightFrom(II)I ['49']
theorem dX2_firstSightFrom_0 : decode cX2_firstSightFrom 0 = .ok (.iload_n 1, 1) := by decide +kernel
theorem dX2_firstSightFrom_1 : decode cX2_firstSightFrom 1 = .ok (.istore_n 3, 1) := by decide +kernel
theorem dX2_firstSightFrom_2 : decode cX2_firstSightFrom 2 = .ok (.iload_n 3, 1) := by decide +kernel
theorem dX2_firstSightFrom_3 : decode cX2_firstSightFrom 3 = .ok (.iload_n 2, 1) := by decide +kernel
theorem dX2_firstSightFrom_4 : decode cX2_firstSightFrom 4 = .ok (.if_icmp .ge 22, 3) := by decide +kernel
theorem dX2_firstSightFrom_7 : decode cX2_firstSightFrom 7 = .ok (.aload_n 0, 1) := by decide +kernel
theorem dX2_firstSightFrom_8 : decode cX2_firstSightFrom 8 = .ok (.getfield 16, 3) := by decide +kernel
theorem dX2_firstSightFrom_11 : decode cX2_firstSightFrom 11 = .ok (.iconst 0, 1) := by decide +kernel
theorem dX2_firstSightFrom_12 : decode cX2_firstSightFrom 12 = .ok (.iload_n 3, 1) := by decide +kernel
theorem dX2_firstSightFrom_13 : decode cX2_firstSightFrom 13 = .ok (.invokestatic 91, 3) := by decide +kernel
theorem dX2_firstSightFrom_16 : decode cX2_firstSightFrom 16 = .ok (.iconst 4, 1) := by decide +kernel
theorem dX2_firstSightFrom_17 : decode cX2_firstSightFrom 17 = .ok (.if_icmp .eq 9, 3) := by decide +kernel
theorem dX2_firstSightFrom_20 : decode cX2_firstSightFrom 20 = .ok (.iinc 3 1, 3) := by decide +kernel
theorem dX2_firstSightFrom_23 : decode cX2_firstSightFrom 23 = .ok (.goto (-21), 3) := by decide +kernel
theorem dX2_firstSightFrom_26 : decode cX2_firstSightFrom 26 = .ok (.iload_n 3, 1) := by decide +kernel
theorem dX2_firstSightFrom_27 : decode cX2_firstSightFrom 27 = .ok (.ireturn, 1) := by decide +kernel
abbrev wX2_firstSightFrom : List Cond := .code yX2_firstSightFrom cX2_firstSightFrom 4 (some .int) :: lw_gd
theorem hdX2_firstSightFrom : (yX2_firstSightFrom.cls ≠ "java/lang/invoke/MethodHandle" ∧ yX2_firstSightFrom.cls ≠ "java/lang/invoke/VarHandle" ∧ (parseMethodDescriptor yX2_firstSightFrom.desc).map (fun d => d.parameters.length) = some 2) := by decide +kernel
def fX2_firstSightFrom_26   (b3 : Int32) (M : xm_M) : Option (Int32 × xm_M) :=
  some (b3, M)
set_option maxRecDepth 20000 in
theorem tfX2_firstSightFrom_26 {p : Program} {l : Launch} {e : Env} {s : State} {m : MethodId} {args : Array Value} {below : List Frame} {meth : Method} {c : Code} {D : va_G} {g : xm_G} {A : Nat → Prop} (hX : xm_X p m meth c cX2_firstSightFrom 4 s args wX2_firstSightFrom RX2 (some .int) D cL g A)     : ∀ (b3 : Int32), ∀ (M : xm_M), xm_J p l e ({ frames := 1, cells := 0, slots := 0, locals := 22 }) s m args below meth c 4 D cL g A (xm_Fi g) 26 [(3, .int b3)] [] M (fX2_firstSightFrom_26 b3 M) := by
  intro b3 M
  unfold fX2_firstSightFrom_26
  refine xm_iload_n hX 0 dX2_firstSightFrom_26 rfl rfl ?_
  exact xm_iret hX dX2_firstSightFrom_27
def fX2_firstSightFrom_2  (k2 : Int32 → Int32 → xm_M → Option (Int32 × xm_M)) (b2 : Int32) (b3 : Int32) (M : xm_M) : Option (Int32 × xm_M) :=
  if b2 ≤ b3 then fX2_firstSightFrom_26 b3 M else xm_bi (fX3_item_ 56 11 57 120 ((0 : Int32)) b3 M) (fun x2 M1 => if x2 = ((4 : Int32)) then fX2_firstSightFrom_26 b3 M1 else xm_lt (b3 + Int32.ofInt 1) (fun x3 => k2 b2 x3 M1))
set_option maxRecDepth 20000 in
theorem tfX2_firstSightFrom_2 {p : Program} {l : Launch} {e : Env} {s : State} {m : MethodId} {args : Array Value} {below : List Frame} {meth : Method} {c : Code} {D : va_G} {g : xm_G} {A : Nat → Prop} (hX : xm_X p m meth c cX2_firstSightFrom 4 s args wX2_firstSightFrom RX2 (some .int) D cL g A)   (k2 : Int32 → Int32 → xm_M → Option (Int32 × xm_M)) (h2 : ∀ (b2 : Int32), ∀ (b3 : Int32), ∀ (M : xm_M), xm_J p l e ({ frames := 1, cells := 0, slots := 0, locals := 22 }) s m args below meth c 4 D cL g A (xm_Fi g) 2 [(0, .ref (g.1 49)), (2, .int b2), (3, .int b3)] [] M (k2 b2 b3 M)) : ∀ (b2 : Int32), ∀ (b3 : Int32), ∀ (M : xm_M), xm_J p l e ({ frames := 1, cells := 0, slots := 0, locals := 22 }) s m args below meth c 4 D cL g A (xm_Fi g) 2 [(0, .ref (g.1 49)), (2, .int b2), (3, .int b3)] [] M (fX2_firstSightFrom_2 k2 b2 b3 M) := by
  intro b2 b3 M
  unfold fX2_firstSightFrom_2
  refine xm_iload_n hX 2 dX2_firstSightFrom_2 rfl rfl ?_
  refine xm_iload_n hX 1 dX2_firstSightFrom_3 rfl rfl ?_
  refine xm_icmp_ge hX (tgt := 26) dX2_firstSightFrom_4 rfl ?_ ?_
  · refine xm_weak [2] (lv' := [(3, .int b3)]) rfl ?_
    exact tfX2_firstSightFrom_26 hX b3 M
  · refine xm_aload_n hX 0 dX2_firstSightFrom_7 rfl rfl ?_
    refine xm_get hX (k := 49) (ci := 2) (j := 1) (C := RX2) (T := TX2) (N := 12) (v := .ref (g.1 56)) cL_49 rfl rfl rfl (by decide) (fun z hz => List.mem_cons_of_mem _ (iw_X2 z hz)) (List.mem_cons_of_mem _ gm_76) dX2_firstSightFrom_8 ?_
    refine xm_iconst hX (v := 0) rfl dX2_firstSightFrom_11 ?_
    refine xm_iload_n hX 2 dX2_firstSightFrom_12 rfl rfl ?_
    refine xm_calli hX (xm_runSN hX (As := (fun g => [.ref (g.1 56), .int ((0 : Int32)), .int b3])) (kX3_item_ 56 11 57 120 cL_56 cL_rows_56 ((0 : Int32)) b3 M) (xm_gN gm_234) rfl ⟨rfl, rfl⟩ nw_4 (List.mem_cons_of_mem _ gm_1) (List.mem_cons_of_mem _ gm_233) hdX3_item_ ⟨Nat.le_of_ble_eq_true rfl, Nat.le_of_ble_eq_true rfl⟩ rfl (Nat.le_of_ble_eq_true rfl) rfl dX2_firstSightFrom_13) (fun x2 M1 => ?_)
    refine xm_iconst hX (v := 4) rfl dX2_firstSightFrom_16 ?_
    refine xm_icmp_eq hX (tgt := 26) dX2_firstSightFrom_17 rfl ?_ ?_
    · refine xm_weak [2] (lv' := [(3, .int b3)]) rfl ?_
      exact tfX2_firstSightFrom_26 hX b3 M1
    · refine xm_iinc hX (lv2 := fun x3 => [(3, .int x3), (0, .ref (g.1 49)), (2, .int b2)]) 2 dX2_firstSightFrom_20 rfl (by decide) (fun _ => rfl) (fun x3 => ?_)
      refine xm_goto hX (tgt := 2) dX2_firstSightFrom_23 rfl ?_
      refine xm_weak [1, 2, 0] (lv' := [(0, .ref (g.1 49)), (2, .int b2), (3, .int x3)]) rfl ?_
      exact h2 b2 x3 M1
def fX2_firstSightFrom_2_it   (nq : Nat) : Int32 → Int32 → xm_M → Option (Int32 × xm_M) := xm_it (fun kq => fX2_firstSightFrom_2 kq) (fun _ _ _ => none) nq
theorem tfX2_firstSightFrom_2_it {p : Program} {l : Launch} {e : Env} {s : State} {m : MethodId} {args : Array Value} {below : List Frame} {meth : Method} {c : Code} {D : va_G} {g : xm_G} {A : Nat → Prop} (hX : xm_X p m meth c cX2_firstSightFrom 4 s args wX2_firstSightFrom RX2 (some .int) D cL g A)     : ∀ (nq : Nat), ∀ (b2 : Int32), ∀ (b3 : Int32), ∀ (M : xm_M), xm_J p l e ({ frames := 1, cells := 0, slots := 0, locals := 22 }) s m args below meth c 4 D cL g A (xm_Fi g) 2 [(0, .ref (g.1 49)), (2, .int b2), (3, .int b3)] [] M (fX2_firstSightFrom_2_it  nq b2 b3 M) := by
  intro nq
  induction nq with
  | zero => exact fun _ _ _ => xm_none
  | succ nq ih => exact tfX2_firstSightFrom_2 hX _ ih
def fX2_firstSightFrom  (a1 : Int32) (a2 : Int32) (M : xm_M) : Option (Int32 × xm_M) :=
  fX2_firstSightFrom_2_it xm_N a2 a1 M
set_option maxRecDepth 20000 in
theorem kX2_firstSightFrom {l : Launch}   (a1 : Int32) (a2 : Int32) (M : xm_M) : xm_C l yX2_firstSightFrom wX2_firstSightFrom ({ frames := 1, cells := 0, slots := 0, locals := 22 }) cL (fun g => [.ref (g.1 49), .int a1, .int a2]) M xm_Fi (fX2_firstSightFrom  a1 a2 M) := by
  refine xm_C.of (by decide) rfl (fun g => Nat.le_of_ble_eq_true rfl) ?_
  intro p e s m args below meth c D g A hX
  refine xm_lv (lv' := [(0, .ref (g.1 49)), (1, .int a1), (2, .int a2)]) rfl ?_
  unfold fX2_firstSightFrom
  refine xm_iload_n hX 1 dX2_firstSightFrom_0 rfl rfl ?_
  refine xm_istore_n hX (lv' := [(3, .int a1), (0, .ref (g.1 49)), (1, .int a1), (2, .int a2)]) dX2_firstSightFrom_1 rfl (by decide) rfl ?_
  refine xm_weak [1, 3, 0] (lv' := [(0, .ref (g.1 49)), (2, .int a2), (3, .int a1)]) rfl ?_
  exact tfX2_firstSightFrom_2_it hX xm_N a2 a1 M
-- ===== OdometryDesk$Way.behind(II)I ['49']
theorem dX2_behind_0 : decode cX2_behind 0 = .ok (.aload_n 0, 1) := by decide +kernel
theorem dX2_behind_1 : decode cX2_behind 1 = .ok (.getfield 11, 3) := by decide +kernel
theorem dX2_behind_4 : decode cX2_behind 4 = .ok (.iload_n 2, 1) := by decide +kernel
theorem dX2_behind_5 : decode cX2_behind 5 = .ok (.iload_n 1, 1) := by decide +kernel
theorem dX2_behind_6 : decode cX2_behind 6 = .ok (.iconst 1, 1) := by decide +kernel
theorem dX2_behind_7 : decode cX2_behind 7 = .ok (.iadd, 1) := by decide +kernel
theorem dX2_behind_8 : decode cX2_behind 8 = .ok (.invokestatic 91, 3) := by decide +kernel
theorem dX2_behind_11 : decode cX2_behind 11 = .ok (.ireturn, 1) := by decide +kernel
abbrev wX2_behind : List Cond := .code yX2_behind cX2_behind 3 (some .int) :: lw_gd
theorem hdX2_behind : (yX2_behind.cls ≠ "java/lang/invoke/MethodHandle" ∧ yX2_behind.cls ≠ "java/lang/invoke/VarHandle" ∧ (parseMethodDescriptor yX2_behind.desc).map (fun d => d.parameters.length) = some 2) := by decide +kernel
def fX2_behind  (a1 : Int32) (a2 : Int32) (M : xm_M) : Option (Int32 × xm_M) :=
  xm_bi (fX3_item_ 50 5 51 121 a2 (a1 + ((1 : Int32))) M) (fun x2 M1 => some (x2, M1))
set_option maxRecDepth 20000 in
theorem kX2_behind {l : Launch}   (a1 : Int32) (a2 : Int32) (M : xm_M) : xm_C l yX2_behind wX2_behind ({ frames := 1, cells := 0, slots := 0, locals := 22 }) cL (fun g => [.ref (g.1 49), .int a1, .int a2]) M xm_Fi (fX2_behind  a1 a2 M) := by
  refine xm_C.of (by decide) rfl (fun g => Nat.le_of_ble_eq_true rfl) ?_
  intro p e s m args below meth c D g A hX
  refine xm_lv (lv' := [(0, .ref (g.1 49)), (1, .int a1), (2, .int a2)]) rfl ?_
  unfold fX2_behind
  refine xm_aload_n hX 0 dX2_behind_0 rfl rfl ?_
  refine xm_get hX (k := 49) (ci := 2) (j := 0) (C := RX2) (T := TX2) (N := 12) (v := .ref (g.1 50)) cL_49 rfl rfl rfl (by decide) (fun z hz => List.mem_cons_of_mem _ (iw_X2 z hz)) (List.mem_cons_of_mem _ gm_75) dX2_behind_1 ?_
  refine xm_iload_n hX 2 dX2_behind_4 rfl rfl ?_
  refine xm_iload_n hX 1 dX2_behind_5 rfl rfl ?_
  refine xm_iconst hX (v := 1) rfl dX2_behind_6 ?_
  refine xm_iadd hX dX2_behind_7 ?_
  refine xm_calli hX (xm_runSN hX (As := (fun g => [.ref (g.1 50), .int a2, .int (a1 + ((1 : Int32)))])) (kX3_item_ 50 5 51 121 cL_50 cL_rows_50 a2 (a1 + ((1 : Int32))) M) (xm_gN gm_234) rfl ⟨rfl, rfl⟩ nw_4 (List.mem_cons_of_mem _ gm_1) (List.mem_cons_of_mem _ gm_233) hdX3_item_ ⟨Nat.le_of_ble_eq_true rfl, Nat.le_of_ble_eq_true rfl⟩ rfl (Nat.le_of_ble_eq_true rfl) rfl dX2_behind_8) (fun x2 M1 => ?_)
  exact xm_iret hX dX2_behind_11
-- ===== OdometryDesk$Way.lastSightAhead(I)I ['49']
theorem dX2_lastSightAhead_0 : decode cX2_lastSightAhead 0 = .ok (.iload_n 1, 1) := by decide +kernel
theorem dX2_lastSightAhead_1 : decode cX2_lastSightAhead 1 = .ok (.iconst 1, 1) := by decide +kernel
theorem dX2_lastSightAhead_2 : decode cX2_lastSightAhead 2 = .ok (.isub, 1) := by decide +kernel
theorem dX2_lastSightAhead_3 : decode cX2_lastSightAhead 3 = .ok (.istore_n 2, 1) := by decide +kernel
theorem dX2_lastSightAhead_4 : decode cX2_lastSightAhead 4 = .ok (.iload_n 2, 1) := by decide +kernel
theorem dX2_lastSightAhead_5 : decode cX2_lastSightAhead 5 = .ok (.ifCond .lt 22, 3) := by decide +kernel
theorem dX2_lastSightAhead_8 : decode cX2_lastSightAhead 8 = .ok (.aload_n 0, 1) := by decide +kernel
theorem dX2_lastSightAhead_9 : decode cX2_lastSightAhead 9 = .ok (.getfield 16, 3) := by decide +kernel
theorem dX2_lastSightAhead_12 : decode cX2_lastSightAhead 12 = .ok (.iconst 0, 1) := by decide +kernel
theorem dX2_lastSightAhead_13 : decode cX2_lastSightAhead 13 = .ok (.iload_n 2, 1) := by decide +kernel
theorem dX2_lastSightAhead_14 : decode cX2_lastSightAhead 14 = .ok (.invokestatic 91, 3) := by decide +kernel
theorem dX2_lastSightAhead_17 : decode cX2_lastSightAhead 17 = .ok (.iconst 4, 1) := by decide +kernel
theorem dX2_lastSightAhead_18 : decode cX2_lastSightAhead 18 = .ok (.if_icmp .eq 9, 3) := by decide +kernel
theorem dX2_lastSightAhead_21 : decode cX2_lastSightAhead 21 = .ok (.iinc 2 (-1), 3) := by decide +kernel
theorem dX2_lastSightAhead_24 : decode cX2_lastSightAhead 24 = .ok (.goto (-20), 3) := by decide +kernel
theorem dX2_lastSightAhead_27 : decode cX2_lastSightAhead 27 = .ok (.iload_n 2, 1) := by decide +kernel
theorem dX2_lastSightAhead_28 : decode cX2_lastSightAhead 28 = .ok (.ireturn, 1) := by decide +kernel
abbrev wX2_lastSightAhead : List Cond := .code yX2_lastSightAhead cX2_lastSightAhead 3 (some .int) :: lw_gd
theorem hdX2_lastSightAhead : (yX2_lastSightAhead.cls ≠ "java/lang/invoke/MethodHandle" ∧ yX2_lastSightAhead.cls ≠ "java/lang/invoke/VarHandle" ∧ (parseMethodDescriptor yX2_lastSightAhead.desc).map (fun d => d.parameters.length) = some 1) := by decide +kernel
def fX2_lastSightAhead_27   (b2 : Int32) (M : xm_M) : Option (Int32 × xm_M) :=
  some (b2, M)
set_option maxRecDepth 20000 in
theorem tfX2_lastSightAhead_27 {p : Program} {l : Launch} {e : Env} {s : State} {m : MethodId} {args : Array Value} {below : List Frame} {meth : Method} {c : Code} {D : va_G} {g : xm_G} {A : Nat → Prop} (hX : xm_X p m meth c cX2_lastSightAhead 3 s args wX2_lastSightAhead RX2 (some .int) D cL g A)     : ∀ (b2 : Int32), ∀ (M : xm_M), xm_J p l e ({ frames := 1, cells := 0, slots := 0, locals := 22 }) s m args below meth c 3 D cL g A (xm_Fi g) 27 [(2, .int b2)] [] M (fX2_lastSightAhead_27 b2 M) := by
  intro b2 M
  unfold fX2_lastSightAhead_27
  refine xm_iload_n hX 0 dX2_lastSightAhead_27 rfl rfl ?_
  exact xm_iret hX dX2_lastSightAhead_28
def fX2_lastSightAhead_4  (k4 : Int32 → xm_M → Option (Int32 × xm_M)) (b2 : Int32) (M : xm_M) : Option (Int32 × xm_M) :=
  if b2 < 0 then fX2_lastSightAhead_27 b2 M else xm_bi (fX3_item_ 56 11 57 120 ((0 : Int32)) b2 M) (fun x3 M2 => if x3 = ((4 : Int32)) then fX2_lastSightAhead_27 b2 M2 else xm_lt (b2 + Int32.ofInt (-1)) (fun x4 => k4 x4 M2))
set_option maxRecDepth 20000 in
theorem tfX2_lastSightAhead_4 {p : Program} {l : Launch} {e : Env} {s : State} {m : MethodId} {args : Array Value} {below : List Frame} {meth : Method} {c : Code} {D : va_G} {g : xm_G} {A : Nat → Prop} (hX : xm_X p m meth c cX2_lastSightAhead 3 s args wX2_lastSightAhead RX2 (some .int) D cL g A)   (k4 : Int32 → xm_M → Option (Int32 × xm_M)) (h4 : ∀ (b2 : Int32), ∀ (M : xm_M), xm_J p l e ({ frames := 1, cells := 0, slots := 0, locals := 22 }) s m args below meth c 3 D cL g A (xm_Fi g) 4 [(0, .ref (g.1 49)), (2, .int b2)] [] M (k4 b2 M)) : ∀ (b2 : Int32), ∀ (M : xm_M), xm_J p l e ({ frames := 1, cells := 0, slots := 0, locals := 22 }) s m args below meth c 3 D cL g A (xm_Fi g) 4 [(0, .ref (g.1 49)), (2, .int b2)] [] M (fX2_lastSightAhead_4 k4 b2 M) := by
  intro b2 M
  unfold fX2_lastSightAhead_4
  refine xm_iload_n hX 1 dX2_lastSightAhead_4 rfl rfl ?_
  refine xm_if_lt hX (tgt := 27) dX2_lastSightAhead_5 rfl ?_ ?_
  · refine xm_weak [1] (lv' := [(2, .int b2)]) rfl ?_
    exact tfX2_lastSightAhead_27 hX b2 M
  · refine xm_aload_n hX 0 dX2_lastSightAhead_8 rfl rfl ?_
    refine xm_get hX (k := 49) (ci := 2) (j := 1) (C := RX2) (T := TX2) (N := 12) (v := .ref (g.1 56)) cL_49 rfl rfl rfl (by decide) (fun z hz => List.mem_cons_of_mem _ (iw_X2 z hz)) (List.mem_cons_of_mem _ gm_76) dX2_lastSightAhead_9 ?_
    refine xm_iconst hX (v := 0) rfl dX2_lastSightAhead_12 ?_
    refine xm_iload_n hX 1 dX2_lastSightAhead_13 rfl rfl ?_
    refine xm_calli hX (xm_runSN hX (As := (fun g => [.ref (g.1 56), .int ((0 : Int32)), .int b2])) (kX3_item_ 56 11 57 120 cL_56 cL_rows_56 ((0 : Int32)) b2 M) (xm_gN gm_234) rfl ⟨rfl, rfl⟩ nw_4 (List.mem_cons_of_mem _ gm_1) (List.mem_cons_of_mem _ gm_233) hdX3_item_ ⟨Nat.le_of_ble_eq_true rfl, Nat.le_of_ble_eq_true rfl⟩ rfl (Nat.le_of_ble_eq_true rfl) rfl dX2_lastSightAhead_14) (fun x3 M2 => ?_)
    refine xm_iconst hX (v := 4) rfl dX2_lastSightAhead_17 ?_
    refine xm_icmp_eq hX (tgt := 27) dX2_lastSightAhead_18 rfl ?_ ?_
    · refine xm_weak [1] (lv' := [(2, .int b2)]) rfl ?_
      exact tfX2_lastSightAhead_27 hX b2 M2
    · refine xm_iinc hX (lv2 := fun x4 => [(2, .int x4), (0, .ref (g.1 49))]) 1 dX2_lastSightAhead_21 rfl (by decide) (fun _ => rfl) (fun x4 => ?_)
      refine xm_goto hX (tgt := 4) dX2_lastSightAhead_24 rfl ?_
      refine xm_weak [1, 0] (lv' := [(0, .ref (g.1 49)), (2, .int x4)]) rfl ?_
      exact h4 x4 M2
def fX2_lastSightAhead_4_it   (nq : Nat) : Int32 → xm_M → Option (Int32 × xm_M) := xm_it (fun kq => fX2_lastSightAhead_4 kq) (fun _ _ => none) nq
theorem tfX2_lastSightAhead_4_it {p : Program} {l : Launch} {e : Env} {s : State} {m : MethodId} {args : Array Value} {below : List Frame} {meth : Method} {c : Code} {D : va_G} {g : xm_G} {A : Nat → Prop} (hX : xm_X p m meth c cX2_lastSightAhead 3 s args wX2_lastSightAhead RX2 (some .int) D cL g A)     : ∀ (nq : Nat), ∀ (b2 : Int32), ∀ (M : xm_M), xm_J p l e ({ frames := 1, cells := 0, slots := 0, locals := 22 }) s m args below meth c 3 D cL g A (xm_Fi g) 4 [(0, .ref (g.1 49)), (2, .int b2)] [] M (fX2_lastSightAhead_4_it  nq b2 M) := by
  intro nq
  induction nq with
  | zero => exact fun _ _ => xm_none
  | succ nq ih => exact tfX2_lastSightAhead_4 hX _ ih
def fX2_lastSightAhead  (a1 : Int32) (M : xm_M) : Option (Int32 × xm_M) :=
  xm_lt (a1 - ((1 : Int32))) (fun x1 => fX2_lastSightAhead_4_it xm_N x1 M)
set_option maxRecDepth 20000 in
theorem kX2_lastSightAhead {l : Launch}   (a1 : Int32) (M : xm_M) : xm_C l yX2_lastSightAhead wX2_lastSightAhead ({ frames := 1, cells := 0, slots := 0, locals := 22 }) cL (fun g => [.ref (g.1 49), .int a1]) M xm_Fi (fX2_lastSightAhead  a1 M) := by
  refine xm_C.of (by decide) rfl (fun g => Nat.le_of_ble_eq_true rfl) ?_
  intro p e s m args below meth c D g A hX
  refine xm_lv (lv' := [(0, .ref (g.1 49)), (1, .int a1)]) rfl ?_
  unfold fX2_lastSightAhead
  refine xm_iload_n hX 1 dX2_lastSightAhead_0 rfl rfl ?_
  refine xm_iconst hX (v := 1) rfl dX2_lastSightAhead_1 ?_
  refine xm_isub hX dX2_lastSightAhead_2 ?_
  refine xm_nmi (fun x1 => ?_)
  refine xm_istore_n hX (lv' := [(2, .int x1), (0, .ref (g.1 49)), (1, .int a1)]) dX2_lastSightAhead_3 rfl (by decide) rfl ?_
  refine xm_weak [1, 0] (lv' := [(0, .ref (g.1 49)), (2, .int x1)]) rfl ?_
  exact tfX2_lastSightAhead_4_it hX xm_N x1 M
-- ===== OdometryDesk$Way.spreadPlace(III)I ['49']
theorem dX2_spreadPlace_0 : decode cX2_spreadPlace 0 = .ok (.aload_n 0, 1) := by decide +kernel
theorem dX2_spreadPlace_1 : decode cX2_spreadPlace 1 = .ok (.iload_n 1, 1) := by decide +kernel
theorem dX2_spreadPlace_2 : decode cX2_spreadPlace 2 = .ok (.iload_n 3, 1) := by decide +kernel
theorem dX2_spreadPlace_3 : decode cX2_spreadPlace 3 = .ok (.invokevirtual 95, 3) := by decide +kernel
theorem dX2_spreadPlace_6 : decode cX2_spreadPlace 6 = .ok (.istore 4, 2) := by decide +kernel
theorem dX2_spreadPlace_8 : decode cX2_spreadPlace 8 = .ok (.iload_n 1, 1) := by decide +kernel
theorem dX2_spreadPlace_9 : decode cX2_spreadPlace 9 = .ok (.ifCond .lt 9, 3) := by decide +kernel
theorem dX2_spreadPlace_12 : decode cX2_spreadPlace 12 = .ok (.iload 4, 2) := by decide +kernel
theorem dX2_spreadPlace_14 : decode cX2_spreadPlace 14 = .ok (.iload_n 3, 1) := by decide +kernel
theorem dX2_spreadPlace_15 : decode cX2_spreadPlace 15 = .ok (.if_icmp .lt 10, 3) := by decide +kernel
theorem dX2_spreadPlace_18 : decode cX2_spreadPlace 18 = .ok (.aload_n 0, 1) := by decide +kernel
theorem dX2_spreadPlace_19 : decode cX2_spreadPlace 19 = .ok (.iload_n 1, 1) := by decide +kernel
theorem dX2_spreadPlace_20 : decode cX2_spreadPlace 20 = .ok (.iload_n 2, 1) := by decide +kernel
theorem dX2_spreadPlace_21 : decode cX2_spreadPlace 21 = .ok (.invokevirtual 99, 3) := by decide +kernel
theorem dX2_spreadPlace_24 : decode cX2_spreadPlace 24 = .ok (.ireturn, 1) := by decide +kernel
theorem dX2_spreadPlace_25 : decode cX2_spreadPlace 25 = .ok (.iload 4, 2) := by decide +kernel
theorem dX2_spreadPlace_27 : decode cX2_spreadPlace 27 = .ok (.iload_n 1, 1) := by decide +kernel
theorem dX2_spreadPlace_28 : decode cX2_spreadPlace 28 = .ok (.if_icmp .ne 14, 3) := by decide +kernel
theorem dX2_spreadPlace_31 : decode cX2_spreadPlace 31 = .ok (.aload_n 0, 1) := by decide +kernel
theorem dX2_spreadPlace_32 : decode cX2_spreadPlace 32 = .ok (.iload_n 1, 1) := by decide +kernel
theorem dX2_spreadPlace_33 : decode cX2_spreadPlace 33 = .ok (.iconst 1, 1) := by decide +kernel
theorem dX2_spreadPlace_34 : decode cX2_spreadPlace 34 = .ok (.isub, 1) := by decide +kernel
theorem dX2_spreadPlace_35 : decode cX2_spreadPlace 35 = .ok (.iload_n 2, 1) := by decide +kernel
theorem dX2_spreadPlace_36 : decode cX2_spreadPlace 36 = .ok (.invokevirtual 99, 3) := by decide +kernel
theorem dX2_spreadPlace_39 : decode cX2_spreadPlace 39 = .ok (.goto 9, 3) := by decide +kernel
theorem dX2_spreadPlace_42 : decode cX2_spreadPlace 42 = .ok (.aload_n 0, 1) := by decide +kernel
theorem dX2_spreadPlace_43 : decode cX2_spreadPlace 43 = .ok (.iload_n 1, 1) := by decide +kernel
theorem dX2_spreadPlace_44 : decode cX2_spreadPlace 44 = .ok (.iload_n 2, 1) := by decide +kernel
theorem dX2_spreadPlace_45 : decode cX2_spreadPlace 45 = .ok (.invokevirtual 99, 3) := by decide +kernel
theorem dX2_spreadPlace_48 : decode cX2_spreadPlace 48 = .ok (.istore 5, 2) := by decide +kernel
theorem dX2_spreadPlace_50 : decode cX2_spreadPlace 50 = .ok (.aload_n 0, 1) := by decide +kernel
theorem dX2_spreadPlace_51 : decode cX2_spreadPlace 51 = .ok (.aload_n 0, 1) := by decide +kernel
theorem dX2_spreadPlace_52 : decode cX2_spreadPlace 52 = .ok (.iload_n 1, 1) := by decide +kernel
theorem dX2_spreadPlace_53 : decode cX2_spreadPlace 53 = .ok (.invokevirtual 102, 3) := by decide +kernel
theorem dX2_spreadPlace_56 : decode cX2_spreadPlace 56 = .ok (.iconst 3, 1) := by decide +kernel
theorem dX2_spreadPlace_57 : decode cX2_spreadPlace 57 = .ok (.invokevirtual 99, 3) := by decide +kernel
theorem dX2_spreadPlace_60 : decode cX2_spreadPlace 60 = .ok (.istore 6, 2) := by decide +kernel
theorem dX2_spreadPlace_62 : decode cX2_spreadPlace 62 = .ok (.aload_n 0, 1) := by decide +kernel
theorem dX2_spreadPlace_63 : decode cX2_spreadPlace 63 = .ok (.iload 4, 2) := by decide +kernel
theorem dX2_spreadPlace_65 : decode cX2_spreadPlace 65 = .ok (.iconst 3, 1) := by decide +kernel
theorem dX2_spreadPlace_66 : decode cX2_spreadPlace 66 = .ok (.invokevirtual 99, 3) := by decide +kernel
theorem dX2_spreadPlace_69 : decode cX2_spreadPlace 69 = .ok (.iload 6, 2) := by decide +kernel
theorem dX2_spreadPlace_71 : decode cX2_spreadPlace 71 = .ok (.isub, 1) := by decide +kernel
theorem dX2_spreadPlace_72 : decode cX2_spreadPlace 72 = .ok (.istore 7, 2) := by decide +kernel
theorem dX2_spreadPlace_74 : decode cX2_spreadPlace 74 = .ok (.iload 7, 2) := by decide +kernel
theorem dX2_spreadPlace_76 : decode cX2_spreadPlace 76 = .ok (.ifCond .ne 6, 3) := by decide +kernel
theorem dX2_spreadPlace_79 : decode cX2_spreadPlace 79 = .ok (.iload 5, 2) := by decide +kernel
theorem dX2_spreadPlace_81 : decode cX2_spreadPlace 81 = .ok (.ireturn, 1) := by decide +kernel
theorem dX2_spreadPlace_82 : decode cX2_spreadPlace 82 = .ok (.aload_n 0, 1) := by decide +kernel
theorem dX2_spreadPlace_83 : decode cX2_spreadPlace 83 = .ok (.getfield 16, 3) := by decide +kernel
theorem dX2_spreadPlace_86 : decode cX2_spreadPlace 86 = .ok (.bipush 9, 2) := by decide +kernel
theorem dX2_spreadPlace_88 : decode cX2_spreadPlace 88 = .ok (.iload_n 2, 1) := by decide +kernel
theorem dX2_spreadPlace_89 : decode cX2_spreadPlace 89 = .ok (.iadd, 1) := by decide +kernel
theorem dX2_spreadPlace_90 : decode cX2_spreadPlace 90 = .ok (.iload 4, 2) := by decide +kernel
theorem dX2_spreadPlace_92 : decode cX2_spreadPlace 92 = .ok (.invokestatic 91, 3) := by decide +kernel
theorem dX2_spreadPlace_95 : decode cX2_spreadPlace 95 = .ok (.i2l, 1) := by decide +kernel
theorem dX2_spreadPlace_96 : decode cX2_spreadPlace 96 = .ok (.lstore 8, 2) := by decide +kernel
theorem dX2_spreadPlace_98 : decode cX2_spreadPlace 98 = .ok (.iload 5, 2) := by decide +kernel
theorem dX2_spreadPlace_100 : decode cX2_spreadPlace 100 = .ok (.i2l, 1) := by decide +kernel
theorem dX2_spreadPlace_101 : decode cX2_spreadPlace 101 = .ok (.lload 8, 2) := by decide +kernel
theorem dX2_spreadPlace_103 : decode cX2_spreadPlace 103 = .ok (.aload_n 0, 1) := by decide +kernel
theorem dX2_spreadPlace_104 : decode cX2_spreadPlace 104 = .ok (.iload_n 1, 1) := by decide +kernel
theorem dX2_spreadPlace_105 : decode cX2_spreadPlace 105 = .ok (.iconst 3, 1) := by decide +kernel
theorem dX2_spreadPlace_106 : decode cX2_spreadPlace 106 = .ok (.invokevirtual 99, 3) := by decide +kernel
theorem dX2_spreadPlace_109 : decode cX2_spreadPlace 109 = .ok (.iload 6, 2) := by decide +kernel
theorem dX2_spreadPlace_111 : decode cX2_spreadPlace 111 = .ok (.isub, 1) := by decide +kernel
theorem dX2_spreadPlace_112 : decode cX2_spreadPlace 112 = .ok (.i2l, 1) := by decide +kernel
theorem dX2_spreadPlace_113 : decode cX2_spreadPlace 113 = .ok (.lmul, 1) := by decide +kernel
theorem dX2_spreadPlace_114 : decode cX2_spreadPlace 114 = .ok (.iload 7, 2) := by decide +kernel
theorem dX2_spreadPlace_116 : decode cX2_spreadPlace 116 = .ok (.i2l, 1) := by decide +kernel
theorem dX2_spreadPlace_117 : decode cX2_spreadPlace 117 = .ok (.invokestatic 106, 3) := by decide +kernel
theorem dX2_spreadPlace_120 : decode cX2_spreadPlace 120 = .ok (.lsub, 1) := by decide +kernel
theorem dX2_spreadPlace_121 : decode cX2_spreadPlace 121 = .ok (.l2i, 1) := by decide +kernel
theorem dX2_spreadPlace_122 : decode cX2_spreadPlace 122 = .ok (.ireturn, 1) := by decide +kernel
abbrev wX2_spreadPlace : List Cond := .code yX2_spreadPlace cX2_spreadPlace 10 (some .int) :: lw_gd
theorem hdX2_spreadPlace : (yX2_spreadPlace.cls ≠ "java/lang/invoke/MethodHandle" ∧ yX2_spreadPlace.cls ≠ "java/lang/invoke/VarHandle" ∧ (parseMethodDescriptor yX2_spreadPlace.desc).map (fun d => d.parameters.length) = some 3) := by decide +kernel
def fX2_spreadPlace_18   (b1 : Int32) (b2 : Int32) (M : xm_M) : Option (Int32 × xm_M) :=
  xm_bi (fX2_behind b1 b2 M) (fun x4 M3 => some (x4, M3))
set_option maxRecDepth 20000 in
theorem tfX2_spreadPlace_18 {p : Program} {l : Launch} {e : Env} {s : State} {m : MethodId} {args : Array Value} {below : List Frame} {meth : Method} {c : Code} {D : va_G} {g : xm_G} {A : Nat → Prop} (hX : xm_X p m meth c cX2_spreadPlace 10 s args wX2_spreadPlace RX2 (some .int) D cL g A)     : ∀ (b1 : Int32), ∀ (b2 : Int32), ∀ (M : xm_M), xm_J p l e ({ frames := 2, cells := 0, slots := 0, locals := 45 }) s m args below meth c 10 D cL g A (xm_Fi g) 18 [(0, .ref (g.1 49)), (1, .int b1), (2, .int b2)] [] M (fX2_spreadPlace_18 b1 b2 M) := by
  intro b1 b2 M
  unfold fX2_spreadPlace_18
  refine xm_aload_n hX 0 dX2_spreadPlace_18 rfl rfl ?_
  refine xm_iload_n hX 1 dX2_spreadPlace_19 rfl rfl ?_
  refine xm_iload_n hX 2 dX2_spreadPlace_20 rfl rfl ?_
  refine xm_calli hX (xm_runV hX (k := 49) (ci := 2) (As := (fun g => [.int b1, .int b2])) (kX2_behind b1 b2 M) cL_49 rfl (xm_gV gm_304 gm_294 gm_295 gm_3 gm_296) rfl ⟨rfl, rfl⟩ ⟨rfl, hdX2_behind⟩ ⟨Nat.le_of_ble_eq_true rfl, Nat.le_of_ble_eq_true rfl⟩ rfl (Nat.le_of_ble_eq_true rfl) rfl dX2_spreadPlace_21) (fun x4 M3 => ?_)
  exact xm_iret hX dX2_spreadPlace_24
def fX2_spreadPlace_48   (b1 : Int32) (b2 : Int32) (b4 : Int32) (s0 : Int32) (M : xm_M) : Option (Int32 × xm_M) :=
  xm_bi (fX2_lastSightAhead b1 M) (fun x8 M7 => xm_bi (fX2_behind x8 ((3 : Int32)) M7) (fun x10 M9 => xm_bi (fX2_behind b4 ((3 : Int32)) M9) (fun x12 M11 => xm_lt (x12 - x10) (fun x13 => if x13 = 0 then some (s0, M11) else xm_bi (fX3_item_ 56 11 57 120 (((9 : Int32)) + b2) b4 M11) (fun x15 M14 => xm_lt (x15.toInt64) (fun x16 => xm_bi (fX2_behind b1 ((3 : Int32)) M14) (fun x18 M17 => xm_bl (fX3_ratio (x16 * ((x18 - x10).toInt64)) x13.toInt64 M17) (fun x20 M19 => some ((s0.toInt64 - x20).toInt32, M19)))))))))
set_option maxRecDepth 20000 in
theorem tfX2_spreadPlace_48 {p : Program} {l : Launch} {e : Env} {s : State} {m : MethodId} {args : Array Value} {below : List Frame} {meth : Method} {c : Code} {D : va_G} {g : xm_G} {A : Nat → Prop} (hX : xm_X p m meth c cX2_spreadPlace 10 s args wX2_spreadPlace RX2 (some .int) D cL g A)     : ∀ (b1 : Int32), ∀ (b2 : Int32), ∀ (b4 : Int32), ∀ (s0 : Int32), ∀ (M : xm_M), xm_J p l e ({ frames := 2, cells := 0, slots := 0, locals := 45 }) s m args below meth c 10 D cL g A (xm_Fi g) 48 [(0, .ref (g.1 49)), (1, .int b1), (2, .int b2), (4, .int b4)] [.int s0] M (fX2_spreadPlace_48 b1 b2 b4 s0 M) := by
  intro b1 b2 b4 s0 M
  unfold fX2_spreadPlace_48
  refine xm_istore hX (lv' := [(5, .int s0), (0, .ref (g.1 49)), (1, .int b1), (2, .int b2), (4, .int b4)]) dX2_spreadPlace_48 (by decide) rfl ?_
  refine xm_aload_n hX 1 dX2_spreadPlace_50 rfl rfl ?_
  refine xm_aload_n hX 1 dX2_spreadPlace_51 rfl rfl ?_
  refine xm_iload_n hX 2 dX2_spreadPlace_52 rfl rfl ?_
  refine xm_calli hX (xm_runV hX (k := 49) (ci := 2) (As := (fun g => [.int b1])) (kX2_lastSightAhead b1 M) cL_49 rfl (xm_gV gm_305 gm_306 gm_706 gm_3 gm_307) rfl ⟨rfl, rfl⟩ ⟨rfl, hdX2_lastSightAhead⟩ ⟨Nat.le_of_ble_eq_true rfl, Nat.le_of_ble_eq_true rfl⟩ rfl (Nat.le_of_ble_eq_true rfl) rfl dX2_spreadPlace_53) (fun x8 M7 => ?_)
  refine xm_iconst hX (v := 3) rfl dX2_spreadPlace_56 ?_
  refine xm_calli hX (xm_runV hX (k := 49) (ci := 2) (As := (fun g => [.int x8, .int ((3 : Int32))])) (kX2_behind x8 ((3 : Int32)) M7) cL_49 rfl (xm_gV gm_304 gm_294 gm_295 gm_3 gm_296) rfl ⟨rfl, rfl⟩ ⟨rfl, hdX2_behind⟩ ⟨Nat.le_of_ble_eq_true rfl, Nat.le_of_ble_eq_true rfl⟩ rfl (Nat.le_of_ble_eq_true rfl) rfl dX2_spreadPlace_57) (fun x10 M9 => ?_)
  refine xm_istore hX (lv' := [(6, .int x10), (5, .int s0), (0, .ref (g.1 49)), (1, .int b1), (2, .int b2), (4, .int b4)]) dX2_spreadPlace_60 (by decide) rfl ?_
  refine xm_aload_n hX 2 dX2_spreadPlace_62 rfl rfl ?_
  refine xm_iload hX 5 dX2_spreadPlace_63 rfl ?_
  refine xm_iconst hX (v := 3) rfl dX2_spreadPlace_65 ?_
  refine xm_calli hX (xm_runV hX (k := 49) (ci := 2) (As := (fun g => [.int b4, .int ((3 : Int32))])) (kX2_behind b4 ((3 : Int32)) M9) cL_49 rfl (xm_gV gm_304 gm_294 gm_295 gm_3 gm_296) rfl ⟨rfl, rfl⟩ ⟨rfl, hdX2_behind⟩ ⟨Nat.le_of_ble_eq_true rfl, Nat.le_of_ble_eq_true rfl⟩ rfl (Nat.le_of_ble_eq_true rfl) rfl dX2_spreadPlace_66) (fun x12 M11 => ?_)
  refine xm_iload hX 0 dX2_spreadPlace_69 rfl ?_
  refine xm_isub hX dX2_spreadPlace_71 ?_
  refine xm_nmi (fun x13 => ?_)
  refine xm_istore hX (lv' := [(7, .int x13), (6, .int x10), (5, .int s0), (0, .ref (g.1 49)), (1, .int b1), (2, .int b2), (4, .int b4)]) dX2_spreadPlace_72 (by decide) rfl ?_
  refine xm_iload hX 0 dX2_spreadPlace_74 rfl ?_
  refine xm_if_ne hX (tgt := 82) dX2_spreadPlace_76 rfl ?_ ?_
  · refine xm_aload_n hX 3 dX2_spreadPlace_82 rfl rfl ?_
    refine xm_get hX (k := 49) (ci := 2) (j := 1) (C := RX2) (T := TX2) (N := 12) (v := .ref (g.1 56)) cL_49 rfl rfl rfl (by decide) (fun z hz => List.mem_cons_of_mem _ (iw_X2 z hz)) (List.mem_cons_of_mem _ gm_76) dX2_spreadPlace_83 ?_
    refine xm_bipush hX (v := 9) rfl dX2_spreadPlace_86 ?_
    refine xm_iload_n hX 5 dX2_spreadPlace_88 rfl rfl ?_
    refine xm_iadd hX dX2_spreadPlace_89 ?_
    refine xm_iload hX 6 dX2_spreadPlace_90 rfl ?_
    refine xm_calli hX (xm_runSN hX (As := (fun g => [.ref (g.1 56), .int (((9 : Int32)) + b2), .int b4])) (kX3_item_ 56 11 57 120 cL_56 cL_rows_56 (((9 : Int32)) + b2) b4 M11) (xm_gN gm_234) rfl ⟨rfl, rfl⟩ nw_4 (List.mem_cons_of_mem _ gm_1) (List.mem_cons_of_mem _ gm_233) hdX3_item_ ⟨Nat.le_of_ble_eq_true rfl, Nat.le_of_ble_eq_true rfl⟩ rfl (Nat.le_of_ble_eq_true rfl) rfl dX2_spreadPlace_92) (fun x15 M14 => ?_)
    refine xm_i2l hX dX2_spreadPlace_95 ?_
    refine xm_nml (fun x16 => ?_)
    refine xm_lstore hX (lv' := [(8, .long x16), (7, .int x13), (6, .int x10), (5, .int s0), (0, .ref (g.1 49)), (1, .int b1), (2, .int b2), (4, .int b4)]) dX2_spreadPlace_96 (by decide) rfl ?_
    refine xm_iload hX 3 dX2_spreadPlace_98 rfl ?_
    refine xm_i2l hX dX2_spreadPlace_100 ?_
    refine xm_lload hX 0 dX2_spreadPlace_101 rfl ?_
    refine xm_aload_n hX 4 dX2_spreadPlace_103 rfl rfl ?_
    refine xm_iload_n hX 5 dX2_spreadPlace_104 rfl rfl ?_
    refine xm_iconst hX (v := 3) rfl dX2_spreadPlace_105 ?_
    refine xm_calli hX (xm_runV hX (k := 49) (ci := 2) (As := (fun g => [.int b1, .int ((3 : Int32))])) (kX2_behind b1 ((3 : Int32)) M14) cL_49 rfl (xm_gV gm_304 gm_294 gm_295 gm_3 gm_296) rfl ⟨rfl, rfl⟩ ⟨rfl, hdX2_behind⟩ ⟨Nat.le_of_ble_eq_true rfl, Nat.le_of_ble_eq_true rfl⟩ rfl (Nat.le_of_ble_eq_true rfl) rfl dX2_spreadPlace_106) (fun x18 M17 => ?_)
    refine xm_iload hX 2 dX2_spreadPlace_109 rfl ?_
    refine xm_isub hX dX2_spreadPlace_111 ?_
    refine xm_i2l hX dX2_spreadPlace_112 ?_
    refine xm_lmul hX dX2_spreadPlace_113 ?_
    refine xm_iload hX 1 dX2_spreadPlace_114 rfl ?_
    refine xm_i2l hX dX2_spreadPlace_116 ?_
    refine xm_calll hX (xm_runSN hX (As := (fun g => [.long (x16 * ((x18 - x10).toInt64)), .long (x13.toInt64)])) (kX3_ratio (x16 * ((x18 - x10).toInt64)) x13.toInt64 M17) (xm_gN gm_248) rfl ⟨rfl, rfl⟩ nw_7 (List.mem_cons_of_mem _ gm_1) (List.mem_cons_of_mem _ gm_247) hdX3_ratio ⟨Nat.le_of_ble_eq_true rfl, Nat.le_of_ble_eq_true rfl⟩ rfl (Nat.le_of_ble_eq_true rfl) rfl dX2_spreadPlace_117) (fun x20 M19 => ?_)
    refine xm_lsub hX dX2_spreadPlace_120 ?_
    refine xm_l2i hX dX2_spreadPlace_121 ?_
    exact xm_iret hX dX2_spreadPlace_122
  · refine xm_iload hX 2 dX2_spreadPlace_79 rfl ?_
    exact xm_iret hX dX2_spreadPlace_81
def fX2_spreadPlace  (a1 : Int32) (a2 : Int32) (a3 : Int32) (M : xm_M) : Option (Int32 × xm_M) :=
  xm_bi (fX2_firstSightFrom a1 a3 M) (fun x2 M1 => if a1 < 0 then fX2_spreadPlace_18 a1 a2 M1 else if x2 < a3 then if x2 = a1 then xm_bi (fX2_behind (a1 - ((1 : Int32))) a2 M1) (fun x22 M21 => fX2_spreadPlace_48 a1 a2 x2 x22 M21) else xm_bi (fX2_behind a1 a2 M1) (fun x6 M5 => fX2_spreadPlace_48 a1 a2 x2 x6 M5) else fX2_spreadPlace_18 a1 a2 M1)
set_option maxRecDepth 20000 in
theorem kX2_spreadPlace {l : Launch}   (a1 : Int32) (a2 : Int32) (a3 : Int32) (M : xm_M) : xm_C l yX2_spreadPlace wX2_spreadPlace ({ frames := 2, cells := 0, slots := 0, locals := 45 }) cL (fun g => [.ref (g.1 49), .int a1, .int a2, .int a3]) M xm_Fi (fX2_spreadPlace  a1 a2 a3 M) := by
  refine xm_C.of (by decide) rfl (fun g => Nat.le_of_ble_eq_true rfl) ?_
  intro p e s m args below meth c D g A hX
  refine xm_lv (lv' := [(0, .ref (g.1 49)), (1, .int a1), (2, .int a2), (3, .int a3)]) rfl ?_
  unfold fX2_spreadPlace
  refine xm_aload_n hX 0 dX2_spreadPlace_0 rfl rfl ?_
  refine xm_iload_n hX 1 dX2_spreadPlace_1 rfl rfl ?_
  refine xm_iload_n hX 3 dX2_spreadPlace_2 rfl rfl ?_
  refine xm_calli hX (xm_runV hX (k := 49) (ci := 2) (As := (fun g => [.int a1, .int a3])) (kX2_firstSightFrom a1 a3 M) cL_49 rfl (xm_gV gm_301 gm_302 gm_705 gm_3 gm_303) rfl ⟨rfl, rfl⟩ ⟨rfl, hdX2_firstSightFrom⟩ ⟨Nat.le_of_ble_eq_true rfl, Nat.le_of_ble_eq_true rfl⟩ rfl (Nat.le_of_ble_eq_true rfl) rfl dX2_spreadPlace_3) (fun x2 M1 => ?_)
  refine xm_istore hX (lv' := [(4, .int x2), (0, .ref (g.1 49)), (1, .int a1), (2, .int a2), (3, .int a3)]) dX2_spreadPlace_6 (by decide) rfl ?_
  refine xm_iload_n hX 2 dX2_spreadPlace_8 rfl rfl ?_
  refine xm_if_lt hX (tgt := 18) dX2_spreadPlace_9 rfl ?_ ?_
  · refine xm_weak [1, 2, 3] (lv' := [(0, .ref (g.1 49)), (1, .int a1), (2, .int a2)]) rfl ?_
    exact tfX2_spreadPlace_18 hX a1 a2 M1
  · refine xm_iload hX 0 dX2_spreadPlace_12 rfl ?_
    refine xm_iload_n hX 4 dX2_spreadPlace_14 rfl rfl ?_
    refine xm_icmp_lt hX (tgt := 25) dX2_spreadPlace_15 rfl ?_ ?_
    · refine xm_iload hX 0 dX2_spreadPlace_25 rfl ?_
      refine xm_iload_n hX 2 dX2_spreadPlace_27 rfl rfl ?_
      refine xm_icmp_ne hX (tgt := 42) dX2_spreadPlace_28 rfl ?_ ?_
      · refine xm_aload_n hX 1 dX2_spreadPlace_42 rfl rfl ?_
        refine xm_iload_n hX 2 dX2_spreadPlace_43 rfl rfl ?_
        refine xm_iload_n hX 3 dX2_spreadPlace_44 rfl rfl ?_
        refine xm_calli hX (xm_runV hX (k := 49) (ci := 2) (As := (fun g => [.int a1, .int a2])) (kX2_behind a1 a2 M1) cL_49 rfl (xm_gV gm_304 gm_294 gm_295 gm_3 gm_296) rfl ⟨rfl, rfl⟩ ⟨rfl, hdX2_behind⟩ ⟨Nat.le_of_ble_eq_true rfl, Nat.le_of_ble_eq_true rfl⟩ rfl (Nat.le_of_ble_eq_true rfl) rfl dX2_spreadPlace_45) (fun x6 M5 => ?_)
        refine xm_weak [1, 2, 3, 0] (lv' := [(0, .ref (g.1 49)), (1, .int a1), (2, .int a2), (4, .int x2)]) rfl ?_
        exact tfX2_spreadPlace_48 hX a1 a2 x2 x6 M5
      · refine xm_aload_n hX 1 dX2_spreadPlace_31 rfl rfl ?_
        refine xm_iload_n hX 2 dX2_spreadPlace_32 rfl rfl ?_
        refine xm_iconst hX (v := 1) rfl dX2_spreadPlace_33 ?_
        refine xm_isub hX dX2_spreadPlace_34 ?_
        refine xm_iload_n hX 3 dX2_spreadPlace_35 rfl rfl ?_
        refine xm_calli hX (xm_runV hX (k := 49) (ci := 2) (As := (fun g => [.int (a1 - ((1 : Int32))), .int a2])) (kX2_behind (a1 - ((1 : Int32))) a2 M1) cL_49 rfl (xm_gV gm_304 gm_294 gm_295 gm_3 gm_296) rfl ⟨rfl, rfl⟩ ⟨rfl, hdX2_behind⟩ ⟨Nat.le_of_ble_eq_true rfl, Nat.le_of_ble_eq_true rfl⟩ rfl (Nat.le_of_ble_eq_true rfl) rfl dX2_spreadPlace_36) (fun x22 M21 => ?_)
        refine xm_goto hX (tgt := 48) dX2_spreadPlace_39 rfl ?_
        refine xm_weak [1, 2, 3, 0] (lv' := [(0, .ref (g.1 49)), (1, .int a1), (2, .int a2), (4, .int x2)]) rfl ?_
        exact tfX2_spreadPlace_48 hX a1 a2 x2 x22 M21
    · refine xm_weak [1, 2, 3] (lv' := [(0, .ref (g.1 49)), (1, .int a1), (2, .int a2)]) rfl ?_
      exact tfX2_spreadPlace_18 hX a1 a2 M1
-- ===== OdometryDesk.pose(II)I ['0']
theorem dX3_pose_0 : decode cX3_pose 0 = .ok (.iload_n 1, 1) := by decide +kernel
theorem dX3_pose_1 : decode cX3_pose 1 = .ok (.iconst (-1), 1) := by decide +kernel
theorem dX3_pose_2 : decode cX3_pose 2 = .ok (.aload_n 0, 1) := by decide +kernel
theorem dX3_pose_3 : decode cX3_pose 3 = .ok (.getfield 10, 3) := by decide +kernel
theorem dX3_pose_6 : decode cX3_pose 6 = .ok (.getfield 106, 3) := by decide +kernel
theorem dX3_pose_9 : decode cX3_pose 9 = .ok (.iconst 1, 1) := by decide +kernel
theorem dX3_pose_10 : decode cX3_pose 10 = .ok (.isub, 1) := by decide +kernel
theorem dX3_pose_11 : decode cX3_pose 11 = .ok (.invokestatic 66, 3) := by decide +kernel
theorem dX3_pose_14 : decode cX3_pose 14 = .ok (.ifCond .ne 6, 3) := by decide +kernel
theorem dX3_pose_17 : decode cX3_pose 17 = .ok (.ldc 117, 2) := by decide +kernel
theorem dX3_pose_19 : decode cX3_pose 19 = .ok (.ireturn, 1) := by decide +kernel
theorem dX3_pose_20 : decode cX3_pose 20 = .ok (.iload_n 2, 1) := by decide +kernel
theorem dX3_pose_21 : decode cX3_pose 21 = .ok (.iconst 0, 1) := by decide +kernel
theorem dX3_pose_22 : decode cX3_pose 22 = .ok (.bipush 6, 2) := by decide +kernel
theorem dX3_pose_24 : decode cX3_pose 24 = .ok (.invokestatic 66, 3) := by decide +kernel
theorem dX3_pose_27 : decode cX3_pose 27 = .ok (.ifCond .ne 6, 3) := by decide +kernel
theorem dX3_pose_30 : decode cX3_pose 30 = .ok (.ldc 118, 2) := by decide +kernel
theorem dX3_pose_32 : decode cX3_pose 32 = .ok (.ireturn, 1) := by decide +kernel
theorem dX3_pose_33 : decode cX3_pose 33 = .ok (.aload_n 0, 1) := by decide +kernel
theorem dX3_pose_34 : decode cX3_pose 34 = .ok (.getfield 25, 3) := by decide +kernel
theorem dX3_pose_37 : decode cX3_pose 37 = .ok (.aload_n 0, 1) := by decide +kernel
theorem dX3_pose_38 : decode cX3_pose 38 = .ok (.getfield 10, 3) := by decide +kernel
theorem dX3_pose_41 : decode cX3_pose 41 = .ok (.aload_n 0, 1) := by decide +kernel
theorem dX3_pose_42 : decode cX3_pose 42 = .ok (.getfield 10, 3) := by decide +kernel
theorem dX3_pose_45 : decode cX3_pose 45 = .ok (.getfield 52, 3) := by decide +kernel
theorem dX3_pose_48 : decode cX3_pose 48 = .ok (.invokevirtual 119, 3) := by decide +kernel
theorem dX3_pose_51 : decode cX3_pose 51 = .ok (.iload_n 2, 1) := by decide +kernel
theorem dX3_pose_52 : decode cX3_pose 52 = .ok (.iconst 5, 1) := by decide +kernel
theorem dX3_pose_53 : decode cX3_pose 53 = .ok (.if_icmp .ge 15, 3) := by decide +kernel
theorem dX3_pose_56 : decode cX3_pose 56 = .ok (.aload_n 0, 1) := by decide +kernel
theorem dX3_pose_57 : decode cX3_pose 57 = .ok (.getfield 25, 3) := by decide +kernel
theorem dX3_pose_60 : decode cX3_pose 60 = .ok (.iload_n 1, 1) := by decide +kernel
theorem dX3_pose_61 : decode cX3_pose 61 = .ok (.iload_n 2, 1) := by decide +kernel
theorem dX3_pose_62 : decode cX3_pose 62 = .ok (.invokevirtual 123, 3) := by decide +kernel
theorem dX3_pose_65 : decode cX3_pose 65 = .ok (.goto 21, 3) := by decide +kernel
theorem dX3_pose_68 : decode cX3_pose 68 = .ok (.aload_n 0, 1) := by decide +kernel
theorem dX3_pose_69 : decode cX3_pose 69 = .ok (.getfield 25, 3) := by decide +kernel
theorem dX3_pose_72 : decode cX3_pose 72 = .ok (.iload_n 1, 1) := by decide +kernel
theorem dX3_pose_73 : decode cX3_pose 73 = .ok (.iload_n 2, 1) := by decide +kernel
theorem dX3_pose_74 : decode cX3_pose 74 = .ok (.iconst 5, 1) := by decide +kernel
theorem dX3_pose_75 : decode cX3_pose 75 = .ok (.isub, 1) := by decide +kernel
theorem dX3_pose_76 : decode cX3_pose 76 = .ok (.aload_n 0, 1) := by decide +kernel
theorem dX3_pose_77 : decode cX3_pose 77 = .ok (.getfield 10, 3) := by decide +kernel
theorem dX3_pose_80 : decode cX3_pose 80 = .ok (.getfield 106, 3) := by decide +kernel
theorem dX3_pose_83 : decode cX3_pose 83 = .ok (.invokevirtual 126, 3) := by decide +kernel
theorem dX3_pose_86 : decode cX3_pose 86 = .ok (.ireturn, 1) := by decide +kernel
abbrev wX3_pose : List Cond := .code yX3_pose cX3_pose 3 (some .int) :: lw_gd
theorem hdX3_pose : (yX3_pose.cls ≠ "java/lang/invoke/MethodHandle" ∧ yX3_pose.cls ≠ "java/lang/invoke/VarHandle" ∧ (parseMethodDescriptor yX3_pose.desc).map (fun d => d.parameters.length) = some 2) := by decide +kernel
def fX3_pose  (a1 : Int32) (a2 : Int32) (M : xm_M) : Option (Int32 × xm_M) :=
  xm_bi (fX3_isWithin a1 ((-1 : Int32)) ((M.1 1 6) - ((1 : Int32))) M) (fun x2 M1 => if x2 = 0 then some ((-1000000001 : Int32), M1) else xm_bi (fX3_isWithin a2 ((0 : Int32)) ((6 : Int32)) M1) (fun x4 M3 => if x4 = 0 then some ((-1000000002 : Int32), M3) else xm_bv (fX2_follow 2 M3) (fun M5 => if ((5 : Int32)) ≤ a2 then xm_bi (fX2_spreadPlace a1 (a2 - ((5 : Int32))) (M5.1 1 6) M5) (fun x7 M6 => some (x7, M6)) else xm_bi (fX2_behind a1 a2 M5) (fun x9 M8 => some (x9, M8)))))
set_option maxRecDepth 20000 in
theorem kX3_pose {l : Launch}   (a1 : Int32) (a2 : Int32) (M : xm_M) : xm_C l yX3_pose wX3_pose ({ frames := 5, cells := 0, slots := 0, locals := 129 }) cL (fun g => [.ref (g.1 0), .int a1, .int a2]) M xm_Fi (fX3_pose  a1 a2 M) := by
  refine xm_C.of (by decide) rfl (fun g => Nat.le_of_ble_eq_true rfl) ?_
  intro p e s m args below meth c D g A hX
  refine xm_lv (lv' := [(0, .ref (g.1 0)), (1, .int a1), (2, .int a2)]) rfl ?_
  unfold fX3_pose
  refine xm_iload_n hX 1 dX3_pose_0 rfl rfl ?_
  refine xm_iconst hX (v := -1) rfl dX3_pose_1 ?_
  refine xm_aload_n hX 0 dX3_pose_2 rfl rfl ?_
  refine xm_get hX (k := 0) (ci := 3) (j := 0) (C := RX3) (T := TX3) (N := 6) (v := .ref (g.1 1)) cL_0 rfl rfl rfl (by decide) (fun z hz => List.mem_cons_of_mem _ (iw_X3 z hz)) (List.mem_cons_of_mem _ gm_129) dX3_pose_3 ?_
  refine xm_get hX (k := 1) (ci := 1) (j := 6) (C := RX1) (T := TX1) (N := 11) (v := .int (M.1 1 6)) cL_1 rfl rfl rfl (by decide) (fun z hz => List.mem_cons_of_mem _ (iw_X1 z hz)) (List.mem_cons_of_mem _ gm_46) dX3_pose_6 ?_
  refine xm_iconst hX (v := 1) rfl dX3_pose_9 ?_
  refine xm_isub hX dX3_pose_10 ?_
  refine xm_calli hX (xm_runS hX (As := (fun g => [.int a1, .int ((-1 : Int32)), .int ((M.1 1 6) - ((1 : Int32)))])) (kX3_isWithin a1 ((-1 : Int32)) ((M.1 1 6) - ((1 : Int32))) M) (xm_gS gm_150 gm_151 gm_1 gm_152) rfl ⟨rfl, rfl⟩ hdX3_isWithin ⟨Nat.le_of_ble_eq_true rfl, Nat.le_of_ble_eq_true rfl⟩ rfl (Nat.le_of_ble_eq_true rfl) rfl dX3_pose_11) (fun x2 M1 => ?_)
  refine xm_if_ne hX (tgt := 20) dX3_pose_14 rfl ?_ ?_
  · refine xm_iload_n hX 2 dX3_pose_20 rfl rfl ?_
    refine xm_iconst hX (v := 0) rfl dX3_pose_21 ?_
    refine xm_bipush hX (v := 6) rfl dX3_pose_22 ?_
    refine xm_calli hX (xm_runS hX (As := (fun g => [.int a2, .int ((0 : Int32)), .int ((6 : Int32))])) (kX3_isWithin a2 ((0 : Int32)) ((6 : Int32)) M1) (xm_gS gm_150 gm_151 gm_1 gm_152) rfl ⟨rfl, rfl⟩ hdX3_isWithin ⟨Nat.le_of_ble_eq_true rfl, Nat.le_of_ble_eq_true rfl⟩ rfl (Nat.le_of_ble_eq_true rfl) rfl dX3_pose_24) (fun x4 M3 => ?_)
    refine xm_if_ne hX (tgt := 33) dX3_pose_27 rfl ?_ ?_
    · refine xm_aload_n hX 0 dX3_pose_33 rfl rfl ?_
      refine xm_get hX (k := 0) (ci := 3) (j := 3) (C := RX3) (T := TX3) (N := 6) (v := .ref (g.1 49)) cL_0 rfl rfl rfl (by decide) (fun z hz => List.mem_cons_of_mem _ (iw_X3 z hz)) (List.mem_cons_of_mem _ gm_132) dX3_pose_34 ?_
      refine xm_aload_n hX 0 dX3_pose_37 rfl rfl ?_
      refine xm_get hX (k := 0) (ci := 3) (j := 0) (C := RX3) (T := TX3) (N := 6) (v := .ref (g.1 1)) cL_0 rfl rfl rfl (by decide) (fun z hz => List.mem_cons_of_mem _ (iw_X3 z hz)) (List.mem_cons_of_mem _ gm_129) dX3_pose_38 ?_
      refine xm_aload_n hX 0 dX3_pose_41 rfl rfl ?_
      refine xm_get hX (k := 0) (ci := 3) (j := 0) (C := RX3) (T := TX3) (N := 6) (v := .ref (g.1 1)) cL_0 rfl rfl rfl (by decide) (fun z hz => List.mem_cons_of_mem _ (iw_X3 z hz)) (List.mem_cons_of_mem _ gm_129) dX3_pose_42 ?_
      refine xm_get hX (k := 1) (ci := 1) (j := 0) (C := RX1) (T := TX1) (N := 11) (v := .ref (g.1 2)) cL_1 rfl rfl rfl (by decide) (fun z hz => List.mem_cons_of_mem _ (iw_X1 z hz)) (List.mem_cons_of_mem _ gm_30) dX3_pose_45 ?_
      refine xm_callv hX (xm_runV hX (k := 49) (ci := 2) (As := (fun g => [.ref (g.1 1), .ref (g.1 2)])) (kX2_follow 2 cL_2 M3) cL_49 rfl (xm_gV gm_218 gm_219 gm_220 gm_3 gm_221) rfl ⟨rfl, rfl⟩ ⟨rfl, hdX2_follow⟩ ⟨Nat.le_of_ble_eq_true rfl, Nat.le_of_ble_eq_true rfl⟩ rfl (Nat.le_of_ble_eq_true rfl) rfl dX3_pose_48) (fun M5 => ?_)
      refine xm_iload_n hX 2 dX3_pose_51 rfl rfl ?_
      refine xm_iconst hX (v := 5) rfl dX3_pose_52 ?_
      refine xm_icmp_ge hX (tgt := 68) dX3_pose_53 rfl ?_ ?_
      · refine xm_aload_n hX 0 dX3_pose_68 rfl rfl ?_
        refine xm_get hX (k := 0) (ci := 3) (j := 3) (C := RX3) (T := TX3) (N := 6) (v := .ref (g.1 49)) cL_0 rfl rfl rfl (by decide) (fun z hz => List.mem_cons_of_mem _ (iw_X3 z hz)) (List.mem_cons_of_mem _ gm_132) dX3_pose_69 ?_
        refine xm_iload_n hX 1 dX3_pose_72 rfl rfl ?_
        refine xm_iload_n hX 2 dX3_pose_73 rfl rfl ?_
        refine xm_iconst hX (v := 5) rfl dX3_pose_74 ?_
        refine xm_isub hX dX3_pose_75 ?_
        refine xm_aload_n hX 0 dX3_pose_76 rfl rfl ?_
        refine xm_get hX (k := 0) (ci := 3) (j := 0) (C := RX3) (T := TX3) (N := 6) (v := .ref (g.1 1)) cL_0 rfl rfl rfl (by decide) (fun z hz => List.mem_cons_of_mem _ (iw_X3 z hz)) (List.mem_cons_of_mem _ gm_129) dX3_pose_77 ?_
        refine xm_get hX (k := 1) (ci := 1) (j := 6) (C := RX1) (T := TX1) (N := 11) (v := .int (M5.1 1 6)) cL_1 rfl rfl rfl (by decide) (fun z hz => List.mem_cons_of_mem _ (iw_X1 z hz)) (List.mem_cons_of_mem _ gm_46) dX3_pose_80 ?_
        refine xm_calli hX (xm_runV hX (k := 49) (ci := 2) (As := (fun g => [.int a1, .int (a2 - ((5 : Int32))), .int (M5.1 1 6)])) (kX2_spreadPlace a1 (a2 - ((5 : Int32))) (M5.1 1 6) M5) cL_49 rfl (xm_gV gm_297 gm_298 gm_299 gm_3 gm_300) rfl ⟨rfl, rfl⟩ ⟨rfl, hdX2_spreadPlace⟩ ⟨Nat.le_of_ble_eq_true rfl, Nat.le_of_ble_eq_true rfl⟩ rfl (Nat.le_of_ble_eq_true rfl) rfl dX3_pose_83) (fun x7 M6 => ?_)
        exact xm_iret hX dX3_pose_86
      · refine xm_aload_n hX 0 dX3_pose_56 rfl rfl ?_
        refine xm_get hX (k := 0) (ci := 3) (j := 3) (C := RX3) (T := TX3) (N := 6) (v := .ref (g.1 49)) cL_0 rfl rfl rfl (by decide) (fun z hz => List.mem_cons_of_mem _ (iw_X3 z hz)) (List.mem_cons_of_mem _ gm_132) dX3_pose_57 ?_
        refine xm_iload_n hX 1 dX3_pose_60 rfl rfl ?_
        refine xm_iload_n hX 2 dX3_pose_61 rfl rfl ?_
        refine xm_calli hX (xm_runV hX (k := 49) (ci := 2) (As := (fun g => [.int a1, .int a2])) (kX2_behind a1 a2 M5) cL_49 rfl (xm_gV gm_293 gm_294 gm_295 gm_3 gm_296) rfl ⟨rfl, rfl⟩ ⟨rfl, hdX2_behind⟩ ⟨Nat.le_of_ble_eq_true rfl, Nat.le_of_ble_eq_true rfl⟩ rfl (Nat.le_of_ble_eq_true rfl) rfl dX3_pose_62) (fun x9 M8 => ?_)
        refine xm_goto hX (tgt := 86) dX3_pose_65 rfl ?_
        exact xm_iret hX dX3_pose_86
    · refine xm_ldc hX (v := -1000000002) (List.mem_cons_of_mem _ gm_217) dX3_pose_30 ?_
      exact xm_iret hX dX3_pose_32
  · refine xm_ldc hX (v := -1000000001) (List.mem_cons_of_mem _ gm_216) dX3_pose_17 ?_
    exact xm_iret hX dX3_pose_19
-- ===== OdometryDesk$Pad.signsIn(J)I
theorem dX0_signsIn_0 : decode cX0_signsIn 0 = .ok (.iconst 0, 1) := by decide +kernel
theorem dX0_signsIn_1 : decode cX0_signsIn 1 = .ok (.istore_n 2, 1) := by decide +kernel
theorem dX0_signsIn_2 : decode cX0_signsIn 2 = .ok (.lload_n 0, 1) := by decide +kernel
theorem dX0_signsIn_3 : decode cX0_signsIn 3 = .ok (.lstore_n 3, 1) := by decide +kernel
theorem dX0_signsIn_4 : decode cX0_signsIn 4 = .ok (.iload_n 2, 1) := by decide +kernel
theorem dX0_signsIn_5 : decode cX0_signsIn 5 = .ok (.bipush 8, 2) := by decide +kernel
theorem dX0_signsIn_7 : decode cX0_signsIn 7 = .ok (.if_icmp .ge 38, 3) := by decide +kernel
theorem dX0_signsIn_10 : decode cX0_signsIn 10 = .ok (.lload_n 3, 1) := by decide +kernel
theorem dX0_signsIn_11 : decode cX0_signsIn 11 = .ok (.lconst 0, 1) := by decide +kernel
theorem dX0_signsIn_12 : decode cX0_signsIn 12 = .ok (.lcmp, 1) := by decide +kernel
theorem dX0_signsIn_13 : decode cX0_signsIn 13 = .ok (.ifCond .eq 32, 3) := by decide +kernel
theorem dX0_signsIn_16 : decode cX0_signsIn 16 = .ok (.lload_n 3, 1) := by decide +kernel
theorem dX0_signsIn_17 : decode cX0_signsIn 17 = .ok (.ldc2_w 18, 3) := by decide +kernel
theorem dX0_signsIn_20 : decode cX0_signsIn 20 = .ok (.land, 1) := by decide +kernel
theorem dX0_signsIn_21 : decode cX0_signsIn 21 = .ok (.l2i, 1) := by decide +kernel
theorem dX0_signsIn_22 : decode cX0_signsIn 22 = .ok (.bipush 33, 2) := by decide +kernel
theorem dX0_signsIn_24 : decode cX0_signsIn 24 = .ok (.bipush 126, 2) := by decide +kernel
theorem dX0_signsIn_26 : decode cX0_signsIn 26 = .ok (.invokestatic 20, 3) := by decide +kernel
theorem dX0_signsIn_29 : decode cX0_signsIn 29 = .ok (.ifCond .ne 5, 3) := by decide +kernel
theorem dX0_signsIn_32 : decode cX0_signsIn 32 = .ok (.iconst 0, 1) := by decide +kernel
theorem dX0_signsIn_33 : decode cX0_signsIn 33 = .ok (.ireturn, 1) := by decide +kernel
theorem dX0_signsIn_34 : decode cX0_signsIn 34 = .ok (.lload_n 3, 1) := by decide +kernel
theorem dX0_signsIn_35 : decode cX0_signsIn 35 = .ok (.bipush 8, 2) := by decide +kernel
theorem dX0_signsIn_37 : decode cX0_signsIn 37 = .ok (.lushr, 1) := by decide +kernel
theorem dX0_signsIn_38 : decode cX0_signsIn 38 = .ok (.lstore_n 3, 1) := by decide +kernel
theorem dX0_signsIn_39 : decode cX0_signsIn 39 = .ok (.iinc 2 1, 3) := by decide +kernel
theorem dX0_signsIn_42 : decode cX0_signsIn 42 = .ok (.goto (-38), 3) := by decide +kernel
theorem dX0_signsIn_45 : decode cX0_signsIn 45 = .ok (.iload_n 2, 1) := by decide +kernel
theorem dX0_signsIn_46 : decode cX0_signsIn 46 = .ok (.ireturn, 1) := by decide +kernel
abbrev wX0_signsIn : List Cond := .code yX0_signsIn cX0_signsIn 5 (some .int) :: lw_gd
theorem hdX0_signsIn : (yX0_signsIn.cls ≠ "java/lang/invoke/MethodHandle" ∧ yX0_signsIn.cls ≠ "java/lang/invoke/VarHandle" ∧ (parseMethodDescriptor yX0_signsIn.desc).map (fun d => d.parameters.length) = some 1) := by decide +kernel
def fX0_signsIn_45   (b2 : Int32) (M : xm_M) : Option (Int32 × xm_M) :=
  some (b2, M)
set_option maxRecDepth 20000 in
theorem tfX0_signsIn_45 {p : Program} {l : Launch} {e : Env} {s : State} {m : MethodId} {args : Array Value} {below : List Frame} {meth : Method} {c : Code} {D : va_G} {g : xm_G} {A : Nat → Prop} (hX : xm_X p m meth c cX0_signsIn 5 s args wX0_signsIn RX0 (some .int) D cL g A)     : ∀ (b2 : Int32), ∀ (M : xm_M), xm_J p l e ({ frames := 1, cells := 0, slots := 0, locals := 22 }) s m args below meth c 5 D cL g A (xm_Fi g) 45 [(2, .int b2)] [] M (fX0_signsIn_45 b2 M) := by
  intro b2 M
  unfold fX0_signsIn_45
  refine xm_iload_n hX 0 dX0_signsIn_45 rfl rfl ?_
  exact xm_iret hX dX0_signsIn_46
def fX0_signsIn_4  (k4 : Int32 → Int64 → xm_M → Option (Int32 × xm_M)) (b2 : Int32) (b3 : Int64) (M : xm_M) : Option (Int32 × xm_M) :=
  if ((8 : Int32)) ≤ b2 then fX0_signsIn_45 b2 M else if (lg_cmp b3 ((0 : Int64))) = 0 then fX0_signsIn_45 b2 M else xm_bi (fX3_isWithin ((b3 &&& ((255 : Int64))).toInt32) ((33 : Int32)) ((126 : Int32)) M) (fun x3 M2 => if x3 = 0 then some ((0 : Int32), M2) else xm_lt ((b3.toUInt64 >>> (((8 : Int32)).toInt64.toUInt64 &&& Int64.toUInt64 63)).toInt64) (fun x4 => xm_lt (b2 + Int32.ofInt 1) (fun x5 => k4 x5 x4 M2)))
set_option maxRecDepth 20000 in
theorem tfX0_signsIn_4 {p : Program} {l : Launch} {e : Env} {s : State} {m : MethodId} {args : Array Value} {below : List Frame} {meth : Method} {c : Code} {D : va_G} {g : xm_G} {A : Nat → Prop} (hX : xm_X p m meth c cX0_signsIn 5 s args wX0_signsIn RX0 (some .int) D cL g A)   (k4 : Int32 → Int64 → xm_M → Option (Int32 × xm_M)) (h4 : ∀ (b2 : Int32), ∀ (b3 : Int64), ∀ (M : xm_M), xm_J p l e ({ frames := 1, cells := 0, slots := 0, locals := 22 }) s m args below meth c 5 D cL g A (xm_Fi g) 4 [(2, .int b2), (3, .long b3)] [] M (k4 b2 b3 M)) : ∀ (b2 : Int32), ∀ (b3 : Int64), ∀ (M : xm_M), xm_J p l e ({ frames := 1, cells := 0, slots := 0, locals := 22 }) s m args below meth c 5 D cL g A (xm_Fi g) 4 [(2, .int b2), (3, .long b3)] [] M (fX0_signsIn_4 k4 b2 b3 M) := by
  intro b2 b3 M
  unfold fX0_signsIn_4
  refine xm_iload_n hX 0 dX0_signsIn_4 rfl rfl ?_
  refine xm_bipush hX (v := 8) rfl dX0_signsIn_5 ?_
  refine xm_icmp_ge hX (tgt := 45) dX0_signsIn_7 rfl ?_ ?_
  · refine xm_weak [0] (lv' := [(2, .int b2)]) rfl ?_
    exact tfX0_signsIn_45 hX b2 M
  · refine xm_lload_n hX 1 dX0_signsIn_10 rfl rfl ?_
    refine xm_lconst hX (v := 0) rfl dX0_signsIn_11 ?_
    refine xm_lcmp hX dX0_signsIn_12 ?_
    refine xm_if_eq hX (tgt := 45) dX0_signsIn_13 rfl ?_ ?_
    · refine xm_weak [0] (lv' := [(2, .int b2)]) rfl ?_
      exact tfX0_signsIn_45 hX b2 M
    · refine xm_lload_n hX 1 dX0_signsIn_16 rfl rfl ?_
      refine xm_ldc2 hX (v := 255) (List.mem_cons_of_mem _ gm_365) dX0_signsIn_17 ?_
      refine xm_land hX dX0_signsIn_20 ?_
      refine xm_l2i hX dX0_signsIn_21 ?_
      refine xm_bipush hX (v := 33) rfl dX0_signsIn_22 ?_
      refine xm_bipush hX (v := 126) rfl dX0_signsIn_24 ?_
      refine xm_calli hX (xm_runSN hX (As := (fun g => [.int ((b3 &&& ((255 : Int64))).toInt32), .int ((33 : Int32)), .int ((126 : Int32))])) (kX3_isWithin ((b3 &&& ((255 : Int64))).toInt32) ((33 : Int32)) ((126 : Int32)) M) (xm_gN gm_152) rfl ⟨rfl, rfl⟩ nw_11 (List.mem_cons_of_mem _ gm_1) (List.mem_cons_of_mem _ gm_151) hdX3_isWithin ⟨Nat.le_of_ble_eq_true rfl, Nat.le_of_ble_eq_true rfl⟩ rfl (Nat.le_of_ble_eq_true rfl) rfl dX0_signsIn_26) (fun x3 M2 => ?_)
      refine xm_if_ne hX (tgt := 34) dX0_signsIn_29 rfl ?_ ?_
      · refine xm_lload_n hX 1 dX0_signsIn_34 rfl rfl ?_
        refine xm_bipush hX (v := 8) rfl dX0_signsIn_35 ?_
        refine xm_lushr hX dX0_signsIn_37 ?_
        refine xm_nml (fun x4 => ?_)
        refine xm_lstore_n hX (lv' := [(3, .long x4), (2, .int b2)]) dX0_signsIn_38 rfl (by decide) rfl ?_
        refine xm_iinc hX (lv2 := fun x5 => [(2, .int x5), (3, .long x4)]) 1 dX0_signsIn_39 rfl (by decide) (fun _ => rfl) (fun x5 => ?_)
        refine xm_goto hX (tgt := 4) dX0_signsIn_42 rfl ?_
        exact h4 x5 x4 M2
      · refine xm_iconst hX (v := 0) rfl dX0_signsIn_32 ?_
        exact xm_iret hX dX0_signsIn_33
def fX0_signsIn_4_it   (nq : Nat) : Int32 → Int64 → xm_M → Option (Int32 × xm_M) := xm_it (fun kq => fX0_signsIn_4 kq) (fun _ _ _ => none) nq
theorem tfX0_signsIn_4_it {p : Program} {l : Launch} {e : Env} {s : State} {m : MethodId} {args : Array Value} {below : List Frame} {meth : Method} {c : Code} {D : va_G} {g : xm_G} {A : Nat → Prop} (hX : xm_X p m meth c cX0_signsIn 5 s args wX0_signsIn RX0 (some .int) D cL g A)     : ∀ (nq : Nat), ∀ (b2 : Int32), ∀ (b3 : Int64), ∀ (M : xm_M), xm_J p l e ({ frames := 1, cells := 0, slots := 0, locals := 22 }) s m args below meth c 5 D cL g A (xm_Fi g) 4 [(2, .int b2), (3, .long b3)] [] M (fX0_signsIn_4_it  nq b2 b3 M) := by
  intro nq
  induction nq with
  | zero => exact fun _ _ _ => xm_none
  | succ nq ih => exact tfX0_signsIn_4 hX _ ih
def fX0_signsIn  (a0 : Int64) (M : xm_M) : Option (Int32 × xm_M) :=
  xm_lt ((0 : Int32)) (fun x1 => fX0_signsIn_4_it xm_N x1 a0 M)
set_option maxRecDepth 20000 in
theorem kX0_signsIn {l : Launch}   (a0 : Int64) (M : xm_M) : xm_C l yX0_signsIn wX0_signsIn ({ frames := 1, cells := 0, slots := 0, locals := 22 }) cL (fun g => [.long a0]) M xm_Fi (fX0_signsIn  a0 M) := by
  refine xm_C.of (by decide) rfl (fun g => Nat.le_of_ble_eq_true rfl) ?_
  intro p e s m args below meth c D g A hX
  refine xm_lv (lv' := [(0, .long a0)]) rfl ?_
  unfold fX0_signsIn
  refine xm_iconst hX (v := 0) rfl dX0_signsIn_0 ?_
  refine xm_nmi (fun x1 => ?_)
  refine xm_istore_n hX (lv' := [(2, .int x1), (0, .long a0)]) dX0_signsIn_1 rfl (by decide) rfl ?_
  refine xm_lload_n hX 1 dX0_signsIn_2 rfl rfl ?_
  refine xm_lstore_n hX (lv' := [(3, .long a0), (2, .int x1), (0, .long a0)]) dX0_signsIn_3 rfl (by decide) rfl ?_
  refine xm_weak [1, 0] (lv' := [(2, .int x1), (3, .long a0)]) rfl ?_
  exact tfX0_signsIn_4_it hX xm_N x1 a0 M
-- ===== OdometryDesk$Pad.append(JI)V ['69']
theorem dX0_append_0 : decode cX0_append 0 = .ok (.iconst 0, 1) := by decide +kernel
theorem dX0_append_1 : decode cX0_append 1 = .ok (.istore 4, 2) := by decide +kernel
theorem dX0_append_3 : decode cX0_append 3 = .ok (.iload 4, 2) := by decide +kernel
theorem dX0_append_5 : decode cX0_append 5 = .ok (.iload_n 3, 1) := by decide +kernel
theorem dX0_append_6 : decode cX0_append 6 = .ok (.if_icmp .ge 39, 3) := by decide +kernel
theorem dX0_append_9 : decode cX0_append 9 = .ok (.aload_n 0, 1) := by decide +kernel
theorem dX0_append_10 : decode cX0_append 10 = .ok (.getfield 9, 3) := by decide +kernel
theorem dX0_append_13 : decode cX0_append 13 = .ok (.aload_n 0, 1) := by decide +kernel
theorem dX0_append_14 : decode cX0_append 14 = .ok (.getfield 24, 3) := by decide +kernel
theorem dX0_append_17 : decode cX0_append 17 = .ok (.iload 4, 2) := by decide +kernel
theorem dX0_append_19 : decode cX0_append 19 = .ok (.iadd, 1) := by decide +kernel
theorem dX0_append_20 : decode cX0_append 20 = .ok (.lload_n 1, 1) := by decide +kernel
theorem dX0_append_21 : decode cX0_append 21 = .ok (.bipush 8, 2) := by decide +kernel
theorem dX0_append_23 : decode cX0_append 23 = .ok (.iload_n 3, 1) := by decide +kernel
theorem dX0_append_24 : decode cX0_append 24 = .ok (.iconst 1, 1) := by decide +kernel
theorem dX0_append_25 : decode cX0_append 25 = .ok (.isub, 1) := by decide +kernel
theorem dX0_append_26 : decode cX0_append 26 = .ok (.iload 4, 2) := by decide +kernel
theorem dX0_append_28 : decode cX0_append 28 = .ok (.isub, 1) := by decide +kernel
theorem dX0_append_29 : decode cX0_append 29 = .ok (.imul, 1) := by decide +kernel
theorem dX0_append_30 : decode cX0_append 30 = .ok (.lushr, 1) := by decide +kernel
theorem dX0_append_31 : decode cX0_append 31 = .ok (.ldc2_w 18, 3) := by decide +kernel
theorem dX0_append_34 : decode cX0_append 34 = .ok (.land, 1) := by decide +kernel
theorem dX0_append_35 : decode cX0_append 35 = .ok (.l2i, 1) := by decide +kernel
theorem dX0_append_36 : decode cX0_append 36 = .ok (.invokestatic 28, 3) := by decide +kernel
theorem dX0_append_39 : decode cX0_append 39 = .ok (.iinc 4 1, 3) := by decide +kernel
theorem dX0_append_42 : decode cX0_append 42 = .ok (.goto (-39), 3) := by decide +kernel
theorem dX0_append_45 : decode cX0_append 45 = .ok (.aload_n 0, 1) := by decide +kernel
theorem dX0_append_46 : decode cX0_append 46 = .ok (.dup, 1) := by decide +kernel
theorem dX0_append_47 : decode cX0_append 47 = .ok (.getfield 24, 3) := by decide +kernel
theorem dX0_append_50 : decode cX0_append 50 = .ok (.iload_n 3, 1) := by decide +kernel
theorem dX0_append_51 : decode cX0_append 51 = .ok (.iadd, 1) := by decide +kernel
theorem dX0_append_52 : decode cX0_append 52 = .ok (.putfield 24, 3) := by decide +kernel
theorem dX0_append_55 : decode cX0_append 55 = .ok (.return_, 1) := by decide +kernel
abbrev wX0_append : List Cond := .code yX0_append cX0_append 5 none :: lw_gd
theorem hdX0_append : (yX0_append.cls ≠ "java/lang/invoke/MethodHandle" ∧ yX0_append.cls ≠ "java/lang/invoke/VarHandle" ∧ (parseMethodDescriptor yX0_append.desc).map (fun d => d.parameters.length) = some 2) := by decide +kernel
def fX0_append_3  (k3 : Int64 → Int32 → Int32 → xm_M → Option xm_M) (b1 : Int64) (b3 : Int32) (b4 : Int32) (M : xm_M) : Option xm_M :=
  if b3 ≤ b4 then xm_lt (xm_s M 69 1 ((M.1 69 1) + b3)) (fun M2 => some M2) else xm_bv (fX3_keep 70 100 ((M.1 69 1) + b4) ((((b1.toUInt64 >>> ((((8 : Int32)) * ((b3 - ((1 : Int32))) - b4)).toInt64.toUInt64 &&& Int64.toUInt64 63)).toInt64) &&& ((255 : Int64))).toInt32) M) (fun M3 => xm_lt (b4 + Int32.ofInt 1) (fun x4 => k3 b1 b3 x4 M3))
set_option maxRecDepth 20000 in
theorem tfX0_append_3 {p : Program} {l : Launch} {e : Env} {s : State} {m : MethodId} {args : Array Value} {below : List Frame} {meth : Method} {c : Code} {D : va_G} {g : xm_G} {A : Nat → Prop} (hX : xm_X p m meth c cX0_append 5 s args wX0_append RX0 none D cL g A)   (k3 : Int64 → Int32 → Int32 → xm_M → Option xm_M) (h3 : ∀ (b1 : Int64), ∀ (b3 : Int32), ∀ (b4 : Int32), ∀ (M : xm_M), xm_J p l e ({ frames := 1, cells := 0, slots := 0, locals := 22 }) s m args below meth c 5 D cL g A (xm_Fv g) 3 [(0, .ref (g.1 69)), (1, .long b1), (3, .int b3), (4, .int b4)] [] M (k3 b1 b3 b4 M)) : ∀ (b1 : Int64), ∀ (b3 : Int32), ∀ (b4 : Int32), ∀ (M : xm_M), xm_J p l e ({ frames := 1, cells := 0, slots := 0, locals := 22 }) s m args below meth c 5 D cL g A (xm_Fv g) 3 [(0, .ref (g.1 69)), (1, .long b1), (3, .int b3), (4, .int b4)] [] M (fX0_append_3 k3 b1 b3 b4 M) := by
  intro b1 b3 b4 M
  unfold fX0_append_3
  refine xm_iload hX 3 dX0_append_3 rfl ?_
  refine xm_iload_n hX 2 dX0_append_5 rfl rfl ?_
  refine xm_icmp_ge hX (tgt := 45) dX0_append_6 rfl ?_ ?_
  · refine xm_aload_n hX 0 dX0_append_45 rfl rfl ?_
    refine xm_dup hX rfl dX0_append_46 ?_
    refine xm_get hX (k := 69) (ci := 0) (j := 1) (C := RX0) (T := TX0) (N := 5) (v := .int (M.1 69 1)) cL_69 rfl rfl rfl (by decide) (fun z hz => List.mem_cons_of_mem _ (iw_X0 z hz)) (List.mem_cons_of_mem _ gm_113) dX0_append_47 ?_
    refine xm_iload_n hX 2 dX0_append_50 rfl rfl ?_
    refine xm_iadd hX dX0_append_51 ?_
    refine xm_puti hX (k := 69) (ci := 0) (j := 1) (C := RX0) (T := TX0) (N := 5) (t0 := tyX0) cL_69 rfl rfl (by decide) (fun z hz => List.mem_cons_of_mem _ (iw_X0 z hz)) tyX0_ok nmX0 rfl rfl (List.mem_cons_of_mem _ gm_113) dX0_append_52 (fun M2 => ?_)
    exact xm_vret hX dX0_append_55
  · refine xm_aload_n hX 0 dX0_append_9 rfl rfl ?_
    refine xm_get hX (k := 69) (ci := 0) (j := 0) (C := RX0) (T := TX0) (N := 5) (v := .ref (g.1 70)) cL_69 rfl rfl rfl (by decide) (fun z hz => List.mem_cons_of_mem _ (iw_X0 z hz)) (List.mem_cons_of_mem _ gm_112) dX0_append_10 ?_
    refine xm_aload_n hX 0 dX0_append_13 rfl rfl ?_
    refine xm_get hX (k := 69) (ci := 0) (j := 1) (C := RX0) (T := TX0) (N := 5) (v := .int (M.1 69 1)) cL_69 rfl rfl rfl (by decide) (fun z hz => List.mem_cons_of_mem _ (iw_X0 z hz)) (List.mem_cons_of_mem _ gm_113) dX0_append_14 ?_
    refine xm_iload hX 3 dX0_append_17 rfl ?_
    refine xm_iadd hX dX0_append_19 ?_
    refine xm_lload_n hX 1 dX0_append_20 rfl rfl ?_
    refine xm_bipush hX (v := 8) rfl dX0_append_21 ?_
    refine xm_iload_n hX 2 dX0_append_23 rfl rfl ?_
    refine xm_iconst hX (v := 1) rfl dX0_append_24 ?_
    refine xm_isub hX dX0_append_25 ?_
    refine xm_iload hX 3 dX0_append_26 rfl ?_
    refine xm_isub hX dX0_append_28 ?_
    refine xm_imul hX dX0_append_29 ?_
    refine xm_lushr hX dX0_append_30 ?_
    refine xm_ldc2 hX (v := 255) (List.mem_cons_of_mem _ gm_365) dX0_append_31 ?_
    refine xm_land hX dX0_append_34 ?_
    refine xm_l2i hX dX0_append_35 ?_
    refine xm_callv hX (xm_runSN hX (As := (fun g => [.ref (g.1 70), .int ((M.1 69 1) + b4), .int ((((b1.toUInt64 >>> ((((8 : Int32)) * ((b3 - ((1 : Int32))) - b4)).toInt64.toUInt64 &&& Int64.toUInt64 63)).toInt64) &&& ((255 : Int64))).toInt32)])) (kX3_keep 70 100 cL_70 ((M.1 69 1) + b4) ((((b1.toUInt64 >>> ((((8 : Int32)) * ((b3 - ((1 : Int32))) - b4)).toInt64.toUInt64 &&& Int64.toUInt64 63)).toInt64) &&& ((255 : Int64))).toInt32) M) (xm_gN gm_158) rfl ⟨rfl, rfl⟩ nw_12 (List.mem_cons_of_mem _ gm_1) (List.mem_cons_of_mem _ gm_157) hdX3_keep ⟨Nat.le_of_ble_eq_true rfl, Nat.le_of_ble_eq_true rfl⟩ rfl (Nat.le_of_ble_eq_true rfl) rfl dX0_append_36) (fun M3 => ?_)
    refine xm_iinc hX (lv2 := fun x4 => [(4, .int x4), (0, .ref (g.1 69)), (1, .long b1), (3, .int b3)]) 3 dX0_append_39 rfl (by decide) (fun _ => rfl) (fun x4 => ?_)
    refine xm_goto hX (tgt := 3) dX0_append_42 rfl ?_
    refine xm_weak [1, 2, 3, 0] (lv' := [(0, .ref (g.1 69)), (1, .long b1), (3, .int b3), (4, .int x4)]) rfl ?_
    exact h3 b1 b3 x4 M3
def fX0_append_3_it   (nq : Nat) : Int64 → Int32 → Int32 → xm_M → Option xm_M := xm_it (fun kq => fX0_append_3 kq) (fun _ _ _ _ => none) nq
theorem tfX0_append_3_it {p : Program} {l : Launch} {e : Env} {s : State} {m : MethodId} {args : Array Value} {below : List Frame} {meth : Method} {c : Code} {D : va_G} {g : xm_G} {A : Nat → Prop} (hX : xm_X p m meth c cX0_append 5 s args wX0_append RX0 none D cL g A)     : ∀ (nq : Nat), ∀ (b1 : Int64), ∀ (b3 : Int32), ∀ (b4 : Int32), ∀ (M : xm_M), xm_J p l e ({ frames := 1, cells := 0, slots := 0, locals := 22 }) s m args below meth c 5 D cL g A (xm_Fv g) 3 [(0, .ref (g.1 69)), (1, .long b1), (3, .int b3), (4, .int b4)] [] M (fX0_append_3_it  nq b1 b3 b4 M) := by
  intro nq
  induction nq with
  | zero => exact fun _ _ _ _ => xm_none
  | succ nq ih => exact tfX0_append_3 hX _ ih
def fX0_append  (a1 : Int64) (a3 : Int32) (M : xm_M) : Option xm_M :=
  xm_lt ((0 : Int32)) (fun x1 => fX0_append_3_it xm_N a1 a3 x1 M)
set_option maxRecDepth 20000 in
theorem kX0_append {l : Launch}   (a1 : Int64) (a3 : Int32) (M : xm_M) : xm_C l yX0_append wX0_append ({ frames := 1, cells := 0, slots := 0, locals := 22 }) cL (fun g => [.ref (g.1 69), .long a1, .int a3]) M xm_Fv (fX0_append  a1 a3 M) := by
  refine xm_C.of (by decide) rfl (fun g => Nat.le_of_ble_eq_true rfl) ?_
  intro p e s m args below meth c D g A hX
  refine xm_lv (lv' := [(0, .ref (g.1 69)), (1, .long a1), (3, .int a3)]) rfl ?_
  unfold fX0_append
  refine xm_iconst hX (v := 0) rfl dX0_append_0 ?_
  refine xm_nmi (fun x1 => ?_)
  refine xm_istore hX (lv' := [(4, .int x1), (0, .ref (g.1 69)), (1, .long a1), (3, .int a3)]) dX0_append_1 (by decide) rfl ?_
  refine xm_weak [1, 2, 3, 0] (lv' := [(0, .ref (g.1 69)), (1, .long a1), (3, .int a3), (4, .int x1)]) rfl ?_
  exact tfX0_append_3_it hX xm_N a1 a3 x1 M
-- ===== OdometryDesk.put(J)I ['0']
theorem dX3_put_0 : decode cX3_put 0 = .ok (.lload_n 1, 1) := by decide +kernel
theorem dX3_put_1 : decode cX3_put 1 = .ok (.invokestatic 173, 3) := by decide +kernel
theorem dX3_put_4 : decode cX3_put 4 = .ok (.istore_n 3, 1) := by decide +kernel
theorem dX3_put_5 : decode cX3_put 5 = .ok (.iload_n 3, 1) := by decide +kernel
theorem dX3_put_6 : decode cX3_put 6 = .ok (.ifCond .ne 6, 3) := by decide +kernel
theorem dX3_put_9 : decode cX3_put 9 = .ok (.bipush (-2), 2) := by decide +kernel
theorem dX3_put_11 : decode cX3_put 11 = .ok (.ireturn, 1) := by decide +kernel
theorem dX3_put_12 : decode cX3_put 12 = .ok (.aload_n 0, 1) := by decide +kernel
theorem dX3_put_13 : decode cX3_put 13 = .ok (.getfield 32, 3) := by decide +kernel
theorem dX3_put_16 : decode cX3_put 16 = .ok (.getfield 145, 3) := by decide +kernel
theorem dX3_put_19 : decode cX3_put 19 = .ok (.iload_n 3, 1) := by decide +kernel
theorem dX3_put_20 : decode cX3_put 20 = .ok (.iadd, 1) := by decide +kernel
theorem dX3_put_21 : decode cX3_put 21 = .ok (.bipush 100, 2) := by decide +kernel
theorem dX3_put_23 : decode cX3_put 23 = .ok (.if_icmp .le 6, 3) := by decide +kernel
theorem dX3_put_26 : decode cX3_put 26 = .ok (.bipush (-4), 2) := by decide +kernel
theorem dX3_put_28 : decode cX3_put 28 = .ok (.ireturn, 1) := by decide +kernel
theorem dX3_put_29 : decode cX3_put 29 = .ok (.aload_n 0, 1) := by decide +kernel
theorem dX3_put_30 : decode cX3_put 30 = .ok (.getfield 32, 3) := by decide +kernel
theorem dX3_put_33 : decode cX3_put 33 = .ok (.lload_n 1, 1) := by decide +kernel
theorem dX3_put_34 : decode cX3_put 34 = .ok (.iload_n 3, 1) := by decide +kernel
theorem dX3_put_35 : decode cX3_put 35 = .ok (.invokevirtual 177, 3) := by decide +kernel
theorem dX3_put_38 : decode cX3_put 38 = .ok (.aload_n 0, 1) := by decide +kernel
theorem dX3_put_39 : decode cX3_put 39 = .ok (.getfield 32, 3) := by decide +kernel
theorem dX3_put_42 : decode cX3_put 42 = .ok (.getfield 145, 3) := by decide +kernel
theorem dX3_put_45 : decode cX3_put 45 = .ok (.ireturn, 1) := by decide +kernel
abbrev wX3_put : List Cond := .code yX3_put cX3_put 4 (some .int) :: lw_gd
theorem hdX3_put : (yX3_put.cls ≠ "java/lang/invoke/MethodHandle" ∧ yX3_put.cls ≠ "java/lang/invoke/VarHandle" ∧ (parseMethodDescriptor yX3_put.desc).map (fun d => d.parameters.length) = some 1) := by decide +kernel
def fX3_put  (a1 : Int64) (M : xm_M) : Option (Int32 × xm_M) :=
  xm_bi (fX0_signsIn a1 M) (fun x2 M1 => if x2 = 0 then some ((-2 : Int32), M1) else if ((M1.1 69 1) + x2) ≤ ((100 : Int32)) then xm_bv (fX0_append a1 x2 M1) (fun M3 => some (M3.1 69 1, M3)) else some ((-4 : Int32), M1))
set_option maxRecDepth 20000 in
theorem kX3_put {l : Launch}   (a1 : Int64) (M : xm_M) : xm_C l yX3_put wX3_put ({ frames := 2, cells := 0, slots := 0, locals := 46 }) cL (fun g => [.ref (g.1 0), .long a1]) M xm_Fi (fX3_put  a1 M) := by
  refine xm_C.of (by decide) rfl (fun g => Nat.le_of_ble_eq_true rfl) ?_
  intro p e s m args below meth c D g A hX
  refine xm_lv (lv' := [(0, .ref (g.1 0)), (1, .long a1)]) rfl ?_
  unfold fX3_put
  refine xm_lload_n hX 1 dX3_put_0 rfl rfl ?_
  refine xm_calli hX (xm_runS hX (As := (fun g => [.long a1])) (kX0_signsIn a1 M) (xm_gS gm_362 gm_363 gm_4 gm_364) rfl ⟨rfl, rfl⟩ hdX0_signsIn ⟨Nat.le_of_ble_eq_true rfl, Nat.le_of_ble_eq_true rfl⟩ rfl (Nat.le_of_ble_eq_true rfl) rfl dX3_put_1) (fun x2 M1 => ?_)
  refine xm_istore_n hX (lv' := [(3, .int x2), (0, .ref (g.1 0)), (1, .long a1)]) dX3_put_4 rfl (by decide) rfl ?_
  refine xm_iload_n hX 0 dX3_put_5 rfl rfl ?_
  refine xm_if_ne hX (tgt := 12) dX3_put_6 rfl ?_ ?_
  · refine xm_aload_n hX 1 dX3_put_12 rfl rfl ?_
    refine xm_get hX (k := 0) (ci := 3) (j := 4) (C := RX3) (T := TX3) (N := 6) (v := .ref (g.1 69)) cL_0 rfl rfl rfl (by decide) (fun z hz => List.mem_cons_of_mem _ (iw_X3 z hz)) (List.mem_cons_of_mem _ gm_133) dX3_put_13 ?_
    refine xm_get hX (k := 69) (ci := 0) (j := 1) (C := RX0) (T := TX0) (N := 5) (v := .int (M1.1 69 1)) cL_69 rfl rfl rfl (by decide) (fun z hz => List.mem_cons_of_mem _ (iw_X0 z hz)) (List.mem_cons_of_mem _ gm_114) dX3_put_16 ?_
    refine xm_iload_n hX 0 dX3_put_19 rfl rfl ?_
    refine xm_iadd hX dX3_put_20 ?_
    refine xm_bipush hX (v := 100) rfl dX3_put_21 ?_
    refine xm_icmp_le hX (tgt := 29) dX3_put_23 rfl ?_ ?_
    · refine xm_aload_n hX 1 dX3_put_29 rfl rfl ?_
      refine xm_get hX (k := 0) (ci := 3) (j := 4) (C := RX3) (T := TX3) (N := 6) (v := .ref (g.1 69)) cL_0 rfl rfl rfl (by decide) (fun z hz => List.mem_cons_of_mem _ (iw_X3 z hz)) (List.mem_cons_of_mem _ gm_133) dX3_put_30 ?_
      refine xm_lload_n hX 2 dX3_put_33 rfl rfl ?_
      refine xm_iload_n hX 0 dX3_put_34 rfl rfl ?_
      refine xm_callv hX (xm_runV hX (k := 69) (ci := 0) (As := (fun g => [.long a1, .int x2])) (kX0_append a1 x2 M1) cL_69 rfl (xm_gV gm_366 gm_367 gm_368 gm_4 gm_369) rfl ⟨rfl, rfl⟩ ⟨rfl, hdX0_append⟩ ⟨Nat.le_of_ble_eq_true rfl, Nat.le_of_ble_eq_true rfl⟩ rfl (Nat.le_of_ble_eq_true rfl) rfl dX3_put_35) (fun M3 => ?_)
      refine xm_aload_n hX 1 dX3_put_38 rfl rfl ?_
      refine xm_get hX (k := 0) (ci := 3) (j := 4) (C := RX3) (T := TX3) (N := 6) (v := .ref (g.1 69)) cL_0 rfl rfl rfl (by decide) (fun z hz => List.mem_cons_of_mem _ (iw_X3 z hz)) (List.mem_cons_of_mem _ gm_133) dX3_put_39 ?_
      refine xm_get hX (k := 69) (ci := 0) (j := 1) (C := RX0) (T := TX0) (N := 5) (v := .int (M3.1 69 1)) cL_69 rfl rfl rfl (by decide) (fun z hz => List.mem_cons_of_mem _ (iw_X0 z hz)) (List.mem_cons_of_mem _ gm_114) dX3_put_42 ?_
      exact xm_iret hX dX3_put_45
    · refine xm_bipush hX (v := -4) rfl dX3_put_26 ?_
      exact xm_iret hX dX3_put_28
  · refine xm_bipush hX (v := -2) rfl dX3_put_9 ?_
    exact xm_iret hX dX3_put_11
-- ===== OdometryDesk.slotOf(I)LOdometryDesk$State; ['0']
theorem dX3_slotOf_0 : decode cX3_slotOf 0 = .ok (.iload_n 1, 1) := by decide +kernel
theorem dX3_slotOf_1 : decode cX3_slotOf 1 = .ok (.ifCond .ne 10, 3) := by decide +kernel
theorem dX3_slotOf_4 : decode cX3_slotOf 4 = .ok (.aload_n 0, 1) := by decide +kernel
theorem dX3_slotOf_5 : decode cX3_slotOf 5 = .ok (.getfield 16, 3) := by decide +kernel
theorem dX3_slotOf_8 : decode cX3_slotOf 8 = .ok (.goto 7, 3) := by decide +kernel
theorem dX3_slotOf_11 : decode cX3_slotOf 11 = .ok (.aload_n 0, 1) := by decide +kernel
theorem dX3_slotOf_12 : decode cX3_slotOf 12 = .ok (.getfield 19, 3) := by decide +kernel
theorem dX3_slotOf_15 : decode cX3_slotOf 15 = .ok (.areturn, 1) := by decide +kernel
abbrev wX3_slotOf : List Cond := .code yX3_slotOf cX3_slotOf 2 (some (.object "OdometryDesk$State")) :: lw_gd
theorem hdX3_slotOf : (yX3_slotOf.cls ≠ "java/lang/invoke/MethodHandle" ∧ yX3_slotOf.cls ≠ "java/lang/invoke/VarHandle" ∧ (parseMethodDescriptor yX3_slotOf.desc).map (fun d => d.parameters.length) = some 1) := by decide +kernel
def fX3_slotOf  (a1 : Int32) (M : xm_M) : Option (Nat × xm_M) :=
  if a1 = 0 then some (17, M) else some (33, M)
set_option maxRecDepth 20000 in
theorem kX3_slotOf {l : Launch}   (a1 : Int32) (M : xm_M) : xm_C l yX3_slotOf wX3_slotOf ({ frames := 0, cells := 0, slots := 0, locals := 0 }) cL (fun g => [.ref (g.1 0), .int a1]) M xm_Fr (fX3_slotOf  a1 M) := by
  refine xm_C.of (by decide) rfl (fun g => Nat.le_of_ble_eq_true rfl) ?_
  intro p e s m args below meth c D g A hX
  refine xm_lv (lv' := [(0, .ref (g.1 0)), (1, .int a1)]) rfl ?_
  unfold fX3_slotOf
  refine xm_iload_n hX 1 dX3_slotOf_0 rfl rfl ?_
  refine xm_if_ne hX (tgt := 11) dX3_slotOf_1 rfl ?_ ?_
  · refine xm_aload_n hX 0 dX3_slotOf_11 rfl rfl ?_
    refine xm_get hX (k := 0) (ci := 3) (j := 2) (C := RX3) (T := TX3) (N := 6) (v := .ref (g.1 33)) cL_0 rfl rfl rfl (by decide) (fun z hz => List.mem_cons_of_mem _ (iw_X3 z hz)) (List.mem_cons_of_mem _ gm_131) dX3_slotOf_12 ?_
    exact xm_aret hX dX3_slotOf_15
  · refine xm_aload_n hX 0 dX3_slotOf_4 rfl rfl ?_
    refine xm_get hX (k := 0) (ci := 3) (j := 1) (C := RX3) (T := TX3) (N := 6) (v := .ref (g.1 17)) cL_0 rfl rfl rfl (by decide) (fun z hz => List.mem_cons_of_mem _ (iw_X3 z hz)) (List.mem_cons_of_mem _ gm_130) dX3_slotOf_5 ?_
    refine xm_goto hX (tgt := 15) dX3_slotOf_8 rfl ?_
    exact xm_aret hX dX3_slotOf_15
-- ===== OdometryDesk.copy([[I[[I)V ['19', '3']
theorem dX3_copy__0 : decode cX3_copy_ 0 = .ok (.iconst 0, 1) := by decide +kernel
theorem dX3_copy__1 : decode cX3_copy_ 1 = .ok (.istore_n 2, 1) := by decide +kernel
theorem dX3_copy__2 : decode cX3_copy_ 2 = .ok (.iload_n 2, 1) := by decide +kernel
theorem dX3_copy__3 : decode cX3_copy_ 3 = .ok (.aload_n 0, 1) := by decide +kernel
theorem dX3_copy__4 : decode cX3_copy_ 4 = .ok (.arraylength, 1) := by decide +kernel
theorem dX3_copy__5 : decode cX3_copy_ 5 = .ok (.if_icmp .ge 24, 3) := by decide +kernel
theorem dX3_copy__8 : decode cX3_copy_ 8 = .ok (.iload_n 2, 1) := by decide +kernel
theorem dX3_copy__9 : decode cX3_copy_ 9 = .ok (.aload_n 1, 1) := by decide +kernel
theorem dX3_copy__10 : decode cX3_copy_ 10 = .ok (.arraylength, 1) := by decide +kernel
theorem dX3_copy__11 : decode cX3_copy_ 11 = .ok (.if_icmp .ge 18, 3) := by decide +kernel
theorem dX3_copy__14 : decode cX3_copy_ 14 = .ok (.aload_n 0, 1) := by decide +kernel
theorem dX3_copy__15 : decode cX3_copy_ 15 = .ok (.iload_n 2, 1) := by decide +kernel
theorem dX3_copy__16 : decode cX3_copy_ 16 = .ok (.aaload, 1) := by decide +kernel
theorem dX3_copy__17 : decode cX3_copy_ 17 = .ok (.aload_n 1, 1) := by decide +kernel
theorem dX3_copy__18 : decode cX3_copy_ 18 = .ok (.iload_n 2, 1) := by decide +kernel
theorem dX3_copy__19 : decode cX3_copy_ 19 = .ok (.aaload, 1) := by decide +kernel
theorem dX3_copy__20 : decode cX3_copy_ 20 = .ok (.invokestatic 215, 3) := by decide +kernel
theorem dX3_copy__23 : decode cX3_copy_ 23 = .ok (.iinc 2 1, 3) := by decide +kernel
theorem dX3_copy__26 : decode cX3_copy_ 26 = .ok (.goto (-24), 3) := by decide +kernel
theorem dX3_copy__29 : decode cX3_copy_ 29 = .ok (.return_, 1) := by decide +kernel
abbrev wX3_copy_ : List Cond := .code yX3_copy_ cX3_copy_ 3 none :: lw_gd
theorem hdX3_copy_ : (yX3_copy_.cls ≠ "java/lang/invoke/MethodHandle" ∧ yX3_copy_.cls ≠ "java/lang/invoke/VarHandle" ∧ (parseMethodDescriptor yX3_copy_.desc).map (fun d => d.parameters.length) = some 2) := by decide +kernel
def fX3_copy__2 (k : Nat) (N : Nat) (k0 : Nat) (n : Nat) (j : Nat) (Nj : Nat) (j0 : Nat) (nj : Nat) (k2 : Int32 → xm_M → Option xm_M) (b2 : Int32) (M : xm_M) : Option xm_M :=
  if ((Int32.ofNat N)) ≤ b2 then some M else if ((Int32.ofNat Nj)) ≤ b2 then some M else if b2 < 0 ∨ N ≤ b2.toNatClampNeg then none else if b2 < 0 ∨ Nj ≤ b2.toNatClampNeg then none else xm_bv (fX3_copy (k0 + b2.toNatClampNeg) n (j0 + b2.toNatClampNeg) nj M) (fun M4 => xm_lt (b2 + Int32.ofInt 1) (fun x5 => k2 x5 M4))
set_option maxRecDepth 20000 in
theorem tfX3_copy__2 {p : Program} {l : Launch} {e : Env} {s : State} {m : MethodId} {args : Array Value} {below : List Frame} {meth : Method} {c : Code} {D : va_G} {g : xm_G} {A : Nat → Prop} (hX : xm_X p m meth c cX3_copy_ 3 s args wX3_copy_ RX3 none D cL g A) (k : Nat) (N : Nat) (k0 : Nat) (n : Nat) (j : Nat) (Nj : Nat) (j0 : Nat) (nj : Nat) (hk : cL[k]? = some (.inr (.inl (N, k0)))) (rk : ∀ i, i < N → cL[k0 + i]? = some (.inl (0, .int, n))) (hj : cL[j]? = some (.inr (.inl (Nj, j0)))) (rj : ∀ i, i < Nj → cL[j0 + i]? = some (.inl (0, .int, nj))) (k2 : Int32 → xm_M → Option xm_M) (h2 : ∀ (b2 : Int32), ∀ (M : xm_M), xm_J p l e ({ frames := 2, cells := 0, slots := 0, locals := 39 }) s m args below meth c 3 D cL g A (xm_Fv g) 2 [(0, .ref (g.1 k)), (1, .ref (g.1 j)), (2, .int b2)] [] M (k2 b2 M)) : ∀ (b2 : Int32), ∀ (M : xm_M), xm_J p l e ({ frames := 2, cells := 0, slots := 0, locals := 39 }) s m args below meth c 3 D cL g A (xm_Fv g) 2 [(0, .ref (g.1 k)), (1, .ref (g.1 j)), (2, .int b2)] [] M (fX3_copy__2 k N k0 n j Nj j0 nj k2 b2 M) := by
  intro b2 M
  unfold fX3_copy__2
  refine xm_iload_n hX 2 dX3_copy__2 rfl rfl ?_
  refine xm_aload_n hX 0 dX3_copy__3 rfl rfl ?_
  refine xm_alenR hX (v := (Int32.ofNat N)) hk rfl dX3_copy__4 ?_
  refine xm_icmp_ge hX (tgt := 29) dX3_copy__5 rfl ?_ ?_
  · exact xm_vret hX dX3_copy__29
  · refine xm_iload_n hX 2 dX3_copy__8 rfl rfl ?_
    refine xm_aload_n hX 1 dX3_copy__9 rfl rfl ?_
    refine xm_alenR hX (v := (Int32.ofNat Nj)) hj rfl dX3_copy__10 ?_
    refine xm_icmp_ge hX (tgt := 29) dX3_copy__11 rfl ?_ ?_
    · exact xm_vret hX dX3_copy__29
    · refine xm_aload_n hX 0 dX3_copy__14 rfl rfl ?_
      refine xm_iload_n hX 2 dX3_copy__15 rfl rfl ?_
      refine xm_aald hX (N := N) (k0 := k0) hk dX3_copy__16 (fun q2 => ?_)
      refine xm_aload_n hX 1 dX3_copy__17 rfl rfl ?_
      refine xm_iload_n hX 2 dX3_copy__18 rfl rfl ?_
      refine xm_aald hX (N := Nj) (k0 := j0) hj dX3_copy__19 (fun q3 => ?_)
      refine xm_callv hX (xm_runS hX (As := (fun g => [.ref (g.1 (k0 + b2.toNatClampNeg)), .ref (g.1 (j0 + b2.toNatClampNeg))])) (kX3_copy (k0 + b2.toNatClampNeg) n (j0 + b2.toNatClampNeg) nj (rk _ q2) (rj _ q3) M) (xm_gS gm_339 gm_340 gm_1 gm_341) rfl ⟨rfl, rfl⟩ hdX3_copy ⟨Nat.le_of_ble_eq_true rfl, Nat.le_of_ble_eq_true rfl⟩ rfl (Nat.le_of_ble_eq_true rfl) rfl dX3_copy__20) (fun M4 => ?_)
      refine xm_iinc hX (lv2 := fun x5 => [(2, .int x5), (0, .ref (g.1 k)), (1, .ref (g.1 j))]) 2 dX3_copy__23 rfl (by decide) (fun _ => rfl) (fun x5 => ?_)
      refine xm_goto hX (tgt := 2) dX3_copy__26 rfl ?_
      refine xm_weak [1, 2, 0] (lv' := [(0, .ref (g.1 k)), (1, .ref (g.1 j)), (2, .int x5)]) rfl ?_
      exact h2 x5 M4
def fX3_copy__2_it (k : Nat) (N : Nat) (k0 : Nat) (n : Nat) (j : Nat) (Nj : Nat) (j0 : Nat) (nj : Nat)  (nq : Nat) : Int32 → xm_M → Option xm_M := xm_it (fun kq => fX3_copy__2 k N k0 n j Nj j0 nj kq) (fun _ _ => none) nq
theorem tfX3_copy__2_it {p : Program} {l : Launch} {e : Env} {s : State} {m : MethodId} {args : Array Value} {below : List Frame} {meth : Method} {c : Code} {D : va_G} {g : xm_G} {A : Nat → Prop} (hX : xm_X p m meth c cX3_copy_ 3 s args wX3_copy_ RX3 none D cL g A) (k : Nat) (N : Nat) (k0 : Nat) (n : Nat) (j : Nat) (Nj : Nat) (j0 : Nat) (nj : Nat) (hk : cL[k]? = some (.inr (.inl (N, k0)))) (rk : ∀ i, i < N → cL[k0 + i]? = some (.inl (0, .int, n))) (hj : cL[j]? = some (.inr (.inl (Nj, j0)))) (rj : ∀ i, i < Nj → cL[j0 + i]? = some (.inl (0, .int, nj)))   : ∀ (nq : Nat), ∀ (b2 : Int32), ∀ (M : xm_M), xm_J p l e ({ frames := 2, cells := 0, slots := 0, locals := 39 }) s m args below meth c 3 D cL g A (xm_Fv g) 2 [(0, .ref (g.1 k)), (1, .ref (g.1 j)), (2, .int b2)] [] M (fX3_copy__2_it k N k0 n j Nj j0 nj nq b2 M) := by
  intro nq
  induction nq with
  | zero => exact fun _ _ => xm_none
  | succ nq ih => exact tfX3_copy__2 hX k N k0 n j Nj j0 nj hk rk hj rj _ ih
def fX3_copy_ (k : Nat) (N : Nat) (k0 : Nat) (n : Nat) (j : Nat) (Nj : Nat) (j0 : Nat) (nj : Nat)  (M : xm_M) : Option xm_M :=
  xm_lt ((0 : Int32)) (fun x1 => fX3_copy__2_it k N k0 n j Nj j0 nj xm_N x1 M)
set_option maxRecDepth 20000 in
theorem kX3_copy_ {l : Launch} (k : Nat) (N : Nat) (k0 : Nat) (n : Nat) (j : Nat) (Nj : Nat) (j0 : Nat) (nj : Nat) (hk : cL[k]? = some (.inr (.inl (N, k0)))) (rk : ∀ i, i < N → cL[k0 + i]? = some (.inl (0, .int, n))) (hj : cL[j]? = some (.inr (.inl (Nj, j0)))) (rj : ∀ i, i < Nj → cL[j0 + i]? = some (.inl (0, .int, nj)))  (M : xm_M) : xm_C l yX3_copy_ wX3_copy_ ({ frames := 2, cells := 0, slots := 0, locals := 39 }) cL (fun g => [.ref (g.1 k), .ref (g.1 j)]) M xm_Fv (fX3_copy_ k N k0 n j Nj j0 nj  M) := by
  refine xm_C.of (by decide) rfl (fun g => Nat.le_of_ble_eq_true rfl) ?_
  intro p e s m args below meth c D g A hX
  refine xm_lv (lv' := [(0, .ref (g.1 k)), (1, .ref (g.1 j))]) rfl ?_
  unfold fX3_copy_
  refine xm_iconst hX (v := 0) rfl dX3_copy__0 ?_
  refine xm_nmi (fun x1 => ?_)
  refine xm_istore_n hX (lv' := [(2, .int x1), (0, .ref (g.1 k)), (1, .ref (g.1 j))]) dX3_copy__1 rfl (by decide) rfl ?_
  refine xm_weak [1, 2, 0] (lv' := [(0, .ref (g.1 k)), (1, .ref (g.1 j)), (2, .int x1)]) rfl ?_
  exact tfX3_copy__2_it hX k N k0 n j Nj j0 nj hk rk hj rj xm_N x1 M
-- ===== OdometryDesk$State.takeOver(LOdometryDesk$State;)V ['1', '17']
theorem dX1_takeOver_0 : decode cX1_takeOver 0 = .ok (.aload_n 1, 1) := by decide +kernel
theorem dX1_takeOver_1 : decode cX1_takeOver 1 = .ok (.getfield 18, 3) := by decide +kernel
theorem dX1_takeOver_4 : decode cX1_takeOver 4 = .ok (.aload_n 0, 1) := by decide +kernel
theorem dX1_takeOver_5 : decode cX1_takeOver 5 = .ok (.getfield 18, 3) := by decide +kernel
theorem dX1_takeOver_8 : decode cX1_takeOver 8 = .ok (.invokestatic 34, 3) := by decide +kernel
theorem dX1_takeOver_11 : decode cX1_takeOver 11 = .ok (.aload_n 1, 1) := by decide +kernel
theorem dX1_takeOver_12 : decode cX1_takeOver 12 = .ok (.getfield 25, 3) := by decide +kernel
theorem dX1_takeOver_15 : decode cX1_takeOver 15 = .ok (.aload_n 0, 1) := by decide +kernel
theorem dX1_takeOver_16 : decode cX1_takeOver 16 = .ok (.getfield 25, 3) := by decide +kernel
theorem dX1_takeOver_19 : decode cX1_takeOver 19 = .ok (.invokestatic 38, 3) := by decide +kernel
theorem dX1_takeOver_22 : decode cX1_takeOver 22 = .ok (.aload_n 1, 1) := by decide +kernel
theorem dX1_takeOver_23 : decode cX1_takeOver 23 = .ok (.getfield 28, 3) := by decide +kernel
theorem dX1_takeOver_26 : decode cX1_takeOver 26 = .ok (.aload_n 0, 1) := by decide +kernel
theorem dX1_takeOver_27 : decode cX1_takeOver 27 = .ok (.getfield 28, 3) := by decide +kernel
theorem dX1_takeOver_30 : decode cX1_takeOver 30 = .ok (.invokestatic 38, 3) := by decide +kernel
theorem dX1_takeOver_33 : decode cX1_takeOver 33 = .ok (.aload_n 1, 1) := by decide +kernel
theorem dX1_takeOver_34 : decode cX1_takeOver 34 = .ok (.getfield 31, 3) := by decide +kernel
theorem dX1_takeOver_37 : decode cX1_takeOver 37 = .ok (.aload_n 0, 1) := by decide +kernel
theorem dX1_takeOver_38 : decode cX1_takeOver 38 = .ok (.getfield 31, 3) := by decide +kernel
theorem dX1_takeOver_41 : decode cX1_takeOver 41 = .ok (.invokestatic 38, 3) := by decide +kernel
theorem dX1_takeOver_44 : decode cX1_takeOver 44 = .ok (.aload_n 0, 1) := by decide +kernel
theorem dX1_takeOver_45 : decode cX1_takeOver 45 = .ok (.aload_n 1, 1) := by decide +kernel
theorem dX1_takeOver_46 : decode cX1_takeOver 46 = .ok (.getfield 41, 3) := by decide +kernel
theorem dX1_takeOver_49 : decode cX1_takeOver 49 = .ok (.putfield 41, 3) := by decide +kernel
theorem dX1_takeOver_52 : decode cX1_takeOver 52 = .ok (.aload_n 0, 1) := by decide +kernel
theorem dX1_takeOver_53 : decode cX1_takeOver 53 = .ok (.aload_n 1, 1) := by decide +kernel
theorem dX1_takeOver_54 : decode cX1_takeOver 54 = .ok (.getfield 45, 3) := by decide +kernel
theorem dX1_takeOver_57 : decode cX1_takeOver 57 = .ok (.putfield 45, 3) := by decide +kernel
theorem dX1_takeOver_60 : decode cX1_takeOver 60 = .ok (.aload_n 0, 1) := by decide +kernel
theorem dX1_takeOver_61 : decode cX1_takeOver 61 = .ok (.aload_n 1, 1) := by decide +kernel
theorem dX1_takeOver_62 : decode cX1_takeOver 62 = .ok (.getfield 48, 3) := by decide +kernel
theorem dX1_takeOver_65 : decode cX1_takeOver 65 = .ok (.putfield 48, 3) := by decide +kernel
theorem dX1_takeOver_68 : decode cX1_takeOver 68 = .ok (.aload_n 0, 1) := by decide +kernel
theorem dX1_takeOver_69 : decode cX1_takeOver 69 = .ok (.aload_n 1, 1) := by decide +kernel
theorem dX1_takeOver_70 : decode cX1_takeOver 70 = .ok (.getfield 51, 3) := by decide +kernel
theorem dX1_takeOver_73 : decode cX1_takeOver 73 = .ok (.putfield 51, 3) := by decide +kernel
theorem dX1_takeOver_76 : decode cX1_takeOver 76 = .ok (.aload_n 0, 1) := by decide +kernel
theorem dX1_takeOver_77 : decode cX1_takeOver 77 = .ok (.aload_n 1, 1) := by decide +kernel
theorem dX1_takeOver_78 : decode cX1_takeOver 78 = .ok (.getfield 54, 3) := by decide +kernel
theorem dX1_takeOver_81 : decode cX1_takeOver 81 = .ok (.putfield 54, 3) := by decide +kernel
theorem dX1_takeOver_84 : decode cX1_takeOver 84 = .ok (.aload_n 0, 1) := by decide +kernel
theorem dX1_takeOver_85 : decode cX1_takeOver 85 = .ok (.aload_n 1, 1) := by decide +kernel
theorem dX1_takeOver_86 : decode cX1_takeOver 86 = .ok (.getfield 57, 3) := by decide +kernel
theorem dX1_takeOver_89 : decode cX1_takeOver 89 = .ok (.putfield 57, 3) := by decide +kernel
theorem dX1_takeOver_92 : decode cX1_takeOver 92 = .ok (.return_, 1) := by decide +kernel
abbrev wX1_takeOver : List Cond := .code yX1_takeOver cX1_takeOver 2 none :: lw_gd
theorem hdX1_takeOver : (yX1_takeOver.cls ≠ "java/lang/invoke/MethodHandle" ∧ yX1_takeOver.cls ≠ "java/lang/invoke/VarHandle" ∧ (parseMethodDescriptor yX1_takeOver.desc).map (fun d => d.parameters.length) = some 1) := by decide +kernel
def fX1_takeOver_1_17   (M : xm_M) : Option xm_M :=
  xm_bv (fX3_copy 18 9 2 9 M) (fun M1 => xm_bv (fX3_copy_ 19 5 20 8 3 5 4 8 M1) (fun M2 => xm_bv (fX3_copy_ 25 2 26 6 9 2 10 6 M2) (fun M3 => xm_bv (fX3_copy_ 28 4 29 120 12 4 13 120 M3) (fun M4 => xm_lt (xm_s M4 1 4 (M4.1 17 4)) (fun M5 => xm_lt (xm_s M5 1 5 (M5.1 17 5)) (fun M6 => xm_lt (xm_s M6 1 6 (M6.1 17 6)) (fun M7 => xm_lt (xm_s M7 1 7 (M7.1 17 7)) (fun M8 => xm_lt (xm_s M8 1 8 (M8.1 17 8)) (fun M9 => xm_lt (xm_s M9 1 9 (M9.1 17 9)) (fun M10 => some M10))))))))))
set_option maxRecDepth 20000 in
theorem kX1_takeOver_1_17 {l : Launch}    (M : xm_M) : xm_C l yX1_takeOver wX1_takeOver ({ frames := 3, cells := 0, slots := 0, locals := 61 }) cL (fun g => [.ref (g.1 1), .ref (g.1 17)]) M xm_Fv (fX1_takeOver_1_17   M) := by
  refine xm_C.of (by decide) rfl (fun g => Nat.le_of_ble_eq_true rfl) ?_
  intro p e s m args below meth c D g A hX
  refine xm_lv (lv' := [(0, .ref (g.1 1)), (1, .ref (g.1 17))]) rfl ?_
  unfold fX1_takeOver_1_17
  refine xm_aload_n hX 1 dX1_takeOver_0 rfl rfl ?_
  refine xm_get hX (k := 17) (ci := 1) (j := 0) (C := RX1) (T := TX1) (N := 11) (v := .ref (g.1 18)) cL_17 rfl rfl rfl (by decide) (fun z hz => List.mem_cons_of_mem _ (iw_X1 z hz)) (List.mem_cons_of_mem _ gm_29) dX1_takeOver_1 ?_
  refine xm_aload_n hX 0 dX1_takeOver_4 rfl rfl ?_
  refine xm_get hX (k := 1) (ci := 1) (j := 0) (C := RX1) (T := TX1) (N := 11) (v := .ref (g.1 2)) cL_1 rfl rfl rfl (by decide) (fun z hz => List.mem_cons_of_mem _ (iw_X1 z hz)) (List.mem_cons_of_mem _ gm_29) dX1_takeOver_5 ?_
  refine xm_callv hX (xm_runSN hX (As := (fun g => [.ref (g.1 18), .ref (g.1 2)])) (kX3_copy 18 9 2 9 cL_18 cL_2 M) (xm_gN gm_341) rfl ⟨rfl, rfl⟩ nw_14 (List.mem_cons_of_mem _ gm_1) (List.mem_cons_of_mem _ gm_340) hdX3_copy ⟨Nat.le_of_ble_eq_true rfl, Nat.le_of_ble_eq_true rfl⟩ rfl (Nat.le_of_ble_eq_true rfl) rfl dX1_takeOver_8) (fun M1 => ?_)
  refine xm_aload_n hX 1 dX1_takeOver_11 rfl rfl ?_
  refine xm_get hX (k := 17) (ci := 1) (j := 1) (C := RX1) (T := TX1) (N := 11) (v := .ref (g.1 19)) cL_17 rfl rfl rfl (by decide) (fun z hz => List.mem_cons_of_mem _ (iw_X1 z hz)) (List.mem_cons_of_mem _ gm_31) dX1_takeOver_12 ?_
  refine xm_aload_n hX 0 dX1_takeOver_15 rfl rfl ?_
  refine xm_get hX (k := 1) (ci := 1) (j := 1) (C := RX1) (T := TX1) (N := 11) (v := .ref (g.1 3)) cL_1 rfl rfl rfl (by decide) (fun z hz => List.mem_cons_of_mem _ (iw_X1 z hz)) (List.mem_cons_of_mem _ gm_31) dX1_takeOver_16 ?_
  refine xm_callv hX (xm_runSN hX (As := (fun g => [.ref (g.1 19), .ref (g.1 3)])) (kX3_copy_ 19 5 20 8 3 5 4 8 cL_19 cL_rows_19 cL_3 cL_rows_3 M1) (xm_gN gm_421) rfl ⟨rfl, rfl⟩ nw_15 (List.mem_cons_of_mem _ gm_1) (List.mem_cons_of_mem _ gm_420) hdX3_copy_ ⟨Nat.le_of_ble_eq_true rfl, Nat.le_of_ble_eq_true rfl⟩ rfl (Nat.le_of_ble_eq_true rfl) rfl dX1_takeOver_19) (fun M2 => ?_)
  refine xm_aload_n hX 1 dX1_takeOver_22 rfl rfl ?_
  refine xm_get hX (k := 17) (ci := 1) (j := 2) (C := RX1) (T := TX1) (N := 11) (v := .ref (g.1 25)) cL_17 rfl rfl rfl (by decide) (fun z hz => List.mem_cons_of_mem _ (iw_X1 z hz)) (List.mem_cons_of_mem _ gm_34) dX1_takeOver_23 ?_
  refine xm_aload_n hX 0 dX1_takeOver_26 rfl rfl ?_
  refine xm_get hX (k := 1) (ci := 1) (j := 2) (C := RX1) (T := TX1) (N := 11) (v := .ref (g.1 9)) cL_1 rfl rfl rfl (by decide) (fun z hz => List.mem_cons_of_mem _ (iw_X1 z hz)) (List.mem_cons_of_mem _ gm_34) dX1_takeOver_27 ?_
  refine xm_callv hX (xm_runSN hX (As := (fun g => [.ref (g.1 25), .ref (g.1 9)])) (kX3_copy_ 25 2 26 6 9 2 10 6 cL_25 cL_rows_25 cL_9 cL_rows_9 M2) (xm_gN gm_421) rfl ⟨rfl, rfl⟩ nw_15 (List.mem_cons_of_mem _ gm_1) (List.mem_cons_of_mem _ gm_420) hdX3_copy_ ⟨Nat.le_of_ble_eq_true rfl, Nat.le_of_ble_eq_true rfl⟩ rfl (Nat.le_of_ble_eq_true rfl) rfl dX1_takeOver_30) (fun M3 => ?_)
  refine xm_aload_n hX 1 dX1_takeOver_33 rfl rfl ?_
  refine xm_get hX (k := 17) (ci := 1) (j := 3) (C := RX1) (T := TX1) (N := 11) (v := .ref (g.1 28)) cL_17 rfl rfl rfl (by decide) (fun z hz => List.mem_cons_of_mem _ (iw_X1 z hz)) (List.mem_cons_of_mem _ gm_37) dX1_takeOver_34 ?_
  refine xm_aload_n hX 0 dX1_takeOver_37 rfl rfl ?_
  refine xm_get hX (k := 1) (ci := 1) (j := 3) (C := RX1) (T := TX1) (N := 11) (v := .ref (g.1 12)) cL_1 rfl rfl rfl (by decide) (fun z hz => List.mem_cons_of_mem _ (iw_X1 z hz)) (List.mem_cons_of_mem _ gm_37) dX1_takeOver_38 ?_
  refine xm_callv hX (xm_runSN hX (As := (fun g => [.ref (g.1 28), .ref (g.1 12)])) (kX3_copy_ 28 4 29 120 12 4 13 120 cL_28 cL_rows_28 cL_12 cL_rows_12 M3) (xm_gN gm_421) rfl ⟨rfl, rfl⟩ nw_15 (List.mem_cons_of_mem _ gm_1) (List.mem_cons_of_mem _ gm_420) hdX3_copy_ ⟨Nat.le_of_ble_eq_true rfl, Nat.le_of_ble_eq_true rfl⟩ rfl (Nat.le_of_ble_eq_true rfl) rfl dX1_takeOver_41) (fun M4 => ?_)
  refine xm_aload_n hX 0 dX1_takeOver_44 rfl rfl ?_
  refine xm_aload_n hX 1 dX1_takeOver_45 rfl rfl ?_
  refine xm_get hX (k := 17) (ci := 1) (j := 4) (C := RX1) (T := TX1) (N := 11) (v := .int (M4.1 17 4)) cL_17 rfl rfl rfl (by decide) (fun z hz => List.mem_cons_of_mem _ (iw_X1 z hz)) (List.mem_cons_of_mem _ gm_39) dX1_takeOver_46 ?_
  refine xm_puti hX (k := 1) (ci := 1) (j := 4) (C := RX1) (T := TX1) (N := 11) (t0 := tyX1) cL_1 rfl rfl (by decide) (fun z hz => List.mem_cons_of_mem _ (iw_X1 z hz)) tyX1_ok nmX1 rfl rfl (List.mem_cons_of_mem _ gm_39) dX1_takeOver_49 (fun M5 => ?_)
  refine xm_aload_n hX 0 dX1_takeOver_52 rfl rfl ?_
  refine xm_aload_n hX 1 dX1_takeOver_53 rfl rfl ?_
  refine xm_get hX (k := 17) (ci := 1) (j := 5) (C := RX1) (T := TX1) (N := 11) (v := .int (M5.1 17 5)) cL_17 rfl rfl rfl (by decide) (fun z hz => List.mem_cons_of_mem _ (iw_X1 z hz)) (List.mem_cons_of_mem _ gm_42) dX1_takeOver_54 ?_
  refine xm_puti hX (k := 1) (ci := 1) (j := 5) (C := RX1) (T := TX1) (N := 11) (t0 := tyX1) cL_1 rfl rfl (by decide) (fun z hz => List.mem_cons_of_mem _ (iw_X1 z hz)) tyX1_ok nmX1 rfl rfl (List.mem_cons_of_mem _ gm_42) dX1_takeOver_57 (fun M6 => ?_)
  refine xm_aload_n hX 0 dX1_takeOver_60 rfl rfl ?_
  refine xm_aload_n hX 1 dX1_takeOver_61 rfl rfl ?_
  refine xm_get hX (k := 17) (ci := 1) (j := 6) (C := RX1) (T := TX1) (N := 11) (v := .int (M6.1 17 6)) cL_17 rfl rfl rfl (by decide) (fun z hz => List.mem_cons_of_mem _ (iw_X1 z hz)) (List.mem_cons_of_mem _ gm_44) dX1_takeOver_62 ?_
  refine xm_puti hX (k := 1) (ci := 1) (j := 6) (C := RX1) (T := TX1) (N := 11) (t0 := tyX1) cL_1 rfl rfl (by decide) (fun z hz => List.mem_cons_of_mem _ (iw_X1 z hz)) tyX1_ok nmX1 rfl rfl (List.mem_cons_of_mem _ gm_44) dX1_takeOver_65 (fun M7 => ?_)
  refine xm_aload_n hX 0 dX1_takeOver_68 rfl rfl ?_
  refine xm_aload_n hX 1 dX1_takeOver_69 rfl rfl ?_
  refine xm_get hX (k := 17) (ci := 1) (j := 7) (C := RX1) (T := TX1) (N := 11) (v := .int (M7.1 17 7)) cL_17 rfl rfl rfl (by decide) (fun z hz => List.mem_cons_of_mem _ (iw_X1 z hz)) (List.mem_cons_of_mem _ gm_48) dX1_takeOver_70 ?_
  refine xm_puti hX (k := 1) (ci := 1) (j := 7) (C := RX1) (T := TX1) (N := 11) (t0 := tyX1) cL_1 rfl rfl (by decide) (fun z hz => List.mem_cons_of_mem _ (iw_X1 z hz)) tyX1_ok nmX1 rfl rfl (List.mem_cons_of_mem _ gm_48) dX1_takeOver_73 (fun M8 => ?_)
  refine xm_aload_n hX 0 dX1_takeOver_76 rfl rfl ?_
  refine xm_aload_n hX 1 dX1_takeOver_77 rfl rfl ?_
  refine xm_get hX (k := 17) (ci := 1) (j := 8) (C := RX1) (T := TX1) (N := 11) (v := .int (M8.1 17 8)) cL_17 rfl rfl rfl (by decide) (fun z hz => List.mem_cons_of_mem _ (iw_X1 z hz)) (List.mem_cons_of_mem _ gm_51) dX1_takeOver_78 ?_
  refine xm_puti hX (k := 1) (ci := 1) (j := 8) (C := RX1) (T := TX1) (N := 11) (t0 := tyX1) cL_1 rfl rfl (by decide) (fun z hz => List.mem_cons_of_mem _ (iw_X1 z hz)) tyX1_ok nmX1 rfl rfl (List.mem_cons_of_mem _ gm_51) dX1_takeOver_81 (fun M9 => ?_)
  refine xm_aload_n hX 0 dX1_takeOver_84 rfl rfl ?_
  refine xm_aload_n hX 1 dX1_takeOver_85 rfl rfl ?_
  refine xm_get hX (k := 17) (ci := 1) (j := 9) (C := RX1) (T := TX1) (N := 11) (v := .int (M9.1 17 9)) cL_17 rfl rfl rfl (by decide) (fun z hz => List.mem_cons_of_mem _ (iw_X1 z hz)) (List.mem_cons_of_mem _ gm_54) dX1_takeOver_86 ?_
  refine xm_puti hX (k := 1) (ci := 1) (j := 9) (C := RX1) (T := TX1) (N := 11) (t0 := tyX1) cL_1 rfl rfl (by decide) (fun z hz => List.mem_cons_of_mem _ (iw_X1 z hz)) tyX1_ok nmX1 rfl rfl (List.mem_cons_of_mem _ gm_54) dX1_takeOver_89 (fun M10 => ?_)
  exact xm_vret hX dX1_takeOver_92
-- ===== OdometryDesk$State.takeOver(LOdometryDesk$State;)V ['1', '33']
def fX1_takeOver_1_33   (M : xm_M) : Option xm_M :=
  xm_bv (fX3_copy 34 9 2 9 M) (fun M1 => xm_bv (fX3_copy_ 35 5 36 8 3 5 4 8 M1) (fun M2 => xm_bv (fX3_copy_ 41 2 42 6 9 2 10 6 M2) (fun M3 => xm_bv (fX3_copy_ 44 4 45 120 12 4 13 120 M3) (fun M4 => xm_lt (xm_s M4 1 4 (M4.1 33 4)) (fun M5 => xm_lt (xm_s M5 1 5 (M5.1 33 5)) (fun M6 => xm_lt (xm_s M6 1 6 (M6.1 33 6)) (fun M7 => xm_lt (xm_s M7 1 7 (M7.1 33 7)) (fun M8 => xm_lt (xm_s M8 1 8 (M8.1 33 8)) (fun M9 => xm_lt (xm_s M9 1 9 (M9.1 33 9)) (fun M10 => some M10))))))))))
set_option maxRecDepth 20000 in
theorem kX1_takeOver_1_33 {l : Launch}    (M : xm_M) : xm_C l yX1_takeOver wX1_takeOver ({ frames := 3, cells := 0, slots := 0, locals := 61 }) cL (fun g => [.ref (g.1 1), .ref (g.1 33)]) M xm_Fv (fX1_takeOver_1_33   M) := by
  refine xm_C.of (by decide) rfl (fun g => Nat.le_of_ble_eq_true rfl) ?_
  intro p e s m args below meth c D g A hX
  refine xm_lv (lv' := [(0, .ref (g.1 1)), (1, .ref (g.1 33))]) rfl ?_
  unfold fX1_takeOver_1_33
  refine xm_aload_n hX 1 dX1_takeOver_0 rfl rfl ?_
  refine xm_get hX (k := 33) (ci := 1) (j := 0) (C := RX1) (T := TX1) (N := 11) (v := .ref (g.1 34)) cL_33 rfl rfl rfl (by decide) (fun z hz => List.mem_cons_of_mem _ (iw_X1 z hz)) (List.mem_cons_of_mem _ gm_29) dX1_takeOver_1 ?_
  refine xm_aload_n hX 0 dX1_takeOver_4 rfl rfl ?_
  refine xm_get hX (k := 1) (ci := 1) (j := 0) (C := RX1) (T := TX1) (N := 11) (v := .ref (g.1 2)) cL_1 rfl rfl rfl (by decide) (fun z hz => List.mem_cons_of_mem _ (iw_X1 z hz)) (List.mem_cons_of_mem _ gm_29) dX1_takeOver_5 ?_
  refine xm_callv hX (xm_runSN hX (As := (fun g => [.ref (g.1 34), .ref (g.1 2)])) (kX3_copy 34 9 2 9 cL_34 cL_2 M) (xm_gN gm_341) rfl ⟨rfl, rfl⟩ nw_14 (List.mem_cons_of_mem _ gm_1) (List.mem_cons_of_mem _ gm_340) hdX3_copy ⟨Nat.le_of_ble_eq_true rfl, Nat.le_of_ble_eq_true rfl⟩ rfl (Nat.le_of_ble_eq_true rfl) rfl dX1_takeOver_8) (fun M1 => ?_)
  refine xm_aload_n hX 1 dX1_takeOver_11 rfl rfl ?_
  refine xm_get hX (k := 33) (ci := 1) (j := 1) (C := RX1) (T := TX1) (N := 11) (v := .ref (g.1 35)) cL_33 rfl rfl rfl (by decide) (fun z hz => List.mem_cons_of_mem _ (iw_X1 z hz)) (List.mem_cons_of_mem _ gm_31) dX1_takeOver_12 ?_
  refine xm_aload_n hX 0 dX1_takeOver_15 rfl rfl ?_
  refine xm_get hX (k := 1) (ci := 1) (j := 1) (C := RX1) (T := TX1) (N := 11) (v := .ref (g.1 3)) cL_1 rfl rfl rfl (by decide) (fun z hz => List.mem_cons_of_mem _ (iw_X1 z hz)) (List.mem_cons_of_mem _ gm_31) dX1_takeOver_16 ?_
  refine xm_callv hX (xm_runSN hX (As := (fun g => [.ref (g.1 35), .ref (g.1 3)])) (kX3_copy_ 35 5 36 8 3 5 4 8 cL_35 cL_rows_35 cL_3 cL_rows_3 M1) (xm_gN gm_421) rfl ⟨rfl, rfl⟩ nw_15 (List.mem_cons_of_mem _ gm_1) (List.mem_cons_of_mem _ gm_420) hdX3_copy_ ⟨Nat.le_of_ble_eq_true rfl, Nat.le_of_ble_eq_true rfl⟩ rfl (Nat.le_of_ble_eq_true rfl) rfl dX1_takeOver_19) (fun M2 => ?_)
  refine xm_aload_n hX 1 dX1_takeOver_22 rfl rfl ?_
  refine xm_get hX (k := 33) (ci := 1) (j := 2) (C := RX1) (T := TX1) (N := 11) (v := .ref (g.1 41)) cL_33 rfl rfl rfl (by decide) (fun z hz => List.mem_cons_of_mem _ (iw_X1 z hz)) (List.mem_cons_of_mem _ gm_34) dX1_takeOver_23 ?_
  refine xm_aload_n hX 0 dX1_takeOver_26 rfl rfl ?_
  refine xm_get hX (k := 1) (ci := 1) (j := 2) (C := RX1) (T := TX1) (N := 11) (v := .ref (g.1 9)) cL_1 rfl rfl rfl (by decide) (fun z hz => List.mem_cons_of_mem _ (iw_X1 z hz)) (List.mem_cons_of_mem _ gm_34) dX1_takeOver_27 ?_
  refine xm_callv hX (xm_runSN hX (As := (fun g => [.ref (g.1 41), .ref (g.1 9)])) (kX3_copy_ 41 2 42 6 9 2 10 6 cL_41 cL_rows_41 cL_9 cL_rows_9 M2) (xm_gN gm_421) rfl ⟨rfl, rfl⟩ nw_15 (List.mem_cons_of_mem _ gm_1) (List.mem_cons_of_mem _ gm_420) hdX3_copy_ ⟨Nat.le_of_ble_eq_true rfl, Nat.le_of_ble_eq_true rfl⟩ rfl (Nat.le_of_ble_eq_true rfl) rfl dX1_takeOver_30) (fun M3 => ?_)
  refine xm_aload_n hX 1 dX1_takeOver_33 rfl rfl ?_
  refine xm_get hX (k := 33) (ci := 1) (j := 3) (C := RX1) (T := TX1) (N := 11) (v := .ref (g.1 44)) cL_33 rfl rfl rfl (by decide) (fun z hz => List.mem_cons_of_mem _ (iw_X1 z hz)) (List.mem_cons_of_mem _ gm_37) dX1_takeOver_34 ?_
  refine xm_aload_n hX 0 dX1_takeOver_37 rfl rfl ?_
  refine xm_get hX (k := 1) (ci := 1) (j := 3) (C := RX1) (T := TX1) (N := 11) (v := .ref (g.1 12)) cL_1 rfl rfl rfl (by decide) (fun z hz => List.mem_cons_of_mem _ (iw_X1 z hz)) (List.mem_cons_of_mem _ gm_37) dX1_takeOver_38 ?_
  refine xm_callv hX (xm_runSN hX (As := (fun g => [.ref (g.1 44), .ref (g.1 12)])) (kX3_copy_ 44 4 45 120 12 4 13 120 cL_44 cL_rows_44 cL_12 cL_rows_12 M3) (xm_gN gm_421) rfl ⟨rfl, rfl⟩ nw_15 (List.mem_cons_of_mem _ gm_1) (List.mem_cons_of_mem _ gm_420) hdX3_copy_ ⟨Nat.le_of_ble_eq_true rfl, Nat.le_of_ble_eq_true rfl⟩ rfl (Nat.le_of_ble_eq_true rfl) rfl dX1_takeOver_41) (fun M4 => ?_)
  refine xm_aload_n hX 0 dX1_takeOver_44 rfl rfl ?_
  refine xm_aload_n hX 1 dX1_takeOver_45 rfl rfl ?_
  refine xm_get hX (k := 33) (ci := 1) (j := 4) (C := RX1) (T := TX1) (N := 11) (v := .int (M4.1 33 4)) cL_33 rfl rfl rfl (by decide) (fun z hz => List.mem_cons_of_mem _ (iw_X1 z hz)) (List.mem_cons_of_mem _ gm_39) dX1_takeOver_46 ?_
  refine xm_puti hX (k := 1) (ci := 1) (j := 4) (C := RX1) (T := TX1) (N := 11) (t0 := tyX1) cL_1 rfl rfl (by decide) (fun z hz => List.mem_cons_of_mem _ (iw_X1 z hz)) tyX1_ok nmX1 rfl rfl (List.mem_cons_of_mem _ gm_39) dX1_takeOver_49 (fun M5 => ?_)
  refine xm_aload_n hX 0 dX1_takeOver_52 rfl rfl ?_
  refine xm_aload_n hX 1 dX1_takeOver_53 rfl rfl ?_
  refine xm_get hX (k := 33) (ci := 1) (j := 5) (C := RX1) (T := TX1) (N := 11) (v := .int (M5.1 33 5)) cL_33 rfl rfl rfl (by decide) (fun z hz => List.mem_cons_of_mem _ (iw_X1 z hz)) (List.mem_cons_of_mem _ gm_42) dX1_takeOver_54 ?_
  refine xm_puti hX (k := 1) (ci := 1) (j := 5) (C := RX1) (T := TX1) (N := 11) (t0 := tyX1) cL_1 rfl rfl (by decide) (fun z hz => List.mem_cons_of_mem _ (iw_X1 z hz)) tyX1_ok nmX1 rfl rfl (List.mem_cons_of_mem _ gm_42) dX1_takeOver_57 (fun M6 => ?_)
  refine xm_aload_n hX 0 dX1_takeOver_60 rfl rfl ?_
  refine xm_aload_n hX 1 dX1_takeOver_61 rfl rfl ?_
  refine xm_get hX (k := 33) (ci := 1) (j := 6) (C := RX1) (T := TX1) (N := 11) (v := .int (M6.1 33 6)) cL_33 rfl rfl rfl (by decide) (fun z hz => List.mem_cons_of_mem _ (iw_X1 z hz)) (List.mem_cons_of_mem _ gm_44) dX1_takeOver_62 ?_
  refine xm_puti hX (k := 1) (ci := 1) (j := 6) (C := RX1) (T := TX1) (N := 11) (t0 := tyX1) cL_1 rfl rfl (by decide) (fun z hz => List.mem_cons_of_mem _ (iw_X1 z hz)) tyX1_ok nmX1 rfl rfl (List.mem_cons_of_mem _ gm_44) dX1_takeOver_65 (fun M7 => ?_)
  refine xm_aload_n hX 0 dX1_takeOver_68 rfl rfl ?_
  refine xm_aload_n hX 1 dX1_takeOver_69 rfl rfl ?_
  refine xm_get hX (k := 33) (ci := 1) (j := 7) (C := RX1) (T := TX1) (N := 11) (v := .int (M7.1 33 7)) cL_33 rfl rfl rfl (by decide) (fun z hz => List.mem_cons_of_mem _ (iw_X1 z hz)) (List.mem_cons_of_mem _ gm_48) dX1_takeOver_70 ?_
  refine xm_puti hX (k := 1) (ci := 1) (j := 7) (C := RX1) (T := TX1) (N := 11) (t0 := tyX1) cL_1 rfl rfl (by decide) (fun z hz => List.mem_cons_of_mem _ (iw_X1 z hz)) tyX1_ok nmX1 rfl rfl (List.mem_cons_of_mem _ gm_48) dX1_takeOver_73 (fun M8 => ?_)
  refine xm_aload_n hX 0 dX1_takeOver_76 rfl rfl ?_
  refine xm_aload_n hX 1 dX1_takeOver_77 rfl rfl ?_
  refine xm_get hX (k := 33) (ci := 1) (j := 8) (C := RX1) (T := TX1) (N := 11) (v := .int (M8.1 33 8)) cL_33 rfl rfl rfl (by decide) (fun z hz => List.mem_cons_of_mem _ (iw_X1 z hz)) (List.mem_cons_of_mem _ gm_51) dX1_takeOver_78 ?_
  refine xm_puti hX (k := 1) (ci := 1) (j := 8) (C := RX1) (T := TX1) (N := 11) (t0 := tyX1) cL_1 rfl rfl (by decide) (fun z hz => List.mem_cons_of_mem _ (iw_X1 z hz)) tyX1_ok nmX1 rfl rfl (List.mem_cons_of_mem _ gm_51) dX1_takeOver_81 (fun M9 => ?_)
  refine xm_aload_n hX 0 dX1_takeOver_84 rfl rfl ?_
  refine xm_aload_n hX 1 dX1_takeOver_85 rfl rfl ?_
  refine xm_get hX (k := 33) (ci := 1) (j := 9) (C := RX1) (T := TX1) (N := 11) (v := .int (M9.1 33 9)) cL_33 rfl rfl rfl (by decide) (fun z hz => List.mem_cons_of_mem _ (iw_X1 z hz)) (List.mem_cons_of_mem _ gm_54) dX1_takeOver_86 ?_
  refine xm_puti hX (k := 1) (ci := 1) (j := 9) (C := RX1) (T := TX1) (N := 11) (t0 := tyX1) cL_1 rfl rfl (by decide) (fun z hz => List.mem_cons_of_mem _ (iw_X1 z hz)) tyX1_ok nmX1 rfl rfl (List.mem_cons_of_mem _ gm_54) dX1_takeOver_89 (fun M10 => ?_)
  exact xm_vret hX dX1_takeOver_92
-- ===== OdometryDesk.restore(I)I ['0']
theorem dX3_restore_0 : decode cX3_restore 0 = .ok (.iload_n 1, 1) := by decide +kernel
theorem dX3_restore_1 : decode cX3_restore 1 = .ok (.iconst 0, 1) := by decide +kernel
theorem dX3_restore_2 : decode cX3_restore 2 = .ok (.iconst 1, 1) := by decide +kernel
theorem dX3_restore_3 : decode cX3_restore 3 = .ok (.invokestatic 66, 3) := by decide +kernel
theorem dX3_restore_6 : decode cX3_restore 6 = .ok (.ifCond .ne 6, 3) := by decide +kernel
theorem dX3_restore_9 : decode cX3_restore 9 = .ok (.bipush (-2), 2) := by decide +kernel
theorem dX3_restore_11 : decode cX3_restore 11 = .ok (.ireturn, 1) := by decide +kernel
theorem dX3_restore_12 : decode cX3_restore 12 = .ok (.aload_n 0, 1) := by decide +kernel
theorem dX3_restore_13 : decode cX3_restore 13 = .ok (.iload_n 1, 1) := by decide +kernel
theorem dX3_restore_14 : decode cX3_restore 14 = .ok (.invokevirtual 197, 3) := by decide +kernel
theorem dX3_restore_17 : decode cX3_restore 17 = .ok (.astore_n 2, 1) := by decide +kernel
theorem dX3_restore_18 : decode cX3_restore 18 = .ok (.aload_n 2, 1) := by decide +kernel
theorem dX3_restore_19 : decode cX3_restore 19 = .ok (.getfield 205, 3) := by decide +kernel
theorem dX3_restore_22 : decode cX3_restore 22 = .ok (.ifCond .ne 6, 3) := by decide +kernel
theorem dX3_restore_25 : decode cX3_restore 25 = .ok (.bipush (-5), 2) := by decide +kernel
theorem dX3_restore_27 : decode cX3_restore 27 = .ok (.ireturn, 1) := by decide +kernel
theorem dX3_restore_28 : decode cX3_restore 28 = .ok (.aload_n 0, 1) := by decide +kernel
theorem dX3_restore_29 : decode cX3_restore 29 = .ok (.getfield 10, 3) := by decide +kernel
theorem dX3_restore_32 : decode cX3_restore 32 = .ok (.aload_n 2, 1) := by decide +kernel
theorem dX3_restore_33 : decode cX3_restore 33 = .ok (.invokevirtual 201, 3) := by decide +kernel
theorem dX3_restore_36 : decode cX3_restore 36 = .ok (.aload_n 0, 1) := by decide +kernel
theorem dX3_restore_37 : decode cX3_restore 37 = .ok (.getfield 10, 3) := by decide +kernel
theorem dX3_restore_40 : decode cX3_restore 40 = .ok (.getfield 106, 3) := by decide +kernel
theorem dX3_restore_43 : decode cX3_restore 43 = .ok (.ireturn, 1) := by decide +kernel
abbrev wX3_restore : List Cond := .code yX3_restore cX3_restore 3 (some .int) :: lw_gd
theorem hdX3_restore : (yX3_restore.cls ≠ "java/lang/invoke/MethodHandle" ∧ yX3_restore.cls ≠ "java/lang/invoke/VarHandle" ∧ (parseMethodDescriptor yX3_restore.desc).map (fun d => d.parameters.length) = some 1) := by decide +kernel
def fX3_restore  (a1 : Int32) (M : xm_M) : Option (Int32 × xm_M) :=
  xm_bi (fX3_isWithin a1 ((0 : Int32)) ((1 : Int32)) M) (fun x2 M1 => if x2 = 0 then some ((-2 : Int32), M1) else xm_br (fX3_slotOf a1 M1) (fun x4 M3 => if x4 = 17 then if (M3.1 17 10) = 0 then some ((-5 : Int32), M3) else xm_bv (fX1_takeOver_1_17 M3) (fun M5 => some (M5.1 1 6, M5)) else if x4 = 33 then if (M3.1 33 10) = 0 then some ((-5 : Int32), M3) else xm_bv (fX1_takeOver_1_33 M3) (fun M7 => some (M7.1 1 6, M7)) else none))
set_option maxRecDepth 20000 in
theorem kX3_restore {l : Launch}   (a1 : Int32) (M : xm_M) : xm_C l yX3_restore wX3_restore ({ frames := 4, cells := 0, slots := 0, locals := 82 }) cL (fun g => [.ref (g.1 0), .int a1]) M xm_Fi (fX3_restore  a1 M) := by
  refine xm_C.of (by decide) rfl (fun g => Nat.le_of_ble_eq_true rfl) ?_
  intro p e s m args below meth c D g A hX
  refine xm_lv (lv' := [(0, .ref (g.1 0)), (1, .int a1)]) rfl ?_
  unfold fX3_restore
  refine xm_iload_n hX 1 dX3_restore_0 rfl rfl ?_
  refine xm_iconst hX (v := 0) rfl dX3_restore_1 ?_
  refine xm_iconst hX (v := 1) rfl dX3_restore_2 ?_
  refine xm_calli hX (xm_runS hX (As := (fun g => [.int a1, .int ((0 : Int32)), .int ((1 : Int32))])) (kX3_isWithin a1 ((0 : Int32)) ((1 : Int32)) M) (xm_gS gm_150 gm_151 gm_1 gm_152) rfl ⟨rfl, rfl⟩ hdX3_isWithin ⟨Nat.le_of_ble_eq_true rfl, Nat.le_of_ble_eq_true rfl⟩ rfl (Nat.le_of_ble_eq_true rfl) rfl dX3_restore_3) (fun x2 M1 => ?_)
  refine xm_if_ne hX (tgt := 12) dX3_restore_6 rfl ?_ ?_
  · refine xm_aload_n hX 0 dX3_restore_12 rfl rfl ?_
    refine xm_iload_n hX 1 dX3_restore_13 rfl rfl ?_
    refine xm_callr hX (xm_runV hX (k := 0) (ci := 3) (As := (fun g => [.int a1])) (kX3_slotOf a1 M1) cL_0 rfl (xm_gV gm_413 gm_414 gm_712 gm_1 gm_415) rfl ⟨rfl, rfl⟩ ⟨rfl, hdX3_slotOf⟩ ⟨Nat.le_of_ble_eq_true rfl, Nat.le_of_ble_eq_true rfl⟩ rfl (Nat.le_of_ble_eq_true rfl) rfl dX3_restore_14) (fun x4 M3 => ?_)
    refine xm_ite (fun z6 => ?_) (fun _ => ?_)
    · rw [z6]
      refine xm_astore_n hX (lv' := [(2, .ref (g.1 17)), (0, .ref (g.1 0)), (1, .int a1)]) dX3_restore_17 rfl (by decide) rfl ?_
      refine xm_aload_n hX 0 dX3_restore_18 rfl rfl ?_
      refine xm_get hX (k := 17) (ci := 1) (j := 10) (C := RX1) (T := TX1) (N := 11) (v := .int (M3.1 17 10)) cL_17 rfl rfl rfl (by decide) (fun z hz => List.mem_cons_of_mem _ (iw_X1 z hz)) (List.mem_cons_of_mem _ gm_56) dX3_restore_19 ?_
      refine xm_if_ne hX (tgt := 28) dX3_restore_22 rfl ?_ ?_
      · refine xm_aload_n hX 1 dX3_restore_28 rfl rfl ?_
        refine xm_get hX (k := 0) (ci := 3) (j := 0) (C := RX3) (T := TX3) (N := 6) (v := .ref (g.1 1)) cL_0 rfl rfl rfl (by decide) (fun z hz => List.mem_cons_of_mem _ (iw_X3 z hz)) (List.mem_cons_of_mem _ gm_129) dX3_restore_29 ?_
        refine xm_aload_n hX 0 dX3_restore_32 rfl rfl ?_
        refine xm_callv hX (xm_runV hX (k := 1) (ci := 1) (As := (fun g => [.ref (g.1 17)])) (kX1_takeOver_1_17 M3) cL_1 rfl (xm_gV gm_416 gm_417 gm_418 gm_2 gm_419) rfl ⟨rfl, rfl⟩ ⟨rfl, hdX1_takeOver⟩ ⟨Nat.le_of_ble_eq_true rfl, Nat.le_of_ble_eq_true rfl⟩ rfl (Nat.le_of_ble_eq_true rfl) rfl dX3_restore_33) (fun M5 => ?_)
        refine xm_aload_n hX 1 dX3_restore_36 rfl rfl ?_
        refine xm_get hX (k := 0) (ci := 3) (j := 0) (C := RX3) (T := TX3) (N := 6) (v := .ref (g.1 1)) cL_0 rfl rfl rfl (by decide) (fun z hz => List.mem_cons_of_mem _ (iw_X3 z hz)) (List.mem_cons_of_mem _ gm_129) dX3_restore_37 ?_
        refine xm_get hX (k := 1) (ci := 1) (j := 6) (C := RX1) (T := TX1) (N := 11) (v := .int (M5.1 1 6)) cL_1 rfl rfl rfl (by decide) (fun z hz => List.mem_cons_of_mem _ (iw_X1 z hz)) (List.mem_cons_of_mem _ gm_46) dX3_restore_40 ?_
        exact xm_iret hX dX3_restore_43
      · refine xm_bipush hX (v := -5) rfl dX3_restore_25 ?_
        exact xm_iret hX dX3_restore_27
    refine xm_ite (fun z8 => ?_) (fun _ => ?_)
    · rw [z8]
      refine xm_astore_n hX (lv' := [(2, .ref (g.1 33)), (0, .ref (g.1 0)), (1, .int a1)]) dX3_restore_17 rfl (by decide) rfl ?_
      refine xm_aload_n hX 0 dX3_restore_18 rfl rfl ?_
      refine xm_get hX (k := 33) (ci := 1) (j := 10) (C := RX1) (T := TX1) (N := 11) (v := .int (M3.1 33 10)) cL_33 rfl rfl rfl (by decide) (fun z hz => List.mem_cons_of_mem _ (iw_X1 z hz)) (List.mem_cons_of_mem _ gm_56) dX3_restore_19 ?_
      refine xm_if_ne hX (tgt := 28) dX3_restore_22 rfl ?_ ?_
      · refine xm_aload_n hX 1 dX3_restore_28 rfl rfl ?_
        refine xm_get hX (k := 0) (ci := 3) (j := 0) (C := RX3) (T := TX3) (N := 6) (v := .ref (g.1 1)) cL_0 rfl rfl rfl (by decide) (fun z hz => List.mem_cons_of_mem _ (iw_X3 z hz)) (List.mem_cons_of_mem _ gm_129) dX3_restore_29 ?_
        refine xm_aload_n hX 0 dX3_restore_32 rfl rfl ?_
        refine xm_callv hX (xm_runV hX (k := 1) (ci := 1) (As := (fun g => [.ref (g.1 33)])) (kX1_takeOver_1_33 M3) cL_1 rfl (xm_gV gm_416 gm_417 gm_418 gm_2 gm_419) rfl ⟨rfl, rfl⟩ ⟨rfl, hdX1_takeOver⟩ ⟨Nat.le_of_ble_eq_true rfl, Nat.le_of_ble_eq_true rfl⟩ rfl (Nat.le_of_ble_eq_true rfl) rfl dX3_restore_33) (fun M7 => ?_)
        refine xm_aload_n hX 1 dX3_restore_36 rfl rfl ?_
        refine xm_get hX (k := 0) (ci := 3) (j := 0) (C := RX3) (T := TX3) (N := 6) (v := .ref (g.1 1)) cL_0 rfl rfl rfl (by decide) (fun z hz => List.mem_cons_of_mem _ (iw_X3 z hz)) (List.mem_cons_of_mem _ gm_129) dX3_restore_37 ?_
        refine xm_get hX (k := 1) (ci := 1) (j := 6) (C := RX1) (T := TX1) (N := 11) (v := .int (M7.1 1 6)) cL_1 rfl rfl rfl (by decide) (fun z hz => List.mem_cons_of_mem _ (iw_X1 z hz)) (List.mem_cons_of_mem _ gm_46) dX3_restore_40 ?_
        exact xm_iret hX dX3_restore_43
      · refine xm_bipush hX (v := -5) rfl dX3_restore_25 ?_
        exact xm_iret hX dX3_restore_27
    exact xm_none
  · refine xm_bipush hX (v := -2) rfl dX3_restore_9 ?_
    exact xm_iret hX dX3_restore_11
end
section
-- ===== OdometryDesk$State.takeOver(LOdometryDesk$State;)V ['17', '1']
def fX1_takeOver_17_1   (M : xm_M) : Option xm_M :=
  xm_bv (fX3_copy 2 9 18 9 M) (fun M1 => xm_bv (fX3_copy_ 3 5 4 8 19 5 20 8 M1) (fun M2 => xm_bv (fX3_copy_ 9 2 10 6 25 2 26 6 M2) (fun M3 => xm_bv (fX3_copy_ 12 4 13 120 28 4 29 120 M3) (fun M4 => xm_lt (xm_s M4 17 4 (M4.1 1 4)) (fun M5 => xm_lt (xm_s M5 17 5 (M5.1 1 5)) (fun M6 => xm_lt (xm_s M6 17 6 (M6.1 1 6)) (fun M7 => xm_lt (xm_s M7 17 7 (M7.1 1 7)) (fun M8 => xm_lt (xm_s M8 17 8 (M8.1 1 8)) (fun M9 => xm_lt (xm_s M9 17 9 (M9.1 1 9)) (fun M10 => some M10))))))))))
set_option maxRecDepth 20000 in
theorem kX1_takeOver_17_1 {l : Launch}    (M : xm_M) : xm_C l yX1_takeOver wX1_takeOver ({ frames := 3, cells := 0, slots := 0, locals := 61 }) cL (fun g => [.ref (g.1 17), .ref (g.1 1)]) M xm_Fv (fX1_takeOver_17_1   M) := by
  refine xm_C.of (by decide) rfl (fun g => Nat.le_of_ble_eq_true rfl) ?_
  intro p e s m args below meth c D g A hX
  refine xm_lv (lv' := [(0, .ref (g.1 17)), (1, .ref (g.1 1))]) rfl ?_
  unfold fX1_takeOver_17_1
  refine xm_aload_n hX 1 dX1_takeOver_0 rfl rfl ?_
  refine xm_get hX (k := 1) (ci := 1) (j := 0) (C := RX1) (T := TX1) (N := 11) (v := .ref (g.1 2)) cL_1 rfl rfl rfl (by decide) (fun z hz => List.mem_cons_of_mem _ (iw_X1 z hz)) (List.mem_cons_of_mem _ gm_29) dX1_takeOver_1 ?_
  refine xm_aload_n hX 0 dX1_takeOver_4 rfl rfl ?_
  refine xm_get hX (k := 17) (ci := 1) (j := 0) (C := RX1) (T := TX1) (N := 11) (v := .ref (g.1 18)) cL_17 rfl rfl rfl (by decide) (fun z hz => List.mem_cons_of_mem _ (iw_X1 z hz)) (List.mem_cons_of_mem _ gm_29) dX1_takeOver_5 ?_
  refine xm_callv hX (xm_runSN hX (As := (fun g => [.ref (g.1 2), .ref (g.1 18)])) (kX3_copy 2 9 18 9 cL_2 cL_18 M) (xm_gN gm_341) rfl ⟨rfl, rfl⟩ nw_14 (List.mem_cons_of_mem _ gm_1) (List.mem_cons_of_mem _ gm_340) hdX3_copy ⟨Nat.le_of_ble_eq_true rfl, Nat.le_of_ble_eq_true rfl⟩ rfl (Nat.le_of_ble_eq_true rfl) rfl dX1_takeOver_8) (fun M1 => ?_)
  refine xm_aload_n hX 1 dX1_takeOver_11 rfl rfl ?_
  refine xm_get hX (k := 1) (ci := 1) (j := 1) (C := RX1) (T := TX1) (N := 11) (v := .ref (g.1 3)) cL_1 rfl rfl rfl (by decide) (fun z hz => List.mem_cons_of_mem _ (iw_X1 z hz)) (List.mem_cons_of_mem _ gm_31) dX1_takeOver_12 ?_
  refine xm_aload_n hX 0 dX1_takeOver_15 rfl rfl ?_
  refine xm_get hX (k := 17) (ci := 1) (j := 1) (C := RX1) (T := TX1) (N := 11) (v := .ref (g.1 19)) cL_17 rfl rfl rfl (by decide) (fun z hz => List.mem_cons_of_mem _ (iw_X1 z hz)) (List.mem_cons_of_mem _ gm_31) dX1_takeOver_16 ?_
  refine xm_callv hX (xm_runSN hX (As := (fun g => [.ref (g.1 3), .ref (g.1 19)])) (kX3_copy_ 3 5 4 8 19 5 20 8 cL_3 cL_rows_3 cL_19 cL_rows_19 M1) (xm_gN gm_421) rfl ⟨rfl, rfl⟩ nw_15 (List.mem_cons_of_mem _ gm_1) (List.mem_cons_of_mem _ gm_420) hdX3_copy_ ⟨Nat.le_of_ble_eq_true rfl, Nat.le_of_ble_eq_true rfl⟩ rfl (Nat.le_of_ble_eq_true rfl) rfl dX1_takeOver_19) (fun M2 => ?_)
  refine xm_aload_n hX 1 dX1_takeOver_22 rfl rfl ?_
  refine xm_get hX (k := 1) (ci := 1) (j := 2) (C := RX1) (T := TX1) (N := 11) (v := .ref (g.1 9)) cL_1 rfl rfl rfl (by decide) (fun z hz => List.mem_cons_of_mem _ (iw_X1 z hz)) (List.mem_cons_of_mem _ gm_34) dX1_takeOver_23 ?_
  refine xm_aload_n hX 0 dX1_takeOver_26 rfl rfl ?_
  refine xm_get hX (k := 17) (ci := 1) (j := 2) (C := RX1) (T := TX1) (N := 11) (v := .ref (g.1 25)) cL_17 rfl rfl rfl (by decide) (fun z hz => List.mem_cons_of_mem _ (iw_X1 z hz)) (List.mem_cons_of_mem _ gm_34) dX1_takeOver_27 ?_
  refine xm_callv hX (xm_runSN hX (As := (fun g => [.ref (g.1 9), .ref (g.1 25)])) (kX3_copy_ 9 2 10 6 25 2 26 6 cL_9 cL_rows_9 cL_25 cL_rows_25 M2) (xm_gN gm_421) rfl ⟨rfl, rfl⟩ nw_15 (List.mem_cons_of_mem _ gm_1) (List.mem_cons_of_mem _ gm_420) hdX3_copy_ ⟨Nat.le_of_ble_eq_true rfl, Nat.le_of_ble_eq_true rfl⟩ rfl (Nat.le_of_ble_eq_true rfl) rfl dX1_takeOver_30) (fun M3 => ?_)
  refine xm_aload_n hX 1 dX1_takeOver_33 rfl rfl ?_
  refine xm_get hX (k := 1) (ci := 1) (j := 3) (C := RX1) (T := TX1) (N := 11) (v := .ref (g.1 12)) cL_1 rfl rfl rfl (by decide) (fun z hz => List.mem_cons_of_mem _ (iw_X1 z hz)) (List.mem_cons_of_mem _ gm_37) dX1_takeOver_34 ?_
  refine xm_aload_n hX 0 dX1_takeOver_37 rfl rfl ?_
  refine xm_get hX (k := 17) (ci := 1) (j := 3) (C := RX1) (T := TX1) (N := 11) (v := .ref (g.1 28)) cL_17 rfl rfl rfl (by decide) (fun z hz => List.mem_cons_of_mem _ (iw_X1 z hz)) (List.mem_cons_of_mem _ gm_37) dX1_takeOver_38 ?_
  refine xm_callv hX (xm_runSN hX (As := (fun g => [.ref (g.1 12), .ref (g.1 28)])) (kX3_copy_ 12 4 13 120 28 4 29 120 cL_12 cL_rows_12 cL_28 cL_rows_28 M3) (xm_gN gm_421) rfl ⟨rfl, rfl⟩ nw_15 (List.mem_cons_of_mem _ gm_1) (List.mem_cons_of_mem _ gm_420) hdX3_copy_ ⟨Nat.le_of_ble_eq_true rfl, Nat.le_of_ble_eq_true rfl⟩ rfl (Nat.le_of_ble_eq_true rfl) rfl dX1_takeOver_41) (fun M4 => ?_)
  refine xm_aload_n hX 0 dX1_takeOver_44 rfl rfl ?_
  refine xm_aload_n hX 1 dX1_takeOver_45 rfl rfl ?_
  refine xm_get hX (k := 1) (ci := 1) (j := 4) (C := RX1) (T := TX1) (N := 11) (v := .int (M4.1 1 4)) cL_1 rfl rfl rfl (by decide) (fun z hz => List.mem_cons_of_mem _ (iw_X1 z hz)) (List.mem_cons_of_mem _ gm_39) dX1_takeOver_46 ?_
  refine xm_puti hX (k := 17) (ci := 1) (j := 4) (C := RX1) (T := TX1) (N := 11) (t0 := tyX1) cL_17 rfl rfl (by decide) (fun z hz => List.mem_cons_of_mem _ (iw_X1 z hz)) tyX1_ok nmX1 rfl rfl (List.mem_cons_of_mem _ gm_39) dX1_takeOver_49 (fun M5 => ?_)
  refine xm_aload_n hX 0 dX1_takeOver_52 rfl rfl ?_
  refine xm_aload_n hX 1 dX1_takeOver_53 rfl rfl ?_
  refine xm_get hX (k := 1) (ci := 1) (j := 5) (C := RX1) (T := TX1) (N := 11) (v := .int (M5.1 1 5)) cL_1 rfl rfl rfl (by decide) (fun z hz => List.mem_cons_of_mem _ (iw_X1 z hz)) (List.mem_cons_of_mem _ gm_42) dX1_takeOver_54 ?_
  refine xm_puti hX (k := 17) (ci := 1) (j := 5) (C := RX1) (T := TX1) (N := 11) (t0 := tyX1) cL_17 rfl rfl (by decide) (fun z hz => List.mem_cons_of_mem _ (iw_X1 z hz)) tyX1_ok nmX1 rfl rfl (List.mem_cons_of_mem _ gm_42) dX1_takeOver_57 (fun M6 => ?_)
  refine xm_aload_n hX 0 dX1_takeOver_60 rfl rfl ?_
  refine xm_aload_n hX 1 dX1_takeOver_61 rfl rfl ?_
  refine xm_get hX (k := 1) (ci := 1) (j := 6) (C := RX1) (T := TX1) (N := 11) (v := .int (M6.1 1 6)) cL_1 rfl rfl rfl (by decide) (fun z hz => List.mem_cons_of_mem _ (iw_X1 z hz)) (List.mem_cons_of_mem _ gm_44) dX1_takeOver_62 ?_
  refine xm_puti hX (k := 17) (ci := 1) (j := 6) (C := RX1) (T := TX1) (N := 11) (t0 := tyX1) cL_17 rfl rfl (by decide) (fun z hz => List.mem_cons_of_mem _ (iw_X1 z hz)) tyX1_ok nmX1 rfl rfl (List.mem_cons_of_mem _ gm_44) dX1_takeOver_65 (fun M7 => ?_)
  refine xm_aload_n hX 0 dX1_takeOver_68 rfl rfl ?_
  refine xm_aload_n hX 1 dX1_takeOver_69 rfl rfl ?_
  refine xm_get hX (k := 1) (ci := 1) (j := 7) (C := RX1) (T := TX1) (N := 11) (v := .int (M7.1 1 7)) cL_1 rfl rfl rfl (by decide) (fun z hz => List.mem_cons_of_mem _ (iw_X1 z hz)) (List.mem_cons_of_mem _ gm_48) dX1_takeOver_70 ?_
  refine xm_puti hX (k := 17) (ci := 1) (j := 7) (C := RX1) (T := TX1) (N := 11) (t0 := tyX1) cL_17 rfl rfl (by decide) (fun z hz => List.mem_cons_of_mem _ (iw_X1 z hz)) tyX1_ok nmX1 rfl rfl (List.mem_cons_of_mem _ gm_48) dX1_takeOver_73 (fun M8 => ?_)
  refine xm_aload_n hX 0 dX1_takeOver_76 rfl rfl ?_
  refine xm_aload_n hX 1 dX1_takeOver_77 rfl rfl ?_
  refine xm_get hX (k := 1) (ci := 1) (j := 8) (C := RX1) (T := TX1) (N := 11) (v := .int (M8.1 1 8)) cL_1 rfl rfl rfl (by decide) (fun z hz => List.mem_cons_of_mem _ (iw_X1 z hz)) (List.mem_cons_of_mem _ gm_51) dX1_takeOver_78 ?_
  refine xm_puti hX (k := 17) (ci := 1) (j := 8) (C := RX1) (T := TX1) (N := 11) (t0 := tyX1) cL_17 rfl rfl (by decide) (fun z hz => List.mem_cons_of_mem _ (iw_X1 z hz)) tyX1_ok nmX1 rfl rfl (List.mem_cons_of_mem _ gm_51) dX1_takeOver_81 (fun M9 => ?_)
  refine xm_aload_n hX 0 dX1_takeOver_84 rfl rfl ?_
  refine xm_aload_n hX 1 dX1_takeOver_85 rfl rfl ?_
  refine xm_get hX (k := 1) (ci := 1) (j := 9) (C := RX1) (T := TX1) (N := 11) (v := .int (M9.1 1 9)) cL_1 rfl rfl rfl (by decide) (fun z hz => List.mem_cons_of_mem _ (iw_X1 z hz)) (List.mem_cons_of_mem _ gm_54) dX1_takeOver_86 ?_
  refine xm_puti hX (k := 17) (ci := 1) (j := 9) (C := RX1) (T := TX1) (N := 11) (t0 := tyX1) cL_17 rfl rfl (by decide) (fun z hz => List.mem_cons_of_mem _ (iw_X1 z hz)) tyX1_ok nmX1 rfl rfl (List.mem_cons_of_mem _ gm_54) dX1_takeOver_89 (fun M10 => ?_)
  exact xm_vret hX dX1_takeOver_92
-- ===== OdometryDesk$State.takeOver(LOdometryDesk$State;)V ['33', '1']
def fX1_takeOver_33_1   (M : xm_M) : Option xm_M :=
  xm_bv (fX3_copy 2 9 34 9 M) (fun M1 => xm_bv (fX3_copy_ 3 5 4 8 35 5 36 8 M1) (fun M2 => xm_bv (fX3_copy_ 9 2 10 6 41 2 42 6 M2) (fun M3 => xm_bv (fX3_copy_ 12 4 13 120 44 4 45 120 M3) (fun M4 => xm_lt (xm_s M4 33 4 (M4.1 1 4)) (fun M5 => xm_lt (xm_s M5 33 5 (M5.1 1 5)) (fun M6 => xm_lt (xm_s M6 33 6 (M6.1 1 6)) (fun M7 => xm_lt (xm_s M7 33 7 (M7.1 1 7)) (fun M8 => xm_lt (xm_s M8 33 8 (M8.1 1 8)) (fun M9 => xm_lt (xm_s M9 33 9 (M9.1 1 9)) (fun M10 => some M10))))))))))
set_option maxRecDepth 20000 in
theorem kX1_takeOver_33_1 {l : Launch}    (M : xm_M) : xm_C l yX1_takeOver wX1_takeOver ({ frames := 3, cells := 0, slots := 0, locals := 61 }) cL (fun g => [.ref (g.1 33), .ref (g.1 1)]) M xm_Fv (fX1_takeOver_33_1   M) := by
  refine xm_C.of (by decide) rfl (fun g => Nat.le_of_ble_eq_true rfl) ?_
  intro p e s m args below meth c D g A hX
  refine xm_lv (lv' := [(0, .ref (g.1 33)), (1, .ref (g.1 1))]) rfl ?_
  unfold fX1_takeOver_33_1
  refine xm_aload_n hX 1 dX1_takeOver_0 rfl rfl ?_
  refine xm_get hX (k := 1) (ci := 1) (j := 0) (C := RX1) (T := TX1) (N := 11) (v := .ref (g.1 2)) cL_1 rfl rfl rfl (by decide) (fun z hz => List.mem_cons_of_mem _ (iw_X1 z hz)) (List.mem_cons_of_mem _ gm_29) dX1_takeOver_1 ?_
  refine xm_aload_n hX 0 dX1_takeOver_4 rfl rfl ?_
  refine xm_get hX (k := 33) (ci := 1) (j := 0) (C := RX1) (T := TX1) (N := 11) (v := .ref (g.1 34)) cL_33 rfl rfl rfl (by decide) (fun z hz => List.mem_cons_of_mem _ (iw_X1 z hz)) (List.mem_cons_of_mem _ gm_29) dX1_takeOver_5 ?_
  refine xm_callv hX (xm_runSN hX (As := (fun g => [.ref (g.1 2), .ref (g.1 34)])) (kX3_copy 2 9 34 9 cL_2 cL_34 M) (xm_gN gm_341) rfl ⟨rfl, rfl⟩ nw_14 (List.mem_cons_of_mem _ gm_1) (List.mem_cons_of_mem _ gm_340) hdX3_copy ⟨Nat.le_of_ble_eq_true rfl, Nat.le_of_ble_eq_true rfl⟩ rfl (Nat.le_of_ble_eq_true rfl) rfl dX1_takeOver_8) (fun M1 => ?_)
  refine xm_aload_n hX 1 dX1_takeOver_11 rfl rfl ?_
  refine xm_get hX (k := 1) (ci := 1) (j := 1) (C := RX1) (T := TX1) (N := 11) (v := .ref (g.1 3)) cL_1 rfl rfl rfl (by decide) (fun z hz => List.mem_cons_of_mem _ (iw_X1 z hz)) (List.mem_cons_of_mem _ gm_31) dX1_takeOver_12 ?_
  refine xm_aload_n hX 0 dX1_takeOver_15 rfl rfl ?_
  refine xm_get hX (k := 33) (ci := 1) (j := 1) (C := RX1) (T := TX1) (N := 11) (v := .ref (g.1 35)) cL_33 rfl rfl rfl (by decide) (fun z hz => List.mem_cons_of_mem _ (iw_X1 z hz)) (List.mem_cons_of_mem _ gm_31) dX1_takeOver_16 ?_
  refine xm_callv hX (xm_runSN hX (As := (fun g => [.ref (g.1 3), .ref (g.1 35)])) (kX3_copy_ 3 5 4 8 35 5 36 8 cL_3 cL_rows_3 cL_35 cL_rows_35 M1) (xm_gN gm_421) rfl ⟨rfl, rfl⟩ nw_15 (List.mem_cons_of_mem _ gm_1) (List.mem_cons_of_mem _ gm_420) hdX3_copy_ ⟨Nat.le_of_ble_eq_true rfl, Nat.le_of_ble_eq_true rfl⟩ rfl (Nat.le_of_ble_eq_true rfl) rfl dX1_takeOver_19) (fun M2 => ?_)
  refine xm_aload_n hX 1 dX1_takeOver_22 rfl rfl ?_
  refine xm_get hX (k := 1) (ci := 1) (j := 2) (C := RX1) (T := TX1) (N := 11) (v := .ref (g.1 9)) cL_1 rfl rfl rfl (by decide) (fun z hz => List.mem_cons_of_mem _ (iw_X1 z hz)) (List.mem_cons_of_mem _ gm_34) dX1_takeOver_23 ?_
  refine xm_aload_n hX 0 dX1_takeOver_26 rfl rfl ?_
  refine xm_get hX (k := 33) (ci := 1) (j := 2) (C := RX1) (T := TX1) (N := 11) (v := .ref (g.1 41)) cL_33 rfl rfl rfl (by decide) (fun z hz => List.mem_cons_of_mem _ (iw_X1 z hz)) (List.mem_cons_of_mem _ gm_34) dX1_takeOver_27 ?_
  refine xm_callv hX (xm_runSN hX (As := (fun g => [.ref (g.1 9), .ref (g.1 41)])) (kX3_copy_ 9 2 10 6 41 2 42 6 cL_9 cL_rows_9 cL_41 cL_rows_41 M2) (xm_gN gm_421) rfl ⟨rfl, rfl⟩ nw_15 (List.mem_cons_of_mem _ gm_1) (List.mem_cons_of_mem _ gm_420) hdX3_copy_ ⟨Nat.le_of_ble_eq_true rfl, Nat.le_of_ble_eq_true rfl⟩ rfl (Nat.le_of_ble_eq_true rfl) rfl dX1_takeOver_30) (fun M3 => ?_)
  refine xm_aload_n hX 1 dX1_takeOver_33 rfl rfl ?_
  refine xm_get hX (k := 1) (ci := 1) (j := 3) (C := RX1) (T := TX1) (N := 11) (v := .ref (g.1 12)) cL_1 rfl rfl rfl (by decide) (fun z hz => List.mem_cons_of_mem _ (iw_X1 z hz)) (List.mem_cons_of_mem _ gm_37) dX1_takeOver_34 ?_
  refine xm_aload_n hX 0 dX1_takeOver_37 rfl rfl ?_
  refine xm_get hX (k := 33) (ci := 1) (j := 3) (C := RX1) (T := TX1) (N := 11) (v := .ref (g.1 44)) cL_33 rfl rfl rfl (by decide) (fun z hz => List.mem_cons_of_mem _ (iw_X1 z hz)) (List.mem_cons_of_mem _ gm_37) dX1_takeOver_38 ?_
  refine xm_callv hX (xm_runSN hX (As := (fun g => [.ref (g.1 12), .ref (g.1 44)])) (kX3_copy_ 12 4 13 120 44 4 45 120 cL_12 cL_rows_12 cL_44 cL_rows_44 M3) (xm_gN gm_421) rfl ⟨rfl, rfl⟩ nw_15 (List.mem_cons_of_mem _ gm_1) (List.mem_cons_of_mem _ gm_420) hdX3_copy_ ⟨Nat.le_of_ble_eq_true rfl, Nat.le_of_ble_eq_true rfl⟩ rfl (Nat.le_of_ble_eq_true rfl) rfl dX1_takeOver_41) (fun M4 => ?_)
  refine xm_aload_n hX 0 dX1_takeOver_44 rfl rfl ?_
  refine xm_aload_n hX 1 dX1_takeOver_45 rfl rfl ?_
  refine xm_get hX (k := 1) (ci := 1) (j := 4) (C := RX1) (T := TX1) (N := 11) (v := .int (M4.1 1 4)) cL_1 rfl rfl rfl (by decide) (fun z hz => List.mem_cons_of_mem _ (iw_X1 z hz)) (List.mem_cons_of_mem _ gm_39) dX1_takeOver_46 ?_
  refine xm_puti hX (k := 33) (ci := 1) (j := 4) (C := RX1) (T := TX1) (N := 11) (t0 := tyX1) cL_33 rfl rfl (by decide) (fun z hz => List.mem_cons_of_mem _ (iw_X1 z hz)) tyX1_ok nmX1 rfl rfl (List.mem_cons_of_mem _ gm_39) dX1_takeOver_49 (fun M5 => ?_)
  refine xm_aload_n hX 0 dX1_takeOver_52 rfl rfl ?_
  refine xm_aload_n hX 1 dX1_takeOver_53 rfl rfl ?_
  refine xm_get hX (k := 1) (ci := 1) (j := 5) (C := RX1) (T := TX1) (N := 11) (v := .int (M5.1 1 5)) cL_1 rfl rfl rfl (by decide) (fun z hz => List.mem_cons_of_mem _ (iw_X1 z hz)) (List.mem_cons_of_mem _ gm_42) dX1_takeOver_54 ?_
  refine xm_puti hX (k := 33) (ci := 1) (j := 5) (C := RX1) (T := TX1) (N := 11) (t0 := tyX1) cL_33 rfl rfl (by decide) (fun z hz => List.mem_cons_of_mem _ (iw_X1 z hz)) tyX1_ok nmX1 rfl rfl (List.mem_cons_of_mem _ gm_42) dX1_takeOver_57 (fun M6 => ?_)
  refine xm_aload_n hX 0 dX1_takeOver_60 rfl rfl ?_
  refine xm_aload_n hX 1 dX1_takeOver_61 rfl rfl ?_
  refine xm_get hX (k := 1) (ci := 1) (j := 6) (C := RX1) (T := TX1) (N := 11) (v := .int (M6.1 1 6)) cL_1 rfl rfl rfl (by decide) (fun z hz => List.mem_cons_of_mem _ (iw_X1 z hz)) (List.mem_cons_of_mem _ gm_44) dX1_takeOver_62 ?_
  refine xm_puti hX (k := 33) (ci := 1) (j := 6) (C := RX1) (T := TX1) (N := 11) (t0 := tyX1) cL_33 rfl rfl (by decide) (fun z hz => List.mem_cons_of_mem _ (iw_X1 z hz)) tyX1_ok nmX1 rfl rfl (List.mem_cons_of_mem _ gm_44) dX1_takeOver_65 (fun M7 => ?_)
  refine xm_aload_n hX 0 dX1_takeOver_68 rfl rfl ?_
  refine xm_aload_n hX 1 dX1_takeOver_69 rfl rfl ?_
  refine xm_get hX (k := 1) (ci := 1) (j := 7) (C := RX1) (T := TX1) (N := 11) (v := .int (M7.1 1 7)) cL_1 rfl rfl rfl (by decide) (fun z hz => List.mem_cons_of_mem _ (iw_X1 z hz)) (List.mem_cons_of_mem _ gm_48) dX1_takeOver_70 ?_
  refine xm_puti hX (k := 33) (ci := 1) (j := 7) (C := RX1) (T := TX1) (N := 11) (t0 := tyX1) cL_33 rfl rfl (by decide) (fun z hz => List.mem_cons_of_mem _ (iw_X1 z hz)) tyX1_ok nmX1 rfl rfl (List.mem_cons_of_mem _ gm_48) dX1_takeOver_73 (fun M8 => ?_)
  refine xm_aload_n hX 0 dX1_takeOver_76 rfl rfl ?_
  refine xm_aload_n hX 1 dX1_takeOver_77 rfl rfl ?_
  refine xm_get hX (k := 1) (ci := 1) (j := 8) (C := RX1) (T := TX1) (N := 11) (v := .int (M8.1 1 8)) cL_1 rfl rfl rfl (by decide) (fun z hz => List.mem_cons_of_mem _ (iw_X1 z hz)) (List.mem_cons_of_mem _ gm_51) dX1_takeOver_78 ?_
  refine xm_puti hX (k := 33) (ci := 1) (j := 8) (C := RX1) (T := TX1) (N := 11) (t0 := tyX1) cL_33 rfl rfl (by decide) (fun z hz => List.mem_cons_of_mem _ (iw_X1 z hz)) tyX1_ok nmX1 rfl rfl (List.mem_cons_of_mem _ gm_51) dX1_takeOver_81 (fun M9 => ?_)
  refine xm_aload_n hX 0 dX1_takeOver_84 rfl rfl ?_
  refine xm_aload_n hX 1 dX1_takeOver_85 rfl rfl ?_
  refine xm_get hX (k := 1) (ci := 1) (j := 9) (C := RX1) (T := TX1) (N := 11) (v := .int (M9.1 1 9)) cL_1 rfl rfl rfl (by decide) (fun z hz => List.mem_cons_of_mem _ (iw_X1 z hz)) (List.mem_cons_of_mem _ gm_54) dX1_takeOver_86 ?_
  refine xm_puti hX (k := 33) (ci := 1) (j := 9) (C := RX1) (T := TX1) (N := 11) (t0 := tyX1) cL_33 rfl rfl (by decide) (fun z hz => List.mem_cons_of_mem _ (iw_X1 z hz)) tyX1_ok nmX1 rfl rfl (List.mem_cons_of_mem _ gm_54) dX1_takeOver_89 (fun M10 => ?_)
  exact xm_vret hX dX1_takeOver_92
-- ===== OdometryDesk.save(I)I ['0']
theorem dX3_save_0 : decode cX3_save 0 = .ok (.iload_n 1, 1) := by decide +kernel
theorem dX3_save_1 : decode cX3_save 1 = .ok (.iconst 0, 1) := by decide +kernel
theorem dX3_save_2 : decode cX3_save 2 = .ok (.iconst 1, 1) := by decide +kernel
theorem dX3_save_3 : decode cX3_save 3 = .ok (.invokestatic 66, 3) := by decide +kernel
theorem dX3_save_6 : decode cX3_save 6 = .ok (.ifCond .ne 6, 3) := by decide +kernel
theorem dX3_save_9 : decode cX3_save 9 = .ok (.bipush (-2), 2) := by decide +kernel
theorem dX3_save_11 : decode cX3_save 11 = .ok (.ireturn, 1) := by decide +kernel
theorem dX3_save_12 : decode cX3_save 12 = .ok (.aload_n 0, 1) := by decide +kernel
theorem dX3_save_13 : decode cX3_save 13 = .ok (.iload_n 1, 1) := by decide +kernel
theorem dX3_save_14 : decode cX3_save 14 = .ok (.invokevirtual 197, 3) := by decide +kernel
theorem dX3_save_17 : decode cX3_save 17 = .ok (.astore_n 2, 1) := by decide +kernel
theorem dX3_save_18 : decode cX3_save 18 = .ok (.aload_n 2, 1) := by decide +kernel
theorem dX3_save_19 : decode cX3_save 19 = .ok (.aload_n 0, 1) := by decide +kernel
theorem dX3_save_20 : decode cX3_save 20 = .ok (.getfield 10, 3) := by decide +kernel
theorem dX3_save_23 : decode cX3_save 23 = .ok (.invokevirtual 201, 3) := by decide +kernel
theorem dX3_save_26 : decode cX3_save 26 = .ok (.aload_n 2, 1) := by decide +kernel
theorem dX3_save_27 : decode cX3_save 27 = .ok (.iconst 1, 1) := by decide +kernel
theorem dX3_save_28 : decode cX3_save 28 = .ok (.putfield 205, 3) := by decide +kernel
theorem dX3_save_31 : decode cX3_save 31 = .ok (.aload_n 0, 1) := by decide +kernel
theorem dX3_save_32 : decode cX3_save 32 = .ok (.getfield 10, 3) := by decide +kernel
theorem dX3_save_35 : decode cX3_save 35 = .ok (.getfield 106, 3) := by decide +kernel
theorem dX3_save_38 : decode cX3_save 38 = .ok (.ireturn, 1) := by decide +kernel
abbrev wX3_save : List Cond := .code yX3_save cX3_save 3 (some .int) :: lw_gd
theorem hdX3_save : (yX3_save.cls ≠ "java/lang/invoke/MethodHandle" ∧ yX3_save.cls ≠ "java/lang/invoke/VarHandle" ∧ (parseMethodDescriptor yX3_save.desc).map (fun d => d.parameters.length) = some 1) := by decide +kernel
def fX3_save  (a1 : Int32) (M : xm_M) : Option (Int32 × xm_M) :=
  xm_bi (fX3_isWithin a1 ((0 : Int32)) ((1 : Int32)) M) (fun x2 M1 => if x2 = 0 then some ((-2 : Int32), M1) else xm_br (fX3_slotOf a1 M1) (fun x4 M3 => if x4 = 17 then xm_bv (fX1_takeOver_17_1 M3) (fun M5 => if ((1 : Int32)) = 0 ∨ ((1 : Int32)) = 1 then xm_lt (xm_s M5 17 10 ((1 : Int32))) (fun M6 => some (M6.1 1 6, M6)) else none) else if x4 = 33 then xm_bv (fX1_takeOver_33_1 M3) (fun M8 => if ((1 : Int32)) = 0 ∨ ((1 : Int32)) = 1 then xm_lt (xm_s M8 33 10 ((1 : Int32))) (fun M9 => some (M9.1 1 6, M9)) else none) else none))
set_option maxRecDepth 20000 in
theorem kX3_save {l : Launch}   (a1 : Int32) (M : xm_M) : xm_C l yX3_save wX3_save ({ frames := 4, cells := 0, slots := 0, locals := 82 }) cL (fun g => [.ref (g.1 0), .int a1]) M xm_Fi (fX3_save  a1 M) := by
  refine xm_C.of (by decide) rfl (fun g => Nat.le_of_ble_eq_true rfl) ?_
  intro p e s m args below meth c D g A hX
  refine xm_lv (lv' := [(0, .ref (g.1 0)), (1, .int a1)]) rfl ?_
  unfold fX3_save
  refine xm_iload_n hX 1 dX3_save_0 rfl rfl ?_
  refine xm_iconst hX (v := 0) rfl dX3_save_1 ?_
  refine xm_iconst hX (v := 1) rfl dX3_save_2 ?_
  refine xm_calli hX (xm_runS hX (As := (fun g => [.int a1, .int ((0 : Int32)), .int ((1 : Int32))])) (kX3_isWithin a1 ((0 : Int32)) ((1 : Int32)) M) (xm_gS gm_150 gm_151 gm_1 gm_152) rfl ⟨rfl, rfl⟩ hdX3_isWithin ⟨Nat.le_of_ble_eq_true rfl, Nat.le_of_ble_eq_true rfl⟩ rfl (Nat.le_of_ble_eq_true rfl) rfl dX3_save_3) (fun x2 M1 => ?_)
  refine xm_if_ne hX (tgt := 12) dX3_save_6 rfl ?_ ?_
  · refine xm_aload_n hX 0 dX3_save_12 rfl rfl ?_
    refine xm_iload_n hX 1 dX3_save_13 rfl rfl ?_
    refine xm_callr hX (xm_runV hX (k := 0) (ci := 3) (As := (fun g => [.int a1])) (kX3_slotOf a1 M1) cL_0 rfl (xm_gV gm_413 gm_414 gm_712 gm_1 gm_415) rfl ⟨rfl, rfl⟩ ⟨rfl, hdX3_slotOf⟩ ⟨Nat.le_of_ble_eq_true rfl, Nat.le_of_ble_eq_true rfl⟩ rfl (Nat.le_of_ble_eq_true rfl) rfl dX3_save_14) (fun x4 M3 => ?_)
    refine xm_ite (fun z7 => ?_) (fun _ => ?_)
    · rw [z7]
      refine xm_astore_n hX (lv' := [(2, .ref (g.1 17)), (0, .ref (g.1 0)), (1, .int a1)]) dX3_save_17 rfl (by decide) rfl ?_
      refine xm_aload_n hX 0 dX3_save_18 rfl rfl ?_
      refine xm_aload_n hX 1 dX3_save_19 rfl rfl ?_
      refine xm_get hX (k := 0) (ci := 3) (j := 0) (C := RX3) (T := TX3) (N := 6) (v := .ref (g.1 1)) cL_0 rfl rfl rfl (by decide) (fun z hz => List.mem_cons_of_mem _ (iw_X3 z hz)) (List.mem_cons_of_mem _ gm_129) dX3_save_20 ?_
      refine xm_callv hX (xm_runV hX (k := 17) (ci := 1) (As := (fun g => [.ref (g.1 1)])) (kX1_takeOver_17_1 M3) cL_17 rfl (xm_gV gm_416 gm_417 gm_418 gm_2 gm_419) rfl ⟨rfl, rfl⟩ ⟨rfl, hdX1_takeOver⟩ ⟨Nat.le_of_ble_eq_true rfl, Nat.le_of_ble_eq_true rfl⟩ rfl (Nat.le_of_ble_eq_true rfl) rfl dX3_save_23) (fun M5 => ?_)
      refine xm_aload_n hX 0 dX3_save_26 rfl rfl ?_
      refine xm_iconst hX (v := 1) rfl dX3_save_27 ?_
      refine xm_putz hX (k := 17) (ci := 1) (j := 10) (C := RX1) (T := TX1) (N := 11) (t0 := tyX1) cL_17 rfl rfl (by decide) (fun z hz => List.mem_cons_of_mem _ (iw_X1 z hz)) tyX1_ok nmX1 rfl rfl (List.mem_cons_of_mem _ gm_56) dX3_save_28 (fun M6 => ?_)
      refine xm_aload_n hX 1 dX3_save_31 rfl rfl ?_
      refine xm_get hX (k := 0) (ci := 3) (j := 0) (C := RX3) (T := TX3) (N := 6) (v := .ref (g.1 1)) cL_0 rfl rfl rfl (by decide) (fun z hz => List.mem_cons_of_mem _ (iw_X3 z hz)) (List.mem_cons_of_mem _ gm_129) dX3_save_32 ?_
      refine xm_get hX (k := 1) (ci := 1) (j := 6) (C := RX1) (T := TX1) (N := 11) (v := .int (M6.1 1 6)) cL_1 rfl rfl rfl (by decide) (fun z hz => List.mem_cons_of_mem _ (iw_X1 z hz)) (List.mem_cons_of_mem _ gm_46) dX3_save_35 ?_
      exact xm_iret hX dX3_save_38
    refine xm_ite (fun z10 => ?_) (fun _ => ?_)
    · rw [z10]
      refine xm_astore_n hX (lv' := [(2, .ref (g.1 33)), (0, .ref (g.1 0)), (1, .int a1)]) dX3_save_17 rfl (by decide) rfl ?_
      refine xm_aload_n hX 0 dX3_save_18 rfl rfl ?_
      refine xm_aload_n hX 1 dX3_save_19 rfl rfl ?_
      refine xm_get hX (k := 0) (ci := 3) (j := 0) (C := RX3) (T := TX3) (N := 6) (v := .ref (g.1 1)) cL_0 rfl rfl rfl (by decide) (fun z hz => List.mem_cons_of_mem _ (iw_X3 z hz)) (List.mem_cons_of_mem _ gm_129) dX3_save_20 ?_
      refine xm_callv hX (xm_runV hX (k := 33) (ci := 1) (As := (fun g => [.ref (g.1 1)])) (kX1_takeOver_33_1 M3) cL_33 rfl (xm_gV gm_416 gm_417 gm_418 gm_2 gm_419) rfl ⟨rfl, rfl⟩ ⟨rfl, hdX1_takeOver⟩ ⟨Nat.le_of_ble_eq_true rfl, Nat.le_of_ble_eq_true rfl⟩ rfl (Nat.le_of_ble_eq_true rfl) rfl dX3_save_23) (fun M8 => ?_)
      refine xm_aload_n hX 0 dX3_save_26 rfl rfl ?_
      refine xm_iconst hX (v := 1) rfl dX3_save_27 ?_
      refine xm_putz hX (k := 33) (ci := 1) (j := 10) (C := RX1) (T := TX1) (N := 11) (t0 := tyX1) cL_33 rfl rfl (by decide) (fun z hz => List.mem_cons_of_mem _ (iw_X1 z hz)) tyX1_ok nmX1 rfl rfl (List.mem_cons_of_mem _ gm_56) dX3_save_28 (fun M9 => ?_)
      refine xm_aload_n hX 1 dX3_save_31 rfl rfl ?_
      refine xm_get hX (k := 0) (ci := 3) (j := 0) (C := RX3) (T := TX3) (N := 6) (v := .ref (g.1 1)) cL_0 rfl rfl rfl (by decide) (fun z hz => List.mem_cons_of_mem _ (iw_X3 z hz)) (List.mem_cons_of_mem _ gm_129) dX3_save_32 ?_
      refine xm_get hX (k := 1) (ci := 1) (j := 6) (C := RX1) (T := TX1) (N := 11) (v := .int (M9.1 1 6)) cL_1 rfl rfl rfl (by decide) (fun z hz => List.mem_cons_of_mem _ (iw_X1 z hz)) (List.mem_cons_of_mem _ gm_46) dX3_save_35 ?_
      exact xm_iret hX dX3_save_38
    exact xm_none
  · refine xm_bipush hX (v := -2) rfl dX3_save_9 ?_
    exact xm_iret hX dX3_save_11
-- ===== OdometryDesk.see(I)I ['0']
theorem dX3_see_0 : decode cX3_see 0 = .ok (.aload_n 0, 1) := by decide +kernel
theorem dX3_see_1 : decode cX3_see 1 = .ok (.getfield 10, 3) := by decide +kernel
theorem dX3_see_4 : decode cX3_see 4 = .ok (.iload_n 1, 1) := by decide +kernel
theorem dX3_see_5 : decode cX3_see 5 = .ok (.invokevirtual 113, 3) := by decide +kernel
theorem dX3_see_8 : decode cX3_see 8 = .ok (.ireturn, 1) := by decide +kernel
abbrev wX3_see : List Cond := .code yX3_see cX3_see 2 (some .int) :: lw_gd
theorem hdX3_see : (yX3_see.cls ≠ "java/lang/invoke/MethodHandle" ∧ yX3_see.cls ≠ "java/lang/invoke/VarHandle" ∧ (parseMethodDescriptor yX3_see.desc).map (fun d => d.parameters.length) = some 1) := by decide +kernel
def fX3_see  (a1 : Int32) (M : xm_M) : Option (Int32 × xm_M) :=
  xm_bi (fX1_addSight a1 M) (fun x2 M1 => some (x2, M1))
set_option maxRecDepth 20000 in
theorem kX3_see {l : Launch}   (a1 : Int32) (M : xm_M) : xm_C l yX3_see wX3_see ({ frames := 2, cells := 0, slots := 0, locals := 44 }) cL (fun g => [.ref (g.1 0), .int a1]) M xm_Fi (fX3_see  a1 M) := by
  refine xm_C.of (by decide) rfl (fun g => Nat.le_of_ble_eq_true rfl) ?_
  intro p e s m args below meth c D g A hX
  refine xm_lv (lv' := [(0, .ref (g.1 0)), (1, .int a1)]) rfl ?_
  unfold fX3_see
  refine xm_aload_n hX 0 dX3_see_0 rfl rfl ?_
  refine xm_get hX (k := 0) (ci := 3) (j := 0) (C := RX3) (T := TX3) (N := 6) (v := .ref (g.1 1)) cL_0 rfl rfl rfl (by decide) (fun z hz => List.mem_cons_of_mem _ (iw_X3 z hz)) (List.mem_cons_of_mem _ gm_129) dX3_see_1 ?_
  refine xm_iload_n hX 1 dX3_see_4 rfl rfl ?_
  refine xm_calli hX (xm_runV hX (k := 1) (ci := 1) (As := (fun g => [.int a1])) (kX1_addSight a1 M) cL_1 rfl (xm_gV gm_204 gm_205 gm_206 gm_2 gm_207) rfl ⟨rfl, rfl⟩ ⟨rfl, hdX1_addSight⟩ ⟨Nat.le_of_ble_eq_true rfl, Nat.le_of_ble_eq_true rfl⟩ rfl (Nat.le_of_ble_eq_true rfl) rfl dX3_see_5) (fun x2 M1 => ?_)
  exact xm_iret hX dX3_see_8
-- ===== OdometryDesk.set(II)I ['0']
theorem dX3_set_0 : decode cX3_set 0 = .ok (.iload_n 1, 1) := by decide +kernel
theorem dX3_set_1 : decode cX3_set 1 = .ok (.iload_n 2, 1) := by decide +kernel
theorem dX3_set_2 : decode cX3_set 2 = .ok (.invokestatic 48, 3) := by decide +kernel
theorem dX3_set_5 : decode cX3_set 5 = .ok (.ifCond .ne 6, 3) := by decide +kernel
theorem dX3_set_8 : decode cX3_set 8 = .ok (.bipush (-2), 2) := by decide +kernel
theorem dX3_set_10 : decode cX3_set 10 = .ok (.ireturn, 1) := by decide +kernel
theorem dX3_set_11 : decode cX3_set 11 = .ok (.aload_n 0, 1) := by decide +kernel
theorem dX3_set_12 : decode cX3_set 12 = .ok (.getfield 10, 3) := by decide +kernel
theorem dX3_set_15 : decode cX3_set 15 = .ok (.getfield 52, 3) := by decide +kernel
theorem dX3_set_18 : decode cX3_set 18 = .ok (.iload_n 1, 1) := by decide +kernel
theorem dX3_set_19 : decode cX3_set 19 = .ok (.invokestatic 55, 3) := by decide +kernel
theorem dX3_set_22 : decode cX3_set 22 = .ok (.istore_n 3, 1) := by decide +kernel
theorem dX3_set_23 : decode cX3_set 23 = .ok (.aload_n 0, 1) := by decide +kernel
theorem dX3_set_24 : decode cX3_set 24 = .ok (.getfield 10, 3) := by decide +kernel
theorem dX3_set_27 : decode cX3_set 27 = .ok (.getfield 52, 3) := by decide +kernel
theorem dX3_set_30 : decode cX3_set 30 = .ok (.iload_n 1, 1) := by decide +kernel
theorem dX3_set_31 : decode cX3_set 31 = .ok (.iload_n 2, 1) := by decide +kernel
theorem dX3_set_32 : decode cX3_set 32 = .ok (.invokestatic 59, 3) := by decide +kernel
theorem dX3_set_35 : decode cX3_set 35 = .ok (.iload_n 3, 1) := by decide +kernel
theorem dX3_set_36 : decode cX3_set 36 = .ok (.ireturn, 1) := by decide +kernel
abbrev wX3_set : List Cond := .code yX3_set cX3_set 4 (some .int) :: lw_gd
theorem hdX3_set : (yX3_set.cls ≠ "java/lang/invoke/MethodHandle" ∧ yX3_set.cls ≠ "java/lang/invoke/VarHandle" ∧ (parseMethodDescriptor yX3_set.desc).map (fun d => d.parameters.length) = some 2) := by decide +kernel
def fX3_set  (a1 : Int32) (a2 : Int32) (M : xm_M) : Option (Int32 × xm_M) :=
  xm_bi (fX3_isSetting a1 a2 M) (fun x2 M1 => if x2 = 0 then some ((-2 : Int32), M1) else xm_bi (fX3_item 2 9 a1 M1) (fun x4 M3 => xm_bv (fX3_keep 2 9 a1 a2 M3) (fun M5 => some (x4, M5))))
set_option maxRecDepth 20000 in
theorem kX3_set {l : Launch}   (a1 : Int32) (a2 : Int32) (M : xm_M) : xm_C l yX3_set wX3_set ({ frames := 2, cells := 0, slots := 0, locals := 43 }) cL (fun g => [.ref (g.1 0), .int a1, .int a2]) M xm_Fi (fX3_set  a1 a2 M) := by
  refine xm_C.of (by decide) rfl (fun g => Nat.le_of_ble_eq_true rfl) ?_
  intro p e s m args below meth c D g A hX
  refine xm_lv (lv' := [(0, .ref (g.1 0)), (1, .int a1), (2, .int a2)]) rfl ?_
  unfold fX3_set
  refine xm_iload_n hX 1 dX3_set_0 rfl rfl ?_
  refine xm_iload_n hX 2 dX3_set_1 rfl rfl ?_
  refine xm_calli hX (xm_runS hX (As := (fun g => [.int a1, .int a2])) (kX3_isSetting a1 a2 M) (xm_gS gm_145 gm_146 gm_1 gm_147) rfl ⟨rfl, rfl⟩ hdX3_isSetting ⟨Nat.le_of_ble_eq_true rfl, Nat.le_of_ble_eq_true rfl⟩ rfl (Nat.le_of_ble_eq_true rfl) rfl dX3_set_2) (fun x2 M1 => ?_)
  refine xm_if_ne hX (tgt := 11) dX3_set_5 rfl ?_ ?_
  · refine xm_aload_n hX 0 dX3_set_11 rfl rfl ?_
    refine xm_get hX (k := 0) (ci := 3) (j := 0) (C := RX3) (T := TX3) (N := 6) (v := .ref (g.1 1)) cL_0 rfl rfl rfl (by decide) (fun z hz => List.mem_cons_of_mem _ (iw_X3 z hz)) (List.mem_cons_of_mem _ gm_129) dX3_set_12 ?_
    refine xm_get hX (k := 1) (ci := 1) (j := 0) (C := RX1) (T := TX1) (N := 11) (v := .ref (g.1 2)) cL_1 rfl rfl rfl (by decide) (fun z hz => List.mem_cons_of_mem _ (iw_X1 z hz)) (List.mem_cons_of_mem _ gm_30) dX3_set_15 ?_
    refine xm_iload_n hX 1 dX3_set_18 rfl rfl ?_
    refine xm_calli hX (xm_runS hX (As := (fun g => [.ref (g.1 2), .int a1])) (kX3_item 2 9 cL_2 a1 M1) (xm_gS gm_153 gm_154 gm_1 gm_155) rfl ⟨rfl, rfl⟩ hdX3_item ⟨Nat.le_of_ble_eq_true rfl, Nat.le_of_ble_eq_true rfl⟩ rfl (Nat.le_of_ble_eq_true rfl) rfl dX3_set_19) (fun x4 M3 => ?_)
    refine xm_istore_n hX (lv' := [(3, .int x4), (0, .ref (g.1 0)), (1, .int a1), (2, .int a2)]) dX3_set_22 rfl (by decide) rfl ?_
    refine xm_aload_n hX 1 dX3_set_23 rfl rfl ?_
    refine xm_get hX (k := 0) (ci := 3) (j := 0) (C := RX3) (T := TX3) (N := 6) (v := .ref (g.1 1)) cL_0 rfl rfl rfl (by decide) (fun z hz => List.mem_cons_of_mem _ (iw_X3 z hz)) (List.mem_cons_of_mem _ gm_129) dX3_set_24 ?_
    refine xm_get hX (k := 1) (ci := 1) (j := 0) (C := RX1) (T := TX1) (N := 11) (v := .ref (g.1 2)) cL_1 rfl rfl rfl (by decide) (fun z hz => List.mem_cons_of_mem _ (iw_X1 z hz)) (List.mem_cons_of_mem _ gm_30) dX3_set_27 ?_
    refine xm_iload_n hX 2 dX3_set_30 rfl rfl ?_
    refine xm_iload_n hX 3 dX3_set_31 rfl rfl ?_
    refine xm_callv hX (xm_runS hX (As := (fun g => [.ref (g.1 2), .int a1, .int a2])) (kX3_keep 2 9 cL_2 a1 a2 M3) (xm_gS gm_156 gm_157 gm_1 gm_158) rfl ⟨rfl, rfl⟩ hdX3_keep ⟨Nat.le_of_ble_eq_true rfl, Nat.le_of_ble_eq_true rfl⟩ rfl (Nat.le_of_ble_eq_true rfl) rfl dX3_set_32) (fun M5 => ?_)
    refine xm_iload_n hX 0 dX3_set_35 rfl rfl ?_
    exact xm_iret hX dX3_set_36
  · refine xm_bipush hX (v := -2) rfl dX3_set_8 ?_
    exact xm_iret hX dX3_set_10
-- ===== OdometryDesk.step(III)I ['0']
theorem dX3_step_0 : decode cX3_step 0 = .ok (.aload_n 0, 1) := by decide +kernel
theorem dX3_step_1 : decode cX3_step 1 = .ok (.getfield 10, 3) := by decide +kernel
theorem dX3_step_4 : decode cX3_step 4 = .ok (.iload_n 1, 1) := by decide +kernel
theorem dX3_step_5 : decode cX3_step 5 = .ok (.iload_n 2, 1) := by decide +kernel
theorem dX3_step_6 : decode cX3_step 6 = .ok (.iload_n 3, 1) := by decide +kernel
theorem dX3_step_7 : decode cX3_step 7 = .ok (.invokevirtual 109, 3) := by decide +kernel
theorem dX3_step_10 : decode cX3_step 10 = .ok (.ireturn, 1) := by decide +kernel
abbrev wX3_step : List Cond := .code yX3_step cX3_step 4 (some .int) :: lw_gd
theorem hdX3_step : (yX3_step.cls ≠ "java/lang/invoke/MethodHandle" ∧ yX3_step.cls ≠ "java/lang/invoke/VarHandle" ∧ (parseMethodDescriptor yX3_step.desc).map (fun d => d.parameters.length) = some 3) := by decide +kernel
def fX3_step  (a1 : Int32) (a2 : Int32) (a3 : Int32) (M : xm_M) : Option (Int32 × xm_M) :=
  xm_bi (fX1_addStep a1 a2 a3 M) (fun x2 M1 => some (x2, M1))
set_option maxRecDepth 20000 in
theorem kX3_step {l : Launch}   (a1 : Int32) (a2 : Int32) (a3 : Int32) (M : xm_M) : xm_C l yX3_step wX3_step ({ frames := 2, cells := 0, slots := 0, locals := 46 }) cL (fun g => [.ref (g.1 0), .int a1, .int a2, .int a3]) M xm_Fi (fX3_step  a1 a2 a3 M) := by
  refine xm_C.of (by decide) rfl (fun g => Nat.le_of_ble_eq_true rfl) ?_
  intro p e s m args below meth c D g A hX
  refine xm_lv (lv' := [(0, .ref (g.1 0)), (1, .int a1), (2, .int a2), (3, .int a3)]) rfl ?_
  unfold fX3_step
  refine xm_aload_n hX 0 dX3_step_0 rfl rfl ?_
  refine xm_get hX (k := 0) (ci := 3) (j := 0) (C := RX3) (T := TX3) (N := 6) (v := .ref (g.1 1)) cL_0 rfl rfl rfl (by decide) (fun z hz => List.mem_cons_of_mem _ (iw_X3 z hz)) (List.mem_cons_of_mem _ gm_129) dX3_step_1 ?_
  refine xm_iload_n hX 1 dX3_step_4 rfl rfl ?_
  refine xm_iload_n hX 2 dX3_step_5 rfl rfl ?_
  refine xm_iload_n hX 3 dX3_step_6 rfl rfl ?_
  refine xm_calli hX (xm_runV hX (k := 1) (ci := 1) (As := (fun g => [.int a1, .int a2, .int a3])) (kX1_addStep a1 a2 a3 M) cL_1 rfl (xm_gV gm_194 gm_195 gm_196 gm_2 gm_197) rfl ⟨rfl, rfl⟩ ⟨rfl, hdX1_addStep⟩ ⟨Nat.le_of_ble_eq_true rfl, Nat.le_of_ble_eq_true rfl⟩ rfl (Nat.le_of_ble_eq_true rfl) rfl dX3_step_7) (fun x2 M1 => ?_)
  exact xm_iret hX dX3_step_10
-- ===== OdometryDesk.wave(II)I ['0']
theorem dX3_wave_0 : decode cX3_wave 0 = .ok (.iload_n 1, 1) := by decide +kernel
theorem dX3_wave_1 : decode cX3_wave 1 = .ok (.iconst 0, 1) := by decide +kernel
theorem dX3_wave_2 : decode cX3_wave 2 = .ok (.ldc 149, 2) := by decide +kernel
theorem dX3_wave_4 : decode cX3_wave 4 = .ok (.invokestatic 66, 3) := by decide +kernel
theorem dX3_wave_7 : decode cX3_wave 7 = .ok (.ifCond .eq 12, 3) := by decide +kernel
theorem dX3_wave_10 : decode cX3_wave 10 = .ok (.iload_n 2, 1) := by decide +kernel
theorem dX3_wave_11 : decode cX3_wave 11 = .ok (.iconst 0, 1) := by decide +kernel
theorem dX3_wave_12 : decode cX3_wave 12 = .ok (.iconst 1, 1) := by decide +kernel
theorem dX3_wave_13 : decode cX3_wave 13 = .ok (.invokestatic 66, 3) := by decide +kernel
theorem dX3_wave_16 : decode cX3_wave 16 = .ok (.ifCond .ne 6, 3) := by decide +kernel
theorem dX3_wave_19 : decode cX3_wave 19 = .ok (.ldc 118, 2) := by decide +kernel
theorem dX3_wave_21 : decode cX3_wave 21 = .ok (.ireturn, 1) := by decide +kernel
theorem dX3_wave_22 : decode cX3_wave 22 = .ok (.iload_n 2, 1) := by decide +kernel
theorem dX3_wave_23 : decode cX3_wave 23 = .ok (.ifCond .ne 7, 3) := by decide +kernel
theorem dX3_wave_26 : decode cX3_wave 26 = .ok (.iload_n 1, 1) := by decide +kernel
theorem dX3_wave_27 : decode cX3_wave 27 = .ok (.goto 7, 3) := by decide +kernel
theorem dX3_wave_30 : decode cX3_wave 30 = .ok (.iload_n 1, 1) := by decide +kernel
theorem dX3_wave_31 : decode cX3_wave 31 = .ok (.invokestatic 150, 3) := by decide +kernel
theorem dX3_wave_34 : decode cX3_wave 34 = .ok (.invokestatic 153, 3) := by decide +kernel
theorem dX3_wave_37 : decode cX3_wave 37 = .ok (.ireturn, 1) := by decide +kernel
abbrev wX3_wave : List Cond := .code yX3_wave cX3_wave 3 (some .int) :: lw_gd
theorem hdX3_wave : (yX3_wave.cls ≠ "java/lang/invoke/MethodHandle" ∧ yX3_wave.cls ≠ "java/lang/invoke/VarHandle" ∧ (parseMethodDescriptor yX3_wave.desc).map (fun d => d.parameters.length) = some 2) := by decide +kernel
def fX3_wave_34   (s0 : Int32) (M : xm_M) : Option (Int32 × xm_M) :=
  xm_bi (fX3_sine s0 M) (fun x8 M7 => some (x8, M7))
set_option maxRecDepth 20000 in
theorem tfX3_wave_34 {p : Program} {l : Launch} {e : Env} {s : State} {m : MethodId} {args : Array Value} {below : List Frame} {meth : Method} {c : Code} {D : va_G} {g : xm_G} {A : Nat → Prop} (hX : xm_X p m meth c cX3_wave 3 s args wX3_wave RX3 (some .int) D cL g A)     : ∀ (s0 : Int32), ∀ (M : xm_M), xm_J p l e ({ frames := 2, cells := 0, slots := 0, locals := 48 }) s m args below meth c 3 D cL g A (xm_Fi g) 34 [] [.int s0] M (fX3_wave_34 s0 M) := by
  intro s0 M
  unfold fX3_wave_34
  refine xm_calli hX (xm_runS hX (As := (fun g => [.int s0])) (kX3_sine s0 M) (xm_gS gm_331 gm_271 gm_1 gm_272) rfl ⟨rfl, rfl⟩ hdX3_sine ⟨Nat.le_of_ble_eq_true rfl, Nat.le_of_ble_eq_true rfl⟩ rfl (Nat.le_of_ble_eq_true rfl) rfl dX3_wave_34) (fun x8 M7 => ?_)
  exact xm_iret hX dX3_wave_37
def fX3_wave  (a1 : Int32) (a2 : Int32) (M : xm_M) : Option (Int32 × xm_M) :=
  xm_bi (fX3_isWithin a1 ((0 : Int32)) ((35999 : Int32)) M) (fun x2 M1 => if x2 = 0 then some ((-1000000002 : Int32), M1) else xm_bi (fX3_isWithin a2 ((0 : Int32)) ((1 : Int32)) M1) (fun x4 M3 => if x4 = 0 then some ((-1000000002 : Int32), M3) else if a2 = 0 then fX3_wave_34 a1 M3 else xm_bi (fX3_angleOfCosine a1 M3) (fun x6 M5 => fX3_wave_34 x6 M5)))
set_option maxRecDepth 20000 in
theorem kX3_wave {l : Launch}   (a1 : Int32) (a2 : Int32) (M : xm_M) : xm_C l yX3_wave wX3_wave ({ frames := 2, cells := 0, slots := 0, locals := 48 }) cL (fun g => [.ref (g.1 0), .int a1, .int a2]) M xm_Fi (fX3_wave  a1 a2 M) := by
  refine xm_C.of (by decide) rfl (fun g => Nat.le_of_ble_eq_true rfl) ?_
  intro p e s m args below meth c D g A hX
  refine xm_lv (lv' := [(0, .ref (g.1 0)), (1, .int a1), (2, .int a2)]) rfl ?_
  unfold fX3_wave
  refine xm_iload_n hX 1 dX3_wave_0 rfl rfl ?_
  refine xm_iconst hX (v := 0) rfl dX3_wave_1 ?_
  refine xm_ldc hX (v := 35999) (List.mem_cons_of_mem _ gm_329) dX3_wave_2 ?_
  refine xm_calli hX (xm_runS hX (As := (fun g => [.int a1, .int ((0 : Int32)), .int ((35999 : Int32))])) (kX3_isWithin a1 ((0 : Int32)) ((35999 : Int32)) M) (xm_gS gm_150 gm_151 gm_1 gm_152) rfl ⟨rfl, rfl⟩ hdX3_isWithin ⟨Nat.le_of_ble_eq_true rfl, Nat.le_of_ble_eq_true rfl⟩ rfl (Nat.le_of_ble_eq_true rfl) rfl dX3_wave_4) (fun x2 M1 => ?_)
  refine xm_if_eq hX (tgt := 19) dX3_wave_7 rfl ?_ ?_
  · refine xm_ldc hX (v := -1000000002) (List.mem_cons_of_mem _ gm_217) dX3_wave_19 ?_
    exact xm_iret hX dX3_wave_21
  · refine xm_iload_n hX 2 dX3_wave_10 rfl rfl ?_
    refine xm_iconst hX (v := 0) rfl dX3_wave_11 ?_
    refine xm_iconst hX (v := 1) rfl dX3_wave_12 ?_
    refine xm_calli hX (xm_runS hX (As := (fun g => [.int a2, .int ((0 : Int32)), .int ((1 : Int32))])) (kX3_isWithin a2 ((0 : Int32)) ((1 : Int32)) M1) (xm_gS gm_150 gm_151 gm_1 gm_152) rfl ⟨rfl, rfl⟩ hdX3_isWithin ⟨Nat.le_of_ble_eq_true rfl, Nat.le_of_ble_eq_true rfl⟩ rfl (Nat.le_of_ble_eq_true rfl) rfl dX3_wave_13) (fun x4 M3 => ?_)
    refine xm_if_ne hX (tgt := 22) dX3_wave_16 rfl ?_ ?_
    · refine xm_iload_n hX 2 dX3_wave_22 rfl rfl ?_
      refine xm_if_ne hX (tgt := 30) dX3_wave_23 rfl ?_ ?_
      · refine xm_iload_n hX 1 dX3_wave_30 rfl rfl ?_
        refine xm_calli hX (xm_runS hX (As := (fun g => [.int a1])) (kX3_angleOfCosine a1 M3) (xm_gS gm_330 gm_268 gm_1 gm_269) rfl ⟨rfl, rfl⟩ hdX3_angleOfCosine ⟨Nat.le_of_ble_eq_true rfl, Nat.le_of_ble_eq_true rfl⟩ rfl (Nat.le_of_ble_eq_true rfl) rfl dX3_wave_31) (fun x6 M5 => ?_)
        refine xm_weak [] (lv' := []) rfl ?_
        exact tfX3_wave_34 hX x6 M5
      · refine xm_iload_n hX 1 dX3_wave_26 rfl rfl ?_
        refine xm_goto hX (tgt := 34) dX3_wave_27 rfl ?_
        refine xm_weak [] (lv' := []) rfl ?_
        exact tfX3_wave_34 hX a1 M3
    · refine xm_ldc hX (v := -1000000002) (List.mem_cons_of_mem _ gm_217) dX3_wave_19 ?_
      exact xm_iret hX dX3_wave_21
-- ===== OdometryDesk.wipe()I ['0']
theorem dX3_wipe_0 : decode cX3_wipe 0 = .ok (.aload_n 0, 1) := by decide +kernel
theorem dX3_wipe_1 : decode cX3_wipe 1 = .ok (.getfield 32, 3) := by decide +kernel
theorem dX3_wipe_4 : decode cX3_wipe 4 = .ok (.getfield 145, 3) := by decide +kernel
theorem dX3_wipe_7 : decode cX3_wipe 7 = .ok (.istore_n 1, 1) := by decide +kernel
theorem dX3_wipe_8 : decode cX3_wipe 8 = .ok (.aload_n 0, 1) := by decide +kernel
theorem dX3_wipe_9 : decode cX3_wipe 9 = .ok (.getfield 32, 3) := by decide +kernel
theorem dX3_wipe_12 : decode cX3_wipe 12 = .ok (.iconst 0, 1) := by decide +kernel
theorem dX3_wipe_13 : decode cX3_wipe 13 = .ok (.putfield 145, 3) := by decide +kernel
theorem dX3_wipe_16 : decode cX3_wipe 16 = .ok (.iload_n 1, 1) := by decide +kernel
theorem dX3_wipe_17 : decode cX3_wipe 17 = .ok (.ireturn, 1) := by decide +kernel
abbrev wX3_wipe : List Cond := .code yX3_wipe cX3_wipe 2 (some .int) :: lw_gd
theorem hdX3_wipe : (yX3_wipe.cls ≠ "java/lang/invoke/MethodHandle" ∧ yX3_wipe.cls ≠ "java/lang/invoke/VarHandle" ∧ (parseMethodDescriptor yX3_wipe.desc).map (fun d => d.parameters.length) = some 0) := by decide +kernel
def fX3_wipe   (M : xm_M) : Option (Int32 × xm_M) :=
  xm_lt (M.1 69 1) (fun x1 => xm_lt (xm_s M 69 1 ((0 : Int32))) (fun M2 => some (x1, M2)))
set_option maxRecDepth 20000 in
theorem kX3_wipe {l : Launch}    (M : xm_M) : xm_C l yX3_wipe wX3_wipe ({ frames := 0, cells := 0, slots := 0, locals := 0 }) cL (fun g => [.ref (g.1 0)]) M xm_Fi (fX3_wipe   M) := by
  refine xm_C.of (by decide) rfl (fun g => Nat.le_of_ble_eq_true rfl) ?_
  intro p e s m args below meth c D g A hX
  refine xm_lv (lv' := [(0, .ref (g.1 0))]) rfl ?_
  unfold fX3_wipe
  refine xm_aload_n hX 0 dX3_wipe_0 rfl rfl ?_
  refine xm_get hX (k := 0) (ci := 3) (j := 4) (C := RX3) (T := TX3) (N := 6) (v := .ref (g.1 69)) cL_0 rfl rfl rfl (by decide) (fun z hz => List.mem_cons_of_mem _ (iw_X3 z hz)) (List.mem_cons_of_mem _ gm_133) dX3_wipe_1 ?_
  refine xm_get hX (k := 69) (ci := 0) (j := 1) (C := RX0) (T := TX0) (N := 5) (v := .int (M.1 69 1)) cL_69 rfl rfl rfl (by decide) (fun z hz => List.mem_cons_of_mem _ (iw_X0 z hz)) (List.mem_cons_of_mem _ gm_114) dX3_wipe_4 ?_
  refine xm_nmi (fun x1 => ?_)
  refine xm_istore_n hX (lv' := [(1, .int x1), (0, .ref (g.1 0))]) dX3_wipe_7 rfl (by decide) rfl ?_
  refine xm_aload_n hX 1 dX3_wipe_8 rfl rfl ?_
  refine xm_get hX (k := 0) (ci := 3) (j := 4) (C := RX3) (T := TX3) (N := 6) (v := .ref (g.1 69)) cL_0 rfl rfl rfl (by decide) (fun z hz => List.mem_cons_of_mem _ (iw_X3 z hz)) (List.mem_cons_of_mem _ gm_133) dX3_wipe_9 ?_
  refine xm_iconst hX (v := 0) rfl dX3_wipe_12 ?_
  refine xm_puti hX (k := 69) (ci := 0) (j := 1) (C := RX0) (T := TX0) (N := 5) (t0 := tyX0) cL_69 rfl rfl (by decide) (fun z hz => List.mem_cons_of_mem _ (iw_X0 z hz)) tyX0_ok nmX0 rfl rfl (List.mem_cons_of_mem _ gm_114) dX3_wipe_13 (fun M2 => ?_)
  refine xm_iload_n hX 0 dX3_wipe_16 rfl rfl ?_
  exact xm_iret hX dX3_wipe_17
end
