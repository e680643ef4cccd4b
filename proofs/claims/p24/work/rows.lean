section
-- ===== PART A: goes FIRST, ahead of the names: the tables' words, and 'selects' of the private methods out of them =====
/-- a private method of a class that the tables say can be made, by its rows of tables_1 -/
def lw_okq (q : MethodName × Nat) : Prop := (q.1.cls ≠ "java/lang/invoke/MethodHandle" ∧ q.1.cls ≠ "java/lang/invoke/VarHandle") ∧ Cond.instantiable q.1.cls q.2 ∈ tables_1 ∧ Cond.privateMethod q.1 ∈ tables_1 ∧ Cond.instanceMethod q.1 ∈ tables_1
theorem lw_p0 : lw_okq (⟨"OdometryDesk$Way", "keepPose", "(I)V"⟩, 12) := ⟨⟨by decide +kernel, by decide +kernel⟩, List.mem_of_getElem? (i := 86) (by decide +kernel), List.mem_of_getElem? (i := 256) (by decide +kernel), List.mem_of_getElem? (i := 257) (by decide +kernel)⟩
theorem lw_p1 : lw_okq (⟨"OdometryDesk$Way", "meet", "(LOdometryDesk$State;I)V"⟩, 12) := ⟨⟨by decide +kernel, by decide +kernel⟩, List.mem_of_getElem? (i := 86) (by decide +kernel), List.mem_of_getElem? (i := 268) (by decide +kernel), List.mem_of_getElem? (i := 269) (by decide +kernel)⟩
theorem lw_p2 : lw_okq (⟨"OdometryDesk$Way", "keepKind", "(II)V"⟩, 12) := ⟨⟨by decide +kernel, by decide +kernel⟩, List.mem_of_getElem? (i := 86) (by decide +kernel), List.mem_of_getElem? (i := 273) (by decide +kernel), List.mem_of_getElem? (i := 274) (by decide +kernel)⟩
theorem lw_p3 : lw_okq (⟨"OdometryDesk$Way", "go", "(LOdometryDesk$State;[II)V"⟩, 12) := ⟨⟨by decide +kernel, by decide +kernel⟩, List.mem_of_getElem? (i := 86) (by decide +kernel), List.mem_of_getElem? (i := 282) (by decide +kernel), List.mem_of_getElem? (i := 283) (by decide +kernel)⟩
theorem lw_p4 : lw_okq (⟨"OdometryDesk$Way", "weighStep", "([IIJJ)V"⟩, 12) := ⟨⟨by decide +kernel, by decide +kernel⟩, List.mem_of_getElem? (i := 86) (by decide +kernel), List.mem_of_getElem? (i := 289) (by decide +kernel), List.mem_of_getElem? (i := 290) (by decide +kernel)⟩
theorem lw_p5 : lw_okq (⟨"OdometryDesk$Way", "move", "()V"⟩, 12) := ⟨⟨by decide +kernel, by decide +kernel⟩, List.mem_of_getElem? (i := 86) (by decide +kernel), List.mem_of_getElem? (i := 300) (by decide +kernel), List.mem_of_getElem? (i := 301) (by decide +kernel)⟩
theorem lw_p6 : lw_okq (⟨"OdometryDesk$Way", "followCorridor", "(LOdometryDesk$State;[II)V"⟩, 12) := ⟨⟨by decide +kernel, by decide +kernel⟩, List.mem_of_getElem? (i := 86) (by decide +kernel), List.mem_of_getElem? (i := 323) (by decide +kernel), List.mem_of_getElem? (i := 324) (by decide +kernel)⟩
theorem lw_p7 : lw_okq (⟨"OdometryDesk$Way", "offDirection", "(I)I"⟩, 12) := ⟨⟨by decide +kernel, by decide +kernel⟩, List.mem_of_getElem? (i := 86) (by decide +kernel), List.mem_of_getElem? (i := 327) (by decide +kernel), List.mem_of_getElem? (i := 328) (by decide +kernel)⟩
theorem lw_p8 : lw_okq (⟨"OdometryDesk$Way", "firstSightFrom", "(II)I"⟩, 12) := ⟨⟨by decide +kernel, by decide +kernel⟩, List.mem_of_getElem? (i := 86) (by decide +kernel), List.mem_of_getElem? (i := 363) (by decide +kernel), List.mem_of_getElem? (i := 364) (by decide +kernel)⟩
theorem lw_p9 : lw_okq (⟨"OdometryDesk$Way", "lastSightAhead", "(I)I"⟩, 12) := ⟨⟨by decide +kernel, by decide +kernel⟩, List.mem_of_getElem? (i := 86) (by decide +kernel), List.mem_of_getElem? (i := 368) (by decide +kernel), List.mem_of_getElem? (i := 369) (by decide +kernel)⟩
theorem lw_p10 : lw_okq (⟨"OdometryDesk", "errorsWith", "(II)J"⟩, 6) := ⟨⟨by decide +kernel, by decide +kernel⟩, List.mem_of_getElem? (i := 9) (by decide +kernel), List.mem_of_getElem? (i := 448) (by decide +kernel), List.mem_of_getElem? (i := 449) (by decide +kernel)⟩
theorem lw_p11 : lw_okq (⟨"OdometryDesk", "slotOf", "(I)LOdometryDesk$State;"⟩, 6) := ⟨⟨by decide +kernel, by decide +kernel⟩, List.mem_of_getElem? (i := 9) (by decide +kernel), List.mem_of_getElem? (i := 482) (by decide +kernel), List.mem_of_getElem? (i := 483) (by decide +kernel)⟩
theorem lw_p12 : lw_okq (⟨"OdometryDesk$Pad", "readNumber", "(II)Z"⟩, 5) := ⟨⟨by decide +kernel, by decide +kernel⟩, List.mem_of_getElem? (i := 138) (by decide +kernel), List.mem_of_getElem? (i := 534) (by decide +kernel), List.mem_of_getElem? (i := 535) (by decide +kernel)⟩
theorem lw_p13 : lw_okq (⟨"OdometryDesk$Pad", "digit", "()I"⟩, 5) := ⟨⟨by decide +kernel, by decide +kernel⟩, List.mem_of_getElem? (i := 138) (by decide +kernel), List.mem_of_getElem? (i := 538) (by decide +kernel), List.mem_of_getElem? (i := 539) (by decide +kernel)⟩
theorem lw_p14 : lw_okq (⟨"OdometryDesk$Pad", "readInteger", "(II)Z"⟩, 5) := ⟨⟨by decide +kernel, by decide +kernel⟩, List.mem_of_getElem? (i := 138) (by decide +kernel), List.mem_of_getElem? (i := 542) (by decide +kernel), List.mem_of_getElem? (i := 543) (by decide +kernel)⟩
theorem lw_p15 : lw_okq (⟨"OdometryDesk", "addRead", "()I"⟩, 6) := ⟨⟨by decide +kernel, by decide +kernel⟩, List.mem_of_getElem? (i := 9) (by decide +kernel), List.mem_of_getElem? (i := 553) (by decide +kernel), List.mem_of_getElem? (i := 554) (by decide +kernel)⟩
def lw_privs_1 : List (MethodName × Nat) := [(⟨"OdometryDesk$Way", "keepPose", "(I)V"⟩, 12), (⟨"OdometryDesk$Way", "meet", "(LOdometryDesk$State;I)V"⟩, 12), (⟨"OdometryDesk$Way", "keepKind", "(II)V"⟩, 12), (⟨"OdometryDesk$Way", "go", "(LOdometryDesk$State;[II)V"⟩, 12), (⟨"OdometryDesk$Way", "weighStep", "([IIJJ)V"⟩, 12), (⟨"OdometryDesk$Way", "move", "()V"⟩, 12), (⟨"OdometryDesk$Way", "followCorridor", "(LOdometryDesk$State;[II)V"⟩, 12), (⟨"OdometryDesk$Way", "offDirection", "(I)I"⟩, 12), (⟨"OdometryDesk$Way", "firstSightFrom", "(II)I"⟩, 12), (⟨"OdometryDesk$Way", "lastSightAhead", "(I)I"⟩, 12), (⟨"OdometryDesk", "errorsWith", "(II)J"⟩, 6), (⟨"OdometryDesk", "slotOf", "(I)LOdometryDesk$State;"⟩, 6), (⟨"OdometryDesk$Pad", "readNumber", "(II)Z"⟩, 5), (⟨"OdometryDesk$Pad", "digit", "()I"⟩, 5), (⟨"OdometryDesk$Pad", "readInteger", "(II)Z"⟩, 5), (⟨"OdometryDesk", "addRead", "()I"⟩, 6)]
theorem lw_r1 : ∀ q ∈ lw_privs_1, lw_okq q := List.forall_mem_cons.mpr ⟨lw_p0, List.forall_mem_cons.mpr ⟨lw_p1, List.forall_mem_cons.mpr ⟨lw_p2, List.forall_mem_cons.mpr ⟨lw_p3, List.forall_mem_cons.mpr ⟨lw_p4, List.forall_mem_cons.mpr ⟨lw_p5, List.forall_mem_cons.mpr ⟨lw_p6, List.forall_mem_cons.mpr ⟨lw_p7, List.forall_mem_cons.mpr ⟨lw_p8, List.forall_mem_cons.mpr ⟨lw_p9, List.forall_mem_cons.mpr ⟨lw_p10, List.forall_mem_cons.mpr ⟨lw_p11, List.forall_mem_cons.mpr ⟨lw_p12, List.forall_mem_cons.mpr ⟨lw_p13, List.forall_mem_cons.mpr ⟨lw_p14, List.forall_mem_cons.mpr ⟨lw_p15, fun _ h => absurd h List.not_mem_nil⟩⟩⟩⟩⟩⟩⟩⟩⟩⟩⟩⟩⟩⟩⟩⟩
def lw_privs : List (MethodName × Nat) := lw_privs_1
def lw_tbl : List Cond := k2_sels lw_privs ++ tables_1
theorem lw_privs_ok : ∀ q ∈ lw_privs, lw_okq q := lw_r1
end
section
def RX0 : String := "OdometryDesk$Pad"
def TX0 : u_T := fun k => match k with
  | 0 => ("OdometryDesk$Pad", "signs", "[I", true)
  | 1 => ("OdometryDesk$Pad", "length", "I", false)
  | 2 => ("OdometryDesk$Pad", "at", "I", false)
  | 3 => ("OdometryDesk$Pad", "isSight", "Z", false)
  | _ => ("OdometryDesk$Pad", "numbers", "[I", true)
def tyX0 : Nat → FieldType := fun k => match k with
  | 0 => .array .int
  | 1 => .int
  | 2 => .int
  | 3 => .boolean
  | _ => .array .int
abbrev wsX00 : List Cond := u_ws RX0 TX0 5
theorem nmX0 : ∀ a, a < 5 → ∀ b, b < 5 → a ≠ b → (TX0 a).2.1 ≠ (TX0 b).2.1 := by decide +kernel
theorem tyX0_ok : ∀ k, k < 5 → parseFieldDescriptor (TX0 k).2.2.1 = some (tyX0 k) := by decide +kernel
abbrev cX0_init : ByteArray := prog_2_method_1_code
def yX0_init : MethodName := ⟨RX0, "<init>", "()V"⟩
abbrev cX0_signsIn : ByteArray := prog_2_method_2_code
def yX0_signsIn : MethodName := ⟨RX0, "signsIn", "(J)I"⟩
abbrev cX0_append : ByteArray := prog_2_method_3_code
def yX0_append : MethodName := ⟨RX0, "append", "(JI)V"⟩
abbrev cX0_findFault : ByteArray := prog_2_method_4_code
def yX0_findFault : MethodName := ⟨RX0, "findFault", "()I"⟩
abbrev cX0_readEntry : ByteArray := prog_2_method_5_code
def yX0_readEntry : MethodName := ⟨RX0, "readEntry", "()Z"⟩
abbrev cX0_takes : ByteArray := prog_2_method_6_code
def yX0_takes : MethodName := ⟨RX0, "takes", "(C)Z"⟩
abbrev cX0_readInteger : ByteArray := prog_2_method_7_code
def yX0_readInteger : MethodName := ⟨RX0, "readInteger", "(II)Z"⟩
abbrev cX0_readNumber : ByteArray := prog_2_method_8_code
def yX0_readNumber : MethodName := ⟨RX0, "readNumber", "(II)Z"⟩
abbrev cX0_digit : ByteArray := prog_2_method_9_code
def yX0_digit : MethodName := ⟨RX0, "digit", "()I"⟩
def RX1 : String := "OdometryDesk$State"
def TX1 : u_T := fun k => match k with
  | 0 => ("OdometryDesk$State", "settings", "[I", true)
  | 1 => ("OdometryDesk$State", "corridors", "[[I", true)
  | 2 => ("OdometryDesk$State", "markers", "[[I", true)
  | 3 => ("OdometryDesk$State", "log", "[[I", true)
  | 4 => ("OdometryDesk$State", "corridorCount", "I", false)
  | 5 => ("OdometryDesk$State", "markerCount", "I", false)
  | 6 => ("OdometryDesk$State", "entries", "I", false)
  | 7 => ("OdometryDesk$State", "startX", "I", false)
  | 8 => ("OdometryDesk$State", "startY", "I", false)
  | 9 => ("OdometryDesk$State", "startHeading", "I", false)
  | _ => ("OdometryDesk$State", "isSaved", "Z", false)
def tyX1 : Nat → FieldType := fun k => match k with
  | 0 => .array .int
  | 1 => .array (.array .int)
  | 2 => .array (.array .int)
  | 3 => .array (.array .int)
  | 4 => .int
  | 5 => .int
  | 6 => .int
  | 7 => .int
  | 8 => .int
  | 9 => .int
  | _ => .boolean
abbrev wsX10 : List Cond := u_ws RX1 TX1 11
theorem nmX1 : ∀ a, a < 11 → ∀ b, b < 11 → a ≠ b → (TX1 a).2.1 ≠ (TX1 b).2.1 := by decide +kernel
theorem tyX1_ok : ∀ k, k < 11 → parseFieldDescriptor (TX1 k).2.2.1 = some (tyX1 k) := by decide +kernel
abbrev cX1_init : ByteArray := prog_3_method_1_code
def yX1_init : MethodName := ⟨RX1, "<init>", "()V"⟩
abbrev cX1_takeOver : ByteArray := prog_3_method_2_code
def yX1_takeOver : MethodName := ⟨RX1, "takeOver", "(LOdometryDesk$State;)V"⟩
abbrev cX1_addStep : ByteArray := prog_3_method_3_code
def yX1_addStep : MethodName := ⟨RX1, "addStep", "(III)I"⟩
abbrev cX1_addSight : ByteArray := prog_3_method_4_code
def yX1_addSight : MethodName := ⟨RX1, "addSight", "(I)I"⟩
abbrev cX1_isSight : ByteArray := prog_3_method_5_code
def yX1_isSight : MethodName := ⟨RX1, "isSight", "(I)Z"⟩
abbrev cX1_hasSights : ByteArray := prog_3_method_6_code
def yX1_hasSights : MethodName := ⟨RX1, "hasSights", "()Z"⟩
abbrev cX1_isNear : ByteArray := prog_3_method_7_code
def yX1_isNear : MethodName := ⟨RX1, "isNear", "(IIII)Z"⟩
def RX2 : String := "OdometryDesk$Way"
def TX2 : u_T := fun k => match k with
  | 0 => ("OdometryDesk$Way", "poses", "[[I", true)
  | 1 => ("OdometryDesk$Way", "facts", "[[I", true)
  | 2 => ("OdometryDesk$Way", "kinds", "[I", true)
  | 3 => ("OdometryDesk$Way", "x", "I", false)
  | 4 => ("OdometryDesk$Way", "y", "I", false)
  | 5 => ("OdometryDesk$Way", "heading", "I", false)
  | 6 => ("OdometryDesk$Way", "length", "I", false)
  | 7 => ("OdometryDesk$Way", "bias", "I", false)
  | 8 => ("OdometryDesk$Way", "pulls", "I", false)
  | 9 => ("OdometryDesk$Way", "errors", "J", false)
  | 10 => ("OdometryDesk$Way", "turn", "I", false)
  | _ => ("OdometryDesk$Way", "distance", "I", false)
def tyX2 : Nat → FieldType := fun k => match k with
  | 0 => .array (.array .int)
  | 1 => .array (.array .int)
  | 2 => .array .int
  | 3 => .int
  | 4 => .int
  | 5 => .int
  | 6 => .int
  | 7 => .int
  | 8 => .int
  | 9 => .long
  | 10 => .int
  | _ => .int
abbrev wsX20 : List Cond := u_ws RX2 TX2 12
theorem nmX2 : ∀ a, a < 12 → ∀ b, b < 12 → a ≠ b → (TX2 a).2.1 ≠ (TX2 b).2.1 := by decide +kernel
theorem tyX2_ok : ∀ k, k < 12 → parseFieldDescriptor (TX2 k).2.2.1 = some (tyX2 k) := by decide +kernel
abbrev cX2_init : ByteArray := prog_4_method_1_code
def yX2_init : MethodName := ⟨RX2, "<init>", "()V"⟩
abbrev cX2_follow : ByteArray := prog_4_method_2_code
def yX2_follow : MethodName := ⟨RX2, "follow", "(LOdometryDesk$State;[I)V"⟩
abbrev cX2_toldErrors : ByteArray := prog_4_method_3_code
def yX2_toldErrors : MethodName := ⟨RX2, "toldErrors", "()I"⟩
abbrev cX2_behind : ByteArray := prog_4_method_4_code
def yX2_behind : MethodName := ⟨RX2, "behind", "(II)I"⟩
abbrev cX2_spreadPlace : ByteArray := prog_4_method_5_code
def yX2_spreadPlace : MethodName := ⟨RX2, "spreadPlace", "(III)I"⟩
abbrev cX2_firstSightFrom : ByteArray := prog_4_method_6_code
def yX2_firstSightFrom : MethodName := ⟨RX2, "firstSightFrom", "(II)I"⟩
abbrev cX2_lastSightAhead : ByteArray := prog_4_method_7_code
def yX2_lastSightAhead : MethodName := ⟨RX2, "lastSightAhead", "(I)I"⟩
abbrev cX2_keepPose : ByteArray := prog_4_method_8_code
def yX2_keepPose : MethodName := ⟨RX2, "keepPose", "(I)V"⟩
abbrev cX2_keepKind : ByteArray := prog_4_method_9_code
def yX2_keepKind : MethodName := ⟨RX2, "keepKind", "(II)V"⟩
abbrev cX2_meet : ByteArray := prog_4_method_10_code
def yX2_meet : MethodName := ⟨RX2, "meet", "(LOdometryDesk$State;I)V"⟩
abbrev cX2_go : ByteArray := prog_4_method_11_code
def yX2_go : MethodName := ⟨RX2, "go", "(LOdometryDesk$State;[II)V"⟩
abbrev cX2_weighStep : ByteArray := prog_4_method_12_code
def yX2_weighStep : MethodName := ⟨RX2, "weighStep", "([IIJJ)V"⟩
abbrev cX2_move : ByteArray := prog_4_method_13_code
def yX2_move : MethodName := ⟨RX2, "move", "()V"⟩
abbrev cX2_followCorridor : ByteArray := prog_4_method_14_code
def yX2_followCorridor : MethodName := ⟨RX2, "followCorridor", "(LOdometryDesk$State;[II)V"⟩
abbrev cX2_offDirection : ByteArray := prog_4_method_15_code
def yX2_offDirection : MethodName := ⟨RX2, "offDirection", "(I)I"⟩
def RX3 : String := "OdometryDesk"
def TX3 : u_T := fun k => match k with
  | 0 => ("OdometryDesk", "state", "LOdometryDesk$State;", true)
  | 1 => ("OdometryDesk", "firstSlot", "LOdometryDesk$State;", true)
  | 2 => ("OdometryDesk", "secondSlot", "LOdometryDesk$State;", true)
  | 3 => ("OdometryDesk", "way", "LOdometryDesk$Way;", true)
  | 4 => ("OdometryDesk", "pad", "LOdometryDesk$Pad;", true)
  | _ => ("OdometryDesk", "tried", "[I", true)
def tyX3 : Nat → FieldType := fun k => match k with
  | 0 => .object "OdometryDesk$State"
  | 1 => .object "OdometryDesk$State"
  | 2 => .object "OdometryDesk$State"
  | 3 => .object "OdometryDesk$Way"
  | 4 => .object "OdometryDesk$Pad"
  | _ => .array .int
abbrev wsX30 : List Cond := u_ws RX3 TX3 6
theorem nmX3 : ∀ a, a < 6 → ∀ b, b < 6 → a ≠ b → (TX3 a).2.1 ≠ (TX3 b).2.1 := by decide +kernel
theorem tyX3_ok : ∀ k, k < 6 → parseFieldDescriptor (TX3 k).2.2.1 = some (tyX3 k) := by decide +kernel
abbrev cX3_init : ByteArray := prog_1_method_1_code
def yX3_init : MethodName := ⟨RX3, "<init>", "()V"⟩
abbrev cX3_set : ByteArray := prog_1_method_2_code
def yX3_set : MethodName := ⟨RX3, "set", "(II)I"⟩
abbrev cX3_corridor : ByteArray := prog_1_method_3_code
def yX3_corridor : MethodName := ⟨RX3, "corridor", "(IIIII)I"⟩
abbrev cX3_marker : ByteArray := prog_1_method_4_code
def yX3_marker : MethodName := ⟨RX3, "marker", "(II)I"⟩
abbrev cX3_closeCorridor : ByteArray := prog_1_method_5_code
def yX3_closeCorridor : MethodName := ⟨RX3, "closeCorridor", "()I"⟩
abbrev cX3_begin : ByteArray := prog_1_method_6_code
def yX3_begin : MethodName := ⟨RX3, "begin", "(III)I"⟩
abbrev cX3_step : ByteArray := prog_1_method_7_code
def yX3_step : MethodName := ⟨RX3, "step", "(III)I"⟩
abbrev cX3_see : ByteArray := prog_1_method_8_code
def yX3_see : MethodName := ⟨RX3, "see", "(I)I"⟩
abbrev cX3_cut : ByteArray := prog_1_method_9_code
def yX3_cut : MethodName := ⟨RX3, "cut", "(I)I"⟩
abbrev cX3_pose : ByteArray := prog_1_method_10_code
def yX3_pose : MethodName := ⟨RX3, "pose", "(II)I"⟩
abbrev cX3_about : ByteArray := prog_1_method_11_code
def yX3_about : MethodName := ⟨RX3, "about", "(II)I"⟩
abbrev cX3_count : ByteArray := prog_1_method_12_code
def yX3_count : MethodName := ⟨RX3, "count", "(I)I"⟩
abbrev cX3_wave : ByteArray := prog_1_method_13_code
def yX3_wave : MethodName := ⟨RX3, "wave", "(II)I"⟩
abbrev cX3_ifSet : ByteArray := prog_1_method_14_code
def yX3_ifSet : MethodName := ⟨RX3, "ifSet", "(III)I"⟩
abbrev cX3_bestBase : ByteArray := prog_1_method_15_code
def yX3_bestBase : MethodName := ⟨RX3, "bestBase", "()I"⟩
abbrev cX3_bestTrust : ByteArray := prog_1_method_16_code
def yX3_bestTrust : MethodName := ⟨RX3, "bestTrust", "()I"⟩
abbrev cX3_put : ByteArray := prog_1_method_17_code
def yX3_put : MethodName := ⟨RX3, "put", "(J)I"⟩
abbrev cX3_wipe : ByteArray := prog_1_method_18_code
def yX3_wipe : MethodName := ⟨RX3, "wipe", "()I"⟩
abbrev cX3_fault : ByteArray := prog_1_method_19_code
def yX3_fault : MethodName := ⟨RX3, "fault", "()I"⟩
abbrev cX3_load : ByteArray := prog_1_method_20_code
def yX3_load : MethodName := ⟨RX3, "load", "()I"⟩
abbrev cX3_save : ByteArray := prog_1_method_21_code
def yX3_save : MethodName := ⟨RX3, "save", "(I)I"⟩
abbrev cX3_restore : ByteArray := prog_1_method_22_code
def yX3_restore : MethodName := ⟨RX3, "restore", "(I)I"⟩
abbrev cX3_slotOf : ByteArray := prog_1_method_23_code
def yX3_slotOf : MethodName := ⟨RX3, "slotOf", "(I)LOdometryDesk$State;"⟩
abbrev cX3_addRead : ByteArray := prog_1_method_24_code
def yX3_addRead : MethodName := ⟨RX3, "addRead", "()I"⟩
abbrev cX3_errorsWith : ByteArray := prog_1_method_25_code
def yX3_errorsWith : MethodName := ⟨RX3, "errorsWith", "(II)J"⟩
abbrev cX3_isWithin : ByteArray := prog_1_method_26_code
def yX3_isWithin : MethodName := ⟨RX3, "isWithin", "(III)Z"⟩
abbrev cX3_isPlace : ByteArray := prog_1_method_27_code
def yX3_isPlace : MethodName := ⟨RX3, "isPlace", "(II)Z"⟩
abbrev cX3_isSetting : ByteArray := prog_1_method_28_code
def yX3_isSetting : MethodName := ⟨RX3, "isSetting", "(II)Z"⟩
abbrev cX3_sine : ByteArray := prog_1_method_29_code
def yX3_sine : MethodName := ⟨RX3, "sine", "(I)I"⟩
abbrev cX3_angleOfCosine : ByteArray := prog_1_method_30_code
def yX3_angleOfCosine : MethodName := ⟨RX3, "angleOfCosine", "(I)I"⟩
abbrev cX3_asHeading : ByteArray := prog_1_method_31_code
def yX3_asHeading : MethodName := ⟨RX3, "asHeading", "(J)I"⟩
abbrev cX3_ratio : ByteArray := prog_1_method_32_code
def yX3_ratio : MethodName := ⟨RX3, "ratio", "(JJ)J"⟩
abbrev cX3_item : ByteArray := prog_1_method_33_code
def yX3_item : MethodName := ⟨RX3, "item", "([II)I"⟩
abbrev cX3_keep : ByteArray := prog_1_method_34_code
def yX3_keep : MethodName := ⟨RX3, "keep", "([III)V"⟩
abbrev cX3_item_ : ByteArray := prog_1_method_35_code
def yX3_item_ : MethodName := ⟨RX3, "item", "([[III)I"⟩
abbrev cX3_keep_ : ByteArray := prog_1_method_36_code
def yX3_keep_ : MethodName := ⟨RX3, "keep", "([[IIII)V"⟩
abbrev cX3_copy : ByteArray := prog_1_method_37_code
def yX3_copy : MethodName := ⟨RX3, "copy", "([I[I)V"⟩
abbrev cX3_copy_ : ByteArray := prog_1_method_38_code
def yX3_copy_ : MethodName := ⟨RX3, "copy", "([[I[[I)V"⟩
def RX4 : String := "OdometryDeskModel"
def TX4 : u_T := fun k => match k with
  | _ => ("", "", "", false)
def tyX4 : Nat → FieldType := fun k => match k with
  | _ => .int
abbrev wsX40 : List Cond := u_ws RX4 TX4 0
theorem nmX4 : ∀ a, a < 0 → ∀ b, b < 0 → a ≠ b → (TX4 a).2.1 ≠ (TX4 b).2.1 := by decide +kernel
theorem tyX4_ok : ∀ k, k < 0 → parseFieldDescriptor (TX4 k).2.2.1 = some (tyX4 k) := by decide +kernel
def RJx8e188 : String := "java/lang/Cloneable"
def RJ9 : String := "java/lang/Math"
abbrev cJ9_floorMod_7cf53 : ByteArray := prog_8_method_50_code
def yJ9_floorMod_7cf53 : MethodName := ⟨RJ9, "floorMod", "(II)I"⟩
abbrev cJ9_floorMod_f86c9 : ByteArray := prog_8_method_52_code
def yJ9_floorMod_f86c9 : MethodName := ⟨RJ9, "floorMod", "(JJ)J"⟩
abbrev cJ9_abs_0f7a4 : ByteArray := prog_8_method_59_code
def yJ9_abs_0f7a4 : MethodName := ⟨RJ9, "abs", "(I)I"⟩
abbrev cJ9_abs_067f4 : ByteArray := prog_8_method_61_code
def yJ9_abs_067f4 : MethodName := ⟨RJ9, "abs", "(J)J"⟩
abbrev cJ9_max_7cf53 : ByteArray := prog_8_method_65_code
def yJ9_max_7cf53 : MethodName := ⟨RJ9, "max", "(II)I"⟩
abbrev cJ9_min_7cf53 : ByteArray := prog_8_method_69_code
def yJ9_min_7cf53 : MethodName := ⟨RJ9, "min", "(II)I"⟩
abbrev cJ9_min_f86c9 : ByteArray := prog_8_method_70_code
def yJ9_min_f86c9 : MethodName := ⟨RJ9, "min", "(JJ)J"⟩
def RJ10 : String := "java/lang/System"
def RJ7 : String := "java/util/Arrays"
abbrev cJ7_fill_53178 : ByteArray := prog_10_method_103_code
def yJ7_fill_53178 : MethodName := ⟨RJ7, "fill", "([II)V"⟩
def RL : String := "OdometryDeskLaw"
abbrev cL_cell : ByteArray := method_2_code
def yL_cell : MethodName := ⟨RL, "cell", "([II)I"⟩
abbrev cL_up : ByteArray := method_3_code
def yL_up : MethodName := ⟨RL, "up", "(II)I"⟩
abbrev cL_law : ByteArray := code
def yL_law : MethodName := ⟨RL, "law", "([I)Z"⟩
abbrev cL_size : ByteArray := method_5_code
def yL_size : MethodName := ⟨RL, "size", "(I)I"⟩
abbrev cL_adds : ByteArray := method_6_code
def yL_adds : MethodName := ⟨RL, "adds", "(LOdometryDesk;II)Z"⟩
abbrev cL_round : ByteArray := method_7_code
def yL_round : MethodName := ⟨RL, "round", "(J)I"⟩
abbrev cL_way : ByteArray := method_8_code
def yL_way : MethodName := ⟨RL, "way", "(LOdometryDesk;)Z"⟩
abbrev cL_turns : ByteArray := method_9_code
def yL_turns : MethodName := ⟨RL, "turns", "(LOdometryDesk;IIII)Z"⟩
abbrev cL_goes : ByteArray := method_10_code
def yL_goes : MethodName := ⟨RL, "goes", "(LOdometryDesk;IIIII)Z"⟩
abbrev cL_spread : ByteArray := method_11_code
def yL_spread : MethodName := ⟨RL, "spread", "(LOdometryDesk;)Z"⟩
abbrev cL_value : ByteArray := method_12_code
def yL_value : MethodName := ⟨RL, "value", "(II)I"⟩
abbrev cL_tried : ByteArray := method_13_code
def yL_tried : MethodName := ⟨RL, "tried", "(LOdometryDesk;I)Z"⟩
abbrev cL_fits : ByteArray := method_14_code
def yL_fits : MethodName := ⟨RL, "fits", "(LOdometryDesk;)Z"⟩
abbrev cL_told : ByteArray := method_15_code
def yL_told : MethodName := ⟨RL, "told", "(LOdometryDesk;I)Z"⟩
abbrev cL_kept : ByteArray := method_16_code
def yL_kept : MethodName := ⟨RL, "kept", "(LOdometryDesk;I)Z"⟩
abbrev cL_refused : ByteArray := method_17_code
def yL_refused : MethodName := ⟨RL, "refused", "(LOdometryDesk;I)Z"⟩
abbrev vwCl : List vw_C := [(RX0, TX0, 5), (RX1, TX1, 11), (RX2, TX2, 12), (RX3, TX3, 6)]
/-- the words of the tables that hold wherever the tables are as warm -/
def lw_gd : List Cond := lw_tbl.filter goodWord
theorem lw_gd_in : ∀ w ∈ lw_gd, w ∈ lw_tbl := fun _ h => (List.mem_filter.mp h).1
theorem lw_gd_good : ∀ w ∈ lw_gd, (w.onTables && w.keeps) = true ∨ ∃ ty, w = .arrayClass ty := fun _ h => good_of_word (List.mem_filter.mp h).2
theorem lw_gm {w : Cond} (h : w ∈ tables_1) (hg : goodWord w = true) : w ∈ lw_gd := List.mem_filter.mpr ⟨List.mem_append_right _ h, hg⟩
theorem lw_gs {w : Cond} (h : w ∈ k2_sels lw_privs) (hg : goodWord w = true) : w ∈ lw_gd := List.mem_filter.mpr ⟨List.mem_append_left _ h, hg⟩
theorem lw_in1 {w : Cond} (h : w ∈ tables_1_1) : w ∈ tables_1 := List.mem_append_left _ h
theorem lw_in2 {w : Cond} (h : w ∈ tables_1_2) : w ∈ tables_1 := List.mem_append_right _ (List.mem_append_left _ h)
theorem lw_in3 {w : Cond} (h : w ∈ tables_1_3) : w ∈ tables_1 := List.mem_append_right _ (List.mem_append_right _ (h))
theorem gm_0 : (Jvm.Cond.initialized "OdometryDeskLaw") ∈ lw_gd := lw_gm (lw_in1 (List.mem_of_getElem? (i := 0) rfl)) rfl
theorem gm_1 : (Jvm.Cond.initialized "OdometryDesk") ∈ lw_gd := lw_gm (lw_in1 (List.mem_of_getElem? (i := 1) rfl)) rfl
theorem gm_2 : (Jvm.Cond.initialized "OdometryDesk$State") ∈ lw_gd := lw_gm (lw_in1 (List.mem_of_getElem? (i := 2) rfl)) rfl
theorem gm_3 : (Jvm.Cond.initialized "OdometryDesk$Way") ∈ lw_gd := lw_gm (lw_in1 (List.mem_of_getElem? (i := 3) rfl)) rfl
theorem gm_4 : (Jvm.Cond.initialized "OdometryDesk$Pad") ∈ lw_gd := lw_gm (lw_in1 (List.mem_of_getElem? (i := 4) rfl)) rfl
theorem gm_5 : (Jvm.Cond.initialized "java/lang/Math") ∈ lw_gd := lw_gm (lw_in1 (List.mem_of_getElem? (i := 5) rfl)) rfl
theorem gm_6 : (Jvm.Cond.initialized "java/util/Arrays") ∈ lw_gd := lw_gm (lw_in1 (List.mem_of_getElem? (i := 6) rfl)) rfl
theorem gm_7 : (Jvm.Cond.initialized "java/lang/System") ∈ lw_gd := lw_gm (lw_in1 (List.mem_of_getElem? (i := 7) rfl)) rfl
theorem gm_8 : (Jvm.Cond.classLink "OdometryDeskLaw" (9 : Nat) "OdometryDesk") ∈ lw_gd := lw_gm (lw_in1 (List.mem_of_getElem? (i := 8) rfl)) rfl
theorem gm_9 : (Jvm.Cond.instantiable "OdometryDesk" (6 : Nat)) ∈ lw_gd := lw_gm (lw_in1 (List.mem_of_getElem? (i := 9) rfl)) rfl
theorem gm_10 : (Jvm.Cond.methodLink "OdometryDeskLaw" (11 : Nat) ({ cls := "OdometryDesk", name := "<init>", desc := "()V" } : Jvm.MethodName)) ∈ lw_gd := lw_gm (lw_in1 (List.mem_of_getElem? (i := 10) rfl)) rfl
theorem gm_11 : (Jvm.Cond.instanceMethod ({ cls := "OdometryDesk", name := "<init>", desc := "()V" } : Jvm.MethodName)) ∈ lw_gd := lw_gm (lw_in1 (List.mem_of_getElem? (i := 11) rfl)) rfl
theorem gm_12 : (Jvm.Cond.code ({ cls := "OdometryDesk", name := "<init>", desc := "()V" } : Jvm.MethodName) prog_1_method_1_code (1 : Nat) (Option.none : Option Jvm.ClassFile.FieldType)) ∈ lw_gd := lw_gm (lw_in1 (List.mem_of_getElem? (i := 12) rfl)) rfl
theorem gm_13 : (Jvm.Cond.methodLink "OdometryDesk" (1 : Nat) ({ cls := "java/lang/Object", name := "<init>", desc := "()V" } : Jvm.MethodName)) ∈ lw_gd := lw_gm (lw_in1 (List.mem_of_getElem? (i := 13) rfl)) rfl
theorem gm_14 : (Jvm.Cond.instanceMethod ({ cls := "java/lang/Object", name := "<init>", desc := "()V" } : Jvm.MethodName)) ∈ lw_gd := lw_gm (lw_in1 (List.mem_of_getElem? (i := 14) rfl)) rfl
theorem gm_15 : (Jvm.Cond.code ({ cls := "java/lang/Object", name := "<init>", desc := "()V" } : Jvm.MethodName) object_method_1_code (1 : Nat) (Option.none : Option Jvm.ClassFile.FieldType)) ∈ lw_gd := lw_gm (lw_in1 (List.mem_of_getElem? (i := 15) rfl)) rfl
theorem gm_16 : (Jvm.Cond.classLink "OdometryDesk" (7 : Nat) "OdometryDesk$State") ∈ lw_gd := lw_gm (lw_in1 (List.mem_of_getElem? (i := 16) rfl)) rfl
theorem gm_17 : (Jvm.Cond.instantiable "OdometryDesk$State" (11 : Nat)) ∈ lw_gd := lw_gm (lw_in1 (List.mem_of_getElem? (i := 17) rfl)) rfl
theorem gm_18 : (Jvm.Cond.instanceMethod ({ cls := "OdometryDesk$State", name := "<init>", desc := "()V" } : Jvm.MethodName)) ∈ lw_gd := lw_gm (lw_in1 (List.mem_of_getElem? (i := 19) rfl)) rfl
theorem gm_19 : (Jvm.Cond.code ({ cls := "OdometryDesk$State", name := "<init>", desc := "()V" } : Jvm.MethodName) prog_3_method_1_code (1 : Nat) (Option.none : Option Jvm.ClassFile.FieldType)) ∈ lw_gd := lw_gm (lw_in1 (List.mem_of_getElem? (i := 20) rfl)) rfl
theorem gm_20 : (Jvm.Cond.methodLink "OdometryDesk$State" (3 : Nat) ({ cls := "java/lang/Object", name := "<init>", desc := "()V" } : Jvm.MethodName)) ∈ lw_gd := lw_gm (lw_in1 (List.mem_of_getElem? (i := 21) rfl)) rfl
theorem gm_21 : (Jvm.Cond.methodLink "OdometryDesk$State" (13 : Nat) ({ cls := "[I", name := "clone", desc := "()Ljava/lang/Object;" } : Jvm.MethodName)) ∈ lw_gd := lw_gm (lw_in1 (List.mem_of_getElem? (i := 24) rfl)) rfl
theorem gm_22 : (Jvm.Cond.sameMethod "[I" "java/lang/Object" "clone" "()Ljava/lang/Object;") ∈ lw_gd := lw_gm (lw_in1 (List.mem_of_getElem? (i := 25) rfl)) rfl
theorem gm_23 : (Jvm.Cond.native ({ cls := "java/lang/Object", name := "clone", desc := "()Ljava/lang/Object;" } : Jvm.MethodName)) ∈ lw_gd := lw_gm (lw_in1 (List.mem_of_getElem? (i := 26) rfl)) rfl
theorem gm_24 : (Jvm.Cond.instanceMethod ({ cls := "java/lang/Object", name := "clone", desc := "()Ljava/lang/Object;" } : Jvm.MethodName)) ∈ lw_gd := lw_gm (lw_in1 (List.mem_of_getElem? (i := 27) rfl)) rfl
theorem gm_25 : (Jvm.Cond.selects "[I" ({ cls := "[I", name := "clone", desc := "()Ljava/lang/Object;" } : Jvm.MethodName) ({ cls := "java/lang/Object", name := "clone", desc := "()Ljava/lang/Object;" } : Jvm.MethodName)) ∈ lw_gd := lw_gm (lw_in1 (List.mem_of_getElem? (i := 28) rfl)) rfl
theorem gm_26 : (Jvm.Cond.classLink "OdometryDesk$State" (14 : Nat) "[I") ∈ lw_gd := lw_gm (lw_in1 (List.mem_of_getElem? (i := 30) rfl)) rfl
theorem gm_27 : (Jvm.Cond.classLink "OdometryDesk$State" (23 : Nat) "[[I") ∈ lw_gd := lw_gm (lw_in1 (List.mem_of_getElem? (i := 31) rfl)) rfl
theorem gm_28 : (Jvm.Cond.fieldLink "OdometryDesk$State" (18 : Nat) "OdometryDesk$State" "settings" "[I") ∈ lw_gd := lw_gm (lw_in1 (List.mem_of_getElem? (i := 33) rfl)) rfl
theorem gm_29 : (Jvm.Cond.fieldLink "OdometryDesk" (52 : Nat) "OdometryDesk$State" "settings" "[I") ∈ lw_gd := lw_gm (lw_in1 (List.mem_of_getElem? (i := 34) rfl)) rfl
theorem gm_30 : (Jvm.Cond.fieldLink "OdometryDesk$State" (25 : Nat) "OdometryDesk$State" "corridors" "[[I") ∈ lw_gd := lw_gm (lw_in1 (List.mem_of_getElem? (i := 35) rfl)) rfl
theorem gm_31 : (Jvm.Cond.fieldLink "OdometryDesk" (74 : Nat) "OdometryDesk$State" "corridors" "[[I") ∈ lw_gd := lw_gm (lw_in1 (List.mem_of_getElem? (i := 36) rfl)) rfl
theorem gm_32 : (Jvm.Cond.fieldLink "OdometryDesk$Way" (174 : Nat) "OdometryDesk$State" "corridors" "[[I") ∈ lw_gd := lw_gm (lw_in1 (List.mem_of_getElem? (i := 37) rfl)) rfl
theorem gm_33 : (Jvm.Cond.fieldLink "OdometryDesk$State" (28 : Nat) "OdometryDesk$State" "markers" "[[I") ∈ lw_gd := lw_gm (lw_in1 (List.mem_of_getElem? (i := 38) rfl)) rfl
theorem gm_34 : (Jvm.Cond.fieldLink "OdometryDesk" (93 : Nat) "OdometryDesk$State" "markers" "[[I") ∈ lw_gd := lw_gm (lw_in1 (List.mem_of_getElem? (i := 39) rfl)) rfl
theorem gm_35 : (Jvm.Cond.fieldLink "OdometryDesk$Way" (122 : Nat) "OdometryDesk$State" "markers" "[[I") ∈ lw_gd := lw_gm (lw_in1 (List.mem_of_getElem? (i := 40) rfl)) rfl
theorem gm_36 : (Jvm.Cond.fieldLink "OdometryDesk$State" (31 : Nat) "OdometryDesk$State" "log" "[[I") ∈ lw_gd := lw_gm (lw_in1 (List.mem_of_getElem? (i := 41) rfl)) rfl
theorem gm_37 : (Jvm.Cond.fieldLink "OdometryDesk$Way" (119 : Nat) "OdometryDesk$State" "log" "[[I") ∈ lw_gd := lw_gm (lw_in1 (List.mem_of_getElem? (i := 42) rfl)) rfl
theorem gm_38 : (Jvm.Cond.fieldLink "OdometryDesk$State" (41 : Nat) "OdometryDesk$State" "corridorCount" "I") ∈ lw_gd := lw_gm (lw_in1 (List.mem_of_getElem? (i := 43) rfl)) rfl
theorem gm_39 : (Jvm.Cond.fieldLink "OdometryDesk" (70 : Nat) "OdometryDesk$State" "corridorCount" "I") ∈ lw_gd := lw_gm (lw_in1 (List.mem_of_getElem? (i := 44) rfl)) rfl
theorem gm_40 : (Jvm.Cond.fieldLink "OdometryDesk$Way" (171 : Nat) "OdometryDesk$State" "corridorCount" "I") ∈ lw_gd := lw_gm (lw_in1 (List.mem_of_getElem? (i := 45) rfl)) rfl
theorem gm_41 : (Jvm.Cond.fieldLink "OdometryDesk$State" (45 : Nat) "OdometryDesk$State" "markerCount" "I") ∈ lw_gd := lw_gm (lw_in1 (List.mem_of_getElem? (i := 46) rfl)) rfl
theorem gm_42 : (Jvm.Cond.fieldLink "OdometryDesk" (90 : Nat) "OdometryDesk$State" "markerCount" "I") ∈ lw_gd := lw_gm (lw_in1 (List.mem_of_getElem? (i := 47) rfl)) rfl
theorem gm_43 : (Jvm.Cond.fieldLink "OdometryDesk$State" (48 : Nat) "OdometryDesk$State" "entries" "I") ∈ lw_gd := lw_gm (lw_in1 (List.mem_of_getElem? (i := 48) rfl)) rfl
theorem gm_44 : (Jvm.Cond.fieldLink "OdometryDesk$Way" (68 : Nat) "OdometryDesk$State" "entries" "I") ∈ lw_gd := lw_gm (lw_in1 (List.mem_of_getElem? (i := 49) rfl)) rfl
theorem gm_45 : (Jvm.Cond.fieldLink "OdometryDesk" (106 : Nat) "OdometryDesk$State" "entries" "I") ∈ lw_gd := lw_gm (lw_in1 (List.mem_of_getElem? (i := 50) rfl)) rfl
theorem gm_46 : (Jvm.Cond.fieldLink "OdometryDesk$Way" (23 : Nat) "OdometryDesk$State" "startX" "I") ∈ lw_gd := lw_gm (lw_in1 (List.mem_of_getElem? (i := 51) rfl)) rfl
theorem gm_47 : (Jvm.Cond.fieldLink "OdometryDesk$State" (51 : Nat) "OdometryDesk$State" "startX" "I") ∈ lw_gd := lw_gm (lw_in1 (List.mem_of_getElem? (i := 52) rfl)) rfl
theorem gm_48 : (Jvm.Cond.fieldLink "OdometryDesk" (97 : Nat) "OdometryDesk$State" "startX" "I") ∈ lw_gd := lw_gm (lw_in1 (List.mem_of_getElem? (i := 53) rfl)) rfl
theorem gm_49 : (Jvm.Cond.fieldLink "OdometryDesk$Way" (32 : Nat) "OdometryDesk$State" "startY" "I") ∈ lw_gd := lw_gm (lw_in1 (List.mem_of_getElem? (i := 54) rfl)) rfl
theorem gm_50 : (Jvm.Cond.fieldLink "OdometryDesk$State" (54 : Nat) "OdometryDesk$State" "startY" "I") ∈ lw_gd := lw_gm (lw_in1 (List.mem_of_getElem? (i := 55) rfl)) rfl
theorem gm_51 : (Jvm.Cond.fieldLink "OdometryDesk" (100 : Nat) "OdometryDesk$State" "startY" "I") ∈ lw_gd := lw_gm (lw_in1 (List.mem_of_getElem? (i := 56) rfl)) rfl
theorem gm_52 : (Jvm.Cond.fieldLink "OdometryDesk$Way" (38 : Nat) "OdometryDesk$State" "startHeading" "I") ∈ lw_gd := lw_gm (lw_in1 (List.mem_of_getElem? (i := 57) rfl)) rfl
theorem gm_53 : (Jvm.Cond.fieldLink "OdometryDesk$State" (57 : Nat) "OdometryDesk$State" "startHeading" "I") ∈ lw_gd := lw_gm (lw_in1 (List.mem_of_getElem? (i := 58) rfl)) rfl
theorem gm_54 : (Jvm.Cond.fieldLink "OdometryDesk" (103 : Nat) "OdometryDesk$State" "startHeading" "I") ∈ lw_gd := lw_gm (lw_in1 (List.mem_of_getElem? (i := 59) rfl)) rfl
theorem gm_55 : (Jvm.Cond.fieldLink "OdometryDesk" (205 : Nat) "OdometryDesk$State" "isSaved" "Z") ∈ lw_gd := lw_gm (lw_in1 (List.mem_of_getElem? (i := 60) rfl)) rfl
theorem gm_56 : (Jvm.Cond.laysFinal "OdometryDesk$State" "OdometryDesk$State" "settings" "[I") ∈ lw_gd := lw_gm (lw_in1 (List.mem_of_getElem? (i := 61) rfl)) rfl
theorem gm_57 : (Jvm.Cond.laysFinal "OdometryDesk$State" "OdometryDesk$State" "corridors" "[[I") ∈ lw_gd := lw_gm (lw_in1 (List.mem_of_getElem? (i := 63) rfl)) rfl
theorem gm_58 : (Jvm.Cond.laysFinal "OdometryDesk$State" "OdometryDesk$State" "markers" "[[I") ∈ lw_gd := lw_gm (lw_in1 (List.mem_of_getElem? (i := 65) rfl)) rfl
theorem gm_59 : (Jvm.Cond.laysFinal "OdometryDesk$State" "OdometryDesk$State" "log" "[[I") ∈ lw_gd := lw_gm (lw_in1 (List.mem_of_getElem? (i := 67) rfl)) rfl
theorem gm_60 : (Jvm.Cond.lays "OdometryDesk$State" "OdometryDesk$State" "corridorCount" "I") ∈ lw_gd := lw_gm (lw_in1 (List.mem_of_getElem? (i := 69) rfl)) rfl
theorem gm_61 : (Jvm.Cond.lays "OdometryDesk$State" "OdometryDesk$State" "markerCount" "I") ∈ lw_gd := lw_gm (lw_in1 (List.mem_of_getElem? (i := 71) rfl)) rfl
theorem gm_62 : (Jvm.Cond.lays "OdometryDesk$State" "OdometryDesk$State" "entries" "I") ∈ lw_gd := lw_gm (lw_in1 (List.mem_of_getElem? (i := 73) rfl)) rfl
theorem gm_63 : (Jvm.Cond.lays "OdometryDesk$State" "OdometryDesk$State" "startX" "I") ∈ lw_gd := lw_gm (lw_in1 (List.mem_of_getElem? (i := 75) rfl)) rfl
theorem gm_64 : (Jvm.Cond.lays "OdometryDesk$State" "OdometryDesk$State" "startY" "I") ∈ lw_gd := lw_gm (lw_in1 (List.mem_of_getElem? (i := 77) rfl)) rfl
theorem gm_65 : (Jvm.Cond.lays "OdometryDesk$State" "OdometryDesk$State" "startHeading" "I") ∈ lw_gd := lw_gm (lw_in1 (List.mem_of_getElem? (i := 79) rfl)) rfl
theorem gm_66 : (Jvm.Cond.lays "OdometryDesk$State" "OdometryDesk$State" "isSaved" "Z") ∈ lw_gd := lw_gm (lw_in1 (List.mem_of_getElem? (i := 81) rfl)) rfl
theorem gm_67 : (Jvm.Cond.arrayClass Jvm.ClassFile.FieldType.int) ∈ lw_gd := lw_gm (lw_in1 (List.mem_of_getElem? (i := 84) rfl)) rfl
theorem gm_68 : (Jvm.Cond.classLink "OdometryDesk" (22 : Nat) "OdometryDesk$Way") ∈ lw_gd := lw_gm (lw_in1 (List.mem_of_getElem? (i := 85) rfl)) rfl
theorem gm_69 : (Jvm.Cond.instantiable "OdometryDesk$Way" (12 : Nat)) ∈ lw_gd := lw_gm (lw_in1 (List.mem_of_getElem? (i := 86) rfl)) rfl
theorem gm_70 : (Jvm.Cond.instanceMethod ({ cls := "OdometryDesk$Way", name := "<init>", desc := "()V" } : Jvm.MethodName)) ∈ lw_gd := lw_gm (lw_in1 (List.mem_of_getElem? (i := 88) rfl)) rfl
theorem gm_71 : (Jvm.Cond.code ({ cls := "OdometryDesk$Way", name := "<init>", desc := "()V" } : Jvm.MethodName) prog_4_method_1_code (1 : Nat) (Option.none : Option Jvm.ClassFile.FieldType)) ∈ lw_gd := lw_gm (lw_in1 (List.mem_of_getElem? (i := 89) rfl)) rfl
theorem gm_72 : (Jvm.Cond.methodLink "OdometryDesk$Way" (3 : Nat) ({ cls := "java/lang/Object", name := "<init>", desc := "()V" } : Jvm.MethodName)) ∈ lw_gd := lw_gm (lw_in1 (List.mem_of_getElem? (i := 90) rfl)) rfl
theorem gm_73 : (Jvm.Cond.classLink "OdometryDesk$Way" (9 : Nat) "[[I") ∈ lw_gd := lw_gm (lw_in1 (List.mem_of_getElem? (i := 91) rfl)) rfl
theorem gm_74 : (Jvm.Cond.fieldLink "OdometryDesk$Way" (11 : Nat) "OdometryDesk$Way" "poses" "[[I") ∈ lw_gd := lw_gm (lw_in1 (List.mem_of_getElem? (i := 92) rfl)) rfl
theorem gm_75 : (Jvm.Cond.fieldLink "OdometryDesk$Way" (16 : Nat) "OdometryDesk$Way" "facts" "[[I") ∈ lw_gd := lw_gm (lw_in1 (List.mem_of_getElem? (i := 93) rfl)) rfl
theorem gm_76 : (Jvm.Cond.fieldLink "OdometryDesk" (129 : Nat) "OdometryDesk$Way" "facts" "[[I") ∈ lw_gd := lw_gm (lw_in1 (List.mem_of_getElem? (i := 94) rfl)) rfl
theorem gm_77 : (Jvm.Cond.fieldLink "OdometryDesk$Way" (19 : Nat) "OdometryDesk$Way" "kinds" "[I") ∈ lw_gd := lw_gm (lw_in1 (List.mem_of_getElem? (i := 95) rfl)) rfl
theorem gm_78 : (Jvm.Cond.fieldLink "OdometryDesk" (146 : Nat) "OdometryDesk$Way" "kinds" "[I") ∈ lw_gd := lw_gm (lw_in1 (List.mem_of_getElem? (i := 96) rfl)) rfl
theorem gm_79 : (Jvm.Cond.fieldLink "OdometryDesk$Way" (29 : Nat) "OdometryDesk$Way" "x" "I") ∈ lw_gd := lw_gm (lw_in1 (List.mem_of_getElem? (i := 97) rfl)) rfl
theorem gm_80 : (Jvm.Cond.fieldLink "OdometryDesk" (160 : Nat) "OdometryDesk$Way" "x" "I") ∈ lw_gd := lw_gm (lw_in1 (List.mem_of_getElem? (i := 98) rfl)) rfl
theorem gm_81 : (Jvm.Cond.fieldLink "OdometryDesk$Way" (35 : Nat) "OdometryDesk$Way" "y" "I") ∈ lw_gd := lw_gm (lw_in1 (List.mem_of_getElem? (i := 99) rfl)) rfl
theorem gm_82 : (Jvm.Cond.fieldLink "OdometryDesk" (163 : Nat) "OdometryDesk$Way" "y" "I") ∈ lw_gd := lw_gm (lw_in1 (List.mem_of_getElem? (i := 100) rfl)) rfl
theorem gm_83 : (Jvm.Cond.fieldLink "OdometryDesk$Way" (41 : Nat) "OdometryDesk$Way" "heading" "I") ∈ lw_gd := lw_gm (lw_in1 (List.mem_of_getElem? (i := 101) rfl)) rfl
theorem gm_84 : (Jvm.Cond.fieldLink "OdometryDesk" (166 : Nat) "OdometryDesk$Way" "heading" "I") ∈ lw_gd := lw_gm (lw_in1 (List.mem_of_getElem? (i := 102) rfl)) rfl
theorem gm_85 : (Jvm.Cond.fieldLink "OdometryDesk$Way" (44 : Nat) "OdometryDesk$Way" "length" "I") ∈ lw_gd := lw_gm (lw_in1 (List.mem_of_getElem? (i := 103) rfl)) rfl
theorem gm_86 : (Jvm.Cond.fieldLink "OdometryDesk" (142 : Nat) "OdometryDesk$Way" "length" "I") ∈ lw_gd := lw_gm (lw_in1 (List.mem_of_getElem? (i := 104) rfl)) rfl
theorem gm_87 : (Jvm.Cond.fieldLink "OdometryDesk$Way" (47 : Nat) "OdometryDesk$Way" "bias" "I") ∈ lw_gd := lw_gm (lw_in1 (List.mem_of_getElem? (i := 105) rfl)) rfl
theorem gm_88 : (Jvm.Cond.fieldLink "OdometryDesk$Way" (50 : Nat) "OdometryDesk$Way" "pulls" "I") ∈ lw_gd := lw_gm (lw_in1 (List.mem_of_getElem? (i := 106) rfl)) rfl
theorem gm_89 : (Jvm.Cond.fieldLink "OdometryDesk" (135 : Nat) "OdometryDesk$Way" "pulls" "I") ∈ lw_gd := lw_gm (lw_in1 (List.mem_of_getElem? (i := 107) rfl)) rfl
theorem gm_90 : (Jvm.Cond.fieldLink "OdometryDesk$Way" (53 : Nat) "OdometryDesk$Way" "errors" "J") ∈ lw_gd := lw_gm (lw_in1 (List.mem_of_getElem? (i := 108) rfl)) rfl
theorem gm_91 : (Jvm.Cond.fieldLink "OdometryDesk" (219 : Nat) "OdometryDesk$Way" "errors" "J") ∈ lw_gd := lw_gm (lw_in1 (List.mem_of_getElem? (i := 109) rfl)) rfl
theorem gm_92 : (Jvm.Cond.fieldLink "OdometryDesk$Way" (136 : Nat) "OdometryDesk$Way" "turn" "I") ∈ lw_gd := lw_gm (lw_in1 (List.mem_of_getElem? (i := 110) rfl)) rfl
theorem gm_93 : (Jvm.Cond.fieldLink "OdometryDesk$Way" (139 : Nat) "OdometryDesk$Way" "distance" "I") ∈ lw_gd := lw_gm (lw_in1 (List.mem_of_getElem? (i := 111) rfl)) rfl
theorem gm_94 : (Jvm.Cond.laysFinal "OdometryDesk$Way" "OdometryDesk$Way" "poses" "[[I") ∈ lw_gd := lw_gm (lw_in1 (List.mem_of_getElem? (i := 112) rfl)) rfl
theorem gm_95 : (Jvm.Cond.laysFinal "OdometryDesk$Way" "OdometryDesk$Way" "facts" "[[I") ∈ lw_gd := lw_gm (lw_in1 (List.mem_of_getElem? (i := 114) rfl)) rfl
theorem gm_96 : (Jvm.Cond.laysFinal "OdometryDesk$Way" "OdometryDesk$Way" "kinds" "[I") ∈ lw_gd := lw_gm (lw_in1 (List.mem_of_getElem? (i := 116) rfl)) rfl
theorem gm_97 : (Jvm.Cond.lays "OdometryDesk$Way" "OdometryDesk$Way" "x" "I") ∈ lw_gd := lw_gm (lw_in1 (List.mem_of_getElem? (i := 118) rfl)) rfl
theorem gm_98 : (Jvm.Cond.lays "OdometryDesk$Way" "OdometryDesk$Way" "y" "I") ∈ lw_gd := lw_gm (lw_in1 (List.mem_of_getElem? (i := 120) rfl)) rfl
theorem gm_99 : (Jvm.Cond.lays "OdometryDesk$Way" "OdometryDesk$Way" "heading" "I") ∈ lw_gd := lw_gm (lw_in1 (List.mem_of_getElem? (i := 122) rfl)) rfl
theorem gm_100 : (Jvm.Cond.lays "OdometryDesk$Way" "OdometryDesk$Way" "length" "I") ∈ lw_gd := lw_gm (lw_in1 (List.mem_of_getElem? (i := 124) rfl)) rfl
theorem gm_101 : (Jvm.Cond.lays "OdometryDesk$Way" "OdometryDesk$Way" "bias" "I") ∈ lw_gd := lw_gm (lw_in1 (List.mem_of_getElem? (i := 126) rfl)) rfl
theorem gm_102 : (Jvm.Cond.lays "OdometryDesk$Way" "OdometryDesk$Way" "pulls" "I") ∈ lw_gd := lw_gm (lw_in1 (List.mem_of_getElem? (i := 128) rfl)) rfl
theorem gm_103 : (Jvm.Cond.lays "OdometryDesk$Way" "OdometryDesk$Way" "errors" "J") ∈ lw_gd := lw_gm (lw_in1 (List.mem_of_getElem? (i := 130) rfl)) rfl
theorem gm_104 : (Jvm.Cond.lays "OdometryDesk$Way" "OdometryDesk$Way" "turn" "I") ∈ lw_gd := lw_gm (lw_in1 (List.mem_of_getElem? (i := 132) rfl)) rfl
theorem gm_105 : (Jvm.Cond.lays "OdometryDesk$Way" "OdometryDesk$Way" "distance" "I") ∈ lw_gd := lw_gm (lw_in1 (List.mem_of_getElem? (i := 134) rfl)) rfl
theorem gm_106 : (Jvm.Cond.classLink "OdometryDesk" (29 : Nat) "OdometryDesk$Pad") ∈ lw_gd := lw_gm (lw_in1 (List.mem_of_getElem? (i := 137) rfl)) rfl
theorem gm_107 : (Jvm.Cond.instantiable "OdometryDesk$Pad" (5 : Nat)) ∈ lw_gd := lw_gm (lw_in1 (List.mem_of_getElem? (i := 138) rfl)) rfl
theorem gm_108 : (Jvm.Cond.instanceMethod ({ cls := "OdometryDesk$Pad", name := "<init>", desc := "()V" } : Jvm.MethodName)) ∈ lw_gd := lw_gm (lw_in1 (List.mem_of_getElem? (i := 140) rfl)) rfl
theorem gm_109 : (Jvm.Cond.code ({ cls := "OdometryDesk$Pad", name := "<init>", desc := "()V" } : Jvm.MethodName) prog_2_method_1_code (1 : Nat) (Option.none : Option Jvm.ClassFile.FieldType)) ∈ lw_gd := lw_gm (lw_in1 (List.mem_of_getElem? (i := 141) rfl)) rfl
theorem gm_110 : (Jvm.Cond.methodLink "OdometryDesk$Pad" (3 : Nat) ({ cls := "java/lang/Object", name := "<init>", desc := "()V" } : Jvm.MethodName)) ∈ lw_gd := lw_gm (lw_in1 (List.mem_of_getElem? (i := 142) rfl)) rfl
theorem gm_111 : (Jvm.Cond.fieldLink "OdometryDesk$Pad" (9 : Nat) "OdometryDesk$Pad" "signs" "[I") ∈ lw_gd := lw_gm (lw_in1 (List.mem_of_getElem? (i := 143) rfl)) rfl
theorem gm_112 : (Jvm.Cond.fieldLink "OdometryDesk$Pad" (24 : Nat) "OdometryDesk$Pad" "length" "I") ∈ lw_gd := lw_gm (lw_in1 (List.mem_of_getElem? (i := 144) rfl)) rfl
theorem gm_113 : (Jvm.Cond.fieldLink "OdometryDesk" (145 : Nat) "OdometryDesk$Pad" "length" "I") ∈ lw_gd := lw_gm (lw_in1 (List.mem_of_getElem? (i := 145) rfl)) rfl
theorem gm_114 : (Jvm.Cond.fieldLink "OdometryDesk$Pad" (32 : Nat) "OdometryDesk$Pad" "at" "I") ∈ lw_gd := lw_gm (lw_in1 (List.mem_of_getElem? (i := 146) rfl)) rfl
theorem gm_115 : (Jvm.Cond.fieldLink "OdometryDesk" (184 : Nat) "OdometryDesk$Pad" "at" "I") ∈ lw_gd := lw_gm (lw_in1 (List.mem_of_getElem? (i := 147) rfl)) rfl
theorem gm_116 : (Jvm.Cond.fieldLink "OdometryDesk$Pad" (43 : Nat) "OdometryDesk$Pad" "isSight" "Z") ∈ lw_gd := lw_gm (lw_in1 (List.mem_of_getElem? (i := 148) rfl)) rfl
theorem gm_117 : (Jvm.Cond.fieldLink "OdometryDesk" (212 : Nat) "OdometryDesk$Pad" "isSight" "Z") ∈ lw_gd := lw_gm (lw_in1 (List.mem_of_getElem? (i := 149) rfl)) rfl
theorem gm_118 : (Jvm.Cond.fieldLink "OdometryDesk$Pad" (15 : Nat) "OdometryDesk$Pad" "numbers" "[I") ∈ lw_gd := lw_gm (lw_in1 (List.mem_of_getElem? (i := 150) rfl)) rfl
theorem gm_119 : (Jvm.Cond.fieldLink "OdometryDesk" (209 : Nat) "OdometryDesk$Pad" "numbers" "[I") ∈ lw_gd := lw_gm (lw_in1 (List.mem_of_getElem? (i := 151) rfl)) rfl
theorem gm_120 : (Jvm.Cond.laysFinal "OdometryDesk$Pad" "OdometryDesk$Pad" "signs" "[I") ∈ lw_gd := lw_gm (lw_in1 (List.mem_of_getElem? (i := 152) rfl)) rfl
theorem gm_121 : (Jvm.Cond.lays "OdometryDesk$Pad" "OdometryDesk$Pad" "length" "I") ∈ lw_gd := lw_gm (lw_in1 (List.mem_of_getElem? (i := 154) rfl)) rfl
theorem gm_122 : (Jvm.Cond.lays "OdometryDesk$Pad" "OdometryDesk$Pad" "at" "I") ∈ lw_gd := lw_gm (lw_in1 (List.mem_of_getElem? (i := 156) rfl)) rfl
theorem gm_123 : (Jvm.Cond.lays "OdometryDesk$Pad" "OdometryDesk$Pad" "isSight" "Z") ∈ lw_gd := lw_gm (lw_in1 (List.mem_of_getElem? (i := 158) rfl)) rfl
theorem gm_124 : (Jvm.Cond.laysFinal "OdometryDesk$Pad" "OdometryDesk$Pad" "numbers" "[I") ∈ lw_gd := lw_gm (lw_in1 (List.mem_of_getElem? (i := 160) rfl)) rfl
theorem gm_125 : (Jvm.Cond.fieldLink "OdometryDesk" (36 : Nat) "OdometryDesk" "FIRST_VALUES" "[I") ∈ lw_gd := lw_gm (lw_in1 (List.mem_of_getElem? (i := 163) rfl)) rfl
theorem gm_126 : (Jvm.Cond.methodLink "OdometryDesk" (40 : Nat) ({ cls := "[I", name := "clone", desc := "()Ljava/lang/Object;" } : Jvm.MethodName)) ∈ lw_gd := lw_gm (lw_in1 (List.mem_of_getElem? (i := 164) rfl)) rfl
theorem gm_127 : (Jvm.Cond.classLink "OdometryDesk" (41 : Nat) "[I") ∈ lw_gd := lw_gm (lw_in1 (List.mem_of_getElem? (i := 165) rfl)) rfl
theorem gm_128 : (Jvm.Cond.fieldLink "OdometryDesk" (10 : Nat) "OdometryDesk" "state" "LOdometryDesk$State;") ∈ lw_gd := lw_gm (lw_in1 (List.mem_of_getElem? (i := 166) rfl)) rfl
theorem gm_129 : (Jvm.Cond.fieldLink "OdometryDesk" (16 : Nat) "OdometryDesk" "firstSlot" "LOdometryDesk$State;") ∈ lw_gd := lw_gm (lw_in1 (List.mem_of_getElem? (i := 167) rfl)) rfl
theorem gm_130 : (Jvm.Cond.fieldLink "OdometryDesk" (19 : Nat) "OdometryDesk" "secondSlot" "LOdometryDesk$State;") ∈ lw_gd := lw_gm (lw_in1 (List.mem_of_getElem? (i := 168) rfl)) rfl
theorem gm_131 : (Jvm.Cond.fieldLink "OdometryDesk" (25 : Nat) "OdometryDesk" "way" "LOdometryDesk$Way;") ∈ lw_gd := lw_gm (lw_in1 (List.mem_of_getElem? (i := 169) rfl)) rfl
theorem gm_132 : (Jvm.Cond.fieldLink "OdometryDesk" (32 : Nat) "OdometryDesk" "pad" "LOdometryDesk$Pad;") ∈ lw_gd := lw_gm (lw_in1 (List.mem_of_getElem? (i := 170) rfl)) rfl
theorem gm_133 : (Jvm.Cond.fieldLink "OdometryDesk" (45 : Nat) "OdometryDesk" "tried" "[I") ∈ lw_gd := lw_gm (lw_in1 (List.mem_of_getElem? (i := 171) rfl)) rfl
theorem gm_134 : (Jvm.Cond.laysFinal "OdometryDesk" "OdometryDesk" "state" "LOdometryDesk$State;") ∈ lw_gd := lw_gm (lw_in1 (List.mem_of_getElem? (i := 172) rfl)) rfl
theorem gm_135 : (Jvm.Cond.laysFinal "OdometryDesk" "OdometryDesk" "firstSlot" "LOdometryDesk$State;") ∈ lw_gd := lw_gm (lw_in1 (List.mem_of_getElem? (i := 174) rfl)) rfl
theorem gm_136 : (Jvm.Cond.laysFinal "OdometryDesk" "OdometryDesk" "secondSlot" "LOdometryDesk$State;") ∈ lw_gd := lw_gm (lw_in1 (List.mem_of_getElem? (i := 176) rfl)) rfl
theorem gm_137 : (Jvm.Cond.laysFinal "OdometryDesk" "OdometryDesk" "way" "LOdometryDesk$Way;") ∈ lw_gd := lw_gm (lw_in1 (List.mem_of_getElem? (i := 178) rfl)) rfl
theorem gm_138 : (Jvm.Cond.laysFinal "OdometryDesk" "OdometryDesk" "pad" "LOdometryDesk$Pad;") ∈ lw_gd := lw_gm (lw_in1 (List.mem_of_getElem? (i := 180) rfl)) rfl
theorem gm_139 : (Jvm.Cond.laysFinal "OdometryDesk" "OdometryDesk" "tried" "[I") ∈ lw_gd := lw_gm (lw_in1 (List.mem_of_getElem? (i := 182) rfl)) rfl
theorem gm_140 : (Jvm.Cond.methodLink "OdometryDeskLaw" (26 : Nat) ({ cls := "OdometryDesk", name := "set", desc := "(II)I" } : Jvm.MethodName)) ∈ lw_gd := lw_gm (lw_in1 (List.mem_of_getElem? (i := 185) rfl)) rfl
theorem gm_141 : (Jvm.Cond.instanceMethod ({ cls := "OdometryDesk", name := "set", desc := "(II)I" } : Jvm.MethodName)) ∈ lw_gd := lw_gm (lw_in1 (List.mem_of_getElem? (i := 186) rfl)) rfl
theorem gm_142 : (Jvm.Cond.selects "OdometryDesk" ({ cls := "OdometryDesk", name := "set", desc := "(II)I" } : Jvm.MethodName) ({ cls := "OdometryDesk", name := "set", desc := "(II)I" } : Jvm.MethodName)) ∈ lw_gd := lw_gm (lw_in1 (List.mem_of_getElem? (i := 187) rfl)) rfl
theorem gm_143 : (Jvm.Cond.code ({ cls := "OdometryDesk", name := "set", desc := "(II)I" } : Jvm.MethodName) prog_1_method_2_code (4 : Nat) (Option.some Jvm.ClassFile.FieldType.int)) ∈ lw_gd := lw_gm (lw_in1 (List.mem_of_getElem? (i := 188) rfl)) rfl
theorem gm_144 : (Jvm.Cond.methodLink "OdometryDesk" (48 : Nat) ({ cls := "OdometryDesk", name := "isSetting", desc := "(II)Z" } : Jvm.MethodName)) ∈ lw_gd := lw_gm (lw_in1 (List.mem_of_getElem? (i := 189) rfl)) rfl
theorem gm_145 : (Jvm.Cond.static ({ cls := "OdometryDesk", name := "isSetting", desc := "(II)Z" } : Jvm.MethodName)) ∈ lw_gd := lw_gm (lw_in1 (List.mem_of_getElem? (i := 190) rfl)) rfl
theorem gm_146 : (Jvm.Cond.code ({ cls := "OdometryDesk", name := "isSetting", desc := "(II)Z" } : Jvm.MethodName) prog_1_method_28_code (2 : Nat) (Option.some Jvm.ClassFile.FieldType.boolean)) ∈ lw_gd := lw_gm (lw_in1 (List.mem_of_getElem? (i := 191) rfl)) rfl
theorem gm_147 : (Jvm.Cond.fieldLink "OdometryDesk" (225 : Nat) "OdometryDesk" "LOWEST" "[I") ∈ lw_gd := lw_gm (lw_in1 (List.mem_of_getElem? (i := 192) rfl)) rfl
theorem gm_148 : (Jvm.Cond.fieldLink "OdometryDesk" (228 : Nat) "OdometryDesk" "HIGHEST" "[I") ∈ lw_gd := lw_gm (lw_in1 (List.mem_of_getElem? (i := 194) rfl)) rfl
theorem gm_149 : (Jvm.Cond.methodLink "OdometryDesk" (66 : Nat) ({ cls := "OdometryDesk", name := "isWithin", desc := "(III)Z" } : Jvm.MethodName)) ∈ lw_gd := lw_gm (lw_in1 (List.mem_of_getElem? (i := 196) rfl)) rfl
theorem gm_150 : (Jvm.Cond.static ({ cls := "OdometryDesk", name := "isWithin", desc := "(III)Z" } : Jvm.MethodName)) ∈ lw_gd := lw_gm (lw_in1 (List.mem_of_getElem? (i := 197) rfl)) rfl
theorem gm_151 : (Jvm.Cond.code ({ cls := "OdometryDesk", name := "isWithin", desc := "(III)Z" } : Jvm.MethodName) prog_1_method_26_code (3 : Nat) (Option.some Jvm.ClassFile.FieldType.boolean)) ∈ lw_gd := lw_gm (lw_in1 (List.mem_of_getElem? (i := 198) rfl)) rfl
theorem gm_152 : (Jvm.Cond.methodLink "OdometryDesk" (55 : Nat) ({ cls := "OdometryDesk", name := "item", desc := "([II)I" } : Jvm.MethodName)) ∈ lw_gd := lw_gm (lw_in1 (List.mem_of_getElem? (i := 199) rfl)) rfl
theorem gm_153 : (Jvm.Cond.static ({ cls := "OdometryDesk", name := "item", desc := "([II)I" } : Jvm.MethodName)) ∈ lw_gd := lw_gm (lw_in1 (List.mem_of_getElem? (i := 200) rfl)) rfl
theorem gm_154 : (Jvm.Cond.code ({ cls := "OdometryDesk", name := "item", desc := "([II)I" } : Jvm.MethodName) prog_1_method_33_code (2 : Nat) (Option.some Jvm.ClassFile.FieldType.int)) ∈ lw_gd := lw_gm (lw_in1 (List.mem_of_getElem? (i := 201) rfl)) rfl
theorem gm_155 : (Jvm.Cond.methodLink "OdometryDesk" (59 : Nat) ({ cls := "OdometryDesk", name := "keep", desc := "([III)V" } : Jvm.MethodName)) ∈ lw_gd := lw_gm (lw_in1 (List.mem_of_getElem? (i := 202) rfl)) rfl
theorem gm_156 : (Jvm.Cond.static ({ cls := "OdometryDesk", name := "keep", desc := "([III)V" } : Jvm.MethodName)) ∈ lw_gd := lw_gm (lw_in1 (List.mem_of_getElem? (i := 203) rfl)) rfl
theorem gm_157 : (Jvm.Cond.code ({ cls := "OdometryDesk", name := "keep", desc := "([III)V" } : Jvm.MethodName) prog_1_method_34_code (3 : Nat) (Option.none : Option Jvm.ClassFile.FieldType)) ∈ lw_gd := lw_gm (lw_in1 (List.mem_of_getElem? (i := 204) rfl)) rfl
theorem gm_158 : (Jvm.Cond.methodLink "OdometryDeskLaw" (38 : Nat) ({ cls := "OdometryDesk", name := "corridor", desc := "(IIIII)I" } : Jvm.MethodName)) ∈ lw_gd := lw_gm (lw_in1 (List.mem_of_getElem? (i := 205) rfl)) rfl
theorem gm_159 : (Jvm.Cond.instanceMethod ({ cls := "OdometryDesk", name := "corridor", desc := "(IIIII)I" } : Jvm.MethodName)) ∈ lw_gd := lw_gm (lw_in1 (List.mem_of_getElem? (i := 206) rfl)) rfl
theorem gm_160 : (Jvm.Cond.selects "OdometryDesk" ({ cls := "OdometryDesk", name := "corridor", desc := "(IIIII)I" } : Jvm.MethodName) ({ cls := "OdometryDesk", name := "corridor", desc := "(IIIII)I" } : Jvm.MethodName)) ∈ lw_gd := lw_gm (lw_in1 (List.mem_of_getElem? (i := 207) rfl)) rfl
theorem gm_161 : (Jvm.Cond.code ({ cls := "OdometryDesk", name := "corridor", desc := "(IIIII)I" } : Jvm.MethodName) prog_1_method_3_code (7 : Nat) (Option.some Jvm.ClassFile.FieldType.int)) ∈ lw_gd := lw_gm (lw_in1 (List.mem_of_getElem? (i := 208) rfl)) rfl
theorem gm_162 : (Jvm.Cond.methodLink "OdometryDesk" (63 : Nat) ({ cls := "OdometryDesk", name := "isPlace", desc := "(II)Z" } : Jvm.MethodName)) ∈ lw_gd := lw_gm (lw_in1 (List.mem_of_getElem? (i := 209) rfl)) rfl
theorem gm_163 : (Jvm.Cond.static ({ cls := "OdometryDesk", name := "isPlace", desc := "(II)Z" } : Jvm.MethodName)) ∈ lw_gd := lw_gm (lw_in1 (List.mem_of_getElem? (i := 210) rfl)) rfl
theorem gm_164 : (Jvm.Cond.code ({ cls := "OdometryDesk", name := "isPlace", desc := "(II)Z" } : Jvm.MethodName) prog_1_method_27_code (2 : Nat) (Option.some Jvm.ClassFile.FieldType.boolean)) ∈ lw_gd := lw_gm (lw_in1 (List.mem_of_getElem? (i := 211) rfl)) rfl
theorem gm_165 : (Jvm.Cond.constant "OdometryDesk" (223 : Nat) (-100000 : Int32)) ∈ lw_gd := lw_gm (lw_in1 (List.mem_of_getElem? (i := 212) rfl)) rfl
theorem gm_166 : (Jvm.Cond.constant "OdometryDesk" (224 : Nat) (100000 : Int32)) ∈ lw_gd := lw_gm (lw_in1 (List.mem_of_getElem? (i := 213) rfl)) rfl
theorem gm_167 : (Jvm.Cond.methodLink "OdometryDesk" (78 : Nat) ({ cls := "java/lang/Math", name := "min", desc := "(II)I" } : Jvm.MethodName)) ∈ lw_gd := lw_gm (lw_in1 (List.mem_of_getElem? (i := 214) rfl)) rfl
theorem gm_168 : (Jvm.Cond.static ({ cls := "java/lang/Math", name := "min", desc := "(II)I" } : Jvm.MethodName)) ∈ lw_gd := lw_gm (lw_in1 (List.mem_of_getElem? (i := 215) rfl)) rfl
theorem gm_169 : (Jvm.Cond.code ({ cls := "java/lang/Math", name := "min", desc := "(II)I" } : Jvm.MethodName) prog_8_method_69_code (2 : Nat) (Option.some Jvm.ClassFile.FieldType.int)) ∈ lw_gd := lw_gm (lw_in1 (List.mem_of_getElem? (i := 216) rfl)) rfl
theorem gm_170 : (Jvm.Cond.methodLink "OdometryDesk" (84 : Nat) ({ cls := "OdometryDesk", name := "keep", desc := "([[IIII)V" } : Jvm.MethodName)) ∈ lw_gd := lw_gm (lw_in1 (List.mem_of_getElem? (i := 217) rfl)) rfl
theorem gm_171 : (Jvm.Cond.static ({ cls := "OdometryDesk", name := "keep", desc := "([[IIII)V" } : Jvm.MethodName)) ∈ lw_gd := lw_gm (lw_in1 (List.mem_of_getElem? (i := 218) rfl)) rfl
theorem gm_172 : (Jvm.Cond.code ({ cls := "OdometryDesk", name := "keep", desc := "([[IIII)V" } : Jvm.MethodName) prog_1_method_36_code (4 : Nat) (Option.none : Option Jvm.ClassFile.FieldType)) ∈ lw_gd := lw_gm (lw_in1 (List.mem_of_getElem? (i := 219) rfl)) rfl
theorem gm_173 : (Jvm.Cond.methodLink "OdometryDesk" (87 : Nat) ({ cls := "java/lang/Math", name := "max", desc := "(II)I" } : Jvm.MethodName)) ∈ lw_gd := lw_gm (lw_in1 (List.mem_of_getElem? (i := 220) rfl)) rfl
theorem gm_174 : (Jvm.Cond.static ({ cls := "java/lang/Math", name := "max", desc := "(II)I" } : Jvm.MethodName)) ∈ lw_gd := lw_gm (lw_in1 (List.mem_of_getElem? (i := 221) rfl)) rfl
theorem gm_175 : (Jvm.Cond.code ({ cls := "java/lang/Math", name := "max", desc := "(II)I" } : Jvm.MethodName) prog_8_method_65_code (2 : Nat) (Option.some Jvm.ClassFile.FieldType.int)) ∈ lw_gd := lw_gm (lw_in1 (List.mem_of_getElem? (i := 222) rfl)) rfl
theorem gm_176 : (Jvm.Cond.methodLink "OdometryDeskLaw" (35 : Nat) ({ cls := "OdometryDesk", name := "marker", desc := "(II)I" } : Jvm.MethodName)) ∈ lw_gd := lw_gm (lw_in1 (List.mem_of_getElem? (i := 223) rfl)) rfl
theorem gm_177 : (Jvm.Cond.instanceMethod ({ cls := "OdometryDesk", name := "marker", desc := "(II)I" } : Jvm.MethodName)) ∈ lw_gd := lw_gm (lw_in1 (List.mem_of_getElem? (i := 224) rfl)) rfl
theorem gm_178 : (Jvm.Cond.selects "OdometryDesk" ({ cls := "OdometryDesk", name := "marker", desc := "(II)I" } : Jvm.MethodName) ({ cls := "OdometryDesk", name := "marker", desc := "(II)I" } : Jvm.MethodName)) ∈ lw_gd := lw_gm (lw_in1 (List.mem_of_getElem? (i := 225) rfl)) rfl
theorem gm_179 : (Jvm.Cond.code ({ cls := "OdometryDesk", name := "marker", desc := "(II)I" } : Jvm.MethodName) prog_1_method_4_code (4 : Nat) (Option.some Jvm.ClassFile.FieldType.int)) ∈ lw_gd := lw_gm (lw_in1 (List.mem_of_getElem? (i := 226) rfl)) rfl
theorem gm_180 : (Jvm.Cond.methodLink "OdometryDeskLaw" (31 : Nat) ({ cls := "OdometryDesk", name := "begin", desc := "(III)I" } : Jvm.MethodName)) ∈ lw_gd := lw_gm (lw_in1 (List.mem_of_getElem? (i := 227) rfl)) rfl
theorem gm_181 : (Jvm.Cond.instanceMethod ({ cls := "OdometryDesk", name := "begin", desc := "(III)I" } : Jvm.MethodName)) ∈ lw_gd := lw_gm (lw_in1 (List.mem_of_getElem? (i := 228) rfl)) rfl
theorem gm_182 : (Jvm.Cond.selects "OdometryDesk" ({ cls := "OdometryDesk", name := "begin", desc := "(III)I" } : Jvm.MethodName) ({ cls := "OdometryDesk", name := "begin", desc := "(III)I" } : Jvm.MethodName)) ∈ lw_gd := lw_gm (lw_in1 (List.mem_of_getElem? (i := 229) rfl)) rfl
theorem gm_183 : (Jvm.Cond.code ({ cls := "OdometryDesk", name := "begin", desc := "(III)I" } : Jvm.MethodName) prog_1_method_6_code (4 : Nat) (Option.some Jvm.ClassFile.FieldType.int)) ∈ lw_gd := lw_gm (lw_in1 (List.mem_of_getElem? (i := 230) rfl)) rfl
theorem gm_184 : (Jvm.Cond.constant "OdometryDesk" (96 : Nat) (3599999 : Int32)) ∈ lw_gd := lw_gm (lw_in1 (List.mem_of_getElem? (i := 231) rfl)) rfl
theorem gm_185 : (Jvm.Cond.methodLink "OdometryDeskLaw" (12 : Nat) ({ cls := "OdometryDeskLaw", name := "cell", desc := "([II)I" } : Jvm.MethodName)) ∈ lw_gd := lw_gm (lw_in1 (List.mem_of_getElem? (i := 232) rfl)) rfl
theorem gm_186 : (Jvm.Cond.static ({ cls := "OdometryDeskLaw", name := "cell", desc := "([II)I" } : Jvm.MethodName)) ∈ lw_gd := lw_gm (lw_in1 (List.mem_of_getElem? (i := 233) rfl)) rfl
theorem gm_187 : (Jvm.Cond.code ({ cls := "OdometryDeskLaw", name := "cell", desc := "([II)I" } : Jvm.MethodName) method_2_code (2 : Nat) (Option.some Jvm.ClassFile.FieldType.int)) ∈ lw_gd := lw_gm (lw_in1 (List.mem_of_getElem? (i := 234) rfl)) rfl
theorem gm_188 : (Jvm.Cond.constant "OdometryDeskLaw" (7 : Nat) (73244475 : Int32)) ∈ lw_gd := lw_gm (lw_in1 (List.mem_of_getElem? (i := 235) rfl)) rfl
theorem gm_189 : (Jvm.Cond.methodLink "OdometryDeskLaw" (22 : Nat) ({ cls := "OdometryDeskLaw", name := "up", desc := "(II)I" } : Jvm.MethodName)) ∈ lw_gd := lw_gm (lw_in1 (List.mem_of_getElem? (i := 236) rfl)) rfl
theorem gm_190 : (Jvm.Cond.static ({ cls := "OdometryDeskLaw", name := "up", desc := "(II)I" } : Jvm.MethodName)) ∈ lw_gd := lw_gm (lw_in1 (List.mem_of_getElem? (i := 237) rfl)) rfl
theorem gm_191 : (Jvm.Cond.code ({ cls := "OdometryDeskLaw", name := "up", desc := "(II)I" } : Jvm.MethodName) method_3_code (2 : Nat) (Option.some Jvm.ClassFile.FieldType.int)) ∈ lw_gd := lw_gm (lw_in1 (List.mem_of_getElem? (i := 238) rfl)) rfl
theorem gm_192 : (Jvm.Cond.constant "OdometryDeskLaw" (8 : Nat) (2147483647 : Int32)) ∈ lw_gd := lw_gm (lw_in1 (List.mem_of_getElem? (i := 239) rfl)) rfl
theorem gm_193 : (Jvm.Cond.methodLink "OdometryDeskLaw" (42 : Nat) ({ cls := "OdometryDeskLaw", name := "adds", desc := "(LOdometryDesk;II)Z" } : Jvm.MethodName)) ∈ lw_gd := lw_gm (lw_in2 (List.mem_of_getElem? (i := 0) rfl)) rfl
theorem gm_194 : (Jvm.Cond.static ({ cls := "OdometryDeskLaw", name := "adds", desc := "(LOdometryDesk;II)Z" } : Jvm.MethodName)) ∈ lw_gd := lw_gm (lw_in2 (List.mem_of_getElem? (i := 1) rfl)) rfl
theorem gm_195 : (Jvm.Cond.code ({ cls := "OdometryDeskLaw", name := "adds", desc := "(LOdometryDesk;II)Z" } : Jvm.MethodName) method_6_code (9 : Nat) (Option.some Jvm.ClassFile.FieldType.boolean)) ∈ lw_gd := lw_gm (lw_in2 (List.mem_of_getElem? (i := 2) rfl)) rfl
theorem gm_196 : (Jvm.Cond.methodLink "OdometryDeskLaw" (65 : Nat) ({ cls := "OdometryDesk", name := "count", desc := "(I)I" } : Jvm.MethodName)) ∈ lw_gd := lw_gm (lw_in2 (List.mem_of_getElem? (i := 3) rfl)) rfl
theorem gm_197 : (Jvm.Cond.instanceMethod ({ cls := "OdometryDesk", name := "count", desc := "(I)I" } : Jvm.MethodName)) ∈ lw_gd := lw_gm (lw_in2 (List.mem_of_getElem? (i := 4) rfl)) rfl
theorem gm_198 : (Jvm.Cond.selects "OdometryDesk" ({ cls := "OdometryDesk", name := "count", desc := "(I)I" } : Jvm.MethodName) ({ cls := "OdometryDesk", name := "count", desc := "(I)I" } : Jvm.MethodName)) ∈ lw_gd := lw_gm (lw_in2 (List.mem_of_getElem? (i := 5) rfl)) rfl
theorem gm_199 : (Jvm.Cond.code ({ cls := "OdometryDesk", name := "count", desc := "(I)I" } : Jvm.MethodName) prog_1_method_12_code (2 : Nat) (Option.some Jvm.ClassFile.FieldType.int)) ∈ lw_gd := lw_gm (lw_in2 (List.mem_of_getElem? (i := 6) rfl)) rfl
theorem gm_200 : (Jvm.Cond.methodLink "OdometryDesk" (119 : Nat) ({ cls := "OdometryDesk$Way", name := "follow", desc := "(LOdometryDesk$State;[I)V" } : Jvm.MethodName)) ∈ lw_gd := lw_gm (lw_in2 (List.mem_of_getElem? (i := 7) rfl)) rfl
theorem gm_201 : (Jvm.Cond.instanceMethod ({ cls := "OdometryDesk$Way", name := "follow", desc := "(LOdometryDesk$State;[I)V" } : Jvm.MethodName)) ∈ lw_gd := lw_gm (lw_in2 (List.mem_of_getElem? (i := 8) rfl)) rfl
theorem gm_202 : (Jvm.Cond.selects "OdometryDesk$Way" ({ cls := "OdometryDesk$Way", name := "follow", desc := "(LOdometryDesk$State;[I)V" } : Jvm.MethodName) ({ cls := "OdometryDesk$Way", name := "follow", desc := "(LOdometryDesk$State;[I)V" } : Jvm.MethodName)) ∈ lw_gd := lw_gm (lw_in2 (List.mem_of_getElem? (i := 9) rfl)) rfl
theorem gm_203 : (Jvm.Cond.code ({ cls := "OdometryDesk$Way", name := "follow", desc := "(LOdometryDesk$State;[I)V" } : Jvm.MethodName) prog_4_method_2_code (4 : Nat) (Option.none : Option Jvm.ClassFile.FieldType)) ∈ lw_gd := lw_gm (lw_in2 (List.mem_of_getElem? (i := 10) rfl)) rfl
theorem gm_204 : (Jvm.Cond.methodLink "OdometryDesk$Way" (57 : Nat) ({ cls := "java/util/Arrays", name := "fill", desc := "([II)V" } : Jvm.MethodName)) ∈ lw_gd := lw_gm (lw_in2 (List.mem_of_getElem? (i := 11) rfl)) rfl
theorem gm_205 : (Jvm.Cond.static ({ cls := "java/util/Arrays", name := "fill", desc := "([II)V" } : Jvm.MethodName)) ∈ lw_gd := lw_gm (lw_in2 (List.mem_of_getElem? (i := 12) rfl)) rfl
theorem gm_206 : (Jvm.Cond.code ({ cls := "java/util/Arrays", name := "fill", desc := "([II)V" } : Jvm.MethodName) prog_10_method_103_code (4 : Nat) (Option.none : Option Jvm.ClassFile.FieldType)) ∈ lw_gd := lw_gm (lw_in2 (List.mem_of_getElem? (i := 13) rfl)) rfl
theorem gm_207 : (Jvm.Cond.constant "OdometryDesk$Way" (63 : Nat) (-1000000006 : Int32)) ∈ lw_gd := lw_gm (lw_in2 (List.mem_of_getElem? (i := 14) rfl)) rfl
theorem gm_208 : (Jvm.Cond.methodLink "OdometryDesk$Way" (64 : Nat) ({ cls := "OdometryDesk$Way", name := "keepPose", desc := "(I)V" } : Jvm.MethodName)) ∈ lw_gd := lw_gm (lw_in2 (List.mem_of_getElem? (i := 15) rfl)) rfl
theorem gm_209 : (Jvm.Cond.instanceMethod ({ cls := "OdometryDesk$Way", name := "keepPose", desc := "(I)V" } : Jvm.MethodName)) ∈ lw_gd := lw_gm (lw_in2 (List.mem_of_getElem? (i := 17) rfl)) rfl
theorem gm_210 : (Jvm.Cond.code ({ cls := "OdometryDesk$Way", name := "keepPose", desc := "(I)V" } : Jvm.MethodName) prog_4_method_8_code (2 : Nat) (Option.none : Option Jvm.ClassFile.FieldType)) ∈ lw_gd := lw_gm (lw_in2 (List.mem_of_getElem? (i := 18) rfl)) rfl
theorem gm_211 : (Jvm.Cond.methodLink "OdometryDesk$Way" (71 : Nat) ({ cls := "OdometryDesk$State", name := "isSight", desc := "(I)Z" } : Jvm.MethodName)) ∈ lw_gd := lw_gm (lw_in2 (List.mem_of_getElem? (i := 20) rfl)) rfl
theorem gm_212 : (Jvm.Cond.instanceMethod ({ cls := "OdometryDesk$State", name := "isSight", desc := "(I)Z" } : Jvm.MethodName)) ∈ lw_gd := lw_gm (lw_in2 (List.mem_of_getElem? (i := 21) rfl)) rfl
theorem gm_213 : (Jvm.Cond.selects "OdometryDesk$State" ({ cls := "OdometryDesk$State", name := "isSight", desc := "(I)Z" } : Jvm.MethodName) ({ cls := "OdometryDesk$State", name := "isSight", desc := "(I)Z" } : Jvm.MethodName)) ∈ lw_gd := lw_gm (lw_in2 (List.mem_of_getElem? (i := 22) rfl)) rfl
theorem gm_214 : (Jvm.Cond.code ({ cls := "OdometryDesk$State", name := "isSight", desc := "(I)Z" } : Jvm.MethodName) prog_3_method_5_code (2 : Nat) (Option.some Jvm.ClassFile.FieldType.boolean)) ∈ lw_gd := lw_gm (lw_in2 (List.mem_of_getElem? (i := 23) rfl)) rfl
theorem gm_215 : (Jvm.Cond.static ({ cls := "OdometryDesk", name := "item", desc := "([[III)I" } : Jvm.MethodName)) ∈ lw_gd := lw_gm (lw_in2 (List.mem_of_getElem? (i := 25) rfl)) rfl
theorem gm_216 : (Jvm.Cond.code ({ cls := "OdometryDesk", name := "item", desc := "([[III)I" } : Jvm.MethodName) prog_1_method_35_code (3 : Nat) (Option.some Jvm.ClassFile.FieldType.int)) ∈ lw_gd := lw_gm (lw_in2 (List.mem_of_getElem? (i := 26) rfl)) rfl
theorem gm_217 : (Jvm.Cond.methodLink "OdometryDesk$Way" (75 : Nat) ({ cls := "OdometryDesk$Way", name := "meet", desc := "(LOdometryDesk$State;I)V" } : Jvm.MethodName)) ∈ lw_gd := lw_gm (lw_in2 (List.mem_of_getElem? (i := 27) rfl)) rfl
theorem gm_218 : (Jvm.Cond.instanceMethod ({ cls := "OdometryDesk$Way", name := "meet", desc := "(LOdometryDesk$State;I)V" } : Jvm.MethodName)) ∈ lw_gd := lw_gm (lw_in2 (List.mem_of_getElem? (i := 29) rfl)) rfl
theorem gm_219 : (Jvm.Cond.code ({ cls := "OdometryDesk$Way", name := "meet", desc := "(LOdometryDesk$State;I)V" } : Jvm.MethodName) prog_4_method_10_code (6 : Nat) (Option.none : Option Jvm.ClassFile.FieldType)) ∈ lw_gd := lw_gm (lw_in2 (List.mem_of_getElem? (i := 30) rfl)) rfl
theorem gm_220 : (Jvm.Cond.methodLink "OdometryDesk$Way" (125 : Nat) ({ cls := "OdometryDesk$Way", name := "keepKind", desc := "(II)V" } : Jvm.MethodName)) ∈ lw_gd := lw_gm (lw_in2 (List.mem_of_getElem? (i := 32) rfl)) rfl
theorem gm_221 : (Jvm.Cond.instanceMethod ({ cls := "OdometryDesk$Way", name := "keepKind", desc := "(II)V" } : Jvm.MethodName)) ∈ lw_gd := lw_gm (lw_in2 (List.mem_of_getElem? (i := 34) rfl)) rfl
theorem gm_222 : (Jvm.Cond.code ({ cls := "OdometryDesk$Way", name := "keepKind", desc := "(II)V" } : Jvm.MethodName) prog_4_method_9_code (3 : Nat) (Option.none : Option Jvm.ClassFile.FieldType)) ∈ lw_gd := lw_gm (lw_in2 (List.mem_of_getElem? (i := 35) rfl)) rfl
theorem gm_223 : (Jvm.Cond.methodLink "OdometryDesk$Way" (129 : Nat) ({ cls := "java/lang/Math", name := "abs", desc := "(I)I" } : Jvm.MethodName)) ∈ lw_gd := lw_gm (lw_in2 (List.mem_of_getElem? (i := 38) rfl)) rfl
theorem gm_224 : (Jvm.Cond.static ({ cls := "java/lang/Math", name := "abs", desc := "(I)I" } : Jvm.MethodName)) ∈ lw_gd := lw_gm (lw_in2 (List.mem_of_getElem? (i := 39) rfl)) rfl
theorem gm_225 : (Jvm.Cond.code ({ cls := "java/lang/Math", name := "abs", desc := "(I)I" } : Jvm.MethodName) prog_8_method_59_code (1 : Nat) (Option.some Jvm.ClassFile.FieldType.int)) ∈ lw_gd := lw_gm (lw_in2 (List.mem_of_getElem? (i := 40) rfl)) rfl
theorem gm_226 : (Jvm.Cond.methodLink "OdometryDesk$Way" (79 : Nat) ({ cls := "OdometryDesk$Way", name := "go", desc := "(LOdometryDesk$State;[II)V" } : Jvm.MethodName)) ∈ lw_gd := lw_gm (lw_in2 (List.mem_of_getElem? (i := 41) rfl)) rfl
theorem gm_227 : (Jvm.Cond.instanceMethod ({ cls := "OdometryDesk$Way", name := "go", desc := "(LOdometryDesk$State;[II)V" } : Jvm.MethodName)) ∈ lw_gd := lw_gm (lw_in2 (List.mem_of_getElem? (i := 43) rfl)) rfl
theorem gm_228 : (Jvm.Cond.code ({ cls := "OdometryDesk$Way", name := "go", desc := "(LOdometryDesk$State;[II)V" } : Jvm.MethodName) prog_4_method_11_code (7 : Nat) (Option.none : Option Jvm.ClassFile.FieldType)) ∈ lw_gd := lw_gm (lw_in2 (List.mem_of_getElem? (i := 44) rfl)) rfl
theorem gm_229 : (Jvm.Cond.static ({ cls := "OdometryDesk", name := "ratio", desc := "(JJ)J" } : Jvm.MethodName)) ∈ lw_gd := lw_gm (lw_in2 (List.mem_of_getElem? (i := 46) rfl)) rfl
theorem gm_230 : (Jvm.Cond.code ({ cls := "OdometryDesk", name := "ratio", desc := "(JJ)J" } : Jvm.MethodName) prog_1_method_32_code (4 : Nat) (Option.some Jvm.ClassFile.FieldType.long)) ∈ lw_gd := lw_gm (lw_in2 (List.mem_of_getElem? (i := 47) rfl)) rfl
theorem gm_231 : (Jvm.Cond.methodLink "OdometryDesk$Way" (132 : Nat) ({ cls := "OdometryDesk$Way", name := "weighStep", desc := "([IIJJ)V" } : Jvm.MethodName)) ∈ lw_gd := lw_gm (lw_in2 (List.mem_of_getElem? (i := 48) rfl)) rfl
theorem gm_232 : (Jvm.Cond.instanceMethod ({ cls := "OdometryDesk$Way", name := "weighStep", desc := "([IIJJ)V" } : Jvm.MethodName)) ∈ lw_gd := lw_gm (lw_in2 (List.mem_of_getElem? (i := 50) rfl)) rfl
theorem gm_233 : (Jvm.Cond.code ({ cls := "OdometryDesk$Way", name := "weighStep", desc := "([IIJJ)V" } : Jvm.MethodName) prog_4_method_12_code (16 : Nat) (Option.none : Option Jvm.ClassFile.FieldType)) ∈ lw_gd := lw_gm (lw_in2 (List.mem_of_getElem? (i := 51) rfl)) rfl
theorem gm_234 : (Jvm.Cond.constantLong "OdometryDesk$Way" (148 : Nat) (1000 : Int64)) ∈ lw_gd := lw_gm (lw_in2 (List.mem_of_getElem? (i := 52) rfl)) rfl
theorem gm_235 : (Jvm.Cond.constantLong "OdometryDesk$Way" (150 : Nat) (572958 : Int64)) ∈ lw_gd := lw_gm (lw_in2 (List.mem_of_getElem? (i := 53) rfl)) rfl
theorem gm_236 : (Jvm.Cond.methodLink "OdometryDesk$Way" (152 : Nat) ({ cls := "java/lang/Math", name := "abs", desc := "(J)J" } : Jvm.MethodName)) ∈ lw_gd := lw_gm (lw_in2 (List.mem_of_getElem? (i := 54) rfl)) rfl
theorem gm_237 : (Jvm.Cond.static ({ cls := "java/lang/Math", name := "abs", desc := "(J)J" } : Jvm.MethodName)) ∈ lw_gd := lw_gm (lw_in2 (List.mem_of_getElem? (i := 55) rfl)) rfl
theorem gm_238 : (Jvm.Cond.code ({ cls := "java/lang/Math", name := "abs", desc := "(J)J" } : Jvm.MethodName) prog_8_method_61_code (2 : Nat) (Option.some Jvm.ClassFile.FieldType.long)) ∈ lw_gd := lw_gm (lw_in2 (List.mem_of_getElem? (i := 56) rfl)) rfl
theorem gm_239 : (Jvm.Cond.constantLong "OdometryDesk$Way" (155 : Nat) (100 : Int64)) ∈ lw_gd := lw_gm (lw_in2 (List.mem_of_getElem? (i := 57) rfl)) rfl
theorem gm_240 : (Jvm.Cond.constantLong "OdometryDesk$Way" (157 : Nat) (2 : Int64)) ∈ lw_gd := lw_gm (lw_in2 (List.mem_of_getElem? (i := 58) rfl)) rfl
theorem gm_241 : (Jvm.Cond.methodLink "OdometryDesk$Way" (142 : Nat) ({ cls := "OdometryDesk$Way", name := "move", desc := "()V" } : Jvm.MethodName)) ∈ lw_gd := lw_gm (lw_in2 (List.mem_of_getElem? (i := 59) rfl)) rfl
theorem gm_242 : (Jvm.Cond.instanceMethod ({ cls := "OdometryDesk$Way", name := "move", desc := "()V" } : Jvm.MethodName)) ∈ lw_gd := lw_gm (lw_in2 (List.mem_of_getElem? (i := 61) rfl)) rfl
theorem gm_243 : (Jvm.Cond.code ({ cls := "OdometryDesk$Way", name := "move", desc := "()V" } : Jvm.MethodName) prog_4_method_13_code (2 : Nat) (Option.none : Option Jvm.ClassFile.FieldType)) ∈ lw_gd := lw_gm (lw_in2 (List.mem_of_getElem? (i := 62) rfl)) rfl
theorem gm_244 : (Jvm.Cond.static ({ cls := "OdometryDesk", name := "asHeading", desc := "(J)I" } : Jvm.MethodName)) ∈ lw_gd := lw_gm (lw_in2 (List.mem_of_getElem? (i := 64) rfl)) rfl
theorem gm_245 : (Jvm.Cond.code ({ cls := "OdometryDesk", name := "asHeading", desc := "(J)I" } : Jvm.MethodName) prog_1_method_31_code (2 : Nat) (Option.some Jvm.ClassFile.FieldType.int)) ∈ lw_gd := lw_gm (lw_in2 (List.mem_of_getElem? (i := 65) rfl)) rfl
theorem gm_246 : (Jvm.Cond.constantLong "OdometryDesk" (242 : Nat) (3600000 : Int64)) ∈ lw_gd := lw_gm (lw_in2 (List.mem_of_getElem? (i := 66) rfl)) rfl
theorem gm_247 : (Jvm.Cond.methodLink "OdometryDesk" (244 : Nat) ({ cls := "java/lang/Math", name := "floorMod", desc := "(JJ)J" } : Jvm.MethodName)) ∈ lw_gd := lw_gm (lw_in2 (List.mem_of_getElem? (i := 67) rfl)) rfl
theorem gm_248 : (Jvm.Cond.static ({ cls := "java/lang/Math", name := "floorMod", desc := "(JJ)J" } : Jvm.MethodName)) ∈ lw_gd := lw_gm (lw_in2 (List.mem_of_getElem? (i := 68) rfl)) rfl
theorem gm_249 : (Jvm.Cond.code ({ cls := "java/lang/Math", name := "floorMod", desc := "(JJ)J" } : Jvm.MethodName) prog_8_method_52_code (6 : Nat) (Option.some Jvm.ClassFile.FieldType.long)) ∈ lw_gd := lw_gm (lw_in2 (List.mem_of_getElem? (i := 69) rfl)) rfl
theorem gm_250 : (Jvm.Cond.static ({ cls := "OdometryDesk", name := "angleOfCosine", desc := "(I)I" } : Jvm.MethodName)) ∈ lw_gd := lw_gm (lw_in2 (List.mem_of_getElem? (i := 71) rfl)) rfl
theorem gm_251 : (Jvm.Cond.code ({ cls := "OdometryDesk", name := "angleOfCosine", desc := "(I)I" } : Jvm.MethodName) prog_1_method_30_code (1 : Nat) (Option.some Jvm.ClassFile.FieldType.int)) ∈ lw_gd := lw_gm (lw_in2 (List.mem_of_getElem? (i := 72) rfl)) rfl
theorem gm_252 : (Jvm.Cond.constant "OdometryDesk" (241 : Nat) (36000 : Int32)) ∈ lw_gd := lw_gm (lw_in2 (List.mem_of_getElem? (i := 73) rfl)) rfl
theorem gm_253 : (Jvm.Cond.static ({ cls := "OdometryDesk", name := "sine", desc := "(I)I" } : Jvm.MethodName)) ∈ lw_gd := lw_gm (lw_in2 (List.mem_of_getElem? (i := 75) rfl)) rfl
theorem gm_254 : (Jvm.Cond.code ({ cls := "OdometryDesk", name := "sine", desc := "(I)I" } : Jvm.MethodName) prog_1_method_29_code (6 : Nat) (Option.some Jvm.ClassFile.FieldType.int)) ∈ lw_gd := lw_gm (lw_in2 (List.mem_of_getElem? (i := 76) rfl)) rfl
theorem gm_255 : (Jvm.Cond.constantLong "OdometryDesk" (231 : Nat) (18000 : Int64)) ∈ lw_gd := lw_gm (lw_in2 (List.mem_of_getElem? (i := 77) rfl)) rfl
theorem gm_256 : (Jvm.Cond.constantLong "OdometryDesk" (233 : Nat) (4000000 : Int64)) ∈ lw_gd := lw_gm (lw_in2 (List.mem_of_getElem? (i := 78) rfl)) rfl
theorem gm_257 : (Jvm.Cond.constantLong "OdometryDesk" (235 : Nat) (405000000 : Int64)) ∈ lw_gd := lw_gm (lw_in2 (List.mem_of_getElem? (i := 79) rfl)) rfl
theorem gm_258 : (Jvm.Cond.methodLink "OdometryDesk" (237 : Nat) ({ cls := "OdometryDesk", name := "ratio", desc := "(JJ)J" } : Jvm.MethodName)) ∈ lw_gd := lw_gm (lw_in2 (List.mem_of_getElem? (i := 80) rfl)) rfl
theorem gm_259 : (Jvm.Cond.constantLong "OdometryDesk$Way" (169 : Nat) (1000000 : Int64)) ∈ lw_gd := lw_gm (lw_in2 (List.mem_of_getElem? (i := 81) rfl)) rfl
theorem gm_260 : (Jvm.Cond.methodLink "OdometryDesk$Way" (145 : Nat) ({ cls := "OdometryDesk$Way", name := "followCorridor", desc := "(LOdometryDesk$State;[II)V" } : Jvm.MethodName)) ∈ lw_gd := lw_gm (lw_in2 (List.mem_of_getElem? (i := 82) rfl)) rfl
theorem gm_261 : (Jvm.Cond.instanceMethod ({ cls := "OdometryDesk$Way", name := "followCorridor", desc := "(LOdometryDesk$State;[II)V" } : Jvm.MethodName)) ∈ lw_gd := lw_gm (lw_in2 (List.mem_of_getElem? (i := 84) rfl)) rfl
theorem gm_262 : (Jvm.Cond.code ({ cls := "OdometryDesk$Way", name := "followCorridor", desc := "(LOdometryDesk$State;[II)V" } : Jvm.MethodName) prog_4_method_14_code (7 : Nat) (Option.none : Option Jvm.ClassFile.FieldType)) ∈ lw_gd := lw_gm (lw_in2 (List.mem_of_getElem? (i := 85) rfl)) rfl
theorem gm_263 : (Jvm.Cond.methodLink "OdometryDesk$Way" (177 : Nat) ({ cls := "OdometryDesk$Way", name := "offDirection", desc := "(I)I" } : Jvm.MethodName)) ∈ lw_gd := lw_gm (lw_in2 (List.mem_of_getElem? (i := 86) rfl)) rfl
theorem gm_264 : (Jvm.Cond.instanceMethod ({ cls := "OdometryDesk$Way", name := "offDirection", desc := "(I)I" } : Jvm.MethodName)) ∈ lw_gd := lw_gm (lw_in2 (List.mem_of_getElem? (i := 88) rfl)) rfl
theorem gm_265 : (Jvm.Cond.code ({ cls := "OdometryDesk$Way", name := "offDirection", desc := "(I)I" } : Jvm.MethodName) prog_4_method_15_code (2 : Nat) (Option.some Jvm.ClassFile.FieldType.int)) ∈ lw_gd := lw_gm (lw_in2 (List.mem_of_getElem? (i := 89) rfl)) rfl
theorem gm_266 : (Jvm.Cond.constant "OdometryDesk$Way" (184 : Nat) (900000 : Int32)) ∈ lw_gd := lw_gm (lw_in2 (List.mem_of_getElem? (i := 90) rfl)) rfl
theorem gm_267 : (Jvm.Cond.constant "OdometryDesk$Way" (185 : Nat) (1800000 : Int32)) ∈ lw_gd := lw_gm (lw_in2 (List.mem_of_getElem? (i := 91) rfl)) rfl
theorem gm_268 : (Jvm.Cond.methodLink "OdometryDesk$Way" (186 : Nat) ({ cls := "java/lang/Math", name := "floorMod", desc := "(II)I" } : Jvm.MethodName)) ∈ lw_gd := lw_gm (lw_in2 (List.mem_of_getElem? (i := 92) rfl)) rfl
theorem gm_269 : (Jvm.Cond.static ({ cls := "java/lang/Math", name := "floorMod", desc := "(II)I" } : Jvm.MethodName)) ∈ lw_gd := lw_gm (lw_in2 (List.mem_of_getElem? (i := 93) rfl)) rfl
theorem gm_270 : (Jvm.Cond.code ({ cls := "java/lang/Math", name := "floorMod", desc := "(II)I" } : Jvm.MethodName) prog_8_method_50_code (3 : Nat) (Option.some Jvm.ClassFile.FieldType.int)) ∈ lw_gd := lw_gm (lw_in2 (List.mem_of_getElem? (i := 94) rfl)) rfl
theorem gm_271 : (Jvm.Cond.methodLink "OdometryDesk$Way" (180 : Nat) ({ cls := "OdometryDesk$State", name := "isNear", desc := "(IIII)Z" } : Jvm.MethodName)) ∈ lw_gd := lw_gm (lw_in2 (List.mem_of_getElem? (i := 95) rfl)) rfl
theorem gm_272 : (Jvm.Cond.instanceMethod ({ cls := "OdometryDesk$State", name := "isNear", desc := "(IIII)Z" } : Jvm.MethodName)) ∈ lw_gd := lw_gm (lw_in2 (List.mem_of_getElem? (i := 96) rfl)) rfl
theorem gm_273 : (Jvm.Cond.selects "OdometryDesk$State" ({ cls := "OdometryDesk$State", name := "isNear", desc := "(IIII)Z" } : Jvm.MethodName) ({ cls := "OdometryDesk$State", name := "isNear", desc := "(IIII)Z" } : Jvm.MethodName)) ∈ lw_gd := lw_gm (lw_in2 (List.mem_of_getElem? (i := 97) rfl)) rfl
theorem gm_274 : (Jvm.Cond.code ({ cls := "OdometryDesk$State", name := "isNear", desc := "(IIII)Z" } : Jvm.MethodName) prog_3_method_7_code (5 : Nat) (Option.some Jvm.ClassFile.FieldType.boolean)) ∈ lw_gd := lw_gm (lw_in2 (List.mem_of_getElem? (i := 98) rfl)) rfl
theorem gm_275 : (Jvm.Cond.methodLink "OdometryDesk" (138 : Nat) ({ cls := "OdometryDesk$Way", name := "toldErrors", desc := "()I" } : Jvm.MethodName)) ∈ lw_gd := lw_gm (lw_in2 (List.mem_of_getElem? (i := 100) rfl)) rfl
theorem gm_276 : (Jvm.Cond.instanceMethod ({ cls := "OdometryDesk$Way", name := "toldErrors", desc := "()I" } : Jvm.MethodName)) ∈ lw_gd := lw_gm (lw_in2 (List.mem_of_getElem? (i := 101) rfl)) rfl
theorem gm_277 : (Jvm.Cond.selects "OdometryDesk$Way" ({ cls := "OdometryDesk$Way", name := "toldErrors", desc := "()I" } : Jvm.MethodName) ({ cls := "OdometryDesk$Way", name := "toldErrors", desc := "()I" } : Jvm.MethodName)) ∈ lw_gd := lw_gm (lw_in2 (List.mem_of_getElem? (i := 102) rfl)) rfl
theorem gm_278 : (Jvm.Cond.code ({ cls := "OdometryDesk$Way", name := "toldErrors", desc := "()I" } : Jvm.MethodName) prog_4_method_3_code (1 : Nat) (Option.some Jvm.ClassFile.FieldType.int)) ∈ lw_gd := lw_gm (lw_in2 (List.mem_of_getElem? (i := 103) rfl)) rfl
theorem gm_279 : (Jvm.Cond.constantLong "OdometryDesk$Way" (83 : Nat) (2000000000 : Int64)) ∈ lw_gd := lw_gm (lw_in2 (List.mem_of_getElem? (i := 104) rfl)) rfl
theorem gm_280 : (Jvm.Cond.methodLink "OdometryDesk$Way" (85 : Nat) ({ cls := "java/lang/Math", name := "min", desc := "(JJ)J" } : Jvm.MethodName)) ∈ lw_gd := lw_gm (lw_in2 (List.mem_of_getElem? (i := 105) rfl)) rfl
theorem gm_281 : (Jvm.Cond.static ({ cls := "java/lang/Math", name := "min", desc := "(JJ)J" } : Jvm.MethodName)) ∈ lw_gd := lw_gm (lw_in2 (List.mem_of_getElem? (i := 106) rfl)) rfl
theorem gm_282 : (Jvm.Cond.code ({ cls := "java/lang/Math", name := "min", desc := "(JJ)J" } : Jvm.MethodName) prog_8_method_70_code (4 : Nat) (Option.some Jvm.ClassFile.FieldType.long)) ∈ lw_gd := lw_gm (lw_in2 (List.mem_of_getElem? (i := 107) rfl)) rfl
theorem gm_283 : (Jvm.Cond.methodLink "OdometryDeskLaw" (69 : Nat) ({ cls := "OdometryDesk", name := "pose", desc := "(II)I" } : Jvm.MethodName)) ∈ lw_gd := lw_gm (lw_in2 (List.mem_of_getElem? (i := 108) rfl)) rfl
theorem gm_284 : (Jvm.Cond.instanceMethod ({ cls := "OdometryDesk", name := "pose", desc := "(II)I" } : Jvm.MethodName)) ∈ lw_gd := lw_gm (lw_in2 (List.mem_of_getElem? (i := 109) rfl)) rfl
theorem gm_285 : (Jvm.Cond.selects "OdometryDesk" ({ cls := "OdometryDesk", name := "pose", desc := "(II)I" } : Jvm.MethodName) ({ cls := "OdometryDesk", name := "pose", desc := "(II)I" } : Jvm.MethodName)) ∈ lw_gd := lw_gm (lw_in2 (List.mem_of_getElem? (i := 110) rfl)) rfl
theorem gm_286 : (Jvm.Cond.code ({ cls := "OdometryDesk", name := "pose", desc := "(II)I" } : Jvm.MethodName) prog_1_method_10_code (3 : Nat) (Option.some Jvm.ClassFile.FieldType.int)) ∈ lw_gd := lw_gm (lw_in2 (List.mem_of_getElem? (i := 111) rfl)) rfl
theorem gm_287 : (Jvm.Cond.constant "OdometryDesk" (117 : Nat) (-1000000001 : Int32)) ∈ lw_gd := lw_gm (lw_in2 (List.mem_of_getElem? (i := 112) rfl)) rfl
theorem gm_288 : (Jvm.Cond.constant "OdometryDesk" (118 : Nat) (-1000000002 : Int32)) ∈ lw_gd := lw_gm (lw_in2 (List.mem_of_getElem? (i := 113) rfl)) rfl
theorem gm_289 : (Jvm.Cond.methodLink "OdometryDesk" (123 : Nat) ({ cls := "OdometryDesk$Way", name := "behind", desc := "(II)I" } : Jvm.MethodName)) ∈ lw_gd := lw_gm (lw_in2 (List.mem_of_getElem? (i := 114) rfl)) rfl
theorem gm_290 : (Jvm.Cond.instanceMethod ({ cls := "OdometryDesk$Way", name := "behind", desc := "(II)I" } : Jvm.MethodName)) ∈ lw_gd := lw_gm (lw_in2 (List.mem_of_getElem? (i := 115) rfl)) rfl
theorem gm_291 : (Jvm.Cond.selects "OdometryDesk$Way" ({ cls := "OdometryDesk$Way", name := "behind", desc := "(II)I" } : Jvm.MethodName) ({ cls := "OdometryDesk$Way", name := "behind", desc := "(II)I" } : Jvm.MethodName)) ∈ lw_gd := lw_gm (lw_in2 (List.mem_of_getElem? (i := 116) rfl)) rfl
theorem gm_292 : (Jvm.Cond.code ({ cls := "OdometryDesk$Way", name := "behind", desc := "(II)I" } : Jvm.MethodName) prog_4_method_4_code (3 : Nat) (Option.some Jvm.ClassFile.FieldType.int)) ∈ lw_gd := lw_gm (lw_in2 (List.mem_of_getElem? (i := 117) rfl)) rfl
theorem gm_293 : (Jvm.Cond.methodLink "OdometryDesk" (126 : Nat) ({ cls := "OdometryDesk$Way", name := "spreadPlace", desc := "(III)I" } : Jvm.MethodName)) ∈ lw_gd := lw_gm (lw_in2 (List.mem_of_getElem? (i := 118) rfl)) rfl
theorem gm_294 : (Jvm.Cond.instanceMethod ({ cls := "OdometryDesk$Way", name := "spreadPlace", desc := "(III)I" } : Jvm.MethodName)) ∈ lw_gd := lw_gm (lw_in2 (List.mem_of_getElem? (i := 119) rfl)) rfl
theorem gm_295 : (Jvm.Cond.selects "OdometryDesk$Way" ({ cls := "OdometryDesk$Way", name := "spreadPlace", desc := "(III)I" } : Jvm.MethodName) ({ cls := "OdometryDesk$Way", name := "spreadPlace", desc := "(III)I" } : Jvm.MethodName)) ∈ lw_gd := lw_gm (lw_in2 (List.mem_of_getElem? (i := 120) rfl)) rfl
theorem gm_296 : (Jvm.Cond.code ({ cls := "OdometryDesk$Way", name := "spreadPlace", desc := "(III)I" } : Jvm.MethodName) prog_4_method_5_code (10 : Nat) (Option.some Jvm.ClassFile.FieldType.int)) ∈ lw_gd := lw_gm (lw_in2 (List.mem_of_getElem? (i := 121) rfl)) rfl
theorem gm_297 : (Jvm.Cond.methodLink "OdometryDesk$Way" (95 : Nat) ({ cls := "OdometryDesk$Way", name := "firstSightFrom", desc := "(II)I" } : Jvm.MethodName)) ∈ lw_gd := lw_gm (lw_in2 (List.mem_of_getElem? (i := 122) rfl)) rfl
theorem gm_298 : (Jvm.Cond.instanceMethod ({ cls := "OdometryDesk$Way", name := "firstSightFrom", desc := "(II)I" } : Jvm.MethodName)) ∈ lw_gd := lw_gm (lw_in2 (List.mem_of_getElem? (i := 124) rfl)) rfl
theorem gm_299 : (Jvm.Cond.code ({ cls := "OdometryDesk$Way", name := "firstSightFrom", desc := "(II)I" } : Jvm.MethodName) prog_4_method_6_code (4 : Nat) (Option.some Jvm.ClassFile.FieldType.int)) ∈ lw_gd := lw_gm (lw_in2 (List.mem_of_getElem? (i := 125) rfl)) rfl
theorem gm_300 : (Jvm.Cond.methodLink "OdometryDesk$Way" (99 : Nat) ({ cls := "OdometryDesk$Way", name := "behind", desc := "(II)I" } : Jvm.MethodName)) ∈ lw_gd := lw_gm (lw_in2 (List.mem_of_getElem? (i := 126) rfl)) rfl
theorem gm_301 : (Jvm.Cond.methodLink "OdometryDesk$Way" (102 : Nat) ({ cls := "OdometryDesk$Way", name := "lastSightAhead", desc := "(I)I" } : Jvm.MethodName)) ∈ lw_gd := lw_gm (lw_in2 (List.mem_of_getElem? (i := 127) rfl)) rfl
theorem gm_302 : (Jvm.Cond.instanceMethod ({ cls := "OdometryDesk$Way", name := "lastSightAhead", desc := "(I)I" } : Jvm.MethodName)) ∈ lw_gd := lw_gm (lw_in2 (List.mem_of_getElem? (i := 129) rfl)) rfl
theorem gm_303 : (Jvm.Cond.code ({ cls := "OdometryDesk$Way", name := "lastSightAhead", desc := "(I)I" } : Jvm.MethodName) prog_4_method_7_code (3 : Nat) (Option.some Jvm.ClassFile.FieldType.int)) ∈ lw_gd := lw_gm (lw_in2 (List.mem_of_getElem? (i := 130) rfl)) rfl
theorem gm_304 : (Jvm.Cond.methodLink "OdometryDeskLaw" (72 : Nat) ({ cls := "OdometryDesk", name := "see", desc := "(I)I" } : Jvm.MethodName)) ∈ lw_gd := lw_gm (lw_in2 (List.mem_of_getElem? (i := 131) rfl)) rfl
theorem gm_305 : (Jvm.Cond.instanceMethod ({ cls := "OdometryDesk", name := "see", desc := "(I)I" } : Jvm.MethodName)) ∈ lw_gd := lw_gm (lw_in2 (List.mem_of_getElem? (i := 132) rfl)) rfl
theorem gm_306 : (Jvm.Cond.selects "OdometryDesk" ({ cls := "OdometryDesk", name := "see", desc := "(I)I" } : Jvm.MethodName) ({ cls := "OdometryDesk", name := "see", desc := "(I)I" } : Jvm.MethodName)) ∈ lw_gd := lw_gm (lw_in2 (List.mem_of_getElem? (i := 133) rfl)) rfl
theorem gm_307 : (Jvm.Cond.code ({ cls := "OdometryDesk", name := "see", desc := "(I)I" } : Jvm.MethodName) prog_1_method_8_code (2 : Nat) (Option.some Jvm.ClassFile.FieldType.int)) ∈ lw_gd := lw_gm (lw_in2 (List.mem_of_getElem? (i := 134) rfl)) rfl
theorem gm_308 : (Jvm.Cond.methodLink "OdometryDesk" (113 : Nat) ({ cls := "OdometryDesk$State", name := "addSight", desc := "(I)I" } : Jvm.MethodName)) ∈ lw_gd := lw_gm (lw_in2 (List.mem_of_getElem? (i := 135) rfl)) rfl
theorem gm_309 : (Jvm.Cond.instanceMethod ({ cls := "OdometryDesk$State", name := "addSight", desc := "(I)I" } : Jvm.MethodName)) ∈ lw_gd := lw_gm (lw_in2 (List.mem_of_getElem? (i := 136) rfl)) rfl
theorem gm_310 : (Jvm.Cond.selects "OdometryDesk$State" ({ cls := "OdometryDesk$State", name := "addSight", desc := "(I)I" } : Jvm.MethodName) ({ cls := "OdometryDesk$State", name := "addSight", desc := "(I)I" } : Jvm.MethodName)) ∈ lw_gd := lw_gm (lw_in2 (List.mem_of_getElem? (i := 137) rfl)) rfl
theorem gm_311 : (Jvm.Cond.code ({ cls := "OdometryDesk$State", name := "addSight", desc := "(I)I" } : Jvm.MethodName) prog_3_method_4_code (2 : Nat) (Option.some Jvm.ClassFile.FieldType.int)) ∈ lw_gd := lw_gm (lw_in2 (List.mem_of_getElem? (i := 138) rfl)) rfl
theorem gm_312 : (Jvm.Cond.methodLink "OdometryDeskLaw" (75 : Nat) ({ cls := "OdometryDesk", name := "about", desc := "(II)I" } : Jvm.MethodName)) ∈ lw_gd := lw_gm (lw_in2 (List.mem_of_getElem? (i := 140) rfl)) rfl
theorem gm_313 : (Jvm.Cond.instanceMethod ({ cls := "OdometryDesk", name := "about", desc := "(II)I" } : Jvm.MethodName)) ∈ lw_gd := lw_gm (lw_in2 (List.mem_of_getElem? (i := 141) rfl)) rfl
theorem gm_314 : (Jvm.Cond.selects "OdometryDesk" ({ cls := "OdometryDesk", name := "about", desc := "(II)I" } : Jvm.MethodName) ({ cls := "OdometryDesk", name := "about", desc := "(II)I" } : Jvm.MethodName)) ∈ lw_gd := lw_gm (lw_in2 (List.mem_of_getElem? (i := 142) rfl)) rfl
theorem gm_315 : (Jvm.Cond.code ({ cls := "OdometryDesk", name := "about", desc := "(II)I" } : Jvm.MethodName) prog_1_method_11_code (3 : Nat) (Option.some Jvm.ClassFile.FieldType.int)) ∈ lw_gd := lw_gm (lw_in2 (List.mem_of_getElem? (i := 143) rfl)) rfl
theorem gm_316 : (Jvm.Cond.methodLink "OdometryDesk" (132 : Nat) ({ cls := "OdometryDesk", name := "item", desc := "([[III)I" } : Jvm.MethodName)) ∈ lw_gd := lw_gm (lw_in2 (List.mem_of_getElem? (i := 144) rfl)) rfl
theorem gm_317 : (Jvm.Cond.methodLink "OdometryDeskLaw" (78 : Nat) ({ cls := "OdometryDesk", name := "step", desc := "(III)I" } : Jvm.MethodName)) ∈ lw_gd := lw_gm (lw_in2 (List.mem_of_getElem? (i := 145) rfl)) rfl
theorem gm_318 : (Jvm.Cond.instanceMethod ({ cls := "OdometryDesk", name := "step", desc := "(III)I" } : Jvm.MethodName)) ∈ lw_gd := lw_gm (lw_in2 (List.mem_of_getElem? (i := 146) rfl)) rfl
theorem gm_319 : (Jvm.Cond.selects "OdometryDesk" ({ cls := "OdometryDesk", name := "step", desc := "(III)I" } : Jvm.MethodName) ({ cls := "OdometryDesk", name := "step", desc := "(III)I" } : Jvm.MethodName)) ∈ lw_gd := lw_gm (lw_in2 (List.mem_of_getElem? (i := 147) rfl)) rfl
theorem gm_320 : (Jvm.Cond.code ({ cls := "OdometryDesk", name := "step", desc := "(III)I" } : Jvm.MethodName) prog_1_method_7_code (4 : Nat) (Option.some Jvm.ClassFile.FieldType.int)) ∈ lw_gd := lw_gm (lw_in2 (List.mem_of_getElem? (i := 148) rfl)) rfl
theorem gm_321 : (Jvm.Cond.methodLink "OdometryDesk" (109 : Nat) ({ cls := "OdometryDesk$State", name := "addStep", desc := "(III)I" } : Jvm.MethodName)) ∈ lw_gd := lw_gm (lw_in2 (List.mem_of_getElem? (i := 149) rfl)) rfl
theorem gm_322 : (Jvm.Cond.instanceMethod ({ cls := "OdometryDesk$State", name := "addStep", desc := "(III)I" } : Jvm.MethodName)) ∈ lw_gd := lw_gm (lw_in2 (List.mem_of_getElem? (i := 150) rfl)) rfl
theorem gm_323 : (Jvm.Cond.selects "OdometryDesk$State" ({ cls := "OdometryDesk$State", name := "addStep", desc := "(III)I" } : Jvm.MethodName) ({ cls := "OdometryDesk$State", name := "addStep", desc := "(III)I" } : Jvm.MethodName)) ∈ lw_gd := lw_gm (lw_in2 (List.mem_of_getElem? (i := 151) rfl)) rfl
theorem gm_324 : (Jvm.Cond.code ({ cls := "OdometryDesk$State", name := "addStep", desc := "(III)I" } : Jvm.MethodName) prog_3_method_3_code (4 : Nat) (Option.some Jvm.ClassFile.FieldType.int)) ∈ lw_gd := lw_gm (lw_in2 (List.mem_of_getElem? (i := 152) rfl)) rfl
theorem gm_325 : (Jvm.Cond.constant "OdometryDesk$State" (64 : Nat) (-300000 : Int32)) ∈ lw_gd := lw_gm (lw_in2 (List.mem_of_getElem? (i := 153) rfl)) rfl
theorem gm_326 : (Jvm.Cond.constant "OdometryDesk$State" (65 : Nat) (300000 : Int32)) ∈ lw_gd := lw_gm (lw_in2 (List.mem_of_getElem? (i := 154) rfl)) rfl
theorem gm_327 : (Jvm.Cond.methodLink "OdometryDeskLaw" (81 : Nat) ({ cls := "OdometryDesk", name := "cut", desc := "(I)I" } : Jvm.MethodName)) ∈ lw_gd := lw_gm (lw_in2 (List.mem_of_getElem? (i := 155) rfl)) rfl
theorem gm_328 : (Jvm.Cond.instanceMethod ({ cls := "OdometryDesk", name := "cut", desc := "(I)I" } : Jvm.MethodName)) ∈ lw_gd := lw_gm (lw_in2 (List.mem_of_getElem? (i := 156) rfl)) rfl
theorem gm_329 : (Jvm.Cond.selects "OdometryDesk" ({ cls := "OdometryDesk", name := "cut", desc := "(I)I" } : Jvm.MethodName) ({ cls := "OdometryDesk", name := "cut", desc := "(I)I" } : Jvm.MethodName)) ∈ lw_gd := lw_gm (lw_in2 (List.mem_of_getElem? (i := 157) rfl)) rfl
theorem gm_330 : (Jvm.Cond.code ({ cls := "OdometryDesk", name := "cut", desc := "(I)I" } : Jvm.MethodName) prog_1_method_9_code (2 : Nat) (Option.some Jvm.ClassFile.FieldType.int)) ∈ lw_gd := lw_gm (lw_in2 (List.mem_of_getElem? (i := 158) rfl)) rfl
theorem gm_331 : (Jvm.Cond.constant "OdometryDeskLaw" (84 : Nat) (200001 : Int32)) ∈ lw_gd := lw_gm (lw_in2 (List.mem_of_getElem? (i := 159) rfl)) rfl
theorem gm_332 : (Jvm.Cond.constant "OdometryDeskLaw" (85 : Nat) (100000 : Int32)) ∈ lw_gd := lw_gm (lw_in2 (List.mem_of_getElem? (i := 160) rfl)) rfl
theorem gm_333 : (Jvm.Cond.methodLink "OdometryDeskLaw" (46 : Nat) ({ cls := "OdometryDeskLaw", name := "way", desc := "(LOdometryDesk;)Z" } : Jvm.MethodName)) ∈ lw_gd := lw_gm (lw_in2 (List.mem_of_getElem? (i := 161) rfl)) rfl
theorem gm_334 : (Jvm.Cond.static ({ cls := "OdometryDeskLaw", name := "way", desc := "(LOdometryDesk;)Z" } : Jvm.MethodName)) ∈ lw_gd := lw_gm (lw_in2 (List.mem_of_getElem? (i := 162) rfl)) rfl
theorem gm_335 : (Jvm.Cond.code ({ cls := "OdometryDeskLaw", name := "way", desc := "(LOdometryDesk;)Z" } : Jvm.MethodName) method_8_code (12 : Nat) (Option.some Jvm.ClassFile.FieldType.boolean)) ∈ lw_gd := lw_gm (lw_in2 (List.mem_of_getElem? (i := 163) rfl)) rfl
theorem gm_336 : (Jvm.Cond.methodLink "OdometryDeskLaw" (88 : Nat) ({ cls := "OdometryDeskLaw", name := "size", desc := "(I)I" } : Jvm.MethodName)) ∈ lw_gd := lw_gm (lw_in2 (List.mem_of_getElem? (i := 164) rfl)) rfl
theorem gm_337 : (Jvm.Cond.static ({ cls := "OdometryDeskLaw", name := "size", desc := "(I)I" } : Jvm.MethodName)) ∈ lw_gd := lw_gm (lw_in2 (List.mem_of_getElem? (i := 165) rfl)) rfl
theorem gm_338 : (Jvm.Cond.code ({ cls := "OdometryDeskLaw", name := "size", desc := "(I)I" } : Jvm.MethodName) method_5_code (1 : Nat) (Option.some Jvm.ClassFile.FieldType.int)) ∈ lw_gd := lw_gm (lw_in2 (List.mem_of_getElem? (i := 166) rfl)) rfl
theorem gm_339 : (Jvm.Cond.methodLink "OdometryDeskLaw" (91 : Nat) ({ cls := "OdometryDeskLaw", name := "turns", desc := "(LOdometryDesk;IIII)Z" } : Jvm.MethodName)) ∈ lw_gd := lw_gm (lw_in2 (List.mem_of_getElem? (i := 167) rfl)) rfl
theorem gm_340 : (Jvm.Cond.static ({ cls := "OdometryDeskLaw", name := "turns", desc := "(LOdometryDesk;IIII)Z" } : Jvm.MethodName)) ∈ lw_gd := lw_gm (lw_in2 (List.mem_of_getElem? (i := 168) rfl)) rfl
theorem gm_341 : (Jvm.Cond.code ({ cls := "OdometryDeskLaw", name := "turns", desc := "(LOdometryDesk;IIII)Z" } : Jvm.MethodName) method_9_code (25 : Nat) (Option.some Jvm.ClassFile.FieldType.boolean)) ∈ lw_gd := lw_gm (lw_in2 (List.mem_of_getElem? (i := 169) rfl)) rfl
theorem gm_342 : (Jvm.Cond.constantLong "OdometryDeskLaw" (101 : Nat) (1000 : Int64)) ∈ lw_gd := lw_gm (lw_in2 (List.mem_of_getElem? (i := 170) rfl)) rfl
theorem gm_343 : (Jvm.Cond.constantLong "OdometryDeskLaw" (103 : Nat) (572958 : Int64)) ∈ lw_gd := lw_gm (lw_in2 (List.mem_of_getElem? (i := 171) rfl)) rfl
theorem gm_344 : (Jvm.Cond.constantLong "OdometryDeskLaw" (105 : Nat) (100 : Int64)) ∈ lw_gd := lw_gm (lw_in2 (List.mem_of_getElem? (i := 172) rfl)) rfl
theorem gm_345 : (Jvm.Cond.constantLong "OdometryDeskLaw" (107 : Nat) (2 : Int64)) ∈ lw_gd := lw_gm (lw_in2 (List.mem_of_getElem? (i := 173) rfl)) rfl
theorem gm_346 : (Jvm.Cond.methodLink "OdometryDeskLaw" (109 : Nat) ({ cls := "OdometryDeskLaw", name := "round", desc := "(J)I" } : Jvm.MethodName)) ∈ lw_gd := lw_gm (lw_in2 (List.mem_of_getElem? (i := 174) rfl)) rfl
theorem gm_347 : (Jvm.Cond.static ({ cls := "OdometryDeskLaw", name := "round", desc := "(J)I" } : Jvm.MethodName)) ∈ lw_gd := lw_gm (lw_in2 (List.mem_of_getElem? (i := 175) rfl)) rfl
theorem gm_348 : (Jvm.Cond.code ({ cls := "OdometryDeskLaw", name := "round", desc := "(J)I" } : Jvm.MethodName) method_7_code (2 : Nat) (Option.some Jvm.ClassFile.FieldType.int)) ∈ lw_gd := lw_gm (lw_in2 (List.mem_of_getElem? (i := 176) rfl)) rfl
theorem gm_349 : (Jvm.Cond.constantLong "OdometryDeskLaw" (86 : Nat) (3600000 : Int64)) ∈ lw_gd := lw_gm (lw_in2 (List.mem_of_getElem? (i := 177) rfl)) rfl
theorem gm_350 : (Jvm.Cond.constant "OdometryDeskLaw" (113 : Nat) (-1000000006 : Int32)) ∈ lw_gd := lw_gm (lw_in2 (List.mem_of_getElem? (i := 178) rfl)) rfl
theorem gm_351 : (Jvm.Cond.constant "OdometryDeskLaw" (114 : Nat) (900000 : Int32)) ∈ lw_gd := lw_gm (lw_in2 (List.mem_of_getElem? (i := 179) rfl)) rfl
theorem gm_352 : (Jvm.Cond.methodLink "OdometryDeskLaw" (95 : Nat) ({ cls := "OdometryDeskLaw", name := "goes", desc := "(LOdometryDesk;IIIII)Z" } : Jvm.MethodName)) ∈ lw_gd := lw_gm (lw_in2 (List.mem_of_getElem? (i := 180) rfl)) rfl
theorem gm_353 : (Jvm.Cond.static ({ cls := "OdometryDeskLaw", name := "goes", desc := "(LOdometryDesk;IIIII)Z" } : Jvm.MethodName)) ∈ lw_gd := lw_gm (lw_in2 (List.mem_of_getElem? (i := 181) rfl)) rfl
theorem gm_354 : (Jvm.Cond.code ({ cls := "OdometryDeskLaw", name := "goes", desc := "(LOdometryDesk;IIIII)Z" } : Jvm.MethodName) method_10_code (16 : Nat) (Option.some Jvm.ClassFile.FieldType.boolean)) ∈ lw_gd := lw_gm (lw_in2 (List.mem_of_getElem? (i := 182) rfl)) rfl
theorem gm_355 : (Jvm.Cond.methodLink "OdometryDeskLaw" (115 : Nat) ({ cls := "OdometryDesk", name := "wave", desc := "(II)I" } : Jvm.MethodName)) ∈ lw_gd := lw_gm (lw_in2 (List.mem_of_getElem? (i := 183) rfl)) rfl
theorem gm_356 : (Jvm.Cond.instanceMethod ({ cls := "OdometryDesk", name := "wave", desc := "(II)I" } : Jvm.MethodName)) ∈ lw_gd := lw_gm (lw_in2 (List.mem_of_getElem? (i := 184) rfl)) rfl
theorem gm_357 : (Jvm.Cond.selects "OdometryDesk" ({ cls := "OdometryDesk", name := "wave", desc := "(II)I" } : Jvm.MethodName) ({ cls := "OdometryDesk", name := "wave", desc := "(II)I" } : Jvm.MethodName)) ∈ lw_gd := lw_gm (lw_in2 (List.mem_of_getElem? (i := 185) rfl)) rfl
theorem gm_358 : (Jvm.Cond.code ({ cls := "OdometryDesk", name := "wave", desc := "(II)I" } : Jvm.MethodName) prog_1_method_13_code (3 : Nat) (Option.some Jvm.ClassFile.FieldType.int)) ∈ lw_gd := lw_gm (lw_in2 (List.mem_of_getElem? (i := 186) rfl)) rfl
theorem gm_359 : (Jvm.Cond.constant "OdometryDesk" (149 : Nat) (35999 : Int32)) ∈ lw_gd := lw_gm (lw_in2 (List.mem_of_getElem? (i := 187) rfl)) rfl
theorem gm_360 : (Jvm.Cond.methodLink "OdometryDesk" (150 : Nat) ({ cls := "OdometryDesk", name := "angleOfCosine", desc := "(I)I" } : Jvm.MethodName)) ∈ lw_gd := lw_gm (lw_in2 (List.mem_of_getElem? (i := 188) rfl)) rfl
theorem gm_361 : (Jvm.Cond.methodLink "OdometryDesk" (153 : Nat) ({ cls := "OdometryDesk", name := "sine", desc := "(I)I" } : Jvm.MethodName)) ∈ lw_gd := lw_gm (lw_in2 (List.mem_of_getElem? (i := 189) rfl)) rfl
theorem gm_362 : (Jvm.Cond.constantLong "OdometryDeskLaw" (118 : Nat) (1000000 : Int64)) ∈ lw_gd := lw_gm (lw_in2 (List.mem_of_getElem? (i := 190) rfl)) rfl
theorem gm_363 : (Jvm.Cond.constantLong "OdometryDeskLaw" (120 : Nat) (4 : Int64)) ∈ lw_gd := lw_gm (lw_in2 (List.mem_of_getElem? (i := 191) rfl)) rfl
theorem gm_364 : (Jvm.Cond.constantLong "OdometryDeskLaw" (99 : Nat) (2000000000 : Int64)) ∈ lw_gd := lw_gm (lw_in2 (List.mem_of_getElem? (i := 192) rfl)) rfl
theorem gm_365 : (Jvm.Cond.methodLink "OdometryDeskLaw" (50 : Nat) ({ cls := "OdometryDeskLaw", name := "spread", desc := "(LOdometryDesk;)Z" } : Jvm.MethodName)) ∈ lw_gd := lw_gm (lw_in2 (List.mem_of_getElem? (i := 193) rfl)) rfl
theorem gm_366 : (Jvm.Cond.static ({ cls := "OdometryDeskLaw", name := "spread", desc := "(LOdometryDesk;)Z" } : Jvm.MethodName)) ∈ lw_gd := lw_gm (lw_in2 (List.mem_of_getElem? (i := 194) rfl)) rfl
theorem gm_367 : (Jvm.Cond.code ({ cls := "OdometryDeskLaw", name := "spread", desc := "(LOdometryDesk;)Z" } : Jvm.MethodName) method_11_code (13 : Nat) (Option.some Jvm.ClassFile.FieldType.boolean)) ∈ lw_gd := lw_gm (lw_in2 (List.mem_of_getElem? (i := 195) rfl)) rfl
theorem gm_368 : (Jvm.Cond.methodLink "OdometryDeskLaw" (53 : Nat) ({ cls := "OdometryDeskLaw", name := "tried", desc := "(LOdometryDesk;I)Z" } : Jvm.MethodName)) ∈ lw_gd := lw_gm (lw_in2 (List.mem_of_getElem? (i := 196) rfl)) rfl
theorem gm_369 : (Jvm.Cond.static ({ cls := "OdometryDeskLaw", name := "tried", desc := "(LOdometryDesk;I)Z" } : Jvm.MethodName)) ∈ lw_gd := lw_gm (lw_in2 (List.mem_of_getElem? (i := 197) rfl)) rfl
theorem gm_370 : (Jvm.Cond.code ({ cls := "OdometryDeskLaw", name := "tried", desc := "(LOdometryDesk;I)Z" } : Jvm.MethodName) method_13_code (12 : Nat) (Option.some Jvm.ClassFile.FieldType.boolean)) ∈ lw_gd := lw_gm (lw_in2 (List.mem_of_getElem? (i := 198) rfl)) rfl
theorem gm_371 : (Jvm.Cond.methodLink "OdometryDeskLaw" (122 : Nat) ({ cls := "OdometryDeskLaw", name := "value", desc := "(II)I" } : Jvm.MethodName)) ∈ lw_gd := lw_gm (lw_in2 (List.mem_of_getElem? (i := 199) rfl)) rfl
theorem gm_372 : (Jvm.Cond.static ({ cls := "OdometryDeskLaw", name := "value", desc := "(II)I" } : Jvm.MethodName)) ∈ lw_gd := lw_gm (lw_in2 (List.mem_of_getElem? (i := 200) rfl)) rfl
theorem gm_373 : (Jvm.Cond.code ({ cls := "OdometryDeskLaw", name := "value", desc := "(II)I" } : Jvm.MethodName) method_12_code (2 : Nat) (Option.some Jvm.ClassFile.FieldType.int)) ∈ lw_gd := lw_gm (lw_in2 (List.mem_of_getElem? (i := 201) rfl)) rfl
theorem gm_374 : (Jvm.Cond.constant "OdometryDeskLaw" (29 : Nat) (900001 : Int32)) ∈ lw_gd := lw_gm (lw_in2 (List.mem_of_getElem? (i := 202) rfl)) rfl
theorem gm_375 : (Jvm.Cond.methodLink "OdometryDeskLaw" (125 : Nat) ({ cls := "OdometryDesk", name := "ifSet", desc := "(III)I" } : Jvm.MethodName)) ∈ lw_gd := lw_gm (lw_in2 (List.mem_of_getElem? (i := 203) rfl)) rfl
theorem gm_376 : (Jvm.Cond.instanceMethod ({ cls := "OdometryDesk", name := "ifSet", desc := "(III)I" } : Jvm.MethodName)) ∈ lw_gd := lw_gm (lw_in2 (List.mem_of_getElem? (i := 204) rfl)) rfl
theorem gm_377 : (Jvm.Cond.selects "OdometryDesk" ({ cls := "OdometryDesk", name := "ifSet", desc := "(III)I" } : Jvm.MethodName) ({ cls := "OdometryDesk", name := "ifSet", desc := "(III)I" } : Jvm.MethodName)) ∈ lw_gd := lw_gm (lw_in2 (List.mem_of_getElem? (i := 205) rfl)) rfl
theorem gm_378 : (Jvm.Cond.code ({ cls := "OdometryDesk", name := "ifSet", desc := "(III)I" } : Jvm.MethodName) prog_1_method_14_code (4 : Nat) (Option.some Jvm.ClassFile.FieldType.int)) ∈ lw_gd := lw_gm (lw_in2 (List.mem_of_getElem? (i := 206) rfl)) rfl
theorem gm_379 : (Jvm.Cond.methodLink "OdometryDesk" (156 : Nat) ({ cls := "OdometryDesk", name := "errorsWith", desc := "(II)J" } : Jvm.MethodName)) ∈ lw_gd := lw_gm (lw_in2 (List.mem_of_getElem? (i := 207) rfl)) rfl
theorem gm_380 : (Jvm.Cond.instanceMethod ({ cls := "OdometryDesk", name := "errorsWith", desc := "(II)J" } : Jvm.MethodName)) ∈ lw_gd := lw_gm (lw_in2 (List.mem_of_getElem? (i := 209) rfl)) rfl
theorem gm_381 : (Jvm.Cond.code ({ cls := "OdometryDesk", name := "errorsWith", desc := "(II)J" } : Jvm.MethodName) prog_1_method_25_code (3 : Nat) (Option.some Jvm.ClassFile.FieldType.long)) ∈ lw_gd := lw_gm (lw_in2 (List.mem_of_getElem? (i := 210) rfl)) rfl
theorem gm_382 : (Jvm.Cond.methodLink "OdometryDesk" (215 : Nat) ({ cls := "OdometryDesk", name := "copy", desc := "([I[I)V" } : Jvm.MethodName)) ∈ lw_gd := lw_gm (lw_in2 (List.mem_of_getElem? (i := 211) rfl)) rfl
theorem gm_383 : (Jvm.Cond.static ({ cls := "OdometryDesk", name := "copy", desc := "([I[I)V" } : Jvm.MethodName)) ∈ lw_gd := lw_gm (lw_in2 (List.mem_of_getElem? (i := 212) rfl)) rfl
theorem gm_384 : (Jvm.Cond.code ({ cls := "OdometryDesk", name := "copy", desc := "([I[I)V" } : Jvm.MethodName) prog_1_method_37_code (2 : Nat) (Option.none : Option Jvm.ClassFile.FieldType)) ∈ lw_gd := lw_gm (lw_in2 (List.mem_of_getElem? (i := 213) rfl)) rfl
theorem gm_385 : (Jvm.Cond.methodLink "OdometryDesk" (247 : Nat) ({ cls := "java/lang/System", name := "arraycopy", desc := "(Ljava/lang/Object;ILjava/lang/Object;II)V" } : Jvm.MethodName)) ∈ lw_gd := lw_gm (lw_in2 (List.mem_of_getElem? (i := 214) rfl)) rfl
theorem gm_386 : (Jvm.Cond.static ({ cls := "java/lang/System", name := "arraycopy", desc := "(Ljava/lang/Object;ILjava/lang/Object;II)V" } : Jvm.MethodName)) ∈ lw_gd := lw_gm (lw_in2 (List.mem_of_getElem? (i := 215) rfl)) rfl
theorem gm_387 : (Jvm.Cond.native ({ cls := "java/lang/System", name := "arraycopy", desc := "(Ljava/lang/Object;ILjava/lang/Object;II)V" } : Jvm.MethodName)) ∈ lw_gd := lw_gm (lw_in2 (List.mem_of_getElem? (i := 216) rfl)) rfl
theorem gm_388 : (Jvm.Cond.methodLink "OdometryDeskLaw" (56 : Nat) ({ cls := "OdometryDeskLaw", name := "fits", desc := "(LOdometryDesk;)Z" } : Jvm.MethodName)) ∈ lw_gd := lw_gm (lw_in2 (List.mem_of_getElem? (i := 217) rfl)) rfl
theorem gm_389 : (Jvm.Cond.static ({ cls := "OdometryDeskLaw", name := "fits", desc := "(LOdometryDesk;)Z" } : Jvm.MethodName)) ∈ lw_gd := lw_gm (lw_in2 (List.mem_of_getElem? (i := 218) rfl)) rfl
theorem gm_390 : (Jvm.Cond.code ({ cls := "OdometryDeskLaw", name := "fits", desc := "(LOdometryDesk;)Z" } : Jvm.MethodName) method_14_code (7 : Nat) (Option.some Jvm.ClassFile.FieldType.boolean)) ∈ lw_gd := lw_gm (lw_in2 (List.mem_of_getElem? (i := 219) rfl)) rfl
theorem gm_391 : (Jvm.Cond.methodLink "OdometryDeskLaw" (128 : Nat) ({ cls := "OdometryDesk", name := "bestBase", desc := "()I" } : Jvm.MethodName)) ∈ lw_gd := lw_gm (lw_in2 (List.mem_of_getElem? (i := 220) rfl)) rfl
theorem gm_392 : (Jvm.Cond.instanceMethod ({ cls := "OdometryDesk", name := "bestBase", desc := "()I" } : Jvm.MethodName)) ∈ lw_gd := lw_gm (lw_in2 (List.mem_of_getElem? (i := 221) rfl)) rfl
theorem gm_393 : (Jvm.Cond.selects "OdometryDesk" ({ cls := "OdometryDesk", name := "bestBase", desc := "()I" } : Jvm.MethodName) ({ cls := "OdometryDesk", name := "bestBase", desc := "()I" } : Jvm.MethodName)) ∈ lw_gd := lw_gm (lw_in2 (List.mem_of_getElem? (i := 222) rfl)) rfl
theorem gm_394 : (Jvm.Cond.code ({ cls := "OdometryDesk", name := "bestBase", desc := "()I" } : Jvm.MethodName) prog_1_method_15_code (9 : Nat) (Option.some Jvm.ClassFile.FieldType.int)) ∈ lw_gd := lw_gm (lw_in2 (List.mem_of_getElem? (i := 223) rfl)) rfl
theorem gm_395 : (Jvm.Cond.methodLink "OdometryDesk" (169 : Nat) ({ cls := "OdometryDesk$State", name := "hasSights", desc := "()Z" } : Jvm.MethodName)) ∈ lw_gd := lw_gm (lw_in2 (List.mem_of_getElem? (i := 224) rfl)) rfl
theorem gm_396 : (Jvm.Cond.instanceMethod ({ cls := "OdometryDesk$State", name := "hasSights", desc := "()Z" } : Jvm.MethodName)) ∈ lw_gd := lw_gm (lw_in2 (List.mem_of_getElem? (i := 225) rfl)) rfl
theorem gm_397 : (Jvm.Cond.selects "OdometryDesk$State" ({ cls := "OdometryDesk$State", name := "hasSights", desc := "()Z" } : Jvm.MethodName) ({ cls := "OdometryDesk$State", name := "hasSights", desc := "()Z" } : Jvm.MethodName)) ∈ lw_gd := lw_gm (lw_in2 (List.mem_of_getElem? (i := 226) rfl)) rfl
theorem gm_398 : (Jvm.Cond.code ({ cls := "OdometryDesk$State", name := "hasSights", desc := "()Z" } : Jvm.MethodName) prog_3_method_6_code (2 : Nat) (Option.some Jvm.ClassFile.FieldType.boolean)) ∈ lw_gd := lw_gm (lw_in2 (List.mem_of_getElem? (i := 227) rfl)) rfl
theorem gm_399 : (Jvm.Cond.methodLink "OdometryDesk$State" (74 : Nat) ({ cls := "OdometryDesk$State", name := "isSight", desc := "(I)Z" } : Jvm.MethodName)) ∈ lw_gd := lw_gm (lw_in2 (List.mem_of_getElem? (i := 228) rfl)) rfl
theorem gm_400 : (Jvm.Cond.methodLink "OdometryDeskLaw" (132 : Nat) ({ cls := "OdometryDesk", name := "bestTrust", desc := "()I" } : Jvm.MethodName)) ∈ lw_gd := lw_gm (lw_in2 (List.mem_of_getElem? (i := 229) rfl)) rfl
theorem gm_401 : (Jvm.Cond.instanceMethod ({ cls := "OdometryDesk", name := "bestTrust", desc := "()I" } : Jvm.MethodName)) ∈ lw_gd := lw_gm (lw_in2 (List.mem_of_getElem? (i := 230) rfl)) rfl
theorem gm_402 : (Jvm.Cond.selects "OdometryDesk" ({ cls := "OdometryDesk", name := "bestTrust", desc := "()I" } : Jvm.MethodName) ({ cls := "OdometryDesk", name := "bestTrust", desc := "()I" } : Jvm.MethodName)) ∈ lw_gd := lw_gm (lw_in2 (List.mem_of_getElem? (i := 231) rfl)) rfl
theorem gm_403 : (Jvm.Cond.code ({ cls := "OdometryDesk", name := "bestTrust", desc := "()I" } : Jvm.MethodName) prog_1_method_16_code (7 : Nat) (Option.some Jvm.ClassFile.FieldType.int)) ∈ lw_gd := lw_gm (lw_in2 (List.mem_of_getElem? (i := 232) rfl)) rfl
theorem gm_404 : (Jvm.Cond.constant "OdometryDeskLaw" (135 : Nat) (2000000000 : Int32)) ∈ lw_gd := lw_gm (lw_in2 (List.mem_of_getElem? (i := 233) rfl)) rfl
theorem gm_405 : (Jvm.Cond.methodLink "OdometryDeskLaw" (59 : Nat) ({ cls := "OdometryDeskLaw", name := "told", desc := "(LOdometryDesk;I)Z" } : Jvm.MethodName)) ∈ lw_gd := lw_gm (lw_in2 (List.mem_of_getElem? (i := 234) rfl)) rfl
theorem gm_406 : (Jvm.Cond.static ({ cls := "OdometryDeskLaw", name := "told", desc := "(LOdometryDesk;I)Z" } : Jvm.MethodName)) ∈ lw_gd := lw_gm (lw_in2 (List.mem_of_getElem? (i := 235) rfl)) rfl
theorem gm_407 : (Jvm.Cond.code ({ cls := "OdometryDeskLaw", name := "told", desc := "(LOdometryDesk;I)Z" } : Jvm.MethodName) method_15_code (11 : Nat) (Option.some Jvm.ClassFile.FieldType.boolean)) ∈ lw_gd := lw_gm (lw_in2 (List.mem_of_getElem? (i := 236) rfl)) rfl
theorem gm_408 : (Jvm.Cond.methodLink "OdometryDeskLaw" (136 : Nat) ({ cls := "OdometryDesk", name := "save", desc := "(I)I" } : Jvm.MethodName)) ∈ lw_gd := lw_gm (lw_in2 (List.mem_of_getElem? (i := 237) rfl)) rfl
theorem gm_409 : (Jvm.Cond.instanceMethod ({ cls := "OdometryDesk", name := "save", desc := "(I)I" } : Jvm.MethodName)) ∈ lw_gd := lw_gm (lw_in2 (List.mem_of_getElem? (i := 238) rfl)) rfl
theorem gm_410 : (Jvm.Cond.selects "OdometryDesk" ({ cls := "OdometryDesk", name := "save", desc := "(I)I" } : Jvm.MethodName) ({ cls := "OdometryDesk", name := "save", desc := "(I)I" } : Jvm.MethodName)) ∈ lw_gd := lw_gm (lw_in2 (List.mem_of_getElem? (i := 239) rfl)) rfl
theorem gm_411 : (Jvm.Cond.code ({ cls := "OdometryDesk", name := "save", desc := "(I)I" } : Jvm.MethodName) prog_1_method_21_code (3 : Nat) (Option.some Jvm.ClassFile.FieldType.int)) ∈ lw_gd := lw_gm (lw_in3 (List.mem_of_getElem? (i := 0) rfl)) rfl
theorem gm_412 : (Jvm.Cond.methodLink "OdometryDesk" (197 : Nat) ({ cls := "OdometryDesk", name := "slotOf", desc := "(I)LOdometryDesk$State;" } : Jvm.MethodName)) ∈ lw_gd := lw_gm (lw_in3 (List.mem_of_getElem? (i := 1) rfl)) rfl
theorem gm_413 : (Jvm.Cond.instanceMethod ({ cls := "OdometryDesk", name := "slotOf", desc := "(I)LOdometryDesk$State;" } : Jvm.MethodName)) ∈ lw_gd := lw_gm (lw_in3 (List.mem_of_getElem? (i := 3) rfl)) rfl
theorem gm_414 : (Jvm.Cond.code ({ cls := "OdometryDesk", name := "slotOf", desc := "(I)LOdometryDesk$State;" } : Jvm.MethodName) prog_1_method_23_code (2 : Nat) (Option.some (Jvm.ClassFile.FieldType.object "OdometryDesk$State"))) ∈ lw_gd := lw_gm (lw_in3 (List.mem_of_getElem? (i := 4) rfl)) rfl
theorem gm_415 : (Jvm.Cond.methodLink "OdometryDesk" (201 : Nat) ({ cls := "OdometryDesk$State", name := "takeOver", desc := "(LOdometryDesk$State;)V" } : Jvm.MethodName)) ∈ lw_gd := lw_gm (lw_in3 (List.mem_of_getElem? (i := 5) rfl)) rfl
theorem gm_416 : (Jvm.Cond.instanceMethod ({ cls := "OdometryDesk$State", name := "takeOver", desc := "(LOdometryDesk$State;)V" } : Jvm.MethodName)) ∈ lw_gd := lw_gm (lw_in3 (List.mem_of_getElem? (i := 6) rfl)) rfl
theorem gm_417 : (Jvm.Cond.selects "OdometryDesk$State" ({ cls := "OdometryDesk$State", name := "takeOver", desc := "(LOdometryDesk$State;)V" } : Jvm.MethodName) ({ cls := "OdometryDesk$State", name := "takeOver", desc := "(LOdometryDesk$State;)V" } : Jvm.MethodName)) ∈ lw_gd := lw_gm (lw_in3 (List.mem_of_getElem? (i := 7) rfl)) rfl
theorem gm_418 : (Jvm.Cond.code ({ cls := "OdometryDesk$State", name := "takeOver", desc := "(LOdometryDesk$State;)V" } : Jvm.MethodName) prog_3_method_2_code (2 : Nat) (Option.none : Option Jvm.ClassFile.FieldType)) ∈ lw_gd := lw_gm (lw_in3 (List.mem_of_getElem? (i := 8) rfl)) rfl
theorem gm_419 : (Jvm.Cond.static ({ cls := "OdometryDesk", name := "copy", desc := "([[I[[I)V" } : Jvm.MethodName)) ∈ lw_gd := lw_gm (lw_in3 (List.mem_of_getElem? (i := 11) rfl)) rfl
theorem gm_420 : (Jvm.Cond.code ({ cls := "OdometryDesk", name := "copy", desc := "([[I[[I)V" } : Jvm.MethodName) prog_1_method_38_code (3 : Nat) (Option.none : Option Jvm.ClassFile.FieldType)) ∈ lw_gd := lw_gm (lw_in3 (List.mem_of_getElem? (i := 12) rfl)) rfl
theorem gm_421 : (Jvm.Cond.methodLink "OdometryDeskLaw" (139 : Nat) ({ cls := "OdometryDesk", name := "wipe", desc := "()I" } : Jvm.MethodName)) ∈ lw_gd := lw_gm (lw_in3 (List.mem_of_getElem? (i := 13) rfl)) rfl
theorem gm_422 : (Jvm.Cond.instanceMethod ({ cls := "OdometryDesk", name := "wipe", desc := "()I" } : Jvm.MethodName)) ∈ lw_gd := lw_gm (lw_in3 (List.mem_of_getElem? (i := 14) rfl)) rfl
theorem gm_423 : (Jvm.Cond.selects "OdometryDesk" ({ cls := "OdometryDesk", name := "wipe", desc := "()I" } : Jvm.MethodName) ({ cls := "OdometryDesk", name := "wipe", desc := "()I" } : Jvm.MethodName)) ∈ lw_gd := lw_gm (lw_in3 (List.mem_of_getElem? (i := 15) rfl)) rfl
theorem gm_424 : (Jvm.Cond.code ({ cls := "OdometryDesk", name := "wipe", desc := "()I" } : Jvm.MethodName) prog_1_method_18_code (2 : Nat) (Option.some Jvm.ClassFile.FieldType.int)) ∈ lw_gd := lw_gm (lw_in3 (List.mem_of_getElem? (i := 16) rfl)) rfl
theorem gm_425 : (Jvm.Cond.constantLong "OdometryDeskLaw" (142 : Nat) (12666373951979520 : Int64)) ∈ lw_gd := lw_gm (lw_in3 (List.mem_of_getElem? (i := 17) rfl)) rfl
theorem gm_426 : (Jvm.Cond.constantLong "OdometryDeskLaw" (144 : Nat) (188978561024 : Int64)) ∈ lw_gd := lw_gm (lw_in3 (List.mem_of_getElem? (i := 18) rfl)) rfl
theorem gm_427 : (Jvm.Cond.constantLong "OdometryDeskLaw" (146 : Nat) (822083584 : Int64)) ∈ lw_gd := lw_gm (lw_in3 (List.mem_of_getElem? (i := 19) rfl)) rfl
theorem gm_428 : (Jvm.Cond.constantLong "OdometryDeskLaw" (148 : Nat) (11264 : Int64)) ∈ lw_gd := lw_gm (lw_in3 (List.mem_of_getElem? (i := 20) rfl)) rfl
theorem gm_429 : (Jvm.Cond.constantLong "OdometryDeskLaw" (150 : Nat) (45 : Int64)) ∈ lw_gd := lw_gm (lw_in3 (List.mem_of_getElem? (i := 21) rfl)) rfl
theorem gm_430 : (Jvm.Cond.methodLink "OdometryDeskLaw" (152 : Nat) ({ cls := "OdometryDesk", name := "put", desc := "(J)I" } : Jvm.MethodName)) ∈ lw_gd := lw_gm (lw_in3 (List.mem_of_getElem? (i := 22) rfl)) rfl
theorem gm_431 : (Jvm.Cond.instanceMethod ({ cls := "OdometryDesk", name := "put", desc := "(J)I" } : Jvm.MethodName)) ∈ lw_gd := lw_gm (lw_in3 (List.mem_of_getElem? (i := 23) rfl)) rfl
theorem gm_432 : (Jvm.Cond.selects "OdometryDesk" ({ cls := "OdometryDesk", name := "put", desc := "(J)I" } : Jvm.MethodName) ({ cls := "OdometryDesk", name := "put", desc := "(J)I" } : Jvm.MethodName)) ∈ lw_gd := lw_gm (lw_in3 (List.mem_of_getElem? (i := 24) rfl)) rfl
theorem gm_433 : (Jvm.Cond.code ({ cls := "OdometryDesk", name := "put", desc := "(J)I" } : Jvm.MethodName) prog_1_method_17_code (4 : Nat) (Option.some Jvm.ClassFile.FieldType.int)) ∈ lw_gd := lw_gm (lw_in3 (List.mem_of_getElem? (i := 25) rfl)) rfl
theorem gm_434 : (Jvm.Cond.methodLink "OdometryDesk" (173 : Nat) ({ cls := "OdometryDesk$Pad", name := "signsIn", desc := "(J)I" } : Jvm.MethodName)) ∈ lw_gd := lw_gm (lw_in3 (List.mem_of_getElem? (i := 26) rfl)) rfl
theorem gm_435 : (Jvm.Cond.static ({ cls := "OdometryDesk$Pad", name := "signsIn", desc := "(J)I" } : Jvm.MethodName)) ∈ lw_gd := lw_gm (lw_in3 (List.mem_of_getElem? (i := 27) rfl)) rfl
theorem gm_436 : (Jvm.Cond.code ({ cls := "OdometryDesk$Pad", name := "signsIn", desc := "(J)I" } : Jvm.MethodName) prog_2_method_2_code (5 : Nat) (Option.some Jvm.ClassFile.FieldType.int)) ∈ lw_gd := lw_gm (lw_in3 (List.mem_of_getElem? (i := 28) rfl)) rfl
theorem gm_437 : (Jvm.Cond.constantLong "OdometryDesk$Pad" (18 : Nat) (255 : Int64)) ∈ lw_gd := lw_gm (lw_in3 (List.mem_of_getElem? (i := 29) rfl)) rfl
theorem gm_438 : (Jvm.Cond.methodLink "OdometryDesk" (177 : Nat) ({ cls := "OdometryDesk$Pad", name := "append", desc := "(JI)V" } : Jvm.MethodName)) ∈ lw_gd := lw_gm (lw_in3 (List.mem_of_getElem? (i := 31) rfl)) rfl
theorem gm_439 : (Jvm.Cond.instanceMethod ({ cls := "OdometryDesk$Pad", name := "append", desc := "(JI)V" } : Jvm.MethodName)) ∈ lw_gd := lw_gm (lw_in3 (List.mem_of_getElem? (i := 32) rfl)) rfl
theorem gm_440 : (Jvm.Cond.selects "OdometryDesk$Pad" ({ cls := "OdometryDesk$Pad", name := "append", desc := "(JI)V" } : Jvm.MethodName) ({ cls := "OdometryDesk$Pad", name := "append", desc := "(JI)V" } : Jvm.MethodName)) ∈ lw_gd := lw_gm (lw_in3 (List.mem_of_getElem? (i := 33) rfl)) rfl
theorem gm_441 : (Jvm.Cond.code ({ cls := "OdometryDesk$Pad", name := "append", desc := "(JI)V" } : Jvm.MethodName) prog_2_method_3_code (5 : Nat) (Option.none : Option Jvm.ClassFile.FieldType)) ∈ lw_gd := lw_gm (lw_in3 (List.mem_of_getElem? (i := 34) rfl)) rfl
theorem gm_442 : (Jvm.Cond.methodLink "OdometryDeskLaw" (155 : Nat) ({ cls := "OdometryDesk", name := "fault", desc := "()I" } : Jvm.MethodName)) ∈ lw_gd := lw_gm (lw_in3 (List.mem_of_getElem? (i := 36) rfl)) rfl
theorem gm_443 : (Jvm.Cond.instanceMethod ({ cls := "OdometryDesk", name := "fault", desc := "()I" } : Jvm.MethodName)) ∈ lw_gd := lw_gm (lw_in3 (List.mem_of_getElem? (i := 37) rfl)) rfl
theorem gm_444 : (Jvm.Cond.selects "OdometryDesk" ({ cls := "OdometryDesk", name := "fault", desc := "()I" } : Jvm.MethodName) ({ cls := "OdometryDesk", name := "fault", desc := "()I" } : Jvm.MethodName)) ∈ lw_gd := lw_gm (lw_in3 (List.mem_of_getElem? (i := 38) rfl)) rfl
theorem gm_445 : (Jvm.Cond.code ({ cls := "OdometryDesk", name := "fault", desc := "()I" } : Jvm.MethodName) prog_1_method_19_code (1 : Nat) (Option.some Jvm.ClassFile.FieldType.int)) ∈ lw_gd := lw_gm (lw_in3 (List.mem_of_getElem? (i := 39) rfl)) rfl
theorem gm_446 : (Jvm.Cond.methodLink "OdometryDesk" (181 : Nat) ({ cls := "OdometryDesk$Pad", name := "findFault", desc := "()I" } : Jvm.MethodName)) ∈ lw_gd := lw_gm (lw_in3 (List.mem_of_getElem? (i := 40) rfl)) rfl
theorem gm_447 : (Jvm.Cond.instanceMethod ({ cls := "OdometryDesk$Pad", name := "findFault", desc := "()I" } : Jvm.MethodName)) ∈ lw_gd := lw_gm (lw_in3 (List.mem_of_getElem? (i := 41) rfl)) rfl
theorem gm_448 : (Jvm.Cond.selects "OdometryDesk$Pad" ({ cls := "OdometryDesk$Pad", name := "findFault", desc := "()I" } : Jvm.MethodName) ({ cls := "OdometryDesk$Pad", name := "findFault", desc := "()I" } : Jvm.MethodName)) ∈ lw_gd := lw_gm (lw_in3 (List.mem_of_getElem? (i := 42) rfl)) rfl
theorem gm_449 : (Jvm.Cond.code ({ cls := "OdometryDesk$Pad", name := "findFault", desc := "()I" } : Jvm.MethodName) prog_2_method_4_code (2 : Nat) (Option.some Jvm.ClassFile.FieldType.int)) ∈ lw_gd := lw_gm (lw_in3 (List.mem_of_getElem? (i := 43) rfl)) rfl
theorem gm_450 : (Jvm.Cond.methodLink "OdometryDesk$Pad" (35 : Nat) ({ cls := "OdometryDesk$Pad", name := "readEntry", desc := "()Z" } : Jvm.MethodName)) ∈ lw_gd := lw_gm (lw_in3 (List.mem_of_getElem? (i := 44) rfl)) rfl
theorem gm_451 : (Jvm.Cond.instanceMethod ({ cls := "OdometryDesk$Pad", name := "readEntry", desc := "()Z" } : Jvm.MethodName)) ∈ lw_gd := lw_gm (lw_in3 (List.mem_of_getElem? (i := 45) rfl)) rfl
theorem gm_452 : (Jvm.Cond.selects "OdometryDesk$Pad" ({ cls := "OdometryDesk$Pad", name := "readEntry", desc := "()Z" } : Jvm.MethodName) ({ cls := "OdometryDesk$Pad", name := "readEntry", desc := "()Z" } : Jvm.MethodName)) ∈ lw_gd := lw_gm (lw_in3 (List.mem_of_getElem? (i := 46) rfl)) rfl
theorem gm_453 : (Jvm.Cond.code ({ cls := "OdometryDesk$Pad", name := "readEntry", desc := "()Z" } : Jvm.MethodName) prog_2_method_5_code (1 : Nat) (Option.some Jvm.ClassFile.FieldType.boolean)) ∈ lw_gd := lw_gm (lw_in3 (List.mem_of_getElem? (i := 47) rfl)) rfl
theorem gm_454 : (Jvm.Cond.methodLink "OdometryDesk$Pad" (39 : Nat) ({ cls := "OdometryDesk$Pad", name := "takes", desc := "(C)Z" } : Jvm.MethodName)) ∈ lw_gd := lw_gm (lw_in3 (List.mem_of_getElem? (i := 48) rfl)) rfl
theorem gm_455 : (Jvm.Cond.instanceMethod ({ cls := "OdometryDesk$Pad", name := "takes", desc := "(C)Z" } : Jvm.MethodName)) ∈ lw_gd := lw_gm (lw_in3 (List.mem_of_getElem? (i := 49) rfl)) rfl
theorem gm_456 : (Jvm.Cond.selects "OdometryDesk$Pad" ({ cls := "OdometryDesk$Pad", name := "takes", desc := "(C)Z" } : Jvm.MethodName) ({ cls := "OdometryDesk$Pad", name := "takes", desc := "(C)Z" } : Jvm.MethodName)) ∈ lw_gd := lw_gm (lw_in3 (List.mem_of_getElem? (i := 50) rfl)) rfl
theorem gm_457 : (Jvm.Cond.code ({ cls := "OdometryDesk$Pad", name := "takes", desc := "(C)Z" } : Jvm.MethodName) prog_2_method_6_code (2 : Nat) (Option.some Jvm.ClassFile.FieldType.boolean)) ∈ lw_gd := lw_gm (lw_in3 (List.mem_of_getElem? (i := 51) rfl)) rfl
theorem gm_458 : (Jvm.Cond.methodLink "OdometryDesk$Pad" (47 : Nat) ({ cls := "OdometryDesk$Pad", name := "readNumber", desc := "(II)Z" } : Jvm.MethodName)) ∈ lw_gd := lw_gm (lw_in3 (List.mem_of_getElem? (i := 53) rfl)) rfl
theorem gm_459 : (Jvm.Cond.instanceMethod ({ cls := "OdometryDesk$Pad", name := "readNumber", desc := "(II)Z" } : Jvm.MethodName)) ∈ lw_gd := lw_gm (lw_in3 (List.mem_of_getElem? (i := 55) rfl)) rfl
theorem gm_460 : (Jvm.Cond.code ({ cls := "OdometryDesk$Pad", name := "readNumber", desc := "(II)Z" } : Jvm.MethodName) prog_2_method_8_code (4 : Nat) (Option.some Jvm.ClassFile.FieldType.boolean)) ∈ lw_gd := lw_gm (lw_in3 (List.mem_of_getElem? (i := 56) rfl)) rfl
theorem gm_461 : (Jvm.Cond.methodLink "OdometryDesk$Pad" (59 : Nat) ({ cls := "OdometryDesk$Pad", name := "digit", desc := "()I" } : Jvm.MethodName)) ∈ lw_gd := lw_gm (lw_in3 (List.mem_of_getElem? (i := 57) rfl)) rfl
theorem gm_462 : (Jvm.Cond.instanceMethod ({ cls := "OdometryDesk$Pad", name := "digit", desc := "()I" } : Jvm.MethodName)) ∈ lw_gd := lw_gm (lw_in3 (List.mem_of_getElem? (i := 59) rfl)) rfl
theorem gm_463 : (Jvm.Cond.code ({ cls := "OdometryDesk$Pad", name := "digit", desc := "()I" } : Jvm.MethodName) prog_2_method_9_code (2 : Nat) (Option.some Jvm.ClassFile.FieldType.int)) ∈ lw_gd := lw_gm (lw_in3 (List.mem_of_getElem? (i := 60) rfl)) rfl
theorem gm_464 : (Jvm.Cond.methodLink "OdometryDesk$Pad" (51 : Nat) ({ cls := "OdometryDesk$Pad", name := "readInteger", desc := "(II)Z" } : Jvm.MethodName)) ∈ lw_gd := lw_gm (lw_in3 (List.mem_of_getElem? (i := 61) rfl)) rfl
theorem gm_465 : (Jvm.Cond.instanceMethod ({ cls := "OdometryDesk$Pad", name := "readInteger", desc := "(II)Z" } : Jvm.MethodName)) ∈ lw_gd := lw_gm (lw_in3 (List.mem_of_getElem? (i := 63) rfl)) rfl
theorem gm_466 : (Jvm.Cond.code ({ cls := "OdometryDesk$Pad", name := "readInteger", desc := "(II)Z" } : Jvm.MethodName) prog_2_method_7_code (4 : Nat) (Option.some Jvm.ClassFile.FieldType.boolean)) ∈ lw_gd := lw_gm (lw_in3 (List.mem_of_getElem? (i := 64) rfl)) rfl
theorem gm_467 : (Jvm.Cond.constant "OdometryDesk$Pad" (54 : Nat) (300000 : Int32)) ∈ lw_gd := lw_gm (lw_in3 (List.mem_of_getElem? (i := 65) rfl)) rfl
theorem gm_468 : (Jvm.Cond.methodLink "OdometryDeskLaw" (158 : Nat) ({ cls := "OdometryDesk", name := "load", desc := "()I" } : Jvm.MethodName)) ∈ lw_gd := lw_gm (lw_in3 (List.mem_of_getElem? (i := 66) rfl)) rfl
theorem gm_469 : (Jvm.Cond.instanceMethod ({ cls := "OdometryDesk", name := "load", desc := "()I" } : Jvm.MethodName)) ∈ lw_gd := lw_gm (lw_in3 (List.mem_of_getElem? (i := 67) rfl)) rfl
theorem gm_470 : (Jvm.Cond.selects "OdometryDesk" ({ cls := "OdometryDesk", name := "load", desc := "()I" } : Jvm.MethodName) ({ cls := "OdometryDesk", name := "load", desc := "()I" } : Jvm.MethodName)) ∈ lw_gd := lw_gm (lw_in3 (List.mem_of_getElem? (i := 68) rfl)) rfl
theorem gm_471 : (Jvm.Cond.code ({ cls := "OdometryDesk", name := "load", desc := "()I" } : Jvm.MethodName) prog_1_method_20_code (3 : Nat) (Option.some Jvm.ClassFile.FieldType.int)) ∈ lw_gd := lw_gm (lw_in3 (List.mem_of_getElem? (i := 69) rfl)) rfl
theorem gm_472 : (Jvm.Cond.methodLink "OdometryDesk" (187 : Nat) ({ cls := "OdometryDesk$Pad", name := "readEntry", desc := "()Z" } : Jvm.MethodName)) ∈ lw_gd := lw_gm (lw_in3 (List.mem_of_getElem? (i := 70) rfl)) rfl
theorem gm_473 : (Jvm.Cond.methodLink "OdometryDesk" (190 : Nat) ({ cls := "OdometryDesk$Pad", name := "takes", desc := "(C)Z" } : Jvm.MethodName)) ∈ lw_gd := lw_gm (lw_in3 (List.mem_of_getElem? (i := 71) rfl)) rfl
theorem gm_474 : (Jvm.Cond.methodLink "OdometryDesk" (194 : Nat) ({ cls := "OdometryDesk", name := "addRead", desc := "()I" } : Jvm.MethodName)) ∈ lw_gd := lw_gm (lw_in3 (List.mem_of_getElem? (i := 72) rfl)) rfl
theorem gm_475 : (Jvm.Cond.instanceMethod ({ cls := "OdometryDesk", name := "addRead", desc := "()I" } : Jvm.MethodName)) ∈ lw_gd := lw_gm (lw_in3 (List.mem_of_getElem? (i := 74) rfl)) rfl
theorem gm_476 : (Jvm.Cond.code ({ cls := "OdometryDesk", name := "addRead", desc := "()I" } : Jvm.MethodName) prog_1_method_24_code (2 : Nat) (Option.some Jvm.ClassFile.FieldType.int)) ∈ lw_gd := lw_gm (lw_in3 (List.mem_of_getElem? (i := 75) rfl)) rfl
theorem gm_477 : (Jvm.Cond.constantLong "OdometryDeskLaw" (161 : Nat) (244813135872 : Int64)) ∈ lw_gd := lw_gm (lw_in3 (List.mem_of_getElem? (i := 76) rfl)) rfl
theorem gm_478 : (Jvm.Cond.constantLong "OdometryDeskLaw" (163 : Nat) (3866624 : Int64)) ∈ lw_gd := lw_gm (lw_in3 (List.mem_of_getElem? (i := 77) rfl)) rfl
theorem gm_479 : (Jvm.Cond.constantLong "OdometryDeskLaw" (165 : Nat) (27904 : Int64)) ∈ lw_gd := lw_gm (lw_in3 (List.mem_of_getElem? (i := 78) rfl)) rfl
theorem gm_480 : (Jvm.Cond.methodLink "OdometryDeskLaw" (167 : Nat) ({ cls := "OdometryDesk", name := "restore", desc := "(I)I" } : Jvm.MethodName)) ∈ lw_gd := lw_gm (lw_in3 (List.mem_of_getElem? (i := 79) rfl)) rfl
theorem gm_481 : (Jvm.Cond.instanceMethod ({ cls := "OdometryDesk", name := "restore", desc := "(I)I" } : Jvm.MethodName)) ∈ lw_gd := lw_gm (lw_in3 (List.mem_of_getElem? (i := 80) rfl)) rfl
theorem gm_482 : (Jvm.Cond.selects "OdometryDesk" ({ cls := "OdometryDesk", name := "restore", desc := "(I)I" } : Jvm.MethodName) ({ cls := "OdometryDesk", name := "restore", desc := "(I)I" } : Jvm.MethodName)) ∈ lw_gd := lw_gm (lw_in3 (List.mem_of_getElem? (i := 81) rfl)) rfl
theorem gm_483 : (Jvm.Cond.code ({ cls := "OdometryDesk", name := "restore", desc := "(I)I" } : Jvm.MethodName) prog_1_method_22_code (3 : Nat) (Option.some Jvm.ClassFile.FieldType.int)) ∈ lw_gd := lw_gm (lw_in3 (List.mem_of_getElem? (i := 82) rfl)) rfl
theorem gm_484 : (Jvm.Cond.methodLink "OdometryDeskLaw" (62 : Nat) ({ cls := "OdometryDeskLaw", name := "kept", desc := "(LOdometryDesk;I)Z" } : Jvm.MethodName)) ∈ lw_gd := lw_gm (lw_in3 (List.mem_of_getElem? (i := 83) rfl)) rfl
theorem gm_485 : (Jvm.Cond.static ({ cls := "OdometryDeskLaw", name := "kept", desc := "(LOdometryDesk;I)Z" } : Jvm.MethodName)) ∈ lw_gd := lw_gm (lw_in3 (List.mem_of_getElem? (i := 84) rfl)) rfl
theorem gm_486 : (Jvm.Cond.code ({ cls := "OdometryDeskLaw", name := "kept", desc := "(LOdometryDesk;I)Z" } : Jvm.MethodName) method_16_code (9 : Nat) (Option.some Jvm.ClassFile.FieldType.boolean)) ∈ lw_gd := lw_gm (lw_in3 (List.mem_of_getElem? (i := 85) rfl)) rfl
theorem gm_487 : (Jvm.Cond.constant "OdometryDeskLaw" (170 : Nat) (300000 : Int32)) ∈ lw_gd := lw_gm (lw_in3 (List.mem_of_getElem? (i := 86) rfl)) rfl
theorem gm_488 : (Jvm.Cond.methodLink "OdometryDeskLaw" (171 : Nat) ({ cls := "OdometryDesk", name := "closeCorridor", desc := "()I" } : Jvm.MethodName)) ∈ lw_gd := lw_gm (lw_in3 (List.mem_of_getElem? (i := 87) rfl)) rfl
theorem gm_489 : (Jvm.Cond.instanceMethod ({ cls := "OdometryDesk", name := "closeCorridor", desc := "()I" } : Jvm.MethodName)) ∈ lw_gd := lw_gm (lw_in3 (List.mem_of_getElem? (i := 88) rfl)) rfl
theorem gm_490 : (Jvm.Cond.selects "OdometryDesk" ({ cls := "OdometryDesk", name := "closeCorridor", desc := "()I" } : Jvm.MethodName) ({ cls := "OdometryDesk", name := "closeCorridor", desc := "()I" } : Jvm.MethodName)) ∈ lw_gd := lw_gm (lw_in3 (List.mem_of_getElem? (i := 89) rfl)) rfl
theorem gm_491 : (Jvm.Cond.code ({ cls := "OdometryDesk", name := "closeCorridor", desc := "()I" } : Jvm.MethodName) prog_1_method_5_code (1 : Nat) (Option.some Jvm.ClassFile.FieldType.int)) ∈ lw_gd := lw_gm (lw_in3 (List.mem_of_getElem? (i := 90) rfl)) rfl
theorem gm_492 : (Jvm.Cond.constant "OdometryDeskLaw" (30 : Nat) (3600000 : Int32)) ∈ lw_gd := lw_gm (lw_in3 (List.mem_of_getElem? (i := 91) rfl)) rfl
theorem gm_493 : (Jvm.Cond.methodLink "OdometryDeskLaw" (18 : Nat) ({ cls := "OdometryDeskLaw", name := "refused", desc := "(LOdometryDesk;I)Z" } : Jvm.MethodName)) ∈ lw_gd := lw_gm (lw_in3 (List.mem_of_getElem? (i := 92) rfl)) rfl
theorem gm_494 : (Jvm.Cond.static ({ cls := "OdometryDeskLaw", name := "refused", desc := "(LOdometryDesk;I)Z" } : Jvm.MethodName)) ∈ lw_gd := lw_gm (lw_in3 (List.mem_of_getElem? (i := 93) rfl)) rfl
theorem gm_495 : (Jvm.Cond.code ({ cls := "OdometryDeskLaw", name := "refused", desc := "(LOdometryDesk;I)Z" } : Jvm.MethodName) method_17_code (3 : Nat) (Option.some Jvm.ClassFile.FieldType.boolean)) ∈ lw_gd := lw_gm (lw_in3 (List.mem_of_getElem? (i := 94) rfl)) rfl
theorem gm_496 : (Jvm.Cond.constant "OdometryDeskLaw" (174 : Nat) (-300001 : Int32)) ∈ lw_gd := lw_gm (lw_in3 (List.mem_of_getElem? (i := 95) rfl)) rfl
theorem gm_497 : (Jvm.Cond.constant "OdometryDeskLaw" (175 : Nat) (1000000 : Int32)) ∈ lw_gd := lw_gm (lw_in3 (List.mem_of_getElem? (i := 96) rfl)) rfl
theorem gm_498 : (Jvm.Cond.constant "OdometryDeskLaw" (176 : Nat) (-1000000001 : Int32)) ∈ lw_gd := lw_gm (lw_in3 (List.mem_of_getElem? (i := 97) rfl)) rfl
theorem gm_499 : (Jvm.Cond.constant "OdometryDeskLaw" (177 : Nat) (-1000000002 : Int32)) ∈ lw_gd := lw_gm (lw_in3 (List.mem_of_getElem? (i := 98) rfl)) rfl
theorem gm_500 : Cond.selects "OdometryDesk$Way" ⟨"OdometryDesk$Way", "keepPose", "(I)V"⟩ ⟨"OdometryDesk$Way", "keepPose", "(I)V"⟩ ∈ lw_gd := lw_gs (List.mem_of_getElem? (i := 0) rfl) rfl
theorem gm_501 : Cond.selects "OdometryDesk$Way" ⟨"OdometryDesk$Way", "meet", "(LOdometryDesk$State;I)V"⟩ ⟨"OdometryDesk$Way", "meet", "(LOdometryDesk$State;I)V"⟩ ∈ lw_gd := lw_gs (List.mem_of_getElem? (i := 1) rfl) rfl
theorem gm_502 : Cond.selects "OdometryDesk$Way" ⟨"OdometryDesk$Way", "keepKind", "(II)V"⟩ ⟨"OdometryDesk$Way", "keepKind", "(II)V"⟩ ∈ lw_gd := lw_gs (List.mem_of_getElem? (i := 2) rfl) rfl
theorem gm_503 : Cond.selects "OdometryDesk$Way" ⟨"OdometryDesk$Way", "go", "(LOdometryDesk$State;[II)V"⟩ ⟨"OdometryDesk$Way", "go", "(LOdometryDesk$State;[II)V"⟩ ∈ lw_gd := lw_gs (List.mem_of_getElem? (i := 3) rfl) rfl
theorem gm_504 : Cond.selects "OdometryDesk$Way" ⟨"OdometryDesk$Way", "weighStep", "([IIJJ)V"⟩ ⟨"OdometryDesk$Way", "weighStep", "([IIJJ)V"⟩ ∈ lw_gd := lw_gs (List.mem_of_getElem? (i := 4) rfl) rfl
theorem gm_505 : Cond.selects "OdometryDesk$Way" ⟨"OdometryDesk$Way", "move", "()V"⟩ ⟨"OdometryDesk$Way", "move", "()V"⟩ ∈ lw_gd := lw_gs (List.mem_of_getElem? (i := 5) rfl) rfl
theorem gm_506 : Cond.selects "OdometryDesk$Way" ⟨"OdometryDesk$Way", "followCorridor", "(LOdometryDesk$State;[II)V"⟩ ⟨"OdometryDesk$Way", "followCorridor", "(LOdometryDesk$State;[II)V"⟩ ∈ lw_gd := lw_gs (List.mem_of_getElem? (i := 6) rfl) rfl
theorem gm_507 : Cond.selects "OdometryDesk$Way" ⟨"OdometryDesk$Way", "offDirection", "(I)I"⟩ ⟨"OdometryDesk$Way", "offDirection", "(I)I"⟩ ∈ lw_gd := lw_gs (List.mem_of_getElem? (i := 7) rfl) rfl
theorem gm_508 : Cond.selects "OdometryDesk$Way" ⟨"OdometryDesk$Way", "firstSightFrom", "(II)I"⟩ ⟨"OdometryDesk$Way", "firstSightFrom", "(II)I"⟩ ∈ lw_gd := lw_gs (List.mem_of_getElem? (i := 8) rfl) rfl
theorem gm_509 : Cond.selects "OdometryDesk$Way" ⟨"OdometryDesk$Way", "lastSightAhead", "(I)I"⟩ ⟨"OdometryDesk$Way", "lastSightAhead", "(I)I"⟩ ∈ lw_gd := lw_gs (List.mem_of_getElem? (i := 9) rfl) rfl
theorem gm_510 : Cond.selects "OdometryDesk" ⟨"OdometryDesk", "errorsWith", "(II)J"⟩ ⟨"OdometryDesk", "errorsWith", "(II)J"⟩ ∈ lw_gd := lw_gs (List.mem_of_getElem? (i := 10) rfl) rfl
theorem gm_511 : Cond.selects "OdometryDesk" ⟨"OdometryDesk", "slotOf", "(I)LOdometryDesk$State;"⟩ ⟨"OdometryDesk", "slotOf", "(I)LOdometryDesk$State;"⟩ ∈ lw_gd := lw_gs (List.mem_of_getElem? (i := 11) rfl) rfl
theorem gm_512 : Cond.selects "OdometryDesk$Pad" ⟨"OdometryDesk$Pad", "readNumber", "(II)Z"⟩ ⟨"OdometryDesk$Pad", "readNumber", "(II)Z"⟩ ∈ lw_gd := lw_gs (List.mem_of_getElem? (i := 12) rfl) rfl
theorem gm_513 : Cond.selects "OdometryDesk$Pad" ⟨"OdometryDesk$Pad", "digit", "()I"⟩ ⟨"OdometryDesk$Pad", "digit", "()I"⟩ ∈ lw_gd := lw_gs (List.mem_of_getElem? (i := 13) rfl) rfl
theorem gm_514 : Cond.selects "OdometryDesk$Pad" ⟨"OdometryDesk$Pad", "readInteger", "(II)Z"⟩ ⟨"OdometryDesk$Pad", "readInteger", "(II)Z"⟩ ∈ lw_gd := lw_gs (List.mem_of_getElem? (i := 14) rfl) rfl
theorem gm_515 : Cond.selects "OdometryDesk" ⟨"OdometryDesk", "addRead", "()I"⟩ ⟨"OdometryDesk", "addRead", "()I"⟩ ∈ lw_gd := lw_gs (List.mem_of_getElem? (i := 15) rfl) rfl
theorem iw_X0 : ∀ w ∈ u_ws RX0 TX0 5, w ∈ lw_gd := fun w hw => by
  obtain ⟨k, hk, rfl⟩ := List.mem_map.mp hw
  have hk := List.mem_range.mp hk
  match k, hk with
  | 0, _ => exact gm_120
  | 1, _ => exact gm_121
  | 2, _ => exact gm_122
  | 3, _ => exact gm_123
  | 4, _ => exact gm_124
  | k + 5, h => exact absurd h (by omega)
theorem iw_X1 : ∀ w ∈ u_ws RX1 TX1 11, w ∈ lw_gd := fun w hw => by
  obtain ⟨k, hk, rfl⟩ := List.mem_map.mp hw
  have hk := List.mem_range.mp hk
  match k, hk with
  | 0, _ => exact gm_56
  | 1, _ => exact gm_57
  | 2, _ => exact gm_58
  | 3, _ => exact gm_59
  | 4, _ => exact gm_60
  | 5, _ => exact gm_61
  | 6, _ => exact gm_62
  | 7, _ => exact gm_63
  | 8, _ => exact gm_64
  | 9, _ => exact gm_65
  | 10, _ => exact gm_66
  | k + 11, h => exact absurd h (by omega)
theorem iw_X2 : ∀ w ∈ u_ws RX2 TX2 12, w ∈ lw_gd := fun w hw => by
  obtain ⟨k, hk, rfl⟩ := List.mem_map.mp hw
  have hk := List.mem_range.mp hk
  match k, hk with
  | 0, _ => exact gm_94
  | 1, _ => exact gm_95
  | 2, _ => exact gm_96
  | 3, _ => exact gm_97
  | 4, _ => exact gm_98
  | 5, _ => exact gm_99
  | 6, _ => exact gm_100
  | 7, _ => exact gm_101
  | 8, _ => exact gm_102
  | 9, _ => exact gm_103
  | 10, _ => exact gm_104
  | 11, _ => exact gm_105
  | k + 12, h => exact absurd h (by omega)
theorem iw_X3 : ∀ w ∈ u_ws RX3 TX3 6, w ∈ lw_gd := fun w hw => by
  obtain ⟨k, hk, rfl⟩ := List.mem_map.mp hw
  have hk := List.mem_range.mp hk
  match k, hk with
  | 0, _ => exact gm_134
  | 1, _ => exact gm_135
  | 2, _ => exact gm_136
  | 3, _ => exact gm_137
  | 4, _ => exact gm_138
  | 5, _ => exact gm_139
  | k + 6, h => exact absurd h (by omega)
/-- the links between nest mates, constructors apart -/
def xm_nw : List (String × Nat × MethodName × String) := [(RX2, 109, yX3_keep_, "OdometryDesk"), (RX1, 70, yX3_item_, "OdometryDesk"), (RX2, 91, yX3_item_, "OdometryDesk"), (RX2, 113, yX3_item, "OdometryDesk"), (RX2, 116, yX3_keep, "OdometryDesk"), (RX2, 106, yX3_ratio, "OdometryDesk"), (RX2, 159, yX3_asHeading, "OdometryDesk"), (RX2, 163, yX3_angleOfCosine, "OdometryDesk"), (RX2, 166, yX3_sine, "OdometryDesk"), (RX1, 60, yX3_isWithin, "OdometryDesk"), (RX1, 66, yX3_keep_, "OdometryDesk"), (RX1, 34, yX3_copy, "OdometryDesk"), (RX1, 38, yX3_copy_, "OdometryDesk"), (RX0, 20, yX3_isWithin, "OdometryDesk"), (RX0, 28, yX3_keep, "OdometryDesk"), (RX0, 55, yX3_item, "OdometryDesk")]
theorem nw_0 : (RX2, 109, yX3_keep_, "OdometryDesk") ∈ xm_nw := List.mem_of_getElem? (i := 0) rfl
theorem nw_1 : (RX1, 70, yX3_item_, "OdometryDesk") ∈ xm_nw := List.mem_of_getElem? (i := 1) rfl
theorem nw_2 : (RX2, 91, yX3_item_, "OdometryDesk") ∈ xm_nw := List.mem_of_getElem? (i := 2) rfl
theorem nw_3 : (RX2, 113, yX3_item, "OdometryDesk") ∈ xm_nw := List.mem_of_getElem? (i := 3) rfl
theorem nw_4 : (RX2, 116, yX3_keep, "OdometryDesk") ∈ xm_nw := List.mem_of_getElem? (i := 4) rfl
theorem nw_5 : (RX2, 106, yX3_ratio, "OdometryDesk") ∈ xm_nw := List.mem_of_getElem? (i := 5) rfl
theorem nw_6 : (RX2, 159, yX3_asHeading, "OdometryDesk") ∈ xm_nw := List.mem_of_getElem? (i := 6) rfl
theorem nw_7 : (RX2, 163, yX3_angleOfCosine, "OdometryDesk") ∈ xm_nw := List.mem_of_getElem? (i := 7) rfl
theorem nw_8 : (RX2, 166, yX3_sine, "OdometryDesk") ∈ xm_nw := List.mem_of_getElem? (i := 8) rfl
theorem nw_9 : (RX1, 60, yX3_isWithin, "OdometryDesk") ∈ xm_nw := List.mem_of_getElem? (i := 9) rfl
theorem nw_10 : (RX1, 66, yX3_keep_, "OdometryDesk") ∈ xm_nw := List.mem_of_getElem? (i := 10) rfl
theorem nw_11 : (RX1, 34, yX3_copy, "OdometryDesk") ∈ xm_nw := List.mem_of_getElem? (i := 11) rfl
theorem nw_12 : (RX1, 38, yX3_copy_, "OdometryDesk") ∈ xm_nw := List.mem_of_getElem? (i := 12) rfl
theorem nw_13 : (RX0, 20, yX3_isWithin, "OdometryDesk") ∈ xm_nw := List.mem_of_getElem? (i := 13) rfl
theorem nw_14 : (RX0, 28, yX3_keep, "OdometryDesk") ∈ xm_nw := List.mem_of_getElem? (i := 14) rfl
theorem nw_15 : (RX0, 55, yX3_item, "OdometryDesk") ∈ xm_nw := List.mem_of_getElem? (i := 15) rfl
end
section
/-! THE PURE PICTURE. A memory: the ints and the longs of every cell by the cell's number and the place in it. Shapes: what a cell is. A world is made of both and of the addresses. -/
abbrev xm_M : Type := (Nat → Nat → Int32) × (Nat → Nat → Int64)
abbrev xm_Sh : Type := (Nat × FieldType × Nat) ⊕ (Nat × Nat) ⊕ (Nat × List (Nat × Nat))
abbrev xm_G : Type := (Nat → Nat) × List (ClassId × FieldType)
def xm_cid (g : xm_G) (t : Nat) : ClassId := (g.2.getD t (0, .int)).1
def xm_fv (g : xm_G) (f : Nat → Int32) (h : Nat → Int64) (j : Nat) (q : Nat × Nat) : Value := if q.1 = 0 then .int (f j) else if q.1 = 1 then .long (h j) else .ref (g.1 q.2)
def xm_fs (g : xm_G) (f : Nat → Int32) (h : Nat → Int64) (fs : List (Nat × Nat)) : List Value := fs.mapIdx (xm_fv g f h)
def xm_rows (g : xm_G) (b : Nat × Nat) : Nat → Option Nat := fun i => if i < b.1 then some (g.1 (b.2 + i)) else none
def xm_cell (g : xm_G) (sh : xm_Sh) (f : Nat → Int32) (h : Nat → Int64) : va_E := match sh with
  | .inl a => .inl (xm_cid g a.1, a.2.2, .inl f)
  | .inr (.inl b) => .inl (xm_cid g 1, b.1, .inr (.inr (.inr (.inr (xm_rows g b)))))
  | .inr (.inr q) => .inr (q.1, xm_fs g f h q.2)
def xm_w (L : List xm_Sh) (g : xm_G) (M : xm_M) : va_W := L.mapIdx (fun k sh => (g.1 k, xm_cell g sh (M.1 k) (M.2 k)))
/-- a memory with one int more, with one long more, with a row of ints -/
def xm_s (M : xm_M) (k j : Nat) (v : Int32) : xm_M := (fun a b => if a = k ∧ b = j then v else M.1 a b, M.2)
def xm_sl (M : xm_M) (k j : Nat) (v : Int64) : xm_M := (M.1, fun a b => if a = k ∧ b = j then v else M.2 a b)
def xm_r (M : xm_M) (k : Nat) (f : Nat → Int32) : xm_M := (fun a => if a = k then f else M.1 a, M.2)
theorem xm_s_o {M : xm_M} {k j : Nat} {v : Int32} (a : Nat) (h : a ≠ k) : (xm_s M k j v).1 a = M.1 a ∧ (xm_s M k j v).2 a = M.2 a := ⟨funext fun b => by simp [xm_s, h], rfl⟩
theorem xm_sl_o {M : xm_M} {k j : Nat} {v : Int64} (a : Nat) (h : a ≠ k) : (xm_sl M k j v).1 a = M.1 a ∧ (xm_sl M k j v).2 a = M.2 a := ⟨rfl, funext fun b => by simp [xm_sl, h]⟩
theorem xm_r_o {M : xm_M} {k : Nat} {f : Nat → Int32} (a : Nat) (h : a ≠ k) : (xm_r M k f).1 a = M.1 a ∧ (xm_r M k f).2 a = M.2 a := ⟨by simp [xm_r, h], rfl⟩
theorem xm_s_at {M : xm_M} {k j : Nat} {v : Int32} : (xm_s M k j v).1 k = upd (M.1 k) j v := funext fun b => by simp [xm_s, upd]
theorem xm_r_at {M : xm_M} {k : Nat} {f : Nat → Int32} : (xm_r M k f).1 k = f := by simp [xm_r]
theorem xm_w_at {L : List xm_Sh} {g : xm_G} {M : xm_M} {k : Nat} {sh : xm_Sh} (h : L[k]? = some sh) : (xm_w L g M)[k]? = some (g.1 k, xm_cell g sh (M.1 k) (M.2 k)) := by simp [xm_w, List.getElem?_mapIdx, h]
theorem xm_w_len {L : List xm_Sh} {g : xm_G} {M : xm_M} : (xm_w L g M).length = L.length := by simp [xm_w]
theorem xm_w_spec {L : List xm_Sh} {g : xm_G} {M : xm_M} {k : Nat} {q : Nat × va_E} (h : (xm_w L g M)[k]? = some q) : k < L.length ∧ q.1 = g.1 k := by
  have hl : k < L.length := by rw [← xm_w_len (g := g) (M := M)]; exact (List.getElem?_eq_some_iff.mp h).1
  refine ⟨hl, ?_⟩
  rw [xm_w_at (List.getElem?_eq_getElem hl)] at h
  rw [← Option.some.inj h]
theorem xm_w_set {L : List xm_Sh} {g : xm_G} {M M' : xm_M} {k : Nat} {sh : xm_Sh} {e : va_E} (h : L[k]? = some sh) (he : e = xm_cell g sh (M'.1 k) (M'.2 k)) (ho : ∀ a, a ≠ k → M'.1 a = M.1 a ∧ M'.2 a = M.2 a) : (xm_w L g M).set k (g.1 k, e) = xm_w L g M' := by
  apply List.ext_getElem?
  intro i
  by_cases hi : k = i
  · subst hi
    have hl : k < (xm_w L g M).length := by rw [xm_w_len]; exact (List.getElem?_eq_some_iff.mp h).1
    rw [List.getElem?_set_self hl, xm_w_at h, he]
  · rw [List.getElem?_set_ne hi]
    unfold xm_w
    rw [List.getElem?_mapIdx, List.getElem?_mapIdx]
    have h2 := ho i (Ne.symm hi)
    cases L[i]? with
    | none => rfl
    | some z => simp [h2.1, h2.2]
def xm_inj (L : List xm_Sh) (g : xm_G) : Prop := ∀ i j : Nat, i < L.length → j < L.length → g.1 i = g.1 j → i = j
theorem xm_D {L : List xm_Sh} {g : xm_G} {A : Nat → Prop} (hi : xm_inj L g) (hA : ∀ k, k < L.length → A (g.1 k)) (M : xm_M) : va_D A (xm_w L g M) := by
  refine ⟨fun i j p q h1 h2 h => ?_, fun k q h => ?_⟩
  · have e1 := xm_w_spec h1
    have e2 := xm_w_spec h2
    exact hi i j e1.1 e2.1 (by rw [← e1.2, ← e2.2]; exact h)
  · have e1 := xm_w_spec h
    rw [e1.2]
    exact hA k e1.1
/-- what a method of this world may change: its cells, and what is new -/
def xm_A (L : List xm_Sh) (g : xm_G) (sz : Nat) : Nat → Prop := fun q => (∃ k, k < L.length ∧ q = g.1 k) ∨ sz ≤ q
def xm_tyk (g : xm_G) (sh : xm_Sh) : Prop := match sh with
  | .inl a => g.2[a.1]? = some (xm_cid g a.1, a.2.1)
  | .inr (.inl _) => g.2[1]? = some (xm_cid g 1, .array .int)
  | .inr (.inr _) => True
def xm_tyok (L : List xm_Sh) (g : xm_G) : Prop := ∀ (k : Nat) (sh : xm_Sh), L[k]? = some sh → xm_tyk g sh
/-- nest mates' links -/
def xm_nwW (q : String × Nat × MethodName × String) : Cond := .methodLinkNest q.1 q.2.1 q.2.2.1 q.2.2.2
def xm_Nx (U : State) : Prop := ∀ q ∈ xm_nw, va_Nw (xm_nwW q) U
theorem xm_Nx.warm {s U : State} (h : xm_Nx s) (hW : s.WarmedH U.vm) : xm_Nx U := fun q hq => va_Nw.warmM hW (h q hq)
theorem xm_Nx.same {u U : State} (h : xm_Nx u) (e : u.vm = U.vm) : xm_Nx U := fun q hq => va_Nw.same rfl e (h q hq)
def xm_low : Nat → Int32 := fun j => ([100, 100, 100, 0, 0, 1, 0, 0, 0] : List Int32).getD j 0
def xm_high : Nat → Int32 := fun j => ([2000, 2000, 1000, 200000, 100, 64, 100, 2000, 900000] : List Int32).getD j 0
def xm_St (A : Nat → Prop) (U : State) (H : Heap) : Prop := ∃ tl th : Nat, va_Z "OdometryDesk" "LOWEST" "[I" (.ref tl) A U H ∧ va_T .int tl 9 (fun j => .int (xm_low j)) A U H ∧ va_Z "OdometryDesk" "HIGHEST" "[I" (.ref th) A U H ∧ va_T .int th 9 (fun j => .int (xm_high j)) A U H
theorem xm_St.moved {A : Nat → Prop} {u U : State} {H : Heap} (hvm : u.vm.Alike U.vm) (h : xm_St A u H) : xm_St A U H := by
  obtain ⟨tl, th, h1, h2, h3, h4⟩ := h
  exact ⟨tl, th, h1.moved hvm, h2.moved hvm, h3.moved hvm, h4.moved hvm⟩
theorem xm_St.kept {A : Nat → Prop} {U : State} {H H1 : Heap} (h : xm_St A U H) (hq : ∀ a : Nat, a < H.size → ¬ A a → H1[a]? = H[a]?) : xm_St A U H1 := by
  obtain ⟨tl, th, h1, h2, h3, h4⟩ := h
  exact ⟨tl, th, h1.kept hq, h2.kept hq, h3.kept hq, h4.kept hq⟩
theorem xm_St.narrow {A B : Nat → Prop} {U : State} {H : Heap} (h : xm_St A U H) (hAB : ∀ q, B q → A q) : xm_St B U H := by
  obtain ⟨tl, th, h1, h2, h3, h4⟩ := h
  exact ⟨tl, th, h1.narrow hAB, h2.narrow hAB, h3.narrow hAB, h4.narrow hAB⟩
def xm_Pre (D : va_G) (L : List xm_Sh) (g : xm_G) (M : xm_M) (sz : Nat) (U : State) : Prop := U.heap.size = sz ∧ va_P D vwCl (xm_w L g M) U.heap ∧ va_K D vwCl g.2 U ∧ xm_Nx U ∧ xm_inj L g ∧ xm_tyok L g ∧ xm_St (xm_A L g sz) U U.heap
def xm_Q (D : va_G) (L : List xm_Sh) (g : xm_G) (A : Nat → Prop) (vM : Option Value × xm_M) : Array Value → State → Outcome → State → Prop := fun _ st oc t => oc = .returned vM.1 ∧ va_P D vwCl (xm_w L g vM.2) t.heap ∧ va_F A st t
/-- A CONTRACT: where the pure function answers, the method answers that, and leaves that memory -/
def xm_C {ρ : Type} (l : Launch) (y : MethodName) (ws : List Cond) (rm : Room) (L : List xm_Sh) (As : xm_G → List Value) (M : xm_M) (Fn : xm_G → ρ → Option Value × xm_M) (X : Option ρ) : Prop :=
  ∀ (D : va_G) (g : xm_G) (sz : Nat) (r : ρ), X = some r → Met l y ws rm (va_Pc (As g) (xm_Pre D L g M sz)) (xm_Q D L g (xm_A L g sz) (Fn g r)) 0 0 (xm_A L g sz)
theorem xm_blind {D : va_G} {L : List xm_Sh} {g : xm_G} {M : xm_M} {sz : Nat} {As : List Value} : FrameBlind (va_Pc As (xm_Pre D L g M sz)) :=
  fun a U fr mk q => ⟨q.1, q.2.1, q.2.2.1, va_K.moved (u := U) (U := U.calling fr mk a) (Vm.Alike.refl U.vm) q.2.2.2.1, xm_Nx.same (u := U) (U := U.calling fr mk a) q.2.2.2.2.1 rfl, q.2.2.2.2.2.1, q.2.2.2.2.2.2.1, xm_St.moved (u := U) (U := U.calling fr mk a) (Vm.Alike.refl U.vm) q.2.2.2.2.2.2.2⟩
/-- the ends: an int, a long, nothing, a cell -/
abbrev xm_Fi : xm_G → Int32 × xm_M → Option Value × xm_M := fun _ r => (some (.int r.1), r.2)
abbrev xm_Fl : xm_G → Int64 × xm_M → Option Value × xm_M := fun _ r => (some (.long r.1), r.2)
abbrev xm_Fv : xm_G → xm_M → Option Value × xm_M := fun _ r => (none, r)
abbrev xm_Fr : xm_G → Nat × xm_M → Option Value × xm_M := fun g r => (some (.ref (g.1 r.1)), r.2)
/-- a value, or a memory, that gets a name -/
def xm_lt {α β : Type} (v : α) (f : α → β) : β := f v
/-- behind a call -/
def xm_bi {ρ : Type} (f : Option (Int32 × xm_M)) (K : Int32 → xm_M → Option ρ) : Option ρ := f.bind (fun r => K r.1 r.2)
def xm_bl {ρ : Type} (f : Option (Int64 × xm_M)) (K : Int64 → xm_M → Option ρ) : Option ρ := f.bind (fun r => K r.1 r.2)
def xm_bv {ρ : Type} (f : Option xm_M) (K : xm_M → Option ρ) : Option ρ := f.bind K
def xm_br {ρ : Type} (f : Option (Nat × xm_M)) (K : Nat → xm_M → Option ρ) : Option ρ := f.bind (fun r => K r.1 r.2)
/-- so many times -/
def xm_it {α : Type} (f : α → α) (z : α) : Nat → α
  | 0 => z
  | n + 1 => f (xm_it f z n)
def xm_N : Nat := 4096
/-- what holds throughout a method -/
def xm_X (p : Program) (m : MethodId) (meth : Method) (c : Code) (cc : ByteArray) (nL : Nat) (s : State) (args : Array Value) (Ts : List Cond) (own : String) (ret : Option FieldType) (D : va_G) (L : List xm_Sh) (g : xm_G) (A : Nat → Prop) : Prop :=
  CallFix p m c cc nL s args Ts own ∧ meth.sig.returnType = ret ∧ meth.locks = false ∧ va_K D vwCl g.2 s ∧ xm_Nx s ∧ xm_inj L g ∧ xm_tyok L g ∧ (∀ k, k < L.length → A (g.1 k)) ∧ (∀ q, s.heap.size ≤ q → A q) ∧ xm_St A s s.heap
/-- THE JUDGEMENT: from here, where the pure function answers r, the method comes to its end with r -/
def xm_J (p : Program) (l : Launch) (e : Env) (R : Room) (s : State) (m : MethodId) (args : Array Value) (below : List Frame) (meth : Method) (c : Code) (nL : Nat) (D : va_G) (L : List xm_Sh) (g : xm_G) (A : Nat → Prop) {ρ : Type} (Fn : (ρ → State → Prop) × Nat × Nat) (pc : Nat) (lv : List (Nat × Value)) (st : List Value) (M : xm_M) (X : Option ρ) : Prop :=
  ∀ r : ρ, X = some r → ∀ (ls : Array Slot) (H : Heap) (locs : List Loc), lv_has ls nL lv → va_P D vwCl (xm_w L g M) H → va_S A s.heap H locs → W p l e R s m args below meth c H locs Fn.2.1 Fn.2.2 (Fn.1 r) (F0 m pc ls st)
/-- the end of a method that makes nothing -/
abbrev xm_Z {ρ : Type} (below : List Frame) (args : Array Value) (s : State) (D : va_G) (L : List xm_Sh) (g : xm_G) (A : Nat → Prop) (Fc : ρ → Option Value × xm_M) : (ρ → State → Prop) × Nat × Nat := (fun r => MQ below (xm_Q D L g A (Fc r)) args s 0 0 A, 0, 0)
theorem xm_C.of {ρ : Type} {l : Launch} {y : MethodName} {ws ws' : List Cond} {rm : Room} {L : List xm_Sh} {As : xm_G → List Value} {M : xm_M} {Fn : xm_G → ρ → Option Value × xm_M} {X : Option ρ} {cc : ByteArray} {maxL : Nat} {ret : Option FieldType} (hy : plainName y.cls = true) (hw : ws = Cond.code y cc maxL ret :: ws') (hn : ∀ g, (lg_sl (As g)).length ≤ maxL)
    (body : ∀ p e s m args below meth c D g A, xm_X p m meth c cc maxL s args ws y.cls ret D L g A → xm_J p l e rm s m args below meth c maxL D L g A (xm_Z below args s D L g A (Fn g)) 0 (lv_args 0 (As g)) [] M X) : xm_C l y ws rm L As M Fn X := by
  intro D g sz r hr
  refine Met.ofW hy hw ?_
  intro p e s m args below meth c s₁ B hml hv
  obtain ⟨rfl, hsz, hP, hK, hN, hI, hT, hSt⟩ := hv
  subst hsz
  have h := body p e s m (As g).toArray below meth c D g (xm_A L g s.heap.size) ⟨⟨B.exec, B.bytes, hml, findClass_of_methodNamed B.named, atoms_spec (ws := ws) B.pre⟩, B.returns, B.notSynchronized, hK, hN, hI, hT, fun k hk => Or.inl ⟨k, hk, rfl⟩, fun q hq => Or.inr hq, hSt⟩ r hr
  rw [lg_entry_eq]
  exact h _ _ _ (lv_entry (As g) (hn g)) hP va_S.rf
theorem xm_C.ofF {ρ : Type} {l : Launch} {y : MethodName} {ws ws' : List Cond} {rm : Room} {L : List xm_Sh} {As : xm_G → List Value} {M : xm_M} {Fn : xm_G → ρ → Option Value × xm_M} {X : Option ρ} {cc : ByteArray} {maxL : Nat} {ret : Option FieldType} (hy : plainFor y = true) (hw : ws = Cond.code y cc maxL ret :: ws') (hn : ∀ g, (lg_sl (As g)).length ≤ maxL)
    (body : ∀ p e s m args below meth c D g A, xm_X p m meth c cc maxL s args ws y.cls ret D L g A → xm_J p l e rm s m args below meth c maxL D L g A (xm_Z below args s D L g A (Fn g)) 0 (lv_args 0 (As g)) [] M X) : xm_C l y ws rm L As M Fn X := by
  intro D g sz r hr
  refine va_MetF hy hw ?_
  intro p e s m args below meth c s₁ B hml hv
  obtain ⟨rfl, hsz, hP, hK, hN, hI, hT, hSt⟩ := hv
  subst hsz
  have h := body p e s m (As g).toArray below meth c D g (xm_A L g s.heap.size) ⟨⟨B.exec, B.bytes, hml, findClass_of_methodNamed B.named, atoms_spec (ws := ws) B.pre⟩, B.returns, B.notSynchronized, hK, hN, hI, hT, fun k hk => Or.inl ⟨k, hk, rfl⟩, fun q hq => Or.inr hq, hSt⟩ r hr
  rw [lg_entry_eq]
  exact h _ _ _ (lv_entry (As g) (hn g)) hP va_S.rf
section XM
variable {p : Program} {l : Launch} {e : Env} {R : Room} {s : State} {m : MethodId} {args : Array Value} {below : List Frame} {meth : Method} {c : Code} {cc : ByteArray} {nL : Nat} {Ts : List Cond} {own : String} {ret : Option FieldType} {D : va_G} {L : List xm_Sh} {g : xm_G} {A : Nat → Prop}
variable {ρ : Type} {Fn : (ρ → State → Prop) × Nat × Nat} {pc tgt : Nat} {lv lv' : List (Nat × Value)} {rest : List Value} {M : xm_M} {X Y : Option ρ}
theorem xm_none {st : List Value} : xm_J p l e R s m args below meth c nL D L g A Fn pc lv st M (none : Option ρ) := fun r hr => by cases hr
theorem xm_X.hD (hX : xm_X p m meth c cc nL s args Ts own ret D L g A) (M : xm_M) : va_D A (xm_w L g M) := xm_D hX.2.2.2.2.2.1 hX.2.2.2.2.2.2.2.1 M
theorem xm_ite {st : List Value} {P : Prop} [Decidable P] (ht : P → xm_J p l e R s m args below meth c nL D L g A Fn pc lv st M X) (hf : ¬ P → xm_J p l e R s m args below meth c nL D L g A Fn pc lv st M Y) : xm_J p l e R s m args below meth c nL D L g A Fn pc lv st M (if P then X else Y) := by
  by_cases h : P
  · rw [if_pos h]; exact ht h
  · rw [if_neg h]; exact hf h
/-- names for what lies on top, for a long there, for the memory -/
theorem xm_nmi {x : Int32} {f : Int32 → Option ρ} (k : ∀ y : Int32, xm_J p l e R s m args below meth c nL D L g A Fn pc lv (.int y :: rest) M (f y)) : xm_J p l e R s m args below meth c nL D L g A Fn pc lv (.int x :: rest) M (xm_lt x f) := k x
theorem xm_nml {x : Int64} {f : Int64 → Option ρ} (k : ∀ y : Int64, xm_J p l e R s m args below meth c nL D L g A Fn pc lv (.long y :: rest) M (f y)) : xm_J p l e R s m args below meth c nL D L g A Fn pc lv (.long x :: rest) M (xm_lt x f) := k x
theorem xm_nmM {st : List Value} {f : xm_M → Option ρ} (k : ∀ M1 : xm_M, xm_J p l e R s m args below meth c nL D L g A Fn pc lv st M1 (f M1)) : xm_J p l e R s m args below meth c nL D L g A Fn pc lv st M (xm_lt M f) := k M
theorem xm_iconst (hX : xm_X p m meth c cc nL s args Ts own ret D L g A) {n : Int} {v : Int32} (hv : Int32.ofInt n = v) (hdg : decode cc pc = .ok (.iconst n, 1)) (k : xm_J p l e R s m args below meth c nL D L g A Fn (pc + 1) lv (.int v :: rest) M X) : xm_J p l e R s m args below meth c nL D L g A Fn pc lv rest M X := fun r hr ls H locs hl hP hS => lv_iconst hX.1.1 hX.1.2.1 hdg hv (k r hr ls H locs hl hP hS)
theorem xm_bipush (hX : xm_X p m meth c cc nL s args Ts own ret D L g A) {n : Int} {v : Int32} (hv : (Int8.ofInt n).toInt32 = v) (hdg : decode cc pc = .ok (.bipush n, 2)) (k : xm_J p l e R s m args below meth c nL D L g A Fn (pc + 2) lv (.int v :: rest) M X) : xm_J p l e R s m args below meth c nL D L g A Fn pc lv rest M X := fun r hr ls H locs hl hP hS => lv_bipush hX.1.1 hX.1.2.1 hdg hv (k r hr ls H locs hl hP hS)
theorem xm_sipush (hX : xm_X p m meth c cc nL s args Ts own ret D L g A) {n : Int} {v : Int32} (hv : (Int16.ofInt n).toInt32 = v) (hdg : decode cc pc = .ok (.sipush n, 3)) (k : xm_J p l e R s m args below meth c nL D L g A Fn (pc + 3) lv (.int v :: rest) M X) : xm_J p l e R s m args below meth c nL D L g A Fn pc lv rest M X := fun r hr ls H locs hl hP hS => lv_sipush hX.1.1 hX.1.2.1 hdg hv (k r hr ls H locs hl hP hS)
theorem xm_lconst (hX : xm_X p m meth c cc nL s args Ts own ret D L g A) {n : Fin 2} {v : Int64} (hv : Int64.ofNat (n : Nat) = v) (hdg : decode cc pc = .ok (.lconst n, 1)) (k : xm_J p l e R s m args below meth c nL D L g A Fn (pc + 1) lv (.long v :: rest) M X) : xm_J p l e R s m args below meth c nL D L g A Fn pc lv rest M X := fun r hr ls H locs hl hP hS => lv_lconst hX.1.1 hX.1.2.1 hdg hv (k r hr ls H locs hl hP hS)
theorem xm_iload_n (hX : xm_X p m meth c cc nL s args Ts own ret D L g A) {k9 : Fin 4} {i : Nat} {x : Int32} (j : Nat) (hdg : decode cc pc = .ok (.iload_n k9, 1)) (hi : (k9 : Nat) = i) (hj : lv[j]? = some (i, .int x)) (k : xm_J p l e R s m args below meth c nL D L g A Fn (pc + 1) lv (.int x :: rest) M X) : xm_J p l e R s m args below meth c nL D L g A Fn pc lv rest M X := fun r hr ls H locs hl hP hS => lv_iload_n hX.1.1 hX.1.2.1 hdg hi (lv_at hl j hj) (k r hr ls H locs hl hP hS)
theorem xm_iload (hX : xm_X p m meth c cc nL s args Ts own ret D L g A) {i : Nat} {x : Int32} (j : Nat) (hdg : decode cc pc = .ok (.iload i, 2)) (hj : lv[j]? = some (i, .int x)) (k : xm_J p l e R s m args below meth c nL D L g A Fn (pc + 2) lv (.int x :: rest) M X) : xm_J p l e R s m args below meth c nL D L g A Fn pc lv rest M X := fun r hr ls H locs hl hP hS => lv_iload hX.1.1 hX.1.2.1 hdg (lv_at hl j hj) (k r hr ls H locs hl hP hS)
theorem xm_istore_n (hX : xm_X p m meth c cc nL s args Ts own ret D L g A) {k9 : Fin 4} {i : Nat} {x : Int32} (hdg : decode cc pc = .ok (.istore_n k9, 1)) (hi : (k9 : Nat) = i) (hn : i < nL) (hv : (i, Value.int x) :: lv.filter (fun q => !(q.1 == i) && !(q.1 + 1 == i && q.2.category == 2)) = lv') (k : xm_J p l e R s m args below meth c nL D L g A Fn (pc + 1) lv' rest M X) : xm_J p l e R s m args below meth c nL D L g A Fn pc lv (.int x :: rest) M X := fun r hr ls H locs hl hP hS => lv_istore_n hX.1.1 hX.1.2.1 hdg hi hl hn hv (fun ls1 hl1 => k r hr ls1 H locs hl1 hP hS)
theorem xm_istore (hX : xm_X p m meth c cc nL s args Ts own ret D L g A) {i : Nat} {x : Int32} (hdg : decode cc pc = .ok (.istore i, 2)) (hn : i < nL) (hv : (i, Value.int x) :: lv.filter (fun q => !(q.1 == i) && !(q.1 + 1 == i && q.2.category == 2)) = lv') (k : xm_J p l e R s m args below meth c nL D L g A Fn (pc + 2) lv' rest M X) : xm_J p l e R s m args below meth c nL D L g A Fn pc lv (.int x :: rest) M X := fun r hr ls H locs hl hP hS => lv_istore hX.1.1 hX.1.2.1 hdg hl hn hv (fun ls1 hl1 => k r hr ls1 H locs hl1 hP hS)
theorem xm_lload_n (hX : xm_X p m meth c cc nL s args Ts own ret D L g A) {k9 : Fin 4} {i : Nat} {x : Int64} (j : Nat) (hdg : decode cc pc = .ok (.lload_n k9, 1)) (hi : (k9 : Nat) = i) (hj : lv[j]? = some (i, .long x)) (k : xm_J p l e R s m args below meth c nL D L g A Fn (pc + 1) lv (.long x :: rest) M X) : xm_J p l e R s m args below meth c nL D L g A Fn pc lv rest M X := fun r hr ls H locs hl hP hS => lv_lload_n hX.1.1 hX.1.2.1 hdg hi (lv_at hl j hj) (k r hr ls H locs hl hP hS)
theorem xm_lload (hX : xm_X p m meth c cc nL s args Ts own ret D L g A) {i : Nat} {x : Int64} (j : Nat) (hdg : decode cc pc = .ok (.lload i, 2)) (hj : lv[j]? = some (i, .long x)) (k : xm_J p l e R s m args below meth c nL D L g A Fn (pc + 2) lv (.long x :: rest) M X) : xm_J p l e R s m args below meth c nL D L g A Fn pc lv rest M X := fun r hr ls H locs hl hP hS => lv_lload hX.1.1 hX.1.2.1 hdg (lv_at hl j hj) (k r hr ls H locs hl hP hS)
theorem xm_lstore_n (hX : xm_X p m meth c cc nL s args Ts own ret D L g A) {k9 : Fin 4} {i : Nat} {x : Int64} (hdg : decode cc pc = .ok (.lstore_n k9, 1)) (hi : (k9 : Nat) = i) (hn : i + 1 < nL) (hv : (i, Value.long x) :: lv.filter (fun q => !(q.1 == i) && (!(q.1 == i + 1) && !(q.1 + 1 == i && q.2.category == 2))) = lv') (k : xm_J p l e R s m args below meth c nL D L g A Fn (pc + 1) lv' rest M X) : xm_J p l e R s m args below meth c nL D L g A Fn pc lv (.long x :: rest) M X := fun r hr ls H locs hl hP hS => lv_lstore_n hX.1.1 hX.1.2.1 hdg hi hl hn hv (fun ls1 hl1 => k r hr ls1 H locs hl1 hP hS)
theorem xm_lstore (hX : xm_X p m meth c cc nL s args Ts own ret D L g A) {i : Nat} {x : Int64} (hdg : decode cc pc = .ok (.lstore i, 2)) (hn : i + 1 < nL) (hv : (i, Value.long x) :: lv.filter (fun q => !(q.1 == i) && (!(q.1 == i + 1) && !(q.1 + 1 == i && q.2.category == 2))) = lv') (k : xm_J p l e R s m args below meth c nL D L g A Fn (pc + 2) lv' rest M X) : xm_J p l e R s m args below meth c nL D L g A Fn pc lv (.long x :: rest) M X := fun r hr ls H locs hl hP hS => lv_lstore hX.1.1 hX.1.2.1 hdg hl hn hv (fun ls1 hl1 => k r hr ls1 H locs hl1 hP hS)
theorem xm_aload_n (hX : xm_X p m meth c cc nL s args Ts own ret D L g A) {k9 : Fin 4} {i : Nat} {x : Nat} (j : Nat) (hdg : decode cc pc = .ok (.aload_n k9, 1)) (hi : (k9 : Nat) = i) (hj : lv[j]? = some (i, .ref x)) (k : xm_J p l e R s m args below meth c nL D L g A Fn (pc + 1) lv (.ref x :: rest) M X) : xm_J p l e R s m args below meth c nL D L g A Fn pc lv rest M X := fun r hr ls H locs hl hP hS => lv_aload_n hX.1.1 hX.1.2.1 hdg hi (lv_at hl j hj) (k r hr ls H locs hl hP hS)
theorem xm_aload (hX : xm_X p m meth c cc nL s args Ts own ret D L g A) {i : Nat} {x : Nat} (j : Nat) (hdg : decode cc pc = .ok (.aload i, 2)) (hj : lv[j]? = some (i, .ref x)) (k : xm_J p l e R s m args below meth c nL D L g A Fn (pc + 2) lv (.ref x :: rest) M X) : xm_J p l e R s m args below meth c nL D L g A Fn pc lv rest M X := fun r hr ls H locs hl hP hS => lv_aload hX.1.1 hX.1.2.1 hdg (lv_at hl j hj) (k r hr ls H locs hl hP hS)
theorem xm_astore_n (hX : xm_X p m meth c cc nL s args Ts own ret D L g A) {k9 : Fin 4} {i : Nat} {x : Nat} (hdg : decode cc pc = .ok (.astore_n k9, 1)) (hi : (k9 : Nat) = i) (hn : i < nL) (hv : (i, Value.ref x) :: lv.filter (fun q => !(q.1 == i) && !(q.1 + 1 == i && q.2.category == 2)) = lv') (k : xm_J p l e R s m args below meth c nL D L g A Fn (pc + 1) lv' rest M X) : xm_J p l e R s m args below meth c nL D L g A Fn pc lv (.ref x :: rest) M X := fun r hr ls H locs hl hP hS => lv_astore_n hX.1.1 hX.1.2.1 hdg hi hl hn hv (fun ls1 hl1 => k r hr ls1 H locs hl1 hP hS)
theorem xm_astore (hX : xm_X p m meth c cc nL s args Ts own ret D L g A) {i : Nat} {x : Nat} (hdg : decode cc pc = .ok (.astore i, 2)) (hn : i < nL) (hv : (i, Value.ref x) :: lv.filter (fun q => !(q.1 == i) && !(q.1 + 1 == i && q.2.category == 2)) = lv') (k : xm_J p l e R s m args below meth c nL D L g A Fn (pc + 2) lv' rest M X) : xm_J p l e R s m args below meth c nL D L g A Fn pc lv (.ref x :: rest) M X := fun r hr ls H locs hl hP hS => lv_astore hX.1.1 hX.1.2.1 hdg hl hn hv (fun ls1 hl1 => k r hr ls1 H locs hl1 hP hS)
theorem xm_iinc (hX : xm_X p m meth c cc nL s args Ts own ret D L g A) {i : Nat} {n : Int} {x : Int32} {f : Int32 → Option ρ} {lv2 : Int32 → List (Nat × Value)} (j : Nat) (hdg : decode cc pc = .ok (.iinc i n, 3)) (hj : lv[j]? = some (i, .int x)) (hn : i < nL) (hv : ∀ v, (i, Value.int v) :: lv.filter (fun q => !(q.1 == i) && !(q.1 + 1 == i && q.2.category == 2)) = lv2 v) (k : ∀ v : Int32, xm_J p l e R s m args below meth c nL D L g A Fn (pc + 3) (lv2 v) rest M (f v)) : xm_J p l e R s m args below meth c nL D L g A Fn pc lv rest M (xm_lt (x + Int32.ofInt n) f) := fun r hr ls H locs hl hP hS => lv_iinc hX.1.1 hX.1.2.1 hdg hl hj rfl hn (hv _) (fun ls1 hl1 => k _ r hr ls1 H locs hl1 hP hS)
theorem xm_iadd (hX : xm_X p m meth c cc nL s args Ts own ret D L g A) {x y : Int32} (hdg : decode cc pc = .ok (.iadd, 1)) (k : xm_J p l e R s m args below meth c nL D L g A Fn (pc + 1) lv (.int (x + y) :: rest) M X) : xm_J p l e R s m args below meth c nL D L g A Fn pc lv (.int y :: .int x :: rest) M X := fun r hr ls H locs hl hP hS => lv_iadd hX.1.1 hX.1.2.1 hdg (k r hr ls H locs hl hP hS)
theorem xm_isub (hX : xm_X p m meth c cc nL s args Ts own ret D L g A) {x y : Int32} (hdg : decode cc pc = .ok (.isub, 1)) (k : xm_J p l e R s m args below meth c nL D L g A Fn (pc + 1) lv (.int (x - y) :: rest) M X) : xm_J p l e R s m args below meth c nL D L g A Fn pc lv (.int y :: .int x :: rest) M X := fun r hr ls H locs hl hP hS => lv_isub hX.1.1 hX.1.2.1 hdg (k r hr ls H locs hl hP hS)
theorem xm_imul (hX : xm_X p m meth c cc nL s args Ts own ret D L g A) {x y : Int32} (hdg : decode cc pc = .ok (.imul, 1)) (k : xm_J p l e R s m args below meth c nL D L g A Fn (pc + 1) lv (.int (x * y) :: rest) M X) : xm_J p l e R s m args below meth c nL D L g A Fn pc lv (.int y :: .int x :: rest) M X := fun r hr ls H locs hl hP hS => lv_imul hX.1.1 hX.1.2.1 hdg (k r hr ls H locs hl hP hS)
theorem xm_iand (hX : xm_X p m meth c cc nL s args Ts own ret D L g A) {x y : Int32} (hdg : decode cc pc = .ok (.iand, 1)) (k : xm_J p l e R s m args below meth c nL D L g A Fn (pc + 1) lv (.int (x &&& y) :: rest) M X) : xm_J p l e R s m args below meth c nL D L g A Fn pc lv (.int y :: .int x :: rest) M X := fun r hr ls H locs hl hP hS => lv_iand hX.1.1 hX.1.2.1 hdg (k r hr ls H locs hl hP hS)
theorem xm_ior (hX : xm_X p m meth c cc nL s args Ts own ret D L g A) {x y : Int32} (hdg : decode cc pc = .ok (.ior, 1)) (k : xm_J p l e R s m args below meth c nL D L g A Fn (pc + 1) lv (.int (x ||| y) :: rest) M X) : xm_J p l e R s m args below meth c nL D L g A Fn pc lv (.int y :: .int x :: rest) M X := fun r hr ls H locs hl hP hS => lv_ior hX.1.1 hX.1.2.1 hdg (k r hr ls H locs hl hP hS)
theorem xm_ixor (hX : xm_X p m meth c cc nL s args Ts own ret D L g A) {x y : Int32} (hdg : decode cc pc = .ok (.ixor, 1)) (k : xm_J p l e R s m args below meth c nL D L g A Fn (pc + 1) lv (.int (x ^^^ y) :: rest) M X) : xm_J p l e R s m args below meth c nL D L g A Fn pc lv (.int y :: .int x :: rest) M X := fun r hr ls H locs hl hP hS => lv_ixor hX.1.1 hX.1.2.1 hdg (k r hr ls H locs hl hP hS)
theorem xm_ladd (hX : xm_X p m meth c cc nL s args Ts own ret D L g A) {x y : Int64} (hdg : decode cc pc = .ok (.ladd, 1)) (k : xm_J p l e R s m args below meth c nL D L g A Fn (pc + 1) lv (.long (x + y) :: rest) M X) : xm_J p l e R s m args below meth c nL D L g A Fn pc lv (.long y :: .long x :: rest) M X := fun r hr ls H locs hl hP hS => lv_ladd hX.1.1 hX.1.2.1 hdg (k r hr ls H locs hl hP hS)
theorem xm_lsub (hX : xm_X p m meth c cc nL s args Ts own ret D L g A) {x y : Int64} (hdg : decode cc pc = .ok (.lsub, 1)) (k : xm_J p l e R s m args below meth c nL D L g A Fn (pc + 1) lv (.long (x - y) :: rest) M X) : xm_J p l e R s m args below meth c nL D L g A Fn pc lv (.long y :: .long x :: rest) M X := fun r hr ls H locs hl hP hS => lv_lsub hX.1.1 hX.1.2.1 hdg (k r hr ls H locs hl hP hS)
theorem xm_lmul (hX : xm_X p m meth c cc nL s args Ts own ret D L g A) {x y : Int64} (hdg : decode cc pc = .ok (.lmul, 1)) (k : xm_J p l e R s m args below meth c nL D L g A Fn (pc + 1) lv (.long (x * y) :: rest) M X) : xm_J p l e R s m args below meth c nL D L g A Fn pc lv (.long y :: .long x :: rest) M X := fun r hr ls H locs hl hP hS => lv_lmul hX.1.1 hX.1.2.1 hdg (k r hr ls H locs hl hP hS)
theorem xm_land (hX : xm_X p m meth c cc nL s args Ts own ret D L g A) {x y : Int64} (hdg : decode cc pc = .ok (.land, 1)) (k : xm_J p l e R s m args below meth c nL D L g A Fn (pc + 1) lv (.long (x &&& y) :: rest) M X) : xm_J p l e R s m args below meth c nL D L g A Fn pc lv (.long y :: .long x :: rest) M X := fun r hr ls H locs hl hP hS => lv_land hX.1.1 hX.1.2.1 hdg (k r hr ls H locs hl hP hS)
theorem xm_lor (hX : xm_X p m meth c cc nL s args Ts own ret D L g A) {x y : Int64} (hdg : decode cc pc = .ok (.lor, 1)) (k : xm_J p l e R s m args below meth c nL D L g A Fn (pc + 1) lv (.long (x ||| y) :: rest) M X) : xm_J p l e R s m args below meth c nL D L g A Fn pc lv (.long y :: .long x :: rest) M X := fun r hr ls H locs hl hP hS => lv_lor hX.1.1 hX.1.2.1 hdg (k r hr ls H locs hl hP hS)
theorem xm_lxor (hX : xm_X p m meth c cc nL s args Ts own ret D L g A) {x y : Int64} (hdg : decode cc pc = .ok (.lxor, 1)) (k : xm_J p l e R s m args below meth c nL D L g A Fn (pc + 1) lv (.long (x ^^^ y) :: rest) M X) : xm_J p l e R s m args below meth c nL D L g A Fn pc lv (.long y :: .long x :: rest) M X := fun r hr ls H locs hl hP hS => lv_lxor hX.1.1 hX.1.2.1 hdg (k r hr ls H locs hl hP hS)
theorem xm_ineg (hX : xm_X p m meth c cc nL s args Ts own ret D L g A) {x : Int32} (hdg : decode cc pc = .ok (.ineg, 1)) (k : xm_J p l e R s m args below meth c nL D L g A Fn (pc + 1) lv (.int (-x) :: rest) M X) : xm_J p l e R s m args below meth c nL D L g A Fn pc lv (.int x :: rest) M X := fun r hr ls H locs hl hP hS => lv_ineg hX.1.1 hX.1.2.1 hdg (k r hr ls H locs hl hP hS)
theorem xm_lneg (hX : xm_X p m meth c cc nL s args Ts own ret D L g A) {x : Int64} (hdg : decode cc pc = .ok (.lneg, 1)) (k : xm_J p l e R s m args below meth c nL D L g A Fn (pc + 1) lv (.long (-x) :: rest) M X) : xm_J p l e R s m args below meth c nL D L g A Fn pc lv (.long x :: rest) M X := fun r hr ls H locs hl hP hS => lv_lneg hX.1.1 hX.1.2.1 hdg (k r hr ls H locs hl hP hS)
theorem xm_i2l (hX : xm_X p m meth c cc nL s args Ts own ret D L g A) {x : Int32} (hdg : decode cc pc = .ok (.i2l, 1)) (k : xm_J p l e R s m args below meth c nL D L g A Fn (pc + 1) lv (.long x.toInt64 :: rest) M X) : xm_J p l e R s m args below meth c nL D L g A Fn pc lv (.int x :: rest) M X := fun r hr ls H locs hl hP hS => lv_i2l hX.1.1 hX.1.2.1 hdg rfl (k r hr ls H locs hl hP hS)
theorem xm_l2i (hX : xm_X p m meth c cc nL s args Ts own ret D L g A) {x : Int64} (hdg : decode cc pc = .ok (.l2i, 1)) (k : xm_J p l e R s m args below meth c nL D L g A Fn (pc + 1) lv (.int x.toInt32 :: rest) M X) : xm_J p l e R s m args below meth c nL D L g A Fn pc lv (.long x :: rest) M X := fun r hr ls H locs hl hP hS => lv_l2i hX.1.1 hX.1.2.1 hdg rfl (k r hr ls H locs hl hP hS)
theorem xm_lushr (hX : xm_X p m meth c cc nL s args Ts own ret D L g A) {x : Int64} {y : Int32} (hdg : decode cc pc = .ok (.lushr, 1)) (k : xm_J p l e R s m args below meth c nL D L g A Fn (pc + 1) lv (.long (x.toUInt64 >>> (y.toInt64.toUInt64 &&& Int64.toUInt64 63)).toInt64 :: rest) M X) : xm_J p l e R s m args below meth c nL D L g A Fn pc lv (.int y :: .long x :: rest) M X := fun r hr ls H locs hl hP hS => lv_lushr hX.1.1 hX.1.2.1 hdg rfl (k r hr ls H locs hl hP hS)
theorem xm_lshl (hX : xm_X p m meth c cc nL s args Ts own ret D L g A) {x : Int64} {y : Int32} (hdg : decode cc pc = .ok (.lshl, 1)) (k : xm_J p l e R s m args below meth c nL D L g A Fn (pc + 1) lv (.long (x <<< (y.toInt64 &&& 63)) :: rest) M X) : xm_J p l e R s m args below meth c nL D L g A Fn pc lv (.int y :: .long x :: rest) M X := fun r hr ls H locs hl hP hS => lv_lshl hX.1.1 hX.1.2.1 hdg rfl (k r hr ls H locs hl hP hS)
theorem xm_lshr (hX : xm_X p m meth c cc nL s args Ts own ret D L g A) {x : Int64} {y : Int32} (hdg : decode cc pc = .ok (.lshr, 1)) (k : xm_J p l e R s m args below meth c nL D L g A Fn (pc + 1) lv (.long (x >>> (y.toInt64 &&& 63)) :: rest) M X) : xm_J p l e R s m args below meth c nL D L g A Fn pc lv (.int y :: .long x :: rest) M X := fun r hr ls H locs hl hP hS => lv_lshr hX.1.1 hX.1.2.1 hdg rfl (k r hr ls H locs hl hP hS)
theorem xm_ishr (hX : xm_X p m meth c cc nL s args Ts own ret D L g A) {x y : Int32} (hdg : decode cc pc = .ok (.ishr, 1)) (k : xm_J p l e R s m args below meth c nL D L g A Fn (pc + 1) lv (.int (x >>> (y &&& 31)) :: rest) M X) : xm_J p l e R s m args below meth c nL D L g A Fn pc lv (.int y :: .int x :: rest) M X := fun r hr ls H locs hl hP hS => lv_ishr hX.1.1 hX.1.2.1 hdg (k r hr ls H locs hl hP hS)
theorem xm_lcmp (hX : xm_X p m meth c cc nL s args Ts own ret D L g A) {x y : Int64} (hdg : decode cc pc = .ok (.lcmp, 1)) (k : xm_J p l e R s m args below meth c nL D L g A Fn (pc + 1) lv (.int (lg_cmp x y) :: rest) M X) : xm_J p l e R s m args below meth c nL D L g A Fn pc lv (.long y :: .long x :: rest) M X := fun r hr ls H locs hl hP hS => W.lcmp hX.1.1 hX.1.2.1 hdg (k r hr ls H locs hl hP hS)
theorem xm_dup (hX : xm_X p m meth c cc nL s args Ts own ret D L g A) {v : Value} (hv : v.category = 1) (hdg : decode cc pc = .ok (.dup, 1)) (k : xm_J p l e R s m args below meth c nL D L g A Fn (pc + 1) lv (v :: v :: rest) M X) : xm_J p l e R s m args below meth c nL D L g A Fn pc lv (v :: rest) M X := fun r hr ls H locs hl hP hS => lv_dup hX.1.1 hX.1.2.1 hdg hv (k r hr ls H locs hl hP hS)
theorem xm_pop (hX : xm_X p m meth c cc nL s args Ts own ret D L g A) {v : Value} (hv : v.category = 1) (hdg : decode cc pc = .ok (.pop, 1)) (k : xm_J p l e R s m args below meth c nL D L g A Fn (pc + 1) lv rest M X) : xm_J p l e R s m args below meth c nL D L g A Fn pc lv (v :: rest) M X := fun r hr ls H locs hl hP hS => lv_pop hX.1.1 hX.1.2.1 hdg hv (k r hr ls H locs hl hP hS)
theorem xm_dup2_11 (hX : xm_X p m meth c cc nL s args Ts own ret D L g A) {v u : Value} (hv : v.category = 1) (hu : u.category = 1) (hdg : decode cc pc = .ok (.dup2, 1)) (k : xm_J p l e R s m args below meth c nL D L g A Fn (pc + 1) lv (v :: u :: v :: u :: rest) M X) : xm_J p l e R s m args below meth c nL D L g A Fn pc lv (v :: u :: rest) M X := fun r hr ls H locs hl hP hS => lv_dup2_11 hX.1.1 hX.1.2.1 hdg hv hu (k r hr ls H locs hl hP hS)
theorem xm_dup2_2 (hX : xm_X p m meth c cc nL s args Ts own ret D L g A) {v : Value} (hv : v.category = 2) (hdg : decode cc pc = .ok (.dup2, 1)) (k : xm_J p l e R s m args below meth c nL D L g A Fn (pc + 1) lv (v :: v :: rest) M X) : xm_J p l e R s m args below meth c nL D L g A Fn pc lv (v :: rest) M X := fun r hr ls H locs hl hP hS => lv_dup2_2 hX.1.1 hX.1.2.1 hdg hv (k r hr ls H locs hl hP hS)
theorem xm_pop2_2 (hX : xm_X p m meth c cc nL s args Ts own ret D L g A) {v : Value} (hv : v.category = 2) (hdg : decode cc pc = .ok (.pop2, 1)) (k : xm_J p l e R s m args below meth c nL D L g A Fn (pc + 1) lv rest M X) : xm_J p l e R s m args below meth c nL D L g A Fn pc lv (v :: rest) M X := fun r hr ls H locs hl hP hS => lv_pop2_2 hX.1.1 hX.1.2.1 hdg hv (k r hr ls H locs hl hP hS)
theorem xm_idiv (hX : xm_X p m meth c cc nL s args Ts own ret D L g A) {x y : Int32} (hdg : decode cc pc = .ok (.idiv, 1)) (k : xm_J p l e R s m args below meth c nL D L g A Fn (pc + 1) lv (.int (x / y) :: rest) M X) : xm_J p l e R s m args below meth c nL D L g A Fn pc lv (.int y :: .int x :: rest) M (if y = 0 then none else X) := by
  by_cases h : y = 0
  · rw [if_pos h]; exact xm_none
  · rw [if_neg h]; exact fun r hr ls H locs hl hP hS => lv_idiv hX.1.1 hX.1.2.1 hdg h (k r hr ls H locs hl hP hS)
theorem xm_irem (hX : xm_X p m meth c cc nL s args Ts own ret D L g A) {x y : Int32} (hdg : decode cc pc = .ok (.irem, 1)) (k : xm_J p l e R s m args below meth c nL D L g A Fn (pc + 1) lv (.int (x - x / y * y) :: rest) M X) : xm_J p l e R s m args below meth c nL D L g A Fn pc lv (.int y :: .int x :: rest) M (if y = 0 then none else X) := by
  by_cases h : y = 0
  · rw [if_pos h]; exact xm_none
  · rw [if_neg h]; exact fun r hr ls H locs hl hP hS => lv_irem hX.1.1 hX.1.2.1 hdg h (k r hr ls H locs hl hP hS)
theorem xm_ldiv (hX : xm_X p m meth c cc nL s args Ts own ret D L g A) {x y : Int64} (hdg : decode cc pc = .ok (.ldiv, 1)) (k : xm_J p l e R s m args below meth c nL D L g A Fn (pc + 1) lv (.long (x / y) :: rest) M X) : xm_J p l e R s m args below meth c nL D L g A Fn pc lv (.long y :: .long x :: rest) M (if y = 0 then none else X) := by
  by_cases h : y = 0
  · rw [if_pos h]; exact xm_none
  · rw [if_neg h]; exact fun r hr ls H locs hl hP hS => lv_ldiv hX.1.1 hX.1.2.1 hdg h (k r hr ls H locs hl hP hS)
theorem xm_lrem (hX : xm_X p m meth c cc nL s args Ts own ret D L g A) {x y : Int64} (hdg : decode cc pc = .ok (.lrem, 1)) (k : xm_J p l e R s m args below meth c nL D L g A Fn (pc + 1) lv (.long (x - x / y * y) :: rest) M X) : xm_J p l e R s m args below meth c nL D L g A Fn pc lv (.long y :: .long x :: rest) M (if y = 0 then none else X) := by
  by_cases h : y = 0
  · rw [if_pos h]; exact xm_none
  · rw [if_neg h]; exact fun r hr ls H locs hl hP hS => lv_lrem hX.1.1 hX.1.2.1 hdg h (k r hr ls H locs hl hP hS)
theorem xm_idivL (hX : xm_X p m meth c cc nL s args Ts own ret D L g A) {x y : Int32} (h : ¬ y = 0) (hdg : decode cc pc = .ok (.idiv, 1)) (k : xm_J p l e R s m args below meth c nL D L g A Fn (pc + 1) lv (.int (x / y) :: rest) M X) : xm_J p l e R s m args below meth c nL D L g A Fn pc lv (.int y :: .int x :: rest) M X := fun r hr ls H locs hl hP hS => lv_idiv hX.1.1 hX.1.2.1 hdg h (k r hr ls H locs hl hP hS)
theorem xm_iremL (hX : xm_X p m meth c cc nL s args Ts own ret D L g A) {x y : Int32} (h : ¬ y = 0) (hdg : decode cc pc = .ok (.irem, 1)) (k : xm_J p l e R s m args below meth c nL D L g A Fn (pc + 1) lv (.int (x - x / y * y) :: rest) M X) : xm_J p l e R s m args below meth c nL D L g A Fn pc lv (.int y :: .int x :: rest) M X := fun r hr ls H locs hl hP hS => lv_irem hX.1.1 hX.1.2.1 hdg h (k r hr ls H locs hl hP hS)
theorem xm_ldivL (hX : xm_X p m meth c cc nL s args Ts own ret D L g A) {x y : Int64} (h : ¬ y = 0) (hdg : decode cc pc = .ok (.ldiv, 1)) (k : xm_J p l e R s m args below meth c nL D L g A Fn (pc + 1) lv (.long (x / y) :: rest) M X) : xm_J p l e R s m args below meth c nL D L g A Fn pc lv (.long y :: .long x :: rest) M X := fun r hr ls H locs hl hP hS => lv_ldiv hX.1.1 hX.1.2.1 hdg h (k r hr ls H locs hl hP hS)
theorem xm_lremL (hX : xm_X p m meth c cc nL s args Ts own ret D L g A) {x y : Int64} (h : ¬ y = 0) (hdg : decode cc pc = .ok (.lrem, 1)) (k : xm_J p l e R s m args below meth c nL D L g A Fn (pc + 1) lv (.long (x - x / y * y) :: rest) M X) : xm_J p l e R s m args below meth c nL D L g A Fn pc lv (.long y :: .long x :: rest) M X := fun r hr ls H locs hl hP hS => lv_lrem hX.1.1 hX.1.2.1 hdg h (k r hr ls H locs hl hP hS)
theorem xm_goto (hX : xm_X p m meth c cc nL s args Ts own ret D L g A) {off : Int} (hdg : decode cc pc = .ok (.goto off, 3)) (ht : (pc : Int) + off = (tgt : Int)) (k : xm_J p l e R s m args below meth c nL D L g A Fn tgt lv rest M X) : xm_J p l e R s m args below meth c nL D L g A Fn pc lv rest M X := fun r hr ls H locs hl hP hS => lv_goto hX.1.1 hX.1.2.1 hdg ht (k r hr ls H locs hl hP hS)
theorem xm_if_eq (hX : xm_X p m meth c cc nL s args Ts own ret D L g A) {x : Int32} {off : Int} (hdg : decode cc pc = .ok (.ifCond .eq off, 3)) (ht : (pc : Int) + off = (tgt : Int)) (kt : xm_J p l e R s m args below meth c nL D L g A Fn tgt lv rest M X) (kf : xm_J p l e R s m args below meth c nL D L g A Fn (pc + 3) lv rest M Y) : xm_J p l e R s m args below meth c nL D L g A Fn pc lv (.int x :: rest) M (if x = 0 then X else Y) := fun r hr ls H locs hl hP hS => lv_if_eq hX.1.1 hX.1.2.1 hdg ht (fun h => kt r (by first | rw [if_pos h] at hr; exact hr | rw [if_neg h] at hr; exact hr) ls H locs hl hP hS) (fun h => kf r (by first | rw [if_neg h] at hr; exact hr | rw [if_pos (Classical.not_not.mp h)] at hr; exact hr) ls H locs hl hP hS)
theorem xm_if_ne (hX : xm_X p m meth c cc nL s args Ts own ret D L g A) {x : Int32} {off : Int} (hdg : decode cc pc = .ok (.ifCond .ne off, 3)) (ht : (pc : Int) + off = (tgt : Int)) (kt : xm_J p l e R s m args below meth c nL D L g A Fn tgt lv rest M X) (kf : xm_J p l e R s m args below meth c nL D L g A Fn (pc + 3) lv rest M Y) : xm_J p l e R s m args below meth c nL D L g A Fn pc lv (.int x :: rest) M (if x = 0 then Y else X) := fun r hr ls H locs hl hP hS => lv_if_ne hX.1.1 hX.1.2.1 hdg ht (fun h => kt r (by rw [if_neg h] at hr; exact hr) ls H locs hl hP hS) (fun h => kf r (by rw [if_pos h] at hr; exact hr) ls H locs hl hP hS)
theorem xm_if_lt (hX : xm_X p m meth c cc nL s args Ts own ret D L g A) {x : Int32} {off : Int} (hdg : decode cc pc = .ok (.ifCond .lt off, 3)) (ht : (pc : Int) + off = (tgt : Int)) (kt : xm_J p l e R s m args below meth c nL D L g A Fn tgt lv rest M X) (kf : xm_J p l e R s m args below meth c nL D L g A Fn (pc + 3) lv rest M Y) : xm_J p l e R s m args below meth c nL D L g A Fn pc lv (.int x :: rest) M (if x < 0 then X else Y) := fun r hr ls H locs hl hP hS => lv_if_lt hX.1.1 hX.1.2.1 hdg ht (fun h => kt r (by first | rw [if_pos h] at hr; exact hr | rw [if_neg h] at hr; exact hr) ls H locs hl hP hS) (fun h => kf r (by first | rw [if_neg h] at hr; exact hr | rw [if_pos (Classical.not_not.mp h)] at hr; exact hr) ls H locs hl hP hS)
theorem xm_if_ge (hX : xm_X p m meth c cc nL s args Ts own ret D L g A) {x : Int32} {off : Int} (hdg : decode cc pc = .ok (.ifCond .ge off, 3)) (ht : (pc : Int) + off = (tgt : Int)) (kt : xm_J p l e R s m args below meth c nL D L g A Fn tgt lv rest M X) (kf : xm_J p l e R s m args below meth c nL D L g A Fn (pc + 3) lv rest M Y) : xm_J p l e R s m args below meth c nL D L g A Fn pc lv (.int x :: rest) M (if 0 ≤ x then X else Y) := fun r hr ls H locs hl hP hS => lv_if_ge hX.1.1 hX.1.2.1 hdg ht (fun h => kt r (by first | rw [if_pos h] at hr; exact hr | rw [if_neg h] at hr; exact hr) ls H locs hl hP hS) (fun h => kf r (by first | rw [if_neg h] at hr; exact hr | rw [if_pos (Classical.not_not.mp h)] at hr; exact hr) ls H locs hl hP hS)
theorem xm_if_gt (hX : xm_X p m meth c cc nL s args Ts own ret D L g A) {x : Int32} {off : Int} (hdg : decode cc pc = .ok (.ifCond .gt off, 3)) (ht : (pc : Int) + off = (tgt : Int)) (kt : xm_J p l e R s m args below meth c nL D L g A Fn tgt lv rest M X) (kf : xm_J p l e R s m args below meth c nL D L g A Fn (pc + 3) lv rest M Y) : xm_J p l e R s m args below meth c nL D L g A Fn pc lv (.int x :: rest) M (if 0 < x then X else Y) := fun r hr ls H locs hl hP hS => lv_if_gt hX.1.1 hX.1.2.1 hdg ht (fun h => kt r (by first | rw [if_pos h] at hr; exact hr | rw [if_neg h] at hr; exact hr) ls H locs hl hP hS) (fun h => kf r (by first | rw [if_neg h] at hr; exact hr | rw [if_pos (Classical.not_not.mp h)] at hr; exact hr) ls H locs hl hP hS)
theorem xm_if_le (hX : xm_X p m meth c cc nL s args Ts own ret D L g A) {x : Int32} {off : Int} (hdg : decode cc pc = .ok (.ifCond .le off, 3)) (ht : (pc : Int) + off = (tgt : Int)) (kt : xm_J p l e R s m args below meth c nL D L g A Fn tgt lv rest M X) (kf : xm_J p l e R s m args below meth c nL D L g A Fn (pc + 3) lv rest M Y) : xm_J p l e R s m args below meth c nL D L g A Fn pc lv (.int x :: rest) M (if x ≤ 0 then X else Y) := fun r hr ls H locs hl hP hS => lv_if_le hX.1.1 hX.1.2.1 hdg ht (fun h => kt r (by first | rw [if_pos h] at hr; exact hr | rw [if_neg h] at hr; exact hr) ls H locs hl hP hS) (fun h => kf r (by first | rw [if_neg h] at hr; exact hr | rw [if_pos (Classical.not_not.mp h)] at hr; exact hr) ls H locs hl hP hS)
theorem xm_icmp_eq (hX : xm_X p m meth c cc nL s args Ts own ret D L g A) {x y : Int32} {off : Int} (hdg : decode cc pc = .ok (.if_icmp .eq off, 3)) (ht : (pc : Int) + off = (tgt : Int)) (kt : xm_J p l e R s m args below meth c nL D L g A Fn tgt lv rest M X) (kf : xm_J p l e R s m args below meth c nL D L g A Fn (pc + 3) lv rest M Y) : xm_J p l e R s m args below meth c nL D L g A Fn pc lv (.int y :: .int x :: rest) M (if x = y then X else Y) := fun r hr ls H locs hl hP hS => lv_icmp_eq hX.1.1 hX.1.2.1 hdg ht (fun h => kt r (by first | rw [if_pos h] at hr; exact hr | rw [if_neg h] at hr; exact hr) ls H locs hl hP hS) (fun h => kf r (by first | rw [if_neg h] at hr; exact hr | rw [if_pos (Classical.not_not.mp h)] at hr; exact hr) ls H locs hl hP hS)
theorem xm_icmp_ne (hX : xm_X p m meth c cc nL s args Ts own ret D L g A) {x y : Int32} {off : Int} (hdg : decode cc pc = .ok (.if_icmp .ne off, 3)) (ht : (pc : Int) + off = (tgt : Int)) (kt : xm_J p l e R s m args below meth c nL D L g A Fn tgt lv rest M X) (kf : xm_J p l e R s m args below meth c nL D L g A Fn (pc + 3) lv rest M Y) : xm_J p l e R s m args below meth c nL D L g A Fn pc lv (.int y :: .int x :: rest) M (if x = y then Y else X) := fun r hr ls H locs hl hP hS => lv_icmp_ne hX.1.1 hX.1.2.1 hdg ht (fun h => kt r (by rw [if_neg h] at hr; exact hr) ls H locs hl hP hS) (fun h => kf r (by rw [if_pos h] at hr; exact hr) ls H locs hl hP hS)
theorem xm_icmp_lt (hX : xm_X p m meth c cc nL s args Ts own ret D L g A) {x y : Int32} {off : Int} (hdg : decode cc pc = .ok (.if_icmp .lt off, 3)) (ht : (pc : Int) + off = (tgt : Int)) (kt : xm_J p l e R s m args below meth c nL D L g A Fn tgt lv rest M X) (kf : xm_J p l e R s m args below meth c nL D L g A Fn (pc + 3) lv rest M Y) : xm_J p l e R s m args below meth c nL D L g A Fn pc lv (.int y :: .int x :: rest) M (if x < y then X else Y) := fun r hr ls H locs hl hP hS => lv_icmp_lt hX.1.1 hX.1.2.1 hdg ht (fun h => kt r (by first | rw [if_pos h] at hr; exact hr | rw [if_neg h] at hr; exact hr) ls H locs hl hP hS) (fun h => kf r (by first | rw [if_neg h] at hr; exact hr | rw [if_pos (Classical.not_not.mp h)] at hr; exact hr) ls H locs hl hP hS)
theorem xm_icmp_ge (hX : xm_X p m meth c cc nL s args Ts own ret D L g A) {x y : Int32} {off : Int} (hdg : decode cc pc = .ok (.if_icmp .ge off, 3)) (ht : (pc : Int) + off = (tgt : Int)) (kt : xm_J p l e R s m args below meth c nL D L g A Fn tgt lv rest M X) (kf : xm_J p l e R s m args below meth c nL D L g A Fn (pc + 3) lv rest M Y) : xm_J p l e R s m args below meth c nL D L g A Fn pc lv (.int y :: .int x :: rest) M (if y ≤ x then X else Y) := fun r hr ls H locs hl hP hS => lv_icmp_ge hX.1.1 hX.1.2.1 hdg ht (fun h => kt r (by first | rw [if_pos h] at hr; exact hr | rw [if_neg h] at hr; exact hr) ls H locs hl hP hS) (fun h => kf r (by first | rw [if_neg h] at hr; exact hr | rw [if_pos (Classical.not_not.mp h)] at hr; exact hr) ls H locs hl hP hS)
theorem xm_icmp_gt (hX : xm_X p m meth c cc nL s args Ts own ret D L g A) {x y : Int32} {off : Int} (hdg : decode cc pc = .ok (.if_icmp .gt off, 3)) (ht : (pc : Int) + off = (tgt : Int)) (kt : xm_J p l e R s m args below meth c nL D L g A Fn tgt lv rest M X) (kf : xm_J p l e R s m args below meth c nL D L g A Fn (pc + 3) lv rest M Y) : xm_J p l e R s m args below meth c nL D L g A Fn pc lv (.int y :: .int x :: rest) M (if y < x then X else Y) := fun r hr ls H locs hl hP hS => lv_icmp_gt hX.1.1 hX.1.2.1 hdg ht (fun h => kt r (by first | rw [if_pos h] at hr; exact hr | rw [if_neg h] at hr; exact hr) ls H locs hl hP hS) (fun h => kf r (by first | rw [if_neg h] at hr; exact hr | rw [if_pos (Classical.not_not.mp h)] at hr; exact hr) ls H locs hl hP hS)
theorem xm_icmp_le (hX : xm_X p m meth c cc nL s args Ts own ret D L g A) {x y : Int32} {off : Int} (hdg : decode cc pc = .ok (.if_icmp .le off, 3)) (ht : (pc : Int) + off = (tgt : Int)) (kt : xm_J p l e R s m args below meth c nL D L g A Fn tgt lv rest M X) (kf : xm_J p l e R s m args below meth c nL D L g A Fn (pc + 3) lv rest M Y) : xm_J p l e R s m args below meth c nL D L g A Fn pc lv (.int y :: .int x :: rest) M (if x ≤ y then X else Y) := fun r hr ls H locs hl hP hS => lv_icmp_le hX.1.1 hX.1.2.1 hdg ht (fun h => kt r (by first | rw [if_pos h] at hr; exact hr | rw [if_neg h] at hr; exact hr) ls H locs hl hP hS) (fun h => kf r (by first | rw [if_neg h] at hr; exact hr | rw [if_pos (Classical.not_not.mp h)] at hr; exact hr) ls H locs hl hP hS)
theorem xm_tsIn (hX : xm_X p m meth c cc nL s args Ts own ret D L g A) {dflt lo hi : Int} {offs : Array Int} {len : Nat} {x k9 : Int32} {off : Int} (hdg : decode cc pc = .ok (.tableswitch dflt lo hi offs, len)) (h : x = k9) (h1 : ¬ k9.toInt < lo) (h2 : ¬ hi < k9.toInt) (ho : offs[(k9.toInt - lo).toNat]? = some off) (ht : (pc : Int) + off = (tgt : Int)) (k : xm_J p l e R s m args below meth c nL D L g A Fn tgt lv rest M X) : xm_J p l e R s m args below meth c nL D L g A Fn pc lv (.int x :: rest) M X := by
  subst h
  exact fun r hr ls H locs hl hP hS => lv_tableIn hX.1.1 hX.1.2.1 hdg h1 h2 ho ht (k r hr ls H locs hl hP hS)
theorem xm_tsOut (hX : xm_X p m meth c cc nL s args Ts own ret D L g A) {dflt lo hi : Int} {offs : Array Int} {len : Nat} {x : Int32} (hdg : decode cc pc = .ok (.tableswitch dflt lo hi offs, len)) (h : x.toInt < lo ∨ hi < x.toInt) (ht : (pc : Int) + dflt = (tgt : Int)) (k : xm_J p l e R s m args below meth c nL D L g A Fn tgt lv rest M X) : xm_J p l e R s m args below meth c nL D L g A Fn pc lv (.int x :: rest) M X :=
  fun r hr ls H locs hl hP hS => lv_tableOut hX.1.1 hX.1.2.1 hdg h ht (k r hr ls H locs hl hP hS)
theorem xm_ldc (hX : xm_X p m meth c cc nL s args Ts own ret D L g A) {index : Nat} {v : Int32} (hw : Cond.constant own index v ∈ Ts) (hdg : decode cc pc = .ok (.ldc index, 2)) (k : xm_J p l e R s m args below meth c nL D L g A Fn (pc + 2) lv (.int v :: rest) M X) : xm_J p l e R s m args below meth c nL D L g A Fn pc lv rest M X :=
  fun r hr ls H locs hl hP hS => lv_ldc hX.1.1 hX.1.2.1 hX.1.2.2.2.1 (hX.1.2.2.2.2 _ hw) hdg (k r hr ls H locs hl hP hS)
theorem xm_ldcw (hX : xm_X p m meth c cc nL s args Ts own ret D L g A) {index : Nat} {v : Int32} (hw : Cond.constant own index v ∈ Ts) (hdg : decode cc pc = .ok (.ldc_w index, 3)) (k : xm_J p l e R s m args below meth c nL D L g A Fn (pc + 3) lv (.int v :: rest) M X) : xm_J p l e R s m args below meth c nL D L g A Fn pc lv rest M X :=
  fun r hr ls H locs hl hP hS => lv_ldcw hX.1.1 hX.1.2.1 hX.1.2.2.2.1 (hX.1.2.2.2.2 _ hw) hdg (k r hr ls H locs hl hP hS)
theorem xm_ldc2 (hX : xm_X p m meth c cc nL s args Ts own ret D L g A) {index : Nat} {v : Int64} (hw : Cond.constantLong own index v ∈ Ts) (hdg : decode cc pc = .ok (.ldc2_w index, 3)) (k : xm_J p l e R s m args below meth c nL D L g A Fn (pc + 3) lv (.long v :: rest) M X) : xm_J p l e R s m args below meth c nL D L g A Fn pc lv rest M X :=
  fun r hr ls H locs hl hP hS => lv_ldc2 hX.1.1 hX.1.2.1 hX.1.2.2.2.1 (hX.1.2.2.2.2 _ hw) hdg (k r hr ls H locs hl hP hS)
/-! the cells -/
theorem xm_fs_at {f : Nat → Int32} {h : Nat → Int64} {fs : List (Nat × Nat)} {j : Nat} {q : Nat × Nat} (hq : fs[j]? = some q) : (xm_fs g f h fs)[j]? = some (xm_fv g f h j q) := by simp [xm_fs, List.getElem?_mapIdx, hq]
theorem xm_get (hX : xm_X p m meth c cc nL s args Ts own ret D L g A) {k ci j index : Nat} {fs : List (Nat × Nat)} {q : Nat × Nat} {C : String} {T : u_T} {N : Nat} {v : Value} (hS : L[k]? = some (.inr (.inr (ci, fs)))) (hc : vwCl[ci]? = some (C, T, N)) (hq : fs[j]? = some q) (hv : xm_fv g (M.1 k) (M.2 k) j q = v) (hj : j < N) (hin : ∀ w ∈ u_ws C T N, w ∈ Ts) (hw : Cond.fieldLink own index (T j).1 (T j).2.1 (T j).2.2.1 ∈ Ts) (hdg : decode cc pc = .ok (.getfield index, 3))
    (kk : xm_J p l e R s m args below meth c nL D L g A Fn (pc + 3) lv (v :: rest) M X) : xm_J p l e R s m args below meth c nL D L g A Fn pc lv (.ref (g.1 k) :: rest) M X := fun r hr ls H locs hl hP hSS =>
  va_get (D := D) (ci := ci) (v := v) (C := C) (T := T) (N := N) (ref := (T j).1) hX.1.1 hX.1.2.1 hX.1.2.2.2.2 hin hX.1.2.2.2.1 hX.2.2.2.1 hP k (xm_w_at hS) hc j hj (hX.1.2.2.2.2 _ hw) (fun _ h9 => h9) (by rw [xm_fs_at hq, hv]) hdg (kk r hr ls H locs hl hP hSS)
theorem xm_fs_set {M M' : xm_M} {k j : Nat} {fs : List (Nat × Nat)} {q : Nat × Nat} {v : Value} (hq : fs[j]? = some q) (hv : xm_fv g (M'.1 k) (M'.2 k) j q = v) (ho : ∀ i, i ≠ j → M'.1 k i = M.1 k i ∧ M'.2 k i = M.2 k i) : (xm_fs g (M.1 k) (M.2 k) fs).set j v = xm_fs g (M'.1 k) (M'.2 k) fs := by
  apply List.ext_getElem?
  intro i
  by_cases hi : j = i
  · subst hi
    have hl : j < (xm_fs g (M.1 k) (M.2 k) fs).length := by
      have := (List.getElem?_eq_some_iff.mp hq).1
      simpa [xm_fs] using this
    rw [List.getElem?_set_self hl, xm_fs_at hq, hv]
  · rw [List.getElem?_set_ne hi]
    unfold xm_fs
    rw [List.getElem?_mapIdx, List.getElem?_mapIdx]
    have h2 := ho i (Ne.symm hi)
    cases fs[i]? with
    | none => rfl
    | some z => simp [xm_fv, h2.1, h2.2]
theorem xm_putG (hX : xm_X p m meth c cc nL s args Ts own ret D L g A) {M1 : xm_M} {k ci j index : Nat} {fs : List (Nat × Nat)} {q : Nat × Nat} {C : String} {T : u_T} {N : Nat} {v : Value} {ty : FieldType} {t0 : Nat → FieldType} (hS : L[k]? = some (.inr (.inr (ci, fs)))) (hc : vwCl[ci]? = some (C, T, N)) (hq : fs[j]? = some q) (hv : xm_fv g (M1.1 k) (M1.2 k) j q = v) (ho : ∀ i, i ≠ j → M1.1 k i = M.1 k i ∧ M1.2 k i = M.2 k i) (ho2 : ∀ a, a ≠ k → M1.1 a = M.1 a ∧ M1.2 a = M.2 a) (hj : j < N) (hin : ∀ w ∈ u_ws C T N, w ∈ Ts) (ht0 : ∀ k, k < N → parseFieldDescriptor (T k).2.2.1 = some (t0 k)) (hnm : ∀ a, a < N → ∀ b, b < N → a ≠ b → (T a).2.1 ≠ (T b).2.1) (hfin : (T j).2.2.2 = false) (hd : parseFieldDescriptor (T j).2.2.1 = some ty) (hn : narrow ty v = v) (hfit : fits ty v = true) (hw : Cond.fieldLink own index (T j).1 (T j).2.1 (T j).2.2.1 ∈ Ts) (hdg : decode cc pc = .ok (.putfield index, 3))
    (kk : xm_J p l e R s m args below meth c nL D L g A Fn (pc + 3) lv rest M1 X) : xm_J p l e R s m args below meth c nL D L g A Fn pc lv (v :: .ref (g.1 k) :: rest) M X := fun r hr ls H locs hl hP hSS => by
  have e : (xm_w L g M).set k (g.1 k, .inr (ci, (xm_fs g (M.1 k) (M.2 k) fs).set j v)) = xm_w L g M1 := xm_w_set hS (by rw [xm_fs_set hq hv ho]; rfl) ho2
  refine va_put (D := D) (ci := ci) (v := v) (ty := ty) (C := C) (T := T) (N := N) (ref := (T j).1) hX.1.1 hX.1.2.1 hX.1.2.2.2.2 hin t0 ht0 hnm hX.1.2.2.2.1 hX.2.2.2.1 hP (xm_X.hD hX M) hSS k (xm_w_at hS) hc j hj (hX.1.2.2.2.2 _ hw) (fun _ h9 => h9) hfin hd hn hfit (by have := (List.getElem?_eq_some_iff.mp hq).1; simpa [xm_fs] using this) hdg (fun H1 locs1 hP1 _ hS1 => kk r hr ls H1 locs1 hl (by rw [e] at hP1; exact hP1) hS1)
theorem xm_puti (hX : xm_X p m meth c cc nL s args Ts own ret D L g A) {f : xm_M → Option ρ} {k ci j index : Nat} {fs : List (Nat × Nat)} {z : Nat} {C : String} {T : u_T} {N : Nat} {x : Int32} {t0 : Nat → FieldType} (hS : L[k]? = some (.inr (.inr (ci, fs)))) (hc : vwCl[ci]? = some (C, T, N)) (hq : fs[j]? = some (0, z)) (hj : j < N) (hin : ∀ w ∈ u_ws C T N, w ∈ Ts) (ht0 : ∀ k, k < N → parseFieldDescriptor (T k).2.2.1 = some (t0 k)) (hnm : ∀ a, a < N → ∀ b, b < N → a ≠ b → (T a).2.1 ≠ (T b).2.1) (hfin : (T j).2.2.2 = false) (hd : parseFieldDescriptor (T j).2.2.1 = some .int) (hw : Cond.fieldLink own index (T j).1 (T j).2.1 (T j).2.2.1 ∈ Ts) (hdg : decode cc pc = .ok (.putfield index, 3))
    (kk : ∀ M1 : xm_M, xm_J p l e R s m args below meth c nL D L g A Fn (pc + 3) lv rest M1 (f M1)) : xm_J p l e R s m args below meth c nL D L g A Fn pc lv (.int x :: .ref (g.1 k) :: rest) M (xm_lt (xm_s M k j x) f) :=
  xm_putG hX (M1 := xm_s M k j x) (v := .int x) hS hc hq (by simp [xm_fv, xm_s]) (fun i hi => by simp [xm_s, hi]) xm_s_o hj hin ht0 hnm hfin hd rfl rfl hw hdg (kk _)
/-- a boolean field takes 0 and 1 -/
theorem xm_putz (hX : xm_X p m meth c cc nL s args Ts own ret D L g A) {f : xm_M → Option ρ} {k ci j index : Nat} {fs : List (Nat × Nat)} {z : Nat} {C : String} {T : u_T} {N : Nat} {x : Int32} {t0 : Nat → FieldType} (hS : L[k]? = some (.inr (.inr (ci, fs)))) (hc : vwCl[ci]? = some (C, T, N)) (hq : fs[j]? = some (0, z)) (hj : j < N) (hin : ∀ w ∈ u_ws C T N, w ∈ Ts) (ht0 : ∀ k, k < N → parseFieldDescriptor (T k).2.2.1 = some (t0 k)) (hnm : ∀ a, a < N → ∀ b, b < N → a ≠ b → (T a).2.1 ≠ (T b).2.1) (hfin : (T j).2.2.2 = false) (hd : parseFieldDescriptor (T j).2.2.1 = some .boolean) (hw : Cond.fieldLink own index (T j).1 (T j).2.1 (T j).2.2.1 ∈ Ts) (hdg : decode cc pc = .ok (.putfield index, 3))
    (kk : ∀ M1 : xm_M, xm_J p l e R s m args below meth c nL D L g A Fn (pc + 3) lv rest M1 (f M1)) : xm_J p l e R s m args below meth c nL D L g A Fn pc lv (.int x :: .ref (g.1 k) :: rest) M (if x = 0 ∨ x = 1 then xm_lt (xm_s M k j x) f else none) := by
  refine xm_ite (fun h => ?_) (fun _ => xm_none)
  refine xm_putG hX (M1 := xm_s M k j x) (v := .int x) hS hc hq (by simp [xm_fv, xm_s]) (fun i hi => by simp [xm_s, hi]) xm_s_o hj hin ht0 hnm hfin hd ?_ ?_ hw hdg (kk _)
  · rcases h with rfl | rfl <;> rfl
  · rcases h with rfl | rfl <;> rfl
theorem xm_putzL (hX : xm_X p m meth c cc nL s args Ts own ret D L g A) {f : xm_M → Option ρ} {k ci j index : Nat} {fs : List (Nat × Nat)} {z : Nat} {C : String} {T : u_T} {N : Nat} {x : Int32} {t0 : Nat → FieldType} (h01 : x = 0 ∨ x = 1) (hS : L[k]? = some (.inr (.inr (ci, fs)))) (hc : vwCl[ci]? = some (C, T, N)) (hq : fs[j]? = some (0, z)) (hj : j < N) (hin : ∀ w ∈ u_ws C T N, w ∈ Ts) (ht0 : ∀ k, k < N → parseFieldDescriptor (T k).2.2.1 = some (t0 k)) (hnm : ∀ a, a < N → ∀ b, b < N → a ≠ b → (T a).2.1 ≠ (T b).2.1) (hfin : (T j).2.2.2 = false) (hd : parseFieldDescriptor (T j).2.2.1 = some .boolean) (hw : Cond.fieldLink own index (T j).1 (T j).2.1 (T j).2.2.1 ∈ Ts) (hdg : decode cc pc = .ok (.putfield index, 3))
    (kk : ∀ M1 : xm_M, xm_J p l e R s m args below meth c nL D L g A Fn (pc + 3) lv rest M1 (f M1)) : xm_J p l e R s m args below meth c nL D L g A Fn pc lv (.int x :: .ref (g.1 k) :: rest) M (xm_lt (xm_s M k j x) f) := by
  have k9 := xm_putz (R := R) (lv := lv) (rest := rest) (M := M) hX (f := f) hS hc hq (x := x) hj hin ht0 hnm hfin hd hw hdg kk
  rw [if_pos h01] at k9
  exact k9
theorem xm_putl (hX : xm_X p m meth c cc nL s args Ts own ret D L g A) {f : xm_M → Option ρ} {k ci j index : Nat} {fs : List (Nat × Nat)} {z : Nat} {C : String} {T : u_T} {N : Nat} {x : Int64} {t0 : Nat → FieldType} (hS : L[k]? = some (.inr (.inr (ci, fs)))) (hc : vwCl[ci]? = some (C, T, N)) (hq : fs[j]? = some (1, z)) (hj : j < N) (hin : ∀ w ∈ u_ws C T N, w ∈ Ts) (ht0 : ∀ k, k < N → parseFieldDescriptor (T k).2.2.1 = some (t0 k)) (hnm : ∀ a, a < N → ∀ b, b < N → a ≠ b → (T a).2.1 ≠ (T b).2.1) (hfin : (T j).2.2.2 = false) (hd : parseFieldDescriptor (T j).2.2.1 = some .long) (hw : Cond.fieldLink own index (T j).1 (T j).2.1 (T j).2.2.1 ∈ Ts) (hdg : decode cc pc = .ok (.putfield index, 3))
    (kk : ∀ M1 : xm_M, xm_J p l e R s m args below meth c nL D L g A Fn (pc + 3) lv rest M1 (f M1)) : xm_J p l e R s m args below meth c nL D L g A Fn pc lv (.long x :: .ref (g.1 k) :: rest) M (xm_lt (xm_sl M k j x) f) :=
  xm_putG hX (M1 := xm_sl M k j x) (v := .long x) hS hc hq (by simp [xm_fv, xm_sl]) (fun i hi => by simp [xm_sl, hi]) xm_sl_o hj hin ht0 hnm hfin hd rfl rfl hw hdg (kk _)
theorem xm_inb {i : Int32} {n : Nat} (h : ¬ (i < 0 ∨ n ≤ i.toNatClampNeg)) : vp_in i n := h
theorem xm_iald (hX : xm_X p m meth c cc nL s args Ts own ret D L g A) {k t n : Nat} {i : Int32} (hS : L[k]? = some (.inl (t, .int, n))) (hdg : decode cc pc = .ok (.iaload, 1)) (kk : xm_J p l e R s m args below meth c nL D L g A Fn (pc + 1) lv (.int (M.1 k i.toNatClampNeg) :: rest) M X) : xm_J p l e R s m args below meth c nL D L g A Fn pc lv (.int i :: .ref (g.1 k) :: rest) M (if i < 0 ∨ n ≤ i.toNatClampNeg then none else X) :=
  xm_ite (fun _ => xm_none) (fun h r hr ls H locs hl hP hSS => va_iald hX.1.1 hX.1.2.1 hX.2.2.2.1 hP k t (xm_w_at hS) (hX.2.2.2.2.2.2.1 k _ hS) (xm_inb h) hdg (kk r hr ls H locs hl hP hSS))
theorem xm_zald (hX : xm_X p m meth c cc nL s args Ts own ret D L g A) {k t n : Nat} {i : Int32} (hS : L[k]? = some (.inl (t, .boolean, n))) (hdg : decode cc pc = .ok (.baload, 1)) (kk : xm_J p l e R s m args below meth c nL D L g A Fn (pc + 1) lv (.int (M.1 k i.toNatClampNeg) :: rest) M X) : xm_J p l e R s m args below meth c nL D L g A Fn pc lv (.int i :: .ref (g.1 k) :: rest) M (if i < 0 ∨ n ≤ i.toNatClampNeg then none else X) :=
  xm_ite (fun _ => xm_none) (fun h r hr ls H locs hl hP hSS => va_zald hX.1.1 hX.1.2.1 hX.2.2.2.1 hP k t (xm_w_at hS) (hX.2.2.2.2.2.2.1 k _ hS) (xm_inb h) hdg (kk r hr ls H locs hl hP hSS))
theorem xm_iast (hX : xm_X p m meth c cc nL s args Ts own ret D L g A) {f : xm_M → Option ρ} {k t n : Nat} {i x : Int32} (hS : L[k]? = some (.inl (t, .int, n))) (hdg : decode cc pc = .ok (.iastore, 1)) (kk : ∀ M1 : xm_M, xm_J p l e R s m args below meth c nL D L g A Fn (pc + 1) lv rest M1 (f M1)) : xm_J p l e R s m args below meth c nL D L g A Fn pc lv (.int x :: .int i :: .ref (g.1 k) :: rest) M (if i < 0 ∨ n ≤ i.toNatClampNeg then none else xm_lt (xm_s M k i.toNatClampNeg x) f) :=
  xm_ite (fun _ => xm_none) (fun h r hr ls H locs hl hP hSS => va_iast hX.1.1 hX.1.2.1 hX.2.2.2.1 hP (xm_X.hD hX M) hSS k t (xm_w_at hS) (hX.2.2.2.2.2.2.1 k _ hS) (xm_inb h) hdg (fun H1 locs1 hP1 _ hS1 => kk _ r hr ls H1 locs1 hl (by
    have e : (xm_w L g M).set k (g.1 k, .inl (xm_cid g t, n, .inl (upd (M.1 k) i.toNatClampNeg x))) = xm_w L g (xm_s M k i.toNatClampNeg x) := xm_w_set hS (by rw [xm_s_at]; rfl) xm_s_o
    rw [e] at hP1; exact hP1) hS1))
theorem xm_zast (hX : xm_X p m meth c cc nL s args Ts own ret D L g A) {f : xm_M → Option ρ} {k t n : Nat} {i x : Int32} (hS : L[k]? = some (.inl (t, .boolean, n))) (hdg : decode cc pc = .ok (.bastore, 1)) (kk : ∀ M1 : xm_M, xm_J p l e R s m args below meth c nL D L g A Fn (pc + 1) lv rest M1 (f M1)) : xm_J p l e R s m args below meth c nL D L g A Fn pc lv (.int x :: .int i :: .ref (g.1 k) :: rest) M (if i < 0 ∨ n ≤ i.toNatClampNeg then none else xm_lt (xm_s M k i.toNatClampNeg (vp_nar .boolean x)) f) :=
  xm_ite (fun _ => xm_none) (fun h r hr ls H locs hl hP hSS => va_zast hX.1.1 hX.1.2.1 hX.2.2.2.1 hP (xm_X.hD hX M) hSS k t (xm_w_at hS) (hX.2.2.2.2.2.2.1 k _ hS) (xm_inb h) hdg (fun H1 locs1 hP1 _ hS1 => kk _ r hr ls H1 locs1 hl (by
    have e : (xm_w L g M).set k (g.1 k, .inl (xm_cid g t, n, .inl (upd (M.1 k) i.toNatClampNeg (vp_nar .boolean x)))) = xm_w L g (xm_s M k i.toNatClampNeg (vp_nar .boolean x)) := xm_w_set hS (by rw [xm_s_at]; rfl) xm_s_o
    rw [e] at hP1; exact hP1) hS1))
theorem xm_alen (hX : xm_X p m meth c cc nL s args Ts own ret D L g A) {k t n : Nat} {ty : FieldType} {v : Int32} (hS : L[k]? = some (.inl (t, ty, n))) (hv : Int32.ofNat n = v) (hdg : decode cc pc = .ok (.arraylength, 1)) (kk : xm_J p l e R s m args below meth c nL D L g A Fn (pc + 1) lv (.int v :: rest) M X) : xm_J p l e R s m args below meth c nL D L g A Fn pc lv (.ref (g.1 k) :: rest) M X :=
  fun r hr ls H locs hl hP hSS => va_alen hX.1.1 hX.1.2.1 hX.2.2.2.1 hP k t (xm_w_at hS) (hX.2.2.2.2.2.2.1 k _ hS) hv hdg (kk r hr ls H locs hl hP hSS)
theorem xm_ifT {st : List Value} {P : Prop} [Decidable P] (h : ¬ P) (k : xm_J p l e R s m args below meth c nL D L g A Fn pc lv st M (if P then none else X)) : xm_J p l e R s m args below meth c nL D L g A Fn pc lv st M X := by rw [if_neg h] at k; exact k
theorem xm_ialdL (hX : xm_X p m meth c cc nL s args Ts own ret D L g A) {k t n j : Nat} {i : Int32} (hS : L[k]? = some (.inl (t, .int, n))) (h : ¬ (i < 0 ∨ n ≤ i.toNatClampNeg)) (hj : i.toNatClampNeg = j) (hdg : decode cc pc = .ok (.iaload, 1)) (kk : xm_J p l e R s m args below meth c nL D L g A Fn (pc + 1) lv (.int (M.1 k j) :: rest) M X) : xm_J p l e R s m args below meth c nL D L g A Fn pc lv (.int i :: .ref (g.1 k) :: rest) M X := by
  subst hj
  exact xm_ifT h (xm_iald hX hS hdg kk)
theorem xm_zaldL (hX : xm_X p m meth c cc nL s args Ts own ret D L g A) {k t n j : Nat} {i : Int32} (hS : L[k]? = some (.inl (t, .boolean, n))) (h : ¬ (i < 0 ∨ n ≤ i.toNatClampNeg)) (hj : i.toNatClampNeg = j) (hdg : decode cc pc = .ok (.baload, 1)) (kk : xm_J p l e R s m args below meth c nL D L g A Fn (pc + 1) lv (.int (M.1 k j) :: rest) M X) : xm_J p l e R s m args below meth c nL D L g A Fn pc lv (.int i :: .ref (g.1 k) :: rest) M X := by
  subst hj
  exact xm_ifT h (xm_zald hX hS hdg kk)
theorem xm_iastL (hX : xm_X p m meth c cc nL s args Ts own ret D L g A) {f : xm_M → Option ρ} {k t n j : Nat} {i x : Int32} (hS : L[k]? = some (.inl (t, .int, n))) (h : ¬ (i < 0 ∨ n ≤ i.toNatClampNeg)) (hj : i.toNatClampNeg = j) (hdg : decode cc pc = .ok (.iastore, 1)) (kk : ∀ M1 : xm_M, xm_J p l e R s m args below meth c nL D L g A Fn (pc + 1) lv rest M1 (f M1)) : xm_J p l e R s m args below meth c nL D L g A Fn pc lv (.int x :: .int i :: .ref (g.1 k) :: rest) M (xm_lt (xm_s M k j x) f) := by
  subst hj
  exact xm_ifT h (xm_iast hX hS hdg kk)
theorem xm_alenR (hX : xm_X p m meth c cc nL s args Ts own ret D L g A) {k N k0 : Nat} {v : Int32} (hS : L[k]? = some (.inr (.inl (N, k0)))) (hv : Int32.ofNat N = v) (hdg : decode cc pc = .ok (.arraylength, 1)) (kk : xm_J p l e R s m args below meth c nL D L g A Fn (pc + 1) lv (.int v :: rest) M X) : xm_J p l e R s m args below meth c nL D L g A Fn pc lv (.ref (g.1 k) :: rest) M X :=
  fun r hr ls H locs hl hP hSS => va_alen hX.1.1 hX.1.2.1 hX.2.2.2.1 hP k 1 (xm_w_at hS) (hX.2.2.2.2.2.2.1 k _ hS) hv hdg (kk r hr ls H locs hl hP hSS)
theorem xm_aald (hX : xm_X p m meth c cc nL s args Ts own ret D L g A) {k N k0 : Nat} {i : Int32} (hS : L[k]? = some (.inr (.inl (N, k0)))) (hdg : decode cc pc = .ok (.aaload, 1)) (kk : i.toNatClampNeg < N → xm_J p l e R s m args below meth c nL D L g A Fn (pc + 1) lv (.ref (g.1 (k0 + i.toNatClampNeg)) :: rest) M X) : xm_J p l e R s m args below meth c nL D L g A Fn pc lv (.int i :: .ref (g.1 k) :: rest) M (if i < 0 ∨ N ≤ i.toNatClampNeg then none else X) :=
  xm_ite (fun _ => xm_none) (fun h r hr ls H locs hl hP hSS => by
    have hlt : i.toNatClampNeg < N := Nat.not_le.mp fun q => h (Or.inr q)
    have ev : va_rf (xm_rows g (N, k0) i.toNatClampNeg) = .ref (g.1 (k0 + i.toNatClampNeg)) := by simp [xm_rows, hlt, va_rf]
    refine W.aald (v := va_rf (xm_rows g (N, k0) i.toNatClampNeg)) (ty := .array .int) hX.1.1 hX.1.2.1 (hP k _ (xm_w_at hS)) ((hX.2.2.2.1.2 1 _ (hX.2.2.2.2.2.2.1 k _ hS)).1 N (fun j => va_rf (xm_rows g (N, k0) j))) rfl (fun q => by cases q) (by show ¬ (i < 0 ∨ (arrV _ _ _).slots.size ≤ _); rw [arrV_size]; exact h) (by show (arrV _ _ _).slots[_]? = _; rw [arrV_read _ _ hlt]) rfl rfl hdg ?_
    rw [ev]
    exact kk hlt r hr ls H locs hl hP hSS)
/-! Math, System.arraycopy -/
theorem xm_mmin (hX : xm_X p m meth c cc nL s args Ts own ret D L g A) {index : Nat} (h1 : Cond.methodLink own index Lib.Math.min.name ∈ Ts) (h2 : Cond.static Lib.Math.min.name ∈ Ts) (h3 : Cond.initialized "java/lang/Math" ∈ Ts) (h4 : Cond.code Lib.Math.min.name Lib.Math.min.code 2 (some .int) ∈ Ts) (hf : 1 ≤ R.frames) (hlo : (rest.map fun v => v.category).sum + 13 ≤ R.locals) {x y : Int32} (hF : Fn.2.1 ≤ R.cells ∧ Fn.2.2 ≤ R.slots) (hdg : decode cc pc = .ok (.invokestatic index, 3)) (kk : xm_J p l e R s m args below meth c nL D L g A Fn (pc + 3) lv (.int (if y < x then y else x) :: rest) M X) : xm_J p l e R s m args below meth c nL D L g A Fn pc lv (.int y :: .int x :: rest) M X :=
  fun r hr ls H locs hl hP hSS => va_mmin hX.1.1 hX.1.2.1 (by rw [hX.1.2.2.1]; exact hl.1.symm) hX.1.2.2.2.1 (hX.1.2.2.2.2 _ h1) (hX.1.2.2.2.2 _ h2) (hX.1.2.2.2.2 _ h3) (hX.1.2.2.2.2 _ h4) hf hlo hF.1 hF.2 hdg (kk r hr ls H locs hl hP hSS)
theorem xm_mmax (hX : xm_X p m meth c cc nL s args Ts own ret D L g A) {index : Nat} (h1 : Cond.methodLink own index Lib.Math.max.name ∈ Ts) (h2 : Cond.static Lib.Math.max.name ∈ Ts) (h3 : Cond.initialized "java/lang/Math" ∈ Ts) (h4 : Cond.code Lib.Math.max.name Lib.Math.max.code 2 (some .int) ∈ Ts) (hf : 1 ≤ R.frames) (hlo : (rest.map fun v => v.category).sum + 13 ≤ R.locals) {x y : Int32} (hF : Fn.2.1 ≤ R.cells ∧ Fn.2.2 ≤ R.slots) (hdg : decode cc pc = .ok (.invokestatic index, 3)) (kk : xm_J p l e R s m args below meth c nL D L g A Fn (pc + 3) lv (.int (if x < y then y else x) :: rest) M X) : xm_J p l e R s m args below meth c nL D L g A Fn pc lv (.int y :: .int x :: rest) M X :=
  fun r hr ls H locs hl hP hSS => va_mmax hX.1.1 hX.1.2.1 (by rw [hX.1.2.2.1]; exact hl.1.symm) hX.1.2.2.2.1 (hX.1.2.2.2.2 _ h1) (hX.1.2.2.2.2 _ h2) (hX.1.2.2.2.2 _ h3) (hX.1.2.2.2.2 _ h4) hf hlo hF.1 hF.2 hdg (kk r hr ls H locs hl hP hSS)
theorem xm_mabs (hX : xm_X p m meth c cc nL s args Ts own ret D L g A) {index : Nat} (h1 : Cond.methodLink own index Lib.Math.abs.name ∈ Ts) (h2 : Cond.static Lib.Math.abs.name ∈ Ts) (h3 : Cond.initialized "java/lang/Math" ∈ Ts) (h4 : Cond.code Lib.Math.abs.name Lib.Math.abs.code 1 (some .int) ∈ Ts) (hf : 1 ≤ R.frames) (hlo : (rest.map fun v => v.category).sum + 13 ≤ R.locals) {x : Int32} (hF : Fn.2.1 ≤ R.cells ∧ Fn.2.2 ≤ R.slots) (hdg : decode cc pc = .ok (.invokestatic index, 3)) (kk : xm_J p l e R s m args below meth c nL D L g A Fn (pc + 3) lv (.int (if 0 ≤ x then x else 0 - x) :: rest) M X) : xm_J p l e R s m args below meth c nL D L g A Fn pc lv (.int x :: rest) M X :=
  fun r hr ls H locs hl hP hSS => va_mabs hX.1.1 hX.1.2.1 (by rw [hX.1.2.2.1]; exact hl.1.symm) hX.1.2.2.2.1 (hX.1.2.2.2.2 _ h1) (hX.1.2.2.2.2 _ h2) (hX.1.2.2.2.2 _ h3) (hX.1.2.2.2.2 _ h4) hf hlo hF.1 hF.2 hdg (kk r hr ls H locs hl hP hSS)
theorem xm_mminl (hX : xm_X p m meth c cc nL s args Ts own ret D L g A) {index : Nat} (h1 : Cond.methodLink own index Lib.MathLoose.min_long.x ∈ Ts) (h2 : Cond.static Lib.MathLoose.min_long.x ∈ Ts) (h3 : Cond.initialized "java/lang/Math" ∈ Ts) (h4 : Cond.code Lib.MathLoose.min_long.x Lib.MathLoose.min_long.code 4 (some .long) ∈ Ts) (hf : 1 ≤ R.frames) (hlo : (rest.map fun v => v.category).sum + 15 ≤ R.locals) {x y : Int64} (hF : Fn.2.1 ≤ R.cells ∧ Fn.2.2 ≤ R.slots) (hdg : decode cc pc = .ok (.invokestatic index, 3)) (kk : xm_J p l e R s m args below meth c nL D L g A Fn (pc + 3) lv (.long (if y < x then y else x) :: rest) M X) : xm_J p l e R s m args below meth c nL D L g A Fn pc lv (.long y :: .long x :: rest) M X :=
  fun r hr ls H locs hl hP hSS => va_mmin_long hX.1.1 hX.1.2.1 (by rw [hX.1.2.2.1]; exact hl.1.symm) hX.1.2.2.2.1 (hX.1.2.2.2.2 _ h1) (hX.1.2.2.2.2 _ h2) (hX.1.2.2.2.2 _ h3) (hX.1.2.2.2.2 _ h4) hf hlo hF.1 hF.2 hdg (kk r hr ls H locs hl hP hSS)
theorem xm_mabsl (hX : xm_X p m meth c cc nL s args Ts own ret D L g A) {index : Nat} (h1 : Cond.methodLink own index Lib.MathLoose.abs_long.x ∈ Ts) (h2 : Cond.static Lib.MathLoose.abs_long.x ∈ Ts) (h3 : Cond.initialized "java/lang/Math" ∈ Ts) (h4 : Cond.code Lib.MathLoose.abs_long.x Lib.MathLoose.abs_long.code 2 (some .long) ∈ Ts) (hf : 1 ≤ R.frames) (hlo : (rest.map fun v => v.category).sum + 13 ≤ R.locals) {x : Int64} (hF : Fn.2.1 ≤ R.cells ∧ Fn.2.2 ≤ R.slots) (hdg : decode cc pc = .ok (.invokestatic index, 3)) (kk : xm_J p l e R s m args below meth c nL D L g A Fn (pc + 3) lv (.long (if 0 < x then x else -x) :: rest) M X) : xm_J p l e R s m args below meth c nL D L g A Fn pc lv (.long x :: rest) M X :=
  fun r hr ls H locs hl hP hSS => va_mabs_long hX.1.1 hX.1.2.1 (by rw [hX.1.2.2.1]; exact hl.1.symm) hX.1.2.2.2.1 (hX.1.2.2.2.2 _ h1) (hX.1.2.2.2.2 _ h2) (hX.1.2.2.2.2 _ h3) (hX.1.2.2.2.2 _ h4) hf hlo hF.1 hF.2 hdg (kk r hr ls H locs hl hP hSS)
/-- a row of ints copied into another, from the first on -/
theorem xm_acopy (hX : xm_X p m meth c cc nL s args Ts own ret D L g A) {f : xm_M → Option ρ} {index : Nat} (h1 : Cond.methodLink own index arraycopyName ∈ Ts) (h2 : Cond.native arraycopyName ∈ Ts) (h3 : Cond.static arraycopyName ∈ Ts) (h4 : Cond.initialized "java/lang/System" ∈ Ts) {k1 k2 t n1 n2 : Nat} (hS1 : L[k1]? = some (.inl (t, .int, n1))) (hS2 : L[k2]? = some (.inl (t, .int, n2))) {sp dp n : Int32} (hf : 1 ≤ R.frames) (hlo : (rest.map fun v => v.category).sum + (nativeFrameWords "java/lang/System" "arraycopy" 5 + 11) ≤ R.locals) (hdg : decode cc pc = .ok (.invokestatic index, 3))
    (kk : ∀ M1 : xm_M, xm_J p l e R s m args below meth c nL D L g A Fn (pc + 3) lv rest M1 (f M1)) : xm_J p l e R s m args below meth c nL D L g A Fn pc lv (.int n :: .int dp :: .ref (g.1 k2) :: .int sp :: .ref (g.1 k1) :: rest) M (if sp < 0 ∨ dp < 0 ∨ n < 0 ∨ n1 < sp.toNatClampNeg + n.toNatClampNeg ∨ n2 < dp.toNatClampNeg + n.toNatClampNeg then none else xm_lt (xm_r M k2 (va_cpy (M.1 k1) (M.1 k2) sp.toNatClampNeg dp.toNatClampNeg n.toNatClampNeg)) f) :=
  xm_ite (fun _ => xm_none) (fun h r hr ls H locs hl hP hSS => va_copyi hX.1.1 hX.1.2.1 (by rw [hX.1.2.2.1]; exact hl.1.symm) hX.1.2.2.2.1 (hX.1.2.2.2.2 _ h1) (hX.1.2.2.2.2 _ h2) (hX.1.2.2.2.2 _ h3) (hX.1.2.2.2.2 _ h4) hX.2.2.2.1 hP (xm_X.hD hX M) hSS k1 k2 t t (xm_w_at hS1) (xm_w_at hS2) (hX.2.2.2.2.2.2.1 k1 _ hS1) (hX.2.2.2.2.2.2.1 k2 _ hS2) rfl
    (fun z => h (Or.inl z)) (fun z => h (Or.inr (Or.inl z))) (fun z => h (Or.inr (Or.inr (Or.inl z)))) (Nat.not_lt.mp fun z => h (Or.inr (Or.inr (Or.inr (Or.inl z))))) (Nat.not_lt.mp fun z => h (Or.inr (Or.inr (Or.inr (Or.inr z))))) (fun _ _ => rfl) hf hlo hdg (fun H1 locs1 hP1 _ hS1' => kk _ r hr ls H1 locs1 hl (by
    have e : (xm_w L g M).set k2 (g.1 k2, .inl (xm_cid g t, n2, .inl (va_cpy (M.1 k1) (M.1 k2) sp.toNatClampNeg dp.toNatClampNeg n.toNatClampNeg))) = xm_w L g (xm_r M k2 (va_cpy (M.1 k1) (M.1 k2) sp.toNatClampNeg dp.toNatClampNeg n.toNatClampNeg)) := xm_w_set hS2 (by rw [xm_r_at]; rfl) xm_r_o
    rw [e] at hP1; exact hP1) hS1'))
/-! statics: the two tables of the settings' ranges -/
theorem xm_gets (hX : xm_X p m meth c cc nL s args Ts own ret D L g A) {C n d : String} {v : Value} {index : Nat} (hZ : va_Z C n d v A s s.heap) (hw : Cond.fieldLink own index C n d ∈ Ts) (hdg : decode cc pc = .ok (.getstatic index, 3)) (kk : xm_J p l e R s m args below meth c nL D L g A Fn (pc + 3) lv (v :: rest) M X) : xm_J p l e R s m args below meth c nL D L g A Fn pc lv rest M X :=
  fun r hr ls H locs hl hP hSS => va_gets hX.1.1 hX.1.2.1 hZ hSS hX.1.2.2.2.1 (hX.1.2.2.2.2 _ hw) (fun _ h => h) hdg (kk r hr ls H locs hl hP hSS)
theorem xm_tlen (hX : xm_X p m meth c cc nL s args Ts own ret D L g A) {t n : Nat} {f : Nat → Value} {v : Int32} (hT : va_T .int t n f A s s.heap) (hv : Int32.ofNat n = v) (hdg : decode cc pc = .ok (.arraylength, 1)) (kk : xm_J p l e R s m args below meth c nL D L g A Fn (pc + 1) lv (.int v :: rest) M X) : xm_J p l e R s m args below meth c nL D L g A Fn pc lv (.ref t :: rest) M X :=
  fun r hr ls H locs hl hP hSS => va_tlen hX.1.1 hX.1.2.1 hT hSS hv hdg (kk r hr ls H locs hl hP hSS)
theorem xm_ti (hX : xm_X p m meth c cc nL s args Ts own ret D L g A) {t n : Nat} {f : Nat → Int32} {i : Int32} (hT : va_T .int t n (fun j => .int (f j)) A s s.heap) (hdg : decode cc pc = .ok (.iaload, 1)) (kk : xm_J p l e R s m args below meth c nL D L g A Fn (pc + 1) lv (.int (f i.toNatClampNeg) :: rest) M X) : xm_J p l e R s m args below meth c nL D L g A Fn pc lv (.int i :: .ref t :: rest) M (if i < 0 ∨ n ≤ i.toNatClampNeg then none else X) :=
  xm_ite (fun _ => xm_none) (fun h r hr ls H locs hl hP hSS => va_ti hX.1.1 hX.1.2.1 hT hSS (xm_inb h) rfl hdg (kk r hr ls H locs hl hP hSS))
/-! ends -/
theorem xm_iret (hX : xm_X p m meth c cc nL s args Ts own (some .int) D L g A) {v : Int32} (hdg : decode cc pc = .ok (.ireturn, 1)) : xm_J p l e R s m args below meth c nL D L g A (xm_Z below args s D L g A (xm_Fi g)) pc lv [.int v] M (some (v, M)) := fun r hr ls H locs hl hP hSS => by
  cases hr
  exact W.iret (v := v) hX.1.1 hX.1.2.1 hX.2.1 (fun t ht hW => ⟨rfl, by rw [ht]; exact hP, hSS.F ht⟩) hSS.2.2 hdg hX.2.2.1
theorem xm_zret (hX : xm_X p m meth c cc nL s args Ts own (some .boolean) D L g A) {v : Int32} (hdg : decode cc pc = .ok (.ireturn, 1)) : xm_J p l e R s m args below meth c nL D L g A (xm_Z below args s D L g A (xm_Fi g)) pc lv [.int v] M (if v = 0 ∨ v = 1 then some (v, M) else none) :=
  xm_ite (fun h r hr ls H locs hl hP hSS => by
    cases hr
    exact W.zret (v := v) hX.1.1 hX.1.2.1 hX.2.1 (by rcases h with rfl | rfl <;> rfl) (fun t ht hW => ⟨rfl, by rw [ht]; exact hP, hSS.F ht⟩) hSS.2.2 hdg hX.2.2.1) (fun _ => xm_none)
theorem xm_zretL (hX : xm_X p m meth c cc nL s args Ts own (some .boolean) D L g A) {v : Int32} (h : v = 0 ∨ v = 1) (hdg : decode cc pc = .ok (.ireturn, 1)) : xm_J p l e R s m args below meth c nL D L g A (xm_Z below args s D L g A (xm_Fi g)) pc lv [.int v] M (some (v, M)) := by
  have k := xm_zret (p := p) (l := l) (e := e) (R := R) (below := below) (lv := lv) (M := M) hX (v := v) hdg
  rw [if_pos h] at k
  exact k
theorem xm_lret (hX : xm_X p m meth c cc nL s args Ts own (some .long) D L g A) {v : Int64} (hdg : decode cc pc = .ok (.lreturn, 1)) : xm_J p l e R s m args below meth c nL D L g A (xm_Z below args s D L g A (xm_Fl g)) pc lv [.long v] M (some (v, M)) := fun r hr ls H locs hl hP hSS => by
  cases hr
  exact W.lret (v := v) hX.1.1 hX.1.2.1 hX.2.1 (fun t ht hW => ⟨rfl, by rw [ht]; exact hP, hSS.F ht⟩) hSS.2.2 hdg hX.2.2.1
theorem xm_vret (hX : xm_X p m meth c cc nL s args Ts own none D L g A) (hdg : decode cc pc = .ok (.return_, 1)) : xm_J p l e R s m args below meth c nL D L g A (xm_Z below args s D L g A (xm_Fv g)) pc lv [] M (some M) := fun r hr ls H locs hl hP hSS => by
  cases hr
  exact W.vret hX.1.1 hX.1.2.1 hX.2.1 (fun t ht hW => ⟨rfl, by rw [ht]; exact hP, hSS.F ht⟩) hSS.2.2 hdg hX.2.2.1
/-! calls -/
theorem xm_sub (hX : xm_X p m meth c cc nL s args Ts own ret D L g A) {H : Heap} {locs : List Loc} (hS : va_S A s.heap H locs) : ∀ q, xm_A L g H.size q → A q := fun q h => by
  rcases h with ⟨k, hk, rfl⟩ | h
  · exact hX.2.2.2.2.2.2.2.1 k hk
  · exact hX.2.2.2.2.2.2.2.2.1 q (Nat.le_trans hS.1 h)
theorem xm_preU (hX : xm_X p m meth c cc nL s args Ts own ret D L g A) {H : Heap} {locs : List Loc} (hP : va_P D vwCl (xm_w L g M) H) (hS : va_S A s.heap H locs) {As : List Value} : ∀ U : State, U.heap = H → s.WarmedH U.vm → va_Pc As (xm_Pre D L g M H.size) As.toArray U := fun U hU hW =>
  ⟨rfl, by rw [hU], by rw [hU]; exact hP, va_K.moved hW.alike hX.2.2.2.1, hX.2.2.2.2.1.warm hW, hX.2.2.2.2.2.1, hX.2.2.2.2.2.2.1, by rw [hU]; exact (((hX.2.2.2.2.2.2.2.2.2).moved hW.alike).kept (fun a h1 h2 => hS.2.1 a h1 h2)).narrow (xm_sub hX hS)⟩
theorem xm_call {σ : Type} {Fc : σ → Option Value × xm_M} {f : Option σ} {K : σ → Option ρ} {st0 : List Value} {a : Array Value} (hX : xm_X p m meth c cc nL s args Ts own ret D L g A)
    (hrun : ∀ r1, f = some r1 → ∀ (ls : Array Slot) (H : Heap) (locs : List Loc), lv_has ls nL lv → va_P D vwCl (xm_w L g M) H → va_S A s.heap H locs → va_Run p l e R s m args below meth c H locs Fn.2.1 Fn.2.2 0 0 (F0 m pc ls st0) rest (xm_Q D L g (xm_A L g H.size) (Fc r1) a) (xm_A L g H.size))
    (kk : ∀ r1 : σ, f = some r1 → xm_J p l e R s m args below meth c nL D L g A Fn (pc + 3) lv ((Fc r1).1.toList ++ rest) (Fc r1).2 (K r1)) : xm_J p l e R s m args below meth c nL D L g A Fn pc lv st0 M (f.bind K) := by
  intro r hr ls H locs hl hP hS
  cases hf : f with
  | none => rw [hf] at hr; cases hr
  | some r1 =>
    rw [hf] at hr
    intro T hT X
    obtain ⟨v, st₀, t, T', L', h0, X', hL, e1, e2, ⟨hv, hP1, hz, hk⟩, stp⟩ := hrun r1 hf ls H locs hl hP hS T hT X
    rw [h0] at hz hk
    cases hv
    obtain ⟨t2, a1, b1⟩ := kk r1 hf r hr ls T'.heap (locs ++ L') hl (by rw [e1]; exact hP1)
      ⟨Nat.le_trans hS.1 (by rw [e1]; exact hz), fun q h1 h2 => by rw [e1, hk q (Nat.lt_of_lt_of_le h1 hS.1) (fun z => h2 (xm_sub hX hS q z))]; exact hS.2.1 q h1 h2, fun q hq => by
        rcases List.mem_append.mp hq with h | h
        · exact hS.2.2 q h
        · exact xm_sub hX hS _ (hL q h)⟩ T' rfl X'
    exact ⟨t2, stp t2 a1, b1⟩
theorem xm_runS {nC nS : Nat} {σ : Type} {Fc : xm_G → σ → Option Value × xm_M} {st0 : List Value} {f : Option σ} {y : MethodName} {ws2 ws3 : List Cond} {rm : Room} {bytes : ByteArray} {maxL n index : Nat} {rt : Option FieldType} {As : xm_G → List Value} (hX : xm_X p m meth c cc nL s args Ts own ret D L g A) (hC : xm_C l y ws2 rm L As M Fc f) (hG : GoodIn Ts (va_wsS own index y ws2)) (hw : ws2 = Cond.code y bytes maxL rt :: ws3) (hr0 : rm.cells = 0 ∧ rm.slots = 0)
    (hd : y.cls ≠ "java/lang/invoke/MethodHandle" ∧ y.cls ≠ "java/lang/invoke/VarHandle" ∧ (parseMethodDescriptor y.desc).map (fun d => d.parameters.length) = some n) (hR : rm.frames + 1 ≤ R.frames ∧ 8 + (maxL + 11) + rm.locals ≤ R.locals) (hn : (As g).length = n) (hq : (rest.map fun v => v.category).sum ≤ 8) (hst : st0 = (As g).reverse ++ rest) (hF : nC ≤ R.cells ∧ nS ≤ R.slots) (hdg : decode cc pc = .ok (.invokestatic index, 3)) :
    ∀ r1, f = some r1 → ∀ (ls : Array Slot) (H : Heap) (locs : List Loc), lv_has ls nL lv → va_P D vwCl (xm_w L g M) H → va_S A s.heap H locs → va_Run p l e R s m args below meth c H locs nC nS 0 0 (F0 m pc ls st0) rest (xm_Q D L g (xm_A L g H.size) (Fc g r1) (As g).toArray) (xm_A L g H.size) := fun r1 h1 ls H locs hl hP hS =>
  va_runS hX.1 (hC D g H.size r1 h1) (va_cwS n hX.1.2.2.2.2 hG hw hr0.1 hr0.2 hd hR) ⟨xm_blind, xm_preU hX hP hS⟩ rfl hn hl.1 hst (lv_room hq) hdg hF
theorem xm_runSN {nC nS : Nat} {σ : Type} {Fc : xm_G → σ → Option Value × xm_M} {st0 : List Value} {f : Option σ} {y : MethodName} {host : String} {ws2 ws3 : List Cond} {rm : Room} {bytes : ByteArray} {maxL n index : Nat} {rt : Option FieldType} {As : xm_G → List Value} (hX : xm_X p m meth c cc nL s args Ts own ret D L g A) (hC : xm_C l y ws2 rm L As M Fc f) (hG : GoodIn Ts ws2) (hw : ws2 = Cond.code y bytes maxL rt :: ws3) (hr0 : rm.cells = 0 ∧ rm.slots = 0)
    (hN : (own, index, y, host) ∈ xm_nw) (hi : Cond.initialized y.cls ∈ Ts) (hs : Cond.static y ∈ Ts)
    (hd : y.cls ≠ "java/lang/invoke/MethodHandle" ∧ y.cls ≠ "java/lang/invoke/VarHandle" ∧ (parseMethodDescriptor y.desc).map (fun d => d.parameters.length) = some n) (hR : rm.frames + 1 ≤ R.frames ∧ 8 + (maxL + 11) + rm.locals ≤ R.locals) (hn : (As g).length = n) (hq : (rest.map fun v => v.category).sum ≤ 8) (hst : st0 = (As g).reverse ++ rest) (hF : nC ≤ R.cells ∧ nS ≤ R.slots) (hdg : decode cc pc = .ok (.invokestatic index, 3)) :
    ∀ r1, f = some r1 → ∀ (ls : Array Slot) (H : Heap) (locs : List Loc), lv_has ls nL lv → va_P D vwCl (xm_w L g M) H → va_S A s.heap H locs → va_Run p l e R s m args below meth c H locs nC nS 0 0 (F0 m pc ls st0) rest (xm_Q D L g (xm_A L g H.size) (Fc g r1) (As g).toArray) (xm_A L g H.size) := fun r1 h1 ls H locs hl hP hS =>
  va_runSN hX.1 (hC D g H.size r1 h1) ⟨va_cnB n hX.1.2.2.2.2 hG hw hr0.1 hr0.2 (hX.2.2.2.2.1 _ hN) (hX.1.2.2.2.2 _ hi) hd hR, hX.1.2.2.2.2 _ hs, trivial⟩ ⟨xm_blind, xm_preU hX hP hS⟩ rfl hn hl.1 hst (lv_room hq) hdg hF
theorem xm_runV {nC nS : Nat} {σ : Type} {Fc : xm_G → σ → Option Value × xm_M} {st0 : List Value} {f : Option σ} {y : MethodName} {C : String} {ws2 ws3 : List Cond} {rm : Room} {bytes : ByteArray} {maxL n index k ci : Nat} {fs : List (Nat × Nat)} {T : u_T} {N : Nat} {rt : Option FieldType} {As : xm_G → List Value} (hX : xm_X p m meth c cc nL s args Ts own ret D L g A) (hC : xm_C l y ws2 rm L (fun g => .ref (g.1 k) :: As g) M Fc f) (hSk : L[k]? = some (.inr (.inr (ci, fs)))) (hc : vwCl[ci]? = some (C, T, N)) (hG : GoodIn Ts (wsV own index C y ws2)) (hw : ws2 = Cond.code y bytes maxL rt :: ws3) (hr0 : rm.cells = 0 ∧ rm.slots = 0)
    (hd : y.cls = C ∧ y.cls ≠ "java/lang/invoke/MethodHandle" ∧ y.cls ≠ "java/lang/invoke/VarHandle" ∧ (parseMethodDescriptor y.desc).map (fun d => d.parameters.length) = some n) (hR : rm.frames + 1 ≤ R.frames ∧ 8 + (maxL + 11) + rm.locals ≤ R.locals) (hn : (As g).length = n) (hq : (rest.map fun v => v.category).sum ≤ 8) (hst : st0 = (As g).reverse ++ .ref (g.1 k) :: rest) (hF : nC ≤ R.cells ∧ nS ≤ R.slots) (hdg : decode cc pc = .ok (.invokevirtual index, 3)) :
    ∀ r1, f = some r1 → ∀ (ls : Array Slot) (H : Heap) (locs : List Loc), lv_has ls nL lv → va_P D vwCl (xm_w L g M) H → va_S A s.heap H locs → va_Run p l e R s m args below meth c H locs nC nS 0 0 (F0 m pc ls st0) rest (xm_Q D L g (xm_A L g H.size) (Fc g r1) (.ref (g.1 k) :: As g).toArray) (xm_A L g H.size) := fun r1 h1 ls H locs hl hP hS =>
  va_runV hX.1 (hC D g H.size r1 h1) (cwV n hX.1.2.2.2.2 hG hw hr0.1 hr0.2 hd hR) ⟨xm_blind, va_recv hX.2.2.2.1 hP (ci := ci) (q0 := k) hc (xm_w_at hSk), xm_preU hX hP hS⟩ rfl hn hl.1 hst (lv_room hq) hdg hF
theorem xm_aret {own2 : String} (hX : xm_X p m meth c cc nL s args Ts own (some (.object own2)) D L g A) {k : Nat} (hdg : decode cc pc = .ok (.areturn, 1)) : xm_J p l e R s m args below meth c nL D L g A (xm_Z below args s D L g A (xm_Fr g)) pc lv [.ref (g.1 k)] M (some (k, M)) := fun r hr ls H locs hl hP hSS => by
  cases hr
  exact W.aret (v := .ref (g.1 k)) hX.1.1 hX.1.2.1 hX.2.1 (Or.inl ⟨_, rfl⟩) (Or.inr ⟨_, rfl⟩) (fun t ht hW => ⟨rfl, by rw [ht]; exact hP, hSS.F ht⟩) hSS.2.2 hdg hX.2.2.1
theorem xm_calli {f : Option (Int32 × xm_M)} {K : Int32 → xm_M → Option ρ} {st0 : List Value} {a : Array Value} (hX : xm_X p m meth c cc nL s args Ts own ret D L g A)
    (hrun : ∀ r1, f = some r1 → ∀ (ls : Array Slot) (H : Heap) (locs : List Loc), lv_has ls nL lv → va_P D vwCl (xm_w L g M) H → va_S A s.heap H locs → va_Run p l e R s m args below meth c H locs Fn.2.1 Fn.2.2 0 0 (F0 m pc ls st0) rest (xm_Q D L g (xm_A L g H.size) (xm_Fi g r1) a) (xm_A L g H.size))
    (kk : ∀ (x : Int32) (M1 : xm_M), xm_J p l e R s m args below meth c nL D L g A Fn (pc + 3) lv (.int x :: rest) M1 (K x M1)) : xm_J p l e R s m args below meth c nL D L g A Fn pc lv st0 M (xm_bi f K) := xm_call hX hrun (fun r1 _ => kk r1.1 r1.2)
theorem xm_calll {f : Option (Int64 × xm_M)} {K : Int64 → xm_M → Option ρ} {st0 : List Value} {a : Array Value} (hX : xm_X p m meth c cc nL s args Ts own ret D L g A)
    (hrun : ∀ r1, f = some r1 → ∀ (ls : Array Slot) (H : Heap) (locs : List Loc), lv_has ls nL lv → va_P D vwCl (xm_w L g M) H → va_S A s.heap H locs → va_Run p l e R s m args below meth c H locs Fn.2.1 Fn.2.2 0 0 (F0 m pc ls st0) rest (xm_Q D L g (xm_A L g H.size) (xm_Fl g r1) a) (xm_A L g H.size))
    (kk : ∀ (x : Int64) (M1 : xm_M), xm_J p l e R s m args below meth c nL D L g A Fn (pc + 3) lv (.long x :: rest) M1 (K x M1)) : xm_J p l e R s m args below meth c nL D L g A Fn pc lv st0 M (xm_bl f K) := xm_call hX hrun (fun r1 _ => kk r1.1 r1.2)
theorem xm_callv {f : Option xm_M} {K : xm_M → Option ρ} {st0 : List Value} {a : Array Value} (hX : xm_X p m meth c cc nL s args Ts own ret D L g A)
    (hrun : ∀ r1, f = some r1 → ∀ (ls : Array Slot) (H : Heap) (locs : List Loc), lv_has ls nL lv → va_P D vwCl (xm_w L g M) H → va_S A s.heap H locs → va_Run p l e R s m args below meth c H locs Fn.2.1 Fn.2.2 0 0 (F0 m pc ls st0) rest (xm_Q D L g (xm_A L g H.size) (xm_Fv g r1) a) (xm_A L g H.size))
    (kk : ∀ (M1 : xm_M), xm_J p l e R s m args below meth c nL D L g A Fn (pc + 3) lv rest M1 (K M1)) : xm_J p l e R s m args below meth c nL D L g A Fn pc lv st0 M (xm_bv f K) := xm_call hX hrun (fun r1 _ => kk r1)
theorem xm_callr {f : Option (Nat × xm_M)} {K : Nat → xm_M → Option ρ} {st0 : List Value} {a : Array Value} (hX : xm_X p m meth c cc nL s args Ts own ret D L g A)
    (hrun : ∀ r1, f = some r1 → ∀ (ls : Array Slot) (H : Heap) (locs : List Loc), lv_has ls nL lv → va_P D vwCl (xm_w L g M) H → va_S A s.heap H locs → va_Run p l e R s m args below meth c H locs Fn.2.1 Fn.2.2 0 0 (F0 m pc ls st0) rest (xm_Q D L g (xm_A L g H.size) (xm_Fr g r1) a) (xm_A L g H.size))
    (kk : ∀ (x : Nat) (M1 : xm_M), xm_J p l e R s m args below meth c nL D L g A Fn (pc + 3) lv (.ref (g.1 x) :: rest) M1 (K x M1)) : xm_J p l e R s m args below meth c nL D L g A Fn pc lv st0 M (xm_br f K) := xm_call hX hrun (fun r1 _ => kk r1.1 r1.2)
theorem xm_weak {st : List Value} (is : List Nat) (h : lv_pick lv is = lv') (k : xm_J p l e R s m args below meth c nL D L g A Fn pc lv' st M X) : xm_J p l e R s m args below meth c nL D L g A Fn pc lv st M X := fun r hr ls H locs hl hP hS => k r hr ls H locs (lv_sub hl is h) hP hS
theorem xm_lv {st : List Value} (h : lv = lv') (k : xm_J p l e R s m args below meth c nL D L g A Fn pc lv' st M X) : xm_J p l e R s m args below meth c nL D L g A Fn pc lv st M X := h ▸ k
/-! the script, a new array, the law's own end -/
/-- the script stands: L ints xs at the cell b, which is none of the world's -/
def xm_Sc (b Ls : Nat) (xs : Nat → Int32) (s : State) (A : Nat → Prop) : Prop := va_X b Ls xs s s.heap ∧ b < s.heap.size ∧ ¬ A b ∧ Ls ≤ 260
theorem xm_slen (hX : xm_X p m meth c cc nL s args Ts own ret D L g A) {b Ls : Nat} {xs : Nat → Int32} (hs : xm_Sc b Ls xs s A) (hdg : decode cc pc = .ok (.arraylength, 1)) (kk : xm_J p l e R s m args below meth c nL D L g A Fn (pc + 1) lv (.int (Int32.ofNat Ls) :: rest) M X) : xm_J p l e R s m args below meth c nL D L g A Fn pc lv (.ref b :: rest) M X := fun r hr ls H locs hl hP hS => va_slen hX.1.1 hX.1.2.1 hs.1 hs.2.1 hs.2.2.1 hS hdg (kk r hr ls H locs hl hP hS)
theorem xm_sld (hX : xm_X p m meth c cc nL s args Ts own ret D L g A) {b Ls : Nat} {xs : Nat → Int32} (hs : xm_Sc b Ls xs s A) {i : Int32} (hi : vp_in i Ls) (hdg : decode cc pc = .ok (.iaload, 1)) (kk : xm_J p l e R s m args below meth c nL D L g A Fn (pc + 1) lv (.int (xs i.toNatClampNeg) :: rest) M X) : xm_J p l e R s m args below meth c nL D L g A Fn pc lv (.int i :: .ref b :: rest) M X := fun r hr ls H locs hl hP hS => va_sld hX.1.1 hX.1.2.1 hs.1 hs.2.1 hs.2.2.1 hS hi hdg (kk r hr ls H locs hl hP hS)
/-- a call that makes mc cells of ms elements -/
theorem xm_callM {mc ms : Nat} {f : Option (Int32 × xm_M)} {K : Int32 → xm_M → Option ρ} {st0 : List Value} {a : Array Value} (hX : xm_X p m meth c cc nL s args Ts own ret D L g A)
    (hrun : ∀ r1, f = some r1 → ∀ (ls : Array Slot) (H : Heap) (locs : List Loc), lv_has ls nL lv → va_P D vwCl (xm_w L g M) H → va_S A s.heap H locs → va_Run p l e R s m args below meth c H locs Fn.2.1 Fn.2.2 mc ms (F0 m pc ls st0) rest (xm_Q D L g (xm_A L g H.size) (xm_Fi g r1) a) (xm_A L g H.size))
    (kk : ∀ (x : Int32) (M1 : xm_M), xm_J p l e R s m args below meth c nL D L g A (Fn.1, Fn.2.1 + mc, Fn.2.2 + ms) (pc + 3) lv (.int x :: rest) M1 (K x M1)) : xm_J p l e R s m args below meth c nL D L g A Fn pc lv st0 M (xm_bi f K) := by
  intro r hr ls H locs hl hP hS
  cases hf : f with
  | none => rw [hf] at hr; cases hr
  | some r1 =>
    rw [hf] at hr
    intro T hT X
    obtain ⟨v, st₀, t, T', L', h0, X', hL, e1, e2, ⟨hv, hP1, hz, hk⟩, stp⟩ := hrun r1 hf ls H locs hl hP hS T hT X
    rw [h0] at hz hk
    cases hv
    obtain ⟨t2, a1, b1⟩ := kk r1.1 r1.2 r hr ls T'.heap (locs ++ L') hl (by rw [e1]; exact hP1)
      ⟨Nat.le_trans hS.1 (by rw [e1]; exact hz), fun q h1 h2 => by rw [e1, hk q (Nat.lt_of_lt_of_le h1 hS.1) (fun z => h2 (xm_sub hX hS q z))]; exact hS.2.1 q h1 h2, fun q hq => by
        rcases List.mem_append.mp hq with h | h
        · exact hS.2.2 q h
        · exact xm_sub hX hS _ (hL q h)⟩ T' rfl X'
    exact ⟨t2, stp t2 a1, b1⟩
end XM
/-! words of a call, out of the one list -/
theorem xm_gS {c0 : Cond} {own : String} {index : Nat} {y : MethodName} {bytes : ByteArray} {maxL : Nat} {rt : Option FieldType} (h1 : Cond.methodLink own index y ∈ lw_gd) (h2 : Cond.static y ∈ lw_gd) (h3 : Cond.initialized y.cls ∈ lw_gd) (h4 : Cond.code y bytes maxL rt ∈ lw_gd) : GoodIn (c0 :: lw_gd) (va_wsS own index y (Cond.code y bytes maxL rt :: lw_gd)) := by
  intro w hw
  have hm : w ∈ lw_gd := by
    rcases List.mem_append.mp hw with h | h
    · rcases List.mem_cons.mp h with rfl | h
      · exact h1
      · rcases List.mem_cons.mp h with rfl | h
        · exact h2
        · rw [List.mem_singleton.mp h]; exact h3
    · rcases List.mem_cons.mp h with rfl | h
      · exact h4
      · exact h
  exact ⟨List.mem_cons_of_mem _ hm, lw_gd_good w hm⟩
theorem xm_gN {c0 : Cond} {y : MethodName} {bytes : ByteArray} {maxL : Nat} {rt : Option FieldType} (h4 : Cond.code y bytes maxL rt ∈ lw_gd) : GoodIn (c0 :: lw_gd) (Cond.code y bytes maxL rt :: lw_gd) := by
  intro w hw
  have hm : w ∈ lw_gd := by
    rcases List.mem_cons.mp hw with rfl | h
    · exact h4
    · exact h
  exact ⟨List.mem_cons_of_mem _ hm, lw_gd_good w hm⟩
theorem xm_gV {c0 : Cond} {own C : String} {index : Nat} {y : MethodName} {bytes : ByteArray} {maxL : Nat} {rt : Option FieldType} (h1 : Cond.methodLink own index y ∈ lw_gd) (h2 : Cond.instanceMethod y ∈ lw_gd) (h3 : Cond.selects C y y ∈ lw_gd) (h0 : Cond.initialized C ∈ lw_gd) (h4 : Cond.code y bytes maxL rt ∈ lw_gd) : GoodIn (c0 :: lw_gd) (wsV own index C y (Cond.code y bytes maxL rt :: lw_gd)) := by
  intro w hw
  have hm : w ∈ lw_gd := by
    rcases List.mem_append.mp hw with h | h
    · rcases List.mem_cons.mp h with rfl | h
      · exact h1
      · rcases List.mem_cons.mp h with rfl | h
        · exact h2
        · rcases List.mem_cons.mp h with rfl | h
          · exact h3
          · rw [List.mem_singleton.mp h]; exact h0
    · rcases List.mem_cons.mp h with rfl | h
      · exact h4
      · exact h
  exact ⟨List.mem_cons_of_mem _ hm, lw_gd_good w hm⟩
end
