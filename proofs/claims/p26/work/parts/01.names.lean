-- ===== PART A: goes FIRST, ahead of the names: the tables' words, and 'selects' of the private methods out of them =====
/-- a private method of a class that the tables say can be made, by its rows of tables_1 -/
def lw_okq (q : MethodName × Nat) : Prop := (q.1.cls ≠ "java/lang/invoke/MethodHandle" ∧ q.1.cls ≠ "java/lang/invoke/VarHandle") ∧ Cond.instantiable q.1.cls q.2 ∈ tables_1 ∧ Cond.privateMethod q.1 ∈ tables_1 ∧ Cond.instanceMethod q.1 ∈ tables_1
theorem lw_p0 : lw_okq (⟨"TippingBeam", "makeMove", "(II)I"⟩, 9) := ⟨⟨by decide +kernel, by decide +kernel⟩, List.mem_of_getElem? (i := 9) (by decide +kernel), List.mem_of_getElem? (i := 139) (by decide +kernel), List.mem_of_getElem? (i := 140) (by decide +kernel)⟩
theorem lw_p1 : lw_okq (⟨"TippingBeam$History", "dropOldest", "()V"⟩, 2) := ⟨⟨by decide +kernel, by decide +kernel⟩, List.mem_of_getElem? (i := 61) (by decide +kernel), List.mem_of_getElem? (i := 184) (by decide +kernel), List.mem_of_getElem? (i := 185) (by decide +kernel)⟩
theorem lw_p2 : lw_okq (⟨"TippingBeam$Beam", "weightAt", "(II)I"⟩, 12) := ⟨⟨by decide +kernel, by decide +kernel⟩, List.mem_of_getElem? (i := 17) (by decide +kernel), List.mem_of_getElem? (i := 213) (by decide +kernel), List.mem_of_getElem? (i := 214) (by decide +kernel)⟩
theorem lw_p3 : lw_okq (⟨"TippingBeam$Beam", "takeFrom", "(I)I"⟩, 12) := ⟨⟨by decide +kernel, by decide +kernel⟩, List.mem_of_getElem? (i := 17) (by decide +kernel), List.mem_of_getElem? (i := 230) (by decide +kernel), List.mem_of_getElem? (i := 231) (by decide +kernel)⟩
theorem lw_p4 : lw_okq (⟨"TippingBeam$Beam", "sideBehind", "(I)I"⟩, 12) := ⟨⟨by decide +kernel, by decide +kernel⟩, List.mem_of_getElem? (i := 17) (by decide +kernel), List.mem_of_getElem? (i := 234) (by decide +kernel), List.mem_of_getElem? (i := 235) (by decide +kernel)⟩
def lw_privs_1 : List (MethodName × Nat) := [(⟨"TippingBeam", "makeMove", "(II)I"⟩, 9), (⟨"TippingBeam$History", "dropOldest", "()V"⟩, 2), (⟨"TippingBeam$Beam", "weightAt", "(II)I"⟩, 12), (⟨"TippingBeam$Beam", "takeFrom", "(I)I"⟩, 12), (⟨"TippingBeam$Beam", "sideBehind", "(I)I"⟩, 12)]
theorem lw_r1 : ∀ q ∈ lw_privs_1, lw_okq q := List.forall_mem_cons.mpr ⟨lw_p0, List.forall_mem_cons.mpr ⟨lw_p1, List.forall_mem_cons.mpr ⟨lw_p2, List.forall_mem_cons.mpr ⟨lw_p3, List.forall_mem_cons.mpr ⟨lw_p4, fun _ h => absurd h List.not_mem_nil⟩⟩⟩⟩⟩
def lw_privs : List (MethodName × Nat) := lw_privs_1
def lw_tbl : List Cond := k2_sels lw_privs ++ tables_1
theorem lw_privs_ok : ∀ q ∈ lw_privs, lw_okq q := lw_r1

def RX0 : String := "TippingBeam$Beam"
def TX0 : u_T := fun k => match k with
  | 0 => ("TippingBeam$Beam", "stacks", "[I", true)
  | 1 => ("TippingBeam$Beam", "heights", "[I", true)
  | 2 => ("TippingBeam$Beam", "bags", "[I", true)
  | 3 => ("TippingBeam$Beam", "settings", "[I", true)
  | 4 => ("TippingBeam$Beam", "moves", "[I", true)
  | 5 => ("TippingBeam$Beam", "side", "I", false)
  | 6 => ("TippingBeam$Beam", "latestSide", "I", false)
  | 7 => ("TippingBeam$Beam", "movedTo", "I", false)
  | 8 => ("TippingBeam$Beam", "turn", "I", false)
  | 9 => ("TippingBeam$Beam", "told", "I", false)
  | 10 => ("TippingBeam$Beam", "greatest", "I", false)
  | _ => ("TippingBeam$Beam", "moveCount", "I", false)
def tyX0 : Nat → FieldType := fun k => match k with
  | 0 => .array .int
  | 1 => .array .int
  | 2 => .array .int
  | 3 => .array .int
  | 4 => .array .int
  | 5 => .int
  | 6 => .int
  | 7 => .int
  | 8 => .int
  | 9 => .int
  | 10 => .int
  | _ => .int
abbrev wsX00 : List Cond := u_ws RX0 TX0 12
theorem nmX0 : ∀ a, a < 12 → ∀ b, b < 12 → a ≠ b → (TX0 a).2.1 ≠ (TX0 b).2.1 := by decide +kernel
theorem tyX0_ok : ∀ k, k < 12 → parseFieldDescriptor (TX0 k).2.2.1 = some (tyX0 k) := by decide +kernel
abbrev cX0_init : ByteArray := prog_2_method_1_code
def yX0_init : MethodName := ⟨RX0, "<init>", "()V"⟩
abbrev cX0_copyFrom : ByteArray := prog_2_method_2_code
def yX0_copyFrom : MethodName := ⟨RX0, "copyFrom", "(LTippingBeam$Beam;)V"⟩
abbrev cX0_empty : ByteArray := prog_2_method_3_code
def yX0_empty : MethodName := ⟨RX0, "empty", "()V"⟩
abbrev cX0_isPlace : ByteArray := prog_2_method_4_code
def yX0_isPlace : MethodName := ⟨RX0, "isPlace", "(I)Z"⟩
abbrev cX0_isWeight : ByteArray := prog_2_method_5_code
def yX0_isWeight : MethodName := ⟨RX0, "isWeight", "(I)Z"⟩
abbrev cX0_isSide : ByteArray := prog_2_method_6_code
def yX0_isSide : MethodName := ⟨RX0, "isSide", "(I)Z"⟩
abbrev cX0_isSetting : ByteArray := prog_2_method_7_code
def yX0_isSetting : MethodName := ⟨RX0, "isSetting", "(I)Z"⟩
abbrev cX0_leastOfSetting : ByteArray := prog_2_method_8_code
def yX0_leastOfSetting : MethodName := ⟨RX0, "leastOfSetting", "(I)I"⟩
abbrev cX0_mostOfSetting : ByteArray := prog_2_method_9_code
def yX0_mostOfSetting : MethodName := ⟨RX0, "mostOfSetting", "(I)I"⟩
abbrev cX0_numberOf : ByteArray := prog_2_method_10_code
def yX0_numberOf : MethodName := ⟨RX0, "numberOf", "(I)I"⟩
abbrev cX0_placeOf : ByteArray := prog_2_method_11_code
def yX0_placeOf : MethodName := ⟨RX0, "placeOf", "(I)I"⟩
abbrev cX0_slotOf : ByteArray := prog_2_method_12_code
def yX0_slotOf : MethodName := ⟨RX0, "slotOf", "(I)I"⟩
abbrev cX0_heightAt : ByteArray := prog_2_method_13_code
def yX0_heightAt : MethodName := ⟨RX0, "heightAt", "(I)I"⟩
abbrev cX0_weightAt : ByteArray := prog_2_method_14_code
def yX0_weightAt : MethodName := ⟨RX0, "weightAt", "(II)I"⟩
abbrev cX0_uppermostAt : ByteArray := prog_2_method_15_code
def yX0_uppermostAt : MethodName := ⟨RX0, "uppermostAt", "(I)I"⟩
abbrev cX0_weightsAt : ByteArray := prog_2_method_16_code
def yX0_weightsAt : MethodName := ⟨RX0, "weightsAt", "(I)I"⟩
abbrev cX0_isFull : ByteArray := prog_2_method_17_code
def yX0_isFull : MethodName := ⟨RX0, "isFull", "(I)Z"⟩
abbrev cX0_putOn : ByteArray := prog_2_method_18_code
def yX0_putOn : MethodName := ⟨RX0, "putOn", "(II)V"⟩
abbrev cX0_takeFrom : ByteArray := prog_2_method_19_code
def yX0_takeFrom : MethodName := ⟨RX0, "takeFrom", "(I)I"⟩
abbrev cX0_tokens : ByteArray := prog_2_method_20_code
def yX0_tokens : MethodName := ⟨RX0, "tokens", "()I"⟩
abbrev cX0_weights : ByteArray := prog_2_method_21_code
def yX0_weights : MethodName := ⟨RX0, "weights", "()I"⟩
abbrev cX0_inBag : ByteArray := prog_2_method_22_code
def yX0_inBag : MethodName := ⟨RX0, "inBag", "(II)I"⟩
abbrev cX0_changeBag : ByteArray := prog_2_method_23_code
def yX0_changeBag : MethodName := ⟨RX0, "changeBag", "(III)V"⟩
abbrev cX0_setting : ByteArray := prog_2_method_24_code
def yX0_setting : MethodName := ⟨RX0, "setting", "(I)I"⟩
abbrev cX0_changeSetting : ByteArray := prog_2_method_25_code
def yX0_changeSetting : MethodName := ⟨RX0, "changeSetting", "(II)V"⟩
abbrev cX0_outcome : ByteArray := prog_2_method_26_code
def yX0_outcome : MethodName := ⟨RX0, "outcome", "()I"⟩
abbrev cX0_worth : ByteArray := prog_2_method_27_code
def yX0_worth : MethodName := ⟨RX0, "worth", "(I)I"⟩
abbrev cX0_whyNot : ByteArray := prog_2_method_28_code
def yX0_whyNot : MethodName := ⟨RX0, "whyNot", "(II)I"⟩
abbrev cX0_hindrance : ByteArray := prog_2_method_29_code
def yX0_hindrance : MethodName := ⟨RX0, "hindrance", "(II)I"⟩
abbrev cX0_targetOf : ByteArray := prog_2_method_30_code
def yX0_targetOf : MethodName := ⟨RX0, "targetOf", "(II)I"⟩
abbrev cX0_tellingOf : ByteArray := prog_2_method_31_code
def yX0_tellingOf : MethodName := ⟨RX0, "tellingOf", "(II)I"⟩
abbrev cX0_makeMove : ByteArray := prog_2_method_32_code
def yX0_makeMove : MethodName := ⟨RX0, "makeMove", "(II)V"⟩
abbrev cX0_tryMove : ByteArray := prog_2_method_33_code
def yX0_tryMove : MethodName := ⟨RX0, "tryMove", "(II)V"⟩
abbrev cX0_takeBack : ByteArray := prog_2_method_34_code
def yX0_takeBack : MethodName := ⟨RX0, "takeBack", "(IIIII)V"⟩
abbrev cX0_sideBehind : ByteArray := prog_2_method_35_code
def yX0_sideBehind : MethodName := ⟨RX0, "sideBehind", "(I)I"⟩
abbrev cX0_rowOf : ByteArray := prog_2_method_36_code
def yX0_rowOf : MethodName := ⟨RX0, "rowOf", "(I)I"⟩
abbrev cX0_isMoveKept : ByteArray := prog_2_method_37_code
def yX0_isMoveKept : MethodName := ⟨RX0, "isMoveKept", "(I)Z"⟩
abbrev cX0_partOfMove : ByteArray := prog_2_method_38_code
def yX0_partOfMove : MethodName := ⟨RX0, "partOfMove", "(II)I"⟩
abbrev cX0_possibleMoves : ByteArray := prog_2_method_39_code
def yX0_possibleMoves : MethodName := ⟨RX0, "possibleMoves", "()I"⟩
abbrev cX0_safeMoves : ByteArray := prog_2_method_40_code
def yX0_safeMoves : MethodName := ⟨RX0, "safeMoves", "()I"⟩
abbrev cX0_side : ByteArray := prog_2_method_41_code
def yX0_side : MethodName := ⟨RX0, "side", "()I"⟩
abbrev cX0_latestSide : ByteArray := prog_2_method_42_code
def yX0_latestSide : MethodName := ⟨RX0, "latestSide", "()I"⟩
abbrev cX0_movedTo : ByteArray := prog_2_method_43_code
def yX0_movedTo : MethodName := ⟨RX0, "movedTo", "()I"⟩
abbrev cX0_turn : ByteArray := prog_2_method_44_code
def yX0_turn : MethodName := ⟨RX0, "turn", "()I"⟩
abbrev cX0_toldByMoves : ByteArray := prog_2_method_45_code
def yX0_toldByMoves : MethodName := ⟨RX0, "toldByMoves", "()I"⟩
abbrev cX0_greatestTurn : ByteArray := prog_2_method_46_code
def yX0_greatestTurn : MethodName := ⟨RX0, "greatestTurn", "()I"⟩
abbrev cX0_moveCount : ByteArray := prog_2_method_47_code
def yX0_moveCount : MethodName := ⟨RX0, "moveCount", "()I"⟩
def RX1 : String := "TippingBeam$History"
def TX1 : u_T := fun k => match k with
  | 0 => ("TippingBeam$History", "states", "[LTippingBeam$Beam;", true)
  | _ => ("TippingBeam$History", "size", "I", false)
def tyX1 : Nat → FieldType := fun k => match k with
  | 0 => .array (.object "TippingBeam$Beam")
  | _ => .int
abbrev wsX10 : List Cond := u_ws RX1 TX1 2
theorem nmX1 : ∀ a, a < 2 → ∀ b, b < 2 → a ≠ b → (TX1 a).2.1 ≠ (TX1 b).2.1 := by decide +kernel
theorem tyX1_ok : ∀ k, k < 2 → parseFieldDescriptor (TX1 k).2.2.1 = some (tyX1 k) := by decide +kernel
abbrev cX1_init : ByteArray := prog_3_method_1_code
def yX1_init : MethodName := ⟨RX1, "<init>", "()V"⟩
abbrev cX1_size : ByteArray := prog_3_method_2_code
def yX1_size : MethodName := ⟨RX1, "size", "()I"⟩
abbrev cX1_remember : ByteArray := prog_3_method_3_code
def yX1_remember : MethodName := ⟨RX1, "remember", "(LTippingBeam$Beam;)V"⟩
abbrev cX1_dropOldest : ByteArray := prog_3_method_4_code
def yX1_dropOldest : MethodName := ⟨RX1, "dropOldest", "()V"⟩
def RX2 : String := "TippingBeam$MoveText"
def TX2 : u_T := fun k => match k with
  | 0 => ("TippingBeam$MoveText", "characters", "[C", true)
  | 1 => ("TippingBeam$MoveText", "numbers", "[I", true)
  | 2 => ("TippingBeam$MoveText", "places", "[I", true)
  | 3 => ("TippingBeam$MoveText", "length", "I", false)
  | 4 => ("TippingBeam$MoveText", "moves", "I", false)
  | 5 => ("TippingBeam$MoveText", "number", "I", false)
  | 6 => ("TippingBeam$MoveText", "digit", "I", false)
  | _ => ("TippingBeam$MoveText", "negative", "Z", false)
def tyX2 : Nat → FieldType := fun k => match k with
  | 0 => .array .char
  | 1 => .array .int
  | 2 => .array .int
  | 3 => .int
  | 4 => .int
  | 5 => .int
  | 6 => .int
  | _ => .boolean
abbrev wsX20 : List Cond := u_ws RX2 TX2 8
theorem nmX2 : ∀ a, a < 8 → ∀ b, b < 8 → a ≠ b → (TX2 a).2.1 ≠ (TX2 b).2.1 := by decide +kernel
theorem tyX2_ok : ∀ k, k < 8 → parseFieldDescriptor (TX2 k).2.2.1 = some (tyX2 k) := by decide +kernel
abbrev cX2_init : ByteArray := prog_4_method_1_code
def yX2_init : MethodName := ⟨RX2, "<init>", "()V"⟩
abbrev cX2_length : ByteArray := prog_4_method_2_code
def yX2_length : MethodName := ⟨RX2, "length", "()I"⟩
def RX3 : String := "TippingBeam$Search"
def TX3 : u_T := fun k => match k with
  | _ => ("", "", "", false)
def tyX3 : Nat → FieldType := fun k => match k with
  | _ => .int
abbrev wsX30 : List Cond := u_ws RX3 TX3 0
theorem nmX3 : ∀ a, a < 0 → ∀ b, b < 0 → a ≠ b → (TX3 a).2.1 ≠ (TX3 b).2.1 := by decide +kernel
theorem tyX3_ok : ∀ k, k < 0 → parseFieldDescriptor (TX3 k).2.2.1 = some (tyX3 k) := by decide +kernel
abbrev cX3_lookAhead : ByteArray := prog_5_method_2_code
def yX3_lookAhead : MethodName := ⟨RX3, "lookAhead", "(LTippingBeam$Beam;I)I"⟩
abbrev cX3_bestRank : ByteArray := prog_5_method_3_code
def yX3_bestRank : MethodName := ⟨RX3, "bestRank", "(LTippingBeam$Beam;I)I"⟩
abbrev cX3_ahead : ByteArray := prog_5_method_4_code
def yX3_ahead : MethodName := ⟨RX3, "ahead", "(LTippingBeam$Beam;III)I"⟩
abbrev cX3_behind : ByteArray := prog_5_method_5_code
def yX3_behind : MethodName := ⟨RX3, "behind", "(LTippingBeam$Beam;IIIII)I"⟩
def RX4 : String := "TippingBeam"
def TX4 : u_T := fun k => match k with
  | 0 => ("TippingBeam", "beam", "LTippingBeam$Beam;", true)
  | 1 => ("TippingBeam", "trial", "LTippingBeam$Beam;", true)
  | 2 => ("TippingBeam", "snapshot", "LTippingBeam$Beam;", true)
  | 3 => ("TippingBeam", "history", "LTippingBeam$History;", true)
  | 4 => ("TippingBeam", "text", "LTippingBeam$MoveText;", true)
  | 5 => ("TippingBeam", "snapshotTaken", "Z", false)
  | 6 => ("TippingBeam", "everStopped", "Z", false)
  | 7 => ("TippingBeam", "stoppedMove", "I", false)
  | _ => ("TippingBeam", "stoppedReason", "I", false)
def tyX4 : Nat → FieldType := fun k => match k with
  | 0 => .object "TippingBeam$Beam"
  | 1 => .object "TippingBeam$Beam"
  | 2 => .object "TippingBeam$Beam"
  | 3 => .object "TippingBeam$History"
  | 4 => .object "TippingBeam$MoveText"
  | 5 => .boolean
  | 6 => .boolean
  | 7 => .int
  | _ => .int
abbrev wsX40 : List Cond := u_ws RX4 TX4 9
theorem nmX4 : ∀ a, a < 9 → ∀ b, b < 9 → a ≠ b → (TX4 a).2.1 ≠ (TX4 b).2.1 := by decide +kernel
theorem tyX4_ok : ∀ k, k < 9 → parseFieldDescriptor (TX4 k).2.2.1 = some (tyX4 k) := by decide +kernel
abbrev cX4_init : ByteArray := prog_1_method_1_code
def yX4_init : MethodName := ⟨RX4, "<init>", "()V"⟩
abbrev cX4_lay : ByteArray := prog_1_method_2_code
def yX4_lay : MethodName := ⟨RX4, "lay", "(II)I"⟩
abbrev cX4_push : ByteArray := prog_1_method_3_code
def yX4_push : MethodName := ⟨RX4, "push", "(IZ)I"⟩
abbrev cX4_makeMove : ByteArray := prog_1_method_5_code
def yX4_makeMove : MethodName := ⟨RX4, "makeMove", "(II)I"⟩
abbrev cX4_setBag : ByteArray := prog_1_method_6_code
def yX4_setBag : MethodName := ⟨RX4, "setBag", "(III)I"⟩
abbrev cX4_set : ByteArray := prog_1_method_7_code
def yX4_set : MethodName := ⟨RX4, "set", "(II)I"⟩
abbrev cX4_setUp : ByteArray := prog_1_method_8_code
def yX4_setUp : MethodName := ⟨RX4, "setUp", "(II)I"⟩
abbrev cX4_begin : ByteArray := prog_1_method_9_code
def yX4_begin : MethodName := ⟨RX4, "begin", "()I"⟩
abbrev cX4_at : ByteArray := prog_1_method_17_code
def yX4_at : MethodName := ⟨RX4, "at", "(II)I"⟩
abbrev cX4_bag : ByteArray := prog_1_method_18_code
def yX4_bag : MethodName := ⟨RX4, "bag", "(II)I"⟩
abbrev cX4_reason : ByteArray := prog_1_method_19_code
def yX4_reason : MethodName := ⟨RX4, "reason", "(II)I"⟩
abbrev cX4_possible : ByteArray := prog_1_method_20_code
def yX4_possible : MethodName := ⟨RX4, "possible", "(I)I"⟩
abbrev cX4_look : ByteArray := prog_1_method_21_code
def yX4_look : MethodName := ⟨RX4, "look", "(I)I"⟩
abbrev cX4_best : ByteArray := prog_1_method_22_code
def yX4_best : MethodName := ⟨RX4, "best", "(I)I"⟩
abbrev cX4_levels : ByteArray := prog_1_method_23_code
def yX4_levels : MethodName := ⟨RX4, "levels", "(I)I"⟩
abbrev cX4_made : ByteArray := prog_1_method_24_code
def yX4_made : MethodName := ⟨RX4, "made", "(II)I"⟩
abbrev cX4_count : ByteArray := prog_1_method_25_code
def yX4_count : MethodName := ⟨RX4, "count", "(I)I"⟩
abbrev cX4_tellMove : ByteArray := prog_1_method_26_code
def yX4_tellMove : MethodName := ⟨RX4, "tellMove", "(I)I"⟩
def RX5 : String := "TippingBeamModel"
def TX5 : u_T := fun k => match k with
  | _ => ("", "", "", false)
def tyX5 : Nat → FieldType := fun k => match k with
  | _ => .int
abbrev wsX50 : List Cond := u_ws RX5 TX5 0
theorem nmX5 : ∀ a, a < 0 → ∀ b, b < 0 → a ≠ b → (TX5 a).2.1 ≠ (TX5 b).2.1 := by decide +kernel
theorem tyX5_ok : ∀ k, k < 0 → parseFieldDescriptor (TX5 k).2.2.1 = some (tyX5 k) := by decide +kernel
def RJ9 : String := "java/lang/Math"
def TJ9 : u_T := fun k => match k with
  | _ => ("", "", "", false)
def tyJ9 : Nat → FieldType := fun k => match k with
  | _ => .int
abbrev wsJ90 : List Cond := u_ws RJ9 TJ9 0
theorem nmJ9 : ∀ a, a < 0 → ∀ b, b < 0 → a ≠ b → (TJ9 a).2.1 ≠ (TJ9 b).2.1 := by decide +kernel
theorem tyJ9_ok : ∀ k, k < 0 → parseFieldDescriptor (TJ9 k).2.2.1 = some (tyJ9 k) := by decide +kernel
abbrev cJ9_floorMod_7cf53 : ByteArray := prog_8_method_50_code
def yJ9_floorMod_7cf53 : MethodName := ⟨RJ9, "floorMod", "(II)I"⟩
abbrev cJ9_abs_0f7a4 : ByteArray := prog_8_method_59_code
def yJ9_abs_0f7a4 : MethodName := ⟨RJ9, "abs", "(I)I"⟩
abbrev cJ9_max_7cf53 : ByteArray := prog_8_method_65_code
def yJ9_max_7cf53 : MethodName := ⟨RJ9, "max", "(II)I"⟩
def RJ10 : String := "java/lang/System"
def TJ10 : u_T := fun k => match k with
  | _ => ("", "", "", false)
def tyJ10 : Nat → FieldType := fun k => match k with
  | _ => .int
abbrev wsJ100 : List Cond := u_ws RJ10 TJ10 0
theorem nmJ10 : ∀ a, a < 0 → ∀ b, b < 0 → a ≠ b → (TJ10 a).2.1 ≠ (TJ10 b).2.1 := by decide +kernel
theorem tyJ10_ok : ∀ k, k < 0 → parseFieldDescriptor (TJ10 k).2.2.1 = some (tyJ10 k) := by decide +kernel
def RL : String := "TippingBeamLaw"
abbrev cL_cell : ByteArray := method_2_code
def yL_cell : MethodName := ⟨RL, "cell", "([II)I"⟩
abbrev cL_low : ByteArray := method_3_code
def yL_low : MethodName := ⟨RL, "low", "(II)I"⟩
abbrev cL_place : ByteArray := method_4_code
def yL_place : MethodName := ⟨RL, "place", "(I)I"⟩
abbrev cL_index : ByteArray := method_5_code
def yL_index : MethodName := ⟨RL, "index", "(I)I"⟩
abbrev cL_turn : ByteArray := method_6_code
def yL_turn : MethodName := ⟨RL, "turn", "([I)I"⟩
abbrev cL_all : ByteArray := method_7_code
def yL_all : MethodName := ⟨RL, "all", "([II)I"⟩
abbrev cL_result : ByteArray := method_8_code
def yL_result : MethodName := ⟨RL, "result", "([I[I[I)I"⟩
abbrev cL_goal : ByteArray := method_9_code
def yL_goal : MethodName := ⟨RL, "goal", "(II)I"⟩
abbrev cL_why : ByteArray := method_10_code
def yL_why : MethodName := ⟨RL, "why", "([I[I[III)I"⟩
abbrev cL_put : ByteArray := method_11_code
def yL_put : MethodName := ⟨RL, "put", "([III)V"⟩
abbrev cL_move : ByteArray := method_12_code
def yL_move : MethodName := ⟨RL, "move", "([I[I[III)V"⟩
abbrev cL_copy : ByteArray := method_13_code
def yL_copy : MethodName := ⟨RL, "copy", "([I[I)V"⟩
abbrev cL_order : ByteArray := method_14_code
def yL_order : MethodName := ⟨RL, "order", "(I)I"⟩
abbrev cL_told : ByteArray := method_15_code
def yL_told : MethodName := ⟨RL, "told", "([I[I[II)I"⟩
abbrev cL_one : ByteArray := method_16_code
def yL_one : MethodName := ⟨RL, "one", "([I[I[I[I)I"⟩
abbrev cL_two : ByteArray := method_17_code
def yL_two : MethodName := ⟨RL, "two", "([I[I[I[I)I"⟩
abbrev cL_tells : ByteArray := method_18_code
def yL_tells : MethodName := ⟨RL, "tells", "(LTippingBeam;[I[I[I)Z"⟩
abbrev cL_looks : ByteArray := method_19_code
def yL_looks : MethodName := ⟨RL, "looks", "(LTippingBeam;[I[I[IZ)Z"⟩
abbrev cL_law : ByteArray := code
def yL_law : MethodName := ⟨RL, "law", "([I)Z"⟩
abbrev vwCl : List vw_C := [(RX0, TX0, 12), (RX1, TX1, 2), (RX2, TX2, 8), (RX4, TX4, 9)]
