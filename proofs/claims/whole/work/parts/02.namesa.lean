/-! ===== BEGIN printed: names, fields, word lists, decode rows ===== -/
def RX0 : String := "PileMoves$Blow"
def TX0 : u_T := fun k => match k with
  | 0 => ("PileMoves$Blow", "pieces", "I", false)
  | 1 => ("PileMoves$Blow", "deepest", "I", false)
  | 2 => ("PileMoves$Blow", "places", "[I", true)
  | 3 => ("PileMoves$Blow", "speeds", "[I", true)
  | 4 => ("PileMoves$Blow", "pushes", "[J", true)
  | _ => ("PileMoves$Blow", "waves", "[I", true)
def tyX0 : Nat → FieldType := fun k => match k with
  | 0 => .int
  | 1 => .int
  | 2 => .array .int
  | 3 => .array .int
  | 4 => .array .long
  | _ => .array .int
abbrev wsX00 : List Cond := u_ws RX0 TX0 6
theorem nmX0 : ∀ a, a < 6 → ∀ b, b < 6 → a ≠ b → (TX0 a).2.1 ≠ (TX0 b).2.1 := by decide +kernel
theorem tyX0_ok : ∀ k, k < 6 → parseFieldDescriptor (TX0 k).2.2.1 = some (tyX0 k) := by decide +kernel
abbrev cX0_init : ByteArray := prog_2_method_1_code
def yX0_init : MethodName := ⟨RX0, "<init>", "()V"⟩
abbrev cX0_happened : ByteArray := prog_2_method_2_code
def yX0_happened : MethodName := ⟨RX0, "happened", "()Z"⟩
abbrev cX0_behindRound : ByteArray := prog_2_method_3_code
def yX0_behindRound : MethodName := ⟨RX0, "behindRound", "(II)I"⟩
abbrev cX0_settled : ByteArray := prog_2_method_4_code
def yX0_settled : MethodName := ⟨RX0, "settled", "(LPileMoves$Pile;)I"⟩
abbrev cX0_strike : ByteArray := prog_2_method_5_code
def yX0_strike : MethodName := ⟨RX0, "strike", "(LPileMoves$Pile;II)V"⟩
abbrev cX0_gatherPushes : ByteArray := prog_2_method_6_code
def yX0_gatherPushes : MethodName := ⟨RX0, "gatherPushes", "(LPileMoves$Pile;)V"⟩
abbrev cX0_press : ByteArray := prog_2_method_7_code
def yX0_press : MethodName := ⟨RX0, "press", "(IIJ)V"⟩
abbrev cX0_move : ByteArray := prog_2_method_8_code
def yX0_move : MethodName := ⟨RX0, "move", "(II)V"⟩
def RX1 : String := "PileMoves$Pile"
def TX1 : u_T := fun k => match k with
  | 0 => ("PileMoves$Pile", "spring", "I", true)
  | 1 => ("PileMoves$Pile", "mass", "I", true)
  | 2 => ("PileMoves$Pile", "cost", "I", true)
  | 3 => ("PileMoves$Pile", "stiff", "[I", true)
  | 4 => ("PileMoves$Pile", "most", "[I", true)
  | 5 => ("PileMoves$Pile", "sunk", "[I", true)
  | 6 => ("PileMoves$Pile", "tipStiff", "I", false)
  | 7 => ("PileMoves$Pile", "tipMost", "I", false)
  | _ => ("PileMoves$Pile", "joined", "Z", false)
def tyX1 : Nat → FieldType := fun k => match k with
  | 0 => .int
  | 1 => .int
  | 2 => .int
  | 3 => .array .int
  | 4 => .array .int
  | 5 => .array .int
  | 6 => .int
  | 7 => .int
  | _ => .boolean
abbrev wsX10 : List Cond := u_ws RX1 TX1 9
theorem nmX1 : ∀ a, a < 9 → ∀ b, b < 9 → a ≠ b → (TX1 a).2.1 ≠ (TX1 b).2.1 := by decide +kernel
theorem tyX1_ok : ∀ k, k < 9 → parseFieldDescriptor (TX1 k).2.2.1 = some (tyX1 k) := by decide +kernel
abbrev cX1_init : ByteArray := prog_3_method_1_code
def yX1_init : MethodName := ⟨RX1, "<init>", "(IIII)V"⟩
abbrev cX1_pieces : ByteArray := prog_3_method_2_code
def yX1_pieces : MethodName := ⟨RX1, "pieces", "()I"⟩
abbrev cX1_quake : ByteArray := prog_3_method_3_code
def yX1_quake : MethodName := ⟨RX1, "quake", "()J"⟩
def RX2 : String := "PileMoves$State"
def TX2 : u_T := fun k => match k with
  | 0 => ("PileMoves$State", "last", "I", false)
  | 1 => ("PileMoves$State", "place", "I", false)
  | 2 => ("PileMoves$State", "groundForce", "I", false)
  | _ => ("PileMoves$State", "forceAbove", "I", false)
def tyX2 : Nat → FieldType := fun k => match k with
  | 0 => .int
  | 1 => .int
  | 2 => .int
  | _ => .int
abbrev wsX20 : List Cond := u_ws RX2 TX2 4
theorem nmX2 : ∀ a, a < 4 → ∀ b, b < 4 → a ≠ b → (TX2 a).2.1 ≠ (TX2 b).2.1 := by decide +kernel
theorem tyX2_ok : ∀ k, k < 4 → parseFieldDescriptor (TX2 k).2.2.1 = some (tyX2 k) := by decide +kernel
abbrev cX2_init : ByteArray := prog_4_method_1_code
def yX2_init : MethodName := ⟨RX2, "<init>", "()V"⟩
abbrev cX2_findUnder : ByteArray := prog_4_method_2_code
def yX2_findUnder : MethodName := ⟨RX2, "findUnder", "(LPileMoves$Pile;I)Z"⟩
abbrev cX2_findAt : ByteArray := prog_4_method_3_code
def yX2_findAt : MethodName := ⟨RX2, "findAt", "(LPileMoves$Pile;I)Z"⟩
abbrev cX2_climb : ByteArray := prog_4_method_4_code
def yX2_climb : MethodName := ⟨RX2, "climb", "(LPileMoves$Pile;I)V"⟩
abbrev cX2_find : ByteArray := prog_4_method_5_code
def yX2_find : MethodName := ⟨RX2, "find", "(LPileMoves$Pile;IZ)Z"⟩
def RX3 : String := "PileMoves"
def TX3 : u_T := fun k => match k with
  | 0 => ("PileMoves", "piles", "[LPileMoves$Pile;", true)
  | 1 => ("PileMoves", "state", "LPileMoves$State;", true)
  | 2 => ("PileMoves", "latestBlow", "LPileMoves$Blow;", true)
  | _ => ("PileMoves", "pileCount", "I", false)
def tyX3 : Nat → FieldType := fun k => match k with
  | 0 => .array (.object "PileMoves$Pile")
  | 1 => .object "PileMoves$State"
  | 2 => .object "PileMoves$Blow"
  | _ => .int
abbrev wsX30 : List Cond := u_ws RX3 TX3 4
theorem nmX3 : ∀ a, a < 4 → ∀ b, b < 4 → a ≠ b → (TX3 a).2.1 ≠ (TX3 b).2.1 := by decide +kernel
theorem tyX3_ok : ∀ k, k < 4 → parseFieldDescriptor (TX3 k).2.2.1 = some (tyX3 k) := by decide +kernel
abbrev cX3_init : ByteArray := prog_1_method_1_code
def yX3_init : MethodName := ⟨RX3, "<init>", "()V"⟩
abbrev cX3_pile : ByteArray := prog_1_method_2_code
def yX3_pile : MethodName := ⟨RX3, "pile", "(IIII)I"⟩
abbrev cX3_ground : ByteArray := prog_1_method_3_code
def yX3_ground : MethodName := ⟨RX3, "ground", "(IIII)V"⟩
abbrev cX3_sinks : ByteArray := prog_1_method_4_code
def yX3_sinks : MethodName := ⟨RX3, "sinks", "(III)I"⟩
abbrev cX3_tip : ByteArray := prog_1_method_5_code
def yX3_tip : MethodName := ⟨RX3, "tip", "(III)V"⟩
abbrev cX3_under : ByteArray := prog_1_method_6_code
def yX3_under : MethodName := ⟨RX3, "under", "(II)I"⟩
abbrev cX3_piece : ByteArray := prog_1_method_7_code
def yX3_piece : MethodName := ⟨RX3, "piece", "(IIII)I"⟩
abbrev cX3_load : ByteArray := prog_1_method_8_code
def yX3_load : MethodName := ⟨RX3, "load", "(II)I"⟩
abbrev cX3_hold : ByteArray := prog_1_method_9_code
def yX3_hold : MethodName := ⟨RX3, "hold", "(I)I"⟩
abbrev cX3_cheapest : ByteArray := prog_1_method_10_code
def yX3_cheapest : MethodName := ⟨RX3, "cheapest", "(II)I"⟩
abbrev cX3_join : ByteArray := prog_1_method_11_code
def yX3_join : MethodName := ⟨RX3, "join", "(IZ)Z"⟩
abbrev cX3_group : ByteArray := prog_1_method_12_code
def yX3_group : MethodName := ⟨RX3, "group", "(I)I"⟩
abbrev cX3_share : ByteArray := prog_1_method_13_code
def yX3_share : MethodName := ⟨RX3, "share", "(II)I"⟩
abbrev cX3_blow : ByteArray := prog_1_method_14_code
def yX3_blow : MethodName := ⟨RX3, "blow", "(III)I"⟩
abbrev cX3_wave : ByteArray := prog_1_method_15_code
def yX3_wave : MethodName := ⟨RX3, "wave", "(II)I"⟩
abbrev cX3_checkWithin : ByteArray := prog_1_method_16_code
def yX3_checkWithin : MethodName := ⟨RX3, "checkWithin", "(III)V"⟩
abbrev cX3_checkLoad : ByteArray := prog_1_method_17_code
def yX3_checkLoad : MethodName := ⟨RX3, "checkLoad", "(I)V"⟩
abbrev cX3_checkPiece : ByteArray := prog_1_method_18_code
def yX3_checkPiece : MethodName := ⟨RX3, "checkPiece", "(LPileMoves$Pile;I)V"⟩
abbrev cX3_pileOf : ByteArray := prog_1_method_19_code
def yX3_pileOf : MethodName := ⟨RX3, "pileOf", "(I)LPileMoves$Pile;"⟩
abbrev cX3_checkGroupNotEmpty : ByteArray := prog_1_method_20_code
def yX3_checkGroupNotEmpty : MethodName := ⟨RX3, "checkGroupNotEmpty", "()V"⟩
abbrev cX3_groupSettlement : ByteArray := prog_1_method_21_code
def yX3_groupSettlement : MethodName := ⟨RX3, "groupSettlement", "(I)I"⟩
abbrev cX3_groupLoad : ByteArray := prog_1_method_22_code
def yX3_groupLoad : MethodName := ⟨RX3, "groupLoad", "(I)J"⟩
abbrev cX3_clamp : ByteArray := prog_1_method_23_code
def yX3_clamp : MethodName := ⟨RX3, "clamp", "(JII)I"⟩
def RX4 : String := "PileMovesModel"
def TX4 : u_T := fun k => match k with
  | 0 => ("PileMovesModel", "code", "I", false)
  | 1 => ("PileMovesModel", "piles", "I", false)
  | 2 => ("PileMovesModel", "many", "[I", true)
  | 3 => ("PileMovesModel", "springs", "[J", true)
  | 4 => ("PileMovesModel", "masses", "[J", true)
  | 5 => ("PileMovesModel", "costs", "[I", true)
  | 6 => ("PileMovesModel", "stiff", "[J", true)
  | 7 => ("PileMovesModel", "most", "[J", true)
  | 8 => ("PileMovesModel", "sinks", "[J", true)
  | 9 => ("PileMovesModel", "tipStiff", "[J", true)
  | 10 => ("PileMovesModel", "tipMost", "[J", true)
  | 11 => ("PileMovesModel", "isIn", "[Z", true)
  | 12 => ("PileMovesModel", "places", "[J", true)
  | 13 => ("PileMovesModel", "grounds", "[J", true)
  | 14 => ("PileMovesModel", "above", "[J", true)
  | 15 => ("PileMovesModel", "waves", "[J", true)
  | 16 => ("PileMovesModel", "blown", "I", false)
  | 17 => ("PileMovesModel", "at", "[J", true)
  | _ => ("PileMovesModel", "speeds", "[J", true)
def tyX4 : Nat → FieldType := fun k => match k with
  | 0 => .int
  | 1 => .int
  | 2 => .array .int
  | 3 => .array .long
  | 4 => .array .long
  | 5 => .array .int
  | 6 => .array .long
  | 7 => .array .long
  | 8 => .array .long
  | 9 => .array .long
  | 10 => .array .long
  | 11 => .array .boolean
  | 12 => .array .long
  | 13 => .array .long
  | 14 => .array .long
  | 15 => .array .long
  | 16 => .int
  | 17 => .array .long
  | _ => .array .long
abbrev wsX40 : List Cond := u_ws RX4 TX4 19
theorem nmX4 : ∀ a, a < 19 → ∀ b, b < 19 → a ≠ b → (TX4 a).2.1 ≠ (TX4 b).2.1 := by decide +kernel
theorem tyX4_ok : ∀ k, k < 19 → parseFieldDescriptor (TX4 k).2.2.1 = some (tyX4 k) := by decide +kernel
abbrev cX4_init : ByteArray := prog_6_method_1_code
def yX4_init : MethodName := ⟨RX4, "<init>", "()V"⟩
abbrev cX4_thrown : ByteArray := prog_6_method_2_code
def yX4_thrown : MethodName := ⟨RX4, "thrown", "()I"⟩
abbrev cX4_in : ByteArray := prog_6_method_3_code
def yX4_in : MethodName := ⟨RX4, "in", "(JJJ)Z"⟩
abbrev cX4_cut : ByteArray := prog_6_method_4_code
def yX4_cut : MethodName := ⟨RX4, "cut", "(JJJ)J"⟩
abbrev cX4_down : ByteArray := prog_6_method_5_code
def yX4_down : MethodName := ⟨RX4, "down", "(JJ)J"⟩
abbrev cX4_isPile : ByteArray := prog_6_method_6_code
def yX4_isPile : MethodName := ⟨RX4, "isPile", "(I)Z"⟩
abbrev cX4_isPiece : ByteArray := prog_6_method_7_code
def yX4_isPiece : MethodName := ⟨RX4, "isPiece", "(II)Z"⟩
abbrev cX4_pile : ByteArray := prog_6_method_8_code
def yX4_pile : MethodName := ⟨RX4, "pile", "(IIII)I"⟩
abbrev cX4_ground : ByteArray := prog_6_method_9_code
def yX4_ground : MethodName := ⟨RX4, "ground", "(IIII)V"⟩
abbrev cX4_sinks : ByteArray := prog_6_method_10_code
def yX4_sinks : MethodName := ⟨RX4, "sinks", "(III)I"⟩
abbrev cX4_tip : ByteArray := prog_6_method_11_code
def yX4_tip : MethodName := ⟨RX4, "tip", "(III)V"⟩
abbrev cX4_march : ByteArray := prog_6_method_12_code
def yX4_march : MethodName := ⟨RX4, "march", "(IJ)J"⟩
abbrev cX4_isWithin : ByteArray := prog_6_method_13_code
def yX4_isWithin : MethodName := ⟨RX4, "isWithin", "(IJJZ)Z"⟩
abbrev cX4_greatest : ByteArray := prog_6_method_14_code
def yX4_greatest : MethodName := ⟨RX4, "greatest", "(IJZ)J"⟩
abbrev cX4_stands : ByteArray := prog_6_method_15_code
def yX4_stands : MethodName := ⟨RX4, "stands", "(IJ)Z"⟩
abbrev cX4_under : ByteArray := prog_6_method_16_code
def yX4_under : MethodName := ⟨RX4, "under", "(II)I"⟩
abbrev cX4_piece : ByteArray := prog_6_method_17_code
def yX4_piece : MethodName := ⟨RX4, "piece", "(IIII)I"⟩
abbrev cX4_hasState : ByteArray := prog_6_method_18_code
def yX4_hasState : MethodName := ⟨RX4, "hasState", "(IJ)Z"⟩
abbrev cX4_loadAt : ByteArray := prog_6_method_19_code
def yX4_loadAt : MethodName := ⟨RX4, "loadAt", "(IJ)J"⟩
abbrev cX4_load : ByteArray := prog_6_method_20_code
def yX4_load : MethodName := ⟨RX4, "load", "(II)I"⟩
abbrev cX4_hold : ByteArray := prog_6_method_21_code
def yX4_hold : MethodName := ⟨RX4, "hold", "(I)I"⟩
abbrev cX4_cheapest : ByteArray := prog_6_method_22_code
def yX4_cheapest : MethodName := ⟨RX4, "cheapest", "(II)I"⟩
abbrev cX4_join : ByteArray := prog_6_method_23_code
def yX4_join : MethodName := ⟨RX4, "join", "(IZ)Z"⟩
abbrev cX4_isEmpty : ByteArray := prog_6_method_24_code
def yX4_isEmpty : MethodName := ⟨RX4, "isEmpty", "()Z"⟩
abbrev cX4_loads : ByteArray := prog_6_method_25_code
def yX4_loads : MethodName := ⟨RX4, "loads", "(J)J"⟩
abbrev cX4_settles : ByteArray := prog_6_method_26_code
def yX4_settles : MethodName := ⟨RX4, "settles", "(J)I"⟩
abbrev cX4_group : ByteArray := prog_6_method_27_code
def yX4_group : MethodName := ⟨RX4, "group", "(I)I"⟩
abbrev cX4_share : ByteArray := prog_6_method_28_code
def yX4_share : MethodName := ⟨RX4, "share", "(II)I"⟩
abbrev cX4_round : ByteArray := prog_6_method_29_code
def yX4_round : MethodName := ⟨RX4, "round", "(IIJ)V"⟩
abbrev cX4_blow : ByteArray := prog_6_method_30_code
def yX4_blow : MethodName := ⟨RX4, "blow", "(III)I"⟩
abbrev cX4_wave : ByteArray := prog_6_method_31_code
def yX4_wave : MethodName := ⟨RX4, "wave", "(II)I"⟩
def RJx145de : String := "java/io/Serializable"
def TJx145de : u_T := fun k => match k with
  | _ => ("", "", "", false)
def tyJx145de : Nat → FieldType := fun k => match k with
  | _ => .int
abbrev wsJx145de0 : List Cond := u_ws RJx145de TJx145de 0
theorem nmJx145de : ∀ a, a < 0 → ∀ b, b < 0 → a ≠ b → (TJx145de a).2.1 ≠ (TJx145de b).2.1 := by decide +kernel
theorem tyJx145de_ok : ∀ k, k < 0 → parseFieldDescriptor (TJx145de k).2.2.1 = some (tyJx145de k) := by decide +kernel
def RJ9 : String := "java/lang/Math"
def TJ9 : u_T := fun k => match k with
  | _ => ("", "", "", false)
def tyJ9 : Nat → FieldType := fun k => match k with
  | _ => .int
abbrev wsJ90 : List Cond := u_ws RJ9 TJ9 0
theorem nmJ9 : ∀ a, a < 0 → ∀ b, b < 0 → a ≠ b → (TJ9 a).2.1 ≠ (TJ9 b).2.1 := by decide +kernel
theorem tyJ9_ok : ∀ k, k < 0 → parseFieldDescriptor (TJ9 k).2.2.1 = some (tyJ9 k) := by decide +kernel
abbrev cJ9_floorDiv_7cf53 : ByteArray := prog_10_method_47_code
def yJ9_floorDiv_7cf53 : MethodName := ⟨RJ9, "floorDiv", "(II)I"⟩
abbrev cJ9_max_7cf53 : ByteArray := prog_10_method_65_code
def yJ9_max_7cf53 : MethodName := ⟨RJ9, "max", "(II)I"⟩
abbrev cJ9_max_f86c9 : ByteArray := prog_10_method_66_code
def yJ9_max_f86c9 : MethodName := ⟨RJ9, "max", "(JJ)J"⟩
def RJ0 : String := "java/lang/String"
def TJ0 : u_T := fun k => match k with
  | _ => ("", "", "", false)
def tyJ0 : Nat → FieldType := fun k => match k with
  | _ => .int
abbrev wsJ00 : List Cond := u_ws RJ0 TJ0 0
theorem nmJ0 : ∀ a, a < 0 → ∀ b, b < 0 → a ≠ b → (TJ0 a).2.1 ≠ (TJ0 b).2.1 := by decide +kernel
theorem tyJ0_ok : ∀ k, k < 0 → parseFieldDescriptor (TJ0 k).2.2.1 = some (tyJ0 k) := by decide +kernel
def RJ10 : String := "java/lang/System"
def TJ10 : u_T := fun k => match k with
  | _ => ("", "", "", false)
def tyJ10 : Nat → FieldType := fun k => match k with
  | _ => .int
abbrev wsJ100 : List Cond := u_ws RJ10 TJ10 0
theorem nmJ10 : ∀ a, a < 0 → ∀ b, b < 0 → a ≠ b → (TJ10 a).2.1 ≠ (TJ10 b).2.1 := by decide +kernel
theorem tyJ10_ok : ∀ k, k < 0 → parseFieldDescriptor (TJ10 k).2.2.1 = some (tyJ10 k) := by decide +kernel
def RJ7 : String := "java/util/Arrays"
def TJ7 : u_T := fun k => match k with
  | _ => ("", "", "", false)
def tyJ7 : Nat → FieldType := fun k => match k with
  | _ => .int
abbrev wsJ70 : List Cond := u_ws RJ7 TJ7 0
theorem nmJ7 : ∀ a, a < 0 → ∀ b, b < 0 → a ≠ b → (TJ7 a).2.1 ≠ (TJ7 b).2.1 := by decide +kernel
theorem tyJ7_ok : ∀ k, k < 0 → parseFieldDescriptor (TJ7 k).2.2.1 = some (tyJ7 k) := by decide +kernel
abbrev cJ7_fill_d0a16 : ByteArray := prog_15_method_101_code
def yJ7_fill_d0a16 : MethodName := ⟨RJ7, "fill", "([JJ)V"⟩
abbrev cJ7_fill_53178 : ByteArray := prog_15_method_103_code
def yJ7_fill_53178 : MethodName := ⟨RJ7, "fill", "([II)V"⟩
def RL : String := "PileMovesLaw"
abbrev cL_pile : ByteArray := method_3_code
def yL_pile : MethodName := ⟨RL, "pile", "(LPileMoves;IIII[J)I"⟩
abbrev cL_ground : ByteArray := method_4_code
def yL_ground : MethodName := ⟨RL, "ground", "(LPileMoves;IIII)I"⟩
abbrev cL_sinks : ByteArray := method_5_code
def yL_sinks : MethodName := ⟨RL, "sinks", "(LPileMoves;III[J)I"⟩
abbrev cL_tip : ByteArray := method_6_code
def yL_tip : MethodName := ⟨RL, "tip", "(LPileMoves;III)I"⟩
abbrev cL_under : ByteArray := method_7_code
def yL_under : MethodName := ⟨RL, "under", "(LPileMoves;II[J)I"⟩
abbrev cL_piece : ByteArray := method_8_code
def yL_piece : MethodName := ⟨RL, "piece", "(LPileMoves;IIII[J)I"⟩
abbrev cL_load : ByteArray := method_9_code
def yL_load : MethodName := ⟨RL, "load", "(LPileMoves;II[J)I"⟩
abbrev cL_hold : ByteArray := method_10_code
def yL_hold : MethodName := ⟨RL, "hold", "(LPileMoves;I[J)I"⟩
abbrev cL_cheapest : ByteArray := method_11_code
def yL_cheapest : MethodName := ⟨RL, "cheapest", "(LPileMoves;II[J)I"⟩
abbrev cL_join : ByteArray := method_12_code
def yL_join : MethodName := ⟨RL, "join", "(LPileMoves;IZ[J)I"⟩
abbrev cL_group : ByteArray := method_13_code
def yL_group : MethodName := ⟨RL, "group", "(LPileMoves;I[J)I"⟩
abbrev cL_share : ByteArray := method_14_code
def yL_share : MethodName := ⟨RL, "share", "(LPileMoves;II[J)I"⟩
abbrev cL_blow : ByteArray := method_15_code
def yL_blow : MethodName := ⟨RL, "blow", "(LPileMoves;III[J)I"⟩
abbrev cL_wave : ByteArray := method_16_code
def yL_wave : MethodName := ⟨RL, "wave", "(LPileMoves;II[J)I"⟩
abbrev cL_law : ByteArray := code
def yL_law : MethodName := ⟨RL, "law", "([I)Z"⟩
def wsX0_init : List Cond := .code yX0_init cX0_init 1 none :: ([.methodLink RX0 3 objectInit, .instanceMethod objectInit, .code objectInit ⟨#[0xb1]⟩ 1 none, .arrayClass .int, .fieldLink RX0 11 "PileMoves$Blow" "places" "[I", .fieldLink RX0 15 "PileMoves$Blow" "speeds" "[I", .arrayClass .long, .fieldLink RX0 18 "PileMoves$Blow" "pushes" "[J", .fieldLink RX0 22 "PileMoves$Blow" "waves" "[I"] ++ wsX00)
def wsX0_happened : List Cond := .code yX0_happened cX0_happened 1 (some .boolean) :: ([.fieldLink RX0 25 "PileMoves$Blow" "pieces" "I"] ++ wsX00)
def wsX0_behindRound : List Cond := .code yX0_behindRound cX0_behindRound 4 (some .int) :: ([.fieldLink RX0 22 "PileMoves$Blow" "waves" "[I", .constant RX0 29 (-1000000)] ++ wsX00)
def wsX1_quake : List Cond := .code yX1_quake cX1_quake 1 (some .long) :: ([.fieldLink RX1 29 "PileMoves$Pile" "tipStiff" "I", .constantLong RX1 32 (1000), .fieldLink RX1 34 "PileMoves$Pile" "tipMost" "I"] ++ wsX10)
def wsX0_settled : List Cond := .code yX0_settled cX0_settled 2 (some .int) :: ([.fieldLink RX0 30 "PileMoves$Blow" "deepest" "I", .methodLink RX0 39 Lib.MathLoose.max_long.x, .static Lib.MathLoose.max_long.x, .initialized "java/lang/Math", .code Lib.MathLoose.max_long.x Lib.MathLoose.max_long.code 4 (some .long), .methodLink RX0 33 yX1_quake, .instanceMethod yX1_quake, .selects RX1 yX1_quake yX1_quake, .initialized RX1, .code yX1_quake cX1_quake 1 (some .long), .fieldLink RX1 29 "PileMoves$Pile" "tipStiff" "I", .constantLong RX1 32 (1000), .fieldLink RX1 34 "PileMoves$Pile" "tipMost" "I"] ++ wsX00 ++ wsX10)
def wsX1_pieces : List Cond := .code yX1_pieces cX1_pieces 1 (some .int) :: ([.fieldLink RX1 19 "PileMoves$Pile" "stiff" "[I"] ++ wsX10)
def wsJ7_fill_53178 : List Cond := .code yJ7_fill_53178 cJ7_fill_53178 4 none :: ([])
def wsJ7_fill_d0a16 : List Cond := .code yJ7_fill_d0a16 cJ7_fill_d0a16 5 none :: ([])
def wsX0_press : List Cond := .code yX0_press cX0_press 5 none :: ([.fieldLink RX0 18 "PileMoves$Blow" "pushes" "[J"] ++ wsX00)
def wsX3_clamp : List Cond := .code yX3_clamp cX3_clamp 4 (some .int) :: ([])
def wsX0_gatherPushes_r1 : List Cond := [Cond.fieldLink RX0 18 "PileMoves$Blow" "pushes" "[J", Cond.fieldLink RX0 25 "PileMoves$Blow" "pieces" "I", Cond.constantLong RX0 77 (10), Cond.fieldLink RX0 11 "PileMoves$Blow" "places" "[I", Cond.methodLink RX0 39 Lib.MathLoose.max_long.x, Cond.static Lib.MathLoose.max_long.x, Cond.initialized "java/lang/Math", Cond.code Lib.MathLoose.max_long.x Lib.MathLoose.max_long.code 4 (some .long), Cond.fieldLink RX0 83 "PileMoves$Pile" "spring" "I", Cond.constantLong RX0 86 (1000), Cond.fieldLink RX0 88 "PileMoves$Pile" "stiff" "[I", Cond.fieldLink RX0 91 "PileMoves$Pile" "most" "[I", Cond.fieldLink RX0 98 "PileMoves$Pile" "tipStiff" "I", Cond.fieldLink RX0 101 "PileMoves$Pile" "tipMost" "I", Cond.methodLink RX0 74 yJ7_fill_d0a16, Cond.static yJ7_fill_d0a16, Cond.initialized RJ7, Cond.code yJ7_fill_d0a16 cJ7_fill_d0a16 5 none, Cond.methodLink RX0 79 yX0_press, Cond.instanceMethod yX0_press, Cond.selects RX0 yX0_press yX0_press, Cond.initialized RX0, Cond.code yX0_press cX0_press 5 none, Cond.static yX3_clamp]
def wsX0_gatherPushes_r2 : List Cond := [Cond.initialized RX3, Cond.code yX3_clamp cX3_clamp 4 (some .int)]
def wsX0_gatherPushes : List Cond := .code yX0_gatherPushes cX0_gatherPushes 3 none :: ((wsX0_gatherPushes_r1 ++ wsX0_gatherPushes_r2) ++ wsX00 ++ wsX10)
def wsX0_move : List Cond := .code yX0_move cX0_move 5 none :: ([.constantLong RX0 86 (1000), .fieldLink RX0 18 "PileMoves$Blow" "pushes" "[J", .fieldLink RX0 15 "PileMoves$Blow" "speeds" "[I", .constant RX0 104 (-1000000000), .constant RX0 105 (1000000000), .fieldLink RX0 11 "PileMoves$Blow" "places" "[I", .static yX3_clamp, .initialized RX3, .code yX3_clamp cX3_clamp 4 (some .int)] ++ wsX00)
def wsX0_strike_r1 : List Cond := [Cond.fieldLink RX0 25 "PileMoves$Blow" "pieces" "I", Cond.fieldLink RX0 30 "PileMoves$Blow" "deepest" "I", Cond.fieldLink RX0 11 "PileMoves$Blow" "places" "[I", Cond.fieldLink RX0 15 "PileMoves$Blow" "speeds" "[I", Cond.fieldLink RX0 58 "PileMoves$Pile" "mass" "I", Cond.methodLink RX0 65 Lib.Math.max.name, Cond.static Lib.Math.max.name, Cond.initialized "java/lang/Math", Cond.code Lib.Math.max.name Lib.Math.max.code 2 (some .int), Cond.fieldLink RX0 22 "PileMoves$Blow" "waves" "[I", Cond.methodLink RX0 68 arraycopyName, Cond.native arraycopyName, Cond.static arraycopyName, Cond.initialized "java/lang/System", Cond.methodLink RX0 45 yX1_pieces, Cond.instanceMethod yX1_pieces, Cond.selects RX1 yX1_pieces yX1_pieces, Cond.initialized RX1, Cond.code yX1_pieces cX1_pieces 1 (some .int), Cond.fieldLink RX1 19 "PileMoves$Pile" "stiff" "[I", Cond.methodLink RX0 48 yJ7_fill_53178, Cond.static yJ7_fill_53178, Cond.initialized RJ7, Cond.code yJ7_fill_53178 cJ7_fill_53178 4 none]
def wsX0_strike_r2 : List Cond := [Cond.methodLink RX0 54 yX0_gatherPushes, Cond.instanceMethod yX0_gatherPushes, Cond.selects RX0 yX0_gatherPushes yX0_gatherPushes, Cond.initialized RX0, Cond.code yX0_gatherPushes cX0_gatherPushes 3 none, Cond.fieldLink RX0 18 "PileMoves$Blow" "pushes" "[J", Cond.constantLong RX0 77 (10), Cond.methodLink RX0 39 Lib.MathLoose.max_long.x, Cond.static Lib.MathLoose.max_long.x, Cond.code Lib.MathLoose.max_long.x Lib.MathLoose.max_long.code 4 (some .long), Cond.fieldLink RX0 83 "PileMoves$Pile" "spring" "I", Cond.constantLong RX0 86 (1000), Cond.fieldLink RX0 88 "PileMoves$Pile" "stiff" "[I", Cond.fieldLink RX0 91 "PileMoves$Pile" "most" "[I", Cond.fieldLink RX0 98 "PileMoves$Pile" "tipStiff" "I", Cond.fieldLink RX0 101 "PileMoves$Pile" "tipMost" "I", Cond.methodLink RX0 74 yJ7_fill_d0a16, Cond.static yJ7_fill_d0a16, Cond.code yJ7_fill_d0a16 cJ7_fill_d0a16 5 none, Cond.methodLink RX0 79 yX0_press, Cond.instanceMethod yX0_press, Cond.selects RX0 yX0_press yX0_press, Cond.code yX0_press cX0_press 5 none, Cond.static yX3_clamp]
def wsX0_strike_r3 : List Cond := [Cond.initialized RX3, Cond.code yX3_clamp cX3_clamp 4 (some .int), Cond.methodLink RX0 61 yX0_move, Cond.instanceMethod yX0_move, Cond.selects RX0 yX0_move yX0_move, Cond.code yX0_move cX0_move 5 none, Cond.constant RX0 104 (-1000000000), Cond.constant RX0 105 (1000000000)]
def wsX0_strike : List Cond := .code yX0_strike cX0_strike 7 none :: ((wsX0_strike_r1 ++ (wsX0_strike_r2 ++ wsX0_strike_r3)) ++ wsX00 ++ wsX10)
def wsX1_init : List Cond := .code yX1_init cX1_init 5 none :: ([.methodLink RX1 1 objectInit, .instanceMethod objectInit, .code objectInit ⟨#[0xb1]⟩ 1 none, .fieldLink RX1 7 "PileMoves$Pile" "spring" "I", .fieldLink RX1 13 "PileMoves$Pile" "mass" "I", .fieldLink RX1 16 "PileMoves$Pile" "cost" "I", .arrayClass .int, .fieldLink RX1 19 "PileMoves$Pile" "stiff" "[I", .fieldLink RX1 23 "PileMoves$Pile" "most" "[I", .fieldLink RX1 26 "PileMoves$Pile" "sunk" "[I"] ++ wsX10)
def wsX2_init : List Cond := .code yX2_init cX2_init 1 none :: ([.methodLink RX2 3 objectInit, .instanceMethod objectInit, .code objectInit ⟨#[0xb1]⟩ 1 none])
def wsJ9_floorDiv_7cf53 : List Cond := .code yJ9_floorDiv_7cf53 cJ9_floorDiv_7cf53 3 (some .int) :: ([])
def wsX2_climb : List Cond := .code yX2_climb cX2_climb 7 none :: ([.fieldLink RX2 15 "PileMoves$State" "last" "I", .fieldLink RX2 26 "PileMoves$State" "place" "I", .fieldLink RX2 29 "PileMoves$Pile" "tipStiff" "I", .fieldLink RX2 32 "PileMoves$Pile" "tipMost" "I", .fieldLink RX2 39 "PileMoves$State" "forceAbove" "I", .fieldLink RX2 42 "PileMoves$Pile" "spring" "I", .fieldLink RX2 51 "PileMoves$Pile" "stiff" "[I", .fieldLink RX2 55 "PileMoves$Pile" "sunk" "[I", .fieldLink RX2 58 "PileMoves$Pile" "most" "[I", .fieldLink RX2 61 "PileMoves$State" "groundForce" "I", .methodLink RX2 20 yX1_pieces, .instanceMethod yX1_pieces, .selects RX1 yX1_pieces yX1_pieces, .initialized RX1, .code yX1_pieces cX1_pieces 1 (some .int), .fieldLink RX1 19 "PileMoves$Pile" "stiff" "[I", .static yX3_clamp, .initialized RX3, .code yX3_clamp cX3_clamp 4 (some .int), .methodLink RX2 45 yJ9_floorDiv_7cf53, .static yJ9_floorDiv_7cf53, .initialized RJ9, .code yJ9_floorDiv_7cf53 cJ9_floorDiv_7cf53 3 (some .int)] ++ wsX20 ++ wsX10)
def wsX2_find_r1 : List Cond := [Cond.constant RX2 64 (-100001), Cond.constant RX2 65 (131072), Cond.fieldLink RX2 15 "PileMoves$State" "last" "I", Cond.constant RX2 19 (100000), Cond.fieldLink RX2 39 "PileMoves$State" "forceAbove" "I", Cond.fieldLink RX2 26 "PileMoves$State" "place" "I", Cond.constant RX2 70 (-100000), Cond.methodLink RX2 66 yX2_climb, Cond.instanceMethod yX2_climb, Cond.selects RX2 yX2_climb yX2_climb, Cond.initialized RX2, Cond.code yX2_climb cX2_climb 7 none, Cond.fieldLink RX2 29 "PileMoves$Pile" "tipStiff" "I", Cond.fieldLink RX2 32 "PileMoves$Pile" "tipMost" "I", Cond.fieldLink RX2 42 "PileMoves$Pile" "spring" "I", Cond.fieldLink RX2 51 "PileMoves$Pile" "stiff" "[I", Cond.fieldLink RX2 55 "PileMoves$Pile" "sunk" "[I", Cond.fieldLink RX2 58 "PileMoves$Pile" "most" "[I", Cond.fieldLink RX2 61 "PileMoves$State" "groundForce" "I", Cond.methodLink RX2 20 yX1_pieces, Cond.instanceMethod yX1_pieces, Cond.selects RX1 yX1_pieces yX1_pieces, Cond.initialized RX1, Cond.code yX1_pieces cX1_pieces 1 (some .int)]
def wsX2_find_r2 : List Cond := [Cond.fieldLink RX1 19 "PileMoves$Pile" "stiff" "[I", Cond.static yX3_clamp, Cond.initialized RX3, Cond.code yX3_clamp cX3_clamp 4 (some .int), Cond.methodLink RX2 45 yJ9_floorDiv_7cf53, Cond.static yJ9_floorDiv_7cf53, Cond.initialized RJ9, Cond.code yJ9_floorDiv_7cf53 cJ9_floorDiv_7cf53 3 (some .int)]
def wsX2_find : List Cond := .code yX2_find cX2_find 6 (some .boolean) :: ((wsX2_find_r1 ++ wsX2_find_r2) ++ wsX20 ++ wsX10)
def wsX2_findUnder_r1 : List Cond := [Cond.fieldLink RX2 15 "PileMoves$State" "last" "I", Cond.constant RX2 19 (100000), Cond.methodLink RX2 9 yX2_find, Cond.instanceMethod yX2_find, Cond.selects RX2 yX2_find yX2_find, Cond.initialized RX2, Cond.code yX2_find cX2_find 6 (some .boolean), Cond.constant RX2 64 (-100001), Cond.constant RX2 65 (131072), Cond.fieldLink RX2 39 "PileMoves$State" "forceAbove" "I", Cond.fieldLink RX2 26 "PileMoves$State" "place" "I", Cond.constant RX2 70 (-100000), Cond.methodLink RX2 66 yX2_climb, Cond.instanceMethod yX2_climb, Cond.selects RX2 yX2_climb yX2_climb, Cond.code yX2_climb cX2_climb 7 none, Cond.fieldLink RX2 29 "PileMoves$Pile" "tipStiff" "I", Cond.fieldLink RX2 32 "PileMoves$Pile" "tipMost" "I", Cond.fieldLink RX2 42 "PileMoves$Pile" "spring" "I", Cond.fieldLink RX2 51 "PileMoves$Pile" "stiff" "[I", Cond.fieldLink RX2 55 "PileMoves$Pile" "sunk" "[I", Cond.fieldLink RX2 58 "PileMoves$Pile" "most" "[I", Cond.fieldLink RX2 61 "PileMoves$State" "groundForce" "I", Cond.methodLink RX2 20 yX1_pieces]
def wsX2_findUnder_r2 : List Cond := [Cond.instanceMethod yX1_pieces, Cond.selects RX1 yX1_pieces yX1_pieces, Cond.initialized RX1, Cond.code yX1_pieces cX1_pieces 1 (some .int), Cond.fieldLink RX1 19 "PileMoves$Pile" "stiff" "[I", Cond.static yX3_clamp, Cond.initialized RX3, Cond.code yX3_clamp cX3_clamp 4 (some .int), Cond.methodLink RX2 45 yJ9_floorDiv_7cf53, Cond.static yJ9_floorDiv_7cf53, Cond.initialized RJ9, Cond.code yJ9_floorDiv_7cf53 cJ9_floorDiv_7cf53 3 (some .int)]
def wsX2_findUnder : List Cond := .code yX2_findUnder cX2_findUnder 3 (some .boolean) :: ((wsX2_findUnder_r1 ++ wsX2_findUnder_r2) ++ wsX20 ++ wsX10)
def wsX2_findAt_r1 : List Cond := [Cond.methodLink RX2 9 yX2_find, Cond.instanceMethod yX2_find, Cond.selects RX2 yX2_find yX2_find, Cond.initialized RX2, Cond.code yX2_find cX2_find 6 (some .boolean), Cond.constant RX2 64 (-100001), Cond.constant RX2 65 (131072), Cond.fieldLink RX2 15 "PileMoves$State" "last" "I", Cond.constant RX2 19 (100000), Cond.fieldLink RX2 39 "PileMoves$State" "forceAbove" "I", Cond.fieldLink RX2 26 "PileMoves$State" "place" "I", Cond.constant RX2 70 (-100000), Cond.methodLink RX2 66 yX2_climb, Cond.instanceMethod yX2_climb, Cond.selects RX2 yX2_climb yX2_climb, Cond.code yX2_climb cX2_climb 7 none, Cond.fieldLink RX2 29 "PileMoves$Pile" "tipStiff" "I", Cond.fieldLink RX2 32 "PileMoves$Pile" "tipMost" "I", Cond.fieldLink RX2 42 "PileMoves$Pile" "spring" "I", Cond.fieldLink RX2 51 "PileMoves$Pile" "stiff" "[I", Cond.fieldLink RX2 55 "PileMoves$Pile" "sunk" "[I", Cond.fieldLink RX2 58 "PileMoves$Pile" "most" "[I", Cond.fieldLink RX2 61 "PileMoves$State" "groundForce" "I", Cond.methodLink RX2 20 yX1_pieces]
def wsX2_findAt_r2 : List Cond := [Cond.instanceMethod yX1_pieces, Cond.selects RX1 yX1_pieces yX1_pieces, Cond.initialized RX1, Cond.code yX1_pieces cX1_pieces 1 (some .int), Cond.fieldLink RX1 19 "PileMoves$Pile" "stiff" "[I", Cond.static yX3_clamp, Cond.initialized RX3, Cond.code yX3_clamp cX3_clamp 4 (some .int), Cond.methodLink RX2 45 yJ9_floorDiv_7cf53, Cond.static yJ9_floorDiv_7cf53, Cond.initialized RJ9, Cond.code yJ9_floorDiv_7cf53 cJ9_floorDiv_7cf53 3 (some .int)]
def wsX2_findAt : List Cond := .code yX2_findAt cX2_findAt 3 (some .boolean) :: ((wsX2_findAt_r1 ++ wsX2_findAt_r2) ++ wsX20 ++ wsX10)
def wsX3_init_r1 : List Cond := [Cond.methodLink RX3 1 objectInit, Cond.instanceMethod objectInit, Cond.code objectInit ⟨#[0xb1]⟩ 1 none, Cond.classLink RX3 9 RX1, Cond.fieldLink RX3 11 "PileMoves" "piles" "[LPileMoves$Pile;", Cond.classLink RX3 15 RX2, Cond.instantiable RX2 4, Cond.initialized RX2, Cond.fieldLink RX3 18 "PileMoves" "state" "LPileMoves$State;", Cond.classLink RX3 22 RX0, Cond.instantiable RX0 6, Cond.initialized RX0, Cond.fieldLink RX3 25 "PileMoves" "latestBlow" "LPileMoves$Blow;", Cond.fieldLink RX3 29 "PileMoves" "pileCount" "I", Cond.instanceMethod yX2_init, Cond.code yX2_init cX2_init 1 none, Cond.methodLink RX2 3 objectInit, Cond.methodLink RX3 24 yX0_init, Cond.instanceMethod yX0_init, Cond.code yX0_init cX0_init 1 none, Cond.methodLink RX0 3 objectInit, Cond.arrayClass .int, Cond.fieldLink RX0 11 "PileMoves$Blow" "places" "[I", Cond.fieldLink RX0 15 "PileMoves$Blow" "speeds" "[I"]
def wsX3_init_r2 : List Cond := [Cond.arrayClass .long, Cond.fieldLink RX0 18 "PileMoves$Blow" "pushes" "[J", Cond.fieldLink RX0 22 "PileMoves$Blow" "waves" "[I"]
def wsX3_init : List Cond := .code yX3_init cX3_init 1 none :: ((wsX3_init_r1 ++ wsX3_init_r2) ++ wsX30 ++ wsX20 ++ wsX00)
def wsX3_checkWithin : List Cond := .code yX3_checkWithin cX3_checkWithin 3 none :: ([.classLink RX3 112 "java/lang/IllegalArgumentException", .initialized "java/lang/IllegalArgumentException"] ++ (vx_atS RX3 116 "java/lang/IllegalArgumentException" ["java/lang/RuntimeException", "java/lang/Exception"]).filter goodWord)
def wsX3_pile_r1 : List Cond := [Cond.classLink RX3 38 "java/lang/IllegalStateException", Cond.initialized "java/lang/IllegalStateException", Cond.constant RX3 37 (100000), Cond.fieldLink RX3 29 "PileMoves" "pileCount" "I", Cond.fieldLink RX3 11 "PileMoves" "piles" "[LPileMoves$Pile;", Cond.classLink RX3 9 RX1, Cond.instantiable RX1 9, Cond.initialized RX1, Cond.methodLink RX3 33 yX3_checkWithin, Cond.static yX3_checkWithin, Cond.initialized RX3, Cond.code yX3_checkWithin cX3_checkWithin 3 none, Cond.classLink RX3 112 "java/lang/IllegalArgumentException", Cond.initialized "java/lang/IllegalArgumentException", Cond.methodLink RX3 45 yX1_init, Cond.instanceMethod yX1_init, Cond.code yX1_init cX1_init 5 none, Cond.methodLink RX1 1 objectInit, Cond.instanceMethod objectInit, Cond.code objectInit ⟨#[0xb1]⟩ 1 none, Cond.fieldLink RX1 7 "PileMoves$Pile" "spring" "I", Cond.fieldLink RX1 13 "PileMoves$Pile" "mass" "I", Cond.fieldLink RX1 16 "PileMoves$Pile" "cost" "I", Cond.arrayClass .int]
def wsX3_pile_r2 : List Cond := [Cond.fieldLink RX1 19 "PileMoves$Pile" "stiff" "[I", Cond.fieldLink RX1 23 "PileMoves$Pile" "most" "[I", Cond.fieldLink RX1 26 "PileMoves$Pile" "sunk" "[I"]
def wsX3_pile : List Cond := .code yX3_pile cX3_pile 6 (some .int) :: ((wsX3_pile_r1 ++ wsX3_pile_r2) ++ wsX30 ++ wsX10 ++ (vx_atS RX3 42 "java/lang/IllegalStateException" ["java/lang/RuntimeException", "java/lang/Exception"]).filter goodWord ++ (vx_atS RX3 116 "java/lang/IllegalArgumentException" ["java/lang/RuntimeException", "java/lang/Exception"]).filter goodWord)
def wsX3_pileOf : List Cond := .code yX3_pileOf cX3_pileOf 2 (some (.object "PileMoves$Pile")) :: ([.classLink RX3 112 "java/lang/IllegalArgumentException", .initialized "java/lang/IllegalArgumentException", .fieldLink RX3 11 "PileMoves" "piles" "[LPileMoves$Pile;"] ++ wsX30 ++ (vx_atS RX3 116 "java/lang/IllegalArgumentException" ["java/lang/RuntimeException", "java/lang/Exception"]).filter goodWord)
def wsX3_checkPiece : List Cond := .code yX3_checkPiece cX3_checkPiece 2 none :: ([.methodLink RX3 141 yX1_pieces, .instanceMethod yX1_pieces, .selects RX1 yX1_pieces yX1_pieces, .initialized RX1, .code yX1_pieces cX1_pieces 1 (some .int), .fieldLink RX1 19 "PileMoves$Pile" "stiff" "[I", .methodLink RX3 33 yX3_checkWithin, .static yX3_checkWithin, .initialized RX3, .code yX3_checkWithin cX3_checkWithin 3 none, .classLink RX3 112 "java/lang/IllegalArgumentException", .initialized "java/lang/IllegalArgumentException"] ++ wsX10 ++ (vx_atS RX3 116 "java/lang/IllegalArgumentException" ["java/lang/RuntimeException", "java/lang/Exception"]).filter goodWord)
def wsX3_ground : List Cond := .code yX3_ground cX3_ground 6 none :: ([.constant RX3 37 (100000), .fieldLink RX3 56 "PileMoves$Pile" "stiff" "[I", .fieldLink RX3 60 "PileMoves$Pile" "most" "[I", .methodLink RX3 48 yX3_pileOf, .instanceMethod yX3_pileOf, .selects RX3 yX3_pileOf yX3_pileOf, .initialized RX3, .code yX3_pileOf cX3_pileOf 2 (some (.object "PileMoves$Pile")), .classLink RX3 112 "java/lang/IllegalArgumentException", .initialized "java/lang/IllegalArgumentException", .fieldLink RX3 11 "PileMoves" "piles" "[LPileMoves$Pile;", .methodLink RX3 52 yX3_checkPiece, .static yX3_checkPiece, .code yX3_checkPiece cX3_checkPiece 2 none, .methodLink RX3 141 yX1_pieces, .instanceMethod yX1_pieces, .selects RX1 yX1_pieces yX1_pieces, .initialized RX1, .code yX1_pieces cX1_pieces 1 (some .int), .fieldLink RX1 19 "PileMoves$Pile" "stiff" "[I", .methodLink RX3 33 yX3_checkWithin, .static yX3_checkWithin, .code yX3_checkWithin cX3_checkWithin 3 none] ++ wsX10 ++ wsX30 ++ (vx_atS RX3 116 "java/lang/IllegalArgumentException" ["java/lang/RuntimeException", "java/lang/Exception"]).filter goodWord)
def wsX3_sinks : List Cond := .code yX3_sinks cX3_sinks 6 (some .int) :: ([.fieldLink RX3 63 "PileMoves$Pile" "sunk" "[I", .methodLink RX3 48 yX3_pileOf, .instanceMethod yX3_pileOf, .selects RX3 yX3_pileOf yX3_pileOf, .initialized RX3, .code yX3_pileOf cX3_pileOf 2 (some (.object "PileMoves$Pile")), .classLink RX3 112 "java/lang/IllegalArgumentException", .initialized "java/lang/IllegalArgumentException", .fieldLink RX3 11 "PileMoves" "piles" "[LPileMoves$Pile;", .methodLink RX3 52 yX3_checkPiece, .static yX3_checkPiece, .code yX3_checkPiece cX3_checkPiece 2 none, .methodLink RX3 141 yX1_pieces, .instanceMethod yX1_pieces, .selects RX1 yX1_pieces yX1_pieces, .initialized RX1, .code yX1_pieces cX1_pieces 1 (some .int), .fieldLink RX1 19 "PileMoves$Pile" "stiff" "[I", .methodLink RX3 33 yX3_checkWithin, .static yX3_checkWithin, .code yX3_checkWithin cX3_checkWithin 3 none] ++ wsX10 ++ wsX30 ++ (vx_atS RX3 116 "java/lang/IllegalArgumentException" ["java/lang/RuntimeException", "java/lang/Exception"]).filter goodWord)
def wsX3_tip : List Cond := .code yX3_tip cX3_tip 5 none :: ([.constant RX3 66 (1000000), .fieldLink RX3 67 "PileMoves$Pile" "tipStiff" "I", .fieldLink RX3 70 "PileMoves$Pile" "tipMost" "I", .methodLink RX3 48 yX3_pileOf, .instanceMethod yX3_pileOf, .selects RX3 yX3_pileOf yX3_pileOf, .initialized RX3, .code yX3_pileOf cX3_pileOf 2 (some (.object "PileMoves$Pile")), .classLink RX3 112 "java/lang/IllegalArgumentException", .initialized "java/lang/IllegalArgumentException", .fieldLink RX3 11 "PileMoves" "piles" "[LPileMoves$Pile;", .methodLink RX3 33 yX3_checkWithin, .static yX3_checkWithin, .code yX3_checkWithin cX3_checkWithin 3 none] ++ wsX10 ++ wsX30 ++ (vx_atS RX3 116 "java/lang/IllegalArgumentException" ["java/lang/RuntimeException", "java/lang/Exception"]).filter goodWord)
def wsX3_checkLoad : List Cond := .code yX3_checkLoad cX3_checkLoad 1 none :: ([.constant RX3 140 (10000000), .methodLink RX3 33 yX3_checkWithin, .static yX3_checkWithin, .initialized RX3, .code yX3_checkWithin cX3_checkWithin 3 none, .classLink RX3 112 "java/lang/IllegalArgumentException", .initialized "java/lang/IllegalArgumentException"] ++ (vx_atS RX3 116 "java/lang/IllegalArgumentException" ["java/lang/RuntimeException", "java/lang/Exception"]).filter goodWord)
def wsX3_under_r1 : List Cond := [Cond.fieldLink RX3 18 "PileMoves" "state" "LPileMoves$State;", Cond.fieldLink RX3 81 "PileMoves$State" "place" "I", Cond.constant RX3 84 (-1000000), Cond.methodLink RX3 48 yX3_pileOf, Cond.instanceMethod yX3_pileOf, Cond.selects RX3 yX3_pileOf yX3_pileOf, Cond.initialized RX3, Cond.code yX3_pileOf cX3_pileOf 2 (some (.object "PileMoves$Pile")), Cond.classLink RX3 112 "java/lang/IllegalArgumentException", Cond.initialized "java/lang/IllegalArgumentException", Cond.fieldLink RX3 11 "PileMoves" "piles" "[LPileMoves$Pile;", Cond.methodLink RX3 73 yX3_checkLoad, Cond.static yX3_checkLoad, Cond.code yX3_checkLoad cX3_checkLoad 1 none, Cond.constant RX3 140 (10000000), Cond.methodLink RX3 33 yX3_checkWithin, Cond.static yX3_checkWithin, Cond.code yX3_checkWithin cX3_checkWithin 3 none, Cond.methodLink RX3 77 yX2_findUnder, Cond.instanceMethod yX2_findUnder, Cond.selects RX2 yX2_findUnder yX2_findUnder, Cond.initialized RX2, Cond.code yX2_findUnder cX2_findUnder 3 (some .boolean), Cond.fieldLink RX2 15 "PileMoves$State" "last" "I"]
def wsX3_under_r2 : List Cond := [Cond.constant RX2 19 (100000), Cond.methodLink RX2 9 yX2_find, Cond.instanceMethod yX2_find, Cond.selects RX2 yX2_find yX2_find, Cond.code yX2_find cX2_find 6 (some .boolean), Cond.constant RX2 64 (-100001), Cond.constant RX2 65 (131072), Cond.fieldLink RX2 39 "PileMoves$State" "forceAbove" "I", Cond.fieldLink RX2 26 "PileMoves$State" "place" "I", Cond.constant RX2 70 (-100000), Cond.methodLink RX2 66 yX2_climb, Cond.instanceMethod yX2_climb, Cond.selects RX2 yX2_climb yX2_climb, Cond.code yX2_climb cX2_climb 7 none, Cond.fieldLink RX2 29 "PileMoves$Pile" "tipStiff" "I", Cond.fieldLink RX2 32 "PileMoves$Pile" "tipMost" "I", Cond.fieldLink RX2 42 "PileMoves$Pile" "spring" "I", Cond.fieldLink RX2 51 "PileMoves$Pile" "stiff" "[I", Cond.fieldLink RX2 55 "PileMoves$Pile" "sunk" "[I", Cond.fieldLink RX2 58 "PileMoves$Pile" "most" "[I", Cond.fieldLink RX2 61 "PileMoves$State" "groundForce" "I", Cond.methodLink RX2 20 yX1_pieces, Cond.instanceMethod yX1_pieces, Cond.selects RX1 yX1_pieces yX1_pieces]
def wsX3_under_r3 : List Cond := [Cond.initialized RX1, Cond.code yX1_pieces cX1_pieces 1 (some .int), Cond.fieldLink RX1 19 "PileMoves$Pile" "stiff" "[I", Cond.static yX3_clamp, Cond.code yX3_clamp cX3_clamp 4 (some .int), Cond.methodLink RX2 45 yJ9_floorDiv_7cf53, Cond.static yJ9_floorDiv_7cf53, Cond.initialized RJ9, Cond.code yJ9_floorDiv_7cf53 cJ9_floorDiv_7cf53 3 (some .int)]
def wsX3_under : List Cond := .code yX3_under cX3_under 4 (some .int) :: ((wsX3_under_r1 ++ (wsX3_under_r2 ++ wsX3_under_r3)) ++ wsX30 ++ wsX20 ++ wsX10 ++ (vx_atS RX3 116 "java/lang/IllegalArgumentException" ["java/lang/RuntimeException", "java/lang/Exception"]).filter goodWord)
def wsX3_piece_r1 : List Cond := [Cond.fieldLink RX3 18 "PileMoves" "state" "LPileMoves$State;", Cond.constant RX3 84 (-1000000), Cond.fieldLink RX3 81 "PileMoves$State" "place" "I", Cond.fieldLink RX3 88 "PileMoves$State" "groundForce" "I", Cond.fieldLink RX3 91 "PileMoves$State" "forceAbove" "I", Cond.methodLink RX3 48 yX3_pileOf, Cond.instanceMethod yX3_pileOf, Cond.selects RX3 yX3_pileOf yX3_pileOf, Cond.initialized RX3, Cond.code yX3_pileOf cX3_pileOf 2 (some (.object "PileMoves$Pile")), Cond.classLink RX3 112 "java/lang/IllegalArgumentException", Cond.initialized "java/lang/IllegalArgumentException", Cond.fieldLink RX3 11 "PileMoves" "piles" "[LPileMoves$Pile;", Cond.methodLink RX3 73 yX3_checkLoad, Cond.static yX3_checkLoad, Cond.code yX3_checkLoad cX3_checkLoad 1 none, Cond.constant RX3 140 (10000000), Cond.methodLink RX3 33 yX3_checkWithin, Cond.static yX3_checkWithin, Cond.code yX3_checkWithin cX3_checkWithin 3 none, Cond.methodLink RX3 52 yX3_checkPiece, Cond.static yX3_checkPiece, Cond.code yX3_checkPiece cX3_checkPiece 2 none, Cond.methodLink RX3 141 yX1_pieces]
def wsX3_piece_r2 : List Cond := [Cond.instanceMethod yX1_pieces, Cond.selects RX1 yX1_pieces yX1_pieces, Cond.initialized RX1, Cond.code yX1_pieces cX1_pieces 1 (some .int), Cond.fieldLink RX1 19 "PileMoves$Pile" "stiff" "[I", Cond.methodLink RX3 77 yX2_findUnder, Cond.instanceMethod yX2_findUnder, Cond.selects RX2 yX2_findUnder yX2_findUnder, Cond.initialized RX2, Cond.code yX2_findUnder cX2_findUnder 3 (some .boolean), Cond.fieldLink RX2 15 "PileMoves$State" "last" "I", Cond.constant RX2 19 (100000), Cond.methodLink RX2 9 yX2_find, Cond.instanceMethod yX2_find, Cond.selects RX2 yX2_find yX2_find, Cond.code yX2_find cX2_find 6 (some .boolean), Cond.constant RX2 64 (-100001), Cond.constant RX2 65 (131072), Cond.fieldLink RX2 39 "PileMoves$State" "forceAbove" "I", Cond.fieldLink RX2 26 "PileMoves$State" "place" "I", Cond.constant RX2 70 (-100000), Cond.methodLink RX2 66 yX2_climb, Cond.instanceMethod yX2_climb, Cond.selects RX2 yX2_climb yX2_climb]
def wsX3_piece_r3 : List Cond := [Cond.code yX2_climb cX2_climb 7 none, Cond.fieldLink RX2 29 "PileMoves$Pile" "tipStiff" "I", Cond.fieldLink RX2 32 "PileMoves$Pile" "tipMost" "I", Cond.fieldLink RX2 42 "PileMoves$Pile" "spring" "I", Cond.fieldLink RX2 51 "PileMoves$Pile" "stiff" "[I", Cond.fieldLink RX2 55 "PileMoves$Pile" "sunk" "[I", Cond.fieldLink RX2 58 "PileMoves$Pile" "most" "[I", Cond.fieldLink RX2 61 "PileMoves$State" "groundForce" "I", Cond.methodLink RX2 20 yX1_pieces, Cond.static yX3_clamp, Cond.code yX3_clamp cX3_clamp 4 (some .int), Cond.methodLink RX2 45 yJ9_floorDiv_7cf53, Cond.static yJ9_floorDiv_7cf53, Cond.initialized RJ9, Cond.code yJ9_floorDiv_7cf53 cJ9_floorDiv_7cf53 3 (some .int), Cond.methodLink RX3 85 yX2_climb]
def wsX3_piece : List Cond := .code yX3_piece cX3_piece 6 (some .int) :: ((wsX3_piece_r1 ++ (wsX3_piece_r2 ++ wsX3_piece_r3)) ++ wsX30 ++ wsX20 ++ wsX10 ++ (vx_atS RX3 116 "java/lang/IllegalArgumentException" ["java/lang/RuntimeException", "java/lang/Exception"]).filter goodWord)
def wsX3_load_r1 : List Cond := [Cond.constant RX3 94 (-100000), Cond.constant RX3 37 (100000), Cond.fieldLink RX3 18 "PileMoves" "state" "LPileMoves$State;", Cond.fieldLink RX3 91 "PileMoves$State" "forceAbove" "I", Cond.constant RX3 84 (-1000000), Cond.methodLink RX3 48 yX3_pileOf, Cond.instanceMethod yX3_pileOf, Cond.selects RX3 yX3_pileOf yX3_pileOf, Cond.initialized RX3, Cond.code yX3_pileOf cX3_pileOf 2 (some (.object "PileMoves$Pile")), Cond.classLink RX3 112 "java/lang/IllegalArgumentException", Cond.initialized "java/lang/IllegalArgumentException", Cond.fieldLink RX3 11 "PileMoves" "piles" "[LPileMoves$Pile;", Cond.methodLink RX3 33 yX3_checkWithin, Cond.static yX3_checkWithin, Cond.code yX3_checkWithin cX3_checkWithin 3 none, Cond.methodLink RX3 95 yX2_findAt, Cond.instanceMethod yX2_findAt, Cond.selects RX2 yX2_findAt yX2_findAt, Cond.initialized RX2, Cond.code yX2_findAt cX2_findAt 3 (some .boolean), Cond.methodLink RX2 9 yX2_find, Cond.instanceMethod yX2_find, Cond.selects RX2 yX2_find yX2_find]
def wsX3_load_r2 : List Cond := [Cond.code yX2_find cX2_find 6 (some .boolean), Cond.constant RX2 64 (-100001), Cond.constant RX2 65 (131072), Cond.fieldLink RX2 15 "PileMoves$State" "last" "I", Cond.constant RX2 19 (100000), Cond.fieldLink RX2 39 "PileMoves$State" "forceAbove" "I", Cond.fieldLink RX2 26 "PileMoves$State" "place" "I", Cond.constant RX2 70 (-100000), Cond.methodLink RX2 66 yX2_climb, Cond.instanceMethod yX2_climb, Cond.selects RX2 yX2_climb yX2_climb, Cond.code yX2_climb cX2_climb 7 none, Cond.fieldLink RX2 29 "PileMoves$Pile" "tipStiff" "I", Cond.fieldLink RX2 32 "PileMoves$Pile" "tipMost" "I", Cond.fieldLink RX2 42 "PileMoves$Pile" "spring" "I", Cond.fieldLink RX2 51 "PileMoves$Pile" "stiff" "[I", Cond.fieldLink RX2 55 "PileMoves$Pile" "sunk" "[I", Cond.fieldLink RX2 58 "PileMoves$Pile" "most" "[I", Cond.fieldLink RX2 61 "PileMoves$State" "groundForce" "I", Cond.methodLink RX2 20 yX1_pieces, Cond.instanceMethod yX1_pieces, Cond.selects RX1 yX1_pieces yX1_pieces, Cond.initialized RX1, Cond.code yX1_pieces cX1_pieces 1 (some .int)]
def wsX3_load_r3 : List Cond := [Cond.fieldLink RX1 19 "PileMoves$Pile" "stiff" "[I", Cond.static yX3_clamp, Cond.code yX3_clamp cX3_clamp 4 (some .int), Cond.methodLink RX2 45 yJ9_floorDiv_7cf53, Cond.static yJ9_floorDiv_7cf53, Cond.initialized RJ9, Cond.code yJ9_floorDiv_7cf53 cJ9_floorDiv_7cf53 3 (some .int)]
def wsX3_load : List Cond := .code yX3_load cX3_load 4 (some .int) :: ((wsX3_load_r1 ++ (wsX3_load_r2 ++ wsX3_load_r3)) ++ wsX30 ++ wsX20 ++ wsX10 ++ (vx_atS RX3 116 "java/lang/IllegalArgumentException" ["java/lang/RuntimeException", "java/lang/Exception"]).filter goodWord)
def wsX3_hold : List Cond := .code yX3_hold cX3_hold 8 (some .int) :: ([.fieldLink RX3 60 "PileMoves$Pile" "most" "[I", .methodLink RX3 48 yX3_pileOf, .instanceMethod yX3_pileOf, .selects RX3 yX3_pileOf yX3_pileOf, .initialized RX3, .code yX3_pileOf cX3_pileOf 2 (some (.object "PileMoves$Pile")), .classLink RX3 112 "java/lang/IllegalArgumentException", .initialized "java/lang/IllegalArgumentException", .fieldLink RX3 11 "PileMoves" "piles" "[LPileMoves$Pile;"] ++ wsX10 ++ wsX30 ++ (vx_atS RX3 116 "java/lang/IllegalArgumentException" ["java/lang/RuntimeException", "java/lang/Exception"]).filter goodWord)
def wsX3_cheapest_r1 : List Cond := [Cond.constant RX3 37 (100000), Cond.constant RX3 84 (-1000000), Cond.fieldLink RX3 11 "PileMoves" "piles" "[LPileMoves$Pile;", Cond.fieldLink RX3 98 "PileMoves$Pile" "cost" "I", Cond.fieldLink RX3 18 "PileMoves" "state" "LPileMoves$State;", Cond.fieldLink RX3 81 "PileMoves$State" "place" "I", Cond.methodLink RX3 73 yX3_checkLoad, Cond.static yX3_checkLoad, Cond.initialized RX3, Cond.code yX3_checkLoad cX3_checkLoad 1 none, Cond.constant RX3 140 (10000000), Cond.methodLink RX3 33 yX3_checkWithin, Cond.static yX3_checkWithin, Cond.code yX3_checkWithin cX3_checkWithin 3 none, Cond.classLink RX3 112 "java/lang/IllegalArgumentException", Cond.initialized "java/lang/IllegalArgumentException", Cond.methodLink RX3 77 yX2_findUnder, Cond.instanceMethod yX2_findUnder, Cond.selects RX2 yX2_findUnder yX2_findUnder, Cond.initialized RX2, Cond.code yX2_findUnder cX2_findUnder 3 (some .boolean), Cond.fieldLink RX2 15 "PileMoves$State" "last" "I", Cond.constant RX2 19 (100000), Cond.methodLink RX2 9 yX2_find]
def wsX3_cheapest_r2 : List Cond := [Cond.instanceMethod yX2_find, Cond.selects RX2 yX2_find yX2_find, Cond.code yX2_find cX2_find 6 (some .boolean), Cond.constant RX2 64 (-100001), Cond.constant RX2 65 (131072), Cond.fieldLink RX2 39 "PileMoves$State" "forceAbove" "I", Cond.fieldLink RX2 26 "PileMoves$State" "place" "I", Cond.constant RX2 70 (-100000), Cond.methodLink RX2 66 yX2_climb, Cond.instanceMethod yX2_climb, Cond.selects RX2 yX2_climb yX2_climb, Cond.code yX2_climb cX2_climb 7 none, Cond.fieldLink RX2 29 "PileMoves$Pile" "tipStiff" "I", Cond.fieldLink RX2 32 "PileMoves$Pile" "tipMost" "I", Cond.fieldLink RX2 42 "PileMoves$Pile" "spring" "I", Cond.fieldLink RX2 51 "PileMoves$Pile" "stiff" "[I", Cond.fieldLink RX2 55 "PileMoves$Pile" "sunk" "[I", Cond.fieldLink RX2 58 "PileMoves$Pile" "most" "[I", Cond.fieldLink RX2 61 "PileMoves$State" "groundForce" "I", Cond.methodLink RX2 20 yX1_pieces, Cond.instanceMethod yX1_pieces, Cond.selects RX1 yX1_pieces yX1_pieces, Cond.initialized RX1, Cond.code yX1_pieces cX1_pieces 1 (some .int)]
def wsX3_cheapest_r3 : List Cond := [Cond.fieldLink RX1 19 "PileMoves$Pile" "stiff" "[I", Cond.static yX3_clamp, Cond.code yX3_clamp cX3_clamp 4 (some .int), Cond.methodLink RX2 45 yJ9_floorDiv_7cf53, Cond.static yJ9_floorDiv_7cf53, Cond.initialized RJ9, Cond.code yJ9_floorDiv_7cf53 cJ9_floorDiv_7cf53 3 (some .int)]
def wsX3_cheapest : List Cond := .code yX3_cheapest cX3_cheapest 7 (some .int) :: ((wsX3_cheapest_r1 ++ (wsX3_cheapest_r2 ++ wsX3_cheapest_r3)) ++ wsX30 ++ wsX10 ++ wsX20 ++ (vx_atS RX3 116 "java/lang/IllegalArgumentException" ["java/lang/RuntimeException", "java/lang/Exception"]).filter goodWord)
def wsX3_join : List Cond := .code yX3_join cX3_join 5 (some .boolean) :: ([.fieldLink RX3 101 "PileMoves$Pile" "joined" "Z", .methodLink RX3 48 yX3_pileOf, .instanceMethod yX3_pileOf, .selects RX3 yX3_pileOf yX3_pileOf, .initialized RX3, .code yX3_pileOf cX3_pileOf 2 (some (.object "PileMoves$Pile")), .classLink RX3 112 "java/lang/IllegalArgumentException", .initialized "java/lang/IllegalArgumentException", .fieldLink RX3 11 "PileMoves" "piles" "[LPileMoves$Pile;"] ++ wsX10 ++ wsX30 ++ (vx_atS RX3 116 "java/lang/IllegalArgumentException" ["java/lang/RuntimeException", "java/lang/Exception"]).filter goodWord)
def wsX3_checkGroupNotEmpty : List Cond := .code yX3_checkGroupNotEmpty cX3_checkGroupNotEmpty 5 none :: ([.classLink RX3 38 "java/lang/IllegalStateException", .initialized "java/lang/IllegalStateException", .fieldLink RX3 11 "PileMoves" "piles" "[LPileMoves$Pile;", .fieldLink RX3 101 "PileMoves$Pile" "joined" "Z"] ++ wsX30 ++ wsX10 ++ (vx_atS RX3 42 "java/lang/IllegalStateException" ["java/lang/RuntimeException", "java/lang/Exception"]).filter goodWord)
def wsX3_groupLoad_r1 : List Cond := [Cond.fieldLink RX3 11 "PileMoves" "piles" "[LPileMoves$Pile;", Cond.fieldLink RX3 101 "PileMoves$Pile" "joined" "Z", Cond.fieldLink RX3 18 "PileMoves" "state" "LPileMoves$State;", Cond.constantLong RX3 152 (1000000000000), Cond.fieldLink RX3 91 "PileMoves$State" "forceAbove" "I", Cond.methodLink RX3 95 yX2_findAt, Cond.instanceMethod yX2_findAt, Cond.selects RX2 yX2_findAt yX2_findAt, Cond.initialized RX2, Cond.code yX2_findAt cX2_findAt 3 (some .boolean), Cond.methodLink RX2 9 yX2_find, Cond.instanceMethod yX2_find, Cond.selects RX2 yX2_find yX2_find, Cond.code yX2_find cX2_find 6 (some .boolean), Cond.constant RX2 64 (-100001), Cond.constant RX2 65 (131072), Cond.fieldLink RX2 15 "PileMoves$State" "last" "I", Cond.constant RX2 19 (100000), Cond.fieldLink RX2 39 "PileMoves$State" "forceAbove" "I", Cond.fieldLink RX2 26 "PileMoves$State" "place" "I", Cond.constant RX2 70 (-100000), Cond.methodLink RX2 66 yX2_climb, Cond.instanceMethod yX2_climb, Cond.selects RX2 yX2_climb yX2_climb]
def wsX3_groupLoad_r2 : List Cond := [Cond.code yX2_climb cX2_climb 7 none, Cond.fieldLink RX2 29 "PileMoves$Pile" "tipStiff" "I", Cond.fieldLink RX2 32 "PileMoves$Pile" "tipMost" "I", Cond.fieldLink RX2 42 "PileMoves$Pile" "spring" "I", Cond.fieldLink RX2 51 "PileMoves$Pile" "stiff" "[I", Cond.fieldLink RX2 55 "PileMoves$Pile" "sunk" "[I", Cond.fieldLink RX2 58 "PileMoves$Pile" "most" "[I", Cond.fieldLink RX2 61 "PileMoves$State" "groundForce" "I", Cond.methodLink RX2 20 yX1_pieces, Cond.instanceMethod yX1_pieces, Cond.selects RX1 yX1_pieces yX1_pieces, Cond.initialized RX1, Cond.code yX1_pieces cX1_pieces 1 (some .int), Cond.fieldLink RX1 19 "PileMoves$Pile" "stiff" "[I", Cond.static yX3_clamp, Cond.initialized RX3, Cond.code yX3_clamp cX3_clamp 4 (some .int), Cond.methodLink RX2 45 yJ9_floorDiv_7cf53, Cond.static yJ9_floorDiv_7cf53, Cond.initialized RJ9, Cond.code yJ9_floorDiv_7cf53 cJ9_floorDiv_7cf53 3 (some .int)]
def wsX3_groupLoad : List Cond := .code yX3_groupLoad cX3_groupLoad 8 (some .long) :: ((wsX3_groupLoad_r1 ++ wsX3_groupLoad_r2) ++ wsX30 ++ wsX10 ++ wsX20)
def wsX3_groupSettlement_r1 : List Cond := [Cond.constant RX3 84 (-1000000), Cond.methodLink RX3 148 yX3_groupLoad, Cond.instanceMethod yX3_groupLoad, Cond.selects RX3 yX3_groupLoad yX3_groupLoad, Cond.initialized RX3, Cond.code yX3_groupLoad cX3_groupLoad 8 (some .long), Cond.fieldLink RX3 11 "PileMoves" "piles" "[LPileMoves$Pile;", Cond.fieldLink RX3 101 "PileMoves$Pile" "joined" "Z", Cond.fieldLink RX3 18 "PileMoves" "state" "LPileMoves$State;", Cond.constantLong RX3 152 (1000000000000), Cond.fieldLink RX3 91 "PileMoves$State" "forceAbove" "I", Cond.methodLink RX3 95 yX2_findAt, Cond.instanceMethod yX2_findAt, Cond.selects RX2 yX2_findAt yX2_findAt, Cond.initialized RX2, Cond.code yX2_findAt cX2_findAt 3 (some .boolean), Cond.methodLink RX2 9 yX2_find, Cond.instanceMethod yX2_find, Cond.selects RX2 yX2_find yX2_find, Cond.code yX2_find cX2_find 6 (some .boolean), Cond.constant RX2 64 (-100001), Cond.constant RX2 65 (131072), Cond.fieldLink RX2 15 "PileMoves$State" "last" "I", Cond.constant RX2 19 (100000)]
def wsX3_groupSettlement_r2 : List Cond := [Cond.fieldLink RX2 39 "PileMoves$State" "forceAbove" "I", Cond.fieldLink RX2 26 "PileMoves$State" "place" "I", Cond.constant RX2 70 (-100000), Cond.methodLink RX2 66 yX2_climb, Cond.instanceMethod yX2_climb, Cond.selects RX2 yX2_climb yX2_climb, Cond.code yX2_climb cX2_climb 7 none, Cond.fieldLink RX2 29 "PileMoves$Pile" "tipStiff" "I", Cond.fieldLink RX2 32 "PileMoves$Pile" "tipMost" "I", Cond.fieldLink RX2 42 "PileMoves$Pile" "spring" "I", Cond.fieldLink RX2 51 "PileMoves$Pile" "stiff" "[I", Cond.fieldLink RX2 55 "PileMoves$Pile" "sunk" "[I", Cond.fieldLink RX2 58 "PileMoves$Pile" "most" "[I", Cond.fieldLink RX2 61 "PileMoves$State" "groundForce" "I", Cond.methodLink RX2 20 yX1_pieces, Cond.instanceMethod yX1_pieces, Cond.selects RX1 yX1_pieces yX1_pieces, Cond.initialized RX1, Cond.code yX1_pieces cX1_pieces 1 (some .int), Cond.fieldLink RX1 19 "PileMoves$Pile" "stiff" "[I", Cond.static yX3_clamp, Cond.code yX3_clamp cX3_clamp 4 (some .int), Cond.methodLink RX2 45 yJ9_floorDiv_7cf53, Cond.static yJ9_floorDiv_7cf53]
def wsX3_groupSettlement_r3 : List Cond := [Cond.initialized RJ9, Cond.code yJ9_floorDiv_7cf53 cJ9_floorDiv_7cf53 3 (some .int)]
def wsX3_groupSettlement : List Cond := .code yX3_groupSettlement cX3_groupSettlement 5 (some .int) :: ((wsX3_groupSettlement_r1 ++ (wsX3_groupSettlement_r2 ++ wsX3_groupSettlement_r3)) ++ wsX30 ++ wsX10 ++ wsX20)
def wsX3_group_r1 : List Cond := [Cond.methodLink RX3 73 yX3_checkLoad, Cond.static yX3_checkLoad, Cond.initialized RX3, Cond.code yX3_checkLoad cX3_checkLoad 1 none, Cond.constant RX3 140 (10000000), Cond.methodLink RX3 33 yX3_checkWithin, Cond.static yX3_checkWithin, Cond.code yX3_checkWithin cX3_checkWithin 3 none, Cond.classLink RX3 112 "java/lang/IllegalArgumentException", Cond.initialized "java/lang/IllegalArgumentException", Cond.methodLink RX3 105 yX3_checkGroupNotEmpty, Cond.instanceMethod yX3_checkGroupNotEmpty, Cond.selects RX3 yX3_checkGroupNotEmpty yX3_checkGroupNotEmpty, Cond.code yX3_checkGroupNotEmpty cX3_checkGroupNotEmpty 5 none, Cond.classLink RX3 38 "java/lang/IllegalStateException", Cond.initialized "java/lang/IllegalStateException", Cond.fieldLink RX3 11 "PileMoves" "piles" "[LPileMoves$Pile;", Cond.fieldLink RX3 101 "PileMoves$Pile" "joined" "Z", Cond.methodLink RX3 108 yX3_groupSettlement, Cond.instanceMethod yX3_groupSettlement, Cond.selects RX3 yX3_groupSettlement yX3_groupSettlement, Cond.code yX3_groupSettlement cX3_groupSettlement 5 (some .int), Cond.constant RX3 84 (-1000000), Cond.methodLink RX3 148 yX3_groupLoad]
def wsX3_group_r2 : List Cond := [Cond.instanceMethod yX3_groupLoad, Cond.selects RX3 yX3_groupLoad yX3_groupLoad, Cond.code yX3_groupLoad cX3_groupLoad 8 (some .long), Cond.fieldLink RX3 18 "PileMoves" "state" "LPileMoves$State;", Cond.constantLong RX3 152 (1000000000000), Cond.fieldLink RX3 91 "PileMoves$State" "forceAbove" "I", Cond.methodLink RX3 95 yX2_findAt, Cond.instanceMethod yX2_findAt, Cond.selects RX2 yX2_findAt yX2_findAt, Cond.initialized RX2, Cond.code yX2_findAt cX2_findAt 3 (some .boolean), Cond.methodLink RX2 9 yX2_find, Cond.instanceMethod yX2_find, Cond.selects RX2 yX2_find yX2_find, Cond.code yX2_find cX2_find 6 (some .boolean), Cond.constant RX2 64 (-100001), Cond.constant RX2 65 (131072), Cond.fieldLink RX2 15 "PileMoves$State" "last" "I", Cond.constant RX2 19 (100000), Cond.fieldLink RX2 39 "PileMoves$State" "forceAbove" "I", Cond.fieldLink RX2 26 "PileMoves$State" "place" "I", Cond.constant RX2 70 (-100000), Cond.methodLink RX2 66 yX2_climb, Cond.instanceMethod yX2_climb]
def wsX3_group_r3 : List Cond := [Cond.selects RX2 yX2_climb yX2_climb, Cond.code yX2_climb cX2_climb 7 none, Cond.fieldLink RX2 29 "PileMoves$Pile" "tipStiff" "I", Cond.fieldLink RX2 32 "PileMoves$Pile" "tipMost" "I", Cond.fieldLink RX2 42 "PileMoves$Pile" "spring" "I", Cond.fieldLink RX2 51 "PileMoves$Pile" "stiff" "[I", Cond.fieldLink RX2 55 "PileMoves$Pile" "sunk" "[I", Cond.fieldLink RX2 58 "PileMoves$Pile" "most" "[I", Cond.fieldLink RX2 61 "PileMoves$State" "groundForce" "I", Cond.methodLink RX2 20 yX1_pieces, Cond.instanceMethod yX1_pieces, Cond.selects RX1 yX1_pieces yX1_pieces, Cond.initialized RX1, Cond.code yX1_pieces cX1_pieces 1 (some .int), Cond.fieldLink RX1 19 "PileMoves$Pile" "stiff" "[I", Cond.static yX3_clamp, Cond.code yX3_clamp cX3_clamp 4 (some .int), Cond.methodLink RX2 45 yJ9_floorDiv_7cf53, Cond.static yJ9_floorDiv_7cf53, Cond.initialized RJ9, Cond.code yJ9_floorDiv_7cf53 cJ9_floorDiv_7cf53 3 (some .int)]
def wsX3_group : List Cond := .code yX3_group cX3_group 2 (some .int) :: ((wsX3_group_r1 ++ (wsX3_group_r2 ++ wsX3_group_r3)) ++ wsX30 ++ wsX10 ++ wsX20 ++ (vx_atS RX3 116 "java/lang/IllegalArgumentException" ["java/lang/RuntimeException", "java/lang/Exception"]).filter goodWord ++ (vx_atS RX3 42 "java/lang/IllegalStateException" ["java/lang/RuntimeException", "java/lang/Exception"]).filter goodWord)
def wsX3_share_r1 : List Cond := [Cond.classLink RX3 112 "java/lang/IllegalArgumentException", Cond.initialized "java/lang/IllegalArgumentException", Cond.fieldLink RX3 101 "PileMoves$Pile" "joined" "Z", Cond.constant RX3 84 (-1000000), Cond.fieldLink RX3 18 "PileMoves" "state" "LPileMoves$State;", Cond.fieldLink RX3 91 "PileMoves$State" "forceAbove" "I", Cond.methodLink RX3 73 yX3_checkLoad, Cond.static yX3_checkLoad, Cond.initialized RX3, Cond.code yX3_checkLoad cX3_checkLoad 1 none, Cond.constant RX3 140 (10000000), Cond.methodLink RX3 33 yX3_checkWithin, Cond.static yX3_checkWithin, Cond.code yX3_checkWithin cX3_checkWithin 3 none, Cond.methodLink RX3 48 yX3_pileOf, Cond.instanceMethod yX3_pileOf, Cond.selects RX3 yX3_pileOf yX3_pileOf, Cond.code yX3_pileOf cX3_pileOf 2 (some (.object "PileMoves$Pile")), Cond.fieldLink RX3 11 "PileMoves" "piles" "[LPileMoves$Pile;", Cond.methodLink RX3 105 yX3_checkGroupNotEmpty, Cond.instanceMethod yX3_checkGroupNotEmpty, Cond.selects RX3 yX3_checkGroupNotEmpty yX3_checkGroupNotEmpty, Cond.code yX3_checkGroupNotEmpty cX3_checkGroupNotEmpty 5 none, Cond.classLink RX3 38 "java/lang/IllegalStateException"]
def wsX3_share_r2 : List Cond := [Cond.initialized "java/lang/IllegalStateException", Cond.methodLink RX3 108 yX3_groupSettlement, Cond.instanceMethod yX3_groupSettlement, Cond.selects RX3 yX3_groupSettlement yX3_groupSettlement, Cond.code yX3_groupSettlement cX3_groupSettlement 5 (some .int), Cond.methodLink RX3 148 yX3_groupLoad, Cond.instanceMethod yX3_groupLoad, Cond.selects RX3 yX3_groupLoad yX3_groupLoad, Cond.code yX3_groupLoad cX3_groupLoad 8 (some .long), Cond.constantLong RX3 152 (1000000000000), Cond.methodLink RX3 95 yX2_findAt, Cond.instanceMethod yX2_findAt, Cond.selects RX2 yX2_findAt yX2_findAt, Cond.initialized RX2, Cond.code yX2_findAt cX2_findAt 3 (some .boolean), Cond.methodLink RX2 9 yX2_find, Cond.instanceMethod yX2_find, Cond.selects RX2 yX2_find yX2_find, Cond.code yX2_find cX2_find 6 (some .boolean), Cond.constant RX2 64 (-100001), Cond.constant RX2 65 (131072), Cond.fieldLink RX2 15 "PileMoves$State" "last" "I", Cond.constant RX2 19 (100000), Cond.fieldLink RX2 39 "PileMoves$State" "forceAbove" "I"]
def wsX3_share_r3 : List Cond := [Cond.fieldLink RX2 26 "PileMoves$State" "place" "I", Cond.constant RX2 70 (-100000), Cond.methodLink RX2 66 yX2_climb, Cond.instanceMethod yX2_climb, Cond.selects RX2 yX2_climb yX2_climb, Cond.code yX2_climb cX2_climb 7 none, Cond.fieldLink RX2 29 "PileMoves$Pile" "tipStiff" "I", Cond.fieldLink RX2 32 "PileMoves$Pile" "tipMost" "I", Cond.fieldLink RX2 42 "PileMoves$Pile" "spring" "I", Cond.fieldLink RX2 51 "PileMoves$Pile" "stiff" "[I", Cond.fieldLink RX2 55 "PileMoves$Pile" "sunk" "[I", Cond.fieldLink RX2 58 "PileMoves$Pile" "most" "[I", Cond.fieldLink RX2 61 "PileMoves$State" "groundForce" "I", Cond.methodLink RX2 20 yX1_pieces, Cond.instanceMethod yX1_pieces, Cond.selects RX1 yX1_pieces yX1_pieces, Cond.initialized RX1, Cond.code yX1_pieces cX1_pieces 1 (some .int), Cond.fieldLink RX1 19 "PileMoves$Pile" "stiff" "[I", Cond.static yX3_clamp, Cond.code yX3_clamp cX3_clamp 4 (some .int), Cond.methodLink RX2 45 yJ9_floorDiv_7cf53, Cond.static yJ9_floorDiv_7cf53, Cond.initialized RJ9]
def wsX3_share_r4 : List Cond := [Cond.code yJ9_floorDiv_7cf53 cJ9_floorDiv_7cf53 3 (some .int)]
def wsX3_share : List Cond := .code yX3_share cX3_share 5 (some .int) :: ((wsX3_share_r1 ++ (wsX3_share_r2 ++ (wsX3_share_r3 ++ wsX3_share_r4))) ++ wsX10 ++ wsX30 ++ wsX20 ++ (vx_atS RX3 116 "java/lang/IllegalArgumentException" ["java/lang/RuntimeException", "java/lang/Exception"]).filter goodWord ++ (vx_atS RX3 42 "java/lang/IllegalStateException" ["java/lang/RuntimeException", "java/lang/Exception"]).filter goodWord)
def wsX3_blow_r1 : List Cond := [Cond.fieldLink RX3 25 "PileMoves" "latestBlow" "LPileMoves$Blow;", Cond.methodLink RX3 48 yX3_pileOf, Cond.instanceMethod yX3_pileOf, Cond.selects RX3 yX3_pileOf yX3_pileOf, Cond.initialized RX3, Cond.code yX3_pileOf cX3_pileOf 2 (some (.object "PileMoves$Pile")), Cond.classLink RX3 112 "java/lang/IllegalArgumentException", Cond.initialized "java/lang/IllegalArgumentException", Cond.fieldLink RX3 11 "PileMoves" "piles" "[LPileMoves$Pile;", Cond.methodLink RX3 33 yX3_checkWithin, Cond.static yX3_checkWithin, Cond.code yX3_checkWithin cX3_checkWithin 3 none, Cond.methodLink RX3 117 yX0_strike, Cond.instanceMethod yX0_strike, Cond.selects RX0 yX0_strike yX0_strike, Cond.initialized RX0, Cond.code yX0_strike cX0_strike 7 none, Cond.fieldLink RX0 25 "PileMoves$Blow" "pieces" "I", Cond.fieldLink RX0 30 "PileMoves$Blow" "deepest" "I", Cond.fieldLink RX0 11 "PileMoves$Blow" "places" "[I", Cond.fieldLink RX0 15 "PileMoves$Blow" "speeds" "[I", Cond.fieldLink RX0 58 "PileMoves$Pile" "mass" "I", Cond.methodLink RX0 65 Lib.Math.max.name, Cond.static Lib.Math.max.name]
def wsX3_blow_r2 : List Cond := [Cond.initialized "java/lang/Math", Cond.code Lib.Math.max.name Lib.Math.max.code 2 (some .int), Cond.fieldLink RX0 22 "PileMoves$Blow" "waves" "[I", Cond.methodLink RX0 68 arraycopyName, Cond.native arraycopyName, Cond.static arraycopyName, Cond.initialized "java/lang/System", Cond.methodLink RX0 45 yX1_pieces, Cond.instanceMethod yX1_pieces, Cond.selects RX1 yX1_pieces yX1_pieces, Cond.initialized RX1, Cond.code yX1_pieces cX1_pieces 1 (some .int), Cond.fieldLink RX1 19 "PileMoves$Pile" "stiff" "[I", Cond.methodLink RX0 48 yJ7_fill_53178, Cond.static yJ7_fill_53178, Cond.initialized RJ7, Cond.code yJ7_fill_53178 cJ7_fill_53178 4 none, Cond.methodLink RX0 54 yX0_gatherPushes, Cond.instanceMethod yX0_gatherPushes, Cond.selects RX0 yX0_gatherPushes yX0_gatherPushes, Cond.code yX0_gatherPushes cX0_gatherPushes 3 none, Cond.fieldLink RX0 18 "PileMoves$Blow" "pushes" "[J", Cond.constantLong RX0 77 (10), Cond.methodLink RX0 39 Lib.MathLoose.max_long.x]
def wsX3_blow_r3 : List Cond := [Cond.static Lib.MathLoose.max_long.x, Cond.code Lib.MathLoose.max_long.x Lib.MathLoose.max_long.code 4 (some .long), Cond.fieldLink RX0 83 "PileMoves$Pile" "spring" "I", Cond.constantLong RX0 86 (1000), Cond.fieldLink RX0 88 "PileMoves$Pile" "stiff" "[I", Cond.fieldLink RX0 91 "PileMoves$Pile" "most" "[I", Cond.fieldLink RX0 98 "PileMoves$Pile" "tipStiff" "I", Cond.fieldLink RX0 101 "PileMoves$Pile" "tipMost" "I", Cond.methodLink RX0 74 yJ7_fill_d0a16, Cond.static yJ7_fill_d0a16, Cond.code yJ7_fill_d0a16 cJ7_fill_d0a16 5 none, Cond.methodLink RX0 79 yX0_press, Cond.instanceMethod yX0_press, Cond.selects RX0 yX0_press yX0_press, Cond.code yX0_press cX0_press 5 none, Cond.static yX3_clamp, Cond.code yX3_clamp cX3_clamp 4 (some .int), Cond.methodLink RX0 61 yX0_move, Cond.instanceMethod yX0_move, Cond.selects RX0 yX0_move yX0_move, Cond.code yX0_move cX0_move 5 none, Cond.constant RX0 104 (-1000000000), Cond.constant RX0 105 (1000000000), Cond.methodLink RX3 121 yX0_settled]
def wsX3_blow_r4 : List Cond := [Cond.instanceMethod yX0_settled, Cond.selects RX0 yX0_settled yX0_settled, Cond.code yX0_settled cX0_settled 2 (some .int), Cond.methodLink RX0 33 yX1_quake, Cond.instanceMethod yX1_quake, Cond.selects RX1 yX1_quake yX1_quake, Cond.code yX1_quake cX1_quake 1 (some .long), Cond.fieldLink RX1 29 "PileMoves$Pile" "tipStiff" "I", Cond.constantLong RX1 32 (1000), Cond.fieldLink RX1 34 "PileMoves$Pile" "tipMost" "I"]
def wsX3_blow : List Cond := .code yX3_blow cX3_blow 5 (some .int) :: ((wsX3_blow_r1 ++ (wsX3_blow_r2 ++ (wsX3_blow_r3 ++ wsX3_blow_r4))) ++ wsX30 ++ wsX00 ++ wsX10 ++ (vx_atS RX3 116 "java/lang/IllegalArgumentException" ["java/lang/RuntimeException", "java/lang/Exception"]).filter goodWord)
def wsX3_wave : List Cond := .code yX3_wave cX3_wave 3 (some .int) :: ([.classLink RX3 38 "java/lang/IllegalStateException", .initialized "java/lang/IllegalStateException", .fieldLink RX3 25 "PileMoves" "latestBlow" "LPileMoves$Blow;", .fieldLink RX3 131 "PileMoves$Blow" "pieces" "I", .methodLink RX3 125 yX0_happened, .instanceMethod yX0_happened, .selects RX0 yX0_happened yX0_happened, .initialized RX0, .code yX0_happened cX0_happened 1 (some .boolean), .fieldLink RX0 25 "PileMoves$Blow" "pieces" "I", .methodLink RX3 33 yX3_checkWithin, .static yX3_checkWithin, .initialized RX3, .code yX3_checkWithin cX3_checkWithin 3 none, .classLink RX3 112 "java/lang/IllegalArgumentException", .initialized "java/lang/IllegalArgumentException", .methodLink RX3 134 yX0_behindRound, .instanceMethod yX0_behindRound, .selects RX0 yX0_behindRound yX0_behindRound, .code yX0_behindRound cX0_behindRound 4 (some .int), .fieldLink RX0 22 "PileMoves$Blow" "waves" "[I", .constant RX0 29 (-1000000)] ++ wsX30 ++ wsX00 ++ (vx_atS RX3 42 "java/lang/IllegalStateException" ["java/lang/RuntimeException", "java/lang/Exception"]).filter goodWord ++ (vx_atS RX3 116 "java/lang/IllegalArgumentException" ["java/lang/RuntimeException", "java/lang/Exception"]).filter goodWord)
def wsX4_init : List Cond := .code yX4_init cX4_init 1 none :: ([.methodLink RX4 1 objectInit, .instanceMethod objectInit, .code objectInit ⟨#[0xb1]⟩ 1 none, .arrayClass .int, .fieldLink RX4 7 "PileMovesModel" "many" "[I", .arrayClass .long, .fieldLink RX4 13 "PileMovesModel" "springs" "[J", .fieldLink RX4 17 "PileMovesModel" "masses" "[J", .fieldLink RX4 20 "PileMovesModel" "costs" "[I", .fieldLink RX4 23 "PileMovesModel" "stiff" "[J", .fieldLink RX4 26 "PileMovesModel" "most" "[J", .fieldLink RX4 29 "PileMovesModel" "sinks" "[J", .fieldLink RX4 32 "PileMovesModel" "tipStiff" "[J", .fieldLink RX4 35 "PileMovesModel" "tipMost" "[J", .arrayClass .boolean, .fieldLink RX4 38 "PileMovesModel" "isIn" "[Z", .fieldLink RX4 42 "PileMovesModel" "places" "[J", .fieldLink RX4 45 "PileMovesModel" "grounds" "[J", .fieldLink RX4 48 "PileMovesModel" "above" "[J", .fieldLink RX4 51 "PileMovesModel" "waves" "[J", .constant RX4 54 (-1000000), .fieldLink RX4 55 "PileMovesModel" "blown" "I", .fieldLink RX4 59 "PileMovesModel" "at" "[J", .fieldLink RX4 62 "PileMovesModel" "speeds" "[J"] ++ wsX40)
def wsX4_thrown : List Cond := .code yX4_thrown cX4_thrown 1 (some .int) :: ([.fieldLink RX4 65 "PileMovesModel" "code" "I"] ++ wsX40)
def wsX4_in : List Cond := .code yX4_in cX4_in 6 (some .boolean) :: ([])
def wsX4_cut : List Cond := .code yX4_cut cX4_cut 6 (some .long) :: ([])
def wsX4_down : List Cond := .code yX4_down cX4_down 4 (some .long) :: ([])
def wsX4_isPile : List Cond := .code yX4_isPile cX4_isPile 2 (some .boolean) :: ([.fieldLink RX4 68 "PileMovesModel" "piles" "I", .methodLink RX4 71 yX4_in, .static yX4_in, .initialized RX4, .code yX4_in cX4_in 6 (some .boolean)] ++ wsX40)
def wsX4_isPiece : List Cond := .code yX4_isPiece cX4_isPiece 3 (some .boolean) :: ([.fieldLink RX4 7 "PileMovesModel" "many" "[I", .methodLink RX4 75 yX4_isPile, .instanceMethod yX4_isPile, .selects RX4 yX4_isPile yX4_isPile, .initialized RX4, .code yX4_isPile cX4_isPile 2 (some .boolean), .fieldLink RX4 68 "PileMovesModel" "piles" "I", .methodLink RX4 71 yX4_in, .static yX4_in, .code yX4_in cX4_in 6 (some .boolean)] ++ wsX40)
def wsX4_pile : List Cond := .code yX4_pile cX4_pile 5 (some .int) :: ([.constantLong RX4 79 (12), .constantLong RX4 81 (10000), .constantLong RX4 83 (1000), .constantLong RX4 85 (100000), .fieldLink RX4 68 "PileMovesModel" "piles" "I", .fieldLink RX4 65 "PileMovesModel" "code" "I", .fieldLink RX4 7 "PileMovesModel" "many" "[I", .fieldLink RX4 13 "PileMovesModel" "springs" "[J", .fieldLink RX4 17 "PileMovesModel" "masses" "[J", .fieldLink RX4 20 "PileMovesModel" "costs" "[I", .methodLink RX4 71 yX4_in, .static yX4_in, .initialized RX4, .code yX4_in cX4_in 6 (some .boolean)] ++ wsX40)
def wsX4_ground : List Cond := .code yX4_ground cX4_ground 5 none :: ([.constantLong RX4 83 (1000), .constantLong RX4 85 (100000), .fieldLink RX4 65 "PileMovesModel" "code" "I", .fieldLink RX4 23 "PileMovesModel" "stiff" "[J", .fieldLink RX4 26 "PileMovesModel" "most" "[J", .methodLink RX4 87 yX4_isPiece, .instanceMethod yX4_isPiece, .selects RX4 yX4_isPiece yX4_isPiece, .initialized RX4, .code yX4_isPiece cX4_isPiece 3 (some .boolean), .fieldLink RX4 7 "PileMovesModel" "many" "[I", .methodLink RX4 75 yX4_isPile, .instanceMethod yX4_isPile, .selects RX4 yX4_isPile yX4_isPile, .code yX4_isPile cX4_isPile 2 (some .boolean), .fieldLink RX4 68 "PileMovesModel" "piles" "I", .methodLink RX4 71 yX4_in, .static yX4_in, .code yX4_in cX4_in 6 (some .boolean)] ++ wsX40)
def wsX4_sinks : List Cond := .code yX4_sinks cX4_sinks 6 (some .int) :: ([.constantLong RX4 81 (10000), .fieldLink RX4 65 "PileMovesModel" "code" "I", .fieldLink RX4 29 "PileMovesModel" "sinks" "[J", .methodLink RX4 87 yX4_isPiece, .instanceMethod yX4_isPiece, .selects RX4 yX4_isPiece yX4_isPiece, .initialized RX4, .code yX4_isPiece cX4_isPiece 3 (some .boolean), .fieldLink RX4 7 "PileMovesModel" "many" "[I", .methodLink RX4 75 yX4_isPile, .instanceMethod yX4_isPile, .selects RX4 yX4_isPile yX4_isPile, .code yX4_isPile cX4_isPile 2 (some .boolean), .fieldLink RX4 68 "PileMovesModel" "piles" "I", .methodLink RX4 71 yX4_in, .static yX4_in, .code yX4_in cX4_in 6 (some .boolean)] ++ wsX40)
def wsX4_tip : List Cond := .code yX4_tip cX4_tip 4 none :: ([.constantLong RX4 83 (1000), .constantLong RX4 91 (1000000), .fieldLink RX4 65 "PileMovesModel" "code" "I", .fieldLink RX4 32 "PileMovesModel" "tipStiff" "[J", .fieldLink RX4 35 "PileMovesModel" "tipMost" "[J", .methodLink RX4 75 yX4_isPile, .instanceMethod yX4_isPile, .selects RX4 yX4_isPile yX4_isPile, .initialized RX4, .code yX4_isPile cX4_isPile 2 (some .boolean), .fieldLink RX4 68 "PileMovesModel" "piles" "I", .methodLink RX4 71 yX4_in, .static yX4_in, .code yX4_in cX4_in 6 (some .boolean)] ++ wsX40)
def wsX4_march : List Cond := .code yX4_march cX4_march 11 (some .long) :: ([.fieldLink RX4 7 "PileMovesModel" "many" "[I", .fieldLink RX4 32 "PileMovesModel" "tipStiff" "[J", .fieldLink RX4 35 "PileMovesModel" "tipMost" "[J", .fieldLink RX4 42 "PileMovesModel" "places" "[J", .fieldLink RX4 45 "PileMovesModel" "grounds" "[J", .fieldLink RX4 23 "PileMovesModel" "stiff" "[J", .fieldLink RX4 29 "PileMovesModel" "sinks" "[J", .fieldLink RX4 26 "PileMovesModel" "most" "[J", .fieldLink RX4 48 "PileMovesModel" "above" "[J", .fieldLink RX4 13 "PileMovesModel" "springs" "[J", .methodLink RX4 93 yX4_cut, .static yX4_cut, .initialized RX4, .code yX4_cut cX4_cut 6 (some .long), .methodLink RX4 97 yX4_down, .static yX4_down, .code yX4_down cX4_down 4 (some .long)] ++ wsX40)
def wsX4_isWithin : List Cond := .code yX4_isWithin cX4_isWithin 9 (some .boolean) :: ([.fieldLink RX4 42 "PileMovesModel" "places" "[J", .methodLink RX4 101 yX4_march, .instanceMethod yX4_march, .selects RX4 yX4_march yX4_march, .initialized RX4, .code yX4_march cX4_march 11 (some .long), .fieldLink RX4 7 "PileMovesModel" "many" "[I", .fieldLink RX4 32 "PileMovesModel" "tipStiff" "[J", .fieldLink RX4 35 "PileMovesModel" "tipMost" "[J", .fieldLink RX4 45 "PileMovesModel" "grounds" "[J", .fieldLink RX4 23 "PileMovesModel" "stiff" "[J", .fieldLink RX4 29 "PileMovesModel" "sinks" "[J", .fieldLink RX4 26 "PileMovesModel" "most" "[J", .fieldLink RX4 48 "PileMovesModel" "above" "[J", .fieldLink RX4 13 "PileMovesModel" "springs" "[J", .methodLink RX4 93 yX4_cut, .static yX4_cut, .code yX4_cut cX4_cut 6 (some .long), .methodLink RX4 97 yX4_down, .static yX4_down, .code yX4_down cX4_down 4 (some .long)] ++ wsX40)
def wsX4_greatest_r1 : List Cond := [Cond.constantLong RX4 105 (-100000), Cond.constantLong RX4 111 (-100001), Cond.constantLong RX4 113 (131072), Cond.constantLong RX4 85 (100000), Cond.constantLong RX4 115 (2), Cond.methodLink RX4 107 yX4_isWithin, Cond.instanceMethod yX4_isWithin, Cond.selects RX4 yX4_isWithin yX4_isWithin, Cond.initialized RX4, Cond.code yX4_isWithin cX4_isWithin 9 (some .boolean), Cond.fieldLink RX4 42 "PileMovesModel" "places" "[J", Cond.methodLink RX4 101 yX4_march, Cond.instanceMethod yX4_march, Cond.selects RX4 yX4_march yX4_march, Cond.code yX4_march cX4_march 11 (some .long), Cond.fieldLink RX4 7 "PileMovesModel" "many" "[I", Cond.fieldLink RX4 32 "PileMovesModel" "tipStiff" "[J", Cond.fieldLink RX4 35 "PileMovesModel" "tipMost" "[J", Cond.fieldLink RX4 45 "PileMovesModel" "grounds" "[J", Cond.fieldLink RX4 23 "PileMovesModel" "stiff" "[J", Cond.fieldLink RX4 29 "PileMovesModel" "sinks" "[J", Cond.fieldLink RX4 26 "PileMovesModel" "most" "[J", Cond.fieldLink RX4 48 "PileMovesModel" "above" "[J", Cond.fieldLink RX4 13 "PileMovesModel" "springs" "[J"]
def wsX4_greatest_r2 : List Cond := [Cond.methodLink RX4 93 yX4_cut, Cond.static yX4_cut, Cond.code yX4_cut cX4_cut 6 (some .long), Cond.methodLink RX4 97 yX4_down, Cond.static yX4_down, Cond.code yX4_down cX4_down 4 (some .long)]
def wsX4_greatest : List Cond := .code yX4_greatest cX4_greatest 10 (some .long) :: ((wsX4_greatest_r1 ++ wsX4_greatest_r2) ++ wsX40)
def wsX4_stands_r1 : List Cond := [Cond.constantLong RX4 105 (-100000), Cond.constantLong RX4 85 (100000), Cond.methodLink RX4 117 yX4_greatest, Cond.instanceMethod yX4_greatest, Cond.selects RX4 yX4_greatest yX4_greatest, Cond.initialized RX4, Cond.code yX4_greatest cX4_greatest 10 (some .long), Cond.constantLong RX4 111 (-100001), Cond.constantLong RX4 113 (131072), Cond.constantLong RX4 115 (2), Cond.methodLink RX4 107 yX4_isWithin, Cond.instanceMethod yX4_isWithin, Cond.selects RX4 yX4_isWithin yX4_isWithin, Cond.code yX4_isWithin cX4_isWithin 9 (some .boolean), Cond.fieldLink RX4 42 "PileMovesModel" "places" "[J", Cond.methodLink RX4 101 yX4_march, Cond.instanceMethod yX4_march, Cond.selects RX4 yX4_march yX4_march, Cond.code yX4_march cX4_march 11 (some .long), Cond.fieldLink RX4 7 "PileMovesModel" "many" "[I", Cond.fieldLink RX4 32 "PileMovesModel" "tipStiff" "[J", Cond.fieldLink RX4 35 "PileMovesModel" "tipMost" "[J", Cond.fieldLink RX4 45 "PileMovesModel" "grounds" "[J", Cond.fieldLink RX4 23 "PileMovesModel" "stiff" "[J"]
def wsX4_stands_r2 : List Cond := [Cond.fieldLink RX4 29 "PileMovesModel" "sinks" "[J", Cond.fieldLink RX4 26 "PileMovesModel" "most" "[J", Cond.fieldLink RX4 48 "PileMovesModel" "above" "[J", Cond.fieldLink RX4 13 "PileMovesModel" "springs" "[J", Cond.methodLink RX4 93 yX4_cut, Cond.static yX4_cut, Cond.code yX4_cut cX4_cut 6 (some .long), Cond.methodLink RX4 97 yX4_down, Cond.static yX4_down, Cond.code yX4_down cX4_down 4 (some .long)]
def wsX4_stands : List Cond := .code yX4_stands cX4_stands 6 (some .boolean) :: ((wsX4_stands_r1 ++ wsX4_stands_r2) ++ wsX40)
def wsX4_under_r1 : List Cond := [Cond.constantLong RX4 121 (10000000), Cond.fieldLink RX4 65 "PileMovesModel" "code" "I", Cond.fieldLink RX4 42 "PileMovesModel" "places" "[J", Cond.constant RX4 54 (-1000000), Cond.methodLink RX4 75 yX4_isPile, Cond.instanceMethod yX4_isPile, Cond.selects RX4 yX4_isPile yX4_isPile, Cond.initialized RX4, Cond.code yX4_isPile cX4_isPile 2 (some .boolean), Cond.fieldLink RX4 68 "PileMovesModel" "piles" "I", Cond.methodLink RX4 71 yX4_in, Cond.static yX4_in, Cond.code yX4_in cX4_in 6 (some .boolean), Cond.methodLink RX4 123 yX4_stands, Cond.instanceMethod yX4_stands, Cond.selects RX4 yX4_stands yX4_stands, Cond.code yX4_stands cX4_stands 6 (some .boolean), Cond.constantLong RX4 105 (-100000), Cond.constantLong RX4 85 (100000), Cond.methodLink RX4 117 yX4_greatest, Cond.instanceMethod yX4_greatest, Cond.selects RX4 yX4_greatest yX4_greatest, Cond.code yX4_greatest cX4_greatest 10 (some .long), Cond.constantLong RX4 111 (-100001)]
def wsX4_under_r2 : List Cond := [Cond.constantLong RX4 113 (131072), Cond.constantLong RX4 115 (2), Cond.methodLink RX4 107 yX4_isWithin, Cond.instanceMethod yX4_isWithin, Cond.selects RX4 yX4_isWithin yX4_isWithin, Cond.code yX4_isWithin cX4_isWithin 9 (some .boolean), Cond.methodLink RX4 101 yX4_march, Cond.instanceMethod yX4_march, Cond.selects RX4 yX4_march yX4_march, Cond.code yX4_march cX4_march 11 (some .long), Cond.fieldLink RX4 7 "PileMovesModel" "many" "[I", Cond.fieldLink RX4 32 "PileMovesModel" "tipStiff" "[J", Cond.fieldLink RX4 35 "PileMovesModel" "tipMost" "[J", Cond.fieldLink RX4 45 "PileMovesModel" "grounds" "[J", Cond.fieldLink RX4 23 "PileMovesModel" "stiff" "[J", Cond.fieldLink RX4 29 "PileMovesModel" "sinks" "[J", Cond.fieldLink RX4 26 "PileMovesModel" "most" "[J", Cond.fieldLink RX4 48 "PileMovesModel" "above" "[J", Cond.fieldLink RX4 13 "PileMovesModel" "springs" "[J", Cond.methodLink RX4 93 yX4_cut, Cond.static yX4_cut, Cond.code yX4_cut cX4_cut 6 (some .long), Cond.methodLink RX4 97 yX4_down, Cond.static yX4_down]
def wsX4_under_r3 : List Cond := [Cond.code yX4_down cX4_down 4 (some .long)]
def wsX4_under : List Cond := .code yX4_under cX4_under 3 (some .int) :: ((wsX4_under_r1 ++ (wsX4_under_r2 ++ wsX4_under_r3)) ++ wsX40)
def wsX4_piece_r1 : List Cond := [Cond.constantLong RX4 121 (10000000), Cond.constantLong RX4 115 (2), Cond.fieldLink RX4 65 "PileMovesModel" "code" "I", Cond.constant RX4 54 (-1000000), Cond.fieldLink RX4 42 "PileMovesModel" "places" "[J", Cond.fieldLink RX4 45 "PileMovesModel" "grounds" "[J", Cond.fieldLink RX4 48 "PileMovesModel" "above" "[J", Cond.methodLink RX4 87 yX4_isPiece, Cond.instanceMethod yX4_isPiece, Cond.selects RX4 yX4_isPiece yX4_isPiece, Cond.initialized RX4, Cond.code yX4_isPiece cX4_isPiece 3 (some .boolean), Cond.fieldLink RX4 7 "PileMovesModel" "many" "[I", Cond.methodLink RX4 75 yX4_isPile, Cond.instanceMethod yX4_isPile, Cond.selects RX4 yX4_isPile yX4_isPile, Cond.code yX4_isPile cX4_isPile 2 (some .boolean), Cond.fieldLink RX4 68 "PileMovesModel" "piles" "I", Cond.methodLink RX4 71 yX4_in, Cond.static yX4_in, Cond.code yX4_in cX4_in 6 (some .boolean), Cond.methodLink RX4 123 yX4_stands, Cond.instanceMethod yX4_stands, Cond.selects RX4 yX4_stands yX4_stands]
def wsX4_piece_r2 : List Cond := [Cond.code yX4_stands cX4_stands 6 (some .boolean), Cond.constantLong RX4 105 (-100000), Cond.constantLong RX4 85 (100000), Cond.methodLink RX4 117 yX4_greatest, Cond.instanceMethod yX4_greatest, Cond.selects RX4 yX4_greatest yX4_greatest, Cond.code yX4_greatest cX4_greatest 10 (some .long), Cond.constantLong RX4 111 (-100001), Cond.constantLong RX4 113 (131072), Cond.methodLink RX4 107 yX4_isWithin, Cond.instanceMethod yX4_isWithin, Cond.selects RX4 yX4_isWithin yX4_isWithin, Cond.code yX4_isWithin cX4_isWithin 9 (some .boolean), Cond.methodLink RX4 101 yX4_march, Cond.instanceMethod yX4_march, Cond.selects RX4 yX4_march yX4_march, Cond.code yX4_march cX4_march 11 (some .long), Cond.fieldLink RX4 32 "PileMovesModel" "tipStiff" "[J", Cond.fieldLink RX4 35 "PileMovesModel" "tipMost" "[J", Cond.fieldLink RX4 23 "PileMovesModel" "stiff" "[J", Cond.fieldLink RX4 29 "PileMovesModel" "sinks" "[J", Cond.fieldLink RX4 26 "PileMovesModel" "most" "[J", Cond.fieldLink RX4 13 "PileMovesModel" "springs" "[J", Cond.methodLink RX4 93 yX4_cut]
def wsX4_piece_r3 : List Cond := [Cond.static yX4_cut, Cond.code yX4_cut cX4_cut 6 (some .long), Cond.methodLink RX4 97 yX4_down, Cond.static yX4_down, Cond.code yX4_down cX4_down 4 (some .long)]
def wsX4_piece : List Cond := .code yX4_piece cX4_piece 5 (some .int) :: ((wsX4_piece_r1 ++ (wsX4_piece_r2 ++ wsX4_piece_r3)) ++ wsX40)
def wsX4_hasState_r1 : List Cond := [Cond.constantLong RX4 105 (-100000), Cond.methodLink RX4 117 yX4_greatest, Cond.instanceMethod yX4_greatest, Cond.selects RX4 yX4_greatest yX4_greatest, Cond.initialized RX4, Cond.code yX4_greatest cX4_greatest 10 (some .long), Cond.constantLong RX4 111 (-100001), Cond.constantLong RX4 113 (131072), Cond.constantLong RX4 85 (100000), Cond.constantLong RX4 115 (2), Cond.methodLink RX4 107 yX4_isWithin, Cond.instanceMethod yX4_isWithin, Cond.selects RX4 yX4_isWithin yX4_isWithin, Cond.code yX4_isWithin cX4_isWithin 9 (some .boolean), Cond.fieldLink RX4 42 "PileMovesModel" "places" "[J", Cond.methodLink RX4 101 yX4_march, Cond.instanceMethod yX4_march, Cond.selects RX4 yX4_march yX4_march, Cond.code yX4_march cX4_march 11 (some .long), Cond.fieldLink RX4 7 "PileMovesModel" "many" "[I", Cond.fieldLink RX4 32 "PileMovesModel" "tipStiff" "[J", Cond.fieldLink RX4 35 "PileMovesModel" "tipMost" "[J", Cond.fieldLink RX4 45 "PileMovesModel" "grounds" "[J", Cond.fieldLink RX4 23 "PileMovesModel" "stiff" "[J"]
def wsX4_hasState_r2 : List Cond := [Cond.fieldLink RX4 29 "PileMovesModel" "sinks" "[J", Cond.fieldLink RX4 26 "PileMovesModel" "most" "[J", Cond.fieldLink RX4 48 "PileMovesModel" "above" "[J", Cond.fieldLink RX4 13 "PileMovesModel" "springs" "[J", Cond.methodLink RX4 93 yX4_cut, Cond.static yX4_cut, Cond.code yX4_cut cX4_cut 6 (some .long), Cond.methodLink RX4 97 yX4_down, Cond.static yX4_down, Cond.code yX4_down cX4_down 4 (some .long)]
def wsX4_hasState : List Cond := .code yX4_hasState cX4_hasState 4 (some .boolean) :: ((wsX4_hasState_r1 ++ wsX4_hasState_r2) ++ wsX40)
def wsX4_loadAt_r1 : List Cond := [Cond.methodLink RX4 117 yX4_greatest, Cond.instanceMethod yX4_greatest, Cond.selects RX4 yX4_greatest yX4_greatest, Cond.initialized RX4, Cond.code yX4_greatest cX4_greatest 10 (some .long), Cond.constantLong RX4 105 (-100000), Cond.constantLong RX4 111 (-100001), Cond.constantLong RX4 113 (131072), Cond.constantLong RX4 85 (100000), Cond.constantLong RX4 115 (2), Cond.methodLink RX4 107 yX4_isWithin, Cond.instanceMethod yX4_isWithin, Cond.selects RX4 yX4_isWithin yX4_isWithin, Cond.code yX4_isWithin cX4_isWithin 9 (some .boolean), Cond.fieldLink RX4 42 "PileMovesModel" "places" "[J", Cond.methodLink RX4 101 yX4_march, Cond.instanceMethod yX4_march, Cond.selects RX4 yX4_march yX4_march, Cond.code yX4_march cX4_march 11 (some .long), Cond.fieldLink RX4 7 "PileMovesModel" "many" "[I", Cond.fieldLink RX4 32 "PileMovesModel" "tipStiff" "[J", Cond.fieldLink RX4 35 "PileMovesModel" "tipMost" "[J", Cond.fieldLink RX4 45 "PileMovesModel" "grounds" "[J", Cond.fieldLink RX4 23 "PileMovesModel" "stiff" "[J"]
def wsX4_loadAt_r2 : List Cond := [Cond.fieldLink RX4 29 "PileMovesModel" "sinks" "[J", Cond.fieldLink RX4 26 "PileMovesModel" "most" "[J", Cond.fieldLink RX4 48 "PileMovesModel" "above" "[J", Cond.fieldLink RX4 13 "PileMovesModel" "springs" "[J", Cond.methodLink RX4 93 yX4_cut, Cond.static yX4_cut, Cond.code yX4_cut cX4_cut 6 (some .long), Cond.methodLink RX4 97 yX4_down, Cond.static yX4_down, Cond.code yX4_down cX4_down 4 (some .long)]
def wsX4_loadAt : List Cond := .code yX4_loadAt cX4_loadAt 4 (some .long) :: ((wsX4_loadAt_r1 ++ wsX4_loadAt_r2) ++ wsX40)
def wsX4_load_r1 : List Cond := [Cond.constantLong RX4 105 (-100000), Cond.constantLong RX4 85 (100000), Cond.fieldLink RX4 65 "PileMovesModel" "code" "I", Cond.constant RX4 54 (-1000000), Cond.methodLink RX4 75 yX4_isPile, Cond.instanceMethod yX4_isPile, Cond.selects RX4 yX4_isPile yX4_isPile, Cond.initialized RX4, Cond.code yX4_isPile cX4_isPile 2 (some .boolean), Cond.fieldLink RX4 68 "PileMovesModel" "piles" "I", Cond.methodLink RX4 71 yX4_in, Cond.static yX4_in, Cond.code yX4_in cX4_in 6 (some .boolean), Cond.methodLink RX4 127 yX4_hasState, Cond.instanceMethod yX4_hasState, Cond.selects RX4 yX4_hasState yX4_hasState, Cond.code yX4_hasState cX4_hasState 4 (some .boolean), Cond.methodLink RX4 117 yX4_greatest, Cond.instanceMethod yX4_greatest, Cond.selects RX4 yX4_greatest yX4_greatest, Cond.code yX4_greatest cX4_greatest 10 (some .long), Cond.constantLong RX4 111 (-100001), Cond.constantLong RX4 113 (131072), Cond.constantLong RX4 115 (2)]
def wsX4_load_r2 : List Cond := [Cond.methodLink RX4 107 yX4_isWithin, Cond.instanceMethod yX4_isWithin, Cond.selects RX4 yX4_isWithin yX4_isWithin, Cond.code yX4_isWithin cX4_isWithin 9 (some .boolean), Cond.fieldLink RX4 42 "PileMovesModel" "places" "[J", Cond.methodLink RX4 101 yX4_march, Cond.instanceMethod yX4_march, Cond.selects RX4 yX4_march yX4_march, Cond.code yX4_march cX4_march 11 (some .long), Cond.fieldLink RX4 7 "PileMovesModel" "many" "[I", Cond.fieldLink RX4 32 "PileMovesModel" "tipStiff" "[J", Cond.fieldLink RX4 35 "PileMovesModel" "tipMost" "[J", Cond.fieldLink RX4 45 "PileMovesModel" "grounds" "[J", Cond.fieldLink RX4 23 "PileMovesModel" "stiff" "[J", Cond.fieldLink RX4 29 "PileMovesModel" "sinks" "[J", Cond.fieldLink RX4 26 "PileMovesModel" "most" "[J", Cond.fieldLink RX4 48 "PileMovesModel" "above" "[J", Cond.fieldLink RX4 13 "PileMovesModel" "springs" "[J", Cond.methodLink RX4 93 yX4_cut, Cond.static yX4_cut, Cond.code yX4_cut cX4_cut 6 (some .long), Cond.methodLink RX4 97 yX4_down, Cond.static yX4_down, Cond.code yX4_down cX4_down 4 (some .long)]
def wsX4_load_r3 : List Cond := [Cond.methodLink RX4 130 yX4_loadAt, Cond.instanceMethod yX4_loadAt, Cond.selects RX4 yX4_loadAt yX4_loadAt, Cond.code yX4_loadAt cX4_loadAt 4 (some .long)]
def wsX4_load : List Cond := .code yX4_load cX4_load 3 (some .int) :: ((wsX4_load_r1 ++ (wsX4_load_r2 ++ wsX4_load_r3)) ++ wsX40)
def wsX4_hold : List Cond := .code yX4_hold cX4_hold 5 (some .int) :: ([.fieldLink RX4 65 "PileMovesModel" "code" "I", .fieldLink RX4 7 "PileMovesModel" "many" "[I", .fieldLink RX4 26 "PileMovesModel" "most" "[J", .constantLong RX4 133 (7), .constantLong RX4 135 (10), .methodLink RX4 75 yX4_isPile, .instanceMethod yX4_isPile, .selects RX4 yX4_isPile yX4_isPile, .initialized RX4, .code yX4_isPile cX4_isPile 2 (some .boolean), .fieldLink RX4 68 "PileMovesModel" "piles" "I", .methodLink RX4 71 yX4_in, .static yX4_in, .code yX4_in cX4_in 6 (some .boolean)] ++ wsX40)
def wsX4_cheapest_r1 : List Cond := [Cond.constantLong RX4 121 (10000000), Cond.constantLong RX4 85 (100000), Cond.fieldLink RX4 65 "PileMovesModel" "code" "I", Cond.constant RX4 54 (-1000000), Cond.fieldLink RX4 68 "PileMovesModel" "piles" "I", Cond.fieldLink RX4 42 "PileMovesModel" "places" "[J", Cond.fieldLink RX4 20 "PileMovesModel" "costs" "[I", Cond.methodLink RX4 71 yX4_in, Cond.static yX4_in, Cond.initialized RX4, Cond.code yX4_in cX4_in 6 (some .boolean), Cond.methodLink RX4 123 yX4_stands, Cond.instanceMethod yX4_stands, Cond.selects RX4 yX4_stands yX4_stands, Cond.code yX4_stands cX4_stands 6 (some .boolean), Cond.constantLong RX4 105 (-100000), Cond.methodLink RX4 117 yX4_greatest, Cond.instanceMethod yX4_greatest, Cond.selects RX4 yX4_greatest yX4_greatest, Cond.code yX4_greatest cX4_greatest 10 (some .long), Cond.constantLong RX4 111 (-100001), Cond.constantLong RX4 113 (131072), Cond.constantLong RX4 115 (2), Cond.methodLink RX4 107 yX4_isWithin]
def wsX4_cheapest_r2 : List Cond := [Cond.instanceMethod yX4_isWithin, Cond.selects RX4 yX4_isWithin yX4_isWithin, Cond.code yX4_isWithin cX4_isWithin 9 (some .boolean), Cond.methodLink RX4 101 yX4_march, Cond.instanceMethod yX4_march, Cond.selects RX4 yX4_march yX4_march, Cond.code yX4_march cX4_march 11 (some .long), Cond.fieldLink RX4 7 "PileMovesModel" "many" "[I", Cond.fieldLink RX4 32 "PileMovesModel" "tipStiff" "[J", Cond.fieldLink RX4 35 "PileMovesModel" "tipMost" "[J", Cond.fieldLink RX4 45 "PileMovesModel" "grounds" "[J", Cond.fieldLink RX4 23 "PileMovesModel" "stiff" "[J", Cond.fieldLink RX4 29 "PileMovesModel" "sinks" "[J", Cond.fieldLink RX4 26 "PileMovesModel" "most" "[J", Cond.fieldLink RX4 48 "PileMovesModel" "above" "[J", Cond.fieldLink RX4 13 "PileMovesModel" "springs" "[J", Cond.methodLink RX4 93 yX4_cut, Cond.static yX4_cut, Cond.code yX4_cut cX4_cut 6 (some .long), Cond.methodLink RX4 97 yX4_down, Cond.static yX4_down, Cond.code yX4_down cX4_down 4 (some .long)]
def wsX4_cheapest : List Cond := .code yX4_cheapest cX4_cheapest 6 (some .int) :: ((wsX4_cheapest_r1 ++ wsX4_cheapest_r2) ++ wsX40)
def wsX4_join : List Cond := .code yX4_join cX4_join 4 (some .boolean) :: ([.fieldLink RX4 65 "PileMovesModel" "code" "I", .fieldLink RX4 38 "PileMovesModel" "isIn" "[Z", .methodLink RX4 75 yX4_isPile, .instanceMethod yX4_isPile, .selects RX4 yX4_isPile yX4_isPile, .initialized RX4, .code yX4_isPile cX4_isPile 2 (some .boolean), .fieldLink RX4 68 "PileMovesModel" "piles" "I", .methodLink RX4 71 yX4_in, .static yX4_in, .code yX4_in cX4_in 6 (some .boolean)] ++ wsX40)
def wsX4_isEmpty : List Cond := .code yX4_isEmpty cX4_isEmpty 3 (some .boolean) :: ([.fieldLink RX4 68 "PileMovesModel" "piles" "I", .fieldLink RX4 38 "PileMovesModel" "isIn" "[Z"] ++ wsX40)
def wsX4_loads_r1 : List Cond := [Cond.fieldLink RX4 68 "PileMovesModel" "piles" "I", Cond.fieldLink RX4 38 "PileMovesModel" "isIn" "[Z", Cond.methodLink RX4 130 yX4_loadAt, Cond.instanceMethod yX4_loadAt, Cond.selects RX4 yX4_loadAt yX4_loadAt, Cond.initialized RX4, Cond.code yX4_loadAt cX4_loadAt 4 (some .long), Cond.methodLink RX4 117 yX4_greatest, Cond.instanceMethod yX4_greatest, Cond.selects RX4 yX4_greatest yX4_greatest, Cond.code yX4_greatest cX4_greatest 10 (some .long), Cond.constantLong RX4 105 (-100000), Cond.constantLong RX4 111 (-100001), Cond.constantLong RX4 113 (131072), Cond.constantLong RX4 85 (100000), Cond.constantLong RX4 115 (2), Cond.methodLink RX4 107 yX4_isWithin, Cond.instanceMethod yX4_isWithin, Cond.selects RX4 yX4_isWithin yX4_isWithin, Cond.code yX4_isWithin cX4_isWithin 9 (some .boolean), Cond.fieldLink RX4 42 "PileMovesModel" "places" "[J", Cond.methodLink RX4 101 yX4_march, Cond.instanceMethod yX4_march, Cond.selects RX4 yX4_march yX4_march]
def wsX4_loads_r2 : List Cond := [Cond.code yX4_march cX4_march 11 (some .long), Cond.fieldLink RX4 7 "PileMovesModel" "many" "[I", Cond.fieldLink RX4 32 "PileMovesModel" "tipStiff" "[J", Cond.fieldLink RX4 35 "PileMovesModel" "tipMost" "[J", Cond.fieldLink RX4 45 "PileMovesModel" "grounds" "[J", Cond.fieldLink RX4 23 "PileMovesModel" "stiff" "[J", Cond.fieldLink RX4 29 "PileMovesModel" "sinks" "[J", Cond.fieldLink RX4 26 "PileMovesModel" "most" "[J", Cond.fieldLink RX4 48 "PileMovesModel" "above" "[J", Cond.fieldLink RX4 13 "PileMovesModel" "springs" "[J", Cond.methodLink RX4 93 yX4_cut, Cond.static yX4_cut, Cond.code yX4_cut cX4_cut 6 (some .long), Cond.methodLink RX4 97 yX4_down, Cond.static yX4_down, Cond.code yX4_down cX4_down 4 (some .long)]
def wsX4_loads : List Cond := .code yX4_loads cX4_loads 6 (some .long) :: ((wsX4_loads_r1 ++ wsX4_loads_r2) ++ wsX40)
def wsX4_settles_r1 : List Cond := [Cond.fieldLink RX4 68 "PileMovesModel" "piles" "I", Cond.fieldLink RX4 38 "PileMovesModel" "isIn" "[Z", Cond.constant RX4 54 (-1000000), Cond.constantLong RX4 81 (10000), Cond.methodLink RX4 127 yX4_hasState, Cond.instanceMethod yX4_hasState, Cond.selects RX4 yX4_hasState yX4_hasState, Cond.initialized RX4, Cond.code yX4_hasState cX4_hasState 4 (some .boolean), Cond.constantLong RX4 105 (-100000), Cond.methodLink RX4 117 yX4_greatest, Cond.instanceMethod yX4_greatest, Cond.selects RX4 yX4_greatest yX4_greatest, Cond.code yX4_greatest cX4_greatest 10 (some .long), Cond.constantLong RX4 111 (-100001), Cond.constantLong RX4 113 (131072), Cond.constantLong RX4 85 (100000), Cond.constantLong RX4 115 (2), Cond.methodLink RX4 107 yX4_isWithin, Cond.instanceMethod yX4_isWithin, Cond.selects RX4 yX4_isWithin yX4_isWithin, Cond.code yX4_isWithin cX4_isWithin 9 (some .boolean), Cond.fieldLink RX4 42 "PileMovesModel" "places" "[J", Cond.methodLink RX4 101 yX4_march]
def wsX4_settles_r2 : List Cond := [Cond.instanceMethod yX4_march, Cond.selects RX4 yX4_march yX4_march, Cond.code yX4_march cX4_march 11 (some .long), Cond.fieldLink RX4 7 "PileMovesModel" "many" "[I", Cond.fieldLink RX4 32 "PileMovesModel" "tipStiff" "[J", Cond.fieldLink RX4 35 "PileMovesModel" "tipMost" "[J", Cond.fieldLink RX4 45 "PileMovesModel" "grounds" "[J", Cond.fieldLink RX4 23 "PileMovesModel" "stiff" "[J", Cond.fieldLink RX4 29 "PileMovesModel" "sinks" "[J", Cond.fieldLink RX4 26 "PileMovesModel" "most" "[J", Cond.fieldLink RX4 48 "PileMovesModel" "above" "[J", Cond.fieldLink RX4 13 "PileMovesModel" "springs" "[J", Cond.methodLink RX4 93 yX4_cut, Cond.static yX4_cut, Cond.code yX4_cut cX4_cut 6 (some .long), Cond.methodLink RX4 97 yX4_down, Cond.static yX4_down, Cond.code yX4_down cX4_down 4 (some .long), Cond.methodLink RX4 137 yX4_loads, Cond.instanceMethod yX4_loads, Cond.selects RX4 yX4_loads yX4_loads, Cond.code yX4_loads cX4_loads 6 (some .long), Cond.methodLink RX4 130 yX4_loadAt, Cond.instanceMethod yX4_loadAt]
def wsX4_settles_r3 : List Cond := [Cond.selects RX4 yX4_loadAt yX4_loadAt, Cond.code yX4_loadAt cX4_loadAt 4 (some .long)]
def wsX4_settles : List Cond := .code yX4_settles cX4_settles 6 (some .int) :: ((wsX4_settles_r1 ++ (wsX4_settles_r2 ++ wsX4_settles_r3)) ++ wsX40)
def wsX4_group_r1 : List Cond := [Cond.constantLong RX4 121 (10000000), Cond.fieldLink RX4 65 "PileMovesModel" "code" "I", Cond.methodLink RX4 71 yX4_in, Cond.static yX4_in, Cond.initialized RX4, Cond.code yX4_in cX4_in 6 (some .boolean), Cond.methodLink RX4 141 yX4_isEmpty, Cond.instanceMethod yX4_isEmpty, Cond.selects RX4 yX4_isEmpty yX4_isEmpty, Cond.code yX4_isEmpty cX4_isEmpty 3 (some .boolean), Cond.fieldLink RX4 68 "PileMovesModel" "piles" "I", Cond.fieldLink RX4 38 "PileMovesModel" "isIn" "[Z", Cond.methodLink RX4 145 yX4_settles, Cond.instanceMethod yX4_settles, Cond.selects RX4 yX4_settles yX4_settles, Cond.code yX4_settles cX4_settles 6 (some .int), Cond.constant RX4 54 (-1000000), Cond.constantLong RX4 81 (10000), Cond.methodLink RX4 127 yX4_hasState, Cond.instanceMethod yX4_hasState, Cond.selects RX4 yX4_hasState yX4_hasState, Cond.code yX4_hasState cX4_hasState 4 (some .boolean), Cond.constantLong RX4 105 (-100000), Cond.methodLink RX4 117 yX4_greatest]
def wsX4_group_r2 : List Cond := [Cond.instanceMethod yX4_greatest, Cond.selects RX4 yX4_greatest yX4_greatest, Cond.code yX4_greatest cX4_greatest 10 (some .long), Cond.constantLong RX4 111 (-100001), Cond.constantLong RX4 113 (131072), Cond.constantLong RX4 85 (100000), Cond.constantLong RX4 115 (2), Cond.methodLink RX4 107 yX4_isWithin, Cond.instanceMethod yX4_isWithin, Cond.selects RX4 yX4_isWithin yX4_isWithin, Cond.code yX4_isWithin cX4_isWithin 9 (some .boolean), Cond.fieldLink RX4 42 "PileMovesModel" "places" "[J", Cond.methodLink RX4 101 yX4_march, Cond.instanceMethod yX4_march, Cond.selects RX4 yX4_march yX4_march, Cond.code yX4_march cX4_march 11 (some .long), Cond.fieldLink RX4 7 "PileMovesModel" "many" "[I", Cond.fieldLink RX4 32 "PileMovesModel" "tipStiff" "[J", Cond.fieldLink RX4 35 "PileMovesModel" "tipMost" "[J", Cond.fieldLink RX4 45 "PileMovesModel" "grounds" "[J", Cond.fieldLink RX4 23 "PileMovesModel" "stiff" "[J", Cond.fieldLink RX4 29 "PileMovesModel" "sinks" "[J", Cond.fieldLink RX4 26 "PileMovesModel" "most" "[J", Cond.fieldLink RX4 48 "PileMovesModel" "above" "[J"]
def wsX4_group_r3 : List Cond := [Cond.fieldLink RX4 13 "PileMovesModel" "springs" "[J", Cond.methodLink RX4 93 yX4_cut, Cond.static yX4_cut, Cond.code yX4_cut cX4_cut 6 (some .long), Cond.methodLink RX4 97 yX4_down, Cond.static yX4_down, Cond.code yX4_down cX4_down 4 (some .long), Cond.methodLink RX4 137 yX4_loads, Cond.instanceMethod yX4_loads, Cond.selects RX4 yX4_loads yX4_loads, Cond.code yX4_loads cX4_loads 6 (some .long), Cond.methodLink RX4 130 yX4_loadAt, Cond.instanceMethod yX4_loadAt, Cond.selects RX4 yX4_loadAt yX4_loadAt, Cond.code yX4_loadAt cX4_loadAt 4 (some .long)]
def wsX4_group : List Cond := .code yX4_group cX4_group 2 (some .int) :: ((wsX4_group_r1 ++ (wsX4_group_r2 ++ wsX4_group_r3)) ++ wsX40)
def wsX4_share_r1 : List Cond := [Cond.constantLong RX4 121 (10000000), Cond.fieldLink RX4 38 "PileMovesModel" "isIn" "[Z", Cond.fieldLink RX4 65 "PileMovesModel" "code" "I", Cond.constant RX4 54 (-1000000), Cond.methodLink RX4 71 yX4_in, Cond.static yX4_in, Cond.initialized RX4, Cond.code yX4_in cX4_in 6 (some .boolean), Cond.methodLink RX4 75 yX4_isPile, Cond.instanceMethod yX4_isPile, Cond.selects RX4 yX4_isPile yX4_isPile, Cond.code yX4_isPile cX4_isPile 2 (some .boolean), Cond.fieldLink RX4 68 "PileMovesModel" "piles" "I", Cond.methodLink RX4 141 yX4_isEmpty, Cond.instanceMethod yX4_isEmpty, Cond.selects RX4 yX4_isEmpty yX4_isEmpty, Cond.code yX4_isEmpty cX4_isEmpty 3 (some .boolean), Cond.methodLink RX4 145 yX4_settles, Cond.instanceMethod yX4_settles, Cond.selects RX4 yX4_settles yX4_settles, Cond.code yX4_settles cX4_settles 6 (some .int), Cond.constantLong RX4 81 (10000), Cond.methodLink RX4 127 yX4_hasState, Cond.instanceMethod yX4_hasState]
def wsX4_share_r2 : List Cond := [Cond.selects RX4 yX4_hasState yX4_hasState, Cond.code yX4_hasState cX4_hasState 4 (some .boolean), Cond.constantLong RX4 105 (-100000), Cond.methodLink RX4 117 yX4_greatest, Cond.instanceMethod yX4_greatest, Cond.selects RX4 yX4_greatest yX4_greatest, Cond.code yX4_greatest cX4_greatest 10 (some .long), Cond.constantLong RX4 111 (-100001), Cond.constantLong RX4 113 (131072), Cond.constantLong RX4 85 (100000), Cond.constantLong RX4 115 (2), Cond.methodLink RX4 107 yX4_isWithin, Cond.instanceMethod yX4_isWithin, Cond.selects RX4 yX4_isWithin yX4_isWithin, Cond.code yX4_isWithin cX4_isWithin 9 (some .boolean), Cond.fieldLink RX4 42 "PileMovesModel" "places" "[J", Cond.methodLink RX4 101 yX4_march, Cond.instanceMethod yX4_march, Cond.selects RX4 yX4_march yX4_march, Cond.code yX4_march cX4_march 11 (some .long), Cond.fieldLink RX4 7 "PileMovesModel" "many" "[I", Cond.fieldLink RX4 32 "PileMovesModel" "tipStiff" "[J", Cond.fieldLink RX4 35 "PileMovesModel" "tipMost" "[J", Cond.fieldLink RX4 45 "PileMovesModel" "grounds" "[J"]
def wsX4_share_r3 : List Cond := [Cond.fieldLink RX4 23 "PileMovesModel" "stiff" "[J", Cond.fieldLink RX4 29 "PileMovesModel" "sinks" "[J", Cond.fieldLink RX4 26 "PileMovesModel" "most" "[J", Cond.fieldLink RX4 48 "PileMovesModel" "above" "[J", Cond.fieldLink RX4 13 "PileMovesModel" "springs" "[J", Cond.methodLink RX4 93 yX4_cut, Cond.static yX4_cut, Cond.code yX4_cut cX4_cut 6 (some .long), Cond.methodLink RX4 97 yX4_down, Cond.static yX4_down, Cond.code yX4_down cX4_down 4 (some .long), Cond.methodLink RX4 137 yX4_loads, Cond.instanceMethod yX4_loads, Cond.selects RX4 yX4_loads yX4_loads, Cond.code yX4_loads cX4_loads 6 (some .long), Cond.methodLink RX4 130 yX4_loadAt, Cond.instanceMethod yX4_loadAt, Cond.selects RX4 yX4_loadAt yX4_loadAt, Cond.code yX4_loadAt cX4_loadAt 4 (some .long)]
def wsX4_share : List Cond := .code yX4_share cX4_share 4 (some .int) :: ((wsX4_share_r1 ++ (wsX4_share_r2 ++ wsX4_share_r3)) ++ wsX40)
def wsX4_round : List Cond := .code yX4_round cX4_round 16 none :: ([.fieldLink RX4 7 "PileMovesModel" "many" "[I", .constantLong RX4 135 (10), .fieldLink RX4 59 "PileMovesModel" "at" "[J", .fieldLink RX4 62 "PileMovesModel" "speeds" "[J", .constantLong RX4 149 (-1000), .constantLong RX4 151 (-1000000000), .constantLong RX4 153 (1000000000), .fieldLink RX4 23 "PileMovesModel" "stiff" "[J", .constantLong RX4 83 (1000), .fieldLink RX4 26 "PileMovesModel" "most" "[J", .fieldLink RX4 13 "PileMovesModel" "springs" "[J", .fieldLink RX4 32 "PileMovesModel" "tipStiff" "[J", .fieldLink RX4 35 "PileMovesModel" "tipMost" "[J", .fieldLink RX4 17 "PileMovesModel" "masses" "[J", .fieldLink RX4 51 "PileMovesModel" "waves" "[J", .methodLink RX4 93 yX4_cut, .static yX4_cut, .initialized RX4, .code yX4_cut cX4_cut 6 (some .long)] ++ wsX40)
def wsX4_blow_r1 : List Cond := [Cond.constantLong RX4 81 (10000), Cond.constantLong RX4 83 (1000), Cond.fieldLink RX4 65 "PileMovesModel" "code" "I", Cond.fieldLink RX4 7 "PileMovesModel" "many" "[I", Cond.fieldLink RX4 59 "PileMovesModel" "at" "[J", Cond.fieldLink RX4 62 "PileMovesModel" "speeds" "[J", Cond.fieldLink RX4 55 "PileMovesModel" "blown" "I", Cond.fieldLink RX4 32 "PileMovesModel" "tipStiff" "[J", Cond.fieldLink RX4 35 "PileMovesModel" "tipMost" "[J", Cond.methodLink RX4 75 yX4_isPile, Cond.instanceMethod yX4_isPile, Cond.selects RX4 yX4_isPile yX4_isPile, Cond.initialized RX4, Cond.code yX4_isPile cX4_isPile 2 (some .boolean), Cond.fieldLink RX4 68 "PileMovesModel" "piles" "I", Cond.methodLink RX4 71 yX4_in, Cond.static yX4_in, Cond.code yX4_in cX4_in 6 (some .boolean), Cond.methodLink RX4 155 yX4_round, Cond.instanceMethod yX4_round, Cond.selects RX4 yX4_round yX4_round, Cond.code yX4_round cX4_round 16 none, Cond.constantLong RX4 135 (10), Cond.constantLong RX4 149 (-1000)]
def wsX4_blow_r2 : List Cond := [Cond.constantLong RX4 151 (-1000000000), Cond.constantLong RX4 153 (1000000000), Cond.fieldLink RX4 23 "PileMovesModel" "stiff" "[J", Cond.fieldLink RX4 26 "PileMovesModel" "most" "[J", Cond.fieldLink RX4 13 "PileMovesModel" "springs" "[J", Cond.fieldLink RX4 17 "PileMovesModel" "masses" "[J", Cond.fieldLink RX4 51 "PileMovesModel" "waves" "[J", Cond.methodLink RX4 93 yX4_cut, Cond.static yX4_cut, Cond.code yX4_cut cX4_cut 6 (some .long)]
def wsX4_blow : List Cond := .code yX4_blow cX4_blow 9 (some .int) :: ((wsX4_blow_r1 ++ wsX4_blow_r2) ++ wsX40)
def wsX4_wave : List Cond := .code yX4_wave cX4_wave 3 (some .int) :: ([.fieldLink RX4 55 "PileMovesModel" "blown" "I", .constant RX4 54 (-1000000), .constantLong RX4 159 (199), .fieldLink RX4 7 "PileMovesModel" "many" "[I", .fieldLink RX4 65 "PileMovesModel" "code" "I", .fieldLink RX4 51 "PileMovesModel" "waves" "[J", .methodLink RX4 71 yX4_in, .static yX4_in, .initialized RX4, .code yX4_in cX4_in 6 (some .boolean)] ++ wsX40)
def wsJ9_max_7cf53 : List Cond := .code yJ9_max_7cf53 cJ9_max_7cf53 2 (some .int) :: ([])
def wsJ9_max_f86c9 : List Cond := .code yJ9_max_f86c9 cJ9_max_f86c9 4 (some .long) :: ([])
def wsL_pile_r1 : List Cond := [Cond.classLink RL 13 "java/lang/IllegalArgumentException", Cond.classLink RL 15 "java/lang/IllegalStateException", Cond.methodLink RL 7 yX3_pile, Cond.instanceMethod yX3_pile, Cond.selects RX3 yX3_pile yX3_pile, Cond.initialized RX3, Cond.code yX3_pile cX3_pile 6 (some .int), Cond.classLink RX3 38 "java/lang/IllegalStateException", Cond.initialized "java/lang/IllegalStateException", Cond.constant RX3 37 (100000), Cond.fieldLink RX3 29 "PileMoves" "pileCount" "I", Cond.fieldLink RX3 11 "PileMoves" "piles" "[LPileMoves$Pile;", Cond.classLink RX3 9 RX1, Cond.instantiable RX1 9, Cond.initialized RX1, Cond.methodLink RX3 33 yX3_checkWithin, Cond.static yX3_checkWithin, Cond.code yX3_checkWithin cX3_checkWithin 3 none, Cond.classLink RX3 112 "java/lang/IllegalArgumentException", Cond.initialized "java/lang/IllegalArgumentException", Cond.methodLink RX3 45 yX1_init, Cond.instanceMethod yX1_init, Cond.code yX1_init cX1_init 5 none, Cond.methodLink RX1 1 objectInit]
def wsL_pile_r2 : List Cond := [Cond.instanceMethod objectInit, Cond.code objectInit ⟨#[0xb1]⟩ 1 none, Cond.fieldLink RX1 7 "PileMoves$Pile" "spring" "I", Cond.fieldLink RX1 13 "PileMoves$Pile" "mass" "I", Cond.fieldLink RX1 16 "PileMoves$Pile" "cost" "I", Cond.arrayClass .int, Cond.fieldLink RX1 19 "PileMoves$Pile" "stiff" "[I", Cond.fieldLink RX1 23 "PileMoves$Pile" "most" "[I", Cond.fieldLink RX1 26 "PileMoves$Pile" "sunk" "[I"]
def wsL_pile : List Cond := .codeWith yL_pile cL_pile 7 (some .int) [(0, 14, 17, 13), (0, 14, 21, 15)] :: ((wsL_pile_r1 ++ wsL_pile_r2) ++ wsX30 ++ wsX10 ++ (vx_atS RX3 42 "java/lang/IllegalStateException" ["java/lang/RuntimeException", "java/lang/Exception"]).filter goodWord ++ (vx_atS RX3 116 "java/lang/IllegalArgumentException" ["java/lang/RuntimeException", "java/lang/Exception"]).filter goodWord)
def wsL_ground_r1 : List Cond := [Cond.classLink RL 13 "java/lang/IllegalArgumentException", Cond.methodLink RL 17 yX3_ground, Cond.instanceMethod yX3_ground, Cond.selects RX3 yX3_ground yX3_ground, Cond.initialized RX3, Cond.code yX3_ground cX3_ground 6 none, Cond.constant RX3 37 (100000), Cond.fieldLink RX3 56 "PileMoves$Pile" "stiff" "[I", Cond.fieldLink RX3 60 "PileMoves$Pile" "most" "[I", Cond.methodLink RX3 48 yX3_pileOf, Cond.instanceMethod yX3_pileOf, Cond.selects RX3 yX3_pileOf yX3_pileOf, Cond.code yX3_pileOf cX3_pileOf 2 (some (.object "PileMoves$Pile")), Cond.classLink RX3 112 "java/lang/IllegalArgumentException", Cond.initialized "java/lang/IllegalArgumentException", Cond.fieldLink RX3 11 "PileMoves" "piles" "[LPileMoves$Pile;", Cond.methodLink RX3 52 yX3_checkPiece, Cond.static yX3_checkPiece, Cond.code yX3_checkPiece cX3_checkPiece 2 none, Cond.methodLink RX3 141 yX1_pieces, Cond.instanceMethod yX1_pieces, Cond.selects RX1 yX1_pieces yX1_pieces, Cond.initialized RX1, Cond.code yX1_pieces cX1_pieces 1 (some .int)]
def wsL_ground_r2 : List Cond := [Cond.fieldLink RX1 19 "PileMoves$Pile" "stiff" "[I", Cond.methodLink RX3 33 yX3_checkWithin, Cond.static yX3_checkWithin, Cond.code yX3_checkWithin cX3_checkWithin 3 none]
def wsL_ground : List Cond := .codeWith yL_ground cL_ground 6 (some .int) [(0, 9, 12, 13)] :: ((wsL_ground_r1 ++ wsL_ground_r2) ++ wsX10 ++ wsX30 ++ (vx_atS RX3 116 "java/lang/IllegalArgumentException" ["java/lang/RuntimeException", "java/lang/Exception"]).filter goodWord)
def wsL_sinks_r1 : List Cond := [Cond.classLink RL 13 "java/lang/IllegalArgumentException", Cond.methodLink RL 21 yX3_sinks, Cond.instanceMethod yX3_sinks, Cond.selects RX3 yX3_sinks yX3_sinks, Cond.initialized RX3, Cond.code yX3_sinks cX3_sinks 6 (some .int), Cond.fieldLink RX3 63 "PileMoves$Pile" "sunk" "[I", Cond.methodLink RX3 48 yX3_pileOf, Cond.instanceMethod yX3_pileOf, Cond.selects RX3 yX3_pileOf yX3_pileOf, Cond.code yX3_pileOf cX3_pileOf 2 (some (.object "PileMoves$Pile")), Cond.classLink RX3 112 "java/lang/IllegalArgumentException", Cond.initialized "java/lang/IllegalArgumentException", Cond.fieldLink RX3 11 "PileMoves" "piles" "[LPileMoves$Pile;", Cond.methodLink RX3 52 yX3_checkPiece, Cond.static yX3_checkPiece, Cond.code yX3_checkPiece cX3_checkPiece 2 none, Cond.methodLink RX3 141 yX1_pieces, Cond.instanceMethod yX1_pieces, Cond.selects RX1 yX1_pieces yX1_pieces, Cond.initialized RX1, Cond.code yX1_pieces cX1_pieces 1 (some .int), Cond.fieldLink RX1 19 "PileMoves$Pile" "stiff" "[I", Cond.methodLink RX3 33 yX3_checkWithin]
def wsL_sinks_r2 : List Cond := [Cond.static yX3_checkWithin, Cond.code yX3_checkWithin cX3_checkWithin 3 none]
def wsL_sinks : List Cond := .codeWith yL_sinks cL_sinks 6 (some .int) [(0, 12, 15, 13)] :: ((wsL_sinks_r1 ++ wsL_sinks_r2) ++ wsX10 ++ wsX30 ++ (vx_atS RX3 116 "java/lang/IllegalArgumentException" ["java/lang/RuntimeException", "java/lang/Exception"]).filter goodWord)
def wsL_tip : List Cond := .codeWith yL_tip cL_tip 5 (some .int) [(0, 7, 10, 13)] :: ([.classLink RL 13 "java/lang/IllegalArgumentException", .methodLink RL 25 yX3_tip, .instanceMethod yX3_tip, .selects RX3 yX3_tip yX3_tip, .initialized RX3, .code yX3_tip cX3_tip 5 none, .constant RX3 66 (1000000), .fieldLink RX3 67 "PileMoves$Pile" "tipStiff" "I", .fieldLink RX3 70 "PileMoves$Pile" "tipMost" "I", .methodLink RX3 48 yX3_pileOf, .instanceMethod yX3_pileOf, .selects RX3 yX3_pileOf yX3_pileOf, .code yX3_pileOf cX3_pileOf 2 (some (.object "PileMoves$Pile")), .classLink RX3 112 "java/lang/IllegalArgumentException", .initialized "java/lang/IllegalArgumentException", .fieldLink RX3 11 "PileMoves" "piles" "[LPileMoves$Pile;", .methodLink RX3 33 yX3_checkWithin, .static yX3_checkWithin, .code yX3_checkWithin cX3_checkWithin 3 none] ++ wsX10 ++ wsX30 ++ (vx_atS RX3 116 "java/lang/IllegalArgumentException" ["java/lang/RuntimeException", "java/lang/Exception"]).filter goodWord)
def wsL_under_r1 : List Cond := [Cond.classLink RL 13 "java/lang/IllegalArgumentException", Cond.methodLink RL 29 yX3_under, Cond.instanceMethod yX3_under, Cond.selects RX3 yX3_under yX3_under, Cond.initialized RX3, Cond.code yX3_under cX3_under 4 (some .int), Cond.fieldLink RX3 18 "PileMoves" "state" "LPileMoves$State;", Cond.fieldLink RX3 81 "PileMoves$State" "place" "I", Cond.constant RX3 84 (-1000000), Cond.methodLink RX3 48 yX3_pileOf, Cond.instanceMethod yX3_pileOf, Cond.selects RX3 yX3_pileOf yX3_pileOf, Cond.code yX3_pileOf cX3_pileOf 2 (some (.object "PileMoves$Pile")), Cond.classLink RX3 112 "java/lang/IllegalArgumentException", Cond.initialized "java/lang/IllegalArgumentException", Cond.fieldLink RX3 11 "PileMoves" "piles" "[LPileMoves$Pile;", Cond.methodLink RX3 73 yX3_checkLoad, Cond.static yX3_checkLoad, Cond.code yX3_checkLoad cX3_checkLoad 1 none, Cond.constant RX3 140 (10000000), Cond.methodLink RX3 33 yX3_checkWithin, Cond.static yX3_checkWithin, Cond.code yX3_checkWithin cX3_checkWithin 3 none, Cond.methodLink RX3 77 yX2_findUnder]
def wsL_under_r2 : List Cond := [Cond.instanceMethod yX2_findUnder, Cond.selects RX2 yX2_findUnder yX2_findUnder, Cond.initialized RX2, Cond.code yX2_findUnder cX2_findUnder 3 (some .boolean), Cond.fieldLink RX2 15 "PileMoves$State" "last" "I", Cond.constant RX2 19 (100000), Cond.methodLink RX2 9 yX2_find, Cond.instanceMethod yX2_find, Cond.selects RX2 yX2_find yX2_find, Cond.code yX2_find cX2_find 6 (some .boolean), Cond.constant RX2 64 (-100001), Cond.constant RX2 65 (131072), Cond.fieldLink RX2 39 "PileMoves$State" "forceAbove" "I", Cond.fieldLink RX2 26 "PileMoves$State" "place" "I", Cond.constant RX2 70 (-100000), Cond.methodLink RX2 66 yX2_climb, Cond.instanceMethod yX2_climb, Cond.selects RX2 yX2_climb yX2_climb, Cond.code yX2_climb cX2_climb 7 none, Cond.fieldLink RX2 29 "PileMoves$Pile" "tipStiff" "I", Cond.fieldLink RX2 32 "PileMoves$Pile" "tipMost" "I", Cond.fieldLink RX2 42 "PileMoves$Pile" "spring" "I", Cond.fieldLink RX2 51 "PileMoves$Pile" "stiff" "[I", Cond.fieldLink RX2 55 "PileMoves$Pile" "sunk" "[I"]
def wsL_under_r3 : List Cond := [Cond.fieldLink RX2 58 "PileMoves$Pile" "most" "[I", Cond.fieldLink RX2 61 "PileMoves$State" "groundForce" "I", Cond.methodLink RX2 20 yX1_pieces, Cond.instanceMethod yX1_pieces, Cond.selects RX1 yX1_pieces yX1_pieces, Cond.initialized RX1, Cond.code yX1_pieces cX1_pieces 1 (some .int), Cond.fieldLink RX1 19 "PileMoves$Pile" "stiff" "[I", Cond.static yX3_clamp, Cond.code yX3_clamp cX3_clamp 4 (some .int), Cond.methodLink RX2 45 yJ9_floorDiv_7cf53, Cond.static yJ9_floorDiv_7cf53, Cond.initialized RJ9, Cond.code yJ9_floorDiv_7cf53 cJ9_floorDiv_7cf53 3 (some .int)]
def wsL_under : List Cond := .codeWith yL_under cL_under 5 (some .int) [(0, 10, 13, 13)] :: ((wsL_under_r1 ++ (wsL_under_r2 ++ wsL_under_r3)) ++ wsX30 ++ wsX20 ++ wsX10 ++ (vx_atS RX3 116 "java/lang/IllegalArgumentException" ["java/lang/RuntimeException", "java/lang/Exception"]).filter goodWord)
def wsL_piece_r1 : List Cond := [Cond.classLink RL 13 "java/lang/IllegalArgumentException", Cond.methodLink RL 33 yX3_piece, Cond.instanceMethod yX3_piece, Cond.selects RX3 yX3_piece yX3_piece, Cond.initialized RX3, Cond.code yX3_piece cX3_piece 6 (some .int), Cond.fieldLink RX3 18 "PileMoves" "state" "LPileMoves$State;", Cond.constant RX3 84 (-1000000), Cond.fieldLink RX3 81 "PileMoves$State" "place" "I", Cond.fieldLink RX3 88 "PileMoves$State" "groundForce" "I", Cond.fieldLink RX3 91 "PileMoves$State" "forceAbove" "I", Cond.methodLink RX3 48 yX3_pileOf, Cond.instanceMethod yX3_pileOf, Cond.selects RX3 yX3_pileOf yX3_pileOf, Cond.code yX3_pileOf cX3_pileOf 2 (some (.object "PileMoves$Pile")), Cond.classLink RX3 112 "java/lang/IllegalArgumentException", Cond.initialized "java/lang/IllegalArgumentException", Cond.fieldLink RX3 11 "PileMoves" "piles" "[LPileMoves$Pile;", Cond.methodLink RX3 73 yX3_checkLoad, Cond.static yX3_checkLoad, Cond.code yX3_checkLoad cX3_checkLoad 1 none, Cond.constant RX3 140 (10000000), Cond.methodLink RX3 33 yX3_checkWithin, Cond.static yX3_checkWithin]
def wsL_piece_r2 : List Cond := [Cond.code yX3_checkWithin cX3_checkWithin 3 none, Cond.methodLink RX3 52 yX3_checkPiece, Cond.static yX3_checkPiece, Cond.code yX3_checkPiece cX3_checkPiece 2 none, Cond.methodLink RX3 141 yX1_pieces, Cond.instanceMethod yX1_pieces, Cond.selects RX1 yX1_pieces yX1_pieces, Cond.initialized RX1, Cond.code yX1_pieces cX1_pieces 1 (some .int), Cond.fieldLink RX1 19 "PileMoves$Pile" "stiff" "[I", Cond.methodLink RX3 77 yX2_findUnder, Cond.instanceMethod yX2_findUnder, Cond.selects RX2 yX2_findUnder yX2_findUnder, Cond.initialized RX2, Cond.code yX2_findUnder cX2_findUnder 3 (some .boolean), Cond.fieldLink RX2 15 "PileMoves$State" "last" "I", Cond.constant RX2 19 (100000), Cond.methodLink RX2 9 yX2_find, Cond.instanceMethod yX2_find, Cond.selects RX2 yX2_find yX2_find, Cond.code yX2_find cX2_find 6 (some .boolean), Cond.constant RX2 64 (-100001), Cond.constant RX2 65 (131072), Cond.fieldLink RX2 39 "PileMoves$State" "forceAbove" "I"]
def wsL_piece_r3 : List Cond := [Cond.fieldLink RX2 26 "PileMoves$State" "place" "I", Cond.constant RX2 70 (-100000), Cond.methodLink RX2 66 yX2_climb, Cond.instanceMethod yX2_climb, Cond.selects RX2 yX2_climb yX2_climb, Cond.code yX2_climb cX2_climb 7 none, Cond.fieldLink RX2 29 "PileMoves$Pile" "tipStiff" "I", Cond.fieldLink RX2 32 "PileMoves$Pile" "tipMost" "I", Cond.fieldLink RX2 42 "PileMoves$Pile" "spring" "I", Cond.fieldLink RX2 51 "PileMoves$Pile" "stiff" "[I", Cond.fieldLink RX2 55 "PileMoves$Pile" "sunk" "[I", Cond.fieldLink RX2 58 "PileMoves$Pile" "most" "[I", Cond.fieldLink RX2 61 "PileMoves$State" "groundForce" "I", Cond.methodLink RX2 20 yX1_pieces, Cond.static yX3_clamp, Cond.code yX3_clamp cX3_clamp 4 (some .int), Cond.methodLink RX2 45 yJ9_floorDiv_7cf53, Cond.static yJ9_floorDiv_7cf53, Cond.initialized RJ9, Cond.code yJ9_floorDiv_7cf53 cJ9_floorDiv_7cf53 3 (some .int), Cond.methodLink RX3 85 yX2_climb]
def wsL_piece : List Cond := .codeWith yL_piece cL_piece 7 (some .int) [(0, 14, 17, 13)] :: ((wsL_piece_r1 ++ (wsL_piece_r2 ++ wsL_piece_r3)) ++ wsX30 ++ wsX20 ++ wsX10 ++ (vx_atS RX3 116 "java/lang/IllegalArgumentException" ["java/lang/RuntimeException", "java/lang/Exception"]).filter goodWord)
def wsL_load_r1 : List Cond := [Cond.classLink RL 13 "java/lang/IllegalArgumentException", Cond.methodLink RL 36 yX3_load, Cond.instanceMethod yX3_load, Cond.selects RX3 yX3_load yX3_load, Cond.initialized RX3, Cond.code yX3_load cX3_load 4 (some .int), Cond.constant RX3 94 (-100000), Cond.constant RX3 37 (100000), Cond.fieldLink RX3 18 "PileMoves" "state" "LPileMoves$State;", Cond.fieldLink RX3 91 "PileMoves$State" "forceAbove" "I", Cond.constant RX3 84 (-1000000), Cond.methodLink RX3 48 yX3_pileOf, Cond.instanceMethod yX3_pileOf, Cond.selects RX3 yX3_pileOf yX3_pileOf, Cond.code yX3_pileOf cX3_pileOf 2 (some (.object "PileMoves$Pile")), Cond.classLink RX3 112 "java/lang/IllegalArgumentException", Cond.initialized "java/lang/IllegalArgumentException", Cond.fieldLink RX3 11 "PileMoves" "piles" "[LPileMoves$Pile;", Cond.methodLink RX3 33 yX3_checkWithin, Cond.static yX3_checkWithin, Cond.code yX3_checkWithin cX3_checkWithin 3 none, Cond.methodLink RX3 95 yX2_findAt, Cond.instanceMethod yX2_findAt, Cond.selects RX2 yX2_findAt yX2_findAt]
def wsL_load_r2 : List Cond := [Cond.initialized RX2, Cond.code yX2_findAt cX2_findAt 3 (some .boolean), Cond.methodLink RX2 9 yX2_find, Cond.instanceMethod yX2_find, Cond.selects RX2 yX2_find yX2_find, Cond.code yX2_find cX2_find 6 (some .boolean), Cond.constant RX2 64 (-100001), Cond.constant RX2 65 (131072), Cond.fieldLink RX2 15 "PileMoves$State" "last" "I", Cond.constant RX2 19 (100000), Cond.fieldLink RX2 39 "PileMoves$State" "forceAbove" "I", Cond.fieldLink RX2 26 "PileMoves$State" "place" "I", Cond.constant RX2 70 (-100000), Cond.methodLink RX2 66 yX2_climb, Cond.instanceMethod yX2_climb, Cond.selects RX2 yX2_climb yX2_climb, Cond.code yX2_climb cX2_climb 7 none, Cond.fieldLink RX2 29 "PileMoves$Pile" "tipStiff" "I", Cond.fieldLink RX2 32 "PileMoves$Pile" "tipMost" "I", Cond.fieldLink RX2 42 "PileMoves$Pile" "spring" "I", Cond.fieldLink RX2 51 "PileMoves$Pile" "stiff" "[I", Cond.fieldLink RX2 55 "PileMoves$Pile" "sunk" "[I", Cond.fieldLink RX2 58 "PileMoves$Pile" "most" "[I", Cond.fieldLink RX2 61 "PileMoves$State" "groundForce" "I"]
def wsL_load_r3 : List Cond := [Cond.methodLink RX2 20 yX1_pieces, Cond.instanceMethod yX1_pieces, Cond.selects RX1 yX1_pieces yX1_pieces, Cond.initialized RX1, Cond.code yX1_pieces cX1_pieces 1 (some .int), Cond.fieldLink RX1 19 "PileMoves$Pile" "stiff" "[I", Cond.static yX3_clamp, Cond.code yX3_clamp cX3_clamp 4 (some .int), Cond.methodLink RX2 45 yJ9_floorDiv_7cf53, Cond.static yJ9_floorDiv_7cf53, Cond.initialized RJ9, Cond.code yJ9_floorDiv_7cf53 cJ9_floorDiv_7cf53 3 (some .int)]
def wsL_load : List Cond := .codeWith yL_load cL_load 5 (some .int) [(0, 10, 13, 13)] :: ((wsL_load_r1 ++ (wsL_load_r2 ++ wsL_load_r3)) ++ wsX30 ++ wsX20 ++ wsX10 ++ (vx_atS RX3 116 "java/lang/IllegalArgumentException" ["java/lang/RuntimeException", "java/lang/Exception"]).filter goodWord)
def wsL_hold : List Cond := .codeWith yL_hold cL_hold 4 (some .int) [(0, 9, 12, 13)] :: ([.classLink RL 13 "java/lang/IllegalArgumentException", .methodLink RL 39 yX3_hold, .instanceMethod yX3_hold, .selects RX3 yX3_hold yX3_hold, .initialized RX3, .code yX3_hold cX3_hold 8 (some .int), .fieldLink RX3 60 "PileMoves$Pile" "most" "[I", .methodLink RX3 48 yX3_pileOf, .instanceMethod yX3_pileOf, .selects RX3 yX3_pileOf yX3_pileOf, .code yX3_pileOf cX3_pileOf 2 (some (.object "PileMoves$Pile")), .classLink RX3 112 "java/lang/IllegalArgumentException", .initialized "java/lang/IllegalArgumentException", .fieldLink RX3 11 "PileMoves" "piles" "[LPileMoves$Pile;"] ++ wsX10 ++ wsX30 ++ (vx_atS RX3 116 "java/lang/IllegalArgumentException" ["java/lang/RuntimeException", "java/lang/Exception"]).filter goodWord)
def wsL_cheapest_r1 : List Cond := [Cond.classLink RL 13 "java/lang/IllegalArgumentException", Cond.methodLink RL 43 yX3_cheapest, Cond.instanceMethod yX3_cheapest, Cond.selects RX3 yX3_cheapest yX3_cheapest, Cond.initialized RX3, Cond.code yX3_cheapest cX3_cheapest 7 (some .int), Cond.constant RX3 37 (100000), Cond.constant RX3 84 (-1000000), Cond.fieldLink RX3 11 "PileMoves" "piles" "[LPileMoves$Pile;", Cond.fieldLink RX3 98 "PileMoves$Pile" "cost" "I", Cond.fieldLink RX3 18 "PileMoves" "state" "LPileMoves$State;", Cond.fieldLink RX3 81 "PileMoves$State" "place" "I", Cond.methodLink RX3 73 yX3_checkLoad, Cond.static yX3_checkLoad, Cond.code yX3_checkLoad cX3_checkLoad 1 none, Cond.constant RX3 140 (10000000), Cond.methodLink RX3 33 yX3_checkWithin, Cond.static yX3_checkWithin, Cond.code yX3_checkWithin cX3_checkWithin 3 none, Cond.classLink RX3 112 "java/lang/IllegalArgumentException", Cond.initialized "java/lang/IllegalArgumentException", Cond.methodLink RX3 77 yX2_findUnder, Cond.instanceMethod yX2_findUnder, Cond.selects RX2 yX2_findUnder yX2_findUnder]
def wsL_cheapest_r2 : List Cond := [Cond.initialized RX2, Cond.code yX2_findUnder cX2_findUnder 3 (some .boolean), Cond.fieldLink RX2 15 "PileMoves$State" "last" "I", Cond.constant RX2 19 (100000), Cond.methodLink RX2 9 yX2_find, Cond.instanceMethod yX2_find, Cond.selects RX2 yX2_find yX2_find, Cond.code yX2_find cX2_find 6 (some .boolean), Cond.constant RX2 64 (-100001), Cond.constant RX2 65 (131072), Cond.fieldLink RX2 39 "PileMoves$State" "forceAbove" "I", Cond.fieldLink RX2 26 "PileMoves$State" "place" "I", Cond.constant RX2 70 (-100000), Cond.methodLink RX2 66 yX2_climb, Cond.instanceMethod yX2_climb, Cond.selects RX2 yX2_climb yX2_climb, Cond.code yX2_climb cX2_climb 7 none, Cond.fieldLink RX2 29 "PileMoves$Pile" "tipStiff" "I", Cond.fieldLink RX2 32 "PileMoves$Pile" "tipMost" "I", Cond.fieldLink RX2 42 "PileMoves$Pile" "spring" "I", Cond.fieldLink RX2 51 "PileMoves$Pile" "stiff" "[I", Cond.fieldLink RX2 55 "PileMoves$Pile" "sunk" "[I", Cond.fieldLink RX2 58 "PileMoves$Pile" "most" "[I", Cond.fieldLink RX2 61 "PileMoves$State" "groundForce" "I"]
def wsL_cheapest_r3 : List Cond := [Cond.methodLink RX2 20 yX1_pieces, Cond.instanceMethod yX1_pieces, Cond.selects RX1 yX1_pieces yX1_pieces, Cond.initialized RX1, Cond.code yX1_pieces cX1_pieces 1 (some .int), Cond.fieldLink RX1 19 "PileMoves$Pile" "stiff" "[I", Cond.static yX3_clamp, Cond.code yX3_clamp cX3_clamp 4 (some .int), Cond.methodLink RX2 45 yJ9_floorDiv_7cf53, Cond.static yJ9_floorDiv_7cf53, Cond.initialized RJ9, Cond.code yJ9_floorDiv_7cf53 cJ9_floorDiv_7cf53 3 (some .int)]
def wsL_cheapest : List Cond := .codeWith yL_cheapest cL_cheapest 5 (some .int) [(0, 10, 13, 13)] :: ((wsL_cheapest_r1 ++ (wsL_cheapest_r2 ++ wsL_cheapest_r3)) ++ wsX30 ++ wsX10 ++ wsX20 ++ (vx_atS RX3 116 "java/lang/IllegalArgumentException" ["java/lang/RuntimeException", "java/lang/Exception"]).filter goodWord)
def wsL_join : List Cond := .codeWith yL_join cL_join 5 (some .int) [(0, 17, 20, 13)] :: ([.classLink RL 13 "java/lang/IllegalArgumentException", .methodLink RL 46 yX3_join, .instanceMethod yX3_join, .selects RX3 yX3_join yX3_join, .initialized RX3, .code yX3_join cX3_join 5 (some .boolean), .fieldLink RX3 101 "PileMoves$Pile" "joined" "Z", .methodLink RX3 48 yX3_pileOf, .instanceMethod yX3_pileOf, .selects RX3 yX3_pileOf yX3_pileOf, .code yX3_pileOf cX3_pileOf 2 (some (.object "PileMoves$Pile")), .classLink RX3 112 "java/lang/IllegalArgumentException", .initialized "java/lang/IllegalArgumentException", .fieldLink RX3 11 "PileMoves" "piles" "[LPileMoves$Pile;"] ++ wsX10 ++ wsX30 ++ (vx_atS RX3 116 "java/lang/IllegalArgumentException" ["java/lang/RuntimeException", "java/lang/Exception"]).filter goodWord)
def wsL_group_r1 : List Cond := [Cond.classLink RL 13 "java/lang/IllegalArgumentException", Cond.classLink RL 15 "java/lang/IllegalStateException", Cond.methodLink RL 50 yX3_group, Cond.instanceMethod yX3_group, Cond.selects RX3 yX3_group yX3_group, Cond.initialized RX3, Cond.code yX3_group cX3_group 2 (some .int), Cond.methodLink RX3 73 yX3_checkLoad, Cond.static yX3_checkLoad, Cond.code yX3_checkLoad cX3_checkLoad 1 none, Cond.constant RX3 140 (10000000), Cond.methodLink RX3 33 yX3_checkWithin, Cond.static yX3_checkWithin, Cond.code yX3_checkWithin cX3_checkWithin 3 none, Cond.classLink RX3 112 "java/lang/IllegalArgumentException", Cond.initialized "java/lang/IllegalArgumentException", Cond.methodLink RX3 105 yX3_checkGroupNotEmpty, Cond.instanceMethod yX3_checkGroupNotEmpty, Cond.selects RX3 yX3_checkGroupNotEmpty yX3_checkGroupNotEmpty, Cond.code yX3_checkGroupNotEmpty cX3_checkGroupNotEmpty 5 none, Cond.classLink RX3 38 "java/lang/IllegalStateException", Cond.initialized "java/lang/IllegalStateException", Cond.fieldLink RX3 11 "PileMoves" "piles" "[LPileMoves$Pile;", Cond.fieldLink RX3 101 "PileMoves$Pile" "joined" "Z"]
def wsL_group_r2 : List Cond := [Cond.methodLink RX3 108 yX3_groupSettlement, Cond.instanceMethod yX3_groupSettlement, Cond.selects RX3 yX3_groupSettlement yX3_groupSettlement, Cond.code yX3_groupSettlement cX3_groupSettlement 5 (some .int), Cond.constant RX3 84 (-1000000), Cond.methodLink RX3 148 yX3_groupLoad, Cond.instanceMethod yX3_groupLoad, Cond.selects RX3 yX3_groupLoad yX3_groupLoad, Cond.code yX3_groupLoad cX3_groupLoad 8 (some .long), Cond.fieldLink RX3 18 "PileMoves" "state" "LPileMoves$State;", Cond.constantLong RX3 152 (1000000000000), Cond.fieldLink RX3 91 "PileMoves$State" "forceAbove" "I", Cond.methodLink RX3 95 yX2_findAt, Cond.instanceMethod yX2_findAt, Cond.selects RX2 yX2_findAt yX2_findAt, Cond.initialized RX2, Cond.code yX2_findAt cX2_findAt 3 (some .boolean), Cond.methodLink RX2 9 yX2_find, Cond.instanceMethod yX2_find, Cond.selects RX2 yX2_find yX2_find, Cond.code yX2_find cX2_find 6 (some .boolean), Cond.constant RX2 64 (-100001), Cond.constant RX2 65 (131072), Cond.fieldLink RX2 15 "PileMoves$State" "last" "I"]
def wsL_group_r3 : List Cond := [Cond.constant RX2 19 (100000), Cond.fieldLink RX2 39 "PileMoves$State" "forceAbove" "I", Cond.fieldLink RX2 26 "PileMoves$State" "place" "I", Cond.constant RX2 70 (-100000), Cond.methodLink RX2 66 yX2_climb, Cond.instanceMethod yX2_climb, Cond.selects RX2 yX2_climb yX2_climb, Cond.code yX2_climb cX2_climb 7 none, Cond.fieldLink RX2 29 "PileMoves$Pile" "tipStiff" "I", Cond.fieldLink RX2 32 "PileMoves$Pile" "tipMost" "I", Cond.fieldLink RX2 42 "PileMoves$Pile" "spring" "I", Cond.fieldLink RX2 51 "PileMoves$Pile" "stiff" "[I", Cond.fieldLink RX2 55 "PileMoves$Pile" "sunk" "[I", Cond.fieldLink RX2 58 "PileMoves$Pile" "most" "[I", Cond.fieldLink RX2 61 "PileMoves$State" "groundForce" "I", Cond.methodLink RX2 20 yX1_pieces, Cond.instanceMethod yX1_pieces, Cond.selects RX1 yX1_pieces yX1_pieces, Cond.initialized RX1, Cond.code yX1_pieces cX1_pieces 1 (some .int), Cond.fieldLink RX1 19 "PileMoves$Pile" "stiff" "[I", Cond.static yX3_clamp, Cond.code yX3_clamp cX3_clamp 4 (some .int), Cond.methodLink RX2 45 yJ9_floorDiv_7cf53]
def wsL_group_r4 : List Cond := [Cond.static yJ9_floorDiv_7cf53, Cond.initialized RJ9, Cond.code yJ9_floorDiv_7cf53 cJ9_floorDiv_7cf53 3 (some .int)]
def wsL_group : List Cond := .codeWith yL_group cL_group 4 (some .int) [(0, 9, 12, 13), (0, 9, 15, 15)] :: ((wsL_group_r1 ++ (wsL_group_r2 ++ (wsL_group_r3 ++ wsL_group_r4))) ++ wsX30 ++ wsX10 ++ wsX20 ++ (vx_atS RX3 116 "java/lang/IllegalArgumentException" ["java/lang/RuntimeException", "java/lang/Exception"]).filter goodWord ++ (vx_atS RX3 42 "java/lang/IllegalStateException" ["java/lang/RuntimeException", "java/lang/Exception"]).filter goodWord)
def wsL_share_r1 : List Cond := [Cond.classLink RL 13 "java/lang/IllegalArgumentException", Cond.classLink RL 15 "java/lang/IllegalStateException", Cond.methodLink RL 53 yX3_share, Cond.instanceMethod yX3_share, Cond.selects RX3 yX3_share yX3_share, Cond.initialized RX3, Cond.code yX3_share cX3_share 5 (some .int), Cond.classLink RX3 112 "java/lang/IllegalArgumentException", Cond.initialized "java/lang/IllegalArgumentException", Cond.fieldLink RX3 101 "PileMoves$Pile" "joined" "Z", Cond.constant RX3 84 (-1000000), Cond.fieldLink RX3 18 "PileMoves" "state" "LPileMoves$State;", Cond.fieldLink RX3 91 "PileMoves$State" "forceAbove" "I", Cond.methodLink RX3 73 yX3_checkLoad, Cond.static yX3_checkLoad, Cond.code yX3_checkLoad cX3_checkLoad 1 none, Cond.constant RX3 140 (10000000), Cond.methodLink RX3 33 yX3_checkWithin, Cond.static yX3_checkWithin, Cond.code yX3_checkWithin cX3_checkWithin 3 none, Cond.methodLink RX3 48 yX3_pileOf, Cond.instanceMethod yX3_pileOf, Cond.selects RX3 yX3_pileOf yX3_pileOf, Cond.code yX3_pileOf cX3_pileOf 2 (some (.object "PileMoves$Pile"))]
def wsL_share_r2 : List Cond := [Cond.fieldLink RX3 11 "PileMoves" "piles" "[LPileMoves$Pile;", Cond.methodLink RX3 105 yX3_checkGroupNotEmpty, Cond.instanceMethod yX3_checkGroupNotEmpty, Cond.selects RX3 yX3_checkGroupNotEmpty yX3_checkGroupNotEmpty, Cond.code yX3_checkGroupNotEmpty cX3_checkGroupNotEmpty 5 none, Cond.classLink RX3 38 "java/lang/IllegalStateException", Cond.initialized "java/lang/IllegalStateException", Cond.methodLink RX3 108 yX3_groupSettlement, Cond.instanceMethod yX3_groupSettlement, Cond.selects RX3 yX3_groupSettlement yX3_groupSettlement, Cond.code yX3_groupSettlement cX3_groupSettlement 5 (some .int), Cond.methodLink RX3 148 yX3_groupLoad, Cond.instanceMethod yX3_groupLoad, Cond.selects RX3 yX3_groupLoad yX3_groupLoad, Cond.code yX3_groupLoad cX3_groupLoad 8 (some .long), Cond.constantLong RX3 152 (1000000000000), Cond.methodLink RX3 95 yX2_findAt, Cond.instanceMethod yX2_findAt, Cond.selects RX2 yX2_findAt yX2_findAt, Cond.initialized RX2, Cond.code yX2_findAt cX2_findAt 3 (some .boolean), Cond.methodLink RX2 9 yX2_find, Cond.instanceMethod yX2_find, Cond.selects RX2 yX2_find yX2_find]
def wsL_share_r3 : List Cond := [Cond.code yX2_find cX2_find 6 (some .boolean), Cond.constant RX2 64 (-100001), Cond.constant RX2 65 (131072), Cond.fieldLink RX2 15 "PileMoves$State" "last" "I", Cond.constant RX2 19 (100000), Cond.fieldLink RX2 39 "PileMoves$State" "forceAbove" "I", Cond.fieldLink RX2 26 "PileMoves$State" "place" "I", Cond.constant RX2 70 (-100000), Cond.methodLink RX2 66 yX2_climb, Cond.instanceMethod yX2_climb, Cond.selects RX2 yX2_climb yX2_climb, Cond.code yX2_climb cX2_climb 7 none, Cond.fieldLink RX2 29 "PileMoves$Pile" "tipStiff" "I", Cond.fieldLink RX2 32 "PileMoves$Pile" "tipMost" "I", Cond.fieldLink RX2 42 "PileMoves$Pile" "spring" "I", Cond.fieldLink RX2 51 "PileMoves$Pile" "stiff" "[I", Cond.fieldLink RX2 55 "PileMoves$Pile" "sunk" "[I", Cond.fieldLink RX2 58 "PileMoves$Pile" "most" "[I", Cond.fieldLink RX2 61 "PileMoves$State" "groundForce" "I", Cond.methodLink RX2 20 yX1_pieces, Cond.instanceMethod yX1_pieces, Cond.selects RX1 yX1_pieces yX1_pieces, Cond.initialized RX1, Cond.code yX1_pieces cX1_pieces 1 (some .int)]
def wsL_share_r4 : List Cond := [Cond.fieldLink RX1 19 "PileMoves$Pile" "stiff" "[I", Cond.static yX3_clamp, Cond.code yX3_clamp cX3_clamp 4 (some .int), Cond.methodLink RX2 45 yJ9_floorDiv_7cf53, Cond.static yJ9_floorDiv_7cf53, Cond.initialized RJ9, Cond.code yJ9_floorDiv_7cf53 cJ9_floorDiv_7cf53 3 (some .int)]
def wsL_share : List Cond := .codeWith yL_share cL_share 5 (some .int) [(0, 10, 13, 13), (0, 10, 17, 15)] :: ((wsL_share_r1 ++ (wsL_share_r2 ++ (wsL_share_r3 ++ wsL_share_r4))) ++ wsX10 ++ wsX30 ++ wsX20 ++ (vx_atS RX3 116 "java/lang/IllegalArgumentException" ["java/lang/RuntimeException", "java/lang/Exception"]).filter goodWord ++ (vx_atS RX3 42 "java/lang/IllegalStateException" ["java/lang/RuntimeException", "java/lang/Exception"]).filter goodWord)
def wsL_blow_r1 : List Cond := [Cond.classLink RL 13 "java/lang/IllegalArgumentException", Cond.methodLink RL 56 yX3_blow, Cond.instanceMethod yX3_blow, Cond.selects RX3 yX3_blow yX3_blow, Cond.initialized RX3, Cond.code yX3_blow cX3_blow 5 (some .int), Cond.fieldLink RX3 25 "PileMoves" "latestBlow" "LPileMoves$Blow;", Cond.methodLink RX3 48 yX3_pileOf, Cond.instanceMethod yX3_pileOf, Cond.selects RX3 yX3_pileOf yX3_pileOf, Cond.code yX3_pileOf cX3_pileOf 2 (some (.object "PileMoves$Pile")), Cond.classLink RX3 112 "java/lang/IllegalArgumentException", Cond.initialized "java/lang/IllegalArgumentException", Cond.fieldLink RX3 11 "PileMoves" "piles" "[LPileMoves$Pile;", Cond.methodLink RX3 33 yX3_checkWithin, Cond.static yX3_checkWithin, Cond.code yX3_checkWithin cX3_checkWithin 3 none, Cond.methodLink RX3 117 yX0_strike, Cond.instanceMethod yX0_strike, Cond.selects RX0 yX0_strike yX0_strike, Cond.initialized RX0, Cond.code yX0_strike cX0_strike 7 none, Cond.fieldLink RX0 25 "PileMoves$Blow" "pieces" "I", Cond.fieldLink RX0 30 "PileMoves$Blow" "deepest" "I"]
def wsL_blow_r2 : List Cond := [Cond.fieldLink RX0 11 "PileMoves$Blow" "places" "[I", Cond.fieldLink RX0 15 "PileMoves$Blow" "speeds" "[I", Cond.fieldLink RX0 58 "PileMoves$Pile" "mass" "I", Cond.methodLink RX0 65 Lib.Math.max.name, Cond.static Lib.Math.max.name, Cond.initialized "java/lang/Math", Cond.code Lib.Math.max.name Lib.Math.max.code 2 (some .int), Cond.fieldLink RX0 22 "PileMoves$Blow" "waves" "[I", Cond.methodLink RX0 68 arraycopyName, Cond.native arraycopyName, Cond.static arraycopyName, Cond.initialized "java/lang/System", Cond.methodLink RX0 45 yX1_pieces, Cond.instanceMethod yX1_pieces, Cond.selects RX1 yX1_pieces yX1_pieces, Cond.initialized RX1, Cond.code yX1_pieces cX1_pieces 1 (some .int), Cond.fieldLink RX1 19 "PileMoves$Pile" "stiff" "[I", Cond.methodLink RX0 48 yJ7_fill_53178, Cond.static yJ7_fill_53178, Cond.initialized RJ7, Cond.code yJ7_fill_53178 cJ7_fill_53178 4 none, Cond.methodLink RX0 54 yX0_gatherPushes, Cond.instanceMethod yX0_gatherPushes]
def wsL_blow_r3 : List Cond := [Cond.selects RX0 yX0_gatherPushes yX0_gatherPushes, Cond.code yX0_gatherPushes cX0_gatherPushes 3 none, Cond.fieldLink RX0 18 "PileMoves$Blow" "pushes" "[J", Cond.constantLong RX0 77 (10), Cond.methodLink RX0 39 Lib.MathLoose.max_long.x, Cond.static Lib.MathLoose.max_long.x, Cond.code Lib.MathLoose.max_long.x Lib.MathLoose.max_long.code 4 (some .long), Cond.fieldLink RX0 83 "PileMoves$Pile" "spring" "I", Cond.constantLong RX0 86 (1000), Cond.fieldLink RX0 88 "PileMoves$Pile" "stiff" "[I", Cond.fieldLink RX0 91 "PileMoves$Pile" "most" "[I", Cond.fieldLink RX0 98 "PileMoves$Pile" "tipStiff" "I", Cond.fieldLink RX0 101 "PileMoves$Pile" "tipMost" "I", Cond.methodLink RX0 74 yJ7_fill_d0a16, Cond.static yJ7_fill_d0a16, Cond.code yJ7_fill_d0a16 cJ7_fill_d0a16 5 none, Cond.methodLink RX0 79 yX0_press, Cond.instanceMethod yX0_press, Cond.selects RX0 yX0_press yX0_press, Cond.code yX0_press cX0_press 5 none, Cond.static yX3_clamp, Cond.code yX3_clamp cX3_clamp 4 (some .int), Cond.methodLink RX0 61 yX0_move, Cond.instanceMethod yX0_move]
def wsL_blow_r4 : List Cond := [Cond.selects RX0 yX0_move yX0_move, Cond.code yX0_move cX0_move 5 none, Cond.constant RX0 104 (-1000000000), Cond.constant RX0 105 (1000000000), Cond.methodLink RX3 121 yX0_settled, Cond.instanceMethod yX0_settled, Cond.selects RX0 yX0_settled yX0_settled, Cond.code yX0_settled cX0_settled 2 (some .int), Cond.methodLink RX0 33 yX1_quake, Cond.instanceMethod yX1_quake, Cond.selects RX1 yX1_quake yX1_quake, Cond.code yX1_quake cX1_quake 1 (some .long), Cond.fieldLink RX1 29 "PileMoves$Pile" "tipStiff" "I", Cond.constantLong RX1 32 (1000), Cond.fieldLink RX1 34 "PileMoves$Pile" "tipMost" "I"]
def wsL_blow : List Cond := .codeWith yL_blow cL_blow 6 (some .int) [(0, 12, 15, 13)] :: ((wsL_blow_r1 ++ (wsL_blow_r2 ++ (wsL_blow_r3 ++ wsL_blow_r4))) ++ wsX30 ++ wsX00 ++ wsX10 ++ (vx_atS RX3 116 "java/lang/IllegalArgumentException" ["java/lang/RuntimeException", "java/lang/Exception"]).filter goodWord)
def wsL_wave_r1 : List Cond := [Cond.classLink RL 15 "java/lang/IllegalStateException", Cond.classLink RL 13 "java/lang/IllegalArgumentException", Cond.methodLink RL 59 yX3_wave, Cond.instanceMethod yX3_wave, Cond.selects RX3 yX3_wave yX3_wave, Cond.initialized RX3, Cond.code yX3_wave cX3_wave 3 (some .int), Cond.classLink RX3 38 "java/lang/IllegalStateException", Cond.initialized "java/lang/IllegalStateException", Cond.fieldLink RX3 25 "PileMoves" "latestBlow" "LPileMoves$Blow;", Cond.fieldLink RX3 131 "PileMoves$Blow" "pieces" "I", Cond.methodLink RX3 125 yX0_happened, Cond.instanceMethod yX0_happened, Cond.selects RX0 yX0_happened yX0_happened, Cond.initialized RX0, Cond.code yX0_happened cX0_happened 1 (some .boolean), Cond.fieldLink RX0 25 "PileMoves$Blow" "pieces" "I", Cond.methodLink RX3 33 yX3_checkWithin, Cond.static yX3_checkWithin, Cond.code yX3_checkWithin cX3_checkWithin 3 none, Cond.classLink RX3 112 "java/lang/IllegalArgumentException", Cond.initialized "java/lang/IllegalArgumentException", Cond.methodLink RX3 134 yX0_behindRound, Cond.instanceMethod yX0_behindRound]
def wsL_wave_r2 : List Cond := [Cond.selects RX0 yX0_behindRound yX0_behindRound, Cond.code yX0_behindRound cX0_behindRound 4 (some .int), Cond.fieldLink RX0 22 "PileMoves$Blow" "waves" "[I", Cond.constant RX0 29 (-1000000)]
def wsL_wave : List Cond := .codeWith yL_wave cL_wave 5 (some .int) [(0, 10, 13, 15), (0, 10, 17, 13)] :: ((wsL_wave_r1 ++ wsL_wave_r2) ++ wsX30 ++ wsX00 ++ (vx_atS RX3 42 "java/lang/IllegalStateException" ["java/lang/RuntimeException", "java/lang/Exception"]).filter goodWord ++ (vx_atS RX3 116 "java/lang/IllegalArgumentException" ["java/lang/RuntimeException", "java/lang/Exception"]).filter goodWord)
def wsL_law0_r1 : List Cond := [Cond.classLink RL 8 RX3, Cond.instantiable RX3 4, Cond.initialized RX3, Cond.classLink RL 63 RX4, Cond.instantiable RX4 19, Cond.initialized RX4, Cond.arrayClass .long, Cond.methodLink RL 62 yX3_init, Cond.instanceMethod yX3_init, Cond.code yX3_init cX3_init 1 none, Cond.methodLink RX3 1 objectInit, Cond.instanceMethod objectInit, Cond.code objectInit ⟨#[0xb1]⟩ 1 none, Cond.classLink RX3 9 RX1, Cond.fieldLink RX3 11 "PileMoves" "piles" "[LPileMoves$Pile;", Cond.classLink RX3 15 RX2, Cond.instantiable RX2 4, Cond.initialized RX2, Cond.fieldLink RX3 18 "PileMoves" "state" "LPileMoves$State;", Cond.classLink RX3 22 RX0, Cond.instantiable RX0 6, Cond.initialized RX0, Cond.fieldLink RX3 25 "PileMoves" "latestBlow" "LPileMoves$Blow;", Cond.fieldLink RX3 29 "PileMoves" "pileCount" "I"]
def wsL_law0_r2 : List Cond := [Cond.instanceMethod yX2_init, Cond.code yX2_init cX2_init 1 none, Cond.methodLink RX2 3 objectInit, Cond.methodLink RX3 24 yX0_init, Cond.instanceMethod yX0_init, Cond.code yX0_init cX0_init 1 none, Cond.methodLink RX0 3 objectInit, Cond.arrayClass .int, Cond.fieldLink RX0 11 "PileMoves$Blow" "places" "[I", Cond.fieldLink RX0 15 "PileMoves$Blow" "speeds" "[I", Cond.fieldLink RX0 18 "PileMoves$Blow" "pushes" "[J", Cond.fieldLink RX0 22 "PileMoves$Blow" "waves" "[I", Cond.methodLink RL 65 yX4_init, Cond.instanceMethod yX4_init, Cond.code yX4_init cX4_init 1 none, Cond.methodLink RX4 1 objectInit, Cond.fieldLink RX4 7 "PileMovesModel" "many" "[I", Cond.fieldLink RX4 13 "PileMovesModel" "springs" "[J", Cond.fieldLink RX4 17 "PileMovesModel" "masses" "[J", Cond.fieldLink RX4 20 "PileMovesModel" "costs" "[I", Cond.fieldLink RX4 23 "PileMovesModel" "stiff" "[J", Cond.fieldLink RX4 26 "PileMovesModel" "most" "[J", Cond.fieldLink RX4 29 "PileMovesModel" "sinks" "[J", Cond.fieldLink RX4 32 "PileMovesModel" "tipStiff" "[J"]
def wsL_law0_r3 : List Cond := [Cond.fieldLink RX4 35 "PileMovesModel" "tipMost" "[J", Cond.arrayClass .boolean, Cond.fieldLink RX4 38 "PileMovesModel" "isIn" "[Z", Cond.fieldLink RX4 42 "PileMovesModel" "places" "[J", Cond.fieldLink RX4 45 "PileMovesModel" "grounds" "[J", Cond.fieldLink RX4 48 "PileMovesModel" "above" "[J", Cond.fieldLink RX4 51 "PileMovesModel" "waves" "[J", Cond.constant RX4 54 (-1000000), Cond.fieldLink RX4 55 "PileMovesModel" "blown" "I", Cond.fieldLink RX4 59 "PileMovesModel" "at" "[J", Cond.fieldLink RX4 62 "PileMovesModel" "speeds" "[J", Cond.methodLink RL 66 yL_pile, Cond.static yL_pile, Cond.initialized RL, Cond.codeWith yL_pile cL_pile 7 (some .int) [(0, 14, 17, 13), (0, 14, 21, 15)], Cond.classLink RL 13 "java/lang/IllegalArgumentException", Cond.classLink RL 15 "java/lang/IllegalStateException", Cond.methodLink RL 7 yX3_pile, Cond.instanceMethod yX3_pile, Cond.selects RX3 yX3_pile yX3_pile, Cond.code yX3_pile cX3_pile 6 (some .int), Cond.classLink RX3 38 "java/lang/IllegalStateException", Cond.initialized "java/lang/IllegalStateException", Cond.constant RX3 37 (100000)]
def wsL_law0_r4 : List Cond := [Cond.instantiable RX1 9, Cond.initialized RX1, Cond.methodLink RX3 33 yX3_checkWithin, Cond.static yX3_checkWithin, Cond.code yX3_checkWithin cX3_checkWithin 3 none, Cond.classLink RX3 112 "java/lang/IllegalArgumentException", Cond.initialized "java/lang/IllegalArgumentException", Cond.methodLink RX3 45 yX1_init, Cond.instanceMethod yX1_init, Cond.code yX1_init cX1_init 5 none, Cond.methodLink RX1 1 objectInit, Cond.fieldLink RX1 7 "PileMoves$Pile" "spring" "I", Cond.fieldLink RX1 13 "PileMoves$Pile" "mass" "I", Cond.fieldLink RX1 16 "PileMoves$Pile" "cost" "I", Cond.fieldLink RX1 19 "PileMoves$Pile" "stiff" "[I", Cond.fieldLink RX1 23 "PileMoves$Pile" "most" "[I", Cond.fieldLink RX1 26 "PileMoves$Pile" "sunk" "[I", Cond.methodLink RL 71 yX4_pile, Cond.instanceMethod yX4_pile, Cond.selects RX4 yX4_pile yX4_pile, Cond.code yX4_pile cX4_pile 5 (some .int), Cond.constantLong RX4 79 (12), Cond.constantLong RX4 81 (10000), Cond.constantLong RX4 83 (1000)]
def wsL_law0_r5 : List Cond := [Cond.constantLong RX4 85 (100000), Cond.fieldLink RX4 68 "PileMovesModel" "piles" "I", Cond.fieldLink RX4 65 "PileMovesModel" "code" "I", Cond.methodLink RX4 71 yX4_in, Cond.static yX4_in, Cond.code yX4_in cX4_in 6 (some .boolean), Cond.methodLink RL 72 yX4_thrown, Cond.instanceMethod yX4_thrown, Cond.selects RX4 yX4_thrown yX4_thrown, Cond.code yX4_thrown cX4_thrown 1 (some .int), Cond.methodLink RL 76 yL_ground, Cond.static yL_ground, Cond.codeWith yL_ground cL_ground 6 (some .int) [(0, 9, 12, 13)], Cond.methodLink RL 17 yX3_ground, Cond.instanceMethod yX3_ground, Cond.selects RX3 yX3_ground yX3_ground, Cond.code yX3_ground cX3_ground 6 none, Cond.fieldLink RX3 56 "PileMoves$Pile" "stiff" "[I", Cond.fieldLink RX3 60 "PileMoves$Pile" "most" "[I", Cond.methodLink RX3 48 yX3_pileOf, Cond.instanceMethod yX3_pileOf, Cond.selects RX3 yX3_pileOf yX3_pileOf, Cond.code yX3_pileOf cX3_pileOf 2 (some (.object "PileMoves$Pile")), Cond.methodLink RX3 52 yX3_checkPiece]
def wsL_law0_r6 : List Cond := [Cond.static yX3_checkPiece, Cond.code yX3_checkPiece cX3_checkPiece 2 none, Cond.methodLink RX3 141 yX1_pieces, Cond.instanceMethod yX1_pieces, Cond.selects RX1 yX1_pieces yX1_pieces, Cond.code yX1_pieces cX1_pieces 1 (some .int), Cond.methodLink RL 79 yX4_ground, Cond.instanceMethod yX4_ground, Cond.selects RX4 yX4_ground yX4_ground, Cond.code yX4_ground cX4_ground 5 none, Cond.methodLink RX4 87 yX4_isPiece, Cond.instanceMethod yX4_isPiece, Cond.selects RX4 yX4_isPiece yX4_isPiece, Cond.code yX4_isPiece cX4_isPiece 3 (some .boolean), Cond.methodLink RX4 75 yX4_isPile, Cond.instanceMethod yX4_isPile, Cond.selects RX4 yX4_isPile yX4_isPile, Cond.code yX4_isPile cX4_isPile 2 (some .boolean), Cond.methodLink RL 80 yL_sinks, Cond.static yL_sinks, Cond.codeWith yL_sinks cL_sinks 6 (some .int) [(0, 12, 15, 13)], Cond.methodLink RL 21 yX3_sinks, Cond.instanceMethod yX3_sinks, Cond.selects RX3 yX3_sinks yX3_sinks]
def wsL_law0_r7 : List Cond := [Cond.code yX3_sinks cX3_sinks 6 (some .int), Cond.fieldLink RX3 63 "PileMoves$Pile" "sunk" "[I", Cond.methodLink RL 83 yX4_sinks, Cond.instanceMethod yX4_sinks, Cond.selects RX4 yX4_sinks yX4_sinks, Cond.code yX4_sinks cX4_sinks 6 (some .int), Cond.methodLink RL 84 yL_tip, Cond.static yL_tip, Cond.codeWith yL_tip cL_tip 5 (some .int) [(0, 7, 10, 13)], Cond.methodLink RL 25 yX3_tip, Cond.instanceMethod yX3_tip, Cond.selects RX3 yX3_tip yX3_tip, Cond.code yX3_tip cX3_tip 5 none, Cond.constant RX3 66 (1000000), Cond.fieldLink RX3 67 "PileMoves$Pile" "tipStiff" "I", Cond.fieldLink RX3 70 "PileMoves$Pile" "tipMost" "I", Cond.methodLink RL 87 yX4_tip, Cond.instanceMethod yX4_tip, Cond.selects RX4 yX4_tip yX4_tip, Cond.code yX4_tip cX4_tip 4 none, Cond.constantLong RX4 91 (1000000), Cond.methodLink RL 88 yL_under, Cond.static yL_under, Cond.codeWith yL_under cL_under 5 (some .int) [(0, 10, 13, 13)]]
def wsL_law0_r8 : List Cond := [Cond.methodLink RL 29 yX3_under, Cond.instanceMethod yX3_under, Cond.selects RX3 yX3_under yX3_under, Cond.code yX3_under cX3_under 4 (some .int), Cond.fieldLink RX3 81 "PileMoves$State" "place" "I", Cond.constant RX3 84 (-1000000), Cond.methodLink RX3 73 yX3_checkLoad, Cond.static yX3_checkLoad, Cond.code yX3_checkLoad cX3_checkLoad 1 none, Cond.constant RX3 140 (10000000), Cond.methodLink RX3 77 yX2_findUnder, Cond.instanceMethod yX2_findUnder, Cond.selects RX2 yX2_findUnder yX2_findUnder, Cond.code yX2_findUnder cX2_findUnder 3 (some .boolean), Cond.fieldLink RX2 15 "PileMoves$State" "last" "I", Cond.constant RX2 19 (100000), Cond.methodLink RX2 9 yX2_find, Cond.instanceMethod yX2_find, Cond.selects RX2 yX2_find yX2_find, Cond.code yX2_find cX2_find 6 (some .boolean), Cond.constant RX2 64 (-100001), Cond.constant RX2 65 (131072), Cond.fieldLink RX2 39 "PileMoves$State" "forceAbove" "I", Cond.fieldLink RX2 26 "PileMoves$State" "place" "I"]
def wsL_law0_r9 : List Cond := [Cond.constant RX2 70 (-100000), Cond.methodLink RX2 66 yX2_climb, Cond.instanceMethod yX2_climb, Cond.selects RX2 yX2_climb yX2_climb, Cond.code yX2_climb cX2_climb 7 none, Cond.fieldLink RX2 29 "PileMoves$Pile" "tipStiff" "I", Cond.fieldLink RX2 32 "PileMoves$Pile" "tipMost" "I", Cond.fieldLink RX2 42 "PileMoves$Pile" "spring" "I", Cond.fieldLink RX2 51 "PileMoves$Pile" "stiff" "[I", Cond.fieldLink RX2 55 "PileMoves$Pile" "sunk" "[I", Cond.fieldLink RX2 58 "PileMoves$Pile" "most" "[I", Cond.fieldLink RX2 61 "PileMoves$State" "groundForce" "I", Cond.methodLink RX2 20 yX1_pieces, Cond.static yX3_clamp, Cond.code yX3_clamp cX3_clamp 4 (some .int), Cond.methodLink RX2 45 yJ9_floorDiv_7cf53, Cond.static yJ9_floorDiv_7cf53, Cond.initialized RJ9, Cond.code yJ9_floorDiv_7cf53 cJ9_floorDiv_7cf53 3 (some .int), Cond.methodLink RL 91 yX4_under, Cond.instanceMethod yX4_under, Cond.selects RX4 yX4_under yX4_under, Cond.code yX4_under cX4_under 3 (some .int), Cond.constantLong RX4 121 (10000000)]
def wsL_law0_r10 : List Cond := [Cond.methodLink RX4 123 yX4_stands, Cond.instanceMethod yX4_stands, Cond.selects RX4 yX4_stands yX4_stands, Cond.code yX4_stands cX4_stands 6 (some .boolean), Cond.constantLong RX4 105 (-100000), Cond.methodLink RX4 117 yX4_greatest, Cond.instanceMethod yX4_greatest, Cond.selects RX4 yX4_greatest yX4_greatest, Cond.code yX4_greatest cX4_greatest 10 (some .long), Cond.constantLong RX4 111 (-100001), Cond.constantLong RX4 113 (131072), Cond.constantLong RX4 115 (2), Cond.methodLink RX4 107 yX4_isWithin, Cond.instanceMethod yX4_isWithin, Cond.selects RX4 yX4_isWithin yX4_isWithin, Cond.code yX4_isWithin cX4_isWithin 9 (some .boolean), Cond.methodLink RX4 101 yX4_march, Cond.instanceMethod yX4_march, Cond.selects RX4 yX4_march yX4_march, Cond.code yX4_march cX4_march 11 (some .long), Cond.methodLink RX4 93 yX4_cut, Cond.static yX4_cut, Cond.code yX4_cut cX4_cut 6 (some .long), Cond.methodLink RX4 97 yX4_down]
def wsL_law0_r11 : List Cond := [Cond.static yX4_down, Cond.code yX4_down cX4_down 4 (some .long), Cond.methodLink RL 92 yL_piece, Cond.static yL_piece, Cond.codeWith yL_piece cL_piece 7 (some .int) [(0, 14, 17, 13)], Cond.methodLink RL 33 yX3_piece, Cond.instanceMethod yX3_piece, Cond.selects RX3 yX3_piece yX3_piece, Cond.code yX3_piece cX3_piece 6 (some .int), Cond.fieldLink RX3 88 "PileMoves$State" "groundForce" "I", Cond.fieldLink RX3 91 "PileMoves$State" "forceAbove" "I", Cond.methodLink RX3 85 yX2_climb, Cond.methodLink RL 94 yX4_piece, Cond.instanceMethod yX4_piece, Cond.selects RX4 yX4_piece yX4_piece, Cond.code yX4_piece cX4_piece 5 (some .int), Cond.methodLink RL 95 yL_load, Cond.static yL_load, Cond.codeWith yL_load cL_load 5 (some .int) [(0, 10, 13, 13)], Cond.methodLink RL 36 yX3_load, Cond.instanceMethod yX3_load, Cond.selects RX3 yX3_load yX3_load, Cond.code yX3_load cX3_load 4 (some .int), Cond.constant RX3 94 (-100000)]
def wsL_law0_r12 : List Cond := [Cond.methodLink RX3 95 yX2_findAt, Cond.instanceMethod yX2_findAt, Cond.selects RX2 yX2_findAt yX2_findAt, Cond.code yX2_findAt cX2_findAt 3 (some .boolean), Cond.methodLink RL 97 yX4_load, Cond.instanceMethod yX4_load, Cond.selects RX4 yX4_load yX4_load, Cond.code yX4_load cX4_load 3 (some .int), Cond.methodLink RX4 127 yX4_hasState, Cond.instanceMethod yX4_hasState, Cond.selects RX4 yX4_hasState yX4_hasState, Cond.code yX4_hasState cX4_hasState 4 (some .boolean), Cond.methodLink RX4 130 yX4_loadAt, Cond.instanceMethod yX4_loadAt, Cond.selects RX4 yX4_loadAt yX4_loadAt, Cond.code yX4_loadAt cX4_loadAt 4 (some .long), Cond.methodLink RL 98 yL_hold, Cond.static yL_hold, Cond.codeWith yL_hold cL_hold 4 (some .int) [(0, 9, 12, 13)], Cond.methodLink RL 39 yX3_hold, Cond.instanceMethod yX3_hold, Cond.selects RX3 yX3_hold yX3_hold, Cond.code yX3_hold cX3_hold 8 (some .int), Cond.methodLink RL 101 yX4_hold]
def wsL_law0_r13 : List Cond := [Cond.instanceMethod yX4_hold, Cond.selects RX4 yX4_hold yX4_hold, Cond.code yX4_hold cX4_hold 5 (some .int), Cond.constantLong RX4 133 (7), Cond.constantLong RX4 135 (10), Cond.methodLink RL 102 yL_cheapest, Cond.static yL_cheapest, Cond.codeWith yL_cheapest cL_cheapest 5 (some .int) [(0, 10, 13, 13)], Cond.methodLink RL 43 yX3_cheapest, Cond.instanceMethod yX3_cheapest, Cond.selects RX3 yX3_cheapest yX3_cheapest, Cond.code yX3_cheapest cX3_cheapest 7 (some .int), Cond.fieldLink RX3 98 "PileMoves$Pile" "cost" "I", Cond.methodLink RL 104 yX4_cheapest, Cond.instanceMethod yX4_cheapest, Cond.selects RX4 yX4_cheapest yX4_cheapest, Cond.code yX4_cheapest cX4_cheapest 6 (some .int), Cond.methodLink RL 105 yL_join, Cond.static yL_join, Cond.codeWith yL_join cL_join 5 (some .int) [(0, 17, 20, 13)], Cond.methodLink RL 46 yX3_join, Cond.instanceMethod yX3_join, Cond.selects RX3 yX3_join yX3_join, Cond.code yX3_join cX3_join 5 (some .boolean)]
def wsL_law0_r14 : List Cond := [Cond.fieldLink RX3 101 "PileMoves$Pile" "joined" "Z", Cond.methodLink RL 108 yX4_join, Cond.instanceMethod yX4_join, Cond.selects RX4 yX4_join yX4_join, Cond.code yX4_join cX4_join 4 (some .boolean), Cond.methodLink RL 109 yL_group, Cond.static yL_group, Cond.codeWith yL_group cL_group 4 (some .int) [(0, 9, 12, 13), (0, 9, 15, 15)], Cond.methodLink RL 50 yX3_group, Cond.instanceMethod yX3_group, Cond.selects RX3 yX3_group yX3_group, Cond.code yX3_group cX3_group 2 (some .int), Cond.methodLink RX3 105 yX3_checkGroupNotEmpty, Cond.instanceMethod yX3_checkGroupNotEmpty, Cond.selects RX3 yX3_checkGroupNotEmpty yX3_checkGroupNotEmpty, Cond.code yX3_checkGroupNotEmpty cX3_checkGroupNotEmpty 5 none, Cond.methodLink RX3 108 yX3_groupSettlement, Cond.instanceMethod yX3_groupSettlement, Cond.selects RX3 yX3_groupSettlement yX3_groupSettlement, Cond.code yX3_groupSettlement cX3_groupSettlement 5 (some .int), Cond.methodLink RX3 148 yX3_groupLoad, Cond.instanceMethod yX3_groupLoad, Cond.selects RX3 yX3_groupLoad yX3_groupLoad, Cond.code yX3_groupLoad cX3_groupLoad 8 (some .long)]
def wsL_law0_r15 : List Cond := [Cond.constantLong RX3 152 (1000000000000), Cond.methodLink RL 111 yX4_group, Cond.instanceMethod yX4_group, Cond.selects RX4 yX4_group yX4_group, Cond.code yX4_group cX4_group 2 (some .int), Cond.methodLink RX4 141 yX4_isEmpty, Cond.instanceMethod yX4_isEmpty, Cond.selects RX4 yX4_isEmpty yX4_isEmpty, Cond.code yX4_isEmpty cX4_isEmpty 3 (some .boolean), Cond.methodLink RX4 145 yX4_settles, Cond.instanceMethod yX4_settles, Cond.selects RX4 yX4_settles yX4_settles, Cond.code yX4_settles cX4_settles 6 (some .int), Cond.methodLink RX4 137 yX4_loads, Cond.instanceMethod yX4_loads, Cond.selects RX4 yX4_loads yX4_loads, Cond.code yX4_loads cX4_loads 6 (some .long), Cond.methodLink RL 112 yL_share, Cond.static yL_share, Cond.codeWith yL_share cL_share 5 (some .int) [(0, 10, 13, 13), (0, 10, 17, 15)], Cond.methodLink RL 53 yX3_share, Cond.instanceMethod yX3_share, Cond.selects RX3 yX3_share yX3_share, Cond.code yX3_share cX3_share 5 (some .int)]
def wsL_law0_r16 : List Cond := [Cond.methodLink RL 114 yX4_share, Cond.instanceMethod yX4_share, Cond.selects RX4 yX4_share yX4_share, Cond.code yX4_share cX4_share 4 (some .int), Cond.methodLink RL 115 yL_blow, Cond.static yL_blow, Cond.codeWith yL_blow cL_blow 6 (some .int) [(0, 12, 15, 13)], Cond.methodLink RL 56 yX3_blow, Cond.instanceMethod yX3_blow, Cond.selects RX3 yX3_blow yX3_blow, Cond.code yX3_blow cX3_blow 5 (some .int), Cond.methodLink RX3 117 yX0_strike, Cond.instanceMethod yX0_strike, Cond.selects RX0 yX0_strike yX0_strike, Cond.code yX0_strike cX0_strike 7 none, Cond.fieldLink RX0 25 "PileMoves$Blow" "pieces" "I", Cond.fieldLink RX0 30 "PileMoves$Blow" "deepest" "I", Cond.fieldLink RX0 58 "PileMoves$Pile" "mass" "I", Cond.methodLink RX0 65 Lib.Math.max.name, Cond.static Lib.Math.max.name, Cond.initialized "java/lang/Math", Cond.code Lib.Math.max.name Lib.Math.max.code 2 (some .int), Cond.methodLink RX0 68 arraycopyName, Cond.native arraycopyName]
def wsL_law0_r17 : List Cond := [Cond.static arraycopyName, Cond.initialized "java/lang/System", Cond.methodLink RX0 45 yX1_pieces, Cond.methodLink RX0 48 yJ7_fill_53178, Cond.static yJ7_fill_53178, Cond.initialized RJ7, Cond.code yJ7_fill_53178 cJ7_fill_53178 4 none, Cond.methodLink RX0 54 yX0_gatherPushes, Cond.instanceMethod yX0_gatherPushes, Cond.selects RX0 yX0_gatherPushes yX0_gatherPushes, Cond.code yX0_gatherPushes cX0_gatherPushes 3 none, Cond.constantLong RX0 77 (10), Cond.methodLink RX0 39 Lib.MathLoose.max_long.x, Cond.static Lib.MathLoose.max_long.x, Cond.code Lib.MathLoose.max_long.x Lib.MathLoose.max_long.code 4 (some .long), Cond.fieldLink RX0 83 "PileMoves$Pile" "spring" "I", Cond.constantLong RX0 86 (1000), Cond.fieldLink RX0 88 "PileMoves$Pile" "stiff" "[I", Cond.fieldLink RX0 91 "PileMoves$Pile" "most" "[I", Cond.fieldLink RX0 98 "PileMoves$Pile" "tipStiff" "I", Cond.fieldLink RX0 101 "PileMoves$Pile" "tipMost" "I", Cond.methodLink RX0 74 yJ7_fill_d0a16, Cond.static yJ7_fill_d0a16, Cond.code yJ7_fill_d0a16 cJ7_fill_d0a16 5 none]
def wsL_law0_r18 : List Cond := [Cond.methodLink RX0 79 yX0_press, Cond.instanceMethod yX0_press, Cond.selects RX0 yX0_press yX0_press, Cond.code yX0_press cX0_press 5 none, Cond.methodLink RX0 61 yX0_move, Cond.instanceMethod yX0_move, Cond.selects RX0 yX0_move yX0_move, Cond.code yX0_move cX0_move 5 none, Cond.constant RX0 104 (-1000000000), Cond.constant RX0 105 (1000000000), Cond.methodLink RX3 121 yX0_settled, Cond.instanceMethod yX0_settled, Cond.selects RX0 yX0_settled yX0_settled, Cond.code yX0_settled cX0_settled 2 (some .int), Cond.methodLink RX0 33 yX1_quake, Cond.instanceMethod yX1_quake, Cond.selects RX1 yX1_quake yX1_quake, Cond.code yX1_quake cX1_quake 1 (some .long), Cond.fieldLink RX1 29 "PileMoves$Pile" "tipStiff" "I", Cond.constantLong RX1 32 (1000), Cond.fieldLink RX1 34 "PileMoves$Pile" "tipMost" "I", Cond.methodLink RL 117 yX4_blow, Cond.instanceMethod yX4_blow, Cond.selects RX4 yX4_blow yX4_blow]
def wsL_law0_r19 : List Cond := [Cond.code yX4_blow cX4_blow 9 (some .int), Cond.methodLink RX4 155 yX4_round, Cond.instanceMethod yX4_round, Cond.selects RX4 yX4_round yX4_round, Cond.code yX4_round cX4_round 16 none, Cond.constantLong RX4 149 (-1000), Cond.constantLong RX4 151 (-1000000000), Cond.constantLong RX4 153 (1000000000), Cond.methodLink RL 118 yL_wave, Cond.static yL_wave, Cond.codeWith yL_wave cL_wave 5 (some .int) [(0, 10, 13, 15), (0, 10, 17, 13)], Cond.methodLink RL 59 yX3_wave, Cond.instanceMethod yX3_wave, Cond.selects RX3 yX3_wave yX3_wave, Cond.code yX3_wave cX3_wave 3 (some .int), Cond.fieldLink RX3 131 "PileMoves$Blow" "pieces" "I", Cond.methodLink RX3 125 yX0_happened, Cond.instanceMethod yX0_happened, Cond.selects RX0 yX0_happened yX0_happened, Cond.code yX0_happened cX0_happened 1 (some .boolean), Cond.methodLink RX3 134 yX0_behindRound, Cond.instanceMethod yX0_behindRound, Cond.selects RX0 yX0_behindRound yX0_behindRound, Cond.code yX0_behindRound cX0_behindRound 4 (some .int)]
def wsL_law0_r20 : List Cond := [Cond.constant RX0 29 (-1000000), Cond.methodLink RL 120 yX4_wave, Cond.instanceMethod yX4_wave, Cond.selects RX4 yX4_wave yX4_wave, Cond.code yX4_wave cX4_wave 3 (some .int), Cond.constantLong RX4 159 (199)]
def wsL_law0 : List Cond := (wsL_law0_r1 ++ (wsL_law0_r2 ++ (wsL_law0_r3 ++ (wsL_law0_r4 ++ (wsL_law0_r5 ++ (wsL_law0_r6 ++ (wsL_law0_r7 ++ (wsL_law0_r8 ++ (wsL_law0_r9 ++ (wsL_law0_r10 ++ (wsL_law0_r11 ++ (wsL_law0_r12 ++ (wsL_law0_r13 ++ (wsL_law0_r14 ++ (wsL_law0_r15 ++ (wsL_law0_r16 ++ (wsL_law0_r17 ++ (wsL_law0_r18 ++ (wsL_law0_r19 ++ wsL_law0_r20))))))))))))))))))) ++ wsX30 ++ wsX40 ++ wsX20 ++ wsX00 ++ wsX10 ++ ([] : List Cond)
def wsL_law : List Cond := wsL_law0 ++ (vx_atS RX3 42 "java/lang/IllegalStateException" ["java/lang/RuntimeException", "java/lang/Exception"]).filter goodWord ++ (vx_atS RX3 116 "java/lang/IllegalArgumentException" ["java/lang/RuntimeException", "java/lang/Exception"]).filter goodWord
set_option maxRecDepth 20000 in
theorem wsL_law_in0 : ∀ w ∈ wsL_law0, w ∈ lw_tbl := fun w h => (goodIn_p wsL_law0 [39, 42, 49, 71, 468, 116, 119, 207, 537, 541, 533, 261, 265, 269, 273, 548, 552, 556, 280, 560, 287, 564, 295, 298, 303, 307, 314, 318, 321, 569, 574, 578, 583, 587, 590, 593, 330, 600, 338, 343, 604, 608, 612, 350, 616, 357, 622, 364, 626, 371, 375, 380, 384, 630, 634, 638, 642, 392, 646, 400, 404, 434, 408, 412, 419, 415, 423, 429, 441, 445, 650, 654, 453, 457, 462, 661] (by decide +kernel) (by decide +kernel) w h).1
theorem wsL_law_x0 : ∀ w ∈ (vx_atS RX3 42 "java/lang/IllegalStateException" ["java/lang/RuntimeException", "java/lang/Exception"]).filter goodWord, w ∈ lw_tbl := by decide +kernel
theorem wsL_law_x1 : ∀ w ∈ (vx_atS RX3 116 "java/lang/IllegalArgumentException" ["java/lang/RuntimeException", "java/lang/Exception"]).filter goodWord, w ∈ lw_tbl := by decide +kernel
theorem wsL_law_in : ∀ w ∈ wsL_law, w ∈ lw_tbl := fun w h => (List.mem_append.mp h).elim (fun h => (List.mem_append.mp h).elim (fun h => wsL_law_in0 w h) (fun h => wsL_law_x0 w h)) (fun h => wsL_law_x1 w h)
theorem inlX0 : ∀ w ∈ wsX00, w ∈ wsL_law := fun _ h => List.mem_append_left _ (List.mem_append_left _ (List.mem_append_left _ (List.mem_append_left _ (List.mem_append_right _ h))))
theorem inX0 : ∀ w ∈ wsX00, w ∈ lw_tbl := fun w h => wsL_law_in w (inlX0 w h)
theorem inlX1 : ∀ w ∈ wsX10, w ∈ wsL_law := fun _ h => List.mem_append_left _ (List.mem_append_left _ (List.mem_append_left _ (List.mem_append_right _ h)))
theorem inX1 : ∀ w ∈ wsX10, w ∈ lw_tbl := fun w h => wsL_law_in w (inlX1 w h)
theorem inlX2 : ∀ w ∈ wsX20, w ∈ wsL_law := fun _ h => List.mem_append_left _ (List.mem_append_left _ (List.mem_append_left _ (List.mem_append_left _ (List.mem_append_left _ (List.mem_append_right _ h)))))
theorem inX2 : ∀ w ∈ wsX20, w ∈ lw_tbl := fun w h => wsL_law_in w (inlX2 w h)
theorem inlX3 : ∀ w ∈ wsX30, w ∈ wsL_law := fun _ h => List.mem_append_left _ (List.mem_append_left _ (List.mem_append_left _ (List.mem_append_left _ (List.mem_append_left _ (List.mem_append_left _ (List.mem_append_left _ (List.mem_append_right _ h)))))))
theorem inX3 : ∀ w ∈ wsX30, w ∈ lw_tbl := fun w h => wsL_law_in w (inlX3 w h)
theorem inlX4 : ∀ w ∈ wsX40, w ∈ wsL_law := fun _ h => List.mem_append_left _ (List.mem_append_left _ (List.mem_append_left _ (List.mem_append_left _ (List.mem_append_left _ (List.mem_append_left _ (List.mem_append_right _ h))))))
theorem inX4 : ∀ w ∈ wsX40, w ∈ lw_tbl := fun w h => wsL_law_in w (inlX4 w h)
theorem inJx145de : ∀ w ∈ wsJx145de0, w ∈ lw_tbl := by decide +kernel
theorem inJ9 : ∀ w ∈ wsJ90, w ∈ lw_tbl := by decide +kernel
theorem inJ0 : ∀ w ∈ wsJ00, w ∈ lw_tbl := by decide +kernel
theorem inJ10 : ∀ w ∈ wsJ100, w ∈ lw_tbl := by decide +kernel
theorem inJ7 : ∀ w ∈ wsJ70, w ∈ lw_tbl := by decide +kernel
theorem dX0_init_0 : decode cX0_init 0 = .ok (.aload_n 0, 1) := by decide +kernel
theorem dX0_init_1 : decode cX0_init 1 = .ok (.invokespecial 3, 3) := by decide +kernel
theorem dX0_init_4 : decode cX0_init 4 = .ok (.aload_n 0, 1) := by decide +kernel
theorem dX0_init_5 : decode cX0_init 5 = .ok (.bipush 13, 2) := by decide +kernel
theorem dX0_init_7 : decode cX0_init 7 = .ok (.newarray .int, 2) := by decide +kernel
theorem dX0_init_9 : decode cX0_init 9 = .ok (.putfield 11, 3) := by decide +kernel
theorem dX0_init_12 : decode cX0_init 12 = .ok (.aload_n 0, 1) := by decide +kernel
theorem dX0_init_13 : decode cX0_init 13 = .ok (.bipush 13, 2) := by decide +kernel
theorem dX0_init_15 : decode cX0_init 15 = .ok (.newarray .int, 2) := by decide +kernel
theorem dX0_init_17 : decode cX0_init 17 = .ok (.putfield 15, 3) := by decide +kernel
theorem dX0_init_20 : decode cX0_init 20 = .ok (.aload_n 0, 1) := by decide +kernel
theorem dX0_init_21 : decode cX0_init 21 = .ok (.bipush 13, 2) := by decide +kernel
theorem dX0_init_23 : decode cX0_init 23 = .ok (.newarray .long, 2) := by decide +kernel
theorem dX0_init_25 : decode cX0_init 25 = .ok (.putfield 18, 3) := by decide +kernel
theorem dX0_init_28 : decode cX0_init 28 = .ok (.aload_n 0, 1) := by decide +kernel
theorem dX0_init_29 : decode cX0_init 29 = .ok (.sipush 2600, 3) := by decide +kernel
theorem dX0_init_32 : decode cX0_init 32 = .ok (.newarray .int, 2) := by decide +kernel
theorem dX0_init_34 : decode cX0_init 34 = .ok (.putfield 22, 3) := by decide +kernel
theorem dX0_init_37 : decode cX0_init 37 = .ok (.return_, 1) := by decide +kernel
theorem dX0_happened_0 : decode cX0_happened 0 = .ok (.aload_n 0, 1) := by decide +kernel
theorem dX0_happened_1 : decode cX0_happened 1 = .ok (.getfield 25, 3) := by decide +kernel
theorem dX0_happened_4 : decode cX0_happened 4 = .ok (.ifCond .le 7, 3) := by decide +kernel
theorem dX0_happened_7 : decode cX0_happened 7 = .ok (.iconst 1, 1) := by decide +kernel
theorem dX0_happened_8 : decode cX0_happened 8 = .ok (.goto 4, 3) := by decide +kernel
theorem dX0_happened_11 : decode cX0_happened 11 = .ok (.iconst 0, 1) := by decide +kernel
theorem dX0_happened_12 : decode cX0_happened 12 = .ok (.ireturn, 1) := by decide +kernel
theorem dX0_behindRound_0 : decode cX0_behindRound 0 = .ok (.iload_n 1, 1) := by decide +kernel
theorem dX0_behindRound_1 : decode cX0_behindRound 1 = .ok (.bipush 13, 2) := by decide +kernel
theorem dX0_behindRound_3 : decode cX0_behindRound 3 = .ok (.imul, 1) := by decide +kernel
theorem dX0_behindRound_4 : decode cX0_behindRound 4 = .ok (.iload_n 2, 1) := by decide +kernel
theorem dX0_behindRound_5 : decode cX0_behindRound 5 = .ok (.iadd, 1) := by decide +kernel
theorem dX0_behindRound_6 : decode cX0_behindRound 6 = .ok (.istore_n 3, 1) := by decide +kernel
theorem dX0_behindRound_7 : decode cX0_behindRound 7 = .ok (.iload_n 3, 1) := by decide +kernel
theorem dX0_behindRound_8 : decode cX0_behindRound 8 = .ok (.ifCond .lt 12, 3) := by decide +kernel
theorem dX0_behindRound_11 : decode cX0_behindRound 11 = .ok (.iload_n 3, 1) := by decide +kernel
theorem dX0_behindRound_12 : decode cX0_behindRound 12 = .ok (.aload_n 0, 1) := by decide +kernel
theorem dX0_behindRound_13 : decode cX0_behindRound 13 = .ok (.getfield 22, 3) := by decide +kernel
theorem dX0_behindRound_16 : decode cX0_behindRound 16 = .ok (.arraylength, 1) := by decide +kernel
theorem dX0_behindRound_17 : decode cX0_behindRound 17 = .ok (.if_icmp .lt 8, 3) := by decide +kernel
theorem dX0_behindRound_20 : decode cX0_behindRound 20 = .ok (.ldc 29, 2) := by decide +kernel
theorem dX0_behindRound_22 : decode cX0_behindRound 22 = .ok (.goto 9, 3) := by decide +kernel
theorem dX0_behindRound_25 : decode cX0_behindRound 25 = .ok (.aload_n 0, 1) := by decide +kernel
theorem dX0_behindRound_26 : decode cX0_behindRound 26 = .ok (.getfield 22, 3) := by decide +kernel
theorem dX0_behindRound_29 : decode cX0_behindRound 29 = .ok (.iload_n 3, 1) := by decide +kernel
theorem dX0_behindRound_30 : decode cX0_behindRound 30 = .ok (.iaload, 1) := by decide +kernel
theorem dX0_behindRound_31 : decode cX0_behindRound 31 = .ok (.ireturn, 1) := by decide +kernel
set_option maxRecDepth 20000 in
theorem ggX0_settled_X1_quake : GoodIn wsX0_settled wsX1_quake := goodIn_r _ [10, 11, 12, 13, 20, 21, 22, 23, 24, 25, 26, 27, 28] (by decide +kernel) (by decide +kernel)
set_option maxRecDepth 20000 in
theorem gX0_settled_X1_quake : GoodIn wsX0_settled (wsV RX0 33 RX1 yX1_quake wsX1_quake) := goodIn_app (goodIn_of _ (by decide +kernel)) ggX0_settled_X1_quake
theorem dX0_settled_0 : decode cX0_settled 0 = .ok (.lconst 0, 1) := by decide +kernel
theorem dX0_settled_1 : decode cX0_settled 1 = .ok (.aload_n 0, 1) := by decide +kernel
theorem dX0_settled_2 : decode cX0_settled 2 = .ok (.getfield 30, 3) := by decide +kernel
theorem dX0_settled_5 : decode cX0_settled 5 = .ok (.i2l, 1) := by decide +kernel
theorem dX0_settled_6 : decode cX0_settled 6 = .ok (.aload_n 1, 1) := by decide +kernel
theorem dX0_settled_7 : decode cX0_settled 7 = .ok (.invokevirtual 33, 3) := by decide +kernel
theorem dX0_settled_10 : decode cX0_settled 10 = .ok (.lsub, 1) := by decide +kernel
theorem dX0_settled_11 : decode cX0_settled 11 = .ok (.invokestatic 39, 3) := by decide +kernel
theorem dX0_settled_14 : decode cX0_settled 14 = .ok (.l2i, 1) := by decide +kernel
theorem dX0_settled_15 : decode cX0_settled 15 = .ok (.ireturn, 1) := by decide +kernel
set_option maxRecDepth 20000 in
theorem ggX0_strike_X1_pieces : GoodIn wsX0_strike wsX1_pieces := goodIn_r _ [19, 20, 63, 64, 65, 66, 67, 68, 69, 70, 71] (by decide +kernel) (by decide +kernel)
set_option maxRecDepth 20000 in
theorem gX0_strike_X1_pieces : GoodIn wsX0_strike (wsV RX0 45 RX1 yX1_pieces wsX1_pieces) := goodIn_app (goodIn_of _ (by decide +kernel)) ggX0_strike_X1_pieces
set_option maxRecDepth 20000 in
theorem ggX0_strike_J7_fill_53178 : GoodIn wsX0_strike wsJ7_fill_53178 := goodIn_r _ [24] (by decide +kernel) (by decide +kernel)
set_option maxRecDepth 20000 in
theorem gX0_strike_J7_fill_53178 : GoodIn wsX0_strike (va_wsS RX0 48 yJ7_fill_53178 wsJ7_fill_53178) := goodIn_app (goodIn_of _ (by decide +kernel)) ggX0_strike_J7_fill_53178
set_option maxRecDepth 20000 in
theorem ggX0_strike_X0_gatherPushes : GoodIn wsX0_strike wsX0_gatherPushes := goodIn_r _ [29, 30, 1, 31, 3, 32, 33, 8, 34, 35, 36, 37, 38, 39, 40, 41, 42, 23, 43, 44, 45, 46, 28, 47, 48, 49, 50, 57, 58, 59, 60, 61, 62, 63, 64, 65, 66, 67, 68, 69, 70, 71] (by decide +kernel) (by decide +kernel)
set_option maxRecDepth 20000 in
theorem gX0_strike_X0_gatherPushes : GoodIn wsX0_strike (wsV RX0 54 RX0 yX0_gatherPushes wsX0_gatherPushes) := goodIn_app (goodIn_of _ (by decide +kernel)) ggX0_strike_X0_gatherPushes
set_option maxRecDepth 20000 in
theorem ggX0_strike_X0_move : GoodIn wsX0_strike wsX0_move := goodIn_r _ [54, 36, 30, 4, 55, 56, 3, 48, 49, 50, 57, 58, 59, 60, 61, 62] (by decide +kernel) (by decide +kernel)
set_option maxRecDepth 20000 in
theorem gX0_strike_X0_move : GoodIn wsX0_strike (wsV RX0 61 RX0 yX0_move wsX0_move) := goodIn_app (goodIn_of _ (by decide +kernel)) ggX0_strike_X0_move
theorem dX0_strike_0 : decode cX0_strike 0 = .ok (.aload_n 1, 1) := by decide +kernel
theorem dX0_strike_1 : decode cX0_strike 1 = .ok (.invokevirtual 45, 3) := by decide +kernel
theorem dX0_strike_4 : decode cX0_strike 4 = .ok (.istore 4, 2) := by decide +kernel
theorem dX0_strike_6 : decode cX0_strike 6 = .ok (.iload 4, 2) := by decide +kernel
theorem dX0_strike_8 : decode cX0_strike 8 = .ok (.iconst 1, 1) := by decide +kernel
theorem dX0_strike_9 : decode cX0_strike 9 = .ok (.if_icmp .lt 10, 3) := by decide +kernel
theorem dX0_strike_12 : decode cX0_strike 12 = .ok (.iload 4, 2) := by decide +kernel
theorem dX0_strike_14 : decode cX0_strike 14 = .ok (.bipush 13, 2) := by decide +kernel
theorem dX0_strike_16 : decode cX0_strike 16 = .ok (.if_icmp .lt 4, 3) := by decide +kernel
theorem dX0_strike_19 : decode cX0_strike 19 = .ok (.return_, 1) := by decide +kernel
theorem dX0_strike_20 : decode cX0_strike 20 = .ok (.aload_n 0, 1) := by decide +kernel
theorem dX0_strike_21 : decode cX0_strike 21 = .ok (.iload 4, 2) := by decide +kernel
theorem dX0_strike_23 : decode cX0_strike 23 = .ok (.putfield 25, 3) := by decide +kernel
theorem dX0_strike_26 : decode cX0_strike 26 = .ok (.aload_n 0, 1) := by decide +kernel
theorem dX0_strike_27 : decode cX0_strike 27 = .ok (.iconst 0, 1) := by decide +kernel
theorem dX0_strike_28 : decode cX0_strike 28 = .ok (.putfield 30, 3) := by decide +kernel
theorem dX0_strike_31 : decode cX0_strike 31 = .ok (.aload_n 0, 1) := by decide +kernel
theorem dX0_strike_32 : decode cX0_strike 32 = .ok (.getfield 11, 3) := by decide +kernel
theorem dX0_strike_35 : decode cX0_strike 35 = .ok (.iconst 0, 1) := by decide +kernel
theorem dX0_strike_36 : decode cX0_strike 36 = .ok (.invokestatic 48, 3) := by decide +kernel
theorem dX0_strike_39 : decode cX0_strike 39 = .ok (.aload_n 0, 1) := by decide +kernel
theorem dX0_strike_40 : decode cX0_strike 40 = .ok (.getfield 15, 3) := by decide +kernel
theorem dX0_strike_43 : decode cX0_strike 43 = .ok (.iconst 0, 1) := by decide +kernel
theorem dX0_strike_44 : decode cX0_strike 44 = .ok (.invokestatic 48, 3) := by decide +kernel
theorem dX0_strike_47 : decode cX0_strike 47 = .ok (.aload_n 0, 1) := by decide +kernel
theorem dX0_strike_48 : decode cX0_strike 48 = .ok (.getfield 15, 3) := by decide +kernel
theorem dX0_strike_51 : decode cX0_strike 51 = .ok (.aload_n 0, 1) := by decide +kernel
theorem dX0_strike_52 : decode cX0_strike 52 = .ok (.getfield 25, 3) := by decide +kernel
theorem dX0_strike_55 : decode cX0_strike 55 = .ok (.sipush 1000, 3) := by decide +kernel
theorem dX0_strike_58 : decode cX0_strike 58 = .ok (.iload_n 3, 1) := by decide +kernel
theorem dX0_strike_59 : decode cX0_strike 59 = .ok (.imul, 1) := by decide +kernel
theorem dX0_strike_60 : decode cX0_strike 60 = .ok (.iastore, 1) := by decide +kernel
theorem dX0_strike_61 : decode cX0_strike 61 = .ok (.iconst 0, 1) := by decide +kernel
theorem dX0_strike_62 : decode cX0_strike 62 = .ok (.istore 5, 2) := by decide +kernel
theorem dX0_strike_64 : decode cX0_strike 64 = .ok (.iload 5, 2) := by decide +kernel
theorem dX0_strike_66 : decode cX0_strike 66 = .ok (.sipush 200, 3) := by decide +kernel
theorem dX0_strike_69 : decode cX0_strike 69 = .ok (.if_icmp .ge 96, 3) := by decide +kernel
theorem dX0_strike_72 : decode cX0_strike 72 = .ok (.aload_n 0, 1) := by decide +kernel
theorem dX0_strike_73 : decode cX0_strike 73 = .ok (.aload_n 1, 1) := by decide +kernel
theorem dX0_strike_74 : decode cX0_strike 74 = .ok (.invokevirtual 54, 3) := by decide +kernel
theorem dX0_strike_77 : decode cX0_strike 77 = .ok (.iconst 0, 1) := by decide +kernel
theorem dX0_strike_78 : decode cX0_strike 78 = .ok (.istore 6, 2) := by decide +kernel
theorem dX0_strike_80 : decode cX0_strike 80 = .ok (.iload 6, 2) := by decide +kernel
theorem dX0_strike_82 : decode cX0_strike 82 = .ok (.aload_n 0, 1) := by decide +kernel
theorem dX0_strike_83 : decode cX0_strike 83 = .ok (.getfield 25, 3) := by decide +kernel
theorem dX0_strike_86 : decode cX0_strike 86 = .ok (.if_icmp .gt 32, 3) := by decide +kernel
theorem dX0_strike_89 : decode cX0_strike 89 = .ok (.aload_n 0, 1) := by decide +kernel
theorem dX0_strike_90 : decode cX0_strike 90 = .ok (.iload 6, 2) := by decide +kernel
theorem dX0_strike_92 : decode cX0_strike 92 = .ok (.iload 6, 2) := by decide +kernel
theorem dX0_strike_94 : decode cX0_strike 94 = .ok (.aload_n 0, 1) := by decide +kernel
theorem dX0_strike_95 : decode cX0_strike 95 = .ok (.getfield 25, 3) := by decide +kernel
theorem dX0_strike_98 : decode cX0_strike 98 = .ok (.if_icmp .ge 10, 3) := by decide +kernel
theorem dX0_strike_101 : decode cX0_strike 101 = .ok (.aload_n 1, 1) := by decide +kernel
theorem dX0_strike_102 : decode cX0_strike 102 = .ok (.getfield 58, 3) := by decide +kernel
theorem dX0_strike_105 : decode cX0_strike 105 = .ok (.goto 4, 3) := by decide +kernel
theorem dX0_strike_108 : decode cX0_strike 108 = .ok (.iload_n 2, 1) := by decide +kernel
theorem dX0_strike_109 : decode cX0_strike 109 = .ok (.invokevirtual 61, 3) := by decide +kernel
theorem dX0_strike_112 : decode cX0_strike 112 = .ok (.iinc 6 1, 3) := by decide +kernel
theorem dX0_strike_115 : decode cX0_strike 115 = .ok (.goto (-35), 3) := by decide +kernel
theorem dX0_strike_118 : decode cX0_strike 118 = .ok (.aload_n 0, 1) := by decide +kernel
theorem dX0_strike_119 : decode cX0_strike 119 = .ok (.aload_n 0, 1) := by decide +kernel
theorem dX0_strike_120 : decode cX0_strike 120 = .ok (.getfield 30, 3) := by decide +kernel
theorem dX0_strike_123 : decode cX0_strike 123 = .ok (.aload_n 0, 1) := by decide +kernel
theorem dX0_strike_124 : decode cX0_strike 124 = .ok (.getfield 11, 3) := by decide +kernel
theorem dX0_strike_127 : decode cX0_strike 127 = .ok (.aload_n 0, 1) := by decide +kernel
theorem dX0_strike_128 : decode cX0_strike 128 = .ok (.getfield 25, 3) := by decide +kernel
theorem dX0_strike_131 : decode cX0_strike 131 = .ok (.iconst 1, 1) := by decide +kernel
theorem dX0_strike_132 : decode cX0_strike 132 = .ok (.isub, 1) := by decide +kernel
theorem dX0_strike_133 : decode cX0_strike 133 = .ok (.iaload, 1) := by decide +kernel
theorem dX0_strike_134 : decode cX0_strike 134 = .ok (.invokestatic 65, 3) := by decide +kernel
theorem dX0_strike_137 : decode cX0_strike 137 = .ok (.putfield 30, 3) := by decide +kernel
theorem dX0_strike_140 : decode cX0_strike 140 = .ok (.aload_n 0, 1) := by decide +kernel
theorem dX0_strike_141 : decode cX0_strike 141 = .ok (.getfield 11, 3) := by decide +kernel
theorem dX0_strike_144 : decode cX0_strike 144 = .ok (.iconst 0, 1) := by decide +kernel
theorem dX0_strike_145 : decode cX0_strike 145 = .ok (.aload_n 0, 1) := by decide +kernel
theorem dX0_strike_146 : decode cX0_strike 146 = .ok (.getfield 22, 3) := by decide +kernel
theorem dX0_strike_149 : decode cX0_strike 149 = .ok (.iload 5, 2) := by decide +kernel
theorem dX0_strike_151 : decode cX0_strike 151 = .ok (.bipush 13, 2) := by decide +kernel
theorem dX0_strike_153 : decode cX0_strike 153 = .ok (.imul, 1) := by decide +kernel
theorem dX0_strike_154 : decode cX0_strike 154 = .ok (.bipush 13, 2) := by decide +kernel
theorem dX0_strike_156 : decode cX0_strike 156 = .ok (.invokestatic 68, 3) := by decide +kernel
theorem dX0_strike_159 : decode cX0_strike 159 = .ok (.iinc 5 1, 3) := by decide +kernel
theorem dX0_strike_162 : decode cX0_strike 162 = .ok (.goto (-98), 3) := by decide +kernel
theorem dX0_strike_165 : decode cX0_strike 165 = .ok (.return_, 1) := by decide +kernel
set_option maxRecDepth 20000 in
theorem ggX0_gatherPushes_J7_fill_d0a16 : GoodIn wsX0_gatherPushes wsJ7_fill_d0a16 := goodIn_r _ [18] (by decide +kernel) (by decide +kernel)
set_option maxRecDepth 20000 in
theorem gX0_gatherPushes_J7_fill_d0a16 : GoodIn wsX0_gatherPushes (va_wsS RX0 74 yJ7_fill_d0a16 wsJ7_fill_d0a16) := goodIn_app (goodIn_of _ (by decide +kernel)) ggX0_gatherPushes_J7_fill_d0a16
set_option maxRecDepth 20000 in
theorem ggX0_gatherPushes_X0_press : GoodIn wsX0_gatherPushes wsX0_press := goodIn_r _ [23, 1, 27, 28, 29, 30, 31, 32] (by decide +kernel) (by decide +kernel)
set_option maxRecDepth 20000 in
theorem gX0_gatherPushes_X0_press : GoodIn wsX0_gatherPushes (wsV RX0 79 RX0 yX0_press wsX0_press) := goodIn_app (goodIn_of _ (by decide +kernel)) ggX0_gatherPushes_X0_press
set_option maxRecDepth 20000 in
theorem ggX0_gatherPushes_X3_clamp : GoodIn wsX0_gatherPushes wsX3_clamp := goodIn_r _ [26] (by decide +kernel) (by decide +kernel)
set_option maxRecDepth 20000 in
theorem gX0_gatherPushes_X3_clamp_n94 : GoodIn wsX0_gatherPushes (wsX3_clamp) := ggX0_gatherPushes_X3_clamp
theorem dX0_gatherPushes_0 : decode cX0_gatherPushes 0 = .ok (.aload_n 0, 1) := by decide +kernel
theorem dX0_gatherPushes_1 : decode cX0_gatherPushes 1 = .ok (.getfield 18, 3) := by decide +kernel
theorem dX0_gatherPushes_4 : decode cX0_gatherPushes 4 = .ok (.lconst 0, 1) := by decide +kernel
theorem dX0_gatherPushes_5 : decode cX0_gatherPushes 5 = .ok (.invokestatic 74, 3) := by decide +kernel
theorem dX0_gatherPushes_8 : decode cX0_gatherPushes 8 = .ok (.aload_n 0, 1) := by decide +kernel
theorem dX0_gatherPushes_9 : decode cX0_gatherPushes 9 = .ok (.aload_n 0, 1) := by decide +kernel
theorem dX0_gatherPushes_10 : decode cX0_gatherPushes 10 = .ok (.getfield 25, 3) := by decide +kernel
theorem dX0_gatherPushes_13 : decode cX0_gatherPushes 13 = .ok (.iconst 0, 1) := by decide +kernel
theorem dX0_gatherPushes_14 : decode cX0_gatherPushes 14 = .ok (.lconst 0, 1) := by decide +kernel
theorem dX0_gatherPushes_15 : decode cX0_gatherPushes 15 = .ok (.ldc2_w 77, 3) := by decide +kernel
theorem dX0_gatherPushes_18 : decode cX0_gatherPushes 18 = .ok (.aload_n 0, 1) := by decide +kernel
theorem dX0_gatherPushes_19 : decode cX0_gatherPushes 19 = .ok (.getfield 11, 3) := by decide +kernel
theorem dX0_gatherPushes_22 : decode cX0_gatherPushes 22 = .ok (.aload_n 0, 1) := by decide +kernel
theorem dX0_gatherPushes_23 : decode cX0_gatherPushes 23 = .ok (.getfield 25, 3) := by decide +kernel
theorem dX0_gatherPushes_26 : decode cX0_gatherPushes 26 = .ok (.iaload, 1) := by decide +kernel
theorem dX0_gatherPushes_27 : decode cX0_gatherPushes 27 = .ok (.aload_n 0, 1) := by decide +kernel
theorem dX0_gatherPushes_28 : decode cX0_gatherPushes 28 = .ok (.getfield 11, 3) := by decide +kernel
theorem dX0_gatherPushes_31 : decode cX0_gatherPushes 31 = .ok (.iconst 0, 1) := by decide +kernel
theorem dX0_gatherPushes_32 : decode cX0_gatherPushes 32 = .ok (.iaload, 1) := by decide +kernel
theorem dX0_gatherPushes_33 : decode cX0_gatherPushes 33 = .ok (.isub, 1) := by decide +kernel
theorem dX0_gatherPushes_34 : decode cX0_gatherPushes 34 = .ok (.i2l, 1) := by decide +kernel
theorem dX0_gatherPushes_35 : decode cX0_gatherPushes 35 = .ok (.lmul, 1) := by decide +kernel
theorem dX0_gatherPushes_36 : decode cX0_gatherPushes 36 = .ok (.invokestatic 39, 3) := by decide +kernel
theorem dX0_gatherPushes_39 : decode cX0_gatherPushes 39 = .ok (.invokevirtual 79, 3) := by decide +kernel
theorem dX0_gatherPushes_42 : decode cX0_gatherPushes 42 = .ok (.iconst 0, 1) := by decide +kernel
theorem dX0_gatherPushes_43 : decode cX0_gatherPushes 43 = .ok (.istore_n 2, 1) := by decide +kernel
theorem dX0_gatherPushes_44 : decode cX0_gatherPushes 44 = .ok (.iload_n 2, 1) := by decide +kernel
theorem dX0_gatherPushes_45 : decode cX0_gatherPushes 45 = .ok (.iconst 1, 1) := by decide +kernel
theorem dX0_gatherPushes_46 : decode cX0_gatherPushes 46 = .ok (.iadd, 1) := by decide +kernel
theorem dX0_gatherPushes_47 : decode cX0_gatherPushes 47 = .ok (.aload_n 0, 1) := by decide +kernel
theorem dX0_gatherPushes_48 : decode cX0_gatherPushes 48 = .ok (.getfield 25, 3) := by decide +kernel
theorem dX0_gatherPushes_51 : decode cX0_gatherPushes 51 = .ok (.if_icmp .ge 43, 3) := by decide +kernel
theorem dX0_gatherPushes_54 : decode cX0_gatherPushes 54 = .ok (.aload_n 0, 1) := by decide +kernel
theorem dX0_gatherPushes_55 : decode cX0_gatherPushes 55 = .ok (.iload_n 2, 1) := by decide +kernel
theorem dX0_gatherPushes_56 : decode cX0_gatherPushes 56 = .ok (.iload_n 2, 1) := by decide +kernel
theorem dX0_gatherPushes_57 : decode cX0_gatherPushes 57 = .ok (.iconst 1, 1) := by decide +kernel
theorem dX0_gatherPushes_58 : decode cX0_gatherPushes 58 = .ok (.iadd, 1) := by decide +kernel
theorem dX0_gatherPushes_59 : decode cX0_gatherPushes 59 = .ok (.aload_n 1, 1) := by decide +kernel
theorem dX0_gatherPushes_60 : decode cX0_gatherPushes 60 = .ok (.getfield 83, 3) := by decide +kernel
theorem dX0_gatherPushes_63 : decode cX0_gatherPushes 63 = .ok (.i2l, 1) := by decide +kernel
theorem dX0_gatherPushes_64 : decode cX0_gatherPushes 64 = .ok (.aload_n 0, 1) := by decide +kernel
theorem dX0_gatherPushes_65 : decode cX0_gatherPushes 65 = .ok (.getfield 11, 3) := by decide +kernel
theorem dX0_gatherPushes_68 : decode cX0_gatherPushes 68 = .ok (.iload_n 2, 1) := by decide +kernel
theorem dX0_gatherPushes_69 : decode cX0_gatherPushes 69 = .ok (.iaload, 1) := by decide +kernel
theorem dX0_gatherPushes_70 : decode cX0_gatherPushes 70 = .ok (.aload_n 0, 1) := by decide +kernel
theorem dX0_gatherPushes_71 : decode cX0_gatherPushes 71 = .ok (.getfield 11, 3) := by decide +kernel
theorem dX0_gatherPushes_74 : decode cX0_gatherPushes 74 = .ok (.iload_n 2, 1) := by decide +kernel
theorem dX0_gatherPushes_75 : decode cX0_gatherPushes 75 = .ok (.iconst 1, 1) := by decide +kernel
theorem dX0_gatherPushes_76 : decode cX0_gatherPushes 76 = .ok (.iadd, 1) := by decide +kernel
theorem dX0_gatherPushes_77 : decode cX0_gatherPushes 77 = .ok (.iaload, 1) := by decide +kernel
theorem dX0_gatherPushes_78 : decode cX0_gatherPushes 78 = .ok (.isub, 1) := by decide +kernel
theorem dX0_gatherPushes_79 : decode cX0_gatherPushes 79 = .ok (.i2l, 1) := by decide +kernel
theorem dX0_gatherPushes_80 : decode cX0_gatherPushes 80 = .ok (.lmul, 1) := by decide +kernel
theorem dX0_gatherPushes_81 : decode cX0_gatherPushes 81 = .ok (.ldc2_w 86, 3) := by decide +kernel
theorem dX0_gatherPushes_84 : decode cX0_gatherPushes 84 = .ok (.ldiv, 1) := by decide +kernel
theorem dX0_gatherPushes_85 : decode cX0_gatherPushes 85 = .ok (.invokevirtual 79, 3) := by decide +kernel
theorem dX0_gatherPushes_88 : decode cX0_gatherPushes 88 = .ok (.iinc 2 1, 3) := by decide +kernel
theorem dX0_gatherPushes_91 : decode cX0_gatherPushes 91 = .ok (.goto (-47), 3) := by decide +kernel
theorem dX0_gatherPushes_94 : decode cX0_gatherPushes 94 = .ok (.iconst 0, 1) := by decide +kernel
theorem dX0_gatherPushes_95 : decode cX0_gatherPushes 95 = .ok (.istore_n 2, 1) := by decide +kernel
theorem dX0_gatherPushes_96 : decode cX0_gatherPushes 96 = .ok (.iload_n 2, 1) := by decide +kernel
theorem dX0_gatherPushes_97 : decode cX0_gatherPushes 97 = .ok (.aload_n 0, 1) := by decide +kernel
theorem dX0_gatherPushes_98 : decode cX0_gatherPushes 98 = .ok (.getfield 25, 3) := by decide +kernel
theorem dX0_gatherPushes_101 : decode cX0_gatherPushes 101 = .ok (.if_icmp .ge 54, 3) := by decide +kernel
theorem dX0_gatherPushes_104 : decode cX0_gatherPushes 104 = .ok (.aload_n 0, 1) := by decide +kernel
theorem dX0_gatherPushes_105 : decode cX0_gatherPushes 105 = .ok (.getfield 18, 3) := by decide +kernel
theorem dX0_gatherPushes_108 : decode cX0_gatherPushes 108 = .ok (.iload_n 2, 1) := by decide +kernel
theorem dX0_gatherPushes_109 : decode cX0_gatherPushes 109 = .ok (.dup2, 1) := by decide +kernel
theorem dX0_gatherPushes_110 : decode cX0_gatherPushes 110 = .ok (.laload, 1) := by decide +kernel
theorem dX0_gatherPushes_111 : decode cX0_gatherPushes 111 = .ok (.aload_n 1, 1) := by decide +kernel
theorem dX0_gatherPushes_112 : decode cX0_gatherPushes 112 = .ok (.getfield 88, 3) := by decide +kernel
theorem dX0_gatherPushes_115 : decode cX0_gatherPushes 115 = .ok (.iload_n 2, 1) := by decide +kernel
theorem dX0_gatherPushes_116 : decode cX0_gatherPushes 116 = .ok (.iaload, 1) := by decide +kernel
theorem dX0_gatherPushes_117 : decode cX0_gatherPushes 117 = .ok (.i2l, 1) := by decide +kernel
theorem dX0_gatherPushes_118 : decode cX0_gatherPushes 118 = .ok (.aload_n 0, 1) := by decide +kernel
theorem dX0_gatherPushes_119 : decode cX0_gatherPushes 119 = .ok (.getfield 11, 3) := by decide +kernel
theorem dX0_gatherPushes_122 : decode cX0_gatherPushes 122 = .ok (.iload_n 2, 1) := by decide +kernel
theorem dX0_gatherPushes_123 : decode cX0_gatherPushes 123 = .ok (.iaload, 1) := by decide +kernel
theorem dX0_gatherPushes_124 : decode cX0_gatherPushes 124 = .ok (.i2l, 1) := by decide +kernel
theorem dX0_gatherPushes_125 : decode cX0_gatherPushes 125 = .ok (.lmul, 1) := by decide +kernel
theorem dX0_gatherPushes_126 : decode cX0_gatherPushes 126 = .ok (.ldc2_w 86, 3) := by decide +kernel
theorem dX0_gatherPushes_129 : decode cX0_gatherPushes 129 = .ok (.ldiv, 1) := by decide +kernel
theorem dX0_gatherPushes_130 : decode cX0_gatherPushes 130 = .ok (.aload_n 1, 1) := by decide +kernel
theorem dX0_gatherPushes_131 : decode cX0_gatherPushes 131 = .ok (.getfield 91, 3) := by decide +kernel
theorem dX0_gatherPushes_134 : decode cX0_gatherPushes 134 = .ok (.iload_n 2, 1) := by decide +kernel
theorem dX0_gatherPushes_135 : decode cX0_gatherPushes 135 = .ok (.iaload, 1) := by decide +kernel
theorem dX0_gatherPushes_136 : decode cX0_gatherPushes 136 = .ok (.ineg, 1) := by decide +kernel
theorem dX0_gatherPushes_137 : decode cX0_gatherPushes 137 = .ok (.aload_n 1, 1) := by decide +kernel
theorem dX0_gatherPushes_138 : decode cX0_gatherPushes 138 = .ok (.getfield 91, 3) := by decide +kernel
theorem dX0_gatherPushes_141 : decode cX0_gatherPushes 141 = .ok (.iload_n 2, 1) := by decide +kernel
theorem dX0_gatherPushes_142 : decode cX0_gatherPushes 142 = .ok (.iaload, 1) := by decide +kernel
theorem dX0_gatherPushes_143 : decode cX0_gatherPushes 143 = .ok (.invokestatic 94, 3) := by decide +kernel
theorem dX0_gatherPushes_146 : decode cX0_gatherPushes 146 = .ok (.i2l, 1) := by decide +kernel
theorem dX0_gatherPushes_147 : decode cX0_gatherPushes 147 = .ok (.lsub, 1) := by decide +kernel
theorem dX0_gatherPushes_148 : decode cX0_gatherPushes 148 = .ok (.lastore, 1) := by decide +kernel
theorem dX0_gatherPushes_149 : decode cX0_gatherPushes 149 = .ok (.iinc 2 1, 3) := by decide +kernel
theorem dX0_gatherPushes_152 : decode cX0_gatherPushes 152 = .ok (.goto (-56), 3) := by decide +kernel
theorem dX0_gatherPushes_155 : decode cX0_gatherPushes 155 = .ok (.aload_n 0, 1) := by decide +kernel
theorem dX0_gatherPushes_156 : decode cX0_gatherPushes 156 = .ok (.getfield 25, 3) := by decide +kernel
theorem dX0_gatherPushes_159 : decode cX0_gatherPushes 159 = .ok (.iconst 1, 1) := by decide +kernel
theorem dX0_gatherPushes_160 : decode cX0_gatherPushes 160 = .ok (.isub, 1) := by decide +kernel
theorem dX0_gatherPushes_161 : decode cX0_gatherPushes 161 = .ok (.istore_n 2, 1) := by decide +kernel
theorem dX0_gatherPushes_162 : decode cX0_gatherPushes 162 = .ok (.aload_n 0, 1) := by decide +kernel
theorem dX0_gatherPushes_163 : decode cX0_gatherPushes 163 = .ok (.getfield 18, 3) := by decide +kernel
theorem dX0_gatherPushes_166 : decode cX0_gatherPushes 166 = .ok (.iload_n 2, 1) := by decide +kernel
theorem dX0_gatherPushes_167 : decode cX0_gatherPushes 167 = .ok (.dup2, 1) := by decide +kernel
theorem dX0_gatherPushes_168 : decode cX0_gatherPushes 168 = .ok (.laload, 1) := by decide +kernel
theorem dX0_gatherPushes_169 : decode cX0_gatherPushes 169 = .ok (.aload_n 1, 1) := by decide +kernel
theorem dX0_gatherPushes_170 : decode cX0_gatherPushes 170 = .ok (.getfield 98, 3) := by decide +kernel
theorem dX0_gatherPushes_173 : decode cX0_gatherPushes 173 = .ok (.i2l, 1) := by decide +kernel
theorem dX0_gatherPushes_174 : decode cX0_gatherPushes 174 = .ok (.aload_n 0, 1) := by decide +kernel
theorem dX0_gatherPushes_175 : decode cX0_gatherPushes 175 = .ok (.getfield 11, 3) := by decide +kernel
theorem dX0_gatherPushes_178 : decode cX0_gatherPushes 178 = .ok (.iload_n 2, 1) := by decide +kernel
theorem dX0_gatherPushes_179 : decode cX0_gatherPushes 179 = .ok (.iaload, 1) := by decide +kernel
theorem dX0_gatherPushes_180 : decode cX0_gatherPushes 180 = .ok (.i2l, 1) := by decide +kernel
theorem dX0_gatherPushes_181 : decode cX0_gatherPushes 181 = .ok (.lmul, 1) := by decide +kernel
theorem dX0_gatherPushes_182 : decode cX0_gatherPushes 182 = .ok (.ldc2_w 86, 3) := by decide +kernel
theorem dX0_gatherPushes_185 : decode cX0_gatherPushes 185 = .ok (.ldiv, 1) := by decide +kernel
theorem dX0_gatherPushes_186 : decode cX0_gatherPushes 186 = .ok (.iconst 0, 1) := by decide +kernel
theorem dX0_gatherPushes_187 : decode cX0_gatherPushes 187 = .ok (.aload_n 1, 1) := by decide +kernel
theorem dX0_gatherPushes_188 : decode cX0_gatherPushes 188 = .ok (.getfield 101, 3) := by decide +kernel
theorem dX0_gatherPushes_191 : decode cX0_gatherPushes 191 = .ok (.invokestatic 94, 3) := by decide +kernel
theorem dX0_gatherPushes_194 : decode cX0_gatherPushes 194 = .ok (.i2l, 1) := by decide +kernel
theorem dX0_gatherPushes_195 : decode cX0_gatherPushes 195 = .ok (.lsub, 1) := by decide +kernel
theorem dX0_gatherPushes_196 : decode cX0_gatherPushes 196 = .ok (.lastore, 1) := by decide +kernel
theorem dX0_gatherPushes_197 : decode cX0_gatherPushes 197 = .ok (.return_, 1) := by decide +kernel
theorem dX0_press_0 : decode cX0_press 0 = .ok (.aload_n 0, 1) := by decide +kernel
theorem dX0_press_1 : decode cX0_press 1 = .ok (.getfield 18, 3) := by decide +kernel
theorem dX0_press_4 : decode cX0_press 4 = .ok (.iload_n 1, 1) := by decide +kernel
theorem dX0_press_5 : decode cX0_press 5 = .ok (.dup2, 1) := by decide +kernel
theorem dX0_press_6 : decode cX0_press 6 = .ok (.laload, 1) := by decide +kernel
theorem dX0_press_7 : decode cX0_press 7 = .ok (.lload_n 3, 1) := by decide +kernel
theorem dX0_press_8 : decode cX0_press 8 = .ok (.lsub, 1) := by decide +kernel
theorem dX0_press_9 : decode cX0_press 9 = .ok (.lastore, 1) := by decide +kernel
theorem dX0_press_10 : decode cX0_press 10 = .ok (.aload_n 0, 1) := by decide +kernel
theorem dX0_press_11 : decode cX0_press 11 = .ok (.getfield 18, 3) := by decide +kernel
theorem dX0_press_14 : decode cX0_press 14 = .ok (.iload_n 2, 1) := by decide +kernel
theorem dX0_press_15 : decode cX0_press 15 = .ok (.dup2, 1) := by decide +kernel
theorem dX0_press_16 : decode cX0_press 16 = .ok (.laload, 1) := by decide +kernel
theorem dX0_press_17 : decode cX0_press 17 = .ok (.lload_n 3, 1) := by decide +kernel
theorem dX0_press_18 : decode cX0_press 18 = .ok (.ladd, 1) := by decide +kernel
theorem dX0_press_19 : decode cX0_press 19 = .ok (.lastore, 1) := by decide +kernel
theorem dX0_press_20 : decode cX0_press 20 = .ok (.return_, 1) := by decide +kernel
set_option maxRecDepth 20000 in
theorem ggX0_move_X3_clamp : GoodIn wsX0_move wsX3_clamp := goodIn_r _ [9] (by decide +kernel) (by decide +kernel)
set_option maxRecDepth 20000 in
theorem gX0_move_X3_clamp_n94 : GoodIn wsX0_move (wsX3_clamp) := ggX0_move_X3_clamp
theorem dX0_move_0 : decode cX0_move 0 = .ok (.iload_n 2, 1) := by decide +kernel
theorem dX0_move_1 : decode cX0_move 1 = .ok (.ifCond .ne 7, 3) := by decide +kernel
theorem dX0_move_4 : decode cX0_move 4 = .ok (.lconst 0, 1) := by decide +kernel
theorem dX0_move_5 : decode cX0_move 5 = .ok (.goto 16, 3) := by decide +kernel
theorem dX0_move_8 : decode cX0_move 8 = .ok (.ldc2_w 86, 3) := by decide +kernel
theorem dX0_move_11 : decode cX0_move 11 = .ok (.aload_n 0, 1) := by decide +kernel
theorem dX0_move_12 : decode cX0_move 12 = .ok (.getfield 18, 3) := by decide +kernel
theorem dX0_move_15 : decode cX0_move 15 = .ok (.iload_n 1, 1) := by decide +kernel
theorem dX0_move_16 : decode cX0_move 16 = .ok (.laload, 1) := by decide +kernel
theorem dX0_move_17 : decode cX0_move 17 = .ok (.lmul, 1) := by decide +kernel
theorem dX0_move_18 : decode cX0_move 18 = .ok (.iload_n 2, 1) := by decide +kernel
theorem dX0_move_19 : decode cX0_move 19 = .ok (.i2l, 1) := by decide +kernel
theorem dX0_move_20 : decode cX0_move 20 = .ok (.ldiv, 1) := by decide +kernel
theorem dX0_move_21 : decode cX0_move 21 = .ok (.lstore_n 3, 1) := by decide +kernel
theorem dX0_move_22 : decode cX0_move 22 = .ok (.aload_n 0, 1) := by decide +kernel
theorem dX0_move_23 : decode cX0_move 23 = .ok (.getfield 15, 3) := by decide +kernel
theorem dX0_move_26 : decode cX0_move 26 = .ok (.iload_n 1, 1) := by decide +kernel
theorem dX0_move_27 : decode cX0_move 27 = .ok (.aload_n 0, 1) := by decide +kernel
theorem dX0_move_28 : decode cX0_move 28 = .ok (.getfield 15, 3) := by decide +kernel
theorem dX0_move_31 : decode cX0_move 31 = .ok (.iload_n 1, 1) := by decide +kernel
theorem dX0_move_32 : decode cX0_move 32 = .ok (.iaload, 1) := by decide +kernel
theorem dX0_move_33 : decode cX0_move 33 = .ok (.i2l, 1) := by decide +kernel
theorem dX0_move_34 : decode cX0_move 34 = .ok (.lload_n 3, 1) := by decide +kernel
theorem dX0_move_35 : decode cX0_move 35 = .ok (.ladd, 1) := by decide +kernel
theorem dX0_move_36 : decode cX0_move 36 = .ok (.ldc 104, 2) := by decide +kernel
theorem dX0_move_38 : decode cX0_move 38 = .ok (.ldc 105, 2) := by decide +kernel
theorem dX0_move_40 : decode cX0_move 40 = .ok (.invokestatic 94, 3) := by decide +kernel
theorem dX0_move_43 : decode cX0_move 43 = .ok (.iastore, 1) := by decide +kernel
theorem dX0_move_44 : decode cX0_move 44 = .ok (.aload_n 0, 1) := by decide +kernel
theorem dX0_move_45 : decode cX0_move 45 = .ok (.getfield 11, 3) := by decide +kernel
theorem dX0_move_48 : decode cX0_move 48 = .ok (.iload_n 1, 1) := by decide +kernel
theorem dX0_move_49 : decode cX0_move 49 = .ok (.dup2, 1) := by decide +kernel
theorem dX0_move_50 : decode cX0_move 50 = .ok (.iaload, 1) := by decide +kernel
theorem dX0_move_51 : decode cX0_move 51 = .ok (.aload_n 0, 1) := by decide +kernel
theorem dX0_move_52 : decode cX0_move 52 = .ok (.getfield 15, 3) := by decide +kernel
theorem dX0_move_55 : decode cX0_move 55 = .ok (.iload_n 1, 1) := by decide +kernel
theorem dX0_move_56 : decode cX0_move 56 = .ok (.iaload, 1) := by decide +kernel
theorem dX0_move_57 : decode cX0_move 57 = .ok (.sipush 1000, 3) := by decide +kernel
theorem dX0_move_60 : decode cX0_move 60 = .ok (.idiv, 1) := by decide +kernel
theorem dX0_move_61 : decode cX0_move 61 = .ok (.iadd, 1) := by decide +kernel
theorem dX0_move_62 : decode cX0_move 62 = .ok (.iastore, 1) := by decide +kernel
theorem dX0_move_63 : decode cX0_move 63 = .ok (.return_, 1) := by decide +kernel
theorem dX1_init_0 : decode cX1_init 0 = .ok (.aload_n 0, 1) := by decide +kernel
theorem dX1_init_1 : decode cX1_init 1 = .ok (.invokespecial 1, 3) := by decide +kernel
theorem dX1_init_4 : decode cX1_init 4 = .ok (.aload_n 0, 1) := by decide +kernel
theorem dX1_init_5 : decode cX1_init 5 = .ok (.iload_n 2, 1) := by decide +kernel
theorem dX1_init_6 : decode cX1_init 6 = .ok (.putfield 7, 3) := by decide +kernel
theorem dX1_init_9 : decode cX1_init 9 = .ok (.aload_n 0, 1) := by decide +kernel
theorem dX1_init_10 : decode cX1_init 10 = .ok (.iload_n 3, 1) := by decide +kernel
theorem dX1_init_11 : decode cX1_init 11 = .ok (.putfield 13, 3) := by decide +kernel
theorem dX1_init_14 : decode cX1_init 14 = .ok (.aload_n 0, 1) := by decide +kernel
theorem dX1_init_15 : decode cX1_init 15 = .ok (.iload 4, 2) := by decide +kernel
theorem dX1_init_17 : decode cX1_init 17 = .ok (.putfield 16, 3) := by decide +kernel
theorem dX1_init_20 : decode cX1_init 20 = .ok (.aload_n 0, 1) := by decide +kernel
theorem dX1_init_21 : decode cX1_init 21 = .ok (.iload_n 1, 1) := by decide +kernel
theorem dX1_init_22 : decode cX1_init 22 = .ok (.newarray .int, 2) := by decide +kernel
theorem dX1_init_24 : decode cX1_init 24 = .ok (.putfield 19, 3) := by decide +kernel
theorem dX1_init_27 : decode cX1_init 27 = .ok (.aload_n 0, 1) := by decide +kernel
theorem dX1_init_28 : decode cX1_init 28 = .ok (.iload_n 1, 1) := by decide +kernel
theorem dX1_init_29 : decode cX1_init 29 = .ok (.newarray .int, 2) := by decide +kernel
theorem dX1_init_31 : decode cX1_init 31 = .ok (.putfield 23, 3) := by decide +kernel
theorem dX1_init_34 : decode cX1_init 34 = .ok (.aload_n 0, 1) := by decide +kernel
theorem dX1_init_35 : decode cX1_init 35 = .ok (.iload_n 1, 1) := by decide +kernel
theorem dX1_init_36 : decode cX1_init 36 = .ok (.newarray .int, 2) := by decide +kernel
theorem dX1_init_38 : decode cX1_init 38 = .ok (.putfield 26, 3) := by decide +kernel
theorem dX1_init_41 : decode cX1_init 41 = .ok (.return_, 1) := by decide +kernel
theorem dX1_pieces_0 : decode cX1_pieces 0 = .ok (.aload_n 0, 1) := by decide +kernel
theorem dX1_pieces_1 : decode cX1_pieces 1 = .ok (.getfield 19, 3) := by decide +kernel
theorem dX1_pieces_4 : decode cX1_pieces 4 = .ok (.arraylength, 1) := by decide +kernel
theorem dX1_pieces_5 : decode cX1_pieces 5 = .ok (.ireturn, 1) := by decide +kernel
theorem dX1_quake_0 : decode cX1_quake 0 = .ok (.aload_n 0, 1) := by decide +kernel
theorem dX1_quake_1 : decode cX1_quake 1 = .ok (.getfield 29, 3) := by decide +kernel
theorem dX1_quake_4 : decode cX1_quake 4 = .ok (.ifCond .ne 7, 3) := by decide +kernel
theorem dX1_quake_7 : decode cX1_quake 7 = .ok (.lconst 0, 1) := by decide +kernel
theorem dX1_quake_8 : decode cX1_quake 8 = .ok (.goto 18, 3) := by decide +kernel
theorem dX1_quake_11 : decode cX1_quake 11 = .ok (.ldc2_w 32, 3) := by decide +kernel
theorem dX1_quake_14 : decode cX1_quake 14 = .ok (.aload_n 0, 1) := by decide +kernel
theorem dX1_quake_15 : decode cX1_quake 15 = .ok (.getfield 34, 3) := by decide +kernel
theorem dX1_quake_18 : decode cX1_quake 18 = .ok (.i2l, 1) := by decide +kernel
theorem dX1_quake_19 : decode cX1_quake 19 = .ok (.lmul, 1) := by decide +kernel
theorem dX1_quake_20 : decode cX1_quake 20 = .ok (.aload_n 0, 1) := by decide +kernel
theorem dX1_quake_21 : decode cX1_quake 21 = .ok (.getfield 29, 3) := by decide +kernel
theorem dX1_quake_24 : decode cX1_quake 24 = .ok (.i2l, 1) := by decide +kernel
theorem dX1_quake_25 : decode cX1_quake 25 = .ok (.ldiv, 1) := by decide +kernel
theorem dX1_quake_26 : decode cX1_quake 26 = .ok (.lreturn, 1) := by decide +kernel
theorem dX2_init_0 : decode cX2_init 0 = .ok (.aload_n 0, 1) := by decide +kernel
theorem dX2_init_1 : decode cX2_init 1 = .ok (.invokespecial 3, 3) := by decide +kernel
theorem dX2_init_4 : decode cX2_init 4 = .ok (.return_, 1) := by decide +kernel
set_option maxRecDepth 20000 in
theorem ggX2_findUnder_X2_find : GoodIn wsX2_findUnder wsX2_find := goodIn_r _ [7, 8, 9, 1, 2, 10, 11, 12, 13, 14, 15, 6, 16, 17, 18, 19, 20, 21, 22, 23, 24, 25, 26, 27, 28, 29, 30, 31, 32, 33, 34, 35, 36, 37, 38, 39, 40, 41, 42, 43, 44, 45, 46, 47, 48, 49] (by decide +kernel) (by decide +kernel)
set_option maxRecDepth 20000 in
theorem gX2_findUnder_X2_find : GoodIn wsX2_findUnder (wsV RX2 9 RX2 yX2_find wsX2_find) := goodIn_app (goodIn_of _ (by decide +kernel)) ggX2_findUnder_X2_find
theorem dX2_findUnder_0 : decode cX2_findUnder 0 = .ok (.aload_n 0, 1) := by decide +kernel
theorem dX2_findUnder_1 : decode cX2_findUnder 1 = .ok (.aload_n 1, 1) := by decide +kernel
theorem dX2_findUnder_2 : decode cX2_findUnder 2 = .ok (.iload_n 2, 1) := by decide +kernel
theorem dX2_findUnder_3 : decode cX2_findUnder 3 = .ok (.iconst 1, 1) := by decide +kernel
theorem dX2_findUnder_4 : decode cX2_findUnder 4 = .ok (.invokevirtual 9, 3) := by decide +kernel
theorem dX2_findUnder_7 : decode cX2_findUnder 7 = .ok (.ifCond .eq 16, 3) := by decide +kernel
theorem dX2_findUnder_10 : decode cX2_findUnder 10 = .ok (.aload_n 0, 1) := by decide +kernel
theorem dX2_findUnder_11 : decode cX2_findUnder 11 = .ok (.getfield 15, 3) := by decide +kernel
theorem dX2_findUnder_14 : decode cX2_findUnder 14 = .ok (.ldc 19, 2) := by decide +kernel
theorem dX2_findUnder_16 : decode cX2_findUnder 16 = .ok (.if_icmp .ge 7, 3) := by decide +kernel
theorem dX2_findUnder_19 : decode cX2_findUnder 19 = .ok (.iconst 1, 1) := by decide +kernel
theorem dX2_findUnder_20 : decode cX2_findUnder 20 = .ok (.goto 4, 3) := by decide +kernel
theorem dX2_findUnder_23 : decode cX2_findUnder 23 = .ok (.iconst 0, 1) := by decide +kernel
theorem dX2_findUnder_24 : decode cX2_findUnder 24 = .ok (.ireturn, 1) := by decide +kernel
set_option maxRecDepth 20000 in
theorem ggX2_findAt_X2_find : GoodIn wsX2_findAt wsX2_find := goodIn_r _ [5, 6, 7, 8, 9, 10, 11, 12, 13, 14, 15, 4, 16, 17, 18, 19, 20, 21, 22, 23, 24, 25, 26, 27, 28, 29, 30, 31, 32, 33, 34, 35, 36, 37, 38, 39, 40, 41, 42, 43, 44, 45, 46, 47, 48, 49] (by decide +kernel) (by decide +kernel)
set_option maxRecDepth 20000 in
theorem gX2_findAt_X2_find : GoodIn wsX2_findAt (wsV RX2 9 RX2 yX2_find wsX2_find) := goodIn_app (goodIn_of _ (by decide +kernel)) ggX2_findAt_X2_find
theorem dX2_findAt_0 : decode cX2_findAt 0 = .ok (.aload_n 0, 1) := by decide +kernel
theorem dX2_findAt_1 : decode cX2_findAt 1 = .ok (.aload_n 1, 1) := by decide +kernel
theorem dX2_findAt_2 : decode cX2_findAt 2 = .ok (.iload_n 2, 1) := by decide +kernel
theorem dX2_findAt_3 : decode cX2_findAt 3 = .ok (.iconst 0, 1) := by decide +kernel
theorem dX2_findAt_4 : decode cX2_findAt 4 = .ok (.invokevirtual 9, 3) := by decide +kernel
theorem dX2_findAt_7 : decode cX2_findAt 7 = .ok (.ireturn, 1) := by decide +kernel
set_option maxRecDepth 20000 in
theorem ggX2_climb_X1_pieces : GoodIn wsX2_climb wsX1_pieces := goodIn_r _ [15, 16, 28, 29, 30, 31, 32, 33, 34, 35, 36] (by decide +kernel) (by decide +kernel)
set_option maxRecDepth 20000 in
theorem gX2_climb_X1_pieces : GoodIn wsX2_climb (wsV RX2 20 RX1 yX1_pieces wsX1_pieces) := goodIn_app (goodIn_of _ (by decide +kernel)) ggX2_climb_X1_pieces
set_option maxRecDepth 20000 in
theorem ggX2_climb_X3_clamp : GoodIn wsX2_climb wsX3_clamp := goodIn_r _ [19] (by decide +kernel) (by decide +kernel)
set_option maxRecDepth 20000 in
theorem gX2_climb_X3_clamp_n35 : GoodIn wsX2_climb (wsX3_clamp) := ggX2_climb_X3_clamp
set_option maxRecDepth 20000 in
theorem ggX2_climb_J9_floorDiv_7cf53 : GoodIn wsX2_climb wsJ9_floorDiv_7cf53 := goodIn_r _ [23] (by decide +kernel) (by decide +kernel)
set_option maxRecDepth 20000 in
theorem gX2_climb_J9_floorDiv_7cf53 : GoodIn wsX2_climb (va_wsS RX2 45 yJ9_floorDiv_7cf53 wsJ9_floorDiv_7cf53) := goodIn_app (goodIn_of _ (by decide +kernel)) ggX2_climb_J9_floorDiv_7cf53
theorem dX2_climb_0 : decode cX2_climb 0 = .ok (.aload_n 1, 1) := by decide +kernel
theorem dX2_climb_1 : decode cX2_climb 1 = .ok (.invokevirtual 20, 3) := by decide +kernel
theorem dX2_climb_4 : decode cX2_climb 4 = .ok (.iconst 1, 1) := by decide +kernel
theorem dX2_climb_5 : decode cX2_climb 5 = .ok (.isub, 1) := by decide +kernel
theorem dX2_climb_6 : decode cX2_climb 6 = .ok (.istore_n 3, 1) := by decide +kernel
theorem dX2_climb_7 : decode cX2_climb 7 = .ok (.aload_n 0, 1) := by decide +kernel
theorem dX2_climb_8 : decode cX2_climb 8 = .ok (.aload_n 0, 1) := by decide +kernel
theorem dX2_climb_9 : decode cX2_climb 9 = .ok (.getfield 15, 3) := by decide +kernel
theorem dX2_climb_12 : decode cX2_climb 12 = .ok (.putfield 26, 3) := by decide +kernel
theorem dX2_climb_15 : decode cX2_climb 15 = .ok (.aload_n 0, 1) := by decide +kernel
theorem dX2_climb_16 : decode cX2_climb 16 = .ok (.aload_n 1, 1) := by decide +kernel
theorem dX2_climb_17 : decode cX2_climb 17 = .ok (.getfield 29, 3) := by decide +kernel
theorem dX2_climb_20 : decode cX2_climb 20 = .ok (.i2l, 1) := by decide +kernel
theorem dX2_climb_21 : decode cX2_climb 21 = .ok (.aload_n 0, 1) := by decide +kernel
theorem dX2_climb_22 : decode cX2_climb 22 = .ok (.getfield 15, 3) := by decide +kernel
theorem dX2_climb_25 : decode cX2_climb 25 = .ok (.i2l, 1) := by decide +kernel
theorem dX2_climb_26 : decode cX2_climb 26 = .ok (.lmul, 1) := by decide +kernel
theorem dX2_climb_27 : decode cX2_climb 27 = .ok (.iconst 0, 1) := by decide +kernel
theorem dX2_climb_28 : decode cX2_climb 28 = .ok (.aload_n 1, 1) := by decide +kernel
theorem dX2_climb_29 : decode cX2_climb 29 = .ok (.getfield 32, 3) := by decide +kernel
theorem dX2_climb_32 : decode cX2_climb 32 = .ok (.invokestatic 35, 3) := by decide +kernel
theorem dX2_climb_35 : decode cX2_climb 35 = .ok (.putfield 39, 3) := by decide +kernel
theorem dX2_climb_38 : decode cX2_climb 38 = .ok (.iload_n 3, 1) := by decide +kernel
theorem dX2_climb_39 : decode cX2_climb 39 = .ok (.istore 4, 2) := by decide +kernel
theorem dX2_climb_41 : decode cX2_climb 41 = .ok (.iload 4, 2) := by decide +kernel
theorem dX2_climb_43 : decode cX2_climb 43 = .ok (.iload_n 2, 1) := by decide +kernel
theorem dX2_climb_44 : decode cX2_climb 44 = .ok (.if_icmp .lt 108, 3) := by decide +kernel
theorem dX2_climb_47 : decode cX2_climb 47 = .ok (.iload 4, 2) := by decide +kernel
theorem dX2_climb_49 : decode cX2_climb 49 = .ok (.ifCond .lt 103, 3) := by decide +kernel
theorem dX2_climb_52 : decode cX2_climb 52 = .ok (.iload 4, 2) := by decide +kernel
theorem dX2_climb_54 : decode cX2_climb 54 = .ok (.iload_n 3, 1) := by decide +kernel
theorem dX2_climb_55 : decode cX2_climb 55 = .ok (.if_icmp .ge 30, 3) := by decide +kernel
theorem dX2_climb_58 : decode cX2_climb 58 = .ok (.aload_n 1, 1) := by decide +kernel
theorem dX2_climb_59 : decode cX2_climb 59 = .ok (.getfield 42, 3) := by decide +kernel
theorem dX2_climb_62 : decode cX2_climb 62 = .ok (.ifCond .le 23, 3) := by decide +kernel
theorem dX2_climb_65 : decode cX2_climb 65 = .ok (.aload_n 0, 1) := by decide +kernel
theorem dX2_climb_66 : decode cX2_climb 66 = .ok (.dup, 1) := by decide +kernel
theorem dX2_climb_67 : decode cX2_climb 67 = .ok (.getfield 26, 3) := by decide +kernel
theorem dX2_climb_70 : decode cX2_climb 70 = .ok (.aload_n 0, 1) := by decide +kernel
theorem dX2_climb_71 : decode cX2_climb 71 = .ok (.getfield 39, 3) := by decide +kernel
theorem dX2_climb_74 : decode cX2_climb 74 = .ok (.aload_n 1, 1) := by decide +kernel
theorem dX2_climb_75 : decode cX2_climb 75 = .ok (.getfield 42, 3) := by decide +kernel
theorem dX2_climb_78 : decode cX2_climb 78 = .ok (.invokestatic 45, 3) := by decide +kernel
theorem dX2_climb_81 : decode cX2_climb 81 = .ok (.iadd, 1) := by decide +kernel
theorem dX2_climb_82 : decode cX2_climb 82 = .ok (.putfield 26, 3) := by decide +kernel
theorem dX2_climb_85 : decode cX2_climb 85 = .ok (.aload_n 1, 1) := by decide +kernel
theorem dX2_climb_86 : decode cX2_climb 86 = .ok (.getfield 51, 3) := by decide +kernel
theorem dX2_climb_89 : decode cX2_climb 89 = .ok (.iload 4, 2) := by decide +kernel
theorem dX2_climb_91 : decode cX2_climb 91 = .ok (.iaload, 1) := by decide +kernel
theorem dX2_climb_92 : decode cX2_climb 92 = .ok (.i2l, 1) := by decide +kernel
theorem dX2_climb_93 : decode cX2_climb 93 = .ok (.aload_n 0, 1) := by decide +kernel
theorem dX2_climb_94 : decode cX2_climb 94 = .ok (.getfield 26, 3) := by decide +kernel
theorem dX2_climb_97 : decode cX2_climb 97 = .ok (.aload_n 1, 1) := by decide +kernel
theorem dX2_climb_98 : decode cX2_climb 98 = .ok (.getfield 55, 3) := by decide +kernel
theorem dX2_climb_101 : decode cX2_climb 101 = .ok (.iload 4, 2) := by decide +kernel
theorem dX2_climb_103 : decode cX2_climb 103 = .ok (.iaload, 1) := by decide +kernel
theorem dX2_climb_104 : decode cX2_climb 104 = .ok (.isub, 1) := by decide +kernel
theorem dX2_climb_105 : decode cX2_climb 105 = .ok (.i2l, 1) := by decide +kernel
theorem dX2_climb_106 : decode cX2_climb 106 = .ok (.lmul, 1) := by decide +kernel
theorem dX2_climb_107 : decode cX2_climb 107 = .ok (.lstore 5, 2) := by decide +kernel
theorem dX2_climb_109 : decode cX2_climb 109 = .ok (.aload_n 0, 1) := by decide +kernel
theorem dX2_climb_110 : decode cX2_climb 110 = .ok (.lload 5, 2) := by decide +kernel
theorem dX2_climb_112 : decode cX2_climb 112 = .ok (.aload_n 1, 1) := by decide +kernel
theorem dX2_climb_113 : decode cX2_climb 113 = .ok (.getfield 58, 3) := by decide +kernel
theorem dX2_climb_116 : decode cX2_climb 116 = .ok (.iload 4, 2) := by decide +kernel
theorem dX2_climb_118 : decode cX2_climb 118 = .ok (.iaload, 1) := by decide +kernel
theorem dX2_climb_119 : decode cX2_climb 119 = .ok (.ineg, 1) := by decide +kernel
theorem dX2_climb_120 : decode cX2_climb 120 = .ok (.aload_n 1, 1) := by decide +kernel
theorem dX2_climb_121 : decode cX2_climb 121 = .ok (.getfield 58, 3) := by decide +kernel
theorem dX2_climb_124 : decode cX2_climb 124 = .ok (.iload 4, 2) := by decide +kernel
theorem dX2_climb_126 : decode cX2_climb 126 = .ok (.iaload, 1) := by decide +kernel
theorem dX2_climb_127 : decode cX2_climb 127 = .ok (.invokestatic 35, 3) := by decide +kernel
theorem dX2_climb_130 : decode cX2_climb 130 = .ok (.putfield 61, 3) := by decide +kernel
theorem dX2_climb_133 : decode cX2_climb 133 = .ok (.aload_n 0, 1) := by decide +kernel
theorem dX2_climb_134 : decode cX2_climb 134 = .ok (.dup, 1) := by decide +kernel
theorem dX2_climb_135 : decode cX2_climb 135 = .ok (.getfield 39, 3) := by decide +kernel
theorem dX2_climb_138 : decode cX2_climb 138 = .ok (.aload_n 0, 1) := by decide +kernel
theorem dX2_climb_139 : decode cX2_climb 139 = .ok (.getfield 61, 3) := by decide +kernel
theorem dX2_climb_142 : decode cX2_climb 142 = .ok (.iadd, 1) := by decide +kernel
theorem dX2_climb_143 : decode cX2_climb 143 = .ok (.putfield 39, 3) := by decide +kernel
theorem dX2_climb_146 : decode cX2_climb 146 = .ok (.iinc 4 (-1), 3) := by decide +kernel
theorem dX2_climb_149 : decode cX2_climb 149 = .ok (.goto (-108), 3) := by decide +kernel
theorem dX2_climb_152 : decode cX2_climb 152 = .ok (.return_, 1) := by decide +kernel
set_option maxRecDepth 20000 in
theorem ggX2_find_X2_climb : GoodIn wsX2_find wsX2_climb := goodIn_r _ [12, 3, 6, 13, 14, 5, 15, 16, 17, 18, 19, 20, 21, 22, 23, 24, 25, 26, 27, 28, 29, 30, 31, 32, 33, 34, 35, 36, 37, 38, 39, 40, 41, 42, 43, 44, 45] (by decide +kernel) (by decide +kernel)
set_option maxRecDepth 20000 in
theorem gX2_find_X2_climb : GoodIn wsX2_find (wsV RX2 66 RX2 yX2_climb wsX2_climb) := goodIn_app (goodIn_of _ (by decide +kernel)) ggX2_find_X2_climb
theorem dX2_find_0 : decode cX2_find 0 = .ok (.ldc 64, 2) := by decide +kernel
theorem dX2_find_2 : decode cX2_find 2 = .ok (.istore 4, 2) := by decide +kernel
theorem dX2_find_4 : decode cX2_find 4 = .ok (.ldc 65, 2) := by decide +kernel
theorem dX2_find_6 : decode cX2_find 6 = .ok (.istore 5, 2) := by decide +kernel
theorem dX2_find_8 : decode cX2_find 8 = .ok (.iload 5, 2) := by decide +kernel
theorem dX2_find_10 : decode cX2_find 10 = .ok (.ifCond .le 64, 3) := by decide +kernel
theorem dX2_find_13 : decode cX2_find 13 = .ok (.aload_n 0, 1) := by decide +kernel
theorem dX2_find_14 : decode cX2_find 14 = .ok (.iload 4, 2) := by decide +kernel
theorem dX2_find_16 : decode cX2_find 16 = .ok (.iload 5, 2) := by decide +kernel
theorem dX2_find_18 : decode cX2_find 18 = .ok (.iadd, 1) := by decide +kernel
theorem dX2_find_19 : decode cX2_find 19 = .ok (.putfield 15, 3) := by decide +kernel
theorem dX2_find_22 : decode cX2_find 22 = .ok (.aload_n 0, 1) := by decide +kernel
theorem dX2_find_23 : decode cX2_find 23 = .ok (.getfield 15, 3) := by decide +kernel
theorem dX2_find_26 : decode cX2_find 26 = .ok (.ldc 19, 2) := by decide +kernel
theorem dX2_find_28 : decode cX2_find 28 = .ok (.if_icmp .le 6, 3) := by decide +kernel
theorem dX2_find_31 : decode cX2_find 31 = .ok (.goto 34, 3) := by decide +kernel
theorem dX2_find_34 : decode cX2_find 34 = .ok (.aload_n 0, 1) := by decide +kernel
theorem dX2_find_35 : decode cX2_find 35 = .ok (.aload_n 1, 1) := by decide +kernel
theorem dX2_find_36 : decode cX2_find 36 = .ok (.iconst 0, 1) := by decide +kernel
theorem dX2_find_37 : decode cX2_find 37 = .ok (.invokevirtual 66, 3) := by decide +kernel
theorem dX2_find_40 : decode cX2_find 40 = .ok (.iload_n 3, 1) := by decide +kernel
theorem dX2_find_41 : decode cX2_find 41 = .ok (.ifCond .eq 10, 3) := by decide +kernel
theorem dX2_find_44 : decode cX2_find 44 = .ok (.aload_n 0, 1) := by decide +kernel
theorem dX2_find_45 : decode cX2_find 45 = .ok (.getfield 39, 3) := by decide +kernel
theorem dX2_find_48 : decode cX2_find 48 = .ok (.goto 7, 3) := by decide +kernel
theorem dX2_find_51 : decode cX2_find 51 = .ok (.aload_n 0, 1) := by decide +kernel
theorem dX2_find_52 : decode cX2_find 52 = .ok (.getfield 26, 3) := by decide +kernel
theorem dX2_find_55 : decode cX2_find 55 = .ok (.iload_n 2, 1) := by decide +kernel
theorem dX2_find_56 : decode cX2_find 56 = .ok (.if_icmp .gt 9, 3) := by decide +kernel
theorem dX2_find_59 : decode cX2_find 59 = .ok (.aload_n 0, 1) := by decide +kernel
theorem dX2_find_60 : decode cX2_find 60 = .ok (.getfield 15, 3) := by decide +kernel
theorem dX2_find_63 : decode cX2_find 63 = .ok (.istore 4, 2) := by decide +kernel
theorem dX2_find_65 : decode cX2_find 65 = .ok (.iload 5, 2) := by decide +kernel
theorem dX2_find_67 : decode cX2_find 67 = .ok (.iconst 2, 1) := by decide +kernel
theorem dX2_find_68 : decode cX2_find 68 = .ok (.idiv, 1) := by decide +kernel
theorem dX2_find_69 : decode cX2_find 69 = .ok (.istore 5, 2) := by decide +kernel
theorem dX2_find_71 : decode cX2_find 71 = .ok (.goto (-63), 3) := by decide +kernel
theorem dX2_find_74 : decode cX2_find 74 = .ok (.aload_n 0, 1) := by decide +kernel
theorem dX2_find_75 : decode cX2_find 75 = .ok (.iload 4, 2) := by decide +kernel
theorem dX2_find_77 : decode cX2_find 77 = .ok (.putfield 15, 3) := by decide +kernel
theorem dX2_find_80 : decode cX2_find 80 = .ok (.aload_n 0, 1) := by decide +kernel
theorem dX2_find_81 : decode cX2_find 81 = .ok (.aload_n 1, 1) := by decide +kernel
theorem dX2_find_82 : decode cX2_find 82 = .ok (.iconst 0, 1) := by decide +kernel
theorem dX2_find_83 : decode cX2_find 83 = .ok (.invokevirtual 66, 3) := by decide +kernel
theorem dX2_find_86 : decode cX2_find 86 = .ok (.iload 4, 2) := by decide +kernel
theorem dX2_find_88 : decode cX2_find 88 = .ok (.ldc 70, 2) := by decide +kernel
theorem dX2_find_90 : decode cX2_find 90 = .ok (.if_icmp .lt 7, 3) := by decide +kernel
theorem dX2_find_93 : decode cX2_find 93 = .ok (.iconst 1, 1) := by decide +kernel
theorem dX2_find_94 : decode cX2_find 94 = .ok (.goto 4, 3) := by decide +kernel
theorem dX2_find_97 : decode cX2_find 97 = .ok (.iconst 0, 1) := by decide +kernel
theorem dX2_find_98 : decode cX2_find 98 = .ok (.ireturn, 1) := by decide +kernel
set_option maxRecDepth 20000 in
theorem ggX3_init_X2_init : GoodIn wsX3_init wsX2_init := goodIn_r _ [16, 17, 2, 3] (by decide +kernel) (by decide +kernel)
set_option maxRecDepth 20000 in
theorem gX3_init_X2_init_n17 : GoodIn wsX3_init (wsX2_init) := ggX3_init_X2_init
set_option maxRecDepth 20000 in
theorem ggX3_init_X0_init : GoodIn wsX3_init wsX0_init := goodIn_r _ [20, 21, 2, 3, 22, 23, 24, 25, 26, 27, 36, 37, 38, 39, 40, 41] (by decide +kernel) (by decide +kernel)
set_option maxRecDepth 20000 in
theorem gX3_init_X0_init : GoodIn wsX3_init (wsX0_init) := ggX3_init_X0_init
theorem dX3_init_0 : decode cX3_init 0 = .ok (.aload_n 0, 1) := by decide +kernel
theorem dX3_init_1 : decode cX3_init 1 = .ok (.invokespecial 1, 3) := by decide +kernel
theorem dX3_init_4 : decode cX3_init 4 = .ok (.aload_n 0, 1) := by decide +kernel
theorem dX3_init_5 : decode cX3_init 5 = .ok (.bipush 6, 2) := by decide +kernel
theorem dX3_init_7 : decode cX3_init 7 = .ok (.anewarray 9, 3) := by decide +kernel
theorem dX3_init_10 : decode cX3_init 10 = .ok (.putfield 11, 3) := by decide +kernel
theorem dX3_init_13 : decode cX3_init 13 = .ok (.aload_n 0, 1) := by decide +kernel
theorem dX3_init_14 : decode cX3_init 14 = .ok (.new 15, 3) := by decide +kernel
theorem dX3_init_17 : decode cX3_init 17 = .ok (.dup, 1) := by decide +kernel
theorem dX3_init_18 : decode cX3_init 18 = .ok (.invokespecial 17, 3) := by decide +kernel
theorem dX3_init_21 : decode cX3_init 21 = .ok (.putfield 18, 3) := by decide +kernel
theorem dX3_init_24 : decode cX3_init 24 = .ok (.aload_n 0, 1) := by decide +kernel
theorem dX3_init_25 : decode cX3_init 25 = .ok (.new 22, 3) := by decide +kernel
theorem dX3_init_28 : decode cX3_init 28 = .ok (.dup, 1) := by decide +kernel
theorem dX3_init_29 : decode cX3_init 29 = .ok (.invokespecial 24, 3) := by decide +kernel
theorem dX3_init_32 : decode cX3_init 32 = .ok (.putfield 25, 3) := by decide +kernel
theorem dX3_init_35 : decode cX3_init 35 = .ok (.aload_n 0, 1) := by decide +kernel
theorem dX3_init_36 : decode cX3_init 36 = .ok (.iconst 0, 1) := by decide +kernel
theorem dX3_init_37 : decode cX3_init 37 = .ok (.putfield 29, 3) := by decide +kernel
theorem dX3_init_40 : decode cX3_init 40 = .ok (.return_, 1) := by decide +kernel
set_option maxRecDepth 20000 in
theorem ggX3_pile_X3_checkWithin : GoodIn wsX3_pile wsX3_checkWithin := goodIn_ca (goodIn_r _ [12, 13, 14] (by decide +kernel) (by decide +kernel)) (goodIn_sub (fun _ h => List.mem_cons_of_mem _ (List.mem_append_right _ h)) (by decide +kernel))
set_option maxRecDepth 20000 in
theorem gX3_pile_X3_checkWithin : GoodIn wsX3_pile (va_wsS RX3 33 yX3_checkWithin wsX3_checkWithin) := goodIn_app (goodIn_of _ (by decide +kernel)) ggX3_pile_X3_checkWithin
set_option maxRecDepth 20000 in
theorem ggX3_pile_X1_init : GoodIn wsX3_pile wsX1_init := goodIn_r _ [17, 18, 19, 20, 21, 22, 23, 24, 25, 26, 27, 32, 33, 34, 35, 36, 37, 38, 39, 40] (by decide +kernel) (by decide +kernel)
set_option maxRecDepth 20000 in
theorem gX3_pile_X1_init : GoodIn wsX3_pile (wsX1_init) := ggX3_pile_X1_init
theorem dX3_pile_0 : decode cX3_pile 0 = .ok (.iload_n 1, 1) := by decide +kernel
theorem dX3_pile_1 : decode cX3_pile 1 = .ok (.iconst 1, 1) := by decide +kernel
theorem dX3_pile_2 : decode cX3_pile 2 = .ok (.bipush 12, 2) := by decide +kernel
theorem dX3_pile_4 : decode cX3_pile 4 = .ok (.invokestatic 33, 3) := by decide +kernel
theorem dX3_pile_7 : decode cX3_pile 7 = .ok (.iload_n 2, 1) := by decide +kernel
theorem dX3_pile_8 : decode cX3_pile 8 = .ok (.iconst 1, 1) := by decide +kernel
theorem dX3_pile_9 : decode cX3_pile 9 = .ok (.sipush 10000, 3) := by decide +kernel
theorem dX3_pile_12 : decode cX3_pile 12 = .ok (.invokestatic 33, 3) := by decide +kernel
theorem dX3_pile_15 : decode cX3_pile 15 = .ok (.iload_n 3, 1) := by decide +kernel
theorem dX3_pile_16 : decode cX3_pile 16 = .ok (.iconst 1, 1) := by decide +kernel
theorem dX3_pile_17 : decode cX3_pile 17 = .ok (.sipush 1000, 3) := by decide +kernel
theorem dX3_pile_20 : decode cX3_pile 20 = .ok (.invokestatic 33, 3) := by decide +kernel
theorem dX3_pile_23 : decode cX3_pile 23 = .ok (.iload 4, 2) := by decide +kernel
theorem dX3_pile_25 : decode cX3_pile 25 = .ok (.iconst 0, 1) := by decide +kernel
theorem dX3_pile_26 : decode cX3_pile 26 = .ok (.ldc 37, 2) := by decide +kernel
theorem dX3_pile_28 : decode cX3_pile 28 = .ok (.invokestatic 33, 3) := by decide +kernel
theorem dX3_pile_31 : decode cX3_pile 31 = .ok (.aload_n 0, 1) := by decide +kernel
theorem dX3_pile_32 : decode cX3_pile 32 = .ok (.getfield 29, 3) := by decide +kernel
theorem dX3_pile_35 : decode cX3_pile 35 = .ok (.ifCond .lt 15, 3) := by decide +kernel
theorem dX3_pile_38 : decode cX3_pile 38 = .ok (.aload_n 0, 1) := by decide +kernel
theorem dX3_pile_39 : decode cX3_pile 39 = .ok (.getfield 29, 3) := by decide +kernel
theorem dX3_pile_42 : decode cX3_pile 42 = .ok (.aload_n 0, 1) := by decide +kernel
theorem dX3_pile_43 : decode cX3_pile 43 = .ok (.getfield 11, 3) := by decide +kernel
theorem dX3_pile_46 : decode cX3_pile 46 = .ok (.arraylength, 1) := by decide +kernel
theorem dX3_pile_47 : decode cX3_pile 47 = .ok (.if_icmp .lt 13, 3) := by decide +kernel
theorem dX3_pile_50 : decode cX3_pile 50 = .ok (.new 38, 3) := by decide +kernel
theorem dX3_pile_53 : decode cX3_pile 53 = .ok (.dup, 1) := by decide +kernel
theorem dX3_pile_54 : decode cX3_pile 54 = .ok (.ldc 40, 2) := by decide +kernel
theorem dX3_pile_56 : decode cX3_pile 56 = .ok (.invokespecial 42, 3) := by decide +kernel
theorem dX3_pile_59 : decode cX3_pile 59 = .ok (.athrow, 1) := by decide +kernel
theorem dX3_pile_60 : decode cX3_pile 60 = .ok (.aload_n 0, 1) := by decide +kernel
theorem dX3_pile_61 : decode cX3_pile 61 = .ok (.getfield 29, 3) := by decide +kernel
theorem dX3_pile_64 : decode cX3_pile 64 = .ok (.istore 5, 2) := by decide +kernel
theorem dX3_pile_66 : decode cX3_pile 66 = .ok (.aload_n 0, 1) := by decide +kernel
theorem dX3_pile_67 : decode cX3_pile 67 = .ok (.getfield 11, 3) := by decide +kernel
theorem dX3_pile_70 : decode cX3_pile 70 = .ok (.iload 5, 2) := by decide +kernel
theorem dX3_pile_72 : decode cX3_pile 72 = .ok (.new 9, 3) := by decide +kernel
theorem dX3_pile_75 : decode cX3_pile 75 = .ok (.dup, 1) := by decide +kernel
theorem dX3_pile_76 : decode cX3_pile 76 = .ok (.iload_n 1, 1) := by decide +kernel
theorem dX3_pile_77 : decode cX3_pile 77 = .ok (.iload_n 2, 1) := by decide +kernel
theorem dX3_pile_78 : decode cX3_pile 78 = .ok (.iload_n 3, 1) := by decide +kernel
theorem dX3_pile_79 : decode cX3_pile 79 = .ok (.iload 4, 2) := by decide +kernel
theorem dX3_pile_81 : decode cX3_pile 81 = .ok (.invokespecial 45, 3) := by decide +kernel
theorem dX3_pile_84 : decode cX3_pile 84 = .ok (.aastore, 1) := by decide +kernel
theorem dX3_pile_85 : decode cX3_pile 85 = .ok (.aload_n 0, 1) := by decide +kernel
theorem dX3_pile_86 : decode cX3_pile 86 = .ok (.dup, 1) := by decide +kernel
theorem dX3_pile_87 : decode cX3_pile 87 = .ok (.getfield 29, 3) := by decide +kernel
theorem dX3_pile_90 : decode cX3_pile 90 = .ok (.iconst 1, 1) := by decide +kernel
theorem dX3_pile_91 : decode cX3_pile 91 = .ok (.iadd, 1) := by decide +kernel
theorem dX3_pile_92 : decode cX3_pile 92 = .ok (.putfield 29, 3) := by decide +kernel
theorem dX3_pile_95 : decode cX3_pile 95 = .ok (.iload 5, 2) := by decide +kernel
theorem dX3_pile_97 : decode cX3_pile 97 = .ok (.ireturn, 1) := by decide +kernel
set_option maxRecDepth 20000 in
theorem ggX3_ground_X3_pileOf : GoodIn wsX3_ground wsX3_pileOf := goodIn_ca (goodIn_r _ [8, 9, 10, 11, 33, 34, 35, 36] (by decide +kernel) (by decide +kernel)) (goodIn_sub (fun _ h => List.mem_cons_of_mem _ (List.mem_append_right _ h)) (by decide +kernel))
set_option maxRecDepth 20000 in
theorem gX3_ground_X3_pileOf : GoodIn wsX3_ground (wsV RX3 48 RX3 yX3_pileOf wsX3_pileOf) := goodIn_app (goodIn_of _ (by decide +kernel)) ggX3_ground_X3_pileOf
set_option maxRecDepth 20000 in
theorem ggX3_ground_X3_checkPiece : GoodIn wsX3_ground wsX3_checkPiece := goodIn_ca (goodIn_r _ [14, 15, 16, 17, 18, 19, 20, 21, 22, 7, 23, 9, 10, 24, 25, 26, 27, 28, 29, 30, 31, 32] (by decide +kernel) (by decide +kernel)) (goodIn_sub (fun _ h => List.mem_cons_of_mem _ (List.mem_append_right _ h)) (by decide +kernel))
set_option maxRecDepth 20000 in
theorem gX3_ground_X3_checkPiece : GoodIn wsX3_ground (va_wsS RX3 52 yX3_checkPiece wsX3_checkPiece) := goodIn_app (goodIn_of _ (by decide +kernel)) ggX3_ground_X3_checkPiece
set_option maxRecDepth 20000 in
theorem ggX3_ground_X3_checkWithin : GoodIn wsX3_ground wsX3_checkWithin := goodIn_ca (goodIn_r _ [23, 9, 10] (by decide +kernel) (by decide +kernel)) (goodIn_sub (fun _ h => List.mem_cons_of_mem _ (List.mem_append_right _ h)) (by decide +kernel))
set_option maxRecDepth 20000 in
theorem gX3_ground_X3_checkWithin : GoodIn wsX3_ground (va_wsS RX3 33 yX3_checkWithin wsX3_checkWithin) := goodIn_app (goodIn_of _ (by decide +kernel)) ggX3_ground_X3_checkWithin
theorem dX3_ground_0 : decode cX3_ground 0 = .ok (.aload_n 0, 1) := by decide +kernel
theorem dX3_ground_1 : decode cX3_ground 1 = .ok (.iload_n 1, 1) := by decide +kernel
theorem dX3_ground_2 : decode cX3_ground 2 = .ok (.invokevirtual 48, 3) := by decide +kernel
theorem dX3_ground_5 : decode cX3_ground 5 = .ok (.astore 5, 2) := by decide +kernel
theorem dX3_ground_7 : decode cX3_ground 7 = .ok (.aload 5, 2) := by decide +kernel
theorem dX3_ground_9 : decode cX3_ground 9 = .ok (.iload_n 2, 1) := by decide +kernel
theorem dX3_ground_10 : decode cX3_ground 10 = .ok (.invokestatic 52, 3) := by decide +kernel
theorem dX3_ground_13 : decode cX3_ground 13 = .ok (.iload_n 3, 1) := by decide +kernel
theorem dX3_ground_14 : decode cX3_ground 14 = .ok (.iconst 0, 1) := by decide +kernel
theorem dX3_ground_15 : decode cX3_ground 15 = .ok (.sipush 1000, 3) := by decide +kernel
theorem dX3_ground_18 : decode cX3_ground 18 = .ok (.invokestatic 33, 3) := by decide +kernel
theorem dX3_ground_21 : decode cX3_ground 21 = .ok (.iload 4, 2) := by decide +kernel
theorem dX3_ground_23 : decode cX3_ground 23 = .ok (.iconst 0, 1) := by decide +kernel
theorem dX3_ground_24 : decode cX3_ground 24 = .ok (.ldc 37, 2) := by decide +kernel
theorem dX3_ground_26 : decode cX3_ground 26 = .ok (.invokestatic 33, 3) := by decide +kernel
theorem dX3_ground_29 : decode cX3_ground 29 = .ok (.aload 5, 2) := by decide +kernel
theorem dX3_ground_31 : decode cX3_ground 31 = .ok (.getfield 56, 3) := by decide +kernel
theorem dX3_ground_34 : decode cX3_ground 34 = .ok (.iload_n 2, 1) := by decide +kernel
theorem dX3_ground_35 : decode cX3_ground 35 = .ok (.iload_n 3, 1) := by decide +kernel
theorem dX3_ground_36 : decode cX3_ground 36 = .ok (.iastore, 1) := by decide +kernel
theorem dX3_ground_37 : decode cX3_ground 37 = .ok (.aload 5, 2) := by decide +kernel
theorem dX3_ground_39 : decode cX3_ground 39 = .ok (.getfield 60, 3) := by decide +kernel
theorem dX3_ground_42 : decode cX3_ground 42 = .ok (.iload_n 2, 1) := by decide +kernel
theorem dX3_ground_43 : decode cX3_ground 43 = .ok (.iload 4, 2) := by decide +kernel
theorem dX3_ground_45 : decode cX3_ground 45 = .ok (.iastore, 1) := by decide +kernel
theorem dX3_ground_46 : decode cX3_ground 46 = .ok (.return_, 1) := by decide +kernel
set_option maxRecDepth 20000 in
theorem ggX3_sinks_X3_pileOf : GoodIn wsX3_sinks wsX3_pileOf := goodIn_ca (goodIn_r _ [6, 7, 8, 9, 31, 32, 33, 34] (by decide +kernel) (by decide +kernel)) (goodIn_sub (fun _ h => List.mem_cons_of_mem _ (List.mem_append_right _ h)) (by decide +kernel))
set_option maxRecDepth 20000 in
theorem gX3_sinks_X3_pileOf : GoodIn wsX3_sinks (wsV RX3 48 RX3 yX3_pileOf wsX3_pileOf) := goodIn_app (goodIn_of _ (by decide +kernel)) ggX3_sinks_X3_pileOf
set_option maxRecDepth 20000 in
theorem ggX3_sinks_X3_checkPiece : GoodIn wsX3_sinks wsX3_checkPiece := goodIn_ca (goodIn_r _ [12, 13, 14, 15, 16, 17, 18, 19, 20, 5, 21, 7, 8, 22, 23, 24, 25, 26, 27, 28, 29, 30] (by decide +kernel) (by decide +kernel)) (goodIn_sub (fun _ h => List.mem_cons_of_mem _ (List.mem_append_right _ h)) (by decide +kernel))
set_option maxRecDepth 20000 in
theorem gX3_sinks_X3_checkPiece : GoodIn wsX3_sinks (va_wsS RX3 52 yX3_checkPiece wsX3_checkPiece) := goodIn_app (goodIn_of _ (by decide +kernel)) ggX3_sinks_X3_checkPiece
set_option maxRecDepth 20000 in
theorem ggX3_sinks_X3_checkWithin : GoodIn wsX3_sinks wsX3_checkWithin := goodIn_ca (goodIn_r _ [21, 7, 8] (by decide +kernel) (by decide +kernel)) (goodIn_sub (fun _ h => List.mem_cons_of_mem _ (List.mem_append_right _ h)) (by decide +kernel))
set_option maxRecDepth 20000 in
theorem gX3_sinks_X3_checkWithin : GoodIn wsX3_sinks (va_wsS RX3 33 yX3_checkWithin wsX3_checkWithin) := goodIn_app (goodIn_of _ (by decide +kernel)) ggX3_sinks_X3_checkWithin
theorem dX3_sinks_0 : decode cX3_sinks 0 = .ok (.aload_n 0, 1) := by decide +kernel
theorem dX3_sinks_1 : decode cX3_sinks 1 = .ok (.iload_n 1, 1) := by decide +kernel
theorem dX3_sinks_2 : decode cX3_sinks 2 = .ok (.invokevirtual 48, 3) := by decide +kernel
theorem dX3_sinks_5 : decode cX3_sinks 5 = .ok (.astore 4, 2) := by decide +kernel
theorem dX3_sinks_7 : decode cX3_sinks 7 = .ok (.aload 4, 2) := by decide +kernel
theorem dX3_sinks_9 : decode cX3_sinks 9 = .ok (.iload_n 2, 1) := by decide +kernel
theorem dX3_sinks_10 : decode cX3_sinks 10 = .ok (.invokestatic 52, 3) := by decide +kernel
theorem dX3_sinks_13 : decode cX3_sinks 13 = .ok (.iload_n 3, 1) := by decide +kernel
theorem dX3_sinks_14 : decode cX3_sinks 14 = .ok (.iconst 0, 1) := by decide +kernel
theorem dX3_sinks_15 : decode cX3_sinks 15 = .ok (.sipush 10000, 3) := by decide +kernel
theorem dX3_sinks_18 : decode cX3_sinks 18 = .ok (.invokestatic 33, 3) := by decide +kernel
theorem dX3_sinks_21 : decode cX3_sinks 21 = .ok (.aload 4, 2) := by decide +kernel
theorem dX3_sinks_23 : decode cX3_sinks 23 = .ok (.getfield 63, 3) := by decide +kernel
theorem dX3_sinks_26 : decode cX3_sinks 26 = .ok (.iload_n 2, 1) := by decide +kernel
theorem dX3_sinks_27 : decode cX3_sinks 27 = .ok (.iaload, 1) := by decide +kernel
theorem dX3_sinks_28 : decode cX3_sinks 28 = .ok (.istore 5, 2) := by decide +kernel
theorem dX3_sinks_30 : decode cX3_sinks 30 = .ok (.aload 4, 2) := by decide +kernel
theorem dX3_sinks_32 : decode cX3_sinks 32 = .ok (.getfield 63, 3) := by decide +kernel
theorem dX3_sinks_35 : decode cX3_sinks 35 = .ok (.iload_n 2, 1) := by decide +kernel
theorem dX3_sinks_36 : decode cX3_sinks 36 = .ok (.iload_n 3, 1) := by decide +kernel
theorem dX3_sinks_37 : decode cX3_sinks 37 = .ok (.iastore, 1) := by decide +kernel
theorem dX3_sinks_38 : decode cX3_sinks 38 = .ok (.iload 5, 2) := by decide +kernel
theorem dX3_sinks_40 : decode cX3_sinks 40 = .ok (.ireturn, 1) := by decide +kernel
set_option maxRecDepth 20000 in
theorem ggX3_tip_X3_pileOf : GoodIn wsX3_tip wsX3_pileOf := goodIn_ca (goodIn_r _ [8, 9, 10, 11, 24, 25, 26, 27] (by decide +kernel) (by decide +kernel)) (goodIn_sub (fun _ h => List.mem_cons_of_mem _ (List.mem_append_right _ h)) (by decide +kernel))
set_option maxRecDepth 20000 in
theorem gX3_tip_X3_pileOf : GoodIn wsX3_tip (wsV RX3 48 RX3 yX3_pileOf wsX3_pileOf) := goodIn_app (goodIn_of _ (by decide +kernel)) ggX3_tip_X3_pileOf
set_option maxRecDepth 20000 in
theorem ggX3_tip_X3_checkWithin : GoodIn wsX3_tip wsX3_checkWithin := goodIn_ca (goodIn_r _ [14, 9, 10] (by decide +kernel) (by decide +kernel)) (goodIn_sub (fun _ h => List.mem_cons_of_mem _ (List.mem_append_right _ h)) (by decide +kernel))
set_option maxRecDepth 20000 in
theorem gX3_tip_X3_checkWithin : GoodIn wsX3_tip (va_wsS RX3 33 yX3_checkWithin wsX3_checkWithin) := goodIn_app (goodIn_of _ (by decide +kernel)) ggX3_tip_X3_checkWithin
theorem dX3_tip_0 : decode cX3_tip 0 = .ok (.aload_n 0, 1) := by decide +kernel
theorem dX3_tip_1 : decode cX3_tip 1 = .ok (.iload_n 1, 1) := by decide +kernel
theorem dX3_tip_2 : decode cX3_tip 2 = .ok (.invokevirtual 48, 3) := by decide +kernel
theorem dX3_tip_5 : decode cX3_tip 5 = .ok (.astore 4, 2) := by decide +kernel
theorem dX3_tip_7 : decode cX3_tip 7 = .ok (.iload_n 2, 1) := by decide +kernel
theorem dX3_tip_8 : decode cX3_tip 8 = .ok (.iconst 0, 1) := by decide +kernel
theorem dX3_tip_9 : decode cX3_tip 9 = .ok (.sipush 1000, 3) := by decide +kernel
theorem dX3_tip_12 : decode cX3_tip 12 = .ok (.invokestatic 33, 3) := by decide +kernel
theorem dX3_tip_15 : decode cX3_tip 15 = .ok (.iload_n 3, 1) := by decide +kernel
theorem dX3_tip_16 : decode cX3_tip 16 = .ok (.iconst 0, 1) := by decide +kernel
theorem dX3_tip_17 : decode cX3_tip 17 = .ok (.ldc 66, 2) := by decide +kernel
theorem dX3_tip_19 : decode cX3_tip 19 = .ok (.invokestatic 33, 3) := by decide +kernel
theorem dX3_tip_22 : decode cX3_tip 22 = .ok (.aload 4, 2) := by decide +kernel
theorem dX3_tip_24 : decode cX3_tip 24 = .ok (.iload_n 2, 1) := by decide +kernel
theorem dX3_tip_25 : decode cX3_tip 25 = .ok (.putfield 67, 3) := by decide +kernel
theorem dX3_tip_28 : decode cX3_tip 28 = .ok (.aload 4, 2) := by decide +kernel
theorem dX3_tip_30 : decode cX3_tip 30 = .ok (.iload_n 3, 1) := by decide +kernel
theorem dX3_tip_31 : decode cX3_tip 31 = .ok (.putfield 70, 3) := by decide +kernel
theorem dX3_tip_34 : decode cX3_tip 34 = .ok (.return_, 1) := by decide +kernel
set_option maxRecDepth 20000 in
theorem ggX3_under_X3_pileOf : GoodIn wsX3_under wsX3_pileOf := goodIn_ca (goodIn_r _ [8, 9, 10, 11, 58, 59, 60, 61] (by decide +kernel) (by decide +kernel)) (goodIn_sub (fun _ h => List.mem_cons_of_mem _ (List.mem_append_right _ h)) (by decide +kernel))
set_option maxRecDepth 20000 in
theorem gX3_under_X3_pileOf : GoodIn wsX3_under (wsV RX3 48 RX3 yX3_pileOf wsX3_pileOf) := goodIn_app (goodIn_of _ (by decide +kernel)) ggX3_under_X3_pileOf
set_option maxRecDepth 20000 in
theorem ggX3_under_X3_checkLoad : GoodIn wsX3_under wsX3_checkLoad := goodIn_ca (goodIn_r _ [14, 15, 16, 17, 7, 18, 9, 10] (by decide +kernel) (by decide +kernel)) (goodIn_sub (fun _ h => List.mem_cons_of_mem _ (List.mem_append_right _ h)) (by decide +kernel))
set_option maxRecDepth 20000 in
theorem gX3_under_X3_checkLoad : GoodIn wsX3_under (va_wsS RX3 73 yX3_checkLoad wsX3_checkLoad) := goodIn_app (goodIn_of _ (by decide +kernel)) ggX3_under_X3_checkLoad
set_option maxRecDepth 20000 in
theorem ggX3_under_X2_findUnder : GoodIn wsX3_under wsX2_findUnder := goodIn_r _ [23, 24, 25, 26, 27, 28, 22, 29, 30, 31, 32, 33, 34, 35, 36, 37, 38, 39, 40, 41, 42, 43, 44, 45, 46, 47, 48, 49, 50, 51, 52, 7, 53, 54, 55, 56, 57, 62, 63, 64, 65, 66, 67, 68, 69, 70, 71, 72, 73, 74] (by decide +kernel) (by decide +kernel)
set_option maxRecDepth 20000 in
theorem gX3_under_X2_findUnder : GoodIn wsX3_under (wsV RX3 77 RX2 yX2_findUnder wsX2_findUnder) := goodIn_app (goodIn_of _ (by decide +kernel)) ggX3_under_X2_findUnder
theorem dX3_under_0 : decode cX3_under 0 = .ok (.aload_n 0, 1) := by decide +kernel
theorem dX3_under_1 : decode cX3_under 1 = .ok (.iload_n 1, 1) := by decide +kernel
theorem dX3_under_2 : decode cX3_under 2 = .ok (.invokevirtual 48, 3) := by decide +kernel
theorem dX3_under_5 : decode cX3_under 5 = .ok (.astore_n 3, 1) := by decide +kernel
theorem dX3_under_6 : decode cX3_under 6 = .ok (.iload_n 2, 1) := by decide +kernel
theorem dX3_under_7 : decode cX3_under 7 = .ok (.invokestatic 73, 3) := by decide +kernel
theorem dX3_under_10 : decode cX3_under 10 = .ok (.aload_n 0, 1) := by decide +kernel
theorem dX3_under_11 : decode cX3_under 11 = .ok (.getfield 18, 3) := by decide +kernel
theorem dX3_under_14 : decode cX3_under 14 = .ok (.aload_n 3, 1) := by decide +kernel
theorem dX3_under_15 : decode cX3_under 15 = .ok (.iload_n 2, 1) := by decide +kernel
theorem dX3_under_16 : decode cX3_under 16 = .ok (.invokevirtual 77, 3) := by decide +kernel
theorem dX3_under_19 : decode cX3_under 19 = .ok (.ifCond .eq 13, 3) := by decide +kernel
theorem dX3_under_22 : decode cX3_under 22 = .ok (.aload_n 0, 1) := by decide +kernel
theorem dX3_under_23 : decode cX3_under 23 = .ok (.getfield 18, 3) := by decide +kernel
theorem dX3_under_26 : decode cX3_under 26 = .ok (.getfield 81, 3) := by decide +kernel
theorem dX3_under_29 : decode cX3_under 29 = .ok (.goto 5, 3) := by decide +kernel
theorem dX3_under_32 : decode cX3_under 32 = .ok (.ldc 84, 2) := by decide +kernel
theorem dX3_under_34 : decode cX3_under 34 = .ok (.ireturn, 1) := by decide +kernel
set_option maxRecDepth 20000 in
theorem ggX3_piece_X3_pileOf : GoodIn wsX3_piece wsX3_pileOf := goodIn_ca (goodIn_r _ [10, 11, 12, 13, 65, 66, 67, 68] (by decide +kernel) (by decide +kernel)) (goodIn_sub (fun _ h => List.mem_cons_of_mem _ (List.mem_append_right _ h)) (by decide +kernel))
set_option maxRecDepth 20000 in
theorem gX3_piece_X3_pileOf : GoodIn wsX3_piece (wsV RX3 48 RX3 yX3_pileOf wsX3_pileOf) := goodIn_app (goodIn_of _ (by decide +kernel)) ggX3_piece_X3_pileOf
set_option maxRecDepth 20000 in
theorem ggX3_piece_X3_checkLoad : GoodIn wsX3_piece wsX3_checkLoad := goodIn_ca (goodIn_r _ [16, 17, 18, 19, 9, 20, 11, 12] (by decide +kernel) (by decide +kernel)) (goodIn_sub (fun _ h => List.mem_cons_of_mem _ (List.mem_append_right _ h)) (by decide +kernel))
set_option maxRecDepth 20000 in
theorem gX3_piece_X3_checkLoad : GoodIn wsX3_piece (va_wsS RX3 73 yX3_checkLoad wsX3_checkLoad) := goodIn_app (goodIn_of _ (by decide +kernel)) ggX3_piece_X3_checkLoad
set_option maxRecDepth 20000 in
theorem ggX3_piece_X3_checkPiece : GoodIn wsX3_piece wsX3_checkPiece := goodIn_ca (goodIn_r _ [23, 24, 25, 26, 27, 28, 29, 18, 19, 9, 20, 11, 12, 73, 74, 75, 76, 77, 78, 79, 80, 81] (by decide +kernel) (by decide +kernel)) (goodIn_sub (fun _ h => List.mem_cons_of_mem _ (List.mem_append_right _ h)) (by decide +kernel))
set_option maxRecDepth 20000 in
theorem gX3_piece_X3_checkPiece : GoodIn wsX3_piece (va_wsS RX3 52 yX3_checkPiece wsX3_checkPiece) := goodIn_app (goodIn_of _ (by decide +kernel)) ggX3_piece_X3_checkPiece
set_option maxRecDepth 20000 in
theorem ggX3_piece_X3_checkWithin : GoodIn wsX3_piece wsX3_checkWithin := goodIn_ca (goodIn_r _ [20, 11, 12] (by decide +kernel) (by decide +kernel)) (goodIn_sub (fun _ h => List.mem_cons_of_mem _ (List.mem_append_right _ h)) (by decide +kernel))
set_option maxRecDepth 20000 in
theorem gX3_piece_X3_checkWithin : GoodIn wsX3_piece (va_wsS RX3 33 yX3_checkWithin wsX3_checkWithin) := goodIn_app (goodIn_of _ (by decide +kernel)) ggX3_piece_X3_checkWithin
set_option maxRecDepth 20000 in
theorem ggX3_piece_X2_findUnder : GoodIn wsX3_piece wsX2_findUnder := goodIn_r _ [34, 35, 36, 37, 38, 39, 33, 40, 41, 42, 43, 44, 45, 46, 47, 48, 49, 50, 51, 52, 53, 54, 55, 56, 57, 25, 26, 27, 28, 29, 58, 9, 59, 60, 61, 62, 63, 69, 70, 71, 72, 73, 74, 75, 76, 77, 78, 79, 80, 81] (by decide +kernel) (by decide +kernel)
set_option maxRecDepth 20000 in
theorem gX3_piece_X2_findUnder : GoodIn wsX3_piece (wsV RX3 77 RX2 yX2_findUnder wsX2_findUnder) := goodIn_app (goodIn_of _ (by decide +kernel)) ggX3_piece_X2_findUnder
set_option maxRecDepth 20000 in
theorem ggX3_piece_X2_climb : GoodIn wsX3_piece wsX2_climb := goodIn_r _ [49, 35, 44, 50, 51, 43, 52, 53, 54, 55, 56, 57, 25, 26, 27, 28, 29, 58, 9, 59, 60, 61, 62, 63, 69, 70, 71, 72, 73, 74, 75, 76, 77, 78, 79, 80, 81] (by decide +kernel) (by decide +kernel)
set_option maxRecDepth 20000 in
theorem gX3_piece_X2_climb : GoodIn wsX3_piece (wsV RX3 85 RX2 yX2_climb wsX2_climb) := goodIn_app (goodIn_of _ (by decide +kernel)) ggX3_piece_X2_climb
theorem dX3_piece_0 : decode cX3_piece 0 = .ok (.aload_n 0, 1) := by decide +kernel
theorem dX3_piece_1 : decode cX3_piece 1 = .ok (.iload_n 1, 1) := by decide +kernel
theorem dX3_piece_2 : decode cX3_piece 2 = .ok (.invokevirtual 48, 3) := by decide +kernel
theorem dX3_piece_5 : decode cX3_piece 5 = .ok (.astore 5, 2) := by decide +kernel
theorem dX3_piece_7 : decode cX3_piece 7 = .ok (.iload_n 2, 1) := by decide +kernel
theorem dX3_piece_8 : decode cX3_piece 8 = .ok (.invokestatic 73, 3) := by decide +kernel
theorem dX3_piece_11 : decode cX3_piece 11 = .ok (.aload 5, 2) := by decide +kernel
theorem dX3_piece_13 : decode cX3_piece 13 = .ok (.iload_n 3, 1) := by decide +kernel
theorem dX3_piece_14 : decode cX3_piece 14 = .ok (.invokestatic 52, 3) := by decide +kernel
theorem dX3_piece_17 : decode cX3_piece 17 = .ok (.iload 4, 2) := by decide +kernel
theorem dX3_piece_19 : decode cX3_piece 19 = .ok (.iconst 0, 1) := by decide +kernel
theorem dX3_piece_20 : decode cX3_piece 20 = .ok (.iconst 2, 1) := by decide +kernel
theorem dX3_piece_21 : decode cX3_piece 21 = .ok (.invokestatic 33, 3) := by decide +kernel
theorem dX3_piece_24 : decode cX3_piece 24 = .ok (.aload_n 0, 1) := by decide +kernel
theorem dX3_piece_25 : decode cX3_piece 25 = .ok (.getfield 18, 3) := by decide +kernel
theorem dX3_piece_28 : decode cX3_piece 28 = .ok (.aload 5, 2) := by decide +kernel
theorem dX3_piece_30 : decode cX3_piece 30 = .ok (.iload_n 2, 1) := by decide +kernel
theorem dX3_piece_31 : decode cX3_piece 31 = .ok (.invokevirtual 77, 3) := by decide +kernel
theorem dX3_piece_34 : decode cX3_piece 34 = .ok (.ifCond .ne 6, 3) := by decide +kernel
theorem dX3_piece_37 : decode cX3_piece 37 = .ok (.ldc 84, 2) := by decide +kernel
theorem dX3_piece_39 : decode cX3_piece 39 = .ok (.ireturn, 1) := by decide +kernel
theorem dX3_piece_40 : decode cX3_piece 40 = .ok (.aload_n 0, 1) := by decide +kernel
theorem dX3_piece_41 : decode cX3_piece 41 = .ok (.getfield 18, 3) := by decide +kernel
theorem dX3_piece_44 : decode cX3_piece 44 = .ok (.aload 5, 2) := by decide +kernel
theorem dX3_piece_46 : decode cX3_piece 46 = .ok (.iload_n 3, 1) := by decide +kernel
theorem dX3_piece_47 : decode cX3_piece 47 = .ok (.invokevirtual 85, 3) := by decide +kernel
theorem dX3_piece_50 : decode cX3_piece 50 = .ok (.iload 4, 2) := by decide +kernel
theorem dX3_piece_52 : decode cX3_piece 52 = .ok (.ifCond .ne 11, 3) := by decide +kernel
theorem dX3_piece_55 : decode cX3_piece 55 = .ok (.aload_n 0, 1) := by decide +kernel
theorem dX3_piece_56 : decode cX3_piece 56 = .ok (.getfield 18, 3) := by decide +kernel
theorem dX3_piece_59 : decode cX3_piece 59 = .ok (.getfield 81, 3) := by decide +kernel
theorem dX3_piece_62 : decode cX3_piece 62 = .ok (.ireturn, 1) := by decide +kernel
theorem dX3_piece_63 : decode cX3_piece 63 = .ok (.iload 4, 2) := by decide +kernel
theorem dX3_piece_65 : decode cX3_piece 65 = .ok (.iconst 1, 1) := by decide +kernel
theorem dX3_piece_66 : decode cX3_piece 66 = .ok (.if_icmp .ne 13, 3) := by decide +kernel
theorem dX3_piece_69 : decode cX3_piece 69 = .ok (.aload_n 0, 1) := by decide +kernel
theorem dX3_piece_70 : decode cX3_piece 70 = .ok (.getfield 18, 3) := by decide +kernel
theorem dX3_piece_73 : decode cX3_piece 73 = .ok (.getfield 88, 3) := by decide +kernel
theorem dX3_piece_76 : decode cX3_piece 76 = .ok (.goto 10, 3) := by decide +kernel
theorem dX3_piece_79 : decode cX3_piece 79 = .ok (.aload_n 0, 1) := by decide +kernel
theorem dX3_piece_80 : decode cX3_piece 80 = .ok (.getfield 18, 3) := by decide +kernel
theorem dX3_piece_83 : decode cX3_piece 83 = .ok (.getfield 91, 3) := by decide +kernel
theorem dX3_piece_86 : decode cX3_piece 86 = .ok (.ireturn, 1) := by decide +kernel
set_option maxRecDepth 20000 in
theorem ggX3_load_X3_pileOf : GoodIn wsX3_load wsX3_pileOf := goodIn_ca (goodIn_r _ [10, 11, 12, 13, 56, 57, 58, 59] (by decide +kernel) (by decide +kernel)) (goodIn_sub (fun _ h => List.mem_cons_of_mem _ (List.mem_append_right _ h)) (by decide +kernel))
set_option maxRecDepth 20000 in
theorem gX3_load_X3_pileOf : GoodIn wsX3_load (wsV RX3 48 RX3 yX3_pileOf wsX3_pileOf) := goodIn_app (goodIn_of _ (by decide +kernel)) ggX3_load_X3_pileOf
set_option maxRecDepth 20000 in
theorem ggX3_load_X3_checkWithin : GoodIn wsX3_load wsX3_checkWithin := goodIn_ca (goodIn_r _ [16, 11, 12] (by decide +kernel) (by decide +kernel)) (goodIn_sub (fun _ h => List.mem_cons_of_mem _ (List.mem_append_right _ h)) (by decide +kernel))
set_option maxRecDepth 20000 in
theorem gX3_load_X3_checkWithin : GoodIn wsX3_load (va_wsS RX3 33 yX3_checkWithin wsX3_checkWithin) := goodIn_app (goodIn_of _ (by decide +kernel)) ggX3_load_X3_checkWithin
set_option maxRecDepth 20000 in
theorem ggX3_load_X2_findAt : GoodIn wsX3_load wsX2_findAt := goodIn_r _ [21, 22, 23, 24, 20, 25, 26, 27, 28, 29, 30, 31, 32, 33, 34, 35, 36, 37, 38, 39, 40, 41, 42, 43, 44, 45, 46, 47, 48, 49, 50, 9, 51, 52, 53, 54, 55, 60, 61, 62, 63, 64, 65, 66, 67, 68, 69, 70, 71, 72] (by decide +kernel) (by decide +kernel)
set_option maxRecDepth 20000 in
theorem gX3_load_X2_findAt : GoodIn wsX3_load (wsV RX3 95 RX2 yX2_findAt wsX2_findAt) := goodIn_app (goodIn_of _ (by decide +kernel)) ggX3_load_X2_findAt
theorem dX3_load_0 : decode cX3_load 0 = .ok (.aload_n 0, 1) := by decide +kernel
theorem dX3_load_1 : decode cX3_load 1 = .ok (.iload_n 1, 1) := by decide +kernel
theorem dX3_load_2 : decode cX3_load 2 = .ok (.invokevirtual 48, 3) := by decide +kernel
theorem dX3_load_5 : decode cX3_load 5 = .ok (.astore_n 3, 1) := by decide +kernel
theorem dX3_load_6 : decode cX3_load 6 = .ok (.iload_n 2, 1) := by decide +kernel
theorem dX3_load_7 : decode cX3_load 7 = .ok (.ldc 94, 2) := by decide +kernel
theorem dX3_load_9 : decode cX3_load 9 = .ok (.ldc 37, 2) := by decide +kernel
theorem dX3_load_11 : decode cX3_load 11 = .ok (.invokestatic 33, 3) := by decide +kernel
theorem dX3_load_14 : decode cX3_load 14 = .ok (.aload_n 0, 1) := by decide +kernel
theorem dX3_load_15 : decode cX3_load 15 = .ok (.getfield 18, 3) := by decide +kernel
theorem dX3_load_18 : decode cX3_load 18 = .ok (.aload_n 3, 1) := by decide +kernel
theorem dX3_load_19 : decode cX3_load 19 = .ok (.iload_n 2, 1) := by decide +kernel
theorem dX3_load_20 : decode cX3_load 20 = .ok (.invokevirtual 95, 3) := by decide +kernel
theorem dX3_load_23 : decode cX3_load 23 = .ok (.ifCond .eq 13, 3) := by decide +kernel
theorem dX3_load_26 : decode cX3_load 26 = .ok (.aload_n 0, 1) := by decide +kernel
theorem dX3_load_27 : decode cX3_load 27 = .ok (.getfield 18, 3) := by decide +kernel
theorem dX3_load_30 : decode cX3_load 30 = .ok (.getfield 91, 3) := by decide +kernel
theorem dX3_load_33 : decode cX3_load 33 = .ok (.goto 5, 3) := by decide +kernel
theorem dX3_load_36 : decode cX3_load 36 = .ok (.ldc 84, 2) := by decide +kernel
theorem dX3_load_38 : decode cX3_load 38 = .ok (.ireturn, 1) := by decide +kernel
set_option maxRecDepth 20000 in
theorem ggX3_hold_X3_pileOf : GoodIn wsX3_hold wsX3_pileOf := goodIn_ca (goodIn_r _ [6, 7, 8, 9, 19, 20, 21, 22] (by decide +kernel) (by decide +kernel)) (goodIn_sub (fun _ h => List.mem_cons_of_mem _ (List.mem_append_right _ h)) (by decide +kernel))
set_option maxRecDepth 20000 in
theorem gX3_hold_X3_pileOf : GoodIn wsX3_hold (wsV RX3 48 RX3 yX3_pileOf wsX3_pileOf) := goodIn_app (goodIn_of _ (by decide +kernel)) ggX3_hold_X3_pileOf
theorem dX3_hold_0 : decode cX3_hold 0 = .ok (.aload_n 0, 1) := by decide +kernel
theorem dX3_hold_1 : decode cX3_hold 1 = .ok (.iload_n 1, 1) := by decide +kernel
theorem dX3_hold_2 : decode cX3_hold 2 = .ok (.invokevirtual 48, 3) := by decide +kernel
theorem dX3_hold_5 : decode cX3_hold 5 = .ok (.astore_n 2, 1) := by decide +kernel
theorem dX3_hold_6 : decode cX3_hold 6 = .ok (.iconst 0, 1) := by decide +kernel
theorem dX3_hold_7 : decode cX3_hold 7 = .ok (.istore_n 3, 1) := by decide +kernel
theorem dX3_hold_8 : decode cX3_hold 8 = .ok (.aload_n 2, 1) := by decide +kernel
theorem dX3_hold_9 : decode cX3_hold 9 = .ok (.getfield 60, 3) := by decide +kernel
theorem dX3_hold_12 : decode cX3_hold 12 = .ok (.astore 4, 2) := by decide +kernel
theorem dX3_hold_14 : decode cX3_hold 14 = .ok (.aload 4, 2) := by decide +kernel
theorem dX3_hold_16 : decode cX3_hold 16 = .ok (.arraylength, 1) := by decide +kernel
theorem dX3_hold_17 : decode cX3_hold 17 = .ok (.istore 5, 2) := by decide +kernel
theorem dX3_hold_19 : decode cX3_hold 19 = .ok (.iconst 0, 1) := by decide +kernel
theorem dX3_hold_20 : decode cX3_hold 20 = .ok (.istore 6, 2) := by decide +kernel
theorem dX3_hold_22 : decode cX3_hold 22 = .ok (.iload 6, 2) := by decide +kernel
theorem dX3_hold_24 : decode cX3_hold 24 = .ok (.iload 5, 2) := by decide +kernel
theorem dX3_hold_26 : decode cX3_hold 26 = .ok (.if_icmp .ge 27, 3) := by decide +kernel
theorem dX3_hold_29 : decode cX3_hold 29 = .ok (.aload 4, 2) := by decide +kernel
theorem dX3_hold_31 : decode cX3_hold 31 = .ok (.iload 6, 2) := by decide +kernel
theorem dX3_hold_33 : decode cX3_hold 33 = .ok (.iaload, 1) := by decide +kernel
theorem dX3_hold_34 : decode cX3_hold 34 = .ok (.istore 7, 2) := by decide +kernel
theorem dX3_hold_36 : decode cX3_hold 36 = .ok (.iload_n 3, 1) := by decide +kernel
theorem dX3_hold_37 : decode cX3_hold 37 = .ok (.bipush 7, 2) := by decide +kernel
theorem dX3_hold_39 : decode cX3_hold 39 = .ok (.iload 7, 2) := by decide +kernel
theorem dX3_hold_41 : decode cX3_hold 41 = .ok (.imul, 1) := by decide +kernel
theorem dX3_hold_42 : decode cX3_hold 42 = .ok (.bipush 10, 2) := by decide +kernel
theorem dX3_hold_44 : decode cX3_hold 44 = .ok (.idiv, 1) := by decide +kernel
theorem dX3_hold_45 : decode cX3_hold 45 = .ok (.iadd, 1) := by decide +kernel
theorem dX3_hold_46 : decode cX3_hold 46 = .ok (.istore_n 3, 1) := by decide +kernel
theorem dX3_hold_47 : decode cX3_hold 47 = .ok (.iinc 6 1, 3) := by decide +kernel
theorem dX3_hold_50 : decode cX3_hold 50 = .ok (.goto (-28), 3) := by decide +kernel
theorem dX3_hold_53 : decode cX3_hold 53 = .ok (.iload_n 3, 1) := by decide +kernel
theorem dX3_hold_54 : decode cX3_hold 54 = .ok (.ireturn, 1) := by decide +kernel
set_option maxRecDepth 20000 in
theorem ggX3_cheapest_X3_checkLoad : GoodIn wsX3_cheapest wsX3_checkLoad := goodIn_ca (goodIn_r _ [10, 11, 12, 13, 9, 14, 15, 16] (by decide +kernel) (by decide +kernel)) (goodIn_sub (fun _ h => List.mem_cons_of_mem _ (List.mem_append_right _ h)) (by decide +kernel))
set_option maxRecDepth 20000 in
theorem gX3_cheapest_X3_checkLoad : GoodIn wsX3_cheapest (va_wsS RX3 73 yX3_checkLoad wsX3_checkLoad) := goodIn_app (goodIn_of _ (by decide +kernel)) ggX3_cheapest_X3_checkLoad
set_option maxRecDepth 20000 in
theorem ggX3_cheapest_X3_checkWithin : GoodIn wsX3_cheapest wsX3_checkWithin := goodIn_ca (goodIn_r _ [14, 15, 16] (by decide +kernel) (by decide +kernel)) (goodIn_sub (fun _ h => List.mem_cons_of_mem _ (List.mem_append_right _ h)) (by decide +kernel))
set_option maxRecDepth 20000 in
theorem gX3_cheapest_X3_checkWithin : GoodIn wsX3_cheapest (va_wsS RX3 33 yX3_checkWithin wsX3_checkWithin) := goodIn_app (goodIn_of _ (by decide +kernel)) ggX3_cheapest_X3_checkWithin
set_option maxRecDepth 20000 in
theorem ggX3_cheapest_X2_findUnder : GoodIn wsX3_cheapest wsX2_findUnder := goodIn_r _ [21, 22, 23, 24, 25, 26, 20, 27, 28, 29, 30, 31, 32, 33, 34, 35, 36, 37, 38, 39, 40, 41, 42, 43, 44, 45, 46, 47, 48, 49, 50, 9, 51, 52, 53, 54, 55, 69, 70, 71, 72, 60, 61, 62, 63, 64, 65, 66, 67, 68] (by decide +kernel) (by decide +kernel)
set_option maxRecDepth 20000 in
theorem gX3_cheapest_X2_findUnder : GoodIn wsX3_cheapest (wsV RX3 77 RX2 yX2_findUnder wsX2_findUnder) := goodIn_app (goodIn_of _ (by decide +kernel)) ggX3_cheapest_X2_findUnder
theorem dX3_cheapest_0 : decode cX3_cheapest 0 = .ok (.iload_n 1, 1) := by decide +kernel
theorem dX3_cheapest_1 : decode cX3_cheapest 1 = .ok (.invokestatic 73, 3) := by decide +kernel
theorem dX3_cheapest_4 : decode cX3_cheapest 4 = .ok (.iload_n 2, 1) := by decide +kernel
theorem dX3_cheapest_5 : decode cX3_cheapest 5 = .ok (.iconst 0, 1) := by decide +kernel
theorem dX3_cheapest_6 : decode cX3_cheapest 6 = .ok (.ldc 37, 2) := by decide +kernel
theorem dX3_cheapest_8 : decode cX3_cheapest 8 = .ok (.invokestatic 33, 3) := by decide +kernel
theorem dX3_cheapest_11 : decode cX3_cheapest 11 = .ok (.ldc 84, 2) := by decide +kernel
theorem dX3_cheapest_13 : decode cX3_cheapest 13 = .ok (.istore_n 3, 1) := by decide +kernel
theorem dX3_cheapest_14 : decode cX3_cheapest 14 = .ok (.iconst 0, 1) := by decide +kernel
theorem dX3_cheapest_15 : decode cX3_cheapest 15 = .ok (.istore 4, 2) := by decide +kernel
theorem dX3_cheapest_17 : decode cX3_cheapest 17 = .ok (.iconst 0, 1) := by decide +kernel
theorem dX3_cheapest_18 : decode cX3_cheapest 18 = .ok (.istore 5, 2) := by decide +kernel
theorem dX3_cheapest_20 : decode cX3_cheapest 20 = .ok (.iload 5, 2) := by decide +kernel
theorem dX3_cheapest_22 : decode cX3_cheapest 22 = .ok (.aload_n 0, 1) := by decide +kernel
theorem dX3_cheapest_23 : decode cX3_cheapest 23 = .ok (.getfield 11, 3) := by decide +kernel
theorem dX3_cheapest_26 : decode cX3_cheapest 26 = .ok (.arraylength, 1) := by decide +kernel
theorem dX3_cheapest_27 : decode cX3_cheapest 27 = .ok (.if_icmp .ge 76, 3) := by decide +kernel
theorem dX3_cheapest_30 : decode cX3_cheapest 30 = .ok (.aload_n 0, 1) := by decide +kernel
theorem dX3_cheapest_31 : decode cX3_cheapest 31 = .ok (.getfield 11, 3) := by decide +kernel
theorem dX3_cheapest_34 : decode cX3_cheapest 34 = .ok (.iload 5, 2) := by decide +kernel
theorem dX3_cheapest_36 : decode cX3_cheapest 36 = .ok (.aaload, 1) := by decide +kernel
theorem dX3_cheapest_37 : decode cX3_cheapest 37 = .ok (.astore 6, 2) := by decide +kernel
theorem dX3_cheapest_39 : decode cX3_cheapest 39 = .ok (.aload 6, 2) := by decide +kernel
theorem dX3_cheapest_41 : decode cX3_cheapest 41 = .ok (.ifnull 56, 3) := by decide +kernel
theorem dX3_cheapest_44 : decode cX3_cheapest 44 = .ok (.iload_n 3, 1) := by decide +kernel
theorem dX3_cheapest_45 : decode cX3_cheapest 45 = .ok (.ldc 84, 2) := by decide +kernel
theorem dX3_cheapest_47 : decode cX3_cheapest 47 = .ok (.if_icmp .eq 16, 3) := by decide +kernel
theorem dX3_cheapest_50 : decode cX3_cheapest 50 = .ok (.aload 6, 2) := by decide +kernel
theorem dX3_cheapest_52 : decode cX3_cheapest 52 = .ok (.getfield 98, 3) := by decide +kernel
theorem dX3_cheapest_55 : decode cX3_cheapest 55 = .ok (.iload 4, 2) := by decide +kernel
theorem dX3_cheapest_57 : decode cX3_cheapest 57 = .ok (.if_icmp .lt 6, 3) := by decide +kernel
theorem dX3_cheapest_60 : decode cX3_cheapest 60 = .ok (.goto 37, 3) := by decide +kernel
theorem dX3_cheapest_63 : decode cX3_cheapest 63 = .ok (.aload_n 0, 1) := by decide +kernel
theorem dX3_cheapest_64 : decode cX3_cheapest 64 = .ok (.getfield 18, 3) := by decide +kernel
theorem dX3_cheapest_67 : decode cX3_cheapest 67 = .ok (.aload 6, 2) := by decide +kernel
theorem dX3_cheapest_69 : decode cX3_cheapest 69 = .ok (.iload_n 1, 1) := by decide +kernel
theorem dX3_cheapest_70 : decode cX3_cheapest 70 = .ok (.invokevirtual 77, 3) := by decide +kernel
theorem dX3_cheapest_73 : decode cX3_cheapest 73 = .ok (.ifCond .eq 24, 3) := by decide +kernel
theorem dX3_cheapest_76 : decode cX3_cheapest 76 = .ok (.aload_n 0, 1) := by decide +kernel
theorem dX3_cheapest_77 : decode cX3_cheapest 77 = .ok (.getfield 18, 3) := by decide +kernel
theorem dX3_cheapest_80 : decode cX3_cheapest 80 = .ok (.getfield 81, 3) := by decide +kernel
theorem dX3_cheapest_83 : decode cX3_cheapest 83 = .ok (.iload_n 2, 1) := by decide +kernel
theorem dX3_cheapest_84 : decode cX3_cheapest 84 = .ok (.if_icmp .gt 13, 3) := by decide +kernel
theorem dX3_cheapest_87 : decode cX3_cheapest 87 = .ok (.iload 5, 2) := by decide +kernel
theorem dX3_cheapest_89 : decode cX3_cheapest 89 = .ok (.istore_n 3, 1) := by decide +kernel
theorem dX3_cheapest_90 : decode cX3_cheapest 90 = .ok (.aload 6, 2) := by decide +kernel
theorem dX3_cheapest_92 : decode cX3_cheapest 92 = .ok (.getfield 98, 3) := by decide +kernel
theorem dX3_cheapest_95 : decode cX3_cheapest 95 = .ok (.istore 4, 2) := by decide +kernel
theorem dX3_cheapest_97 : decode cX3_cheapest 97 = .ok (.iinc 5 1, 3) := by decide +kernel
theorem dX3_cheapest_100 : decode cX3_cheapest 100 = .ok (.goto (-80), 3) := by decide +kernel
theorem dX3_cheapest_103 : decode cX3_cheapest 103 = .ok (.iload_n 3, 1) := by decide +kernel
theorem dX3_cheapest_104 : decode cX3_cheapest 104 = .ok (.ireturn, 1) := by decide +kernel
set_option maxRecDepth 20000 in
theorem ggX3_join_X3_pileOf : GoodIn wsX3_join wsX3_pileOf := goodIn_ca (goodIn_r _ [6, 7, 8, 9, 19, 20, 21, 22] (by decide +kernel) (by decide +kernel)) (goodIn_sub (fun _ h => List.mem_cons_of_mem _ (List.mem_append_right _ h)) (by decide +kernel))
set_option maxRecDepth 20000 in
theorem gX3_join_X3_pileOf : GoodIn wsX3_join (wsV RX3 48 RX3 yX3_pileOf wsX3_pileOf) := goodIn_app (goodIn_of _ (by decide +kernel)) ggX3_join_X3_pileOf
theorem dX3_join_0 : decode cX3_join 0 = .ok (.aload_n 0, 1) := by decide +kernel
theorem dX3_join_1 : decode cX3_join 1 = .ok (.iload_n 1, 1) := by decide +kernel
theorem dX3_join_2 : decode cX3_join 2 = .ok (.invokevirtual 48, 3) := by decide +kernel
theorem dX3_join_5 : decode cX3_join 5 = .ok (.astore_n 3, 1) := by decide +kernel
theorem dX3_join_6 : decode cX3_join 6 = .ok (.aload_n 3, 1) := by decide +kernel
theorem dX3_join_7 : decode cX3_join 7 = .ok (.getfield 101, 3) := by decide +kernel
theorem dX3_join_10 : decode cX3_join 10 = .ok (.istore 4, 2) := by decide +kernel
theorem dX3_join_12 : decode cX3_join 12 = .ok (.aload_n 3, 1) := by decide +kernel
theorem dX3_join_13 : decode cX3_join 13 = .ok (.iload_n 2, 1) := by decide +kernel
theorem dX3_join_14 : decode cX3_join 14 = .ok (.putfield 101, 3) := by decide +kernel
theorem dX3_join_17 : decode cX3_join 17 = .ok (.iload 4, 2) := by decide +kernel
theorem dX3_join_19 : decode cX3_join 19 = .ok (.ireturn, 1) := by decide +kernel
set_option maxRecDepth 20000 in
theorem ggX3_group_X3_checkLoad : GoodIn wsX3_group wsX3_checkLoad := goodIn_ca (goodIn_r _ [4, 5, 6, 7, 3, 8, 9, 10] (by decide +kernel) (by decide +kernel)) (goodIn_sub (fun _ h => List.mem_cons_of_mem _ (List.mem_append_left _ (List.mem_append_right _ h))) (by decide +kernel))
set_option maxRecDepth 20000 in
theorem gX3_group_X3_checkLoad : GoodIn wsX3_group (va_wsS RX3 73 yX3_checkLoad wsX3_checkLoad) := goodIn_app (goodIn_of _ (by decide +kernel)) ggX3_group_X3_checkLoad
set_option maxRecDepth 20000 in
theorem ggX3_group_X3_checkGroupNotEmpty : GoodIn wsX3_group wsX3_checkGroupNotEmpty := goodIn_ca (goodIn_r _ [14, 15, 16, 17, 18, 70, 71, 72, 73, 74, 75, 76, 77, 78, 79, 80, 81, 82] (by decide +kernel) (by decide +kernel)) (goodIn_sub (fun _ h => List.mem_cons_of_mem _ (List.mem_append_right _ h)) (by decide +kernel))
set_option maxRecDepth 20000 in
theorem gX3_group_X3_checkGroupNotEmpty : GoodIn wsX3_group (wsV RX3 105 RX3 yX3_checkGroupNotEmpty wsX3_checkGroupNotEmpty) := goodIn_app (goodIn_of _ (by decide +kernel)) ggX3_group_X3_checkGroupNotEmpty
set_option maxRecDepth 20000 in
theorem ggX3_group_X3_groupSettlement : GoodIn wsX3_group wsX3_groupSettlement := goodIn_r _ [22, 23, 24, 25, 26, 3, 27, 17, 18, 28, 29, 30, 31, 32, 33, 34, 35, 36, 37, 38, 39, 40, 41, 42, 43, 44, 45, 46, 47, 48, 49, 50, 51, 52, 53, 54, 55, 56, 57, 58, 59, 60, 61, 62, 63, 64, 65, 66, 67, 68, 69, 70, 71, 72, 73, 74, 75, 76, 77, 78, 79, 80, 81, 82, 83, 84, 85, 86] (by decide +kernel) (by decide +kernel)
set_option maxRecDepth 20000 in
theorem gX3_group_X3_groupSettlement : GoodIn wsX3_group (wsV RX3 108 RX3 yX3_groupSettlement wsX3_groupSettlement) := goodIn_app (goodIn_of _ (by decide +kernel)) ggX3_group_X3_groupSettlement
theorem dX3_group_0 : decode cX3_group 0 = .ok (.iload_n 1, 1) := by decide +kernel
theorem dX3_group_1 : decode cX3_group 1 = .ok (.invokestatic 73, 3) := by decide +kernel
theorem dX3_group_4 : decode cX3_group 4 = .ok (.aload_n 0, 1) := by decide +kernel
theorem dX3_group_5 : decode cX3_group 5 = .ok (.invokevirtual 105, 3) := by decide +kernel
theorem dX3_group_8 : decode cX3_group 8 = .ok (.aload_n 0, 1) := by decide +kernel
theorem dX3_group_9 : decode cX3_group 9 = .ok (.iload_n 1, 1) := by decide +kernel
theorem dX3_group_10 : decode cX3_group 10 = .ok (.invokevirtual 108, 3) := by decide +kernel
theorem dX3_group_13 : decode cX3_group 13 = .ok (.ireturn, 1) := by decide +kernel
set_option maxRecDepth 20000 in
theorem ggX3_share_X3_checkLoad : GoodIn wsX3_share wsX3_checkLoad := goodIn_ca (goodIn_r _ [10, 11, 12, 13, 9, 14, 1, 2] (by decide +kernel) (by decide +kernel)) (goodIn_sub (fun _ h => List.mem_cons_of_mem _ (List.mem_append_left _ (List.mem_append_right _ h))) (by decide +kernel))
set_option maxRecDepth 20000 in
theorem gX3_share_X3_checkLoad : GoodIn wsX3_share (va_wsS RX3 73 yX3_checkLoad wsX3_checkLoad) := goodIn_app (goodIn_of _ (by decide +kernel)) ggX3_share_X3_checkLoad
set_option maxRecDepth 20000 in
theorem ggX3_share_X3_pileOf : GoodIn wsX3_share wsX3_pileOf := goodIn_ca (goodIn_r _ [18, 1, 2, 19, 83, 84, 85, 86] (by decide +kernel) (by decide +kernel)) (goodIn_sub (fun _ h => List.mem_cons_of_mem _ (List.mem_append_left _ (List.mem_append_right _ h))) (by decide +kernel))
set_option maxRecDepth 20000 in
theorem gX3_share_X3_pileOf : GoodIn wsX3_share (wsV RX3 48 RX3 yX3_pileOf wsX3_pileOf) := goodIn_app (goodIn_of _ (by decide +kernel)) ggX3_share_X3_pileOf
set_option maxRecDepth 20000 in
theorem ggX3_share_X3_checkGroupNotEmpty : GoodIn wsX3_share wsX3_checkGroupNotEmpty := goodIn_ca (goodIn_r _ [23, 24, 25, 19, 3, 83, 84, 85, 86, 74, 75, 76, 77, 78, 79, 80, 81, 82] (by decide +kernel) (by decide +kernel)) (goodIn_sub (fun _ h => List.mem_cons_of_mem _ (List.mem_append_right _ h)) (by decide +kernel))
set_option maxRecDepth 20000 in
theorem gX3_share_X3_checkGroupNotEmpty : GoodIn wsX3_share (wsV RX3 105 RX3 yX3_checkGroupNotEmpty wsX3_checkGroupNotEmpty) := goodIn_app (goodIn_of _ (by decide +kernel)) ggX3_share_X3_checkGroupNotEmpty
set_option maxRecDepth 20000 in
theorem ggX3_share_X3_groupSettlement : GoodIn wsX3_share wsX3_groupSettlement := goodIn_r _ [29, 4, 30, 31, 32, 9, 33, 19, 3, 5, 34, 6, 35, 36, 37, 38, 39, 40, 41, 42, 43, 44, 45, 46, 47, 48, 49, 50, 51, 52, 53, 54, 55, 56, 57, 58, 59, 60, 61, 62, 63, 64, 65, 66, 67, 68, 69, 70, 71, 72, 73, 83, 84, 85, 86, 74, 75, 76, 77, 78, 79, 80, 81, 82, 87, 88, 89, 90] (by decide +kernel) (by decide +kernel)
set_option maxRecDepth 20000 in
theorem gX3_share_X3_groupSettlement : GoodIn wsX3_share (wsV RX3 108 RX3 yX3_groupSettlement wsX3_groupSettlement) := goodIn_app (goodIn_of _ (by decide +kernel)) ggX3_share_X3_groupSettlement
set_option maxRecDepth 20000 in
theorem ggX3_share_X2_findAt : GoodIn wsX3_share wsX2_findAt := goodIn_r _ [39, 40, 41, 42, 38, 43, 44, 45, 46, 47, 48, 49, 50, 51, 52, 53, 54, 55, 56, 57, 58, 59, 60, 61, 62, 63, 64, 65, 66, 67, 68, 9, 69, 70, 71, 72, 73, 87, 88, 89, 90, 74, 75, 76, 77, 78, 79, 80, 81, 82] (by decide +kernel) (by decide +kernel)
set_option maxRecDepth 20000 in
theorem gX3_share_X2_findAt : GoodIn wsX3_share (wsV RX3 95 RX2 yX2_findAt wsX2_findAt) := goodIn_app (goodIn_of _ (by decide +kernel)) ggX3_share_X2_findAt
theorem dX3_share_0 : decode cX3_share 0 = .ok (.iload_n 1, 1) := by decide +kernel
theorem dX3_share_1 : decode cX3_share 1 = .ok (.invokestatic 73, 3) := by decide +kernel
theorem dX3_share_4 : decode cX3_share 4 = .ok (.aload_n 0, 1) := by decide +kernel
theorem dX3_share_5 : decode cX3_share 5 = .ok (.iload_n 2, 1) := by decide +kernel
theorem dX3_share_6 : decode cX3_share 6 = .ok (.invokevirtual 48, 3) := by decide +kernel
theorem dX3_share_9 : decode cX3_share 9 = .ok (.astore_n 3, 1) := by decide +kernel
theorem dX3_share_10 : decode cX3_share 10 = .ok (.aload_n 0, 1) := by decide +kernel
theorem dX3_share_11 : decode cX3_share 11 = .ok (.invokevirtual 105, 3) := by decide +kernel
theorem dX3_share_14 : decode cX3_share 14 = .ok (.aload_n 3, 1) := by decide +kernel
theorem dX3_share_15 : decode cX3_share 15 = .ok (.getfield 101, 3) := by decide +kernel
theorem dX3_share_18 : decode cX3_share 18 = .ok (.ifCond .ne 13, 3) := by decide +kernel
theorem dX3_share_21 : decode cX3_share 21 = .ok (.new 112, 3) := by decide +kernel
theorem dX3_share_24 : decode cX3_share 24 = .ok (.dup, 1) := by decide +kernel
theorem dX3_share_25 : decode cX3_share 25 = .ok (.ldc 114, 2) := by decide +kernel
theorem dX3_share_27 : decode cX3_share 27 = .ok (.invokespecial 116, 3) := by decide +kernel
theorem dX3_share_30 : decode cX3_share 30 = .ok (.athrow, 1) := by decide +kernel
theorem dX3_share_31 : decode cX3_share 31 = .ok (.aload_n 0, 1) := by decide +kernel
theorem dX3_share_32 : decode cX3_share 32 = .ok (.iload_n 1, 1) := by decide +kernel
theorem dX3_share_33 : decode cX3_share 33 = .ok (.invokevirtual 108, 3) := by decide +kernel
theorem dX3_share_36 : decode cX3_share 36 = .ok (.istore 4, 2) := by decide +kernel
theorem dX3_share_38 : decode cX3_share 38 = .ok (.iload 4, 2) := by decide +kernel
theorem dX3_share_40 : decode cX3_share 40 = .ok (.ldc 84, 2) := by decide +kernel
theorem dX3_share_42 : decode cX3_share 42 = .ok (.if_icmp .eq 16, 3) := by decide +kernel
theorem dX3_share_45 : decode cX3_share 45 = .ok (.aload_n 0, 1) := by decide +kernel
theorem dX3_share_46 : decode cX3_share 46 = .ok (.getfield 18, 3) := by decide +kernel
theorem dX3_share_49 : decode cX3_share 49 = .ok (.aload_n 3, 1) := by decide +kernel
theorem dX3_share_50 : decode cX3_share 50 = .ok (.iload 4, 2) := by decide +kernel
theorem dX3_share_52 : decode cX3_share 52 = .ok (.invokevirtual 95, 3) := by decide +kernel
theorem dX3_share_55 : decode cX3_share 55 = .ok (.ifCond .ne 6, 3) := by decide +kernel
theorem dX3_share_58 : decode cX3_share 58 = .ok (.ldc 84, 2) := by decide +kernel
theorem dX3_share_60 : decode cX3_share 60 = .ok (.ireturn, 1) := by decide +kernel
theorem dX3_share_61 : decode cX3_share 61 = .ok (.aload_n 0, 1) := by decide +kernel
theorem dX3_share_62 : decode cX3_share 62 = .ok (.getfield 18, 3) := by decide +kernel
theorem dX3_share_65 : decode cX3_share 65 = .ok (.getfield 91, 3) := by decide +kernel
theorem dX3_share_68 : decode cX3_share 68 = .ok (.ireturn, 1) := by decide +kernel
set_option maxRecDepth 20000 in
theorem ggX3_blow_X3_pileOf : GoodIn wsX3_blow wsX3_pileOf := goodIn_ca (goodIn_r _ [6, 7, 8, 9, 83, 84, 85, 86] (by decide +kernel) (by decide +kernel)) (goodIn_sub (fun _ h => List.mem_cons_of_mem _ (List.mem_append_right _ h)) (by decide +kernel))
set_option maxRecDepth 20000 in
theorem gX3_blow_X3_pileOf : GoodIn wsX3_blow (wsV RX3 48 RX3 yX3_pileOf wsX3_pileOf) := goodIn_app (goodIn_of _ (by decide +kernel)) ggX3_blow_X3_pileOf
set_option maxRecDepth 20000 in
theorem ggX3_blow_X3_checkWithin : GoodIn wsX3_blow wsX3_checkWithin := goodIn_ca (goodIn_r _ [12, 7, 8] (by decide +kernel) (by decide +kernel)) (goodIn_sub (fun _ h => List.mem_cons_of_mem _ (List.mem_append_right _ h)) (by decide +kernel))
set_option maxRecDepth 20000 in
theorem gX3_blow_X3_checkWithin : GoodIn wsX3_blow (va_wsS RX3 33 yX3_checkWithin wsX3_checkWithin) := goodIn_app (goodIn_of _ (by decide +kernel)) ggX3_blow_X3_checkWithin
set_option maxRecDepth 20000 in
theorem ggX3_blow_X0_strike : GoodIn wsX3_blow wsX0_strike := goodIn_r _ [17, 18, 19, 20, 21, 22, 23, 24, 25, 26, 27, 28, 29, 30, 31, 32, 33, 34, 35, 36, 37, 38, 39, 40, 41, 42, 43, 44, 16, 45, 46, 47, 48, 49, 50, 51, 52, 53, 54, 55, 56, 57, 58, 59, 60, 61, 62, 63, 64, 5, 65, 66, 67, 68, 69, 70, 71, 87, 88, 89, 90, 91, 92, 93, 94, 95, 96, 97, 98, 99, 100, 101] (by decide +kernel) (by decide +kernel)
set_option maxRecDepth 20000 in
theorem gX3_blow_X0_strike : GoodIn wsX3_blow (wsV RX3 117 RX0 yX0_strike wsX0_strike) := goodIn_app (goodIn_of _ (by decide +kernel)) ggX3_blow_X0_strike
set_option maxRecDepth 20000 in
theorem ggX3_blow_X0_settled : GoodIn wsX3_blow wsX0_settled := goodIn_r _ [75, 19, 48, 49, 25, 50, 76, 77, 78, 35, 79, 80, 81, 82, 87, 88, 89, 90, 91, 92, 93, 94, 95, 96, 97, 98, 99, 100, 101] (by decide +kernel) (by decide +kernel)
set_option maxRecDepth 20000 in
theorem gX3_blow_X0_settled : GoodIn wsX3_blow (wsV RX3 121 RX0 yX0_settled wsX0_settled) := goodIn_app (goodIn_of _ (by decide +kernel)) ggX3_blow_X0_settled
theorem dX3_blow_0 : decode cX3_blow 0 = .ok (.aload_n 0, 1) := by decide +kernel
theorem dX3_blow_1 : decode cX3_blow 1 = .ok (.iload_n 1, 1) := by decide +kernel
theorem dX3_blow_2 : decode cX3_blow 2 = .ok (.invokevirtual 48, 3) := by decide +kernel
theorem dX3_blow_5 : decode cX3_blow 5 = .ok (.astore 4, 2) := by decide +kernel
theorem dX3_blow_7 : decode cX3_blow 7 = .ok (.iload_n 2, 1) := by decide +kernel
theorem dX3_blow_8 : decode cX3_blow 8 = .ok (.iconst 1, 1) := by decide +kernel
theorem dX3_blow_9 : decode cX3_blow 9 = .ok (.sipush 10000, 3) := by decide +kernel
theorem dX3_blow_12 : decode cX3_blow 12 = .ok (.invokestatic 33, 3) := by decide +kernel
theorem dX3_blow_15 : decode cX3_blow 15 = .ok (.iload_n 3, 1) := by decide +kernel
theorem dX3_blow_16 : decode cX3_blow 16 = .ok (.iconst 1, 1) := by decide +kernel
theorem dX3_blow_17 : decode cX3_blow 17 = .ok (.sipush 1000, 3) := by decide +kernel
theorem dX3_blow_20 : decode cX3_blow 20 = .ok (.invokestatic 33, 3) := by decide +kernel
theorem dX3_blow_23 : decode cX3_blow 23 = .ok (.aload_n 0, 1) := by decide +kernel
theorem dX3_blow_24 : decode cX3_blow 24 = .ok (.getfield 25, 3) := by decide +kernel
theorem dX3_blow_27 : decode cX3_blow 27 = .ok (.aload 4, 2) := by decide +kernel
theorem dX3_blow_29 : decode cX3_blow 29 = .ok (.iload_n 2, 1) := by decide +kernel
theorem dX3_blow_30 : decode cX3_blow 30 = .ok (.iload_n 3, 1) := by decide +kernel
theorem dX3_blow_31 : decode cX3_blow 31 = .ok (.invokevirtual 117, 3) := by decide +kernel
theorem dX3_blow_34 : decode cX3_blow 34 = .ok (.aload_n 0, 1) := by decide +kernel
theorem dX3_blow_35 : decode cX3_blow 35 = .ok (.getfield 25, 3) := by decide +kernel
theorem dX3_blow_38 : decode cX3_blow 38 = .ok (.aload 4, 2) := by decide +kernel
theorem dX3_blow_40 : decode cX3_blow 40 = .ok (.invokevirtual 121, 3) := by decide +kernel
theorem dX3_blow_43 : decode cX3_blow 43 = .ok (.ireturn, 1) := by decide +kernel
set_option maxRecDepth 20000 in
theorem ggX3_wave_X0_happened : GoodIn wsX3_wave wsX0_happened := goodIn_r _ [9, 10, 27, 28, 29, 30, 31, 32] (by decide +kernel) (by decide +kernel)
set_option maxRecDepth 20000 in
theorem gX3_wave_X0_happened : GoodIn wsX3_wave (wsV RX3 125 RX0 yX0_happened wsX0_happened) := goodIn_app (goodIn_of _ (by decide +kernel)) ggX3_wave_X0_happened
set_option maxRecDepth 20000 in
theorem ggX3_wave_X3_checkWithin : GoodIn wsX3_wave wsX3_checkWithin := goodIn_ca (goodIn_r _ [14, 15, 16] (by decide +kernel) (by decide +kernel)) (goodIn_sub (fun _ h => List.mem_cons_of_mem _ (List.mem_append_right _ h)) (by decide +kernel))
set_option maxRecDepth 20000 in
theorem gX3_wave_X3_checkWithin : GoodIn wsX3_wave (va_wsS RX3 33 yX3_checkWithin wsX3_checkWithin) := goodIn_app (goodIn_of _ (by decide +kernel)) ggX3_wave_X3_checkWithin
set_option maxRecDepth 20000 in
theorem ggX3_wave_X0_behindRound : GoodIn wsX3_wave wsX0_behindRound := goodIn_r _ [20, 21, 22, 27, 28, 29, 30, 31, 32] (by decide +kernel) (by decide +kernel)
set_option maxRecDepth 20000 in
theorem gX3_wave_X0_behindRound : GoodIn wsX3_wave (wsV RX3 134 RX0 yX0_behindRound wsX0_behindRound) := goodIn_app (goodIn_of _ (by decide +kernel)) ggX3_wave_X0_behindRound
theorem dX3_wave_0 : decode cX3_wave 0 = .ok (.aload_n 0, 1) := by decide +kernel
theorem dX3_wave_1 : decode cX3_wave 1 = .ok (.getfield 25, 3) := by decide +kernel
theorem dX3_wave_4 : decode cX3_wave 4 = .ok (.invokevirtual 125, 3) := by decide +kernel
theorem dX3_wave_7 : decode cX3_wave 7 = .ok (.ifCond .ne 13, 3) := by decide +kernel
theorem dX3_wave_10 : decode cX3_wave 10 = .ok (.new 38, 3) := by decide +kernel
theorem dX3_wave_13 : decode cX3_wave 13 = .ok (.dup, 1) := by decide +kernel
theorem dX3_wave_14 : decode cX3_wave 14 = .ok (.ldc 129, 2) := by decide +kernel
theorem dX3_wave_16 : decode cX3_wave 16 = .ok (.invokespecial 42, 3) := by decide +kernel
theorem dX3_wave_19 : decode cX3_wave 19 = .ok (.athrow, 1) := by decide +kernel
theorem dX3_wave_20 : decode cX3_wave 20 = .ok (.iload_n 1, 1) := by decide +kernel
theorem dX3_wave_21 : decode cX3_wave 21 = .ok (.iconst 0, 1) := by decide +kernel
theorem dX3_wave_22 : decode cX3_wave 22 = .ok (.sipush 199, 3) := by decide +kernel
theorem dX3_wave_25 : decode cX3_wave 25 = .ok (.invokestatic 33, 3) := by decide +kernel
theorem dX3_wave_28 : decode cX3_wave 28 = .ok (.iload_n 2, 1) := by decide +kernel
theorem dX3_wave_29 : decode cX3_wave 29 = .ok (.iconst 0, 1) := by decide +kernel
theorem dX3_wave_30 : decode cX3_wave 30 = .ok (.aload_n 0, 1) := by decide +kernel
theorem dX3_wave_31 : decode cX3_wave 31 = .ok (.getfield 25, 3) := by decide +kernel
theorem dX3_wave_34 : decode cX3_wave 34 = .ok (.getfield 131, 3) := by decide +kernel
theorem dX3_wave_37 : decode cX3_wave 37 = .ok (.invokestatic 33, 3) := by decide +kernel
theorem dX3_wave_40 : decode cX3_wave 40 = .ok (.aload_n 0, 1) := by decide +kernel
theorem dX3_wave_41 : decode cX3_wave 41 = .ok (.getfield 25, 3) := by decide +kernel
theorem dX3_wave_44 : decode cX3_wave 44 = .ok (.iload_n 1, 1) := by decide +kernel
theorem dX3_wave_45 : decode cX3_wave 45 = .ok (.iload_n 2, 1) := by decide +kernel
theorem dX3_wave_46 : decode cX3_wave 46 = .ok (.invokevirtual 134, 3) := by decide +kernel
theorem dX3_wave_49 : decode cX3_wave 49 = .ok (.ireturn, 1) := by decide +kernel
theorem dX3_checkWithin_0 : decode cX3_checkWithin 0 = .ok (.iload_n 0, 1) := by decide +kernel
theorem dX3_checkWithin_1 : decode cX3_checkWithin 1 = .ok (.iload_n 1, 1) := by decide +kernel
theorem dX3_checkWithin_2 : decode cX3_checkWithin 2 = .ok (.if_icmp .lt 8, 3) := by decide +kernel
theorem dX3_checkWithin_5 : decode cX3_checkWithin 5 = .ok (.iload_n 0, 1) := by decide +kernel
theorem dX3_checkWithin_6 : decode cX3_checkWithin 6 = .ok (.iload_n 2, 1) := by decide +kernel
theorem dX3_checkWithin_7 : decode cX3_checkWithin 7 = .ok (.if_icmp .le 13, 3) := by decide +kernel
theorem dX3_checkWithin_10 : decode cX3_checkWithin 10 = .ok (.new 112, 3) := by decide +kernel
theorem dX3_checkWithin_13 : decode cX3_checkWithin 13 = .ok (.dup, 1) := by decide +kernel
theorem dX3_checkWithin_14 : decode cX3_checkWithin 14 = .ok (.ldc 138, 2) := by decide +kernel
theorem dX3_checkWithin_16 : decode cX3_checkWithin 16 = .ok (.invokespecial 116, 3) := by decide +kernel
theorem dX3_checkWithin_19 : decode cX3_checkWithin 19 = .ok (.athrow, 1) := by decide +kernel
theorem dX3_checkWithin_20 : decode cX3_checkWithin 20 = .ok (.return_, 1) := by decide +kernel
set_option maxRecDepth 20000 in
theorem ggX3_checkLoad_X3_checkWithin : GoodIn wsX3_checkLoad wsX3_checkWithin := goodIn_ca (goodIn_r _ [5, 6, 7] (by decide +kernel) (by decide +kernel)) (goodIn_sub (fun _ h => List.mem_cons_of_mem _ (List.mem_append_right _ h)) (by decide +kernel))
set_option maxRecDepth 20000 in
theorem gX3_checkLoad_X3_checkWithin : GoodIn wsX3_checkLoad (va_wsS RX3 33 yX3_checkWithin wsX3_checkWithin) := goodIn_app (goodIn_of _ (by decide +kernel)) ggX3_checkLoad_X3_checkWithin
theorem dX3_checkLoad_0 : decode cX3_checkLoad 0 = .ok (.iload_n 0, 1) := by decide +kernel
theorem dX3_checkLoad_1 : decode cX3_checkLoad 1 = .ok (.iconst 0, 1) := by decide +kernel
theorem dX3_checkLoad_2 : decode cX3_checkLoad 2 = .ok (.ldc 140, 2) := by decide +kernel
theorem dX3_checkLoad_4 : decode cX3_checkLoad 4 = .ok (.invokestatic 33, 3) := by decide +kernel
theorem dX3_checkLoad_7 : decode cX3_checkLoad 7 = .ok (.return_, 1) := by decide +kernel
set_option maxRecDepth 20000 in
theorem ggX3_checkPiece_X1_pieces : GoodIn wsX3_checkPiece wsX1_pieces := goodIn_r _ [5, 6, 13, 14, 15, 16, 17, 18, 19, 20, 21] (by decide +kernel) (by decide +kernel)
set_option maxRecDepth 20000 in
theorem gX3_checkPiece_X1_pieces : GoodIn wsX3_checkPiece (wsV RX3 141 RX1 yX1_pieces wsX1_pieces) := goodIn_app (goodIn_of _ (by decide +kernel)) ggX3_checkPiece_X1_pieces
set_option maxRecDepth 20000 in
theorem ggX3_checkPiece_X3_checkWithin : GoodIn wsX3_checkPiece wsX3_checkWithin := goodIn_ca (goodIn_r _ [10, 11, 12] (by decide +kernel) (by decide +kernel)) (goodIn_sub (fun _ h => List.mem_cons_of_mem _ (List.mem_append_right _ h)) (by decide +kernel))
set_option maxRecDepth 20000 in
theorem gX3_checkPiece_X3_checkWithin : GoodIn wsX3_checkPiece (va_wsS RX3 33 yX3_checkWithin wsX3_checkWithin) := goodIn_app (goodIn_of _ (by decide +kernel)) ggX3_checkPiece_X3_checkWithin
theorem dX3_checkPiece_0 : decode cX3_checkPiece 0 = .ok (.iload_n 1, 1) := by decide +kernel
theorem dX3_checkPiece_1 : decode cX3_checkPiece 1 = .ok (.iconst 0, 1) := by decide +kernel
theorem dX3_checkPiece_2 : decode cX3_checkPiece 2 = .ok (.aload_n 0, 1) := by decide +kernel
theorem dX3_checkPiece_3 : decode cX3_checkPiece 3 = .ok (.invokevirtual 141, 3) := by decide +kernel
theorem dX3_checkPiece_6 : decode cX3_checkPiece 6 = .ok (.iconst 1, 1) := by decide +kernel
theorem dX3_checkPiece_7 : decode cX3_checkPiece 7 = .ok (.isub, 1) := by decide +kernel
theorem dX3_checkPiece_8 : decode cX3_checkPiece 8 = .ok (.invokestatic 33, 3) := by decide +kernel
theorem dX3_checkPiece_11 : decode cX3_checkPiece 11 = .ok (.return_, 1) := by decide +kernel
theorem dX3_pileOf_0 : decode cX3_pileOf 0 = .ok (.iload_n 1, 1) := by decide +kernel
theorem dX3_pileOf_1 : decode cX3_pileOf 1 = .ok (.ifCond .lt 21, 3) := by decide +kernel
theorem dX3_pileOf_4 : decode cX3_pileOf 4 = .ok (.iload_n 1, 1) := by decide +kernel
theorem dX3_pileOf_5 : decode cX3_pileOf 5 = .ok (.aload_n 0, 1) := by decide +kernel
theorem dX3_pileOf_6 : decode cX3_pileOf 6 = .ok (.getfield 11, 3) := by decide +kernel
theorem dX3_pileOf_9 : decode cX3_pileOf 9 = .ok (.arraylength, 1) := by decide +kernel
theorem dX3_pileOf_10 : decode cX3_pileOf 10 = .ok (.if_icmp .ge 12, 3) := by decide +kernel
theorem dX3_pileOf_13 : decode cX3_pileOf 13 = .ok (.aload_n 0, 1) := by decide +kernel
theorem dX3_pileOf_14 : decode cX3_pileOf 14 = .ok (.getfield 11, 3) := by decide +kernel
theorem dX3_pileOf_17 : decode cX3_pileOf 17 = .ok (.iload_n 1, 1) := by decide +kernel
theorem dX3_pileOf_18 : decode cX3_pileOf 18 = .ok (.aaload, 1) := by decide +kernel
theorem dX3_pileOf_19 : decode cX3_pileOf 19 = .ok (.ifnonnull 13, 3) := by decide +kernel
theorem dX3_pileOf_22 : decode cX3_pileOf 22 = .ok (.new 112, 3) := by decide +kernel
theorem dX3_pileOf_25 : decode cX3_pileOf 25 = .ok (.dup, 1) := by decide +kernel
theorem dX3_pileOf_26 : decode cX3_pileOf 26 = .ok (.ldc 144, 2) := by decide +kernel
theorem dX3_pileOf_28 : decode cX3_pileOf 28 = .ok (.invokespecial 116, 3) := by decide +kernel
theorem dX3_pileOf_31 : decode cX3_pileOf 31 = .ok (.athrow, 1) := by decide +kernel
theorem dX3_pileOf_32 : decode cX3_pileOf 32 = .ok (.aload_n 0, 1) := by decide +kernel
theorem dX3_pileOf_33 : decode cX3_pileOf 33 = .ok (.getfield 11, 3) := by decide +kernel
theorem dX3_pileOf_36 : decode cX3_pileOf 36 = .ok (.iload_n 1, 1) := by decide +kernel
theorem dX3_pileOf_37 : decode cX3_pileOf 37 = .ok (.aaload, 1) := by decide +kernel
theorem dX3_pileOf_38 : decode cX3_pileOf 38 = .ok (.areturn, 1) := by decide +kernel
theorem dX3_checkGroupNotEmpty_0 : decode cX3_checkGroupNotEmpty 0 = .ok (.aload_n 0, 1) := by decide +kernel
theorem dX3_checkGroupNotEmpty_1 : decode cX3_checkGroupNotEmpty 1 = .ok (.getfield 11, 3) := by decide +kernel
theorem dX3_checkGroupNotEmpty_4 : decode cX3_checkGroupNotEmpty 4 = .ok (.astore_n 1, 1) := by decide +kernel
theorem dX3_checkGroupNotEmpty_5 : decode cX3_checkGroupNotEmpty 5 = .ok (.aload_n 1, 1) := by decide +kernel
theorem dX3_checkGroupNotEmpty_6 : decode cX3_checkGroupNotEmpty 6 = .ok (.arraylength, 1) := by decide +kernel
theorem dX3_checkGroupNotEmpty_7 : decode cX3_checkGroupNotEmpty 7 = .ok (.istore_n 2, 1) := by decide +kernel
theorem dX3_checkGroupNotEmpty_8 : decode cX3_checkGroupNotEmpty 8 = .ok (.iconst 0, 1) := by decide +kernel
theorem dX3_checkGroupNotEmpty_9 : decode cX3_checkGroupNotEmpty 9 = .ok (.istore_n 3, 1) := by decide +kernel
theorem dX3_checkGroupNotEmpty_10 : decode cX3_checkGroupNotEmpty 10 = .ok (.iload_n 3, 1) := by decide +kernel
theorem dX3_checkGroupNotEmpty_11 : decode cX3_checkGroupNotEmpty 11 = .ok (.iload_n 2, 1) := by decide +kernel
theorem dX3_checkGroupNotEmpty_12 : decode cX3_checkGroupNotEmpty 12 = .ok (.if_icmp .ge 28, 3) := by decide +kernel
theorem dX3_checkGroupNotEmpty_15 : decode cX3_checkGroupNotEmpty 15 = .ok (.aload_n 1, 1) := by decide +kernel
theorem dX3_checkGroupNotEmpty_16 : decode cX3_checkGroupNotEmpty 16 = .ok (.iload_n 3, 1) := by decide +kernel
theorem dX3_checkGroupNotEmpty_17 : decode cX3_checkGroupNotEmpty 17 = .ok (.aaload, 1) := by decide +kernel
theorem dX3_checkGroupNotEmpty_18 : decode cX3_checkGroupNotEmpty 18 = .ok (.astore 4, 2) := by decide +kernel
theorem dX3_checkGroupNotEmpty_20 : decode cX3_checkGroupNotEmpty 20 = .ok (.aload 4, 2) := by decide +kernel
theorem dX3_checkGroupNotEmpty_22 : decode cX3_checkGroupNotEmpty 22 = .ok (.ifnull 12, 3) := by decide +kernel
theorem dX3_checkGroupNotEmpty_25 : decode cX3_checkGroupNotEmpty 25 = .ok (.aload 4, 2) := by decide +kernel
theorem dX3_checkGroupNotEmpty_27 : decode cX3_checkGroupNotEmpty 27 = .ok (.getfield 101, 3) := by decide +kernel
theorem dX3_checkGroupNotEmpty_30 : decode cX3_checkGroupNotEmpty 30 = .ok (.ifCond .eq 4, 3) := by decide +kernel
theorem dX3_checkGroupNotEmpty_33 : decode cX3_checkGroupNotEmpty 33 = .ok (.return_, 1) := by decide +kernel
theorem dX3_checkGroupNotEmpty_34 : decode cX3_checkGroupNotEmpty 34 = .ok (.iinc 3 1, 3) := by decide +kernel
theorem dX3_checkGroupNotEmpty_37 : decode cX3_checkGroupNotEmpty 37 = .ok (.goto (-27), 3) := by decide +kernel
theorem dX3_checkGroupNotEmpty_40 : decode cX3_checkGroupNotEmpty 40 = .ok (.new 38, 3) := by decide +kernel
theorem dX3_checkGroupNotEmpty_43 : decode cX3_checkGroupNotEmpty 43 = .ok (.dup, 1) := by decide +kernel
theorem dX3_checkGroupNotEmpty_44 : decode cX3_checkGroupNotEmpty 44 = .ok (.ldc 146, 2) := by decide +kernel
theorem dX3_checkGroupNotEmpty_46 : decode cX3_checkGroupNotEmpty 46 = .ok (.invokespecial 42, 3) := by decide +kernel
theorem dX3_checkGroupNotEmpty_49 : decode cX3_checkGroupNotEmpty 49 = .ok (.athrow, 1) := by decide +kernel
set_option maxRecDepth 20000 in
theorem ggX3_groupSettlement_X3_groupLoad : GoodIn wsX3_groupSettlement wsX3_groupLoad := goodIn_r _ [6, 7, 8, 9, 10, 11, 12, 13, 14, 15, 16, 17, 18, 19, 20, 21, 22, 23, 24, 25, 26, 27, 28, 29, 30, 31, 32, 33, 34, 35, 36, 37, 38, 39, 40, 41, 42, 43, 44, 45, 5, 46, 47, 48, 49, 50, 51, 52, 53, 54, 55, 56, 57, 58, 59, 60, 61, 62, 63, 64, 65, 66, 67] (by decide +kernel) (by decide +kernel)
set_option maxRecDepth 20000 in
theorem gX3_groupSettlement_X3_groupLoad : GoodIn wsX3_groupSettlement (wsV RX3 148 RX3 yX3_groupLoad wsX3_groupLoad) := goodIn_app (goodIn_of _ (by decide +kernel)) ggX3_groupSettlement_X3_groupLoad
theorem dX3_groupSettlement_0 : decode cX3_groupSettlement 0 = .ok (.aload_n 0, 1) := by decide +kernel
theorem dX3_groupSettlement_1 : decode cX3_groupSettlement 1 = .ok (.iconst 0, 1) := by decide +kernel
theorem dX3_groupSettlement_2 : decode cX3_groupSettlement 2 = .ok (.invokevirtual 148, 3) := by decide +kernel
theorem dX3_groupSettlement_5 : decode cX3_groupSettlement 5 = .ok (.iload_n 1, 1) := by decide +kernel
theorem dX3_groupSettlement_6 : decode cX3_groupSettlement 6 = .ok (.i2l, 1) := by decide +kernel
theorem dX3_groupSettlement_7 : decode cX3_groupSettlement 7 = .ok (.lcmp, 1) := by decide +kernel
theorem dX3_groupSettlement_8 : decode cX3_groupSettlement 8 = .ok (.ifCond .gt 16, 3) := by decide +kernel
theorem dX3_groupSettlement_11 : decode cX3_groupSettlement 11 = .ok (.aload_n 0, 1) := by decide +kernel
theorem dX3_groupSettlement_12 : decode cX3_groupSettlement 12 = .ok (.sipush 10000, 3) := by decide +kernel
theorem dX3_groupSettlement_15 : decode cX3_groupSettlement 15 = .ok (.invokevirtual 148, 3) := by decide +kernel
theorem dX3_groupSettlement_18 : decode cX3_groupSettlement 18 = .ok (.iload_n 1, 1) := by decide +kernel
theorem dX3_groupSettlement_19 : decode cX3_groupSettlement 19 = .ok (.i2l, 1) := by decide +kernel
theorem dX3_groupSettlement_20 : decode cX3_groupSettlement 20 = .ok (.lcmp, 1) := by decide +kernel
theorem dX3_groupSettlement_21 : decode cX3_groupSettlement 21 = .ok (.ifCond .gt 6, 3) := by decide +kernel
theorem dX3_groupSettlement_24 : decode cX3_groupSettlement 24 = .ok (.ldc 84, 2) := by decide +kernel
theorem dX3_groupSettlement_26 : decode cX3_groupSettlement 26 = .ok (.ireturn, 1) := by decide +kernel
theorem dX3_groupSettlement_27 : decode cX3_groupSettlement 27 = .ok (.iconst 0, 1) := by decide +kernel
theorem dX3_groupSettlement_28 : decode cX3_groupSettlement 28 = .ok (.istore_n 2, 1) := by decide +kernel
theorem dX3_groupSettlement_29 : decode cX3_groupSettlement 29 = .ok (.sipush 8192, 3) := by decide +kernel
theorem dX3_groupSettlement_32 : decode cX3_groupSettlement 32 = .ok (.istore_n 3, 1) := by decide +kernel
theorem dX3_groupSettlement_33 : decode cX3_groupSettlement 33 = .ok (.iload_n 3, 1) := by decide +kernel
theorem dX3_groupSettlement_34 : decode cX3_groupSettlement 34 = .ok (.ifCond .le 38, 3) := by decide +kernel
theorem dX3_groupSettlement_37 : decode cX3_groupSettlement 37 = .ok (.iload_n 2, 1) := by decide +kernel
theorem dX3_groupSettlement_38 : decode cX3_groupSettlement 38 = .ok (.iload_n 3, 1) := by decide +kernel
theorem dX3_groupSettlement_39 : decode cX3_groupSettlement 39 = .ok (.iadd, 1) := by decide +kernel
theorem dX3_groupSettlement_40 : decode cX3_groupSettlement 40 = .ok (.istore 4, 2) := by decide +kernel
theorem dX3_groupSettlement_42 : decode cX3_groupSettlement 42 = .ok (.iload 4, 2) := by decide +kernel
theorem dX3_groupSettlement_44 : decode cX3_groupSettlement 44 = .ok (.sipush 10000, 3) := by decide +kernel
theorem dX3_groupSettlement_47 : decode cX3_groupSettlement 47 = .ok (.if_icmp .ge 18, 3) := by decide +kernel
theorem dX3_groupSettlement_50 : decode cX3_groupSettlement 50 = .ok (.aload_n 0, 1) := by decide +kernel
theorem dX3_groupSettlement_51 : decode cX3_groupSettlement 51 = .ok (.iload 4, 2) := by decide +kernel
theorem dX3_groupSettlement_53 : decode cX3_groupSettlement 53 = .ok (.invokevirtual 148, 3) := by decide +kernel
theorem dX3_groupSettlement_56 : decode cX3_groupSettlement 56 = .ok (.iload_n 1, 1) := by decide +kernel
theorem dX3_groupSettlement_57 : decode cX3_groupSettlement 57 = .ok (.i2l, 1) := by decide +kernel
theorem dX3_groupSettlement_58 : decode cX3_groupSettlement 58 = .ok (.lcmp, 1) := by decide +kernel
theorem dX3_groupSettlement_59 : decode cX3_groupSettlement 59 = .ok (.ifCond .gt 6, 3) := by decide +kernel
theorem dX3_groupSettlement_62 : decode cX3_groupSettlement 62 = .ok (.iload 4, 2) := by decide +kernel
theorem dX3_groupSettlement_64 : decode cX3_groupSettlement 64 = .ok (.istore_n 2, 1) := by decide +kernel
theorem dX3_groupSettlement_65 : decode cX3_groupSettlement 65 = .ok (.iload_n 3, 1) := by decide +kernel
theorem dX3_groupSettlement_66 : decode cX3_groupSettlement 66 = .ok (.iconst 2, 1) := by decide +kernel
theorem dX3_groupSettlement_67 : decode cX3_groupSettlement 67 = .ok (.idiv, 1) := by decide +kernel
theorem dX3_groupSettlement_68 : decode cX3_groupSettlement 68 = .ok (.istore_n 3, 1) := by decide +kernel
theorem dX3_groupSettlement_69 : decode cX3_groupSettlement 69 = .ok (.goto (-36), 3) := by decide +kernel
theorem dX3_groupSettlement_72 : decode cX3_groupSettlement 72 = .ok (.iload_n 2, 1) := by decide +kernel
theorem dX3_groupSettlement_73 : decode cX3_groupSettlement 73 = .ok (.ireturn, 1) := by decide +kernel
set_option maxRecDepth 20000 in
theorem ggX3_groupLoad_X2_findAt : GoodIn wsX3_groupLoad wsX2_findAt := goodIn_r _ [10, 11, 12, 13, 9, 14, 15, 16, 17, 18, 19, 20, 21, 22, 23, 24, 25, 26, 27, 28, 29, 30, 31, 32, 33, 34, 35, 36, 37, 38, 39, 40, 41, 42, 43, 44, 45, 59, 60, 61, 62, 50, 51, 52, 53, 54, 55, 56, 57, 58] (by decide +kernel) (by decide +kernel)
set_option maxRecDepth 20000 in
theorem gX3_groupLoad_X2_findAt : GoodIn wsX3_groupLoad (wsV RX3 95 RX2 yX2_findAt wsX2_findAt) := goodIn_app (goodIn_of _ (by decide +kernel)) ggX3_groupLoad_X2_findAt
theorem dX3_groupLoad_0 : decode cX3_groupLoad 0 = .ok (.lconst 0, 1) := by decide +kernel
theorem dX3_groupLoad_1 : decode cX3_groupLoad 1 = .ok (.lstore_n 2, 1) := by decide +kernel
theorem dX3_groupLoad_2 : decode cX3_groupLoad 2 = .ok (.aload_n 0, 1) := by decide +kernel
theorem dX3_groupLoad_3 : decode cX3_groupLoad 3 = .ok (.getfield 11, 3) := by decide +kernel
theorem dX3_groupLoad_6 : decode cX3_groupLoad 6 = .ok (.astore 4, 2) := by decide +kernel
theorem dX3_groupLoad_8 : decode cX3_groupLoad 8 = .ok (.aload 4, 2) := by decide +kernel
theorem dX3_groupLoad_10 : decode cX3_groupLoad 10 = .ok (.arraylength, 1) := by decide +kernel
theorem dX3_groupLoad_11 : decode cX3_groupLoad 11 = .ok (.istore 5, 2) := by decide +kernel
theorem dX3_groupLoad_13 : decode cX3_groupLoad 13 = .ok (.iconst 0, 1) := by decide +kernel
theorem dX3_groupLoad_14 : decode cX3_groupLoad 14 = .ok (.istore 6, 2) := by decide +kernel
theorem dX3_groupLoad_16 : decode cX3_groupLoad 16 = .ok (.iload 6, 2) := by decide +kernel
theorem dX3_groupLoad_18 : decode cX3_groupLoad 18 = .ok (.iload 5, 2) := by decide +kernel
theorem dX3_groupLoad_20 : decode cX3_groupLoad 20 = .ok (.if_icmp .ge 60, 3) := by decide +kernel
theorem dX3_groupLoad_23 : decode cX3_groupLoad 23 = .ok (.aload 4, 2) := by decide +kernel
theorem dX3_groupLoad_25 : decode cX3_groupLoad 25 = .ok (.iload 6, 2) := by decide +kernel
theorem dX3_groupLoad_27 : decode cX3_groupLoad 27 = .ok (.aaload, 1) := by decide +kernel
theorem dX3_groupLoad_28 : decode cX3_groupLoad 28 = .ok (.astore 7, 2) := by decide +kernel
theorem dX3_groupLoad_30 : decode cX3_groupLoad 30 = .ok (.aload 7, 2) := by decide +kernel
theorem dX3_groupLoad_32 : decode cX3_groupLoad 32 = .ok (.ifnull 42, 3) := by decide +kernel
theorem dX3_groupLoad_35 : decode cX3_groupLoad 35 = .ok (.aload 7, 2) := by decide +kernel
theorem dX3_groupLoad_37 : decode cX3_groupLoad 37 = .ok (.getfield 101, 3) := by decide +kernel
theorem dX3_groupLoad_40 : decode cX3_groupLoad 40 = .ok (.ifCond .ne 6, 3) := by decide +kernel
theorem dX3_groupLoad_43 : decode cX3_groupLoad 43 = .ok (.goto 31, 3) := by decide +kernel
theorem dX3_groupLoad_46 : decode cX3_groupLoad 46 = .ok (.aload_n 0, 1) := by decide +kernel
theorem dX3_groupLoad_47 : decode cX3_groupLoad 47 = .ok (.getfield 18, 3) := by decide +kernel
theorem dX3_groupLoad_50 : decode cX3_groupLoad 50 = .ok (.aload 7, 2) := by decide +kernel
theorem dX3_groupLoad_52 : decode cX3_groupLoad 52 = .ok (.iload_n 1, 1) := by decide +kernel
theorem dX3_groupLoad_53 : decode cX3_groupLoad 53 = .ok (.invokevirtual 95, 3) := by decide +kernel
theorem dX3_groupLoad_56 : decode cX3_groupLoad 56 = .ok (.ifCond .ne 7, 3) := by decide +kernel
theorem dX3_groupLoad_59 : decode cX3_groupLoad 59 = .ok (.ldc2_w 152, 3) := by decide +kernel
theorem dX3_groupLoad_62 : decode cX3_groupLoad 62 = .ok (.lreturn, 1) := by decide +kernel
theorem dX3_groupLoad_63 : decode cX3_groupLoad 63 = .ok (.lload_n 2, 1) := by decide +kernel
theorem dX3_groupLoad_64 : decode cX3_groupLoad 64 = .ok (.aload_n 0, 1) := by decide +kernel
theorem dX3_groupLoad_65 : decode cX3_groupLoad 65 = .ok (.getfield 18, 3) := by decide +kernel
theorem dX3_groupLoad_68 : decode cX3_groupLoad 68 = .ok (.getfield 91, 3) := by decide +kernel
theorem dX3_groupLoad_71 : decode cX3_groupLoad 71 = .ok (.i2l, 1) := by decide +kernel
theorem dX3_groupLoad_72 : decode cX3_groupLoad 72 = .ok (.ladd, 1) := by decide +kernel
theorem dX3_groupLoad_73 : decode cX3_groupLoad 73 = .ok (.lstore_n 2, 1) := by decide +kernel
theorem dX3_groupLoad_74 : decode cX3_groupLoad 74 = .ok (.iinc 6 1, 3) := by decide +kernel
theorem dX3_groupLoad_77 : decode cX3_groupLoad 77 = .ok (.goto (-61), 3) := by decide +kernel
theorem dX3_groupLoad_80 : decode cX3_groupLoad 80 = .ok (.lload_n 2, 1) := by decide +kernel
theorem dX3_groupLoad_81 : decode cX3_groupLoad 81 = .ok (.lreturn, 1) := by decide +kernel
theorem dX3_clamp_0 : decode cX3_clamp 0 = .ok (.lload_n 0, 1) := by decide +kernel
theorem dX3_clamp_1 : decode cX3_clamp 1 = .ok (.iload_n 2, 1) := by decide +kernel
theorem dX3_clamp_2 : decode cX3_clamp 2 = .ok (.i2l, 1) := by decide +kernel
theorem dX3_clamp_3 : decode cX3_clamp 3 = .ok (.lcmp, 1) := by decide +kernel
theorem dX3_clamp_4 : decode cX3_clamp 4 = .ok (.ifCond .ge 5, 3) := by decide +kernel
theorem dX3_clamp_7 : decode cX3_clamp 7 = .ok (.iload_n 2, 1) := by decide +kernel
theorem dX3_clamp_8 : decode cX3_clamp 8 = .ok (.ireturn, 1) := by decide +kernel
theorem dX3_clamp_9 : decode cX3_clamp 9 = .ok (.lload_n 0, 1) := by decide +kernel
theorem dX3_clamp_10 : decode cX3_clamp 10 = .ok (.iload_n 3, 1) := by decide +kernel
theorem dX3_clamp_11 : decode cX3_clamp 11 = .ok (.i2l, 1) := by decide +kernel
theorem dX3_clamp_12 : decode cX3_clamp 12 = .ok (.lcmp, 1) := by decide +kernel
theorem dX3_clamp_13 : decode cX3_clamp 13 = .ok (.ifCond .le 7, 3) := by decide +kernel
theorem dX3_clamp_16 : decode cX3_clamp 16 = .ok (.iload_n 3, 1) := by decide +kernel
theorem dX3_clamp_17 : decode cX3_clamp 17 = .ok (.goto 5, 3) := by decide +kernel
theorem dX3_clamp_20 : decode cX3_clamp 20 = .ok (.lload_n 0, 1) := by decide +kernel
theorem dX3_clamp_21 : decode cX3_clamp 21 = .ok (.l2i, 1) := by decide +kernel
theorem dX3_clamp_22 : decode cX3_clamp 22 = .ok (.ireturn, 1) := by decide +kernel
abbrev vwCl : List vw_C := [(RX0, TX0, 6), (RX1, TX1, 9), (RX2, TX2, 4), (RX3, TX3, 4), (RX4, TX4, 19)]
