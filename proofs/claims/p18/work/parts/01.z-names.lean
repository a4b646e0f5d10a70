def RX0 : String := "EdgeCode$Edition"
def TX0 : u_T := fun k => match k with
  | _ => ("EdgeCode$Edition", "values", "[I", true)
def tyX0 : Nat → FieldType := fun k => match k with
  | _ => .array .int
abbrev wsX00 : List Cond := u_ws RX0 TX0 1
theorem nmX0 : ∀ a, a < 1 → ∀ b, b < 1 → a ≠ b → (TX0 a).2.1 ≠ (TX0 b).2.1 := by decide +kernel
theorem tyX0_ok : ∀ k, k < 1 → parseFieldDescriptor (TX0 k).2.2.1 = some (tyX0 k) := by decide +kernel
abbrev cX0_init : ByteArray := prog_2_method_1_code
def yX0_init : MethodName := ⟨RX0, "<init>", "()V"⟩
abbrev cX0_hasValue : ByteArray := prog_2_method_2_code
def yX0_hasValue : MethodName := ⟨RX0, "hasValue", "(II)Z"⟩
abbrev cX0_valueOf : ByteArray := prog_2_method_3_code
def yX0_valueOf : MethodName := ⟨RX0, "valueOf", "(II)I"⟩
abbrev cX0_replace : ByteArray := prog_2_method_4_code
def yX0_replace : MethodName := ⟨RX0, "replace", "(III)I"⟩
def RX1 : String := "EdgeCode$Element"
def TX1 : u_T := fun k => match k with
  | 0 => ("EdgeCode$Element", "kind", "I", true)
  | 1 => ("EdgeCode$Element", "turns", "I", true)
  | 2 => ("EdgeCode$Element", "isWrongEdge", "Z", true)
  | 3 => ("EdgeCode$Element", "isLate", "Z", true)
  | 4 => ("EdgeCode$Element", "isFall", "Z", true)
  | 5 => ("EdgeCode$Element", "isCounted", "Z", true)
  | 6 => ("EdgeCode$Element", "calls", "LEdgeCode$Votes;", true)
  | _ => ("EdgeCode$Element", "grades", "LEdgeCode$Votes;", true)
def tyX1 : Nat → FieldType := fun k => match k with
  | 0 => .int
  | 1 => .int
  | 2 => .boolean
  | 3 => .boolean
  | 4 => .boolean
  | 5 => .boolean
  | 6 => .object "EdgeCode$Votes"
  | _ => .object "EdgeCode$Votes"
abbrev wsX10 : List Cond := u_ws RX1 TX1 8
theorem nmX1 : ∀ a, a < 8 → ∀ b, b < 8 → a ≠ b → (TX1 a).2.1 ≠ (TX1 b).2.1 := by decide +kernel
theorem tyX1_ok : ∀ k, k < 8 → parseFieldDescriptor (TX1 k).2.2.1 = some (tyX1 k) := by decide +kernel
abbrev cX1_init : ByteArray := prog_3_method_1_code
def yX1_init : MethodName := ⟨RX1, "<init>", "(IIZZZZ)V"⟩
abbrev cX1_quarters : ByteArray := prog_3_method_2_code
def yX1_quarters : MethodName := ⟨RX1, "quarters", "()I"⟩
abbrev cX1_baseBy : ByteArray := prog_3_method_3_code
def yX1_baseBy : MethodName := ⟨RX1, "baseBy", "(LEdgeCode$Edition;)I"⟩
abbrev cX1_scoreBy : ByteArray := prog_3_method_4_code
def yX1_scoreBy : MethodName := ⟨RX1, "scoreBy", "(LEdgeCode$Edition;)I"⟩
def RX2 : String := "EdgeCode$Programme"
def TX2 : u_T := fun k => match k with
  | 0 => ("EdgeCode$Programme", "elements", "[LEdgeCode$Element;", true)
  | 1 => ("EdgeCode$Programme", "components", "[LEdgeCode$Votes;", true)
  | 2 => ("EdgeCode$Programme", "hasBegun", "Z", false)
  | 3 => ("EdgeCode$Programme", "hasEnded", "Z", false)
  | 4 => ("EdgeCode$Programme", "foot", "I", false)
  | 5 => ("EdgeCode$Programme", "edge", "I", false)
  | 6 => ("EdgeCode$Programme", "way", "I", false)
  | 7 => ("EdgeCode$Programme", "seconds", "I", false)
  | 8 => ("EdgeCode$Programme", "count", "I", false)
  | 9 => ("EdgeCode$Programme", "jumps", "I", false)
  | 10 => ("EdgeCode$Programme", "falls", "I", false)
  | _ => ("EdgeCode$Programme", "usedFeatures", "I", false)
def tyX2 : Nat → FieldType := fun k => match k with
  | 0 => .array (.object "EdgeCode$Element")
  | 1 => .array (.object "EdgeCode$Votes")
  | 2 => .boolean
  | 3 => .boolean
  | 4 => .int
  | 5 => .int
  | 6 => .int
  | 7 => .int
  | 8 => .int
  | 9 => .int
  | 10 => .int
  | _ => .int
abbrev wsX20 : List Cond := u_ws RX2 TX2 12
theorem nmX2 : ∀ a, a < 12 → ∀ b, b < 12 → a ≠ b → (TX2 a).2.1 ≠ (TX2 b).2.1 := by decide +kernel
theorem tyX2_ok : ∀ k, k < 12 → parseFieldDescriptor (TX2 k).2.2.1 = some (tyX2 k) := by decide +kernel
abbrev cX2_init : ByteArray := prog_4_method_1_code
def yX2_init : MethodName := ⟨RX2, "<init>", "()V"⟩
abbrev cX2_elementAt : ByteArray := prog_4_method_2_code
def yX2_elementAt : MethodName := ⟨RX2, "elementAt", "(I)LEdgeCode$Element;"⟩
abbrev cX2_componentAt : ByteArray := prog_4_method_3_code
def yX2_componentAt : MethodName := ⟨RX2, "componentAt", "(I)LEdgeCode$Votes;"⟩
abbrev cX2_hasTime : ByteArray := prog_4_method_4_code
def yX2_hasTime : MethodName := ⟨RX2, "hasTime", "()Z"⟩
abbrev cX2_hasRoom : ByteArray := prog_4_method_5_code
def yX2_hasRoom : MethodName := ⟨RX2, "hasRoom", "()Z"⟩
abbrev cX2_skateTurn : ByteArray := prog_4_method_6_code
def yX2_skateTurn : MethodName := ⟨RX2, "skateTurn", "(I)I"⟩
abbrev cX2_canTakeOff : ByteArray := prog_4_method_7_code
def yX2_canTakeOff : MethodName := ⟨RX2, "canTakeOff", "(I)Z"⟩
abbrev cX2_isWrongEdge : ByteArray := prog_4_method_8_code
def yX2_isWrongEdge : MethodName := ⟨RX2, "isWrongEdge", "(I)Z"⟩
abbrev cX2_skateJump : ByteArray := prog_4_method_9_code
def yX2_skateJump : MethodName := ⟨RX2, "skateJump", "(IIZ)I"⟩
abbrev cX2_skateSpin : ByteArray := prog_4_method_10_code
def yX2_skateSpin : MethodName := ⟨RX2, "skateSpin", "(II)I"⟩
abbrev cX2_add : ByteArray := prog_4_method_11_code
def yX2_add : MethodName := ⟨RX2, "add", "(LEdgeCode$Element;)I"⟩
abbrev cX2_landOn : ByteArray := prog_4_method_12_code
def yX2_landOn : MethodName := ⟨RX2, "landOn", "(I)V"⟩
abbrev cX2_likeJumps : ByteArray := prog_4_method_13_code
def yX2_likeJumps : MethodName := ⟨RX2, "likeJumps", "(II)I"⟩
abbrev cX2_elementScoresBy : ByteArray := prog_4_method_14_code
def yX2_elementScoresBy : MethodName := ⟨RX2, "elementScoresBy", "(LEdgeCode$Edition;)I"⟩
abbrev cX2_componentScore : ByteArray := prog_4_method_15_code
def yX2_componentScore : MethodName := ⟨RX2, "componentScore", "(LEdgeCode$Votes;)I"⟩
abbrev cX2_componentScores : ByteArray := prog_4_method_16_code
def yX2_componentScores : MethodName := ⟨RX2, "componentScores", "()I"⟩
abbrev cX2_fine : ByteArray := prog_4_method_17_code
def yX2_fine : MethodName := ⟨RX2, "fine", "()I"⟩
abbrev cX2_totalOf : ByteArray := prog_4_method_18_code
def yX2_totalOf : MethodName := ⟨RX2, "totalOf", "(I)I"⟩
abbrev cX2_isSumRight : ByteArray := prog_4_method_19_code
def yX2_isSumRight : MethodName := ⟨RX2, "isSumRight", "(LEdgeCode$Edition;)Z"⟩
def RX3 : String := "EdgeCode$Votes"
def TX3 : u_T := fun k => match k with
  | 0 => ("EdgeCode$Votes", "numbers", "[I", true)
  | 1 => ("EdgeCode$Votes", "isTold", "[Z", true)
  | 2 => ("EdgeCode$Votes", "count", "I", false)
  | 3 => ("EdgeCode$Votes", "sum", "I", false)
  | 4 => ("EdgeCode$Votes", "least", "I", false)
  | _ => ("EdgeCode$Votes", "greatest", "I", false)
def tyX3 : Nat → FieldType := fun k => match k with
  | 0 => .array .int
  | 1 => .array .boolean
  | 2 => .int
  | 3 => .int
  | 4 => .int
  | _ => .int
abbrev wsX30 : List Cond := u_ws RX3 TX3 6
theorem nmX3 : ∀ a, a < 6 → ∀ b, b < 6 → a ≠ b → (TX3 a).2.1 ≠ (TX3 b).2.1 := by decide +kernel
theorem tyX3_ok : ∀ k, k < 6 → parseFieldDescriptor (TX3 k).2.2.1 = some (tyX3 k) := by decide +kernel
abbrev cX3_init : ByteArray := prog_5_method_1_code
def yX3_init : MethodName := ⟨RX3, "<init>", "()V"⟩
abbrev cX3_isSeat : ByteArray := prog_5_method_2_code
def yX3_isSeat : MethodName := ⟨RX3, "isSeat", "(I)Z"⟩
abbrev cX3_tell : ByteArray := prog_5_method_3_code
def yX3_tell : MethodName := ⟨RX3, "tell", "(II)V"⟩
abbrev cX3_recount : ByteArray := prog_5_method_4_code
def yX3_recount : MethodName := ⟨RX3, "recount", "()V"⟩
abbrev cX3_trimmedMean : ByteArray := prog_5_method_6_code
def yX3_trimmedMean : MethodName := ⟨RX3, "trimmedMean", "()D"⟩
abbrev cX3_middle : ByteArray := prog_5_method_7_code
def yX3_middle : MethodName := ⟨RX3, "middle", "()I"⟩
def RX4 : String := "EdgeCode"
def TX4 : u_T := fun k => match k with
  | 0 => ("EdgeCode", "programmes", "[LEdgeCode$Programme;", true)
  | 1 => ("EdgeCode", "editions", "[LEdgeCode$Edition;", true)
  | 2 => ("EdgeCode", "rankedTotals", "[I", true)
  | 3 => ("EdgeCode", "rankedElementScores", "[I", true)
  | 4 => ("EdgeCode", "skaters", "I", false)
  | _ => ("EdgeCode", "goingOn", "LEdgeCode$Programme;", false)
def tyX4 : Nat → FieldType := fun k => match k with
  | 0 => .array (.object "EdgeCode$Programme")
  | 1 => .array (.object "EdgeCode$Edition")
  | 2 => .array .int
  | 3 => .array .int
  | 4 => .int
  | _ => .object "EdgeCode$Programme"
abbrev wsX40 : List Cond := u_ws RX4 TX4 6
theorem nmX4 : ∀ a, a < 6 → ∀ b, b < 6 → a ≠ b → (TX4 a).2.1 ≠ (TX4 b).2.1 := by decide +kernel
theorem tyX4_ok : ∀ k, k < 6 → parseFieldDescriptor (TX4 k).2.2.1 = some (tyX4 k) := by decide +kernel
abbrev cX4_init : ByteArray := prog_1_method_1_code
def yX4_init : MethodName := ⟨RX4, "<init>", "()V"⟩
abbrev cX4_skater : ByteArray := prog_1_method_2_code
def yX4_skater : MethodName := ⟨RX4, "skater", "()I"⟩
abbrev cX4_begin : ByteArray := prog_1_method_3_code
def yX4_begin : MethodName := ⟨RX4, "begin", "(I)V"⟩
abbrev cX4_turn : ByteArray := prog_1_method_4_code
def yX4_turn : MethodName := ⟨RX4, "turn", "(I)I"⟩
abbrev cX4_jump : ByteArray := prog_1_method_5_code
def yX4_jump : MethodName := ⟨RX4, "jump", "(IIZ)I"⟩
abbrev cX4_spin : ByteArray := prog_1_method_6_code
def yX4_spin : MethodName := ⟨RX4, "spin", "(II)I"⟩
abbrev cX4_end : ByteArray := prog_1_method_7_code
def yX4_end : MethodName := ⟨RX4, "end", "()I"⟩
abbrev cX4_call : ByteArray := prog_1_method_8_code
def yX4_call : MethodName := ⟨RX4, "call", "(III)I"⟩
abbrev cX4_grade : ByteArray := prog_1_method_9_code
def yX4_grade : MethodName := ⟨RX4, "grade", "(IIII)V"⟩
abbrev cX4_component : ByteArray := prog_1_method_10_code
def yX4_component : MethodName := ⟨RX4, "component", "(IIII)V"⟩
abbrev cX4_value : ByteArray := prog_1_method_11_code
def yX4_value : MethodName := ⟨RX4, "value", "(IIII)I"⟩
abbrev cX4_element : ByteArray := prog_1_method_12_code
def yX4_element : MethodName := ⟨RX4, "element", "(IIII)I"⟩
abbrev cX4_programme : ByteArray := prog_1_method_13_code
def yX4_programme : MethodName := ⟨RX4, "programme", "(III)I"⟩
abbrev cX4_starts : ByteArray := prog_1_method_14_code
def yX4_starts : MethodName := ⟨RX4, "starts", "(II)I"⟩
abbrev cX4_addsUp : ByteArray := prog_1_method_16_code
def yX4_addsUp : MethodName := ⟨RX4, "addsUp", "()Z"⟩
abbrev cX4_isIn : ByteArray := prog_1_method_17_code
def yX4_isIn : MethodName := ⟨RX4, "isIn", "(III)Z"⟩
abbrev cX4_nearest : ByteArray := prog_1_method_18_code
def yX4_nearest : MethodName := ⟨RX4, "nearest", "(D)I"⟩
abbrev cX4_programmeOf : ByteArray := prog_1_method_19_code
def yX4_programmeOf : MethodName := ⟨RX4, "programmeOf", "(I)LEdgeCode$Programme;"⟩
abbrev cX4_editionAt : ByteArray := prog_1_method_20_code
def yX4_editionAt : MethodName := ⟨RX4, "editionAt", "(I)LEdgeCode$Edition;"⟩
abbrev cX4_fillRanking : ByteArray := prog_1_method_21_code
def yX4_fillRanking : MethodName := ⟨RX4, "fillRanking", "(LEdgeCode$Edition;)V"⟩
abbrev cX4_isRankPlace : ByteArray := prog_1_method_22_code
def yX4_isRankPlace : MethodName := ⟨RX4, "isRankPlace", "(I)Z"⟩
abbrev cX4_isRanked : ByteArray := prog_1_method_23_code
def yX4_isRanked : MethodName := ⟨RX4, "isRanked", "(I)Z"⟩
abbrev cX4_isAhead : ByteArray := prog_1_method_24_code
def yX4_isAhead : MethodName := ⟨RX4, "isAhead", "(II)Z"⟩
abbrev cX4_rankOf : ByteArray := prog_1_method_25_code
def yX4_rankOf : MethodName := ⟨RX4, "rankOf", "(I)I"⟩
abbrev cX4_howManyRanked : ByteArray := prog_1_method_26_code
def yX4_howManyRanked : MethodName := ⟨RX4, "howManyRanked", "()I"⟩
abbrev cX4_skaterOfRank : ByteArray := prog_1_method_27_code
def yX4_skaterOfRank : MethodName := ⟨RX4, "skaterOfRank", "(I)I"⟩
abbrev cX4_unrankedSkater : ByteArray := prog_1_method_28_code
def yX4_unrankedSkater : MethodName := ⟨RX4, "unrankedSkater", "(I)I"⟩
def RX5 : String := "EdgeCodeModel"
def TX5 : u_T := fun k => match k with
  | _ => ("", "", "", false)
def tyX5 : Nat → FieldType := fun k => match k with
  | _ => .int
abbrev wsX50 : List Cond := u_ws RX5 TX5 0
theorem nmX5 : ∀ a, a < 0 → ∀ b, b < 0 → a ≠ b → (TX5 a).2.1 ≠ (TX5 b).2.1 := by decide +kernel
theorem tyX5_ok : ∀ k, k < 0 → parseFieldDescriptor (TX5 k).2.2.1 = some (tyX5 k) := by decide +kernel
def RJx8e188 : String := "java/lang/Cloneable"
def TJx8e188 : u_T := fun k => match k with
  | _ => ("", "", "", false)
def tyJx8e188 : Nat → FieldType := fun k => match k with
  | _ => .int
theorem nmJx8e188 : ∀ a, a < 0 → ∀ b, b < 0 → a ≠ b → (TJx8e188 a).2.1 ≠ (TJx8e188 b).2.1 := by decide +kernel
theorem tyJx8e188_ok : ∀ k, k < 0 → parseFieldDescriptor (TJx8e188 k).2.2.1 = some (tyJx8e188 k) := by decide +kernel
def RJ6 : String := "java/lang/Integer"
def TJ6 : u_T := fun k => match k with
  | _ => ("", "", "", false)
def tyJ6 : Nat → FieldType := fun k => match k with
  | _ => .int
theorem nmJ6 : ∀ a, a < 0 → ∀ b, b < 0 → a ≠ b → (TJ6 a).2.1 ≠ (TJ6 b).2.1 := by decide +kernel
theorem tyJ6_ok : ∀ k, k < 0 → parseFieldDescriptor (TJ6 k).2.2.1 = some (tyJ6 k) := by decide +kernel
abbrev cJ6_bitCount_0f7a4 : ByteArray := prog_13_method_49_code
def yJ6_bitCount_0f7a4 : MethodName := ⟨RJ6, "bitCount", "(I)I"⟩
def RJ9 : String := "java/lang/Math"
def TJ9 : u_T := fun k => match k with
  | _ => ("", "", "", false)
def tyJ9 : Nat → FieldType := fun k => match k with
  | _ => .int
theorem nmJ9 : ∀ a, a < 0 → ∀ b, b < 0 → a ≠ b → (TJ9 a).2.1 ≠ (TJ9 b).2.1 := by decide +kernel
theorem tyJ9_ok : ∀ k, k < 0 → parseFieldDescriptor (TJ9 k).2.2.1 = some (tyJ9 k) := by decide +kernel
abbrev cJ9_max_7cf53 : ByteArray := prog_14_method_65_code
def yJ9_max_7cf53 : MethodName := ⟨RJ9, "max", "(II)I"⟩
abbrev cJ9_min_7cf53 : ByteArray := prog_14_method_69_code
def yJ9_min_7cf53 : MethodName := ⟨RJ9, "min", "(II)I"⟩
def RJ0 : String := "java/lang/String"
def TJ0 : u_T := fun k => match k with
  | _ => ("", "", "", false)
def tyJ0 : Nat → FieldType := fun k => match k with
  | _ => .int
theorem nmJ0 : ∀ a, a < 0 → ∀ b, b < 0 → a ≠ b → (TJ0 a).2.1 ≠ (TJ0 b).2.1 := by decide +kernel
theorem tyJ0_ok : ∀ k, k < 0 → parseFieldDescriptor (TJ0 k).2.2.1 = some (tyJ0 k) := by decide +kernel
def RL : String := "EdgeCodeLaw"
abbrev cL_cell : ByteArray := method_2_code
def yL_cell : MethodName := ⟨RL, "cell", "([II)I"⟩
abbrev cL_low : ByteArray := method_3_code
def yL_low : MethodName := ⟨RL, "low", "(II)I"⟩
abbrev cL_skates : ByteArray := method_4_code
def yL_skates : MethodName := ⟨RL, "skates", "(LEdgeCode;[III)I"⟩
abbrev cL_law : ByteArray := code
def yL_law : MethodName := ⟨RL, "law", "([I)Z"⟩
abbrev vwCl : List vw_C := [(RX0, TX0, 1), (RX1, TX1, 8), (RX2, TX2, 12), (RX3, TX3, 6), (RX4, TX4, 6)]
