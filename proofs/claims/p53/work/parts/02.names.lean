def RX0 : String := "ScaleInspection$History"
def TX0 : u_T := fun k => match k with
  | 0 => ("ScaleInspection$History", "depth", "I", false)
  | 1 => ("ScaleInspection$History", "next", "I", false)
  | 2 => ("ScaleInspection$History", "kindOf", "[I", true)
  | 3 => ("ScaleInspection$History", "subjectOf", "[I", true)
  | 4 => ("ScaleInspection$History", "heavyOf", "[I", true)
  | 5 => ("ScaleInspection$History", "lightOf", "[I", true)
  | _ => ("ScaleInspection$History", "genuineOf", "[I", true)
def tyX0 : Nat → FieldType := fun k => match k with
  | 0 => .int
  | 1 => .int
  | 2 => .array .int
  | 3 => .array .int
  | 4 => .array .int
  | 5 => .array .int
  | _ => .array .int
abbrev wsX00 : List Cond := u_ws RX0 TX0 7
theorem nmX0 : ∀ a, a < 7 → ∀ b, b < 7 → a ≠ b → (TX0 a).2.1 ≠ (TX0 b).2.1 := by decide +kernel
theorem tyX0_ok : ∀ k, k < 7 → parseFieldDescriptor (TX0 k).2.2.1 = some (tyX0 k) := by decide +kernel
abbrev cX0_init : ByteArray := prog_2_method_1_code
def yX0_init : MethodName := ⟨RX0, "<init>", "()V"⟩
abbrev cX0_clear : ByteArray := prog_2_method_2_code
def yX0_clear : MethodName := ⟨RX0, "clear", "()V"⟩
abbrev cX0_add : ByteArray := prog_2_method_3_code
def yX0_add : MethodName := ⟨RX0, "add", "(II)V"⟩
abbrev cX0_addWeighing : ByteArray := prog_2_method_4_code
def yX0_addWeighing : MethodName := ⟨RX0, "addWeighing", "(ILScaleInspection$WeightBook;)V"⟩
def RX1 : String := "ScaleInspection$LoadFinder"
def TX1 : u_T := fun k => match k with
  | 0 => ("ScaleInspection$LoadFinder", "sumOf", "[I", true)
  | 1 => ("ScaleInspection$LoadFinder", "subsets", "I", false)
  | 2 => ("ScaleInspection$LoadFinder", "ways", "[J", true)
  | 3 => ("ScaleInspection$LoadFinder", "wayCount", "I", false)
  | 4 => ("ScaleInspection$LoadFinder", "sorted", "[J", true)
  | _ => ("ScaleInspection$LoadFinder", "sortedCount", "I", false)
def tyX1 : Nat → FieldType := fun k => match k with
  | 0 => .array .int
  | 1 => .int
  | 2 => .array .long
  | 3 => .int
  | 4 => .array .long
  | _ => .int
abbrev wsX10 : List Cond := u_ws RX1 TX1 6
theorem nmX1 : ∀ a, a < 6 → ∀ b, b < 6 → a ≠ b → (TX1 a).2.1 ≠ (TX1 b).2.1 := by decide +kernel
theorem tyX1_ok : ∀ k, k < 6 → parseFieldDescriptor (TX1 k).2.2.1 = some (tyX1 k) := by decide +kernel
abbrev cX1_init : ByteArray := prog_3_method_1_code
def yX1_init : MethodName := ⟨RX1, "<init>", "()V"⟩
abbrev cX1_learn : ByteArray := prog_3_method_2_code
def yX1_learn : MethodName := ⟨RX1, "learn", "(LScaleInspection$Market;)V"⟩
abbrev cX1_listWays : ByteArray := prog_3_method_7_code
def yX1_listWays : MethodName := ⟨RX1, "listWays", "(LScaleInspection$Market;II)V"⟩
abbrev cX1_sortWays : ByteArray := prog_3_method_8_code
def yX1_sortWays : MethodName := ⟨RX1, "sortWays", "()V"⟩
abbrev cX1_firstNotBelow : ByteArray := prog_3_method_9_code
def yX1_firstNotBelow : MethodName := ⟨RX1, "firstNotBelow", "(J)I"⟩
def RX2 : String := "ScaleInspection$Market"
def TX2 : u_T := fun k => match k with
  | 0 => ("ScaleInspection$Market", "traders", "I", false)
  | 1 => ("ScaleInspection$Market", "scales", "I", false)
  | 2 => ("ScaleInspection$Market", "masses", "I", false)
  | 3 => ("ScaleInspection$Market", "sets", "I", false)
  | 4 => ("ScaleInspection$Market", "traderOf", "[I", true)
  | 5 => ("ScaleInspection$Market", "classOf", "[I", true)
  | 6 => ("ScaleInspection$Market", "divisionOf", "[I", true)
  | 7 => ("ScaleInspection$Market", "capacityOf", "[I", true)
  | 8 => ("ScaleInspection$Market", "valueOf", "[I", true)
  | 9 => ("ScaleInspection$Market", "weightsOf", "[I", true)
  | 10 => ("ScaleInspection$Market", "genuineOf", "[I", true)
  | _ => ("ScaleInspection$Market", "termOf", "[I", true)
def tyX2 : Nat → FieldType := fun k => match k with
  | 0 => .int
  | 1 => .int
  | 2 => .int
  | 3 => .int
  | 4 => .array .int
  | 5 => .array .int
  | 6 => .array .int
  | 7 => .array .int
  | 8 => .array .int
  | 9 => .array .int
  | 10 => .array .int
  | _ => .array .int
abbrev wsX20 : List Cond := u_ws RX2 TX2 12
theorem nmX2 : ∀ a, a < 12 → ∀ b, b < 12 → a ≠ b → (TX2 a).2.1 ≠ (TX2 b).2.1 := by decide +kernel
theorem tyX2_ok : ∀ k, k < 12 → parseFieldDescriptor (TX2 k).2.2.1 = some (tyX2 k) := by decide +kernel
abbrev cX2_init : ByteArray := prog_4_method_1_code
def yX2_init : MethodName := ⟨RX2, "<init>", "()V"⟩
abbrev cX2_clear : ByteArray := prog_4_method_2_code
def yX2_clear : MethodName := ⟨RX2, "clear", "()V"⟩
def RX3 : String := "ScaleInspection$MarketReader"
def TX3 : u_T := fun k => match k with
  | 0 => ("ScaleInspection$MarketReader", "text", "[B", true)
  | 1 => ("ScaleInspection$MarketReader", "size", "I", false)
  | 2 => ("ScaleInspection$MarketReader", "errorAt", "I", false)
  | 3 => ("ScaleInspection$MarketReader", "code", "I", false)
  | 4 => ("ScaleInspection$MarketReader", "end", "I", false)
  | 5 => ("ScaleInspection$MarketReader", "start", "I", false)
  | 6 => ("ScaleInspection$MarketReader", "next", "I", false)
  | _ => ("ScaleInspection$MarketReader", "kind", "I", false)
def tyX3 : Nat → FieldType := fun k => match k with
  | 0 => .array .byte
  | 1 => .int
  | 2 => .int
  | 3 => .int
  | 4 => .int
  | 5 => .int
  | 6 => .int
  | _ => .int
abbrev wsX30 : List Cond := u_ws RX3 TX3 8
theorem nmX3 : ∀ a, a < 8 → ∀ b, b < 8 → a ≠ b → (TX3 a).2.1 ≠ (TX3 b).2.1 := by decide +kernel
theorem tyX3_ok : ∀ k, k < 8 → parseFieldDescriptor (TX3 k).2.2.1 = some (tyX3 k) := by decide +kernel
abbrev cX3_init : ByteArray := prog_5_method_1_code
def yX3_init : MethodName := ⟨RX3, "<init>", "()V"⟩
abbrev cX3_addBytes : ByteArray := prog_5_method_2_code
def yX3_addBytes : MethodName := ⟨RX3, "addBytes", "(I)V"⟩
abbrev cX3_readMarket : ByteArray := prog_5_method_3_code
def yX3_readMarket : MethodName := ⟨RX3, "readMarket", "(ILScaleInspection$Market;)I"⟩
abbrev cX3_readStatement : ByteArray := prog_5_method_4_code
def yX3_readStatement : MethodName := ⟨RX3, "readStatement", "(LScaleInspection$Market;)V"⟩
abbrev cX3_readScale : ByteArray := prog_5_method_5_code
def yX3_readScale : MethodName := ⟨RX3, "readScale", "(LScaleInspection$Market;)V"⟩
abbrev cX3_readMass : ByteArray := prog_5_method_6_code
def yX3_readMass : MethodName := ⟨RX3, "readMass", "(LScaleInspection$Market;)V"⟩
abbrev cX3_readSet : ByteArray := prog_5_method_7_code
def yX3_readSet : MethodName := ⟨RX3, "readSet", "(LScaleInspection$Market;)V"⟩
abbrev cX3_readTerm : ByteArray := prog_5_method_8_code
def yX3_readTerm : MethodName := ⟨RX3, "readTerm", "(LScaleInspection$Market;)V"⟩
abbrev cX3_takeKeyword : ByteArray := prog_5_method_9_code
def yX3_takeKeyword : MethodName := ⟨RX3, "takeKeyword", "(II)V"⟩
abbrev cX3_takeNumber : ByteArray := prog_5_method_10_code
def yX3_takeNumber : MethodName := ⟨RX3, "takeNumber", "(II)I"⟩
abbrev cX3_numberOfToken : ByteArray := prog_5_method_11_code
def yX3_numberOfToken : MethodName := ⟨RX3, "numberOfToken", "()I"⟩
abbrev cX3_takeSemicolon : ByteArray := prog_5_method_12_code
def yX3_takeSemicolon : MethodName := ⟨RX3, "takeSemicolon", "()V"⟩
abbrev cX3_fail : ByteArray := prog_5_method_13_code
def yX3_fail : MethodName := ⟨RX3, "fail", "(I)V"⟩
abbrev cX3_failAt : ByteArray := prog_5_method_14_code
def yX3_failAt : MethodName := ⟨RX3, "failAt", "(II)V"⟩
abbrev cX3_isWord : ByteArray := prog_5_method_15_code
def yX3_isWord : MethodName := ⟨RX3, "isWord", "(Ljava/lang/String;)Z"⟩
abbrev cX3_advance : ByteArray := prog_5_method_16_code
def yX3_advance : MethodName := ⟨RX3, "advance", "()V"⟩
abbrev cX3_passRun : ByteArray := prog_5_method_17_code
def yX3_passRun : MethodName := ⟨RX3, "passRun", "(CC)V"⟩
def RX4 : String := "ScaleInspection$Snapshot"
def TX4 : u_T := fun k => match k with
  | 0 => ("ScaleInspection$Snapshot", "visits", "LScaleInspection$VisitBook;", true)
  | 1 => ("ScaleInspection$Snapshot", "weights", "LScaleInspection$WeightBook;", true)
  | _ => ("ScaleInspection$Snapshot", "stored", "Z", false)
def tyX4 : Nat → FieldType := fun k => match k with
  | 0 => .object "ScaleInspection$VisitBook"
  | 1 => .object "ScaleInspection$WeightBook"
  | _ => .boolean
abbrev wsX40 : List Cond := u_ws RX4 TX4 3
theorem nmX4 : ∀ a, a < 3 → ∀ b, b < 3 → a ≠ b → (TX4 a).2.1 ≠ (TX4 b).2.1 := by decide +kernel
theorem tyX4_ok : ∀ k, k < 3 → parseFieldDescriptor (TX4 k).2.2.1 = some (tyX4 k) := by decide +kernel
abbrev cX4_init : ByteArray := prog_6_method_1_code
def yX4_init : MethodName := ⟨RX4, "<init>", "()V"⟩
def RX5 : String := "ScaleInspection$Solver"
def TX5 : u_T := fun k => match k with
  | 0 => ("ScaleInspection$Solver", "ready", "[Z", true)
  | 1 => ("ScaleInspection$Solver", "splitNeeds", "[I", true)
  | 2 => ("ScaleInspection$Solver", "mixedNeeds", "[I", true)
  | 3 => ("ScaleInspection$Solver", "count", "I", false)
  | 4 => ("ScaleInspection$Solver", "mixed", "Z", false)
  | 5 => ("ScaleInspection$Solver", "genuine", "I", false)
  | 6 => ("ScaleInspection$Solver", "first", "I", false)
  | 7 => ("ScaleInspection$Solver", "second", "I", false)
  | 8 => ("ScaleInspection$Solver", "firstSet", "I", false)
  | 9 => ("ScaleInspection$Solver", "secondSet", "I", false)
  | _ => ("ScaleInspection$Solver", "clearedSet", "I", false)
def tyX5 : Nat → FieldType := fun k => match k with
  | 0 => .array .boolean
  | 1 => .array .int
  | 2 => .array .int
  | 3 => .int
  | 4 => .boolean
  | 5 => .int
  | 6 => .int
  | 7 => .int
  | 8 => .int
  | 9 => .int
  | _ => .int
abbrev wsX50 : List Cond := u_ws RX5 TX5 11
theorem nmX5 : ∀ a, a < 11 → ∀ b, b < 11 → a ≠ b → (TX5 a).2.1 ≠ (TX5 b).2.1 := by decide +kernel
theorem tyX5_ok : ∀ k, k < 11 → parseFieldDescriptor (TX5 k).2.2.1 = some (tyX5 k) := by decide +kernel
abbrev cX5_init : ByteArray := prog_7_method_1_code
def yX5_init : MethodName := ⟨RX5, "<init>", "()V"⟩
abbrev cX5_choose : ByteArray := prog_7_method_2_code
def yX5_choose : MethodName := ⟨RX5, "choose", "(IIII)V"⟩
abbrev cX5_needed : ByteArray := prog_7_method_3_code
def yX5_needed : MethodName := ⟨RX5, "needed", "()I"⟩
abbrev cX5_forgetNeeds : ByteArray := prog_7_method_4_code
def yX5_forgetNeeds : MethodName := ⟨RX5, "forgetNeeds", "()V"⟩
abbrev cX5_fillSplitNeeds : ByteArray := prog_7_method_5_code
def yX5_fillSplitNeeds : MethodName := ⟨RX5, "fillSplitNeeds", "()V"⟩
abbrev cX5_fillMixedNeeds : ByteArray := prog_7_method_6_code
def yX5_fillMixedNeeds : MethodName := ⟨RX5, "fillMixedNeeds", "(I)V"⟩
abbrev cX5_oneMore : ByteArray := prog_7_method_7_code
def yX5_oneMore : MethodName := ⟨RX5, "oneMore", "(I)I"⟩
abbrev cX5_splitAt : ByteArray := prog_7_method_8_code
def yX5_splitAt : MethodName := ⟨RX5, "splitAt", "(II)I"⟩
abbrev cX5_mixedAt : ByteArray := prog_7_method_9_code
def yX5_mixedAt : MethodName := ⟨RX5, "mixedAt", "(I)I"⟩
abbrev cX5_leastWorst : ByteArray := prog_7_method_10_code
def yX5_leastWorst : MethodName := ⟨RX5, "leastWorst", "()I"⟩
abbrev cX5_worst : ByteArray := prog_7_method_11_code
def yX5_worst : MethodName := ⟨RX5, "worst", "(IIII)I"⟩
abbrev cX5_bestWeighing : ByteArray := prog_7_method_12_code
def yX5_bestWeighing : MethodName := ⟨RX5, "bestWeighing", "()I"⟩
abbrev cX5_leftPan : ByteArray := prog_7_method_13_code
def yX5_leftPan : MethodName := ⟨RX5, "leftPan", "(I)I"⟩
abbrev cX5_rightPan : ByteArray := prog_7_method_14_code
def yX5_rightPan : MethodName := ⟨RX5, "rightPan", "(I)I"⟩
abbrev cX5_lowestWeighing : ByteArray := prog_7_method_15_code
def yX5_lowestWeighing : MethodName := ⟨RX5, "lowestWeighing", "(IIII)I"⟩
abbrev cX5_lowest : ByteArray := prog_7_method_16_code
def yX5_lowest : MethodName := ⟨RX5, "lowest", "(II)I"⟩
def RX6 : String := "ScaleInspection$Survey"
def TX6 : u_T := fun k => match k with
  | 0 => ("ScaleInspection$Survey", "stateOf", "[I", true)
  | 1 => ("ScaleInspection$Survey", "endYearOf", "[I", true)
  | 2 => ("ScaleInspection$Survey", "riskOf", "[I", true)
  | 3 => ("ScaleInspection$Survey", "lastOf", "[I", true)
  | 4 => ("ScaleInspection$Survey", "failuresOf", "[I", true)
  | 5 => ("ScaleInspection$Survey", "rejectedOf", "[I", true)
  | 6 => ("ScaleInspection$Survey", "traderRiskOf", "[I", true)
  | _ => ("ScaleInspection$Survey", "scales", "I", false)
def tyX6 : Nat → FieldType := fun k => match k with
  | 0 => .array .int
  | 1 => .array .int
  | 2 => .array .int
  | 3 => .array .int
  | 4 => .array .int
  | 5 => .array .int
  | 6 => .array .int
  | _ => .int
abbrev wsX60 : List Cond := u_ws RX6 TX6 8
theorem nmX6 : ∀ a, a < 8 → ∀ b, b < 8 → a ≠ b → (TX6 a).2.1 ≠ (TX6 b).2.1 := by decide +kernel
theorem tyX6_ok : ∀ k, k < 8 → parseFieldDescriptor (TX6 k).2.2.1 = some (tyX6 k) := by decide +kernel
abbrev cX6_init : ByteArray := prog_8_method_1_code
def yX6_init : MethodName := ⟨RX6, "<init>", "()V"⟩
def RX7 : String := "ScaleInspection$VisitBook"
def TX7 : u_T := fun k => match k with
  | 0 => ("ScaleInspection$VisitBook", "count", "I", false)
  | 1 => ("ScaleInspection$VisitBook", "scaleOf", "[I", true)
  | 2 => ("ScaleInspection$VisitBook", "dayOf", "[I", true)
  | 3 => ("ScaleInspection$VisitBook", "serviceOf", "[I", true)
  | 4 => ("ScaleInspection$VisitBook", "verdictOf", "[I", true)
  | 5 => ("ScaleInspection$VisitBook", "testsOf", "[I", true)
  | 6 => ("ScaleInspection$VisitBook", "massesOf", "[I", true)
  | 7 => ("ScaleInspection$VisitBook", "loadOf", "[I", true)
  | _ => ("ScaleInspection$VisitBook", "errorOf", "[I", true)
def tyX7 : Nat → FieldType := fun k => match k with
  | 0 => .int
  | 1 => .array .int
  | 2 => .array .int
  | 3 => .array .int
  | 4 => .array .int
  | 5 => .array .int
  | 6 => .array .int
  | 7 => .array .int
  | _ => .array .int
abbrev wsX70 : List Cond := u_ws RX7 TX7 9
theorem nmX7 : ∀ a, a < 9 → ∀ b, b < 9 → a ≠ b → (TX7 a).2.1 ≠ (TX7 b).2.1 := by decide +kernel
theorem tyX7_ok : ∀ k, k < 9 → parseFieldDescriptor (TX7 k).2.2.1 = some (tyX7 k) := by decide +kernel
abbrev cX7_init : ByteArray := prog_9_method_1_code
def yX7_init : MethodName := ⟨RX7, "<init>", "()V"⟩
def RX8 : String := "ScaleInspection$WeightBook"
def TX8 : u_T := fun k => match k with
  | 0 => ("ScaleInspection$WeightBook", "heavyOf", "[I", true)
  | 1 => ("ScaleInspection$WeightBook", "lightOf", "[I", true)
  | 2 => ("ScaleInspection$WeightBook", "genuineOf", "[I", true)
  | _ => ("ScaleInspection$WeightBook", "weighingsOf", "[I", true)
def tyX8 : Nat → FieldType := fun k => match k with
  | 0 => .array .int
  | 1 => .array .int
  | 2 => .array .int
  | _ => .array .int
abbrev wsX80 : List Cond := u_ws RX8 TX8 4
theorem nmX8 : ∀ a, a < 4 → ∀ b, b < 4 → a ≠ b → (TX8 a).2.1 ≠ (TX8 b).2.1 := by decide +kernel
theorem tyX8_ok : ∀ k, k < 4 → parseFieldDescriptor (TX8 k).2.2.1 = some (tyX8 k) := by decide +kernel
abbrev cX8_init : ByteArray := prog_10_method_1_code
def yX8_init : MethodName := ⟨RX8, "<init>", "()V"⟩
abbrev cX8_reset : ByteArray := prog_10_method_2_code
def yX8_reset : MethodName := ⟨RX8, "reset", "(LScaleInspection$Market;)V"⟩
abbrev cX8_put : ByteArray := prog_10_method_4_code
def yX8_put : MethodName := ⟨RX8, "put", "(IIII)V"⟩
abbrev cX8_suspectsAfter : ByteArray := prog_10_method_5_code
def yX8_suspectsAfter : MethodName := ⟨RX8, "suspectsAfter", "(IIII)I"⟩
abbrev cX8_hypothesesOf : ByteArray := prog_10_method_6_code
def yX8_hypothesesOf : MethodName := ⟨RX8, "hypothesesOf", "(I)I"⟩
abbrev cX8_onlyHypothesis : ByteArray := prog_10_method_7_code
def yX8_onlyHypothesis : MethodName := ⟨RX8, "onlyHypothesis", "(I)I"⟩
def RX9 : String := "ScaleInspection"
def TX9 : u_T := fun k => match k with
  | 0 => ("ScaleInspection", "reader", "LScaleInspection$MarketReader;", true)
  | 1 => ("ScaleInspection", "loads", "LScaleInspection$LoadFinder;", true)
  | 2 => ("ScaleInspection", "visits", "LScaleInspection$VisitBook;", true)
  | 3 => ("ScaleInspection", "weights", "LScaleInspection$WeightBook;", true)
  | 4 => ("ScaleInspection", "history", "LScaleInspection$History;", true)
  | 5 => ("ScaleInspection", "firstSlot", "LScaleInspection$Snapshot;", true)
  | 6 => ("ScaleInspection", "secondSlot", "LScaleInspection$Snapshot;", true)
  | 7 => ("ScaleInspection", "survey", "LScaleInspection$Survey;", true)
  | 8 => ("ScaleInspection", "solver", "LScaleInspection$Solver;", true)
  | 9 => ("ScaleInspection", "market", "LScaleInspection$Market;", false)
  | _ => ("ScaleInspection", "draft", "LScaleInspection$Market;", false)
def tyX9 : Nat → FieldType := fun k => match k with
  | 0 => .object "ScaleInspection$MarketReader"
  | 1 => .object "ScaleInspection$LoadFinder"
  | 2 => .object "ScaleInspection$VisitBook"
  | 3 => .object "ScaleInspection$WeightBook"
  | 4 => .object "ScaleInspection$History"
  | 5 => .object "ScaleInspection$Snapshot"
  | 6 => .object "ScaleInspection$Snapshot"
  | 7 => .object "ScaleInspection$Survey"
  | 8 => .object "ScaleInspection$Solver"
  | 9 => .object "ScaleInspection$Market"
  | _ => .object "ScaleInspection$Market"
abbrev wsX90 : List Cond := u_ws RX9 TX9 11
theorem nmX9 : ∀ a, a < 11 → ∀ b, b < 11 → a ≠ b → (TX9 a).2.1 ≠ (TX9 b).2.1 := by decide +kernel
theorem tyX9_ok : ∀ k, k < 11 → parseFieldDescriptor (TX9 k).2.2.1 = some (tyX9 k) := by decide +kernel
abbrev cX9_init : ByteArray := prog_1_method_1_code
def yX9_init : MethodName := ⟨RX9, "<init>", "()V"⟩
abbrev cX9_append : ByteArray := prog_1_method_2_code
def yX9_append : MethodName := ⟨RX9, "append", "(IIIII)I"⟩
abbrev cX9_parse : ByteArray := prog_1_method_3_code
def yX9_parse : MethodName := ⟨RX9, "parse", "(I)I"⟩
abbrev cX9_takeDraft : ByteArray := prog_1_method_4_code
def yX9_takeDraft : MethodName := ⟨RX9, "takeDraft", "()V"⟩
abbrev cX9_weigh : ByteArray := prog_1_method_38_code
def yX9_weigh : MethodName := ⟨RX9, "weigh", "(IIII)I"⟩
abbrev cX9_hypothesisCount : ByteArray := prog_1_method_40_code
def yX9_hypothesisCount : MethodName := ⟨RX9, "hypothesisCount", "(I)I"⟩
abbrev cX9_heavySuspects : ByteArray := prog_1_method_41_code
def yX9_heavySuspects : MethodName := ⟨RX9, "heavySuspects", "(I)I"⟩
abbrev cX9_lightSuspects : ByteArray := prog_1_method_42_code
def yX9_lightSuspects : MethodName := ⟨RX9, "lightSuspects", "(I)I"⟩
abbrev cX9_canBeGenuine : ByteArray := prog_1_method_43_code
def yX9_canBeGenuine : MethodName := ⟨RX9, "canBeGenuine", "(I)I"⟩
abbrev cX9_finding : ByteArray := prog_1_method_44_code
def yX9_finding : MethodName := ⟨RX9, "finding", "(I)I"⟩
abbrev cX9_weighingsNeeded : ByteArray := prog_1_method_45_code
def yX9_weighingsNeeded : MethodName := ⟨RX9, "weighingsNeeded", "(I)I"⟩
abbrev cX9_bestLeft : ByteArray := prog_1_method_46_code
def yX9_bestLeft : MethodName := ⟨RX9, "bestLeft", "(I)I"⟩
abbrev cX9_bestRight : ByteArray := prog_1_method_47_code
def yX9_bestRight : MethodName := ⟨RX9, "bestRight", "(I)I"⟩
abbrev cX9_fewestWeighings : ByteArray := prog_1_method_48_code
def yX9_fewestWeighings : MethodName := ⟨RX9, "fewestWeighings", "(IZ)I"⟩
abbrev cX9_hasSet : ByteArray := prog_1_method_57_code
def yX9_hasSet : MethodName := ⟨RX9, "hasSet", "(I)Z"⟩
abbrev cX9_isWeighing : ByteArray := prog_1_method_59_code
def yX9_isWeighing : MethodName := ⟨RX9, "isWeighing", "(III)Z"⟩
abbrev cX9_chooseSet : ByteArray := prog_1_method_60_code
def yX9_chooseSet : MethodName := ⟨RX9, "chooseSet", "(I)V"⟩
abbrev cX9_orNone : ByteArray := prog_1_method_61_code
def yX9_orNone : MethodName := ⟨RX9, "orNone", "(I)I"⟩
def RX10 : String := "ScaleInspectionLaw$Market"
def TX10 : u_T := fun k => match k with
  | 0 => ("ScaleInspectionLaw$Market", "traders", "I", false)
  | 1 => ("ScaleInspectionLaw$Market", "scales", "[I", false)
  | 2 => ("ScaleInspectionLaw$Market", "masses", "[I", false)
  | 3 => ("ScaleInspectionLaw$Market", "sets", "[I", false)
  | _ => ("ScaleInspectionLaw$Market", "terms", "[I", false)
def tyX10 : Nat → FieldType := fun k => match k with
  | 0 => .int
  | 1 => .array .int
  | 2 => .array .int
  | 3 => .array .int
  | _ => .array .int
abbrev wsX100 : List Cond := u_ws RX10 TX10 5
theorem nmX10 : ∀ a, a < 5 → ∀ b, b < 5 → a ≠ b → (TX10 a).2.1 ≠ (TX10 b).2.1 := by decide +kernel
theorem tyX10_ok : ∀ k, k < 5 → parseFieldDescriptor (TX10 k).2.2.1 = some (tyX10 k) := by decide +kernel
abbrev cX10_init : ByteArray := prog_12_method_1_code
def yX10_init : MethodName := ⟨RX10, "<init>", "()V"⟩
def RX11 : String := "ScaleInspectionModel"
def TX11 : u_T := fun k => match k with
  | _ => ("", "", "", false)
def tyX11 : Nat → FieldType := fun k => match k with
  | _ => .int
abbrev wsX110 : List Cond := u_ws RX11 TX11 0
theorem nmX11 : ∀ a, a < 0 → ∀ b, b < 0 → a ≠ b → (TX11 a).2.1 ≠ (TX11 b).2.1 := by decide +kernel
theorem tyX11_ok : ∀ k, k < 0 → parseFieldDescriptor (TX11 k).2.2.1 = some (tyX11 k) := by decide +kernel
def RJx145de : String := "java/io/Serializable"
def RJ5 : String := "java/lang/AbstractStringBuilder"
def TJ5 : u_T := fun k => match k with
  | _ => ("", "", "", false)
def tyJ5 : Nat → FieldType := fun k => match k with
  | _ => .int
abbrev wsJ50 : List Cond := u_ws RJ5 TJ5 0
theorem nmJ5 : ∀ a, a < 0 → ∀ b, b < 0 → a ≠ b → (TJ5 a).2.1 ≠ (TJ5 b).2.1 := by decide +kernel
theorem tyJ5_ok : ∀ k, k < 0 → parseFieldDescriptor (TJ5 k).2.2.1 = some (tyJ5 k) := by decide +kernel
abbrev cJ5_init_d00df : ByteArray := prog_14_method_2_code
def yJ5_init_d00df : MethodName := ⟨RJ5, "<init>", "(I)V"⟩
abbrev cJ5_length_8abf5 : ByteArray := prog_14_method_6_code
def yJ5_length_8abf5 : MethodName := ⟨RJ5, "length", "()I"⟩
abbrev cJ5_ensureCapacityInternal_d00df : ByteArray := prog_14_method_9_code
def yJ5_ensureCapacityInternal_d00df : MethodName := ⟨RJ5, "ensureCapacityInternal", "(I)V"⟩
abbrev cJ5_newCapacity_0f7a4 : ByteArray := prog_14_method_10_code
def yJ5_newCapacity_0f7a4 : MethodName := ⟨RJ5, "newCapacity", "(I)I"⟩
abbrev cJ5_inflate_da8c8 : ByteArray := prog_14_method_11_code
def yJ5_inflate_da8c8 : MethodName := ⟨RJ5, "inflate", "()V"⟩
abbrev cJ5_append_cf1ce : ByteArray := prog_14_method_22_code
def yJ5_append_cf1ce : MethodName := ⟨RJ5, "append", "(Ljava/lang/String;)Ljava/lang/AbstractStringBuilder;"⟩
abbrev cJ5_appendNull_278bc : ByteArray := prog_14_method_26_code
def yJ5_appendNull_278bc : MethodName := ⟨RJ5, "appendNull", "()Ljava/lang/AbstractStringBuilder;"⟩
abbrev cJ5_append_3fe6f : ByteArray := prog_14_method_31_code
def yJ5_append_3fe6f : MethodName := ⟨RJ5, "append", "(C)Ljava/lang/AbstractStringBuilder;"⟩
abbrev cJ5_append_c97b9 : ByteArray := prog_14_method_32_code
def yJ5_append_c97b9 : MethodName := ⟨RJ5, "append", "(I)Ljava/lang/AbstractStringBuilder;"⟩
abbrev cJ5_getValue_6d5f1 : ByteArray := prog_14_method_64_code
def yJ5_getValue_6d5f1 : MethodName := ⟨RJ5, "getValue", "()[B"⟩
abbrev cJ5_isLatin1_aae02 : ByteArray := prog_14_method_68_code
def yJ5_isLatin1_aae02 : MethodName := ⟨RJ5, "isLatin1", "()Z"⟩
abbrev cJ5_inflateIfNeededFor_a7421 : ByteArray := prog_14_method_71_code
def yJ5_inflateIfNeededFor_a7421 : MethodName := ⟨RJ5, "inflateIfNeededFor", "(Ljava/lang/String;)V"⟩
abbrev cJ5_putStringAt_47b60 : ByteArray := prog_14_method_73_code
def yJ5_putStringAt_47b60 : MethodName := ⟨RJ5, "putStringAt", "(ILjava/lang/String;)V"⟩
def RJx2cfe8 : String := "java/lang/Appendable"
def RJx9f9b0 : String := "java/lang/CharSequence"
def RJx8e188 : String := "java/lang/Cloneable"
def RJxb160c : String := "java/lang/Comparable"
def RJ6 : String := "java/lang/Integer"
def TJ6 : u_T := fun k => match k with
  | _ => ("", "", "", false)
def tyJ6 : Nat → FieldType := fun k => match k with
  | _ => .int
abbrev wsJ60 : List Cond := u_ws RJ6 TJ6 0
theorem nmJ6 : ∀ a, a < 0 → ∀ b, b < 0 → a ≠ b → (TJ6 a).2.1 ≠ (TJ6 b).2.1 := by decide +kernel
theorem tyJ6_ok : ∀ k, k < 0 → parseFieldDescriptor (TJ6 k).2.2.1 = some (tyJ6 k) := by decide +kernel
abbrev cJ6_getChars_ba4f3 : ByteArray := prog_16_method_12_code
def yJ6_getChars_ba4f3 : MethodName := ⟨RJ6, "getChars", "(II[B)I"⟩
abbrev cJ6_stringSize_0f7a4 : ByteArray := prog_16_method_13_code
def yJ6_stringSize_0f7a4 : MethodName := ⟨RJ6, "stringSize", "(I)I"⟩
abbrev cJ6_numberOfTrailingZeros_0f7a4 : ByteArray := prog_16_method_48_code
def yJ6_numberOfTrailingZeros_0f7a4 : MethodName := ⟨RJ6, "numberOfTrailingZeros", "(I)I"⟩
abbrev cJ6_bitCount_0f7a4 : ByteArray := prog_16_method_49_code
def yJ6_bitCount_0f7a4 : MethodName := ⟨RJ6, "bitCount", "(I)I"⟩
def RJ9 : String := "java/lang/Math"
def TJ9 : u_T := fun k => match k with
  | _ => ("", "", "", false)
def tyJ9 : Nat → FieldType := fun k => match k with
  | _ => .int
abbrev wsJ90 : List Cond := u_ws RJ9 TJ9 0
theorem nmJ9 : ∀ a, a < 0 → ∀ b, b < 0 → a ≠ b → (TJ9 a).2.1 ≠ (TJ9 b).2.1 := by decide +kernel
theorem tyJ9_ok : ∀ k, k < 0 → parseFieldDescriptor (TJ9 k).2.2.1 = some (tyJ9 k) := by decide +kernel
abbrev cJ9_abs_0f7a4 : ByteArray := prog_17_method_59_code
def yJ9_abs_0f7a4 : MethodName := ⟨RJ9, "abs", "(I)I"⟩
abbrev cJ9_max_7cf53 : ByteArray := prog_17_method_65_code
def yJ9_max_7cf53 : MethodName := ⟨RJ9, "max", "(II)I"⟩
abbrev cJ9_min_7cf53 : ByteArray := prog_17_method_69_code
def yJ9_min_7cf53 : MethodName := ⟨RJ9, "min", "(II)I"⟩
def RJxd2413 : String := "java/lang/Number"
def RJ0 : String := "java/lang/String"
def TJ0 : u_T := fun k => match k with
  | 0 => ("java/lang/String", "value", "[B", true)
  | 1 => ("java/lang/String", "coder", "B", true)
  | 2 => ("java/lang/String", "hash", "I", false)
  | _ => ("java/lang/String", "hashIsZero", "Z", false)
def tyJ0 : Nat → FieldType := fun k => match k with
  | 0 => .array .byte
  | 1 => .byte
  | 2 => .int
  | _ => .boolean
abbrev wsJ00 : List Cond := u_ws RJ0 TJ0 4
theorem nmJ0 : ∀ a, a < 4 → ∀ b, b < 4 → a ≠ b → (TJ0 a).2.1 ≠ (TJ0 b).2.1 := by decide +kernel
theorem tyJ0_ok : ∀ k, k < 4 → parseFieldDescriptor (TJ0 k).2.2.1 = some (tyJ0 k) := by decide +kernel
abbrev cJ0_init_81219 : ByteArray := prog_19_method_53_code
def yJ0_init_81219 : MethodName := ⟨RJ0, "<init>", "(Ljava/lang/StringBuilder;)V"⟩
abbrev cJ0_length_8abf5 : ByteArray := prog_19_method_54_code
def yJ0_length_8abf5 : MethodName := ⟨RJ0, "length", "()I"⟩
abbrev cJ0_charAt_5068e : ByteArray := prog_19_method_56_code
def yJ0_charAt_5068e : MethodName := ⟨RJ0, "charAt", "(I)C"⟩
abbrev cJ0_getBytes_840e7 : ByteArray := prog_19_method_147_code
def yJ0_getBytes_840e7 : MethodName := ⟨RJ0, "getBytes", "([BIB)V"⟩
abbrev cJ0_init_db425 : ByteArray := prog_19_method_150_code
def yJ0_init_db425 : MethodName := ⟨RJ0, "<init>", "(Ljava/lang/AbstractStringBuilder;Ljava/lang/Void;)V"⟩
abbrev cJ0_coder_7d493 : ByteArray := prog_19_method_152_code
def yJ0_coder_7d493 : MethodName := ⟨RJ0, "coder", "()B"⟩
abbrev cJ0_isLatin1_aae02 : ByteArray := prog_19_method_154_code
def yJ0_isLatin1_aae02 : MethodName := ⟨RJ0, "isLatin1", "()Z"⟩
abbrev cJ0_checkIndex_df160 : ByteArray := prog_19_method_155_code
def yJ0_checkIndex_df160 : MethodName := ⟨RJ0, "checkIndex", "(II)V"⟩
abbrev cJ0_checkBoundsOffCount_cabcc : ByteArray := prog_19_method_157_code
def yJ0_checkBoundsOffCount_cabcc : MethodName := ⟨RJ0, "checkBoundsOffCount", "(III)I"⟩
abbrev cJ0_checkBoundsBeginEnd_23922 : ByteArray := prog_19_method_158_code
def yJ0_checkBoundsBeginEnd_23922 : MethodName := ⟨RJ0, "checkBoundsBeginEnd", "(III)V"⟩
def RJ4 : String := "java/lang/StringBuilder"
def TJ4 : u_T := fun k => match k with
  | 0 => ("java/lang/AbstractStringBuilder", "value", "[B", false)
  | 1 => ("java/lang/AbstractStringBuilder", "coder", "B", false)
  | 2 => ("java/lang/AbstractStringBuilder", "maybeLatin1", "Z", false)
  | _ => ("java/lang/AbstractStringBuilder", "count", "I", false)
def tyJ4 : Nat → FieldType := fun k => match k with
  | 0 => .array .byte
  | 1 => .byte
  | 2 => .boolean
  | _ => .int
abbrev wsJ40 : List Cond := u_ws RJ4 TJ4 4
theorem nmJ4 : ∀ a, a < 4 → ∀ b, b < 4 → a ≠ b → (TJ4 a).2.1 ≠ (TJ4 b).2.1 := by decide +kernel
theorem tyJ4_ok : ∀ k, k < 4 → parseFieldDescriptor (TJ4 k).2.2.1 = some (tyJ4 k) := by decide +kernel
abbrev cJ4_init_da8c8 : ByteArray := prog_20_method_1_code
def yJ4_init_da8c8 : MethodName := ⟨RJ4, "<init>", "()V"⟩
abbrev cJ4_append_15ec4 : ByteArray := prog_20_method_7_code
def yJ4_append_15ec4 : MethodName := ⟨RJ4, "append", "(Ljava/lang/String;)Ljava/lang/StringBuilder;"⟩
abbrev cJ4_append_cf468 : ByteArray := prog_20_method_14_code
def yJ4_append_cf468 : MethodName := ⟨RJ4, "append", "(C)Ljava/lang/StringBuilder;"⟩
abbrev cJ4_append_bf812 : ByteArray := prog_20_method_15_code
def yJ4_append_bf812 : MethodName := ⟨RJ4, "append", "(I)Ljava/lang/StringBuilder;"⟩
abbrev cJ4_toString_0e30d : ByteArray := prog_20_method_42_code
def yJ4_toString_0e30d : MethodName := ⟨RJ4, "toString", "()Ljava/lang/String;"⟩
abbrev cJ4_length_8abf5 : ByteArray := prog_20_method_93_code
def yJ4_length_8abf5 : MethodName := ⟨RJ4, "length", "()I"⟩
def RJ1 : String := "java/lang/StringLatin1"
def TJ1 : u_T := fun k => match k with
  | _ => ("", "", "", false)
def tyJ1 : Nat → FieldType := fun k => match k with
  | _ => .int
abbrev wsJ10 : List Cond := u_ws RJ1 TJ1 0
theorem nmJ1 : ∀ a, a < 0 → ∀ b, b < 0 → a ≠ b → (TJ1 a).2.1 ≠ (TJ1 b).2.1 := by decide +kernel
theorem tyJ1_ok : ∀ k, k < 0 → parseFieldDescriptor (TJ1 k).2.2.1 = some (tyJ1 k) := by decide +kernel
abbrev cJ1_charAt_3b067 : ByteArray := prog_21_method_2_code
def yJ1_charAt_3b067 : MethodName := ⟨RJ1, "charAt", "([BI)C"⟩
abbrev cJ1_canEncode_fc78d : ByteArray := prog_21_method_3_code
def yJ1_canEncode_fc78d : MethodName := ⟨RJ1, "canEncode", "(C)Z"⟩
abbrev cJ1_inflate_0e8fd : ByteArray := prog_21_method_50_code
def yJ1_inflate_0e8fd : MethodName := ⟨RJ1, "inflate", "([BI[BII)V"⟩
def RJ2 : String := "java/lang/StringUTF16"
def TJ2 : u_T := fun k => match k with
  | _ => ("", "", "", false)
def tyJ2 : Nat → FieldType := fun k => match k with
  | _ => .int
abbrev wsJ20 : List Cond := u_ws RJ2 TJ2 0
theorem nmJ2 : ∀ a, a < 0 → ∀ b, b < 0 → a ≠ b → (TJ2 a).2.1 ≠ (TJ2 b).2.1 := by decide +kernel
theorem tyJ2_ok : ∀ k, k < 0 → parseFieldDescriptor (TJ2 k).2.2.1 = some (tyJ2 k) := by decide +kernel
abbrev cJ2_newBytesFor_77867 : ByteArray := prog_22_method_2_code
def yJ2_newBytesFor_77867 : MethodName := ⟨RJ2, "newBytesFor", "(I)[B"⟩
abbrev cJ2_newBytesLength_0f7a4 : ByteArray := prog_22_method_3_code
def yJ2_newBytesLength_0f7a4 : MethodName := ⟨RJ2, "newBytesLength", "(I)I"⟩
abbrev cJ2_putChar_b72d1 : ByteArray := prog_22_method_4_code
def yJ2_putChar_b72d1 : MethodName := ⟨RJ2, "putChar", "([BII)V"⟩
abbrev cJ2_getChar_3b067 : ByteArray := prog_22_method_5_code
def yJ2_getChar_3b067 : MethodName := ⟨RJ2, "getChar", "([BI)C"⟩
abbrev cJ2_length_9d52b : ByteArray := prog_22_method_6_code
def yJ2_length_9d52b : MethodName := ⟨RJ2, "length", "([B)I"⟩
abbrev cJ2_coderFromArrayLen_85cad : ByteArray := prog_22_method_15_code
def yJ2_coderFromArrayLen_85cad : MethodName := ⟨RJ2, "coderFromArrayLen", "([BI)B"⟩
abbrev cJ2_compress_39247 : ByteArray := prog_22_method_17_code
def yJ2_compress_39247 : MethodName := ⟨RJ2, "compress", "([BII)[B"⟩
abbrev cJ2_compress_5af95 : ByteArray := prog_22_method_22_code
def yJ2_compress_5af95 : MethodName := ⟨RJ2, "compress", "([BI[BII)I"⟩
abbrev cJ2_putCharSB_b72d1 : ByteArray := prog_22_method_71_code
def yJ2_putCharSB_b72d1 : MethodName := ⟨RJ2, "putCharSB", "([BII)V"⟩
abbrev cJ2_getChars_46870 : ByteArray := prog_22_method_77_code
def yJ2_getChars_46870 : MethodName := ⟨RJ2, "getChars", "(III[B)I"⟩
abbrev cJ2_putCharsAt_cd4e5 : ByteArray := prog_22_method_81_code
def yJ2_putCharsAt_cd4e5 : MethodName := ⟨RJ2, "putCharsAt", "([BICCCC)I"⟩
abbrev cJ2_charAt_3b067 : ByteArray := prog_22_method_83_code
def yJ2_charAt_3b067 : MethodName := ⟨RJ2, "charAt", "([BI)C"⟩
abbrev cJ2_inflate_0e8fd : ByteArray := prog_22_method_86_code
def yJ2_inflate_0e8fd : MethodName := ⟨RJ2, "inflate", "([BI[BII)V"⟩
abbrev cJ2_getChars_ba4f3 : ByteArray := prog_22_method_89_code
def yJ2_getChars_ba4f3 : MethodName := ⟨RJ2, "getChars", "(II[B)I"⟩
abbrev cJ2_checkIndex_2214a : ByteArray := prog_22_method_91_code
def yJ2_checkIndex_2214a : MethodName := ⟨RJ2, "checkIndex", "(I[B)V"⟩
abbrev cJ2_checkBoundsBeginEnd_d044e : ByteArray := prog_22_method_93_code
def yJ2_checkBoundsBeginEnd_d044e : MethodName := ⟨RJ2, "checkBoundsBeginEnd", "(II[B)V"⟩
abbrev cJ2_checkBoundsOffCount_d044e : ByteArray := prog_22_method_94_code
def yJ2_checkBoundsOffCount_d044e : MethodName := ⟨RJ2, "checkBoundsOffCount", "(II[B)V"⟩
def RJ10 : String := "java/lang/System"
def TJ10 : u_T := fun k => match k with
  | _ => ("", "", "", false)
def tyJ10 : Nat → FieldType := fun k => match k with
  | _ => .int
abbrev wsJ100 : List Cond := u_ws RJ10 TJ10 0
theorem nmJ10 : ∀ a, a < 0 → ∀ b, b < 0 → a ≠ b → (TJ10 a).2.1 ≠ (TJ10 b).2.1 := by decide +kernel
theorem tyJ10_ok : ∀ k, k < 0 → parseFieldDescriptor (TJ10 k).2.2.1 = some (tyJ10 k) := by decide +kernel
def RJxfd54e : String := "java/lang/constant/Constable"
def RJx3cf43 : String := "java/lang/constant/ConstantDesc"
def RJ7 : String := "java/util/Arrays"
def TJ7 : u_T := fun k => match k with
  | _ => ("", "", "", false)
def tyJ7 : Nat → FieldType := fun k => match k with
  | _ => .int
abbrev wsJ70 : List Cond := u_ws RJ7 TJ7 0
theorem nmJ7 : ∀ a, a < 0 → ∀ b, b < 0 → a ≠ b → (TJ7 a).2.1 ≠ (TJ7 b).2.1 := by decide +kernel
theorem tyJ7_ok : ∀ k, k < 0 → parseFieldDescriptor (TJ7 k).2.2.1 = some (tyJ7 k) := by decide +kernel
abbrev cJ7_fill_53178 : ByteArray := prog_24_method_103_code
def yJ7_fill_53178 : MethodName := ⟨RJ7, "fill", "([II)V"⟩
abbrev cJ7_copyOf_9075b : ByteArray := prog_24_method_121_code
def yJ7_copyOf_9075b : MethodName := ⟨RJ7, "copyOf", "([BI)[B"⟩
abbrev cJ7_checkLength_df160 : ByteArray := prog_24_method_131_code
def yJ7_checkLength_df160 : MethodName := ⟨RJ7, "checkLength", "(II)V"⟩
abbrev cJ7_copyOfRange_39247 : ByteArray := prog_24_method_132_code
def yJ7_copyOfRange_39247 : MethodName := ⟨RJ7, "copyOfRange", "([BII)[B"⟩
abbrev cJ7_copyOfRangeByte_39247 : ByteArray := prog_24_method_133_code
def yJ7_copyOfRangeByte_39247 : MethodName := ⟨RJ7, "copyOfRangeByte", "([BII)[B"⟩
def RJ8 : String := "jdk/internal/util/ArraysSupport"
def TJ8 : u_T := fun k => match k with
  | _ => ("", "", "", false)
def tyJ8 : Nat → FieldType := fun k => match k with
  | _ => .int
abbrev wsJ80 : List Cond := u_ws RJ8 TJ8 0
theorem nmJ8 : ∀ a, a < 0 → ∀ b, b < 0 → a ≠ b → (TJ8 a).2.1 ≠ (TJ8 b).2.1 := by decide +kernel
theorem tyJ8_ok : ∀ k, k < 0 → parseFieldDescriptor (TJ8 k).2.2.1 = some (tyJ8 k) := by decide +kernel
abbrev cJ8_newLength_cabcc : ByteArray := prog_25_method_27_code
def yJ8_newLength_cabcc : MethodName := ⟨RJ8, "newLength", "(III)I"⟩
abbrev cJ8_hugeLength_7cf53 : ByteArray := prog_25_method_28_code
def yJ8_hugeLength_7cf53 : MethodName := ⟨RJ8, "hugeLength", "(II)I"⟩
def RJ3 : String := "jdk/internal/util/Preconditions"
def TJ3 : u_T := fun k => match k with
  | _ => ("", "", "", false)
def tyJ3 : Nat → FieldType := fun k => match k with
  | _ => .int
abbrev wsJ30 : List Cond := u_ws RJ3 TJ3 0
theorem nmJ3 : ∀ a, a < 0 → ∀ b, b < 0 → a ≠ b → (TJ3 a).2.1 ≠ (TJ3 b).2.1 := by decide +kernel
theorem tyJ3_ok : ∀ k, k < 0 → parseFieldDescriptor (TJ3 k).2.2.1 = some (tyJ3 k) := by decide +kernel
abbrev cJ3_checkIndex_8e157 : ByteArray := prog_26_method_11_code
def yJ3_checkIndex_8e157 : MethodName := ⟨RJ3, "checkIndex", "(IILjava/util/function/BiFunction;)I"⟩
abbrev cJ3_checkFromToIndex_8c36e : ByteArray := prog_26_method_12_code
def yJ3_checkFromToIndex_8c36e : MethodName := ⟨RJ3, "checkFromToIndex", "(IIILjava/util/function/BiFunction;)I"⟩
abbrev cJ3_checkFromIndexSize_8c36e : ByteArray := prog_26_method_13_code
def yJ3_checkFromIndexSize_8c36e : MethodName := ⟨RJ3, "checkFromIndexSize", "(IIILjava/util/function/BiFunction;)I"⟩
def RL : String := "ScaleInspectionLaw"
abbrev cL_feeds : ByteArray := method_2_code
def yL_feeds : MethodName := ⟨RL, "feeds", "(LScaleInspection;Ljava/lang/String;)Z"⟩
abbrev cL_draw : ByteArray := method_3_code
def yL_draw : MethodName := ⟨RL, "draw", "([II)I"⟩
abbrev cL_market : ByteArray := method_4_code
def yL_market : MethodName := ⟨RL, "market", "([ILjava/lang/StringBuilder;)LScaleInspectionLaw$Market;"⟩
abbrev cL_loads : ByteArray := method_5_code
def yL_loads : MethodName := ⟨RL, "loads", "(LScaleInspection;I)LScaleInspectionLaw$Market;"⟩
abbrev cL_result : ByteArray := method_6_code
def yL_result : MethodName := ⟨RL, "result", "(III)I"⟩
abbrev cL_isEnough : ByteArray := method_7_code
def yL_isEnough : MethodName := ⟨RL, "isEnough", "(III)Z"⟩
abbrev cL_law : ByteArray := code
def yL_law : MethodName := ⟨RL, "law", "([I)Z"⟩
abbrev cL_said : ByteArray := method_9_code
def yL_said : MethodName := ⟨RL, "said", "(LScaleInspection;III)Z"⟩
abbrev cL_needed : ByteArray := method_10_code
def yL_needed : MethodName := ⟨RL, "needed", "(LScaleInspection;III)Z"⟩
abbrev vwCl : List vw_C := [(RJ0, TJ0, 4), (RJ4, TJ4, 4), (RX0, TX0, 7), (RX1, TX1, 6), (RX2, TX2, 12), (RX3, TX3, 8), (RX4, TX4, 3), (RX5, TX5, 11), (RX6, TX6, 8), (RX7, TX7, 9), (RX8, TX8, 4), (RX9, TX9, 11), (RX10, TX10, 5)]
