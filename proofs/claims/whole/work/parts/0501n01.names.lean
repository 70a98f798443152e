/-! ===== BEGIN printed: names, fields, word lists, decode rows ===== -/
def RX0 : String := "SumRewriter$Matcher"
def TX0 : u_T := fun k => match k with
  | 0 => ("SumRewriter$Matcher", "terms", "LSumRewriter$Terms;", true)
  | 1 => ("SumRewriter$Matcher", "goalPatterns", "[I", true)
  | 2 => ("SumRewriter$Matcher", "goalParts", "[I", true)
  | 3 => ("SumRewriter$Matcher", "goalTargets", "[I", true)
  | 4 => ("SumRewriter$Matcher", "goalNexts", "[I", true)
  | 5 => ("SumRewriter$Matcher", "bindings", "[I", true)
  | 6 => ("SumRewriter$Matcher", "branchGoals", "[I", true)
  | 7 => ("SumRewriter$Matcher", "branchParts", "[I", true)
  | 8 => ("SumRewriter$Matcher", "branchWays", "[I", true)
  | 9 => ("SumRewriter$Matcher", "branchLimits", "[I", true)
  | 10 => ("SumRewriter$Matcher", "branchBound", "[I", true)
  | 11 => ("SumRewriter$Matcher", "branchUsed", "[I", true)
  | 12 => ("SumRewriter$Matcher", "found", "[I", true)
  | 13 => ("SumRewriter$Matcher", "sorted", "[I", true)
  | 14 => ("SumRewriter$Matcher", "wholePattern", "I", false)
  | 15 => ("SumRewriter$Matcher", "wholeTarget", "I", false)
  | 16 => ("SumRewriter$Matcher", "goals", "I", false)
  | 17 => ("SumRewriter$Matcher", "branches", "I", false)
  | 18 => ("SumRewriter$Matcher", "boundVariables", "I", false)
  | _ => ("SumRewriter$Matcher", "used", "I", false)
def tyX0 : Nat → FieldType := fun k => match k with
  | 0 => .object "SumRewriter$Terms"
  | 1 => .array .int
  | 2 => .array .int
  | 3 => .array .int
  | 4 => .array .int
  | 5 => .array .int
  | 6 => .array .int
  | 7 => .array .int
  | 8 => .array .int
  | 9 => .array .int
  | 10 => .array .int
  | 11 => .array .int
  | 12 => .array .int
  | 13 => .array .int
  | 14 => .int
  | 15 => .int
  | 16 => .int
  | 17 => .int
  | 18 => .int
  | _ => .int
abbrev wsX00 : List Cond := u_ws RX0 TX0 20
theorem nmX0 : ∀ a, a < 20 → ∀ b, b < 20 → a ≠ b → (TX0 a).2.1 ≠ (TX0 b).2.1 := by decide +kernel
theorem tyX0_ok : ∀ k, k < 20 → parseFieldDescriptor (TX0 k).2.2.1 = some (tyX0 k) := by decide +kernel
abbrev cX0_init : ByteArray := prog_2_method_1_code
def yX0_init : MethodName := ⟨RX0, "<init>", "(LSumRewriter$Terms;)V"⟩
abbrev cX0_run : ByteArray := prog_2_method_2_code
def yX0_run : MethodName := ⟨RX0, "run", "(II)Z"⟩
abbrev cX0_baseOf : ByteArray := prog_2_method_3_code
def yX0_baseOf : MethodName := ⟨RX0, "baseOf", "(I)I"⟩
abbrev cX0_boundTo : ByteArray := prog_2_method_4_code
def yX0_boundTo : MethodName := ⟨RX0, "boundTo", "(II)I"⟩
abbrev cX0_addGoal : ByteArray := prog_2_method_5_code
def yX0_addGoal : MethodName := ⟨RX0, "addGoal", "(IIII)I"⟩
abbrev cX0_bind : ByteArray := prog_2_method_6_code
def yX0_bind : MethodName := ⟨RX0, "bind", "(II)V"⟩
abbrev cX0_fits : ByteArray := prog_2_method_7_code
def yX0_fits : MethodName := ⟨RX0, "fits", "(II)Z"⟩
abbrev cX0_meetPlain : ByteArray := prog_2_method_8_code
def yX0_meetPlain : MethodName := ⟨RX0, "meetPlain", "(I)I"⟩
abbrev cX0_meetParts : ByteArray := prog_2_method_9_code
def yX0_meetParts : MethodName := ⟨RX0, "meetParts", "(I)I"⟩
abbrev cX0_meetSum : ByteArray := prog_2_method_10_code
def yX0_meetSum : MethodName := ⟨RX0, "meetSum", "(I)I"⟩
abbrev cX0_remainder : ByteArray := prog_2_method_11_code
def yX0_remainder : MethodName := ⟨RX0, "remainder", "(III)I"⟩
abbrev cX0_branchOverSum : ByteArray := prog_2_method_12_code
def yX0_branchOverSum : MethodName := ⟨RX0, "branchOverSum", "(I)V"⟩
abbrev cX0_worthOf : ByteArray := prog_2_method_13_code
def yX0_worthOf : MethodName := ⟨RX0, "worthOf", "(I)I"⟩
abbrev cX0_addBranch : ByteArray := prog_2_method_14_code
def yX0_addBranch : MethodName := ⟨RX0, "addBranch", "(III)V"⟩
abbrev cX0_hasWay : ByteArray := prog_2_method_15_code
def yX0_hasWay : MethodName := ⟨RX0, "hasWay", "()Z"⟩
abbrev cX0_lastIsPair : ByteArray := prog_2_method_16_code
def yX0_lastIsPair : MethodName := ⟨RX0, "lastIsPair", "()Z"⟩
abbrev cX0_meetPair : ByteArray := prog_2_method_17_code
def yX0_meetPair : MethodName := ⟨RX0, "meetPair", "(I)I"⟩
abbrev cX0_share : ByteArray := prog_2_method_18_code
def yX0_share : MethodName := ⟨RX0, "share", "(I)I"⟩
abbrev cX0_record : ByteArray := prog_2_method_19_code
def yX0_record : MethodName := ⟨RX0, "record", "()V"⟩
abbrev cX0_compareFound : ByteArray := prog_2_method_20_code
def yX0_compareFound : MethodName := ⟨RX0, "compareFound", "(II)I"⟩
def RX1 : String := "SumRewriter$Reader"
def TX1 : u_T := fun k => match k with
  | 0 => ("SumRewriter$Reader", "in", "LSumRewriter$Scanner;", true)
  | 1 => ("SumRewriter$Reader", "names", "LSumRewriter$Signature;", true)
  | 2 => ("SumRewriter$Reader", "terms", "LSumRewriter$Terms;", true)
  | 3 => ("SumRewriter$Reader", "values", "[I", true)
  | 4 => ("SumRewriter$Reader", "operators", "[I", true)
  | 5 => ("SumRewriter$Reader", "bases", "[I", true)
  | 6 => ("SumRewriter$Reader", "valued", "I", false)
  | _ => ("SumRewriter$Reader", "opened", "I", false)
def tyX1 : Nat → FieldType := fun k => match k with
  | 0 => .object "SumRewriter$Scanner"
  | 1 => .object "SumRewriter$Signature"
  | 2 => .object "SumRewriter$Terms"
  | 3 => .array .int
  | 4 => .array .int
  | 5 => .array .int
  | 6 => .int
  | _ => .int
abbrev wsX10 : List Cond := u_ws RX1 TX1 8
theorem nmX1 : ∀ a, a < 8 → ∀ b, b < 8 → a ≠ b → (TX1 a).2.1 ≠ (TX1 b).2.1 := by decide +kernel
theorem tyX1_ok : ∀ k, k < 8 → parseFieldDescriptor (TX1 k).2.2.1 = some (tyX1 k) := by decide +kernel
abbrev cX1_init : ByteArray := prog_3_method_1_code
def yX1_init : MethodName := ⟨RX1, "<init>", "(LSumRewriter$Scanner;LSumRewriter$Signature;LSumRewriter$Terms;)V"⟩
abbrev cX1_read : ByteArray := prog_3_method_2_code
def yX1_read : MethodName := ⟨RX1, "read", "()I"⟩
abbrev cX1_readHead : ByteArray := prog_3_method_3_code
def yX1_readHead : MethodName := ⟨RX1, "readHead", "()Z"⟩
abbrev cX1_closeAll : ByteArray := prog_3_method_4_code
def yX1_closeAll : MethodName := ⟨RX1, "closeAll", "()Z"⟩
abbrev cX1_closeLast : ByteArray := prog_3_method_5_code
def yX1_closeLast : MethodName := ⟨RX1, "closeLast", "(I)V"⟩
abbrev cX1_addValue : ByteArray := prog_3_method_6_code
def yX1_addValue : MethodName := ⟨RX1, "addValue", "(I)V"⟩
def RX2 : String := "SumRewriter$Rows"
def TX2 : u_T := fun k => match k with
  | 0 => ("SumRewriter$Rows", "cells", "[I", true)
  | 1 => ("SumRewriter$Rows", "lengths", "[I", true)
  | 2 => ("SumRewriter$Rows", "open", "[I", true)
  | _ => ("SumRewriter$Rows", "used", "I", false)
def tyX2 : Nat → FieldType := fun k => match k with
  | 0 => .array .int
  | 1 => .array .int
  | 2 => .array .int
  | _ => .int
abbrev wsX20 : List Cond := u_ws RX2 TX2 4
theorem nmX2 : ∀ a, a < 4 → ∀ b, b < 4 → a ≠ b → (TX2 a).2.1 ≠ (TX2 b).2.1 := by decide +kernel
theorem tyX2_ok : ∀ k, k < 4 → parseFieldDescriptor (TX2 k).2.2.1 = some (tyX2 k) := by decide +kernel
abbrev cX2_init : ByteArray := prog_4_method_1_code
def yX2_init : MethodName := ⟨RX2, "<init>", "(I)V"⟩
abbrev cX2_clear : ByteArray := prog_4_method_2_code
def yX2_clear : MethodName := ⟨RX2, "clear", "()V"⟩
abbrev cX2_dropLast : ByteArray := prog_4_method_3_code
def yX2_dropLast : MethodName := ⟨RX2, "dropLast", "()V"⟩
abbrev cX2_start : ByteArray := prog_4_method_4_code
def yX2_start : MethodName := ⟨RX2, "start", "()Z"⟩
abbrev cX2_put : ByteArray := prog_4_method_5_code
def yX2_put : MethodName := ⟨RX2, "put", "(I)V"⟩
abbrev cX2_copy : ByteArray := prog_4_method_6_code
def yX2_copy : MethodName := ⟨RX2, "copy", "(LSumRewriter$Rows;I)V"⟩
abbrev cX2_copyCells : ByteArray := prog_4_method_7_code
def yX2_copyCells : MethodName := ⟨RX2, "copyCells", "(LSumRewriter$Rows;III)V"⟩
abbrev cX2_lengthOf : ByteArray := prog_4_method_8_code
def yX2_lengthOf : MethodName := ⟨RX2, "lengthOf", "(I)I"⟩
abbrev cX2_cellAt : ByteArray := prog_4_method_9_code
def yX2_cellAt : MethodName := ⟨RX2, "cellAt", "(II)I"⟩
abbrev cX2_compare : ByteArray := prog_4_method_10_code
def yX2_compare : MethodName := ⟨RX2, "compare", "(ILSumRewriter$Rows;I)I"⟩
abbrev cX2_indexOf : ByteArray := prog_4_method_11_code
def yX2_indexOf : MethodName := ⟨RX2, "indexOf", "(LSumRewriter$Rows;I)I"⟩
abbrev cX2_nth : ByteArray := prog_4_method_12_code
def yX2_nth : MethodName := ⟨RX2, "nth", "(IJ)I"⟩
abbrev cX2_ahead : ByteArray := prog_4_method_13_code
def yX2_ahead : MethodName := ⟨RX2, "ahead", "(IJ)I"⟩
abbrev cX2_spanAt : ByteArray := prog_4_method_14_code
def yX2_spanAt : MethodName := ⟨RX2, "spanAt", "(II)I"⟩
abbrev cX2_depthOf : ByteArray := prog_4_method_15_code
def yX2_depthOf : MethodName := ⟨RX2, "depthOf", "(I)I"⟩
abbrev cX2_leave : ByteArray := prog_4_method_16_code
def yX2_leave : MethodName := ⟨RX2, "leave", "(I)I"⟩
abbrev cX2_variablesIn : ByteArray := prog_4_method_17_code
def yX2_variablesIn : MethodName := ⟨RX2, "variablesIn", "(I)I"⟩
abbrev cX2_timesOfVariables : ByteArray := prog_4_method_18_code
def yX2_timesOfVariables : MethodName := ⟨RX2, "timesOfVariables", "(I)I"⟩
abbrev cX2_operatorsIn : ByteArray := prog_4_method_19_code
def yX2_operatorsIn : MethodName := ⟨RX2, "operatorsIn", "(I)I"⟩
abbrev cX2_partsWith : ByteArray := prog_4_method_20_code
def yX2_partsWith : MethodName := ⟨RX2, "partsWith", "(II)I"⟩
def RX3 : String := "SumRewriter$Scanner"
def TX3 : u_T := fun k => match k with
  | 0 => ("SumRewriter$Scanner", "tape", "[I", true)
  | 1 => ("SumRewriter$Scanner", "length", "I", false)
  | 2 => ("SumRewriter$Scanner", "limit", "I", false)
  | 3 => ("SumRewriter$Scanner", "at", "I", false)
  | 4 => ("SumRewriter$Scanner", "sort", "I", false)
  | 5 => ("SumRewriter$Scanner", "start", "I", false)
  | _ => ("SumRewriter$Scanner", "value", "I", false)
def tyX3 : Nat → FieldType := fun k => match k with
  | 0 => .array .int
  | 1 => .int
  | 2 => .int
  | 3 => .int
  | 4 => .int
  | 5 => .int
  | _ => .int
abbrev wsX30 : List Cond := u_ws RX3 TX3 7
theorem nmX3 : ∀ a, a < 7 → ∀ b, b < 7 → a ≠ b → (TX3 a).2.1 ≠ (TX3 b).2.1 := by decide +kernel
theorem tyX3_ok : ∀ k, k < 7 → parseFieldDescriptor (TX3 k).2.2.1 = some (tyX3 k) := by decide +kernel
abbrev cX3_init : ByteArray := prog_5_method_1_code
def yX3_init : MethodName := ⟨RX3, "<init>", "()V"⟩
abbrev cX3_append : ByteArray := prog_5_method_2_code
def yX3_append : MethodName := ⟨RX3, "append", "(IIIII)I"⟩
abbrev cX3_write : ByteArray := prog_5_method_3_code
def yX3_write : MethodName := ⟨RX3, "write", "(I)V"⟩
abbrev cX3_cut : ByteArray := prog_5_method_4_code
def yX3_cut : MethodName := ⟨RX3, "cut", "(I)Z"⟩
abbrev cX3_open : ByteArray := prog_5_method_5_code
def yX3_open : MethodName := ⟨RX3, "open", "()V"⟩
abbrev cX3_advance : ByteArray := prog_5_method_6_code
def yX3_advance : MethodName := ⟨RX3, "advance", "()V"⟩
abbrev cX3_readWord : ByteArray := prog_5_method_7_code
def yX3_readWord : MethodName := ⟨RX3, "readWord", "()V"⟩
abbrev cX3_readNumber : ByteArray := prog_5_method_8_code
def yX3_readNumber : MethodName := ⟨RX3, "readNumber", "()V"⟩
abbrev cX3_look : ByteArray := prog_5_method_9_code
def yX3_look : MethodName := ⟨RX3, "look", "()I"⟩
abbrev cX3_isBlank : ByteArray := prog_5_method_10_code
def yX3_isBlank : MethodName := ⟨RX3, "isBlank", "(I)Z"⟩
abbrev cX3_isLetter : ByteArray := prog_5_method_11_code
def yX3_isLetter : MethodName := ⟨RX3, "isLetter", "(I)Z"⟩
abbrev cX3_isDigit : ByteArray := prog_5_method_12_code
def yX3_isDigit : MethodName := ⟨RX3, "isDigit", "(I)Z"⟩
abbrev cX3_isSign : ByteArray := prog_5_method_13_code
def yX3_isSign : MethodName := ⟨RX3, "isSign", "(I)Z"⟩
def RX4 : String := "SumRewriter$Shown"
def TX4 : u_T := fun k => match k with
  | 0 => ("SumRewriter$Shown", "names", "LSumRewriter$Signature;", true)
  | 1 => ("SumRewriter$Shown", "row", "LSumRewriter$Rows;", true)
  | 2 => ("SumRewriter$Shown", "bytes", "[I", true)
  | 3 => ("SumRewriter$Shown", "awaited", "[I", true)
  | _ => ("SumRewriter$Shown", "length", "I", false)
def tyX4 : Nat → FieldType := fun k => match k with
  | 0 => .object "SumRewriter$Signature"
  | 1 => .object "SumRewriter$Rows"
  | 2 => .array .int
  | 3 => .array .int
  | _ => .int
abbrev wsX40 : List Cond := u_ws RX4 TX4 5
theorem nmX4 : ∀ a, a < 5 → ∀ b, b < 5 → a ≠ b → (TX4 a).2.1 ≠ (TX4 b).2.1 := by decide +kernel
theorem tyX4_ok : ∀ k, k < 5 → parseFieldDescriptor (TX4 k).2.2.1 = some (tyX4 k) := by decide +kernel
abbrev cX4_init : ByteArray := prog_6_method_1_code
def yX4_init : MethodName := ⟨RX4, "<init>", "(LSumRewriter$Signature;)V"⟩
abbrev cX4_clear : ByteArray := prog_6_method_2_code
def yX4_clear : MethodName := ⟨RX4, "clear", "()V"⟩
abbrev cX4_take : ByteArray := prog_6_method_3_code
def yX4_take : MethodName := ⟨RX4, "take", "(LSumRewriter$Rows;I)I"⟩
abbrev cX4_byteAt : ByteArray := prog_6_method_4_code
def yX4_byteAt : MethodName := ⟨RX4, "byteAt", "(I)I"⟩
abbrev cX4_spell : ByteArray := prog_6_method_5_code
def yX4_spell : MethodName := ⟨RX4, "spell", "()V"⟩
abbrev cX4_closeAll : ByteArray := prog_6_method_6_code
def yX4_closeAll : MethodName := ⟨RX4, "closeAll", "(I)I"⟩
abbrev cX4_putName : ByteArray := prog_6_method_7_code
def yX4_putName : MethodName := ⟨RX4, "putName", "(I)V"⟩
abbrev cX4_putByte : ByteArray := prog_6_method_8_code
def yX4_putByte : MethodName := ⟨RX4, "putByte", "(I)V"⟩
def RX5 : String := "SumRewriter$Signature"
def TX5 : u_T := fun k => match k with
  | 0 => ("SumRewriter$Signature", "names", "[I", true)
  | 1 => ("SumRewriter$Signature", "kinds", "[I", true)
  | 2 => ("SumRewriter$Signature", "parts", "[I", true)
  | 3 => ("SumRewriter$Signature", "units", "[I", true)
  | 4 => ("SumRewriter$Signature", "variableNames", "[I", true)
  | 5 => ("SumRewriter$Signature", "operators", "I", false)
  | 6 => ("SumRewriter$Signature", "variables", "I", false)
  | _ => ("SumRewriter$Signature", "lastingBits", "I", false)
def tyX5 : Nat → FieldType := fun k => match k with
  | 0 => .array .int
  | 1 => .array .int
  | 2 => .array .int
  | 3 => .array .int
  | 4 => .array .int
  | 5 => .int
  | 6 => .int
  | _ => .int
abbrev wsX50 : List Cond := u_ws RX5 TX5 8
theorem nmX5 : ∀ a, a < 8 → ∀ b, b < 8 → a ≠ b → (TX5 a).2.1 ≠ (TX5 b).2.1 := by decide +kernel
theorem tyX5_ok : ∀ k, k < 8 → parseFieldDescriptor (TX5 k).2.2.1 = some (tyX5 k) := by decide +kernel
abbrev cX5_init : ByteArray := prog_7_method_1_code
def yX5_init : MethodName := ⟨RX5, "<init>", "()V"⟩
abbrev cX5_takeOver : ByteArray := prog_7_method_2_code
def yX5_takeOver : MethodName := ⟨RX5, "takeOver", "(LSumRewriter$Signature;)V"⟩
abbrev cX5_read : ByteArray := prog_7_method_3_code
def yX5_read : MethodName := ⟨RX5, "read", "(LSumRewriter$Scanner;)Z"⟩
abbrev cX5_readClause : ByteArray := prog_7_method_4_code
def yX5_readClause : MethodName := ⟨RX5, "readClause", "(LSumRewriter$Scanner;)Z"⟩
abbrev cX5_readOperator : ByteArray := prog_7_method_5_code
def yX5_readOperator : MethodName := ⟨RX5, "readOperator", "(LSumRewriter$Scanner;II)Z"⟩
abbrev cX5_isNewName : ByteArray := prog_7_method_6_code
def yX5_isNewName : MethodName := ⟨RX5, "isNewName", "(I)Z"⟩
abbrev cX5_addOperator : ByteArray := prog_7_method_7_code
def yX5_addOperator : MethodName := ⟨RX5, "addOperator", "(IIII)V"⟩
abbrev cX5_addVariable : ByteArray := prog_7_method_8_code
def yX5_addVariable : MethodName := ⟨RX5, "addVariable", "(I)V"⟩
abbrev cX5_findOperator : ByteArray := prog_7_method_9_code
def yX5_findOperator : MethodName := ⟨RX5, "findOperator", "(I)I"⟩
abbrev cX5_findVariable : ByteArray := prog_7_method_10_code
def yX5_findVariable : MethodName := ⟨RX5, "findVariable", "(I)I"⟩
abbrev cX5_kindOf : ByteArray := prog_7_method_11_code
def yX5_kindOf : MethodName := ⟨RX5, "kindOf", "(I)I"⟩
abbrev cX5_partsOf : ByteArray := prog_7_method_12_code
def yX5_partsOf : MethodName := ⟨RX5, "partsOf", "(I)I"⟩
abbrev cX5_unitOf : ByteArray := prog_7_method_13_code
def yX5_unitOf : MethodName := ⟨RX5, "unitOf", "(I)I"⟩
abbrev cX5_unitCodeOf : ByteArray := prog_7_method_14_code
def yX5_unitCodeOf : MethodName := ⟨RX5, "unitCodeOf", "(I)I"⟩
abbrev cX5_nameOf : ByteArray := prog_7_method_15_code
def yX5_nameOf : MethodName := ⟨RX5, "nameOf", "(I)I"⟩
def RX6 : String := "SumRewriter$Spread"
def TX6 : u_T := fun k => match k with
  | 0 => ("SumRewriter$Spread", "stepper", "LSumRewriter$Stepper;", true)
  | 1 => ("SumRewriter$Spread", "rows", "LSumRewriter$Rows;", true)
  | 2 => ("SumRewriter$Spread", "asked", "I", false)
  | _ => ("SumRewriter$Spread", "normals", "J", false)
def tyX6 : Nat → FieldType := fun k => match k with
  | 0 => .object "SumRewriter$Stepper"
  | 1 => .object "SumRewriter$Rows"
  | 2 => .int
  | _ => .long
abbrev wsX60 : List Cond := u_ws RX6 TX6 4
theorem nmX6 : ∀ a, a < 4 → ∀ b, b < 4 → a ≠ b → (TX6 a).2.1 ≠ (TX6 b).2.1 := by decide +kernel
theorem tyX6_ok : ∀ k, k < 4 → parseFieldDescriptor (TX6 k).2.2.1 = some (tyX6 k) := by decide +kernel
abbrev cX6_init : ByteArray := prog_8_method_1_code
def yX6_init : MethodName := ⟨RX6, "<init>", "(LSumRewriter$Stepper;)V"⟩
abbrev cX6_begin : ByteArray := prog_8_method_2_code
def yX6_begin : MethodName := ⟨RX6, "begin", "(LSumRewriter$Rows;I)V"⟩
abbrev cX6_grow : ByteArray := prog_8_method_3_code
def yX6_grow : MethodName := ⟨RX6, "grow", "(IZ)Z"⟩
abbrev cX6_keepNew : ByteArray := prog_8_method_4_code
def yX6_keepNew : MethodName := ⟨RX6, "keepNew", "()Z"⟩
abbrev cX6_howManyNormal : ByteArray := prog_8_method_5_code
def yX6_howManyNormal : MethodName := ⟨RX6, "howManyNormal", "()I"⟩
abbrev cX6_meets : ByteArray := prog_8_method_6_code
def yX6_meets : MethodName := ⟨RX6, "meets", "(LSumRewriter$Spread;)Z"⟩
def RX7 : String := "SumRewriter$Stepper"
def TX7 : u_T := fun k => match k with
  | 0 => ("SumRewriter$Stepper", "terms", "LSumRewriter$Terms;", true)
  | 1 => ("SumRewriter$Stepper", "matcher", "LSumRewriter$Matcher;", true)
  | 2 => ("SumRewriter$Stepper", "found", "LSumRewriter$Rows;", true)
  | 3 => ("SumRewriter$Stepper", "sorted", "[I", true)
  | 4 => ("SumRewriter$Stepper", "stepPlaces", "[I", true)
  | 5 => ("SumRewriter$Stepper", "stepRules", "[I", true)
  | 6 => ("SumRewriter$Stepper", "lefts", "[I", true)
  | 7 => ("SumRewriter$Stepper", "rights", "[I", true)
  | 8 => ("SumRewriter$Stepper", "placeNodes", "[I", true)
  | 9 => ("SumRewriter$Stepper", "placeParents", "[I", true)
  | 10 => ("SumRewriter$Stepper", "placeIndexes", "[I", true)
  | 11 => ("SumRewriter$Stepper", "placeSeen", "[I", true)
  | 12 => ("SumRewriter$Stepper", "rulesUsed", "I", false)
  | 13 => ("SumRewriter$Stepper", "base", "I", false)
  | 14 => ("SumRewriter$Stepper", "places", "I", false)
  | _ => ("SumRewriter$Stepper", "group", "I", false)
def tyX7 : Nat → FieldType := fun k => match k with
  | 0 => .object "SumRewriter$Terms"
  | 1 => .object "SumRewriter$Matcher"
  | 2 => .object "SumRewriter$Rows"
  | 3 => .array .int
  | 4 => .array .int
  | 5 => .array .int
  | 6 => .array .int
  | 7 => .array .int
  | 8 => .array .int
  | 9 => .array .int
  | 10 => .array .int
  | 11 => .array .int
  | 12 => .int
  | 13 => .int
  | 14 => .int
  | _ => .int
abbrev wsX70 : List Cond := u_ws RX7 TX7 16
theorem nmX7 : ∀ a, a < 16 → ∀ b, b < 16 → a ≠ b → (TX7 a).2.1 ≠ (TX7 b).2.1 := by decide +kernel
theorem tyX7_ok : ∀ k, k < 16 → parseFieldDescriptor (TX7 k).2.2.1 = some (tyX7 k) := by decide +kernel
abbrev cX7_init : ByteArray := prog_9_method_1_code
def yX7_init : MethodName := ⟨RX7, "<init>", "(LSumRewriter$Terms;LSumRewriter$Matcher;)V"⟩
abbrev cX7_prepare : ByteArray := prog_9_method_2_code
def yX7_prepare : MethodName := ⟨RX7, "prepare", "(LSumRewriter$Rows;I)V"⟩
abbrev cX7_used : ByteArray := prog_9_method_3_code
def yX7_used : MethodName := ⟨RX7, "used", "()I"⟩
abbrev cX7_slotOf : ByteArray := prog_9_method_4_code
def yX7_slotOf : MethodName := ⟨RX7, "slotOf", "(I)I"⟩
abbrev cX7_placeOf : ByteArray := prog_9_method_5_code
def yX7_placeOf : MethodName := ⟨RX7, "placeOf", "(I)I"⟩
abbrev cX7_ruleOf : ByteArray := prog_9_method_6_code
def yX7_ruleOf : MethodName := ⟨RX7, "ruleOf", "(I)I"⟩
abbrev cX7_list : ByteArray := prog_9_method_7_code
def yX7_list : MethodName := ⟨RX7, "list", "(LSumRewriter$Rows;II)Z"⟩
abbrev cX7_layPlaces : ByteArray := prog_9_method_8_code
def yX7_layPlaces : MethodName := ⟨RX7, "layPlaces", "(II)V"⟩
abbrev cX7_awaiting : ByteArray := prog_9_method_9_code
def yX7_awaiting : MethodName := ⟨RX7, "awaiting", "(I)I"⟩
abbrev cX7_wholeOf : ByteArray := prog_9_method_10_code
def yX7_wholeOf : MethodName := ⟨RX7, "wholeOf", "(II)I"⟩
abbrev cX7_targetOf : ByteArray := prog_9_method_11_code
def yX7_targetOf : MethodName := ⟨RX7, "targetOf", "(III)I"⟩
abbrev cX7_offerAll : ByteArray := prog_9_method_12_code
def yX7_offerAll : MethodName := ⟨RX7, "offerAll", "(III)Z"⟩
abbrev cX7_withOthers : ByteArray := prog_9_method_13_code
def yX7_withOthers : MethodName := ⟨RX7, "withOthers", "(III)I"⟩
abbrev cX7_rebuild : ByteArray := prog_9_method_14_code
def yX7_rebuild : MethodName := ⟨RX7, "rebuild", "(II)I"⟩
abbrev cX7_insert : ByteArray := prog_9_method_15_code
def yX7_insert : MethodName := ⟨RX7, "insert", "(III)Z"⟩
def RX8 : String := "SumRewriter$Terms"
def TX8 : u_T := fun k => match k with
  | 0 => ("SumRewriter$Terms", "kinds", "LSumRewriter$Signature;", true)
  | 1 => ("SumRewriter$Terms", "codes", "[I", true)
  | 2 => ("SumRewriter$Terms", "sizes", "[I", true)
  | 3 => ("SumRewriter$Terms", "masks", "[I", true)
  | 4 => ("SumRewriter$Terms", "parts", "[I", true)
  | 5 => ("SumRewriter$Terms", "lows", "[J", true)
  | 6 => ("SumRewriter$Terms", "highs", "[J", true)
  | 7 => ("SumRewriter$Terms", "hashes", "[I", true)
  | 8 => ("SumRewriter$Terms", "nexts", "[I", true)
  | 9 => ("SumRewriter$Terms", "buckets", "[I", true)
  | 10 => ("SumRewriter$Terms", "line", "[I", true)
  | 11 => ("SumRewriter$Terms", "stack", "[I", true)
  | 12 => ("SumRewriter$Terms", "used", "I", false)
  | 13 => ("SumRewriter$Terms", "stacked", "I", false)
  | 14 => ("SumRewriter$Terms", "lined", "I", false)
  | 15 => ("SumRewriter$Terms", "lineOperator", "I", false)
  | 16 => ("SumRewriter$Terms", "lineKind", "I", false)
  | 17 => ("SumRewriter$Terms", "lineUnit", "I", false)
  | _ => ("SumRewriter$Terms", "spoiled", "Z", false)
def tyX8 : Nat → FieldType := fun k => match k with
  | 0 => .object "SumRewriter$Signature"
  | 1 => .array .int
  | 2 => .array .int
  | 3 => .array .int
  | 4 => .array .int
  | 5 => .array .long
  | 6 => .array .long
  | 7 => .array .int
  | 8 => .array .int
  | 9 => .array .int
  | 10 => .array .int
  | 11 => .array .int
  | 12 => .int
  | 13 => .int
  | 14 => .int
  | 15 => .int
  | 16 => .int
  | 17 => .int
  | _ => .boolean
abbrev wsX80 : List Cond := u_ws RX8 TX8 19
theorem nmX8 : ∀ a, a < 19 → ∀ b, b < 19 → a ≠ b → (TX8 a).2.1 ≠ (TX8 b).2.1 := by decide +kernel
theorem tyX8_ok : ∀ k, k < 19 → parseFieldDescriptor (TX8 k).2.2.1 = some (tyX8 k) := by decide +kernel
abbrev cX8_init : ByteArray := prog_10_method_1_code
def yX8_init : MethodName := ⟨RX8, "<init>", "(LSumRewriter$Signature;)V"⟩
abbrev cX8_clear : ByteArray := prog_10_method_2_code
def yX8_clear : MethodName := ⟨RX8, "clear", "()V"⟩
abbrev cX8_giveBack : ByteArray := prog_10_method_3_code
def yX8_giveBack : MethodName := ⟨RX8, "giveBack", "(I)V"⟩
abbrev cX8_codeOf : ByteArray := prog_10_method_4_code
def yX8_codeOf : MethodName := ⟨RX8, "codeOf", "(I)I"⟩
abbrev cX8_maskOf : ByteArray := prog_10_method_5_code
def yX8_maskOf : MethodName := ⟨RX8, "maskOf", "(I)I"⟩
abbrev cX8_lowOf : ByteArray := prog_10_method_6_code
def yX8_lowOf : MethodName := ⟨RX8, "lowOf", "(I)J"⟩
abbrev cX8_highOf : ByteArray := prog_10_method_7_code
def yX8_highOf : MethodName := ⟨RX8, "highOf", "(I)J"⟩
abbrev cX8_partOf : ByteArray := prog_10_method_8_code
def yX8_partOf : MethodName := ⟨RX8, "partOf", "(II)I"⟩
abbrev cX8_kindAt : ByteArray := prog_10_method_9_code
def yX8_kindAt : MethodName := ⟨RX8, "kindAt", "(I)I"⟩
abbrev cX8_hasUnit : ByteArray := prog_10_method_10_code
def yX8_hasUnit : MethodName := ⟨RX8, "hasUnit", "(I)Z"⟩
abbrev cX8_partsAsSum : ByteArray := prog_10_method_11_code
def yX8_partsAsSum : MethodName := ⟨RX8, "partsAsSum", "(II)I"⟩
abbrev cX8_partAsSum : ByteArray := prog_10_method_12_code
def yX8_partAsSum : MethodName := ⟨RX8, "partAsSum", "(III)I"⟩
abbrev cX8_sortOf : ByteArray := prog_10_method_13_code
def yX8_sortOf : MethodName := ⟨RX8, "sortOf", "(I)I"⟩
abbrev cX8_subSum : ByteArray := prog_10_method_14_code
def yX8_subSum : MethodName := ⟨RX8, "subSum", "(III)I"⟩
abbrev cX8_isFirstChoice : ByteArray := prog_10_method_15_code
def yX8_isFirstChoice : MethodName := ⟨RX8, "isFirstChoice", "(III)Z"⟩
abbrev cX8_without : ByteArray := prog_10_method_16_code
def yX8_without : MethodName := ⟨RX8, "without", "(IIII)I"⟩
abbrev cX8_compare : ByteArray := prog_10_method_17_code
def yX8_compare : MethodName := ⟨RX8, "compare", "(II)I"⟩
abbrev cX8_begin : ByteArray := prog_10_method_18_code
def yX8_begin : MethodName := ⟨RX8, "begin", "(I)V"⟩
abbrev cX8_lay : ByteArray := prog_10_method_19_code
def yX8_lay : MethodName := ⟨RX8, "lay", "(I)V"⟩
abbrev cX8_close : ByteArray := prog_10_method_20_code
def yX8_close : MethodName := ⟨RX8, "close", "()I"⟩
abbrev cX8_leaf : ByteArray := prog_10_method_21_code
def yX8_leaf : MethodName := ⟨RX8, "leaf", "(I)I"⟩
abbrev cX8_intern : ByteArray := prog_10_method_22_code
def yX8_intern : MethodName := ⟨RX8, "intern", "(II)I"⟩
abbrev cX8_fromRow : ByteArray := prog_10_method_23_code
def yX8_fromRow : MethodName := ⟨RX8, "fromRow", "(LSumRewriter$Rows;I)I"⟩
abbrev cX8_write : ByteArray := prog_10_method_24_code
def yX8_write : MethodName := ⟨RX8, "write", "(ILSumRewriter$Rows;)V"⟩
abbrev cX8_push : ByteArray := prog_10_method_25_code
def yX8_push : MethodName := ⟨RX8, "push", "(I)V"⟩
abbrev cX8_pop : ByteArray := prog_10_method_26_code
def yX8_pop : MethodName := ⟨RX8, "pop", "()I"⟩
abbrev cX8_put : ByteArray := prog_10_method_27_code
def yX8_put : MethodName := ⟨RX8, "put", "(I[III)I"⟩
def RX9 : String := "SumRewriter"
def TX9 : u_T := fun k => match k with
  | 0 => ("SumRewriter", "scanner", "LSumRewriter$Scanner;", true)
  | 1 => ("SumRewriter", "current", "LSumRewriter$Signature;", true)
  | 2 => ("SumRewriter", "spare", "LSumRewriter$Signature;", true)
  | 3 => ("SumRewriter", "terms", "LSumRewriter$Terms;", true)
  | 4 => ("SumRewriter", "reader", "LSumRewriter$Reader;", true)
  | 5 => ("SumRewriter", "told", "LSumRewriter$Rows;", true)
  | 6 => ("SumRewriter", "sides", "LSumRewriter$Rows;", true)
  | 7 => ("SumRewriter", "scratch", "LSumRewriter$Rows;", true)
  | 8 => ("SumRewriter", "shown", "LSumRewriter$Shown;", true)
  | 9 => ("SumRewriter", "matcher", "LSumRewriter$Matcher;", true)
  | 10 => ("SumRewriter", "stepper", "LSumRewriter$Stepper;", true)
  | 11 => ("SumRewriter", "here", "LSumRewriter$Spread;", true)
  | 12 => ("SumRewriter", "there", "LSumRewriter$Spread;", true)
  | 13 => ("SumRewriter", "bindings", "[I", true)
  | 14 => ("SumRewriter", "rulesOn", "I", false)
  | _ => ("SumRewriter", "faultAt", "I", false)
def tyX9 : Nat → FieldType := fun k => match k with
  | 0 => .object "SumRewriter$Scanner"
  | 1 => .object "SumRewriter$Signature"
  | 2 => .object "SumRewriter$Signature"
  | 3 => .object "SumRewriter$Terms"
  | 4 => .object "SumRewriter$Reader"
  | 5 => .object "SumRewriter$Rows"
  | 6 => .object "SumRewriter$Rows"
  | 7 => .object "SumRewriter$Rows"
  | 8 => .object "SumRewriter$Shown"
  | 9 => .object "SumRewriter$Matcher"
  | 10 => .object "SumRewriter$Stepper"
  | 11 => .object "SumRewriter$Spread"
  | 12 => .object "SumRewriter$Spread"
  | 13 => .array .int
  | 14 => .int
  | _ => .int
abbrev wsX90 : List Cond := u_ws RX9 TX9 16
theorem nmX9 : ∀ a, a < 16 → ∀ b, b < 16 → a ≠ b → (TX9 a).2.1 ≠ (TX9 b).2.1 := by decide +kernel
theorem tyX9_ok : ∀ k, k < 16 → parseFieldDescriptor (TX9 k).2.2.1 = some (tyX9 k) := by decide +kernel
abbrev cX9_init : ByteArray := prog_1_method_1_code
def yX9_init : MethodName := ⟨RX9, "<init>", "()V"⟩
abbrev cX9_feed : ByteArray := prog_1_method_2_code
def yX9_feed : MethodName := ⟨RX9, "feed", "(IIIII)I"⟩
abbrev cX9_end : ByteArray := prog_1_method_3_code
def yX9_end : MethodName := ⟨RX9, "end", "(I)Z"⟩
abbrev cX9_fault : ByteArray := prog_1_method_7_code
def yX9_fault : MethodName := ⟨RX9, "fault", "()I"⟩
abbrev cX9_checkText : ByteArray := prog_1_method_8_code
def yX9_checkText : MethodName := ⟨RX9, "checkText", "(Z)V"⟩
abbrev cX9_tell : ByteArray := prog_1_method_9_code
def yX9_tell : MethodName := ⟨RX9, "tell", "(LSumRewriter$Rows;)I"⟩
abbrev cX9_turn : ByteArray := prog_1_method_10_code
def yX9_turn : MethodName := ⟨RX9, "turn", "(IZ)Z"⟩
abbrev cX9_operator : ByteArray := prog_1_method_11_code
def yX9_operator : MethodName := ⟨RX9, "operator", "(II)I"⟩
abbrev cX9_termsWith : ByteArray := prog_1_method_12_code
def yX9_termsWith : MethodName := ⟨RX9, "termsWith", "(I)I"⟩
abbrev cX9_about : ByteArray := prog_1_method_13_code
def yX9_about : MethodName := ⟨RX9, "about", "(II)I"⟩
abbrev cX9_could : ByteArray := prog_1_method_14_code
def yX9_could : MethodName := ⟨RX9, "could", "(I)I"⟩
abbrev cX9_couldFit : ByteArray := prog_1_method_15_code
def yX9_couldFit : MethodName := ⟨RX9, "couldFit", "(II)Z"⟩
abbrev cX9_order : ByteArray := prog_1_method_16_code
def yX9_order : MethodName := ⟨RX9, "order", "(II)I"⟩
abbrev cX9_rank : ByteArray := prog_1_method_17_code
def yX9_rank : MethodName := ⟨RX9, "rank", "(I)I"⟩
abbrev cX9_show : ByteArray := prog_1_method_18_code
def yX9_show : MethodName := ⟨RX9, "show", "(I)I"⟩
abbrev cX9_place : ByteArray := prog_1_method_19_code
def yX9_place : MethodName := ⟨RX9, "place", "(II)I"⟩
abbrev cX9_side : ByteArray := prog_1_method_20_code
def yX9_side : MethodName := ⟨RX9, "side", "(IZ)I"⟩
abbrev cX9_keep : ByteArray := prog_1_method_21_code
def yX9_keep : MethodName := ⟨RX9, "keep", "()I"⟩
abbrev cX9_octet : ByteArray := prog_1_method_22_code
def yX9_octet : MethodName := ⟨RX9, "octet", "(I)I"⟩
abbrev cX9_showNode : ByteArray := prog_1_method_23_code
def yX9_showNode : MethodName := ⟨RX9, "showNode", "(I)I"⟩
abbrev cX9_matches : ByteArray := prog_1_method_24_code
def yX9_matches : MethodName := ⟨RX9, "matches", "(II)I"⟩
abbrev cX9_bound : ByteArray := prog_1_method_25_code
def yX9_bound : MethodName := ⟨RX9, "bound", "(IIII)I"⟩
abbrev cX9_matchTold : ByteArray := prog_1_method_26_code
def yX9_matchTold : MethodName := ⟨RX9, "matchTold", "(II)V"⟩
abbrev cX9_fill : ByteArray := prog_1_method_27_code
def yX9_fill : MethodName := ⟨RX9, "fill", "(III)I"⟩
abbrev cX9_join : ByteArray := prog_1_method_28_code
def yX9_join : MethodName := ⟨RX9, "join", "(III)I"⟩
abbrev cX9_showBuilt : ByteArray := prog_1_method_29_code
def yX9_showBuilt : MethodName := ⟨RX9, "showBuilt", "(I)I"⟩
abbrev cX9_checkStep : ByteArray := prog_1_method_36_code
def yX9_checkStep : MethodName := ⟨RX9, "checkStep", "(I)V"⟩
abbrev cX9_rules : ByteArray := prog_1_method_44_code
def yX9_rules : MethodName := ⟨RX9, "rules", "()I"⟩
abbrev cX9_checkTerm : ByteArray := prog_1_method_45_code
def yX9_checkTerm : MethodName := ⟨RX9, "checkTerm", "(I)V"⟩
abbrev cX9_checkRule : ByteArray := prog_1_method_46_code
def yX9_checkRule : MethodName := ⟨RX9, "checkRule", "(I)V"⟩
abbrev cX9_checkOperator : ByteArray := prog_1_method_47_code
def yX9_checkOperator : MethodName := ⟨RX9, "checkOperator", "(I)V"⟩
abbrev cX9_checkVariable : ByteArray := prog_1_method_48_code
def yX9_checkVariable : MethodName := ⟨RX9, "checkVariable", "(I)V"⟩
abbrev cX9_checkDistance : ByteArray := prog_1_method_49_code
def yX9_checkDistance : MethodName := ⟨RX9, "checkDistance", "(I)V"⟩
abbrev cX9_codeFor : ByteArray := prog_1_method_50_code
def yX9_codeFor : MethodName := ⟨RX9, "codeFor", "(II)I"⟩
abbrev cX9_operatorIn : ByteArray := prog_1_method_51_code
def yX9_operatorIn : MethodName := ⟨RX9, "operatorIn", "(I)I"⟩
abbrev cX9_partsIn : ByteArray := prog_1_method_52_code
def yX9_partsIn : MethodName := ⟨RX9, "partsIn", "(I)I"⟩
def RX10 : String := "SumRewriterModel"
def TX10 : u_T := fun k => match k with
  | 0 => ("SumRewriterModel", "thrown", "I", false)
  | 1 => ("SumRewriterModel", "tape", "[B", true)
  | 2 => ("SumRewriterModel", "taped", "I", false)
  | 3 => ("SumRewriterModel", "five", "[I", true)
  | 4 => ("SumRewriterModel", "size", "I", false)
  | 5 => ("SumRewriterModel", "point", "I", false)
  | 6 => ("SumRewriterModel", "begin", "I", false)
  | 7 => ("SumRewriterModel", "fault", "I", false)
  | 8 => ("SumRewriterModel", "names", "[B", true)
  | 9 => ("SumRewriterModel", "newNames", "[B", true)
  | 10 => ("SumRewriterModel", "nameMany", "[I", true)
  | 11 => ("SumRewriterModel", "newNameMany", "[I", true)
  | 12 => ("SumRewriterModel", "sort", "[I", true)
  | 13 => ("SumRewriterModel", "many", "[I", true)
  | 14 => ("SumRewriterModel", "unit", "[I", true)
  | 15 => ("SumRewriterModel", "newSort", "[I", true)
  | 16 => ("SumRewriterModel", "newMany", "[I", true)
  | 17 => ("SumRewriterModel", "newUnit", "[I", true)
  | 18 => ("SumRewriterModel", "operators", "I", false)
  | 19 => ("SumRewriterModel", "variables", "I", false)
  | 20 => ("SumRewriterModel", "newOperators", "I", false)
  | 21 => ("SumRewriterModel", "newVariables", "I", false)
  | 22 => ("SumRewriterModel", "pool", "[I", true)
  | 23 => ("SumRewriterModel", "top", "I", false)
  | 24 => ("SumRewriterModel", "spots", "[I", true)
  | 25 => ("SumRewriterModel", "kept", "[I", true)
  | 26 => ("SumRewriterModel", "terms", "I", false)
  | 27 => ("SumRewriterModel", "rules", "I", false)
  | 28 => ("SumRewriterModel", "onSet", "I", false)
  | 29 => ("SumRewriterModel", "goalPattern", "[I", true)
  | 30 => ("SumRewriterModel", "goalTerm", "[I", true)
  | 31 => ("SumRewriterModel", "bound", "[I", true)
  | 32 => ("SumRewriterModel", "work", "[I", true)
  | 33 => ("SumRewriterModel", "workTop", "I", false)
  | 34 => ("SumRewriterModel", "foundMany", "I", false)
  | 35 => ("SumRewriterModel", "patternVariables", "I", false)
  | 36 => ("SumRewriterModel", "found", "[I", true)
  | 37 => ("SumRewriterModel", "isTooMuch", "Z", false)
  | 38 => ("SumRewriterModel", "stepPlace", "[I", true)
  | 39 => ("SumRewriterModel", "stepRule", "[I", true)
  | 40 => ("SumRewriterModel", "stepRow", "[I", true)
  | 41 => ("SumRewriterModel", "stepMany", "I", false)
  | 42 => ("SumRewriterModel", "shownRow", "[I", true)
  | 43 => ("SumRewriterModel", "text", "[B", true)
  | 44 => ("SumRewriterModel", "isShown", "Z", false)
  | 45 => ("SumRewriterModel", "shown", "I", false)
  | 46 => ("SumRewriterModel", "reached", "[I", true)
  | 47 => ("SumRewriterModel", "reachMany", "[I", true)
  | 48 => ("SumRewriterModel", "reachDone", "[I", true)
  | _ => ("SumRewriterModel", "normals", "J", false)
def tyX10 : Nat → FieldType := fun k => match k with
  | 0 => .int
  | 1 => .array .byte
  | 2 => .int
  | 3 => .array .int
  | 4 => .int
  | 5 => .int
  | 6 => .int
  | 7 => .int
  | 8 => .array .byte
  | 9 => .array .byte
  | 10 => .array .int
  | 11 => .array .int
  | 12 => .array .int
  | 13 => .array .int
  | 14 => .array .int
  | 15 => .array .int
  | 16 => .array .int
  | 17 => .array .int
  | 18 => .int
  | 19 => .int
  | 20 => .int
  | 21 => .int
  | 22 => .array .int
  | 23 => .int
  | 24 => .array .int
  | 25 => .array .int
  | 26 => .int
  | 27 => .int
  | 28 => .int
  | 29 => .array .int
  | 30 => .array .int
  | 31 => .array .int
  | 32 => .array .int
  | 33 => .int
  | 34 => .int
  | 35 => .int
  | 36 => .array .int
  | 37 => .boolean
  | 38 => .array .int
  | 39 => .array .int
  | 40 => .array .int
  | 41 => .int
  | 42 => .array .int
  | 43 => .array .byte
  | 44 => .boolean
  | 45 => .int
  | 46 => .array .int
  | 47 => .array .int
  | 48 => .array .int
  | _ => .long
abbrev wsX100 : List Cond := u_ws RX10 TX10 50
theorem nmX10 : ∀ a, a < 50 → ∀ b, b < 50 → a ≠ b → (TX10 a).2.1 ≠ (TX10 b).2.1 := by decide +kernel
theorem tyX10_ok : ∀ k, k < 50 → parseFieldDescriptor (TX10 k).2.2.1 = some (tyX10 k) := by decide +kernel
abbrev cX10_init : ByteArray := prog_12_method_1_code
def yX10_init : MethodName := ⟨RX10, "<init>", "()V"⟩
def RJ6 : String := "java/lang/Integer"
abbrev cJ6_compare_7cf53 : ByteArray := prog_20_method_40_code
def yJ6_compare_7cf53 : MethodName := ⟨RJ6, "compare", "(II)I"⟩
abbrev cJ6_numberOfTrailingZeros_0f7a4 : ByteArray := prog_20_method_48_code
def yJ6_numberOfTrailingZeros_0f7a4 : MethodName := ⟨RJ6, "numberOfTrailingZeros", "(I)I"⟩
abbrev cJ6_bitCount_0f7a4 : ByteArray := prog_20_method_49_code
def yJ6_bitCount_0f7a4 : MethodName := ⟨RJ6, "bitCount", "(I)I"⟩
def RJ13 : String := "java/lang/Long"
abbrev cJ13_bitCount_95d88 : ByteArray := prog_21_method_50_code
def yJ13_bitCount_95d88 : MethodName := ⟨RJ13, "bitCount", "(J)I"⟩
abbrev vwCl : List vw_C := [(RX0, TX0, 20), (RX1, TX1, 8), (RX2, TX2, 4), (RX3, TX3, 7), (RX4, TX4, 5), (RX5, TX5, 8), (RX6, TX6, 4), (RX7, TX7, 16), (RX8, TX8, 19), (RX9, TX9, 16), (RX10, TX10, 50)]

theorem dX2_init_0 : decode cX2_init 0 = .ok (.aload_n 0, 1) := by decide +kernel
theorem dX2_init_1 : decode cX2_init 1 = .ok (.invokespecial 3, 3) := by decide +kernel
theorem dX2_init_4 : decode cX2_init 4 = .ok (.iconst 1, 1) := by decide +kernel
theorem dX2_init_5 : decode cX2_init 5 = .ok (.iload_n 1, 1) := by decide +kernel
theorem dX2_init_6 : decode cX2_init 6 = .ok (.sipush 201, 3) := by decide +kernel
theorem dX2_init_9 : decode cX2_init 9 = .ok (.invokestatic 9, 3) := by decide +kernel
theorem dX2_init_12 : decode cX2_init 12 = .ok (.invokestatic 15, 3) := by decide +kernel
theorem dX2_init_15 : decode cX2_init 15 = .ok (.istore_n 2, 1) := by decide +kernel
theorem dX2_init_16 : decode cX2_init 16 = .ok (.aload_n 0, 1) := by decide +kernel
theorem dX2_init_17 : decode cX2_init 17 = .ok (.iload_n 2, 1) := by decide +kernel
theorem dX2_init_18 : decode cX2_init 18 = .ok (.bipush 20, 2) := by decide +kernel
theorem dX2_init_20 : decode cX2_init 20 = .ok (.imul, 1) := by decide +kernel
theorem dX2_init_21 : decode cX2_init 21 = .ok (.newarray .int, 2) := by decide +kernel
theorem dX2_init_23 : decode cX2_init 23 = .ok (.putfield 18, 3) := by decide +kernel
theorem dX2_init_26 : decode cX2_init 26 = .ok (.aload_n 0, 1) := by decide +kernel
theorem dX2_init_27 : decode cX2_init 27 = .ok (.iload_n 2, 1) := by decide +kernel
theorem dX2_init_28 : decode cX2_init 28 = .ok (.newarray .int, 2) := by decide +kernel
theorem dX2_init_30 : decode cX2_init 30 = .ok (.putfield 24, 3) := by decide +kernel
theorem dX2_init_33 : decode cX2_init 33 = .ok (.aload_n 0, 1) := by decide +kernel
theorem dX2_init_34 : decode cX2_init 34 = .ok (.bipush 21, 2) := by decide +kernel
theorem dX2_init_36 : decode cX2_init 36 = .ok (.newarray .int, 2) := by decide +kernel
theorem dX2_init_38 : decode cX2_init 38 = .ok (.putfield 27, 3) := by decide +kernel
theorem dX2_init_41 : decode cX2_init 41 = .ok (.return_, 1) := by decide +kernel
theorem dX2_clear_0 : decode cX2_clear 0 = .ok (.aload_n 0, 1) := by decide +kernel
theorem dX2_clear_1 : decode cX2_clear 1 = .ok (.iconst 0, 1) := by decide +kernel
theorem dX2_clear_2 : decode cX2_clear 2 = .ok (.putfield 30, 3) := by decide +kernel
theorem dX2_clear_5 : decode cX2_clear 5 = .ok (.return_, 1) := by decide +kernel
theorem dX2_dropLast_0 : decode cX2_dropLast 0 = .ok (.aload_n 0, 1) := by decide +kernel
theorem dX2_dropLast_1 : decode cX2_dropLast 1 = .ok (.iconst 0, 1) := by decide +kernel
theorem dX2_dropLast_2 : decode cX2_dropLast 2 = .ok (.aload_n 0, 1) := by decide +kernel
theorem dX2_dropLast_3 : decode cX2_dropLast 3 = .ok (.getfield 30, 3) := by decide +kernel
theorem dX2_dropLast_6 : decode cX2_dropLast 6 = .ok (.iconst 1, 1) := by decide +kernel
theorem dX2_dropLast_7 : decode cX2_dropLast 7 = .ok (.isub, 1) := by decide +kernel
theorem dX2_dropLast_8 : decode cX2_dropLast 8 = .ok (.invokestatic 15, 3) := by decide +kernel
theorem dX2_dropLast_11 : decode cX2_dropLast 11 = .ok (.putfield 30, 3) := by decide +kernel
theorem dX2_dropLast_14 : decode cX2_dropLast 14 = .ok (.return_, 1) := by decide +kernel
theorem dX2_start_0 : decode cX2_start 0 = .ok (.aload_n 0, 1) := by decide +kernel
theorem dX2_start_1 : decode cX2_start 1 = .ok (.getfield 30, 3) := by decide +kernel
theorem dX2_start_4 : decode cX2_start 4 = .ok (.ifCond .lt 15, 3) := by decide +kernel
theorem dX2_start_7 : decode cX2_start 7 = .ok (.aload_n 0, 1) := by decide +kernel
theorem dX2_start_8 : decode cX2_start 8 = .ok (.getfield 30, 3) := by decide +kernel
theorem dX2_start_11 : decode cX2_start 11 = .ok (.aload_n 0, 1) := by decide +kernel
theorem dX2_start_12 : decode cX2_start 12 = .ok (.getfield 24, 3) := by decide +kernel
theorem dX2_start_15 : decode cX2_start 15 = .ok (.arraylength, 1) := by decide +kernel
theorem dX2_start_16 : decode cX2_start 16 = .ok (.if_icmp .lt 5, 3) := by decide +kernel
theorem dX2_start_19 : decode cX2_start 19 = .ok (.iconst 0, 1) := by decide +kernel
theorem dX2_start_20 : decode cX2_start 20 = .ok (.ireturn, 1) := by decide +kernel
theorem dX2_start_21 : decode cX2_start 21 = .ok (.aload_n 0, 1) := by decide +kernel
theorem dX2_start_22 : decode cX2_start 22 = .ok (.getfield 24, 3) := by decide +kernel
theorem dX2_start_25 : decode cX2_start 25 = .ok (.aload_n 0, 1) := by decide +kernel
theorem dX2_start_26 : decode cX2_start 26 = .ok (.getfield 30, 3) := by decide +kernel
theorem dX2_start_29 : decode cX2_start 29 = .ok (.iconst 0, 1) := by decide +kernel
theorem dX2_start_30 : decode cX2_start 30 = .ok (.iastore, 1) := by decide +kernel
theorem dX2_start_31 : decode cX2_start 31 = .ok (.aload_n 0, 1) := by decide +kernel
theorem dX2_start_32 : decode cX2_start 32 = .ok (.dup, 1) := by decide +kernel
theorem dX2_start_33 : decode cX2_start 33 = .ok (.getfield 30, 3) := by decide +kernel
theorem dX2_start_36 : decode cX2_start 36 = .ok (.iconst 1, 1) := by decide +kernel
theorem dX2_start_37 : decode cX2_start 37 = .ok (.iadd, 1) := by decide +kernel
theorem dX2_start_38 : decode cX2_start 38 = .ok (.putfield 30, 3) := by decide +kernel
theorem dX2_start_41 : decode cX2_start 41 = .ok (.iconst 1, 1) := by decide +kernel
theorem dX2_start_42 : decode cX2_start 42 = .ok (.ireturn, 1) := by decide +kernel
theorem dX2_put_0 : decode cX2_put 0 = .ok (.aload_n 0, 1) := by decide +kernel
theorem dX2_put_1 : decode cX2_put 1 = .ok (.getfield 30, 3) := by decide +kernel
theorem dX2_put_4 : decode cX2_put 4 = .ok (.iconst 1, 1) := by decide +kernel
theorem dX2_put_5 : decode cX2_put 5 = .ok (.isub, 1) := by decide +kernel
theorem dX2_put_6 : decode cX2_put 6 = .ok (.istore_n 2, 1) := by decide +kernel
theorem dX2_put_7 : decode cX2_put 7 = .ok (.iload_n 2, 1) := by decide +kernel
theorem dX2_put_8 : decode cX2_put 8 = .ok (.ifCond .lt 70, 3) := by decide +kernel
theorem dX2_put_11 : decode cX2_put 11 = .ok (.iload_n 2, 1) := by decide +kernel
theorem dX2_put_12 : decode cX2_put 12 = .ok (.aload_n 0, 1) := by decide +kernel
theorem dX2_put_13 : decode cX2_put 13 = .ok (.getfield 24, 3) := by decide +kernel
theorem dX2_put_16 : decode cX2_put 16 = .ok (.arraylength, 1) := by decide +kernel
theorem dX2_put_17 : decode cX2_put 17 = .ok (.if_icmp .ge 61, 3) := by decide +kernel
theorem dX2_put_20 : decode cX2_put 20 = .ok (.aload_n 0, 1) := by decide +kernel
theorem dX2_put_21 : decode cX2_put 21 = .ok (.getfield 24, 3) := by decide +kernel
theorem dX2_put_24 : decode cX2_put 24 = .ok (.iload_n 2, 1) := by decide +kernel
theorem dX2_put_25 : decode cX2_put 25 = .ok (.iaload, 1) := by decide +kernel
theorem dX2_put_26 : decode cX2_put 26 = .ok (.ifCond .lt 52, 3) := by decide +kernel
theorem dX2_put_29 : decode cX2_put 29 = .ok (.aload_n 0, 1) := by decide +kernel
theorem dX2_put_30 : decode cX2_put 30 = .ok (.getfield 24, 3) := by decide +kernel
theorem dX2_put_33 : decode cX2_put 33 = .ok (.iload_n 2, 1) := by decide +kernel
theorem dX2_put_34 : decode cX2_put 34 = .ok (.iaload, 1) := by decide +kernel
theorem dX2_put_35 : decode cX2_put 35 = .ok (.bipush 20, 2) := by decide +kernel
theorem dX2_put_37 : decode cX2_put 37 = .ok (.if_icmp .ge 41, 3) := by decide +kernel
theorem dX2_put_40 : decode cX2_put 40 = .ok (.iload_n 2, 1) := by decide +kernel
theorem dX2_put_41 : decode cX2_put 41 = .ok (.bipush 20, 2) := by decide +kernel
theorem dX2_put_43 : decode cX2_put 43 = .ok (.imul, 1) := by decide +kernel
theorem dX2_put_44 : decode cX2_put 44 = .ok (.aload_n 0, 1) := by decide +kernel
theorem dX2_put_45 : decode cX2_put 45 = .ok (.getfield 24, 3) := by decide +kernel
theorem dX2_put_48 : decode cX2_put 48 = .ok (.iload_n 2, 1) := by decide +kernel
theorem dX2_put_49 : decode cX2_put 49 = .ok (.iaload, 1) := by decide +kernel
theorem dX2_put_50 : decode cX2_put 50 = .ok (.iadd, 1) := by decide +kernel
theorem dX2_put_51 : decode cX2_put 51 = .ok (.istore_n 3, 1) := by decide +kernel
theorem dX2_put_52 : decode cX2_put 52 = .ok (.iload_n 3, 1) := by decide +kernel
theorem dX2_put_53 : decode cX2_put 53 = .ok (.aload_n 0, 1) := by decide +kernel
theorem dX2_put_54 : decode cX2_put 54 = .ok (.getfield 18, 3) := by decide +kernel
theorem dX2_put_57 : decode cX2_put 57 = .ok (.arraylength, 1) := by decide +kernel
theorem dX2_put_58 : decode cX2_put 58 = .ok (.if_icmp .ge 20, 3) := by decide +kernel
theorem dX2_put_61 : decode cX2_put 61 = .ok (.aload_n 0, 1) := by decide +kernel
theorem dX2_put_62 : decode cX2_put 62 = .ok (.getfield 18, 3) := by decide +kernel
theorem dX2_put_65 : decode cX2_put 65 = .ok (.iload_n 3, 1) := by decide +kernel
theorem dX2_put_66 : decode cX2_put 66 = .ok (.iload_n 1, 1) := by decide +kernel
theorem dX2_put_67 : decode cX2_put 67 = .ok (.iastore, 1) := by decide +kernel
theorem dX2_put_68 : decode cX2_put 68 = .ok (.aload_n 0, 1) := by decide +kernel
theorem dX2_put_69 : decode cX2_put 69 = .ok (.getfield 24, 3) := by decide +kernel
theorem dX2_put_72 : decode cX2_put 72 = .ok (.iload_n 2, 1) := by decide +kernel
theorem dX2_put_73 : decode cX2_put 73 = .ok (.dup2, 1) := by decide +kernel
theorem dX2_put_74 : decode cX2_put 74 = .ok (.iaload, 1) := by decide +kernel
theorem dX2_put_75 : decode cX2_put 75 = .ok (.iconst 1, 1) := by decide +kernel
theorem dX2_put_76 : decode cX2_put 76 = .ok (.iadd, 1) := by decide +kernel
theorem dX2_put_77 : decode cX2_put 77 = .ok (.iastore, 1) := by decide +kernel
theorem dX2_put_78 : decode cX2_put 78 = .ok (.return_, 1) := by decide +kernel
theorem dX2_copy_0 : decode cX2_copy 0 = .ok (.aload_n 0, 1) := by decide +kernel
theorem dX2_copy_1 : decode cX2_copy 1 = .ok (.aload_n 1, 1) := by decide +kernel
theorem dX2_copy_2 : decode cX2_copy 2 = .ok (.iload_n 2, 1) := by decide +kernel
theorem dX2_copy_3 : decode cX2_copy 3 = .ok (.iconst 0, 1) := by decide +kernel
theorem dX2_copy_4 : decode cX2_copy 4 = .ok (.aload_n 1, 1) := by decide +kernel
theorem dX2_copy_5 : decode cX2_copy 5 = .ok (.iload_n 2, 1) := by decide +kernel
theorem dX2_copy_6 : decode cX2_copy 6 = .ok (.invokevirtual 34, 3) := by decide +kernel
theorem dX2_copy_9 : decode cX2_copy 9 = .ok (.invokevirtual 38, 3) := by decide +kernel
theorem dX2_copy_12 : decode cX2_copy 12 = .ok (.return_, 1) := by decide +kernel
theorem dX2_copyCells_0 : decode cX2_copyCells 0 = .ok (.aload_n 0, 1) := by decide +kernel
theorem dX2_copyCells_1 : decode cX2_copyCells 1 = .ok (.invokevirtual 42, 3) := by decide +kernel
theorem dX2_copyCells_4 : decode cX2_copyCells 4 = .ok (.ifCond .eq 39, 3) := by decide +kernel
theorem dX2_copyCells_7 : decode cX2_copyCells 7 = .ok (.iconst 0, 1) := by decide +kernel
theorem dX2_copyCells_8 : decode cX2_copyCells 8 = .ok (.istore 5, 2) := by decide +kernel
theorem dX2_copyCells_10 : decode cX2_copyCells 10 = .ok (.iload 5, 2) := by decide +kernel
theorem dX2_copyCells_12 : decode cX2_copyCells 12 = .ok (.iload 4, 2) := by decide +kernel
theorem dX2_copyCells_14 : decode cX2_copyCells 14 = .ok (.if_icmp .ge 29, 3) := by decide +kernel
theorem dX2_copyCells_17 : decode cX2_copyCells 17 = .ok (.iload 5, 2) := by decide +kernel
theorem dX2_copyCells_19 : decode cX2_copyCells 19 = .ok (.bipush 20, 2) := by decide +kernel
theorem dX2_copyCells_21 : decode cX2_copyCells 21 = .ok (.if_icmp .ge 22, 3) := by decide +kernel
theorem dX2_copyCells_24 : decode cX2_copyCells 24 = .ok (.aload_n 0, 1) := by decide +kernel
theorem dX2_copyCells_25 : decode cX2_copyCells 25 = .ok (.aload_n 1, 1) := by decide +kernel
theorem dX2_copyCells_26 : decode cX2_copyCells 26 = .ok (.iload_n 2, 1) := by decide +kernel
theorem dX2_copyCells_27 : decode cX2_copyCells 27 = .ok (.iload_n 3, 1) := by decide +kernel
theorem dX2_copyCells_28 : decode cX2_copyCells 28 = .ok (.iload 5, 2) := by decide +kernel
theorem dX2_copyCells_30 : decode cX2_copyCells 30 = .ok (.iadd, 1) := by decide +kernel
theorem dX2_copyCells_31 : decode cX2_copyCells 31 = .ok (.invokevirtual 46, 3) := by decide +kernel
theorem dX2_copyCells_34 : decode cX2_copyCells 34 = .ok (.invokevirtual 49, 3) := by decide +kernel
theorem dX2_copyCells_37 : decode cX2_copyCells 37 = .ok (.iinc 5 1, 3) := by decide +kernel
theorem dX2_copyCells_40 : decode cX2_copyCells 40 = .ok (.goto (-30), 3) := by decide +kernel
theorem dX2_copyCells_43 : decode cX2_copyCells 43 = .ok (.return_, 1) := by decide +kernel
theorem dX2_lengthOf_0 : decode cX2_lengthOf 0 = .ok (.iload_n 1, 1) := by decide +kernel
theorem dX2_lengthOf_1 : decode cX2_lengthOf 1 = .ok (.ifCond .lt 29, 3) := by decide +kernel
theorem dX2_lengthOf_4 : decode cX2_lengthOf 4 = .ok (.iload_n 1, 1) := by decide +kernel
theorem dX2_lengthOf_5 : decode cX2_lengthOf 5 = .ok (.aload_n 0, 1) := by decide +kernel
theorem dX2_lengthOf_6 : decode cX2_lengthOf 6 = .ok (.getfield 30, 3) := by decide +kernel
theorem dX2_lengthOf_9 : decode cX2_lengthOf 9 = .ok (.if_icmp .ge 21, 3) := by decide +kernel
theorem dX2_lengthOf_12 : decode cX2_lengthOf 12 = .ok (.iload_n 1, 1) := by decide +kernel
theorem dX2_lengthOf_13 : decode cX2_lengthOf 13 = .ok (.aload_n 0, 1) := by decide +kernel
theorem dX2_lengthOf_14 : decode cX2_lengthOf 14 = .ok (.getfield 24, 3) := by decide +kernel
theorem dX2_lengthOf_17 : decode cX2_lengthOf 17 = .ok (.arraylength, 1) := by decide +kernel
theorem dX2_lengthOf_18 : decode cX2_lengthOf 18 = .ok (.if_icmp .ge 12, 3) := by decide +kernel
theorem dX2_lengthOf_21 : decode cX2_lengthOf 21 = .ok (.aload_n 0, 1) := by decide +kernel
theorem dX2_lengthOf_22 : decode cX2_lengthOf 22 = .ok (.getfield 24, 3) := by decide +kernel
theorem dX2_lengthOf_25 : decode cX2_lengthOf 25 = .ok (.iload_n 1, 1) := by decide +kernel
theorem dX2_lengthOf_26 : decode cX2_lengthOf 26 = .ok (.iaload, 1) := by decide +kernel
theorem dX2_lengthOf_27 : decode cX2_lengthOf 27 = .ok (.goto 4, 3) := by decide +kernel
theorem dX2_lengthOf_30 : decode cX2_lengthOf 30 = .ok (.iconst 0, 1) := by decide +kernel
theorem dX2_lengthOf_31 : decode cX2_lengthOf 31 = .ok (.ireturn, 1) := by decide +kernel
theorem dX2_cellAt_0 : decode cX2_cellAt 0 = .ok (.iload_n 1, 1) := by decide +kernel
theorem dX2_cellAt_1 : decode cX2_cellAt 1 = .ok (.ifCond .lt 22, 3) := by decide +kernel
theorem dX2_cellAt_4 : decode cX2_cellAt 4 = .ok (.iload_n 1, 1) := by decide +kernel
theorem dX2_cellAt_5 : decode cX2_cellAt 5 = .ok (.aload_n 0, 1) := by decide +kernel
theorem dX2_cellAt_6 : decode cX2_cellAt 6 = .ok (.getfield 24, 3) := by decide +kernel
theorem dX2_cellAt_9 : decode cX2_cellAt 9 = .ok (.arraylength, 1) := by decide +kernel
theorem dX2_cellAt_10 : decode cX2_cellAt 10 = .ok (.if_icmp .ge 13, 3) := by decide +kernel
theorem dX2_cellAt_13 : decode cX2_cellAt 13 = .ok (.iload_n 2, 1) := by decide +kernel
theorem dX2_cellAt_14 : decode cX2_cellAt 14 = .ok (.ifCond .lt 9, 3) := by decide +kernel
theorem dX2_cellAt_17 : decode cX2_cellAt 17 = .ok (.iload_n 2, 1) := by decide +kernel
theorem dX2_cellAt_18 : decode cX2_cellAt 18 = .ok (.bipush 20, 2) := by decide +kernel
theorem dX2_cellAt_20 : decode cX2_cellAt 20 = .ok (.if_icmp .lt 5, 3) := by decide +kernel
theorem dX2_cellAt_23 : decode cX2_cellAt 23 = .ok (.iconst 0, 1) := by decide +kernel
theorem dX2_cellAt_24 : decode cX2_cellAt 24 = .ok (.ireturn, 1) := by decide +kernel
theorem dX2_cellAt_25 : decode cX2_cellAt 25 = .ok (.iload_n 1, 1) := by decide +kernel
theorem dX2_cellAt_26 : decode cX2_cellAt 26 = .ok (.bipush 20, 2) := by decide +kernel
theorem dX2_cellAt_28 : decode cX2_cellAt 28 = .ok (.imul, 1) := by decide +kernel
theorem dX2_cellAt_29 : decode cX2_cellAt 29 = .ok (.iload_n 2, 1) := by decide +kernel
theorem dX2_cellAt_30 : decode cX2_cellAt 30 = .ok (.iadd, 1) := by decide +kernel
theorem dX2_cellAt_31 : decode cX2_cellAt 31 = .ok (.istore_n 3, 1) := by decide +kernel
theorem dX2_cellAt_32 : decode cX2_cellAt 32 = .ok (.iload_n 3, 1) := by decide +kernel
theorem dX2_cellAt_33 : decode cX2_cellAt 33 = .ok (.aload_n 0, 1) := by decide +kernel
theorem dX2_cellAt_34 : decode cX2_cellAt 34 = .ok (.getfield 18, 3) := by decide +kernel
theorem dX2_cellAt_37 : decode cX2_cellAt 37 = .ok (.arraylength, 1) := by decide +kernel
theorem dX2_cellAt_38 : decode cX2_cellAt 38 = .ok (.if_icmp .ge 12, 3) := by decide +kernel
theorem dX2_cellAt_41 : decode cX2_cellAt 41 = .ok (.aload_n 0, 1) := by decide +kernel
theorem dX2_cellAt_42 : decode cX2_cellAt 42 = .ok (.getfield 18, 3) := by decide +kernel
theorem dX2_cellAt_45 : decode cX2_cellAt 45 = .ok (.iload_n 3, 1) := by decide +kernel
theorem dX2_cellAt_46 : decode cX2_cellAt 46 = .ok (.iaload, 1) := by decide +kernel
theorem dX2_cellAt_47 : decode cX2_cellAt 47 = .ok (.goto 4, 3) := by decide +kernel
theorem dX2_cellAt_50 : decode cX2_cellAt 50 = .ok (.iconst 0, 1) := by decide +kernel
theorem dX2_cellAt_51 : decode cX2_cellAt 51 = .ok (.ireturn, 1) := by decide +kernel
theorem dX2_compare_0 : decode cX2_compare 0 = .ok (.aload_n 0, 1) := by decide +kernel
theorem dX2_compare_1 : decode cX2_compare 1 = .ok (.iload_n 1, 1) := by decide +kernel
theorem dX2_compare_2 : decode cX2_compare 2 = .ok (.invokevirtual 34, 3) := by decide +kernel
theorem dX2_compare_5 : decode cX2_compare 5 = .ok (.istore 4, 2) := by decide +kernel
theorem dX2_compare_7 : decode cX2_compare 7 = .ok (.aload_n 2, 1) := by decide +kernel
theorem dX2_compare_8 : decode cX2_compare 8 = .ok (.iload_n 3, 1) := by decide +kernel
theorem dX2_compare_9 : decode cX2_compare 9 = .ok (.invokevirtual 34, 3) := by decide +kernel
theorem dX2_compare_12 : decode cX2_compare 12 = .ok (.istore 5, 2) := by decide +kernel
theorem dX2_compare_14 : decode cX2_compare 14 = .ok (.iconst 0, 1) := by decide +kernel
theorem dX2_compare_15 : decode cX2_compare 15 = .ok (.istore 6, 2) := by decide +kernel
theorem dX2_compare_17 : decode cX2_compare 17 = .ok (.iload 6, 2) := by decide +kernel
theorem dX2_compare_19 : decode cX2_compare 19 = .ok (.iload 4, 2) := by decide +kernel
theorem dX2_compare_21 : decode cX2_compare 21 = .ok (.if_icmp .ge 54, 3) := by decide +kernel
theorem dX2_compare_24 : decode cX2_compare 24 = .ok (.iload 6, 2) := by decide +kernel
theorem dX2_compare_26 : decode cX2_compare 26 = .ok (.iload 5, 2) := by decide +kernel
theorem dX2_compare_28 : decode cX2_compare 28 = .ok (.if_icmp .ge 47, 3) := by decide +kernel
theorem dX2_compare_31 : decode cX2_compare 31 = .ok (.aload_n 0, 1) := by decide +kernel
theorem dX2_compare_32 : decode cX2_compare 32 = .ok (.iload_n 1, 1) := by decide +kernel
theorem dX2_compare_33 : decode cX2_compare 33 = .ok (.iload 6, 2) := by decide +kernel
theorem dX2_compare_35 : decode cX2_compare 35 = .ok (.invokevirtual 46, 3) := by decide +kernel
theorem dX2_compare_38 : decode cX2_compare 38 = .ok (.istore 7, 2) := by decide +kernel
theorem dX2_compare_40 : decode cX2_compare 40 = .ok (.aload_n 2, 1) := by decide +kernel
theorem dX2_compare_41 : decode cX2_compare 41 = .ok (.iload_n 3, 1) := by decide +kernel
theorem dX2_compare_42 : decode cX2_compare 42 = .ok (.iload 6, 2) := by decide +kernel
theorem dX2_compare_44 : decode cX2_compare 44 = .ok (.invokevirtual 46, 3) := by decide +kernel
theorem dX2_compare_47 : decode cX2_compare 47 = .ok (.istore 8, 2) := by decide +kernel
theorem dX2_compare_49 : decode cX2_compare 49 = .ok (.iload 7, 2) := by decide +kernel
theorem dX2_compare_51 : decode cX2_compare 51 = .ok (.iload 8, 2) := by decide +kernel
theorem dX2_compare_53 : decode cX2_compare 53 = .ok (.if_icmp .eq 16, 3) := by decide +kernel
theorem dX2_compare_56 : decode cX2_compare 56 = .ok (.iload 7, 2) := by decide +kernel
theorem dX2_compare_58 : decode cX2_compare 58 = .ok (.iload 8, 2) := by decide +kernel
theorem dX2_compare_60 : decode cX2_compare 60 = .ok (.if_icmp .ge 7, 3) := by decide +kernel
theorem dX2_compare_63 : decode cX2_compare 63 = .ok (.iconst (-1), 1) := by decide +kernel
theorem dX2_compare_64 : decode cX2_compare 64 = .ok (.goto 4, 3) := by decide +kernel
theorem dX2_compare_67 : decode cX2_compare 67 = .ok (.iconst 1, 1) := by decide +kernel
theorem dX2_compare_68 : decode cX2_compare 68 = .ok (.ireturn, 1) := by decide +kernel
theorem dX2_compare_69 : decode cX2_compare 69 = .ok (.iinc 6 1, 3) := by decide +kernel
theorem dX2_compare_72 : decode cX2_compare 72 = .ok (.goto (-55), 3) := by decide +kernel
theorem dX2_compare_75 : decode cX2_compare 75 = .ok (.iload 4, 2) := by decide +kernel
theorem dX2_compare_77 : decode cX2_compare 77 = .ok (.iload 5, 2) := by decide +kernel
theorem dX2_compare_79 : decode cX2_compare 79 = .ok (.invokestatic 53, 3) := by decide +kernel
theorem dX2_compare_82 : decode cX2_compare 82 = .ok (.ireturn, 1) := by decide +kernel
theorem dX2_indexOf_0 : decode cX2_indexOf 0 = .ok (.iconst 0, 1) := by decide +kernel
theorem dX2_indexOf_1 : decode cX2_indexOf 1 = .ok (.istore_n 3, 1) := by decide +kernel
theorem dX2_indexOf_2 : decode cX2_indexOf 2 = .ok (.iload_n 3, 1) := by decide +kernel
theorem dX2_indexOf_3 : decode cX2_indexOf 3 = .ok (.aload_n 0, 1) := by decide +kernel
theorem dX2_indexOf_4 : decode cX2_indexOf 4 = .ok (.getfield 30, 3) := by decide +kernel
theorem dX2_indexOf_7 : decode cX2_indexOf 7 = .ok (.if_icmp .ge 21, 3) := by decide +kernel
theorem dX2_indexOf_10 : decode cX2_indexOf 10 = .ok (.aload_n 0, 1) := by decide +kernel
theorem dX2_indexOf_11 : decode cX2_indexOf 11 = .ok (.iload_n 3, 1) := by decide +kernel
theorem dX2_indexOf_12 : decode cX2_indexOf 12 = .ok (.aload_n 1, 1) := by decide +kernel
theorem dX2_indexOf_13 : decode cX2_indexOf 13 = .ok (.iload_n 2, 1) := by decide +kernel
theorem dX2_indexOf_14 : decode cX2_indexOf 14 = .ok (.invokevirtual 58, 3) := by decide +kernel
theorem dX2_indexOf_17 : decode cX2_indexOf 17 = .ok (.ifCond .ne 5, 3) := by decide +kernel
theorem dX2_indexOf_20 : decode cX2_indexOf 20 = .ok (.iload_n 3, 1) := by decide +kernel
theorem dX2_indexOf_21 : decode cX2_indexOf 21 = .ok (.ireturn, 1) := by decide +kernel
theorem dX2_indexOf_22 : decode cX2_indexOf 22 = .ok (.iinc 3 1, 3) := by decide +kernel
theorem dX2_indexOf_25 : decode cX2_indexOf 25 = .ok (.goto (-23), 3) := by decide +kernel
theorem dX2_indexOf_28 : decode cX2_indexOf 28 = .ok (.iconst (-1), 1) := by decide +kernel
theorem dX2_indexOf_29 : decode cX2_indexOf 29 = .ok (.ireturn, 1) := by decide +kernel
theorem dX2_nth_0 : decode cX2_nth 0 = .ok (.iconst 0, 1) := by decide +kernel
theorem dX2_nth_1 : decode cX2_nth 1 = .ok (.istore 4, 2) := by decide +kernel
theorem dX2_nth_3 : decode cX2_nth 3 = .ok (.iload 4, 2) := by decide +kernel
theorem dX2_nth_5 : decode cX2_nth 5 = .ok (.aload_n 0, 1) := by decide +kernel
theorem dX2_nth_6 : decode cX2_nth 6 = .ok (.getfield 30, 3) := by decide +kernel
theorem dX2_nth_9 : decode cX2_nth 9 = .ok (.if_icmp .ge 34, 3) := by decide +kernel
theorem dX2_nth_12 : decode cX2_nth 12 = .ok (.lload_n 2, 1) := by decide +kernel
theorem dX2_nth_13 : decode cX2_nth 13 = .ok (.iload 4, 2) := by decide +kernel
theorem dX2_nth_15 : decode cX2_nth 15 = .ok (.lshr, 1) := by decide +kernel
theorem dX2_nth_16 : decode cX2_nth 16 = .ok (.lconst 1, 1) := by decide +kernel
theorem dX2_nth_17 : decode cX2_nth 17 = .ok (.land, 1) := by decide +kernel
theorem dX2_nth_18 : decode cX2_nth 18 = .ok (.lconst 0, 1) := by decide +kernel
theorem dX2_nth_19 : decode cX2_nth 19 = .ok (.lcmp, 1) := by decide +kernel
theorem dX2_nth_20 : decode cX2_nth 20 = .ok (.ifCond .eq 17, 3) := by decide +kernel
theorem dX2_nth_23 : decode cX2_nth 23 = .ok (.aload_n 0, 1) := by decide +kernel
theorem dX2_nth_24 : decode cX2_nth 24 = .ok (.iload 4, 2) := by decide +kernel
