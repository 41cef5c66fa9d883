def RX0 : String := "UnwindTower$Code"
def TX0 : u_T := fun k => match k with
  | 0 => ("UnwindTower$Code", "length", "I", false)
  | 1 => ("UnwindTower$Code", "isTooLong", "Z", false)
  | 2 => ("UnwindTower$Code", "ops", "[I", true)
  | 3 => ("UnwindTower$Code", "xs", "[I", true)
  | 4 => ("UnwindTower$Code", "ys", "[I", true)
  | 5 => ("UnwindTower$Code", "zs", "[I", true)
  | 6 => ("UnwindTower$Code", "nodes", "[I", true)
  | 7 => ("UnwindTower$Code", "firstBegins", "[I", true)
  | 8 => ("UnwindTower$Code", "manyBegins", "[I", true)
  | 9 => ("UnwindTower$Code", "begins", "[I", true)
  | 10 => ("UnwindTower$Code", "allBegins", "I", false)
  | 11 => ("UnwindTower$Code", "firstRow", "I", false)
  | _ => ("UnwindTower$Code", "rows", "I", false)
def tyX0 : Nat → FieldType := fun k => match k with
  | 0 => .int
  | 1 => .boolean
  | 2 => .array .int
  | 3 => .array .int
  | 4 => .array .int
  | 5 => .array .int
  | 6 => .array .int
  | 7 => .array .int
  | 8 => .array .int
  | 9 => .array .int
  | 10 => .int
  | 11 => .int
  | _ => .int
abbrev wsX00 : List Cond := u_ws RX0 TX0 13
theorem nmX0 : ∀ a, a < 13 → ∀ b, b < 13 → a ≠ b → (TX0 a).2.1 ≠ (TX0 b).2.1 := by decide +kernel
theorem tyX0_ok : ∀ k, k < 13 → parseFieldDescriptor (TX0 k).2.2.1 = some (tyX0 k) := by decide +kernel
abbrev cX0_init : ByteArray := prog_2_method_1_code
def yX0_init : MethodName := ⟨RX0, "<init>", "()V"⟩
abbrev cX0_clear : ByteArray := prog_2_method_2_code
def yX0_clear : MethodName := ⟨RX0, "clear", "()V"⟩
abbrev cX0_begin : ByteArray := prog_2_method_3_code
def yX0_begin : MethodName := ⟨RX0, "begin", "(I)V"⟩
abbrev cX0_add : ByteArray := prog_2_method_4_code
def yX0_add : MethodName := ⟨RX0, "add", "(IIIII)V"⟩
abbrev cX0_read : ByteArray := prog_2_method_5_code
def yX0_read : MethodName := ⟨RX0, "read", "(II)I"⟩
abbrev cX0_mayThrow : ByteArray := prog_2_method_6_code
def yX0_mayThrow : MethodName := ⟨RX0, "mayThrow", "(I)Z"⟩
def RX1 : String := "UnwindTower$Compiler"
def TX1 : u_T := fun k => match k with
  | 0 => ("UnwindTower$Compiler", "program", "LUnwindTower$Program;", true)
  | 1 => ("UnwindTower$Compiler", "codes", "[LUnwindTower$Code;", true)
  | 2 => ("UnwindTower$Compiler", "table", "LUnwindTower$Table;", true)
  | 3 => ("UnwindTower$Compiler", "places", "[LUnwindTower$Place;", true)
  | 4 => ("UnwindTower$Compiler", "guardNodes", "[I", true)
  | 5 => ("UnwindTower$Compiler", "guardOuters", "[I", true)
  | 6 => ("UnwindTower$Compiler", "guardDepths", "[I", true)
  | 7 => ("UnwindTower$Compiler", "guards", "I", false)
  | 8 => ("UnwindTower$Compiler", "guardOf", "[I", true)
  | 9 => ("UnwindTower$Compiler", "labels", "[I", true)
  | 10 => ("UnwindTower$Compiler", "lastLabel", "I", false)
  | 11 => ("UnwindTower$Compiler", "catchFrom", "[I", true)
  | 12 => ("UnwindTower$Compiler", "catchTo", "[I", true)
  | 13 => ("UnwindTower$Compiler", "code", "LUnwindTower$Code;", false)
  | _ => ("UnwindTower$Compiler", "isPruned", "Z", false)
def tyX1 : Nat → FieldType := fun k => match k with
  | 0 => .object "UnwindTower$Program"
  | 1 => .array (.object "UnwindTower$Code")
  | 2 => .object "UnwindTower$Table"
  | 3 => .array (.object "UnwindTower$Place")
  | 4 => .array .int
  | 5 => .array .int
  | 6 => .array .int
  | 7 => .int
  | 8 => .array .int
  | 9 => .array .int
  | 10 => .int
  | 11 => .array .int
  | 12 => .array .int
  | 13 => .object "UnwindTower$Code"
  | _ => .boolean
abbrev wsX10 : List Cond := u_ws RX1 TX1 15
theorem nmX1 : ∀ a, a < 15 → ∀ b, b < 15 → a ≠ b → (TX1 a).2.1 ≠ (TX1 b).2.1 := by decide +kernel
theorem tyX1_ok : ∀ k, k < 15 → parseFieldDescriptor (TX1 k).2.2.1 = some (tyX1 k) := by decide +kernel
abbrev cX1_init : ByteArray := prog_3_method_1_code
def yX1_init : MethodName := ⟨RX1, "<init>", "(LUnwindTower$Program;[LUnwindTower$Code;LUnwindTower$Table;)V"⟩
abbrev cX1_layProcedure : ByteArray := prog_3_method_2_code
def yX1_layProcedure : MethodName := ⟨RX1, "layProcedure", "(IZ)Z"⟩
abbrev cX1_lay : ByteArray := prog_3_method_3_code
def yX1_lay : MethodName := ⟨RX1, "lay", "(II)V"⟩
abbrev cX1_laySingle : ByteArray := prog_3_method_4_code
def yX1_laySingle : MethodName := ⟨RX1, "laySingle", "(ILUnwindTower$Place;)V"⟩
abbrev cX1_layIf : ByteArray := prog_3_method_5_code
def yX1_layIf : MethodName := ⟨RX1, "layIf", "(II)V"⟩
abbrev cX1_layLoop : ByteArray := prog_3_method_6_code
def yX1_layLoop : MethodName := ⟨RX1, "layLoop", "(II)V"⟩
abbrev cX1_layBreak : ByteArray := prog_3_method_7_code
def yX1_layBreak : MethodName := ⟨RX1, "layBreak", "(II)V"⟩
abbrev cX1_layReturn : ByteArray := prog_3_method_8_code
def yX1_layReturn : MethodName := ⟨RX1, "layReturn", "(II)V"⟩
abbrev cX1_layWayOut : ByteArray := prog_3_method_9_code
def yX1_layWayOut : MethodName := ⟨RX1, "layWayOut", "(II)V"⟩
abbrev cX1_layTry : ByteArray := prog_3_method_10_code
def yX1_layTry : MethodName := ⟨RX1, "layTry", "(II)V"⟩
abbrev cX1_layCatch : ByteArray := prog_3_method_11_code
def yX1_layCatch : MethodName := ⟨RX1, "layCatch", "(III)V"⟩
abbrev cX1_layFinally : ByteArray := prog_3_method_12_code
def yX1_layFinally : MethodName := ⟨RX1, "layFinally", "(III)V"⟩
abbrev cX1_layUsing : ByteArray := prog_3_method_13_code
def yX1_layUsing : MethodName := ⟨RX1, "layUsing", "(II)V"⟩
abbrev cX1_layClose : ByteArray := prog_3_method_14_code
def yX1_layClose : MethodName := ⟨RX1, "layClose", "(II)V"⟩
abbrev cX1_layCatchRows : ByteArray := prog_3_method_15_code
def yX1_layCatchRows : MethodName := ⟨RX1, "layCatchRows", "(IIII)V"⟩
abbrev cX1_layFinallyRows : ByteArray := prog_3_method_16_code
def yX1_layFinallyRows : MethodName := ⟨RX1, "layFinallyRows", "(IIIII)V"⟩
abbrev cX1_layRows : ByteArray := prog_3_method_17_code
def yX1_layRows : MethodName := ⟨RX1, "layRows", "(IIIII)V"⟩
abbrev cX1_isGuarded : ByteArray := prog_3_method_18_code
def yX1_isGuarded : MethodName := ⟨RX1, "isGuarded", "(II)Z"⟩
abbrev cX1_placeAt : ByteArray := prog_3_method_19_code
def yX1_placeAt : MethodName := ⟨RX1, "placeAt", "(I)LUnwindTower$Place;"⟩
abbrev cX1_inner : ByteArray := prog_3_method_20_code
def yX1_inner : MethodName := ⟨RX1, "inner", "(I)LUnwindTower$Place;"⟩
abbrev cX1_inner_ : ByteArray := prog_3_method_21_code
def yX1_inner_ : MethodName := ⟨RX1, "inner", "(II)LUnwindTower$Place;"⟩
abbrev cX1_newGuard : ByteArray := prog_3_method_22_code
def yX1_newGuard : MethodName := ⟨RX1, "newGuard", "(II)I"⟩
abbrev cX1_newLabel : ByteArray := prog_3_method_23_code
def yX1_newLabel : MethodName := ⟨RX1, "newLabel", "()I"⟩
abbrev cX1_emit : ByteArray := prog_3_method_24_code
def yX1_emit : MethodName := ⟨RX1, "emit", "(IIIIII)V"⟩
abbrev cX1_emitTo : ByteArray := prog_3_method_25_code
def yX1_emitTo : MethodName := ⟨RX1, "emitTo", "(IIIII)V"⟩
abbrev cX1_settle : ByteArray := prog_3_method_26_code
def yX1_settle : MethodName := ⟨RX1, "settle", "(II)V"⟩
def RX2 : String := "UnwindTower$Faults"
def TX2 : u_T := fun k => match k with
  | 0 => ("UnwindTower$Faults", "program", "LUnwindTower$Program;", true)
  | 1 => ("UnwindTower$Faults", "cells", "[I", true)
  | 2 => ("UnwindTower$Faults", "stack", "[I", true)
  | 3 => ("UnwindTower$Faults", "top", "I", false)
  | _ => ("UnwindTower$Faults", "count", "I", false)
def tyX2 : Nat → FieldType := fun k => match k with
  | 0 => .object "UnwindTower$Program"
  | 1 => .array .int
  | 2 => .array .int
  | 3 => .int
  | _ => .int
abbrev wsX20 : List Cond := u_ws RX2 TX2 5
theorem nmX2 : ∀ a, a < 5 → ∀ b, b < 5 → a ≠ b → (TX2 a).2.1 ≠ (TX2 b).2.1 := by decide +kernel
theorem tyX2_ok : ∀ k, k < 5 → parseFieldDescriptor (TX2 k).2.2.1 = some (tyX2 k) := by decide +kernel
abbrev cX2_init : ByteArray := prog_4_method_1_code
def yX2_init : MethodName := ⟨RX2, "<init>", "(LUnwindTower$Program;)V"⟩
abbrev cX2_read : ByteArray := prog_4_method_2_code
def yX2_read : MethodName := ⟨RX2, "read", "(II)I"⟩
abbrev cX2_add : ByteArray := prog_4_method_3_code
def yX2_add : MethodName := ⟨RX2, "add", "(IIII)V"⟩
abbrev cX2_find : ByteArray := prog_4_method_4_code
def yX2_find : MethodName := ⟨RX2, "find", "()V"⟩
abbrev cX2_findInNodes : ByteArray := prog_4_method_5_code
def yX2_findInNodes : MethodName := ⟨RX2, "findInNodes", "(II)V"⟩
abbrev cX2_push : ByteArray := prog_4_method_6_code
def yX2_push : MethodName := ⟨RX2, "push", "(I)V"⟩
abbrev cX2_faultOf : ByteArray := prog_4_method_7_code
def yX2_faultOf : MethodName := ⟨RX2, "faultOf", "(I)I"⟩
abbrev cX2_faultOfCatch : ByteArray := prog_4_method_8_code
def yX2_faultOfCatch : MethodName := ⟨RX2, "faultOfCatch", "(I)I"⟩
abbrev cX2_findUntold : ByteArray := prog_4_method_9_code
def yX2_findUntold : MethodName := ⟨RX2, "findUntold", "(I)V"⟩
def RX3 : String := "UnwindTower$Frame"
def TX3 : u_T := fun k => match k with
  | 0 => ("UnwindTower$Frame", "procedure", "I", false)
  | 1 => ("UnwindTower$Frame", "place", "I", false)
  | 2 => ("UnwindTower$Frame", "variable", "I", false)
  | 3 => ("UnwindTower$Frame", "node", "I", false)
  | 4 => ("UnwindTower$Frame", "caught", "[I", true)
  | _ => ("UnwindTower$Frame", "held", "[I", true)
def tyX3 : Nat → FieldType := fun k => match k with
  | 0 => .int
  | 1 => .int
  | 2 => .int
  | 3 => .int
  | 4 => .array .int
  | _ => .array .int
abbrev wsX30 : List Cond := u_ws RX3 TX3 6
theorem nmX3 : ∀ a, a < 6 → ∀ b, b < 6 → a ≠ b → (TX3 a).2.1 ≠ (TX3 b).2.1 := by decide +kernel
theorem tyX3_ok : ∀ k, k < 6 → parseFieldDescriptor (TX3 k).2.2.1 = some (tyX3 k) := by decide +kernel
abbrev cX3_init : ByteArray := prog_5_method_1_code
def yX3_init : MethodName := ⟨RX3, "<init>", "()V"⟩
def RX4 : String := "UnwindTower$Machine"
def TX4 : u_T := fun k => match k with
  | 0 => ("UnwindTower$Machine", "program", "LUnwindTower$Program;", true)
  | 1 => ("UnwindTower$Machine", "codes", "[LUnwindTower$Code;", true)
  | 2 => ("UnwindTower$Machine", "table", "LUnwindTower$Table;", true)
  | 3 => ("UnwindTower$Machine", "thrown", "LUnwindTower$Thrown;", true)
  | 4 => ("UnwindTower$Machine", "told", "[I", true)
  | 5 => ("UnwindTower$Machine", "variables", "[I", true)
  | 6 => ("UnwindTower$Machine", "slots", "[I", true)
  | 7 => ("UnwindTower$Machine", "begun", "[I", true)
  | 8 => ("UnwindTower$Machine", "called", "[I", true)
  | 9 => ("UnwindTower$Machine", "prints", "[I", true)
  | 10 => ("UnwindTower$Machine", "printSum", "J", false)
  | 11 => ("UnwindTower$Machine", "frames", "[LUnwindTower$Frame;", true)
  | 12 => ("UnwindTower$Machine", "depth", "I", false)
  | 13 => ("UnwindTower$Machine", "most", "I", false)
  | 14 => ("UnwindTower$Machine", "deep", "I", false)
  | 15 => ("UnwindTower$Machine", "isRunning", "Z", false)
  | 16 => ("UnwindTower$Machine", "flying", "I", false)
  | _ => ("UnwindTower$Machine", "isFlying", "Z", false)
def tyX4 : Nat → FieldType := fun k => match k with
  | 0 => .object "UnwindTower$Program"
  | 1 => .array (.object "UnwindTower$Code")
  | 2 => .object "UnwindTower$Table"
  | 3 => .object "UnwindTower$Thrown"
  | 4 => .array .int
  | 5 => .array .int
  | 6 => .array .int
  | 7 => .array .int
  | 8 => .array .int
  | 9 => .array .int
  | 10 => .long
  | 11 => .array (.object "UnwindTower$Frame")
  | 12 => .int
  | 13 => .int
  | 14 => .int
  | 15 => .boolean
  | 16 => .int
  | _ => .boolean
abbrev wsX40 : List Cond := u_ws RX4 TX4 18
theorem nmX4 : ∀ a, a < 18 → ∀ b, b < 18 → a ≠ b → (TX4 a).2.1 ≠ (TX4 b).2.1 := by decide +kernel
theorem tyX4_ok : ∀ k, k < 18 → parseFieldDescriptor (TX4 k).2.2.1 = some (tyX4 k) := by decide +kernel
abbrev cX4_init : ByteArray := prog_6_method_1_code
def yX4_init : MethodName := ⟨RX4, "<init>", "(LUnwindTower$Program;[LUnwindTower$Code;LUnwindTower$Table;)V"⟩
abbrev cX4_keptPrints : ByteArray := prog_6_method_2_code
def yX4_keptPrints : MethodName := ⟨RX4, "keptPrints", "()I"⟩
abbrev cX4_readPrint : ByteArray := prog_6_method_3_code
def yX4_readPrint : MethodName := ⟨RX4, "readPrint", "(II)I"⟩
abbrev cX4_perform : ByteArray := prog_6_method_4_code
def yX4_perform : MethodName := ⟨RX4, "perform", "(II)V"⟩
abbrev cX4_clear : ByteArray := prog_6_method_5_code
def yX4_clear : MethodName := ⟨RX4, "clear", "()V"⟩
abbrev cX4_performNext : ByteArray := prog_6_method_6_code
def yX4_performNext : MethodName := ⟨RX4, "performNext", "()V"⟩
abbrev cX4_begin : ByteArray := prog_6_method_7_code
def yX4_begin : MethodName := ⟨RX4, "begin", "(LUnwindTower$Code;I)Z"⟩
abbrev cX4_performSafe : ByteArray := prog_6_method_8_code
def yX4_performSafe : MethodName := ⟨RX4, "performSafe", "(LUnwindTower$Code;ILUnwindTower$Frame;)V"⟩
abbrev cX4_performRisky : ByteArray := prog_6_method_9_code
def yX4_performRisky : MethodName := ⟨RX4, "performRisky", "(LUnwindTower$Code;ILUnwindTower$Frame;)V"⟩
abbrev cX4_valueOf : ByteArray := prog_6_method_10_code
def yX4_valueOf : MethodName := ⟨RX4, "valueOf", "(I)I"⟩
abbrev cX4_print : ByteArray := prog_6_method_11_code
def yX4_print : MethodName := ⟨RX4, "print", "(II)V"⟩
abbrev cX4_divide : ByteArray := prog_6_method_12_code
def yX4_divide : MethodName := ⟨RX4, "divide", "(IILUnwindTower$Frame;I)V"⟩
abbrev cX4_link : ByteArray := prog_6_method_13_code
def yX4_link : MethodName := ⟨RX4, "link", "(IILUnwindTower$Frame;I)V"⟩
abbrev cX4_throwHeld : ByteArray := prog_6_method_14_code
def yX4_throwHeld : MethodName := ⟨RX4, "throwHeld", "(II)V"⟩
abbrev cX4_suppress : ByteArray := prog_6_method_15_code
def yX4_suppress : MethodName := ⟨RX4, "suppress", "(I)V"⟩
abbrev cX4_enter : ByteArray := prog_6_method_16_code
def yX4_enter : MethodName := ⟨RX4, "enter", "(III)V"⟩
abbrev cX4_leave : ByteArray := prog_6_method_17_code
def yX4_leave : MethodName := ⟨RX4, "leave", "(LUnwindTower$Frame;I)V"⟩
abbrev cX4_raise : ByteArray := prog_6_method_18_code
def yX4_raise : MethodName := ⟨RX4, "raise", "(IIII)V"⟩
abbrev cX4_fly : ByteArray := prog_6_method_19_code
def yX4_fly : MethodName := ⟨RX4, "fly", "(I)V"⟩
abbrev cX4_unwind : ByteArray := prog_6_method_20_code
def yX4_unwind : MethodName := ⟨RX4, "unwind", "()V"⟩
abbrev cX4_placeFor : ByteArray := prog_6_method_21_code
def yX4_placeFor : MethodName := ⟨RX4, "placeFor", "(LUnwindTower$Code;I)I"⟩
def RX5 : String := "UnwindTower$Place"
def TX5 : u_T := fun k => match k with
  | 0 => ("UnwindTower$Place", "guard", "I", false)
  | 1 => ("UnwindTower$Place", "caughts", "I", false)
  | 2 => ("UnwindTower$Place", "finallys", "I", false)
  | 3 => ("UnwindTower$Place", "catchCaught", "I", false)
  | 4 => ("UnwindTower$Place", "loopLabel", "I", false)
  | _ => ("UnwindTower$Place", "loopGuard", "I", false)
def tyX5 : Nat → FieldType := fun k => match k with
  | 0 => .int
  | 1 => .int
  | 2 => .int
  | 3 => .int
  | 4 => .int
  | _ => .int
abbrev wsX50 : List Cond := u_ws RX5 TX5 6
theorem nmX5 : ∀ a, a < 6 → ∀ b, b < 6 → a ≠ b → (TX5 a).2.1 ≠ (TX5 b).2.1 := by decide +kernel
theorem tyX5_ok : ∀ k, k < 6 → parseFieldDescriptor (TX5 k).2.2.1 = some (tyX5 k) := by decide +kernel
abbrev cX5_init : ByteArray := prog_7_method_1_code
def yX5_init : MethodName := ⟨RX5, "<init>", "()V"⟩
abbrev cX5_copy : ByteArray := prog_7_method_2_code
def yX5_copy : MethodName := ⟨RX5, "copy", "(LUnwindTower$Place;)V"⟩
def RX6 : String := "UnwindTower$Program"
def TX6 : u_T := fun k => match k with
  | 0 => ("UnwindTower$Program", "kinds", "I", false)
  | 1 => ("UnwindTower$Program", "parents", "[I", true)
  | 2 => ("UnwindTower$Program", "checked", "[I", true)
  | 3 => ("UnwindTower$Program", "below", "[I", true)
  | 4 => ("UnwindTower$Program", "procedures", "I", false)
  | 5 => ("UnwindTower$Program", "tells", "[I", true)
  | 6 => ("UnwindTower$Program", "bodies", "[I", true)
  | 7 => ("UnwindTower$Program", "nodes", "I", false)
  | 8 => ("UnwindTower$Program", "sorts", "[I", true)
  | 9 => ("UnwindTower$Program", "as", "[I", true)
  | 10 => ("UnwindTower$Program", "bs", "[I", true)
  | 11 => ("UnwindTower$Program", "cs", "[I", true)
  | 12 => ("UnwindTower$Program", "around", "[I", true)
  | 13 => ("UnwindTower$Program", "bodyOf", "[I", true)
  | 14 => ("UnwindTower$Program", "in", "[I", true)
  | 15 => ("UnwindTower$Program", "catchAround", "[I", true)
  | 16 => ("UnwindTower$Program", "loopAround", "[I", true)
  | 17 => ("UnwindTower$Program", "can", "[I", true)
  | _ => ("UnwindTower$Program", "never", "[I", true)
def tyX6 : Nat → FieldType := fun k => match k with
  | 0 => .int
  | 1 => .array .int
  | 2 => .array .int
  | 3 => .array .int
  | 4 => .int
  | 5 => .array .int
  | 6 => .array .int
  | 7 => .int
  | 8 => .array .int
  | 9 => .array .int
  | 10 => .array .int
  | 11 => .array .int
  | 12 => .array .int
  | 13 => .array .int
  | 14 => .array .int
  | 15 => .array .int
  | 16 => .array .int
  | 17 => .array .int
  | _ => .array .int
abbrev wsX60 : List Cond := u_ws RX6 TX6 19
theorem nmX6 : ∀ a, a < 19 → ∀ b, b < 19 → a ≠ b → (TX6 a).2.1 ≠ (TX6 b).2.1 := by decide +kernel
theorem tyX6_ok : ∀ k, k < 19 → parseFieldDescriptor (TX6 k).2.2.1 = some (tyX6 k) := by decide +kernel
abbrev cX6_init : ByteArray := prog_8_method_1_code
def yX6_init : MethodName := ⟨RX6, "<init>", "()V"⟩
abbrev cX6_hasKind : ByteArray := prog_8_method_2_code
def yX6_hasKind : MethodName := ⟨RX6, "hasKind", "(I)Z"⟩
abbrev cX6_hasProcedure : ByteArray := prog_8_method_3_code
def yX6_hasProcedure : MethodName := ⟨RX6, "hasProcedure", "(I)Z"⟩
abbrev cX6_hasNode : ByteArray := prog_8_method_4_code
def yX6_hasNode : MethodName := ⟨RX6, "hasNode", "(I)Z"⟩
abbrev cX6_isSet : ByteArray := prog_8_method_5_code
def yX6_isSet : MethodName := ⟨RX6, "isSet", "(I)Z"⟩
abbrev cX6_isStatement : ByteArray := prog_8_method_6_code
def yX6_isStatement : MethodName := ⟨RX6, "isStatement", "(I)Z"⟩
abbrev cX6_isFree : ByteArray := prog_8_method_7_code
def yX6_isFree : MethodName := ⟨RX6, "isFree", "(I)Z"⟩
abbrev cX6_isAtOrBelow : ByteArray := prog_8_method_8_code
def yX6_isAtOrBelow : MethodName := ⟨RX6, "isAtOrBelow", "(II)Z"⟩
abbrev cX6_addKind : ByteArray := prog_8_method_9_code
def yX6_addKind : MethodName := ⟨RX6, "addKind", "(IZ)I"⟩
abbrev cX6_addProcedure : ByteArray := prog_8_method_10_code
def yX6_addProcedure : MethodName := ⟨RX6, "addProcedure", "(I)I"⟩
abbrev cX6_setBody : ByteArray := prog_8_method_11_code
def yX6_setBody : MethodName := ⟨RX6, "setBody", "(II)I"⟩
abbrev cX6_addNode : ByteArray := prog_8_method_12_code
def yX6_addNode : MethodName := ⟨RX6, "addNode", "(IIII)I"⟩
abbrev cX6_partA : ByteArray := prog_8_method_13_code
def yX6_partA : MethodName := ⟨RX6, "partA", "(I)I"⟩
abbrev cX6_partB : ByteArray := prog_8_method_14_code
def yX6_partB : MethodName := ⟨RX6, "partB", "(I)I"⟩
abbrev cX6_partC : ByteArray := prog_8_method_15_code
def yX6_partC : MethodName := ⟨RX6, "partC", "(I)I"⟩
abbrev cX6_isNode : ByteArray := prog_8_method_16_code
def yX6_isNode : MethodName := ⟨RX6, "isNode", "(IIII)Z"⟩
abbrev cX6_isTry : ByteArray := prog_8_method_17_code
def yX6_isTry : MethodName := ⟨RX6, "isTry", "(III)Z"⟩
abbrev cX6_isUsing : ByteArray := prog_8_method_18_code
def yX6_isUsing : MethodName := ⟨RX6, "isUsing", "(III)Z"⟩
abbrev cX6_isVariable : ByteArray := prog_8_method_19_code
def yX6_isVariable : MethodName := ⟨RX6, "isVariable", "(I)Z"⟩
abbrev cX6_isOperand : ByteArray := prog_8_method_20_code
def yX6_isOperand : MethodName := ⟨RX6, "isOperand", "(I)Z"⟩
abbrev cX6_isFreeStatement : ByteArray := prog_8_method_21_code
def yX6_isFreeStatement : MethodName := ⟨RX6, "isFreeStatement", "(I)Z"⟩
abbrev cX6_isFreeCatch : ByteArray := prog_8_method_22_code
def yX6_isFreeCatch : MethodName := ⟨RX6, "isFreeCatch", "(I)Z"⟩
abbrev cX6_derive : ByteArray := prog_8_method_23_code
def yX6_derive : MethodName := ⟨RX6, "derive", "()V"⟩
abbrev cX6_deriveFromAround : ByteArray := prog_8_method_24_code
def yX6_deriveFromAround : MethodName := ⟨RX6, "deriveFromAround", "(I)V"⟩
abbrev cX6_canOf : ByteArray := prog_8_method_25_code
def yX6_canOf : MethodName := ⟨RX6, "canOf", "(I)I"⟩
abbrev cX6_toldOf : ByteArray := prog_8_method_26_code
def yX6_toldOf : MethodName := ⟨RX6, "toldOf", "(I)I"⟩
abbrev cX6_canOfPart : ByteArray := prog_8_method_27_code
def yX6_canOfPart : MethodName := ⟨RX6, "canOfPart", "(I)I"⟩
abbrev cX6_canOfTry : ByteArray := prog_8_method_28_code
def yX6_canOfTry : MethodName := ⟨RX6, "canOfTry", "(I)I"⟩
abbrev cX6_canOfBody : ByteArray := prog_8_method_29_code
def yX6_canOfBody : MethodName := ⟨RX6, "canOfBody", "(I)I"⟩
abbrev cX6_neverEnds : ByteArray := prog_8_method_30_code
def yX6_neverEnds : MethodName := ⟨RX6, "neverEnds", "(I)Z"⟩
abbrev cX6_isNever : ByteArray := prog_8_method_31_code
def yX6_isNever : MethodName := ⟨RX6, "isNever", "(I)Z"⟩
abbrev cX6_neverPastTry : ByteArray := prog_8_method_32_code
def yX6_neverPastTry : MethodName := ⟨RX6, "neverPastTry", "(I)Z"⟩
abbrev cX6_countCatches : ByteArray := prog_8_method_33_code
def yX6_countCatches : MethodName := ⟨RX6, "countCatches", "(I)I"⟩
abbrev cX6_countInNone : ByteArray := prog_8_method_34_code
def yX6_countInNone : MethodName := ⟨RX6, "countInNone", "()I"⟩
abbrev cX6_catchOf : ByteArray := prog_8_method_35_code
def yX6_catchOf : MethodName := ⟨RX6, "catchOf", "(II)I"⟩
abbrev cX6_firstCatch : ByteArray := prog_8_method_36_code
def yX6_firstCatch : MethodName := ⟨RX6, "firstCatch", "(II)I"⟩
def RX7 : String := "UnwindTower$Table"
def TX7 : u_T := fun k => match k with
  | 0 => ("UnwindTower$Table", "cells", "[I", false)
  | _ => ("UnwindTower$Table", "count", "I", false)
def tyX7 : Nat → FieldType := fun k => match k with
  | 0 => .array .int
  | _ => .int
abbrev wsX70 : List Cond := u_ws RX7 TX7 2
theorem nmX7 : ∀ a, a < 2 → ∀ b, b < 2 → a ≠ b → (TX7 a).2.1 ≠ (TX7 b).2.1 := by decide +kernel
theorem tyX7_ok : ∀ k, k < 2 → parseFieldDescriptor (TX7 k).2.2.1 = some (tyX7 k) := by decide +kernel
abbrev cX7_init : ByteArray := prog_9_method_1_code
def yX7_init : MethodName := ⟨RX7, "<init>", "()V"⟩
abbrev cX7_add : ByteArray := prog_9_method_2_code
def yX7_add : MethodName := ⟨RX7, "add", "(IIII)V"⟩
abbrev cX7_read : ByteArray := prog_9_method_3_code
def yX7_read : MethodName := ⟨RX7, "read", "(II)I"⟩
def RX8 : String := "UnwindTower$Thrown"
def TX8 : u_T := fun k => match k with
  | 0 => ("UnwindTower$Thrown", "made", "I", false)
  | 1 => ("UnwindTower$Thrown", "suppressions", "I", false)
  | 2 => ("UnwindTower$Thrown", "kinds", "[I", true)
  | 3 => ("UnwindTower$Thrown", "causes", "[I", true)
  | 4 => ("UnwindTower$Thrown", "ofEachKind", "[I", true)
  | 5 => ("UnwindTower$Thrown", "numbers", "[I", true)
  | 6 => ("UnwindTower$Thrown", "traceLength", "[I", true)
  | 7 => ("UnwindTower$Thrown", "traces", "[I", true)
  | 8 => ("UnwindTower$Thrown", "under", "[I", true)
  | 9 => ("UnwindTower$Thrown", "firstUnder", "[I", true)
  | 10 => ("UnwindTower$Thrown", "lastUnder", "[I", true)
  | 11 => ("UnwindTower$Thrown", "whichUnder", "[I", true)
  | _ => ("UnwindTower$Thrown", "nextUnder", "[I", true)
def tyX8 : Nat → FieldType := fun k => match k with
  | 0 => .int
  | 1 => .int
  | 2 => .array .int
  | 3 => .array .int
  | 4 => .array .int
  | 5 => .array .int
  | 6 => .array .int
  | 7 => .array .int
  | 8 => .array .int
  | 9 => .array .int
  | 10 => .array .int
  | 11 => .array .int
  | _ => .array .int
abbrev wsX80 : List Cond := u_ws RX8 TX8 13
theorem nmX8 : ∀ a, a < 13 → ∀ b, b < 13 → a ≠ b → (TX8 a).2.1 ≠ (TX8 b).2.1 := by decide +kernel
theorem tyX8_ok : ∀ k, k < 13 → parseFieldDescriptor (TX8 k).2.2.1 = some (tyX8 k) := by decide +kernel
abbrev cX8_init : ByteArray := prog_10_method_1_code
def yX8_init : MethodName := ⟨RX8, "<init>", "()V"⟩
abbrev cX8_clear : ByteArray := prog_10_method_2_code
def yX8_clear : MethodName := ⟨RX8, "clear", "()V"⟩
abbrev cX8_isKept : ByteArray := prog_10_method_3_code
def yX8_isKept : MethodName := ⟨RX8, "isKept", "(I)Z"⟩
abbrev cX8_make : ByteArray := prog_10_method_4_code
def yX8_make : MethodName := ⟨RX8, "make", "(III)I"⟩
abbrev cX8_addTrace : ByteArray := prog_10_method_5_code
def yX8_addTrace : MethodName := ⟨RX8, "addTrace", "(II)V"⟩
abbrev cX8_readTrace : ByteArray := prog_10_method_6_code
def yX8_readTrace : MethodName := ⟨RX8, "readTrace", "(II)I"⟩
abbrev cX8_suppress : ByteArray := prog_10_method_7_code
def yX8_suppress : MethodName := ⟨RX8, "suppress", "(II)V"⟩
abbrev cX8_setCause : ByteArray := prog_10_method_8_code
def yX8_setCause : MethodName := ⟨RX8, "setCause", "(II)V"⟩
abbrev cX8_isBehind : ByteArray := prog_10_method_9_code
def yX8_isBehind : MethodName := ⟨RX8, "isBehind", "(II)Z"⟩
abbrev cX8_read : ByteArray := prog_10_method_10_code
def yX8_read : MethodName := ⟨RX8, "read", "(II)I"⟩
def RX9 : String := "UnwindTower"
def TX9 : u_T := fun k => match k with
  | 0 => ("UnwindTower", "program", "LUnwindTower$Program;", true)
  | 1 => ("UnwindTower", "faults", "LUnwindTower$Faults;", true)
  | 2 => ("UnwindTower", "table", "LUnwindTower$Table;", true)
  | 3 => ("UnwindTower", "codes", "[LUnwindTower$Code;", true)
  | 4 => ("UnwindTower", "compiler", "LUnwindTower$Compiler;", true)
  | 5 => ("UnwindTower", "machine", "LUnwindTower$Machine;", true)
  | 6 => ("UnwindTower", "spare", "LUnwindTower$Machine;", true)
  | 7 => ("UnwindTower", "isPruned", "Z", false)
  | 8 => ("UnwindTower", "isStale", "Z", false)
  | 9 => ("UnwindTower", "most", "I", false)
  | 10 => ("UnwindTower", "deep", "I", false)
  | _ => ("UnwindTower", "runs", "I", false)
def tyX9 : Nat → FieldType := fun k => match k with
  | 0 => .object "UnwindTower$Program"
  | 1 => .object "UnwindTower$Faults"
  | 2 => .object "UnwindTower$Table"
  | 3 => .array (.object "UnwindTower$Code")
  | 4 => .object "UnwindTower$Compiler"
  | 5 => .object "UnwindTower$Machine"
  | 6 => .object "UnwindTower$Machine"
  | 7 => .boolean
  | 8 => .boolean
  | 9 => .int
  | 10 => .int
  | _ => .int
abbrev wsX90 : List Cond := u_ws RX9 TX9 12
theorem nmX9 : ∀ a, a < 12 → ∀ b, b < 12 → a ≠ b → (TX9 a).2.1 ≠ (TX9 b).2.1 := by decide +kernel
theorem tyX9_ok : ∀ k, k < 12 → parseFieldDescriptor (TX9 k).2.2.1 = some (tyX9 k) := by decide +kernel
abbrev cX9_init : ByteArray := prog_1_method_1_code
def yX9_init : MethodName := ⟨RX9, "<init>", "()V"⟩
abbrev cX9_kind : ByteArray := prog_1_method_2_code
def yX9_kind : MethodName := ⟨RX9, "kind", "(IZ)I"⟩
abbrev cX9_ofKind : ByteArray := prog_1_method_3_code
def yX9_ofKind : MethodName := ⟨RX9, "ofKind", "(II)I"⟩
abbrev cX9_procedure : ByteArray := prog_1_method_4_code
def yX9_procedure : MethodName := ⟨RX9, "procedure", "(I)I"⟩
abbrev cX9_tell : ByteArray := prog_1_method_5_code
def yX9_tell : MethodName := ⟨RX9, "tell", "(II)I"⟩
abbrev cX9_ofProcedure : ByteArray := prog_1_method_6_code
def yX9_ofProcedure : MethodName := ⟨RX9, "ofProcedure", "(II)I"⟩
abbrev cX9_node : ByteArray := prog_1_method_7_code
def yX9_node : MethodName := ⟨RX9, "node", "(IIII)I"⟩
abbrev cX9_body : ByteArray := prog_1_method_8_code
def yX9_body : MethodName := ⟨RX9, "body", "(II)I"⟩
abbrev cX9_ofNode : ByteArray := prog_1_method_9_code
def yX9_ofNode : MethodName := ⟨RX9, "ofNode", "(II)I"⟩
abbrev cX9_fault : ByteArray := prog_1_method_10_code
def yX9_fault : MethodName := ⟨RX9, "fault", "(II)I"⟩
abbrev cX9_prune : ByteArray := prog_1_method_11_code
def yX9_prune : MethodName := ⟨RX9, "prune", "(Z)Z"⟩
abbrev cX9_code : ByteArray := prog_1_method_12_code
def yX9_code : MethodName := ⟨RX9, "code", "(III)I"⟩
abbrev cX9_row : ByteArray := prog_1_method_13_code
def yX9_row : MethodName := ⟨RX9, "row", "(III)I"⟩
abbrev cX9_limits : ByteArray := prog_1_method_14_code
def yX9_limits : MethodName := ⟨RX9, "limits", "(II)I"⟩
abbrev cX9_run : ByteArray := prog_1_method_15_code
def yX9_run : MethodName := ⟨RX9, "run", "()I"⟩
abbrev cX9_ofRun : ByteArray := prog_1_method_16_code
def yX9_ofRun : MethodName := ⟨RX9, "ofRun", "(I)I"⟩
abbrev cX9_printed : ByteArray := prog_1_method_17_code
def yX9_printed : MethodName := ⟨RX9, "printed", "(II)I"⟩
abbrev cX9_exception : ByteArray := prog_1_method_18_code
def yX9_exception : MethodName := ⟨RX9, "exception", "(II)I"⟩
abbrev cX9_suppressed : ByteArray := prog_1_method_19_code
def yX9_suppressed : MethodName := ⟨RX9, "suppressed", "(II)I"⟩
abbrev cX9_trace : ByteArray := prog_1_method_20_code
def yX9_trace : MethodName := ⟨RX9, "trace", "(II)I"⟩
abbrev cX9_held : ByteArray := prog_1_method_21_code
def yX9_held : MethodName := ⟨RX9, "held", "(I)I"⟩
abbrev cX9_meanPrinted : ByteArray := prog_1_method_22_code
def yX9_meanPrinted : MethodName := ⟨RX9, "meanPrinted", "()D"⟩
abbrev cX9_many : ByteArray := prog_1_method_23_code
def yX9_many : MethodName := ⟨RX9, "many", "(I)I"⟩
abbrev cX9_wouldRun : ByteArray := prog_1_method_24_code
def yX9_wouldRun : MethodName := ⟨RX9, "wouldRun", "(III)I"⟩
abbrev cX9_catcher : ByteArray := prog_1_method_25_code
def yX9_catcher : MethodName := ⟨RX9, "catcher", "(II)I"⟩
abbrev cX9_faultsWith : ByteArray := prog_1_method_26_code
def yX9_faultsWith : MethodName := ⟨RX9, "faultsWith", "(II)I"⟩
abbrev cX9_digest : ByteArray := prog_1_method_27_code
def yX9_digest : MethodName := ⟨RX9, "digest", "()J"⟩
abbrev cX9_digestProcedure : ByteArray := prog_1_method_28_code
def yX9_digestProcedure : MethodName := ⟨RX9, "digestProcedure", "(JI)J"⟩
abbrev cX9_digestRun : ByteArray := prog_1_method_29_code
def yX9_digestRun : MethodName := ⟨RX9, "digestRun", "(J)J"⟩
abbrev cX9_digestException : ByteArray := prog_1_method_30_code
def yX9_digestException : MethodName := ⟨RX9, "digestException", "(JI)J"⟩
abbrev cX9_readKind : ByteArray := prog_1_method_31_code
def yX9_readKind : MethodName := ⟨RX9, "readKind", "(II)I"⟩
abbrev cX9_readProcedure : ByteArray := prog_1_method_32_code
def yX9_readProcedure : MethodName := ⟨RX9, "readProcedure", "(II)I"⟩
abbrev cX9_readNode : ByteArray := prog_1_method_33_code
def yX9_readNode : MethodName := ⟨RX9, "readNode", "(II)I"⟩
abbrev cX9_readRun : ByteArray := prog_1_method_34_code
def yX9_readRun : MethodName := ⟨RX9, "readRun", "(I)I"⟩
abbrev cX9_readHeld : ByteArray := prog_1_method_35_code
def yX9_readHeld : MethodName := ⟨RX9, "readHeld", "(I)I"⟩
abbrev cX9_readMany : ByteArray := prog_1_method_36_code
def yX9_readMany : MethodName := ⟨RX9, "readMany", "(I)I"⟩
abbrev cX9_lengthOf : ByteArray := prog_1_method_37_code
def yX9_lengthOf : MethodName := ⟨RX9, "lengthOf", "(I)I"⟩
abbrev cX9_rowsOf : ByteArray := prog_1_method_38_code
def yX9_rowsOf : MethodName := ⟨RX9, "rowsOf", "(I)I"⟩
abbrev cX9_lengthOfAll : ByteArray := prog_1_method_39_code
def yX9_lengthOfAll : MethodName := ⟨RX9, "lengthOfAll", "()I"⟩
abbrev cX9_areLimits : ByteArray := prog_1_method_40_code
def yX9_areLimits : MethodName := ⟨RX9, "areLimits", "(II)Z"⟩
abbrev cX9_refresh : ByteArray := prog_1_method_41_code
def yX9_refresh : MethodName := ⟨RX9, "refresh", "()V"⟩
abbrev cX9_at : ByteArray := prog_1_method_42_code
def yX9_at : MethodName := ⟨RX9, "at", "([II)I"⟩
abbrev cX9_put : ByteArray := prog_1_method_43_code
def yX9_put : MethodName := ⟨RX9, "put", "([III)V"⟩
abbrev cX9_increment : ByteArray := prog_1_method_44_code
def yX9_increment : MethodName := ⟨RX9, "increment", "([II)V"⟩
abbrev cX9_codeAt : ByteArray := prog_1_method_45_code
def yX9_codeAt : MethodName := ⟨RX9, "codeAt", "([LUnwindTower$Code;I)LUnwindTower$Code;"⟩
def RX10 : String := "UnwindTowerModel$Code"
def TX10 : u_T := fun k => match k with
  | 0 => ("UnwindTowerModel$Code", "program", "LUnwindTowerModel$Program;", true)
  | 1 => ("UnwindTowerModel$Code", "isPruned", "Z", true)
  | 2 => ("UnwindTowerModel$Code", "list", "Ljava/util/ArrayList;", true)
  | 3 => ("UnwindTowerModel$Code", "rows", "Ljava/util/ArrayList;", true)
  | 4 => ("UnwindTowerModel$Code", "isTooLong", "Z", false)
  | 5 => ("UnwindTowerModel$Code", "around", "Ljava/util/ArrayList;", false)
  | 6 => ("UnwindTowerModel$Code", "caughts", "I", false)
  | 7 => ("UnwindTowerModel$Code", "finallys", "I", false)
  | _ => ("UnwindTowerModel$Code", "caughtOf", "[I", true)
def tyX10 : Nat → FieldType := fun k => match k with
  | 0 => .object "UnwindTowerModel$Program"
  | 1 => .boolean
  | 2 => .object "java/util/ArrayList"
  | 3 => .object "java/util/ArrayList"
  | 4 => .boolean
  | 5 => .object "java/util/ArrayList"
  | 6 => .int
  | 7 => .int
  | _ => .array .int
abbrev wsX100 : List Cond := u_ws RX10 TX10 9
theorem nmX10 : ∀ a, a < 9 → ∀ b, b < 9 → a ≠ b → (TX10 a).2.1 ≠ (TX10 b).2.1 := by decide +kernel
theorem tyX10_ok : ∀ k, k < 9 → parseFieldDescriptor (TX10 k).2.2.1 = some (tyX10 k) := by decide +kernel
abbrev cX10_init : ByteArray := prog_13_method_1_code
def yX10_init : MethodName := ⟨RX10, "<init>", "(LUnwindTowerModel$Program;IZ)V"⟩
abbrev cX10_put : ByteArray := prog_13_method_2_code
def yX10_put : MethodName := ⟨RX10, "put", "(IIII)I"⟩
abbrev cX10_aim : ByteArray := prog_13_method_3_code
def yX10_aim : MethodName := ⟨RX10, "aim", "(II)V"⟩
abbrev cX10_lay : ByteArray := prog_13_method_4_code
def yX10_lay : MethodName := ⟨RX10, "lay", "(I)V"⟩
abbrev cX10_layCaught : ByteArray := prog_13_method_5_code
def yX10_layCaught : MethodName := ⟨RX10, "layCaught", "(LUnwindTowerModel$Node;)V"⟩
abbrev cX10_layIf : ByteArray := prog_13_method_6_code
def yX10_layIf : MethodName := ⟨RX10, "layIf", "(LUnwindTowerModel$Node;)V"⟩
abbrev cX10_layLoop : ByteArray := prog_13_method_7_code
def yX10_layLoop : MethodName := ⟨RX10, "layLoop", "(LUnwindTowerModel$Node;)V"⟩
abbrev cX10_layOut : ByteArray := prog_13_method_8_code
def yX10_layOut : MethodName := ⟨RX10, "layOut", "(LUnwindTowerModel$Node;)V"⟩
abbrev cX10_layFinally : ByteArray := prog_13_method_9_code
def yX10_layFinally : MethodName := ⟨RX10, "layFinally", "(LUnwindTowerModel$Node;)V"⟩
abbrev cX10_layWithin : ByteArray := prog_13_method_10_code
def yX10_layWithin : MethodName := ⟨RX10, "layWithin", "(LUnwindTowerModel$Node;II)Ljava/util/ArrayList;"⟩
abbrev cX10_addPiece : ByteArray := prog_13_method_11_code
def yX10_addPiece : MethodName := ⟨RX10, "addPiece", "(Ljava/util/ArrayList;II)V"⟩
abbrev cX10_canThrow : ByteArray := prog_13_method_12_code
def yX10_canThrow : MethodName := ⟨RX10, "canThrow", "(I)Z"⟩
abbrev cX10_addRows : ByteArray := prog_13_method_13_code
def yX10_addRows : MethodName := ⟨RX10, "addRows", "(Ljava/util/ArrayList;II)V"⟩
abbrev cX10_layTry : ByteArray := prog_13_method_14_code
def yX10_layTry : MethodName := ⟨RX10, "layTry", "(LUnwindTowerModel$Node;)V"⟩
abbrev cX10_layUsing : ByteArray := prog_13_method_15_code
def yX10_layUsing : MethodName := ⟨RX10, "layUsing", "(LUnwindTowerModel$Node;)V"⟩
def RX11 : String := "UnwindTowerModel$Kind"
def TX11 : u_T := fun k => match k with
  | 0 => ("UnwindTowerModel$Kind", "parent", "I", true)
  | _ => ("UnwindTowerModel$Kind", "isChecked", "Z", true)
def tyX11 : Nat → FieldType := fun k => match k with
  | 0 => .int
  | _ => .boolean
abbrev wsX110 : List Cond := u_ws RX11 TX11 2
theorem nmX11 : ∀ a, a < 2 → ∀ b, b < 2 → a ≠ b → (TX11 a).2.1 ≠ (TX11 b).2.1 := by decide +kernel
theorem tyX11_ok : ∀ k, k < 2 → parseFieldDescriptor (TX11 k).2.2.1 = some (tyX11 k) := by decide +kernel
abbrev cX11_init : ByteArray := prog_14_method_1_code
def yX11_init : MethodName := ⟨RX11, "<init>", "(IZ)V"⟩
def RX12 : String := "UnwindTowerModel$Node"
def TX12 : u_T := fun k => match k with
  | 0 => ("UnwindTowerModel$Node", "number", "I", true)
  | 1 => ("UnwindTowerModel$Node", "sort", "I", true)
  | 2 => ("UnwindTowerModel$Node", "a", "I", true)
  | 3 => ("UnwindTowerModel$Node", "b", "I", true)
  | 4 => ("UnwindTowerModel$Node", "c", "I", true)
  | 5 => ("UnwindTowerModel$Node", "whole", "I", false)
  | _ => ("UnwindTowerModel$Node", "procedure", "I", false)
def tyX12 : Nat → FieldType := fun k => match k with
  | 0 => .int
  | 1 => .int
  | 2 => .int
  | 3 => .int
  | 4 => .int
  | 5 => .int
  | _ => .int
abbrev wsX120 : List Cond := u_ws RX12 TX12 7
theorem nmX12 : ∀ a, a < 7 → ∀ b, b < 7 → a ≠ b → (TX12 a).2.1 ≠ (TX12 b).2.1 := by decide +kernel
theorem tyX12_ok : ∀ k, k < 7 → parseFieldDescriptor (TX12 k).2.2.1 = some (tyX12 k) := by decide +kernel
abbrev cX12_init : ByteArray := prog_15_method_1_code
def yX12_init : MethodName := ⟨RX12, "<init>", "(IIIII)V"⟩
abbrev cX12_parts : ByteArray := prog_15_method_2_code
def yX12_parts : MethodName := ⟨RX12, "parts", "()Ljava/util/ArrayList;"⟩
abbrev cX12_isWithinCatch : ByteArray := prog_15_method_3_code
def yX12_isWithinCatch : MethodName := ⟨RX12, "isWithinCatch", "()Z"⟩
def RX13 : String := "UnwindTowerModel$Procedure"
def TX13 : u_T := fun k => match k with
  | 0 => ("UnwindTowerModel$Procedure", "tells", "I", false)
  | _ => ("UnwindTowerModel$Procedure", "body", "I", false)
def tyX13 : Nat → FieldType := fun k => match k with
  | 0 => .int
  | _ => .int
abbrev wsX130 : List Cond := u_ws RX13 TX13 2
theorem nmX13 : ∀ a, a < 2 → ∀ b, b < 2 → a ≠ b → (TX13 a).2.1 ≠ (TX13 b).2.1 := by decide +kernel
theorem tyX13_ok : ∀ k, k < 2 → parseFieldDescriptor (TX13 k).2.2.1 = some (tyX13 k) := by decide +kernel
abbrev cX13_init : ByteArray := prog_16_method_1_code
def yX13_init : MethodName := ⟨RX13, "<init>", "(I)V"⟩
def RX14 : String := "UnwindTowerModel$Program"
def TX14 : u_T := fun k => match k with
  | 0 => ("UnwindTowerModel$Program", "kinds", "Ljava/util/ArrayList;", true)
  | 1 => ("UnwindTowerModel$Program", "procedures", "Ljava/util/ArrayList;", true)
  | _ => ("UnwindTowerModel$Program", "nodes", "Ljava/util/ArrayList;", true)
def tyX14 : Nat → FieldType := fun k => match k with
  | 0 => .object "java/util/ArrayList"
  | 1 => .object "java/util/ArrayList"
  | _ => .object "java/util/ArrayList"
abbrev wsX140 : List Cond := u_ws RX14 TX14 3
theorem nmX14 : ∀ a, a < 3 → ∀ b, b < 3 → a ≠ b → (TX14 a).2.1 ≠ (TX14 b).2.1 := by decide +kernel
theorem tyX14_ok : ∀ k, k < 3 → parseFieldDescriptor (TX14 k).2.2.1 = some (tyX14 k) := by decide +kernel
abbrev cX14_init : ByteArray := prog_17_method_1_code
def yX14_init : MethodName := ⟨RX14, "<init>", "()V"⟩
abbrev cX14_of : ByteArray := prog_17_method_2_code
def yX14_of : MethodName := ⟨RX14, "of", "(I)LUnwindTowerModel$Node;"⟩
abbrev cX14_isBelow : ByteArray := prog_17_method_3_code
def yX14_isBelow : MethodName := ⟨RX14, "isBelow", "(II)Z"⟩
abbrev cX14_isChecked : ByteArray := prog_17_method_4_code
def yX14_isChecked : MethodName := ⟨RX14, "isChecked", "(I)Z"⟩
abbrev cX14_below : ByteArray := prog_17_method_5_code
def yX14_below : MethodName := ⟨RX14, "below", "(I)I"⟩
abbrev cX14_isOperand : ByteArray := prog_17_method_6_code
def yX14_isOperand : MethodName := ⟨RX14, "isOperand", "(I)Z"⟩
abbrev cX14_isVariable : ByteArray := prog_17_method_7_code
def yX14_isVariable : MethodName := ⟨RX14, "isVariable", "(I)Z"⟩
abbrev cX14_isKind : ByteArray := prog_17_method_8_code
def yX14_isKind : MethodName := ⟨RX14, "isKind", "(I)Z"⟩
abbrev cX14_isProcedure : ByteArray := prog_17_method_9_code
def yX14_isProcedure : MethodName := ⟨RX14, "isProcedure", "(I)Z"⟩
abbrev cX14_isSlot : ByteArray := prog_17_method_10_code
def yX14_isSlot : MethodName := ⟨RX14, "isSlot", "(I)Z"⟩
abbrev cX14_isPart : ByteArray := prog_17_method_11_code
def yX14_isPart : MethodName := ⟨RX14, "isPart", "(IZ)Z"⟩
abbrev cX14_isPartOrNone : ByteArray := prog_17_method_12_code
def yX14_isPartOrNone : MethodName := ⟨RX14, "isPartOrNone", "(IZ)Z"⟩
abbrev cX14_isNode : ByteArray := prog_17_method_13_code
def yX14_isNode : MethodName := ⟨RX14, "isNode", "(IIII)Z"⟩
abbrev cX14_procedureOf : ByteArray := prog_17_method_14_code
def yX14_procedureOf : MethodName := ⟨RX14, "procedureOf", "(I)I"⟩
abbrev cX14_catchAround : ByteArray := prog_17_method_15_code
def yX14_catchAround : MethodName := ⟨RX14, "catchAround", "(I)I"⟩
abbrev cX14_hasLoopAround : ByteArray := prog_17_method_16_code
def yX14_hasLoopAround : MethodName := ⟨RX14, "hasLoopAround", "(I)Z"⟩
abbrev cX14_tellsOf : ByteArray := prog_17_method_17_code
def yX14_tellsOf : MethodName := ⟨RX14, "tellsOf", "(I)I"⟩
abbrev cX14_can : ByteArray := prog_17_method_18_code
def yX14_can : MethodName := ⟨RX14, "can", "(I)I"⟩
abbrev cX14_canCaught : ByteArray := prog_17_method_19_code
def yX14_canCaught : MethodName := ⟨RX14, "canCaught", "(LUnwindTowerModel$Node;)I"⟩
abbrev cX14_neverEnds : ByteArray := prog_17_method_20_code
def yX14_neverEnds : MethodName := ⟨RX14, "neverEnds", "(I)Z"⟩
abbrev cX14_faults : ByteArray := prog_17_method_21_code
def yX14_faults : MethodName := ⟨RX14, "faults", "()Ljava/util/ArrayList;"⟩
abbrev cX14_isTold : ByteArray := prog_17_method_22_code
def yX14_isTold : MethodName := ⟨RX14, "isTold", "(II)Z"⟩
abbrev cX14_look : ByteArray := prog_17_method_23_code
def yX14_look : MethodName := ⟨RX14, "look", "(Ljava/util/ArrayList;II)V"⟩
abbrev cX14_faultOf : ByteArray := prog_17_method_24_code
def yX14_faultOf : MethodName := ⟨RX14, "faultOf", "(LUnwindTowerModel$Node;)I"⟩
abbrev cX14_faultOfCatch : ByteArray := prog_17_method_25_code
def yX14_faultOfCatch : MethodName := ⟨RX14, "faultOfCatch", "(LUnwindTowerModel$Node;)I"⟩
def RX15 : String := "UnwindTowerModel$Region"
def TX15 : u_T := fun k => match k with
  | 0 => ("UnwindTowerModel$Region", "its", "LUnwindTowerModel$Node;", true)
  | 1 => ("UnwindTowerModel$Region", "gaps", "Ljava/util/ArrayList;", true)
  | _ => ("UnwindTowerModel$Region", "breaks", "Ljava/util/ArrayList;", true)
def tyX15 : Nat → FieldType := fun k => match k with
  | 0 => .object "UnwindTowerModel$Node"
  | 1 => .object "java/util/ArrayList"
  | _ => .object "java/util/ArrayList"
abbrev wsX150 : List Cond := u_ws RX15 TX15 3
theorem nmX15 : ∀ a, a < 3 → ∀ b, b < 3 → a ≠ b → (TX15 a).2.1 ≠ (TX15 b).2.1 := by decide +kernel
theorem tyX15_ok : ∀ k, k < 3 → parseFieldDescriptor (TX15 k).2.2.1 = some (tyX15 k) := by decide +kernel
abbrev cX15_init : ByteArray := prog_18_method_1_code
def yX15_init : MethodName := ⟨RX15, "<init>", "(LUnwindTowerModel$Node;)V"⟩
abbrev cX15_isLoop : ByteArray := prog_18_method_2_code
def yX15_isLoop : MethodName := ⟨RX15, "isLoop", "()Z"⟩
def RX16 : String := "UnwindTowerModel$Run"
def TX16 : u_T := fun k => match k with
  | 0 => ("UnwindTowerModel$Run", "program", "LUnwindTowerModel$Program;", true)
  | 1 => ("UnwindTowerModel$Run", "most", "I", true)
  | 2 => ("UnwindTowerModel$Run", "deep", "I", true)
  | 3 => ("UnwindTowerModel$Run", "variables", "[I", true)
  | 4 => ("UnwindTowerModel$Run", "slots", "[I", true)
  | 5 => ("UnwindTowerModel$Run", "things", "Ljava/util/ArrayList;", true)
  | 6 => ("UnwindTowerModel$Run", "printed", "Ljava/util/ArrayList;", true)
  | 7 => ("UnwindTowerModel$Run", "begun", "[I", true)
  | 8 => ("UnwindTowerModel$Run", "called", "[I", true)
  | 9 => ("UnwindTowerModel$Run", "under", "Ljava/util/ArrayList;", true)
  | 10 => ("UnwindTowerModel$Run", "depth", "I", false)
  | 11 => ("UnwindTowerModel$Run", "steps", "I", false)
  | 12 => ("UnwindTowerModel$Run", "calls", "I", false)
  | 13 => ("UnwindTowerModel$Run", "deepest", "I", false)
  | 14 => ("UnwindTowerModel$Run", "suppressions", "I", false)
  | 15 => ("UnwindTowerModel$Run", "told", "I", false)
  | 16 => ("UnwindTowerModel$Run", "gave", "I", false)
  | _ => ("UnwindTowerModel$Run", "ended", "I", false)
def tyX16 : Nat → FieldType := fun k => match k with
  | 0 => .object "UnwindTowerModel$Program"
  | 1 => .int
  | 2 => .int
  | 3 => .array .int
  | 4 => .array .int
  | 5 => .object "java/util/ArrayList"
  | 6 => .object "java/util/ArrayList"
  | 7 => .array .int
  | 8 => .array .int
  | 9 => .object "java/util/ArrayList"
  | 10 => .int
  | 11 => .int
  | 12 => .int
  | 13 => .int
  | 14 => .int
  | 15 => .int
  | 16 => .int
  | _ => .int
abbrev wsX160 : List Cond := u_ws RX16 TX16 18
theorem nmX16 : ∀ a, a < 18 → ∀ b, b < 18 → a ≠ b → (TX16 a).2.1 ≠ (TX16 b).2.1 := by decide +kernel
theorem tyX16_ok : ∀ k, k < 18 → parseFieldDescriptor (TX16 k).2.2.1 = some (tyX16 k) := by decide +kernel
abbrev cX16_init : ByteArray := prog_19_method_1_code
def yX16_init : MethodName := ⟨RX16, "<init>", "(LUnwindTowerModel$Program;II)V"⟩
abbrev cX16_valueOf : ByteArray := prog_19_method_2_code
def yX16_valueOf : MethodName := ⟨RX16, "valueOf", "(I)I"⟩
abbrev cX16_make : ByteArray := prog_19_method_3_code
def yX16_make : MethodName := ⟨RX16, "make", "(III)I"⟩
abbrev cX16_fail : ByteArray := prog_19_method_4_code
def yX16_fail : MethodName := ⟨RX16, "fail", "(II)LUnwindTowerModel$Way;"⟩
abbrev cX16_call : ByteArray := prog_19_method_5_code
def yX16_call : MethodName := ⟨RX16, "call", "(I)LUnwindTowerModel$Way;"⟩
abbrev cX16_callFrom : ByteArray := prog_19_method_6_code
def yX16_callFrom : MethodName := ⟨RX16, "callFrom", "(II)LUnwindTowerModel$Way;"⟩
abbrev cX16_go : ByteArray := prog_19_method_7_code
def yX16_go : MethodName := ⟨RX16, "go", "(II)LUnwindTowerModel$Way;"⟩
abbrev cX16_loop : ByteArray := prog_19_method_8_code
def yX16_loop : MethodName := ⟨RX16, "loop", "(LUnwindTowerModel$Node;I)LUnwindTowerModel$Way;"⟩
abbrev cX16_raise : ByteArray := prog_19_method_9_code
def yX16_raise : MethodName := ⟨RX16, "raise", "(LUnwindTowerModel$Node;I)LUnwindTowerModel$Way;"⟩
abbrev cX16_link : ByteArray := prog_19_method_10_code
def yX16_link : MethodName := ⟨RX16, "link", "(LUnwindTowerModel$Node;I)LUnwindTowerModel$Way;"⟩
abbrev cX16_tryAll : ByteArray := prog_19_method_11_code
def yX16_tryAll : MethodName := ⟨RX16, "tryAll", "(LUnwindTowerModel$Node;I)LUnwindTowerModel$Way;"⟩
abbrev cX16_use : ByteArray := prog_19_method_12_code
def yX16_use : MethodName := ⟨RX16, "use", "(LUnwindTowerModel$Node;I)LUnwindTowerModel$Way;"⟩
abbrev cX16_told : ByteArray := prog_19_method_13_code
def yX16_told : MethodName := ⟨RX16, "told", "(I)I"⟩
def RX17 : String := "UnwindTowerModel$Thing"
def TX17 : u_T := fun k => match k with
  | 0 => ("UnwindTowerModel$Thing", "kind", "I", true)
  | 1 => ("UnwindTowerModel$Thing", "value", "I", true)
  | 2 => ("UnwindTowerModel$Thing", "cause", "I", false)
  | 3 => ("UnwindTowerModel$Thing", "suppressed", "Ljava/util/ArrayList;", true)
  | _ => ("UnwindTowerModel$Thing", "trace", "Ljava/util/ArrayList;", true)
def tyX17 : Nat → FieldType := fun k => match k with
  | 0 => .int
  | 1 => .int
  | 2 => .int
  | 3 => .object "java/util/ArrayList"
  | _ => .object "java/util/ArrayList"
abbrev wsX170 : List Cond := u_ws RX17 TX17 5
theorem nmX17 : ∀ a, a < 5 → ∀ b, b < 5 → a ≠ b → (TX17 a).2.1 ≠ (TX17 b).2.1 := by decide +kernel
theorem tyX17_ok : ∀ k, k < 5 → parseFieldDescriptor (TX17 k).2.2.1 = some (tyX17 k) := by decide +kernel
abbrev cX17_init : ByteArray := prog_20_method_1_code
def yX17_init : MethodName := ⟨RX17, "<init>", "(II)V"⟩
def RX18 : String := "UnwindTowerModel$Way"
def TX18 : u_T := fun k => match k with
  | 0 => ("UnwindTowerModel$Way", "how", "I", true)
  | _ => ("UnwindTowerModel$Way", "value", "I", true)
def tyX18 : Nat → FieldType := fun k => match k with
  | 0 => .int
  | _ => .int
abbrev wsX180 : List Cond := u_ws RX18 TX18 2
theorem nmX18 : ∀ a, a < 2 → ∀ b, b < 2 → a ≠ b → (TX18 a).2.1 ≠ (TX18 b).2.1 := by decide +kernel
theorem tyX18_ok : ∀ k, k < 2 → parseFieldDescriptor (TX18 k).2.2.1 = some (tyX18 k) := by decide +kernel
abbrev cX18_init : ByteArray := prog_21_method_1_code
def yX18_init : MethodName := ⟨RX18, "<init>", "(II)V"⟩
abbrev cX18_is : ByteArray := prog_21_method_2_code
def yX18_is : MethodName := ⟨RX18, "is", "(I)Z"⟩
def RX19 : String := "UnwindTowerModel"
def TX19 : u_T := fun k => match k with
  | 0 => ("UnwindTowerModel", "thrown", "I", false)
  | 1 => ("UnwindTowerModel", "program", "LUnwindTowerModel$Program;", true)
  | 2 => ("UnwindTowerModel", "isPruned", "Z", false)
  | 3 => ("UnwindTowerModel", "most", "I", false)
  | 4 => ("UnwindTowerModel", "deep", "I", false)
  | 5 => ("UnwindTowerModel", "last", "LUnwindTowerModel$Run;", false)
  | _ => ("UnwindTowerModel", "runs", "I", false)
def tyX19 : Nat → FieldType := fun k => match k with
  | 0 => .int
  | 1 => .object "UnwindTowerModel$Program"
  | 2 => .boolean
  | 3 => .int
  | 4 => .int
  | 5 => .object "UnwindTowerModel$Run"
  | _ => .int
abbrev wsX190 : List Cond := u_ws RX19 TX19 7
theorem nmX19 : ∀ a, a < 7 → ∀ b, b < 7 → a ≠ b → (TX19 a).2.1 ≠ (TX19 b).2.1 := by decide +kernel
theorem tyX19_ok : ∀ k, k < 7 → parseFieldDescriptor (TX19 k).2.2.1 = some (tyX19 k) := by decide +kernel
abbrev cX19_isIn : ByteArray := prog_12_method_1_code
def yX19_isIn : MethodName := ⟨RX19, "isIn", "(III)Z"⟩
abbrev cX19_has : ByteArray := prog_12_method_2_code
def yX19_has : MethodName := ⟨RX19, "has", "(II)Z"⟩
abbrev cX19_init : ByteArray := prog_12_method_3_code
def yX19_init : MethodName := ⟨RX19, "<init>", "()V"⟩
abbrev cX19_thrown : ByteArray := prog_12_method_4_code
def yX19_thrown : MethodName := ⟨RX19, "thrown", "()I"⟩
abbrev cX19_refuse : ByteArray := prog_12_method_5_code
def yX19_refuse : MethodName := ⟨RX19, "refuse", "(ZI)Z"⟩
abbrev cX19_start : ByteArray := prog_12_method_6_code
def yX19_start : MethodName := ⟨RX19, "start", "(ZI)Z"⟩
abbrev cX19_isNoKind : ByteArray := prog_12_method_7_code
def yX19_isNoKind : MethodName := ⟨RX19, "isNoKind", "(I)Z"⟩
abbrev cX19_isNoProcedure : ByteArray := prog_12_method_8_code
def yX19_isNoProcedure : MethodName := ⟨RX19, "isNoProcedure", "(I)Z"⟩
abbrev cX19_isNoNode : ByteArray := prog_12_method_9_code
def yX19_isNoNode : MethodName := ⟨RX19, "isNoNode", "(I)Z"⟩
abbrev cX19_isNoSet : ByteArray := prog_12_method_10_code
def yX19_isNoSet : MethodName := ⟨RX19, "isNoSet", "(I)Z"⟩
abbrev cX19_isFaulty : ByteArray := prog_12_method_11_code
def yX19_isFaulty : MethodName := ⟨RX19, "isFaulty", "()Z"⟩
abbrev cX19_codeOf : ByteArray := prog_12_method_12_code
def yX19_codeOf : MethodName := ⟨RX19, "codeOf", "(I)LUnwindTowerModel$Code;"⟩
abbrev cX19_kind : ByteArray := prog_12_method_13_code
def yX19_kind : MethodName := ⟨RX19, "kind", "(IZ)I"⟩
abbrev cX19_ofKindNow : ByteArray := prog_12_method_14_code
def yX19_ofKindNow : MethodName := ⟨RX19, "ofKindNow", "(II)I"⟩
abbrev cX19_ofKind : ByteArray := prog_12_method_15_code
def yX19_ofKind : MethodName := ⟨RX19, "ofKind", "(II)I"⟩
abbrev cX19_procedure : ByteArray := prog_12_method_16_code
def yX19_procedure : MethodName := ⟨RX19, "procedure", "(I)I"⟩
abbrev cX19_tell : ByteArray := prog_12_method_17_code
def yX19_tell : MethodName := ⟨RX19, "tell", "(II)I"⟩
abbrev cX19_ofProcedureNow : ByteArray := prog_12_method_18_code
def yX19_ofProcedureNow : MethodName := ⟨RX19, "ofProcedureNow", "(IIZ)I"⟩
abbrev cX19_ofProcedure : ByteArray := prog_12_method_19_code
def yX19_ofProcedure : MethodName := ⟨RX19, "ofProcedure", "(II)I"⟩
abbrev cX19_node : ByteArray := prog_12_method_20_code
def yX19_node : MethodName := ⟨RX19, "node", "(IIII)I"⟩
abbrev cX19_body : ByteArray := prog_12_method_21_code
def yX19_body : MethodName := ⟨RX19, "body", "(II)I"⟩
abbrev cX19_ofNodeNow : ByteArray := prog_12_method_22_code
def yX19_ofNodeNow : MethodName := ⟨RX19, "ofNodeNow", "(II)I"⟩
abbrev cX19_ofNode : ByteArray := prog_12_method_23_code
def yX19_ofNode : MethodName := ⟨RX19, "ofNode", "(II)I"⟩
abbrev cX19_fault : ByteArray := prog_12_method_24_code
def yX19_fault : MethodName := ⟨RX19, "fault", "(II)I"⟩
abbrev cX19_prune : ByteArray := prog_12_method_25_code
def yX19_prune : MethodName := ⟨RX19, "prune", "(Z)Z"⟩
abbrev cX19_code : ByteArray := prog_12_method_26_code
def yX19_code : MethodName := ⟨RX19, "code", "(III)I"⟩
abbrev cX19_row : ByteArray := prog_12_method_27_code
def yX19_row : MethodName := ⟨RX19, "row", "(III)I"⟩
abbrev cX19_isNoLimit : ByteArray := prog_12_method_28_code
def yX19_isNoLimit : MethodName := ⟨RX19, "isNoLimit", "(II)Z"⟩
abbrev cX19_limits : ByteArray := prog_12_method_29_code
def yX19_limits : MethodName := ⟨RX19, "limits", "(II)I"⟩
abbrev cX19_run : ByteArray := prog_12_method_30_code
def yX19_run : MethodName := ⟨RX19, "run", "()I"⟩
abbrev cX19_ofRunNow : ByteArray := prog_12_method_31_code
def yX19_ofRunNow : MethodName := ⟨RX19, "ofRunNow", "(I)I"⟩
abbrev cX19_ofRun : ByteArray := prog_12_method_32_code
def yX19_ofRun : MethodName := ⟨RX19, "ofRun", "(I)I"⟩
abbrev cX19_kept : ByteArray := prog_12_method_33_code
def yX19_kept : MethodName := ⟨RX19, "kept", "()I"⟩
abbrev cX19_keptPrinted : ByteArray := prog_12_method_34_code
def yX19_keptPrinted : MethodName := ⟨RX19, "keptPrinted", "()I"⟩
abbrev cX19_printed : ByteArray := prog_12_method_35_code
def yX19_printed : MethodName := ⟨RX19, "printed", "(II)I"⟩
abbrev cX19_isNoThing : ByteArray := prog_12_method_36_code
def yX19_isNoThing : MethodName := ⟨RX19, "isNoThing", "(I)Z"⟩
abbrev cX19_exceptionNow : ByteArray := prog_12_method_37_code
def yX19_exceptionNow : MethodName := ⟨RX19, "exceptionNow", "(II)I"⟩
abbrev cX19_exception : ByteArray := prog_12_method_38_code
def yX19_exception : MethodName := ⟨RX19, "exception", "(II)I"⟩
abbrev cX19_suppressed : ByteArray := prog_12_method_39_code
def yX19_suppressed : MethodName := ⟨RX19, "suppressed", "(II)I"⟩
abbrev cX19_trace : ByteArray := prog_12_method_40_code
def yX19_trace : MethodName := ⟨RX19, "trace", "(II)I"⟩
abbrev cX19_heldNow : ByteArray := prog_12_method_41_code
def yX19_heldNow : MethodName := ⟨RX19, "heldNow", "(I)I"⟩
abbrev cX19_held : ByteArray := prog_12_method_42_code
def yX19_held : MethodName := ⟨RX19, "held", "(I)I"⟩
abbrev cX19_meanPrinted : ByteArray := prog_12_method_43_code
def yX19_meanPrinted : MethodName := ⟨RX19, "meanPrinted", "()D"⟩
abbrev cX19_count : ByteArray := prog_12_method_44_code
def yX19_count : MethodName := ⟨RX19, "count", "(ILjava/util/ArrayList;)I"⟩
abbrev cX19_many : ByteArray := prog_12_method_45_code
def yX19_many : MethodName := ⟨RX19, "many", "(I)I"⟩
abbrev cX19_wouldRun : ByteArray := prog_12_method_46_code
def yX19_wouldRun : MethodName := ⟨RX19, "wouldRun", "(III)I"⟩
abbrev cX19_catcherNow : ByteArray := prog_12_method_47_code
def yX19_catcherNow : MethodName := ⟨RX19, "catcherNow", "(II)I"⟩
abbrev cX19_catcher : ByteArray := prog_12_method_48_code
def yX19_catcher : MethodName := ⟨RX19, "catcher", "(II)I"⟩
abbrev cX19_faultsWith : ByteArray := prog_12_method_49_code
def yX19_faultsWith : MethodName := ⟨RX19, "faultsWith", "(II)I"⟩
abbrev cX19_add : ByteArray := prog_12_method_50_code
def yX19_add : MethodName := ⟨RX19, "add", "(JJ)J"⟩
abbrev cX19_digest : ByteArray := prog_12_method_51_code
def yX19_digest : MethodName := ⟨RX19, "digest", "()J"⟩
def RJx145de : String := "java/io/Serializable"
def TJx145de : u_T := fun k => match k with
  | _ => ("", "", "", false)
def tyJx145de : Nat → FieldType := fun k => match k with
  | _ => .int
abbrev wsJx145de0 : List Cond := u_ws RJx145de TJx145de 0
theorem nmJx145de : ∀ a, a < 0 → ∀ b, b < 0 → a ≠ b → (TJx145de a).2.1 ≠ (TJx145de b).2.1 := by decide +kernel
theorem tyJx145de_ok : ∀ k, k < 0 → parseFieldDescriptor (TJx145de k).2.2.1 = some (tyJx145de k) := by decide +kernel
def RJ5 : String := "java/lang/AbstractStringBuilder"
def TJ5 : u_T := fun k => match k with
  | _ => ("", "", "", false)
def tyJ5 : Nat → FieldType := fun k => match k with
  | _ => .int
abbrev wsJ50 : List Cond := u_ws RJ5 TJ5 0
theorem nmJ5 : ∀ a, a < 0 → ∀ b, b < 0 → a ≠ b → (TJ5 a).2.1 ≠ (TJ5 b).2.1 := by decide +kernel
theorem tyJ5_ok : ∀ k, k < 0 → parseFieldDescriptor (TJ5 k).2.2.1 = some (tyJ5 k) := by decide +kernel
abbrev cJ5_init_d00df : ByteArray := prog_23_method_2_code
def yJ5_init_d00df : MethodName := ⟨RJ5, "<init>", "(I)V"⟩
abbrev cJ5_length_8abf5 : ByteArray := prog_23_method_6_code
def yJ5_length_8abf5 : MethodName := ⟨RJ5, "length", "()I"⟩
abbrev cJ5_ensureCapacityInternal_d00df : ByteArray := prog_23_method_9_code
def yJ5_ensureCapacityInternal_d00df : MethodName := ⟨RJ5, "ensureCapacityInternal", "(I)V"⟩
abbrev cJ5_newCapacity_0f7a4 : ByteArray := prog_23_method_10_code
def yJ5_newCapacity_0f7a4 : MethodName := ⟨RJ5, "newCapacity", "(I)I"⟩
abbrev cJ5_inflate_da8c8 : ByteArray := prog_23_method_11_code
def yJ5_inflate_da8c8 : MethodName := ⟨RJ5, "inflate", "()V"⟩
abbrev cJ5_append_cf1ce : ByteArray := prog_23_method_22_code
def yJ5_append_cf1ce : MethodName := ⟨RJ5, "append", "(Ljava/lang/String;)Ljava/lang/AbstractStringBuilder;"⟩
abbrev cJ5_appendNull_278bc : ByteArray := prog_23_method_26_code
def yJ5_appendNull_278bc : MethodName := ⟨RJ5, "appendNull", "()Ljava/lang/AbstractStringBuilder;"⟩
abbrev cJ5_append_c97b9 : ByteArray := prog_23_method_32_code
def yJ5_append_c97b9 : MethodName := ⟨RJ5, "append", "(I)Ljava/lang/AbstractStringBuilder;"⟩
abbrev cJ5_getValue_6d5f1 : ByteArray := prog_23_method_64_code
def yJ5_getValue_6d5f1 : MethodName := ⟨RJ5, "getValue", "()[B"⟩
abbrev cJ5_isLatin1_aae02 : ByteArray := prog_23_method_68_code
def yJ5_isLatin1_aae02 : MethodName := ⟨RJ5, "isLatin1", "()Z"⟩
abbrev cJ5_inflateIfNeededFor_a7421 : ByteArray := prog_23_method_71_code
def yJ5_inflateIfNeededFor_a7421 : MethodName := ⟨RJ5, "inflateIfNeededFor", "(Ljava/lang/String;)V"⟩
abbrev cJ5_putStringAt_47b60 : ByteArray := prog_23_method_73_code
def yJ5_putStringAt_47b60 : MethodName := ⟨RJ5, "putStringAt", "(ILjava/lang/String;)V"⟩
def RJx2cfe8 : String := "java/lang/Appendable"
def TJx2cfe8 : u_T := fun k => match k with
  | _ => ("", "", "", false)
def tyJx2cfe8 : Nat → FieldType := fun k => match k with
  | _ => .int
abbrev wsJx2cfe80 : List Cond := u_ws RJx2cfe8 TJx2cfe8 0
theorem nmJx2cfe8 : ∀ a, a < 0 → ∀ b, b < 0 → a ≠ b → (TJx2cfe8 a).2.1 ≠ (TJx2cfe8 b).2.1 := by decide +kernel
theorem tyJx2cfe8_ok : ∀ k, k < 0 → parseFieldDescriptor (TJx2cfe8 k).2.2.1 = some (tyJx2cfe8 k) := by decide +kernel
def RJx9f9b0 : String := "java/lang/CharSequence"
def TJx9f9b0 : u_T := fun k => match k with
  | _ => ("", "", "", false)
def tyJx9f9b0 : Nat → FieldType := fun k => match k with
  | _ => .int
abbrev wsJx9f9b00 : List Cond := u_ws RJx9f9b0 TJx9f9b0 0
theorem nmJx9f9b0 : ∀ a, a < 0 → ∀ b, b < 0 → a ≠ b → (TJx9f9b0 a).2.1 ≠ (TJx9f9b0 b).2.1 := by decide +kernel
theorem tyJx9f9b0_ok : ∀ k, k < 0 → parseFieldDescriptor (TJx9f9b0 k).2.2.1 = some (tyJx9f9b0 k) := by decide +kernel
def RJx8e188 : String := "java/lang/Cloneable"
def TJx8e188 : u_T := fun k => match k with
  | _ => ("", "", "", false)
def tyJx8e188 : Nat → FieldType := fun k => match k with
  | _ => .int
abbrev wsJx8e1880 : List Cond := u_ws RJx8e188 TJx8e188 0
theorem nmJx8e188 : ∀ a, a < 0 → ∀ b, b < 0 → a ≠ b → (TJx8e188 a).2.1 ≠ (TJx8e188 b).2.1 := by decide +kernel
theorem tyJx8e188_ok : ∀ k, k < 0 → parseFieldDescriptor (TJx8e188 k).2.2.1 = some (tyJx8e188 k) := by decide +kernel
def RJxb160c : String := "java/lang/Comparable"
def TJxb160c : u_T := fun k => match k with
  | _ => ("", "", "", false)
def tyJxb160c : Nat → FieldType := fun k => match k with
  | _ => .int
abbrev wsJxb160c0 : List Cond := u_ws RJxb160c TJxb160c 0
theorem nmJxb160c : ∀ a, a < 0 → ∀ b, b < 0 → a ≠ b → (TJxb160c a).2.1 ≠ (TJxb160c b).2.1 := by decide +kernel
theorem tyJxb160c_ok : ∀ k, k < 0 → parseFieldDescriptor (TJxb160c k).2.2.1 = some (tyJxb160c k) := by decide +kernel
def RJxabbfe : String := "java/lang/Integer$IntegerCache"
def TJxabbfe : u_T := fun k => match k with
  | _ => ("", "", "", false)
def tyJxabbfe : Nat → FieldType := fun k => match k with
  | _ => .int
abbrev wsJxabbfe0 : List Cond := u_ws RJxabbfe TJxabbfe 0
theorem nmJxabbfe : ∀ a, a < 0 → ∀ b, b < 0 → a ≠ b → (TJxabbfe a).2.1 ≠ (TJxabbfe b).2.1 := by decide +kernel
theorem tyJxabbfe_ok : ∀ k, k < 0 → parseFieldDescriptor (TJxabbfe k).2.2.1 = some (tyJxabbfe k) := by decide +kernel
def RJ6 : String := "java/lang/Integer"
def TJ6 : u_T := fun k => match k with
  | _ => ("java/lang/Integer", "value", "I", true)
def tyJ6 : Nat → FieldType := fun k => match k with
  | _ => .int
abbrev wsJ60 : List Cond := u_ws RJ6 TJ6 1
theorem nmJ6 : ∀ a, a < 1 → ∀ b, b < 1 → a ≠ b → (TJ6 a).2.1 ≠ (TJ6 b).2.1 := by decide +kernel
theorem tyJ6_ok : ∀ k, k < 1 → parseFieldDescriptor (TJ6 k).2.2.1 = some (tyJ6 k) := by decide +kernel
abbrev cJ6_getChars_ba4f3 : ByteArray := prog_32_method_12_code
def yJ6_getChars_ba4f3 : MethodName := ⟨RJ6, "getChars", "(II[B)I"⟩
abbrev cJ6_stringSize_0f7a4 : ByteArray := prog_32_method_13_code
def yJ6_stringSize_0f7a4 : MethodName := ⟨RJ6, "stringSize", "(I)I"⟩
abbrev cJ6_valueOf_2dffe : ByteArray := prog_32_method_22_code
def yJ6_valueOf_2dffe : MethodName := ⟨RJ6, "valueOf", "(I)Ljava/lang/Integer;"⟩
abbrev cJ6_init_d00df : ByteArray := prog_32_method_23_code
def yJ6_init_d00df : MethodName := ⟨RJ6, "<init>", "(I)V"⟩
abbrev cJ6_intValue_8abf5 : ByteArray := prog_32_method_27_code
def yJ6_intValue_8abf5 : MethodName := ⟨RJ6, "intValue", "()I"⟩
def RJxab1ab : String := "java/lang/Iterable"
def TJxab1ab : u_T := fun k => match k with
  | _ => ("", "", "", false)
def tyJxab1ab : Nat → FieldType := fun k => match k with
  | _ => .int
abbrev wsJxab1ab0 : List Cond := u_ws RJxab1ab TJxab1ab 0
theorem nmJxab1ab : ∀ a, a < 0 → ∀ b, b < 0 → a ≠ b → (TJxab1ab a).2.1 ≠ (TJxab1ab b).2.1 := by decide +kernel
theorem tyJxab1ab_ok : ∀ k, k < 0 → parseFieldDescriptor (TJxab1ab k).2.2.1 = some (tyJxab1ab k) := by decide +kernel
def RJ9 : String := "java/lang/Math"
def TJ9 : u_T := fun k => match k with
  | _ => ("", "", "", false)
def tyJ9 : Nat → FieldType := fun k => match k with
  | _ => .int
abbrev wsJ90 : List Cond := u_ws RJ9 TJ9 0
theorem nmJ9 : ∀ a, a < 0 → ∀ b, b < 0 → a ≠ b → (TJ9 a).2.1 ≠ (TJ9 b).2.1 := by decide +kernel
theorem tyJ9_ok : ∀ k, k < 0 → parseFieldDescriptor (TJ9 k).2.2.1 = some (tyJ9 k) := by decide +kernel
abbrev cJ9_max_7cf53 : ByteArray := prog_35_method_65_code
def yJ9_max_7cf53 : MethodName := ⟨RJ9, "max", "(II)I"⟩
abbrev cJ9_min_7cf53 : ByteArray := prog_35_method_69_code
def yJ9_min_7cf53 : MethodName := ⟨RJ9, "min", "(II)I"⟩
def RJxd2413 : String := "java/lang/Number"
def TJxd2413 : u_T := fun k => match k with
  | _ => ("", "", "", false)
def tyJxd2413 : Nat → FieldType := fun k => match k with
  | _ => .int
abbrev wsJxd24130 : List Cond := u_ws RJxd2413 TJxd2413 0
theorem nmJxd2413 : ∀ a, a < 0 → ∀ b, b < 0 → a ≠ b → (TJxd2413 a).2.1 ≠ (TJxd2413 b).2.1 := by decide +kernel
theorem tyJxd2413_ok : ∀ k, k < 0 → parseFieldDescriptor (TJxd2413 k).2.2.1 = some (tyJxd2413 k) := by decide +kernel
abbrev cJxd2413_init_da8c8 : ByteArray := prog_36_method_1_code
def yJxd2413_init_da8c8 : MethodName := ⟨RJxd2413, "<init>", "()V"⟩
def RJ0 : String := "java/lang/String"
def TJ0 : u_T := fun k => match k with
  | 0 => ("java/lang/String", "value", "[B", true)
  | 1 => ("java/lang/String", "coder", "B", true)
  | 2 => ("java/lang/String", "hash", "I", false)
  | _ => ("java/lang/String", "hashIsZero", "Z", false)
def tyJ0 : Nat → FieldType := fun k => match k with
  | 0 => .array .byte
  | 1 => .byte
  | 2 => .int
  | _ => .boolean
abbrev wsJ00 : List Cond := u_ws RJ0 TJ0 4
theorem nmJ0 : ∀ a, a < 4 → ∀ b, b < 4 → a ≠ b → (TJ0 a).2.1 ≠ (TJ0 b).2.1 := by decide +kernel
theorem tyJ0_ok : ∀ k, k < 4 → parseFieldDescriptor (TJ0 k).2.2.1 = some (tyJ0 k) := by decide +kernel
abbrev cJ0_init_81219 : ByteArray := prog_38_method_53_code
def yJ0_init_81219 : MethodName := ⟨RJ0, "<init>", "(Ljava/lang/StringBuilder;)V"⟩
abbrev cJ0_length_8abf5 : ByteArray := prog_38_method_54_code
def yJ0_length_8abf5 : MethodName := ⟨RJ0, "length", "()I"⟩
abbrev cJ0_getBytes_840e7 : ByteArray := prog_38_method_147_code
def yJ0_getBytes_840e7 : MethodName := ⟨RJ0, "getBytes", "([BIB)V"⟩
abbrev cJ0_init_db425 : ByteArray := prog_38_method_150_code
def yJ0_init_db425 : MethodName := ⟨RJ0, "<init>", "(Ljava/lang/AbstractStringBuilder;Ljava/lang/Void;)V"⟩
abbrev cJ0_coder_7d493 : ByteArray := prog_38_method_152_code
def yJ0_coder_7d493 : MethodName := ⟨RJ0, "coder", "()B"⟩
abbrev cJ0_checkBoundsOffCount_cabcc : ByteArray := prog_38_method_157_code
def yJ0_checkBoundsOffCount_cabcc : MethodName := ⟨RJ0, "checkBoundsOffCount", "(III)I"⟩
abbrev cJ0_checkBoundsBeginEnd_23922 : ByteArray := prog_38_method_158_code
def yJ0_checkBoundsBeginEnd_23922 : MethodName := ⟨RJ0, "checkBoundsBeginEnd", "(III)V"⟩
def RJ4 : String := "java/lang/StringBuilder"
def TJ4 : u_T := fun k => match k with
  | 0 => ("java/lang/AbstractStringBuilder", "value", "[B", false)
  | 1 => ("java/lang/AbstractStringBuilder", "coder", "B", false)
  | 2 => ("java/lang/AbstractStringBuilder", "maybeLatin1", "Z", false)
  | _ => ("java/lang/AbstractStringBuilder", "count", "I", false)
def tyJ4 : Nat → FieldType := fun k => match k with
  | 0 => .array .byte
  | 1 => .byte
  | 2 => .boolean
  | _ => .int
abbrev wsJ40 : List Cond := u_ws RJ4 TJ4 4
theorem nmJ4 : ∀ a, a < 4 → ∀ b, b < 4 → a ≠ b → (TJ4 a).2.1 ≠ (TJ4 b).2.1 := by decide +kernel
theorem tyJ4_ok : ∀ k, k < 4 → parseFieldDescriptor (TJ4 k).2.2.1 = some (tyJ4 k) := by decide +kernel
abbrev cJ4_init_da8c8 : ByteArray := prog_39_method_1_code
def yJ4_init_da8c8 : MethodName := ⟨RJ4, "<init>", "()V"⟩
abbrev cJ4_append_15ec4 : ByteArray := prog_39_method_7_code
def yJ4_append_15ec4 : MethodName := ⟨RJ4, "append", "(Ljava/lang/String;)Ljava/lang/StringBuilder;"⟩
abbrev cJ4_append_bf812 : ByteArray := prog_39_method_15_code
def yJ4_append_bf812 : MethodName := ⟨RJ4, "append", "(I)Ljava/lang/StringBuilder;"⟩
abbrev cJ4_toString_0e30d : ByteArray := prog_39_method_42_code
def yJ4_toString_0e30d : MethodName := ⟨RJ4, "toString", "()Ljava/lang/String;"⟩
abbrev cJ4_length_8abf5 : ByteArray := prog_39_method_93_code
def yJ4_length_8abf5 : MethodName := ⟨RJ4, "length", "()I"⟩
def RJ1 : String := "java/lang/StringLatin1"
def TJ1 : u_T := fun k => match k with
  | _ => ("", "", "", false)
def tyJ1 : Nat → FieldType := fun k => match k with
  | _ => .int
abbrev wsJ10 : List Cond := u_ws RJ1 TJ1 0
theorem nmJ1 : ∀ a, a < 0 → ∀ b, b < 0 → a ≠ b → (TJ1 a).2.1 ≠ (TJ1 b).2.1 := by decide +kernel
theorem tyJ1_ok : ∀ k, k < 0 → parseFieldDescriptor (TJ1 k).2.2.1 = some (tyJ1 k) := by decide +kernel
abbrev cJ1_inflate_0e8fd : ByteArray := prog_40_method_50_code
def yJ1_inflate_0e8fd : MethodName := ⟨RJ1, "inflate", "([BI[BII)V"⟩
def RJ2 : String := "java/lang/StringUTF16"
def TJ2 : u_T := fun k => match k with
  | _ => ("", "", "", false)
def tyJ2 : Nat → FieldType := fun k => match k with
  | _ => .int
abbrev wsJ20 : List Cond := u_ws RJ2 TJ2 0
theorem nmJ2 : ∀ a, a < 0 → ∀ b, b < 0 → a ≠ b → (TJ2 a).2.1 ≠ (TJ2 b).2.1 := by decide +kernel
theorem tyJ2_ok : ∀ k, k < 0 → parseFieldDescriptor (TJ2 k).2.2.1 = some (tyJ2 k) := by decide +kernel
abbrev cJ2_newBytesFor_77867 : ByteArray := prog_41_method_2_code
def yJ2_newBytesFor_77867 : MethodName := ⟨RJ2, "newBytesFor", "(I)[B"⟩
abbrev cJ2_newBytesLength_0f7a4 : ByteArray := prog_41_method_3_code
def yJ2_newBytesLength_0f7a4 : MethodName := ⟨RJ2, "newBytesLength", "(I)I"⟩
abbrev cJ2_putChar_b72d1 : ByteArray := prog_41_method_4_code
def yJ2_putChar_b72d1 : MethodName := ⟨RJ2, "putChar", "([BII)V"⟩
abbrev cJ2_getChar_3b067 : ByteArray := prog_41_method_5_code
def yJ2_getChar_3b067 : MethodName := ⟨RJ2, "getChar", "([BI)C"⟩
abbrev cJ2_length_9d52b : ByteArray := prog_41_method_6_code
def yJ2_length_9d52b : MethodName := ⟨RJ2, "length", "([B)I"⟩
abbrev cJ2_coderFromArrayLen_85cad : ByteArray := prog_41_method_15_code
def yJ2_coderFromArrayLen_85cad : MethodName := ⟨RJ2, "coderFromArrayLen", "([BI)B"⟩
abbrev cJ2_compress_39247 : ByteArray := prog_41_method_17_code
def yJ2_compress_39247 : MethodName := ⟨RJ2, "compress", "([BII)[B"⟩
abbrev cJ2_compress_5af95 : ByteArray := prog_41_method_22_code
def yJ2_compress_5af95 : MethodName := ⟨RJ2, "compress", "([BI[BII)I"⟩
abbrev cJ2_getChars_46870 : ByteArray := prog_41_method_77_code
def yJ2_getChars_46870 : MethodName := ⟨RJ2, "getChars", "(III[B)I"⟩
abbrev cJ2_putCharsAt_cd4e5 : ByteArray := prog_41_method_81_code
def yJ2_putCharsAt_cd4e5 : MethodName := ⟨RJ2, "putCharsAt", "([BICCCC)I"⟩
abbrev cJ2_inflate_0e8fd : ByteArray := prog_41_method_86_code
def yJ2_inflate_0e8fd : MethodName := ⟨RJ2, "inflate", "([BI[BII)V"⟩
abbrev cJ2_getChars_ba4f3 : ByteArray := prog_41_method_89_code
def yJ2_getChars_ba4f3 : MethodName := ⟨RJ2, "getChars", "(II[B)I"⟩
abbrev cJ2_checkBoundsBeginEnd_d044e : ByteArray := prog_41_method_93_code
def yJ2_checkBoundsBeginEnd_d044e : MethodName := ⟨RJ2, "checkBoundsBeginEnd", "(II[B)V"⟩
abbrev cJ2_checkBoundsOffCount_d044e : ByteArray := prog_41_method_94_code
def yJ2_checkBoundsOffCount_d044e : MethodName := ⟨RJ2, "checkBoundsOffCount", "(II[B)V"⟩
def RJ10 : String := "java/lang/System"
def TJ10 : u_T := fun k => match k with
  | _ => ("", "", "", false)
def tyJ10 : Nat → FieldType := fun k => match k with
  | _ => .int
abbrev wsJ100 : List Cond := u_ws RJ10 TJ10 0
theorem nmJ10 : ∀ a, a < 0 → ∀ b, b < 0 → a ≠ b → (TJ10 a).2.1 ≠ (TJ10 b).2.1 := by decide +kernel
theorem tyJ10_ok : ∀ k, k < 0 → parseFieldDescriptor (TJ10 k).2.2.1 = some (tyJ10 k) := by decide +kernel
def RJxfd54e : String := "java/lang/constant/Constable"
def TJxfd54e : u_T := fun k => match k with
  | _ => ("", "", "", false)
def tyJxfd54e : Nat → FieldType := fun k => match k with
  | _ => .int
abbrev wsJxfd54e0 : List Cond := u_ws RJxfd54e TJxfd54e 0
theorem nmJxfd54e : ∀ a, a < 0 → ∀ b, b < 0 → a ≠ b → (TJxfd54e a).2.1 ≠ (TJxfd54e b).2.1 := by decide +kernel
theorem tyJxfd54e_ok : ∀ k, k < 0 → parseFieldDescriptor (TJxfd54e k).2.2.1 = some (tyJxfd54e k) := by decide +kernel
def RJx3cf43 : String := "java/lang/constant/ConstantDesc"
def TJx3cf43 : u_T := fun k => match k with
  | _ => ("", "", "", false)
def tyJx3cf43 : Nat → FieldType := fun k => match k with
  | _ => .int
abbrev wsJx3cf430 : List Cond := u_ws RJx3cf43 TJx3cf43 0
theorem nmJx3cf43 : ∀ a, a < 0 → ∀ b, b < 0 → a ≠ b → (TJx3cf43 a).2.1 ≠ (TJx3cf43 b).2.1 := by decide +kernel
theorem tyJx3cf43_ok : ∀ k, k < 0 → parseFieldDescriptor (TJx3cf43 k).2.2.1 = some (tyJx3cf43 k) := by decide +kernel
def RJxa1e45 : String := "java/util/AbstractCollection"
def TJxa1e45 : u_T := fun k => match k with
  | _ => ("", "", "", false)
def tyJxa1e45 : Nat → FieldType := fun k => match k with
  | _ => .int
abbrev wsJxa1e450 : List Cond := u_ws RJxa1e45 TJxa1e45 0
theorem nmJxa1e45 : ∀ a, a < 0 → ∀ b, b < 0 → a ≠ b → (TJxa1e45 a).2.1 ≠ (TJxa1e45 b).2.1 := by decide +kernel
theorem tyJxa1e45_ok : ∀ k, k < 0 → parseFieldDescriptor (TJxa1e45 k).2.2.1 = some (tyJxa1e45 k) := by decide +kernel
abbrev cJxa1e45_init_da8c8 : ByteArray := prog_46_method_1_code
def yJxa1e45_init_da8c8 : MethodName := ⟨RJxa1e45, "<init>", "()V"⟩
def RJxc12de : String := "java/util/AbstractList"
def TJxc12de : u_T := fun k => match k with
  | _ => ("", "", "", false)
def tyJxc12de : Nat → FieldType := fun k => match k with
  | _ => .int
abbrev wsJxc12de0 : List Cond := u_ws RJxc12de TJxc12de 0
theorem nmJxc12de : ∀ a, a < 0 → ∀ b, b < 0 → a ≠ b → (TJxc12de a).2.1 ≠ (TJxc12de b).2.1 := by decide +kernel
theorem tyJxc12de_ok : ∀ k, k < 0 → parseFieldDescriptor (TJxc12de k).2.2.1 = some (tyJxc12de k) := by decide +kernel
abbrev cJxc12de_init_da8c8 : ByteArray := prog_47_method_1_code
def yJxc12de_init_da8c8 : MethodName := ⟨RJxc12de, "<init>", "()V"⟩
abbrev cJxc12de_subListRangeCheck_23922 : ByteArray := prog_47_method_15_code
def yJxc12de_subListRangeCheck_23922 : MethodName := ⟨RJxc12de, "subListRangeCheck", "(III)V"⟩
def RJx35411 : String := "java/util/ArrayList$Itr"
def TJx35411 : u_T := fun k => match k with
  | 0 => ("java/util/ArrayList$Itr", "cursor", "I", false)
  | 1 => ("java/util/ArrayList$Itr", "lastRet", "I", false)
  | 2 => ("java/util/ArrayList$Itr", "expectedModCount", "I", false)
  | _ => ("java/util/ArrayList$Itr", "this$0", "Ljava/util/ArrayList;", true)
def tyJx35411 : Nat → FieldType := fun k => match k with
  | 0 => .int
  | 1 => .int
  | 2 => .int
  | _ => .object "java/util/ArrayList"
abbrev wsJx354110 : List Cond := u_ws RJx35411 TJx35411 4
theorem nmJx35411 : ∀ a, a < 4 → ∀ b, b < 4 → a ≠ b → (TJx35411 a).2.1 ≠ (TJx35411 b).2.1 := by decide +kernel
theorem tyJx35411_ok : ∀ k, k < 4 → parseFieldDescriptor (TJx35411 k).2.2.1 = some (tyJx35411 k) := by decide +kernel
abbrev cJx35411_init_45d68 : ByteArray := prog_49_method_1_code
def yJx35411_init_45d68 : MethodName := ⟨RJx35411, "<init>", "(Ljava/util/ArrayList;)V"⟩
abbrev cJx35411_hasNext_aae02 : ByteArray := prog_49_method_2_code
def yJx35411_hasNext_aae02 : MethodName := ⟨RJx35411, "hasNext", "()Z"⟩
abbrev cJx35411_next_0502b : ByteArray := prog_49_method_3_code
def yJx35411_next_0502b : MethodName := ⟨RJx35411, "next", "()Ljava/lang/Object;"⟩
abbrev cJx35411_checkForComodification_da8c8 : ByteArray := prog_49_method_6_code
def yJx35411_checkForComodification_da8c8 : MethodName := ⟨RJx35411, "checkForComodification", "()V"⟩
def RJxc9f04 : String := "java/util/ArrayList$SubList"
def TJxc9f04 : u_T := fun k => match k with
  | 0 => ("java/util/AbstractList", "modCount", "I", false)
  | 1 => ("java/util/ArrayList$SubList", "root", "Ljava/util/ArrayList;", true)
  | 2 => ("java/util/ArrayList$SubList", "parent", "Ljava/util/ArrayList$SubList;", true)
  | 3 => ("java/util/ArrayList$SubList", "offset", "I", true)
  | _ => ("java/util/ArrayList$SubList", "size", "I", false)
def tyJxc9f04 : Nat → FieldType := fun k => match k with
  | 0 => .int
  | 1 => .object "java/util/ArrayList"
  | 2 => .object "java/util/ArrayList$SubList"
  | 3 => .int
  | _ => .int
abbrev wsJxc9f040 : List Cond := u_ws RJxc9f04 TJxc9f04 5
theorem nmJxc9f04 : ∀ a, a < 5 → ∀ b, b < 5 → a ≠ b → (TJxc9f04 a).2.1 ≠ (TJxc9f04 b).2.1 := by decide +kernel
theorem tyJxc9f04_ok : ∀ k, k < 5 → parseFieldDescriptor (TJxc9f04 k).2.2.1 = some (tyJxc9f04 k) := by decide +kernel
abbrev cJxc9f04_init_1a8f5 : ByteArray := prog_50_method_1_code
def yJxc9f04_init_1a8f5 : MethodName := ⟨RJxc9f04, "<init>", "(Ljava/util/ArrayList;II)V"⟩
abbrev cJxc9f04_toArray_d5877 : ByteArray := prog_50_method_16_code
def yJxc9f04_toArray_d5877 : MethodName := ⟨RJxc9f04, "toArray", "()[Ljava/lang/Object;"⟩
abbrev cJxc9f04_checkForComodification_da8c8 : ByteArray := prog_50_method_28_code
def yJxc9f04_checkForComodification_da8c8 : MethodName := ⟨RJxc9f04, "checkForComodification", "()V"⟩
def RJx4a65c : String := "java/util/ArrayList"
def TJx4a65c : u_T := fun k => match k with
  | 0 => ("java/util/AbstractList", "modCount", "I", false)
  | 1 => ("java/util/ArrayList", "elementData", "[Ljava/lang/Object;", false)
  | _ => ("java/util/ArrayList", "size", "I", false)
def tyJx4a65c : Nat → FieldType := fun k => match k with
  | 0 => .int
  | 1 => .array (.object "java/lang/Object")
  | _ => .int
abbrev wsJx4a65c0 : List Cond := u_ws RJx4a65c TJx4a65c 3
theorem nmJx4a65c : ∀ a, a < 3 → ∀ b, b < 3 → a ≠ b → (TJx4a65c a).2.1 ≠ (TJx4a65c b).2.1 := by decide +kernel
theorem tyJx4a65c_ok : ∀ k, k < 3 → parseFieldDescriptor (TJx4a65c k).2.2.1 = some (tyJx4a65c k) := by decide +kernel
abbrev cJx4a65c_init_da8c8 : ByteArray := prog_48_method_2_code
def yJx4a65c_init_da8c8 : MethodName := ⟨RJx4a65c, "<init>", "()V"⟩
abbrev cJx4a65c_init_4bcb3 : ByteArray := prog_48_method_3_code
def yJx4a65c_init_4bcb3 : MethodName := ⟨RJx4a65c, "<init>", "(Ljava/util/Collection;)V"⟩
abbrev cJx4a65c_grow_92f84 : ByteArray := prog_48_method_6_code
def yJx4a65c_grow_92f84 : MethodName := ⟨RJx4a65c, "grow", "(I)[Ljava/lang/Object;"⟩
abbrev cJx4a65c_grow_d5877 : ByteArray := prog_48_method_7_code
def yJx4a65c_grow_d5877 : MethodName := ⟨RJx4a65c, "grow", "()[Ljava/lang/Object;"⟩
abbrev cJx4a65c_size_8abf5 : ByteArray := prog_48_method_8_code
def yJx4a65c_size_8abf5 : MethodName := ⟨RJx4a65c, "size", "()I"⟩
abbrev cJx4a65c_isEmpty_aae02 : ByteArray := prog_48_method_9_code
def yJx4a65c_isEmpty_aae02 : MethodName := ⟨RJx4a65c, "isEmpty", "()Z"⟩
abbrev cJx4a65c_toArray_d5877 : ByteArray := prog_48_method_16_code
def yJx4a65c_toArray_d5877 : MethodName := ⟨RJx4a65c, "toArray", "()[Ljava/lang/Object;"⟩
abbrev cJx4a65c_elementData_915e3 : ByteArray := prog_48_method_18_code
def yJx4a65c_elementData_915e3 : MethodName := ⟨RJx4a65c, "elementData", "(I)Ljava/lang/Object;"⟩
abbrev cJx4a65c_get_915e3 : ByteArray := prog_48_method_20_code
def yJx4a65c_get_915e3 : MethodName := ⟨RJx4a65c, "get", "(I)Ljava/lang/Object;"⟩
abbrev cJx4a65c_add_72be8 : ByteArray := prog_48_method_24_code
def yJx4a65c_add_72be8 : MethodName := ⟨RJx4a65c, "add", "(Ljava/lang/Object;[Ljava/lang/Object;I)V"⟩
abbrev cJx4a65c_add_9ea2d : ByteArray := prog_48_method_25_code
def yJx4a65c_add_9ea2d : MethodName := ⟨RJx4a65c, "add", "(Ljava/lang/Object;)Z"⟩
abbrev cJx4a65c_remove_915e3 : ByteArray := prog_48_method_29_code
def yJx4a65c_remove_915e3 : MethodName := ⟨RJx4a65c, "remove", "(I)Ljava/lang/Object;"⟩
abbrev cJx4a65c_fastRemove_b59b0 : ByteArray := prog_48_method_39_code
def yJx4a65c_fastRemove_b59b0 : MethodName := ⟨RJx4a65c, "fastRemove", "([Ljava/lang/Object;I)V"⟩
abbrev cJx4a65c_addAll_f0b43 : ByteArray := prog_48_method_41_code
def yJx4a65c_addAll_f0b43 : MethodName := ⟨RJx4a65c, "addAll", "(Ljava/util/Collection;)Z"⟩
abbrev cJx4a65c_iterator_32c93 : ByteArray := prog_48_method_55_code
def yJx4a65c_iterator_32c93 : MethodName := ⟨RJx4a65c, "iterator", "()Ljava/util/Iterator;"⟩
abbrev cJx4a65c_subList_8a2a7 : ByteArray := prog_48_method_56_code
def yJx4a65c_subList_8a2a7 : MethodName := ⟨RJx4a65c, "subList", "(II)Ljava/util/List;"⟩
def RJ7 : String := "java/util/Arrays"
def TJ7 : u_T := fun k => match k with
  | _ => ("", "", "", false)
def tyJ7 : Nat → FieldType := fun k => match k with
  | _ => .int
abbrev wsJ70 : List Cond := u_ws RJ7 TJ7 0
theorem nmJ7 : ∀ a, a < 0 → ∀ b, b < 0 → a ≠ b → (TJ7 a).2.1 ≠ (TJ7 b).2.1 := by decide +kernel
theorem tyJ7_ok : ∀ k, k < 0 → parseFieldDescriptor (TJ7 k).2.2.1 = some (tyJ7 k) := by decide +kernel
abbrev cJ7_fill_53178 : ByteArray := prog_51_method_103_code
def yJ7_fill_53178 : MethodName := ⟨RJ7, "fill", "([II)V"⟩
abbrev cJ7_copyOf_1904c : ByteArray := prog_51_method_119_code
def yJ7_copyOf_1904c : MethodName := ⟨RJ7, "copyOf", "([Ljava/lang/Object;I)[Ljava/lang/Object;"⟩
abbrev cJ7_copyOf_6403c : ByteArray := prog_51_method_120_code
def yJ7_copyOf_6403c : MethodName := ⟨RJ7, "copyOf", "([Ljava/lang/Object;ILjava/lang/Class;)[Ljava/lang/Object;"⟩
abbrev cJ7_copyOf_9075b : ByteArray := prog_51_method_121_code
def yJ7_copyOf_9075b : MethodName := ⟨RJ7, "copyOf", "([BI)[B"⟩
abbrev cJ7_copyOf_59c91 : ByteArray := prog_51_method_123_code
def yJ7_copyOf_59c91 : MethodName := ⟨RJ7, "copyOf", "([II)[I"⟩
abbrev cJ7_copyOfRange_5a381 : ByteArray := prog_51_method_129_code
def yJ7_copyOfRange_5a381 : MethodName := ⟨RJ7, "copyOfRange", "([Ljava/lang/Object;II)[Ljava/lang/Object;"⟩
abbrev cJ7_copyOfRange_31eb6 : ByteArray := prog_51_method_130_code
def yJ7_copyOfRange_31eb6 : MethodName := ⟨RJ7, "copyOfRange", "([Ljava/lang/Object;IILjava/lang/Class;)[Ljava/lang/Object;"⟩
abbrev cJ7_checkLength_df160 : ByteArray := prog_51_method_131_code
def yJ7_checkLength_df160 : MethodName := ⟨RJ7, "checkLength", "(II)V"⟩
abbrev cJ7_copyOfRange_39247 : ByteArray := prog_51_method_132_code
def yJ7_copyOfRange_39247 : MethodName := ⟨RJ7, "copyOfRange", "([BII)[B"⟩
abbrev cJ7_copyOfRangeByte_39247 : ByteArray := prog_51_method_133_code
def yJ7_copyOfRangeByte_39247 : MethodName := ⟨RJ7, "copyOfRangeByte", "([BII)[B"⟩
def RJx5ef63 : String := "java/util/Collection"
def TJx5ef63 : u_T := fun k => match k with
  | _ => ("", "", "", false)
def tyJx5ef63 : Nat → FieldType := fun k => match k with
  | _ => .int
abbrev wsJx5ef630 : List Cond := u_ws RJx5ef63 TJx5ef63 0
theorem nmJx5ef63 : ∀ a, a < 0 → ∀ b, b < 0 → a ≠ b → (TJx5ef63 a).2.1 ≠ (TJx5ef63 b).2.1 := by decide +kernel
theorem tyJx5ef63_ok : ∀ k, k < 0 → parseFieldDescriptor (TJx5ef63 k).2.2.1 = some (tyJx5ef63 k) := by decide +kernel
def RJx4d0d8 : String := "java/util/Iterator"
def TJx4d0d8 : u_T := fun k => match k with
  | _ => ("", "", "", false)
def tyJx4d0d8 : Nat → FieldType := fun k => match k with
  | _ => .int
abbrev wsJx4d0d80 : List Cond := u_ws RJx4d0d8 TJx4d0d8 0
theorem nmJx4d0d8 : ∀ a, a < 0 → ∀ b, b < 0 → a ≠ b → (TJx4d0d8 a).2.1 ≠ (TJx4d0d8 b).2.1 := by decide +kernel
theorem tyJx4d0d8_ok : ∀ k, k < 0 → parseFieldDescriptor (TJx4d0d8 k).2.2.1 = some (tyJx4d0d8 k) := by decide +kernel
def RJxbd725 : String := "java/util/List"
def TJxbd725 : u_T := fun k => match k with
  | _ => ("", "", "", false)
def tyJxbd725 : Nat → FieldType := fun k => match k with
  | _ => .int
abbrev wsJxbd7250 : List Cond := u_ws RJxbd725 TJxbd725 0
theorem nmJxbd725 : ∀ a, a < 0 → ∀ b, b < 0 → a ≠ b → (TJxbd725 a).2.1 ≠ (TJxbd725 b).2.1 := by decide +kernel
theorem tyJxbd725_ok : ∀ k, k < 0 → parseFieldDescriptor (TJxbd725 k).2.2.1 = some (tyJxbd725 k) := by decide +kernel
def RJ15 : String := "java/util/Objects"
def TJ15 : u_T := fun k => match k with
  | _ => ("", "", "", false)
def tyJ15 : Nat → FieldType := fun k => match k with
  | _ => .int
abbrev wsJ150 : List Cond := u_ws RJ15 TJ15 0
theorem nmJ15 : ∀ a, a < 0 → ∀ b, b < 0 → a ≠ b → (TJ15 a).2.1 ≠ (TJ15 b).2.1 := by decide +kernel
theorem tyJ15_ok : ∀ k, k < 0 → parseFieldDescriptor (TJ15 k).2.2.1 = some (tyJ15 k) := by decide +kernel
abbrev cJ15_checkIndex_7cf53 : ByteArray := prog_55_method_17_code
def yJ15_checkIndex_7cf53 : MethodName := ⟨RJ15, "checkIndex", "(II)I"⟩
def RJxf0a74 : String := "java/util/RandomAccess"
def TJxf0a74 : u_T := fun k => match k with
  | _ => ("", "", "", false)
def tyJxf0a74 : Nat → FieldType := fun k => match k with
  | _ => .int
abbrev wsJxf0a740 : List Cond := u_ws RJxf0a74 TJxf0a74 0
theorem nmJxf0a74 : ∀ a, a < 0 → ∀ b, b < 0 → a ≠ b → (TJxf0a74 a).2.1 ≠ (TJxf0a74 b).2.1 := by decide +kernel
theorem tyJxf0a74_ok : ∀ k, k < 0 → parseFieldDescriptor (TJxf0a74 k).2.2.1 = some (tyJxf0a74 k) := by decide +kernel
def RJxa66e6 : String := "java/util/SequencedCollection"
def TJxa66e6 : u_T := fun k => match k with
  | _ => ("", "", "", false)
def tyJxa66e6 : Nat → FieldType := fun k => match k with
  | _ => .int
abbrev wsJxa66e60 : List Cond := u_ws RJxa66e6 TJxa66e6 0
theorem nmJxa66e6 : ∀ a, a < 0 → ∀ b, b < 0 → a ≠ b → (TJxa66e6 a).2.1 ≠ (TJxa66e6 b).2.1 := by decide +kernel
theorem tyJxa66e6_ok : ∀ k, k < 0 → parseFieldDescriptor (TJxa66e6 k).2.2.1 = some (tyJxa66e6 k) := by decide +kernel
def RJ8 : String := "jdk/internal/util/ArraysSupport"
def TJ8 : u_T := fun k => match k with
  | _ => ("", "", "", false)
def tyJ8 : Nat → FieldType := fun k => match k with
  | _ => .int
abbrev wsJ80 : List Cond := u_ws RJ8 TJ8 0
theorem nmJ8 : ∀ a, a < 0 → ∀ b, b < 0 → a ≠ b → (TJ8 a).2.1 ≠ (TJ8 b).2.1 := by decide +kernel
theorem tyJ8_ok : ∀ k, k < 0 → parseFieldDescriptor (TJ8 k).2.2.1 = some (tyJ8 k) := by decide +kernel
abbrev cJ8_newLength_cabcc : ByteArray := prog_58_method_27_code
def yJ8_newLength_cabcc : MethodName := ⟨RJ8, "newLength", "(III)I"⟩
abbrev cJ8_hugeLength_7cf53 : ByteArray := prog_58_method_28_code
def yJ8_hugeLength_7cf53 : MethodName := ⟨RJ8, "hugeLength", "(II)I"⟩
def RJ3 : String := "jdk/internal/util/Preconditions"
def TJ3 : u_T := fun k => match k with
  | _ => ("", "", "", false)
def tyJ3 : Nat → FieldType := fun k => match k with
  | _ => .int
abbrev wsJ30 : List Cond := u_ws RJ3 TJ3 0
theorem nmJ3 : ∀ a, a < 0 → ∀ b, b < 0 → a ≠ b → (TJ3 a).2.1 ≠ (TJ3 b).2.1 := by decide +kernel
theorem tyJ3_ok : ∀ k, k < 0 → parseFieldDescriptor (TJ3 k).2.2.1 = some (tyJ3 k) := by decide +kernel
abbrev cJ3_checkIndex_8e157 : ByteArray := prog_59_method_11_code
def yJ3_checkIndex_8e157 : MethodName := ⟨RJ3, "checkIndex", "(IILjava/util/function/BiFunction;)I"⟩
abbrev cJ3_checkFromToIndex_8c36e : ByteArray := prog_59_method_12_code
def yJ3_checkFromToIndex_8c36e : MethodName := ⟨RJ3, "checkFromToIndex", "(IIILjava/util/function/BiFunction;)I"⟩
abbrev cJ3_checkFromIndexSize_8c36e : ByteArray := prog_59_method_13_code
def yJ3_checkFromIndexSize_8c36e : MethodName := ⟨RJ3, "checkFromIndexSize", "(IIILjava/util/function/BiFunction;)I"⟩
def RL : String := "UnwindTowerLaw"
abbrev cL_kind : ByteArray := method_3_code
def yL_kind : MethodName := ⟨RL, "kind", "(LUnwindTower;IZ[J)I"⟩
abbrev cL_ofKind : ByteArray := method_4_code
def yL_ofKind : MethodName := ⟨RL, "ofKind", "(LUnwindTower;II[J)I"⟩
abbrev cL_procedure : ByteArray := method_5_code
def yL_procedure : MethodName := ⟨RL, "procedure", "(LUnwindTower;I[J)I"⟩
abbrev cL_tell : ByteArray := method_6_code
def yL_tell : MethodName := ⟨RL, "tell", "(LUnwindTower;II[J)I"⟩
abbrev cL_ofProcedure : ByteArray := method_7_code
def yL_ofProcedure : MethodName := ⟨RL, "ofProcedure", "(LUnwindTower;II[J)I"⟩
abbrev cL_node : ByteArray := method_8_code
def yL_node : MethodName := ⟨RL, "node", "(LUnwindTower;IIII[J)I"⟩
abbrev cL_body : ByteArray := method_9_code
def yL_body : MethodName := ⟨RL, "body", "(LUnwindTower;II[J)I"⟩
abbrev cL_ofNode : ByteArray := method_10_code
def yL_ofNode : MethodName := ⟨RL, "ofNode", "(LUnwindTower;II[J)I"⟩
abbrev cL_fault : ByteArray := method_11_code
def yL_fault : MethodName := ⟨RL, "fault", "(LUnwindTower;II[J)I"⟩
abbrev cL_code : ByteArray := method_12_code
def yL_code : MethodName := ⟨RL, "code", "(LUnwindTower;III[J)I"⟩
abbrev cL_row : ByteArray := method_13_code
def yL_row : MethodName := ⟨RL, "row", "(LUnwindTower;III[J)I"⟩
abbrev cL_limits : ByteArray := method_14_code
def yL_limits : MethodName := ⟨RL, "limits", "(LUnwindTower;II[J)I"⟩
abbrev cL_run : ByteArray := method_15_code
def yL_run : MethodName := ⟨RL, "run", "(LUnwindTower;[J)I"⟩
abbrev cL_ofRun : ByteArray := method_16_code
def yL_ofRun : MethodName := ⟨RL, "ofRun", "(LUnwindTower;I[J)I"⟩
abbrev cL_printed : ByteArray := method_17_code
def yL_printed : MethodName := ⟨RL, "printed", "(LUnwindTower;II[J)I"⟩
abbrev cL_exception : ByteArray := method_18_code
def yL_exception : MethodName := ⟨RL, "exception", "(LUnwindTower;II[J)I"⟩
abbrev cL_suppressed : ByteArray := method_19_code
def yL_suppressed : MethodName := ⟨RL, "suppressed", "(LUnwindTower;II[J)I"⟩
abbrev cL_trace : ByteArray := method_20_code
def yL_trace : MethodName := ⟨RL, "trace", "(LUnwindTower;II[J)I"⟩
abbrev cL_held : ByteArray := method_21_code
def yL_held : MethodName := ⟨RL, "held", "(LUnwindTower;I[J)I"⟩
abbrev cL_many : ByteArray := method_22_code
def yL_many : MethodName := ⟨RL, "many", "(LUnwindTower;I[J)I"⟩
abbrev cL_wouldRun : ByteArray := method_23_code
def yL_wouldRun : MethodName := ⟨RL, "wouldRun", "(LUnwindTower;III[J)I"⟩
abbrev cL_catcher : ByteArray := method_24_code
def yL_catcher : MethodName := ⟨RL, "catcher", "(LUnwindTower;II[J)I"⟩
abbrev cL_faultsWith : ByteArray := method_25_code
def yL_faultsWith : MethodName := ⟨RL, "faultsWith", "(LUnwindTower;II[J)I"⟩
abbrev cL_law : ByteArray := code
def yL_law : MethodName := ⟨RL, "law", "([I)Z"⟩
abbrev vwCl : List vw_C := [(RJ0, TJ0, 4), (RJ4, TJ4, 4), (RJ6, TJ6, 1), (RJx35411, TJx35411, 4), (RJxc9f04, TJxc9f04, 5), (RJx4a65c, TJx4a65c, 3), (RX0, TX0, 13), (RX1, TX1, 15), (RX2, TX2, 5), (RX3, TX3, 6), (RX4, TX4, 18), (RX5, TX5, 6), (RX6, TX6, 19), (RX7, TX7, 2), (RX8, TX8, 13), (RX9, TX9, 12), (RX10, TX10, 9), (RX11, TX11, 2), (RX12, TX12, 7), (RX13, TX13, 2), (RX14, TX14, 3), (RX15, TX15, 3), (RX16, TX16, 18), (RX17, TX17, 5), (RX18, TX18, 2), (RX19, TX19, 7)]
