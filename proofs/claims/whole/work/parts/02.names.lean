/-! names: printed by the turn (claim/NAMES.whole), and the list of words across the nest -/
def RX0 : String := "QueueBench$Compiler"
def TX0 : u_T := fun k => match k with
  | 0 => ("QueueBench$Compiler", "words", "LQueueBench$Words;", true)
  | 1 => ("QueueBench$Compiler", "program", "LQueueBench$Program;", true)
  | 2 => ("QueueBench$Compiler", "expression", "LQueueBench$Expression;", true)
  | 3 => ("QueueBench$Compiler", "defined", "[Z", true)
  | 4 => ("QueueBench$Compiler", "openers", "[I", true)
  | 5 => ("QueueBench$Compiler", "elses", "[Z", true)
  | 6 => ("QueueBench$Compiler", "lastSteps", "[I", true)
  | 7 => ("QueueBench$Compiler", "depth", "I", false)
  | 8 => ("QueueBench$Compiler", "awaited", "I", false)
  | 9 => ("QueueBench$Compiler", "procedure", "I", false)
  | _ => ("QueueBench$Compiler", "step", "I", false)
def tyX0 : Nat → FieldType := fun k => match k with
  | 0 => .object "QueueBench$Words"
  | 1 => .object "QueueBench$Program"
  | 2 => .object "QueueBench$Expression"
  | 3 => .array .boolean
  | 4 => .array .int
  | 5 => .array .boolean
  | 6 => .array .int
  | 7 => .int
  | 8 => .int
  | 9 => .int
  | _ => .int
abbrev wsX00 : List Cond := u_ws RX0 TX0 11
theorem nmX0 : ∀ a, a < 11 → ∀ b, b < 11 → a ≠ b → (TX0 a).2.1 ≠ (TX0 b).2.1 := by decide +kernel
theorem tyX0_ok : ∀ k, k < 11 → parseFieldDescriptor (TX0 k).2.2.1 = some (tyX0 k) := by decide +kernel
abbrev cX0_init : ByteArray := prog_2_method_1_code
def yX0_init : MethodName := ⟨RX0, "<init>", "(LQueueBench$Text;LQueueBench$Program;)V"⟩
abbrev cX0_firstFault : ByteArray := prog_2_method_2_code
def yX0_firstFault : MethodName := ⟨RX0, "firstFault", "()I"⟩
abbrev cX0_reset : ByteArray := prog_2_method_3_code
def yX0_reset : MethodName := ⟨RX0, "reset", "()V"⟩
abbrev cX0_mayEnd : ByteArray := prog_2_method_4_code
def yX0_mayEnd : MethodName := ⟨RX0, "mayEnd", "()Z"⟩
abbrev cX0_takes : ByteArray := prog_2_method_5_code
def yX0_takes : MethodName := ⟨RX0, "takes", "(C)Z"⟩
abbrev cX0_awaits : ByteArray := prog_2_method_6_code
def yX0_awaits : MethodName := ⟨RX0, "awaits", "(I)Z"⟩
abbrev cX0_awaitsValue : ByteArray := prog_2_method_7_code
def yX0_awaitsValue : MethodName := ⟨RX0, "awaitsValue", "()Z"⟩
abbrev cX0_beginsStatement : ByteArray := prog_2_method_8_code
def yX0_beginsStatement : MethodName := ⟨RX0, "beginsStatement", "(C)Z"⟩
abbrev cX0_takesProcedure : ByteArray := prog_2_method_9_code
def yX0_takesProcedure : MethodName := ⟨RX0, "takesProcedure", "(I)Z"⟩
abbrev cX0_addsStep : ByteArray := prog_2_method_10_code
def yX0_addsStep : MethodName := ⟨RX0, "addsStep", "(CI)Z"⟩
abbrev cX0_linkStep : ByteArray := prog_2_method_11_code
def yX0_linkStep : MethodName := ⟨RX0, "linkStep", "()V"⟩
abbrev cX0_endsExpression : ByteArray := prog_2_method_12_code
def yX0_endsExpression : MethodName := ⟨RX0, "endsExpression", "(C)Z"⟩
abbrev cX0_closesExpression : ByteArray := prog_2_method_13_code
def yX0_closesExpression : MethodName := ⟨RX0, "closesExpression", "(C)Z"⟩
abbrev cX0_opensBlock : ByteArray := prog_2_method_14_code
def yX0_opensBlock : MethodName := ⟨RX0, "opensBlock", "(IZ)Z"⟩
abbrev cX0_closesBlock : ByteArray := prog_2_method_15_code
def yX0_closesBlock : MethodName := ⟨RX0, "closesBlock", "()Z"⟩
abbrev cX0_closeDefinition : ByteArray := prog_2_method_16_code
def yX0_closeDefinition : MethodName := ⟨RX0, "closeDefinition", "()V"⟩
def RX1 : String := "QueueBench$Expression"
def TX1 : u_T := fun k => match k with
  | 0 => ("QueueBench$Expression", "words", "LQueueBench$Words;", true)
  | 1 => ("QueueBench$Expression", "program", "LQueueBench$Program;", true)
  | 2 => ("QueueBench$Expression", "waiting", "[C", true)
  | 3 => ("QueueBench$Expression", "ranks", "[I", true)
  | 4 => ("QueueBench$Expression", "waitingCount", "I", false)
  | 5 => ("QueueBench$Expression", "parentheses", "I", false)
  | 6 => ("QueueBench$Expression", "factors", "I", false)
  | _ => ("QueueBench$Expression", "operandIsDue", "Z", false)
def tyX1 : Nat → FieldType := fun k => match k with
  | 0 => .object "QueueBench$Words"
  | 1 => .object "QueueBench$Program"
  | 2 => .array .char
  | 3 => .array .int
  | 4 => .int
  | 5 => .int
  | 6 => .int
  | _ => .boolean
abbrev wsX10 : List Cond := u_ws RX1 TX1 8
theorem nmX1 : ∀ a, a < 8 → ∀ b, b < 8 → a ≠ b → (TX1 a).2.1 ≠ (TX1 b).2.1 := by decide +kernel
theorem tyX1_ok : ∀ k, k < 8 → parseFieldDescriptor (TX1 k).2.2.1 = some (tyX1 k) := by decide +kernel
abbrev cX1_init : ByteArray := prog_3_method_1_code
def yX1_init : MethodName := ⟨RX1, "<init>", "(LQueueBench$Words;LQueueBench$Program;)V"⟩
abbrev cX1_begin : ByteArray := prog_3_method_2_code
def yX1_begin : MethodName := ⟨RX1, "begin", "()V"⟩
abbrev cX1_goOnWithValue : ByteArray := prog_3_method_3_code
def yX1_goOnWithValue : MethodName := ⟨RX1, "goOnWithValue", "()V"⟩
abbrev cX1_mayEnd : ByteArray := prog_3_method_4_code
def yX1_mayEnd : MethodName := ⟨RX1, "mayEnd", "()Z"⟩
abbrev cX1_end : ByteArray := prog_3_method_5_code
def yX1_end : MethodName := ⟨RX1, "end", "()V"⟩
abbrev cX1_takes : ByteArray := prog_3_method_6_code
def yX1_takes : MethodName := ⟨RX1, "takes", "(C)Z"⟩
abbrev cX1_takesFactor : ByteArray := prog_3_method_7_code
def yX1_takesFactor : MethodName := ⟨RX1, "takesFactor", "(C)Z"⟩
abbrev cX1_opensParenthesis : ByteArray := prog_3_method_8_code
def yX1_opensParenthesis : MethodName := ⟨RX1, "opensParenthesis", "()Z"⟩
abbrev cX1_writesOperand : ByteArray := prog_3_method_9_code
def yX1_writesOperand : MethodName := ⟨RX1, "writesOperand", "(CI)Z"⟩
abbrev cX1_takesOperator : ByteArray := prog_3_method_10_code
def yX1_takesOperator : MethodName := ⟨RX1, "takesOperator", "(C)Z"⟩
abbrev cX1_takesSign : ByteArray := prog_3_method_11_code
def yX1_takesSign : MethodName := ⟨RX1, "takesSign", "(CI)Z"⟩
abbrev cX1_closesParenthesis : ByteArray := prog_3_method_12_code
def yX1_closesParenthesis : MethodName := ⟨RX1, "closesParenthesis", "()Z"⟩
abbrev cX1_holds : ByteArray := prog_3_method_13_code
def yX1_holds : MethodName := ⟨RX1, "holds", "(CI)Z"⟩
abbrev cX1_comparisonWaits : ByteArray := prog_3_method_14_code
def yX1_comparisonWaits : MethodName := ⟨RX1, "comparisonWaits", "()Z"⟩
abbrev cX1_writeDownTo : ByteArray := prog_3_method_15_code
def yX1_writeDownTo : MethodName := ⟨RX1, "writeDownTo", "(I)V"⟩
def RX2 : String := "QueueBench$Input"
def TX2 : u_T := fun k => match k with
  | 0 => ("QueueBench$Input", "values", "[I", true)
  | _ => ("QueueBench$Input", "size", "I", false)
def tyX2 : Nat → FieldType := fun k => match k with
  | 0 => .array .int
  | _ => .int
abbrev wsX20 : List Cond := u_ws RX2 TX2 2
theorem nmX2 : ∀ a, a < 2 → ∀ b, b < 2 → a ≠ b → (TX2 a).2.1 ≠ (TX2 b).2.1 := by decide +kernel
theorem tyX2_ok : ∀ k, k < 2 → parseFieldDescriptor (TX2 k).2.2.1 = some (tyX2 k) := by decide +kernel
abbrev cX2_init : ByteArray := prog_4_method_1_code
def yX2_init : MethodName := ⟨RX2, "<init>", "()V"⟩
abbrev cX2_append : ByteArray := prog_4_method_2_code
def yX2_append : MethodName := ⟨RX2, "append", "(I)V"⟩
def RX3 : String := "QueueBench$Machine"
def TX3 : u_T := fun k => match k with
  | 0 => ("QueueBench$Machine", "program", "LQueueBench$Program;", true)
  | 1 => ("QueueBench$Machine", "input", "LQueueBench$Input;", true)
  | 2 => ("QueueBench$Machine", "outputs", "LQueueBench$Outputs;", true)
  | 3 => ("QueueBench$Machine", "names", "[I", true)
  | 4 => ("QueueBench$Machine", "cells", "[I", true)
  | 5 => ("QueueBench$Machine", "returns", "[I", true)
  | 6 => ("QueueBench$Machine", "operands", "LQueueBench$Operands;", true)
  | 7 => ("QueueBench$Machine", "openCalls", "I", false)
  | 8 => ("QueueBench$Machine", "next", "I", false)
  | 9 => ("QueueBench$Machine", "trouble", "I", false)
  | 10 => ("QueueBench$Machine", "stepsDone", "I", false)
  | 11 => ("QueueBench$Machine", "inputsRead", "I", false)
  | _ => ("QueueBench$Machine", "inputsReadByStep", "I", false)
def tyX3 : Nat → FieldType := fun k => match k with
  | 0 => .object "QueueBench$Program"
  | 1 => .object "QueueBench$Input"
  | 2 => .object "QueueBench$Outputs"
  | 3 => .array .int
  | 4 => .array .int
  | 5 => .array .int
  | 6 => .object "QueueBench$Operands"
  | 7 => .int
  | 8 => .int
  | 9 => .int
  | 10 => .int
  | 11 => .int
  | _ => .int
abbrev wsX30 : List Cond := u_ws RX3 TX3 13
theorem nmX3 : ∀ a, a < 13 → ∀ b, b < 13 → a ≠ b → (TX3 a).2.1 ≠ (TX3 b).2.1 := by decide +kernel
theorem tyX3_ok : ∀ k, k < 13 → parseFieldDescriptor (TX3 k).2.2.1 = some (tyX3 k) := by decide +kernel
abbrev cX3_init : ByteArray := prog_5_method_1_code
def yX3_init : MethodName := ⟨RX3, "<init>", "(LQueueBench$Program;LQueueBench$Input;LQueueBench$Outputs;)V"⟩
abbrev cX3_rewind : ByteArray := prog_5_method_2_code
def yX3_rewind : MethodName := ⟨RX3, "rewind", "()V"⟩
abbrev cX3_condition : ByteArray := prog_5_method_3_code
def yX3_condition : MethodName := ⟨RX3, "condition", "()I"⟩
abbrev cX3_place : ByteArray := prog_5_method_4_code
def yX3_place : MethodName := ⟨RX3, "place", "()I"⟩
abbrev cX3_doSteps : ByteArray := prog_5_method_5_code
def yX3_doSteps : MethodName := ⟨RX3, "doSteps", "(I)I"⟩
abbrev cX3_doStep : ByteArray := prog_5_method_6_code
def yX3_doStep : MethodName := ⟨RX3, "doStep", "()V"⟩
abbrev cX3_workOut : ByteArray := prog_5_method_7_code
def yX3_workOut : MethodName := ⟨RX3, "workOut", "(I)V"⟩
abbrev cX3_workOutSign : ByteArray := prog_5_method_8_code
def yX3_workOutSign : MethodName := ⟨RX3, "workOutSign", "(CI)V"⟩
abbrev cX3_read : ByteArray := prog_5_method_9_code
def yX3_read : MethodName := ⟨RX3, "read", "()V"⟩
abbrev cX3_fetch : ByteArray := prog_5_method_10_code
def yX3_fetch : MethodName := ⟨RX3, "fetch", "()V"⟩
abbrev cX3_lookAtCell : ByteArray := prog_5_method_11_code
def yX3_lookAtCell : MethodName := ⟨RX3, "lookAtCell", "(I)V"⟩
abbrev cX3_join : ByteArray := prog_5_method_12_code
def yX3_join : MethodName := ⟨RX3, "join", "(C)V"⟩
abbrev cX3_joined : ByteArray := prog_5_method_13_code
def yX3_joined : MethodName := ⟨RX3, "joined", "(CII)I"⟩
abbrev cX3_act : ByteArray := prog_5_method_14_code
def yX3_act : MethodName := ⟨RX3, "act", "(I)I"⟩
abbrev cX3_openCall : ByteArray := prog_5_method_15_code
def yX3_openCall : MethodName := ⟨RX3, "openCall", "(I)V"⟩
abbrev cX3_choose : ByteArray := prog_5_method_16_code
def yX3_choose : MethodName := ⟨RX3, "choose", "(I)I"⟩
abbrev cX3_loop : ByteArray := prog_5_method_17_code
def yX3_loop : MethodName := ⟨RX3, "loop", "(I)I"⟩
abbrev cX3_leaveEndedCalls : ByteArray := prog_5_method_18_code
def yX3_leaveEndedCalls : MethodName := ⟨RX3, "leaveEndedCalls", "()V"⟩
def RX4 : String := "QueueBench$Operands"
def TX4 : u_T := fun k => match k with
  | 0 => ("QueueBench$Operands", "values", "[I", true)
  | _ => ("QueueBench$Operands", "height", "I", false)
def tyX4 : Nat → FieldType := fun k => match k with
  | 0 => .array .int
  | _ => .int
abbrev wsX40 : List Cond := u_ws RX4 TX4 2
theorem nmX4 : ∀ a, a < 2 → ∀ b, b < 2 → a ≠ b → (TX4 a).2.1 ≠ (TX4 b).2.1 := by decide +kernel
theorem tyX4_ok : ∀ k, k < 2 → parseFieldDescriptor (TX4 k).2.2.1 = some (tyX4 k) := by decide +kernel
abbrev cX4_init : ByteArray := prog_6_method_1_code
def yX4_init : MethodName := ⟨RX4, "<init>", "()V"⟩
abbrev cX4_push : ByteArray := prog_6_method_2_code
def yX4_push : MethodName := ⟨RX4, "push", "(I)V"⟩
abbrev cX4_pop : ByteArray := prog_6_method_3_code
def yX4_pop : MethodName := ⟨RX4, "pop", "()I"⟩
def RX5 : String := "QueueBench$Outputs"
def TX5 : u_T := fun k => match k with
  | 0 => ("QueueBench$Outputs", "kept", "[I", true)
  | _ => ("QueueBench$Outputs", "total", "I", false)
def tyX5 : Nat → FieldType := fun k => match k with
  | 0 => .array .int
  | _ => .int
abbrev wsX50 : List Cond := u_ws RX5 TX5 2
theorem nmX5 : ∀ a, a < 2 → ∀ b, b < 2 → a ≠ b → (TX5 a).2.1 ≠ (TX5 b).2.1 := by decide +kernel
theorem tyX5_ok : ∀ k, k < 2 → parseFieldDescriptor (TX5 k).2.2.1 = some (tyX5 k) := by decide +kernel
abbrev cX5_init : ByteArray := prog_7_method_1_code
def yX5_init : MethodName := ⟨RX5, "<init>", "()V"⟩
abbrev cX5_append : ByteArray := prog_7_method_2_code
def yX5_append : MethodName := ⟨RX5, "append", "(I)V"⟩
abbrev cX5_keeps : ByteArray := prog_7_method_3_code
def yX5_keeps : MethodName := ⟨RX5, "keeps", "(I)Z"⟩
abbrev cX5_at : ByteArray := prog_7_method_4_code
def yX5_at : MethodName := ⟨RX5, "at", "(I)I"⟩
def RX6 : String := "QueueBench$Program"
def TX6 : u_T := fun k => match k with
  | 0 => ("QueueBench$Program", "kinds", "[C", true)
  | 1 => ("QueueBench$Program", "places", "[I", true)
  | 2 => ("QueueBench$Program", "targets", "[I", true)
  | 3 => ("QueueBench$Program", "parents", "[I", true)
  | 4 => ("QueueBench$Program", "firsts", "[I", true)
  | 5 => ("QueueBench$Program", "seconds", "[I", true)
  | 6 => ("QueueBench$Program", "nexts", "[I", true)
  | 7 => ("QueueBench$Program", "codeEnds", "[I", true)
  | 8 => ("QueueBench$Program", "code", "[C", true)
  | 9 => ("QueueBench$Program", "operands", "[I", true)
  | 10 => ("QueueBench$Program", "entries", "[I", true)
  | 11 => ("QueueBench$Program", "stepCount", "I", false)
  | _ => ("QueueBench$Program", "procedureCount", "I", false)
def tyX6 : Nat → FieldType := fun k => match k with
  | 0 => .array .char
  | 1 => .array .int
  | 2 => .array .int
  | 3 => .array .int
  | 4 => .array .int
  | 5 => .array .int
  | 6 => .array .int
  | 7 => .array .int
  | 8 => .array .char
  | 9 => .array .int
  | 10 => .array .int
  | 11 => .int
  | _ => .int
abbrev wsX60 : List Cond := u_ws RX6 TX6 13
theorem nmX6 : ∀ a, a < 13 → ∀ b, b < 13 → a ≠ b → (TX6 a).2.1 ≠ (TX6 b).2.1 := by decide +kernel
theorem tyX6_ok : ∀ k, k < 13 → parseFieldDescriptor (TX6 k).2.2.1 = some (tyX6 k) := by decide +kernel
abbrev cX6_init : ByteArray := prog_8_method_1_code
def yX6_init : MethodName := ⟨RX6, "<init>", "()V"⟩
abbrev cX6_empty : ByteArray := prog_8_method_2_code
def yX6_empty : MethodName := ⟨RX6, "empty", "()V"⟩
abbrev cX6_addStep : ByteArray := prog_8_method_3_code
def yX6_addStep : MethodName := ⟨RX6, "addStep", "(CIII)I"⟩
abbrev cX6_addCode : ByteArray := prog_8_method_4_code
def yX6_addCode : MethodName := ⟨RX6, "addCode", "(CI)V"⟩
abbrev cX6_codeStart : ByteArray := prog_8_method_5_code
def yX6_codeStart : MethodName := ⟨RX6, "codeStart", "(I)I"⟩
abbrev cX6_isCondition : ByteArray := prog_8_method_6_code
def yX6_isCondition : MethodName := ⟨RX6, "isCondition", "(I)Z"⟩
abbrev cX6_linkBlockEnds : ByteArray := prog_8_method_7_code
def yX6_linkBlockEnds : MethodName := ⟨RX6, "linkBlockEnds", "()V"⟩
abbrev cX6_stepAt : ByteArray := prog_8_method_8_code
def yX6_stepAt : MethodName := ⟨RX6, "stepAt", "(I)I"⟩
def RX7 : String := "QueueBench$TermTable"
def TX7 : u_T := fun k => match k with
  | 0 => ("QueueBench$TermTable", "signs", "[C", true)
  | 1 => ("QueueBench$TermTable", "lefts", "[I", true)
  | 2 => ("QueueBench$TermTable", "rights", "[I", true)
  | 3 => ("QueueBench$TermTable", "operands", "LQueueBench$Operands;", true)
  | _ => ("QueueBench$TermTable", "size", "I", false)
def tyX7 : Nat → FieldType := fun k => match k with
  | 0 => .array .char
  | 1 => .array .int
  | 2 => .array .int
  | 3 => .object "QueueBench$Operands"
  | _ => .int
abbrev wsX70 : List Cond := u_ws RX7 TX7 5
theorem nmX7 : ∀ a, a < 5 → ∀ b, b < 5 → a ≠ b → (TX7 a).2.1 ≠ (TX7 b).2.1 := by decide +kernel
theorem tyX7_ok : ∀ k, k < 5 → parseFieldDescriptor (TX7 k).2.2.1 = some (tyX7 k) := by decide +kernel
abbrev cX7_init : ByteArray := prog_9_method_1_code
def yX7_init : MethodName := ⟨RX7, "<init>", "()V"⟩
abbrev cX7_differentTerms : ByteArray := prog_9_method_2_code
def yX7_differentTerms : MethodName := ⟨RX7, "differentTerms", "(LQueueBench$Program;I)I"⟩
abbrev cX7_addSign : ByteArray := prog_9_method_3_code
def yX7_addSign : MethodName := ⟨RX7, "addSign", "(CI)V"⟩
abbrev cX7_termOf : ByteArray := prog_9_method_4_code
def yX7_termOf : MethodName := ⟨RX7, "termOf", "(CII)I"⟩
abbrev cX7_newTerm : ByteArray := prog_9_method_5_code
def yX7_newTerm : MethodName := ⟨RX7, "newTerm", "(CII)I"⟩
def RX8 : String := "QueueBench$Text"
def TX8 : u_T := fun k => match k with
  | 0 => ("QueueBench$Text", "signs", "[C", true)
  | _ => ("QueueBench$Text", "length", "I", false)
def tyX8 : Nat → FieldType := fun k => match k with
  | 0 => .array .char
  | _ => .int
abbrev wsX80 : List Cond := u_ws RX8 TX8 2
theorem nmX8 : ∀ a, a < 2 → ∀ b, b < 2 → a ≠ b → (TX8 a).2.1 ≠ (TX8 b).2.1 := by decide +kernel
theorem tyX8_ok : ∀ k, k < 2 → parseFieldDescriptor (TX8 k).2.2.1 = some (tyX8 k) := by decide +kernel
abbrev cX8_init : ByteArray := prog_10_method_1_code
def yX8_init : MethodName := ⟨RX8, "<init>", "()V"⟩
abbrev cX8_append : ByteArray := prog_10_method_2_code
def yX8_append : MethodName := ⟨RX8, "append", "(I)V"⟩
abbrev cX8_signAt : ByteArray := prog_10_method_3_code
def yX8_signAt : MethodName := ⟨RX8, "signAt", "(I)C"⟩
abbrev cX8_wordFrom : ByteArray := prog_10_method_4_code
def yX8_wordFrom : MethodName := ⟨RX8, "wordFrom", "(I)I"⟩
abbrev cX8_isBlank : ByteArray := prog_10_method_5_code
def yX8_isBlank : MethodName := ⟨RX8, "isBlank", "(C)Z"⟩
def RX9 : String := "QueueBench$Words"
def TX9 : u_T := fun k => match k with
  | 0 => ("QueueBench$Words", "text", "LQueueBench$Text;", true)
  | 1 => ("QueueBench$Words", "place", "I", false)
  | 2 => ("QueueBench$Words", "behind", "I", false)
  | 3 => ("QueueBench$Words", "sign", "C", false)
  | _ => ("QueueBench$Words", "number", "J", false)
def tyX9 : Nat → FieldType := fun k => match k with
  | 0 => .object "QueueBench$Text"
  | 1 => .int
  | 2 => .int
  | 3 => .char
  | _ => .long
abbrev wsX90 : List Cond := u_ws RX9 TX9 5
theorem nmX9 : ∀ a, a < 5 → ∀ b, b < 5 → a ≠ b → (TX9 a).2.1 ≠ (TX9 b).2.1 := by decide +kernel
theorem tyX9_ok : ∀ k, k < 5 → parseFieldDescriptor (TX9 k).2.2.1 = some (tyX9 k) := by decide +kernel
abbrev cX9_init : ByteArray := prog_11_method_1_code
def yX9_init : MethodName := ⟨RX9, "<init>", "(LQueueBench$Text;)V"⟩
abbrev cX9_toFirst : ByteArray := prog_11_method_2_code
def yX9_toFirst : MethodName := ⟨RX9, "toFirst", "()V"⟩
abbrev cX9_toNext : ByteArray := prog_11_method_3_code
def yX9_toNext : MethodName := ⟨RX9, "toNext", "()V"⟩
abbrev cX9_atEnd : ByteArray := prog_11_method_4_code
def yX9_atEnd : MethodName := ⟨RX9, "atEnd", "()Z"⟩
abbrev cX9_braceFollows : ByteArray := prog_11_method_5_code
def yX9_braceFollows : MethodName := ⟨RX9, "braceFollows", "()Z"⟩
abbrev cX9_isTooGreat : ByteArray := prog_11_method_6_code
def yX9_isTooGreat : MethodName := ⟨RX9, "isTooGreat", "()Z"⟩
abbrev cX9_readNumber : ByteArray := prog_11_method_7_code
def yX9_readNumber : MethodName := ⟨RX9, "readNumber", "()V"⟩
def RX10 : String := "QueueBench"
def TX10 : u_T := fun k => match k with
  | 0 => ("QueueBench", "text", "LQueueBench$Text;", true)
  | 1 => ("QueueBench", "input", "LQueueBench$Input;", true)
  | 2 => ("QueueBench", "program", "LQueueBench$Program;", true)
  | 3 => ("QueueBench", "compiler", "LQueueBench$Compiler;", true)
  | 4 => ("QueueBench", "outputs", "LQueueBench$Outputs;", true)
  | 5 => ("QueueBench", "machine", "LQueueBench$Machine;", true)
  | 6 => ("QueueBench", "termTable", "LQueueBench$TermTable;", true)
  | 7 => ("QueueBench", "hasProgram", "Z", false)
  | _ => ("QueueBench", "started", "Z", false)
def tyX10 : Nat → FieldType := fun k => match k with
  | 0 => .object "QueueBench$Text"
  | 1 => .object "QueueBench$Input"
  | 2 => .object "QueueBench$Program"
  | 3 => .object "QueueBench$Compiler"
  | 4 => .object "QueueBench$Outputs"
  | 5 => .object "QueueBench$Machine"
  | 6 => .object "QueueBench$TermTable"
  | 7 => .boolean
  | _ => .boolean
abbrev wsX100 : List Cond := u_ws RX10 TX10 9
theorem nmX10 : ∀ a, a < 9 → ∀ b, b < 9 → a ≠ b → (TX10 a).2.1 ≠ (TX10 b).2.1 := by decide +kernel
theorem tyX10_ok : ∀ k, k < 9 → parseFieldDescriptor (TX10 k).2.2.1 = some (tyX10 k) := by decide +kernel
abbrev cX10_init : ByteArray := prog_1_method_1_code
def yX10_init : MethodName := ⟨RX10, "<init>", "()V"⟩
abbrev cX10_feed : ByteArray := prog_1_method_2_code
def yX10_feed : MethodName := ⟨RX10, "feed", "(IIIII)I"⟩
abbrev cX10_clear : ByteArray := prog_1_method_3_code
def yX10_clear : MethodName := ⟨RX10, "clear", "()I"⟩
abbrev cX10_compile : ByteArray := prog_1_method_4_code
def yX10_compile : MethodName := ⟨RX10, "compile", "()I"⟩
abbrev cX10_give : ByteArray := prog_1_method_5_code
def yX10_give : MethodName := ⟨RX10, "give", "(I)I"⟩
abbrev cX10_start : ByteArray := prog_1_method_6_code
def yX10_start : MethodName := ⟨RX10, "start", "()V"⟩
abbrev cX10_run : ByteArray := prog_1_method_7_code
def yX10_run : MethodName := ⟨RX10, "run", "(I)I"⟩
abbrev cX10_state : ByteArray := prog_1_method_8_code
def yX10_state : MethodName := ⟨RX10, "state", "(I)I"⟩
abbrev cX10_output : ByteArray := prog_1_method_9_code
def yX10_output : MethodName := ⟨RX10, "output", "(I)I"⟩
abbrev cX10_name : ByteArray := prog_1_method_10_code
def yX10_name : MethodName := ⟨RX10, "name", "(I)I"⟩
abbrev cX10_cell : ByteArray := prog_1_method_11_code
def yX10_cell : MethodName := ⟨RX10, "cell", "(I)I"⟩
abbrev cX10_terms : ByteArray := prog_1_method_12_code
def yX10_terms : MethodName := ⟨RX10, "terms", "(I)I"⟩
abbrev cX10_count : ByteArray := prog_1_method_13_code
def yX10_count : MethodName := ⟨RX10, "count", "(I)I"⟩
abbrev cX10_signsIn : ByteArray := prog_1_method_14_code
def yX10_signsIn : MethodName := ⟨RX10, "signsIn", "(I)I"⟩
abbrev cX10_isCell : ByteArray := prog_1_method_15_code
def yX10_isCell : MethodName := ⟨RX10, "isCell", "(I)Z"⟩
abbrev cX10_isDigit : ByteArray := prog_1_method_16_code
def yX10_isDigit : MethodName := ⟨RX10, "isDigit", "(C)Z"⟩
abbrev cX10_isName : ByteArray := prog_1_method_17_code
def yX10_isName : MethodName := ⟨RX10, "isName", "(C)Z"⟩
abbrev cX10_isProcedure : ByteArray := prog_1_method_18_code
def yX10_isProcedure : MethodName := ⟨RX10, "isProcedure", "(C)Z"⟩
def RX11 : String := "QueueBenchModel"
def TX11 : u_T := fun k => match k with
  | 0 => ("QueueBenchModel", "thrown", "I", false)
  | 1 => ("QueueBenchModel", "signs", "I", false)
  | 2 => ("QueueBenchModel", "text", "[I", true)
  | 3 => ("QueueBenchModel", "words", "I", false)
  | 4 => ("QueueBenchModel", "kinds", "[I", true)
  | 5 => ("QueueBenchModel", "values", "[I", true)
  | 6 => ("QueueBenchModel", "wordPlaces", "[I", true)
  | 7 => ("QueueBenchModel", "at", "I", false)
  | 8 => ("QueueBenchModel", "fault", "I", false)
  | 9 => ("QueueBenchModel", "comes", "I", false)
  | 10 => ("QueueBenchModel", "things", "[I", true)
  | 11 => ("QueueBenchModel", "numbers", "[I", true)
  | 12 => ("QueueBenchModel", "blocks", "I", false)
  | 13 => ("QueueBenchModel", "opened", "I", false)
  | 14 => ("QueueBenchModel", "statements", "I", false)
  | 15 => ("QueueBenchModel", "factors", "I", false)
  | 16 => ("QueueBenchModel", "isProgram", "Z", false)
  | 17 => ("QueueBenchModel", "many", "I", false)
  | 18 => ("QueueBenchModel", "codes", "[I", true)
  | 19 => ("QueueBenchModel", "targets", "[I", true)
  | 20 => ("QueueBenchModel", "froms", "[I", true)
  | 21 => ("QueueBenchModel", "tos", "[I", true)
  | 22 => ("QueueBenchModel", "codePlaces", "[I", true)
  | 23 => ("QueueBenchModel", "termCounts", "[I", true)
  | 24 => ("QueueBenchModel", "placed", "I", false)
  | 25 => ("QueueBenchModel", "marks", "[I", true)
  | 26 => ("QueueBenchModel", "markValues", "[I", true)
  | 27 => ("QueueBenchModel", "procedures", "I", false)
  | 28 => ("QueueBenchModel", "entries", "[I", true)
  | 29 => ("QueueBenchModel", "isDefined", "[Z", true)
  | 30 => ("QueueBenchModel", "terms", "I", false)
  | 31 => ("QueueBenchModel", "termSigns", "[I", true)
  | 32 => ("QueueBenchModel", "firsts", "[I", true)
  | 33 => ("QueueBenchModel", "seconds", "[I", true)
  | 34 => ("QueueBenchModel", "waiting", "I", false)
  | 35 => ("QueueBenchModel", "waits", "[I", true)
  | 36 => ("QueueBenchModel", "isStarted", "Z", false)
  | 37 => ("QueueBenchModel", "here", "I", false)
  | 38 => ("QueueBenchModel", "trouble", "I", false)
  | 39 => ("QueueBenchModel", "done", "I", false)
  | 40 => ("QueueBenchModel", "returns", "I", false)
  | 41 => ("QueueBenchModel", "backs", "[I", true)
  | 42 => ("QueueBenchModel", "names", "[I", true)
  | 43 => ("QueueBenchModel", "cells", "[I", true)
  | 44 => ("QueueBenchModel", "outputs", "I", false)
  | 45 => ("QueueBenchModel", "output", "[I", true)
  | 46 => ("QueueBenchModel", "inputs", "I", false)
  | 47 => ("QueueBenchModel", "input", "[I", true)
  | 48 => ("QueueBenchModel", "reads", "I", false)
  | 49 => ("QueueBenchModel", "newReads", "I", false)
  | 50 => ("QueueBenchModel", "depth", "I", false)
  | _ => ("QueueBenchModel", "row", "[I", true)
def tyX11 : Nat → FieldType := fun k => match k with
  | 0 => .int
  | 1 => .int
  | 2 => .array .int
  | 3 => .int
  | 4 => .array .int
  | 5 => .array .int
  | 6 => .array .int
  | 7 => .int
  | 8 => .int
  | 9 => .int
  | 10 => .array .int
  | 11 => .array .int
  | 12 => .int
  | 13 => .int
  | 14 => .int
  | 15 => .int
  | 16 => .boolean
  | 17 => .int
  | 18 => .array .int
  | 19 => .array .int
  | 20 => .array .int
  | 21 => .array .int
  | 22 => .array .int
  | 23 => .array .int
  | 24 => .int
  | 25 => .array .int
  | 26 => .array .int
  | 27 => .int
  | 28 => .array .int
  | 29 => .array .boolean
  | 30 => .int
  | 31 => .array .int
  | 32 => .array .int
  | 33 => .array .int
  | 34 => .int
  | 35 => .array .int
  | 36 => .boolean
  | 37 => .int
  | 38 => .int
  | 39 => .int
  | 40 => .int
  | 41 => .array .int
  | 42 => .array .int
  | 43 => .array .int
  | 44 => .int
  | 45 => .array .int
  | 46 => .int
  | 47 => .array .int
  | 48 => .int
  | 49 => .int
  | 50 => .int
  | _ => .array .int
abbrev wsX110 : List Cond := u_ws RX11 TX11 52
theorem nmX11 : ∀ a, a < 52 → ∀ b, b < 52 → a ≠ b → (TX11 a).2.1 ≠ (TX11 b).2.1 := by decide +kernel
theorem tyX11_ok : ∀ k, k < 52 → parseFieldDescriptor (TX11 k).2.2.1 = some (tyX11 k) := by decide +kernel
abbrev cX11_init : ByteArray := prog_13_method_1_code
def yX11_init : MethodName := ⟨RX11, "<init>", "()V"⟩
abbrev cX11_thrown : ByteArray := prog_13_method_2_code
def yX11_thrown : MethodName := ⟨RX11, "thrown", "()I"⟩
abbrev cX11_goes : ByteArray := prog_13_method_3_code
def yX11_goes : MethodName := ⟨RX11, "goes", "(ZZ)Z"⟩
abbrev cX11_signsOf : ByteArray := prog_13_method_4_code
def yX11_signsOf : MethodName := ⟨RX11, "signsOf", "(I)I"⟩
abbrev cX11_feedOne : ByteArray := prog_13_method_5_code
def yX11_feedOne : MethodName := ⟨RX11, "feedOne", "(I)V"⟩
abbrev cX11_feed : ByteArray := prog_13_method_6_code
def yX11_feed : MethodName := ⟨RX11, "feed", "(IIIII)I"⟩
abbrev cX11_clear : ByteArray := prog_13_method_7_code
def yX11_clear : MethodName := ⟨RX11, "clear", "()I"⟩
abbrev cX11_isDigit : ByteArray := prog_13_method_8_code
def yX11_isDigit : MethodName := ⟨RX11, "isDigit", "(I)Z"⟩
abbrev cX11_word : ByteArray := prog_13_method_9_code
def yX11_word : MethodName := ⟨RX11, "word", "(III)V"⟩
abbrev cX11_part : ByteArray := prog_13_method_10_code
def yX11_part : MethodName := ⟨RX11, "part", "()V"⟩
abbrev cX11_sees : ByteArray := prog_13_method_11_code
def yX11_sees : MethodName := ⟨RX11, "sees", "(C)Z"⟩
abbrev cX11_fail : ByteArray := prog_13_method_12_code
def yX11_fail : MethodName := ⟨RX11, "fail", "(I)V"⟩
abbrev cX11_come : ByteArray := prog_13_method_13_code
def yX11_come : MethodName := ⟨RX11, "come", "(II)V"⟩
abbrev cX11_code : ByteArray := prog_13_method_14_code
def yX11_code : MethodName := ⟨RX11, "code", "(III)I"⟩
abbrev cX11_term : ByteArray := prog_13_method_15_code
def yX11_term : MethodName := ⟨RX11, "term", "(III)I"⟩
abbrev cX11_put : ByteArray := prog_13_method_16_code
def yX11_put : MethodName := ⟨RX11, "put", "(II)V"⟩
abbrev cX11_statement : ByteArray := prog_13_method_17_code
def yX11_statement : MethodName := ⟨RX11, "statement", "()V"⟩
abbrev cX11_outer : ByteArray := prog_13_method_18_code
def yX11_outer : MethodName := ⟨RX11, "outer", "()V"⟩
abbrev cX11_factor : ByteArray := prog_13_method_19_code
def yX11_factor : MethodName := ⟨RX11, "factor", "()V"⟩
abbrev cX11_joined : ByteArray := prog_13_method_20_code
def yX11_joined : MethodName := ⟨RX11, "joined", "(ZII)V"⟩
abbrev cX11_expect : ByteArray := prog_13_method_21_code
def yX11_expect : MethodName := ⟨RX11, "expect", "(C)V"⟩
abbrev cX11_doOuter : ByteArray := prog_13_method_22_code
def yX11_doOuter : MethodName := ⟨RX11, "doOuter", "(II)V"⟩
abbrev cX11_doInner : ByteArray := prog_13_method_23_code
def yX11_doInner : MethodName := ⟨RX11, "doInner", "(II)V"⟩
abbrev cX11_compile : ByteArray := prog_13_method_24_code
def yX11_compile : MethodName := ⟨RX11, "compile", "()I"⟩
abbrev cX11_give : ByteArray := prog_13_method_25_code
def yX11_give : MethodName := ⟨RX11, "give", "(I)I"⟩
abbrev cX11_settle : ByteArray := prog_13_method_26_code
def yX11_settle : MethodName := ⟨RX11, "settle", "()V"⟩
abbrev cX11_start : ByteArray := prog_13_method_27_code
def yX11_start : MethodName := ⟨RX11, "start", "()V"⟩
abbrev cX11_isCell : ByteArray := prog_13_method_28_code
def yX11_isCell : MethodName := ⟨RX11, "isCell", "(I)Z"⟩
abbrev cX11_joinedValue : ByteArray := prog_13_method_29_code
def yX11_joinedValue : MethodName := ⟨RX11, "joinedValue", "(III)I"⟩
abbrev cX11_work : ByteArray := prog_13_method_30_code
def yX11_work : MethodName := ⟨RX11, "work", "(II)I"⟩
abbrev cX11_workOut : ByteArray := prog_13_method_31_code
def yX11_workOut : MethodName := ⟨RX11, "workOut", "(I)I"⟩
abbrev cX11_effect : ByteArray := prog_13_method_32_code
def yX11_effect : MethodName := ⟨RX11, "effect", "(I)V"⟩
abbrev cX11_run : ByteArray := prog_13_method_33_code
def yX11_run : MethodName := ⟨RX11, "run", "(I)I"⟩
abbrev cX11_state : ByteArray := prog_13_method_34_code
def yX11_state : MethodName := ⟨RX11, "state", "(I)I"⟩
abbrev cX11_output : ByteArray := prog_13_method_35_code
def yX11_output : MethodName := ⟨RX11, "output", "(I)I"⟩
abbrev cX11_name : ByteArray := prog_13_method_36_code
def yX11_name : MethodName := ⟨RX11, "name", "(I)I"⟩
abbrev cX11_cell : ByteArray := prog_13_method_37_code
def yX11_cell : MethodName := ⟨RX11, "cell", "(I)I"⟩
abbrev cX11_terms : ByteArray := prog_13_method_38_code
def yX11_terms : MethodName := ⟨RX11, "terms", "(I)I"⟩
abbrev cX11_count : ByteArray := prog_13_method_39_code
def yX11_count : MethodName := ⟨RX11, "count", "(I)I"⟩
def RJ0 : String := "java/lang/String"
def TJ0 : u_T := fun k => match k with
  | _ => ("", "", "", false)
def tyJ0 : Nat → FieldType := fun k => match k with
  | _ => .int
abbrev wsJ00 : List Cond := u_ws RJ0 TJ0 0
theorem nmJ0 : ∀ a, a < 0 → ∀ b, b < 0 → a ≠ b → (TJ0 a).2.1 ≠ (TJ0 b).2.1 := by decide +kernel
theorem tyJ0_ok : ∀ k, k < 0 → parseFieldDescriptor (TJ0 k).2.2.1 = some (tyJ0 k) := by decide +kernel
def RJ7 : String := "java/util/Arrays"
def TJ7 : u_T := fun k => match k with
  | _ => ("", "", "", false)
def tyJ7 : Nat → FieldType := fun k => match k with
  | _ => .int
abbrev wsJ70 : List Cond := u_ws RJ7 TJ7 0
theorem nmJ7 : ∀ a, a < 0 → ∀ b, b < 0 → a ≠ b → (TJ7 a).2.1 ≠ (TJ7 b).2.1 := by decide +kernel
theorem tyJ7_ok : ∀ k, k < 0 → parseFieldDescriptor (TJ7 k).2.2.1 = some (tyJ7 k) := by decide +kernel
abbrev cJ7_fill_53178 : ByteArray := prog_20_method_103_code
def yJ7_fill_53178 : MethodName := ⟨RJ7, "fill", "([II)V"⟩
def RL : String := "QueueBenchLaw"
abbrev cL_feed : ByteArray := method_3_code
def yL_feed : MethodName := ⟨RL, "feed", "(LQueueBench;IIIII[J)I"⟩
abbrev cL_give : ByteArray := method_4_code
def yL_give : MethodName := ⟨RL, "give", "(LQueueBench;I[J)I"⟩
abbrev cL_start : ByteArray := method_5_code
def yL_start : MethodName := ⟨RL, "start", "(LQueueBench;)I"⟩
abbrev cL_run : ByteArray := method_6_code
def yL_run : MethodName := ⟨RL, "run", "(LQueueBench;I[J)I"⟩
abbrev cL_state : ByteArray := method_7_code
def yL_state : MethodName := ⟨RL, "state", "(LQueueBench;I[J)I"⟩
abbrev cL_output : ByteArray := method_8_code
def yL_output : MethodName := ⟨RL, "output", "(LQueueBench;I[J)I"⟩
abbrev cL_name : ByteArray := method_9_code
def yL_name : MethodName := ⟨RL, "name", "(LQueueBench;I[J)I"⟩
abbrev cL_cell : ByteArray := method_10_code
def yL_cell : MethodName := ⟨RL, "cell", "(LQueueBench;I[J)I"⟩
abbrev cL_terms : ByteArray := method_11_code
def yL_terms : MethodName := ⟨RL, "terms", "(LQueueBench;I[J)I"⟩
abbrev cL_count : ByteArray := method_12_code
def yL_count : MethodName := ⟨RL, "count", "(LQueueBench;I[J)I"⟩
abbrev cL_law : ByteArray := code
def yL_law : MethodName := ⟨RL, "law", "([I)Z"⟩
abbrev vwCl : List vw_C := [(RX0, TX0, 11), (RX1, TX1, 8), (RX2, TX2, 2), (RX3, TX3, 13), (RX4, TX4, 2), (RX5, TX5, 2), (RX6, TX6, 13), (RX7, TX7, 5), (RX8, TX8, 2), (RX9, TX9, 5), (RX10, TX10, 9), (RX11, TX11, 52)]
def nestW : List Cond := [
  (Cond.methodLinkNest "QueueBench" (11 : Nat) ({ cls := "QueueBench$Text", name := "<init>", desc := "()V" } : MethodName) "QueueBench"),
  (Cond.fieldLinkNest "QueueBench" (66 : Nat) "QueueBench$Text" "length" "I" "QueueBench"),
  (Cond.fieldLinkNest "QueueBench$Words" (52 : Nat) "QueueBench$Text" "length" "I" "QueueBench"),
  (Cond.methodLinkNest "QueueBench" (18 : Nat) ({ cls := "QueueBench$Input", name := "<init>", desc := "()V" } : MethodName) "QueueBench"),
  (Cond.fieldLinkNest "QueueBench$Machine" (142 : Nat) "QueueBench$Input" "values" "[I" "QueueBench"),
  (Cond.fieldLinkNest "QueueBench" (92 : Nat) "QueueBench$Input" "size" "I" "QueueBench"),
  (Cond.fieldLinkNest "QueueBench$Machine" (137 : Nat) "QueueBench$Input" "size" "I" "QueueBench"),
  (Cond.methodLinkNest "QueueBench" (25 : Nat) ({ cls := "QueueBench$Program", name := "<init>", desc := "()V" } : MethodName) "QueueBench"),
  (Cond.fieldLinkNest "QueueBench$Machine" (82 : Nat) "QueueBench$Program" "kinds" "[C" "QueueBench"),
  (Cond.fieldLinkNest "QueueBench$Compiler" (170 : Nat) "QueueBench$Program" "kinds" "[C" "QueueBench"),
  (Cond.fieldLinkNest "QueueBench$Machine" (72 : Nat) "QueueBench$Program" "places" "[I" "QueueBench"),
  (Cond.fieldLinkNest "QueueBench$Machine" (151 : Nat) "QueueBench$Program" "targets" "[I" "QueueBench"),
  (Cond.fieldLinkNest "QueueBench$Compiler" (161 : Nat) "QueueBench$Program" "firsts" "[I" "QueueBench"),
  (Cond.fieldLinkNest "QueueBench$Machine" (169 : Nat) "QueueBench$Program" "firsts" "[I" "QueueBench"),
  (Cond.fieldLinkNest "QueueBench$Compiler" (158 : Nat) "QueueBench$Program" "seconds" "[I" "QueueBench"),
  (Cond.fieldLinkNest "QueueBench$Machine" (172 : Nat) "QueueBench$Program" "seconds" "[I" "QueueBench"),
  (Cond.fieldLinkNest "QueueBench$Compiler" (152 : Nat) "QueueBench$Program" "nexts" "[I" "QueueBench"),
  (Cond.fieldLinkNest "QueueBench$Machine" (154 : Nat) "QueueBench$Program" "nexts" "[I" "QueueBench"),
  (Cond.fieldLinkNest "QueueBench$TermTable" (36 : Nat) "QueueBench$Program" "codeEnds" "[I" "QueueBench"),
  (Cond.fieldLinkNest "QueueBench$Machine" (105 : Nat) "QueueBench$Program" "codeEnds" "[I" "QueueBench"),
  (Cond.fieldLinkNest "QueueBench$TermTable" (45 : Nat) "QueueBench$Program" "code" "[C" "QueueBench"),
  (Cond.fieldLinkNest "QueueBench$Machine" (111 : Nat) "QueueBench$Program" "code" "[C" "QueueBench"),
  (Cond.fieldLinkNest "QueueBench$TermTable" (48 : Nat) "QueueBench$Program" "operands" "[I" "QueueBench"),
  (Cond.fieldLinkNest "QueueBench$Machine" (114 : Nat) "QueueBench$Program" "operands" "[I" "QueueBench"),
  (Cond.fieldLinkNest "QueueBench$Machine" (55 : Nat) "QueueBench$Program" "entries" "[I" "QueueBench"),
  (Cond.fieldLinkNest "QueueBench$Compiler" (155 : Nat) "QueueBench$Program" "entries" "[I" "QueueBench"),
  (Cond.fieldLinkNest "QueueBench$Compiler" (136 : Nat) "QueueBench$Program" "stepCount" "I" "QueueBench"),
  (Cond.fieldLinkNest "QueueBench" (165 : Nat) "QueueBench$Program" "stepCount" "I" "QueueBench"),
  (Cond.fieldLinkNest "QueueBench" (168 : Nat) "QueueBench$Program" "procedureCount" "I" "QueueBench"),
  (Cond.fieldLinkNest "QueueBench$Compiler" (177 : Nat) "QueueBench$Program" "procedureCount" "I" "QueueBench"),
  (Cond.fieldLinkNest "QueueBench$Compiler" (71 : Nat) "QueueBench$Words" "place" "I" "QueueBench"),
  (Cond.fieldLinkNest "QueueBench$Compiler" (57 : Nat) "QueueBench$Words" "sign" "C" "QueueBench"),
  (Cond.fieldLinkNest "QueueBench$Expression" (68 : Nat) "QueueBench$Words" "number" "J" "QueueBench"),
  (Cond.methodLinkNest "QueueBench" (41 : Nat) ({ cls := "QueueBench$Outputs", name := "<init>", desc := "()V" } : MethodName) "QueueBench"),
  (Cond.fieldLinkNest "QueueBench$Machine" (46 : Nat) "QueueBench$Outputs" "total" "I" "QueueBench"),
  (Cond.fieldLinkNest "QueueBench" (121 : Nat) "QueueBench$Outputs" "total" "I" "QueueBench"),
  (Cond.methodLinkNest "QueueBench$Machine" (23 : Nat) ({ cls := "QueueBench$Operands", name := "<init>", desc := "()V" } : MethodName) "QueueBench"),
  (Cond.fieldLinkNest "QueueBench$Machine" (86 : Nat) "QueueBench$Operands" "values" "[I" "QueueBench"),
  (Cond.fieldLinkNest "QueueBench$TermTable" (33 : Nat) "QueueBench$Operands" "height" "I" "QueueBench"),
  (Cond.fieldLinkNest "QueueBench$Machine" (102 : Nat) "QueueBench$Operands" "height" "I" "QueueBench"),
  (Cond.fieldLinkNest "QueueBench" (144 : Nat) "QueueBench$Machine" "names" "[I" "QueueBench"),
  (Cond.fieldLinkNest "QueueBench" (153 : Nat) "QueueBench$Machine" "cells" "[I" "QueueBench"),
  (Cond.fieldLinkNest "QueueBench" (118 : Nat) "QueueBench$Machine" "stepsDone" "I" "QueueBench"),
  (Cond.fieldLinkNest "QueueBench" (124 : Nat) "QueueBench$Machine" "inputsRead" "I" "QueueBench"),
  (Cond.methodLinkNest "QueueBench" (57 : Nat) ({ cls := "QueueBench$TermTable", name := "<init>", desc := "()V" } : MethodName) "QueueBench"),
  (Cond.methodLinkNest "QueueBench$TermTable" (24 : Nat) ({ cls := "QueueBench$Operands", name := "<init>", desc := "()V" } : MethodName) "QueueBench"),
  (Cond.methodLinkNest "QueueBench$Words" (39 : Nat) ({ cls := "QueueBench", name := "isDigit", desc := "(C)Z" } : MethodName) "QueueBench"),
  (Cond.methodLinkNest "QueueBench$Compiler" (117 : Nat) ({ cls := "QueueBench", name := "isProcedure", desc := "(C)Z" } : MethodName) "QueueBench"),
  (Cond.methodLinkNest "QueueBench$Compiler" (123 : Nat) ({ cls := "QueueBench", name := "isName", desc := "(C)Z" } : MethodName) "QueueBench"),
  (Cond.methodLinkNest "QueueBench$Expression" (72 : Nat) ({ cls := "QueueBench", name := "isName", desc := "(C)Z" } : MethodName) "QueueBench"),
  (Cond.methodLinkNest "QueueBench$Machine" (143 : Nat) ({ cls := "QueueBench", name := "isCell", desc := "(I)Z" } : MethodName) "QueueBench")]
