def RX0 : String := "BranchSlotFiller$1"
def TX0 : u_T := fun k => match k with
  | _ => ("", "", "", false)
def tyX0 : Nat → FieldType := fun k => match k with
  | _ => .int
theorem nmX0 : ∀ a, a < 0 → ∀ b, b < 0 → a ≠ b → (TX0 a).2.1 ≠ (TX0 b).2.1 := by decide +kernel
theorem tyX0_ok : ∀ k, k < 0 → parseFieldDescriptor (TX0 k).2.2.1 = some (tyX0 k) := by decide +kernel
def RX1 : String := "BranchSlotFiller$Filler"
def TX1 : u_T := fun k => match k with
  | 0 => ("BranchSlotFiller$Filler", "program", "LBranchSlotFiller$Program;", true)
  | _ => ("BranchSlotFiller$Filler", "flow", "LBranchSlotFiller$Flow;", true)
def tyX1 : Nat → FieldType := fun k => match k with
  | 0 => .object "BranchSlotFiller$Program"
  | _ => .object "BranchSlotFiller$Flow"
theorem nmX1 : ∀ a, a < 2 → ∀ b, b < 2 → a ≠ b → (TX1 a).2.1 ≠ (TX1 b).2.1 := by decide +kernel
theorem tyX1_ok : ∀ k, k < 2 → parseFieldDescriptor (TX1 k).2.2.1 = some (tyX1 k) := by decide +kernel
abbrev cX1_init : ByteArray := prog_3_method_1_code
def yX1_init : MethodName := ⟨RX1, "<init>", "(LBranchSlotFiller$Program;LBranchSlotFiller$Flow;)V"⟩
abbrev cX1_find : ByteArray := prog_3_method_2_code
def yX1_find : MethodName := ⟨RX1, "find", "(II)I"⟩
abbrev cX1_findBefore : ByteArray := prog_3_method_3_code
def yX1_findBefore : MethodName := ⟨RX1, "findBefore", "(I)I"⟩
abbrev cX1_canPass : ByteArray := prog_3_method_4_code
def yX1_canPass : MethodName := ⟨RX1, "canPass", "(II)Z"⟩
abbrev cX1_findAtTarget : ByteArray := prog_3_method_5_code
def yX1_findAtTarget : MethodName := ⟨RX1, "findAtTarget", "(I)I"⟩
abbrev cX1_findInFallThrough : ByteArray := prog_3_method_6_code
def yX1_findInFallThrough : MethodName := ⟨RX1, "findInFallThrough", "(I)I"⟩
abbrev cX1_move : ByteArray := prog_3_method_7_code
def yX1_move : MethodName := ⟨RX1, "move", "(III)I"⟩
abbrev cX1_fillEach : ByteArray := prog_3_method_8_code
def yX1_fillEach : MethodName := ⟨RX1, "fillEach", "(II)I"⟩
def RX2 : String := "BranchSlotFiller$Flow"
def TX2 : u_T := fun k => match k with
  | 0 => ("BranchSlotFiller$Flow", "program", "LBranchSlotFiller$Program;", true)
  | 1 => ("BranchSlotFiller$Flow", "live", "[I", true)
  | 2 => ("BranchSlotFiller$Flow", "read", "[I", true)
  | 3 => ("BranchSlotFiller$Flow", "written", "[I", true)
  | _ => ("BranchSlotFiller$Flow", "isReached", "[Z", true)
def tyX2 : Nat → FieldType := fun k => match k with
  | 0 => .object "BranchSlotFiller$Program"
  | 1 => .array .int
  | 2 => .array .int
  | 3 => .array .int
  | _ => .array .boolean
theorem nmX2 : ∀ a, a < 5 → ∀ b, b < 5 → a ≠ b → (TX2 a).2.1 ≠ (TX2 b).2.1 := by decide +kernel
theorem tyX2_ok : ∀ k, k < 5 → parseFieldDescriptor (TX2 k).2.2.1 = some (tyX2 k) := by decide +kernel
abbrev cX2_init : ByteArray := prog_4_method_1_code
def yX2_init : MethodName := ⟨RX2, "<init>", "(LBranchSlotFiller$Program;)V"⟩
abbrev cX2_liveBefore : ByteArray := prog_4_method_2_code
def yX2_liveBefore : MethodName := ⟨RX2, "liveBefore", "(I)I"⟩
abbrev cX2_liveFromFollowing : ByteArray := prog_4_method_3_code
def yX2_liveFromFollowing : MethodName := ⟨RX2, "liveFromFollowing", "(I)I"⟩
abbrev cX2_liveThrough : ByteArray := prog_4_method_4_code
def yX2_liveThrough : MethodName := ⟨RX2, "liveThrough", "(II)I"⟩
abbrev cX2_unreachable : ByteArray := prog_4_method_5_code
def yX2_unreachable : MethodName := ⟨RX2, "unreachable", "()I"⟩
abbrev cX2_growReached : ByteArray := prog_4_method_6_code
def yX2_growReached : MethodName := ⟨RX2, "growReached", "()Z"⟩
abbrev cX2_reach : ByteArray := prog_4_method_7_code
def yX2_reach : MethodName := ⟨RX2, "reach", "(I)Z"⟩
def RX3 : String := "BranchSlotFiller$History"
def TX3 : u_T := fun k => match k with
  | 0 => ("BranchSlotFiller$History", "forms", "[LBranchSlotFiller$Program;", true)
  | 1 => ("BranchSlotFiller$History", "next", "I", false)
  | _ => ("BranchSlotFiller$History", "changes", "I", false)
def tyX3 : Nat → FieldType := fun k => match k with
  | 0 => .array (.object "BranchSlotFiller$Program")
  | 1 => .int
  | _ => .int
theorem nmX3 : ∀ a, a < 3 → ∀ b, b < 3 → a ≠ b → (TX3 a).2.1 ≠ (TX3 b).2.1 := by decide +kernel
theorem tyX3_ok : ∀ k, k < 3 → parseFieldDescriptor (TX3 k).2.2.1 = some (tyX3 k) := by decide +kernel
abbrev cX3_init : ByteArray := prog_5_method_1_code
def yX3_init : MethodName := ⟨RX3, "<init>", "()V"⟩
abbrev cX3_remember : ByteArray := prog_5_method_2_code
def yX3_remember : MethodName := ⟨RX3, "remember", "(LBranchSlotFiller$Program;)V"⟩
abbrev cX3_takeBack : ByteArray := prog_5_method_3_code
def yX3_takeBack : MethodName := ⟨RX3, "takeBack", "(LBranchSlotFiller$Program;)V"⟩
def RX4 : String := "BranchSlotFiller$Kind"
def TX4 : u_T := fun k => match k with
  | _ => ("", "", "", false)
def tyX4 : Nat → FieldType := fun k => match k with
  | _ => .int
theorem nmX4 : ∀ a, a < 0 → ∀ b, b < 0 → a ≠ b → (TX4 a).2.1 ≠ (TX4 b).2.1 := by decide +kernel
theorem tyX4_ok : ∀ k, k < 0 → parseFieldDescriptor (TX4 k).2.2.1 = some (tyX4 k) := by decide +kernel
abbrev cX4_sign : ByteArray := prog_6_method_4_code
def yX4_sign : MethodName := ⟨RX4, "sign", "(I)C"⟩
abbrev cX4_isMemoryAccess : ByteArray := prog_6_method_5_code
def yX4_isMemoryAccess : MethodName := ⟨RX4, "isMemoryAccess", "()Z"⟩
abbrev cX4_canFill : ByteArray := prog_6_method_6_code
def yX4_canFill : MethodName := ⟨RX4, "canFill", "()Z"⟩
def RX5 : String := "BranchSlotFiller$Machine"
def TX5 : u_T := fun k => match k with
  | 0 => ("BranchSlotFiller$Machine", "values", "[I", true)
  | 1 => ("BranchSlotFiller$Machine", "output", "[I", true)
  | 2 => ("BranchSlotFiller$Machine", "outputSize", "I", false)
  | _ => ("BranchSlotFiller$Machine", "steps", "I", false)
def tyX5 : Nat → FieldType := fun k => match k with
  | 0 => .array .int
  | 1 => .array .int
  | 2 => .int
  | _ => .int
theorem nmX5 : ∀ a, a < 4 → ∀ b, b < 4 → a ≠ b → (TX5 a).2.1 ≠ (TX5 b).2.1 := by decide +kernel
theorem tyX5_ok : ∀ k, k < 4 → parseFieldDescriptor (TX5 k).2.2.1 = some (tyX5 k) := by decide +kernel
abbrev cX5_init : ByteArray := prog_7_method_1_code
def yX5_init : MethodName := ⟨RX5, "<init>", "(I)V"⟩
abbrev cX5_executes : ByteArray := prog_7_method_2_code
def yX5_executes : MethodName := ⟨RX5, "executes", "(LBranchSlotFiller$Program;Z[II)Z"⟩
abbrev cX5_conditionHolds : ByteArray := prog_7_method_3_code
def yX5_conditionHolds : MethodName := ⟨RX5, "conditionHolds", "(LBranchSlotFiller$Program;I)Z"⟩
abbrev cX5_perform : ByteArray := prog_7_method_4_code
def yX5_perform : MethodName := ⟨RX5, "perform", "(LBranchSlotFiller$Program;I)V"⟩
abbrev cX5_cellPlace : ByteArray := prog_7_method_5_code
def yX5_cellPlace : MethodName := ⟨RX5, "cellPlace", "(II)I"⟩
abbrev cX5_hasEffectsOf : ByteArray := prog_7_method_6_code
def yX5_hasEffectsOf : MethodName := ⟨RX5, "hasEffectsOf", "(LBranchSlotFiller$Machine;)Z"⟩
def RX6 : String := "BranchSlotFiller$Program"
def TX6 : u_T := fun k => match k with
  | 0 => ("BranchSlotFiller$Program", "parts", "[I", true)
  | _ => ("BranchSlotFiller$Program", "size", "I", false)
def tyX6 : Nat → FieldType := fun k => match k with
  | 0 => .array .int
  | _ => .int
theorem nmX6 : ∀ a, a < 2 → ∀ b, b < 2 → a ≠ b → (TX6 a).2.1 ≠ (TX6 b).2.1 := by decide +kernel
theorem tyX6_ok : ∀ k, k < 2 → parseFieldDescriptor (TX6 k).2.2.1 = some (tyX6 k) := by decide +kernel
abbrev cX6_init : ByteArray := prog_8_method_1_code
def yX6_init : MethodName := ⟨RX6, "<init>", "(I)V"⟩
abbrev cX6_has : ByteArray := prog_8_method_2_code
def yX6_has : MethodName := ⟨RX6, "has", "(I)Z"⟩
abbrev cX6_part : ByteArray := prog_8_method_3_code
def yX6_part : MethodName := ⟨RX6, "part", "(II)I"⟩
abbrev cX6_put : ByteArray := prog_8_method_4_code
def yX6_put : MethodName := ⟨RX6, "put", "(III)V"⟩
abbrev cX6_kind : ByteArray := prog_8_method_5_code
def yX6_kind : MethodName := ⟨RX6, "kind", "(I)LBranchSlotFiller$Kind;"⟩
abbrev cX6_target : ByteArray := prog_8_method_6_code
def yX6_target : MethodName := ⟨RX6, "target", "(I)I"⟩
abbrev cX6_isBranch : ByteArray := prog_8_method_7_code
def yX6_isBranch : MethodName := ⟨RX6, "isBranch", "(I)Z"⟩
abbrev cX6_isSlot : ByteArray := prog_8_method_8_code
def yX6_isSlot : MethodName := ⟨RX6, "isSlot", "(I)Z"⟩
abbrev cX6_isAnnulling : ByteArray := prog_8_method_9_code
def yX6_isAnnulling : MethodName := ⟨RX6, "isAnnulling", "(I)Z"⟩
abbrev cX6_hasEmptySlot : ByteArray := prog_8_method_10_code
def yX6_hasEmptySlot : MethodName := ⟨RX6, "hasEmptySlot", "(I)Z"⟩
abbrev cX6_copyFrom : ByteArray := prog_8_method_11_code
def yX6_copyFrom : MethodName := ⟨RX6, "copyFrom", "(LBranchSlotFiller$Program;)V"⟩
abbrev cX6_copyInstruction : ByteArray := prog_8_method_12_code
def yX6_copyInstruction : MethodName := ⟨RX6, "copyInstruction", "(II)V"⟩
abbrev cX6_appendKind : ByteArray := prog_8_method_13_code
def yX6_appendKind : MethodName := ⟨RX6, "appendKind", "(I)I"⟩
abbrev cX6_appendAll : ByteArray := prog_8_method_14_code
def yX6_appendAll : MethodName := ⟨RX6, "appendAll", "(LBranchSlotFiller$Program;)V"⟩
abbrev cX6_expandFrom : ByteArray := prog_8_method_15_code
def yX6_expandFrom : MethodName := ⟨RX6, "expandFrom", "(LBranchSlotFiller$Program;)V"⟩
abbrev cX6_entryOf : ByteArray := prog_8_method_16_code
def yX6_entryOf : MethodName := ⟨RX6, "entryOf", "(I)I"⟩
abbrev cX6_remove : ByteArray := prog_8_method_17_code
def yX6_remove : MethodName := ⟨RX6, "remove", "(I)V"⟩
abbrev cX6_branches : ByteArray := prog_8_method_18_code
def yX6_branches : MethodName := ⟨RX6, "branches", "()I"⟩
abbrev cX6_emptySlots : ByteArray := prog_8_method_19_code
def yX6_emptySlots : MethodName := ⟨RX6, "emptySlots", "()I"⟩
abbrev cX6_annullingBranches : ByteArray := prog_8_method_20_code
def yX6_annullingBranches : MethodName := ⟨RX6, "annullingBranches", "()I"⟩
abbrev cX6_nops : ByteArray := prog_8_method_21_code
def yX6_nops : MethodName := ⟨RX6, "nops", "()I"⟩
abbrev cX6_branchesTo : ByteArray := prog_8_method_22_code
def yX6_branchesTo : MethodName := ⟨RX6, "branchesTo", "(I)I"⟩
abbrev cX6_reads : ByteArray := prog_8_method_23_code
def yX6_reads : MethodName := ⟨RX6, "reads", "(I)I"⟩
abbrev cX6_writes : ByteArray := prog_8_method_24_code
def yX6_writes : MethodName := ⟨RX6, "writes", "(I)I"⟩
abbrev cX6_areIndependent : ByteArray := prog_8_method_25_code
def yX6_areIndependent : MethodName := ⟨RX6, "areIndependent", "(II)Z"⟩
def RX7 : String := "BranchSlotFiller$TextReader"
def TX7 : u_T := fun k => match k with
  | 0 => ("BranchSlotFiller$TextReader", "letters", "[C", true)
  | 1 => ("BranchSlotFiller$TextReader", "length", "I", false)
  | 2 => ("BranchSlotFiller$TextReader", "position", "I", false)
  | 3 => ("BranchSlotFiller$TextReader", "number", "I", false)
  | _ => ("BranchSlotFiller$TextReader", "program", "LBranchSlotFiller$Program;", true)
def tyX7 : Nat → FieldType := fun k => match k with
  | 0 => .array .char
  | 1 => .int
  | 2 => .int
  | 3 => .int
  | _ => .object "BranchSlotFiller$Program"
theorem nmX7 : ∀ a, a < 5 → ∀ b, b < 5 → a ≠ b → (TX7 a).2.1 ≠ (TX7 b).2.1 := by decide +kernel
theorem tyX7_ok : ∀ k, k < 5 → parseFieldDescriptor (TX7 k).2.2.1 = some (tyX7 k) := by decide +kernel
abbrev cX7_init : ByteArray := prog_9_method_1_code
def yX7_init : MethodName := ⟨RX7, "<init>", "()V"⟩
abbrev cX7_takes : ByteArray := prog_9_method_2_code
def yX7_takes : MethodName := ⟨RX7, "takes", "(C)Z"⟩
abbrev cX7_readsText : ByteArray := prog_9_method_3_code
def yX7_readsText : MethodName := ⟨RX7, "readsText", "()Z"⟩
abbrev cX7_readsInstruction : ByteArray := prog_9_method_4_code
def yX7_readsInstruction : MethodName := ⟨RX7, "readsInstruction", "()Z"⟩
abbrev cX7_readKind : ByteArray := prog_9_method_5_code
def yX7_readKind : MethodName := ⟨RX7, "readKind", "()I"⟩
abbrev cX7_isWord : ByteArray := prog_9_method_6_code
def yX7_isWord : MethodName := ⟨RX7, "isWord", "(Ljava/lang/String;II)Z"⟩
abbrev cX7_readsNumber : ByteArray := prog_9_method_7_code
def yX7_readsNumber : MethodName := ⟨RX7, "readsNumber", "(Z)Z"⟩
abbrev cX7_isDigitNext : ByteArray := prog_9_method_8_code
def yX7_isDigitNext : MethodName := ⟨RX7, "isDigitNext", "()Z"⟩
abbrev cX7_passes : ByteArray := prog_9_method_9_code
def yX7_passes : MethodName := ⟨RX7, "passes", "(C)Z"⟩
abbrev cX7_isInRange : ByteArray := prog_9_method_10_code
def yX7_isInRange : MethodName := ⟨RX7, "isInRange", "()Z"⟩
abbrev cX7_greatest : ByteArray := prog_9_method_11_code
def yX7_greatest : MethodName := ⟨RX7, "greatest", "(C)I"⟩
def RX8 : String := "BranchSlotFiller$TextWriter"
def TX8 : u_T := fun k => match k with
  | 0 => ("BranchSlotFiller$TextWriter", "letters", "[C", true)
  | _ => ("BranchSlotFiller$TextWriter", "length", "I", false)
def tyX8 : Nat → FieldType := fun k => match k with
  | 0 => .array .char
  | _ => .int
theorem nmX8 : ∀ a, a < 2 → ∀ b, b < 2 → a ≠ b → (TX8 a).2.1 ≠ (TX8 b).2.1 := by decide +kernel
theorem tyX8_ok : ∀ k, k < 2 → parseFieldDescriptor (TX8 k).2.2.1 = some (tyX8 k) := by decide +kernel
abbrev cX8_init : ByteArray := prog_10_method_1_code
def yX8_init : MethodName := ⟨RX8, "<init>", "()V"⟩
abbrev cX8_writeProgram : ByteArray := prog_10_method_2_code
def yX8_writeProgram : MethodName := ⟨RX8, "writeProgram", "(LBranchSlotFiller$Program;)I"⟩
abbrev cX8_writeInstruction : ByteArray := prog_10_method_3_code
def yX8_writeInstruction : MethodName := ⟨RX8, "writeInstruction", "(LBranchSlotFiller$Program;I)V"⟩
abbrev cX8_writeNumber : ByteArray := prog_10_method_4_code
def yX8_writeNumber : MethodName := ⟨RX8, "writeNumber", "(I)V"⟩
abbrev cX8_append : ByteArray := prog_10_method_5_code
def yX8_append : MethodName := ⟨RX8, "append", "(C)V"⟩
def RX9 : String := "BranchSlotFiller"
def TX9 : u_T := fun k => match k with
  | 0 => ("BranchSlotFiller", "reader", "LBranchSlotFiller$TextReader;", true)
  | 1 => ("BranchSlotFiller", "writer", "LBranchSlotFiller$TextWriter;", true)
  | 2 => ("BranchSlotFiller", "source", "LBranchSlotFiller$Program;", true)
  | 3 => ("BranchSlotFiller", "expanded", "LBranchSlotFiller$Program;", true)
  | 4 => ("BranchSlotFiller", "flow", "LBranchSlotFiller$Flow;", true)
  | 5 => ("BranchSlotFiller", "filler", "LBranchSlotFiller$Filler;", true)
  | 6 => ("BranchSlotFiller", "history", "LBranchSlotFiller$History;", true)
  | 7 => ("BranchSlotFiller", "initial", "[I", true)
  | 8 => ("BranchSlotFiller", "drawn", "[I", true)
  | 9 => ("BranchSlotFiller", "kept", "LBranchSlotFiller$Machine;", false)
  | 10 => ("BranchSlotFiller", "spare", "LBranchSlotFiller$Machine;", false)
  | 11 => ("BranchSlotFiller", "rival", "LBranchSlotFiller$Machine;", true)
  | 12 => ("BranchSlotFiller", "hasKept", "Z", false)
  | 13 => ("BranchSlotFiller", "savedSource", "LBranchSlotFiller$Program;", true)
  | 14 => ("BranchSlotFiller", "savedExpanded", "LBranchSlotFiller$Program;", true)
  | 15 => ("BranchSlotFiller", "savedInitial", "[I", true)
  | _ => ("BranchSlotFiller", "hasSaved", "Z", false)
def tyX9 : Nat → FieldType := fun k => match k with
  | 0 => .object "BranchSlotFiller$TextReader"
  | 1 => .object "BranchSlotFiller$TextWriter"
  | 2 => .object "BranchSlotFiller$Program"
  | 3 => .object "BranchSlotFiller$Program"
  | 4 => .object "BranchSlotFiller$Flow"
  | 5 => .object "BranchSlotFiller$Filler"
  | 6 => .object "BranchSlotFiller$History"
  | 7 => .array .int
  | 8 => .array .int
  | 9 => .object "BranchSlotFiller$Machine"
  | 10 => .object "BranchSlotFiller$Machine"
  | 11 => .object "BranchSlotFiller$Machine"
  | 12 => .boolean
  | 13 => .object "BranchSlotFiller$Program"
  | 14 => .object "BranchSlotFiller$Program"
  | 15 => .array .int
  | _ => .boolean
theorem nmX9 : ∀ a, a < 17 → ∀ b, b < 17 → a ≠ b → (TX9 a).2.1 ≠ (TX9 b).2.1 := by decide +kernel
theorem tyX9_ok : ∀ k, k < 17 → parseFieldDescriptor (TX9 k).2.2.1 = some (tyX9 k) := by decide +kernel
abbrev cX9_init : ByteArray := prog_1_method_1_code
def yX9_init : MethodName := ⟨RX9, "<init>", "()V"⟩
abbrev cX9_feed : ByteArray := prog_1_method_2_code
def yX9_feed : MethodName := ⟨RX9, "feed", "(C)I"⟩
abbrev cX9_parse : ByteArray := prog_1_method_3_code
def yX9_parse : MethodName := ⟨RX9, "parse", "()I"⟩
abbrev cX9_clear : ByteArray := prog_1_method_4_code
def yX9_clear : MethodName := ⟨RX9, "clear", "()I"⟩
abbrev cX9_instructions : ByteArray := prog_1_method_5_code
def yX9_instructions : MethodName := ⟨RX9, "instructions", "()I"⟩
abbrev cX9_instruction : ByteArray := prog_1_method_6_code
def yX9_instruction : MethodName := ⟨RX9, "instruction", "(II)I"⟩
abbrev cX9_expand : ByteArray := prog_1_method_7_code
def yX9_expand : MethodName := ⟨RX9, "expand", "()I"⟩
abbrev cX9_entries : ByteArray := prog_1_method_8_code
def yX9_entries : MethodName := ⟨RX9, "entries", "()I"⟩
abbrev cX9_entry : ByteArray := prog_1_method_9_code
def yX9_entry : MethodName := ⟨RX9, "entry", "(II)I"⟩
abbrev cX9_count : ByteArray := prog_1_method_10_code
def yX9_count : MethodName := ⟨RX9, "count", "(I)I"⟩
abbrev cX9_live : ByteArray := prog_1_method_11_code
def yX9_live : MethodName := ⟨RX9, "live", "(I)I"⟩
abbrev cX9_isIndependent : ByteArray := prog_1_method_12_code
def yX9_isIndependent : MethodName := ⟨RX9, "isIndependent", "(II)Z"⟩
abbrev cX9_candidate : ByteArray := prog_1_method_13_code
def yX9_candidate : MethodName := ⟨RX9, "candidate", "(II)I"⟩
abbrev cX9_fill : ByteArray := prog_1_method_14_code
def yX9_fill : MethodName := ⟨RX9, "fill", "(II)I"⟩
abbrev cX9_fillAll : ByteArray := prog_1_method_15_code
def yX9_fillAll : MethodName := ⟨RX9, "fillAll", "(II)I"⟩
abbrev cX9_undo : ByteArray := prog_1_method_16_code
def yX9_undo : MethodName := ⟨RX9, "undo", "()I"⟩
abbrev cX9_write : ByteArray := prog_1_method_17_code
def yX9_write : MethodName := ⟨RX9, "write", "()I"⟩
abbrev cX9_text : ByteArray := prog_1_method_18_code
def yX9_text : MethodName := ⟨RX9, "text", "(I)C"⟩
abbrev cX9_isWay : ByteArray := prog_1_method_19_code
def yX9_isWay : MethodName := ⟨RX9, "isWay", "(I)Z"⟩
abbrev cX9_setInitial : ByteArray := prog_1_method_20_code
def yX9_setInitial : MethodName := ⟨RX9, "setInitial", "(ZII)I"⟩
abbrev cX9_run : ByteArray := prog_1_method_21_code
def yX9_run : MethodName := ⟨RX9, "run", "(ZI)I"⟩
abbrev cX9_finalValue : ByteArray := prog_1_method_22_code
def yX9_finalValue : MethodName := ⟨RX9, "finalValue", "(ZI)I"⟩
abbrev cX9_outputs : ByteArray := prog_1_method_23_code
def yX9_outputs : MethodName := ⟨RX9, "outputs", "()I"⟩
abbrev cX9_output : ByteArray := prog_1_method_24_code
def yX9_output : MethodName := ⟨RX9, "output", "(I)I"⟩
abbrev cX9_differences : ByteArray := prog_1_method_25_code
def yX9_differences : MethodName := ⟨RX9, "differences", "(II)I"⟩
abbrev cX9_meanSteps : ByteArray := prog_1_method_26_code
def yX9_meanSteps : MethodName := ⟨RX9, "meanSteps", "(II)D"⟩
abbrev cX9_filledShare : ByteArray := prog_1_method_27_code
def yX9_filledShare : MethodName := ⟨RX9, "filledShare", "()F"⟩
abbrev cX9_placeOf : ByteArray := prog_1_method_28_code
def yX9_placeOf : MethodName := ⟨RX9, "placeOf", "(ZI)I"⟩
abbrev cX9_checkKept : ByteArray := prog_1_method_29_code
def yX9_checkKept : MethodName := ⟨RX9, "checkKept", "()V"⟩
abbrev cX9_checkDrawn : ByteArray := prog_1_method_30_code
def yX9_checkDrawn : MethodName := ⟨RX9, "checkDrawn", "(I)V"⟩
abbrev cX9_drawInitial : ByteArray := prog_1_method_31_code
def yX9_drawInitial : MethodName := ⟨RX9, "drawInitial", "(I)I"⟩
abbrev cX9_save : ByteArray := prog_1_method_32_code
def yX9_save : MethodName := ⟨RX9, "save", "()I"⟩
abbrev cX9_restore : ByteArray := prog_1_method_33_code
def yX9_restore : MethodName := ⟨RX9, "restore", "()I"⟩
def RX10 : String := "BranchSlotFillerModel"
def TX10 : u_T := fun k => match k with
  | 0 => ("BranchSlotFillerModel", "thrown", "I", false)
  | 1 => ("BranchSlotFillerModel", "source", "[I", true)
  | 2 => ("BranchSlotFillerModel", "sourceMany", "I", false)
  | 3 => ("BranchSlotFillerModel", "form", "[I", true)
  | 4 => ("BranchSlotFillerModel", "past", "[I", true)
  | 5 => ("BranchSlotFillerModel", "pastMany", "I", false)
  | 6 => ("BranchSlotFillerModel", "input", "[C", true)
  | 7 => ("BranchSlotFillerModel", "fed", "I", false)
  | 8 => ("BranchSlotFillerModel", "end", "I", false)
  | 9 => ("BranchSlotFillerModel", "cursor", "I", false)
  | 10 => ("BranchSlotFillerModel", "fault", "I", false)
  | 11 => ("BranchSlotFillerModel", "read", "[I", true)
  | 12 => ("BranchSlotFillerModel", "readMany", "I", false)
  | 13 => ("BranchSlotFillerModel", "isMet", "[Z", true)
  | 14 => ("BranchSlotFillerModel", "lives", "[I", true)
  | 15 => ("BranchSlotFillerModel", "text", "[C", true)
  | 16 => ("BranchSlotFillerModel", "textLength", "I", false)
  | 17 => ("BranchSlotFillerModel", "initial", "[I", true)
  | 18 => ("BranchSlotFillerModel", "machine", "[I", true)
  | 19 => ("BranchSlotFillerModel", "out", "[I", true)
  | 20 => ("BranchSlotFillerModel", "outMany", "I", false)
  | 21 => ("BranchSlotFillerModel", "stepMany", "I", false)
  | 22 => ("BranchSlotFillerModel", "isKept", "Z", false)
  | 23 => ("BranchSlotFillerModel", "keptMachine", "[I", true)
  | 24 => ("BranchSlotFillerModel", "keptOut", "[I", true)
  | 25 => ("BranchSlotFillerModel", "keptOutMany", "I", false)
  | 26 => ("BranchSlotFillerModel", "drawn", "[I", true)
  | 27 => ("BranchSlotFillerModel", "drawnState", "I", false)
  | 28 => ("BranchSlotFillerModel", "firstCells", "[I", true)
  | 29 => ("BranchSlotFillerModel", "firstOut", "[I", true)
  | 30 => ("BranchSlotFillerModel", "isSaved", "Z", false)
  | 31 => ("BranchSlotFillerModel", "savedSource", "[I", true)
  | 32 => ("BranchSlotFillerModel", "savedSourceMany", "I", false)
  | 33 => ("BranchSlotFillerModel", "savedForm", "[I", true)
  | _ => ("BranchSlotFillerModel", "savedInitial", "[I", true)
def tyX10 : Nat → FieldType := fun k => match k with
  | 0 => .int
  | 1 => .array .int
  | 2 => .int
  | 3 => .array .int
  | 4 => .array .int
  | 5 => .int
  | 6 => .array .char
  | 7 => .int
  | 8 => .int
  | 9 => .int
  | 10 => .int
  | 11 => .array .int
  | 12 => .int
  | 13 => .array .boolean
  | 14 => .array .int
  | 15 => .array .char
  | 16 => .int
  | 17 => .array .int
  | 18 => .array .int
  | 19 => .array .int
  | 20 => .int
  | 21 => .int
  | 22 => .boolean
  | 23 => .array .int
  | 24 => .array .int
  | 25 => .int
  | 26 => .array .int
  | 27 => .int
  | 28 => .array .int
  | 29 => .array .int
  | 30 => .boolean
  | 31 => .array .int
  | 32 => .int
  | 33 => .array .int
  | _ => .array .int
theorem nmX10 : ∀ a, a < 35 → ∀ b, b < 35 → a ≠ b → (TX10 a).2.1 ≠ (TX10 b).2.1 := by decide +kernel
theorem tyX10_ok : ∀ k, k < 35 → parseFieldDescriptor (TX10 k).2.2.1 = some (tyX10 k) := by decide +kernel
abbrev cX10_init : ByteArray := prog_12_method_1_code
def yX10_init : MethodName := ⟨RX10, "<init>", "()V"⟩
abbrev cX10_isIn : ByteArray := prog_12_method_2_code
def yX10_isIn : MethodName := ⟨RX10, "isIn", "(III)Z"⟩
abbrev cX10_thrown : ByteArray := prog_12_method_3_code
def yX10_thrown : MethodName := ⟨RX10, "thrown", "()I"⟩
abbrev cX10_fail : ByteArray := prog_12_method_4_code
def yX10_fail : MethodName := ⟨RX10, "fail", "(I)I"⟩
abbrev cX10_entryMany : ByteArray := prog_12_method_5_code
def yX10_entryMany : MethodName := ⟨RX10, "entryMany", "()I"⟩
abbrev cX10_at : ByteArray := prog_12_method_6_code
def yX10_at : MethodName := ⟨RX10, "at", "(II)I"⟩
abbrev cX10_put : ByteArray := prog_12_method_7_code
def yX10_put : MethodName := ⟨RX10, "put", "(IIIIII)V"⟩
abbrev cX10_isBranch : ByteArray := prog_12_method_8_code
def yX10_isBranch : MethodName := ⟨RX10, "isBranch", "(I)Z"⟩
abbrev cX10_isSlot : ByteArray := prog_12_method_9_code
def yX10_isSlot : MethodName := ⟨RX10, "isSlot", "(I)Z"⟩
abbrev cX10_isEntry : ByteArray := prog_12_method_10_code
def yX10_isEntry : MethodName := ⟨RX10, "isEntry", "(I)Z"⟩
abbrev cX10_remember : ByteArray := prog_12_method_11_code
def yX10_remember : MethodName := ⟨RX10, "remember", "()V"⟩
abbrev cX10_undo : ByteArray := prog_12_method_12_code
def yX10_undo : MethodName := ⟨RX10, "undo", "()I"⟩
abbrev cX10_feed : ByteArray := prog_12_method_13_code
def yX10_feed : MethodName := ⟨RX10, "feed", "(C)I"⟩
abbrev cX10_sign : ByteArray := prog_12_method_14_code
def yX10_sign : MethodName := ⟨RX10, "sign", "()I"⟩
abbrev cX10_letterAt : ByteArray := prog_12_method_15_code
def yX10_letterAt : MethodName := ⟨RX10, "letterAt", "(I)I"⟩
abbrev cX10_isName : ByteArray := prog_12_method_16_code
def yX10_isName : MethodName := ⟨RX10, "isName", "(IIIIII)Z"⟩
abbrev cX10_kindAt : ByteArray := prog_12_method_17_code
def yX10_kindAt : MethodName := ⟨RX10, "kindAt", "(I)I"⟩
abbrev cX10_nameLength : ByteArray := prog_12_method_18_code
def yX10_nameLength : MethodName := ⟨RX10, "nameLength", "(I)I"⟩
abbrev cX10_operandsOf : ByteArray := prog_12_method_19_code
def yX10_operandsOf : MethodName := ⟨RX10, "operandsOf", "(I)I"⟩
abbrev cX10_fault : ByteArray := prog_12_method_20_code
def yX10_fault : MethodName := ⟨RX10, "fault", "()V"⟩
abbrev cX10_isDigit : ByteArray := prog_12_method_21_code
def yX10_isDigit : MethodName := ⟨RX10, "isDigit", "()Z"⟩
abbrev cX10_readOperand : ByteArray := prog_12_method_22_code
def yX10_readOperand : MethodName := ⟨RX10, "readOperand", "(Z)I"⟩
abbrev cX10_readInstruction : ByteArray := prog_12_method_23_code
def yX10_readInstruction : MethodName := ⟨RX10, "readInstruction", "()V"⟩
abbrev cX10_isGood : ByteArray := prog_12_method_24_code
def yX10_isGood : MethodName := ⟨RX10, "isGood", "(I)Z"⟩
abbrev cX10_parse : ByteArray := prog_12_method_25_code
def yX10_parse : MethodName := ⟨RX10, "parse", "()I"⟩
abbrev cX10_clear : ByteArray := prog_12_method_26_code
def yX10_clear : MethodName := ⟨RX10, "clear", "()I"⟩
abbrev cX10_instructions : ByteArray := prog_12_method_27_code
def yX10_instructions : MethodName := ⟨RX10, "instructions", "()I"⟩
abbrev cX10_instruction : ByteArray := prog_12_method_28_code
def yX10_instruction : MethodName := ⟨RX10, "instruction", "(II)I"⟩
abbrev cX10_entryOf : ByteArray := prog_12_method_29_code
def yX10_entryOf : MethodName := ⟨RX10, "entryOf", "(I)I"⟩
abbrev cX10_expand : ByteArray := prog_12_method_30_code
def yX10_expand : MethodName := ⟨RX10, "expand", "()I"⟩
abbrev cX10_entries : ByteArray := prog_12_method_31_code
def yX10_entries : MethodName := ⟨RX10, "entries", "()I"⟩
abbrev cX10_targeted : ByteArray := prog_12_method_32_code
def yX10_targeted : MethodName := ⟨RX10, "targeted", "(I)I"⟩
abbrev cX10_entry : ByteArray := prog_12_method_33_code
def yX10_entry : MethodName := ⟨RX10, "entry", "(II)I"⟩
abbrev cX10_meet : ByteArray := prog_12_method_34_code
def yX10_meet : MethodName := ⟨RX10, "meet", "(I)V"⟩
abbrev cX10_findReached : ByteArray := prog_12_method_35_code
def yX10_findReached : MethodName := ⟨RX10, "findReached", "()V"⟩
abbrev cX10_count : ByteArray := prog_12_method_36_code
def yX10_count : MethodName := ⟨RX10, "count", "(I)I"⟩
abbrev cX10_reads : ByteArray := prog_12_method_37_code
def yX10_reads : MethodName := ⟨RX10, "reads", "(I)I"⟩
abbrev cX10_writes : ByteArray := prog_12_method_38_code
def yX10_writes : MethodName := ⟨RX10, "writes", "(I)I"⟩
abbrev cX10_through : ByteArray := prog_12_method_39_code
def yX10_through : MethodName := ⟨RX10, "through", "(II)I"⟩
abbrev cX10_liveNow : ByteArray := prog_12_method_40_code
def yX10_liveNow : MethodName := ⟨RX10, "liveNow", "(I)I"⟩
abbrev cX10_findLives : ByteArray := prog_12_method_41_code
def yX10_findLives : MethodName := ⟨RX10, "findLives", "()V"⟩
abbrev cX10_live : ByteArray := prog_12_method_42_code
def yX10_live : MethodName := ⟨RX10, "live", "(I)I"⟩
abbrev cX10_areIndependent : ByteArray := prog_12_method_43_code
def yX10_areIndependent : MethodName := ⟨RX10, "areIndependent", "(II)Z"⟩
abbrev cX10_isIndependent : ByteArray := prog_12_method_44_code
def yX10_isIndependent : MethodName := ⟨RX10, "isIndependent", "(II)Z"⟩
abbrev cX10_beforeCandidate : ByteArray := prog_12_method_45_code
def yX10_beforeCandidate : MethodName := ⟨RX10, "beforeCandidate", "(I)I"⟩
abbrev cX10_isPlain : ByteArray := prog_12_method_46_code
def yX10_isPlain : MethodName := ⟨RX10, "isPlain", "(I)Z"⟩
abbrev cX10_targetCandidate : ByteArray := prog_12_method_47_code
def yX10_targetCandidate : MethodName := ⟨RX10, "targetCandidate", "(I)I"⟩
abbrev cX10_fallCandidate : ByteArray := prog_12_method_48_code
def yX10_fallCandidate : MethodName := ⟨RX10, "fallCandidate", "(I)I"⟩
abbrev cX10_candidateOf : ByteArray := prog_12_method_49_code
def yX10_candidateOf : MethodName := ⟨RX10, "candidateOf", "(II)I"⟩
abbrev cX10_problem : ByteArray := prog_12_method_50_code
def yX10_problem : MethodName := ⟨RX10, "problem", "(II)I"⟩
abbrev cX10_candidate : ByteArray := prog_12_method_51_code
def yX10_candidate : MethodName := ⟨RX10, "candidate", "(II)I"⟩
abbrev cX10_take : ByteArray := prog_12_method_52_code
def yX10_take : MethodName := ⟨RX10, "take", "(I)V"⟩
abbrev cX10_doFill : ByteArray := prog_12_method_53_code
def yX10_doFill : MethodName := ⟨RX10, "doFill", "(III)I"⟩
abbrev cX10_fill : ByteArray := prog_12_method_54_code
def yX10_fill : MethodName := ⟨RX10, "fill", "(II)I"⟩
abbrev cX10_fillAll : ByteArray := prog_12_method_55_code
def yX10_fillAll : MethodName := ⟨RX10, "fillAll", "(II)I"⟩
abbrev cX10_add : ByteArray := prog_12_method_56_code
def yX10_add : MethodName := ⟨RX10, "add", "(C)V"⟩
abbrev cX10_addName : ByteArray := prog_12_method_57_code
def yX10_addName : MethodName := ⟨RX10, "addName", "(CCCCC)V"⟩
abbrev cX10_addKind : ByteArray := prog_12_method_58_code
def yX10_addKind : MethodName := ⟨RX10, "addKind", "(I)V"⟩
abbrev cX10_addNumber : ByteArray := prog_12_method_59_code
def yX10_addNumber : MethodName := ⟨RX10, "addNumber", "(I)V"⟩
abbrev cX10_write : ByteArray := prog_12_method_60_code
def yX10_write : MethodName := ⟨RX10, "write", "()I"⟩
abbrev cX10_text : ByteArray := prog_12_method_61_code
def yX10_text : MethodName := ⟨RX10, "text", "(I)C"⟩
abbrev cX10_placeOf : ByteArray := prog_12_method_62_code
def yX10_placeOf : MethodName := ⟨RX10, "placeOf", "(ZI)I"⟩
abbrev cX10_setInitial : ByteArray := prog_12_method_63_code
def yX10_setInitial : MethodName := ⟨RX10, "setInitial", "(ZII)I"⟩
abbrev cX10_partOf : ByteArray := prog_12_method_64_code
def yX10_partOf : MethodName := ⟨RX10, "partOf", "(ZII)I"⟩
abbrev cX10_execute : ByteArray := prog_12_method_65_code
def yX10_execute : MethodName := ⟨RX10, "execute", "(ZI)V"⟩
abbrev cX10_isTaken : ByteArray := prog_12_method_66_code
def yX10_isTaken : MethodName := ⟨RX10, "isTaken", "(ZI)Z"⟩
abbrev cX10_runs : ByteArray := prog_12_method_67_code
def yX10_runs : MethodName := ⟨RX10, "runs", "(ZI)Z"⟩
abbrev cX10_run : ByteArray := prog_12_method_68_code
def yX10_run : MethodName := ⟨RX10, "run", "(ZI)I"⟩
abbrev cX10_finalValue : ByteArray := prog_12_method_69_code
def yX10_finalValue : MethodName := ⟨RX10, "finalValue", "(ZI)I"⟩
abbrev cX10_outputs : ByteArray := prog_12_method_70_code
def yX10_outputs : MethodName := ⟨RX10, "outputs", "()I"⟩
abbrev cX10_output : ByteArray := prog_12_method_71_code
def yX10_output : MethodName := ⟨RX10, "output", "(I)I"⟩
abbrev cX10_draw : ByteArray := prog_12_method_72_code
def yX10_draw : MethodName := ⟨RX10, "draw", "()V"⟩
abbrev cX10_runsDrawn : ByteArray := prog_12_method_73_code
def yX10_runsDrawn : MethodName := ⟨RX10, "runsDrawn", "(Z)Z"⟩
abbrev cX10_isDifferent : ByteArray := prog_12_method_74_code
def yX10_isDifferent : MethodName := ⟨RX10, "isDifferent", "()Z"⟩
abbrev cX10_differences : ByteArray := prog_12_method_75_code
def yX10_differences : MethodName := ⟨RX10, "differences", "(II)I"⟩
abbrev cX10_meanSteps : ByteArray := prog_12_method_76_code
def yX10_meanSteps : MethodName := ⟨RX10, "meanSteps", "(II)D"⟩
abbrev cX10_filledShare : ByteArray := prog_12_method_77_code
def yX10_filledShare : MethodName := ⟨RX10, "filledShare", "()F"⟩
abbrev cX10_pass : ByteArray := prog_12_method_78_code
def yX10_pass : MethodName := ⟨RX10, "pass", "([I[I)V"⟩
abbrev cX10_save : ByteArray := prog_12_method_79_code
def yX10_save : MethodName := ⟨RX10, "save", "()I"⟩
abbrev cX10_restore : ByteArray := prog_12_method_80_code
def yX10_restore : MethodName := ⟨RX10, "restore", "()I"⟩
def RJx145de : String := "java/io/Serializable"
def TJx145de : u_T := fun k => match k with
  | _ => ("", "", "", false)
def tyJx145de : Nat → FieldType := fun k => match k with
  | _ => .int
theorem nmJx145de : ∀ a, a < 0 → ∀ b, b < 0 → a ≠ b → (TJx145de a).2.1 ≠ (TJx145de b).2.1 := by decide +kernel
theorem tyJx145de_ok : ∀ k, k < 0 → parseFieldDescriptor (TJx145de k).2.2.1 = some (tyJx145de k) := by decide +kernel
def RJx00060 : String := "java/lang/ArrayIndexOutOfBoundsException"
def TJx00060 : u_T := fun k => match k with
  | 0 => ("java/lang/Throwable", "backtrace", "Ljava/lang/Object;", false)
  | 1 => ("java/lang/Throwable", "detailMessage", "Ljava/lang/String;", false)
  | 2 => ("java/lang/Throwable", "cause", "Ljava/lang/Throwable;", false)
  | 3 => ("java/lang/Throwable", "stackTrace", "[Ljava/lang/StackTraceElement;", false)
  | 4 => ("java/lang/Throwable", "depth", "I", false)
  | _ => ("java/lang/Throwable", "suppressedExceptions", "Ljava/util/List;", false)
def tyJx00060 : Nat → FieldType := fun k => match k with
  | 0 => .object "java/lang/Object"
  | 1 => .object "java/lang/String"
  | 2 => .object "java/lang/Throwable"
  | 3 => .array (.object "java/lang/StackTraceElement")
  | 4 => .int
  | _ => .object "java/util/List"
theorem nmJx00060 : ∀ a, a < 6 → ∀ b, b < 6 → a ≠ b → (TJx00060 a).2.1 ≠ (TJx00060 b).2.1 := by decide +kernel
theorem tyJx00060_ok : ∀ k, k < 6 → parseFieldDescriptor (TJx00060 k).2.2.1 = some (tyJx00060 k) := by decide +kernel
abbrev cJx00060_init_a7421 : ByteArray := prog_15_method_2_code
def yJx00060_init_a7421 : MethodName := ⟨RJx00060, "<init>", "(Ljava/lang/String;)V"⟩
def RJx9f9b0 : String := "java/lang/CharSequence"
def TJx9f9b0 : u_T := fun k => match k with
  | _ => ("", "", "", false)
def tyJx9f9b0 : Nat → FieldType := fun k => match k with
  | _ => .int
theorem nmJx9f9b0 : ∀ a, a < 0 → ∀ b, b < 0 → a ≠ b → (TJx9f9b0 a).2.1 ≠ (TJx9f9b0 b).2.1 := by decide +kernel
theorem tyJx9f9b0_ok : ∀ k, k < 0 → parseFieldDescriptor (TJx9f9b0 k).2.2.1 = some (tyJx9f9b0 k) := by decide +kernel
def RJxb160c : String := "java/lang/Comparable"
def TJxb160c : u_T := fun k => match k with
  | _ => ("", "", "", false)
def tyJxb160c : Nat → FieldType := fun k => match k with
  | _ => .int
theorem nmJxb160c : ∀ a, a < 0 → ∀ b, b < 0 → a ≠ b → (TJxb160c a).2.1 ≠ (TJxb160c b).2.1 := by decide +kernel
theorem tyJxb160c_ok : ∀ k, k < 0 → parseFieldDescriptor (TJxb160c k).2.2.1 = some (tyJxb160c k) := by decide +kernel
def RJx29ce0 : String := "java/lang/Enum"
def TJx29ce0 : u_T := fun k => match k with
  | _ => ("", "", "", false)
def tyJx29ce0 : Nat → FieldType := fun k => match k with
  | _ => .int
theorem nmJx29ce0 : ∀ a, a < 0 → ∀ b, b < 0 → a ≠ b → (TJx29ce0 a).2.1 ≠ (TJx29ce0 b).2.1 := by decide +kernel
theorem tyJx29ce0_ok : ∀ k, k < 0 → parseFieldDescriptor (TJx29ce0 k).2.2.1 = some (tyJx29ce0 k) := by decide +kernel
abbrev cJx29ce0_ordinal_8abf5 : ByteArray := prog_18_method_2_code
def yJx29ce0_ordinal_8abf5 : MethodName := ⟨RJx29ce0, "ordinal", "()I"⟩
def RJ9 : String := "java/lang/Math"
def TJ9 : u_T := fun k => match k with
  | _ => ("", "", "", false)
def tyJ9 : Nat → FieldType := fun k => match k with
  | _ => .int
theorem nmJ9 : ∀ a, a < 0 → ∀ b, b < 0 → a ≠ b → (TJ9 a).2.1 ≠ (TJ9 b).2.1 := by decide +kernel
theorem tyJ9_ok : ∀ k, k < 0 → parseFieldDescriptor (TJ9 k).2.2.1 = some (tyJ9 k) := by decide +kernel
abbrev cJ9_abs_0f7a4 : ByteArray := prog_23_method_59_code
def yJ9_abs_0f7a4 : MethodName := ⟨RJ9, "abs", "(I)I"⟩
abbrev cJ9_min_7cf53 : ByteArray := prog_23_method_69_code
def yJ9_min_7cf53 : MethodName := ⟨RJ9, "min", "(II)I"⟩
def RJ0 : String := "java/lang/String"
def TJ0 : u_T := fun k => match k with
  | 0 => ("java/lang/String", "value", "[B", true)
  | _ => ("java/lang/String", "coder", "B", true)
def tyJ0 : Nat → FieldType := fun k => match k with
  | 0 => .array .byte
  | _ => .byte
theorem nmJ0 : ∀ a, a < 2 → ∀ b, b < 2 → a ≠ b → (TJ0 a).2.1 ≠ (TJ0 b).2.1 := by decide +kernel
theorem tyJ0_ok : ∀ k, k < 2 → parseFieldDescriptor (TJ0 k).2.2.1 = some (tyJ0 k) := by decide +kernel
abbrev cJ0_length_8abf5 : ByteArray := prog_25_method_54_code
def yJ0_length_8abf5 : MethodName := ⟨RJ0, "length", "()I"⟩
abbrev cJ0_charAt_5068e : ByteArray := prog_25_method_56_code
def yJ0_charAt_5068e : MethodName := ⟨RJ0, "charAt", "(I)C"⟩
abbrev cJ0_coder_7d493 : ByteArray := prog_25_method_152_code
def yJ0_coder_7d493 : MethodName := ⟨RJ0, "coder", "()B"⟩
abbrev cJ0_isLatin1_aae02 : ByteArray := prog_25_method_154_code
def yJ0_isLatin1_aae02 : MethodName := ⟨RJ0, "isLatin1", "()Z"⟩
abbrev cJ0_checkIndex_df160 : ByteArray := prog_25_method_155_code
def yJ0_checkIndex_df160 : MethodName := ⟨RJ0, "checkIndex", "(II)V"⟩
def RJ1 : String := "java/lang/StringLatin1"
def TJ1 : u_T := fun k => match k with
  | _ => ("", "", "", false)
def tyJ1 : Nat → FieldType := fun k => match k with
  | _ => .int
theorem nmJ1 : ∀ a, a < 0 → ∀ b, b < 0 → a ≠ b → (TJ1 a).2.1 ≠ (TJ1 b).2.1 := by decide +kernel
theorem tyJ1_ok : ∀ k, k < 0 → parseFieldDescriptor (TJ1 k).2.2.1 = some (tyJ1 k) := by decide +kernel
abbrev cJ1_charAt_3b067 : ByteArray := prog_26_method_2_code
def yJ1_charAt_3b067 : MethodName := ⟨RJ1, "charAt", "([BI)C"⟩
def RJ2 : String := "java/lang/StringUTF16"
def TJ2 : u_T := fun k => match k with
  | _ => ("", "", "", false)
def tyJ2 : Nat → FieldType := fun k => match k with
  | _ => .int
theorem nmJ2 : ∀ a, a < 0 → ∀ b, b < 0 → a ≠ b → (TJ2 a).2.1 ≠ (TJ2 b).2.1 := by decide +kernel
theorem tyJ2_ok : ∀ k, k < 0 → parseFieldDescriptor (TJ2 k).2.2.1 = some (tyJ2 k) := by decide +kernel
abbrev cJ2_getChar_3b067 : ByteArray := prog_27_method_5_code
def yJ2_getChar_3b067 : MethodName := ⟨RJ2, "getChar", "([BI)C"⟩
abbrev cJ2_length_9d52b : ByteArray := prog_27_method_6_code
def yJ2_length_9d52b : MethodName := ⟨RJ2, "length", "([B)I"⟩
abbrev cJ2_charAt_3b067 : ByteArray := prog_27_method_83_code
def yJ2_charAt_3b067 : MethodName := ⟨RJ2, "charAt", "([BI)C"⟩
abbrev cJ2_checkIndex_2214a : ByteArray := prog_27_method_91_code
def yJ2_checkIndex_2214a : MethodName := ⟨RJ2, "checkIndex", "(I[B)V"⟩
def RJ10 : String := "java/lang/System"
def TJ10 : u_T := fun k => match k with
  | _ => ("", "", "", false)
def tyJ10 : Nat → FieldType := fun k => match k with
  | _ => .int
theorem nmJ10 : ∀ a, a < 0 → ∀ b, b < 0 → a ≠ b → (TJ10 a).2.1 ≠ (TJ10 b).2.1 := by decide +kernel
theorem tyJ10_ok : ∀ k, k < 0 → parseFieldDescriptor (TJ10 k).2.2.1 = some (tyJ10 k) := by decide +kernel
def RJxfd54e : String := "java/lang/constant/Constable"
def TJxfd54e : u_T := fun k => match k with
  | _ => ("", "", "", false)
def tyJxfd54e : Nat → FieldType := fun k => match k with
  | _ => .int
theorem nmJxfd54e : ∀ a, a < 0 → ∀ b, b < 0 → a ≠ b → (TJxfd54e a).2.1 ≠ (TJxfd54e b).2.1 := by decide +kernel
theorem tyJxfd54e_ok : ∀ k, k < 0 → parseFieldDescriptor (TJxfd54e k).2.2.1 = some (tyJxfd54e k) := by decide +kernel
def RJx3cf43 : String := "java/lang/constant/ConstantDesc"
def TJx3cf43 : u_T := fun k => match k with
  | _ => ("", "", "", false)
def tyJx3cf43 : Nat → FieldType := fun k => match k with
  | _ => .int
theorem nmJx3cf43 : ∀ a, a < 0 → ∀ b, b < 0 → a ≠ b → (TJx3cf43 a).2.1 ≠ (TJx3cf43 b).2.1 := by decide +kernel
theorem tyJx3cf43_ok : ∀ k, k < 0 → parseFieldDescriptor (TJx3cf43 k).2.2.1 = some (tyJx3cf43 k) := by decide +kernel
def RJ3 : String := "jdk/internal/util/Preconditions"
def TJ3 : u_T := fun k => match k with
  | _ => ("", "", "", false)
def tyJ3 : Nat → FieldType := fun k => match k with
  | _ => .int
theorem nmJ3 : ∀ a, a < 0 → ∀ b, b < 0 → a ≠ b → (TJ3 a).2.1 ≠ (TJ3 b).2.1 := by decide +kernel
theorem tyJ3_ok : ∀ k, k < 0 → parseFieldDescriptor (TJ3 k).2.2.1 = some (tyJ3 k) := by decide +kernel
abbrev cJ3_checkIndex_8e157 : ByteArray := prog_34_method_11_code
def yJ3_checkIndex_8e157 : MethodName := ⟨RJ3, "checkIndex", "(IILjava/util/function/BiFunction;)I"⟩
def RL : String := "BranchSlotFillerLaw"
abbrev cL_feed : ByteArray := method_3_code
def yL_feed : MethodName := ⟨RL, "feed", "(LBranchSlotFiller;C[J)I"⟩
abbrev cL_parse : ByteArray := method_4_code
def yL_parse : MethodName := ⟨RL, "parse", "(LBranchSlotFiller;[J)I"⟩
abbrev cL_instruction : ByteArray := method_5_code
def yL_instruction : MethodName := ⟨RL, "instruction", "(LBranchSlotFiller;II[J)I"⟩
abbrev cL_entry : ByteArray := method_6_code
def yL_entry : MethodName := ⟨RL, "entry", "(LBranchSlotFiller;II[J)I"⟩
abbrev cL_count : ByteArray := method_7_code
def yL_count : MethodName := ⟨RL, "count", "(LBranchSlotFiller;I[J)I"⟩
abbrev cL_live : ByteArray := method_8_code
def yL_live : MethodName := ⟨RL, "live", "(LBranchSlotFiller;I[J)I"⟩
abbrev cL_isIndependent : ByteArray := method_9_code
def yL_isIndependent : MethodName := ⟨RL, "isIndependent", "(LBranchSlotFiller;II[J)I"⟩
abbrev cL_candidate : ByteArray := method_10_code
def yL_candidate : MethodName := ⟨RL, "candidate", "(LBranchSlotFiller;II[J)I"⟩
abbrev cL_fill : ByteArray := method_11_code
def yL_fill : MethodName := ⟨RL, "fill", "(LBranchSlotFiller;II[J)I"⟩
abbrev cL_fillAll : ByteArray := method_12_code
def yL_fillAll : MethodName := ⟨RL, "fillAll", "(LBranchSlotFiller;II[J)I"⟩
abbrev cL_undo : ByteArray := method_13_code
def yL_undo : MethodName := ⟨RL, "undo", "(LBranchSlotFiller;[J)I"⟩
abbrev cL_text : ByteArray := method_14_code
def yL_text : MethodName := ⟨RL, "text", "(LBranchSlotFiller;I[J)I"⟩
abbrev cL_setInitial : ByteArray := method_15_code
def yL_setInitial : MethodName := ⟨RL, "setInitial", "(LBranchSlotFiller;ZII[J)I"⟩
abbrev cL_run : ByteArray := method_16_code
def yL_run : MethodName := ⟨RL, "run", "(LBranchSlotFiller;ZI[J)I"⟩
abbrev cL_finalValue : ByteArray := method_17_code
def yL_finalValue : MethodName := ⟨RL, "finalValue", "(LBranchSlotFiller;ZI[J)I"⟩
abbrev cL_outputs : ByteArray := method_18_code
def yL_outputs : MethodName := ⟨RL, "outputs", "(LBranchSlotFiller;[J)I"⟩
abbrev cL_output : ByteArray := method_19_code
def yL_output : MethodName := ⟨RL, "output", "(LBranchSlotFiller;I[J)I"⟩
abbrev cL_differences : ByteArray := method_20_code
def yL_differences : MethodName := ⟨RL, "differences", "(LBranchSlotFiller;II[J)I"⟩
abbrev cL_meanSteps : ByteArray := method_21_code
def yL_meanSteps : MethodName := ⟨RL, "meanSteps", "(LBranchSlotFiller;II[D)I"⟩
abbrev cL_filledShare : ByteArray := method_22_code
def yL_filledShare : MethodName := ⟨RL, "filledShare", "(LBranchSlotFiller;[D)I"⟩
abbrev cL_restore : ByteArray := method_23_code
def yL_restore : MethodName := ⟨RL, "restore", "(LBranchSlotFiller;[J)I"⟩
abbrev cL_law : ByteArray := code
def yL_law : MethodName := ⟨RL, "law", "([I)Z"⟩
theorem dX1_init_0 : decode cX1_init 0 = .ok (.aload_n 0, 1) := by decide +kernel
theorem dX1_init_1 : decode cX1_init 1 = .ok (.invokespecial 3, 3) := by decide +kernel
theorem dX1_init_4 : decode cX1_init 4 = .ok (.aload_n 0, 1) := by decide +kernel
theorem dX1_init_5 : decode cX1_init 5 = .ok (.aload_n 1, 1) := by decide +kernel
theorem dX1_init_6 : decode cX1_init 6 = .ok (.putfield 9, 3) := by decide +kernel
theorem dX1_init_9 : decode cX1_init 9 = .ok (.aload_n 0, 1) := by decide +kernel
theorem dX1_init_10 : decode cX1_init 10 = .ok (.aload_n 2, 1) := by decide +kernel
theorem dX1_init_11 : decode cX1_init 11 = .ok (.putfield 15, 3) := by decide +kernel
theorem dX1_init_14 : decode cX1_init 14 = .ok (.return_, 1) := by decide +kernel
theorem dX1_find_0 : decode cX1_find 0 = .ok (.iload_n 2, 1) := by decide +kernel
theorem dX1_find_1 : decode cX1_find 1 = .ok (.tableswitch 45 0 2 #[27, 33, 39], 27) := by decide +kernel
theorem dX1_find_28 : decode cX1_find 28 = .ok (.aload_n 0, 1) := by decide +kernel
theorem dX1_find_29 : decode cX1_find 29 = .ok (.iload_n 1, 1) := by decide +kernel
theorem dX1_find_30 : decode cX1_find 30 = .ok (.invokevirtual 19, 3) := by decide +kernel
theorem dX1_find_33 : decode cX1_find 33 = .ok (.ireturn, 1) := by decide +kernel
theorem dX1_find_34 : decode cX1_find 34 = .ok (.aload_n 0, 1) := by decide +kernel
theorem dX1_find_35 : decode cX1_find 35 = .ok (.iload_n 1, 1) := by decide +kernel
theorem dX1_find_36 : decode cX1_find 36 = .ok (.invokevirtual 23, 3) := by decide +kernel
theorem dX1_find_39 : decode cX1_find 39 = .ok (.ireturn, 1) := by decide +kernel
theorem dX1_find_40 : decode cX1_find 40 = .ok (.aload_n 0, 1) := by decide +kernel
theorem dX1_find_41 : decode cX1_find 41 = .ok (.iload_n 1, 1) := by decide +kernel
theorem dX1_find_42 : decode cX1_find 42 = .ok (.invokevirtual 26, 3) := by decide +kernel
theorem dX1_find_45 : decode cX1_find 45 = .ok (.ireturn, 1) := by decide +kernel
theorem dX1_find_46 : decode cX1_find 46 = .ok (.iconst (-1), 1) := by decide +kernel
theorem dX1_find_47 : decode cX1_find 47 = .ok (.ireturn, 1) := by decide +kernel
theorem dX1_findBefore_0 : decode cX1_findBefore 0 = .ok (.aload_n 0, 1) := by decide +kernel
theorem dX1_findBefore_1 : decode cX1_findBefore 1 = .ok (.getfield 9, 3) := by decide +kernel
theorem dX1_findBefore_4 : decode cX1_findBefore 4 = .ok (.iload_n 1, 1) := by decide +kernel
theorem dX1_findBefore_5 : decode cX1_findBefore 5 = .ok (.invokevirtual 29, 3) := by decide +kernel
theorem dX1_findBefore_8 : decode cX1_findBefore 8 = .ok (.ifCond .le 5, 3) := by decide +kernel
theorem dX1_findBefore_11 : decode cX1_findBefore 11 = .ok (.iconst (-1), 1) := by decide +kernel
theorem dX1_findBefore_12 : decode cX1_findBefore 12 = .ok (.ireturn, 1) := by decide +kernel
theorem dX1_findBefore_13 : decode cX1_findBefore 13 = .ok (.iload_n 1, 1) := by decide +kernel
theorem dX1_findBefore_14 : decode cX1_findBefore 14 = .ok (.iconst 1, 1) := by decide +kernel
theorem dX1_findBefore_15 : decode cX1_findBefore 15 = .ok (.isub, 1) := by decide +kernel
theorem dX1_findBefore_16 : decode cX1_findBefore 16 = .ok (.istore_n 2, 1) := by decide +kernel
theorem dX1_findBefore_17 : decode cX1_findBefore 17 = .ok (.iload_n 2, 1) := by decide +kernel
theorem dX1_findBefore_18 : decode cX1_findBefore 18 = .ok (.ifCond .lt 76, 3) := by decide +kernel
theorem dX1_findBefore_21 : decode cX1_findBefore 21 = .ok (.aload_n 0, 1) := by decide +kernel
theorem dX1_findBefore_22 : decode cX1_findBefore 22 = .ok (.getfield 9, 3) := by decide +kernel
theorem dX1_findBefore_25 : decode cX1_findBefore 25 = .ok (.iload_n 2, 1) := by decide +kernel
theorem dX1_findBefore_26 : decode cX1_findBefore 26 = .ok (.invokevirtual 34, 3) := by decide +kernel
theorem dX1_findBefore_29 : decode cX1_findBefore 29 = .ok (.astore_n 3, 1) := by decide +kernel
theorem dX1_findBefore_30 : decode cX1_findBefore 30 = .ok (.aload_n 3, 1) := by decide +kernel
theorem dX1_findBefore_31 : decode cX1_findBefore 31 = .ok (.getfield 38, 3) := by decide +kernel
theorem dX1_findBefore_34 : decode cX1_findBefore 34 = .ok (.ifCond .ne 21, 3) := by decide +kernel
theorem dX1_findBefore_37 : decode cX1_findBefore 37 = .ok (.aload_n 3, 1) := by decide +kernel
theorem dX1_findBefore_38 : decode cX1_findBefore 38 = .ok (.getstatic 44, 3) := by decide +kernel
theorem dX1_findBefore_41 : decode cX1_findBefore 41 = .ok (.if_acmp .eq 14, 3) := by decide +kernel
theorem dX1_findBefore_44 : decode cX1_findBefore 44 = .ok (.aload_n 0, 1) := by decide +kernel
theorem dX1_findBefore_45 : decode cX1_findBefore 45 = .ok (.getfield 9, 3) := by decide +kernel
theorem dX1_findBefore_48 : decode cX1_findBefore 48 = .ok (.iload_n 2, 1) := by decide +kernel
theorem dX1_findBefore_49 : decode cX1_findBefore 49 = .ok (.invokevirtual 48, 3) := by decide +kernel
theorem dX1_findBefore_52 : decode cX1_findBefore 52 = .ok (.ifCond .eq 5, 3) := by decide +kernel
theorem dX1_findBefore_55 : decode cX1_findBefore 55 = .ok (.iconst (-1), 1) := by decide +kernel
theorem dX1_findBefore_56 : decode cX1_findBefore 56 = .ok (.ireturn, 1) := by decide +kernel
theorem dX1_findBefore_57 : decode cX1_findBefore 57 = .ok (.aload_n 3, 1) := by decide +kernel
theorem dX1_findBefore_58 : decode cX1_findBefore 58 = .ok (.invokevirtual 52, 3) := by decide +kernel
theorem dX1_findBefore_61 : decode cX1_findBefore 61 = .ok (.ifCond .eq 14, 3) := by decide +kernel
theorem dX1_findBefore_64 : decode cX1_findBefore 64 = .ok (.aload_n 0, 1) := by decide +kernel
theorem dX1_findBefore_65 : decode cX1_findBefore 65 = .ok (.iload_n 2, 1) := by decide +kernel
theorem dX1_findBefore_66 : decode cX1_findBefore 66 = .ok (.iload_n 1, 1) := by decide +kernel
theorem dX1_findBefore_67 : decode cX1_findBefore 67 = .ok (.invokevirtual 56, 3) := by decide +kernel
theorem dX1_findBefore_70 : decode cX1_findBefore 70 = .ok (.ifCond .eq 5, 3) := by decide +kernel
theorem dX1_findBefore_73 : decode cX1_findBefore 73 = .ok (.iload_n 2, 1) := by decide +kernel
theorem dX1_findBefore_74 : decode cX1_findBefore 74 = .ok (.ireturn, 1) := by decide +kernel
theorem dX1_findBefore_75 : decode cX1_findBefore 75 = .ok (.aload_n 0, 1) := by decide +kernel
theorem dX1_findBefore_76 : decode cX1_findBefore 76 = .ok (.getfield 9, 3) := by decide +kernel
theorem dX1_findBefore_79 : decode cX1_findBefore 79 = .ok (.iload_n 2, 1) := by decide +kernel
theorem dX1_findBefore_80 : decode cX1_findBefore 80 = .ok (.invokevirtual 29, 3) := by decide +kernel
theorem dX1_findBefore_83 : decode cX1_findBefore 83 = .ok (.ifCond .le 5, 3) := by decide +kernel
theorem dX1_findBefore_86 : decode cX1_findBefore 86 = .ok (.iconst (-1), 1) := by decide +kernel
theorem dX1_findBefore_87 : decode cX1_findBefore 87 = .ok (.ireturn, 1) := by decide +kernel
theorem dX1_findBefore_88 : decode cX1_findBefore 88 = .ok (.iinc 2 (-1), 3) := by decide +kernel
theorem dX1_findBefore_91 : decode cX1_findBefore 91 = .ok (.goto (-74), 3) := by decide +kernel
theorem dX1_findBefore_94 : decode cX1_findBefore 94 = .ok (.iconst (-1), 1) := by decide +kernel
theorem dX1_findBefore_95 : decode cX1_findBefore 95 = .ok (.ireturn, 1) := by decide +kernel
theorem dX1_canPass_0 : decode cX1_canPass 0 = .ok (.iload_n 1, 1) := by decide +kernel
theorem dX1_canPass_1 : decode cX1_canPass 1 = .ok (.iconst 1, 1) := by decide +kernel
theorem dX1_canPass_2 : decode cX1_canPass 2 = .ok (.iadd, 1) := by decide +kernel
theorem dX1_canPass_3 : decode cX1_canPass 3 = .ok (.istore_n 3, 1) := by decide +kernel
theorem dX1_canPass_4 : decode cX1_canPass 4 = .ok (.iload_n 3, 1) := by decide +kernel
theorem dX1_canPass_5 : decode cX1_canPass 5 = .ok (.iload_n 2, 1) := by decide +kernel
theorem dX1_canPass_6 : decode cX1_canPass 6 = .ok (.if_icmp .gt 23, 3) := by decide +kernel
theorem dX1_canPass_9 : decode cX1_canPass 9 = .ok (.aload_n 0, 1) := by decide +kernel
theorem dX1_canPass_10 : decode cX1_canPass 10 = .ok (.getfield 9, 3) := by decide +kernel
theorem dX1_canPass_13 : decode cX1_canPass 13 = .ok (.iload_n 1, 1) := by decide +kernel
theorem dX1_canPass_14 : decode cX1_canPass 14 = .ok (.iload_n 3, 1) := by decide +kernel
theorem dX1_canPass_15 : decode cX1_canPass 15 = .ok (.invokevirtual 60, 3) := by decide +kernel
theorem dX1_canPass_18 : decode cX1_canPass 18 = .ok (.ifCond .ne 5, 3) := by decide +kernel
theorem dX1_canPass_21 : decode cX1_canPass 21 = .ok (.iconst 0, 1) := by decide +kernel
theorem dX1_canPass_22 : decode cX1_canPass 22 = .ok (.ireturn, 1) := by decide +kernel
theorem dX1_canPass_23 : decode cX1_canPass 23 = .ok (.iinc 3 1, 3) := by decide +kernel
theorem dX1_canPass_26 : decode cX1_canPass 26 = .ok (.goto (-22), 3) := by decide +kernel
theorem dX1_canPass_29 : decode cX1_canPass 29 = .ok (.iconst 1, 1) := by decide +kernel
theorem dX1_canPass_30 : decode cX1_canPass 30 = .ok (.ireturn, 1) := by decide +kernel
theorem dX1_findAtTarget_0 : decode cX1_findAtTarget 0 = .ok (.aload_n 0, 1) := by decide +kernel
theorem dX1_findAtTarget_1 : decode cX1_findAtTarget 1 = .ok (.getfield 9, 3) := by decide +kernel
theorem dX1_findAtTarget_4 : decode cX1_findAtTarget 4 = .ok (.iload_n 1, 1) := by decide +kernel
theorem dX1_findAtTarget_5 : decode cX1_findAtTarget 5 = .ok (.invokevirtual 63, 3) := by decide +kernel
theorem dX1_findAtTarget_8 : decode cX1_findAtTarget 8 = .ok (.istore_n 2, 1) := by decide +kernel
theorem dX1_findAtTarget_9 : decode cX1_findAtTarget 9 = .ok (.aload_n 0, 1) := by decide +kernel
theorem dX1_findAtTarget_10 : decode cX1_findAtTarget 10 = .ok (.getfield 9, 3) := by decide +kernel
theorem dX1_findAtTarget_13 : decode cX1_findAtTarget 13 = .ok (.iload_n 2, 1) := by decide +kernel
theorem dX1_findAtTarget_14 : decode cX1_findAtTarget 14 = .ok (.invokevirtual 66, 3) := by decide +kernel
theorem dX1_findAtTarget_17 : decode cX1_findAtTarget 17 = .ok (.ifCond .eq 21, 3) := by decide +kernel
theorem dX1_findAtTarget_20 : decode cX1_findAtTarget 20 = .ok (.aload_n 0, 1) := by decide +kernel
theorem dX1_findAtTarget_21 : decode cX1_findAtTarget 21 = .ok (.getfield 9, 3) := by decide +kernel
theorem dX1_findAtTarget_24 : decode cX1_findAtTarget 24 = .ok (.iload_n 2, 1) := by decide +kernel
theorem dX1_findAtTarget_25 : decode cX1_findAtTarget 25 = .ok (.invokevirtual 34, 3) := by decide +kernel
theorem dX1_findAtTarget_28 : decode cX1_findAtTarget 28 = .ok (.invokevirtual 52, 3) := by decide +kernel
theorem dX1_findAtTarget_31 : decode cX1_findAtTarget 31 = .ok (.ifCond .eq 7, 3) := by decide +kernel
theorem dX1_findAtTarget_34 : decode cX1_findAtTarget 34 = .ok (.iload_n 2, 1) := by decide +kernel
theorem dX1_findAtTarget_35 : decode cX1_findAtTarget 35 = .ok (.goto 4, 3) := by decide +kernel
theorem dX1_findAtTarget_38 : decode cX1_findAtTarget 38 = .ok (.iconst (-1), 1) := by decide +kernel
theorem dX1_findAtTarget_39 : decode cX1_findAtTarget 39 = .ok (.ireturn, 1) := by decide +kernel
theorem dX1_findInFallThrough_0 : decode cX1_findInFallThrough 0 = .ok (.iload_n 1, 1) := by decide +kernel
theorem dX1_findInFallThrough_1 : decode cX1_findInFallThrough 1 = .ok (.iconst 2, 1) := by decide +kernel
theorem dX1_findInFallThrough_2 : decode cX1_findInFallThrough 2 = .ok (.iadd, 1) := by decide +kernel
theorem dX1_findInFallThrough_3 : decode cX1_findInFallThrough 3 = .ok (.istore_n 2, 1) := by decide +kernel
theorem dX1_findInFallThrough_4 : decode cX1_findInFallThrough 4 = .ok (.aload_n 0, 1) := by decide +kernel
theorem dX1_findInFallThrough_5 : decode cX1_findInFallThrough 5 = .ok (.getfield 9, 3) := by decide +kernel
theorem dX1_findInFallThrough_8 : decode cX1_findInFallThrough 8 = .ok (.iload_n 1, 1) := by decide +kernel
theorem dX1_findInFallThrough_9 : decode cX1_findInFallThrough 9 = .ok (.invokevirtual 34, 3) := by decide +kernel
theorem dX1_findInFallThrough_12 : decode cX1_findInFallThrough 12 = .ok (.getfield 69, 3) := by decide +kernel
theorem dX1_findInFallThrough_15 : decode cX1_findInFallThrough 15 = .ok (.ifCond .eq 14, 3) := by decide +kernel
theorem dX1_findInFallThrough_18 : decode cX1_findInFallThrough 18 = .ok (.aload_n 0, 1) := by decide +kernel
theorem dX1_findInFallThrough_19 : decode cX1_findInFallThrough 19 = .ok (.getfield 9, 3) := by decide +kernel
theorem dX1_findInFallThrough_22 : decode cX1_findInFallThrough 22 = .ok (.iload_n 2, 1) := by decide +kernel
theorem dX1_findInFallThrough_23 : decode cX1_findInFallThrough 23 = .ok (.invokevirtual 66, 3) := by decide +kernel
theorem dX1_findInFallThrough_26 : decode cX1_findInFallThrough 26 = .ok (.ifCond .ne 5, 3) := by decide +kernel
theorem dX1_findInFallThrough_29 : decode cX1_findInFallThrough 29 = .ok (.iconst (-1), 1) := by decide +kernel
theorem dX1_findInFallThrough_30 : decode cX1_findInFallThrough 30 = .ok (.ireturn, 1) := by decide +kernel
theorem dX1_findInFallThrough_31 : decode cX1_findInFallThrough 31 = .ok (.aload_n 0, 1) := by decide +kernel
theorem dX1_findInFallThrough_32 : decode cX1_findInFallThrough 32 = .ok (.getfield 9, 3) := by decide +kernel
theorem dX1_findInFallThrough_35 : decode cX1_findInFallThrough 35 = .ok (.iload_n 2, 1) := by decide +kernel
theorem dX1_findInFallThrough_36 : decode cX1_findInFallThrough 36 = .ok (.invokevirtual 34, 3) := by decide +kernel
theorem dX1_findInFallThrough_39 : decode cX1_findInFallThrough 39 = .ok (.astore_n 3, 1) := by decide +kernel
theorem dX1_findInFallThrough_40 : decode cX1_findInFallThrough 40 = .ok (.aload_n 3, 1) := by decide +kernel
theorem dX1_findInFallThrough_41 : decode cX1_findInFallThrough 41 = .ok (.invokevirtual 52, 3) := by decide +kernel
theorem dX1_findInFallThrough_44 : decode cX1_findInFallThrough 44 = .ok (.ifCond .eq 28, 3) := by decide +kernel
theorem dX1_findInFallThrough_47 : decode cX1_findInFallThrough 47 = .ok (.aload_n 3, 1) := by decide +kernel
theorem dX1_findInFallThrough_48 : decode cX1_findInFallThrough 48 = .ok (.getstatic 72, 3) := by decide +kernel
theorem dX1_findInFallThrough_51 : decode cX1_findInFallThrough 51 = .ok (.if_acmp .eq 21, 3) := by decide +kernel
theorem dX1_findInFallThrough_54 : decode cX1_findInFallThrough 54 = .ok (.aload_n 3, 1) := by decide +kernel
theorem dX1_findInFallThrough_55 : decode cX1_findInFallThrough 55 = .ok (.getstatic 75, 3) := by decide +kernel
theorem dX1_findInFallThrough_58 : decode cX1_findInFallThrough 58 = .ok (.if_acmp .eq 14, 3) := by decide +kernel
theorem dX1_findInFallThrough_61 : decode cX1_findInFallThrough 61 = .ok (.aload_n 0, 1) := by decide +kernel
theorem dX1_findInFallThrough_62 : decode cX1_findInFallThrough 62 = .ok (.getfield 9, 3) := by decide +kernel
theorem dX1_findInFallThrough_65 : decode cX1_findInFallThrough 65 = .ok (.iload_n 2, 1) := by decide +kernel
theorem dX1_findInFallThrough_66 : decode cX1_findInFallThrough 66 = .ok (.invokevirtual 29, 3) := by decide +kernel
theorem dX1_findInFallThrough_69 : decode cX1_findInFallThrough 69 = .ok (.ifCond .le 5, 3) := by decide +kernel
theorem dX1_findInFallThrough_72 : decode cX1_findInFallThrough 72 = .ok (.iconst (-1), 1) := by decide +kernel
theorem dX1_findInFallThrough_73 : decode cX1_findInFallThrough 73 = .ok (.ireturn, 1) := by decide +kernel
theorem dX1_findInFallThrough_74 : decode cX1_findInFallThrough 74 = .ok (.aload_n 0, 1) := by decide +kernel
theorem dX1_findInFallThrough_75 : decode cX1_findInFallThrough 75 = .ok (.getfield 15, 3) := by decide +kernel
theorem dX1_findInFallThrough_78 : decode cX1_findInFallThrough 78 = .ok (.aload_n 0, 1) := by decide +kernel
theorem dX1_findInFallThrough_79 : decode cX1_findInFallThrough 79 = .ok (.getfield 9, 3) := by decide +kernel
theorem dX1_findInFallThrough_82 : decode cX1_findInFallThrough 82 = .ok (.iload_n 1, 1) := by decide +kernel
theorem dX1_findInFallThrough_83 : decode cX1_findInFallThrough 83 = .ok (.invokevirtual 63, 3) := by decide +kernel
theorem dX1_findInFallThrough_86 : decode cX1_findInFallThrough 86 = .ok (.invokevirtual 78, 3) := by decide +kernel
theorem dX1_findInFallThrough_89 : decode cX1_findInFallThrough 89 = .ok (.istore 4, 2) := by decide +kernel
theorem dX1_findInFallThrough_91 : decode cX1_findInFallThrough 91 = .ok (.aload_n 0, 1) := by decide +kernel
theorem dX1_findInFallThrough_92 : decode cX1_findInFallThrough 92 = .ok (.getfield 9, 3) := by decide +kernel
theorem dX1_findInFallThrough_95 : decode cX1_findInFallThrough 95 = .ok (.iload_n 2, 1) := by decide +kernel
theorem dX1_findInFallThrough_96 : decode cX1_findInFallThrough 96 = .ok (.invokevirtual 83, 3) := by decide +kernel
theorem dX1_findInFallThrough_99 : decode cX1_findInFallThrough 99 = .ok (.iload 4, 2) := by decide +kernel
theorem dX1_findInFallThrough_101 : decode cX1_findInFallThrough 101 = .ok (.iand, 1) := by decide +kernel
theorem dX1_findInFallThrough_102 : decode cX1_findInFallThrough 102 = .ok (.ifCond .ne 7, 3) := by decide +kernel
theorem dX1_findInFallThrough_105 : decode cX1_findInFallThrough 105 = .ok (.iload_n 2, 1) := by decide +kernel
theorem dX1_findInFallThrough_106 : decode cX1_findInFallThrough 106 = .ok (.goto 4, 3) := by decide +kernel
theorem dX1_findInFallThrough_109 : decode cX1_findInFallThrough 109 = .ok (.iconst (-1), 1) := by decide +kernel
theorem dX1_findInFallThrough_110 : decode cX1_findInFallThrough 110 = .ok (.ireturn, 1) := by decide +kernel
theorem dX1_move_0 : decode cX1_move 0 = .ok (.aload_n 0, 1) := by decide +kernel
theorem dX1_move_1 : decode cX1_move 1 = .ok (.getfield 9, 3) := by decide +kernel
theorem dX1_move_4 : decode cX1_move 4 = .ok (.iload_n 1, 1) := by decide +kernel
theorem dX1_move_5 : decode cX1_move 5 = .ok (.iload_n 2, 1) := by decide +kernel
theorem dX1_move_6 : decode cX1_move 6 = .ok (.iconst 1, 1) := by decide +kernel
theorem dX1_move_7 : decode cX1_move 7 = .ok (.iadd, 1) := by decide +kernel
theorem dX1_move_8 : decode cX1_move 8 = .ok (.invokevirtual 86, 3) := by decide +kernel
theorem dX1_move_11 : decode cX1_move 11 = .ok (.iload_n 3, 1) := by decide +kernel
theorem dX1_move_12 : decode cX1_move 12 = .ok (.iconst 1, 1) := by decide +kernel
theorem dX1_move_13 : decode cX1_move 13 = .ok (.if_icmp .ne 45, 3) := by decide +kernel
theorem dX1_move_16 : decode cX1_move 16 = .ok (.aload_n 0, 1) := by decide +kernel
theorem dX1_move_17 : decode cX1_move 17 = .ok (.getfield 9, 3) := by decide +kernel
theorem dX1_move_20 : decode cX1_move 20 = .ok (.iload_n 2, 1) := by decide +kernel
theorem dX1_move_21 : decode cX1_move 21 = .ok (.iconst 3, 1) := by decide +kernel
theorem dX1_move_22 : decode cX1_move 22 = .ok (.iload_n 1, 1) := by decide +kernel
theorem dX1_move_23 : decode cX1_move 23 = .ok (.iconst 1, 1) := by decide +kernel
theorem dX1_move_24 : decode cX1_move 24 = .ok (.iadd, 1) := by decide +kernel
theorem dX1_move_25 : decode cX1_move 25 = .ok (.invokevirtual 90, 3) := by decide +kernel
theorem dX1_move_28 : decode cX1_move 28 = .ok (.aload_n 0, 1) := by decide +kernel
theorem dX1_move_29 : decode cX1_move 29 = .ok (.getfield 9, 3) := by decide +kernel
theorem dX1_move_32 : decode cX1_move 32 = .ok (.iload_n 2, 1) := by decide +kernel
theorem dX1_move_33 : decode cX1_move 33 = .ok (.iconst 4, 1) := by decide +kernel
theorem dX1_move_34 : decode cX1_move 34 = .ok (.aload_n 0, 1) := by decide +kernel
theorem dX1_move_35 : decode cX1_move 35 = .ok (.getfield 9, 3) := by decide +kernel
theorem dX1_move_38 : decode cX1_move 38 = .ok (.iload_n 2, 1) := by decide +kernel
theorem dX1_move_39 : decode cX1_move 39 = .ok (.invokevirtual 34, 3) := by decide +kernel
theorem dX1_move_42 : decode cX1_move 42 = .ok (.getfield 69, 3) := by decide +kernel
theorem dX1_move_45 : decode cX1_move 45 = .ok (.ifCond .eq 7, 3) := by decide +kernel
theorem dX1_move_48 : decode cX1_move 48 = .ok (.iconst 1, 1) := by decide +kernel
theorem dX1_move_49 : decode cX1_move 49 = .ok (.goto 4, 3) := by decide +kernel
theorem dX1_move_52 : decode cX1_move 52 = .ok (.iconst 0, 1) := by decide +kernel
theorem dX1_move_53 : decode cX1_move 53 = .ok (.invokevirtual 90, 3) := by decide +kernel
theorem dX1_move_56 : decode cX1_move 56 = .ok (.iload_n 2, 1) := by decide +kernel
theorem dX1_move_57 : decode cX1_move 57 = .ok (.ireturn, 1) := by decide +kernel
theorem dX1_move_58 : decode cX1_move 58 = .ok (.aload_n 0, 1) := by decide +kernel
theorem dX1_move_59 : decode cX1_move 59 = .ok (.getfield 9, 3) := by decide +kernel
theorem dX1_move_62 : decode cX1_move 62 = .ok (.iload_n 2, 1) := by decide +kernel
theorem dX1_move_63 : decode cX1_move 63 = .ok (.iconst 4, 1) := by decide +kernel
theorem dX1_move_64 : decode cX1_move 64 = .ok (.iconst 0, 1) := by decide +kernel
theorem dX1_move_65 : decode cX1_move 65 = .ok (.invokevirtual 90, 3) := by decide +kernel
theorem dX1_move_68 : decode cX1_move 68 = .ok (.aload_n 0, 1) := by decide +kernel
theorem dX1_move_69 : decode cX1_move 69 = .ok (.getfield 9, 3) := by decide +kernel
theorem dX1_move_72 : decode cX1_move 72 = .ok (.iload_n 1, 1) := by decide +kernel
theorem dX1_move_73 : decode cX1_move 73 = .ok (.invokevirtual 94, 3) := by decide +kernel
theorem dX1_move_76 : decode cX1_move 76 = .ok (.iload_n 3, 1) := by decide +kernel
theorem dX1_move_77 : decode cX1_move 77 = .ok (.ifCond .ne 9, 3) := by decide +kernel
theorem dX1_move_80 : decode cX1_move 80 = .ok (.iload_n 2, 1) := by decide +kernel
theorem dX1_move_81 : decode cX1_move 81 = .ok (.iconst 1, 1) := by decide +kernel
theorem dX1_move_82 : decode cX1_move 82 = .ok (.isub, 1) := by decide +kernel
theorem dX1_move_83 : decode cX1_move 83 = .ok (.goto 4, 3) := by decide +kernel
theorem dX1_move_86 : decode cX1_move 86 = .ok (.iload_n 2, 1) := by decide +kernel
theorem dX1_move_87 : decode cX1_move 87 = .ok (.ireturn, 1) := by decide +kernel
theorem dX1_fillEach_0 : decode cX1_fillEach 0 = .ok (.iconst 3, 1) := by decide +kernel
theorem dX1_fillEach_1 : decode cX1_fillEach 1 = .ok (.iload_n 1, 1) := by decide +kernel
theorem dX1_fillEach_2 : decode cX1_fillEach 2 = .ok (.isub, 1) := by decide +kernel
theorem dX1_fillEach_3 : decode cX1_fillEach 3 = .ok (.iload_n 2, 1) := by decide +kernel
theorem dX1_fillEach_4 : decode cX1_fillEach 4 = .ok (.isub, 1) := by decide +kernel
theorem dX1_fillEach_5 : decode cX1_fillEach 5 = .ok (.istore_n 3, 1) := by decide +kernel
theorem dX1_fillEach_6 : decode cX1_fillEach 6 = .ok (.iconst 0, 1) := by decide +kernel
theorem dX1_fillEach_7 : decode cX1_fillEach 7 = .ok (.istore 4, 2) := by decide +kernel
theorem dX1_fillEach_9 : decode cX1_fillEach 9 = .ok (.iconst 0, 1) := by decide +kernel
theorem dX1_fillEach_10 : decode cX1_fillEach 10 = .ok (.istore 5, 2) := by decide +kernel
theorem dX1_fillEach_12 : decode cX1_fillEach 12 = .ok (.iconst 0, 1) := by decide +kernel
theorem dX1_fillEach_13 : decode cX1_fillEach 13 = .ok (.istore 6, 2) := by decide +kernel
theorem dX1_fillEach_15 : decode cX1_fillEach 15 = .ok (.iload 6, 2) := by decide +kernel
theorem dX1_fillEach_17 : decode cX1_fillEach 17 = .ok (.bipush 60, 2) := by decide +kernel
theorem dX1_fillEach_19 : decode cX1_fillEach 19 = .ok (.if_icmp .ge 123, 3) := by decide +kernel
theorem dX1_fillEach_22 : decode cX1_fillEach 22 = .ok (.iload 5, 2) := by decide +kernel
theorem dX1_fillEach_24 : decode cX1_fillEach 24 = .ok (.aload_n 0, 1) := by decide +kernel
theorem dX1_fillEach_25 : decode cX1_fillEach 25 = .ok (.getfield 9, 3) := by decide +kernel
theorem dX1_fillEach_28 : decode cX1_fillEach 28 = .ok (.getfield 98, 3) := by decide +kernel
theorem dX1_fillEach_31 : decode cX1_fillEach 31 = .ok (.if_icmp .ge 111, 3) := by decide +kernel
theorem dX1_fillEach_34 : decode cX1_fillEach 34 = .ok (.iconst 0, 1) := by decide +kernel
theorem dX1_fillEach_35 : decode cX1_fillEach 35 = .ok (.istore 7, 2) := by decide +kernel
theorem dX1_fillEach_37 : decode cX1_fillEach 37 = .ok (.iload 7, 2) := by decide +kernel
theorem dX1_fillEach_39 : decode cX1_fillEach 39 = .ok (.iconst 3, 1) := by decide +kernel
theorem dX1_fillEach_40 : decode cX1_fillEach 40 = .ok (.if_icmp .ge 74, 3) := by decide +kernel
theorem dX1_fillEach_43 : decode cX1_fillEach 43 = .ok (.aload_n 0, 1) := by decide +kernel
theorem dX1_fillEach_44 : decode cX1_fillEach 44 = .ok (.getfield 9, 3) := by decide +kernel
theorem dX1_fillEach_47 : decode cX1_fillEach 47 = .ok (.iload 5, 2) := by decide +kernel
theorem dX1_fillEach_49 : decode cX1_fillEach 49 = .ok (.invokevirtual 102, 3) := by decide +kernel
theorem dX1_fillEach_52 : decode cX1_fillEach 52 = .ok (.ifCond .eq 62, 3) := by decide +kernel
theorem dX1_fillEach_55 : decode cX1_fillEach 55 = .ok (.iload 7, 2) := by decide +kernel
theorem dX1_fillEach_57 : decode cX1_fillEach 57 = .ok (.ifCond .ne 7, 3) := by decide +kernel
theorem dX1_fillEach_60 : decode cX1_fillEach 60 = .ok (.iload_n 1, 1) := by decide +kernel
theorem dX1_fillEach_61 : decode cX1_fillEach 61 = .ok (.goto 14, 3) := by decide +kernel
theorem dX1_fillEach_64 : decode cX1_fillEach 64 = .ok (.iload 7, 2) := by decide +kernel
theorem dX1_fillEach_66 : decode cX1_fillEach 66 = .ok (.iconst 1, 1) := by decide +kernel
theorem dX1_fillEach_67 : decode cX1_fillEach 67 = .ok (.if_icmp .ne 7, 3) := by decide +kernel
theorem dX1_fillEach_70 : decode cX1_fillEach 70 = .ok (.iload_n 2, 1) := by decide +kernel
theorem dX1_fillEach_71 : decode cX1_fillEach 71 = .ok (.goto 4, 3) := by decide +kernel
theorem dX1_fillEach_74 : decode cX1_fillEach 74 = .ok (.iload_n 3, 1) := by decide +kernel
theorem dX1_fillEach_75 : decode cX1_fillEach 75 = .ok (.istore 8, 2) := by decide +kernel
theorem dX1_fillEach_77 : decode cX1_fillEach 77 = .ok (.aload_n 0, 1) := by decide +kernel
theorem dX1_fillEach_78 : decode cX1_fillEach 78 = .ok (.iload 5, 2) := by decide +kernel
theorem dX1_fillEach_80 : decode cX1_fillEach 80 = .ok (.iload 8, 2) := by decide +kernel
theorem dX1_fillEach_82 : decode cX1_fillEach 82 = .ok (.invokevirtual 105, 3) := by decide +kernel
theorem dX1_fillEach_85 : decode cX1_fillEach 85 = .ok (.istore 9, 2) := by decide +kernel
theorem dX1_fillEach_87 : decode cX1_fillEach 87 = .ok (.iload 9, 2) := by decide +kernel
theorem dX1_fillEach_89 : decode cX1_fillEach 89 = .ok (.iconst (-1), 1) := by decide +kernel
theorem dX1_fillEach_90 : decode cX1_fillEach 90 = .ok (.if_icmp .eq 18, 3) := by decide +kernel
theorem dX1_fillEach_93 : decode cX1_fillEach 93 = .ok (.aload_n 0, 1) := by decide +kernel
theorem dX1_fillEach_94 : decode cX1_fillEach 94 = .ok (.iload 9, 2) := by decide +kernel
theorem dX1_fillEach_96 : decode cX1_fillEach 96 = .ok (.iload 5, 2) := by decide +kernel
theorem dX1_fillEach_98 : decode cX1_fillEach 98 = .ok (.iload 8, 2) := by decide +kernel
theorem dX1_fillEach_100 : decode cX1_fillEach 100 = .ok (.invokevirtual 109, 3) := by decide +kernel
theorem dX1_fillEach_103 : decode cX1_fillEach 103 = .ok (.istore 5, 2) := by decide +kernel
theorem dX1_fillEach_105 : decode cX1_fillEach 105 = .ok (.iinc 4 1, 3) := by decide +kernel
theorem dX1_fillEach_108 : decode cX1_fillEach 108 = .ok (.iinc 7 1, 3) := by decide +kernel
theorem dX1_fillEach_111 : decode cX1_fillEach 111 = .ok (.goto (-74), 3) := by decide +kernel
theorem dX1_fillEach_114 : decode cX1_fillEach 114 = .ok (.iload 5, 2) := by decide +kernel
theorem dX1_fillEach_116 : decode cX1_fillEach 116 = .ok (.aload_n 0, 1) := by decide +kernel
theorem dX1_fillEach_117 : decode cX1_fillEach 117 = .ok (.getfield 9, 3) := by decide +kernel
theorem dX1_fillEach_120 : decode cX1_fillEach 120 = .ok (.iload 5, 2) := by decide +kernel
theorem dX1_fillEach_122 : decode cX1_fillEach 122 = .ok (.invokevirtual 113, 3) := by decide +kernel
theorem dX1_fillEach_125 : decode cX1_fillEach 125 = .ok (.ifCond .eq 7, 3) := by decide +kernel
theorem dX1_fillEach_128 : decode cX1_fillEach 128 = .ok (.iconst 2, 1) := by decide +kernel
theorem dX1_fillEach_129 : decode cX1_fillEach 129 = .ok (.goto 4, 3) := by decide +kernel
theorem dX1_fillEach_132 : decode cX1_fillEach 132 = .ok (.iconst 1, 1) := by decide +kernel
theorem dX1_fillEach_133 : decode cX1_fillEach 133 = .ok (.iadd, 1) := by decide +kernel
theorem dX1_fillEach_134 : decode cX1_fillEach 134 = .ok (.istore 5, 2) := by decide +kernel
theorem dX1_fillEach_136 : decode cX1_fillEach 136 = .ok (.iinc 6 1, 3) := by decide +kernel
theorem dX1_fillEach_139 : decode cX1_fillEach 139 = .ok (.goto (-124), 3) := by decide +kernel
theorem dX1_fillEach_142 : decode cX1_fillEach 142 = .ok (.iload 4, 2) := by decide +kernel
theorem dX1_fillEach_144 : decode cX1_fillEach 144 = .ok (.ireturn, 1) := by decide +kernel
theorem dX2_init_0 : decode cX2_init 0 = .ok (.aload_n 0, 1) := by decide +kernel
theorem dX2_init_1 : decode cX2_init 1 = .ok (.invokespecial 3, 3) := by decide +kernel
theorem dX2_init_4 : decode cX2_init 4 = .ok (.aload_n 0, 1) := by decide +kernel
theorem dX2_init_5 : decode cX2_init 5 = .ok (.bipush 61, 2) := by decide +kernel
theorem dX2_init_7 : decode cX2_init 7 = .ok (.newarray .int, 2) := by decide +kernel
theorem dX2_init_9 : decode cX2_init 9 = .ok (.putfield 9, 3) := by decide +kernel
theorem dX2_init_12 : decode cX2_init 12 = .ok (.aload_n 0, 1) := by decide +kernel
theorem dX2_init_13 : decode cX2_init 13 = .ok (.bipush 60, 2) := by decide +kernel
theorem dX2_init_15 : decode cX2_init 15 = .ok (.newarray .int, 2) := by decide +kernel
theorem dX2_init_17 : decode cX2_init 17 = .ok (.putfield 15, 3) := by decide +kernel
theorem dX2_init_20 : decode cX2_init 20 = .ok (.aload_n 0, 1) := by decide +kernel
theorem dX2_init_21 : decode cX2_init 21 = .ok (.bipush 60, 2) := by decide +kernel
theorem dX2_init_23 : decode cX2_init 23 = .ok (.newarray .int, 2) := by decide +kernel
theorem dX2_init_25 : decode cX2_init 25 = .ok (.putfield 18, 3) := by decide +kernel
theorem dX2_init_28 : decode cX2_init 28 = .ok (.aload_n 0, 1) := by decide +kernel
theorem dX2_init_29 : decode cX2_init 29 = .ok (.bipush 61, 2) := by decide +kernel
theorem dX2_init_31 : decode cX2_init 31 = .ok (.newarray .boolean, 2) := by decide +kernel
theorem dX2_init_33 : decode cX2_init 33 = .ok (.putfield 21, 3) := by decide +kernel
theorem dX2_init_36 : decode cX2_init 36 = .ok (.aload_n 0, 1) := by decide +kernel
theorem dX2_init_37 : decode cX2_init 37 = .ok (.aload_n 1, 1) := by decide +kernel
theorem dX2_init_38 : decode cX2_init 38 = .ok (.putfield 25, 3) := by decide +kernel
theorem dX2_init_41 : decode cX2_init 41 = .ok (.return_, 1) := by decide +kernel
theorem dX2_liveBefore_0 : decode cX2_liveBefore 0 = .ok (.iconst 0, 1) := by decide +kernel
theorem dX2_liveBefore_1 : decode cX2_liveBefore 1 = .ok (.istore_n 2, 1) := by decide +kernel
theorem dX2_liveBefore_2 : decode cX2_liveBefore 2 = .ok (.iload_n 2, 1) := by decide +kernel
theorem dX2_liveBefore_3 : decode cX2_liveBefore 3 = .ok (.aload_n 0, 1) := by decide +kernel
theorem dX2_liveBefore_4 : decode cX2_liveBefore 4 = .ok (.getfield 25, 3) := by decide +kernel
theorem dX2_liveBefore_7 : decode cX2_liveBefore 7 = .ok (.getfield 29, 3) := by decide +kernel
theorem dX2_liveBefore_10 : decode cX2_liveBefore 10 = .ok (.if_icmp .ge 44, 3) := by decide +kernel
theorem dX2_liveBefore_13 : decode cX2_liveBefore 13 = .ok (.aload_n 0, 1) := by decide +kernel
theorem dX2_liveBefore_14 : decode cX2_liveBefore 14 = .ok (.getfield 15, 3) := by decide +kernel
theorem dX2_liveBefore_17 : decode cX2_liveBefore 17 = .ok (.iload_n 2, 1) := by decide +kernel
theorem dX2_liveBefore_18 : decode cX2_liveBefore 18 = .ok (.aload_n 0, 1) := by decide +kernel
theorem dX2_liveBefore_19 : decode cX2_liveBefore 19 = .ok (.getfield 25, 3) := by decide +kernel
theorem dX2_liveBefore_22 : decode cX2_liveBefore 22 = .ok (.iload_n 2, 1) := by decide +kernel
theorem dX2_liveBefore_23 : decode cX2_liveBefore 23 = .ok (.invokevirtual 35, 3) := by decide +kernel
theorem dX2_liveBefore_26 : decode cX2_liveBefore 26 = .ok (.iastore, 1) := by decide +kernel
theorem dX2_liveBefore_27 : decode cX2_liveBefore 27 = .ok (.aload_n 0, 1) := by decide +kernel
theorem dX2_liveBefore_28 : decode cX2_liveBefore 28 = .ok (.getfield 18, 3) := by decide +kernel
theorem dX2_liveBefore_31 : decode cX2_liveBefore 31 = .ok (.iload_n 2, 1) := by decide +kernel
theorem dX2_liveBefore_32 : decode cX2_liveBefore 32 = .ok (.aload_n 0, 1) := by decide +kernel
theorem dX2_liveBefore_33 : decode cX2_liveBefore 33 = .ok (.getfield 25, 3) := by decide +kernel
theorem dX2_liveBefore_36 : decode cX2_liveBefore 36 = .ok (.iload_n 2, 1) := by decide +kernel
theorem dX2_liveBefore_37 : decode cX2_liveBefore 37 = .ok (.invokevirtual 39, 3) := by decide +kernel
theorem dX2_liveBefore_40 : decode cX2_liveBefore 40 = .ok (.iastore, 1) := by decide +kernel
theorem dX2_liveBefore_41 : decode cX2_liveBefore 41 = .ok (.aload_n 0, 1) := by decide +kernel
theorem dX2_liveBefore_42 : decode cX2_liveBefore 42 = .ok (.getfield 9, 3) := by decide +kernel
theorem dX2_liveBefore_45 : decode cX2_liveBefore 45 = .ok (.iload_n 2, 1) := by decide +kernel
theorem dX2_liveBefore_46 : decode cX2_liveBefore 46 = .ok (.iconst 0, 1) := by decide +kernel
theorem dX2_liveBefore_47 : decode cX2_liveBefore 47 = .ok (.iastore, 1) := by decide +kernel
theorem dX2_liveBefore_48 : decode cX2_liveBefore 48 = .ok (.iinc 2 1, 3) := by decide +kernel
theorem dX2_liveBefore_51 : decode cX2_liveBefore 51 = .ok (.goto (-49), 3) := by decide +kernel
theorem dX2_liveBefore_54 : decode cX2_liveBefore 54 = .ok (.aload_n 0, 1) := by decide +kernel
theorem dX2_liveBefore_55 : decode cX2_liveBefore 55 = .ok (.getfield 9, 3) := by decide +kernel
theorem dX2_liveBefore_58 : decode cX2_liveBefore 58 = .ok (.aload_n 0, 1) := by decide +kernel
theorem dX2_liveBefore_59 : decode cX2_liveBefore 59 = .ok (.getfield 25, 3) := by decide +kernel
theorem dX2_liveBefore_62 : decode cX2_liveBefore 62 = .ok (.getfield 29, 3) := by decide +kernel
theorem dX2_liveBefore_65 : decode cX2_liveBefore 65 = .ok (.iconst 0, 1) := by decide +kernel
theorem dX2_liveBefore_66 : decode cX2_liveBefore 66 = .ok (.iastore, 1) := by decide +kernel
theorem dX2_liveBefore_67 : decode cX2_liveBefore 67 = .ok (.iconst 1, 1) := by decide +kernel
theorem dX2_liveBefore_68 : decode cX2_liveBefore 68 = .ok (.istore_n 2, 1) := by decide +kernel
theorem dX2_liveBefore_69 : decode cX2_liveBefore 69 = .ok (.iconst 0, 1) := by decide +kernel
theorem dX2_liveBefore_70 : decode cX2_liveBefore 70 = .ok (.istore_n 3, 1) := by decide +kernel
theorem dX2_liveBefore_71 : decode cX2_liveBefore 71 = .ok (.iload_n 2, 1) := by decide +kernel
theorem dX2_liveBefore_72 : decode cX2_liveBefore 72 = .ok (.ifCond .eq 95, 3) := by decide +kernel
theorem dX2_liveBefore_75 : decode cX2_liveBefore 75 = .ok (.iload_n 3, 1) := by decide +kernel
theorem dX2_liveBefore_76 : decode cX2_liveBefore 76 = .ok (.sipush 480, 3) := by decide +kernel
theorem dX2_liveBefore_79 : decode cX2_liveBefore 79 = .ok (.if_icmp .gt 88, 3) := by decide +kernel
theorem dX2_liveBefore_82 : decode cX2_liveBefore 82 = .ok (.iconst 0, 1) := by decide +kernel
theorem dX2_liveBefore_83 : decode cX2_liveBefore 83 = .ok (.istore_n 2, 1) := by decide +kernel
theorem dX2_liveBefore_84 : decode cX2_liveBefore 84 = .ok (.aload_n 0, 1) := by decide +kernel
theorem dX2_liveBefore_85 : decode cX2_liveBefore 85 = .ok (.getfield 25, 3) := by decide +kernel
theorem dX2_liveBefore_88 : decode cX2_liveBefore 88 = .ok (.getfield 29, 3) := by decide +kernel
theorem dX2_liveBefore_91 : decode cX2_liveBefore 91 = .ok (.iconst 1, 1) := by decide +kernel
theorem dX2_liveBefore_92 : decode cX2_liveBefore 92 = .ok (.isub, 1) := by decide +kernel
theorem dX2_liveBefore_93 : decode cX2_liveBefore 93 = .ok (.istore 4, 2) := by decide +kernel
theorem dX2_liveBefore_95 : decode cX2_liveBefore 95 = .ok (.iload 4, 2) := by decide +kernel
theorem dX2_liveBefore_97 : decode cX2_liveBefore 97 = .ok (.ifCond .lt 64, 3) := by decide +kernel
theorem dX2_liveBefore_100 : decode cX2_liveBefore 100 = .ok (.aload_n 0, 1) := by decide +kernel
theorem dX2_liveBefore_101 : decode cX2_liveBefore 101 = .ok (.getfield 25, 3) := by decide +kernel
theorem dX2_liveBefore_104 : decode cX2_liveBefore 104 = .ok (.iload 4, 2) := by decide +kernel
theorem dX2_liveBefore_106 : decode cX2_liveBefore 106 = .ok (.invokevirtual 42, 3) := by decide +kernel
theorem dX2_liveBefore_109 : decode cX2_liveBefore 109 = .ok (.ifCond .eq 7, 3) := by decide +kernel
theorem dX2_liveBefore_112 : decode cX2_liveBefore 112 = .ok (.iconst 0, 1) := by decide +kernel
theorem dX2_liveBefore_113 : decode cX2_liveBefore 113 = .ok (.goto 9, 3) := by decide +kernel
theorem dX2_liveBefore_116 : decode cX2_liveBefore 116 = .ok (.aload_n 0, 1) := by decide +kernel
theorem dX2_liveBefore_117 : decode cX2_liveBefore 117 = .ok (.iload 4, 2) := by decide +kernel
theorem dX2_liveBefore_119 : decode cX2_liveBefore 119 = .ok (.invokevirtual 46, 3) := by decide +kernel
theorem dX2_liveBefore_122 : decode cX2_liveBefore 122 = .ok (.istore 5, 2) := by decide +kernel
theorem dX2_liveBefore_124 : decode cX2_liveBefore 124 = .ok (.iload_n 2, 1) := by decide +kernel
theorem dX2_liveBefore_125 : decode cX2_liveBefore 125 = .ok (.ifCond .ne 15, 3) := by decide +kernel
theorem dX2_liveBefore_128 : decode cX2_liveBefore 128 = .ok (.iload 5, 2) := by decide +kernel
theorem dX2_liveBefore_130 : decode cX2_liveBefore 130 = .ok (.aload_n 0, 1) := by decide +kernel
theorem dX2_liveBefore_131 : decode cX2_liveBefore 131 = .ok (.getfield 9, 3) := by decide +kernel
theorem dX2_liveBefore_134 : decode cX2_liveBefore 134 = .ok (.iload 4, 2) := by decide +kernel
theorem dX2_liveBefore_136 : decode cX2_liveBefore 136 = .ok (.iaload, 1) := by decide +kernel
theorem dX2_liveBefore_137 : decode cX2_liveBefore 137 = .ok (.if_icmp .eq 7, 3) := by decide +kernel
theorem dX2_liveBefore_140 : decode cX2_liveBefore 140 = .ok (.iconst 1, 1) := by decide +kernel
theorem dX2_liveBefore_141 : decode cX2_liveBefore 141 = .ok (.goto 4, 3) := by decide +kernel
theorem dX2_liveBefore_144 : decode cX2_liveBefore 144 = .ok (.iconst 0, 1) := by decide +kernel
theorem dX2_liveBefore_145 : decode cX2_liveBefore 145 = .ok (.istore_n 2, 1) := by decide +kernel
theorem dX2_liveBefore_146 : decode cX2_liveBefore 146 = .ok (.aload_n 0, 1) := by decide +kernel
theorem dX2_liveBefore_147 : decode cX2_liveBefore 147 = .ok (.getfield 9, 3) := by decide +kernel
theorem dX2_liveBefore_150 : decode cX2_liveBefore 150 = .ok (.iload 4, 2) := by decide +kernel
theorem dX2_liveBefore_152 : decode cX2_liveBefore 152 = .ok (.iload 5, 2) := by decide +kernel
theorem dX2_liveBefore_154 : decode cX2_liveBefore 154 = .ok (.iastore, 1) := by decide +kernel
theorem dX2_liveBefore_155 : decode cX2_liveBefore 155 = .ok (.iinc 4 (-1), 3) := by decide +kernel
theorem dX2_liveBefore_158 : decode cX2_liveBefore 158 = .ok (.goto (-63), 3) := by decide +kernel
theorem dX2_liveBefore_161 : decode cX2_liveBefore 161 = .ok (.iinc 3 1, 3) := by decide +kernel
theorem dX2_liveBefore_164 : decode cX2_liveBefore 164 = .ok (.goto (-93), 3) := by decide +kernel
theorem dX2_liveBefore_167 : decode cX2_liveBefore 167 = .ok (.aload_n 0, 1) := by decide +kernel
theorem dX2_liveBefore_168 : decode cX2_liveBefore 168 = .ok (.getfield 9, 3) := by decide +kernel
theorem dX2_liveBefore_171 : decode cX2_liveBefore 171 = .ok (.iload_n 1, 1) := by decide +kernel
theorem dX2_liveBefore_172 : decode cX2_liveBefore 172 = .ok (.iaload, 1) := by decide +kernel
theorem dX2_liveBefore_173 : decode cX2_liveBefore 173 = .ok (.ireturn, 1) := by decide +kernel
theorem dX2_liveFromFollowing_0 : decode cX2_liveFromFollowing 0 = .ok (.aload_n 0, 1) := by decide +kernel
theorem dX2_liveFromFollowing_1 : decode cX2_liveFromFollowing 1 = .ok (.getfield 25, 3) := by decide +kernel
theorem dX2_liveFromFollowing_4 : decode cX2_liveFromFollowing 4 = .ok (.iload_n 1, 1) := by decide +kernel
theorem dX2_liveFromFollowing_5 : decode cX2_liveFromFollowing 5 = .ok (.invokevirtual 49, 3) := by decide +kernel
theorem dX2_liveFromFollowing_8 : decode cX2_liveFromFollowing 8 = .ok (.astore_n 2, 1) := by decide +kernel
theorem dX2_liveFromFollowing_9 : decode cX2_liveFromFollowing 9 = .ok (.aload_n 2, 1) := by decide +kernel
theorem dX2_liveFromFollowing_10 : decode cX2_liveFromFollowing 10 = .ok (.getstatic 53, 3) := by decide +kernel
theorem dX2_liveFromFollowing_13 : decode cX2_liveFromFollowing 13 = .ok (.if_acmp .ne 5, 3) := by decide +kernel
theorem dX2_liveFromFollowing_16 : decode cX2_liveFromFollowing 16 = .ok (.iconst 0, 1) := by decide +kernel
theorem dX2_liveFromFollowing_17 : decode cX2_liveFromFollowing 17 = .ok (.ireturn, 1) := by decide +kernel
theorem dX2_liveFromFollowing_18 : decode cX2_liveFromFollowing 18 = .ok (.aload_n 2, 1) := by decide +kernel
theorem dX2_liveFromFollowing_19 : decode cX2_liveFromFollowing 19 = .ok (.getfield 59, 3) := by decide +kernel
theorem dX2_liveFromFollowing_22 : decode cX2_liveFromFollowing 22 = .ok (.ifCond .ne 17, 3) := by decide +kernel
theorem dX2_liveFromFollowing_25 : decode cX2_liveFromFollowing 25 = .ok (.aload_n 0, 1) := by decide +kernel
theorem dX2_liveFromFollowing_26 : decode cX2_liveFromFollowing 26 = .ok (.iload_n 1, 1) := by decide +kernel
theorem dX2_liveFromFollowing_27 : decode cX2_liveFromFollowing 27 = .ok (.aload_n 0, 1) := by decide +kernel
theorem dX2_liveFromFollowing_28 : decode cX2_liveFromFollowing 28 = .ok (.getfield 9, 3) := by decide +kernel
theorem dX2_liveFromFollowing_31 : decode cX2_liveFromFollowing 31 = .ok (.iload_n 1, 1) := by decide +kernel
theorem dX2_liveFromFollowing_32 : decode cX2_liveFromFollowing 32 = .ok (.iconst 1, 1) := by decide +kernel
theorem dX2_liveFromFollowing_33 : decode cX2_liveFromFollowing 33 = .ok (.iadd, 1) := by decide +kernel
theorem dX2_liveFromFollowing_34 : decode cX2_liveFromFollowing 34 = .ok (.iaload, 1) := by decide +kernel
theorem dX2_liveFromFollowing_35 : decode cX2_liveFromFollowing 35 = .ok (.invokevirtual 63, 3) := by decide +kernel
theorem dX2_liveFromFollowing_38 : decode cX2_liveFromFollowing 38 = .ok (.ireturn, 1) := by decide +kernel
theorem dX2_liveFromFollowing_39 : decode cX2_liveFromFollowing 39 = .ok (.aload_n 0, 1) := by decide +kernel
theorem dX2_liveFromFollowing_40 : decode cX2_liveFromFollowing 40 = .ok (.getfield 15, 3) := by decide +kernel
theorem dX2_liveFromFollowing_43 : decode cX2_liveFromFollowing 43 = .ok (.iload_n 1, 1) := by decide +kernel
theorem dX2_liveFromFollowing_44 : decode cX2_liveFromFollowing 44 = .ok (.iaload, 1) := by decide +kernel
theorem dX2_liveFromFollowing_45 : decode cX2_liveFromFollowing 45 = .ok (.aload_n 0, 1) := by decide +kernel
theorem dX2_liveFromFollowing_46 : decode cX2_liveFromFollowing 46 = .ok (.iload_n 1, 1) := by decide +kernel
theorem dX2_liveFromFollowing_47 : decode cX2_liveFromFollowing 47 = .ok (.iconst 1, 1) := by decide +kernel
theorem dX2_liveFromFollowing_48 : decode cX2_liveFromFollowing 48 = .ok (.iadd, 1) := by decide +kernel
theorem dX2_liveFromFollowing_49 : decode cX2_liveFromFollowing 49 = .ok (.aload_n 0, 1) := by decide +kernel
theorem dX2_liveFromFollowing_50 : decode cX2_liveFromFollowing 50 = .ok (.getfield 9, 3) := by decide +kernel
theorem dX2_liveFromFollowing_53 : decode cX2_liveFromFollowing 53 = .ok (.aload_n 0, 1) := by decide +kernel
theorem dX2_liveFromFollowing_54 : decode cX2_liveFromFollowing 54 = .ok (.getfield 25, 3) := by decide +kernel
theorem dX2_liveFromFollowing_57 : decode cX2_liveFromFollowing 57 = .ok (.iload_n 1, 1) := by decide +kernel
theorem dX2_liveFromFollowing_58 : decode cX2_liveFromFollowing 58 = .ok (.invokevirtual 67, 3) := by decide +kernel
theorem dX2_liveFromFollowing_61 : decode cX2_liveFromFollowing 61 = .ok (.iaload, 1) := by decide +kernel
theorem dX2_liveFromFollowing_62 : decode cX2_liveFromFollowing 62 = .ok (.invokevirtual 63, 3) := by decide +kernel
theorem dX2_liveFromFollowing_65 : decode cX2_liveFromFollowing 65 = .ok (.ior, 1) := by decide +kernel
theorem dX2_liveFromFollowing_66 : decode cX2_liveFromFollowing 66 = .ok (.istore_n 3, 1) := by decide +kernel
theorem dX2_liveFromFollowing_67 : decode cX2_liveFromFollowing 67 = .ok (.aload_n 2, 1) := by decide +kernel
theorem dX2_liveFromFollowing_68 : decode cX2_liveFromFollowing 68 = .ok (.getfield 70, 3) := by decide +kernel
theorem dX2_liveFromFollowing_71 : decode cX2_liveFromFollowing 71 = .ok (.ifCond .eq 43, 3) := by decide +kernel
theorem dX2_liveFromFollowing_74 : decode cX2_liveFromFollowing 74 = .ok (.iload_n 3, 1) := by decide +kernel
theorem dX2_liveFromFollowing_75 : decode cX2_liveFromFollowing 75 = .ok (.aload_n 0, 1) := by decide +kernel
theorem dX2_liveFromFollowing_76 : decode cX2_liveFromFollowing 76 = .ok (.getfield 25, 3) := by decide +kernel
theorem dX2_liveFromFollowing_79 : decode cX2_liveFromFollowing 79 = .ok (.iload_n 1, 1) := by decide +kernel
theorem dX2_liveFromFollowing_80 : decode cX2_liveFromFollowing 80 = .ok (.invokevirtual 73, 3) := by decide +kernel
theorem dX2_liveFromFollowing_83 : decode cX2_liveFromFollowing 83 = .ok (.ifCond .eq 14, 3) := by decide +kernel
theorem dX2_liveFromFollowing_86 : decode cX2_liveFromFollowing 86 = .ok (.aload_n 0, 1) := by decide +kernel
theorem dX2_liveFromFollowing_87 : decode cX2_liveFromFollowing 87 = .ok (.getfield 9, 3) := by decide +kernel
theorem dX2_liveFromFollowing_90 : decode cX2_liveFromFollowing 90 = .ok (.iload_n 1, 1) := by decide +kernel
theorem dX2_liveFromFollowing_91 : decode cX2_liveFromFollowing 91 = .ok (.iconst 2, 1) := by decide +kernel
theorem dX2_liveFromFollowing_92 : decode cX2_liveFromFollowing 92 = .ok (.iadd, 1) := by decide +kernel
theorem dX2_liveFromFollowing_93 : decode cX2_liveFromFollowing 93 = .ok (.iaload, 1) := by decide +kernel
theorem dX2_liveFromFollowing_94 : decode cX2_liveFromFollowing 94 = .ok (.goto 18, 3) := by decide +kernel
theorem dX2_liveFromFollowing_97 : decode cX2_liveFromFollowing 97 = .ok (.aload_n 0, 1) := by decide +kernel
theorem dX2_liveFromFollowing_98 : decode cX2_liveFromFollowing 98 = .ok (.iload_n 1, 1) := by decide +kernel
theorem dX2_liveFromFollowing_99 : decode cX2_liveFromFollowing 99 = .ok (.iconst 1, 1) := by decide +kernel
theorem dX2_liveFromFollowing_100 : decode cX2_liveFromFollowing 100 = .ok (.iadd, 1) := by decide +kernel
theorem dX2_liveFromFollowing_101 : decode cX2_liveFromFollowing 101 = .ok (.aload_n 0, 1) := by decide +kernel
theorem dX2_liveFromFollowing_102 : decode cX2_liveFromFollowing 102 = .ok (.getfield 9, 3) := by decide +kernel
theorem dX2_liveFromFollowing_105 : decode cX2_liveFromFollowing 105 = .ok (.iload_n 1, 1) := by decide +kernel
theorem dX2_liveFromFollowing_106 : decode cX2_liveFromFollowing 106 = .ok (.iconst 2, 1) := by decide +kernel
theorem dX2_liveFromFollowing_107 : decode cX2_liveFromFollowing 107 = .ok (.iadd, 1) := by decide +kernel
theorem dX2_liveFromFollowing_108 : decode cX2_liveFromFollowing 108 = .ok (.iaload, 1) := by decide +kernel
theorem dX2_liveFromFollowing_109 : decode cX2_liveFromFollowing 109 = .ok (.invokevirtual 63, 3) := by decide +kernel
theorem dX2_liveFromFollowing_112 : decode cX2_liveFromFollowing 112 = .ok (.ior, 1) := by decide +kernel
theorem dX2_liveFromFollowing_113 : decode cX2_liveFromFollowing 113 = .ok (.istore_n 3, 1) := by decide +kernel
theorem dX2_liveFromFollowing_114 : decode cX2_liveFromFollowing 114 = .ok (.iload_n 3, 1) := by decide +kernel
theorem dX2_liveFromFollowing_115 : decode cX2_liveFromFollowing 115 = .ok (.ireturn, 1) := by decide +kernel
theorem dX2_liveThrough_0 : decode cX2_liveThrough 0 = .ok (.aload_n 0, 1) := by decide +kernel
theorem dX2_liveThrough_1 : decode cX2_liveThrough 1 = .ok (.getfield 15, 3) := by decide +kernel
theorem dX2_liveThrough_4 : decode cX2_liveThrough 4 = .ok (.iload_n 1, 1) := by decide +kernel
theorem dX2_liveThrough_5 : decode cX2_liveThrough 5 = .ok (.iaload, 1) := by decide +kernel
theorem dX2_liveThrough_6 : decode cX2_liveThrough 6 = .ok (.iload_n 2, 1) := by decide +kernel
theorem dX2_liveThrough_7 : decode cX2_liveThrough 7 = .ok (.aload_n 0, 1) := by decide +kernel
theorem dX2_liveThrough_8 : decode cX2_liveThrough 8 = .ok (.getfield 18, 3) := by decide +kernel
theorem dX2_liveThrough_11 : decode cX2_liveThrough 11 = .ok (.iload_n 1, 1) := by decide +kernel
theorem dX2_liveThrough_12 : decode cX2_liveThrough 12 = .ok (.iaload, 1) := by decide +kernel
theorem dX2_liveThrough_13 : decode cX2_liveThrough 13 = .ok (.iconst (-1), 1) := by decide +kernel
theorem dX2_liveThrough_14 : decode cX2_liveThrough 14 = .ok (.ixor, 1) := by decide +kernel
theorem dX2_liveThrough_15 : decode cX2_liveThrough 15 = .ok (.iand, 1) := by decide +kernel
theorem dX2_liveThrough_16 : decode cX2_liveThrough 16 = .ok (.ior, 1) := by decide +kernel
theorem dX2_liveThrough_17 : decode cX2_liveThrough 17 = .ok (.ireturn, 1) := by decide +kernel
theorem dX2_unreachable_0 : decode cX2_unreachable 0 = .ok (.iconst 0, 1) := by decide +kernel
theorem dX2_unreachable_1 : decode cX2_unreachable 1 = .ok (.istore_n 1, 1) := by decide +kernel
theorem dX2_unreachable_2 : decode cX2_unreachable 2 = .ok (.iload_n 1, 1) := by decide +kernel
theorem dX2_unreachable_3 : decode cX2_unreachable 3 = .ok (.aload_n 0, 1) := by decide +kernel
theorem dX2_unreachable_4 : decode cX2_unreachable 4 = .ok (.getfield 25, 3) := by decide +kernel
theorem dX2_unreachable_7 : decode cX2_unreachable 7 = .ok (.getfield 29, 3) := by decide +kernel
theorem dX2_unreachable_10 : decode cX2_unreachable 10 = .ok (.if_icmp .gt 16, 3) := by decide +kernel
theorem dX2_unreachable_13 : decode cX2_unreachable 13 = .ok (.aload_n 0, 1) := by decide +kernel
theorem dX2_unreachable_14 : decode cX2_unreachable 14 = .ok (.getfield 21, 3) := by decide +kernel
theorem dX2_unreachable_17 : decode cX2_unreachable 17 = .ok (.iload_n 1, 1) := by decide +kernel
theorem dX2_unreachable_18 : decode cX2_unreachable 18 = .ok (.iconst 0, 1) := by decide +kernel
theorem dX2_unreachable_19 : decode cX2_unreachable 19 = .ok (.bastore, 1) := by decide +kernel
theorem dX2_unreachable_20 : decode cX2_unreachable 20 = .ok (.iinc 1 1, 3) := by decide +kernel
theorem dX2_unreachable_23 : decode cX2_unreachable 23 = .ok (.goto (-21), 3) := by decide +kernel
theorem dX2_unreachable_26 : decode cX2_unreachable 26 = .ok (.aload_n 0, 1) := by decide +kernel
theorem dX2_unreachable_27 : decode cX2_unreachable 27 = .ok (.getfield 21, 3) := by decide +kernel
theorem dX2_unreachable_30 : decode cX2_unreachable 30 = .ok (.iconst 0, 1) := by decide +kernel
theorem dX2_unreachable_31 : decode cX2_unreachable 31 = .ok (.iconst 1, 1) := by decide +kernel
theorem dX2_unreachable_32 : decode cX2_unreachable 32 = .ok (.bastore, 1) := by decide +kernel
theorem dX2_unreachable_33 : decode cX2_unreachable 33 = .ok (.iconst 1, 1) := by decide +kernel
theorem dX2_unreachable_34 : decode cX2_unreachable 34 = .ok (.istore_n 1, 1) := by decide +kernel
theorem dX2_unreachable_35 : decode cX2_unreachable 35 = .ok (.iconst 0, 1) := by decide +kernel
theorem dX2_unreachable_36 : decode cX2_unreachable 36 = .ok (.istore_n 2, 1) := by decide +kernel
theorem dX2_unreachable_37 : decode cX2_unreachable 37 = .ok (.iload_n 1, 1) := by decide +kernel
theorem dX2_unreachable_38 : decode cX2_unreachable 38 = .ok (.ifCond .eq 20, 3) := by decide +kernel
theorem dX2_unreachable_41 : decode cX2_unreachable 41 = .ok (.iload_n 2, 1) := by decide +kernel
theorem dX2_unreachable_42 : decode cX2_unreachable 42 = .ok (.bipush 60, 2) := by decide +kernel
theorem dX2_unreachable_44 : decode cX2_unreachable 44 = .ok (.if_icmp .gt 14, 3) := by decide +kernel
theorem dX2_unreachable_47 : decode cX2_unreachable 47 = .ok (.aload_n 0, 1) := by decide +kernel
theorem dX2_unreachable_48 : decode cX2_unreachable 48 = .ok (.invokevirtual 76, 3) := by decide +kernel
theorem dX2_unreachable_51 : decode cX2_unreachable 51 = .ok (.istore_n 1, 1) := by decide +kernel
theorem dX2_unreachable_52 : decode cX2_unreachable 52 = .ok (.iinc 2 1, 3) := by decide +kernel
theorem dX2_unreachable_55 : decode cX2_unreachable 55 = .ok (.goto (-18), 3) := by decide +kernel
theorem dX2_unreachable_58 : decode cX2_unreachable 58 = .ok (.iconst 0, 1) := by decide +kernel
theorem dX2_unreachable_59 : decode cX2_unreachable 59 = .ok (.istore_n 2, 1) := by decide +kernel
theorem dX2_unreachable_60 : decode cX2_unreachable 60 = .ok (.iconst 0, 1) := by decide +kernel
theorem dX2_unreachable_61 : decode cX2_unreachable 61 = .ok (.istore_n 3, 1) := by decide +kernel
theorem dX2_unreachable_62 : decode cX2_unreachable 62 = .ok (.iload_n 3, 1) := by decide +kernel
theorem dX2_unreachable_63 : decode cX2_unreachable 63 = .ok (.aload_n 0, 1) := by decide +kernel
theorem dX2_unreachable_64 : decode cX2_unreachable 64 = .ok (.getfield 25, 3) := by decide +kernel
theorem dX2_unreachable_67 : decode cX2_unreachable 67 = .ok (.getfield 29, 3) := by decide +kernel
theorem dX2_unreachable_70 : decode cX2_unreachable 70 = .ok (.if_icmp .ge 32, 3) := by decide +kernel
theorem dX2_unreachable_73 : decode cX2_unreachable 73 = .ok (.aload_n 0, 1) := by decide +kernel
theorem dX2_unreachable_74 : decode cX2_unreachable 74 = .ok (.getfield 25, 3) := by decide +kernel
theorem dX2_unreachable_77 : decode cX2_unreachable 77 = .ok (.iload_n 3, 1) := by decide +kernel
theorem dX2_unreachable_78 : decode cX2_unreachable 78 = .ok (.invokevirtual 42, 3) := by decide +kernel
theorem dX2_unreachable_81 : decode cX2_unreachable 81 = .ok (.ifCond .ne 15, 3) := by decide +kernel
theorem dX2_unreachable_84 : decode cX2_unreachable 84 = .ok (.aload_n 0, 1) := by decide +kernel
theorem dX2_unreachable_85 : decode cX2_unreachable 85 = .ok (.getfield 21, 3) := by decide +kernel
theorem dX2_unreachable_88 : decode cX2_unreachable 88 = .ok (.iload_n 3, 1) := by decide +kernel
theorem dX2_unreachable_89 : decode cX2_unreachable 89 = .ok (.baload, 1) := by decide +kernel
theorem dX2_unreachable_90 : decode cX2_unreachable 90 = .ok (.ifCond .ne 6, 3) := by decide +kernel
theorem dX2_unreachable_93 : decode cX2_unreachable 93 = .ok (.iinc 2 1, 3) := by decide +kernel
theorem dX2_unreachable_96 : decode cX2_unreachable 96 = .ok (.iinc 3 1, 3) := by decide +kernel
theorem dX2_unreachable_99 : decode cX2_unreachable 99 = .ok (.goto (-37), 3) := by decide +kernel
theorem dX2_unreachable_102 : decode cX2_unreachable 102 = .ok (.iload_n 2, 1) := by decide +kernel
theorem dX2_unreachable_103 : decode cX2_unreachable 103 = .ok (.ireturn, 1) := by decide +kernel
theorem dX2_growReached_0 : decode cX2_growReached 0 = .ok (.iconst 0, 1) := by decide +kernel
theorem dX2_growReached_1 : decode cX2_growReached 1 = .ok (.istore_n 1, 1) := by decide +kernel
theorem dX2_growReached_2 : decode cX2_growReached 2 = .ok (.iconst 0, 1) := by decide +kernel
theorem dX2_growReached_3 : decode cX2_growReached 3 = .ok (.istore_n 2, 1) := by decide +kernel
theorem dX2_growReached_4 : decode cX2_growReached 4 = .ok (.iload_n 2, 1) := by decide +kernel
theorem dX2_growReached_5 : decode cX2_growReached 5 = .ok (.aload_n 0, 1) := by decide +kernel
theorem dX2_growReached_6 : decode cX2_growReached 6 = .ok (.getfield 25, 3) := by decide +kernel
theorem dX2_growReached_9 : decode cX2_growReached 9 = .ok (.getfield 29, 3) := by decide +kernel
theorem dX2_growReached_12 : decode cX2_growReached 12 = .ok (.if_icmp .ge 123, 3) := by decide +kernel
theorem dX2_growReached_15 : decode cX2_growReached 15 = .ok (.aload_n 0, 1) := by decide +kernel
theorem dX2_growReached_16 : decode cX2_growReached 16 = .ok (.getfield 21, 3) := by decide +kernel
theorem dX2_growReached_19 : decode cX2_growReached 19 = .ok (.iload_n 2, 1) := by decide +kernel
theorem dX2_growReached_20 : decode cX2_growReached 20 = .ok (.baload, 1) := by decide +kernel
theorem dX2_growReached_21 : decode cX2_growReached 21 = .ok (.ifCond .ne 6, 3) := by decide +kernel
theorem dX2_growReached_24 : decode cX2_growReached 24 = .ok (.goto 105, 3) := by decide +kernel
theorem dX2_growReached_27 : decode cX2_growReached 27 = .ok (.aload_n 0, 1) := by decide +kernel
theorem dX2_growReached_28 : decode cX2_growReached 28 = .ok (.getfield 25, 3) := by decide +kernel
theorem dX2_growReached_31 : decode cX2_growReached 31 = .ok (.iload_n 2, 1) := by decide +kernel
theorem dX2_growReached_32 : decode cX2_growReached 32 = .ok (.invokevirtual 49, 3) := by decide +kernel
theorem dX2_growReached_35 : decode cX2_growReached 35 = .ok (.astore_n 3, 1) := by decide +kernel
theorem dX2_growReached_36 : decode cX2_growReached 36 = .ok (.aload_n 3, 1) := by decide +kernel
theorem dX2_growReached_37 : decode cX2_growReached 37 = .ok (.getfield 59, 3) := by decide +kernel
theorem dX2_growReached_40 : decode cX2_growReached 40 = .ok (.ifCond .eq 28, 3) := by decide +kernel
theorem dX2_growReached_43 : decode cX2_growReached 43 = .ok (.aload_n 0, 1) := by decide +kernel
theorem dX2_growReached_44 : decode cX2_growReached 44 = .ok (.aload_n 0, 1) := by decide +kernel
theorem dX2_growReached_45 : decode cX2_growReached 45 = .ok (.getfield 25, 3) := by decide +kernel
theorem dX2_growReached_48 : decode cX2_growReached 48 = .ok (.iload_n 2, 1) := by decide +kernel
theorem dX2_growReached_49 : decode cX2_growReached 49 = .ok (.invokevirtual 67, 3) := by decide +kernel
theorem dX2_growReached_52 : decode cX2_growReached 52 = .ok (.invokevirtual 80, 3) := by decide +kernel
theorem dX2_growReached_55 : decode cX2_growReached 55 = .ok (.ifCond .ne 7, 3) := by decide +kernel
theorem dX2_growReached_58 : decode cX2_growReached 58 = .ok (.iload_n 1, 1) := by decide +kernel
theorem dX2_growReached_59 : decode cX2_growReached 59 = .ok (.ifCond .eq 7, 3) := by decide +kernel
theorem dX2_growReached_62 : decode cX2_growReached 62 = .ok (.iconst 1, 1) := by decide +kernel
theorem dX2_growReached_63 : decode cX2_growReached 63 = .ok (.goto 4, 3) := by decide +kernel
theorem dX2_growReached_66 : decode cX2_growReached 66 = .ok (.iconst 0, 1) := by decide +kernel
theorem dX2_growReached_67 : decode cX2_growReached 67 = .ok (.istore_n 1, 1) := by decide +kernel
theorem dX2_growReached_68 : decode cX2_growReached 68 = .ok (.aload_n 3, 1) := by decide +kernel
theorem dX2_growReached_69 : decode cX2_growReached 69 = .ok (.getfield 70, 3) := by decide +kernel
theorem dX2_growReached_72 : decode cX2_growReached 72 = .ok (.ifCond .eq 23, 3) := by decide +kernel
theorem dX2_growReached_75 : decode cX2_growReached 75 = .ok (.aload_n 0, 1) := by decide +kernel
theorem dX2_growReached_76 : decode cX2_growReached 76 = .ok (.iload_n 2, 1) := by decide +kernel
theorem dX2_growReached_77 : decode cX2_growReached 77 = .ok (.iconst 2, 1) := by decide +kernel
theorem dX2_growReached_78 : decode cX2_growReached 78 = .ok (.iadd, 1) := by decide +kernel
theorem dX2_growReached_79 : decode cX2_growReached 79 = .ok (.invokevirtual 80, 3) := by decide +kernel
theorem dX2_growReached_82 : decode cX2_growReached 82 = .ok (.ifCond .ne 7, 3) := by decide +kernel
theorem dX2_growReached_85 : decode cX2_growReached 85 = .ok (.iload_n 1, 1) := by decide +kernel
theorem dX2_growReached_86 : decode cX2_growReached 86 = .ok (.ifCond .eq 7, 3) := by decide +kernel
theorem dX2_growReached_89 : decode cX2_growReached 89 = .ok (.iconst 1, 1) := by decide +kernel
theorem dX2_growReached_90 : decode cX2_growReached 90 = .ok (.goto 4, 3) := by decide +kernel
theorem dX2_growReached_93 : decode cX2_growReached 93 = .ok (.iconst 0, 1) := by decide +kernel
theorem dX2_growReached_94 : decode cX2_growReached 94 = .ok (.istore_n 1, 1) := by decide +kernel
theorem dX2_growReached_95 : decode cX2_growReached 95 = .ok (.aload_n 3, 1) := by decide +kernel
theorem dX2_growReached_96 : decode cX2_growReached 96 = .ok (.getfield 59, 3) := by decide +kernel
theorem dX2_growReached_99 : decode cX2_growReached 99 = .ok (.ifCond .ne 30, 3) := by decide +kernel
theorem dX2_growReached_102 : decode cX2_growReached 102 = .ok (.aload_n 3, 1) := by decide +kernel
theorem dX2_growReached_103 : decode cX2_growReached 103 = .ok (.getstatic 53, 3) := by decide +kernel
theorem dX2_growReached_106 : decode cX2_growReached 106 = .ok (.if_acmp .eq 23, 3) := by decide +kernel
theorem dX2_growReached_109 : decode cX2_growReached 109 = .ok (.aload_n 0, 1) := by decide +kernel
theorem dX2_growReached_110 : decode cX2_growReached 110 = .ok (.iload_n 2, 1) := by decide +kernel
theorem dX2_growReached_111 : decode cX2_growReached 111 = .ok (.iconst 1, 1) := by decide +kernel
theorem dX2_growReached_112 : decode cX2_growReached 112 = .ok (.iadd, 1) := by decide +kernel
theorem dX2_growReached_113 : decode cX2_growReached 113 = .ok (.invokevirtual 80, 3) := by decide +kernel
theorem dX2_growReached_116 : decode cX2_growReached 116 = .ok (.ifCond .ne 7, 3) := by decide +kernel
theorem dX2_growReached_119 : decode cX2_growReached 119 = .ok (.iload_n 1, 1) := by decide +kernel
theorem dX2_growReached_120 : decode cX2_growReached 120 = .ok (.ifCond .eq 7, 3) := by decide +kernel
theorem dX2_growReached_123 : decode cX2_growReached 123 = .ok (.iconst 1, 1) := by decide +kernel
theorem dX2_growReached_124 : decode cX2_growReached 124 = .ok (.goto 4, 3) := by decide +kernel
theorem dX2_growReached_127 : decode cX2_growReached 127 = .ok (.iconst 0, 1) := by decide +kernel
theorem dX2_growReached_128 : decode cX2_growReached 128 = .ok (.istore_n 1, 1) := by decide +kernel
theorem dX2_growReached_129 : decode cX2_growReached 129 = .ok (.iinc 2 1, 3) := by decide +kernel
theorem dX2_growReached_132 : decode cX2_growReached 132 = .ok (.goto (-128), 3) := by decide +kernel
theorem dX2_growReached_135 : decode cX2_growReached 135 = .ok (.iload_n 1, 1) := by decide +kernel
theorem dX2_growReached_136 : decode cX2_growReached 136 = .ok (.ireturn, 1) := by decide +kernel
theorem dX2_reach_0 : decode cX2_reach 0 = .ok (.aload_n 0, 1) := by decide +kernel
theorem dX2_reach_1 : decode cX2_reach 1 = .ok (.getfield 21, 3) := by decide +kernel
theorem dX2_reach_4 : decode cX2_reach 4 = .ok (.iload_n 1, 1) := by decide +kernel
theorem dX2_reach_5 : decode cX2_reach 5 = .ok (.baload, 1) := by decide +kernel
theorem dX2_reach_6 : decode cX2_reach 6 = .ok (.ifCond .ne 7, 3) := by decide +kernel
theorem dX2_reach_9 : decode cX2_reach 9 = .ok (.iconst 1, 1) := by decide +kernel
theorem dX2_reach_10 : decode cX2_reach 10 = .ok (.goto 4, 3) := by decide +kernel
theorem dX2_reach_13 : decode cX2_reach 13 = .ok (.iconst 0, 1) := by decide +kernel
theorem dX2_reach_14 : decode cX2_reach 14 = .ok (.istore_n 2, 1) := by decide +kernel
theorem dX2_reach_15 : decode cX2_reach 15 = .ok (.aload_n 0, 1) := by decide +kernel
theorem dX2_reach_16 : decode cX2_reach 16 = .ok (.getfield 21, 3) := by decide +kernel
theorem dX2_reach_19 : decode cX2_reach 19 = .ok (.iload_n 1, 1) := by decide +kernel
theorem dX2_reach_20 : decode cX2_reach 20 = .ok (.iconst 1, 1) := by decide +kernel
theorem dX2_reach_21 : decode cX2_reach 21 = .ok (.bastore, 1) := by decide +kernel
theorem dX2_reach_22 : decode cX2_reach 22 = .ok (.iload_n 2, 1) := by decide +kernel
theorem dX2_reach_23 : decode cX2_reach 23 = .ok (.ireturn, 1) := by decide +kernel
theorem dX3_init_0 : decode cX3_init 0 = .ok (.aload_n 0, 1) := by decide +kernel
theorem dX3_init_1 : decode cX3_init 1 = .ok (.invokespecial 3, 3) := by decide +kernel
theorem dX3_init_4 : decode cX3_init 4 = .ok (.aload_n 0, 1) := by decide +kernel
theorem dX3_init_5 : decode cX3_init 5 = .ok (.bipush 8, 2) := by decide +kernel
theorem dX3_init_7 : decode cX3_init 7 = .ok (.anewarray 9, 3) := by decide +kernel
theorem dX3_init_10 : decode cX3_init 10 = .ok (.putfield 11, 3) := by decide +kernel
theorem dX3_init_13 : decode cX3_init 13 = .ok (.iconst 0, 1) := by decide +kernel
theorem dX3_init_14 : decode cX3_init 14 = .ok (.istore_n 1, 1) := by decide +kernel
theorem dX3_init_15 : decode cX3_init 15 = .ok (.iload_n 1, 1) := by decide +kernel
theorem dX3_init_16 : decode cX3_init 16 = .ok (.aload_n 0, 1) := by decide +kernel
theorem dX3_init_17 : decode cX3_init 17 = .ok (.getfield 11, 3) := by decide +kernel
theorem dX3_init_20 : decode cX3_init 20 = .ok (.arraylength, 1) := by decide +kernel
theorem dX3_init_21 : decode cX3_init 21 = .ok (.if_icmp .ge 24, 3) := by decide +kernel
theorem dX3_init_24 : decode cX3_init 24 = .ok (.aload_n 0, 1) := by decide +kernel
theorem dX3_init_25 : decode cX3_init 25 = .ok (.getfield 11, 3) := by decide +kernel
theorem dX3_init_28 : decode cX3_init 28 = .ok (.iload_n 1, 1) := by decide +kernel
theorem dX3_init_29 : decode cX3_init 29 = .ok (.new 9, 3) := by decide +kernel
theorem dX3_init_32 : decode cX3_init 32 = .ok (.dup, 1) := by decide +kernel
theorem dX3_init_33 : decode cX3_init 33 = .ok (.bipush 60, 2) := by decide +kernel
theorem dX3_init_35 : decode cX3_init 35 = .ok (.invokespecial 17, 3) := by decide +kernel
theorem dX3_init_38 : decode cX3_init 38 = .ok (.aastore, 1) := by decide +kernel
theorem dX3_init_39 : decode cX3_init 39 = .ok (.iinc 1 1, 3) := by decide +kernel
theorem dX3_init_42 : decode cX3_init 42 = .ok (.goto (-27), 3) := by decide +kernel
theorem dX3_init_45 : decode cX3_init 45 = .ok (.return_, 1) := by decide +kernel
theorem dX3_remember_0 : decode cX3_remember 0 = .ok (.aload_n 0, 1) := by decide +kernel
theorem dX3_remember_1 : decode cX3_remember 1 = .ok (.getfield 11, 3) := by decide +kernel
theorem dX3_remember_4 : decode cX3_remember 4 = .ok (.aload_n 0, 1) := by decide +kernel
theorem dX3_remember_5 : decode cX3_remember 5 = .ok (.getfield 20, 3) := by decide +kernel
theorem dX3_remember_8 : decode cX3_remember 8 = .ok (.aaload, 1) := by decide +kernel
theorem dX3_remember_9 : decode cX3_remember 9 = .ok (.aload_n 1, 1) := by decide +kernel
theorem dX3_remember_10 : decode cX3_remember 10 = .ok (.invokevirtual 24, 3) := by decide +kernel
theorem dX3_remember_13 : decode cX3_remember 13 = .ok (.aload_n 0, 1) := by decide +kernel
theorem dX3_remember_14 : decode cX3_remember 14 = .ok (.aload_n 0, 1) := by decide +kernel
theorem dX3_remember_15 : decode cX3_remember 15 = .ok (.getfield 20, 3) := by decide +kernel
theorem dX3_remember_18 : decode cX3_remember 18 = .ok (.iconst 1, 1) := by decide +kernel
theorem dX3_remember_19 : decode cX3_remember 19 = .ok (.iadd, 1) := by decide +kernel
theorem dX3_remember_20 : decode cX3_remember 20 = .ok (.bipush 8, 2) := by decide +kernel
theorem dX3_remember_22 : decode cX3_remember 22 = .ok (.irem, 1) := by decide +kernel
theorem dX3_remember_23 : decode cX3_remember 23 = .ok (.putfield 20, 3) := by decide +kernel
theorem dX3_remember_26 : decode cX3_remember 26 = .ok (.aload_n 0, 1) := by decide +kernel
theorem dX3_remember_27 : decode cX3_remember 27 = .ok (.aload_n 0, 1) := by decide +kernel
theorem dX3_remember_28 : decode cX3_remember 28 = .ok (.getfield 28, 3) := by decide +kernel
theorem dX3_remember_31 : decode cX3_remember 31 = .ok (.iconst 1, 1) := by decide +kernel
theorem dX3_remember_32 : decode cX3_remember 32 = .ok (.iadd, 1) := by decide +kernel
theorem dX3_remember_33 : decode cX3_remember 33 = .ok (.bipush 8, 2) := by decide +kernel
theorem dX3_remember_35 : decode cX3_remember 35 = .ok (.invokestatic 31, 3) := by decide +kernel
theorem dX3_remember_38 : decode cX3_remember 38 = .ok (.putfield 28, 3) := by decide +kernel
theorem dX3_remember_41 : decode cX3_remember 41 = .ok (.return_, 1) := by decide +kernel
theorem dX3_takeBack_0 : decode cX3_takeBack 0 = .ok (.aload_n 0, 1) := by decide +kernel
theorem dX3_takeBack_1 : decode cX3_takeBack 1 = .ok (.aload_n 0, 1) := by decide +kernel
theorem dX3_takeBack_2 : decode cX3_takeBack 2 = .ok (.getfield 20, 3) := by decide +kernel
theorem dX3_takeBack_5 : decode cX3_takeBack 5 = .ok (.bipush 8, 2) := by decide +kernel
theorem dX3_takeBack_7 : decode cX3_takeBack 7 = .ok (.iadd, 1) := by decide +kernel
theorem dX3_takeBack_8 : decode cX3_takeBack 8 = .ok (.iconst 1, 1) := by decide +kernel
theorem dX3_takeBack_9 : decode cX3_takeBack 9 = .ok (.isub, 1) := by decide +kernel
theorem dX3_takeBack_10 : decode cX3_takeBack 10 = .ok (.bipush 8, 2) := by decide +kernel
theorem dX3_takeBack_12 : decode cX3_takeBack 12 = .ok (.irem, 1) := by decide +kernel
theorem dX3_takeBack_13 : decode cX3_takeBack 13 = .ok (.putfield 20, 3) := by decide +kernel
theorem dX3_takeBack_16 : decode cX3_takeBack 16 = .ok (.aload_n 1, 1) := by decide +kernel
theorem dX3_takeBack_17 : decode cX3_takeBack 17 = .ok (.aload_n 0, 1) := by decide +kernel
theorem dX3_takeBack_18 : decode cX3_takeBack 18 = .ok (.getfield 11, 3) := by decide +kernel
theorem dX3_takeBack_21 : decode cX3_takeBack 21 = .ok (.aload_n 0, 1) := by decide +kernel
theorem dX3_takeBack_22 : decode cX3_takeBack 22 = .ok (.getfield 20, 3) := by decide +kernel
theorem dX3_takeBack_25 : decode cX3_takeBack 25 = .ok (.aaload, 1) := by decide +kernel
theorem dX3_takeBack_26 : decode cX3_takeBack 26 = .ok (.invokevirtual 24, 3) := by decide +kernel
theorem dX3_takeBack_29 : decode cX3_takeBack 29 = .ok (.aload_n 0, 1) := by decide +kernel
theorem dX3_takeBack_30 : decode cX3_takeBack 30 = .ok (.dup, 1) := by decide +kernel
theorem dX3_takeBack_31 : decode cX3_takeBack 31 = .ok (.getfield 28, 3) := by decide +kernel
theorem dX3_takeBack_34 : decode cX3_takeBack 34 = .ok (.iconst 1, 1) := by decide +kernel
theorem dX3_takeBack_35 : decode cX3_takeBack 35 = .ok (.isub, 1) := by decide +kernel
theorem dX3_takeBack_36 : decode cX3_takeBack 36 = .ok (.putfield 28, 3) := by decide +kernel
theorem dX3_takeBack_39 : decode cX3_takeBack 39 = .ok (.return_, 1) := by decide +kernel
theorem dX4_sign_0 : decode cX4_sign 0 = .ok (.aload_n 0, 1) := by decide +kernel
theorem dX4_sign_1 : decode cX4_sign 1 = .ok (.getfield 63, 3) := by decide +kernel
theorem dX4_sign_4 : decode cX4_sign 4 = .ok (.iload_n 1, 1) := by decide +kernel
theorem dX4_sign_5 : decode cX4_sign 5 = .ok (.invokevirtual 66, 3) := by decide +kernel
theorem dX4_sign_8 : decode cX4_sign 8 = .ok (.ireturn, 1) := by decide +kernel
theorem dX4_isMemoryAccess_0 : decode cX4_isMemoryAccess 0 = .ok (.aload_n 0, 1) := by decide +kernel
theorem dX4_isMemoryAccess_1 : decode cX4_isMemoryAccess 1 = .ok (.getstatic 19, 3) := by decide +kernel
theorem dX4_isMemoryAccess_4 : decode cX4_isMemoryAccess 4 = .ok (.if_acmp .eq 10, 3) := by decide +kernel
theorem dX4_isMemoryAccess_7 : decode cX4_isMemoryAccess 7 = .ok (.aload_n 0, 1) := by decide +kernel
theorem dX4_isMemoryAccess_8 : decode cX4_isMemoryAccess 8 = .ok (.getstatic 22, 3) := by decide +kernel
theorem dX4_isMemoryAccess_11 : decode cX4_isMemoryAccess 11 = .ok (.if_acmp .ne 7, 3) := by decide +kernel
theorem dX4_isMemoryAccess_14 : decode cX4_isMemoryAccess 14 = .ok (.iconst 1, 1) := by decide +kernel
theorem dX4_isMemoryAccess_15 : decode cX4_isMemoryAccess 15 = .ok (.goto 4, 3) := by decide +kernel
theorem dX4_isMemoryAccess_18 : decode cX4_isMemoryAccess 18 = .ok (.iconst 0, 1) := by decide +kernel
theorem dX4_isMemoryAccess_19 : decode cX4_isMemoryAccess 19 = .ok (.ireturn, 1) := by decide +kernel
theorem dX4_canFill_0 : decode cX4_canFill 0 = .ok (.aload_n 0, 1) := by decide +kernel
theorem dX4_canFill_1 : decode cX4_canFill 1 = .ok (.getstatic 3, 3) := by decide +kernel
theorem dX4_canFill_4 : decode cX4_canFill 4 = .ok (.if_acmp .eq 21, 3) := by decide +kernel
theorem dX4_canFill_7 : decode cX4_canFill 7 = .ok (.aload_n 0, 1) := by decide +kernel
theorem dX4_canFill_8 : decode cX4_canFill 8 = .ok (.getstatic 37, 3) := by decide +kernel
theorem dX4_canFill_11 : decode cX4_canFill 11 = .ok (.if_acmp .eq 14, 3) := by decide +kernel
theorem dX4_canFill_14 : decode cX4_canFill 14 = .ok (.aload_n 0, 1) := by decide +kernel
theorem dX4_canFill_15 : decode cX4_canFill 15 = .ok (.getfield 85, 3) := by decide +kernel
theorem dX4_canFill_18 : decode cX4_canFill 18 = .ok (.ifCond .ne 7, 3) := by decide +kernel
theorem dX4_canFill_21 : decode cX4_canFill 21 = .ok (.iconst 1, 1) := by decide +kernel
theorem dX4_canFill_22 : decode cX4_canFill 22 = .ok (.goto 4, 3) := by decide +kernel
theorem dX4_canFill_25 : decode cX4_canFill 25 = .ok (.iconst 0, 1) := by decide +kernel
theorem dX4_canFill_26 : decode cX4_canFill 26 = .ok (.ireturn, 1) := by decide +kernel
theorem dX5_init_0 : decode cX5_init 0 = .ok (.aload_n 0, 1) := by decide +kernel
theorem dX5_init_1 : decode cX5_init 1 = .ok (.invokespecial 3, 3) := by decide +kernel
theorem dX5_init_4 : decode cX5_init 4 = .ok (.aload_n 0, 1) := by decide +kernel
theorem dX5_init_5 : decode cX5_init 5 = .ok (.bipush 24, 2) := by decide +kernel
theorem dX5_init_7 : decode cX5_init 7 = .ok (.newarray .int, 2) := by decide +kernel
theorem dX5_init_9 : decode cX5_init 9 = .ok (.putfield 9, 3) := by decide +kernel
theorem dX5_init_12 : decode cX5_init 12 = .ok (.aload_n 0, 1) := by decide +kernel
theorem dX5_init_13 : decode cX5_init 13 = .ok (.iload_n 1, 1) := by decide +kernel
theorem dX5_init_14 : decode cX5_init 14 = .ok (.newarray .int, 2) := by decide +kernel
theorem dX5_init_16 : decode cX5_init 16 = .ok (.putfield 15, 3) := by decide +kernel
theorem dX5_init_19 : decode cX5_init 19 = .ok (.return_, 1) := by decide +kernel
theorem dX5_executes_0 : decode cX5_executes 0 = .ok (.aload_n 3, 1) := by decide +kernel
theorem dX5_executes_1 : decode cX5_executes 1 = .ok (.iconst 0, 1) := by decide +kernel
theorem dX5_executes_2 : decode cX5_executes 2 = .ok (.aload_n 0, 1) := by decide +kernel
theorem dX5_executes_3 : decode cX5_executes 3 = .ok (.getfield 9, 3) := by decide +kernel
theorem dX5_executes_6 : decode cX5_executes 6 = .ok (.iconst 0, 1) := by decide +kernel
theorem dX5_executes_7 : decode cX5_executes 7 = .ok (.aload_n 0, 1) := by decide +kernel
theorem dX5_executes_8 : decode cX5_executes 8 = .ok (.getfield 9, 3) := by decide +kernel
theorem dX5_executes_11 : decode cX5_executes 11 = .ok (.arraylength, 1) := by decide +kernel
theorem dX5_executes_12 : decode cX5_executes 12 = .ok (.invokestatic 18, 3) := by decide +kernel
theorem dX5_executes_15 : decode cX5_executes 15 = .ok (.aload_n 0, 1) := by decide +kernel
theorem dX5_executes_16 : decode cX5_executes 16 = .ok (.iconst 0, 1) := by decide +kernel
theorem dX5_executes_17 : decode cX5_executes 17 = .ok (.putfield 24, 3) := by decide +kernel
theorem dX5_executes_20 : decode cX5_executes 20 = .ok (.iconst 0, 1) := by decide +kernel
theorem dX5_executes_21 : decode cX5_executes 21 = .ok (.istore 5, 2) := by decide +kernel
theorem dX5_executes_23 : decode cX5_executes 23 = .ok (.iconst (-1), 1) := by decide +kernel
theorem dX5_executes_24 : decode cX5_executes 24 = .ok (.istore 6, 2) := by decide +kernel
theorem dX5_executes_26 : decode cX5_executes 26 = .ok (.aload_n 0, 1) := by decide +kernel
theorem dX5_executes_27 : decode cX5_executes 27 = .ok (.iconst 0, 1) := by decide +kernel
theorem dX5_executes_28 : decode cX5_executes 28 = .ok (.putfield 28, 3) := by decide +kernel
theorem dX5_executes_31 : decode cX5_executes 31 = .ok (.aload_n 0, 1) := by decide +kernel
theorem dX5_executes_32 : decode cX5_executes 32 = .ok (.getfield 28, 3) := by decide +kernel
theorem dX5_executes_35 : decode cX5_executes 35 = .ok (.iload 4, 2) := by decide +kernel
theorem dX5_executes_37 : decode cX5_executes 37 = .ok (.if_icmp .ge 179, 3) := by decide +kernel
theorem dX5_executes_40 : decode cX5_executes 40 = .ok (.iload 5, 2) := by decide +kernel
theorem dX5_executes_42 : decode cX5_executes 42 = .ok (.aload_n 1, 1) := by decide +kernel
theorem dX5_executes_43 : decode cX5_executes 43 = .ok (.getfield 31, 3) := by decide +kernel
theorem dX5_executes_46 : decode cX5_executes 46 = .ok (.if_icmp .ge 170, 3) := by decide +kernel
theorem dX5_executes_49 : decode cX5_executes 49 = .ok (.aload_n 1, 1) := by decide +kernel
theorem dX5_executes_50 : decode cX5_executes 50 = .ok (.iload 5, 2) := by decide +kernel
theorem dX5_executes_52 : decode cX5_executes 52 = .ok (.invokevirtual 36, 3) := by decide +kernel
theorem dX5_executes_55 : decode cX5_executes 55 = .ok (.astore 7, 2) := by decide +kernel
theorem dX5_executes_57 : decode cX5_executes 57 = .ok (.aload 7, 2) := by decide +kernel
theorem dX5_executes_59 : decode cX5_executes 59 = .ok (.getfield 40, 3) := by decide +kernel
theorem dX5_executes_62 : decode cX5_executes 62 = .ok (.ifCond .eq 97, 3) := by decide +kernel
theorem dX5_executes_65 : decode cX5_executes 65 = .ok (.aload_n 0, 1) := by decide +kernel
theorem dX5_executes_66 : decode cX5_executes 66 = .ok (.aload_n 1, 1) := by decide +kernel
theorem dX5_executes_67 : decode cX5_executes 67 = .ok (.iload 5, 2) := by decide +kernel
theorem dX5_executes_69 : decode cX5_executes 69 = .ok (.invokevirtual 46, 3) := by decide +kernel
theorem dX5_executes_72 : decode cX5_executes 72 = .ok (.istore 8, 2) := by decide +kernel
theorem dX5_executes_74 : decode cX5_executes 74 = .ok (.iload 8, 2) := by decide +kernel
theorem dX5_executes_76 : decode cX5_executes 76 = .ok (.ifCond .eq 12, 3) := by decide +kernel
theorem dX5_executes_79 : decode cX5_executes 79 = .ok (.aload_n 1, 1) := by decide +kernel
theorem dX5_executes_80 : decode cX5_executes 80 = .ok (.iload 5, 2) := by decide +kernel
theorem dX5_executes_82 : decode cX5_executes 82 = .ok (.invokevirtual 50, 3) := by decide +kernel
theorem dX5_executes_85 : decode cX5_executes 85 = .ok (.goto 15, 3) := by decide +kernel
theorem dX5_executes_88 : decode cX5_executes 88 = .ok (.iload 5, 2) := by decide +kernel
theorem dX5_executes_90 : decode cX5_executes 90 = .ok (.iload_n 2, 1) := by decide +kernel
theorem dX5_executes_91 : decode cX5_executes 91 = .ok (.ifCond .eq 7, 3) := by decide +kernel
theorem dX5_executes_94 : decode cX5_executes 94 = .ok (.iconst 2, 1) := by decide +kernel
theorem dX5_executes_95 : decode cX5_executes 95 = .ok (.goto 4, 3) := by decide +kernel
theorem dX5_executes_98 : decode cX5_executes 98 = .ok (.iconst 1, 1) := by decide +kernel
theorem dX5_executes_99 : decode cX5_executes 99 = .ok (.iadd, 1) := by decide +kernel
theorem dX5_executes_100 : decode cX5_executes 100 = .ok (.istore 9, 2) := by decide +kernel
theorem dX5_executes_102 : decode cX5_executes 102 = .ok (.iload_n 2, 1) := by decide +kernel
theorem dX5_executes_103 : decode cX5_executes 103 = .ok (.ifCond .eq 21, 3) := by decide +kernel
theorem dX5_executes_106 : decode cX5_executes 106 = .ok (.iload 8, 2) := by decide +kernel
theorem dX5_executes_108 : decode cX5_executes 108 = .ok (.ifCond .ne 12, 3) := by decide +kernel
theorem dX5_executes_111 : decode cX5_executes 111 = .ok (.aload_n 1, 1) := by decide +kernel
theorem dX5_executes_112 : decode cX5_executes 112 = .ok (.iload 5, 2) := by decide +kernel
theorem dX5_executes_114 : decode cX5_executes 114 = .ok (.invokevirtual 54, 3) := by decide +kernel
theorem dX5_executes_117 : decode cX5_executes 117 = .ok (.ifCond .ne 7, 3) := by decide +kernel
theorem dX5_executes_120 : decode cX5_executes 120 = .ok (.iconst 1, 1) := by decide +kernel
theorem dX5_executes_121 : decode cX5_executes 121 = .ok (.goto 4, 3) := by decide +kernel
theorem dX5_executes_124 : decode cX5_executes 124 = .ok (.iconst 0, 1) := by decide +kernel
theorem dX5_executes_125 : decode cX5_executes 125 = .ok (.istore 10, 2) := by decide +kernel
theorem dX5_executes_127 : decode cX5_executes 127 = .ok (.iload 10, 2) := by decide +kernel
theorem dX5_executes_129 : decode cX5_executes 129 = .ok (.ifCond .eq 8, 3) := by decide +kernel
theorem dX5_executes_132 : decode cX5_executes 132 = .ok (.iload 9, 2) := by decide +kernel
theorem dX5_executes_134 : decode cX5_executes 134 = .ok (.goto 4, 3) := by decide +kernel
theorem dX5_executes_137 : decode cX5_executes 137 = .ok (.iconst (-1), 1) := by decide +kernel
theorem dX5_executes_138 : decode cX5_executes 138 = .ok (.istore 6, 2) := by decide +kernel
theorem dX5_executes_140 : decode cX5_executes 140 = .ok (.iload 10, 2) := by decide +kernel
theorem dX5_executes_142 : decode cX5_executes 142 = .ok (.ifCond .eq 10, 3) := by decide +kernel
theorem dX5_executes_145 : decode cX5_executes 145 = .ok (.iload 5, 2) := by decide +kernel
theorem dX5_executes_147 : decode cX5_executes 147 = .ok (.iconst 1, 1) := by decide +kernel
theorem dX5_executes_148 : decode cX5_executes 148 = .ok (.iadd, 1) := by decide +kernel
theorem dX5_executes_149 : decode cX5_executes 149 = .ok (.goto 5, 3) := by decide +kernel
theorem dX5_executes_152 : decode cX5_executes 152 = .ok (.iload 9, 2) := by decide +kernel
theorem dX5_executes_154 : decode cX5_executes 154 = .ok (.istore 5, 2) := by decide +kernel
theorem dX5_executes_156 : decode cX5_executes 156 = .ok (.goto 47, 3) := by decide +kernel
theorem dX5_executes_159 : decode cX5_executes 159 = .ok (.aload 7, 2) := by decide +kernel
theorem dX5_executes_161 : decode cX5_executes 161 = .ok (.getstatic 58, 3) := by decide +kernel
theorem dX5_executes_164 : decode cX5_executes 164 = .ok (.if_acmp .ne 12, 3) := by decide +kernel
theorem dX5_executes_167 : decode cX5_executes 167 = .ok (.aload_n 1, 1) := by decide +kernel
theorem dX5_executes_168 : decode cX5_executes 168 = .ok (.getfield 31, 3) := by decide +kernel
theorem dX5_executes_171 : decode cX5_executes 171 = .ok (.istore 5, 2) := by decide +kernel
theorem dX5_executes_173 : decode cX5_executes 173 = .ok (.goto 30, 3) := by decide +kernel
theorem dX5_executes_176 : decode cX5_executes 176 = .ok (.aload_n 0, 1) := by decide +kernel
theorem dX5_executes_177 : decode cX5_executes 177 = .ok (.aload_n 1, 1) := by decide +kernel
theorem dX5_executes_178 : decode cX5_executes 178 = .ok (.iload 5, 2) := by decide +kernel
theorem dX5_executes_180 : decode cX5_executes 180 = .ok (.invokevirtual 62, 3) := by decide +kernel
theorem dX5_executes_183 : decode cX5_executes 183 = .ok (.iload 6, 2) := by decide +kernel
theorem dX5_executes_185 : decode cX5_executes 185 = .ok (.iconst (-1), 1) := by decide +kernel
theorem dX5_executes_186 : decode cX5_executes 186 = .ok (.if_icmp .ne 10, 3) := by decide +kernel
theorem dX5_executes_189 : decode cX5_executes 189 = .ok (.iload 5, 2) := by decide +kernel
theorem dX5_executes_191 : decode cX5_executes 191 = .ok (.iconst 1, 1) := by decide +kernel
theorem dX5_executes_192 : decode cX5_executes 192 = .ok (.iadd, 1) := by decide +kernel
theorem dX5_executes_193 : decode cX5_executes 193 = .ok (.goto 5, 3) := by decide +kernel
theorem dX5_executes_196 : decode cX5_executes 196 = .ok (.iload 6, 2) := by decide +kernel
theorem dX5_executes_198 : decode cX5_executes 198 = .ok (.istore 5, 2) := by decide +kernel
theorem dX5_executes_200 : decode cX5_executes 200 = .ok (.iconst (-1), 1) := by decide +kernel
theorem dX5_executes_201 : decode cX5_executes 201 = .ok (.istore 6, 2) := by decide +kernel
theorem dX5_executes_203 : decode cX5_executes 203 = .ok (.aload_n 0, 1) := by decide +kernel
theorem dX5_executes_204 : decode cX5_executes 204 = .ok (.dup, 1) := by decide +kernel
theorem dX5_executes_205 : decode cX5_executes 205 = .ok (.getfield 28, 3) := by decide +kernel
theorem dX5_executes_208 : decode cX5_executes 208 = .ok (.iconst 1, 1) := by decide +kernel
theorem dX5_executes_209 : decode cX5_executes 209 = .ok (.iadd, 1) := by decide +kernel
theorem dX5_executes_210 : decode cX5_executes 210 = .ok (.putfield 28, 3) := by decide +kernel
theorem dX5_executes_213 : decode cX5_executes 213 = .ok (.goto (-182), 3) := by decide +kernel
theorem dX5_executes_216 : decode cX5_executes 216 = .ok (.iload 5, 2) := by decide +kernel
theorem dX5_executes_218 : decode cX5_executes 218 = .ok (.aload_n 1, 1) := by decide +kernel
theorem dX5_executes_219 : decode cX5_executes 219 = .ok (.getfield 31, 3) := by decide +kernel
theorem dX5_executes_222 : decode cX5_executes 222 = .ok (.if_icmp .lt 7, 3) := by decide +kernel
theorem dX5_executes_225 : decode cX5_executes 225 = .ok (.iconst 1, 1) := by decide +kernel
theorem dX5_executes_226 : decode cX5_executes 226 = .ok (.goto 4, 3) := by decide +kernel
theorem dX5_executes_229 : decode cX5_executes 229 = .ok (.iconst 0, 1) := by decide +kernel
theorem dX5_executes_230 : decode cX5_executes 230 = .ok (.ireturn, 1) := by decide +kernel
theorem dX5_conditionHolds_0 : decode cX5_conditionHolds 0 = .ok (.aload_n 1, 1) := by decide +kernel
theorem dX5_conditionHolds_1 : decode cX5_conditionHolds 1 = .ok (.iload_n 2, 1) := by decide +kernel
theorem dX5_conditionHolds_2 : decode cX5_conditionHolds 2 = .ok (.invokevirtual 36, 3) := by decide +kernel
theorem dX5_conditionHolds_5 : decode cX5_conditionHolds 5 = .ok (.getfield 66, 3) := by decide +kernel
theorem dX5_conditionHolds_8 : decode cX5_conditionHolds 8 = .ok (.ifCond .ne 5, 3) := by decide +kernel
theorem dX5_conditionHolds_11 : decode cX5_conditionHolds 11 = .ok (.iconst 1, 1) := by decide +kernel
theorem dX5_conditionHolds_12 : decode cX5_conditionHolds 12 = .ok (.ireturn, 1) := by decide +kernel
theorem dX5_conditionHolds_13 : decode cX5_conditionHolds 13 = .ok (.aload_n 0, 1) := by decide +kernel
theorem dX5_conditionHolds_14 : decode cX5_conditionHolds 14 = .ok (.getfield 9, 3) := by decide +kernel
theorem dX5_conditionHolds_17 : decode cX5_conditionHolds 17 = .ok (.aload_n 1, 1) := by decide +kernel
theorem dX5_conditionHolds_18 : decode cX5_conditionHolds 18 = .ok (.iload_n 2, 1) := by decide +kernel
theorem dX5_conditionHolds_19 : decode cX5_conditionHolds 19 = .ok (.iconst 1, 1) := by decide +kernel
theorem dX5_conditionHolds_20 : decode cX5_conditionHolds 20 = .ok (.invokevirtual 69, 3) := by decide +kernel
theorem dX5_conditionHolds_23 : decode cX5_conditionHolds 23 = .ok (.iaload, 1) := by decide +kernel
theorem dX5_conditionHolds_24 : decode cX5_conditionHolds 24 = .ok (.istore_n 3, 1) := by decide +kernel
theorem dX5_conditionHolds_25 : decode cX5_conditionHolds 25 = .ok (.aload_n 0, 1) := by decide +kernel
theorem dX5_conditionHolds_26 : decode cX5_conditionHolds 26 = .ok (.getfield 9, 3) := by decide +kernel
theorem dX5_conditionHolds_29 : decode cX5_conditionHolds 29 = .ok (.aload_n 1, 1) := by decide +kernel
theorem dX5_conditionHolds_30 : decode cX5_conditionHolds 30 = .ok (.iload_n 2, 1) := by decide +kernel
theorem dX5_conditionHolds_31 : decode cX5_conditionHolds 31 = .ok (.iconst 2, 1) := by decide +kernel
theorem dX5_conditionHolds_32 : decode cX5_conditionHolds 32 = .ok (.invokevirtual 69, 3) := by decide +kernel
theorem dX5_conditionHolds_35 : decode cX5_conditionHolds 35 = .ok (.iaload, 1) := by decide +kernel
theorem dX5_conditionHolds_36 : decode cX5_conditionHolds 36 = .ok (.istore 4, 2) := by decide +kernel
theorem dX5_conditionHolds_38 : decode cX5_conditionHolds 38 = .ok (.aload_n 1, 1) := by decide +kernel
theorem dX5_conditionHolds_39 : decode cX5_conditionHolds 39 = .ok (.iload_n 2, 1) := by decide +kernel
theorem dX5_conditionHolds_40 : decode cX5_conditionHolds 40 = .ok (.invokevirtual 36, 3) := by decide +kernel
theorem dX5_conditionHolds_43 : decode cX5_conditionHolds 43 = .ok (.getstatic 73, 3) := by decide +kernel
theorem dX5_conditionHolds_46 : decode cX5_conditionHolds 46 = .ok (.if_acmp .ne 17, 3) := by decide +kernel
theorem dX5_conditionHolds_49 : decode cX5_conditionHolds 49 = .ok (.iload_n 3, 1) := by decide +kernel
theorem dX5_conditionHolds_50 : decode cX5_conditionHolds 50 = .ok (.iload 4, 2) := by decide +kernel
theorem dX5_conditionHolds_52 : decode cX5_conditionHolds 52 = .ok (.if_icmp .ne 7, 3) := by decide +kernel
theorem dX5_conditionHolds_55 : decode cX5_conditionHolds 55 = .ok (.iconst 1, 1) := by decide +kernel
theorem dX5_conditionHolds_56 : decode cX5_conditionHolds 56 = .ok (.goto 18, 3) := by decide +kernel
theorem dX5_conditionHolds_59 : decode cX5_conditionHolds 59 = .ok (.iconst 0, 1) := by decide +kernel
theorem dX5_conditionHolds_60 : decode cX5_conditionHolds 60 = .ok (.goto 14, 3) := by decide +kernel
theorem dX5_conditionHolds_63 : decode cX5_conditionHolds 63 = .ok (.iload_n 3, 1) := by decide +kernel
theorem dX5_conditionHolds_64 : decode cX5_conditionHolds 64 = .ok (.iload 4, 2) := by decide +kernel
theorem dX5_conditionHolds_66 : decode cX5_conditionHolds 66 = .ok (.if_icmp .ge 7, 3) := by decide +kernel
theorem dX5_conditionHolds_69 : decode cX5_conditionHolds 69 = .ok (.iconst 1, 1) := by decide +kernel
theorem dX5_conditionHolds_70 : decode cX5_conditionHolds 70 = .ok (.goto 4, 3) := by decide +kernel
theorem dX5_conditionHolds_73 : decode cX5_conditionHolds 73 = .ok (.iconst 0, 1) := by decide +kernel
theorem dX5_conditionHolds_74 : decode cX5_conditionHolds 74 = .ok (.ireturn, 1) := by decide +kernel
theorem dX5_perform_0 : decode cX5_perform 0 = .ok (.aload_n 1, 1) := by decide +kernel
theorem dX5_perform_1 : decode cX5_perform 1 = .ok (.iload_n 2, 1) := by decide +kernel
theorem dX5_perform_2 : decode cX5_perform 2 = .ok (.iconst 1, 1) := by decide +kernel
theorem dX5_perform_3 : decode cX5_perform 3 = .ok (.invokevirtual 69, 3) := by decide +kernel
theorem dX5_perform_6 : decode cX5_perform 6 = .ok (.istore_n 3, 1) := by decide +kernel
theorem dX5_perform_7 : decode cX5_perform 7 = .ok (.aload_n 1, 1) := by decide +kernel
theorem dX5_perform_8 : decode cX5_perform 8 = .ok (.iload_n 2, 1) := by decide +kernel
theorem dX5_perform_9 : decode cX5_perform 9 = .ok (.iconst 2, 1) := by decide +kernel
theorem dX5_perform_10 : decode cX5_perform 10 = .ok (.invokevirtual 69, 3) := by decide +kernel
theorem dX5_perform_13 : decode cX5_perform 13 = .ok (.istore 4, 2) := by decide +kernel
theorem dX5_perform_15 : decode cX5_perform 15 = .ok (.aload_n 1, 1) := by decide +kernel
theorem dX5_perform_16 : decode cX5_perform 16 = .ok (.iload_n 2, 1) := by decide +kernel
theorem dX5_perform_17 : decode cX5_perform 17 = .ok (.iconst 3, 1) := by decide +kernel
theorem dX5_perform_18 : decode cX5_perform 18 = .ok (.invokevirtual 69, 3) := by decide +kernel
theorem dX5_perform_21 : decode cX5_perform 21 = .ok (.istore 5, 2) := by decide +kernel
theorem dX5_perform_23 : decode cX5_perform 23 = .ok (.getstatic 76, 3) := by decide +kernel
theorem dX5_perform_26 : decode cX5_perform 26 = .ok (.aload_n 1, 1) := by decide +kernel
theorem dX5_perform_27 : decode cX5_perform 27 = .ok (.iload_n 2, 1) := by decide +kernel
theorem dX5_perform_28 : decode cX5_perform 28 = .ok (.invokevirtual 36, 3) := by decide +kernel
theorem dX5_perform_31 : decode cX5_perform 31 = .ok (.invokevirtual 81, 3) := by decide +kernel
theorem dX5_perform_34 : decode cX5_perform 34 = .ok (.iaload, 1) := by decide +kernel
theorem dX5_perform_35 : decode cX5_perform 35 = .ok (.tableswitch 188 1 7 #[41, 52, 68, 92, 116, 138, 160], 41) := by decide +kernel
theorem dX5_perform_76 : decode cX5_perform 76 = .ok (.aload_n 0, 1) := by decide +kernel
theorem dX5_perform_77 : decode cX5_perform 77 = .ok (.getfield 9, 3) := by decide +kernel
theorem dX5_perform_80 : decode cX5_perform 80 = .ok (.iload_n 3, 1) := by decide +kernel
theorem dX5_perform_81 : decode cX5_perform 81 = .ok (.iload 5, 2) := by decide +kernel
theorem dX5_perform_83 : decode cX5_perform 83 = .ok (.iastore, 1) := by decide +kernel
theorem dX5_perform_84 : decode cX5_perform 84 = .ok (.goto 139, 3) := by decide +kernel
theorem dX5_perform_87 : decode cX5_perform 87 = .ok (.aload_n 0, 1) := by decide +kernel
theorem dX5_perform_88 : decode cX5_perform 88 = .ok (.getfield 9, 3) := by decide +kernel
theorem dX5_perform_91 : decode cX5_perform 91 = .ok (.iload_n 3, 1) := by decide +kernel
theorem dX5_perform_92 : decode cX5_perform 92 = .ok (.aload_n 0, 1) := by decide +kernel
theorem dX5_perform_93 : decode cX5_perform 93 = .ok (.getfield 9, 3) := by decide +kernel
theorem dX5_perform_96 : decode cX5_perform 96 = .ok (.iload 4, 2) := by decide +kernel
theorem dX5_perform_98 : decode cX5_perform 98 = .ok (.iaload, 1) := by decide +kernel
theorem dX5_perform_99 : decode cX5_perform 99 = .ok (.iastore, 1) := by decide +kernel
theorem dX5_perform_100 : decode cX5_perform 100 = .ok (.goto 123, 3) := by decide +kernel
theorem dX5_perform_103 : decode cX5_perform 103 = .ok (.aload_n 0, 1) := by decide +kernel
theorem dX5_perform_104 : decode cX5_perform 104 = .ok (.getfield 9, 3) := by decide +kernel
theorem dX5_perform_107 : decode cX5_perform 107 = .ok (.iload_n 3, 1) := by decide +kernel
theorem dX5_perform_108 : decode cX5_perform 108 = .ok (.aload_n 0, 1) := by decide +kernel
theorem dX5_perform_109 : decode cX5_perform 109 = .ok (.getfield 9, 3) := by decide +kernel
theorem dX5_perform_112 : decode cX5_perform 112 = .ok (.iload 4, 2) := by decide +kernel
theorem dX5_perform_114 : decode cX5_perform 114 = .ok (.iaload, 1) := by decide +kernel
theorem dX5_perform_115 : decode cX5_perform 115 = .ok (.aload_n 0, 1) := by decide +kernel
theorem dX5_perform_116 : decode cX5_perform 116 = .ok (.getfield 9, 3) := by decide +kernel
theorem dX5_perform_119 : decode cX5_perform 119 = .ok (.iload 5, 2) := by decide +kernel
theorem dX5_perform_121 : decode cX5_perform 121 = .ok (.iaload, 1) := by decide +kernel
theorem dX5_perform_122 : decode cX5_perform 122 = .ok (.iadd, 1) := by decide +kernel
theorem dX5_perform_123 : decode cX5_perform 123 = .ok (.iastore, 1) := by decide +kernel
theorem dX5_perform_124 : decode cX5_perform 124 = .ok (.goto 99, 3) := by decide +kernel
theorem dX5_perform_127 : decode cX5_perform 127 = .ok (.aload_n 0, 1) := by decide +kernel
theorem dX5_perform_128 : decode cX5_perform 128 = .ok (.getfield 9, 3) := by decide +kernel
theorem dX5_perform_131 : decode cX5_perform 131 = .ok (.iload_n 3, 1) := by decide +kernel
theorem dX5_perform_132 : decode cX5_perform 132 = .ok (.aload_n 0, 1) := by decide +kernel
theorem dX5_perform_133 : decode cX5_perform 133 = .ok (.getfield 9, 3) := by decide +kernel
theorem dX5_perform_136 : decode cX5_perform 136 = .ok (.iload 4, 2) := by decide +kernel
theorem dX5_perform_138 : decode cX5_perform 138 = .ok (.iaload, 1) := by decide +kernel
theorem dX5_perform_139 : decode cX5_perform 139 = .ok (.aload_n 0, 1) := by decide +kernel
theorem dX5_perform_140 : decode cX5_perform 140 = .ok (.getfield 9, 3) := by decide +kernel
theorem dX5_perform_143 : decode cX5_perform 143 = .ok (.iload 5, 2) := by decide +kernel
theorem dX5_perform_145 : decode cX5_perform 145 = .ok (.iaload, 1) := by decide +kernel
theorem dX5_perform_146 : decode cX5_perform 146 = .ok (.isub, 1) := by decide +kernel
theorem dX5_perform_147 : decode cX5_perform 147 = .ok (.iastore, 1) := by decide +kernel
theorem dX5_perform_148 : decode cX5_perform 148 = .ok (.goto 75, 3) := by decide +kernel
theorem dX5_perform_151 : decode cX5_perform 151 = .ok (.aload_n 0, 1) := by decide +kernel
theorem dX5_perform_152 : decode cX5_perform 152 = .ok (.getfield 9, 3) := by decide +kernel
theorem dX5_perform_155 : decode cX5_perform 155 = .ok (.iload_n 3, 1) := by decide +kernel
theorem dX5_perform_156 : decode cX5_perform 156 = .ok (.aload_n 0, 1) := by decide +kernel
theorem dX5_perform_157 : decode cX5_perform 157 = .ok (.getfield 9, 3) := by decide +kernel
theorem dX5_perform_160 : decode cX5_perform 160 = .ok (.aload_n 0, 1) := by decide +kernel
theorem dX5_perform_161 : decode cX5_perform 161 = .ok (.iload 4, 2) := by decide +kernel
theorem dX5_perform_163 : decode cX5_perform 163 = .ok (.iload 5, 2) := by decide +kernel
theorem dX5_perform_165 : decode cX5_perform 165 = .ok (.invokevirtual 85, 3) := by decide +kernel
theorem dX5_perform_168 : decode cX5_perform 168 = .ok (.iaload, 1) := by decide +kernel
theorem dX5_perform_169 : decode cX5_perform 169 = .ok (.iastore, 1) := by decide +kernel
theorem dX5_perform_170 : decode cX5_perform 170 = .ok (.goto 53, 3) := by decide +kernel
theorem dX5_perform_173 : decode cX5_perform 173 = .ok (.aload_n 0, 1) := by decide +kernel
theorem dX5_perform_174 : decode cX5_perform 174 = .ok (.getfield 9, 3) := by decide +kernel
theorem dX5_perform_177 : decode cX5_perform 177 = .ok (.aload_n 0, 1) := by decide +kernel
theorem dX5_perform_178 : decode cX5_perform 178 = .ok (.iload 4, 2) := by decide +kernel
theorem dX5_perform_180 : decode cX5_perform 180 = .ok (.iload 5, 2) := by decide +kernel
theorem dX5_perform_182 : decode cX5_perform 182 = .ok (.invokevirtual 85, 3) := by decide +kernel
theorem dX5_perform_185 : decode cX5_perform 185 = .ok (.aload_n 0, 1) := by decide +kernel
theorem dX5_perform_186 : decode cX5_perform 186 = .ok (.getfield 9, 3) := by decide +kernel
theorem dX5_perform_189 : decode cX5_perform 189 = .ok (.iload_n 3, 1) := by decide +kernel
theorem dX5_perform_190 : decode cX5_perform 190 = .ok (.iaload, 1) := by decide +kernel
theorem dX5_perform_191 : decode cX5_perform 191 = .ok (.iastore, 1) := by decide +kernel
theorem dX5_perform_192 : decode cX5_perform 192 = .ok (.goto 31, 3) := by decide +kernel
theorem dX5_perform_195 : decode cX5_perform 195 = .ok (.aload_n 0, 1) := by decide +kernel
theorem dX5_perform_196 : decode cX5_perform 196 = .ok (.getfield 15, 3) := by decide +kernel
theorem dX5_perform_199 : decode cX5_perform 199 = .ok (.aload_n 0, 1) := by decide +kernel
theorem dX5_perform_200 : decode cX5_perform 200 = .ok (.getfield 24, 3) := by decide +kernel
theorem dX5_perform_203 : decode cX5_perform 203 = .ok (.aload_n 0, 1) := by decide +kernel
theorem dX5_perform_204 : decode cX5_perform 204 = .ok (.getfield 9, 3) := by decide +kernel
theorem dX5_perform_207 : decode cX5_perform 207 = .ok (.iload_n 3, 1) := by decide +kernel
theorem dX5_perform_208 : decode cX5_perform 208 = .ok (.iaload, 1) := by decide +kernel
theorem dX5_perform_209 : decode cX5_perform 209 = .ok (.iastore, 1) := by decide +kernel
theorem dX5_perform_210 : decode cX5_perform 210 = .ok (.aload_n 0, 1) := by decide +kernel
theorem dX5_perform_211 : decode cX5_perform 211 = .ok (.dup, 1) := by decide +kernel
theorem dX5_perform_212 : decode cX5_perform 212 = .ok (.getfield 24, 3) := by decide +kernel
theorem dX5_perform_215 : decode cX5_perform 215 = .ok (.iconst 1, 1) := by decide +kernel
theorem dX5_perform_216 : decode cX5_perform 216 = .ok (.iadd, 1) := by decide +kernel
theorem dX5_perform_217 : decode cX5_perform 217 = .ok (.putfield 24, 3) := by decide +kernel
theorem dX5_perform_220 : decode cX5_perform 220 = .ok (.goto 3, 3) := by decide +kernel
theorem dX5_perform_223 : decode cX5_perform 223 = .ok (.return_, 1) := by decide +kernel
theorem dX5_cellPlace_0 : decode cX5_cellPlace 0 = .ok (.bipush 8, 2) := by decide +kernel
theorem dX5_cellPlace_2 : decode cX5_cellPlace 2 = .ok (.aload_n 0, 1) := by decide +kernel
theorem dX5_cellPlace_3 : decode cX5_cellPlace 3 = .ok (.getfield 9, 3) := by decide +kernel
theorem dX5_cellPlace_6 : decode cX5_cellPlace 6 = .ok (.iload_n 1, 1) := by decide +kernel
theorem dX5_cellPlace_7 : decode cX5_cellPlace 7 = .ok (.iaload, 1) := by decide +kernel
theorem dX5_cellPlace_8 : decode cX5_cellPlace 8 = .ok (.iload_n 2, 1) := by decide +kernel
theorem dX5_cellPlace_9 : decode cX5_cellPlace 9 = .ok (.iadd, 1) := by decide +kernel
theorem dX5_cellPlace_10 : decode cX5_cellPlace 10 = .ok (.bipush 15, 2) := by decide +kernel
theorem dX5_cellPlace_12 : decode cX5_cellPlace 12 = .ok (.iand, 1) := by decide +kernel
theorem dX5_cellPlace_13 : decode cX5_cellPlace 13 = .ok (.iadd, 1) := by decide +kernel
theorem dX5_cellPlace_14 : decode cX5_cellPlace 14 = .ok (.ireturn, 1) := by decide +kernel
theorem dX5_hasEffectsOf_0 : decode cX5_hasEffectsOf 0 = .ok (.aload_n 0, 1) := by decide +kernel
theorem dX5_hasEffectsOf_1 : decode cX5_hasEffectsOf 1 = .ok (.getfield 24, 3) := by decide +kernel
theorem dX5_hasEffectsOf_4 : decode cX5_hasEffectsOf 4 = .ok (.aload_n 1, 1) := by decide +kernel
theorem dX5_hasEffectsOf_5 : decode cX5_hasEffectsOf 5 = .ok (.getfield 24, 3) := by decide +kernel
theorem dX5_hasEffectsOf_8 : decode cX5_hasEffectsOf 8 = .ok (.if_icmp .eq 5, 3) := by decide +kernel
theorem dX5_hasEffectsOf_11 : decode cX5_hasEffectsOf 11 = .ok (.iconst 0, 1) := by decide +kernel
theorem dX5_hasEffectsOf_12 : decode cX5_hasEffectsOf 12 = .ok (.ireturn, 1) := by decide +kernel
theorem dX5_hasEffectsOf_13 : decode cX5_hasEffectsOf 13 = .ok (.iconst 0, 1) := by decide +kernel
theorem dX5_hasEffectsOf_14 : decode cX5_hasEffectsOf 14 = .ok (.istore_n 2, 1) := by decide +kernel
theorem dX5_hasEffectsOf_15 : decode cX5_hasEffectsOf 15 = .ok (.iload_n 2, 1) := by decide +kernel
theorem dX5_hasEffectsOf_16 : decode cX5_hasEffectsOf 16 = .ok (.aload_n 0, 1) := by decide +kernel
theorem dX5_hasEffectsOf_17 : decode cX5_hasEffectsOf 17 = .ok (.getfield 24, 3) := by decide +kernel
theorem dX5_hasEffectsOf_20 : decode cX5_hasEffectsOf 20 = .ok (.if_icmp .ge 26, 3) := by decide +kernel
theorem dX5_hasEffectsOf_23 : decode cX5_hasEffectsOf 23 = .ok (.aload_n 0, 1) := by decide +kernel
theorem dX5_hasEffectsOf_24 : decode cX5_hasEffectsOf 24 = .ok (.getfield 15, 3) := by decide +kernel
theorem dX5_hasEffectsOf_27 : decode cX5_hasEffectsOf 27 = .ok (.iload_n 2, 1) := by decide +kernel
theorem dX5_hasEffectsOf_28 : decode cX5_hasEffectsOf 28 = .ok (.iaload, 1) := by decide +kernel
theorem dX5_hasEffectsOf_29 : decode cX5_hasEffectsOf 29 = .ok (.aload_n 1, 1) := by decide +kernel
theorem dX5_hasEffectsOf_30 : decode cX5_hasEffectsOf 30 = .ok (.getfield 15, 3) := by decide +kernel
theorem dX5_hasEffectsOf_33 : decode cX5_hasEffectsOf 33 = .ok (.iload_n 2, 1) := by decide +kernel
theorem dX5_hasEffectsOf_34 : decode cX5_hasEffectsOf 34 = .ok (.iaload, 1) := by decide +kernel
theorem dX5_hasEffectsOf_35 : decode cX5_hasEffectsOf 35 = .ok (.if_icmp .eq 5, 3) := by decide +kernel
theorem dX5_hasEffectsOf_38 : decode cX5_hasEffectsOf 38 = .ok (.iconst 0, 1) := by decide +kernel
theorem dX5_hasEffectsOf_39 : decode cX5_hasEffectsOf 39 = .ok (.ireturn, 1) := by decide +kernel
theorem dX5_hasEffectsOf_40 : decode cX5_hasEffectsOf 40 = .ok (.iinc 2 1, 3) := by decide +kernel
theorem dX5_hasEffectsOf_43 : decode cX5_hasEffectsOf 43 = .ok (.goto (-28), 3) := by decide +kernel
theorem dX5_hasEffectsOf_46 : decode cX5_hasEffectsOf 46 = .ok (.bipush 8, 2) := by decide +kernel
theorem dX5_hasEffectsOf_48 : decode cX5_hasEffectsOf 48 = .ok (.istore_n 2, 1) := by decide +kernel
theorem dX5_hasEffectsOf_49 : decode cX5_hasEffectsOf 49 = .ok (.iload_n 2, 1) := by decide +kernel
theorem dX5_hasEffectsOf_50 : decode cX5_hasEffectsOf 50 = .ok (.aload_n 0, 1) := by decide +kernel
theorem dX5_hasEffectsOf_51 : decode cX5_hasEffectsOf 51 = .ok (.getfield 9, 3) := by decide +kernel
theorem dX5_hasEffectsOf_54 : decode cX5_hasEffectsOf 54 = .ok (.arraylength, 1) := by decide +kernel
theorem dX5_hasEffectsOf_55 : decode cX5_hasEffectsOf 55 = .ok (.if_icmp .ge 26, 3) := by decide +kernel
theorem dX5_hasEffectsOf_58 : decode cX5_hasEffectsOf 58 = .ok (.aload_n 0, 1) := by decide +kernel
theorem dX5_hasEffectsOf_59 : decode cX5_hasEffectsOf 59 = .ok (.getfield 9, 3) := by decide +kernel
theorem dX5_hasEffectsOf_62 : decode cX5_hasEffectsOf 62 = .ok (.iload_n 2, 1) := by decide +kernel
theorem dX5_hasEffectsOf_63 : decode cX5_hasEffectsOf 63 = .ok (.iaload, 1) := by decide +kernel
theorem dX5_hasEffectsOf_64 : decode cX5_hasEffectsOf 64 = .ok (.aload_n 1, 1) := by decide +kernel
theorem dX5_hasEffectsOf_65 : decode cX5_hasEffectsOf 65 = .ok (.getfield 9, 3) := by decide +kernel
theorem dX5_hasEffectsOf_68 : decode cX5_hasEffectsOf 68 = .ok (.iload_n 2, 1) := by decide +kernel
theorem dX5_hasEffectsOf_69 : decode cX5_hasEffectsOf 69 = .ok (.iaload, 1) := by decide +kernel
theorem dX5_hasEffectsOf_70 : decode cX5_hasEffectsOf 70 = .ok (.if_icmp .eq 5, 3) := by decide +kernel
theorem dX5_hasEffectsOf_73 : decode cX5_hasEffectsOf 73 = .ok (.iconst 0, 1) := by decide +kernel
theorem dX5_hasEffectsOf_74 : decode cX5_hasEffectsOf 74 = .ok (.ireturn, 1) := by decide +kernel
theorem dX5_hasEffectsOf_75 : decode cX5_hasEffectsOf 75 = .ok (.iinc 2 1, 3) := by decide +kernel
theorem dX5_hasEffectsOf_78 : decode cX5_hasEffectsOf 78 = .ok (.goto (-29), 3) := by decide +kernel
theorem dX5_hasEffectsOf_81 : decode cX5_hasEffectsOf 81 = .ok (.iconst 1, 1) := by decide +kernel
theorem dX5_hasEffectsOf_82 : decode cX5_hasEffectsOf 82 = .ok (.ireturn, 1) := by decide +kernel
theorem dX6_init_0 : decode cX6_init 0 = .ok (.aload_n 0, 1) := by decide +kernel
theorem dX6_init_1 : decode cX6_init 1 = .ok (.invokespecial 3, 3) := by decide +kernel
theorem dX6_init_4 : decode cX6_init 4 = .ok (.aload_n 0, 1) := by decide +kernel
theorem dX6_init_5 : decode cX6_init 5 = .ok (.iload_n 1, 1) := by decide +kernel
theorem dX6_init_6 : decode cX6_init 6 = .ok (.iconst 5, 1) := by decide +kernel
theorem dX6_init_7 : decode cX6_init 7 = .ok (.imul, 1) := by decide +kernel
theorem dX6_init_8 : decode cX6_init 8 = .ok (.newarray .int, 2) := by decide +kernel
theorem dX6_init_10 : decode cX6_init 10 = .ok (.putfield 9, 3) := by decide +kernel
theorem dX6_init_13 : decode cX6_init 13 = .ok (.return_, 1) := by decide +kernel
theorem dX6_has_0 : decode cX6_has 0 = .ok (.iload_n 1, 1) := by decide +kernel
theorem dX6_has_1 : decode cX6_has 1 = .ok (.ifCond .lt 15, 3) := by decide +kernel
theorem dX6_has_4 : decode cX6_has 4 = .ok (.iload_n 1, 1) := by decide +kernel
theorem dX6_has_5 : decode cX6_has 5 = .ok (.aload_n 0, 1) := by decide +kernel
theorem dX6_has_6 : decode cX6_has 6 = .ok (.getfield 15, 3) := by decide +kernel
theorem dX6_has_9 : decode cX6_has 9 = .ok (.if_icmp .ge 7, 3) := by decide +kernel
theorem dX6_has_12 : decode cX6_has 12 = .ok (.iconst 1, 1) := by decide +kernel
theorem dX6_has_13 : decode cX6_has 13 = .ok (.goto 4, 3) := by decide +kernel
theorem dX6_has_16 : decode cX6_has 16 = .ok (.iconst 0, 1) := by decide +kernel
theorem dX6_has_17 : decode cX6_has 17 = .ok (.ireturn, 1) := by decide +kernel
theorem dX6_part_0 : decode cX6_part 0 = .ok (.aload_n 0, 1) := by decide +kernel
theorem dX6_part_1 : decode cX6_part 1 = .ok (.getfield 9, 3) := by decide +kernel
theorem dX6_part_4 : decode cX6_part 4 = .ok (.iload_n 1, 1) := by decide +kernel
theorem dX6_part_5 : decode cX6_part 5 = .ok (.iconst 5, 1) := by decide +kernel
theorem dX6_part_6 : decode cX6_part 6 = .ok (.imul, 1) := by decide +kernel
theorem dX6_part_7 : decode cX6_part 7 = .ok (.iload_n 2, 1) := by decide +kernel
theorem dX6_part_8 : decode cX6_part 8 = .ok (.iadd, 1) := by decide +kernel
theorem dX6_part_9 : decode cX6_part 9 = .ok (.iaload, 1) := by decide +kernel
theorem dX6_part_10 : decode cX6_part 10 = .ok (.ireturn, 1) := by decide +kernel
theorem dX6_put_0 : decode cX6_put 0 = .ok (.aload_n 0, 1) := by decide +kernel
theorem dX6_put_1 : decode cX6_put 1 = .ok (.getfield 9, 3) := by decide +kernel
theorem dX6_put_4 : decode cX6_put 4 = .ok (.iload_n 1, 1) := by decide +kernel
theorem dX6_put_5 : decode cX6_put 5 = .ok (.iconst 5, 1) := by decide +kernel
theorem dX6_put_6 : decode cX6_put 6 = .ok (.imul, 1) := by decide +kernel
theorem dX6_put_7 : decode cX6_put 7 = .ok (.iload_n 2, 1) := by decide +kernel
theorem dX6_put_8 : decode cX6_put 8 = .ok (.iadd, 1) := by decide +kernel
theorem dX6_put_9 : decode cX6_put 9 = .ok (.iload_n 3, 1) := by decide +kernel
theorem dX6_put_10 : decode cX6_put 10 = .ok (.iastore, 1) := by decide +kernel
theorem dX6_put_11 : decode cX6_put 11 = .ok (.return_, 1) := by decide +kernel
theorem dX6_kind_0 : decode cX6_kind 0 = .ok (.getstatic 19, 3) := by decide +kernel
theorem dX6_kind_3 : decode cX6_kind 3 = .ok (.aload_n 0, 1) := by decide +kernel
theorem dX6_kind_4 : decode cX6_kind 4 = .ok (.getfield 9, 3) := by decide +kernel
theorem dX6_kind_7 : decode cX6_kind 7 = .ok (.iload_n 1, 1) := by decide +kernel
theorem dX6_kind_8 : decode cX6_kind 8 = .ok (.iconst 5, 1) := by decide +kernel
theorem dX6_kind_9 : decode cX6_kind 9 = .ok (.imul, 1) := by decide +kernel
theorem dX6_kind_10 : decode cX6_kind 10 = .ok (.iconst 0, 1) := by decide +kernel
theorem dX6_kind_11 : decode cX6_kind 11 = .ok (.iadd, 1) := by decide +kernel
theorem dX6_kind_12 : decode cX6_kind 12 = .ok (.iaload, 1) := by decide +kernel
theorem dX6_kind_13 : decode cX6_kind 13 = .ok (.aaload, 1) := by decide +kernel
theorem dX6_kind_14 : decode cX6_kind 14 = .ok (.areturn, 1) := by decide +kernel
theorem dX6_target_0 : decode cX6_target 0 = .ok (.aload_n 0, 1) := by decide +kernel
theorem dX6_target_1 : decode cX6_target 1 = .ok (.getfield 9, 3) := by decide +kernel
theorem dX6_target_4 : decode cX6_target 4 = .ok (.iload_n 1, 1) := by decide +kernel
theorem dX6_target_5 : decode cX6_target 5 = .ok (.iconst 5, 1) := by decide +kernel
theorem dX6_target_6 : decode cX6_target 6 = .ok (.imul, 1) := by decide +kernel
theorem dX6_target_7 : decode cX6_target 7 = .ok (.iconst 3, 1) := by decide +kernel
theorem dX6_target_8 : decode cX6_target 8 = .ok (.iadd, 1) := by decide +kernel
theorem dX6_target_9 : decode cX6_target 9 = .ok (.iaload, 1) := by decide +kernel
theorem dX6_target_10 : decode cX6_target 10 = .ok (.ireturn, 1) := by decide +kernel
theorem dX6_isBranch_0 : decode cX6_isBranch 0 = .ok (.getstatic 19, 3) := by decide +kernel
theorem dX6_isBranch_3 : decode cX6_isBranch 3 = .ok (.aload_n 0, 1) := by decide +kernel
theorem dX6_isBranch_4 : decode cX6_isBranch 4 = .ok (.getfield 9, 3) := by decide +kernel
theorem dX6_isBranch_7 : decode cX6_isBranch 7 = .ok (.iload_n 1, 1) := by decide +kernel
theorem dX6_isBranch_8 : decode cX6_isBranch 8 = .ok (.iconst 5, 1) := by decide +kernel
theorem dX6_isBranch_9 : decode cX6_isBranch 9 = .ok (.imul, 1) := by decide +kernel
theorem dX6_isBranch_10 : decode cX6_isBranch 10 = .ok (.iconst 0, 1) := by decide +kernel
theorem dX6_isBranch_11 : decode cX6_isBranch 11 = .ok (.iadd, 1) := by decide +kernel
theorem dX6_isBranch_12 : decode cX6_isBranch 12 = .ok (.iaload, 1) := by decide +kernel
theorem dX6_isBranch_13 : decode cX6_isBranch 13 = .ok (.aaload, 1) := by decide +kernel
theorem dX6_isBranch_14 : decode cX6_isBranch 14 = .ok (.getfield 23, 3) := by decide +kernel
theorem dX6_isBranch_17 : decode cX6_isBranch 17 = .ok (.ireturn, 1) := by decide +kernel
theorem dX6_isSlot_0 : decode cX6_isSlot 0 = .ok (.iload_n 1, 1) := by decide +kernel
theorem dX6_isSlot_1 : decode cX6_isSlot 1 = .ok (.ifCond .le 17, 3) := by decide +kernel
theorem dX6_isSlot_4 : decode cX6_isSlot 4 = .ok (.aload_n 0, 1) := by decide +kernel
theorem dX6_isSlot_5 : decode cX6_isSlot 5 = .ok (.iload_n 1, 1) := by decide +kernel
theorem dX6_isSlot_6 : decode cX6_isSlot 6 = .ok (.iconst 1, 1) := by decide +kernel
theorem dX6_isSlot_7 : decode cX6_isSlot 7 = .ok (.isub, 1) := by decide +kernel
theorem dX6_isSlot_8 : decode cX6_isSlot 8 = .ok (.invokevirtual 29, 3) := by decide +kernel
theorem dX6_isSlot_11 : decode cX6_isSlot 11 = .ok (.ifCond .eq 7, 3) := by decide +kernel
theorem dX6_isSlot_14 : decode cX6_isSlot 14 = .ok (.iconst 1, 1) := by decide +kernel
theorem dX6_isSlot_15 : decode cX6_isSlot 15 = .ok (.goto 4, 3) := by decide +kernel
theorem dX6_isSlot_18 : decode cX6_isSlot 18 = .ok (.iconst 0, 1) := by decide +kernel
theorem dX6_isSlot_19 : decode cX6_isSlot 19 = .ok (.ireturn, 1) := by decide +kernel
theorem dX6_isAnnulling_0 : decode cX6_isAnnulling 0 = .ok (.aload_n 0, 1) := by decide +kernel
theorem dX6_isAnnulling_1 : decode cX6_isAnnulling 1 = .ok (.getfield 9, 3) := by decide +kernel
theorem dX6_isAnnulling_4 : decode cX6_isAnnulling 4 = .ok (.iload_n 1, 1) := by decide +kernel
theorem dX6_isAnnulling_5 : decode cX6_isAnnulling 5 = .ok (.iconst 5, 1) := by decide +kernel
theorem dX6_isAnnulling_6 : decode cX6_isAnnulling 6 = .ok (.imul, 1) := by decide +kernel
theorem dX6_isAnnulling_7 : decode cX6_isAnnulling 7 = .ok (.iconst 4, 1) := by decide +kernel
theorem dX6_isAnnulling_8 : decode cX6_isAnnulling 8 = .ok (.iadd, 1) := by decide +kernel
theorem dX6_isAnnulling_9 : decode cX6_isAnnulling 9 = .ok (.iaload, 1) := by decide +kernel
theorem dX6_isAnnulling_10 : decode cX6_isAnnulling 10 = .ok (.iconst 1, 1) := by decide +kernel
theorem dX6_isAnnulling_11 : decode cX6_isAnnulling 11 = .ok (.if_icmp .ne 7, 3) := by decide +kernel
theorem dX6_isAnnulling_14 : decode cX6_isAnnulling 14 = .ok (.iconst 1, 1) := by decide +kernel
theorem dX6_isAnnulling_15 : decode cX6_isAnnulling 15 = .ok (.goto 4, 3) := by decide +kernel
theorem dX6_isAnnulling_18 : decode cX6_isAnnulling 18 = .ok (.iconst 0, 1) := by decide +kernel
theorem dX6_isAnnulling_19 : decode cX6_isAnnulling 19 = .ok (.ireturn, 1) := by decide +kernel
theorem dX6_hasEmptySlot_0 : decode cX6_hasEmptySlot 0 = .ok (.aload_n 0, 1) := by decide +kernel
theorem dX6_hasEmptySlot_1 : decode cX6_hasEmptySlot 1 = .ok (.iload_n 1, 1) := by decide +kernel
theorem dX6_hasEmptySlot_2 : decode cX6_hasEmptySlot 2 = .ok (.invokevirtual 29, 3) := by decide +kernel
theorem dX6_hasEmptySlot_5 : decode cX6_hasEmptySlot 5 = .ok (.ifCond .eq 20, 3) := by decide +kernel
theorem dX6_hasEmptySlot_8 : decode cX6_hasEmptySlot 8 = .ok (.aload_n 0, 1) := by decide +kernel
theorem dX6_hasEmptySlot_9 : decode cX6_hasEmptySlot 9 = .ok (.iload_n 1, 1) := by decide +kernel
theorem dX6_hasEmptySlot_10 : decode cX6_hasEmptySlot 10 = .ok (.iconst 1, 1) := by decide +kernel
theorem dX6_hasEmptySlot_11 : decode cX6_hasEmptySlot 11 = .ok (.iadd, 1) := by decide +kernel
theorem dX6_hasEmptySlot_12 : decode cX6_hasEmptySlot 12 = .ok (.invokevirtual 32, 3) := by decide +kernel
theorem dX6_hasEmptySlot_15 : decode cX6_hasEmptySlot 15 = .ok (.getstatic 36, 3) := by decide +kernel
theorem dX6_hasEmptySlot_18 : decode cX6_hasEmptySlot 18 = .ok (.if_acmp .ne 7, 3) := by decide +kernel
theorem dX6_hasEmptySlot_21 : decode cX6_hasEmptySlot 21 = .ok (.iconst 1, 1) := by decide +kernel
theorem dX6_hasEmptySlot_22 : decode cX6_hasEmptySlot 22 = .ok (.goto 4, 3) := by decide +kernel
theorem dX6_hasEmptySlot_25 : decode cX6_hasEmptySlot 25 = .ok (.iconst 0, 1) := by decide +kernel
theorem dX6_hasEmptySlot_26 : decode cX6_hasEmptySlot 26 = .ok (.ireturn, 1) := by decide +kernel
theorem dX6_copyFrom_0 : decode cX6_copyFrom 0 = .ok (.aload_n 0, 1) := by decide +kernel
theorem dX6_copyFrom_1 : decode cX6_copyFrom 1 = .ok (.aload_n 1, 1) := by decide +kernel
theorem dX6_copyFrom_2 : decode cX6_copyFrom 2 = .ok (.getfield 15, 3) := by decide +kernel
theorem dX6_copyFrom_5 : decode cX6_copyFrom 5 = .ok (.putfield 15, 3) := by decide +kernel
theorem dX6_copyFrom_8 : decode cX6_copyFrom 8 = .ok (.aload_n 1, 1) := by decide +kernel
theorem dX6_copyFrom_9 : decode cX6_copyFrom 9 = .ok (.getfield 9, 3) := by decide +kernel
theorem dX6_copyFrom_12 : decode cX6_copyFrom 12 = .ok (.iconst 0, 1) := by decide +kernel
theorem dX6_copyFrom_13 : decode cX6_copyFrom 13 = .ok (.aload_n 0, 1) := by decide +kernel
theorem dX6_copyFrom_14 : decode cX6_copyFrom 14 = .ok (.getfield 9, 3) := by decide +kernel
theorem dX6_copyFrom_17 : decode cX6_copyFrom 17 = .ok (.iconst 0, 1) := by decide +kernel
theorem dX6_copyFrom_18 : decode cX6_copyFrom 18 = .ok (.aload_n 0, 1) := by decide +kernel
theorem dX6_copyFrom_19 : decode cX6_copyFrom 19 = .ok (.getfield 15, 3) := by decide +kernel
theorem dX6_copyFrom_22 : decode cX6_copyFrom 22 = .ok (.iconst 5, 1) := by decide +kernel
theorem dX6_copyFrom_23 : decode cX6_copyFrom 23 = .ok (.imul, 1) := by decide +kernel
theorem dX6_copyFrom_24 : decode cX6_copyFrom 24 = .ok (.invokestatic 40, 3) := by decide +kernel
theorem dX6_copyFrom_27 : decode cX6_copyFrom 27 = .ok (.return_, 1) := by decide +kernel
theorem dX6_copyInstruction_0 : decode cX6_copyInstruction 0 = .ok (.aload_n 0, 1) := by decide +kernel
theorem dX6_copyInstruction_1 : decode cX6_copyInstruction 1 = .ok (.getfield 9, 3) := by decide +kernel
theorem dX6_copyInstruction_4 : decode cX6_copyInstruction 4 = .ok (.iload_n 1, 1) := by decide +kernel
theorem dX6_copyInstruction_5 : decode cX6_copyInstruction 5 = .ok (.iconst 5, 1) := by decide +kernel
theorem dX6_copyInstruction_6 : decode cX6_copyInstruction 6 = .ok (.imul, 1) := by decide +kernel
theorem dX6_copyInstruction_7 : decode cX6_copyInstruction 7 = .ok (.aload_n 0, 1) := by decide +kernel
theorem dX6_copyInstruction_8 : decode cX6_copyInstruction 8 = .ok (.getfield 9, 3) := by decide +kernel
theorem dX6_copyInstruction_11 : decode cX6_copyInstruction 11 = .ok (.iload_n 2, 1) := by decide +kernel
theorem dX6_copyInstruction_12 : decode cX6_copyInstruction 12 = .ok (.iconst 5, 1) := by decide +kernel
theorem dX6_copyInstruction_13 : decode cX6_copyInstruction 13 = .ok (.imul, 1) := by decide +kernel
theorem dX6_copyInstruction_14 : decode cX6_copyInstruction 14 = .ok (.iconst 5, 1) := by decide +kernel
theorem dX6_copyInstruction_15 : decode cX6_copyInstruction 15 = .ok (.invokestatic 40, 3) := by decide +kernel
theorem dX6_copyInstruction_18 : decode cX6_copyInstruction 18 = .ok (.return_, 1) := by decide +kernel
theorem dX6_appendKind_0 : decode cX6_appendKind 0 = .ok (.aload_n 0, 1) := by decide +kernel
theorem dX6_appendKind_1 : decode cX6_appendKind 1 = .ok (.getfield 15, 3) := by decide +kernel
theorem dX6_appendKind_4 : decode cX6_appendKind 4 = .ok (.istore_n 2, 1) := by decide +kernel
theorem dX6_appendKind_5 : decode cX6_appendKind 5 = .ok (.aload_n 0, 1) := by decide +kernel
theorem dX6_appendKind_6 : decode cX6_appendKind 6 = .ok (.dup, 1) := by decide +kernel
theorem dX6_appendKind_7 : decode cX6_appendKind 7 = .ok (.getfield 15, 3) := by decide +kernel
theorem dX6_appendKind_10 : decode cX6_appendKind 10 = .ok (.iconst 1, 1) := by decide +kernel
theorem dX6_appendKind_11 : decode cX6_appendKind 11 = .ok (.iadd, 1) := by decide +kernel
theorem dX6_appendKind_12 : decode cX6_appendKind 12 = .ok (.putfield 15, 3) := by decide +kernel
theorem dX6_appendKind_15 : decode cX6_appendKind 15 = .ok (.iconst 0, 1) := by decide +kernel
theorem dX6_appendKind_16 : decode cX6_appendKind 16 = .ok (.istore_n 3, 1) := by decide +kernel
theorem dX6_appendKind_17 : decode cX6_appendKind 17 = .ok (.iload_n 3, 1) := by decide +kernel
theorem dX6_appendKind_18 : decode cX6_appendKind 18 = .ok (.iconst 5, 1) := by decide +kernel
theorem dX6_appendKind_19 : decode cX6_appendKind 19 = .ok (.if_icmp .ge 16, 3) := by decide +kernel
theorem dX6_appendKind_22 : decode cX6_appendKind 22 = .ok (.aload_n 0, 1) := by decide +kernel
theorem dX6_appendKind_23 : decode cX6_appendKind 23 = .ok (.iload_n 2, 1) := by decide +kernel
theorem dX6_appendKind_24 : decode cX6_appendKind 24 = .ok (.iload_n 3, 1) := by decide +kernel
theorem dX6_appendKind_25 : decode cX6_appendKind 25 = .ok (.iconst 0, 1) := by decide +kernel
theorem dX6_appendKind_26 : decode cX6_appendKind 26 = .ok (.invokevirtual 46, 3) := by decide +kernel
theorem dX6_appendKind_29 : decode cX6_appendKind 29 = .ok (.iinc 3 1, 3) := by decide +kernel
theorem dX6_appendKind_32 : decode cX6_appendKind 32 = .ok (.goto (-15), 3) := by decide +kernel
theorem dX6_appendKind_35 : decode cX6_appendKind 35 = .ok (.aload_n 0, 1) := by decide +kernel
theorem dX6_appendKind_36 : decode cX6_appendKind 36 = .ok (.iload_n 2, 1) := by decide +kernel
theorem dX6_appendKind_37 : decode cX6_appendKind 37 = .ok (.iconst 0, 1) := by decide +kernel
theorem dX6_appendKind_38 : decode cX6_appendKind 38 = .ok (.iload_n 1, 1) := by decide +kernel
theorem dX6_appendKind_39 : decode cX6_appendKind 39 = .ok (.invokevirtual 46, 3) := by decide +kernel
theorem dX6_appendKind_42 : decode cX6_appendKind 42 = .ok (.iload_n 2, 1) := by decide +kernel
theorem dX6_appendKind_43 : decode cX6_appendKind 43 = .ok (.ireturn, 1) := by decide +kernel
theorem dX6_appendAll_0 : decode cX6_appendAll 0 = .ok (.aload_n 0, 1) := by decide +kernel
theorem dX6_appendAll_1 : decode cX6_appendAll 1 = .ok (.getfield 15, 3) := by decide +kernel
theorem dX6_appendAll_4 : decode cX6_appendAll 4 = .ok (.istore_n 2, 1) := by decide +kernel
theorem dX6_appendAll_5 : decode cX6_appendAll 5 = .ok (.iconst 0, 1) := by decide +kernel
theorem dX6_appendAll_6 : decode cX6_appendAll 6 = .ok (.istore_n 3, 1) := by decide +kernel
theorem dX6_appendAll_7 : decode cX6_appendAll 7 = .ok (.iload_n 3, 1) := by decide +kernel
theorem dX6_appendAll_8 : decode cX6_appendAll 8 = .ok (.aload_n 1, 1) := by decide +kernel
theorem dX6_appendAll_9 : decode cX6_appendAll 9 = .ok (.getfield 15, 3) := by decide +kernel
theorem dX6_appendAll_12 : decode cX6_appendAll 12 = .ok (.if_icmp .ge 78, 3) := by decide +kernel
theorem dX6_appendAll_15 : decode cX6_appendAll 15 = .ok (.aload_n 0, 1) := by decide +kernel
theorem dX6_appendAll_16 : decode cX6_appendAll 16 = .ok (.aload_n 1, 1) := by decide +kernel
theorem dX6_appendAll_17 : decode cX6_appendAll 17 = .ok (.iload_n 3, 1) := by decide +kernel
theorem dX6_appendAll_18 : decode cX6_appendAll 18 = .ok (.iconst 0, 1) := by decide +kernel
theorem dX6_appendAll_19 : decode cX6_appendAll 19 = .ok (.invokevirtual 50, 3) := by decide +kernel
theorem dX6_appendAll_22 : decode cX6_appendAll 22 = .ok (.invokevirtual 54, 3) := by decide +kernel
theorem dX6_appendAll_25 : decode cX6_appendAll 25 = .ok (.istore 4, 2) := by decide +kernel
theorem dX6_appendAll_27 : decode cX6_appendAll 27 = .ok (.aload_n 0, 1) := by decide +kernel
theorem dX6_appendAll_28 : decode cX6_appendAll 28 = .ok (.iload 4, 2) := by decide +kernel
theorem dX6_appendAll_30 : decode cX6_appendAll 30 = .ok (.iconst 1, 1) := by decide +kernel
theorem dX6_appendAll_31 : decode cX6_appendAll 31 = .ok (.aload_n 1, 1) := by decide +kernel
theorem dX6_appendAll_32 : decode cX6_appendAll 32 = .ok (.iload_n 3, 1) := by decide +kernel
theorem dX6_appendAll_33 : decode cX6_appendAll 33 = .ok (.iconst 1, 1) := by decide +kernel
theorem dX6_appendAll_34 : decode cX6_appendAll 34 = .ok (.invokevirtual 50, 3) := by decide +kernel
theorem dX6_appendAll_37 : decode cX6_appendAll 37 = .ok (.invokevirtual 46, 3) := by decide +kernel
theorem dX6_appendAll_40 : decode cX6_appendAll 40 = .ok (.aload_n 0, 1) := by decide +kernel
theorem dX6_appendAll_41 : decode cX6_appendAll 41 = .ok (.iload 4, 2) := by decide +kernel
theorem dX6_appendAll_43 : decode cX6_appendAll 43 = .ok (.iconst 2, 1) := by decide +kernel
theorem dX6_appendAll_44 : decode cX6_appendAll 44 = .ok (.aload_n 1, 1) := by decide +kernel
theorem dX6_appendAll_45 : decode cX6_appendAll 45 = .ok (.iload_n 3, 1) := by decide +kernel
theorem dX6_appendAll_46 : decode cX6_appendAll 46 = .ok (.iconst 2, 1) := by decide +kernel
theorem dX6_appendAll_47 : decode cX6_appendAll 47 = .ok (.invokevirtual 50, 3) := by decide +kernel
theorem dX6_appendAll_50 : decode cX6_appendAll 50 = .ok (.invokevirtual 46, 3) := by decide +kernel
theorem dX6_appendAll_53 : decode cX6_appendAll 53 = .ok (.aload_n 0, 1) := by decide +kernel
theorem dX6_appendAll_54 : decode cX6_appendAll 54 = .ok (.iload 4, 2) := by decide +kernel
theorem dX6_appendAll_56 : decode cX6_appendAll 56 = .ok (.iconst 3, 1) := by decide +kernel
theorem dX6_appendAll_57 : decode cX6_appendAll 57 = .ok (.aload_n 1, 1) := by decide +kernel
theorem dX6_appendAll_58 : decode cX6_appendAll 58 = .ok (.iload_n 3, 1) := by decide +kernel
theorem dX6_appendAll_59 : decode cX6_appendAll 59 = .ok (.invokevirtual 29, 3) := by decide +kernel
theorem dX6_appendAll_62 : decode cX6_appendAll 62 = .ok (.ifCond .eq 13, 3) := by decide +kernel
theorem dX6_appendAll_65 : decode cX6_appendAll 65 = .ok (.iload_n 2, 1) := by decide +kernel
theorem dX6_appendAll_66 : decode cX6_appendAll 66 = .ok (.aload_n 1, 1) := by decide +kernel
theorem dX6_appendAll_67 : decode cX6_appendAll 67 = .ok (.iload_n 3, 1) := by decide +kernel
theorem dX6_appendAll_68 : decode cX6_appendAll 68 = .ok (.invokevirtual 58, 3) := by decide +kernel
theorem dX6_appendAll_71 : decode cX6_appendAll 71 = .ok (.iadd, 1) := by decide +kernel
theorem dX6_appendAll_72 : decode cX6_appendAll 72 = .ok (.goto 9, 3) := by decide +kernel
theorem dX6_appendAll_75 : decode cX6_appendAll 75 = .ok (.aload_n 1, 1) := by decide +kernel
theorem dX6_appendAll_76 : decode cX6_appendAll 76 = .ok (.iload_n 3, 1) := by decide +kernel
theorem dX6_appendAll_77 : decode cX6_appendAll 77 = .ok (.iconst 3, 1) := by decide +kernel
theorem dX6_appendAll_78 : decode cX6_appendAll 78 = .ok (.invokevirtual 50, 3) := by decide +kernel
theorem dX6_appendAll_81 : decode cX6_appendAll 81 = .ok (.invokevirtual 46, 3) := by decide +kernel
theorem dX6_appendAll_84 : decode cX6_appendAll 84 = .ok (.iinc 3 1, 3) := by decide +kernel
theorem dX6_appendAll_87 : decode cX6_appendAll 87 = .ok (.goto (-80), 3) := by decide +kernel
theorem dX6_appendAll_90 : decode cX6_appendAll 90 = .ok (.return_, 1) := by decide +kernel
theorem dX6_expandFrom_0 : decode cX6_expandFrom 0 = .ok (.aload_n 0, 1) := by decide +kernel
theorem dX6_expandFrom_1 : decode cX6_expandFrom 1 = .ok (.iconst 0, 1) := by decide +kernel
theorem dX6_expandFrom_2 : decode cX6_expandFrom 2 = .ok (.putfield 15, 3) := by decide +kernel
theorem dX6_expandFrom_5 : decode cX6_expandFrom 5 = .ok (.iconst 0, 1) := by decide +kernel
theorem dX6_expandFrom_6 : decode cX6_expandFrom 6 = .ok (.istore_n 2, 1) := by decide +kernel
theorem dX6_expandFrom_7 : decode cX6_expandFrom 7 = .ok (.iload_n 2, 1) := by decide +kernel
theorem dX6_expandFrom_8 : decode cX6_expandFrom 8 = .ok (.aload_n 1, 1) := by decide +kernel
theorem dX6_expandFrom_9 : decode cX6_expandFrom 9 = .ok (.getfield 15, 3) := by decide +kernel
theorem dX6_expandFrom_12 : decode cX6_expandFrom 12 = .ok (.if_icmp .ge 85, 3) := by decide +kernel
theorem dX6_expandFrom_15 : decode cX6_expandFrom 15 = .ok (.aload_n 0, 1) := by decide +kernel
theorem dX6_expandFrom_16 : decode cX6_expandFrom 16 = .ok (.aload_n 1, 1) := by decide +kernel
theorem dX6_expandFrom_17 : decode cX6_expandFrom 17 = .ok (.iload_n 2, 1) := by decide +kernel
theorem dX6_expandFrom_18 : decode cX6_expandFrom 18 = .ok (.iconst 0, 1) := by decide +kernel
theorem dX6_expandFrom_19 : decode cX6_expandFrom 19 = .ok (.invokevirtual 50, 3) := by decide +kernel
theorem dX6_expandFrom_22 : decode cX6_expandFrom 22 = .ok (.invokevirtual 54, 3) := by decide +kernel
theorem dX6_expandFrom_25 : decode cX6_expandFrom 25 = .ok (.istore_n 3, 1) := by decide +kernel
theorem dX6_expandFrom_26 : decode cX6_expandFrom 26 = .ok (.aload_n 0, 1) := by decide +kernel
theorem dX6_expandFrom_27 : decode cX6_expandFrom 27 = .ok (.iload_n 3, 1) := by decide +kernel
theorem dX6_expandFrom_28 : decode cX6_expandFrom 28 = .ok (.iconst 1, 1) := by decide +kernel
theorem dX6_expandFrom_29 : decode cX6_expandFrom 29 = .ok (.aload_n 1, 1) := by decide +kernel
theorem dX6_expandFrom_30 : decode cX6_expandFrom 30 = .ok (.iload_n 2, 1) := by decide +kernel
theorem dX6_expandFrom_31 : decode cX6_expandFrom 31 = .ok (.iconst 1, 1) := by decide +kernel
theorem dX6_expandFrom_32 : decode cX6_expandFrom 32 = .ok (.invokevirtual 50, 3) := by decide +kernel
theorem dX6_expandFrom_35 : decode cX6_expandFrom 35 = .ok (.invokevirtual 46, 3) := by decide +kernel
theorem dX6_expandFrom_38 : decode cX6_expandFrom 38 = .ok (.aload_n 0, 1) := by decide +kernel
theorem dX6_expandFrom_39 : decode cX6_expandFrom 39 = .ok (.iload_n 3, 1) := by decide +kernel
theorem dX6_expandFrom_40 : decode cX6_expandFrom 40 = .ok (.iconst 2, 1) := by decide +kernel
theorem dX6_expandFrom_41 : decode cX6_expandFrom 41 = .ok (.aload_n 1, 1) := by decide +kernel
theorem dX6_expandFrom_42 : decode cX6_expandFrom 42 = .ok (.iload_n 2, 1) := by decide +kernel
theorem dX6_expandFrom_43 : decode cX6_expandFrom 43 = .ok (.iconst 2, 1) := by decide +kernel
theorem dX6_expandFrom_44 : decode cX6_expandFrom 44 = .ok (.invokevirtual 50, 3) := by decide +kernel
theorem dX6_expandFrom_47 : decode cX6_expandFrom 47 = .ok (.invokevirtual 46, 3) := by decide +kernel
theorem dX6_expandFrom_50 : decode cX6_expandFrom 50 = .ok (.aload_n 0, 1) := by decide +kernel
theorem dX6_expandFrom_51 : decode cX6_expandFrom 51 = .ok (.iload_n 3, 1) := by decide +kernel
theorem dX6_expandFrom_52 : decode cX6_expandFrom 52 = .ok (.iconst 3, 1) := by decide +kernel
theorem dX6_expandFrom_53 : decode cX6_expandFrom 53 = .ok (.aload_n 1, 1) := by decide +kernel
theorem dX6_expandFrom_54 : decode cX6_expandFrom 54 = .ok (.iload_n 2, 1) := by decide +kernel
theorem dX6_expandFrom_55 : decode cX6_expandFrom 55 = .ok (.iconst 3, 1) := by decide +kernel
theorem dX6_expandFrom_56 : decode cX6_expandFrom 56 = .ok (.invokevirtual 50, 3) := by decide +kernel
theorem dX6_expandFrom_59 : decode cX6_expandFrom 59 = .ok (.invokevirtual 46, 3) := by decide +kernel
theorem dX6_expandFrom_62 : decode cX6_expandFrom 62 = .ok (.aload_n 1, 1) := by decide +kernel
theorem dX6_expandFrom_63 : decode cX6_expandFrom 63 = .ok (.iload_n 2, 1) := by decide +kernel
theorem dX6_expandFrom_64 : decode cX6_expandFrom 64 = .ok (.invokevirtual 29, 3) := by decide +kernel
theorem dX6_expandFrom_67 : decode cX6_expandFrom 67 = .ok (.ifCond .eq 24, 3) := by decide +kernel
theorem dX6_expandFrom_70 : decode cX6_expandFrom 70 = .ok (.aload_n 0, 1) := by decide +kernel
theorem dX6_expandFrom_71 : decode cX6_expandFrom 71 = .ok (.iload_n 3, 1) := by decide +kernel
theorem dX6_expandFrom_72 : decode cX6_expandFrom 72 = .ok (.iconst 3, 1) := by decide +kernel
theorem dX6_expandFrom_73 : decode cX6_expandFrom 73 = .ok (.aload_n 1, 1) := by decide +kernel
theorem dX6_expandFrom_74 : decode cX6_expandFrom 74 = .ok (.aload_n 1, 1) := by decide +kernel
theorem dX6_expandFrom_75 : decode cX6_expandFrom 75 = .ok (.iload_n 2, 1) := by decide +kernel
theorem dX6_expandFrom_76 : decode cX6_expandFrom 76 = .ok (.invokevirtual 58, 3) := by decide +kernel
theorem dX6_expandFrom_79 : decode cX6_expandFrom 79 = .ok (.invokevirtual 61, 3) := by decide +kernel
theorem dX6_expandFrom_82 : decode cX6_expandFrom 82 = .ok (.invokevirtual 46, 3) := by decide +kernel
theorem dX6_expandFrom_85 : decode cX6_expandFrom 85 = .ok (.aload_n 0, 1) := by decide +kernel
theorem dX6_expandFrom_86 : decode cX6_expandFrom 86 = .ok (.iconst 0, 1) := by decide +kernel
theorem dX6_expandFrom_87 : decode cX6_expandFrom 87 = .ok (.invokevirtual 54, 3) := by decide +kernel
theorem dX6_expandFrom_90 : decode cX6_expandFrom 90 = .ok (.pop, 1) := by decide +kernel
theorem dX6_expandFrom_91 : decode cX6_expandFrom 91 = .ok (.iinc 2 1, 3) := by decide +kernel
theorem dX6_expandFrom_94 : decode cX6_expandFrom 94 = .ok (.goto (-87), 3) := by decide +kernel
theorem dX6_expandFrom_97 : decode cX6_expandFrom 97 = .ok (.return_, 1) := by decide +kernel
theorem dX6_entryOf_0 : decode cX6_entryOf 0 = .ok (.iload_n 1, 1) := by decide +kernel
theorem dX6_entryOf_1 : decode cX6_entryOf 1 = .ok (.istore_n 2, 1) := by decide +kernel
theorem dX6_entryOf_2 : decode cX6_entryOf 2 = .ok (.iconst 0, 1) := by decide +kernel
theorem dX6_entryOf_3 : decode cX6_entryOf 3 = .ok (.istore_n 3, 1) := by decide +kernel
theorem dX6_entryOf_4 : decode cX6_entryOf 4 = .ok (.iload_n 3, 1) := by decide +kernel
theorem dX6_entryOf_5 : decode cX6_entryOf 5 = .ok (.iload_n 1, 1) := by decide +kernel
theorem dX6_entryOf_6 : decode cX6_entryOf 6 = .ok (.if_icmp .ge 20, 3) := by decide +kernel
theorem dX6_entryOf_9 : decode cX6_entryOf 9 = .ok (.aload_n 0, 1) := by decide +kernel
theorem dX6_entryOf_10 : decode cX6_entryOf 10 = .ok (.iload_n 3, 1) := by decide +kernel
theorem dX6_entryOf_11 : decode cX6_entryOf 11 = .ok (.invokevirtual 29, 3) := by decide +kernel
theorem dX6_entryOf_14 : decode cX6_entryOf 14 = .ok (.ifCond .eq 6, 3) := by decide +kernel
theorem dX6_entryOf_17 : decode cX6_entryOf 17 = .ok (.iinc 2 1, 3) := by decide +kernel
theorem dX6_entryOf_20 : decode cX6_entryOf 20 = .ok (.iinc 3 1, 3) := by decide +kernel
theorem dX6_entryOf_23 : decode cX6_entryOf 23 = .ok (.goto (-19), 3) := by decide +kernel
theorem dX6_entryOf_26 : decode cX6_entryOf 26 = .ok (.iload_n 2, 1) := by decide +kernel
theorem dX6_entryOf_27 : decode cX6_entryOf 27 = .ok (.ireturn, 1) := by decide +kernel
theorem dX6_remove_0 : decode cX6_remove 0 = .ok (.iload_n 1, 1) := by decide +kernel
theorem dX6_remove_1 : decode cX6_remove 1 = .ok (.iconst 1, 1) := by decide +kernel
theorem dX6_remove_2 : decode cX6_remove 2 = .ok (.iadd, 1) := by decide +kernel
theorem dX6_remove_3 : decode cX6_remove 3 = .ok (.iconst 5, 1) := by decide +kernel
theorem dX6_remove_4 : decode cX6_remove 4 = .ok (.imul, 1) := by decide +kernel
theorem dX6_remove_5 : decode cX6_remove 5 = .ok (.istore_n 2, 1) := by decide +kernel
theorem dX6_remove_6 : decode cX6_remove 6 = .ok (.aload_n 0, 1) := by decide +kernel
theorem dX6_remove_7 : decode cX6_remove 7 = .ok (.getfield 9, 3) := by decide +kernel
theorem dX6_remove_10 : decode cX6_remove 10 = .ok (.iload_n 2, 1) := by decide +kernel
theorem dX6_remove_11 : decode cX6_remove 11 = .ok (.aload_n 0, 1) := by decide +kernel
theorem dX6_remove_12 : decode cX6_remove 12 = .ok (.getfield 9, 3) := by decide +kernel
theorem dX6_remove_15 : decode cX6_remove 15 = .ok (.iload_n 1, 1) := by decide +kernel
theorem dX6_remove_16 : decode cX6_remove 16 = .ok (.iconst 5, 1) := by decide +kernel
theorem dX6_remove_17 : decode cX6_remove 17 = .ok (.imul, 1) := by decide +kernel
theorem dX6_remove_18 : decode cX6_remove 18 = .ok (.aload_n 0, 1) := by decide +kernel
theorem dX6_remove_19 : decode cX6_remove 19 = .ok (.getfield 15, 3) := by decide +kernel
theorem dX6_remove_22 : decode cX6_remove 22 = .ok (.iconst 5, 1) := by decide +kernel
theorem dX6_remove_23 : decode cX6_remove 23 = .ok (.imul, 1) := by decide +kernel
theorem dX6_remove_24 : decode cX6_remove 24 = .ok (.iload_n 2, 1) := by decide +kernel
theorem dX6_remove_25 : decode cX6_remove 25 = .ok (.isub, 1) := by decide +kernel
theorem dX6_remove_26 : decode cX6_remove 26 = .ok (.invokestatic 40, 3) := by decide +kernel
theorem dX6_remove_29 : decode cX6_remove 29 = .ok (.aload_n 0, 1) := by decide +kernel
theorem dX6_remove_30 : decode cX6_remove 30 = .ok (.dup, 1) := by decide +kernel
theorem dX6_remove_31 : decode cX6_remove 31 = .ok (.getfield 15, 3) := by decide +kernel
theorem dX6_remove_34 : decode cX6_remove 34 = .ok (.iconst 1, 1) := by decide +kernel
theorem dX6_remove_35 : decode cX6_remove 35 = .ok (.isub, 1) := by decide +kernel
theorem dX6_remove_36 : decode cX6_remove 36 = .ok (.putfield 15, 3) := by decide +kernel
theorem dX6_remove_39 : decode cX6_remove 39 = .ok (.iconst 0, 1) := by decide +kernel
theorem dX6_remove_40 : decode cX6_remove 40 = .ok (.istore_n 3, 1) := by decide +kernel
theorem dX6_remove_41 : decode cX6_remove 41 = .ok (.iload_n 3, 1) := by decide +kernel
theorem dX6_remove_42 : decode cX6_remove 42 = .ok (.aload_n 0, 1) := by decide +kernel
theorem dX6_remove_43 : decode cX6_remove 43 = .ok (.getfield 15, 3) := by decide +kernel
theorem dX6_remove_46 : decode cX6_remove 46 = .ok (.if_icmp .ge 39, 3) := by decide +kernel
theorem dX6_remove_49 : decode cX6_remove 49 = .ok (.aload_n 0, 1) := by decide +kernel
theorem dX6_remove_50 : decode cX6_remove 50 = .ok (.iload_n 3, 1) := by decide +kernel
theorem dX6_remove_51 : decode cX6_remove 51 = .ok (.invokevirtual 29, 3) := by decide +kernel
theorem dX6_remove_54 : decode cX6_remove 54 = .ok (.ifCond .eq 25, 3) := by decide +kernel
theorem dX6_remove_57 : decode cX6_remove 57 = .ok (.aload_n 0, 1) := by decide +kernel
theorem dX6_remove_58 : decode cX6_remove 58 = .ok (.iload_n 3, 1) := by decide +kernel
theorem dX6_remove_59 : decode cX6_remove 59 = .ok (.invokevirtual 58, 3) := by decide +kernel
theorem dX6_remove_62 : decode cX6_remove 62 = .ok (.iload_n 1, 1) := by decide +kernel
theorem dX6_remove_63 : decode cX6_remove 63 = .ok (.if_icmp .le 16, 3) := by decide +kernel
theorem dX6_remove_66 : decode cX6_remove 66 = .ok (.aload_n 0, 1) := by decide +kernel
theorem dX6_remove_67 : decode cX6_remove 67 = .ok (.iload_n 3, 1) := by decide +kernel
theorem dX6_remove_68 : decode cX6_remove 68 = .ok (.iconst 3, 1) := by decide +kernel
theorem dX6_remove_69 : decode cX6_remove 69 = .ok (.aload_n 0, 1) := by decide +kernel
theorem dX6_remove_70 : decode cX6_remove 70 = .ok (.iload_n 3, 1) := by decide +kernel
theorem dX6_remove_71 : decode cX6_remove 71 = .ok (.invokevirtual 58, 3) := by decide +kernel
theorem dX6_remove_74 : decode cX6_remove 74 = .ok (.iconst 1, 1) := by decide +kernel
theorem dX6_remove_75 : decode cX6_remove 75 = .ok (.isub, 1) := by decide +kernel
theorem dX6_remove_76 : decode cX6_remove 76 = .ok (.invokevirtual 46, 3) := by decide +kernel
theorem dX6_remove_79 : decode cX6_remove 79 = .ok (.iinc 3 1, 3) := by decide +kernel
theorem dX6_remove_82 : decode cX6_remove 82 = .ok (.goto (-41), 3) := by decide +kernel
theorem dX6_remove_85 : decode cX6_remove 85 = .ok (.return_, 1) := by decide +kernel
theorem dX6_branches_0 : decode cX6_branches 0 = .ok (.iconst 0, 1) := by decide +kernel
theorem dX6_branches_1 : decode cX6_branches 1 = .ok (.istore_n 1, 1) := by decide +kernel
theorem dX6_branches_2 : decode cX6_branches 2 = .ok (.iconst 0, 1) := by decide +kernel
theorem dX6_branches_3 : decode cX6_branches 3 = .ok (.istore_n 2, 1) := by decide +kernel
theorem dX6_branches_4 : decode cX6_branches 4 = .ok (.iload_n 2, 1) := by decide +kernel
theorem dX6_branches_5 : decode cX6_branches 5 = .ok (.aload_n 0, 1) := by decide +kernel
theorem dX6_branches_6 : decode cX6_branches 6 = .ok (.getfield 15, 3) := by decide +kernel
theorem dX6_branches_9 : decode cX6_branches 9 = .ok (.if_icmp .ge 20, 3) := by decide +kernel
theorem dX6_branches_12 : decode cX6_branches 12 = .ok (.aload_n 0, 1) := by decide +kernel
theorem dX6_branches_13 : decode cX6_branches 13 = .ok (.iload_n 2, 1) := by decide +kernel
theorem dX6_branches_14 : decode cX6_branches 14 = .ok (.invokevirtual 29, 3) := by decide +kernel
theorem dX6_branches_17 : decode cX6_branches 17 = .ok (.ifCond .eq 6, 3) := by decide +kernel
theorem dX6_branches_20 : decode cX6_branches 20 = .ok (.iinc 1 1, 3) := by decide +kernel
theorem dX6_branches_23 : decode cX6_branches 23 = .ok (.iinc 2 1, 3) := by decide +kernel
theorem dX6_branches_26 : decode cX6_branches 26 = .ok (.goto (-22), 3) := by decide +kernel
theorem dX6_branches_29 : decode cX6_branches 29 = .ok (.iload_n 1, 1) := by decide +kernel
theorem dX6_branches_30 : decode cX6_branches 30 = .ok (.ireturn, 1) := by decide +kernel
theorem dX6_emptySlots_0 : decode cX6_emptySlots 0 = .ok (.iconst 0, 1) := by decide +kernel
theorem dX6_emptySlots_1 : decode cX6_emptySlots 1 = .ok (.istore_n 1, 1) := by decide +kernel
theorem dX6_emptySlots_2 : decode cX6_emptySlots 2 = .ok (.iconst 0, 1) := by decide +kernel
theorem dX6_emptySlots_3 : decode cX6_emptySlots 3 = .ok (.istore_n 2, 1) := by decide +kernel
theorem dX6_emptySlots_4 : decode cX6_emptySlots 4 = .ok (.iload_n 2, 1) := by decide +kernel
theorem dX6_emptySlots_5 : decode cX6_emptySlots 5 = .ok (.aload_n 0, 1) := by decide +kernel
theorem dX6_emptySlots_6 : decode cX6_emptySlots 6 = .ok (.getfield 15, 3) := by decide +kernel
theorem dX6_emptySlots_9 : decode cX6_emptySlots 9 = .ok (.if_icmp .ge 20, 3) := by decide +kernel
theorem dX6_emptySlots_12 : decode cX6_emptySlots 12 = .ok (.aload_n 0, 1) := by decide +kernel
theorem dX6_emptySlots_13 : decode cX6_emptySlots 13 = .ok (.iload_n 2, 1) := by decide +kernel
theorem dX6_emptySlots_14 : decode cX6_emptySlots 14 = .ok (.invokevirtual 64, 3) := by decide +kernel
theorem dX6_emptySlots_17 : decode cX6_emptySlots 17 = .ok (.ifCond .eq 6, 3) := by decide +kernel
theorem dX6_emptySlots_20 : decode cX6_emptySlots 20 = .ok (.iinc 1 1, 3) := by decide +kernel
theorem dX6_emptySlots_23 : decode cX6_emptySlots 23 = .ok (.iinc 2 1, 3) := by decide +kernel
theorem dX6_emptySlots_26 : decode cX6_emptySlots 26 = .ok (.goto (-22), 3) := by decide +kernel
theorem dX6_emptySlots_29 : decode cX6_emptySlots 29 = .ok (.iload_n 1, 1) := by decide +kernel
theorem dX6_emptySlots_30 : decode cX6_emptySlots 30 = .ok (.ireturn, 1) := by decide +kernel
theorem dX6_annullingBranches_0 : decode cX6_annullingBranches 0 = .ok (.iconst 0, 1) := by decide +kernel
theorem dX6_annullingBranches_1 : decode cX6_annullingBranches 1 = .ok (.istore_n 1, 1) := by decide +kernel
theorem dX6_annullingBranches_2 : decode cX6_annullingBranches 2 = .ok (.iconst 0, 1) := by decide +kernel
theorem dX6_annullingBranches_3 : decode cX6_annullingBranches 3 = .ok (.istore_n 2, 1) := by decide +kernel
theorem dX6_annullingBranches_4 : decode cX6_annullingBranches 4 = .ok (.iload_n 2, 1) := by decide +kernel
theorem dX6_annullingBranches_5 : decode cX6_annullingBranches 5 = .ok (.aload_n 0, 1) := by decide +kernel
theorem dX6_annullingBranches_6 : decode cX6_annullingBranches 6 = .ok (.getfield 15, 3) := by decide +kernel
theorem dX6_annullingBranches_9 : decode cX6_annullingBranches 9 = .ok (.if_icmp .ge 18, 3) := by decide +kernel
theorem dX6_annullingBranches_12 : decode cX6_annullingBranches 12 = .ok (.iload_n 1, 1) := by decide +kernel
theorem dX6_annullingBranches_13 : decode cX6_annullingBranches 13 = .ok (.aload_n 0, 1) := by decide +kernel
theorem dX6_annullingBranches_14 : decode cX6_annullingBranches 14 = .ok (.iload_n 2, 1) := by decide +kernel
theorem dX6_annullingBranches_15 : decode cX6_annullingBranches 15 = .ok (.iconst 4, 1) := by decide +kernel
theorem dX6_annullingBranches_16 : decode cX6_annullingBranches 16 = .ok (.invokevirtual 50, 3) := by decide +kernel
theorem dX6_annullingBranches_19 : decode cX6_annullingBranches 19 = .ok (.iadd, 1) := by decide +kernel
theorem dX6_annullingBranches_20 : decode cX6_annullingBranches 20 = .ok (.istore_n 1, 1) := by decide +kernel
theorem dX6_annullingBranches_21 : decode cX6_annullingBranches 21 = .ok (.iinc 2 1, 3) := by decide +kernel
theorem dX6_annullingBranches_24 : decode cX6_annullingBranches 24 = .ok (.goto (-20), 3) := by decide +kernel
theorem dX6_annullingBranches_27 : decode cX6_annullingBranches 27 = .ok (.iload_n 1, 1) := by decide +kernel
theorem dX6_annullingBranches_28 : decode cX6_annullingBranches 28 = .ok (.ireturn, 1) := by decide +kernel
theorem dX6_nops_0 : decode cX6_nops 0 = .ok (.iconst 0, 1) := by decide +kernel
theorem dX6_nops_1 : decode cX6_nops 1 = .ok (.istore_n 1, 1) := by decide +kernel
theorem dX6_nops_2 : decode cX6_nops 2 = .ok (.iconst 0, 1) := by decide +kernel
theorem dX6_nops_3 : decode cX6_nops 3 = .ok (.istore_n 2, 1) := by decide +kernel
theorem dX6_nops_4 : decode cX6_nops 4 = .ok (.iload_n 2, 1) := by decide +kernel
theorem dX6_nops_5 : decode cX6_nops 5 = .ok (.aload_n 0, 1) := by decide +kernel
theorem dX6_nops_6 : decode cX6_nops 6 = .ok (.getfield 15, 3) := by decide +kernel
theorem dX6_nops_9 : decode cX6_nops 9 = .ok (.if_icmp .ge 23, 3) := by decide +kernel
theorem dX6_nops_12 : decode cX6_nops 12 = .ok (.aload_n 0, 1) := by decide +kernel
theorem dX6_nops_13 : decode cX6_nops 13 = .ok (.iload_n 2, 1) := by decide +kernel
theorem dX6_nops_14 : decode cX6_nops 14 = .ok (.invokevirtual 32, 3) := by decide +kernel
theorem dX6_nops_17 : decode cX6_nops 17 = .ok (.getstatic 36, 3) := by decide +kernel
theorem dX6_nops_20 : decode cX6_nops 20 = .ok (.if_acmp .ne 6, 3) := by decide +kernel
theorem dX6_nops_23 : decode cX6_nops 23 = .ok (.iinc 1 1, 3) := by decide +kernel
theorem dX6_nops_26 : decode cX6_nops 26 = .ok (.iinc 2 1, 3) := by decide +kernel
theorem dX6_nops_29 : decode cX6_nops 29 = .ok (.goto (-25), 3) := by decide +kernel
theorem dX6_nops_32 : decode cX6_nops 32 = .ok (.iload_n 1, 1) := by decide +kernel
theorem dX6_nops_33 : decode cX6_nops 33 = .ok (.ireturn, 1) := by decide +kernel
theorem dX6_branchesTo_0 : decode cX6_branchesTo 0 = .ok (.iconst 0, 1) := by decide +kernel
theorem dX6_branchesTo_1 : decode cX6_branchesTo 1 = .ok (.istore_n 2, 1) := by decide +kernel
theorem dX6_branchesTo_2 : decode cX6_branchesTo 2 = .ok (.iconst 0, 1) := by decide +kernel
theorem dX6_branchesTo_3 : decode cX6_branchesTo 3 = .ok (.istore_n 3, 1) := by decide +kernel
theorem dX6_branchesTo_4 : decode cX6_branchesTo 4 = .ok (.iload_n 3, 1) := by decide +kernel
theorem dX6_branchesTo_5 : decode cX6_branchesTo 5 = .ok (.aload_n 0, 1) := by decide +kernel
theorem dX6_branchesTo_6 : decode cX6_branchesTo 6 = .ok (.getfield 15, 3) := by decide +kernel
theorem dX6_branchesTo_9 : decode cX6_branchesTo 9 = .ok (.if_icmp .ge 29, 3) := by decide +kernel
theorem dX6_branchesTo_12 : decode cX6_branchesTo 12 = .ok (.aload_n 0, 1) := by decide +kernel
theorem dX6_branchesTo_13 : decode cX6_branchesTo 13 = .ok (.iload_n 3, 1) := by decide +kernel
theorem dX6_branchesTo_14 : decode cX6_branchesTo 14 = .ok (.invokevirtual 29, 3) := by decide +kernel
theorem dX6_branchesTo_17 : decode cX6_branchesTo 17 = .ok (.ifCond .eq 15, 3) := by decide +kernel
theorem dX6_branchesTo_20 : decode cX6_branchesTo 20 = .ok (.aload_n 0, 1) := by decide +kernel
theorem dX6_branchesTo_21 : decode cX6_branchesTo 21 = .ok (.iload_n 3, 1) := by decide +kernel
theorem dX6_branchesTo_22 : decode cX6_branchesTo 22 = .ok (.invokevirtual 58, 3) := by decide +kernel
theorem dX6_branchesTo_25 : decode cX6_branchesTo 25 = .ok (.iload_n 1, 1) := by decide +kernel
theorem dX6_branchesTo_26 : decode cX6_branchesTo 26 = .ok (.if_icmp .ne 6, 3) := by decide +kernel
theorem dX6_branchesTo_29 : decode cX6_branchesTo 29 = .ok (.iinc 2 1, 3) := by decide +kernel
theorem dX6_branchesTo_32 : decode cX6_branchesTo 32 = .ok (.iinc 3 1, 3) := by decide +kernel
theorem dX6_branchesTo_35 : decode cX6_branchesTo 35 = .ok (.goto (-31), 3) := by decide +kernel
theorem dX6_branchesTo_38 : decode cX6_branchesTo 38 = .ok (.iload_n 2, 1) := by decide +kernel
theorem dX6_branchesTo_39 : decode cX6_branchesTo 39 = .ok (.ireturn, 1) := by decide +kernel
theorem dX6_reads_0 : decode cX6_reads 0 = .ok (.iload_n 1, 1) := by decide +kernel
theorem dX6_reads_1 : decode cX6_reads 1 = .ok (.iconst 5, 1) := by decide +kernel
theorem dX6_reads_2 : decode cX6_reads 2 = .ok (.imul, 1) := by decide +kernel
theorem dX6_reads_3 : decode cX6_reads 3 = .ok (.istore_n 2, 1) := by decide +kernel
theorem dX6_reads_4 : decode cX6_reads 4 = .ok (.getstatic 19, 3) := by decide +kernel
theorem dX6_reads_7 : decode cX6_reads 7 = .ok (.aload_n 0, 1) := by decide +kernel
theorem dX6_reads_8 : decode cX6_reads 8 = .ok (.getfield 9, 3) := by decide +kernel
theorem dX6_reads_11 : decode cX6_reads 11 = .ok (.iload_n 2, 1) := by decide +kernel
theorem dX6_reads_12 : decode cX6_reads 12 = .ok (.iconst 0, 1) := by decide +kernel
theorem dX6_reads_13 : decode cX6_reads 13 = .ok (.iadd, 1) := by decide +kernel
theorem dX6_reads_14 : decode cX6_reads 14 = .ok (.iaload, 1) := by decide +kernel
theorem dX6_reads_15 : decode cX6_reads 15 = .ok (.aaload, 1) := by decide +kernel
theorem dX6_reads_16 : decode cX6_reads 16 = .ok (.astore_n 3, 1) := by decide +kernel
theorem dX6_reads_17 : decode cX6_reads 17 = .ok (.aload_n 3, 1) := by decide +kernel
theorem dX6_reads_18 : decode cX6_reads 18 = .ok (.getfield 67, 3) := by decide +kernel
theorem dX6_reads_21 : decode cX6_reads 21 = .ok (.ifCond .eq 16, 3) := by decide +kernel
theorem dX6_reads_24 : decode cX6_reads 24 = .ok (.iconst 1, 1) := by decide +kernel
theorem dX6_reads_25 : decode cX6_reads 25 = .ok (.aload_n 0, 1) := by decide +kernel
theorem dX6_reads_26 : decode cX6_reads 26 = .ok (.getfield 9, 3) := by decide +kernel
theorem dX6_reads_29 : decode cX6_reads 29 = .ok (.iload_n 2, 1) := by decide +kernel
theorem dX6_reads_30 : decode cX6_reads 30 = .ok (.iconst 1, 1) := by decide +kernel
theorem dX6_reads_31 : decode cX6_reads 31 = .ok (.iadd, 1) := by decide +kernel
theorem dX6_reads_32 : decode cX6_reads 32 = .ok (.iaload, 1) := by decide +kernel
theorem dX6_reads_33 : decode cX6_reads 33 = .ok (.ishl, 1) := by decide +kernel
theorem dX6_reads_34 : decode cX6_reads 34 = .ok (.goto 4, 3) := by decide +kernel
theorem dX6_reads_37 : decode cX6_reads 37 = .ok (.iconst 0, 1) := by decide +kernel
theorem dX6_reads_38 : decode cX6_reads 38 = .ok (.istore 4, 2) := by decide +kernel
theorem dX6_reads_40 : decode cX6_reads 40 = .ok (.iload 4, 2) := by decide +kernel
theorem dX6_reads_42 : decode cX6_reads 42 = .ok (.aload_n 3, 1) := by decide +kernel
theorem dX6_reads_43 : decode cX6_reads 43 = .ok (.getfield 70, 3) := by decide +kernel
theorem dX6_reads_46 : decode cX6_reads 46 = .ok (.ifCond .eq 16, 3) := by decide +kernel
theorem dX6_reads_49 : decode cX6_reads 49 = .ok (.iconst 1, 1) := by decide +kernel
theorem dX6_reads_50 : decode cX6_reads 50 = .ok (.aload_n 0, 1) := by decide +kernel
theorem dX6_reads_51 : decode cX6_reads 51 = .ok (.getfield 9, 3) := by decide +kernel
theorem dX6_reads_54 : decode cX6_reads 54 = .ok (.iload_n 2, 1) := by decide +kernel
theorem dX6_reads_55 : decode cX6_reads 55 = .ok (.iconst 2, 1) := by decide +kernel
theorem dX6_reads_56 : decode cX6_reads 56 = .ok (.iadd, 1) := by decide +kernel
theorem dX6_reads_57 : decode cX6_reads 57 = .ok (.iaload, 1) := by decide +kernel
theorem dX6_reads_58 : decode cX6_reads 58 = .ok (.ishl, 1) := by decide +kernel
theorem dX6_reads_59 : decode cX6_reads 59 = .ok (.goto 4, 3) := by decide +kernel
theorem dX6_reads_62 : decode cX6_reads 62 = .ok (.iconst 0, 1) := by decide +kernel
theorem dX6_reads_63 : decode cX6_reads 63 = .ok (.ior, 1) := by decide +kernel
theorem dX6_reads_64 : decode cX6_reads 64 = .ok (.istore 4, 2) := by decide +kernel
theorem dX6_reads_66 : decode cX6_reads 66 = .ok (.iload 4, 2) := by decide +kernel
theorem dX6_reads_68 : decode cX6_reads 68 = .ok (.aload_n 3, 1) := by decide +kernel
theorem dX6_reads_69 : decode cX6_reads 69 = .ok (.getfield 73, 3) := by decide +kernel
theorem dX6_reads_72 : decode cX6_reads 72 = .ok (.ifCond .eq 16, 3) := by decide +kernel
theorem dX6_reads_75 : decode cX6_reads 75 = .ok (.iconst 1, 1) := by decide +kernel
theorem dX6_reads_76 : decode cX6_reads 76 = .ok (.aload_n 0, 1) := by decide +kernel
theorem dX6_reads_77 : decode cX6_reads 77 = .ok (.getfield 9, 3) := by decide +kernel
theorem dX6_reads_80 : decode cX6_reads 80 = .ok (.iload_n 2, 1) := by decide +kernel
theorem dX6_reads_81 : decode cX6_reads 81 = .ok (.iconst 3, 1) := by decide +kernel
theorem dX6_reads_82 : decode cX6_reads 82 = .ok (.iadd, 1) := by decide +kernel
theorem dX6_reads_83 : decode cX6_reads 83 = .ok (.iaload, 1) := by decide +kernel
theorem dX6_reads_84 : decode cX6_reads 84 = .ok (.ishl, 1) := by decide +kernel
theorem dX6_reads_85 : decode cX6_reads 85 = .ok (.goto 4, 3) := by decide +kernel
theorem dX6_reads_88 : decode cX6_reads 88 = .ok (.iconst 0, 1) := by decide +kernel
theorem dX6_reads_89 : decode cX6_reads 89 = .ok (.ior, 1) := by decide +kernel
theorem dX6_reads_90 : decode cX6_reads 90 = .ok (.istore 4, 2) := by decide +kernel
theorem dX6_reads_92 : decode cX6_reads 92 = .ok (.iload 4, 2) := by decide +kernel
theorem dX6_reads_94 : decode cX6_reads 94 = .ok (.ireturn, 1) := by decide +kernel
theorem dX6_writes_0 : decode cX6_writes 0 = .ok (.iload_n 1, 1) := by decide +kernel
theorem dX6_writes_1 : decode cX6_writes 1 = .ok (.iconst 5, 1) := by decide +kernel
theorem dX6_writes_2 : decode cX6_writes 2 = .ok (.imul, 1) := by decide +kernel
theorem dX6_writes_3 : decode cX6_writes 3 = .ok (.istore_n 2, 1) := by decide +kernel
theorem dX6_writes_4 : decode cX6_writes 4 = .ok (.getstatic 19, 3) := by decide +kernel
theorem dX6_writes_7 : decode cX6_writes 7 = .ok (.aload_n 0, 1) := by decide +kernel
theorem dX6_writes_8 : decode cX6_writes 8 = .ok (.getfield 9, 3) := by decide +kernel
theorem dX6_writes_11 : decode cX6_writes 11 = .ok (.iload_n 2, 1) := by decide +kernel
theorem dX6_writes_12 : decode cX6_writes 12 = .ok (.iconst 0, 1) := by decide +kernel
theorem dX6_writes_13 : decode cX6_writes 13 = .ok (.iadd, 1) := by decide +kernel
theorem dX6_writes_14 : decode cX6_writes 14 = .ok (.iaload, 1) := by decide +kernel
theorem dX6_writes_15 : decode cX6_writes 15 = .ok (.aaload, 1) := by decide +kernel
theorem dX6_writes_16 : decode cX6_writes 16 = .ok (.getfield 76, 3) := by decide +kernel
theorem dX6_writes_19 : decode cX6_writes 19 = .ok (.ifCond .eq 16, 3) := by decide +kernel
theorem dX6_writes_22 : decode cX6_writes 22 = .ok (.iconst 1, 1) := by decide +kernel
theorem dX6_writes_23 : decode cX6_writes 23 = .ok (.aload_n 0, 1) := by decide +kernel
theorem dX6_writes_24 : decode cX6_writes 24 = .ok (.getfield 9, 3) := by decide +kernel
theorem dX6_writes_27 : decode cX6_writes 27 = .ok (.iload_n 2, 1) := by decide +kernel
theorem dX6_writes_28 : decode cX6_writes 28 = .ok (.iconst 1, 1) := by decide +kernel
theorem dX6_writes_29 : decode cX6_writes 29 = .ok (.iadd, 1) := by decide +kernel
theorem dX6_writes_30 : decode cX6_writes 30 = .ok (.iaload, 1) := by decide +kernel
theorem dX6_writes_31 : decode cX6_writes 31 = .ok (.ishl, 1) := by decide +kernel
theorem dX6_writes_32 : decode cX6_writes 32 = .ok (.goto 4, 3) := by decide +kernel
theorem dX6_writes_35 : decode cX6_writes 35 = .ok (.iconst 0, 1) := by decide +kernel
theorem dX6_writes_36 : decode cX6_writes 36 = .ok (.ireturn, 1) := by decide +kernel
theorem dX6_areIndependent_0 : decode cX6_areIndependent 0 = .ok (.aload_n 0, 1) := by decide +kernel
theorem dX6_areIndependent_1 : decode cX6_areIndependent 1 = .ok (.iload_n 1, 1) := by decide +kernel
theorem dX6_areIndependent_2 : decode cX6_areIndependent 2 = .ok (.invokevirtual 79, 3) := by decide +kernel
theorem dX6_areIndependent_5 : decode cX6_areIndependent 5 = .ok (.aload_n 0, 1) := by decide +kernel
theorem dX6_areIndependent_6 : decode cX6_areIndependent 6 = .ok (.iload_n 2, 1) := by decide +kernel
theorem dX6_areIndependent_7 : decode cX6_areIndependent 7 = .ok (.invokevirtual 82, 3) := by decide +kernel
theorem dX6_areIndependent_10 : decode cX6_areIndependent 10 = .ok (.aload_n 0, 1) := by decide +kernel
theorem dX6_areIndependent_11 : decode cX6_areIndependent 11 = .ok (.iload_n 2, 1) := by decide +kernel
theorem dX6_areIndependent_12 : decode cX6_areIndependent 12 = .ok (.invokevirtual 79, 3) := by decide +kernel
theorem dX6_areIndependent_15 : decode cX6_areIndependent 15 = .ok (.ior, 1) := by decide +kernel
theorem dX6_areIndependent_16 : decode cX6_areIndependent 16 = .ok (.iand, 1) := by decide +kernel
theorem dX6_areIndependent_17 : decode cX6_areIndependent 17 = .ok (.ifCond .ne 17, 3) := by decide +kernel
theorem dX6_areIndependent_20 : decode cX6_areIndependent 20 = .ok (.aload_n 0, 1) := by decide +kernel
theorem dX6_areIndependent_21 : decode cX6_areIndependent 21 = .ok (.iload_n 2, 1) := by decide +kernel
theorem dX6_areIndependent_22 : decode cX6_areIndependent 22 = .ok (.invokevirtual 79, 3) := by decide +kernel
theorem dX6_areIndependent_25 : decode cX6_areIndependent 25 = .ok (.aload_n 0, 1) := by decide +kernel
theorem dX6_areIndependent_26 : decode cX6_areIndependent 26 = .ok (.iload_n 1, 1) := by decide +kernel
theorem dX6_areIndependent_27 : decode cX6_areIndependent 27 = .ok (.invokevirtual 82, 3) := by decide +kernel
theorem dX6_areIndependent_30 : decode cX6_areIndependent 30 = .ok (.iand, 1) := by decide +kernel
theorem dX6_areIndependent_31 : decode cX6_areIndependent 31 = .ok (.ifCond .eq 5, 3) := by decide +kernel
theorem dX6_areIndependent_34 : decode cX6_areIndependent 34 = .ok (.iconst 0, 1) := by decide +kernel
theorem dX6_areIndependent_35 : decode cX6_areIndependent 35 = .ok (.ireturn, 1) := by decide +kernel
theorem dX6_areIndependent_36 : decode cX6_areIndependent 36 = .ok (.aload_n 0, 1) := by decide +kernel
theorem dX6_areIndependent_37 : decode cX6_areIndependent 37 = .ok (.iload_n 1, 1) := by decide +kernel
theorem dX6_areIndependent_38 : decode cX6_areIndependent 38 = .ok (.invokevirtual 32, 3) := by decide +kernel
theorem dX6_areIndependent_41 : decode cX6_areIndependent 41 = .ok (.astore_n 3, 1) := by decide +kernel
theorem dX6_areIndependent_42 : decode cX6_areIndependent 42 = .ok (.aload_n 0, 1) := by decide +kernel
theorem dX6_areIndependent_43 : decode cX6_areIndependent 43 = .ok (.iload_n 2, 1) := by decide +kernel
theorem dX6_areIndependent_44 : decode cX6_areIndependent 44 = .ok (.invokevirtual 32, 3) := by decide +kernel
theorem dX6_areIndependent_47 : decode cX6_areIndependent 47 = .ok (.astore 4, 2) := by decide +kernel
theorem dX6_areIndependent_49 : decode cX6_areIndependent 49 = .ok (.aload_n 3, 1) := by decide +kernel
theorem dX6_areIndependent_50 : decode cX6_areIndependent 50 = .ok (.invokevirtual 85, 3) := by decide +kernel
theorem dX6_areIndependent_53 : decode cX6_areIndependent 53 = .ok (.ifCond .eq 28, 3) := by decide +kernel
theorem dX6_areIndependent_56 : decode cX6_areIndependent 56 = .ok (.aload 4, 2) := by decide +kernel
theorem dX6_areIndependent_58 : decode cX6_areIndependent 58 = .ok (.invokevirtual 85, 3) := by decide +kernel
theorem dX6_areIndependent_61 : decode cX6_areIndependent 61 = .ok (.ifCond .eq 20, 3) := by decide +kernel
theorem dX6_areIndependent_64 : decode cX6_areIndependent 64 = .ok (.aload_n 3, 1) := by decide +kernel
theorem dX6_areIndependent_65 : decode cX6_areIndependent 65 = .ok (.getstatic 89, 3) := by decide +kernel
theorem dX6_areIndependent_68 : decode cX6_areIndependent 68 = .ok (.if_acmp .eq 11, 3) := by decide +kernel
theorem dX6_areIndependent_71 : decode cX6_areIndependent 71 = .ok (.aload 4, 2) := by decide +kernel
theorem dX6_areIndependent_73 : decode cX6_areIndependent 73 = .ok (.getstatic 89, 3) := by decide +kernel
theorem dX6_areIndependent_76 : decode cX6_areIndependent 76 = .ok (.if_acmp .ne 5, 3) := by decide +kernel
theorem dX6_areIndependent_79 : decode cX6_areIndependent 79 = .ok (.iconst 0, 1) := by decide +kernel
theorem dX6_areIndependent_80 : decode cX6_areIndependent 80 = .ok (.ireturn, 1) := by decide +kernel
theorem dX6_areIndependent_81 : decode cX6_areIndependent 81 = .ok (.aload_n 3, 1) := by decide +kernel
theorem dX6_areIndependent_82 : decode cX6_areIndependent 82 = .ok (.getstatic 92, 3) := by decide +kernel
theorem dX6_areIndependent_85 : decode cX6_areIndependent 85 = .ok (.if_acmp .ne 11, 3) := by decide +kernel
theorem dX6_areIndependent_88 : decode cX6_areIndependent 88 = .ok (.aload 4, 2) := by decide +kernel
theorem dX6_areIndependent_90 : decode cX6_areIndependent 90 = .ok (.getstatic 92, 3) := by decide +kernel
theorem dX6_areIndependent_93 : decode cX6_areIndependent 93 = .ok (.if_acmp .eq 7, 3) := by decide +kernel
theorem dX6_areIndependent_96 : decode cX6_areIndependent 96 = .ok (.iconst 1, 1) := by decide +kernel
theorem dX6_areIndependent_97 : decode cX6_areIndependent 97 = .ok (.goto 4, 3) := by decide +kernel
theorem dX6_areIndependent_100 : decode cX6_areIndependent 100 = .ok (.iconst 0, 1) := by decide +kernel
theorem dX6_areIndependent_101 : decode cX6_areIndependent 101 = .ok (.ireturn, 1) := by decide +kernel
theorem dX7_init_0 : decode cX7_init 0 = .ok (.aload_n 0, 1) := by decide +kernel
theorem dX7_init_1 : decode cX7_init 1 = .ok (.invokespecial 3, 3) := by decide +kernel
theorem dX7_init_4 : decode cX7_init 4 = .ok (.aload_n 0, 1) := by decide +kernel
theorem dX7_init_5 : decode cX7_init 5 = .ok (.bipush 120, 2) := by decide +kernel
theorem dX7_init_7 : decode cX7_init 7 = .ok (.newarray .char, 2) := by decide +kernel
theorem dX7_init_9 : decode cX7_init 9 = .ok (.putfield 9, 3) := by decide +kernel
theorem dX7_init_12 : decode cX7_init 12 = .ok (.aload_n 0, 1) := by decide +kernel
theorem dX7_init_13 : decode cX7_init 13 = .ok (.new 15, 3) := by decide +kernel
theorem dX7_init_16 : decode cX7_init 16 = .ok (.dup, 1) := by decide +kernel
theorem dX7_init_17 : decode cX7_init 17 = .ok (.bipush 30, 2) := by decide +kernel
theorem dX7_init_19 : decode cX7_init 19 = .ok (.invokespecial 17, 3) := by decide +kernel
theorem dX7_init_22 : decode cX7_init 22 = .ok (.putfield 20, 3) := by decide +kernel
theorem dX7_init_25 : decode cX7_init 25 = .ok (.return_, 1) := by decide +kernel
theorem dX7_takes_0 : decode cX7_takes 0 = .ok (.aload_n 0, 1) := by decide +kernel
theorem dX7_takes_1 : decode cX7_takes 1 = .ok (.getfield 24, 3) := by decide +kernel
theorem dX7_takes_4 : decode cX7_takes 4 = .ok (.bipush 120, 2) := by decide +kernel
theorem dX7_takes_6 : decode cX7_takes 6 = .ok (.if_icmp .lt 5, 3) := by decide +kernel
theorem dX7_takes_9 : decode cX7_takes 9 = .ok (.iconst 0, 1) := by decide +kernel
theorem dX7_takes_10 : decode cX7_takes 10 = .ok (.ireturn, 1) := by decide +kernel
theorem dX7_takes_11 : decode cX7_takes 11 = .ok (.aload_n 0, 1) := by decide +kernel
theorem dX7_takes_12 : decode cX7_takes 12 = .ok (.getfield 9, 3) := by decide +kernel
theorem dX7_takes_15 : decode cX7_takes 15 = .ok (.aload_n 0, 1) := by decide +kernel
theorem dX7_takes_16 : decode cX7_takes 16 = .ok (.getfield 24, 3) := by decide +kernel
theorem dX7_takes_19 : decode cX7_takes 19 = .ok (.iload_n 1, 1) := by decide +kernel
theorem dX7_takes_20 : decode cX7_takes 20 = .ok (.castore, 1) := by decide +kernel
theorem dX7_takes_21 : decode cX7_takes 21 = .ok (.aload_n 0, 1) := by decide +kernel
theorem dX7_takes_22 : decode cX7_takes 22 = .ok (.dup, 1) := by decide +kernel
theorem dX7_takes_23 : decode cX7_takes 23 = .ok (.getfield 24, 3) := by decide +kernel
theorem dX7_takes_26 : decode cX7_takes 26 = .ok (.iconst 1, 1) := by decide +kernel
theorem dX7_takes_27 : decode cX7_takes 27 = .ok (.iadd, 1) := by decide +kernel
theorem dX7_takes_28 : decode cX7_takes 28 = .ok (.putfield 24, 3) := by decide +kernel
theorem dX7_takes_31 : decode cX7_takes 31 = .ok (.iconst 1, 1) := by decide +kernel
theorem dX7_takes_32 : decode cX7_takes 32 = .ok (.ireturn, 1) := by decide +kernel
theorem dX7_readsText_0 : decode cX7_readsText 0 = .ok (.aload_n 0, 1) := by decide +kernel
theorem dX7_readsText_1 : decode cX7_readsText 1 = .ok (.iconst 0, 1) := by decide +kernel
theorem dX7_readsText_2 : decode cX7_readsText 2 = .ok (.putfield 28, 3) := by decide +kernel
theorem dX7_readsText_5 : decode cX7_readsText 5 = .ok (.aload_n 0, 1) := by decide +kernel
theorem dX7_readsText_6 : decode cX7_readsText 6 = .ok (.getfield 20, 3) := by decide +kernel
theorem dX7_readsText_9 : decode cX7_readsText 9 = .ok (.iconst 0, 1) := by decide +kernel
theorem dX7_readsText_10 : decode cX7_readsText 10 = .ok (.putfield 31, 3) := by decide +kernel
theorem dX7_readsText_13 : decode cX7_readsText 13 = .ok (.aload_n 0, 1) := by decide +kernel
theorem dX7_readsText_14 : decode cX7_readsText 14 = .ok (.getfield 24, 3) := by decide +kernel
theorem dX7_readsText_17 : decode cX7_readsText 17 = .ok (.ifCond .eq 10, 3) := by decide +kernel
theorem dX7_readsText_20 : decode cX7_readsText 20 = .ok (.aload_n 0, 1) := by decide +kernel
theorem dX7_readsText_21 : decode cX7_readsText 21 = .ok (.invokevirtual 34, 3) := by decide +kernel
theorem dX7_readsText_24 : decode cX7_readsText 24 = .ok (.ifCond .eq 7, 3) := by decide +kernel
theorem dX7_readsText_27 : decode cX7_readsText 27 = .ok (.iconst 1, 1) := by decide +kernel
theorem dX7_readsText_28 : decode cX7_readsText 28 = .ok (.goto 4, 3) := by decide +kernel
theorem dX7_readsText_31 : decode cX7_readsText 31 = .ok (.iconst 0, 1) := by decide +kernel
theorem dX7_readsText_32 : decode cX7_readsText 32 = .ok (.istore_n 1, 1) := by decide +kernel
theorem dX7_readsText_33 : decode cX7_readsText 33 = .ok (.iconst 0, 1) := by decide +kernel
theorem dX7_readsText_34 : decode cX7_readsText 34 = .ok (.istore_n 2, 1) := by decide +kernel
theorem dX7_readsText_35 : decode cX7_readsText 35 = .ok (.iload_n 2, 1) := by decide +kernel
theorem dX7_readsText_36 : decode cX7_readsText 36 = .ok (.bipush 120, 2) := by decide +kernel
theorem dX7_readsText_38 : decode cX7_readsText 38 = .ok (.if_icmp .ge 46, 3) := by decide +kernel
theorem dX7_readsText_41 : decode cX7_readsText 41 = .ok (.iload_n 1, 1) := by decide +kernel
theorem dX7_readsText_42 : decode cX7_readsText 42 = .ok (.ifCond .eq 42, 3) := by decide +kernel
theorem dX7_readsText_45 : decode cX7_readsText 45 = .ok (.aload_n 0, 1) := by decide +kernel
theorem dX7_readsText_46 : decode cX7_readsText 46 = .ok (.getfield 28, 3) := by decide +kernel
theorem dX7_readsText_49 : decode cX7_readsText 49 = .ok (.aload_n 0, 1) := by decide +kernel
theorem dX7_readsText_50 : decode cX7_readsText 50 = .ok (.getfield 24, 3) := by decide +kernel
theorem dX7_readsText_53 : decode cX7_readsText 53 = .ok (.if_icmp .ge 31, 3) := by decide +kernel
theorem dX7_readsText_56 : decode cX7_readsText 56 = .ok (.aload_n 0, 1) := by decide +kernel
theorem dX7_readsText_57 : decode cX7_readsText 57 = .ok (.bipush 59, 2) := by decide +kernel
theorem dX7_readsText_59 : decode cX7_readsText 59 = .ok (.invokevirtual 38, 3) := by decide +kernel
theorem dX7_readsText_62 : decode cX7_readsText 62 = .ok (.ifCond .eq 14, 3) := by decide +kernel
theorem dX7_readsText_65 : decode cX7_readsText 65 = .ok (.aload_n 0, 1) := by decide +kernel
theorem dX7_readsText_66 : decode cX7_readsText 66 = .ok (.invokevirtual 34, 3) := by decide +kernel
theorem dX7_readsText_69 : decode cX7_readsText 69 = .ok (.ifCond .eq 7, 3) := by decide +kernel
theorem dX7_readsText_72 : decode cX7_readsText 72 = .ok (.iconst 1, 1) := by decide +kernel
theorem dX7_readsText_73 : decode cX7_readsText 73 = .ok (.goto 4, 3) := by decide +kernel
theorem dX7_readsText_76 : decode cX7_readsText 76 = .ok (.iconst 0, 1) := by decide +kernel
theorem dX7_readsText_77 : decode cX7_readsText 77 = .ok (.istore_n 1, 1) := by decide +kernel
theorem dX7_readsText_78 : decode cX7_readsText 78 = .ok (.iinc 2 1, 3) := by decide +kernel
theorem dX7_readsText_81 : decode cX7_readsText 81 = .ok (.goto (-46), 3) := by decide +kernel
theorem dX7_readsText_84 : decode cX7_readsText 84 = .ok (.iload_n 1, 1) := by decide +kernel
theorem dX7_readsText_85 : decode cX7_readsText 85 = .ok (.ireturn, 1) := by decide +kernel
theorem dX7_readsInstruction_0 : decode cX7_readsInstruction 0 = .ok (.aload_n 0, 1) := by decide +kernel
theorem dX7_readsInstruction_1 : decode cX7_readsInstruction 1 = .ok (.invokevirtual 42, 3) := by decide +kernel
theorem dX7_readsInstruction_4 : decode cX7_readsInstruction 4 = .ok (.istore_n 1, 1) := by decide +kernel
theorem dX7_readsInstruction_5 : decode cX7_readsInstruction 5 = .ok (.iload_n 1, 1) := by decide +kernel
theorem dX7_readsInstruction_6 : decode cX7_readsInstruction 6 = .ok (.iconst (-1), 1) := by decide +kernel
theorem dX7_readsInstruction_7 : decode cX7_readsInstruction 7 = .ok (.if_icmp .eq 15, 3) := by decide +kernel
theorem dX7_readsInstruction_10 : decode cX7_readsInstruction 10 = .ok (.aload_n 0, 1) := by decide +kernel
theorem dX7_readsInstruction_11 : decode cX7_readsInstruction 11 = .ok (.getfield 20, 3) := by decide +kernel
theorem dX7_readsInstruction_14 : decode cX7_readsInstruction 14 = .ok (.getfield 31, 3) := by decide +kernel
theorem dX7_readsInstruction_17 : decode cX7_readsInstruction 17 = .ok (.bipush 30, 2) := by decide +kernel
theorem dX7_readsInstruction_19 : decode cX7_readsInstruction 19 = .ok (.if_icmp .lt 5, 3) := by decide +kernel
theorem dX7_readsInstruction_22 : decode cX7_readsInstruction 22 = .ok (.iconst 0, 1) := by decide +kernel
theorem dX7_readsInstruction_23 : decode cX7_readsInstruction 23 = .ok (.ireturn, 1) := by decide +kernel
theorem dX7_readsInstruction_24 : decode cX7_readsInstruction 24 = .ok (.aload_n 0, 1) := by decide +kernel
theorem dX7_readsInstruction_25 : decode cX7_readsInstruction 25 = .ok (.getfield 20, 3) := by decide +kernel
theorem dX7_readsInstruction_28 : decode cX7_readsInstruction 28 = .ok (.iload_n 1, 1) := by decide +kernel
theorem dX7_readsInstruction_29 : decode cX7_readsInstruction 29 = .ok (.invokevirtual 46, 3) := by decide +kernel
theorem dX7_readsInstruction_32 : decode cX7_readsInstruction 32 = .ok (.istore_n 2, 1) := by decide +kernel
theorem dX7_readsInstruction_33 : decode cX7_readsInstruction 33 = .ok (.iconst 0, 1) := by decide +kernel
theorem dX7_readsInstruction_34 : decode cX7_readsInstruction 34 = .ok (.istore_n 3, 1) := by decide +kernel
theorem dX7_readsInstruction_35 : decode cX7_readsInstruction 35 = .ok (.iload_n 3, 1) := by decide +kernel
theorem dX7_readsInstruction_36 : decode cX7_readsInstruction 36 = .ok (.iconst 3, 1) := by decide +kernel
theorem dX7_readsInstruction_37 : decode cX7_readsInstruction 37 = .ok (.if_icmp .ge 75, 3) := by decide +kernel
theorem dX7_readsInstruction_40 : decode cX7_readsInstruction 40 = .ok (.getstatic 50, 3) := by decide +kernel
theorem dX7_readsInstruction_43 : decode cX7_readsInstruction 43 = .ok (.iload_n 1, 1) := by decide +kernel
theorem dX7_readsInstruction_44 : decode cX7_readsInstruction 44 = .ok (.aaload, 1) := by decide +kernel
theorem dX7_readsInstruction_45 : decode cX7_readsInstruction 45 = .ok (.iload_n 3, 1) := by decide +kernel
theorem dX7_readsInstruction_46 : decode cX7_readsInstruction 46 = .ok (.invokevirtual 54, 3) := by decide +kernel
theorem dX7_readsInstruction_49 : decode cX7_readsInstruction 49 = .ok (.istore 4, 2) := by decide +kernel
theorem dX7_readsInstruction_51 : decode cX7_readsInstruction 51 = .ok (.iload 4, 2) := by decide +kernel
theorem dX7_readsInstruction_53 : decode cX7_readsInstruction 53 = .ok (.bipush 45, 2) := by decide +kernel
theorem dX7_readsInstruction_55 : decode cX7_readsInstruction 55 = .ok (.if_icmp .ne 6, 3) := by decide +kernel
theorem dX7_readsInstruction_58 : decode cX7_readsInstruction 58 = .ok (.goto 48, 3) := by decide +kernel
theorem dX7_readsInstruction_61 : decode cX7_readsInstruction 61 = .ok (.aload_n 0, 1) := by decide +kernel
theorem dX7_readsInstruction_62 : decode cX7_readsInstruction 62 = .ok (.bipush 32, 2) := by decide +kernel
theorem dX7_readsInstruction_64 : decode cX7_readsInstruction 64 = .ok (.invokevirtual 38, 3) := by decide +kernel
theorem dX7_readsInstruction_67 : decode cX7_readsInstruction 67 = .ok (.ifCond .eq 22, 3) := by decide +kernel
theorem dX7_readsInstruction_70 : decode cX7_readsInstruction 70 = .ok (.aload_n 0, 1) := by decide +kernel
theorem dX7_readsInstruction_71 : decode cX7_readsInstruction 71 = .ok (.iload 4, 2) := by decide +kernel
theorem dX7_readsInstruction_73 : decode cX7_readsInstruction 73 = .ok (.bipush 110, 2) := by decide +kernel
theorem dX7_readsInstruction_75 : decode cX7_readsInstruction 75 = .ok (.if_icmp .ne 7, 3) := by decide +kernel
theorem dX7_readsInstruction_78 : decode cX7_readsInstruction 78 = .ok (.iconst 1, 1) := by decide +kernel
theorem dX7_readsInstruction_79 : decode cX7_readsInstruction 79 = .ok (.goto 4, 3) := by decide +kernel
theorem dX7_readsInstruction_82 : decode cX7_readsInstruction 82 = .ok (.iconst 0, 1) := by decide +kernel
theorem dX7_readsInstruction_83 : decode cX7_readsInstruction 83 = .ok (.invokevirtual 60, 3) := by decide +kernel
theorem dX7_readsInstruction_86 : decode cX7_readsInstruction 86 = .ok (.ifCond .ne 5, 3) := by decide +kernel
theorem dX7_readsInstruction_89 : decode cX7_readsInstruction 89 = .ok (.iconst 0, 1) := by decide +kernel
theorem dX7_readsInstruction_90 : decode cX7_readsInstruction 90 = .ok (.ireturn, 1) := by decide +kernel
theorem dX7_readsInstruction_91 : decode cX7_readsInstruction 91 = .ok (.aload_n 0, 1) := by decide +kernel
theorem dX7_readsInstruction_92 : decode cX7_readsInstruction 92 = .ok (.getfield 20, 3) := by decide +kernel
theorem dX7_readsInstruction_95 : decode cX7_readsInstruction 95 = .ok (.iload_n 2, 1) := by decide +kernel
theorem dX7_readsInstruction_96 : decode cX7_readsInstruction 96 = .ok (.iconst 1, 1) := by decide +kernel
theorem dX7_readsInstruction_97 : decode cX7_readsInstruction 97 = .ok (.iload_n 3, 1) := by decide +kernel
theorem dX7_readsInstruction_98 : decode cX7_readsInstruction 98 = .ok (.iadd, 1) := by decide +kernel
theorem dX7_readsInstruction_99 : decode cX7_readsInstruction 99 = .ok (.aload_n 0, 1) := by decide +kernel
theorem dX7_readsInstruction_100 : decode cX7_readsInstruction 100 = .ok (.getfield 64, 3) := by decide +kernel
theorem dX7_readsInstruction_103 : decode cX7_readsInstruction 103 = .ok (.invokevirtual 67, 3) := by decide +kernel
theorem dX7_readsInstruction_106 : decode cX7_readsInstruction 106 = .ok (.iinc 3 1, 3) := by decide +kernel
theorem dX7_readsInstruction_109 : decode cX7_readsInstruction 109 = .ok (.goto (-74), 3) := by decide +kernel
theorem dX7_readsInstruction_112 : decode cX7_readsInstruction 112 = .ok (.iconst 1, 1) := by decide +kernel
theorem dX7_readsInstruction_113 : decode cX7_readsInstruction 113 = .ok (.ireturn, 1) := by decide +kernel
theorem dX7_readKind_0 : decode cX7_readKind 0 = .ok (.aload_n 0, 1) := by decide +kernel
theorem dX7_readKind_1 : decode cX7_readKind 1 = .ok (.getfield 28, 3) := by decide +kernel
theorem dX7_readKind_4 : decode cX7_readKind 4 = .ok (.istore_n 1, 1) := by decide +kernel
theorem dX7_readKind_5 : decode cX7_readKind 5 = .ok (.iload_n 1, 1) := by decide +kernel
theorem dX7_readKind_6 : decode cX7_readKind 6 = .ok (.istore_n 2, 1) := by decide +kernel
theorem dX7_readKind_7 : decode cX7_readKind 7 = .ok (.iload_n 2, 1) := by decide +kernel
theorem dX7_readKind_8 : decode cX7_readKind 8 = .ok (.aload_n 0, 1) := by decide +kernel
theorem dX7_readKind_9 : decode cX7_readKind 9 = .ok (.getfield 24, 3) := by decide +kernel
theorem dX7_readKind_12 : decode cX7_readKind 12 = .ok (.if_icmp .ge 31, 3) := by decide +kernel
theorem dX7_readKind_15 : decode cX7_readKind 15 = .ok (.aload_n 0, 1) := by decide +kernel
theorem dX7_readKind_16 : decode cX7_readKind 16 = .ok (.getfield 9, 3) := by decide +kernel
theorem dX7_readKind_19 : decode cX7_readKind 19 = .ok (.iload_n 2, 1) := by decide +kernel
theorem dX7_readKind_20 : decode cX7_readKind 20 = .ok (.caload, 1) := by decide +kernel
theorem dX7_readKind_21 : decode cX7_readKind 21 = .ok (.bipush 97, 2) := by decide +kernel
theorem dX7_readKind_23 : decode cX7_readKind 23 = .ok (.if_icmp .lt 20, 3) := by decide +kernel
theorem dX7_readKind_26 : decode cX7_readKind 26 = .ok (.aload_n 0, 1) := by decide +kernel
theorem dX7_readKind_27 : decode cX7_readKind 27 = .ok (.getfield 9, 3) := by decide +kernel
theorem dX7_readKind_30 : decode cX7_readKind 30 = .ok (.iload_n 2, 1) := by decide +kernel
theorem dX7_readKind_31 : decode cX7_readKind 31 = .ok (.caload, 1) := by decide +kernel
theorem dX7_readKind_32 : decode cX7_readKind 32 = .ok (.bipush 122, 2) := by decide +kernel
theorem dX7_readKind_34 : decode cX7_readKind 34 = .ok (.if_icmp .gt 9, 3) := by decide +kernel
theorem dX7_readKind_37 : decode cX7_readKind 37 = .ok (.iinc 2 1, 3) := by decide +kernel
theorem dX7_readKind_40 : decode cX7_readKind 40 = .ok (.goto (-33), 3) := by decide +kernel
theorem dX7_readKind_43 : decode cX7_readKind 43 = .ok (.iconst 0, 1) := by decide +kernel
theorem dX7_readKind_44 : decode cX7_readKind 44 = .ok (.istore_n 3, 1) := by decide +kernel
theorem dX7_readKind_45 : decode cX7_readKind 45 = .ok (.iload_n 3, 1) := by decide +kernel
theorem dX7_readKind_46 : decode cX7_readKind 46 = .ok (.getstatic 50, 3) := by decide +kernel
theorem dX7_readKind_49 : decode cX7_readKind 49 = .ok (.arraylength, 1) := by decide +kernel
theorem dX7_readKind_50 : decode cX7_readKind 50 = .ok (.if_icmp .ge 33, 3) := by decide +kernel
theorem dX7_readKind_53 : decode cX7_readKind 53 = .ok (.aload_n 0, 1) := by decide +kernel
theorem dX7_readKind_54 : decode cX7_readKind 54 = .ok (.getstatic 50, 3) := by decide +kernel
theorem dX7_readKind_57 : decode cX7_readKind 57 = .ok (.iload_n 3, 1) := by decide +kernel
theorem dX7_readKind_58 : decode cX7_readKind 58 = .ok (.aaload, 1) := by decide +kernel
theorem dX7_readKind_59 : decode cX7_readKind 59 = .ok (.getfield 71, 3) := by decide +kernel
theorem dX7_readKind_62 : decode cX7_readKind 62 = .ok (.iload_n 1, 1) := by decide +kernel
theorem dX7_readKind_63 : decode cX7_readKind 63 = .ok (.iload_n 2, 1) := by decide +kernel
theorem dX7_readKind_64 : decode cX7_readKind 64 = .ok (.invokevirtual 75, 3) := by decide +kernel
theorem dX7_readKind_67 : decode cX7_readKind 67 = .ok (.ifCond .eq 10, 3) := by decide +kernel
theorem dX7_readKind_70 : decode cX7_readKind 70 = .ok (.aload_n 0, 1) := by decide +kernel
theorem dX7_readKind_71 : decode cX7_readKind 71 = .ok (.iload_n 2, 1) := by decide +kernel
theorem dX7_readKind_72 : decode cX7_readKind 72 = .ok (.putfield 28, 3) := by decide +kernel
theorem dX7_readKind_75 : decode cX7_readKind 75 = .ok (.iload_n 3, 1) := by decide +kernel
theorem dX7_readKind_76 : decode cX7_readKind 76 = .ok (.ireturn, 1) := by decide +kernel
theorem dX7_readKind_77 : decode cX7_readKind 77 = .ok (.iinc 3 1, 3) := by decide +kernel
theorem dX7_readKind_80 : decode cX7_readKind 80 = .ok (.goto (-35), 3) := by decide +kernel
theorem dX7_readKind_83 : decode cX7_readKind 83 = .ok (.iconst (-1), 1) := by decide +kernel
theorem dX7_readKind_84 : decode cX7_readKind 84 = .ok (.ireturn, 1) := by decide +kernel
theorem dX7_isWord_0 : decode cX7_isWord 0 = .ok (.aload_n 1, 1) := by decide +kernel
theorem dX7_isWord_1 : decode cX7_isWord 1 = .ok (.invokevirtual 79, 3) := by decide +kernel
theorem dX7_isWord_4 : decode cX7_isWord 4 = .ok (.iload_n 3, 1) := by decide +kernel
theorem dX7_isWord_5 : decode cX7_isWord 5 = .ok (.iload_n 2, 1) := by decide +kernel
theorem dX7_isWord_6 : decode cX7_isWord 6 = .ok (.isub, 1) := by decide +kernel
theorem dX7_isWord_7 : decode cX7_isWord 7 = .ok (.if_icmp .eq 5, 3) := by decide +kernel
theorem dX7_isWord_10 : decode cX7_isWord 10 = .ok (.iconst 0, 1) := by decide +kernel
theorem dX7_isWord_11 : decode cX7_isWord 11 = .ok (.ireturn, 1) := by decide +kernel
theorem dX7_isWord_12 : decode cX7_isWord 12 = .ok (.iload_n 2, 1) := by decide +kernel
theorem dX7_isWord_13 : decode cX7_isWord 13 = .ok (.istore 4, 2) := by decide +kernel
theorem dX7_isWord_15 : decode cX7_isWord 15 = .ok (.iload 4, 2) := by decide +kernel
theorem dX7_isWord_17 : decode cX7_isWord 17 = .ok (.iload_n 3, 1) := by decide +kernel
theorem dX7_isWord_18 : decode cX7_isWord 18 = .ok (.if_icmp .ge 29, 3) := by decide +kernel
theorem dX7_isWord_21 : decode cX7_isWord 21 = .ok (.aload_n 0, 1) := by decide +kernel
theorem dX7_isWord_22 : decode cX7_isWord 22 = .ok (.getfield 9, 3) := by decide +kernel
theorem dX7_isWord_25 : decode cX7_isWord 25 = .ok (.iload 4, 2) := by decide +kernel
theorem dX7_isWord_27 : decode cX7_isWord 27 = .ok (.caload, 1) := by decide +kernel
theorem dX7_isWord_28 : decode cX7_isWord 28 = .ok (.aload_n 1, 1) := by decide +kernel
theorem dX7_isWord_29 : decode cX7_isWord 29 = .ok (.iload 4, 2) := by decide +kernel
theorem dX7_isWord_31 : decode cX7_isWord 31 = .ok (.iload_n 2, 1) := by decide +kernel
theorem dX7_isWord_32 : decode cX7_isWord 32 = .ok (.isub, 1) := by decide +kernel
theorem dX7_isWord_33 : decode cX7_isWord 33 = .ok (.invokevirtual 83, 3) := by decide +kernel
theorem dX7_isWord_36 : decode cX7_isWord 36 = .ok (.if_icmp .eq 5, 3) := by decide +kernel
theorem dX7_isWord_39 : decode cX7_isWord 39 = .ok (.iconst 0, 1) := by decide +kernel
theorem dX7_isWord_40 : decode cX7_isWord 40 = .ok (.ireturn, 1) := by decide +kernel
theorem dX7_isWord_41 : decode cX7_isWord 41 = .ok (.iinc 4 1, 3) := by decide +kernel
theorem dX7_isWord_44 : decode cX7_isWord 44 = .ok (.goto (-29), 3) := by decide +kernel
theorem dX7_isWord_47 : decode cX7_isWord 47 = .ok (.iconst 1, 1) := by decide +kernel
theorem dX7_isWord_48 : decode cX7_isWord 48 = .ok (.ireturn, 1) := by decide +kernel
theorem dX7_readsNumber_0 : decode cX7_readsNumber 0 = .ok (.iload_n 1, 1) := by decide +kernel
theorem dX7_readsNumber_1 : decode cX7_readsNumber 1 = .ok (.ifCond .eq 16, 3) := by decide +kernel
theorem dX7_readsNumber_4 : decode cX7_readsNumber 4 = .ok (.aload_n 0, 1) := by decide +kernel
theorem dX7_readsNumber_5 : decode cX7_readsNumber 5 = .ok (.bipush 45, 2) := by decide +kernel
theorem dX7_readsNumber_7 : decode cX7_readsNumber 7 = .ok (.invokevirtual 38, 3) := by decide +kernel
theorem dX7_readsNumber_10 : decode cX7_readsNumber 10 = .ok (.ifCond .eq 7, 3) := by decide +kernel
theorem dX7_readsNumber_13 : decode cX7_readsNumber 13 = .ok (.iconst 1, 1) := by decide +kernel
theorem dX7_readsNumber_14 : decode cX7_readsNumber 14 = .ok (.goto 4, 3) := by decide +kernel
theorem dX7_readsNumber_17 : decode cX7_readsNumber 17 = .ok (.iconst 0, 1) := by decide +kernel
theorem dX7_readsNumber_18 : decode cX7_readsNumber 18 = .ok (.istore_n 2, 1) := by decide +kernel
theorem dX7_readsNumber_19 : decode cX7_readsNumber 19 = .ok (.aload_n 0, 1) := by decide +kernel
theorem dX7_readsNumber_20 : decode cX7_readsNumber 20 = .ok (.invokevirtual 86, 3) := by decide +kernel
theorem dX7_readsNumber_23 : decode cX7_readsNumber 23 = .ok (.ifCond .ne 5, 3) := by decide +kernel
theorem dX7_readsNumber_26 : decode cX7_readsNumber 26 = .ok (.iconst 0, 1) := by decide +kernel
theorem dX7_readsNumber_27 : decode cX7_readsNumber 27 = .ok (.ireturn, 1) := by decide +kernel
theorem dX7_readsNumber_28 : decode cX7_readsNumber 28 = .ok (.aload_n 0, 1) := by decide +kernel
theorem dX7_readsNumber_29 : decode cX7_readsNumber 29 = .ok (.getfield 9, 3) := by decide +kernel
theorem dX7_readsNumber_32 : decode cX7_readsNumber 32 = .ok (.aload_n 0, 1) := by decide +kernel
theorem dX7_readsNumber_33 : decode cX7_readsNumber 33 = .ok (.getfield 28, 3) := by decide +kernel
theorem dX7_readsNumber_36 : decode cX7_readsNumber 36 = .ok (.caload, 1) := by decide +kernel
theorem dX7_readsNumber_37 : decode cX7_readsNumber 37 = .ok (.bipush 48, 2) := by decide +kernel
theorem dX7_readsNumber_39 : decode cX7_readsNumber 39 = .ok (.isub, 1) := by decide +kernel
theorem dX7_readsNumber_40 : decode cX7_readsNumber 40 = .ok (.istore_n 3, 1) := by decide +kernel
theorem dX7_readsNumber_41 : decode cX7_readsNumber 41 = .ok (.aload_n 0, 1) := by decide +kernel
theorem dX7_readsNumber_42 : decode cX7_readsNumber 42 = .ok (.dup, 1) := by decide +kernel
theorem dX7_readsNumber_43 : decode cX7_readsNumber 43 = .ok (.getfield 28, 3) := by decide +kernel
theorem dX7_readsNumber_46 : decode cX7_readsNumber 46 = .ok (.iconst 1, 1) := by decide +kernel
theorem dX7_readsNumber_47 : decode cX7_readsNumber 47 = .ok (.iadd, 1) := by decide +kernel
theorem dX7_readsNumber_48 : decode cX7_readsNumber 48 = .ok (.putfield 28, 3) := by decide +kernel
theorem dX7_readsNumber_51 : decode cX7_readsNumber 51 = .ok (.aload_n 0, 1) := by decide +kernel
theorem dX7_readsNumber_52 : decode cX7_readsNumber 52 = .ok (.invokevirtual 86, 3) := by decide +kernel
theorem dX7_readsNumber_55 : decode cX7_readsNumber 55 = .ok (.ifCond .eq 31, 3) := by decide +kernel
theorem dX7_readsNumber_58 : decode cX7_readsNumber 58 = .ok (.bipush 10, 2) := by decide +kernel
theorem dX7_readsNumber_60 : decode cX7_readsNumber 60 = .ok (.iload_n 3, 1) := by decide +kernel
theorem dX7_readsNumber_61 : decode cX7_readsNumber 61 = .ok (.imul, 1) := by decide +kernel
theorem dX7_readsNumber_62 : decode cX7_readsNumber 62 = .ok (.aload_n 0, 1) := by decide +kernel
theorem dX7_readsNumber_63 : decode cX7_readsNumber 63 = .ok (.getfield 9, 3) := by decide +kernel
theorem dX7_readsNumber_66 : decode cX7_readsNumber 66 = .ok (.aload_n 0, 1) := by decide +kernel
theorem dX7_readsNumber_67 : decode cX7_readsNumber 67 = .ok (.getfield 28, 3) := by decide +kernel
theorem dX7_readsNumber_70 : decode cX7_readsNumber 70 = .ok (.caload, 1) := by decide +kernel
theorem dX7_readsNumber_71 : decode cX7_readsNumber 71 = .ok (.iadd, 1) := by decide +kernel
theorem dX7_readsNumber_72 : decode cX7_readsNumber 72 = .ok (.bipush 48, 2) := by decide +kernel
theorem dX7_readsNumber_74 : decode cX7_readsNumber 74 = .ok (.isub, 1) := by decide +kernel
theorem dX7_readsNumber_75 : decode cX7_readsNumber 75 = .ok (.istore_n 3, 1) := by decide +kernel
theorem dX7_readsNumber_76 : decode cX7_readsNumber 76 = .ok (.aload_n 0, 1) := by decide +kernel
theorem dX7_readsNumber_77 : decode cX7_readsNumber 77 = .ok (.dup, 1) := by decide +kernel
theorem dX7_readsNumber_78 : decode cX7_readsNumber 78 = .ok (.getfield 28, 3) := by decide +kernel
theorem dX7_readsNumber_81 : decode cX7_readsNumber 81 = .ok (.iconst 1, 1) := by decide +kernel
theorem dX7_readsNumber_82 : decode cX7_readsNumber 82 = .ok (.iadd, 1) := by decide +kernel
theorem dX7_readsNumber_83 : decode cX7_readsNumber 83 = .ok (.putfield 28, 3) := by decide +kernel
theorem dX7_readsNumber_86 : decode cX7_readsNumber 86 = .ok (.aload_n 0, 1) := by decide +kernel
theorem dX7_readsNumber_87 : decode cX7_readsNumber 87 = .ok (.iload_n 2, 1) := by decide +kernel
theorem dX7_readsNumber_88 : decode cX7_readsNumber 88 = .ok (.ifCond .eq 8, 3) := by decide +kernel
theorem dX7_readsNumber_91 : decode cX7_readsNumber 91 = .ok (.iload_n 3, 1) := by decide +kernel
theorem dX7_readsNumber_92 : decode cX7_readsNumber 92 = .ok (.ineg, 1) := by decide +kernel
theorem dX7_readsNumber_93 : decode cX7_readsNumber 93 = .ok (.goto 4, 3) := by decide +kernel
theorem dX7_readsNumber_96 : decode cX7_readsNumber 96 = .ok (.iload_n 3, 1) := by decide +kernel
theorem dX7_readsNumber_97 : decode cX7_readsNumber 97 = .ok (.putfield 64, 3) := by decide +kernel
theorem dX7_readsNumber_100 : decode cX7_readsNumber 100 = .ok (.iconst 1, 1) := by decide +kernel
theorem dX7_readsNumber_101 : decode cX7_readsNumber 101 = .ok (.ireturn, 1) := by decide +kernel
theorem dX7_isDigitNext_0 : decode cX7_isDigitNext 0 = .ok (.aload_n 0, 1) := by decide +kernel
theorem dX7_isDigitNext_1 : decode cX7_isDigitNext 1 = .ok (.getfield 28, 3) := by decide +kernel
theorem dX7_isDigitNext_4 : decode cX7_isDigitNext 4 = .ok (.aload_n 0, 1) := by decide +kernel
theorem dX7_isDigitNext_5 : decode cX7_isDigitNext 5 = .ok (.getfield 24, 3) := by decide +kernel
theorem dX7_isDigitNext_8 : decode cX7_isDigitNext 8 = .ok (.if_icmp .ge 35, 3) := by decide +kernel
theorem dX7_isDigitNext_11 : decode cX7_isDigitNext 11 = .ok (.aload_n 0, 1) := by decide +kernel
theorem dX7_isDigitNext_12 : decode cX7_isDigitNext 12 = .ok (.getfield 9, 3) := by decide +kernel
theorem dX7_isDigitNext_15 : decode cX7_isDigitNext 15 = .ok (.aload_n 0, 1) := by decide +kernel
theorem dX7_isDigitNext_16 : decode cX7_isDigitNext 16 = .ok (.getfield 28, 3) := by decide +kernel
theorem dX7_isDigitNext_19 : decode cX7_isDigitNext 19 = .ok (.caload, 1) := by decide +kernel
theorem dX7_isDigitNext_20 : decode cX7_isDigitNext 20 = .ok (.bipush 48, 2) := by decide +kernel
theorem dX7_isDigitNext_22 : decode cX7_isDigitNext 22 = .ok (.if_icmp .lt 21, 3) := by decide +kernel
theorem dX7_isDigitNext_25 : decode cX7_isDigitNext 25 = .ok (.aload_n 0, 1) := by decide +kernel
theorem dX7_isDigitNext_26 : decode cX7_isDigitNext 26 = .ok (.getfield 9, 3) := by decide +kernel
theorem dX7_isDigitNext_29 : decode cX7_isDigitNext 29 = .ok (.aload_n 0, 1) := by decide +kernel
theorem dX7_isDigitNext_30 : decode cX7_isDigitNext 30 = .ok (.getfield 28, 3) := by decide +kernel
theorem dX7_isDigitNext_33 : decode cX7_isDigitNext 33 = .ok (.caload, 1) := by decide +kernel
theorem dX7_isDigitNext_34 : decode cX7_isDigitNext 34 = .ok (.bipush 57, 2) := by decide +kernel
theorem dX7_isDigitNext_36 : decode cX7_isDigitNext 36 = .ok (.if_icmp .gt 7, 3) := by decide +kernel
theorem dX7_isDigitNext_39 : decode cX7_isDigitNext 39 = .ok (.iconst 1, 1) := by decide +kernel
theorem dX7_isDigitNext_40 : decode cX7_isDigitNext 40 = .ok (.goto 4, 3) := by decide +kernel
theorem dX7_isDigitNext_43 : decode cX7_isDigitNext 43 = .ok (.iconst 0, 1) := by decide +kernel
theorem dX7_isDigitNext_44 : decode cX7_isDigitNext 44 = .ok (.ireturn, 1) := by decide +kernel
theorem dX7_passes_0 : decode cX7_passes 0 = .ok (.aload_n 0, 1) := by decide +kernel
theorem dX7_passes_1 : decode cX7_passes 1 = .ok (.getfield 28, 3) := by decide +kernel
theorem dX7_passes_4 : decode cX7_passes 4 = .ok (.aload_n 0, 1) := by decide +kernel
theorem dX7_passes_5 : decode cX7_passes 5 = .ok (.getfield 24, 3) := by decide +kernel
theorem dX7_passes_8 : decode cX7_passes 8 = .ok (.if_icmp .ge 16, 3) := by decide +kernel
theorem dX7_passes_11 : decode cX7_passes 11 = .ok (.aload_n 0, 1) := by decide +kernel
theorem dX7_passes_12 : decode cX7_passes 12 = .ok (.getfield 9, 3) := by decide +kernel
theorem dX7_passes_15 : decode cX7_passes 15 = .ok (.aload_n 0, 1) := by decide +kernel
theorem dX7_passes_16 : decode cX7_passes 16 = .ok (.getfield 28, 3) := by decide +kernel
theorem dX7_passes_19 : decode cX7_passes 19 = .ok (.caload, 1) := by decide +kernel
theorem dX7_passes_20 : decode cX7_passes 20 = .ok (.iload_n 1, 1) := by decide +kernel
theorem dX7_passes_21 : decode cX7_passes 21 = .ok (.if_icmp .eq 5, 3) := by decide +kernel
theorem dX7_passes_24 : decode cX7_passes 24 = .ok (.iconst 0, 1) := by decide +kernel
theorem dX7_passes_25 : decode cX7_passes 25 = .ok (.ireturn, 1) := by decide +kernel
theorem dX7_passes_26 : decode cX7_passes 26 = .ok (.aload_n 0, 1) := by decide +kernel
theorem dX7_passes_27 : decode cX7_passes 27 = .ok (.dup, 1) := by decide +kernel
theorem dX7_passes_28 : decode cX7_passes 28 = .ok (.getfield 28, 3) := by decide +kernel
theorem dX7_passes_31 : decode cX7_passes 31 = .ok (.iconst 1, 1) := by decide +kernel
theorem dX7_passes_32 : decode cX7_passes 32 = .ok (.iadd, 1) := by decide +kernel
theorem dX7_passes_33 : decode cX7_passes 33 = .ok (.putfield 28, 3) := by decide +kernel
theorem dX7_passes_36 : decode cX7_passes 36 = .ok (.iconst 1, 1) := by decide +kernel
theorem dX7_passes_37 : decode cX7_passes 37 = .ok (.ireturn, 1) := by decide +kernel
theorem dX7_isInRange_0 : decode cX7_isInRange 0 = .ok (.iconst 0, 1) := by decide +kernel
theorem dX7_isInRange_1 : decode cX7_isInRange 1 = .ok (.istore_n 1, 1) := by decide +kernel
theorem dX7_isInRange_2 : decode cX7_isInRange 2 = .ok (.iload_n 1, 1) := by decide +kernel
theorem dX7_isInRange_3 : decode cX7_isInRange 3 = .ok (.aload_n 0, 1) := by decide +kernel
theorem dX7_isInRange_4 : decode cX7_isInRange 4 = .ok (.getfield 20, 3) := by decide +kernel
theorem dX7_isInRange_7 : decode cX7_isInRange 7 = .ok (.getfield 31, 3) := by decide +kernel
theorem dX7_isInRange_10 : decode cX7_isInRange 10 = .ok (.if_icmp .ge 54, 3) := by decide +kernel
theorem dX7_isInRange_13 : decode cX7_isInRange 13 = .ok (.iconst 0, 1) := by decide +kernel
theorem dX7_isInRange_14 : decode cX7_isInRange 14 = .ok (.istore_n 2, 1) := by decide +kernel
theorem dX7_isInRange_15 : decode cX7_isInRange 15 = .ok (.iload_n 2, 1) := by decide +kernel
theorem dX7_isInRange_16 : decode cX7_isInRange 16 = .ok (.iconst 3, 1) := by decide +kernel
theorem dX7_isInRange_17 : decode cX7_isInRange 17 = .ok (.if_icmp .ge 41, 3) := by decide +kernel
theorem dX7_isInRange_20 : decode cX7_isInRange 20 = .ok (.aload_n 0, 1) := by decide +kernel
theorem dX7_isInRange_21 : decode cX7_isInRange 21 = .ok (.getfield 20, 3) := by decide +kernel
theorem dX7_isInRange_24 : decode cX7_isInRange 24 = .ok (.iload_n 1, 1) := by decide +kernel
theorem dX7_isInRange_25 : decode cX7_isInRange 25 = .ok (.iconst 1, 1) := by decide +kernel
theorem dX7_isInRange_26 : decode cX7_isInRange 26 = .ok (.iload_n 2, 1) := by decide +kernel
theorem dX7_isInRange_27 : decode cX7_isInRange 27 = .ok (.iadd, 1) := by decide +kernel
theorem dX7_isInRange_28 : decode cX7_isInRange 28 = .ok (.invokevirtual 89, 3) := by decide +kernel
theorem dX7_isInRange_31 : decode cX7_isInRange 31 = .ok (.aload_n 0, 1) := by decide +kernel
theorem dX7_isInRange_32 : decode cX7_isInRange 32 = .ok (.aload_n 0, 1) := by decide +kernel
theorem dX7_isInRange_33 : decode cX7_isInRange 33 = .ok (.getfield 20, 3) := by decide +kernel
theorem dX7_isInRange_36 : decode cX7_isInRange 36 = .ok (.iload_n 1, 1) := by decide +kernel
theorem dX7_isInRange_37 : decode cX7_isInRange 37 = .ok (.invokevirtual 93, 3) := by decide +kernel
theorem dX7_isInRange_40 : decode cX7_isInRange 40 = .ok (.iload_n 2, 1) := by decide +kernel
theorem dX7_isInRange_41 : decode cX7_isInRange 41 = .ok (.invokevirtual 54, 3) := by decide +kernel
theorem dX7_isInRange_44 : decode cX7_isInRange 44 = .ok (.invokevirtual 97, 3) := by decide +kernel
theorem dX7_isInRange_47 : decode cX7_isInRange 47 = .ok (.if_icmp .le 5, 3) := by decide +kernel
theorem dX7_isInRange_50 : decode cX7_isInRange 50 = .ok (.iconst 0, 1) := by decide +kernel
theorem dX7_isInRange_51 : decode cX7_isInRange 51 = .ok (.ireturn, 1) := by decide +kernel
theorem dX7_isInRange_52 : decode cX7_isInRange 52 = .ok (.iinc 2 1, 3) := by decide +kernel
theorem dX7_isInRange_55 : decode cX7_isInRange 55 = .ok (.goto (-40), 3) := by decide +kernel
theorem dX7_isInRange_58 : decode cX7_isInRange 58 = .ok (.iinc 1 1, 3) := by decide +kernel
theorem dX7_isInRange_61 : decode cX7_isInRange 61 = .ok (.goto (-59), 3) := by decide +kernel
theorem dX7_isInRange_64 : decode cX7_isInRange 64 = .ok (.iconst 1, 1) := by decide +kernel
theorem dX7_isInRange_65 : decode cX7_isInRange 65 = .ok (.ireturn, 1) := by decide +kernel
theorem dX7_greatest_0 : decode cX7_greatest 0 = .ok (.iload_n 1, 1) := by decide +kernel
theorem dX7_greatest_1 : decode cX7_greatest 1 = .ok (.bipush 111, 2) := by decide +kernel
theorem dX7_greatest_3 : decode cX7_greatest 3 = .ok (.if_icmp .ne 6, 3) := by decide +kernel
theorem dX7_greatest_6 : decode cX7_greatest 6 = .ok (.bipush 15, 2) := by decide +kernel
theorem dX7_greatest_8 : decode cX7_greatest 8 = .ok (.ireturn, 1) := by decide +kernel
theorem dX7_greatest_9 : decode cX7_greatest 9 = .ok (.iload_n 1, 1) := by decide +kernel
theorem dX7_greatest_10 : decode cX7_greatest 10 = .ok (.bipush 116, 2) := by decide +kernel
theorem dX7_greatest_12 : decode cX7_greatest 12 = .ok (.if_icmp .ne 11, 3) := by decide +kernel
theorem dX7_greatest_15 : decode cX7_greatest 15 = .ok (.aload_n 0, 1) := by decide +kernel
theorem dX7_greatest_16 : decode cX7_greatest 16 = .ok (.getfield 20, 3) := by decide +kernel
theorem dX7_greatest_19 : decode cX7_greatest 19 = .ok (.getfield 31, 3) := by decide +kernel
theorem dX7_greatest_22 : decode cX7_greatest 22 = .ok (.ireturn, 1) := by decide +kernel
theorem dX7_greatest_23 : decode cX7_greatest 23 = .ok (.iload_n 1, 1) := by decide +kernel
theorem dX7_greatest_24 : decode cX7_greatest 24 = .ok (.bipush 110, 2) := by decide +kernel
theorem dX7_greatest_26 : decode cX7_greatest 26 = .ok (.if_icmp .ne 8, 3) := by decide +kernel
theorem dX7_greatest_29 : decode cX7_greatest 29 = .ok (.bipush 99, 2) := by decide +kernel
theorem dX7_greatest_31 : decode cX7_greatest 31 = .ok (.goto 5, 3) := by decide +kernel
theorem dX7_greatest_34 : decode cX7_greatest 34 = .ok (.bipush 7, 2) := by decide +kernel
theorem dX7_greatest_36 : decode cX7_greatest 36 = .ok (.ireturn, 1) := by decide +kernel
theorem dX8_init_0 : decode cX8_init 0 = .ok (.aload_n 0, 1) := by decide +kernel
theorem dX8_init_1 : decode cX8_init 1 = .ok (.invokespecial 3, 3) := by decide +kernel
theorem dX8_init_4 : decode cX8_init 4 = .ok (.aload_n 0, 1) := by decide +kernel
theorem dX8_init_5 : decode cX8_init 5 = .ok (.sipush 840, 3) := by decide +kernel
theorem dX8_init_8 : decode cX8_init 8 = .ok (.newarray .char, 2) := by decide +kernel
theorem dX8_init_10 : decode cX8_init 10 = .ok (.putfield 11, 3) := by decide +kernel
theorem dX8_init_13 : decode cX8_init 13 = .ok (.return_, 1) := by decide +kernel
theorem dX8_writeProgram_0 : decode cX8_writeProgram 0 = .ok (.aload_n 0, 1) := by decide +kernel
theorem dX8_writeProgram_1 : decode cX8_writeProgram 1 = .ok (.iconst 0, 1) := by decide +kernel
theorem dX8_writeProgram_2 : decode cX8_writeProgram 2 = .ok (.putfield 15, 3) := by decide +kernel
theorem dX8_writeProgram_5 : decode cX8_writeProgram 5 = .ok (.iconst 0, 1) := by decide +kernel
theorem dX8_writeProgram_6 : decode cX8_writeProgram 6 = .ok (.istore_n 2, 1) := by decide +kernel
theorem dX8_writeProgram_7 : decode cX8_writeProgram 7 = .ok (.iload_n 2, 1) := by decide +kernel
theorem dX8_writeProgram_8 : decode cX8_writeProgram 8 = .ok (.aload_n 1, 1) := by decide +kernel
theorem dX8_writeProgram_9 : decode cX8_writeProgram 9 = .ok (.getfield 19, 3) := by decide +kernel
theorem dX8_writeProgram_12 : decode cX8_writeProgram 12 = .ok (.if_icmp .ge 38, 3) := by decide +kernel
theorem dX8_writeProgram_15 : decode cX8_writeProgram 15 = .ok (.iload_n 2, 1) := by decide +kernel
theorem dX8_writeProgram_16 : decode cX8_writeProgram 16 = .ok (.ifCond .le 22, 3) := by decide +kernel
theorem dX8_writeProgram_19 : decode cX8_writeProgram 19 = .ok (.aload_n 0, 1) := by decide +kernel
theorem dX8_writeProgram_20 : decode cX8_writeProgram 20 = .ok (.aload_n 1, 1) := by decide +kernel
theorem dX8_writeProgram_21 : decode cX8_writeProgram 21 = .ok (.iload_n 2, 1) := by decide +kernel
theorem dX8_writeProgram_22 : decode cX8_writeProgram 22 = .ok (.invokevirtual 24, 3) := by decide +kernel
theorem dX8_writeProgram_25 : decode cX8_writeProgram 25 = .ok (.ifCond .eq 8, 3) := by decide +kernel
theorem dX8_writeProgram_28 : decode cX8_writeProgram 28 = .ok (.bipush 124, 2) := by decide +kernel
theorem dX8_writeProgram_30 : decode cX8_writeProgram 30 = .ok (.goto 5, 3) := by decide +kernel
theorem dX8_writeProgram_33 : decode cX8_writeProgram 33 = .ok (.bipush 59, 2) := by decide +kernel
theorem dX8_writeProgram_35 : decode cX8_writeProgram 35 = .ok (.invokevirtual 28, 3) := by decide +kernel
theorem dX8_writeProgram_38 : decode cX8_writeProgram 38 = .ok (.aload_n 0, 1) := by decide +kernel
theorem dX8_writeProgram_39 : decode cX8_writeProgram 39 = .ok (.aload_n 1, 1) := by decide +kernel
theorem dX8_writeProgram_40 : decode cX8_writeProgram 40 = .ok (.iload_n 2, 1) := by decide +kernel
theorem dX8_writeProgram_41 : decode cX8_writeProgram 41 = .ok (.invokevirtual 32, 3) := by decide +kernel
theorem dX8_writeProgram_44 : decode cX8_writeProgram 44 = .ok (.iinc 2 1, 3) := by decide +kernel
theorem dX8_writeProgram_47 : decode cX8_writeProgram 47 = .ok (.goto (-40), 3) := by decide +kernel
theorem dX8_writeProgram_50 : decode cX8_writeProgram 50 = .ok (.aload_n 0, 1) := by decide +kernel
theorem dX8_writeProgram_51 : decode cX8_writeProgram 51 = .ok (.getfield 15, 3) := by decide +kernel
theorem dX8_writeProgram_54 : decode cX8_writeProgram 54 = .ok (.ireturn, 1) := by decide +kernel
theorem dX8_writeInstruction_0 : decode cX8_writeInstruction 0 = .ok (.aload_n 1, 1) := by decide +kernel
theorem dX8_writeInstruction_1 : decode cX8_writeInstruction 1 = .ok (.iload_n 2, 1) := by decide +kernel
theorem dX8_writeInstruction_2 : decode cX8_writeInstruction 2 = .ok (.invokevirtual 36, 3) := by decide +kernel
theorem dX8_writeInstruction_5 : decode cX8_writeInstruction 5 = .ok (.astore_n 3, 1) := by decide +kernel
theorem dX8_writeInstruction_6 : decode cX8_writeInstruction 6 = .ok (.iconst 0, 1) := by decide +kernel
theorem dX8_writeInstruction_7 : decode cX8_writeInstruction 7 = .ok (.istore 4, 2) := by decide +kernel
theorem dX8_writeInstruction_9 : decode cX8_writeInstruction 9 = .ok (.iload 4, 2) := by decide +kernel
theorem dX8_writeInstruction_11 : decode cX8_writeInstruction 11 = .ok (.aload_n 3, 1) := by decide +kernel
theorem dX8_writeInstruction_12 : decode cX8_writeInstruction 12 = .ok (.getfield 40, 3) := by decide +kernel
theorem dX8_writeInstruction_15 : decode cX8_writeInstruction 15 = .ok (.invokevirtual 46, 3) := by decide +kernel
theorem dX8_writeInstruction_18 : decode cX8_writeInstruction 18 = .ok (.if_icmp .ge 22, 3) := by decide +kernel
theorem dX8_writeInstruction_21 : decode cX8_writeInstruction 21 = .ok (.aload_n 0, 1) := by decide +kernel
theorem dX8_writeInstruction_22 : decode cX8_writeInstruction 22 = .ok (.aload_n 3, 1) := by decide +kernel
theorem dX8_writeInstruction_23 : decode cX8_writeInstruction 23 = .ok (.getfield 40, 3) := by decide +kernel
theorem dX8_writeInstruction_26 : decode cX8_writeInstruction 26 = .ok (.iload 4, 2) := by decide +kernel
theorem dX8_writeInstruction_28 : decode cX8_writeInstruction 28 = .ok (.invokevirtual 51, 3) := by decide +kernel
theorem dX8_writeInstruction_31 : decode cX8_writeInstruction 31 = .ok (.invokevirtual 28, 3) := by decide +kernel
theorem dX8_writeInstruction_34 : decode cX8_writeInstruction 34 = .ok (.iinc 4 1, 3) := by decide +kernel
theorem dX8_writeInstruction_37 : decode cX8_writeInstruction 37 = .ok (.goto (-28), 3) := by decide +kernel
theorem dX8_writeInstruction_40 : decode cX8_writeInstruction 40 = .ok (.aload_n 1, 1) := by decide +kernel
theorem dX8_writeInstruction_41 : decode cX8_writeInstruction 41 = .ok (.iload_n 2, 1) := by decide +kernel
theorem dX8_writeInstruction_42 : decode cX8_writeInstruction 42 = .ok (.invokevirtual 55, 3) := by decide +kernel
theorem dX8_writeInstruction_45 : decode cX8_writeInstruction 45 = .ok (.ifCond .eq 9, 3) := by decide +kernel
theorem dX8_writeInstruction_48 : decode cX8_writeInstruction 48 = .ok (.aload_n 0, 1) := by decide +kernel
theorem dX8_writeInstruction_49 : decode cX8_writeInstruction 49 = .ok (.bipush 42, 2) := by decide +kernel
theorem dX8_writeInstruction_51 : decode cX8_writeInstruction 51 = .ok (.invokevirtual 28, 3) := by decide +kernel
theorem dX8_writeInstruction_54 : decode cX8_writeInstruction 54 = .ok (.iconst 0, 1) := by decide +kernel
theorem dX8_writeInstruction_55 : decode cX8_writeInstruction 55 = .ok (.istore 4, 2) := by decide +kernel
theorem dX8_writeInstruction_57 : decode cX8_writeInstruction 57 = .ok (.iload 4, 2) := by decide +kernel
theorem dX8_writeInstruction_59 : decode cX8_writeInstruction 59 = .ok (.iconst 3, 1) := by decide +kernel
theorem dX8_writeInstruction_60 : decode cX8_writeInstruction 60 = .ok (.if_icmp .ge 39, 3) := by decide +kernel
theorem dX8_writeInstruction_63 : decode cX8_writeInstruction 63 = .ok (.aload_n 3, 1) := by decide +kernel
theorem dX8_writeInstruction_64 : decode cX8_writeInstruction 64 = .ok (.iload 4, 2) := by decide +kernel
theorem dX8_writeInstruction_66 : decode cX8_writeInstruction 66 = .ok (.invokevirtual 58, 3) := by decide +kernel
theorem dX8_writeInstruction_69 : decode cX8_writeInstruction 69 = .ok (.bipush 45, 2) := by decide +kernel
theorem dX8_writeInstruction_71 : decode cX8_writeInstruction 71 = .ok (.if_icmp .eq 22, 3) := by decide +kernel
theorem dX8_writeInstruction_74 : decode cX8_writeInstruction 74 = .ok (.aload_n 0, 1) := by decide +kernel
theorem dX8_writeInstruction_75 : decode cX8_writeInstruction 75 = .ok (.bipush 32, 2) := by decide +kernel
theorem dX8_writeInstruction_77 : decode cX8_writeInstruction 77 = .ok (.invokevirtual 28, 3) := by decide +kernel
theorem dX8_writeInstruction_80 : decode cX8_writeInstruction 80 = .ok (.aload_n 0, 1) := by decide +kernel
theorem dX8_writeInstruction_81 : decode cX8_writeInstruction 81 = .ok (.aload_n 1, 1) := by decide +kernel
theorem dX8_writeInstruction_82 : decode cX8_writeInstruction 82 = .ok (.iload_n 2, 1) := by decide +kernel
theorem dX8_writeInstruction_83 : decode cX8_writeInstruction 83 = .ok (.iconst 1, 1) := by decide +kernel
theorem dX8_writeInstruction_84 : decode cX8_writeInstruction 84 = .ok (.iload 4, 2) := by decide +kernel
theorem dX8_writeInstruction_86 : decode cX8_writeInstruction 86 = .ok (.iadd, 1) := by decide +kernel
theorem dX8_writeInstruction_87 : decode cX8_writeInstruction 87 = .ok (.invokevirtual 61, 3) := by decide +kernel
theorem dX8_writeInstruction_90 : decode cX8_writeInstruction 90 = .ok (.invokevirtual 65, 3) := by decide +kernel
theorem dX8_writeInstruction_93 : decode cX8_writeInstruction 93 = .ok (.iinc 4 1, 3) := by decide +kernel
theorem dX8_writeInstruction_96 : decode cX8_writeInstruction 96 = .ok (.goto (-39), 3) := by decide +kernel
theorem dX8_writeInstruction_99 : decode cX8_writeInstruction 99 = .ok (.return_, 1) := by decide +kernel
theorem dX8_writeNumber_0 : decode cX8_writeNumber 0 = .ok (.iload_n 1, 1) := by decide +kernel
theorem dX8_writeNumber_1 : decode cX8_writeNumber 1 = .ok (.invokestatic 69, 3) := by decide +kernel
theorem dX8_writeNumber_4 : decode cX8_writeNumber 4 = .ok (.istore_n 2, 1) := by decide +kernel
theorem dX8_writeNumber_5 : decode cX8_writeNumber 5 = .ok (.iload_n 1, 1) := by decide +kernel
theorem dX8_writeNumber_6 : decode cX8_writeNumber 6 = .ok (.ifCond .ge 9, 3) := by decide +kernel
theorem dX8_writeNumber_9 : decode cX8_writeNumber 9 = .ok (.aload_n 0, 1) := by decide +kernel
theorem dX8_writeNumber_10 : decode cX8_writeNumber 10 = .ok (.bipush 45, 2) := by decide +kernel
theorem dX8_writeNumber_12 : decode cX8_writeNumber 12 = .ok (.invokevirtual 28, 3) := by decide +kernel
theorem dX8_writeNumber_15 : decode cX8_writeNumber 15 = .ok (.iload_n 2, 1) := by decide +kernel
theorem dX8_writeNumber_16 : decode cX8_writeNumber 16 = .ok (.bipush 10, 2) := by decide +kernel
theorem dX8_writeNumber_18 : decode cX8_writeNumber 18 = .ok (.if_icmp .lt 15, 3) := by decide +kernel
theorem dX8_writeNumber_21 : decode cX8_writeNumber 21 = .ok (.aload_n 0, 1) := by decide +kernel
theorem dX8_writeNumber_22 : decode cX8_writeNumber 22 = .ok (.bipush 48, 2) := by decide +kernel
theorem dX8_writeNumber_24 : decode cX8_writeNumber 24 = .ok (.iload_n 2, 1) := by decide +kernel
theorem dX8_writeNumber_25 : decode cX8_writeNumber 25 = .ok (.bipush 10, 2) := by decide +kernel
theorem dX8_writeNumber_27 : decode cX8_writeNumber 27 = .ok (.idiv, 1) := by decide +kernel
theorem dX8_writeNumber_28 : decode cX8_writeNumber 28 = .ok (.iadd, 1) := by decide +kernel
theorem dX8_writeNumber_29 : decode cX8_writeNumber 29 = .ok (.i2c, 1) := by decide +kernel
theorem dX8_writeNumber_30 : decode cX8_writeNumber 30 = .ok (.invokevirtual 28, 3) := by decide +kernel
theorem dX8_writeNumber_33 : decode cX8_writeNumber 33 = .ok (.aload_n 0, 1) := by decide +kernel
theorem dX8_writeNumber_34 : decode cX8_writeNumber 34 = .ok (.bipush 48, 2) := by decide +kernel
theorem dX8_writeNumber_36 : decode cX8_writeNumber 36 = .ok (.iload_n 2, 1) := by decide +kernel
theorem dX8_writeNumber_37 : decode cX8_writeNumber 37 = .ok (.bipush 10, 2) := by decide +kernel
theorem dX8_writeNumber_39 : decode cX8_writeNumber 39 = .ok (.irem, 1) := by decide +kernel
theorem dX8_writeNumber_40 : decode cX8_writeNumber 40 = .ok (.iadd, 1) := by decide +kernel
theorem dX8_writeNumber_41 : decode cX8_writeNumber 41 = .ok (.i2c, 1) := by decide +kernel
theorem dX8_writeNumber_42 : decode cX8_writeNumber 42 = .ok (.invokevirtual 28, 3) := by decide +kernel
theorem dX8_writeNumber_45 : decode cX8_writeNumber 45 = .ok (.return_, 1) := by decide +kernel
theorem dX8_append_0 : decode cX8_append 0 = .ok (.aload_n 0, 1) := by decide +kernel
theorem dX8_append_1 : decode cX8_append 1 = .ok (.getfield 15, 3) := by decide +kernel
theorem dX8_append_4 : decode cX8_append 4 = .ok (.aload_n 0, 1) := by decide +kernel
theorem dX8_append_5 : decode cX8_append 5 = .ok (.getfield 11, 3) := by decide +kernel
theorem dX8_append_8 : decode cX8_append 8 = .ok (.arraylength, 1) := by decide +kernel
theorem dX8_append_9 : decode cX8_append 9 = .ok (.if_icmp .ge 23, 3) := by decide +kernel
theorem dX8_append_12 : decode cX8_append 12 = .ok (.aload_n 0, 1) := by decide +kernel
theorem dX8_append_13 : decode cX8_append 13 = .ok (.getfield 11, 3) := by decide +kernel
theorem dX8_append_16 : decode cX8_append 16 = .ok (.aload_n 0, 1) := by decide +kernel
theorem dX8_append_17 : decode cX8_append 17 = .ok (.getfield 15, 3) := by decide +kernel
theorem dX8_append_20 : decode cX8_append 20 = .ok (.iload_n 1, 1) := by decide +kernel
theorem dX8_append_21 : decode cX8_append 21 = .ok (.castore, 1) := by decide +kernel
theorem dX8_append_22 : decode cX8_append 22 = .ok (.aload_n 0, 1) := by decide +kernel
theorem dX8_append_23 : decode cX8_append 23 = .ok (.dup, 1) := by decide +kernel
theorem dX8_append_24 : decode cX8_append 24 = .ok (.getfield 15, 3) := by decide +kernel
theorem dX8_append_27 : decode cX8_append 27 = .ok (.iconst 1, 1) := by decide +kernel
theorem dX8_append_28 : decode cX8_append 28 = .ok (.iadd, 1) := by decide +kernel
theorem dX8_append_29 : decode cX8_append 29 = .ok (.putfield 15, 3) := by decide +kernel
theorem dX8_append_32 : decode cX8_append 32 = .ok (.return_, 1) := by decide +kernel
theorem dX9_init_0 : decode cX9_init 0 = .ok (.aload_n 0, 1) := by decide +kernel
theorem dX9_init_1 : decode cX9_init 1 = .ok (.invokespecial 3, 3) := by decide +kernel
theorem dX9_init_4 : decode cX9_init 4 = .ok (.aload_n 0, 1) := by decide +kernel
theorem dX9_init_5 : decode cX9_init 5 = .ok (.new 9, 3) := by decide +kernel
theorem dX9_init_8 : decode cX9_init 8 = .ok (.dup, 1) := by decide +kernel
theorem dX9_init_9 : decode cX9_init 9 = .ok (.invokespecial 11, 3) := by decide +kernel
theorem dX9_init_12 : decode cX9_init 12 = .ok (.putfield 12, 3) := by decide +kernel
theorem dX9_init_15 : decode cX9_init 15 = .ok (.aload_n 0, 1) := by decide +kernel
theorem dX9_init_16 : decode cX9_init 16 = .ok (.new 16, 3) := by decide +kernel
theorem dX9_init_19 : decode cX9_init 19 = .ok (.dup, 1) := by decide +kernel
theorem dX9_init_20 : decode cX9_init 20 = .ok (.invokespecial 18, 3) := by decide +kernel
theorem dX9_init_23 : decode cX9_init 23 = .ok (.putfield 19, 3) := by decide +kernel
theorem dX9_init_26 : decode cX9_init 26 = .ok (.aload_n 0, 1) := by decide +kernel
theorem dX9_init_27 : decode cX9_init 27 = .ok (.new 23, 3) := by decide +kernel
theorem dX9_init_30 : decode cX9_init 30 = .ok (.dup, 1) := by decide +kernel
theorem dX9_init_31 : decode cX9_init 31 = .ok (.bipush 30, 2) := by decide +kernel
theorem dX9_init_33 : decode cX9_init 33 = .ok (.invokespecial 25, 3) := by decide +kernel
theorem dX9_init_36 : decode cX9_init 36 = .ok (.putfield 28, 3) := by decide +kernel
theorem dX9_init_39 : decode cX9_init 39 = .ok (.aload_n 0, 1) := by decide +kernel
theorem dX9_init_40 : decode cX9_init 40 = .ok (.new 23, 3) := by decide +kernel
theorem dX9_init_43 : decode cX9_init 43 = .ok (.dup, 1) := by decide +kernel
theorem dX9_init_44 : decode cX9_init 44 = .ok (.bipush 60, 2) := by decide +kernel
theorem dX9_init_46 : decode cX9_init 46 = .ok (.invokespecial 25, 3) := by decide +kernel
theorem dX9_init_49 : decode cX9_init 49 = .ok (.putfield 32, 3) := by decide +kernel
theorem dX9_init_52 : decode cX9_init 52 = .ok (.aload_n 0, 1) := by decide +kernel
theorem dX9_init_53 : decode cX9_init 53 = .ok (.new 35, 3) := by decide +kernel
theorem dX9_init_56 : decode cX9_init 56 = .ok (.dup, 1) := by decide +kernel
theorem dX9_init_57 : decode cX9_init 57 = .ok (.aload_n 0, 1) := by decide +kernel
theorem dX9_init_58 : decode cX9_init 58 = .ok (.getfield 32, 3) := by decide +kernel
theorem dX9_init_61 : decode cX9_init 61 = .ok (.invokespecial 37, 3) := by decide +kernel
theorem dX9_init_64 : decode cX9_init 64 = .ok (.putfield 40, 3) := by decide +kernel
theorem dX9_init_67 : decode cX9_init 67 = .ok (.aload_n 0, 1) := by decide +kernel
theorem dX9_init_68 : decode cX9_init 68 = .ok (.new 44, 3) := by decide +kernel
theorem dX9_init_71 : decode cX9_init 71 = .ok (.dup, 1) := by decide +kernel
theorem dX9_init_72 : decode cX9_init 72 = .ok (.aload_n 0, 1) := by decide +kernel
theorem dX9_init_73 : decode cX9_init 73 = .ok (.getfield 32, 3) := by decide +kernel
theorem dX9_init_76 : decode cX9_init 76 = .ok (.aload_n 0, 1) := by decide +kernel
theorem dX9_init_77 : decode cX9_init 77 = .ok (.getfield 40, 3) := by decide +kernel
theorem dX9_init_80 : decode cX9_init 80 = .ok (.invokespecial 46, 3) := by decide +kernel
theorem dX9_init_83 : decode cX9_init 83 = .ok (.putfield 49, 3) := by decide +kernel
theorem dX9_init_86 : decode cX9_init 86 = .ok (.aload_n 0, 1) := by decide +kernel
theorem dX9_init_87 : decode cX9_init 87 = .ok (.new 53, 3) := by decide +kernel
theorem dX9_init_90 : decode cX9_init 90 = .ok (.dup, 1) := by decide +kernel
theorem dX9_init_91 : decode cX9_init 91 = .ok (.invokespecial 55, 3) := by decide +kernel
theorem dX9_init_94 : decode cX9_init 94 = .ok (.putfield 56, 3) := by decide +kernel
theorem dX9_init_97 : decode cX9_init 97 = .ok (.aload_n 0, 1) := by decide +kernel
theorem dX9_init_98 : decode cX9_init 98 = .ok (.bipush 24, 2) := by decide +kernel
theorem dX9_init_100 : decode cX9_init 100 = .ok (.newarray .int, 2) := by decide +kernel
theorem dX9_init_102 : decode cX9_init 102 = .ok (.putfield 60, 3) := by decide +kernel
theorem dX9_init_105 : decode cX9_init 105 = .ok (.aload_n 0, 1) := by decide +kernel
theorem dX9_init_106 : decode cX9_init 106 = .ok (.bipush 24, 2) := by decide +kernel
theorem dX9_init_108 : decode cX9_init 108 = .ok (.newarray .int, 2) := by decide +kernel
theorem dX9_init_110 : decode cX9_init 110 = .ok (.putfield 64, 3) := by decide +kernel
theorem dX9_init_113 : decode cX9_init 113 = .ok (.aload_n 0, 1) := by decide +kernel
theorem dX9_init_114 : decode cX9_init 114 = .ok (.new 67, 3) := by decide +kernel
theorem dX9_init_117 : decode cX9_init 117 = .ok (.dup, 1) := by decide +kernel
theorem dX9_init_118 : decode cX9_init 118 = .ok (.sipush 2000, 3) := by decide +kernel
theorem dX9_init_121 : decode cX9_init 121 = .ok (.invokespecial 69, 3) := by decide +kernel
theorem dX9_init_124 : decode cX9_init 124 = .ok (.putfield 70, 3) := by decide +kernel
theorem dX9_init_127 : decode cX9_init 127 = .ok (.aload_n 0, 1) := by decide +kernel
theorem dX9_init_128 : decode cX9_init 128 = .ok (.new 67, 3) := by decide +kernel
theorem dX9_init_131 : decode cX9_init 131 = .ok (.dup, 1) := by decide +kernel
theorem dX9_init_132 : decode cX9_init 132 = .ok (.sipush 2000, 3) := by decide +kernel
theorem dX9_init_135 : decode cX9_init 135 = .ok (.invokespecial 69, 3) := by decide +kernel
theorem dX9_init_138 : decode cX9_init 138 = .ok (.putfield 74, 3) := by decide +kernel
theorem dX9_init_141 : decode cX9_init 141 = .ok (.aload_n 0, 1) := by decide +kernel
theorem dX9_init_142 : decode cX9_init 142 = .ok (.new 67, 3) := by decide +kernel
theorem dX9_init_145 : decode cX9_init 145 = .ok (.dup, 1) := by decide +kernel
theorem dX9_init_146 : decode cX9_init 146 = .ok (.sipush 300, 3) := by decide +kernel
theorem dX9_init_149 : decode cX9_init 149 = .ok (.invokespecial 69, 3) := by decide +kernel
theorem dX9_init_152 : decode cX9_init 152 = .ok (.putfield 77, 3) := by decide +kernel
theorem dX9_init_155 : decode cX9_init 155 = .ok (.aload_n 0, 1) := by decide +kernel
theorem dX9_init_156 : decode cX9_init 156 = .ok (.new 23, 3) := by decide +kernel
theorem dX9_init_159 : decode cX9_init 159 = .ok (.dup, 1) := by decide +kernel
theorem dX9_init_160 : decode cX9_init 160 = .ok (.bipush 30, 2) := by decide +kernel
theorem dX9_init_162 : decode cX9_init 162 = .ok (.invokespecial 25, 3) := by decide +kernel
theorem dX9_init_165 : decode cX9_init 165 = .ok (.putfield 80, 3) := by decide +kernel
theorem dX9_init_168 : decode cX9_init 168 = .ok (.aload_n 0, 1) := by decide +kernel
theorem dX9_init_169 : decode cX9_init 169 = .ok (.new 23, 3) := by decide +kernel
theorem dX9_init_172 : decode cX9_init 172 = .ok (.dup, 1) := by decide +kernel
theorem dX9_init_173 : decode cX9_init 173 = .ok (.bipush 60, 2) := by decide +kernel
theorem dX9_init_175 : decode cX9_init 175 = .ok (.invokespecial 25, 3) := by decide +kernel
theorem dX9_init_178 : decode cX9_init 178 = .ok (.putfield 83, 3) := by decide +kernel
theorem dX9_init_181 : decode cX9_init 181 = .ok (.aload_n 0, 1) := by decide +kernel
theorem dX9_init_182 : decode cX9_init 182 = .ok (.bipush 24, 2) := by decide +kernel
theorem dX9_init_184 : decode cX9_init 184 = .ok (.newarray .int, 2) := by decide +kernel
theorem dX9_init_186 : decode cX9_init 186 = .ok (.putfield 86, 3) := by decide +kernel
theorem dX9_init_189 : decode cX9_init 189 = .ok (.return_, 1) := by decide +kernel
theorem dX9_feed_0 : decode cX9_feed 0 = .ok (.aload_n 0, 1) := by decide +kernel
theorem dX9_feed_1 : decode cX9_feed 1 = .ok (.getfield 12, 3) := by decide +kernel
theorem dX9_feed_4 : decode cX9_feed 4 = .ok (.iload_n 1, 1) := by decide +kernel
theorem dX9_feed_5 : decode cX9_feed 5 = .ok (.invokevirtual 89, 3) := by decide +kernel
theorem dX9_feed_8 : decode cX9_feed 8 = .ok (.ifCond .ne 13, 3) := by decide +kernel
theorem dX9_feed_11 : decode cX9_feed 11 = .ok (.new 93, 3) := by decide +kernel
theorem dX9_feed_14 : decode cX9_feed 14 = .ok (.dup, 1) := by decide +kernel
theorem dX9_feed_15 : decode cX9_feed 15 = .ok (.ldc 95, 2) := by decide +kernel
theorem dX9_feed_17 : decode cX9_feed 17 = .ok (.invokespecial 97, 3) := by decide +kernel
theorem dX9_feed_20 : decode cX9_feed 20 = .ok (.athrow, 1) := by decide +kernel
theorem dX9_feed_21 : decode cX9_feed 21 = .ok (.aload_n 0, 1) := by decide +kernel
theorem dX9_feed_22 : decode cX9_feed 22 = .ok (.getfield 12, 3) := by decide +kernel
theorem dX9_feed_25 : decode cX9_feed 25 = .ok (.getfield 100, 3) := by decide +kernel
theorem dX9_feed_28 : decode cX9_feed 28 = .ok (.ireturn, 1) := by decide +kernel
theorem dX9_parse_0 : decode cX9_parse 0 = .ok (.aload_n 0, 1) := by decide +kernel
theorem dX9_parse_1 : decode cX9_parse 1 = .ok (.getfield 12, 3) := by decide +kernel
theorem dX9_parse_4 : decode cX9_parse 4 = .ok (.invokevirtual 104, 3) := by decide +kernel
theorem dX9_parse_7 : decode cX9_parse 7 = .ok (.istore_n 1, 1) := by decide +kernel
theorem dX9_parse_8 : decode cX9_parse 8 = .ok (.aload_n 0, 1) := by decide +kernel
theorem dX9_parse_9 : decode cX9_parse 9 = .ok (.getfield 12, 3) := by decide +kernel
theorem dX9_parse_12 : decode cX9_parse 12 = .ok (.iconst 0, 1) := by decide +kernel
theorem dX9_parse_13 : decode cX9_parse 13 = .ok (.putfield 100, 3) := by decide +kernel
theorem dX9_parse_16 : decode cX9_parse 16 = .ok (.iload_n 1, 1) := by decide +kernel
theorem dX9_parse_17 : decode cX9_parse 17 = .ok (.ifCond .ne 14, 3) := by decide +kernel
theorem dX9_parse_20 : decode cX9_parse 20 = .ok (.bipush (-100), 2) := by decide +kernel
theorem dX9_parse_22 : decode cX9_parse 22 = .ok (.aload_n 0, 1) := by decide +kernel
theorem dX9_parse_23 : decode cX9_parse 23 = .ok (.getfield 12, 3) := by decide +kernel
theorem dX9_parse_26 : decode cX9_parse 26 = .ok (.getfield 108, 3) := by decide +kernel
theorem dX9_parse_29 : decode cX9_parse 29 = .ok (.isub, 1) := by decide +kernel
theorem dX9_parse_30 : decode cX9_parse 30 = .ok (.ireturn, 1) := by decide +kernel
theorem dX9_parse_31 : decode cX9_parse 31 = .ok (.aload_n 0, 1) := by decide +kernel
theorem dX9_parse_32 : decode cX9_parse 32 = .ok (.getfield 12, 3) := by decide +kernel
theorem dX9_parse_35 : decode cX9_parse 35 = .ok (.getfield 111, 3) := by decide +kernel
theorem dX9_parse_38 : decode cX9_parse 38 = .ok (.astore_n 2, 1) := by decide +kernel
theorem dX9_parse_39 : decode cX9_parse 39 = .ok (.aload_n 0, 1) := by decide +kernel
theorem dX9_parse_40 : decode cX9_parse 40 = .ok (.getfield 12, 3) := by decide +kernel
theorem dX9_parse_43 : decode cX9_parse 43 = .ok (.invokevirtual 114, 3) := by decide +kernel
theorem dX9_parse_46 : decode cX9_parse 46 = .ok (.ifCond .ne 13, 3) := by decide +kernel
theorem dX9_parse_49 : decode cX9_parse 49 = .ok (.new 117, 3) := by decide +kernel
theorem dX9_parse_52 : decode cX9_parse 52 = .ok (.dup, 1) := by decide +kernel
theorem dX9_parse_53 : decode cX9_parse 53 = .ok (.ldc 119, 2) := by decide +kernel
theorem dX9_parse_55 : decode cX9_parse 55 = .ok (.invokespecial 121, 3) := by decide +kernel
theorem dX9_parse_58 : decode cX9_parse 58 = .ok (.athrow, 1) := by decide +kernel
theorem dX9_parse_59 : decode cX9_parse 59 = .ok (.aload_n 0, 1) := by decide +kernel
theorem dX9_parse_60 : decode cX9_parse 60 = .ok (.getfield 28, 3) := by decide +kernel
theorem dX9_parse_63 : decode cX9_parse 63 = .ok (.getfield 122, 3) := by decide +kernel
theorem dX9_parse_66 : decode cX9_parse 66 = .ok (.aload_n 2, 1) := by decide +kernel
theorem dX9_parse_67 : decode cX9_parse 67 = .ok (.getfield 122, 3) := by decide +kernel
theorem dX9_parse_70 : decode cX9_parse 70 = .ok (.iadd, 1) := by decide +kernel
theorem dX9_parse_71 : decode cX9_parse 71 = .ok (.bipush 30, 2) := by decide +kernel
theorem dX9_parse_73 : decode cX9_parse 73 = .ok (.if_icmp .le 13, 3) := by decide +kernel
theorem dX9_parse_76 : decode cX9_parse 76 = .ok (.new 93, 3) := by decide +kernel
theorem dX9_parse_79 : decode cX9_parse 79 = .ok (.dup, 1) := by decide +kernel
theorem dX9_parse_80 : decode cX9_parse 80 = .ok (.ldc 125, 2) := by decide +kernel
theorem dX9_parse_82 : decode cX9_parse 82 = .ok (.invokespecial 97, 3) := by decide +kernel
theorem dX9_parse_85 : decode cX9_parse 85 = .ok (.athrow, 1) := by decide +kernel
theorem dX9_parse_86 : decode cX9_parse 86 = .ok (.aload_n 0, 1) := by decide +kernel
theorem dX9_parse_87 : decode cX9_parse 87 = .ok (.getfield 28, 3) := by decide +kernel
theorem dX9_parse_90 : decode cX9_parse 90 = .ok (.aload_n 2, 1) := by decide +kernel
theorem dX9_parse_91 : decode cX9_parse 91 = .ok (.invokevirtual 127, 3) := by decide +kernel
theorem dX9_parse_94 : decode cX9_parse 94 = .ok (.aload_n 2, 1) := by decide +kernel
theorem dX9_parse_95 : decode cX9_parse 95 = .ok (.getfield 122, 3) := by decide +kernel
theorem dX9_parse_98 : decode cX9_parse 98 = .ok (.ireturn, 1) := by decide +kernel
theorem dX9_clear_0 : decode cX9_clear 0 = .ok (.aload_n 0, 1) := by decide +kernel
theorem dX9_clear_1 : decode cX9_clear 1 = .ok (.getfield 28, 3) := by decide +kernel
theorem dX9_clear_4 : decode cX9_clear 4 = .ok (.getfield 122, 3) := by decide +kernel
theorem dX9_clear_7 : decode cX9_clear 7 = .ok (.istore_n 1, 1) := by decide +kernel
theorem dX9_clear_8 : decode cX9_clear 8 = .ok (.aload_n 0, 1) := by decide +kernel
theorem dX9_clear_9 : decode cX9_clear 9 = .ok (.getfield 28, 3) := by decide +kernel
theorem dX9_clear_12 : decode cX9_clear 12 = .ok (.iconst 0, 1) := by decide +kernel
theorem dX9_clear_13 : decode cX9_clear 13 = .ok (.putfield 122, 3) := by decide +kernel
theorem dX9_clear_16 : decode cX9_clear 16 = .ok (.iload_n 1, 1) := by decide +kernel
theorem dX9_clear_17 : decode cX9_clear 17 = .ok (.ireturn, 1) := by decide +kernel
theorem dX9_instructions_0 : decode cX9_instructions 0 = .ok (.aload_n 0, 1) := by decide +kernel
theorem dX9_instructions_1 : decode cX9_instructions 1 = .ok (.getfield 28, 3) := by decide +kernel
theorem dX9_instructions_4 : decode cX9_instructions 4 = .ok (.getfield 122, 3) := by decide +kernel
theorem dX9_instructions_7 : decode cX9_instructions 7 = .ok (.ireturn, 1) := by decide +kernel
theorem dX9_instruction_0 : decode cX9_instruction 0 = .ok (.aload_n 0, 1) := by decide +kernel
theorem dX9_instruction_1 : decode cX9_instruction 1 = .ok (.getfield 28, 3) := by decide +kernel
theorem dX9_instruction_4 : decode cX9_instruction 4 = .ok (.iload_n 1, 1) := by decide +kernel
theorem dX9_instruction_5 : decode cX9_instruction 5 = .ok (.invokevirtual 130, 3) := by decide +kernel
theorem dX9_instruction_8 : decode cX9_instruction 8 = .ok (.ifCond .ne 13, 3) := by decide +kernel
theorem dX9_instruction_11 : decode cX9_instruction 11 = .ok (.new 134, 3) := by decide +kernel
theorem dX9_instruction_14 : decode cX9_instruction 14 = .ok (.dup, 1) := by decide +kernel
theorem dX9_instruction_15 : decode cX9_instruction 15 = .ok (.ldc 136, 2) := by decide +kernel
theorem dX9_instruction_17 : decode cX9_instruction 17 = .ok (.invokespecial 138, 3) := by decide +kernel
theorem dX9_instruction_20 : decode cX9_instruction 20 = .ok (.athrow, 1) := by decide +kernel
theorem dX9_instruction_21 : decode cX9_instruction 21 = .ok (.iload_n 2, 1) := by decide +kernel
theorem dX9_instruction_22 : decode cX9_instruction 22 = .ok (.ifCond .lt 8, 3) := by decide +kernel
theorem dX9_instruction_25 : decode cX9_instruction 25 = .ok (.iload_n 2, 1) := by decide +kernel
theorem dX9_instruction_26 : decode cX9_instruction 26 = .ok (.iconst 3, 1) := by decide +kernel
theorem dX9_instruction_27 : decode cX9_instruction 27 = .ok (.if_icmp .le 13, 3) := by decide +kernel
theorem dX9_instruction_30 : decode cX9_instruction 30 = .ok (.new 117, 3) := by decide +kernel
theorem dX9_instruction_33 : decode cX9_instruction 33 = .ok (.dup, 1) := by decide +kernel
theorem dX9_instruction_34 : decode cX9_instruction 34 = .ok (.ldc 139, 2) := by decide +kernel
theorem dX9_instruction_36 : decode cX9_instruction 36 = .ok (.invokespecial 121, 3) := by decide +kernel
theorem dX9_instruction_39 : decode cX9_instruction 39 = .ok (.athrow, 1) := by decide +kernel
theorem dX9_instruction_40 : decode cX9_instruction 40 = .ok (.aload_n 0, 1) := by decide +kernel
theorem dX9_instruction_41 : decode cX9_instruction 41 = .ok (.getfield 28, 3) := by decide +kernel
theorem dX9_instruction_44 : decode cX9_instruction 44 = .ok (.iload_n 1, 1) := by decide +kernel
theorem dX9_instruction_45 : decode cX9_instruction 45 = .ok (.iload_n 2, 1) := by decide +kernel
theorem dX9_instruction_46 : decode cX9_instruction 46 = .ok (.invokevirtual 141, 3) := by decide +kernel
theorem dX9_instruction_49 : decode cX9_instruction 49 = .ok (.ireturn, 1) := by decide +kernel
theorem dX9_expand_0 : decode cX9_expand 0 = .ok (.aload_n 0, 1) := by decide +kernel
theorem dX9_expand_1 : decode cX9_expand 1 = .ok (.getfield 56, 3) := by decide +kernel
theorem dX9_expand_4 : decode cX9_expand 4 = .ok (.aload_n 0, 1) := by decide +kernel
theorem dX9_expand_5 : decode cX9_expand 5 = .ok (.getfield 32, 3) := by decide +kernel
theorem dX9_expand_8 : decode cX9_expand 8 = .ok (.invokevirtual 145, 3) := by decide +kernel
theorem dX9_expand_11 : decode cX9_expand 11 = .ok (.aload_n 0, 1) := by decide +kernel
theorem dX9_expand_12 : decode cX9_expand 12 = .ok (.getfield 32, 3) := by decide +kernel
theorem dX9_expand_15 : decode cX9_expand 15 = .ok (.aload_n 0, 1) := by decide +kernel
theorem dX9_expand_16 : decode cX9_expand 16 = .ok (.getfield 28, 3) := by decide +kernel
theorem dX9_expand_19 : decode cX9_expand 19 = .ok (.invokevirtual 148, 3) := by decide +kernel
theorem dX9_expand_22 : decode cX9_expand 22 = .ok (.aload_n 0, 1) := by decide +kernel
theorem dX9_expand_23 : decode cX9_expand 23 = .ok (.getfield 32, 3) := by decide +kernel
theorem dX9_expand_26 : decode cX9_expand 26 = .ok (.getfield 122, 3) := by decide +kernel
theorem dX9_expand_29 : decode cX9_expand 29 = .ok (.ireturn, 1) := by decide +kernel
theorem dX9_entries_0 : decode cX9_entries 0 = .ok (.aload_n 0, 1) := by decide +kernel
theorem dX9_entries_1 : decode cX9_entries 1 = .ok (.getfield 32, 3) := by decide +kernel
theorem dX9_entries_4 : decode cX9_entries 4 = .ok (.getfield 122, 3) := by decide +kernel
theorem dX9_entries_7 : decode cX9_entries 7 = .ok (.ireturn, 1) := by decide +kernel
theorem dX9_entry_0 : decode cX9_entry 0 = .ok (.aload_n 0, 1) := by decide +kernel
theorem dX9_entry_1 : decode cX9_entry 1 = .ok (.getfield 32, 3) := by decide +kernel
theorem dX9_entry_4 : decode cX9_entry 4 = .ok (.iload_n 1, 1) := by decide +kernel
theorem dX9_entry_5 : decode cX9_entry 5 = .ok (.invokevirtual 130, 3) := by decide +kernel
theorem dX9_entry_8 : decode cX9_entry 8 = .ok (.ifCond .ne 13, 3) := by decide +kernel
theorem dX9_entry_11 : decode cX9_entry 11 = .ok (.new 134, 3) := by decide +kernel
theorem dX9_entry_14 : decode cX9_entry 14 = .ok (.dup, 1) := by decide +kernel
theorem dX9_entry_15 : decode cX9_entry 15 = .ok (.ldc 151, 2) := by decide +kernel
theorem dX9_entry_17 : decode cX9_entry 17 = .ok (.invokespecial 138, 3) := by decide +kernel
theorem dX9_entry_20 : decode cX9_entry 20 = .ok (.athrow, 1) := by decide +kernel
theorem dX9_entry_21 : decode cX9_entry 21 = .ok (.iload_n 2, 1) := by decide +kernel
theorem dX9_entry_22 : decode cX9_entry 22 = .ok (.tableswitch 88 0 6 #[42, 42, 42, 42, 52, 69, 79], 42) := by decide +kernel
theorem dX9_entry_64 : decode cX9_entry 64 = .ok (.aload_n 0, 1) := by decide +kernel
theorem dX9_entry_65 : decode cX9_entry 65 = .ok (.getfield 32, 3) := by decide +kernel
theorem dX9_entry_68 : decode cX9_entry 68 = .ok (.iload_n 1, 1) := by decide +kernel
theorem dX9_entry_69 : decode cX9_entry 69 = .ok (.iload_n 2, 1) := by decide +kernel
theorem dX9_entry_70 : decode cX9_entry 70 = .ok (.invokevirtual 141, 3) := by decide +kernel
theorem dX9_entry_73 : decode cX9_entry 73 = .ok (.ireturn, 1) := by decide +kernel
theorem dX9_entry_74 : decode cX9_entry 74 = .ok (.aload_n 0, 1) := by decide +kernel
theorem dX9_entry_75 : decode cX9_entry 75 = .ok (.getfield 32, 3) := by decide +kernel
theorem dX9_entry_78 : decode cX9_entry 78 = .ok (.iload_n 1, 1) := by decide +kernel
theorem dX9_entry_79 : decode cX9_entry 79 = .ok (.invokevirtual 153, 3) := by decide +kernel
theorem dX9_entry_82 : decode cX9_entry 82 = .ok (.ifCond .eq 7, 3) := by decide +kernel
theorem dX9_entry_85 : decode cX9_entry 85 = .ok (.iconst 1, 1) := by decide +kernel
theorem dX9_entry_86 : decode cX9_entry 86 = .ok (.goto 4, 3) := by decide +kernel
theorem dX9_entry_89 : decode cX9_entry 89 = .ok (.iconst 0, 1) := by decide +kernel
theorem dX9_entry_90 : decode cX9_entry 90 = .ok (.ireturn, 1) := by decide +kernel
theorem dX9_entry_91 : decode cX9_entry 91 = .ok (.aload_n 0, 1) := by decide +kernel
theorem dX9_entry_92 : decode cX9_entry 92 = .ok (.getfield 32, 3) := by decide +kernel
theorem dX9_entry_95 : decode cX9_entry 95 = .ok (.iload_n 1, 1) := by decide +kernel
theorem dX9_entry_96 : decode cX9_entry 96 = .ok (.iconst 4, 1) := by decide +kernel
theorem dX9_entry_97 : decode cX9_entry 97 = .ok (.invokevirtual 141, 3) := by decide +kernel
theorem dX9_entry_100 : decode cX9_entry 100 = .ok (.ireturn, 1) := by decide +kernel
theorem dX9_entry_101 : decode cX9_entry 101 = .ok (.aload_n 0, 1) := by decide +kernel
theorem dX9_entry_102 : decode cX9_entry 102 = .ok (.getfield 32, 3) := by decide +kernel
theorem dX9_entry_105 : decode cX9_entry 105 = .ok (.iload_n 1, 1) := by decide +kernel
theorem dX9_entry_106 : decode cX9_entry 106 = .ok (.invokevirtual 156, 3) := by decide +kernel
theorem dX9_entry_109 : decode cX9_entry 109 = .ok (.ireturn, 1) := by decide +kernel
theorem dX9_entry_110 : decode cX9_entry 110 = .ok (.new 117, 3) := by decide +kernel
theorem dX9_entry_113 : decode cX9_entry 113 = .ok (.dup, 1) := by decide +kernel
theorem dX9_entry_114 : decode cX9_entry 114 = .ok (.ldc 139, 2) := by decide +kernel
theorem dX9_entry_116 : decode cX9_entry 116 = .ok (.invokespecial 121, 3) := by decide +kernel
theorem dX9_entry_119 : decode cX9_entry 119 = .ok (.athrow, 1) := by decide +kernel
theorem dX9_count_0 : decode cX9_count 0 = .ok (.iload_n 1, 1) := by decide +kernel
theorem dX9_count_1 : decode cX9_count 1 = .ok (.tableswitch 75 0 4 #[35, 43, 51, 59, 67], 35) := by decide +kernel
theorem dX9_count_36 : decode cX9_count 36 = .ok (.aload_n 0, 1) := by decide +kernel
theorem dX9_count_37 : decode cX9_count 37 = .ok (.getfield 32, 3) := by decide +kernel
theorem dX9_count_40 : decode cX9_count 40 = .ok (.invokevirtual 160, 3) := by decide +kernel
theorem dX9_count_43 : decode cX9_count 43 = .ok (.ireturn, 1) := by decide +kernel
theorem dX9_count_44 : decode cX9_count 44 = .ok (.aload_n 0, 1) := by decide +kernel
theorem dX9_count_45 : decode cX9_count 45 = .ok (.getfield 32, 3) := by decide +kernel
theorem dX9_count_48 : decode cX9_count 48 = .ok (.invokevirtual 164, 3) := by decide +kernel
theorem dX9_count_51 : decode cX9_count 51 = .ok (.ireturn, 1) := by decide +kernel
theorem dX9_count_52 : decode cX9_count 52 = .ok (.aload_n 0, 1) := by decide +kernel
theorem dX9_count_53 : decode cX9_count 53 = .ok (.getfield 32, 3) := by decide +kernel
theorem dX9_count_56 : decode cX9_count 56 = .ok (.invokevirtual 167, 3) := by decide +kernel
theorem dX9_count_59 : decode cX9_count 59 = .ok (.ireturn, 1) := by decide +kernel
theorem dX9_count_60 : decode cX9_count 60 = .ok (.aload_n 0, 1) := by decide +kernel
theorem dX9_count_61 : decode cX9_count 61 = .ok (.getfield 32, 3) := by decide +kernel
theorem dX9_count_64 : decode cX9_count 64 = .ok (.invokevirtual 170, 3) := by decide +kernel
theorem dX9_count_67 : decode cX9_count 67 = .ok (.ireturn, 1) := by decide +kernel
theorem dX9_count_68 : decode cX9_count 68 = .ok (.aload_n 0, 1) := by decide +kernel
theorem dX9_count_69 : decode cX9_count 69 = .ok (.getfield 40, 3) := by decide +kernel
theorem dX9_count_72 : decode cX9_count 72 = .ok (.invokevirtual 173, 3) := by decide +kernel
theorem dX9_count_75 : decode cX9_count 75 = .ok (.ireturn, 1) := by decide +kernel
theorem dX9_count_76 : decode cX9_count 76 = .ok (.new 117, 3) := by decide +kernel
theorem dX9_count_79 : decode cX9_count 79 = .ok (.dup, 1) := by decide +kernel
theorem dX9_count_80 : decode cX9_count 80 = .ok (.ldc 176, 2) := by decide +kernel
theorem dX9_count_82 : decode cX9_count 82 = .ok (.invokespecial 121, 3) := by decide +kernel
theorem dX9_count_85 : decode cX9_count 85 = .ok (.athrow, 1) := by decide +kernel
theorem dX9_live_0 : decode cX9_live 0 = .ok (.iload_n 1, 1) := by decide +kernel
theorem dX9_live_1 : decode cX9_live 1 = .ok (.ifCond .lt 14, 3) := by decide +kernel
theorem dX9_live_4 : decode cX9_live 4 = .ok (.iload_n 1, 1) := by decide +kernel
theorem dX9_live_5 : decode cX9_live 5 = .ok (.aload_n 0, 1) := by decide +kernel
theorem dX9_live_6 : decode cX9_live 6 = .ok (.getfield 32, 3) := by decide +kernel
theorem dX9_live_9 : decode cX9_live 9 = .ok (.getfield 122, 3) := by decide +kernel
theorem dX9_live_12 : decode cX9_live 12 = .ok (.if_icmp .le 13, 3) := by decide +kernel
theorem dX9_live_15 : decode cX9_live 15 = .ok (.new 134, 3) := by decide +kernel
theorem dX9_live_18 : decode cX9_live 18 = .ok (.dup, 1) := by decide +kernel
theorem dX9_live_19 : decode cX9_live 19 = .ok (.ldc 151, 2) := by decide +kernel
theorem dX9_live_21 : decode cX9_live 21 = .ok (.invokespecial 138, 3) := by decide +kernel
theorem dX9_live_24 : decode cX9_live 24 = .ok (.athrow, 1) := by decide +kernel
theorem dX9_live_25 : decode cX9_live 25 = .ok (.aload_n 0, 1) := by decide +kernel
theorem dX9_live_26 : decode cX9_live 26 = .ok (.getfield 32, 3) := by decide +kernel
theorem dX9_live_29 : decode cX9_live 29 = .ok (.iload_n 1, 1) := by decide +kernel
theorem dX9_live_30 : decode cX9_live 30 = .ok (.invokevirtual 153, 3) := by decide +kernel
theorem dX9_live_33 : decode cX9_live 33 = .ok (.ifCond .eq 13, 3) := by decide +kernel
theorem dX9_live_36 : decode cX9_live 36 = .ok (.new 93, 3) := by decide +kernel
theorem dX9_live_39 : decode cX9_live 39 = .ok (.dup, 1) := by decide +kernel
theorem dX9_live_40 : decode cX9_live 40 = .ok (.ldc 178, 2) := by decide +kernel
theorem dX9_live_42 : decode cX9_live 42 = .ok (.invokespecial 97, 3) := by decide +kernel
theorem dX9_live_45 : decode cX9_live 45 = .ok (.athrow, 1) := by decide +kernel
theorem dX9_live_46 : decode cX9_live 46 = .ok (.aload_n 0, 1) := by decide +kernel
theorem dX9_live_47 : decode cX9_live 47 = .ok (.getfield 40, 3) := by decide +kernel
theorem dX9_live_50 : decode cX9_live 50 = .ok (.iload_n 1, 1) := by decide +kernel
theorem dX9_live_51 : decode cX9_live 51 = .ok (.invokevirtual 180, 3) := by decide +kernel
theorem dX9_live_54 : decode cX9_live 54 = .ok (.ireturn, 1) := by decide +kernel
theorem dX9_isIndependent_0 : decode cX9_isIndependent 0 = .ok (.aload_n 0, 1) := by decide +kernel
theorem dX9_isIndependent_1 : decode cX9_isIndependent 1 = .ok (.getfield 32, 3) := by decide +kernel
theorem dX9_isIndependent_4 : decode cX9_isIndependent 4 = .ok (.iload_n 1, 1) := by decide +kernel
theorem dX9_isIndependent_5 : decode cX9_isIndependent 5 = .ok (.invokevirtual 130, 3) := by decide +kernel
theorem dX9_isIndependent_8 : decode cX9_isIndependent 8 = .ok (.ifCond .eq 14, 3) := by decide +kernel
theorem dX9_isIndependent_11 : decode cX9_isIndependent 11 = .ok (.aload_n 0, 1) := by decide +kernel
theorem dX9_isIndependent_12 : decode cX9_isIndependent 12 = .ok (.getfield 32, 3) := by decide +kernel
theorem dX9_isIndependent_15 : decode cX9_isIndependent 15 = .ok (.iload_n 2, 1) := by decide +kernel
theorem dX9_isIndependent_16 : decode cX9_isIndependent 16 = .ok (.invokevirtual 130, 3) := by decide +kernel
theorem dX9_isIndependent_19 : decode cX9_isIndependent 19 = .ok (.ifCond .ne 13, 3) := by decide +kernel
theorem dX9_isIndependent_22 : decode cX9_isIndependent 22 = .ok (.new 134, 3) := by decide +kernel
theorem dX9_isIndependent_25 : decode cX9_isIndependent 25 = .ok (.dup, 1) := by decide +kernel
theorem dX9_isIndependent_26 : decode cX9_isIndependent 26 = .ok (.ldc 151, 2) := by decide +kernel
theorem dX9_isIndependent_28 : decode cX9_isIndependent 28 = .ok (.invokespecial 138, 3) := by decide +kernel
theorem dX9_isIndependent_31 : decode cX9_isIndependent 31 = .ok (.athrow, 1) := by decide +kernel
theorem dX9_isIndependent_32 : decode cX9_isIndependent 32 = .ok (.aload_n 0, 1) := by decide +kernel
theorem dX9_isIndependent_33 : decode cX9_isIndependent 33 = .ok (.getfield 32, 3) := by decide +kernel
theorem dX9_isIndependent_36 : decode cX9_isIndependent 36 = .ok (.iload_n 1, 1) := by decide +kernel
theorem dX9_isIndependent_37 : decode cX9_isIndependent 37 = .ok (.iload_n 2, 1) := by decide +kernel
theorem dX9_isIndependent_38 : decode cX9_isIndependent 38 = .ok (.invokevirtual 183, 3) := by decide +kernel
theorem dX9_isIndependent_41 : decode cX9_isIndependent 41 = .ok (.ireturn, 1) := by decide +kernel
theorem dX9_candidate_0 : decode cX9_candidate 0 = .ok (.aload_n 0, 1) := by decide +kernel
theorem dX9_candidate_1 : decode cX9_candidate 1 = .ok (.getfield 32, 3) := by decide +kernel
theorem dX9_candidate_4 : decode cX9_candidate 4 = .ok (.iload_n 1, 1) := by decide +kernel
theorem dX9_candidate_5 : decode cX9_candidate 5 = .ok (.invokevirtual 130, 3) := by decide +kernel
theorem dX9_candidate_8 : decode cX9_candidate 8 = .ok (.ifCond .ne 13, 3) := by decide +kernel
theorem dX9_candidate_11 : decode cX9_candidate 11 = .ok (.new 134, 3) := by decide +kernel
theorem dX9_candidate_14 : decode cX9_candidate 14 = .ok (.dup, 1) := by decide +kernel
theorem dX9_candidate_15 : decode cX9_candidate 15 = .ok (.ldc 151, 2) := by decide +kernel
theorem dX9_candidate_17 : decode cX9_candidate 17 = .ok (.invokespecial 138, 3) := by decide +kernel
theorem dX9_candidate_20 : decode cX9_candidate 20 = .ok (.athrow, 1) := by decide +kernel
theorem dX9_candidate_21 : decode cX9_candidate 21 = .ok (.iload_n 2, 1) := by decide +kernel
theorem dX9_candidate_22 : decode cX9_candidate 22 = .ok (.invokestatic 187, 3) := by decide +kernel
theorem dX9_candidate_25 : decode cX9_candidate 25 = .ok (.ifCond .ne 13, 3) := by decide +kernel
theorem dX9_candidate_28 : decode cX9_candidate 28 = .ok (.new 117, 3) := by decide +kernel
theorem dX9_candidate_31 : decode cX9_candidate 31 = .ok (.dup, 1) := by decide +kernel
theorem dX9_candidate_32 : decode cX9_candidate 32 = .ok (.ldc 190, 2) := by decide +kernel
theorem dX9_candidate_34 : decode cX9_candidate 34 = .ok (.invokespecial 121, 3) := by decide +kernel
theorem dX9_candidate_37 : decode cX9_candidate 37 = .ok (.athrow, 1) := by decide +kernel
theorem dX9_candidate_38 : decode cX9_candidate 38 = .ok (.aload_n 0, 1) := by decide +kernel
theorem dX9_candidate_39 : decode cX9_candidate 39 = .ok (.getfield 32, 3) := by decide +kernel
theorem dX9_candidate_42 : decode cX9_candidate 42 = .ok (.iload_n 1, 1) := by decide +kernel
theorem dX9_candidate_43 : decode cX9_candidate 43 = .ok (.invokevirtual 192, 3) := by decide +kernel
theorem dX9_candidate_46 : decode cX9_candidate 46 = .ok (.ifCond .ne 13, 3) := by decide +kernel
theorem dX9_candidate_49 : decode cX9_candidate 49 = .ok (.new 93, 3) := by decide +kernel
theorem dX9_candidate_52 : decode cX9_candidate 52 = .ok (.dup, 1) := by decide +kernel
theorem dX9_candidate_53 : decode cX9_candidate 53 = .ok (.ldc 195, 2) := by decide +kernel
theorem dX9_candidate_55 : decode cX9_candidate 55 = .ok (.invokespecial 97, 3) := by decide +kernel
theorem dX9_candidate_58 : decode cX9_candidate 58 = .ok (.athrow, 1) := by decide +kernel
theorem dX9_candidate_59 : decode cX9_candidate 59 = .ok (.aload_n 0, 1) := by decide +kernel
theorem dX9_candidate_60 : decode cX9_candidate 60 = .ok (.getfield 49, 3) := by decide +kernel
theorem dX9_candidate_63 : decode cX9_candidate 63 = .ok (.iload_n 1, 1) := by decide +kernel
theorem dX9_candidate_64 : decode cX9_candidate 64 = .ok (.iload_n 2, 1) := by decide +kernel
theorem dX9_candidate_65 : decode cX9_candidate 65 = .ok (.invokevirtual 197, 3) := by decide +kernel
theorem dX9_candidate_68 : decode cX9_candidate 68 = .ok (.istore_n 3, 1) := by decide +kernel
theorem dX9_candidate_69 : decode cX9_candidate 69 = .ok (.iload_n 3, 1) := by decide +kernel
theorem dX9_candidate_70 : decode cX9_candidate 70 = .ok (.iconst (-1), 1) := by decide +kernel
theorem dX9_candidate_71 : decode cX9_candidate 71 = .ok (.if_icmp .ne 13, 3) := by decide +kernel
theorem dX9_candidate_74 : decode cX9_candidate 74 = .ok (.new 200, 3) := by decide +kernel
theorem dX9_candidate_77 : decode cX9_candidate 77 = .ok (.dup, 1) := by decide +kernel
theorem dX9_candidate_78 : decode cX9_candidate 78 = .ok (.ldc 202, 2) := by decide +kernel
theorem dX9_candidate_80 : decode cX9_candidate 80 = .ok (.invokespecial 204, 3) := by decide +kernel
theorem dX9_candidate_83 : decode cX9_candidate 83 = .ok (.athrow, 1) := by decide +kernel
theorem dX9_candidate_84 : decode cX9_candidate 84 = .ok (.iload_n 3, 1) := by decide +kernel
theorem dX9_candidate_85 : decode cX9_candidate 85 = .ok (.ireturn, 1) := by decide +kernel
theorem dX9_fill_0 : decode cX9_fill 0 = .ok (.aload_n 0, 1) := by decide +kernel
theorem dX9_fill_1 : decode cX9_fill 1 = .ok (.iload_n 1, 1) := by decide +kernel
theorem dX9_fill_2 : decode cX9_fill 2 = .ok (.iload_n 2, 1) := by decide +kernel
theorem dX9_fill_3 : decode cX9_fill 3 = .ok (.invokevirtual 205, 3) := by decide +kernel
theorem dX9_fill_6 : decode cX9_fill 6 = .ok (.istore_n 3, 1) := by decide +kernel
theorem dX9_fill_7 : decode cX9_fill 7 = .ok (.aload_n 0, 1) := by decide +kernel
theorem dX9_fill_8 : decode cX9_fill 8 = .ok (.getfield 56, 3) := by decide +kernel
theorem dX9_fill_11 : decode cX9_fill 11 = .ok (.aload_n 0, 1) := by decide +kernel
theorem dX9_fill_12 : decode cX9_fill 12 = .ok (.getfield 32, 3) := by decide +kernel
theorem dX9_fill_15 : decode cX9_fill 15 = .ok (.invokevirtual 145, 3) := by decide +kernel
theorem dX9_fill_18 : decode cX9_fill 18 = .ok (.aload_n 0, 1) := by decide +kernel
theorem dX9_fill_19 : decode cX9_fill 19 = .ok (.getfield 49, 3) := by decide +kernel
theorem dX9_fill_22 : decode cX9_fill 22 = .ok (.iload_n 3, 1) := by decide +kernel
theorem dX9_fill_23 : decode cX9_fill 23 = .ok (.iload_n 1, 1) := by decide +kernel
theorem dX9_fill_24 : decode cX9_fill 24 = .ok (.iload_n 2, 1) := by decide +kernel
theorem dX9_fill_25 : decode cX9_fill 25 = .ok (.invokevirtual 208, 3) := by decide +kernel
theorem dX9_fill_28 : decode cX9_fill 28 = .ok (.ireturn, 1) := by decide +kernel
theorem dX9_fillAll_0 : decode cX9_fillAll 0 = .ok (.iload_n 1, 1) := by decide +kernel
theorem dX9_fillAll_1 : decode cX9_fillAll 1 = .ok (.invokestatic 187, 3) := by decide +kernel
theorem dX9_fillAll_4 : decode cX9_fillAll 4 = .ok (.ifCond .eq 15, 3) := by decide +kernel
theorem dX9_fillAll_7 : decode cX9_fillAll 7 = .ok (.iload_n 2, 1) := by decide +kernel
theorem dX9_fillAll_8 : decode cX9_fillAll 8 = .ok (.invokestatic 187, 3) := by decide +kernel
theorem dX9_fillAll_11 : decode cX9_fillAll 11 = .ok (.ifCond .eq 8, 3) := by decide +kernel
theorem dX9_fillAll_14 : decode cX9_fillAll 14 = .ok (.iload_n 1, 1) := by decide +kernel
theorem dX9_fillAll_15 : decode cX9_fillAll 15 = .ok (.iload_n 2, 1) := by decide +kernel
theorem dX9_fillAll_16 : decode cX9_fillAll 16 = .ok (.if_icmp .ne 13, 3) := by decide +kernel
theorem dX9_fillAll_19 : decode cX9_fillAll 19 = .ok (.new 117, 3) := by decide +kernel
theorem dX9_fillAll_22 : decode cX9_fillAll 22 = .ok (.dup, 1) := by decide +kernel
theorem dX9_fillAll_23 : decode cX9_fillAll 23 = .ok (.ldc 212, 2) := by decide +kernel
theorem dX9_fillAll_25 : decode cX9_fillAll 25 = .ok (.invokespecial 121, 3) := by decide +kernel
theorem dX9_fillAll_28 : decode cX9_fillAll 28 = .ok (.athrow, 1) := by decide +kernel
theorem dX9_fillAll_29 : decode cX9_fillAll 29 = .ok (.aload_n 0, 1) := by decide +kernel
theorem dX9_fillAll_30 : decode cX9_fillAll 30 = .ok (.getfield 56, 3) := by decide +kernel
theorem dX9_fillAll_33 : decode cX9_fillAll 33 = .ok (.aload_n 0, 1) := by decide +kernel
theorem dX9_fillAll_34 : decode cX9_fillAll 34 = .ok (.getfield 32, 3) := by decide +kernel
theorem dX9_fillAll_37 : decode cX9_fillAll 37 = .ok (.invokevirtual 145, 3) := by decide +kernel
theorem dX9_fillAll_40 : decode cX9_fillAll 40 = .ok (.aload_n 0, 1) := by decide +kernel
theorem dX9_fillAll_41 : decode cX9_fillAll 41 = .ok (.getfield 49, 3) := by decide +kernel
theorem dX9_fillAll_44 : decode cX9_fillAll 44 = .ok (.iload_n 1, 1) := by decide +kernel
theorem dX9_fillAll_45 : decode cX9_fillAll 45 = .ok (.iload_n 2, 1) := by decide +kernel
theorem dX9_fillAll_46 : decode cX9_fillAll 46 = .ok (.invokevirtual 214, 3) := by decide +kernel
theorem dX9_fillAll_49 : decode cX9_fillAll 49 = .ok (.ireturn, 1) := by decide +kernel
theorem dX9_undo_0 : decode cX9_undo 0 = .ok (.aload_n 0, 1) := by decide +kernel
theorem dX9_undo_1 : decode cX9_undo 1 = .ok (.getfield 56, 3) := by decide +kernel
theorem dX9_undo_4 : decode cX9_undo 4 = .ok (.getfield 217, 3) := by decide +kernel
theorem dX9_undo_7 : decode cX9_undo 7 = .ok (.ifCond .ne 13, 3) := by decide +kernel
theorem dX9_undo_10 : decode cX9_undo 10 = .ok (.new 93, 3) := by decide +kernel
theorem dX9_undo_13 : decode cX9_undo 13 = .ok (.dup, 1) := by decide +kernel
theorem dX9_undo_14 : decode cX9_undo 14 = .ok (.ldc 220, 2) := by decide +kernel
theorem dX9_undo_16 : decode cX9_undo 16 = .ok (.invokespecial 97, 3) := by decide +kernel
theorem dX9_undo_19 : decode cX9_undo 19 = .ok (.athrow, 1) := by decide +kernel
theorem dX9_undo_20 : decode cX9_undo 20 = .ok (.aload_n 0, 1) := by decide +kernel
theorem dX9_undo_21 : decode cX9_undo 21 = .ok (.getfield 56, 3) := by decide +kernel
theorem dX9_undo_24 : decode cX9_undo 24 = .ok (.aload_n 0, 1) := by decide +kernel
theorem dX9_undo_25 : decode cX9_undo 25 = .ok (.getfield 32, 3) := by decide +kernel
theorem dX9_undo_28 : decode cX9_undo 28 = .ok (.invokevirtual 222, 3) := by decide +kernel
theorem dX9_undo_31 : decode cX9_undo 31 = .ok (.aload_n 0, 1) := by decide +kernel
theorem dX9_undo_32 : decode cX9_undo 32 = .ok (.getfield 56, 3) := by decide +kernel
theorem dX9_undo_35 : decode cX9_undo 35 = .ok (.getfield 217, 3) := by decide +kernel
theorem dX9_undo_38 : decode cX9_undo 38 = .ok (.ireturn, 1) := by decide +kernel
theorem dX9_write_0 : decode cX9_write 0 = .ok (.aload_n 0, 1) := by decide +kernel
theorem dX9_write_1 : decode cX9_write 1 = .ok (.getfield 19, 3) := by decide +kernel
theorem dX9_write_4 : decode cX9_write 4 = .ok (.aload_n 0, 1) := by decide +kernel
theorem dX9_write_5 : decode cX9_write 5 = .ok (.getfield 32, 3) := by decide +kernel
theorem dX9_write_8 : decode cX9_write 8 = .ok (.invokevirtual 225, 3) := by decide +kernel
theorem dX9_write_11 : decode cX9_write 11 = .ok (.ireturn, 1) := by decide +kernel
theorem dX9_text_0 : decode cX9_text 0 = .ok (.iload_n 1, 1) := by decide +kernel
theorem dX9_text_1 : decode cX9_text 1 = .ok (.ifCond .lt 14, 3) := by decide +kernel
theorem dX9_text_4 : decode cX9_text 4 = .ok (.iload_n 1, 1) := by decide +kernel
theorem dX9_text_5 : decode cX9_text 5 = .ok (.aload_n 0, 1) := by decide +kernel
theorem dX9_text_6 : decode cX9_text 6 = .ok (.getfield 19, 3) := by decide +kernel
theorem dX9_text_9 : decode cX9_text 9 = .ok (.getfield 229, 3) := by decide +kernel
theorem dX9_text_12 : decode cX9_text 12 = .ok (.if_icmp .lt 13, 3) := by decide +kernel
theorem dX9_text_15 : decode cX9_text 15 = .ok (.new 134, 3) := by decide +kernel
theorem dX9_text_18 : decode cX9_text 18 = .ok (.dup, 1) := by decide +kernel
theorem dX9_text_19 : decode cX9_text 19 = .ok (.ldc 230, 2) := by decide +kernel
theorem dX9_text_21 : decode cX9_text 21 = .ok (.invokespecial 138, 3) := by decide +kernel
theorem dX9_text_24 : decode cX9_text 24 = .ok (.athrow, 1) := by decide +kernel
theorem dX9_text_25 : decode cX9_text 25 = .ok (.aload_n 0, 1) := by decide +kernel
theorem dX9_text_26 : decode cX9_text 26 = .ok (.getfield 19, 3) := by decide +kernel
theorem dX9_text_29 : decode cX9_text 29 = .ok (.getfield 232, 3) := by decide +kernel
theorem dX9_text_32 : decode cX9_text 32 = .ok (.iload_n 1, 1) := by decide +kernel
theorem dX9_text_33 : decode cX9_text 33 = .ok (.caload, 1) := by decide +kernel
theorem dX9_text_34 : decode cX9_text 34 = .ok (.ireturn, 1) := by decide +kernel
theorem dX9_isWay_0 : decode cX9_isWay 0 = .ok (.iload_n 0, 1) := by decide +kernel
theorem dX9_isWay_1 : decode cX9_isWay 1 = .ok (.ifCond .lt 12, 3) := by decide +kernel
theorem dX9_isWay_4 : decode cX9_isWay 4 = .ok (.iload_n 0, 1) := by decide +kernel
theorem dX9_isWay_5 : decode cX9_isWay 5 = .ok (.iconst 3, 1) := by decide +kernel
theorem dX9_isWay_6 : decode cX9_isWay 6 = .ok (.if_icmp .ge 7, 3) := by decide +kernel
theorem dX9_isWay_9 : decode cX9_isWay 9 = .ok (.iconst 1, 1) := by decide +kernel
theorem dX9_isWay_10 : decode cX9_isWay 10 = .ok (.goto 4, 3) := by decide +kernel
theorem dX9_isWay_13 : decode cX9_isWay 13 = .ok (.iconst 0, 1) := by decide +kernel
theorem dX9_isWay_14 : decode cX9_isWay 14 = .ok (.ireturn, 1) := by decide +kernel
theorem dX9_setInitial_0 : decode cX9_setInitial 0 = .ok (.iload_n 1, 1) := by decide +kernel
theorem dX9_setInitial_1 : decode cX9_setInitial 1 = .ok (.iload_n 2, 1) := by decide +kernel
theorem dX9_setInitial_2 : decode cX9_setInitial 2 = .ok (.invokestatic 236, 3) := by decide +kernel
theorem dX9_setInitial_5 : decode cX9_setInitial 5 = .ok (.istore 4, 2) := by decide +kernel
theorem dX9_setInitial_7 : decode cX9_setInitial 7 = .ok (.iload 4, 2) := by decide +kernel
theorem dX9_setInitial_9 : decode cX9_setInitial 9 = .ok (.iconst (-1), 1) := by decide +kernel
theorem dX9_setInitial_10 : decode cX9_setInitial 10 = .ok (.if_icmp .ne 13, 3) := by decide +kernel
theorem dX9_setInitial_13 : decode cX9_setInitial 13 = .ok (.new 134, 3) := by decide +kernel
theorem dX9_setInitial_16 : decode cX9_setInitial 16 = .ok (.dup, 1) := by decide +kernel
theorem dX9_setInitial_17 : decode cX9_setInitial 17 = .ok (.ldc 240, 2) := by decide +kernel
theorem dX9_setInitial_19 : decode cX9_setInitial 19 = .ok (.invokespecial 138, 3) := by decide +kernel
theorem dX9_setInitial_22 : decode cX9_setInitial 22 = .ok (.athrow, 1) := by decide +kernel
theorem dX9_setInitial_23 : decode cX9_setInitial 23 = .ok (.aload_n 0, 1) := by decide +kernel
theorem dX9_setInitial_24 : decode cX9_setInitial 24 = .ok (.getfield 60, 3) := by decide +kernel
theorem dX9_setInitial_27 : decode cX9_setInitial 27 = .ok (.iload 4, 2) := by decide +kernel
theorem dX9_setInitial_29 : decode cX9_setInitial 29 = .ok (.iaload, 1) := by decide +kernel
theorem dX9_setInitial_30 : decode cX9_setInitial 30 = .ok (.istore 5, 2) := by decide +kernel
theorem dX9_setInitial_32 : decode cX9_setInitial 32 = .ok (.aload_n 0, 1) := by decide +kernel
theorem dX9_setInitial_33 : decode cX9_setInitial 33 = .ok (.getfield 60, 3) := by decide +kernel
theorem dX9_setInitial_36 : decode cX9_setInitial 36 = .ok (.iload 4, 2) := by decide +kernel
theorem dX9_setInitial_38 : decode cX9_setInitial 38 = .ok (.iload_n 3, 1) := by decide +kernel
theorem dX9_setInitial_39 : decode cX9_setInitial 39 = .ok (.iastore, 1) := by decide +kernel
theorem dX9_setInitial_40 : decode cX9_setInitial 40 = .ok (.iload 5, 2) := by decide +kernel
theorem dX9_setInitial_42 : decode cX9_setInitial 42 = .ok (.ireturn, 1) := by decide +kernel
theorem dX9_run_0 : decode cX9_run 0 = .ok (.iload_n 2, 1) := by decide +kernel
theorem dX9_run_1 : decode cX9_run 1 = .ok (.iconst 1, 1) := by decide +kernel
theorem dX9_run_2 : decode cX9_run 2 = .ok (.if_icmp .lt 10, 3) := by decide +kernel
theorem dX9_run_5 : decode cX9_run 5 = .ok (.iload_n 2, 1) := by decide +kernel
theorem dX9_run_6 : decode cX9_run 6 = .ok (.sipush 2000, 3) := by decide +kernel
theorem dX9_run_9 : decode cX9_run 9 = .ok (.if_icmp .le 13, 3) := by decide +kernel
theorem dX9_run_12 : decode cX9_run 12 = .ok (.new 117, 3) := by decide +kernel
theorem dX9_run_15 : decode cX9_run 15 = .ok (.dup, 1) := by decide +kernel
theorem dX9_run_16 : decode cX9_run 16 = .ok (.ldc 242, 2) := by decide +kernel
theorem dX9_run_18 : decode cX9_run 18 = .ok (.invokespecial 121, 3) := by decide +kernel
theorem dX9_run_21 : decode cX9_run 21 = .ok (.athrow, 1) := by decide +kernel
theorem dX9_run_22 : decode cX9_run 22 = .ok (.aload_n 0, 1) := by decide +kernel
theorem dX9_run_23 : decode cX9_run 23 = .ok (.getfield 74, 3) := by decide +kernel
theorem dX9_run_26 : decode cX9_run 26 = .ok (.iload_n 1, 1) := by decide +kernel
theorem dX9_run_27 : decode cX9_run 27 = .ok (.ifCond .eq 10, 3) := by decide +kernel
theorem dX9_run_30 : decode cX9_run 30 = .ok (.aload_n 0, 1) := by decide +kernel
theorem dX9_run_31 : decode cX9_run 31 = .ok (.getfield 32, 3) := by decide +kernel
theorem dX9_run_34 : decode cX9_run 34 = .ok (.goto 7, 3) := by decide +kernel
theorem dX9_run_37 : decode cX9_run 37 = .ok (.aload_n 0, 1) := by decide +kernel
theorem dX9_run_38 : decode cX9_run 38 = .ok (.getfield 28, 3) := by decide +kernel
theorem dX9_run_41 : decode cX9_run 41 = .ok (.iload_n 1, 1) := by decide +kernel
theorem dX9_run_42 : decode cX9_run 42 = .ok (.aload_n 0, 1) := by decide +kernel
theorem dX9_run_43 : decode cX9_run 43 = .ok (.getfield 60, 3) := by decide +kernel
theorem dX9_run_46 : decode cX9_run 46 = .ok (.iload_n 2, 1) := by decide +kernel
theorem dX9_run_47 : decode cX9_run 47 = .ok (.invokevirtual 244, 3) := by decide +kernel
theorem dX9_run_50 : decode cX9_run 50 = .ok (.ifCond .ne 13, 3) := by decide +kernel
theorem dX9_run_53 : decode cX9_run 53 = .ok (.new 248, 3) := by decide +kernel
theorem dX9_run_56 : decode cX9_run 56 = .ok (.dup, 1) := by decide +kernel
theorem dX9_run_57 : decode cX9_run 57 = .ok (.ldc 250, 2) := by decide +kernel
theorem dX9_run_59 : decode cX9_run 59 = .ok (.invokespecial 252, 3) := by decide +kernel
theorem dX9_run_62 : decode cX9_run 62 = .ok (.athrow, 1) := by decide +kernel
theorem dX9_run_63 : decode cX9_run 63 = .ok (.aload_n 0, 1) := by decide +kernel
theorem dX9_run_64 : decode cX9_run 64 = .ok (.getfield 70, 3) := by decide +kernel
theorem dX9_run_67 : decode cX9_run 67 = .ok (.astore_n 3, 1) := by decide +kernel
theorem dX9_run_68 : decode cX9_run 68 = .ok (.aload_n 0, 1) := by decide +kernel
theorem dX9_run_69 : decode cX9_run 69 = .ok (.aload_n 0, 1) := by decide +kernel
theorem dX9_run_70 : decode cX9_run 70 = .ok (.getfield 74, 3) := by decide +kernel
theorem dX9_run_73 : decode cX9_run 73 = .ok (.putfield 70, 3) := by decide +kernel
theorem dX9_run_76 : decode cX9_run 76 = .ok (.aload_n 0, 1) := by decide +kernel
theorem dX9_run_77 : decode cX9_run 77 = .ok (.aload_n 3, 1) := by decide +kernel
theorem dX9_run_78 : decode cX9_run 78 = .ok (.putfield 74, 3) := by decide +kernel
theorem dX9_run_81 : decode cX9_run 81 = .ok (.aload_n 0, 1) := by decide +kernel
theorem dX9_run_82 : decode cX9_run 82 = .ok (.iconst 1, 1) := by decide +kernel
theorem dX9_run_83 : decode cX9_run 83 = .ok (.putfield 253, 3) := by decide +kernel
theorem dX9_run_86 : decode cX9_run 86 = .ok (.aload_n 0, 1) := by decide +kernel
theorem dX9_run_87 : decode cX9_run 87 = .ok (.getfield 70, 3) := by decide +kernel
theorem dX9_run_90 : decode cX9_run 90 = .ok (.getfield 257, 3) := by decide +kernel
theorem dX9_run_93 : decode cX9_run 93 = .ok (.ireturn, 1) := by decide +kernel
theorem dX9_finalValue_0 : decode cX9_finalValue 0 = .ok (.aload_n 0, 1) := by decide +kernel
theorem dX9_finalValue_1 : decode cX9_finalValue 1 = .ok (.invokevirtual 260, 3) := by decide +kernel
theorem dX9_finalValue_4 : decode cX9_finalValue 4 = .ok (.iload_n 1, 1) := by decide +kernel
theorem dX9_finalValue_5 : decode cX9_finalValue 5 = .ok (.iload_n 2, 1) := by decide +kernel
theorem dX9_finalValue_6 : decode cX9_finalValue 6 = .ok (.invokestatic 236, 3) := by decide +kernel
theorem dX9_finalValue_9 : decode cX9_finalValue 9 = .ok (.istore_n 3, 1) := by decide +kernel
theorem dX9_finalValue_10 : decode cX9_finalValue 10 = .ok (.iload_n 3, 1) := by decide +kernel
theorem dX9_finalValue_11 : decode cX9_finalValue 11 = .ok (.iconst (-1), 1) := by decide +kernel
theorem dX9_finalValue_12 : decode cX9_finalValue 12 = .ok (.if_icmp .ne 13, 3) := by decide +kernel
theorem dX9_finalValue_15 : decode cX9_finalValue 15 = .ok (.new 134, 3) := by decide +kernel
theorem dX9_finalValue_18 : decode cX9_finalValue 18 = .ok (.dup, 1) := by decide +kernel
theorem dX9_finalValue_19 : decode cX9_finalValue 19 = .ok (.ldc 240, 2) := by decide +kernel
theorem dX9_finalValue_21 : decode cX9_finalValue 21 = .ok (.invokespecial 138, 3) := by decide +kernel
theorem dX9_finalValue_24 : decode cX9_finalValue 24 = .ok (.athrow, 1) := by decide +kernel
theorem dX9_finalValue_25 : decode cX9_finalValue 25 = .ok (.aload_n 0, 1) := by decide +kernel
theorem dX9_finalValue_26 : decode cX9_finalValue 26 = .ok (.getfield 70, 3) := by decide +kernel
theorem dX9_finalValue_29 : decode cX9_finalValue 29 = .ok (.getfield 263, 3) := by decide +kernel
theorem dX9_finalValue_32 : decode cX9_finalValue 32 = .ok (.iload_n 3, 1) := by decide +kernel
theorem dX9_finalValue_33 : decode cX9_finalValue 33 = .ok (.iaload, 1) := by decide +kernel
theorem dX9_finalValue_34 : decode cX9_finalValue 34 = .ok (.ireturn, 1) := by decide +kernel
theorem dX9_outputs_0 : decode cX9_outputs 0 = .ok (.aload_n 0, 1) := by decide +kernel
theorem dX9_outputs_1 : decode cX9_outputs 1 = .ok (.invokevirtual 260, 3) := by decide +kernel
theorem dX9_outputs_4 : decode cX9_outputs 4 = .ok (.aload_n 0, 1) := by decide +kernel
theorem dX9_outputs_5 : decode cX9_outputs 5 = .ok (.getfield 70, 3) := by decide +kernel
theorem dX9_outputs_8 : decode cX9_outputs 8 = .ok (.getfield 266, 3) := by decide +kernel
theorem dX9_outputs_11 : decode cX9_outputs 11 = .ok (.ireturn, 1) := by decide +kernel
theorem dX9_output_0 : decode cX9_output 0 = .ok (.aload_n 0, 1) := by decide +kernel
theorem dX9_output_1 : decode cX9_output 1 = .ok (.invokevirtual 260, 3) := by decide +kernel
theorem dX9_output_4 : decode cX9_output 4 = .ok (.iload_n 1, 1) := by decide +kernel
theorem dX9_output_5 : decode cX9_output 5 = .ok (.ifCond .lt 14, 3) := by decide +kernel
theorem dX9_output_8 : decode cX9_output 8 = .ok (.iload_n 1, 1) := by decide +kernel
theorem dX9_output_9 : decode cX9_output 9 = .ok (.aload_n 0, 1) := by decide +kernel
theorem dX9_output_10 : decode cX9_output 10 = .ok (.getfield 70, 3) := by decide +kernel
theorem dX9_output_13 : decode cX9_output 13 = .ok (.getfield 266, 3) := by decide +kernel
theorem dX9_output_16 : decode cX9_output 16 = .ok (.if_icmp .lt 14, 3) := by decide +kernel
theorem dX9_output_19 : decode cX9_output 19 = .ok (.new 134, 3) := by decide +kernel
theorem dX9_output_22 : decode cX9_output 22 = .ok (.dup, 1) := by decide +kernel
theorem dX9_output_23 : decode cX9_output 23 = .ok (.ldc_w 269, 3) := by decide +kernel
theorem dX9_output_26 : decode cX9_output 26 = .ok (.invokespecial 138, 3) := by decide +kernel
theorem dX9_output_29 : decode cX9_output 29 = .ok (.athrow, 1) := by decide +kernel
theorem dX9_output_30 : decode cX9_output 30 = .ok (.aload_n 0, 1) := by decide +kernel
theorem dX9_output_31 : decode cX9_output 31 = .ok (.getfield 70, 3) := by decide +kernel
theorem dX9_output_34 : decode cX9_output 34 = .ok (.getfield 271, 3) := by decide +kernel
theorem dX9_output_37 : decode cX9_output 37 = .ok (.iload_n 1, 1) := by decide +kernel
theorem dX9_output_38 : decode cX9_output 38 = .ok (.iaload, 1) := by decide +kernel
theorem dX9_output_39 : decode cX9_output 39 = .ok (.ireturn, 1) := by decide +kernel
theorem dX9_differences_0 : decode cX9_differences 0 = .ok (.iload_n 2, 1) := by decide +kernel
theorem dX9_differences_1 : decode cX9_differences 1 = .ok (.invokestatic 274, 3) := by decide +kernel
theorem dX9_differences_4 : decode cX9_differences 4 = .ok (.iconst 0, 1) := by decide +kernel
theorem dX9_differences_5 : decode cX9_differences 5 = .ok (.istore_n 3, 1) := by decide +kernel
theorem dX9_differences_6 : decode cX9_differences 6 = .ok (.iload_n 1, 1) := by decide +kernel
theorem dX9_differences_7 : decode cX9_differences 7 = .ok (.istore 4, 2) := by decide +kernel
theorem dX9_differences_9 : decode cX9_differences 9 = .ok (.iconst 0, 1) := by decide +kernel
theorem dX9_differences_10 : decode cX9_differences 10 = .ok (.istore 5, 2) := by decide +kernel
theorem dX9_differences_12 : decode cX9_differences 12 = .ok (.iload 5, 2) := by decide +kernel
theorem dX9_differences_14 : decode cX9_differences 14 = .ok (.iload_n 2, 1) := by decide +kernel
theorem dX9_differences_15 : decode cX9_differences 15 = .ok (.if_icmp .ge 86, 3) := by decide +kernel
theorem dX9_differences_18 : decode cX9_differences 18 = .ok (.aload_n 0, 1) := by decide +kernel
theorem dX9_differences_19 : decode cX9_differences 19 = .ok (.iload 4, 2) := by decide +kernel
theorem dX9_differences_21 : decode cX9_differences 21 = .ok (.invokevirtual 277, 3) := by decide +kernel
theorem dX9_differences_24 : decode cX9_differences 24 = .ok (.istore 4, 2) := by decide +kernel
theorem dX9_differences_26 : decode cX9_differences 26 = .ok (.aload_n 0, 1) := by decide +kernel
theorem dX9_differences_27 : decode cX9_differences 27 = .ok (.getfield 74, 3) := by decide +kernel
theorem dX9_differences_30 : decode cX9_differences 30 = .ok (.aload_n 0, 1) := by decide +kernel
theorem dX9_differences_31 : decode cX9_differences 31 = .ok (.getfield 28, 3) := by decide +kernel
theorem dX9_differences_34 : decode cX9_differences 34 = .ok (.iconst 0, 1) := by decide +kernel
theorem dX9_differences_35 : decode cX9_differences 35 = .ok (.aload_n 0, 1) := by decide +kernel
theorem dX9_differences_36 : decode cX9_differences 36 = .ok (.getfield 64, 3) := by decide +kernel
theorem dX9_differences_39 : decode cX9_differences 39 = .ok (.sipush 300, 3) := by decide +kernel
theorem dX9_differences_42 : decode cX9_differences 42 = .ok (.invokevirtual 244, 3) := by decide +kernel
theorem dX9_differences_45 : decode cX9_differences 45 = .ok (.istore 6, 2) := by decide +kernel
theorem dX9_differences_47 : decode cX9_differences 47 = .ok (.aload_n 0, 1) := by decide +kernel
theorem dX9_differences_48 : decode cX9_differences 48 = .ok (.getfield 77, 3) := by decide +kernel
theorem dX9_differences_51 : decode cX9_differences 51 = .ok (.aload_n 0, 1) := by decide +kernel
theorem dX9_differences_52 : decode cX9_differences 52 = .ok (.getfield 32, 3) := by decide +kernel
theorem dX9_differences_55 : decode cX9_differences 55 = .ok (.iconst 1, 1) := by decide +kernel
theorem dX9_differences_56 : decode cX9_differences 56 = .ok (.aload_n 0, 1) := by decide +kernel
theorem dX9_differences_57 : decode cX9_differences 57 = .ok (.getfield 64, 3) := by decide +kernel
theorem dX9_differences_60 : decode cX9_differences 60 = .ok (.sipush 300, 3) := by decide +kernel
theorem dX9_differences_63 : decode cX9_differences 63 = .ok (.invokevirtual 244, 3) := by decide +kernel
theorem dX9_differences_66 : decode cX9_differences 66 = .ok (.istore 7, 2) := by decide +kernel
theorem dX9_differences_68 : decode cX9_differences 68 = .ok (.iload 6, 2) := by decide +kernel
theorem dX9_differences_70 : decode cX9_differences 70 = .ok (.ifCond .eq 25, 3) := by decide +kernel
theorem dX9_differences_73 : decode cX9_differences 73 = .ok (.iload 7, 2) := by decide +kernel
theorem dX9_differences_75 : decode cX9_differences 75 = .ok (.ifCond .eq 20, 3) := by decide +kernel
theorem dX9_differences_78 : decode cX9_differences 78 = .ok (.aload_n 0, 1) := by decide +kernel
theorem dX9_differences_79 : decode cX9_differences 79 = .ok (.getfield 74, 3) := by decide +kernel
theorem dX9_differences_82 : decode cX9_differences 82 = .ok (.aload_n 0, 1) := by decide +kernel
theorem dX9_differences_83 : decode cX9_differences 83 = .ok (.getfield 77, 3) := by decide +kernel
theorem dX9_differences_86 : decode cX9_differences 86 = .ok (.invokevirtual 280, 3) := by decide +kernel
theorem dX9_differences_89 : decode cX9_differences 89 = .ok (.ifCond .ne 6, 3) := by decide +kernel
theorem dX9_differences_92 : decode cX9_differences 92 = .ok (.iinc 3 1, 3) := by decide +kernel
theorem dX9_differences_95 : decode cX9_differences 95 = .ok (.iinc 5 1, 3) := by decide +kernel
theorem dX9_differences_98 : decode cX9_differences 98 = .ok (.goto (-86), 3) := by decide +kernel
theorem dX9_differences_101 : decode cX9_differences 101 = .ok (.iload_n 3, 1) := by decide +kernel
theorem dX9_differences_102 : decode cX9_differences 102 = .ok (.ireturn, 1) := by decide +kernel
theorem dX9_meanSteps_0 : decode cX9_meanSteps 0 = .ok (.iload_n 2, 1) := by decide +kernel
theorem dX9_meanSteps_1 : decode cX9_meanSteps 1 = .ok (.invokestatic 274, 3) := by decide +kernel
theorem dX9_meanSteps_4 : decode cX9_meanSteps 4 = .ok (.iconst 0, 1) := by decide +kernel
theorem dX9_meanSteps_5 : decode cX9_meanSteps 5 = .ok (.istore_n 3, 1) := by decide +kernel
theorem dX9_meanSteps_6 : decode cX9_meanSteps 6 = .ok (.iload_n 1, 1) := by decide +kernel
theorem dX9_meanSteps_7 : decode cX9_meanSteps 7 = .ok (.istore 4, 2) := by decide +kernel
theorem dX9_meanSteps_9 : decode cX9_meanSteps 9 = .ok (.iconst 0, 1) := by decide +kernel
theorem dX9_meanSteps_10 : decode cX9_meanSteps 10 = .ok (.istore 5, 2) := by decide +kernel
theorem dX9_meanSteps_12 : decode cX9_meanSteps 12 = .ok (.iload 5, 2) := by decide +kernel
theorem dX9_meanSteps_14 : decode cX9_meanSteps 14 = .ok (.iload_n 2, 1) := by decide +kernel
theorem dX9_meanSteps_15 : decode cX9_meanSteps 15 = .ok (.if_icmp .ge 47, 3) := by decide +kernel
theorem dX9_meanSteps_18 : decode cX9_meanSteps 18 = .ok (.aload_n 0, 1) := by decide +kernel
theorem dX9_meanSteps_19 : decode cX9_meanSteps 19 = .ok (.iload 4, 2) := by decide +kernel
theorem dX9_meanSteps_21 : decode cX9_meanSteps 21 = .ok (.invokevirtual 277, 3) := by decide +kernel
theorem dX9_meanSteps_24 : decode cX9_meanSteps 24 = .ok (.istore 4, 2) := by decide +kernel
theorem dX9_meanSteps_26 : decode cX9_meanSteps 26 = .ok (.aload_n 0, 1) := by decide +kernel
theorem dX9_meanSteps_27 : decode cX9_meanSteps 27 = .ok (.getfield 77, 3) := by decide +kernel
theorem dX9_meanSteps_30 : decode cX9_meanSteps 30 = .ok (.aload_n 0, 1) := by decide +kernel
theorem dX9_meanSteps_31 : decode cX9_meanSteps 31 = .ok (.getfield 32, 3) := by decide +kernel
theorem dX9_meanSteps_34 : decode cX9_meanSteps 34 = .ok (.iconst 1, 1) := by decide +kernel
theorem dX9_meanSteps_35 : decode cX9_meanSteps 35 = .ok (.aload_n 0, 1) := by decide +kernel
theorem dX9_meanSteps_36 : decode cX9_meanSteps 36 = .ok (.getfield 64, 3) := by decide +kernel
theorem dX9_meanSteps_39 : decode cX9_meanSteps 39 = .ok (.sipush 300, 3) := by decide +kernel
theorem dX9_meanSteps_42 : decode cX9_meanSteps 42 = .ok (.invokevirtual 244, 3) := by decide +kernel
theorem dX9_meanSteps_45 : decode cX9_meanSteps 45 = .ok (.pop, 1) := by decide +kernel
theorem dX9_meanSteps_46 : decode cX9_meanSteps 46 = .ok (.iload_n 3, 1) := by decide +kernel
theorem dX9_meanSteps_47 : decode cX9_meanSteps 47 = .ok (.aload_n 0, 1) := by decide +kernel
theorem dX9_meanSteps_48 : decode cX9_meanSteps 48 = .ok (.getfield 77, 3) := by decide +kernel
theorem dX9_meanSteps_51 : decode cX9_meanSteps 51 = .ok (.getfield 257, 3) := by decide +kernel
theorem dX9_meanSteps_54 : decode cX9_meanSteps 54 = .ok (.iadd, 1) := by decide +kernel
theorem dX9_meanSteps_55 : decode cX9_meanSteps 55 = .ok (.istore_n 3, 1) := by decide +kernel
theorem dX9_meanSteps_56 : decode cX9_meanSteps 56 = .ok (.iinc 5 1, 3) := by decide +kernel
theorem dX9_meanSteps_59 : decode cX9_meanSteps 59 = .ok (.goto (-47), 3) := by decide +kernel
theorem dX9_meanSteps_62 : decode cX9_meanSteps 62 = .ok (.iload_n 3, 1) := by decide +kernel
theorem dX9_meanSteps_63 : decode cX9_meanSteps 63 = .ok (.i2d, 1) := by decide +kernel
theorem dX9_meanSteps_64 : decode cX9_meanSteps 64 = .ok (.iload_n 2, 1) := by decide +kernel
theorem dX9_meanSteps_65 : decode cX9_meanSteps 65 = .ok (.i2d, 1) := by decide +kernel
theorem dX9_meanSteps_66 : decode cX9_meanSteps 66 = .ok (.ddiv, 1) := by decide +kernel
theorem dX9_meanSteps_67 : decode cX9_meanSteps 67 = .ok (.dreturn, 1) := by decide +kernel
theorem dX9_filledShare_0 : decode cX9_filledShare 0 = .ok (.aload_n 0, 1) := by decide +kernel
theorem dX9_filledShare_1 : decode cX9_filledShare 1 = .ok (.getfield 32, 3) := by decide +kernel
theorem dX9_filledShare_4 : decode cX9_filledShare 4 = .ok (.invokevirtual 160, 3) := by decide +kernel
theorem dX9_filledShare_7 : decode cX9_filledShare 7 = .ok (.istore_n 1, 1) := by decide +kernel
theorem dX9_filledShare_8 : decode cX9_filledShare 8 = .ok (.iload_n 1, 1) := by decide +kernel
theorem dX9_filledShare_9 : decode cX9_filledShare 9 = .ok (.ifCond .ne 14, 3) := by decide +kernel
theorem dX9_filledShare_12 : decode cX9_filledShare 12 = .ok (.new 284, 3) := by decide +kernel
theorem dX9_filledShare_15 : decode cX9_filledShare 15 = .ok (.dup, 1) := by decide +kernel
theorem dX9_filledShare_16 : decode cX9_filledShare 16 = .ok (.ldc_w 286, 3) := by decide +kernel
theorem dX9_filledShare_19 : decode cX9_filledShare 19 = .ok (.invokespecial 288, 3) := by decide +kernel
theorem dX9_filledShare_22 : decode cX9_filledShare 22 = .ok (.athrow, 1) := by decide +kernel
theorem dX9_filledShare_23 : decode cX9_filledShare 23 = .ok (.iload_n 1, 1) := by decide +kernel
theorem dX9_filledShare_24 : decode cX9_filledShare 24 = .ok (.aload_n 0, 1) := by decide +kernel
theorem dX9_filledShare_25 : decode cX9_filledShare 25 = .ok (.getfield 32, 3) := by decide +kernel
theorem dX9_filledShare_28 : decode cX9_filledShare 28 = .ok (.invokevirtual 164, 3) := by decide +kernel
theorem dX9_filledShare_31 : decode cX9_filledShare 31 = .ok (.isub, 1) := by decide +kernel
theorem dX9_filledShare_32 : decode cX9_filledShare 32 = .ok (.i2f, 1) := by decide +kernel
theorem dX9_filledShare_33 : decode cX9_filledShare 33 = .ok (.iload_n 1, 1) := by decide +kernel
theorem dX9_filledShare_34 : decode cX9_filledShare 34 = .ok (.i2f, 1) := by decide +kernel
theorem dX9_filledShare_35 : decode cX9_filledShare 35 = .ok (.fdiv, 1) := by decide +kernel
theorem dX9_filledShare_36 : decode cX9_filledShare 36 = .ok (.freturn, 1) := by decide +kernel
theorem dX9_placeOf_0 : decode cX9_placeOf 0 = .ok (.iload_n 1, 1) := by decide +kernel
theorem dX9_placeOf_1 : decode cX9_placeOf 1 = .ok (.ifCond .lt 18, 3) := by decide +kernel
theorem dX9_placeOf_4 : decode cX9_placeOf 4 = .ok (.iload_n 1, 1) := by decide +kernel
theorem dX9_placeOf_5 : decode cX9_placeOf 5 = .ok (.iload_n 0, 1) := by decide +kernel
theorem dX9_placeOf_6 : decode cX9_placeOf 6 = .ok (.ifCond .eq 8, 3) := by decide +kernel
theorem dX9_placeOf_9 : decode cX9_placeOf 9 = .ok (.bipush 16, 2) := by decide +kernel
theorem dX9_placeOf_11 : decode cX9_placeOf 11 = .ok (.goto 5, 3) := by decide +kernel
theorem dX9_placeOf_14 : decode cX9_placeOf 14 = .ok (.bipush 8, 2) := by decide +kernel
theorem dX9_placeOf_16 : decode cX9_placeOf 16 = .ok (.if_icmp .lt 5, 3) := by decide +kernel
theorem dX9_placeOf_19 : decode cX9_placeOf 19 = .ok (.iconst (-1), 1) := by decide +kernel
theorem dX9_placeOf_20 : decode cX9_placeOf 20 = .ok (.ireturn, 1) := by decide +kernel
theorem dX9_placeOf_21 : decode cX9_placeOf 21 = .ok (.iload_n 0, 1) := by decide +kernel
theorem dX9_placeOf_22 : decode cX9_placeOf 22 = .ok (.ifCond .eq 10, 3) := by decide +kernel
theorem dX9_placeOf_25 : decode cX9_placeOf 25 = .ok (.bipush 8, 2) := by decide +kernel
theorem dX9_placeOf_27 : decode cX9_placeOf 27 = .ok (.iload_n 1, 1) := by decide +kernel
theorem dX9_placeOf_28 : decode cX9_placeOf 28 = .ok (.iadd, 1) := by decide +kernel
theorem dX9_placeOf_29 : decode cX9_placeOf 29 = .ok (.goto 4, 3) := by decide +kernel
theorem dX9_placeOf_32 : decode cX9_placeOf 32 = .ok (.iload_n 1, 1) := by decide +kernel
theorem dX9_placeOf_33 : decode cX9_placeOf 33 = .ok (.ireturn, 1) := by decide +kernel
theorem dX9_checkKept_0 : decode cX9_checkKept 0 = .ok (.aload_n 0, 1) := by decide +kernel
theorem dX9_checkKept_1 : decode cX9_checkKept 1 = .ok (.getfield 253, 3) := by decide +kernel
theorem dX9_checkKept_4 : decode cX9_checkKept 4 = .ok (.ifCond .ne 14, 3) := by decide +kernel
theorem dX9_checkKept_7 : decode cX9_checkKept 7 = .ok (.new 93, 3) := by decide +kernel
theorem dX9_checkKept_10 : decode cX9_checkKept 10 = .ok (.dup, 1) := by decide +kernel
theorem dX9_checkKept_11 : decode cX9_checkKept 11 = .ok (.ldc_w 289, 3) := by decide +kernel
theorem dX9_checkKept_14 : decode cX9_checkKept 14 = .ok (.invokespecial 97, 3) := by decide +kernel
theorem dX9_checkKept_17 : decode cX9_checkKept 17 = .ok (.athrow, 1) := by decide +kernel
theorem dX9_checkKept_18 : decode cX9_checkKept 18 = .ok (.return_, 1) := by decide +kernel
theorem dX9_checkDrawn_0 : decode cX9_checkDrawn 0 = .ok (.iload_n 0, 1) := by decide +kernel
theorem dX9_checkDrawn_1 : decode cX9_checkDrawn 1 = .ok (.iconst 1, 1) := by decide +kernel
theorem dX9_checkDrawn_2 : decode cX9_checkDrawn 2 = .ok (.if_icmp .lt 9, 3) := by decide +kernel
theorem dX9_checkDrawn_5 : decode cX9_checkDrawn 5 = .ok (.iload_n 0, 1) := by decide +kernel
theorem dX9_checkDrawn_6 : decode cX9_checkDrawn 6 = .ok (.bipush 50, 2) := by decide +kernel
theorem dX9_checkDrawn_8 : decode cX9_checkDrawn 8 = .ok (.if_icmp .le 14, 3) := by decide +kernel
theorem dX9_checkDrawn_11 : decode cX9_checkDrawn 11 = .ok (.new 117, 3) := by decide +kernel
theorem dX9_checkDrawn_14 : decode cX9_checkDrawn 14 = .ok (.dup, 1) := by decide +kernel
theorem dX9_checkDrawn_15 : decode cX9_checkDrawn 15 = .ok (.ldc_w 291, 3) := by decide +kernel
theorem dX9_checkDrawn_18 : decode cX9_checkDrawn 18 = .ok (.invokespecial 121, 3) := by decide +kernel
theorem dX9_checkDrawn_21 : decode cX9_checkDrawn 21 = .ok (.athrow, 1) := by decide +kernel
theorem dX9_checkDrawn_22 : decode cX9_checkDrawn 22 = .ok (.return_, 1) := by decide +kernel
theorem dX9_drawInitial_0 : decode cX9_drawInitial 0 = .ok (.iload_n 1, 1) := by decide +kernel
theorem dX9_drawInitial_1 : decode cX9_drawInitial 1 = .ok (.istore_n 2, 1) := by decide +kernel
theorem dX9_drawInitial_2 : decode cX9_drawInitial 2 = .ok (.iconst 0, 1) := by decide +kernel
theorem dX9_drawInitial_3 : decode cX9_drawInitial 3 = .ok (.istore_n 3, 1) := by decide +kernel
theorem dX9_drawInitial_4 : decode cX9_drawInitial 4 = .ok (.iload_n 3, 1) := by decide +kernel
theorem dX9_drawInitial_5 : decode cX9_drawInitial 5 = .ok (.aload_n 0, 1) := by decide +kernel
theorem dX9_drawInitial_6 : decode cX9_drawInitial 6 = .ok (.getfield 64, 3) := by decide +kernel
theorem dX9_drawInitial_9 : decode cX9_drawInitial 9 = .ok (.arraylength, 1) := by decide +kernel
theorem dX9_drawInitial_10 : decode cX9_drawInitial 10 = .ok (.if_icmp .ge 32, 3) := by decide +kernel
theorem dX9_drawInitial_13 : decode cX9_drawInitial 13 = .ok (.iload_n 2, 1) := by decide +kernel
theorem dX9_drawInitial_14 : decode cX9_drawInitial 14 = .ok (.ldc_w 293, 3) := by decide +kernel
theorem dX9_drawInitial_17 : decode cX9_drawInitial 17 = .ok (.imul, 1) := by decide +kernel
theorem dX9_drawInitial_18 : decode cX9_drawInitial 18 = .ok (.sipush 12345, 3) := by decide +kernel
theorem dX9_drawInitial_21 : decode cX9_drawInitial 21 = .ok (.iadd, 1) := by decide +kernel
theorem dX9_drawInitial_22 : decode cX9_drawInitial 22 = .ok (.istore_n 2, 1) := by decide +kernel
theorem dX9_drawInitial_23 : decode cX9_drawInitial 23 = .ok (.aload_n 0, 1) := by decide +kernel
theorem dX9_drawInitial_24 : decode cX9_drawInitial 24 = .ok (.getfield 64, 3) := by decide +kernel
theorem dX9_drawInitial_27 : decode cX9_drawInitial 27 = .ok (.iload_n 3, 1) := by decide +kernel
theorem dX9_drawInitial_28 : decode cX9_drawInitial 28 = .ok (.iload_n 2, 1) := by decide +kernel
theorem dX9_drawInitial_29 : decode cX9_drawInitial 29 = .ok (.bipush 16, 2) := by decide +kernel
theorem dX9_drawInitial_31 : decode cX9_drawInitial 31 = .ok (.iushr, 1) := by decide +kernel
theorem dX9_drawInitial_32 : decode cX9_drawInitial 32 = .ok (.bipush 10, 2) := by decide +kernel
theorem dX9_drawInitial_34 : decode cX9_drawInitial 34 = .ok (.irem, 1) := by decide +kernel
theorem dX9_drawInitial_35 : decode cX9_drawInitial 35 = .ok (.iastore, 1) := by decide +kernel
theorem dX9_drawInitial_36 : decode cX9_drawInitial 36 = .ok (.iinc 3 1, 3) := by decide +kernel
theorem dX9_drawInitial_39 : decode cX9_drawInitial 39 = .ok (.goto (-35), 3) := by decide +kernel
theorem dX9_drawInitial_42 : decode cX9_drawInitial 42 = .ok (.iload_n 2, 1) := by decide +kernel
theorem dX9_drawInitial_43 : decode cX9_drawInitial 43 = .ok (.ireturn, 1) := by decide +kernel
theorem dX9_save_0 : decode cX9_save 0 = .ok (.aload_n 0, 1) := by decide +kernel
theorem dX9_save_1 : decode cX9_save 1 = .ok (.getfield 80, 3) := by decide +kernel
theorem dX9_save_4 : decode cX9_save 4 = .ok (.aload_n 0, 1) := by decide +kernel
theorem dX9_save_5 : decode cX9_save 5 = .ok (.getfield 28, 3) := by decide +kernel
theorem dX9_save_8 : decode cX9_save 8 = .ok (.invokevirtual 294, 3) := by decide +kernel
theorem dX9_save_11 : decode cX9_save 11 = .ok (.aload_n 0, 1) := by decide +kernel
theorem dX9_save_12 : decode cX9_save 12 = .ok (.getfield 83, 3) := by decide +kernel
theorem dX9_save_15 : decode cX9_save 15 = .ok (.aload_n 0, 1) := by decide +kernel
theorem dX9_save_16 : decode cX9_save 16 = .ok (.getfield 32, 3) := by decide +kernel
theorem dX9_save_19 : decode cX9_save 19 = .ok (.invokevirtual 294, 3) := by decide +kernel
theorem dX9_save_22 : decode cX9_save 22 = .ok (.aload_n 0, 1) := by decide +kernel
theorem dX9_save_23 : decode cX9_save 23 = .ok (.getfield 60, 3) := by decide +kernel
theorem dX9_save_26 : decode cX9_save 26 = .ok (.iconst 0, 1) := by decide +kernel
theorem dX9_save_27 : decode cX9_save 27 = .ok (.aload_n 0, 1) := by decide +kernel
theorem dX9_save_28 : decode cX9_save 28 = .ok (.getfield 86, 3) := by decide +kernel
theorem dX9_save_31 : decode cX9_save 31 = .ok (.iconst 0, 1) := by decide +kernel
theorem dX9_save_32 : decode cX9_save 32 = .ok (.aload_n 0, 1) := by decide +kernel
theorem dX9_save_33 : decode cX9_save 33 = .ok (.getfield 60, 3) := by decide +kernel
theorem dX9_save_36 : decode cX9_save 36 = .ok (.arraylength, 1) := by decide +kernel
theorem dX9_save_37 : decode cX9_save 37 = .ok (.invokestatic 297, 3) := by decide +kernel
theorem dX9_save_40 : decode cX9_save 40 = .ok (.aload_n 0, 1) := by decide +kernel
theorem dX9_save_41 : decode cX9_save 41 = .ok (.iconst 1, 1) := by decide +kernel
theorem dX9_save_42 : decode cX9_save 42 = .ok (.putfield 303, 3) := by decide +kernel
theorem dX9_save_45 : decode cX9_save 45 = .ok (.aload_n 0, 1) := by decide +kernel
theorem dX9_save_46 : decode cX9_save 46 = .ok (.getfield 28, 3) := by decide +kernel
theorem dX9_save_49 : decode cX9_save 49 = .ok (.getfield 122, 3) := by decide +kernel
theorem dX9_save_52 : decode cX9_save 52 = .ok (.ireturn, 1) := by decide +kernel
theorem dX9_restore_0 : decode cX9_restore 0 = .ok (.aload_n 0, 1) := by decide +kernel
theorem dX9_restore_1 : decode cX9_restore 1 = .ok (.getfield 303, 3) := by decide +kernel
theorem dX9_restore_4 : decode cX9_restore 4 = .ok (.ifCond .ne 14, 3) := by decide +kernel
theorem dX9_restore_7 : decode cX9_restore 7 = .ok (.new 93, 3) := by decide +kernel
theorem dX9_restore_10 : decode cX9_restore 10 = .ok (.dup, 1) := by decide +kernel
theorem dX9_restore_11 : decode cX9_restore 11 = .ok (.ldc_w 306, 3) := by decide +kernel
theorem dX9_restore_14 : decode cX9_restore 14 = .ok (.invokespecial 97, 3) := by decide +kernel
theorem dX9_restore_17 : decode cX9_restore 17 = .ok (.athrow, 1) := by decide +kernel
theorem dX9_restore_18 : decode cX9_restore 18 = .ok (.aload_n 0, 1) := by decide +kernel
theorem dX9_restore_19 : decode cX9_restore 19 = .ok (.getfield 28, 3) := by decide +kernel
theorem dX9_restore_22 : decode cX9_restore 22 = .ok (.aload_n 0, 1) := by decide +kernel
theorem dX9_restore_23 : decode cX9_restore 23 = .ok (.getfield 80, 3) := by decide +kernel
theorem dX9_restore_26 : decode cX9_restore 26 = .ok (.invokevirtual 294, 3) := by decide +kernel
theorem dX9_restore_29 : decode cX9_restore 29 = .ok (.aload_n 0, 1) := by decide +kernel
theorem dX9_restore_30 : decode cX9_restore 30 = .ok (.getfield 32, 3) := by decide +kernel
theorem dX9_restore_33 : decode cX9_restore 33 = .ok (.aload_n 0, 1) := by decide +kernel
theorem dX9_restore_34 : decode cX9_restore 34 = .ok (.getfield 83, 3) := by decide +kernel
theorem dX9_restore_37 : decode cX9_restore 37 = .ok (.invokevirtual 294, 3) := by decide +kernel
theorem dX9_restore_40 : decode cX9_restore 40 = .ok (.aload_n 0, 1) := by decide +kernel
theorem dX9_restore_41 : decode cX9_restore 41 = .ok (.getfield 86, 3) := by decide +kernel
theorem dX9_restore_44 : decode cX9_restore 44 = .ok (.iconst 0, 1) := by decide +kernel
theorem dX9_restore_45 : decode cX9_restore 45 = .ok (.aload_n 0, 1) := by decide +kernel
theorem dX9_restore_46 : decode cX9_restore 46 = .ok (.getfield 60, 3) := by decide +kernel
theorem dX9_restore_49 : decode cX9_restore 49 = .ok (.iconst 0, 1) := by decide +kernel
theorem dX9_restore_50 : decode cX9_restore 50 = .ok (.aload_n 0, 1) := by decide +kernel
theorem dX9_restore_51 : decode cX9_restore 51 = .ok (.getfield 60, 3) := by decide +kernel
theorem dX9_restore_54 : decode cX9_restore 54 = .ok (.arraylength, 1) := by decide +kernel
theorem dX9_restore_55 : decode cX9_restore 55 = .ok (.invokestatic 297, 3) := by decide +kernel
theorem dX9_restore_58 : decode cX9_restore 58 = .ok (.aload_n 0, 1) := by decide +kernel
theorem dX9_restore_59 : decode cX9_restore 59 = .ok (.getfield 56, 3) := by decide +kernel
theorem dX9_restore_62 : decode cX9_restore 62 = .ok (.iconst 0, 1) := by decide +kernel
theorem dX9_restore_63 : decode cX9_restore 63 = .ok (.putfield 217, 3) := by decide +kernel
theorem dX9_restore_66 : decode cX9_restore 66 = .ok (.aload_n 0, 1) := by decide +kernel
theorem dX9_restore_67 : decode cX9_restore 67 = .ok (.getfield 28, 3) := by decide +kernel
theorem dX9_restore_70 : decode cX9_restore 70 = .ok (.getfield 122, 3) := by decide +kernel
theorem dX9_restore_73 : decode cX9_restore 73 = .ok (.ireturn, 1) := by decide +kernel
theorem dX10_init_0 : decode cX10_init 0 = .ok (.aload_n 0, 1) := by decide +kernel
theorem dX10_init_1 : decode cX10_init 1 = .ok (.invokespecial 1, 3) := by decide +kernel
theorem dX10_init_4 : decode cX10_init 4 = .ok (.aload_n 0, 1) := by decide +kernel
theorem dX10_init_5 : decode cX10_init 5 = .ok (.bipush 120, 2) := by decide +kernel
theorem dX10_init_7 : decode cX10_init 7 = .ok (.newarray .int, 2) := by decide +kernel
theorem dX10_init_9 : decode cX10_init 9 = .ok (.putfield 7, 3) := by decide +kernel
theorem dX10_init_12 : decode cX10_init 12 = .ok (.aload_n 0, 1) := by decide +kernel
theorem dX10_init_13 : decode cX10_init 13 = .ok (.sipush 301, 3) := by decide +kernel
theorem dX10_init_16 : decode cX10_init 16 = .ok (.newarray .int, 2) := by decide +kernel
theorem dX10_init_18 : decode cX10_init 18 = .ok (.putfield 13, 3) := by decide +kernel
theorem dX10_init_21 : decode cX10_init 21 = .ok (.aload_n 0, 1) := by decide +kernel
theorem dX10_init_22 : decode cX10_init 22 = .ok (.sipush 2408, 3) := by decide +kernel
theorem dX10_init_25 : decode cX10_init 25 = .ok (.newarray .int, 2) := by decide +kernel
theorem dX10_init_27 : decode cX10_init 27 = .ok (.putfield 16, 3) := by decide +kernel
theorem dX10_init_30 : decode cX10_init 30 = .ok (.aload_n 0, 1) := by decide +kernel
theorem dX10_init_31 : decode cX10_init 31 = .ok (.bipush 120, 2) := by decide +kernel
theorem dX10_init_33 : decode cX10_init 33 = .ok (.newarray .char, 2) := by decide +kernel
theorem dX10_init_35 : decode cX10_init 35 = .ok (.putfield 19, 3) := by decide +kernel
theorem dX10_init_38 : decode cX10_init 38 = .ok (.aload_n 0, 1) := by decide +kernel
theorem dX10_init_39 : decode cX10_init 39 = .ok (.sipush 244, 3) := by decide +kernel
theorem dX10_init_42 : decode cX10_init 42 = .ok (.newarray .int, 2) := by decide +kernel
theorem dX10_init_44 : decode cX10_init 44 = .ok (.putfield 23, 3) := by decide +kernel
theorem dX10_init_47 : decode cX10_init 47 = .ok (.aload_n 0, 1) := by decide +kernel
theorem dX10_init_48 : decode cX10_init 48 = .ok (.bipush 62, 2) := by decide +kernel
theorem dX10_init_50 : decode cX10_init 50 = .ok (.newarray .boolean, 2) := by decide +kernel
theorem dX10_init_52 : decode cX10_init 52 = .ok (.putfield 26, 3) := by decide +kernel
theorem dX10_init_55 : decode cX10_init 55 = .ok (.aload_n 0, 1) := by decide +kernel
theorem dX10_init_56 : decode cX10_init 56 = .ok (.bipush 62, 2) := by decide +kernel
theorem dX10_init_58 : decode cX10_init 58 = .ok (.newarray .int, 2) := by decide +kernel
theorem dX10_init_60 : decode cX10_init 60 = .ok (.putfield 30, 3) := by decide +kernel
theorem dX10_init_63 : decode cX10_init 63 = .ok (.aload_n 0, 1) := by decide +kernel
theorem dX10_init_64 : decode cX10_init 64 = .ok (.sipush 1200, 3) := by decide +kernel
theorem dX10_init_67 : decode cX10_init 67 = .ok (.newarray .char, 2) := by decide +kernel
theorem dX10_init_69 : decode cX10_init 69 = .ok (.putfield 33, 3) := by decide +kernel
theorem dX10_init_72 : decode cX10_init 72 = .ok (.aload_n 0, 1) := by decide +kernel
theorem dX10_init_73 : decode cX10_init 73 = .ok (.bipush 24, 2) := by decide +kernel
theorem dX10_init_75 : decode cX10_init 75 = .ok (.newarray .int, 2) := by decide +kernel
theorem dX10_init_77 : decode cX10_init 77 = .ok (.putfield 36, 3) := by decide +kernel
theorem dX10_init_80 : decode cX10_init 80 = .ok (.aload_n 0, 1) := by decide +kernel
theorem dX10_init_81 : decode cX10_init 81 = .ok (.bipush 24, 2) := by decide +kernel
theorem dX10_init_83 : decode cX10_init 83 = .ok (.newarray .int, 2) := by decide +kernel
theorem dX10_init_85 : decode cX10_init 85 = .ok (.putfield 39, 3) := by decide +kernel
theorem dX10_init_88 : decode cX10_init 88 = .ok (.aload_n 0, 1) := by decide +kernel
theorem dX10_init_89 : decode cX10_init 89 = .ok (.sipush 2000, 3) := by decide +kernel
theorem dX10_init_92 : decode cX10_init 92 = .ok (.newarray .int, 2) := by decide +kernel
theorem dX10_init_94 : decode cX10_init 94 = .ok (.putfield 42, 3) := by decide +kernel
theorem dX10_init_97 : decode cX10_init 97 = .ok (.aload_n 0, 1) := by decide +kernel
theorem dX10_init_98 : decode cX10_init 98 = .ok (.bipush 24, 2) := by decide +kernel
theorem dX10_init_100 : decode cX10_init 100 = .ok (.newarray .int, 2) := by decide +kernel
theorem dX10_init_102 : decode cX10_init 102 = .ok (.putfield 45, 3) := by decide +kernel
theorem dX10_init_105 : decode cX10_init 105 = .ok (.aload_n 0, 1) := by decide +kernel
theorem dX10_init_106 : decode cX10_init 106 = .ok (.sipush 2000, 3) := by decide +kernel
theorem dX10_init_109 : decode cX10_init 109 = .ok (.newarray .int, 2) := by decide +kernel
theorem dX10_init_111 : decode cX10_init 111 = .ok (.putfield 48, 3) := by decide +kernel
theorem dX10_init_114 : decode cX10_init 114 = .ok (.aload_n 0, 1) := by decide +kernel
theorem dX10_init_115 : decode cX10_init 115 = .ok (.bipush 24, 2) := by decide +kernel
theorem dX10_init_117 : decode cX10_init 117 = .ok (.newarray .int, 2) := by decide +kernel
theorem dX10_init_119 : decode cX10_init 119 = .ok (.putfield 51, 3) := by decide +kernel
theorem dX10_init_122 : decode cX10_init 122 = .ok (.aload_n 0, 1) := by decide +kernel
theorem dX10_init_123 : decode cX10_init 123 = .ok (.bipush 16, 2) := by decide +kernel
theorem dX10_init_125 : decode cX10_init 125 = .ok (.newarray .int, 2) := by decide +kernel
theorem dX10_init_127 : decode cX10_init 127 = .ok (.putfield 54, 3) := by decide +kernel
theorem dX10_init_130 : decode cX10_init 130 = .ok (.aload_n 0, 1) := by decide +kernel
theorem dX10_init_131 : decode cX10_init 131 = .ok (.sipush 2000, 3) := by decide +kernel
theorem dX10_init_134 : decode cX10_init 134 = .ok (.newarray .int, 2) := by decide +kernel
theorem dX10_init_136 : decode cX10_init 136 = .ok (.putfield 57, 3) := by decide +kernel
theorem dX10_init_139 : decode cX10_init 139 = .ok (.aload_n 0, 1) := by decide +kernel
theorem dX10_init_140 : decode cX10_init 140 = .ok (.bipush 120, 2) := by decide +kernel
theorem dX10_init_142 : decode cX10_init 142 = .ok (.newarray .int, 2) := by decide +kernel
theorem dX10_init_144 : decode cX10_init 144 = .ok (.putfield 60, 3) := by decide +kernel
theorem dX10_init_147 : decode cX10_init 147 = .ok (.aload_n 0, 1) := by decide +kernel
theorem dX10_init_148 : decode cX10_init 148 = .ok (.sipush 301, 3) := by decide +kernel
theorem dX10_init_151 : decode cX10_init 151 = .ok (.newarray .int, 2) := by decide +kernel
theorem dX10_init_153 : decode cX10_init 153 = .ok (.putfield 63, 3) := by decide +kernel
theorem dX10_init_156 : decode cX10_init 156 = .ok (.aload_n 0, 1) := by decide +kernel
theorem dX10_init_157 : decode cX10_init 157 = .ok (.bipush 24, 2) := by decide +kernel
theorem dX10_init_159 : decode cX10_init 159 = .ok (.newarray .int, 2) := by decide +kernel
theorem dX10_init_161 : decode cX10_init 161 = .ok (.putfield 66, 3) := by decide +kernel
theorem dX10_init_164 : decode cX10_init 164 = .ok (.return_, 1) := by decide +kernel
theorem dX10_isIn_0 : decode cX10_isIn 0 = .ok (.iload_n 0, 1) := by decide +kernel
theorem dX10_isIn_1 : decode cX10_isIn 1 = .ok (.iload_n 1, 1) := by decide +kernel
theorem dX10_isIn_2 : decode cX10_isIn 2 = .ok (.if_icmp .lt 12, 3) := by decide +kernel
theorem dX10_isIn_5 : decode cX10_isIn 5 = .ok (.iload_n 0, 1) := by decide +kernel
theorem dX10_isIn_6 : decode cX10_isIn 6 = .ok (.iload_n 2, 1) := by decide +kernel
theorem dX10_isIn_7 : decode cX10_isIn 7 = .ok (.if_icmp .gt 7, 3) := by decide +kernel
theorem dX10_isIn_10 : decode cX10_isIn 10 = .ok (.iconst 1, 1) := by decide +kernel
theorem dX10_isIn_11 : decode cX10_isIn 11 = .ok (.goto 4, 3) := by decide +kernel
theorem dX10_isIn_14 : decode cX10_isIn 14 = .ok (.iconst 0, 1) := by decide +kernel
theorem dX10_isIn_15 : decode cX10_isIn 15 = .ok (.ireturn, 1) := by decide +kernel
theorem dX10_thrown_0 : decode cX10_thrown 0 = .ok (.aload_n 0, 1) := by decide +kernel
theorem dX10_thrown_1 : decode cX10_thrown 1 = .ok (.getfield 69, 3) := by decide +kernel
theorem dX10_thrown_4 : decode cX10_thrown 4 = .ok (.ireturn, 1) := by decide +kernel
theorem dX10_fail_0 : decode cX10_fail 0 = .ok (.aload_n 0, 1) := by decide +kernel
theorem dX10_fail_1 : decode cX10_fail 1 = .ok (.iload_n 1, 1) := by decide +kernel
theorem dX10_fail_2 : decode cX10_fail 2 = .ok (.putfield 69, 3) := by decide +kernel
theorem dX10_fail_5 : decode cX10_fail 5 = .ok (.iconst 0, 1) := by decide +kernel
theorem dX10_fail_6 : decode cX10_fail 6 = .ok (.ireturn, 1) := by decide +kernel
theorem dX10_entryMany_0 : decode cX10_entryMany 0 = .ok (.aload_n 0, 1) := by decide +kernel
theorem dX10_entryMany_1 : decode cX10_entryMany 1 = .ok (.getfield 13, 3) := by decide +kernel
theorem dX10_entryMany_4 : decode cX10_entryMany 4 = .ok (.iconst 0, 1) := by decide +kernel
theorem dX10_entryMany_5 : decode cX10_entryMany 5 = .ok (.iaload, 1) := by decide +kernel
theorem dX10_entryMany_6 : decode cX10_entryMany 6 = .ok (.ireturn, 1) := by decide +kernel
theorem dX10_at_0 : decode cX10_at 0 = .ok (.aload_n 0, 1) := by decide +kernel
theorem dX10_at_1 : decode cX10_at 1 = .ok (.getfield 13, 3) := by decide +kernel
theorem dX10_at_4 : decode cX10_at 4 = .ok (.iconst 1, 1) := by decide +kernel
theorem dX10_at_5 : decode cX10_at 5 = .ok (.iconst 5, 1) := by decide +kernel
theorem dX10_at_6 : decode cX10_at 6 = .ok (.iload_n 1, 1) := by decide +kernel
theorem dX10_at_7 : decode cX10_at 7 = .ok (.imul, 1) := by decide +kernel
theorem dX10_at_8 : decode cX10_at 8 = .ok (.iadd, 1) := by decide +kernel
theorem dX10_at_9 : decode cX10_at 9 = .ok (.iload_n 2, 1) := by decide +kernel
theorem dX10_at_10 : decode cX10_at 10 = .ok (.iadd, 1) := by decide +kernel
theorem dX10_at_11 : decode cX10_at 11 = .ok (.iaload, 1) := by decide +kernel
theorem dX10_at_12 : decode cX10_at 12 = .ok (.ireturn, 1) := by decide +kernel
theorem dX10_put_0 : decode cX10_put 0 = .ok (.iconst 1, 1) := by decide +kernel
theorem dX10_put_1 : decode cX10_put 1 = .ok (.iconst 5, 1) := by decide +kernel
theorem dX10_put_2 : decode cX10_put 2 = .ok (.iload_n 1, 1) := by decide +kernel
theorem dX10_put_3 : decode cX10_put 3 = .ok (.imul, 1) := by decide +kernel
theorem dX10_put_4 : decode cX10_put 4 = .ok (.iadd, 1) := by decide +kernel
theorem dX10_put_5 : decode cX10_put 5 = .ok (.istore 7, 2) := by decide +kernel
theorem dX10_put_7 : decode cX10_put 7 = .ok (.aload_n 0, 1) := by decide +kernel
theorem dX10_put_8 : decode cX10_put 8 = .ok (.getfield 13, 3) := by decide +kernel
theorem dX10_put_11 : decode cX10_put 11 = .ok (.iload 7, 2) := by decide +kernel
theorem dX10_put_13 : decode cX10_put 13 = .ok (.iload_n 2, 1) := by decide +kernel
theorem dX10_put_14 : decode cX10_put 14 = .ok (.iastore, 1) := by decide +kernel
theorem dX10_put_15 : decode cX10_put 15 = .ok (.aload_n 0, 1) := by decide +kernel
theorem dX10_put_16 : decode cX10_put 16 = .ok (.getfield 13, 3) := by decide +kernel
theorem dX10_put_19 : decode cX10_put 19 = .ok (.iload 7, 2) := by decide +kernel
theorem dX10_put_21 : decode cX10_put 21 = .ok (.iconst 1, 1) := by decide +kernel
theorem dX10_put_22 : decode cX10_put 22 = .ok (.iadd, 1) := by decide +kernel
theorem dX10_put_23 : decode cX10_put 23 = .ok (.iload_n 3, 1) := by decide +kernel
theorem dX10_put_24 : decode cX10_put 24 = .ok (.iastore, 1) := by decide +kernel
theorem dX10_put_25 : decode cX10_put 25 = .ok (.aload_n 0, 1) := by decide +kernel
theorem dX10_put_26 : decode cX10_put 26 = .ok (.getfield 13, 3) := by decide +kernel
theorem dX10_put_29 : decode cX10_put 29 = .ok (.iload 7, 2) := by decide +kernel
theorem dX10_put_31 : decode cX10_put 31 = .ok (.iconst 2, 1) := by decide +kernel
theorem dX10_put_32 : decode cX10_put 32 = .ok (.iadd, 1) := by decide +kernel
theorem dX10_put_33 : decode cX10_put 33 = .ok (.iload 4, 2) := by decide +kernel
theorem dX10_put_35 : decode cX10_put 35 = .ok (.iastore, 1) := by decide +kernel
theorem dX10_put_36 : decode cX10_put 36 = .ok (.aload_n 0, 1) := by decide +kernel
theorem dX10_put_37 : decode cX10_put 37 = .ok (.getfield 13, 3) := by decide +kernel
theorem dX10_put_40 : decode cX10_put 40 = .ok (.iload 7, 2) := by decide +kernel
theorem dX10_put_42 : decode cX10_put 42 = .ok (.iconst 3, 1) := by decide +kernel
theorem dX10_put_43 : decode cX10_put 43 = .ok (.iadd, 1) := by decide +kernel
theorem dX10_put_44 : decode cX10_put 44 = .ok (.iload 5, 2) := by decide +kernel
theorem dX10_put_46 : decode cX10_put 46 = .ok (.iastore, 1) := by decide +kernel
theorem dX10_put_47 : decode cX10_put 47 = .ok (.aload_n 0, 1) := by decide +kernel
theorem dX10_put_48 : decode cX10_put 48 = .ok (.getfield 13, 3) := by decide +kernel
theorem dX10_put_51 : decode cX10_put 51 = .ok (.iload 7, 2) := by decide +kernel
theorem dX10_put_53 : decode cX10_put 53 = .ok (.iconst 4, 1) := by decide +kernel
theorem dX10_put_54 : decode cX10_put 54 = .ok (.iadd, 1) := by decide +kernel
theorem dX10_put_55 : decode cX10_put 55 = .ok (.iload 6, 2) := by decide +kernel
theorem dX10_put_57 : decode cX10_put 57 = .ok (.iastore, 1) := by decide +kernel
theorem dX10_put_58 : decode cX10_put 58 = .ok (.return_, 1) := by decide +kernel
theorem dX10_isBranch_0 : decode cX10_isBranch 0 = .ok (.iload_n 0, 1) := by decide +kernel
theorem dX10_isBranch_1 : decode cX10_isBranch 1 = .ok (.bipush 8, 2) := by decide +kernel
theorem dX10_isBranch_3 : decode cX10_isBranch 3 = .ok (.bipush 10, 2) := by decide +kernel
theorem dX10_isBranch_5 : decode cX10_isBranch 5 = .ok (.invokestatic 73, 3) := by decide +kernel
theorem dX10_isBranch_8 : decode cX10_isBranch 8 = .ok (.ireturn, 1) := by decide +kernel
theorem dX10_isSlot_0 : decode cX10_isSlot 0 = .ok (.iload_n 1, 1) := by decide +kernel
theorem dX10_isSlot_1 : decode cX10_isSlot 1 = .ok (.ifCond .le 21, 3) := by decide +kernel
theorem dX10_isSlot_4 : decode cX10_isSlot 4 = .ok (.aload_n 0, 1) := by decide +kernel
theorem dX10_isSlot_5 : decode cX10_isSlot 5 = .ok (.iload_n 1, 1) := by decide +kernel
theorem dX10_isSlot_6 : decode cX10_isSlot 6 = .ok (.iconst 1, 1) := by decide +kernel
theorem dX10_isSlot_7 : decode cX10_isSlot 7 = .ok (.isub, 1) := by decide +kernel
theorem dX10_isSlot_8 : decode cX10_isSlot 8 = .ok (.iconst 0, 1) := by decide +kernel
theorem dX10_isSlot_9 : decode cX10_isSlot 9 = .ok (.invokevirtual 77, 3) := by decide +kernel
theorem dX10_isSlot_12 : decode cX10_isSlot 12 = .ok (.invokestatic 81, 3) := by decide +kernel
theorem dX10_isSlot_15 : decode cX10_isSlot 15 = .ok (.ifCond .eq 7, 3) := by decide +kernel
theorem dX10_isSlot_18 : decode cX10_isSlot 18 = .ok (.iconst 1, 1) := by decide +kernel
theorem dX10_isSlot_19 : decode cX10_isSlot 19 = .ok (.goto 4, 3) := by decide +kernel
theorem dX10_isSlot_22 : decode cX10_isSlot 22 = .ok (.iconst 0, 1) := by decide +kernel
theorem dX10_isSlot_23 : decode cX10_isSlot 23 = .ok (.ireturn, 1) := by decide +kernel
theorem dX10_isEntry_0 : decode cX10_isEntry 0 = .ok (.iload_n 1, 1) := by decide +kernel
theorem dX10_isEntry_1 : decode cX10_isEntry 1 = .ok (.iconst 0, 1) := by decide +kernel
theorem dX10_isEntry_2 : decode cX10_isEntry 2 = .ok (.aload_n 0, 1) := by decide +kernel
theorem dX10_isEntry_3 : decode cX10_isEntry 3 = .ok (.invokevirtual 85, 3) := by decide +kernel
theorem dX10_isEntry_6 : decode cX10_isEntry 6 = .ok (.iconst 1, 1) := by decide +kernel
theorem dX10_isEntry_7 : decode cX10_isEntry 7 = .ok (.isub, 1) := by decide +kernel
theorem dX10_isEntry_8 : decode cX10_isEntry 8 = .ok (.invokestatic 73, 3) := by decide +kernel
theorem dX10_isEntry_11 : decode cX10_isEntry 11 = .ok (.ireturn, 1) := by decide +kernel
theorem dX10_remember_0 : decode cX10_remember 0 = .ok (.aload_n 0, 1) := by decide +kernel
theorem dX10_remember_1 : decode cX10_remember 1 = .ok (.getfield 89, 3) := by decide +kernel
theorem dX10_remember_4 : decode cX10_remember 4 = .ok (.bipush 8, 2) := by decide +kernel
theorem dX10_remember_6 : decode cX10_remember 6 = .ok (.if_icmp .ne 44, 3) := by decide +kernel
theorem dX10_remember_9 : decode cX10_remember 9 = .ok (.iconst 0, 1) := by decide +kernel
theorem dX10_remember_10 : decode cX10_remember 10 = .ok (.istore_n 1, 1) := by decide +kernel
theorem dX10_remember_11 : decode cX10_remember 11 = .ok (.iload_n 1, 1) := by decide +kernel
theorem dX10_remember_12 : decode cX10_remember 12 = .ok (.sipush 2107, 3) := by decide +kernel
theorem dX10_remember_15 : decode cX10_remember 15 = .ok (.if_icmp .ge 25, 3) := by decide +kernel
theorem dX10_remember_18 : decode cX10_remember 18 = .ok (.aload_n 0, 1) := by decide +kernel
theorem dX10_remember_19 : decode cX10_remember 19 = .ok (.getfield 16, 3) := by decide +kernel
theorem dX10_remember_22 : decode cX10_remember 22 = .ok (.iload_n 1, 1) := by decide +kernel
theorem dX10_remember_23 : decode cX10_remember 23 = .ok (.aload_n 0, 1) := by decide +kernel
theorem dX10_remember_24 : decode cX10_remember 24 = .ok (.getfield 16, 3) := by decide +kernel
theorem dX10_remember_27 : decode cX10_remember 27 = .ok (.sipush 301, 3) := by decide +kernel
theorem dX10_remember_30 : decode cX10_remember 30 = .ok (.iload_n 1, 1) := by decide +kernel
theorem dX10_remember_31 : decode cX10_remember 31 = .ok (.iadd, 1) := by decide +kernel
theorem dX10_remember_32 : decode cX10_remember 32 = .ok (.iaload, 1) := by decide +kernel
theorem dX10_remember_33 : decode cX10_remember 33 = .ok (.iastore, 1) := by decide +kernel
theorem dX10_remember_34 : decode cX10_remember 34 = .ok (.iinc 1 1, 3) := by decide +kernel
theorem dX10_remember_37 : decode cX10_remember 37 = .ok (.goto (-26), 3) := by decide +kernel
theorem dX10_remember_40 : decode cX10_remember 40 = .ok (.aload_n 0, 1) := by decide +kernel
theorem dX10_remember_41 : decode cX10_remember 41 = .ok (.dup, 1) := by decide +kernel
theorem dX10_remember_42 : decode cX10_remember 42 = .ok (.getfield 89, 3) := by decide +kernel
theorem dX10_remember_45 : decode cX10_remember 45 = .ok (.iconst 1, 1) := by decide +kernel
theorem dX10_remember_46 : decode cX10_remember 46 = .ok (.isub, 1) := by decide +kernel
theorem dX10_remember_47 : decode cX10_remember 47 = .ok (.putfield 89, 3) := by decide +kernel
theorem dX10_remember_50 : decode cX10_remember 50 = .ok (.iconst 0, 1) := by decide +kernel
theorem dX10_remember_51 : decode cX10_remember 51 = .ok (.istore_n 1, 1) := by decide +kernel
theorem dX10_remember_52 : decode cX10_remember 52 = .ok (.iload_n 1, 1) := by decide +kernel
theorem dX10_remember_53 : decode cX10_remember 53 = .ok (.sipush 301, 3) := by decide +kernel
theorem dX10_remember_56 : decode cX10_remember 56 = .ok (.if_icmp .ge 30, 3) := by decide +kernel
theorem dX10_remember_59 : decode cX10_remember 59 = .ok (.aload_n 0, 1) := by decide +kernel
theorem dX10_remember_60 : decode cX10_remember 60 = .ok (.getfield 16, 3) := by decide +kernel
theorem dX10_remember_63 : decode cX10_remember 63 = .ok (.sipush 301, 3) := by decide +kernel
theorem dX10_remember_66 : decode cX10_remember 66 = .ok (.aload_n 0, 1) := by decide +kernel
theorem dX10_remember_67 : decode cX10_remember 67 = .ok (.getfield 89, 3) := by decide +kernel
theorem dX10_remember_70 : decode cX10_remember 70 = .ok (.imul, 1) := by decide +kernel
theorem dX10_remember_71 : decode cX10_remember 71 = .ok (.iload_n 1, 1) := by decide +kernel
theorem dX10_remember_72 : decode cX10_remember 72 = .ok (.iadd, 1) := by decide +kernel
theorem dX10_remember_73 : decode cX10_remember 73 = .ok (.aload_n 0, 1) := by decide +kernel
theorem dX10_remember_74 : decode cX10_remember 74 = .ok (.getfield 13, 3) := by decide +kernel
theorem dX10_remember_77 : decode cX10_remember 77 = .ok (.iload_n 1, 1) := by decide +kernel
theorem dX10_remember_78 : decode cX10_remember 78 = .ok (.iaload, 1) := by decide +kernel
theorem dX10_remember_79 : decode cX10_remember 79 = .ok (.iastore, 1) := by decide +kernel
theorem dX10_remember_80 : decode cX10_remember 80 = .ok (.iinc 1 1, 3) := by decide +kernel
theorem dX10_remember_83 : decode cX10_remember 83 = .ok (.goto (-31), 3) := by decide +kernel
theorem dX10_remember_86 : decode cX10_remember 86 = .ok (.aload_n 0, 1) := by decide +kernel
theorem dX10_remember_87 : decode cX10_remember 87 = .ok (.dup, 1) := by decide +kernel
theorem dX10_remember_88 : decode cX10_remember 88 = .ok (.getfield 89, 3) := by decide +kernel
theorem dX10_remember_91 : decode cX10_remember 91 = .ok (.iconst 1, 1) := by decide +kernel
theorem dX10_remember_92 : decode cX10_remember 92 = .ok (.iadd, 1) := by decide +kernel
theorem dX10_remember_93 : decode cX10_remember 93 = .ok (.putfield 89, 3) := by decide +kernel
theorem dX10_remember_96 : decode cX10_remember 96 = .ok (.return_, 1) := by decide +kernel
theorem dX10_undo_0 : decode cX10_undo 0 = .ok (.aload_n 0, 1) := by decide +kernel
theorem dX10_undo_1 : decode cX10_undo 1 = .ok (.iconst 0, 1) := by decide +kernel
theorem dX10_undo_2 : decode cX10_undo 2 = .ok (.putfield 69, 3) := by decide +kernel
theorem dX10_undo_5 : decode cX10_undo 5 = .ok (.aload_n 0, 1) := by decide +kernel
theorem dX10_undo_6 : decode cX10_undo 6 = .ok (.getfield 89, 3) := by decide +kernel
theorem dX10_undo_9 : decode cX10_undo 9 = .ok (.ifCond .ne 9, 3) := by decide +kernel
theorem dX10_undo_12 : decode cX10_undo 12 = .ok (.aload_n 0, 1) := by decide +kernel
theorem dX10_undo_13 : decode cX10_undo 13 = .ok (.iconst 1, 1) := by decide +kernel
theorem dX10_undo_14 : decode cX10_undo 14 = .ok (.invokevirtual 92, 3) := by decide +kernel
theorem dX10_undo_17 : decode cX10_undo 17 = .ok (.ireturn, 1) := by decide +kernel
theorem dX10_undo_18 : decode cX10_undo 18 = .ok (.aload_n 0, 1) := by decide +kernel
theorem dX10_undo_19 : decode cX10_undo 19 = .ok (.dup, 1) := by decide +kernel
theorem dX10_undo_20 : decode cX10_undo 20 = .ok (.getfield 89, 3) := by decide +kernel
theorem dX10_undo_23 : decode cX10_undo 23 = .ok (.iconst 1, 1) := by decide +kernel
theorem dX10_undo_24 : decode cX10_undo 24 = .ok (.isub, 1) := by decide +kernel
theorem dX10_undo_25 : decode cX10_undo 25 = .ok (.putfield 89, 3) := by decide +kernel
theorem dX10_undo_28 : decode cX10_undo 28 = .ok (.iconst 0, 1) := by decide +kernel
theorem dX10_undo_29 : decode cX10_undo 29 = .ok (.istore_n 1, 1) := by decide +kernel
theorem dX10_undo_30 : decode cX10_undo 30 = .ok (.iload_n 1, 1) := by decide +kernel
theorem dX10_undo_31 : decode cX10_undo 31 = .ok (.sipush 301, 3) := by decide +kernel
theorem dX10_undo_34 : decode cX10_undo 34 = .ok (.if_icmp .ge 30, 3) := by decide +kernel
theorem dX10_undo_37 : decode cX10_undo 37 = .ok (.aload_n 0, 1) := by decide +kernel
theorem dX10_undo_38 : decode cX10_undo 38 = .ok (.getfield 13, 3) := by decide +kernel
theorem dX10_undo_41 : decode cX10_undo 41 = .ok (.iload_n 1, 1) := by decide +kernel
theorem dX10_undo_42 : decode cX10_undo 42 = .ok (.aload_n 0, 1) := by decide +kernel
theorem dX10_undo_43 : decode cX10_undo 43 = .ok (.getfield 16, 3) := by decide +kernel
theorem dX10_undo_46 : decode cX10_undo 46 = .ok (.sipush 301, 3) := by decide +kernel
theorem dX10_undo_49 : decode cX10_undo 49 = .ok (.aload_n 0, 1) := by decide +kernel
theorem dX10_undo_50 : decode cX10_undo 50 = .ok (.getfield 89, 3) := by decide +kernel
theorem dX10_undo_53 : decode cX10_undo 53 = .ok (.imul, 1) := by decide +kernel
theorem dX10_undo_54 : decode cX10_undo 54 = .ok (.iload_n 1, 1) := by decide +kernel
theorem dX10_undo_55 : decode cX10_undo 55 = .ok (.iadd, 1) := by decide +kernel
theorem dX10_undo_56 : decode cX10_undo 56 = .ok (.iaload, 1) := by decide +kernel
theorem dX10_undo_57 : decode cX10_undo 57 = .ok (.iastore, 1) := by decide +kernel
theorem dX10_undo_58 : decode cX10_undo 58 = .ok (.iinc 1 1, 3) := by decide +kernel
theorem dX10_undo_61 : decode cX10_undo 61 = .ok (.goto (-31), 3) := by decide +kernel
theorem dX10_undo_64 : decode cX10_undo 64 = .ok (.aload_n 0, 1) := by decide +kernel
theorem dX10_undo_65 : decode cX10_undo 65 = .ok (.getfield 89, 3) := by decide +kernel
theorem dX10_undo_68 : decode cX10_undo 68 = .ok (.ireturn, 1) := by decide +kernel
theorem dX10_feed_0 : decode cX10_feed 0 = .ok (.aload_n 0, 1) := by decide +kernel
theorem dX10_feed_1 : decode cX10_feed 1 = .ok (.iconst 0, 1) := by decide +kernel
theorem dX10_feed_2 : decode cX10_feed 2 = .ok (.putfield 69, 3) := by decide +kernel
theorem dX10_feed_5 : decode cX10_feed 5 = .ok (.aload_n 0, 1) := by decide +kernel
theorem dX10_feed_6 : decode cX10_feed 6 = .ok (.getfield 96, 3) := by decide +kernel
theorem dX10_feed_9 : decode cX10_feed 9 = .ok (.bipush 120, 2) := by decide +kernel
theorem dX10_feed_11 : decode cX10_feed 11 = .ok (.if_icmp .ne 9, 3) := by decide +kernel
theorem dX10_feed_14 : decode cX10_feed 14 = .ok (.aload_n 0, 1) := by decide +kernel
theorem dX10_feed_15 : decode cX10_feed 15 = .ok (.iconst 1, 1) := by decide +kernel
theorem dX10_feed_16 : decode cX10_feed 16 = .ok (.invokevirtual 92, 3) := by decide +kernel
theorem dX10_feed_19 : decode cX10_feed 19 = .ok (.ireturn, 1) := by decide +kernel
theorem dX10_feed_20 : decode cX10_feed 20 = .ok (.aload_n 0, 1) := by decide +kernel
theorem dX10_feed_21 : decode cX10_feed 21 = .ok (.getfield 19, 3) := by decide +kernel
theorem dX10_feed_24 : decode cX10_feed 24 = .ok (.aload_n 0, 1) := by decide +kernel
theorem dX10_feed_25 : decode cX10_feed 25 = .ok (.getfield 96, 3) := by decide +kernel
theorem dX10_feed_28 : decode cX10_feed 28 = .ok (.iload_n 1, 1) := by decide +kernel
theorem dX10_feed_29 : decode cX10_feed 29 = .ok (.castore, 1) := by decide +kernel
theorem dX10_feed_30 : decode cX10_feed 30 = .ok (.aload_n 0, 1) := by decide +kernel
theorem dX10_feed_31 : decode cX10_feed 31 = .ok (.dup, 1) := by decide +kernel
theorem dX10_feed_32 : decode cX10_feed 32 = .ok (.getfield 96, 3) := by decide +kernel
theorem dX10_feed_35 : decode cX10_feed 35 = .ok (.iconst 1, 1) := by decide +kernel
theorem dX10_feed_36 : decode cX10_feed 36 = .ok (.iadd, 1) := by decide +kernel
theorem dX10_feed_37 : decode cX10_feed 37 = .ok (.putfield 96, 3) := by decide +kernel
theorem dX10_feed_40 : decode cX10_feed 40 = .ok (.aload_n 0, 1) := by decide +kernel
theorem dX10_feed_41 : decode cX10_feed 41 = .ok (.getfield 96, 3) := by decide +kernel
theorem dX10_feed_44 : decode cX10_feed 44 = .ok (.ireturn, 1) := by decide +kernel
theorem dX10_sign_0 : decode cX10_sign 0 = .ok (.aload_n 0, 1) := by decide +kernel
theorem dX10_sign_1 : decode cX10_sign 1 = .ok (.getfield 99, 3) := by decide +kernel
theorem dX10_sign_4 : decode cX10_sign 4 = .ok (.aload_n 0, 1) := by decide +kernel
theorem dX10_sign_5 : decode cX10_sign 5 = .ok (.getfield 102, 3) := by decide +kernel
theorem dX10_sign_8 : decode cX10_sign 8 = .ok (.if_icmp .ge 15, 3) := by decide +kernel
theorem dX10_sign_11 : decode cX10_sign 11 = .ok (.aload_n 0, 1) := by decide +kernel
theorem dX10_sign_12 : decode cX10_sign 12 = .ok (.getfield 19, 3) := by decide +kernel
theorem dX10_sign_15 : decode cX10_sign 15 = .ok (.aload_n 0, 1) := by decide +kernel
theorem dX10_sign_16 : decode cX10_sign 16 = .ok (.getfield 99, 3) := by decide +kernel
theorem dX10_sign_19 : decode cX10_sign 19 = .ok (.caload, 1) := by decide +kernel
theorem dX10_sign_20 : decode cX10_sign 20 = .ok (.goto 4, 3) := by decide +kernel
theorem dX10_sign_23 : decode cX10_sign 23 = .ok (.iconst (-1), 1) := by decide +kernel
theorem dX10_sign_24 : decode cX10_sign 24 = .ok (.ireturn, 1) := by decide +kernel
theorem dX10_letterAt_0 : decode cX10_letterAt 0 = .ok (.iload_n 1, 1) := by decide +kernel
theorem dX10_letterAt_1 : decode cX10_letterAt 1 = .ok (.aload_n 0, 1) := by decide +kernel
theorem dX10_letterAt_2 : decode cX10_letterAt 2 = .ok (.getfield 102, 3) := by decide +kernel
theorem dX10_letterAt_5 : decode cX10_letterAt 5 = .ok (.if_icmp .ge 28, 3) := by decide +kernel
theorem dX10_letterAt_8 : decode cX10_letterAt 8 = .ok (.aload_n 0, 1) := by decide +kernel
theorem dX10_letterAt_9 : decode cX10_letterAt 9 = .ok (.getfield 19, 3) := by decide +kernel
theorem dX10_letterAt_12 : decode cX10_letterAt 12 = .ok (.iload_n 1, 1) := by decide +kernel
theorem dX10_letterAt_13 : decode cX10_letterAt 13 = .ok (.caload, 1) := by decide +kernel
theorem dX10_letterAt_14 : decode cX10_letterAt 14 = .ok (.bipush 97, 2) := by decide +kernel
theorem dX10_letterAt_16 : decode cX10_letterAt 16 = .ok (.bipush 122, 2) := by decide +kernel
theorem dX10_letterAt_18 : decode cX10_letterAt 18 = .ok (.invokestatic 73, 3) := by decide +kernel
theorem dX10_letterAt_21 : decode cX10_letterAt 21 = .ok (.ifCond .eq 12, 3) := by decide +kernel
theorem dX10_letterAt_24 : decode cX10_letterAt 24 = .ok (.aload_n 0, 1) := by decide +kernel
theorem dX10_letterAt_25 : decode cX10_letterAt 25 = .ok (.getfield 19, 3) := by decide +kernel
theorem dX10_letterAt_28 : decode cX10_letterAt 28 = .ok (.iload_n 1, 1) := by decide +kernel
theorem dX10_letterAt_29 : decode cX10_letterAt 29 = .ok (.caload, 1) := by decide +kernel
theorem dX10_letterAt_30 : decode cX10_letterAt 30 = .ok (.goto 4, 3) := by decide +kernel
theorem dX10_letterAt_33 : decode cX10_letterAt 33 = .ok (.iconst 0, 1) := by decide +kernel
theorem dX10_letterAt_34 : decode cX10_letterAt 34 = .ok (.ireturn, 1) := by decide +kernel
theorem dX10_isName_0 : decode cX10_isName 0 = .ok (.aload_n 0, 1) := by decide +kernel
theorem dX10_isName_1 : decode cX10_isName 1 = .ok (.iload_n 1, 1) := by decide +kernel
theorem dX10_isName_2 : decode cX10_isName 2 = .ok (.invokevirtual 105, 3) := by decide +kernel
theorem dX10_isName_5 : decode cX10_isName 5 = .ok (.iload_n 2, 1) := by decide +kernel
theorem dX10_isName_6 : decode cX10_isName 6 = .ok (.if_icmp .ne 30, 3) := by decide +kernel
theorem dX10_isName_9 : decode cX10_isName 9 = .ok (.aload_n 0, 1) := by decide +kernel
theorem dX10_isName_10 : decode cX10_isName 10 = .ok (.iload_n 1, 1) := by decide +kernel
theorem dX10_isName_11 : decode cX10_isName 11 = .ok (.iconst 1, 1) := by decide +kernel
theorem dX10_isName_12 : decode cX10_isName 12 = .ok (.iadd, 1) := by decide +kernel
theorem dX10_isName_13 : decode cX10_isName 13 = .ok (.invokevirtual 105, 3) := by decide +kernel
theorem dX10_isName_16 : decode cX10_isName 16 = .ok (.iload_n 3, 1) := by decide +kernel
theorem dX10_isName_17 : decode cX10_isName 17 = .ok (.if_icmp .ne 19, 3) := by decide +kernel
theorem dX10_isName_20 : decode cX10_isName 20 = .ok (.aload_n 0, 1) := by decide +kernel
theorem dX10_isName_21 : decode cX10_isName 21 = .ok (.iload_n 1, 1) := by decide +kernel
theorem dX10_isName_22 : decode cX10_isName 22 = .ok (.iconst 2, 1) := by decide +kernel
theorem dX10_isName_23 : decode cX10_isName 23 = .ok (.iadd, 1) := by decide +kernel
theorem dX10_isName_24 : decode cX10_isName 24 = .ok (.invokevirtual 105, 3) := by decide +kernel
theorem dX10_isName_27 : decode cX10_isName 27 = .ok (.iload 4, 2) := by decide +kernel
theorem dX10_isName_29 : decode cX10_isName 29 = .ok (.if_icmp .ne 7, 3) := by decide +kernel
theorem dX10_isName_32 : decode cX10_isName 32 = .ok (.iconst 1, 1) := by decide +kernel
theorem dX10_isName_33 : decode cX10_isName 33 = .ok (.goto 4, 3) := by decide +kernel
theorem dX10_isName_36 : decode cX10_isName 36 = .ok (.iconst 0, 1) := by decide +kernel
theorem dX10_isName_37 : decode cX10_isName 37 = .ok (.istore 7, 2) := by decide +kernel
theorem dX10_isName_39 : decode cX10_isName 39 = .ok (.iload 7, 2) := by decide +kernel
theorem dX10_isName_41 : decode cX10_isName 41 = .ok (.ifCond .eq 24, 3) := by decide +kernel
theorem dX10_isName_44 : decode cX10_isName 44 = .ok (.iload 4, 2) := by decide +kernel
theorem dX10_isName_46 : decode cX10_isName 46 = .ok (.ifCond .eq 15, 3) := by decide +kernel
theorem dX10_isName_49 : decode cX10_isName 49 = .ok (.aload_n 0, 1) := by decide +kernel
theorem dX10_isName_50 : decode cX10_isName 50 = .ok (.iload_n 1, 1) := by decide +kernel
theorem dX10_isName_51 : decode cX10_isName 51 = .ok (.iconst 3, 1) := by decide +kernel
theorem dX10_isName_52 : decode cX10_isName 52 = .ok (.iadd, 1) := by decide +kernel
theorem dX10_isName_53 : decode cX10_isName 53 = .ok (.invokevirtual 105, 3) := by decide +kernel
theorem dX10_isName_56 : decode cX10_isName 56 = .ok (.iload 5, 2) := by decide +kernel
theorem dX10_isName_58 : decode cX10_isName 58 = .ok (.if_icmp .ne 7, 3) := by decide +kernel
theorem dX10_isName_61 : decode cX10_isName 61 = .ok (.iconst 1, 1) := by decide +kernel
theorem dX10_isName_62 : decode cX10_isName 62 = .ok (.goto 4, 3) := by decide +kernel
theorem dX10_isName_65 : decode cX10_isName 65 = .ok (.iconst 0, 1) := by decide +kernel
theorem dX10_isName_66 : decode cX10_isName 66 = .ok (.istore 7, 2) := by decide +kernel
theorem dX10_isName_68 : decode cX10_isName 68 = .ok (.iload 7, 2) := by decide +kernel
theorem dX10_isName_70 : decode cX10_isName 70 = .ok (.ifCond .eq 44, 3) := by decide +kernel
theorem dX10_isName_73 : decode cX10_isName 73 = .ok (.iload 4, 2) := by decide +kernel
theorem dX10_isName_75 : decode cX10_isName 75 = .ok (.ifCond .eq 35, 3) := by decide +kernel
theorem dX10_isName_78 : decode cX10_isName 78 = .ok (.iload 5, 2) := by decide +kernel
theorem dX10_isName_80 : decode cX10_isName 80 = .ok (.ifCond .eq 30, 3) := by decide +kernel
theorem dX10_isName_83 : decode cX10_isName 83 = .ok (.aload_n 0, 1) := by decide +kernel
theorem dX10_isName_84 : decode cX10_isName 84 = .ok (.iload_n 1, 1) := by decide +kernel
theorem dX10_isName_85 : decode cX10_isName 85 = .ok (.iconst 4, 1) := by decide +kernel
theorem dX10_isName_86 : decode cX10_isName 86 = .ok (.iadd, 1) := by decide +kernel
theorem dX10_isName_87 : decode cX10_isName 87 = .ok (.invokevirtual 105, 3) := by decide +kernel
theorem dX10_isName_90 : decode cX10_isName 90 = .ok (.iload 6, 2) := by decide +kernel
theorem dX10_isName_92 : decode cX10_isName 92 = .ok (.if_icmp .ne 22, 3) := by decide +kernel
theorem dX10_isName_95 : decode cX10_isName 95 = .ok (.iload 6, 2) := by decide +kernel
theorem dX10_isName_97 : decode cX10_isName 97 = .ok (.ifCond .eq 13, 3) := by decide +kernel
theorem dX10_isName_100 : decode cX10_isName 100 = .ok (.aload_n 0, 1) := by decide +kernel
theorem dX10_isName_101 : decode cX10_isName 101 = .ok (.iload_n 1, 1) := by decide +kernel
theorem dX10_isName_102 : decode cX10_isName 102 = .ok (.iconst 5, 1) := by decide +kernel
theorem dX10_isName_103 : decode cX10_isName 103 = .ok (.iadd, 1) := by decide +kernel
theorem dX10_isName_104 : decode cX10_isName 104 = .ok (.invokevirtual 105, 3) := by decide +kernel
theorem dX10_isName_107 : decode cX10_isName 107 = .ok (.ifCond .ne 7, 3) := by decide +kernel
theorem dX10_isName_110 : decode cX10_isName 110 = .ok (.iconst 1, 1) := by decide +kernel
theorem dX10_isName_111 : decode cX10_isName 111 = .ok (.goto 4, 3) := by decide +kernel
theorem dX10_isName_114 : decode cX10_isName 114 = .ok (.iconst 0, 1) := by decide +kernel
theorem dX10_isName_115 : decode cX10_isName 115 = .ok (.ireturn, 1) := by decide +kernel
theorem dX10_kindAt_0 : decode cX10_kindAt 0 = .ok (.aload_n 0, 1) := by decide +kernel
theorem dX10_kindAt_1 : decode cX10_kindAt 1 = .ok (.iload_n 1, 1) := by decide +kernel
theorem dX10_kindAt_2 : decode cX10_kindAt 2 = .ok (.bipush 110, 2) := by decide +kernel
theorem dX10_kindAt_4 : decode cX10_kindAt 4 = .ok (.bipush 111, 2) := by decide +kernel
theorem dX10_kindAt_6 : decode cX10_kindAt 6 = .ok (.bipush 112, 2) := by decide +kernel
theorem dX10_kindAt_8 : decode cX10_kindAt 8 = .ok (.iconst 0, 1) := by decide +kernel
theorem dX10_kindAt_9 : decode cX10_kindAt 9 = .ok (.iconst 0, 1) := by decide +kernel
theorem dX10_kindAt_10 : decode cX10_kindAt 10 = .ok (.invokevirtual 108, 3) := by decide +kernel
theorem dX10_kindAt_13 : decode cX10_kindAt 13 = .ok (.ifCond .eq 5, 3) := by decide +kernel
theorem dX10_kindAt_16 : decode cX10_kindAt 16 = .ok (.iconst 0, 1) := by decide +kernel
theorem dX10_kindAt_17 : decode cX10_kindAt 17 = .ok (.ireturn, 1) := by decide +kernel
theorem dX10_kindAt_18 : decode cX10_kindAt 18 = .ok (.aload_n 0, 1) := by decide +kernel
theorem dX10_kindAt_19 : decode cX10_kindAt 19 = .ok (.iload_n 1, 1) := by decide +kernel
theorem dX10_kindAt_20 : decode cX10_kindAt 20 = .ok (.bipush 115, 2) := by decide +kernel
theorem dX10_kindAt_22 : decode cX10_kindAt 22 = .ok (.bipush 101, 2) := by decide +kernel
theorem dX10_kindAt_24 : decode cX10_kindAt 24 = .ok (.bipush 116, 2) := by decide +kernel
theorem dX10_kindAt_26 : decode cX10_kindAt 26 = .ok (.iconst 0, 1) := by decide +kernel
theorem dX10_kindAt_27 : decode cX10_kindAt 27 = .ok (.iconst 0, 1) := by decide +kernel
theorem dX10_kindAt_28 : decode cX10_kindAt 28 = .ok (.invokevirtual 108, 3) := by decide +kernel
theorem dX10_kindAt_31 : decode cX10_kindAt 31 = .ok (.ifCond .eq 5, 3) := by decide +kernel
theorem dX10_kindAt_34 : decode cX10_kindAt 34 = .ok (.iconst 1, 1) := by decide +kernel
theorem dX10_kindAt_35 : decode cX10_kindAt 35 = .ok (.ireturn, 1) := by decide +kernel
theorem dX10_kindAt_36 : decode cX10_kindAt 36 = .ok (.aload_n 0, 1) := by decide +kernel
theorem dX10_kindAt_37 : decode cX10_kindAt 37 = .ok (.iload_n 1, 1) := by decide +kernel
theorem dX10_kindAt_38 : decode cX10_kindAt 38 = .ok (.bipush 99, 2) := by decide +kernel
theorem dX10_kindAt_40 : decode cX10_kindAt 40 = .ok (.bipush 111, 2) := by decide +kernel
theorem dX10_kindAt_42 : decode cX10_kindAt 42 = .ok (.bipush 112, 2) := by decide +kernel
theorem dX10_kindAt_44 : decode cX10_kindAt 44 = .ok (.bipush 121, 2) := by decide +kernel
theorem dX10_kindAt_46 : decode cX10_kindAt 46 = .ok (.iconst 0, 1) := by decide +kernel
theorem dX10_kindAt_47 : decode cX10_kindAt 47 = .ok (.invokevirtual 108, 3) := by decide +kernel
theorem dX10_kindAt_50 : decode cX10_kindAt 50 = .ok (.ifCond .eq 5, 3) := by decide +kernel
theorem dX10_kindAt_53 : decode cX10_kindAt 53 = .ok (.iconst 2, 1) := by decide +kernel
theorem dX10_kindAt_54 : decode cX10_kindAt 54 = .ok (.ireturn, 1) := by decide +kernel
theorem dX10_kindAt_55 : decode cX10_kindAt 55 = .ok (.aload_n 0, 1) := by decide +kernel
theorem dX10_kindAt_56 : decode cX10_kindAt 56 = .ok (.iload_n 1, 1) := by decide +kernel
theorem dX10_kindAt_57 : decode cX10_kindAt 57 = .ok (.bipush 97, 2) := by decide +kernel
theorem dX10_kindAt_59 : decode cX10_kindAt 59 = .ok (.bipush 100, 2) := by decide +kernel
theorem dX10_kindAt_61 : decode cX10_kindAt 61 = .ok (.bipush 100, 2) := by decide +kernel
theorem dX10_kindAt_63 : decode cX10_kindAt 63 = .ok (.iconst 0, 1) := by decide +kernel
theorem dX10_kindAt_64 : decode cX10_kindAt 64 = .ok (.iconst 0, 1) := by decide +kernel
theorem dX10_kindAt_65 : decode cX10_kindAt 65 = .ok (.invokevirtual 108, 3) := by decide +kernel
theorem dX10_kindAt_68 : decode cX10_kindAt 68 = .ok (.ifCond .eq 5, 3) := by decide +kernel
theorem dX10_kindAt_71 : decode cX10_kindAt 71 = .ok (.iconst 3, 1) := by decide +kernel
theorem dX10_kindAt_72 : decode cX10_kindAt 72 = .ok (.ireturn, 1) := by decide +kernel
theorem dX10_kindAt_73 : decode cX10_kindAt 73 = .ok (.aload_n 0, 1) := by decide +kernel
theorem dX10_kindAt_74 : decode cX10_kindAt 74 = .ok (.iload_n 1, 1) := by decide +kernel
theorem dX10_kindAt_75 : decode cX10_kindAt 75 = .ok (.bipush 115, 2) := by decide +kernel
theorem dX10_kindAt_77 : decode cX10_kindAt 77 = .ok (.bipush 117, 2) := by decide +kernel
theorem dX10_kindAt_79 : decode cX10_kindAt 79 = .ok (.bipush 98, 2) := by decide +kernel
theorem dX10_kindAt_81 : decode cX10_kindAt 81 = .ok (.iconst 0, 1) := by decide +kernel
theorem dX10_kindAt_82 : decode cX10_kindAt 82 = .ok (.iconst 0, 1) := by decide +kernel
theorem dX10_kindAt_83 : decode cX10_kindAt 83 = .ok (.invokevirtual 108, 3) := by decide +kernel
theorem dX10_kindAt_86 : decode cX10_kindAt 86 = .ok (.ifCond .eq 5, 3) := by decide +kernel
theorem dX10_kindAt_89 : decode cX10_kindAt 89 = .ok (.iconst 4, 1) := by decide +kernel
theorem dX10_kindAt_90 : decode cX10_kindAt 90 = .ok (.ireturn, 1) := by decide +kernel
theorem dX10_kindAt_91 : decode cX10_kindAt 91 = .ok (.aload_n 0, 1) := by decide +kernel
theorem dX10_kindAt_92 : decode cX10_kindAt 92 = .ok (.iload_n 1, 1) := by decide +kernel
theorem dX10_kindAt_93 : decode cX10_kindAt 93 = .ok (.bipush 108, 2) := by decide +kernel
theorem dX10_kindAt_95 : decode cX10_kindAt 95 = .ok (.bipush 111, 2) := by decide +kernel
theorem dX10_kindAt_97 : decode cX10_kindAt 97 = .ok (.bipush 97, 2) := by decide +kernel
theorem dX10_kindAt_99 : decode cX10_kindAt 99 = .ok (.bipush 100, 2) := by decide +kernel
theorem dX10_kindAt_101 : decode cX10_kindAt 101 = .ok (.iconst 0, 1) := by decide +kernel
theorem dX10_kindAt_102 : decode cX10_kindAt 102 = .ok (.invokevirtual 108, 3) := by decide +kernel
theorem dX10_kindAt_105 : decode cX10_kindAt 105 = .ok (.ifCond .eq 5, 3) := by decide +kernel
theorem dX10_kindAt_108 : decode cX10_kindAt 108 = .ok (.iconst 5, 1) := by decide +kernel
theorem dX10_kindAt_109 : decode cX10_kindAt 109 = .ok (.ireturn, 1) := by decide +kernel
theorem dX10_kindAt_110 : decode cX10_kindAt 110 = .ok (.aload_n 0, 1) := by decide +kernel
theorem dX10_kindAt_111 : decode cX10_kindAt 111 = .ok (.iload_n 1, 1) := by decide +kernel
theorem dX10_kindAt_112 : decode cX10_kindAt 112 = .ok (.bipush 115, 2) := by decide +kernel
theorem dX10_kindAt_114 : decode cX10_kindAt 114 = .ok (.bipush 116, 2) := by decide +kernel
theorem dX10_kindAt_116 : decode cX10_kindAt 116 = .ok (.bipush 111, 2) := by decide +kernel
theorem dX10_kindAt_118 : decode cX10_kindAt 118 = .ok (.bipush 114, 2) := by decide +kernel
theorem dX10_kindAt_120 : decode cX10_kindAt 120 = .ok (.bipush 101, 2) := by decide +kernel
theorem dX10_kindAt_122 : decode cX10_kindAt 122 = .ok (.invokevirtual 108, 3) := by decide +kernel
theorem dX10_kindAt_125 : decode cX10_kindAt 125 = .ok (.ifCond .eq 6, 3) := by decide +kernel
theorem dX10_kindAt_128 : decode cX10_kindAt 128 = .ok (.bipush 6, 2) := by decide +kernel
theorem dX10_kindAt_130 : decode cX10_kindAt 130 = .ok (.ireturn, 1) := by decide +kernel
theorem dX10_kindAt_131 : decode cX10_kindAt 131 = .ok (.aload_n 0, 1) := by decide +kernel
theorem dX10_kindAt_132 : decode cX10_kindAt 132 = .ok (.iload_n 1, 1) := by decide +kernel
theorem dX10_kindAt_133 : decode cX10_kindAt 133 = .ok (.bipush 111, 2) := by decide +kernel
theorem dX10_kindAt_135 : decode cX10_kindAt 135 = .ok (.bipush 117, 2) := by decide +kernel
theorem dX10_kindAt_137 : decode cX10_kindAt 137 = .ok (.bipush 116, 2) := by decide +kernel
theorem dX10_kindAt_139 : decode cX10_kindAt 139 = .ok (.iconst 0, 1) := by decide +kernel
theorem dX10_kindAt_140 : decode cX10_kindAt 140 = .ok (.iconst 0, 1) := by decide +kernel
theorem dX10_kindAt_141 : decode cX10_kindAt 141 = .ok (.invokevirtual 108, 3) := by decide +kernel
theorem dX10_kindAt_144 : decode cX10_kindAt 144 = .ok (.ifCond .eq 6, 3) := by decide +kernel
theorem dX10_kindAt_147 : decode cX10_kindAt 147 = .ok (.bipush 7, 2) := by decide +kernel
theorem dX10_kindAt_149 : decode cX10_kindAt 149 = .ok (.ireturn, 1) := by decide +kernel
theorem dX10_kindAt_150 : decode cX10_kindAt 150 = .ok (.aload_n 0, 1) := by decide +kernel
theorem dX10_kindAt_151 : decode cX10_kindAt 151 = .ok (.iload_n 1, 1) := by decide +kernel
theorem dX10_kindAt_152 : decode cX10_kindAt 152 = .ok (.bipush 101, 2) := by decide +kernel
theorem dX10_kindAt_154 : decode cX10_kindAt 154 = .ok (.bipush 113, 2) := by decide +kernel
theorem dX10_kindAt_156 : decode cX10_kindAt 156 = .ok (.bipush 117, 2) := by decide +kernel
theorem dX10_kindAt_158 : decode cX10_kindAt 158 = .ok (.bipush 97, 2) := by decide +kernel
theorem dX10_kindAt_160 : decode cX10_kindAt 160 = .ok (.bipush 108, 2) := by decide +kernel
theorem dX10_kindAt_162 : decode cX10_kindAt 162 = .ok (.invokevirtual 108, 3) := by decide +kernel
theorem dX10_kindAt_165 : decode cX10_kindAt 165 = .ok (.ifCond .eq 6, 3) := by decide +kernel
theorem dX10_kindAt_168 : decode cX10_kindAt 168 = .ok (.bipush 8, 2) := by decide +kernel
theorem dX10_kindAt_170 : decode cX10_kindAt 170 = .ok (.ireturn, 1) := by decide +kernel
theorem dX10_kindAt_171 : decode cX10_kindAt 171 = .ok (.aload_n 0, 1) := by decide +kernel
theorem dX10_kindAt_172 : decode cX10_kindAt 172 = .ok (.iload_n 1, 1) := by decide +kernel
theorem dX10_kindAt_173 : decode cX10_kindAt 173 = .ok (.bipush 108, 2) := by decide +kernel
theorem dX10_kindAt_175 : decode cX10_kindAt 175 = .ok (.bipush 101, 2) := by decide +kernel
theorem dX10_kindAt_177 : decode cX10_kindAt 177 = .ok (.bipush 115, 2) := by decide +kernel
theorem dX10_kindAt_179 : decode cX10_kindAt 179 = .ok (.bipush 115, 2) := by decide +kernel
theorem dX10_kindAt_181 : decode cX10_kindAt 181 = .ok (.iconst 0, 1) := by decide +kernel
theorem dX10_kindAt_182 : decode cX10_kindAt 182 = .ok (.invokevirtual 108, 3) := by decide +kernel
theorem dX10_kindAt_185 : decode cX10_kindAt 185 = .ok (.ifCond .eq 6, 3) := by decide +kernel
theorem dX10_kindAt_188 : decode cX10_kindAt 188 = .ok (.bipush 9, 2) := by decide +kernel
theorem dX10_kindAt_190 : decode cX10_kindAt 190 = .ok (.ireturn, 1) := by decide +kernel
theorem dX10_kindAt_191 : decode cX10_kindAt 191 = .ok (.aload_n 0, 1) := by decide +kernel
theorem dX10_kindAt_192 : decode cX10_kindAt 192 = .ok (.iload_n 1, 1) := by decide +kernel
theorem dX10_kindAt_193 : decode cX10_kindAt 193 = .ok (.bipush 106, 2) := by decide +kernel
theorem dX10_kindAt_195 : decode cX10_kindAt 195 = .ok (.bipush 117, 2) := by decide +kernel
theorem dX10_kindAt_197 : decode cX10_kindAt 197 = .ok (.bipush 109, 2) := by decide +kernel
theorem dX10_kindAt_199 : decode cX10_kindAt 199 = .ok (.bipush 112, 2) := by decide +kernel
theorem dX10_kindAt_201 : decode cX10_kindAt 201 = .ok (.iconst 0, 1) := by decide +kernel
theorem dX10_kindAt_202 : decode cX10_kindAt 202 = .ok (.invokevirtual 108, 3) := by decide +kernel
theorem dX10_kindAt_205 : decode cX10_kindAt 205 = .ok (.ifCond .eq 6, 3) := by decide +kernel
theorem dX10_kindAt_208 : decode cX10_kindAt 208 = .ok (.bipush 10, 2) := by decide +kernel
theorem dX10_kindAt_210 : decode cX10_kindAt 210 = .ok (.ireturn, 1) := by decide +kernel
theorem dX10_kindAt_211 : decode cX10_kindAt 211 = .ok (.aload_n 0, 1) := by decide +kernel
theorem dX10_kindAt_212 : decode cX10_kindAt 212 = .ok (.iload_n 1, 1) := by decide +kernel
theorem dX10_kindAt_213 : decode cX10_kindAt 213 = .ok (.bipush 104, 2) := by decide +kernel
theorem dX10_kindAt_215 : decode cX10_kindAt 215 = .ok (.bipush 97, 2) := by decide +kernel
theorem dX10_kindAt_217 : decode cX10_kindAt 217 = .ok (.bipush 108, 2) := by decide +kernel
theorem dX10_kindAt_219 : decode cX10_kindAt 219 = .ok (.bipush 116, 2) := by decide +kernel
theorem dX10_kindAt_221 : decode cX10_kindAt 221 = .ok (.iconst 0, 1) := by decide +kernel
theorem dX10_kindAt_222 : decode cX10_kindAt 222 = .ok (.invokevirtual 108, 3) := by decide +kernel
theorem dX10_kindAt_225 : decode cX10_kindAt 225 = .ok (.ifCond .eq 8, 3) := by decide +kernel
theorem dX10_kindAt_228 : decode cX10_kindAt 228 = .ok (.bipush 11, 2) := by decide +kernel
theorem dX10_kindAt_230 : decode cX10_kindAt 230 = .ok (.goto 4, 3) := by decide +kernel
theorem dX10_kindAt_233 : decode cX10_kindAt 233 = .ok (.iconst (-1), 1) := by decide +kernel
theorem dX10_kindAt_234 : decode cX10_kindAt 234 = .ok (.ireturn, 1) := by decide +kernel
theorem dX10_nameLength_0 : decode cX10_nameLength 0 = .ok (.iload_n 0, 1) := by decide +kernel
theorem dX10_nameLength_1 : decode cX10_nameLength 1 = .ok (.bipush 8, 2) := by decide +kernel
theorem dX10_nameLength_3 : decode cX10_nameLength 3 = .ok (.if_icmp .eq 9, 3) := by decide +kernel
theorem dX10_nameLength_6 : decode cX10_nameLength 6 = .ok (.iload_n 0, 1) := by decide +kernel
theorem dX10_nameLength_7 : decode cX10_nameLength 7 = .ok (.bipush 6, 2) := by decide +kernel
theorem dX10_nameLength_9 : decode cX10_nameLength 9 = .ok (.if_icmp .ne 7, 3) := by decide +kernel
theorem dX10_nameLength_12 : decode cX10_nameLength 12 = .ok (.iconst 5, 1) := by decide +kernel
theorem dX10_nameLength_13 : decode cX10_nameLength 13 = .ok (.goto 36, 3) := by decide +kernel
theorem dX10_nameLength_16 : decode cX10_nameLength 16 = .ok (.iload_n 0, 1) := by decide +kernel
theorem dX10_nameLength_17 : decode cX10_nameLength 17 = .ok (.iconst 2, 1) := by decide +kernel
theorem dX10_nameLength_18 : decode cX10_nameLength 18 = .ok (.if_icmp .eq 26, 3) := by decide +kernel
theorem dX10_nameLength_21 : decode cX10_nameLength 21 = .ok (.iload_n 0, 1) := by decide +kernel
theorem dX10_nameLength_22 : decode cX10_nameLength 22 = .ok (.iconst 5, 1) := by decide +kernel
theorem dX10_nameLength_23 : decode cX10_nameLength 23 = .ok (.if_icmp .eq 21, 3) := by decide +kernel
theorem dX10_nameLength_26 : decode cX10_nameLength 26 = .ok (.iload_n 0, 1) := by decide +kernel
theorem dX10_nameLength_27 : decode cX10_nameLength 27 = .ok (.bipush 9, 2) := by decide +kernel
theorem dX10_nameLength_29 : decode cX10_nameLength 29 = .ok (.if_icmp .eq 15, 3) := by decide +kernel
theorem dX10_nameLength_32 : decode cX10_nameLength 32 = .ok (.iload_n 0, 1) := by decide +kernel
theorem dX10_nameLength_33 : decode cX10_nameLength 33 = .ok (.bipush 10, 2) := by decide +kernel
theorem dX10_nameLength_35 : decode cX10_nameLength 35 = .ok (.if_icmp .eq 9, 3) := by decide +kernel
theorem dX10_nameLength_38 : decode cX10_nameLength 38 = .ok (.iload_n 0, 1) := by decide +kernel
theorem dX10_nameLength_39 : decode cX10_nameLength 39 = .ok (.bipush 11, 2) := by decide +kernel
theorem dX10_nameLength_41 : decode cX10_nameLength 41 = .ok (.if_icmp .ne 7, 3) := by decide +kernel
theorem dX10_nameLength_44 : decode cX10_nameLength 44 = .ok (.iconst 4, 1) := by decide +kernel
theorem dX10_nameLength_45 : decode cX10_nameLength 45 = .ok (.goto 4, 3) := by decide +kernel
theorem dX10_nameLength_48 : decode cX10_nameLength 48 = .ok (.iconst 3, 1) := by decide +kernel
theorem dX10_nameLength_49 : decode cX10_nameLength 49 = .ok (.ireturn, 1) := by decide +kernel
theorem dX10_operandsOf_0 : decode cX10_operandsOf 0 = .ok (.iload_n 0, 1) := by decide +kernel
theorem dX10_operandsOf_1 : decode cX10_operandsOf 1 = .ok (.tableswitch 73 0 11 #[63, 65, 67, 73, 73, 73, 73, 69, 73, 73, 71, 63], 63) := by decide +kernel
theorem dX10_operandsOf_64 : decode cX10_operandsOf 64 = .ok (.iconst 0, 1) := by decide +kernel
theorem dX10_operandsOf_65 : decode cX10_operandsOf 65 = .ok (.ireturn, 1) := by decide +kernel
theorem dX10_operandsOf_66 : decode cX10_operandsOf 66 = .ok (.iconst 5, 1) := by decide +kernel
theorem dX10_operandsOf_67 : decode cX10_operandsOf 67 = .ok (.ireturn, 1) := by decide +kernel
theorem dX10_operandsOf_68 : decode cX10_operandsOf 68 = .ok (.iconst 3, 1) := by decide +kernel
theorem dX10_operandsOf_69 : decode cX10_operandsOf 69 = .ok (.ireturn, 1) := by decide +kernel
theorem dX10_operandsOf_70 : decode cX10_operandsOf 70 = .ok (.iconst 1, 1) := by decide +kernel
theorem dX10_operandsOf_71 : decode cX10_operandsOf 71 = .ok (.ireturn, 1) := by decide +kernel
theorem dX10_operandsOf_72 : decode cX10_operandsOf 72 = .ok (.iconst 4, 1) := by decide +kernel
theorem dX10_operandsOf_73 : decode cX10_operandsOf 73 = .ok (.ireturn, 1) := by decide +kernel
theorem dX10_operandsOf_74 : decode cX10_operandsOf 74 = .ok (.bipush 7, 2) := by decide +kernel
theorem dX10_operandsOf_76 : decode cX10_operandsOf 76 = .ok (.ireturn, 1) := by decide +kernel
theorem dX10_fault_0 : decode cX10_fault 0 = .ok (.aload_n 0, 1) := by decide +kernel
theorem dX10_fault_1 : decode cX10_fault 1 = .ok (.aload_n 0, 1) := by decide +kernel
theorem dX10_fault_2 : decode cX10_fault 2 = .ok (.getfield 112, 3) := by decide +kernel
theorem dX10_fault_5 : decode cX10_fault 5 = .ok (.iconst (-1), 1) := by decide +kernel
theorem dX10_fault_6 : decode cX10_fault 6 = .ok (.if_icmp .ne 10, 3) := by decide +kernel
theorem dX10_fault_9 : decode cX10_fault 9 = .ok (.aload_n 0, 1) := by decide +kernel
theorem dX10_fault_10 : decode cX10_fault 10 = .ok (.getfield 99, 3) := by decide +kernel
theorem dX10_fault_13 : decode cX10_fault 13 = .ok (.goto 7, 3) := by decide +kernel
theorem dX10_fault_16 : decode cX10_fault 16 = .ok (.aload_n 0, 1) := by decide +kernel
theorem dX10_fault_17 : decode cX10_fault 17 = .ok (.getfield 112, 3) := by decide +kernel
theorem dX10_fault_20 : decode cX10_fault 20 = .ok (.putfield 112, 3) := by decide +kernel
theorem dX10_fault_23 : decode cX10_fault 23 = .ok (.return_, 1) := by decide +kernel
theorem dX10_isDigit_0 : decode cX10_isDigit 0 = .ok (.aload_n 0, 1) := by decide +kernel
theorem dX10_isDigit_1 : decode cX10_isDigit 1 = .ok (.invokevirtual 115, 3) := by decide +kernel
theorem dX10_isDigit_4 : decode cX10_isDigit 4 = .ok (.bipush 48, 2) := by decide +kernel
theorem dX10_isDigit_6 : decode cX10_isDigit 6 = .ok (.bipush 57, 2) := by decide +kernel
theorem dX10_isDigit_8 : decode cX10_isDigit 8 = .ok (.invokestatic 73, 3) := by decide +kernel
theorem dX10_isDigit_11 : decode cX10_isDigit 11 = .ok (.ireturn, 1) := by decide +kernel
theorem dX10_readOperand_0 : decode cX10_readOperand 0 = .ok (.aload_n 0, 1) := by decide +kernel
theorem dX10_readOperand_1 : decode cX10_readOperand 1 = .ok (.getfield 112, 3) := by decide +kernel
theorem dX10_readOperand_4 : decode cX10_readOperand 4 = .ok (.iconst (-1), 1) := by decide +kernel
theorem dX10_readOperand_5 : decode cX10_readOperand 5 = .ok (.if_icmp .ne 25, 3) := by decide +kernel
theorem dX10_readOperand_8 : decode cX10_readOperand 8 = .ok (.aload_n 0, 1) := by decide +kernel
theorem dX10_readOperand_9 : decode cX10_readOperand 9 = .ok (.invokevirtual 115, 3) := by decide +kernel
theorem dX10_readOperand_12 : decode cX10_readOperand 12 = .ok (.bipush 32, 2) := by decide +kernel
theorem dX10_readOperand_14 : decode cX10_readOperand 14 = .ok (.if_icmp .ne 16, 3) := by decide +kernel
theorem dX10_readOperand_17 : decode cX10_readOperand 17 = .ok (.aload_n 0, 1) := by decide +kernel
theorem dX10_readOperand_18 : decode cX10_readOperand 18 = .ok (.dup, 1) := by decide +kernel
theorem dX10_readOperand_19 : decode cX10_readOperand 19 = .ok (.getfield 99, 3) := by decide +kernel
theorem dX10_readOperand_22 : decode cX10_readOperand 22 = .ok (.iconst 1, 1) := by decide +kernel
theorem dX10_readOperand_23 : decode cX10_readOperand 23 = .ok (.iadd, 1) := by decide +kernel
theorem dX10_readOperand_24 : decode cX10_readOperand 24 = .ok (.putfield 99, 3) := by decide +kernel
theorem dX10_readOperand_27 : decode cX10_readOperand 27 = .ok (.goto 7, 3) := by decide +kernel
theorem dX10_readOperand_30 : decode cX10_readOperand 30 = .ok (.aload_n 0, 1) := by decide +kernel
theorem dX10_readOperand_31 : decode cX10_readOperand 31 = .ok (.invokevirtual 118, 3) := by decide +kernel
theorem dX10_readOperand_34 : decode cX10_readOperand 34 = .ok (.aload_n 0, 1) := by decide +kernel
theorem dX10_readOperand_35 : decode cX10_readOperand 35 = .ok (.getfield 112, 3) := by decide +kernel
theorem dX10_readOperand_38 : decode cX10_readOperand 38 = .ok (.iconst (-1), 1) := by decide +kernel
theorem dX10_readOperand_39 : decode cX10_readOperand 39 = .ok (.if_icmp .ne 20, 3) := by decide +kernel
theorem dX10_readOperand_42 : decode cX10_readOperand 42 = .ok (.iload_n 1, 1) := by decide +kernel
theorem dX10_readOperand_43 : decode cX10_readOperand 43 = .ok (.ifCond .eq 16, 3) := by decide +kernel
theorem dX10_readOperand_46 : decode cX10_readOperand 46 = .ok (.aload_n 0, 1) := by decide +kernel
theorem dX10_readOperand_47 : decode cX10_readOperand 47 = .ok (.invokevirtual 115, 3) := by decide +kernel
theorem dX10_readOperand_50 : decode cX10_readOperand 50 = .ok (.bipush 45, 2) := by decide +kernel
theorem dX10_readOperand_52 : decode cX10_readOperand 52 = .ok (.if_icmp .ne 7, 3) := by decide +kernel
theorem dX10_readOperand_55 : decode cX10_readOperand 55 = .ok (.iconst 1, 1) := by decide +kernel
theorem dX10_readOperand_56 : decode cX10_readOperand 56 = .ok (.goto 4, 3) := by decide +kernel
theorem dX10_readOperand_59 : decode cX10_readOperand 59 = .ok (.iconst 0, 1) := by decide +kernel
theorem dX10_readOperand_60 : decode cX10_readOperand 60 = .ok (.istore_n 2, 1) := by decide +kernel
theorem dX10_readOperand_61 : decode cX10_readOperand 61 = .ok (.aload_n 0, 1) := by decide +kernel
theorem dX10_readOperand_62 : decode cX10_readOperand 62 = .ok (.dup, 1) := by decide +kernel
theorem dX10_readOperand_63 : decode cX10_readOperand 63 = .ok (.getfield 99, 3) := by decide +kernel
theorem dX10_readOperand_66 : decode cX10_readOperand 66 = .ok (.iload_n 2, 1) := by decide +kernel
theorem dX10_readOperand_67 : decode cX10_readOperand 67 = .ok (.ifCond .eq 7, 3) := by decide +kernel
theorem dX10_readOperand_70 : decode cX10_readOperand 70 = .ok (.iconst 1, 1) := by decide +kernel
theorem dX10_readOperand_71 : decode cX10_readOperand 71 = .ok (.goto 4, 3) := by decide +kernel
theorem dX10_readOperand_74 : decode cX10_readOperand 74 = .ok (.iconst 0, 1) := by decide +kernel
theorem dX10_readOperand_75 : decode cX10_readOperand 75 = .ok (.iadd, 1) := by decide +kernel
theorem dX10_readOperand_76 : decode cX10_readOperand 76 = .ok (.putfield 99, 3) := by decide +kernel
theorem dX10_readOperand_79 : decode cX10_readOperand 79 = .ok (.iconst 0, 1) := by decide +kernel
theorem dX10_readOperand_80 : decode cX10_readOperand 80 = .ok (.istore_n 3, 1) := by decide +kernel
theorem dX10_readOperand_81 : decode cX10_readOperand 81 = .ok (.iconst 0, 1) := by decide +kernel
theorem dX10_readOperand_82 : decode cX10_readOperand 82 = .ok (.istore 4, 2) := by decide +kernel
theorem dX10_readOperand_84 : decode cX10_readOperand 84 = .ok (.aload_n 0, 1) := by decide +kernel
theorem dX10_readOperand_85 : decode cX10_readOperand 85 = .ok (.getfield 112, 3) := by decide +kernel
theorem dX10_readOperand_88 : decode cX10_readOperand 88 = .ok (.iconst (-1), 1) := by decide +kernel
theorem dX10_readOperand_89 : decode cX10_readOperand 89 = .ok (.if_icmp .ne 45, 3) := by decide +kernel
theorem dX10_readOperand_92 : decode cX10_readOperand 92 = .ok (.iload 4, 2) := by decide +kernel
theorem dX10_readOperand_94 : decode cX10_readOperand 94 = .ok (.iconst 2, 1) := by decide +kernel
theorem dX10_readOperand_95 : decode cX10_readOperand 95 = .ok (.if_icmp .ge 39, 3) := by decide +kernel
theorem dX10_readOperand_98 : decode cX10_readOperand 98 = .ok (.aload_n 0, 1) := by decide +kernel
theorem dX10_readOperand_99 : decode cX10_readOperand 99 = .ok (.invokevirtual 120, 3) := by decide +kernel
theorem dX10_readOperand_102 : decode cX10_readOperand 102 = .ok (.ifCond .eq 32, 3) := by decide +kernel
theorem dX10_readOperand_105 : decode cX10_readOperand 105 = .ok (.bipush 10, 2) := by decide +kernel
theorem dX10_readOperand_107 : decode cX10_readOperand 107 = .ok (.iload_n 3, 1) := by decide +kernel
theorem dX10_readOperand_108 : decode cX10_readOperand 108 = .ok (.imul, 1) := by decide +kernel
theorem dX10_readOperand_109 : decode cX10_readOperand 109 = .ok (.aload_n 0, 1) := by decide +kernel
theorem dX10_readOperand_110 : decode cX10_readOperand 110 = .ok (.invokevirtual 115, 3) := by decide +kernel
theorem dX10_readOperand_113 : decode cX10_readOperand 113 = .ok (.iadd, 1) := by decide +kernel
theorem dX10_readOperand_114 : decode cX10_readOperand 114 = .ok (.bipush 48, 2) := by decide +kernel
theorem dX10_readOperand_116 : decode cX10_readOperand 116 = .ok (.isub, 1) := by decide +kernel
theorem dX10_readOperand_117 : decode cX10_readOperand 117 = .ok (.istore_n 3, 1) := by decide +kernel
theorem dX10_readOperand_118 : decode cX10_readOperand 118 = .ok (.iinc 4 1, 3) := by decide +kernel
theorem dX10_readOperand_121 : decode cX10_readOperand 121 = .ok (.aload_n 0, 1) := by decide +kernel
theorem dX10_readOperand_122 : decode cX10_readOperand 122 = .ok (.dup, 1) := by decide +kernel
theorem dX10_readOperand_123 : decode cX10_readOperand 123 = .ok (.getfield 99, 3) := by decide +kernel
theorem dX10_readOperand_126 : decode cX10_readOperand 126 = .ok (.iconst 1, 1) := by decide +kernel
theorem dX10_readOperand_127 : decode cX10_readOperand 127 = .ok (.iadd, 1) := by decide +kernel
theorem dX10_readOperand_128 : decode cX10_readOperand 128 = .ok (.putfield 99, 3) := by decide +kernel
theorem dX10_readOperand_131 : decode cX10_readOperand 131 = .ok (.goto (-47), 3) := by decide +kernel
theorem dX10_readOperand_134 : decode cX10_readOperand 134 = .ok (.iload 4, 2) := by decide +kernel
theorem dX10_readOperand_136 : decode cX10_readOperand 136 = .ok (.ifCond .ne 7, 3) := by decide +kernel
theorem dX10_readOperand_139 : decode cX10_readOperand 139 = .ok (.aload_n 0, 1) := by decide +kernel
theorem dX10_readOperand_140 : decode cX10_readOperand 140 = .ok (.invokevirtual 118, 3) := by decide +kernel
theorem dX10_readOperand_143 : decode cX10_readOperand 143 = .ok (.iload_n 2, 1) := by decide +kernel
theorem dX10_readOperand_144 : decode cX10_readOperand 144 = .ok (.ifCond .eq 8, 3) := by decide +kernel
theorem dX10_readOperand_147 : decode cX10_readOperand 147 = .ok (.iload_n 3, 1) := by decide +kernel
theorem dX10_readOperand_148 : decode cX10_readOperand 148 = .ok (.ineg, 1) := by decide +kernel
theorem dX10_readOperand_149 : decode cX10_readOperand 149 = .ok (.goto 4, 3) := by decide +kernel
theorem dX10_readOperand_152 : decode cX10_readOperand 152 = .ok (.iload_n 3, 1) := by decide +kernel
theorem dX10_readOperand_153 : decode cX10_readOperand 153 = .ok (.ireturn, 1) := by decide +kernel
theorem dX10_readInstruction_0 : decode cX10_readInstruction 0 = .ok (.aload_n 0, 1) := by decide +kernel
theorem dX10_readInstruction_1 : decode cX10_readInstruction 1 = .ok (.aload_n 0, 1) := by decide +kernel
theorem dX10_readInstruction_2 : decode cX10_readInstruction 2 = .ok (.getfield 99, 3) := by decide +kernel
theorem dX10_readInstruction_5 : decode cX10_readInstruction 5 = .ok (.invokevirtual 124, 3) := by decide +kernel
theorem dX10_readInstruction_8 : decode cX10_readInstruction 8 = .ok (.istore_n 1, 1) := by decide +kernel
theorem dX10_readInstruction_9 : decode cX10_readInstruction 9 = .ok (.iload_n 1, 1) := by decide +kernel
theorem dX10_readInstruction_10 : decode cX10_readInstruction 10 = .ok (.iconst (-1), 1) := by decide +kernel
theorem dX10_readInstruction_11 : decode cX10_readInstruction 11 = .ok (.if_icmp .ne 8, 3) := by decide +kernel
theorem dX10_readInstruction_14 : decode cX10_readInstruction 14 = .ok (.aload_n 0, 1) := by decide +kernel
theorem dX10_readInstruction_15 : decode cX10_readInstruction 15 = .ok (.invokevirtual 118, 3) := by decide +kernel
theorem dX10_readInstruction_18 : decode cX10_readInstruction 18 = .ok (.return_, 1) := by decide +kernel
theorem dX10_readInstruction_19 : decode cX10_readInstruction 19 = .ok (.aload_n 0, 1) := by decide +kernel
theorem dX10_readInstruction_20 : decode cX10_readInstruction 20 = .ok (.dup, 1) := by decide +kernel
theorem dX10_readInstruction_21 : decode cX10_readInstruction 21 = .ok (.getfield 99, 3) := by decide +kernel
theorem dX10_readInstruction_24 : decode cX10_readInstruction 24 = .ok (.iload_n 1, 1) := by decide +kernel
theorem dX10_readInstruction_25 : decode cX10_readInstruction 25 = .ok (.invokestatic 127, 3) := by decide +kernel
theorem dX10_readInstruction_28 : decode cX10_readInstruction 28 = .ok (.iadd, 1) := by decide +kernel
theorem dX10_readInstruction_29 : decode cX10_readInstruction 29 = .ok (.putfield 99, 3) := by decide +kernel
theorem dX10_readInstruction_32 : decode cX10_readInstruction 32 = .ok (.iload_n 1, 1) := by decide +kernel
theorem dX10_readInstruction_33 : decode cX10_readInstruction 33 = .ok (.invokestatic 130, 3) := by decide +kernel
theorem dX10_readInstruction_36 : decode cX10_readInstruction 36 = .ok (.istore_n 2, 1) := by decide +kernel
theorem dX10_readInstruction_37 : decode cX10_readInstruction 37 = .ok (.iconst 4, 1) := by decide +kernel
theorem dX10_readInstruction_38 : decode cX10_readInstruction 38 = .ok (.aload_n 0, 1) := by decide +kernel
theorem dX10_readInstruction_39 : decode cX10_readInstruction 39 = .ok (.getfield 133, 3) := by decide +kernel
theorem dX10_readInstruction_42 : decode cX10_readInstruction 42 = .ok (.imul, 1) := by decide +kernel
theorem dX10_readInstruction_43 : decode cX10_readInstruction 43 = .ok (.istore_n 3, 1) := by decide +kernel
theorem dX10_readInstruction_44 : decode cX10_readInstruction 44 = .ok (.aload_n 0, 1) := by decide +kernel
theorem dX10_readInstruction_45 : decode cX10_readInstruction 45 = .ok (.getfield 23, 3) := by decide +kernel
theorem dX10_readInstruction_48 : decode cX10_readInstruction 48 = .ok (.iload_n 3, 1) := by decide +kernel
theorem dX10_readInstruction_49 : decode cX10_readInstruction 49 = .ok (.iload_n 1, 1) := by decide +kernel
theorem dX10_readInstruction_50 : decode cX10_readInstruction 50 = .ok (.iastore, 1) := by decide +kernel
theorem dX10_readInstruction_51 : decode cX10_readInstruction 51 = .ok (.iconst 0, 1) := by decide +kernel
theorem dX10_readInstruction_52 : decode cX10_readInstruction 52 = .ok (.istore 4, 2) := by decide +kernel
theorem dX10_readInstruction_54 : decode cX10_readInstruction 54 = .ok (.iload 4, 2) := by decide +kernel
theorem dX10_readInstruction_56 : decode cX10_readInstruction 56 = .ok (.iconst 3, 1) := by decide +kernel
theorem dX10_readInstruction_57 : decode cX10_readInstruction 57 = .ok (.if_icmp .ge 62, 3) := by decide +kernel
theorem dX10_readInstruction_60 : decode cX10_readInstruction 60 = .ok (.aload_n 0, 1) := by decide +kernel
theorem dX10_readInstruction_61 : decode cX10_readInstruction 61 = .ok (.getfield 23, 3) := by decide +kernel
theorem dX10_readInstruction_64 : decode cX10_readInstruction 64 = .ok (.iload_n 3, 1) := by decide +kernel
theorem dX10_readInstruction_65 : decode cX10_readInstruction 65 = .ok (.iconst 1, 1) := by decide +kernel
theorem dX10_readInstruction_66 : decode cX10_readInstruction 66 = .ok (.iadd, 1) := by decide +kernel
theorem dX10_readInstruction_67 : decode cX10_readInstruction 67 = .ok (.iload 4, 2) := by decide +kernel
theorem dX10_readInstruction_69 : decode cX10_readInstruction 69 = .ok (.iadd, 1) := by decide +kernel
theorem dX10_readInstruction_70 : decode cX10_readInstruction 70 = .ok (.iload_n 2, 1) := by decide +kernel
theorem dX10_readInstruction_71 : decode cX10_readInstruction 71 = .ok (.iload 4, 2) := by decide +kernel
theorem dX10_readInstruction_73 : decode cX10_readInstruction 73 = .ok (.ishr, 1) := by decide +kernel
theorem dX10_readInstruction_74 : decode cX10_readInstruction 74 = .ok (.iconst 1, 1) := by decide +kernel
theorem dX10_readInstruction_75 : decode cX10_readInstruction 75 = .ok (.iand, 1) := by decide +kernel
theorem dX10_readInstruction_76 : decode cX10_readInstruction 76 = .ok (.iconst 1, 1) := by decide +kernel
theorem dX10_readInstruction_77 : decode cX10_readInstruction 77 = .ok (.if_icmp .ne 34, 3) := by decide +kernel
theorem dX10_readInstruction_80 : decode cX10_readInstruction 80 = .ok (.aload_n 0, 1) := by decide +kernel
theorem dX10_readInstruction_81 : decode cX10_readInstruction 81 = .ok (.getfield 112, 3) := by decide +kernel
theorem dX10_readInstruction_84 : decode cX10_readInstruction 84 = .ok (.iconst (-1), 1) := by decide +kernel
theorem dX10_readInstruction_85 : decode cX10_readInstruction 85 = .ok (.if_icmp .ne 26, 3) := by decide +kernel
theorem dX10_readInstruction_88 : decode cX10_readInstruction 88 = .ok (.aload_n 0, 1) := by decide +kernel
theorem dX10_readInstruction_89 : decode cX10_readInstruction 89 = .ok (.iload_n 1, 1) := by decide +kernel
theorem dX10_readInstruction_90 : decode cX10_readInstruction 90 = .ok (.iconst 1, 1) := by decide +kernel
theorem dX10_readInstruction_91 : decode cX10_readInstruction 91 = .ok (.if_icmp .ne 13, 3) := by decide +kernel
theorem dX10_readInstruction_94 : decode cX10_readInstruction 94 = .ok (.iload 4, 2) := by decide +kernel
theorem dX10_readInstruction_96 : decode cX10_readInstruction 96 = .ok (.iconst 2, 1) := by decide +kernel
theorem dX10_readInstruction_97 : decode cX10_readInstruction 97 = .ok (.if_icmp .ne 7, 3) := by decide +kernel
theorem dX10_readInstruction_100 : decode cX10_readInstruction 100 = .ok (.iconst 1, 1) := by decide +kernel
theorem dX10_readInstruction_101 : decode cX10_readInstruction 101 = .ok (.goto 4, 3) := by decide +kernel
theorem dX10_readInstruction_104 : decode cX10_readInstruction 104 = .ok (.iconst 0, 1) := by decide +kernel
theorem dX10_readInstruction_105 : decode cX10_readInstruction 105 = .ok (.invokevirtual 136, 3) := by decide +kernel
theorem dX10_readInstruction_108 : decode cX10_readInstruction 108 = .ok (.goto 4, 3) := by decide +kernel
theorem dX10_readInstruction_111 : decode cX10_readInstruction 111 = .ok (.iconst 0, 1) := by decide +kernel
theorem dX10_readInstruction_112 : decode cX10_readInstruction 112 = .ok (.iastore, 1) := by decide +kernel
theorem dX10_readInstruction_113 : decode cX10_readInstruction 113 = .ok (.iinc 4 1, 3) := by decide +kernel
theorem dX10_readInstruction_116 : decode cX10_readInstruction 116 = .ok (.goto (-62), 3) := by decide +kernel
theorem dX10_readInstruction_119 : decode cX10_readInstruction 119 = .ok (.aload_n 0, 1) := by decide +kernel
theorem dX10_readInstruction_120 : decode cX10_readInstruction 120 = .ok (.dup, 1) := by decide +kernel
theorem dX10_readInstruction_121 : decode cX10_readInstruction 121 = .ok (.getfield 133, 3) := by decide +kernel
theorem dX10_readInstruction_124 : decode cX10_readInstruction 124 = .ok (.iconst 1, 1) := by decide +kernel
theorem dX10_readInstruction_125 : decode cX10_readInstruction 125 = .ok (.iadd, 1) := by decide +kernel
theorem dX10_readInstruction_126 : decode cX10_readInstruction 126 = .ok (.putfield 133, 3) := by decide +kernel
theorem dX10_readInstruction_129 : decode cX10_readInstruction 129 = .ok (.return_, 1) := by decide +kernel
theorem dX10_isGood_0 : decode cX10_isGood 0 = .ok (.aload_n 0, 1) := by decide +kernel
theorem dX10_isGood_1 : decode cX10_isGood 1 = .ok (.getfield 23, 3) := by decide +kernel
theorem dX10_isGood_4 : decode cX10_isGood 4 = .ok (.iload_n 1, 1) := by decide +kernel
theorem dX10_isGood_5 : decode cX10_isGood 5 = .ok (.iaload, 1) := by decide +kernel
theorem dX10_isGood_6 : decode cX10_isGood 6 = .ok (.istore_n 2, 1) := by decide +kernel
theorem dX10_isGood_7 : decode cX10_isGood 7 = .ok (.iload_n 2, 1) := by decide +kernel
theorem dX10_isGood_8 : decode cX10_isGood 8 = .ok (.iconst 3, 1) := by decide +kernel
theorem dX10_isGood_9 : decode cX10_isGood 9 = .ok (.if_icmp .eq 8, 3) := by decide +kernel
theorem dX10_isGood_12 : decode cX10_isGood 12 = .ok (.iload_n 2, 1) := by decide +kernel
theorem dX10_isGood_13 : decode cX10_isGood 13 = .ok (.iconst 4, 1) := by decide +kernel
theorem dX10_isGood_14 : decode cX10_isGood 14 = .ok (.if_icmp .ne 20, 3) := by decide +kernel
theorem dX10_isGood_17 : decode cX10_isGood 17 = .ok (.aload_n 0, 1) := by decide +kernel
theorem dX10_isGood_18 : decode cX10_isGood 18 = .ok (.getfield 23, 3) := by decide +kernel
theorem dX10_isGood_21 : decode cX10_isGood 21 = .ok (.iload_n 1, 1) := by decide +kernel
theorem dX10_isGood_22 : decode cX10_isGood 22 = .ok (.iconst 3, 1) := by decide +kernel
theorem dX10_isGood_23 : decode cX10_isGood 23 = .ok (.iadd, 1) := by decide +kernel
theorem dX10_isGood_24 : decode cX10_isGood 24 = .ok (.iaload, 1) := by decide +kernel
theorem dX10_isGood_25 : decode cX10_isGood 25 = .ok (.iconst 0, 1) := by decide +kernel
theorem dX10_isGood_26 : decode cX10_isGood 26 = .ok (.bipush 7, 2) := by decide +kernel
theorem dX10_isGood_28 : decode cX10_isGood 28 = .ok (.invokestatic 73, 3) := by decide +kernel
theorem dX10_isGood_31 : decode cX10_isGood 31 = .ok (.goto 58, 3) := by decide +kernel
theorem dX10_isGood_34 : decode cX10_isGood 34 = .ok (.iload_n 2, 1) := by decide +kernel
theorem dX10_isGood_35 : decode cX10_isGood 35 = .ok (.iconst 5, 1) := by decide +kernel
theorem dX10_isGood_36 : decode cX10_isGood 36 = .ok (.if_icmp .eq 9, 3) := by decide +kernel
theorem dX10_isGood_39 : decode cX10_isGood 39 = .ok (.iload_n 2, 1) := by decide +kernel
theorem dX10_isGood_40 : decode cX10_isGood 40 = .ok (.bipush 6, 2) := by decide +kernel
theorem dX10_isGood_42 : decode cX10_isGood 42 = .ok (.if_icmp .ne 20, 3) := by decide +kernel
theorem dX10_isGood_45 : decode cX10_isGood 45 = .ok (.aload_n 0, 1) := by decide +kernel
theorem dX10_isGood_46 : decode cX10_isGood 46 = .ok (.getfield 23, 3) := by decide +kernel
theorem dX10_isGood_49 : decode cX10_isGood 49 = .ok (.iload_n 1, 1) := by decide +kernel
theorem dX10_isGood_50 : decode cX10_isGood 50 = .ok (.iconst 3, 1) := by decide +kernel
theorem dX10_isGood_51 : decode cX10_isGood 51 = .ok (.iadd, 1) := by decide +kernel
theorem dX10_isGood_52 : decode cX10_isGood 52 = .ok (.iaload, 1) := by decide +kernel
theorem dX10_isGood_53 : decode cX10_isGood 53 = .ok (.iconst 0, 1) := by decide +kernel
theorem dX10_isGood_54 : decode cX10_isGood 54 = .ok (.bipush 15, 2) := by decide +kernel
theorem dX10_isGood_56 : decode cX10_isGood 56 = .ok (.invokestatic 73, 3) := by decide +kernel
theorem dX10_isGood_59 : decode cX10_isGood 59 = .ok (.goto 30, 3) := by decide +kernel
theorem dX10_isGood_62 : decode cX10_isGood 62 = .ok (.iload_n 2, 1) := by decide +kernel
theorem dX10_isGood_63 : decode cX10_isGood 63 = .ok (.invokestatic 81, 3) := by decide +kernel
theorem dX10_isGood_66 : decode cX10_isGood 66 = .ok (.ifCond .eq 18, 3) := by decide +kernel
theorem dX10_isGood_69 : decode cX10_isGood 69 = .ok (.aload_n 0, 1) := by decide +kernel
theorem dX10_isGood_70 : decode cX10_isGood 70 = .ok (.getfield 23, 3) := by decide +kernel
theorem dX10_isGood_73 : decode cX10_isGood 73 = .ok (.iload_n 1, 1) := by decide +kernel
theorem dX10_isGood_74 : decode cX10_isGood 74 = .ok (.iconst 3, 1) := by decide +kernel
theorem dX10_isGood_75 : decode cX10_isGood 75 = .ok (.iadd, 1) := by decide +kernel
theorem dX10_isGood_76 : decode cX10_isGood 76 = .ok (.iaload, 1) := by decide +kernel
theorem dX10_isGood_77 : decode cX10_isGood 77 = .ok (.aload_n 0, 1) := by decide +kernel
theorem dX10_isGood_78 : decode cX10_isGood 78 = .ok (.getfield 133, 3) := by decide +kernel
theorem dX10_isGood_81 : decode cX10_isGood 81 = .ok (.if_icmp .gt 7, 3) := by decide +kernel
theorem dX10_isGood_84 : decode cX10_isGood 84 = .ok (.iconst 1, 1) := by decide +kernel
theorem dX10_isGood_85 : decode cX10_isGood 85 = .ok (.goto 4, 3) := by decide +kernel
theorem dX10_isGood_88 : decode cX10_isGood 88 = .ok (.iconst 0, 1) := by decide +kernel
theorem dX10_isGood_89 : decode cX10_isGood 89 = .ok (.istore_n 3, 1) := by decide +kernel
theorem dX10_isGood_90 : decode cX10_isGood 90 = .ok (.iload_n 3, 1) := by decide +kernel
theorem dX10_isGood_91 : decode cX10_isGood 91 = .ok (.ifCond .eq 33, 3) := by decide +kernel
theorem dX10_isGood_94 : decode cX10_isGood 94 = .ok (.aload_n 0, 1) := by decide +kernel
theorem dX10_isGood_95 : decode cX10_isGood 95 = .ok (.getfield 23, 3) := by decide +kernel
theorem dX10_isGood_98 : decode cX10_isGood 98 = .ok (.iload_n 1, 1) := by decide +kernel
theorem dX10_isGood_99 : decode cX10_isGood 99 = .ok (.iconst 1, 1) := by decide +kernel
theorem dX10_isGood_100 : decode cX10_isGood 100 = .ok (.iadd, 1) := by decide +kernel
theorem dX10_isGood_101 : decode cX10_isGood 101 = .ok (.iaload, 1) := by decide +kernel
theorem dX10_isGood_102 : decode cX10_isGood 102 = .ok (.bipush 8, 2) := by decide +kernel
theorem dX10_isGood_104 : decode cX10_isGood 104 = .ok (.if_icmp .ge 20, 3) := by decide +kernel
theorem dX10_isGood_107 : decode cX10_isGood 107 = .ok (.aload_n 0, 1) := by decide +kernel
theorem dX10_isGood_108 : decode cX10_isGood 108 = .ok (.getfield 23, 3) := by decide +kernel
theorem dX10_isGood_111 : decode cX10_isGood 111 = .ok (.iload_n 1, 1) := by decide +kernel
theorem dX10_isGood_112 : decode cX10_isGood 112 = .ok (.iconst 2, 1) := by decide +kernel
theorem dX10_isGood_113 : decode cX10_isGood 113 = .ok (.iadd, 1) := by decide +kernel
theorem dX10_isGood_114 : decode cX10_isGood 114 = .ok (.iaload, 1) := by decide +kernel
theorem dX10_isGood_115 : decode cX10_isGood 115 = .ok (.bipush 8, 2) := by decide +kernel
theorem dX10_isGood_117 : decode cX10_isGood 117 = .ok (.if_icmp .ge 7, 3) := by decide +kernel
theorem dX10_isGood_120 : decode cX10_isGood 120 = .ok (.iconst 1, 1) := by decide +kernel
theorem dX10_isGood_121 : decode cX10_isGood 121 = .ok (.goto 4, 3) := by decide +kernel
theorem dX10_isGood_124 : decode cX10_isGood 124 = .ok (.iconst 0, 1) := by decide +kernel
theorem dX10_isGood_125 : decode cX10_isGood 125 = .ok (.ireturn, 1) := by decide +kernel
theorem dX10_parse_0 : decode cX10_parse 0 = .ok (.aload_n 0, 1) := by decide +kernel
theorem dX10_parse_1 : decode cX10_parse 1 = .ok (.iconst 0, 1) := by decide +kernel
theorem dX10_parse_2 : decode cX10_parse 2 = .ok (.putfield 69, 3) := by decide +kernel
theorem dX10_parse_5 : decode cX10_parse 5 = .ok (.aload_n 0, 1) := by decide +kernel
theorem dX10_parse_6 : decode cX10_parse 6 = .ok (.aload_n 0, 1) := by decide +kernel
theorem dX10_parse_7 : decode cX10_parse 7 = .ok (.getfield 96, 3) := by decide +kernel
theorem dX10_parse_10 : decode cX10_parse 10 = .ok (.putfield 102, 3) := by decide +kernel
theorem dX10_parse_13 : decode cX10_parse 13 = .ok (.aload_n 0, 1) := by decide +kernel
theorem dX10_parse_14 : decode cX10_parse 14 = .ok (.iconst 0, 1) := by decide +kernel
theorem dX10_parse_15 : decode cX10_parse 15 = .ok (.putfield 96, 3) := by decide +kernel
theorem dX10_parse_18 : decode cX10_parse 18 = .ok (.aload_n 0, 1) := by decide +kernel
theorem dX10_parse_19 : decode cX10_parse 19 = .ok (.iconst 0, 1) := by decide +kernel
theorem dX10_parse_20 : decode cX10_parse 20 = .ok (.putfield 99, 3) := by decide +kernel
theorem dX10_parse_23 : decode cX10_parse 23 = .ok (.aload_n 0, 1) := by decide +kernel
theorem dX10_parse_24 : decode cX10_parse 24 = .ok (.iconst (-1), 1) := by decide +kernel
theorem dX10_parse_25 : decode cX10_parse 25 = .ok (.putfield 112, 3) := by decide +kernel
theorem dX10_parse_28 : decode cX10_parse 28 = .ok (.aload_n 0, 1) := by decide +kernel
theorem dX10_parse_29 : decode cX10_parse 29 = .ok (.iconst 0, 1) := by decide +kernel
theorem dX10_parse_30 : decode cX10_parse 30 = .ok (.putfield 133, 3) := by decide +kernel
theorem dX10_parse_33 : decode cX10_parse 33 = .ok (.aload_n 0, 1) := by decide +kernel
theorem dX10_parse_34 : decode cX10_parse 34 = .ok (.getfield 102, 3) := by decide +kernel
theorem dX10_parse_37 : decode cX10_parse 37 = .ok (.ifCond .le 56, 3) := by decide +kernel
theorem dX10_parse_40 : decode cX10_parse 40 = .ok (.aload_n 0, 1) := by decide +kernel
theorem dX10_parse_41 : decode cX10_parse 41 = .ok (.invokevirtual 140, 3) := by decide +kernel
theorem dX10_parse_44 : decode cX10_parse 44 = .ok (.aload_n 0, 1) := by decide +kernel
theorem dX10_parse_45 : decode cX10_parse 45 = .ok (.getfield 112, 3) := by decide +kernel
theorem dX10_parse_48 : decode cX10_parse 48 = .ok (.iconst (-1), 1) := by decide +kernel
theorem dX10_parse_49 : decode cX10_parse 49 = .ok (.if_icmp .ne 29, 3) := by decide +kernel
theorem dX10_parse_52 : decode cX10_parse 52 = .ok (.aload_n 0, 1) := by decide +kernel
theorem dX10_parse_53 : decode cX10_parse 53 = .ok (.invokevirtual 115, 3) := by decide +kernel
theorem dX10_parse_56 : decode cX10_parse 56 = .ok (.bipush 59, 2) := by decide +kernel
theorem dX10_parse_58 : decode cX10_parse 58 = .ok (.if_icmp .ne 20, 3) := by decide +kernel
theorem dX10_parse_61 : decode cX10_parse 61 = .ok (.aload_n 0, 1) := by decide +kernel
theorem dX10_parse_62 : decode cX10_parse 62 = .ok (.dup, 1) := by decide +kernel
theorem dX10_parse_63 : decode cX10_parse 63 = .ok (.getfield 99, 3) := by decide +kernel
theorem dX10_parse_66 : decode cX10_parse 66 = .ok (.iconst 1, 1) := by decide +kernel
theorem dX10_parse_67 : decode cX10_parse 67 = .ok (.iadd, 1) := by decide +kernel
theorem dX10_parse_68 : decode cX10_parse 68 = .ok (.putfield 99, 3) := by decide +kernel
theorem dX10_parse_71 : decode cX10_parse 71 = .ok (.aload_n 0, 1) := by decide +kernel
theorem dX10_parse_72 : decode cX10_parse 72 = .ok (.invokevirtual 140, 3) := by decide +kernel
theorem dX10_parse_75 : decode cX10_parse 75 = .ok (.goto (-31), 3) := by decide +kernel
theorem dX10_parse_78 : decode cX10_parse 78 = .ok (.aload_n 0, 1) := by decide +kernel
theorem dX10_parse_79 : decode cX10_parse 79 = .ok (.getfield 99, 3) := by decide +kernel
theorem dX10_parse_82 : decode cX10_parse 82 = .ok (.aload_n 0, 1) := by decide +kernel
theorem dX10_parse_83 : decode cX10_parse 83 = .ok (.getfield 102, 3) := by decide +kernel
theorem dX10_parse_86 : decode cX10_parse 86 = .ok (.if_icmp .ge 7, 3) := by decide +kernel
theorem dX10_parse_89 : decode cX10_parse 89 = .ok (.aload_n 0, 1) := by decide +kernel
theorem dX10_parse_90 : decode cX10_parse 90 = .ok (.invokevirtual 118, 3) := by decide +kernel
theorem dX10_parse_93 : decode cX10_parse 93 = .ok (.aload_n 0, 1) := by decide +kernel
theorem dX10_parse_94 : decode cX10_parse 94 = .ok (.getfield 112, 3) := by decide +kernel
theorem dX10_parse_97 : decode cX10_parse 97 = .ok (.iconst (-1), 1) := by decide +kernel
theorem dX10_parse_98 : decode cX10_parse 98 = .ok (.if_icmp .eq 11, 3) := by decide +kernel
theorem dX10_parse_101 : decode cX10_parse 101 = .ok (.bipush (-100), 2) := by decide +kernel
theorem dX10_parse_103 : decode cX10_parse 103 = .ok (.aload_n 0, 1) := by decide +kernel
theorem dX10_parse_104 : decode cX10_parse 104 = .ok (.getfield 112, 3) := by decide +kernel
theorem dX10_parse_107 : decode cX10_parse 107 = .ok (.isub, 1) := by decide +kernel
theorem dX10_parse_108 : decode cX10_parse 108 = .ok (.ireturn, 1) := by decide +kernel
theorem dX10_parse_109 : decode cX10_parse 109 = .ok (.iconst 1, 1) := by decide +kernel
theorem dX10_parse_110 : decode cX10_parse 110 = .ok (.istore_n 1, 1) := by decide +kernel
theorem dX10_parse_111 : decode cX10_parse 111 = .ok (.iconst 0, 1) := by decide +kernel
theorem dX10_parse_112 : decode cX10_parse 112 = .ok (.istore_n 2, 1) := by decide +kernel
theorem dX10_parse_113 : decode cX10_parse 113 = .ok (.iload_n 2, 1) := by decide +kernel
theorem dX10_parse_114 : decode cX10_parse 114 = .ok (.aload_n 0, 1) := by decide +kernel
theorem dX10_parse_115 : decode cX10_parse 115 = .ok (.getfield 133, 3) := by decide +kernel
theorem dX10_parse_118 : decode cX10_parse 118 = .ok (.if_icmp .ge 29, 3) := by decide +kernel
theorem dX10_parse_121 : decode cX10_parse 121 = .ok (.iload_n 1, 1) := by decide +kernel
theorem dX10_parse_122 : decode cX10_parse 122 = .ok (.ifCond .eq 17, 3) := by decide +kernel
theorem dX10_parse_125 : decode cX10_parse 125 = .ok (.aload_n 0, 1) := by decide +kernel
theorem dX10_parse_126 : decode cX10_parse 126 = .ok (.iconst 4, 1) := by decide +kernel
theorem dX10_parse_127 : decode cX10_parse 127 = .ok (.iload_n 2, 1) := by decide +kernel
theorem dX10_parse_128 : decode cX10_parse 128 = .ok (.imul, 1) := by decide +kernel
theorem dX10_parse_129 : decode cX10_parse 129 = .ok (.invokevirtual 143, 3) := by decide +kernel
theorem dX10_parse_132 : decode cX10_parse 132 = .ok (.ifCond .eq 7, 3) := by decide +kernel
theorem dX10_parse_135 : decode cX10_parse 135 = .ok (.iconst 1, 1) := by decide +kernel
theorem dX10_parse_136 : decode cX10_parse 136 = .ok (.goto 4, 3) := by decide +kernel
theorem dX10_parse_139 : decode cX10_parse 139 = .ok (.iconst 0, 1) := by decide +kernel
theorem dX10_parse_140 : decode cX10_parse 140 = .ok (.istore_n 1, 1) := by decide +kernel
theorem dX10_parse_141 : decode cX10_parse 141 = .ok (.iinc 2 1, 3) := by decide +kernel
theorem dX10_parse_144 : decode cX10_parse 144 = .ok (.goto (-31), 3) := by decide +kernel
theorem dX10_parse_147 : decode cX10_parse 147 = .ok (.iload_n 1, 1) := by decide +kernel
theorem dX10_parse_148 : decode cX10_parse 148 = .ok (.ifCond .ne 9, 3) := by decide +kernel
theorem dX10_parse_151 : decode cX10_parse 151 = .ok (.aload_n 0, 1) := by decide +kernel
theorem dX10_parse_152 : decode cX10_parse 152 = .ok (.iconst 1, 1) := by decide +kernel
theorem dX10_parse_153 : decode cX10_parse 153 = .ok (.invokevirtual 92, 3) := by decide +kernel
theorem dX10_parse_156 : decode cX10_parse 156 = .ok (.ireturn, 1) := by decide +kernel
theorem dX10_parse_157 : decode cX10_parse 157 = .ok (.aload_n 0, 1) := by decide +kernel
theorem dX10_parse_158 : decode cX10_parse 158 = .ok (.getfield 146, 3) := by decide +kernel
theorem dX10_parse_161 : decode cX10_parse 161 = .ok (.aload_n 0, 1) := by decide +kernel
theorem dX10_parse_162 : decode cX10_parse 162 = .ok (.getfield 133, 3) := by decide +kernel
theorem dX10_parse_165 : decode cX10_parse 165 = .ok (.iadd, 1) := by decide +kernel
theorem dX10_parse_166 : decode cX10_parse 166 = .ok (.bipush 30, 2) := by decide +kernel
theorem dX10_parse_168 : decode cX10_parse 168 = .ok (.if_icmp .le 9, 3) := by decide +kernel
theorem dX10_parse_171 : decode cX10_parse 171 = .ok (.aload_n 0, 1) := by decide +kernel
theorem dX10_parse_172 : decode cX10_parse 172 = .ok (.iconst 2, 1) := by decide +kernel
theorem dX10_parse_173 : decode cX10_parse 173 = .ok (.invokevirtual 92, 3) := by decide +kernel
theorem dX10_parse_176 : decode cX10_parse 176 = .ok (.ireturn, 1) := by decide +kernel
theorem dX10_parse_177 : decode cX10_parse 177 = .ok (.aload_n 0, 1) := by decide +kernel
theorem dX10_parse_178 : decode cX10_parse 178 = .ok (.getfield 146, 3) := by decide +kernel
theorem dX10_parse_181 : decode cX10_parse 181 = .ok (.istore_n 2, 1) := by decide +kernel
theorem dX10_parse_182 : decode cX10_parse 182 = .ok (.iconst 0, 1) := by decide +kernel
theorem dX10_parse_183 : decode cX10_parse 183 = .ok (.istore_n 3, 1) := by decide +kernel
theorem dX10_parse_184 : decode cX10_parse 184 = .ok (.iload_n 3, 1) := by decide +kernel
theorem dX10_parse_185 : decode cX10_parse 185 = .ok (.aload_n 0, 1) := by decide +kernel
theorem dX10_parse_186 : decode cX10_parse 186 = .ok (.getfield 133, 3) := by decide +kernel
theorem dX10_parse_189 : decode cX10_parse 189 = .ok (.if_icmp .ge 74, 3) := by decide +kernel
theorem dX10_parse_192 : decode cX10_parse 192 = .ok (.iconst 0, 1) := by decide +kernel
theorem dX10_parse_193 : decode cX10_parse 193 = .ok (.istore 4, 2) := by decide +kernel
theorem dX10_parse_195 : decode cX10_parse 195 = .ok (.iload 4, 2) := by decide +kernel
theorem dX10_parse_197 : decode cX10_parse 197 = .ok (.iconst 4, 1) := by decide +kernel
theorem dX10_parse_198 : decode cX10_parse 198 = .ok (.if_icmp .ge 59, 3) := by decide +kernel
theorem dX10_parse_201 : decode cX10_parse 201 = .ok (.aload_n 0, 1) := by decide +kernel
theorem dX10_parse_202 : decode cX10_parse 202 = .ok (.getfield 7, 3) := by decide +kernel
theorem dX10_parse_205 : decode cX10_parse 205 = .ok (.iconst 4, 1) := by decide +kernel
theorem dX10_parse_206 : decode cX10_parse 206 = .ok (.iload_n 2, 1) := by decide +kernel
theorem dX10_parse_207 : decode cX10_parse 207 = .ok (.iload_n 3, 1) := by decide +kernel
theorem dX10_parse_208 : decode cX10_parse 208 = .ok (.iadd, 1) := by decide +kernel
theorem dX10_parse_209 : decode cX10_parse 209 = .ok (.imul, 1) := by decide +kernel
theorem dX10_parse_210 : decode cX10_parse 210 = .ok (.iload 4, 2) := by decide +kernel
theorem dX10_parse_212 : decode cX10_parse 212 = .ok (.iadd, 1) := by decide +kernel
theorem dX10_parse_213 : decode cX10_parse 213 = .ok (.aload_n 0, 1) := by decide +kernel
theorem dX10_parse_214 : decode cX10_parse 214 = .ok (.getfield 23, 3) := by decide +kernel
theorem dX10_parse_217 : decode cX10_parse 217 = .ok (.iconst 4, 1) := by decide +kernel
theorem dX10_parse_218 : decode cX10_parse 218 = .ok (.iload_n 3, 1) := by decide +kernel
theorem dX10_parse_219 : decode cX10_parse 219 = .ok (.imul, 1) := by decide +kernel
theorem dX10_parse_220 : decode cX10_parse 220 = .ok (.iload 4, 2) := by decide +kernel
theorem dX10_parse_222 : decode cX10_parse 222 = .ok (.iadd, 1) := by decide +kernel
theorem dX10_parse_223 : decode cX10_parse 223 = .ok (.iaload, 1) := by decide +kernel
theorem dX10_parse_224 : decode cX10_parse 224 = .ok (.iload 4, 2) := by decide +kernel
theorem dX10_parse_226 : decode cX10_parse 226 = .ok (.iconst 3, 1) := by decide +kernel
theorem dX10_parse_227 : decode cX10_parse 227 = .ok (.if_icmp .ne 21, 3) := by decide +kernel
theorem dX10_parse_230 : decode cX10_parse 230 = .ok (.aload_n 0, 1) := by decide +kernel
theorem dX10_parse_231 : decode cX10_parse 231 = .ok (.getfield 23, 3) := by decide +kernel
theorem dX10_parse_234 : decode cX10_parse 234 = .ok (.iconst 4, 1) := by decide +kernel
theorem dX10_parse_235 : decode cX10_parse 235 = .ok (.iload_n 3, 1) := by decide +kernel
theorem dX10_parse_236 : decode cX10_parse 236 = .ok (.imul, 1) := by decide +kernel
theorem dX10_parse_237 : decode cX10_parse 237 = .ok (.iaload, 1) := by decide +kernel
theorem dX10_parse_238 : decode cX10_parse 238 = .ok (.invokestatic 81, 3) := by decide +kernel
theorem dX10_parse_241 : decode cX10_parse 241 = .ok (.ifCond .eq 7, 3) := by decide +kernel
theorem dX10_parse_244 : decode cX10_parse 244 = .ok (.iload_n 2, 1) := by decide +kernel
theorem dX10_parse_245 : decode cX10_parse 245 = .ok (.goto 4, 3) := by decide +kernel
theorem dX10_parse_248 : decode cX10_parse 248 = .ok (.iconst 0, 1) := by decide +kernel
theorem dX10_parse_249 : decode cX10_parse 249 = .ok (.iadd, 1) := by decide +kernel
theorem dX10_parse_250 : decode cX10_parse 250 = .ok (.iastore, 1) := by decide +kernel
theorem dX10_parse_251 : decode cX10_parse 251 = .ok (.iinc 4 1, 3) := by decide +kernel
theorem dX10_parse_254 : decode cX10_parse 254 = .ok (.goto (-59), 3) := by decide +kernel
theorem dX10_parse_257 : decode cX10_parse 257 = .ok (.iinc 3 1, 3) := by decide +kernel
theorem dX10_parse_260 : decode cX10_parse 260 = .ok (.goto (-76), 3) := by decide +kernel
theorem dX10_parse_263 : decode cX10_parse 263 = .ok (.aload_n 0, 1) := by decide +kernel
theorem dX10_parse_264 : decode cX10_parse 264 = .ok (.dup, 1) := by decide +kernel
theorem dX10_parse_265 : decode cX10_parse 265 = .ok (.getfield 146, 3) := by decide +kernel
theorem dX10_parse_268 : decode cX10_parse 268 = .ok (.aload_n 0, 1) := by decide +kernel
theorem dX10_parse_269 : decode cX10_parse 269 = .ok (.getfield 133, 3) := by decide +kernel
theorem dX10_parse_272 : decode cX10_parse 272 = .ok (.iadd, 1) := by decide +kernel
theorem dX10_parse_273 : decode cX10_parse 273 = .ok (.putfield 146, 3) := by decide +kernel
theorem dX10_parse_276 : decode cX10_parse 276 = .ok (.aload_n 0, 1) := by decide +kernel
theorem dX10_parse_277 : decode cX10_parse 277 = .ok (.getfield 133, 3) := by decide +kernel
theorem dX10_parse_280 : decode cX10_parse 280 = .ok (.ireturn, 1) := by decide +kernel
theorem dX10_clear_0 : decode cX10_clear 0 = .ok (.aload_n 0, 1) := by decide +kernel
theorem dX10_clear_1 : decode cX10_clear 1 = .ok (.iconst 0, 1) := by decide +kernel
theorem dX10_clear_2 : decode cX10_clear 2 = .ok (.putfield 69, 3) := by decide +kernel
theorem dX10_clear_5 : decode cX10_clear 5 = .ok (.aload_n 0, 1) := by decide +kernel
theorem dX10_clear_6 : decode cX10_clear 6 = .ok (.getfield 146, 3) := by decide +kernel
theorem dX10_clear_9 : decode cX10_clear 9 = .ok (.istore_n 1, 1) := by decide +kernel
theorem dX10_clear_10 : decode cX10_clear 10 = .ok (.aload_n 0, 1) := by decide +kernel
theorem dX10_clear_11 : decode cX10_clear 11 = .ok (.iconst 0, 1) := by decide +kernel
theorem dX10_clear_12 : decode cX10_clear 12 = .ok (.putfield 146, 3) := by decide +kernel
theorem dX10_clear_15 : decode cX10_clear 15 = .ok (.iload_n 1, 1) := by decide +kernel
theorem dX10_clear_16 : decode cX10_clear 16 = .ok (.ireturn, 1) := by decide +kernel
theorem dX10_instructions_0 : decode cX10_instructions 0 = .ok (.aload_n 0, 1) := by decide +kernel
theorem dX10_instructions_1 : decode cX10_instructions 1 = .ok (.iconst 0, 1) := by decide +kernel
theorem dX10_instructions_2 : decode cX10_instructions 2 = .ok (.putfield 69, 3) := by decide +kernel
theorem dX10_instructions_5 : decode cX10_instructions 5 = .ok (.aload_n 0, 1) := by decide +kernel
theorem dX10_instructions_6 : decode cX10_instructions 6 = .ok (.getfield 146, 3) := by decide +kernel
theorem dX10_instructions_9 : decode cX10_instructions 9 = .ok (.ireturn, 1) := by decide +kernel
theorem dX10_instruction_0 : decode cX10_instruction 0 = .ok (.aload_n 0, 1) := by decide +kernel
theorem dX10_instruction_1 : decode cX10_instruction 1 = .ok (.iload_n 1, 1) := by decide +kernel
theorem dX10_instruction_2 : decode cX10_instruction 2 = .ok (.iconst 0, 1) := by decide +kernel
theorem dX10_instruction_3 : decode cX10_instruction 3 = .ok (.aload_n 0, 1) := by decide +kernel
theorem dX10_instruction_4 : decode cX10_instruction 4 = .ok (.getfield 146, 3) := by decide +kernel
theorem dX10_instruction_7 : decode cX10_instruction 7 = .ok (.iconst 1, 1) := by decide +kernel
theorem dX10_instruction_8 : decode cX10_instruction 8 = .ok (.isub, 1) := by decide +kernel
theorem dX10_instruction_9 : decode cX10_instruction 9 = .ok (.invokestatic 73, 3) := by decide +kernel
theorem dX10_instruction_12 : decode cX10_instruction 12 = .ok (.ifCond .ne 7, 3) := by decide +kernel
theorem dX10_instruction_15 : decode cX10_instruction 15 = .ok (.iconst 1, 1) := by decide +kernel
theorem dX10_instruction_16 : decode cX10_instruction 16 = .ok (.goto 17, 3) := by decide +kernel
theorem dX10_instruction_19 : decode cX10_instruction 19 = .ok (.iload_n 2, 1) := by decide +kernel
theorem dX10_instruction_20 : decode cX10_instruction 20 = .ok (.iconst 0, 1) := by decide +kernel
theorem dX10_instruction_21 : decode cX10_instruction 21 = .ok (.iconst 3, 1) := by decide +kernel
theorem dX10_instruction_22 : decode cX10_instruction 22 = .ok (.invokestatic 73, 3) := by decide +kernel
theorem dX10_instruction_25 : decode cX10_instruction 25 = .ok (.ifCond .ne 7, 3) := by decide +kernel
theorem dX10_instruction_28 : decode cX10_instruction 28 = .ok (.iconst 2, 1) := by decide +kernel
theorem dX10_instruction_29 : decode cX10_instruction 29 = .ok (.goto 4, 3) := by decide +kernel
theorem dX10_instruction_32 : decode cX10_instruction 32 = .ok (.iconst 0, 1) := by decide +kernel
theorem dX10_instruction_33 : decode cX10_instruction 33 = .ok (.putfield 69, 3) := by decide +kernel
theorem dX10_instruction_36 : decode cX10_instruction 36 = .ok (.aload_n 0, 1) := by decide +kernel
theorem dX10_instruction_37 : decode cX10_instruction 37 = .ok (.getfield 69, 3) := by decide +kernel
theorem dX10_instruction_40 : decode cX10_instruction 40 = .ok (.ifCond .ne 16, 3) := by decide +kernel
theorem dX10_instruction_43 : decode cX10_instruction 43 = .ok (.aload_n 0, 1) := by decide +kernel
theorem dX10_instruction_44 : decode cX10_instruction 44 = .ok (.getfield 7, 3) := by decide +kernel
theorem dX10_instruction_47 : decode cX10_instruction 47 = .ok (.iconst 4, 1) := by decide +kernel
theorem dX10_instruction_48 : decode cX10_instruction 48 = .ok (.iload_n 1, 1) := by decide +kernel
theorem dX10_instruction_49 : decode cX10_instruction 49 = .ok (.imul, 1) := by decide +kernel
theorem dX10_instruction_50 : decode cX10_instruction 50 = .ok (.iload_n 2, 1) := by decide +kernel
theorem dX10_instruction_51 : decode cX10_instruction 51 = .ok (.iadd, 1) := by decide +kernel
theorem dX10_instruction_52 : decode cX10_instruction 52 = .ok (.iaload, 1) := by decide +kernel
theorem dX10_instruction_53 : decode cX10_instruction 53 = .ok (.goto 4, 3) := by decide +kernel
theorem dX10_instruction_56 : decode cX10_instruction 56 = .ok (.iconst 0, 1) := by decide +kernel
theorem dX10_instruction_57 : decode cX10_instruction 57 = .ok (.ireturn, 1) := by decide +kernel
theorem dX10_entryOf_0 : decode cX10_entryOf 0 = .ok (.iload_n 1, 1) := by decide +kernel
theorem dX10_entryOf_1 : decode cX10_entryOf 1 = .ok (.istore_n 2, 1) := by decide +kernel
theorem dX10_entryOf_2 : decode cX10_entryOf 2 = .ok (.iconst 0, 1) := by decide +kernel
theorem dX10_entryOf_3 : decode cX10_entryOf 3 = .ok (.istore_n 3, 1) := by decide +kernel
theorem dX10_entryOf_4 : decode cX10_entryOf 4 = .ok (.iload_n 3, 1) := by decide +kernel
theorem dX10_entryOf_5 : decode cX10_entryOf 5 = .ok (.iload_n 1, 1) := by decide +kernel
theorem dX10_entryOf_6 : decode cX10_entryOf 6 = .ok (.if_icmp .ge 31, 3) := by decide +kernel
theorem dX10_entryOf_9 : decode cX10_entryOf 9 = .ok (.iload_n 2, 1) := by decide +kernel
theorem dX10_entryOf_10 : decode cX10_entryOf 10 = .ok (.aload_n 0, 1) := by decide +kernel
theorem dX10_entryOf_11 : decode cX10_entryOf 11 = .ok (.getfield 7, 3) := by decide +kernel
theorem dX10_entryOf_14 : decode cX10_entryOf 14 = .ok (.iconst 4, 1) := by decide +kernel
theorem dX10_entryOf_15 : decode cX10_entryOf 15 = .ok (.iload_n 3, 1) := by decide +kernel
theorem dX10_entryOf_16 : decode cX10_entryOf 16 = .ok (.imul, 1) := by decide +kernel
theorem dX10_entryOf_17 : decode cX10_entryOf 17 = .ok (.iaload, 1) := by decide +kernel
theorem dX10_entryOf_18 : decode cX10_entryOf 18 = .ok (.invokestatic 81, 3) := by decide +kernel
theorem dX10_entryOf_21 : decode cX10_entryOf 21 = .ok (.ifCond .eq 7, 3) := by decide +kernel
theorem dX10_entryOf_24 : decode cX10_entryOf 24 = .ok (.iconst 1, 1) := by decide +kernel
theorem dX10_entryOf_25 : decode cX10_entryOf 25 = .ok (.goto 4, 3) := by decide +kernel
theorem dX10_entryOf_28 : decode cX10_entryOf 28 = .ok (.iconst 0, 1) := by decide +kernel
theorem dX10_entryOf_29 : decode cX10_entryOf 29 = .ok (.iadd, 1) := by decide +kernel
theorem dX10_entryOf_30 : decode cX10_entryOf 30 = .ok (.istore_n 2, 1) := by decide +kernel
theorem dX10_entryOf_31 : decode cX10_entryOf 31 = .ok (.iinc 3 1, 3) := by decide +kernel
theorem dX10_entryOf_34 : decode cX10_entryOf 34 = .ok (.goto (-30), 3) := by decide +kernel
theorem dX10_entryOf_37 : decode cX10_entryOf 37 = .ok (.iload_n 2, 1) := by decide +kernel
theorem dX10_entryOf_38 : decode cX10_entryOf 38 = .ok (.ireturn, 1) := by decide +kernel
theorem dX10_expand_0 : decode cX10_expand 0 = .ok (.aload_n 0, 1) := by decide +kernel
theorem dX10_expand_1 : decode cX10_expand 1 = .ok (.iconst 0, 1) := by decide +kernel
theorem dX10_expand_2 : decode cX10_expand 2 = .ok (.putfield 69, 3) := by decide +kernel
theorem dX10_expand_5 : decode cX10_expand 5 = .ok (.aload_n 0, 1) := by decide +kernel
theorem dX10_expand_6 : decode cX10_expand 6 = .ok (.invokevirtual 149, 3) := by decide +kernel
theorem dX10_expand_9 : decode cX10_expand 9 = .ok (.aload_n 0, 1) := by decide +kernel
theorem dX10_expand_10 : decode cX10_expand 10 = .ok (.getfield 13, 3) := by decide +kernel
theorem dX10_expand_13 : decode cX10_expand 13 = .ok (.iconst 0, 1) := by decide +kernel
theorem dX10_expand_14 : decode cX10_expand 14 = .ok (.iconst 0, 1) := by decide +kernel
theorem dX10_expand_15 : decode cX10_expand 15 = .ok (.iastore, 1) := by decide +kernel
theorem dX10_expand_16 : decode cX10_expand 16 = .ok (.iconst 0, 1) := by decide +kernel
theorem dX10_expand_17 : decode cX10_expand 17 = .ok (.istore_n 1, 1) := by decide +kernel
theorem dX10_expand_18 : decode cX10_expand 18 = .ok (.iload_n 1, 1) := by decide +kernel
theorem dX10_expand_19 : decode cX10_expand 19 = .ok (.aload_n 0, 1) := by decide +kernel
theorem dX10_expand_20 : decode cX10_expand 20 = .ok (.getfield 146, 3) := by decide +kernel
theorem dX10_expand_23 : decode cX10_expand 23 = .ok (.if_icmp .ge 122, 3) := by decide +kernel
theorem dX10_expand_26 : decode cX10_expand 26 = .ok (.iconst 4, 1) := by decide +kernel
theorem dX10_expand_27 : decode cX10_expand 27 = .ok (.iload_n 1, 1) := by decide +kernel
theorem dX10_expand_28 : decode cX10_expand 28 = .ok (.imul, 1) := by decide +kernel
theorem dX10_expand_29 : decode cX10_expand 29 = .ok (.istore_n 2, 1) := by decide +kernel
theorem dX10_expand_30 : decode cX10_expand 30 = .ok (.aload_n 0, 1) := by decide +kernel
theorem dX10_expand_31 : decode cX10_expand 31 = .ok (.getfield 7, 3) := by decide +kernel
theorem dX10_expand_34 : decode cX10_expand 34 = .ok (.iload_n 2, 1) := by decide +kernel
theorem dX10_expand_35 : decode cX10_expand 35 = .ok (.iaload, 1) := by decide +kernel
theorem dX10_expand_36 : decode cX10_expand 36 = .ok (.invokestatic 81, 3) := by decide +kernel
theorem dX10_expand_39 : decode cX10_expand 39 = .ok (.istore_n 3, 1) := by decide +kernel
theorem dX10_expand_40 : decode cX10_expand 40 = .ok (.aload_n 0, 1) := by decide +kernel
theorem dX10_expand_41 : decode cX10_expand 41 = .ok (.aload_n 0, 1) := by decide +kernel
theorem dX10_expand_42 : decode cX10_expand 42 = .ok (.getfield 13, 3) := by decide +kernel
theorem dX10_expand_45 : decode cX10_expand 45 = .ok (.iconst 0, 1) := by decide +kernel
theorem dX10_expand_46 : decode cX10_expand 46 = .ok (.iaload, 1) := by decide +kernel
theorem dX10_expand_47 : decode cX10_expand 47 = .ok (.aload_n 0, 1) := by decide +kernel
theorem dX10_expand_48 : decode cX10_expand 48 = .ok (.getfield 7, 3) := by decide +kernel
theorem dX10_expand_51 : decode cX10_expand 51 = .ok (.iload_n 2, 1) := by decide +kernel
theorem dX10_expand_52 : decode cX10_expand 52 = .ok (.iaload, 1) := by decide +kernel
theorem dX10_expand_53 : decode cX10_expand 53 = .ok (.aload_n 0, 1) := by decide +kernel
theorem dX10_expand_54 : decode cX10_expand 54 = .ok (.getfield 7, 3) := by decide +kernel
theorem dX10_expand_57 : decode cX10_expand 57 = .ok (.iload_n 2, 1) := by decide +kernel
theorem dX10_expand_58 : decode cX10_expand 58 = .ok (.iconst 1, 1) := by decide +kernel
theorem dX10_expand_59 : decode cX10_expand 59 = .ok (.iadd, 1) := by decide +kernel
theorem dX10_expand_60 : decode cX10_expand 60 = .ok (.iaload, 1) := by decide +kernel
theorem dX10_expand_61 : decode cX10_expand 61 = .ok (.aload_n 0, 1) := by decide +kernel
theorem dX10_expand_62 : decode cX10_expand 62 = .ok (.getfield 7, 3) := by decide +kernel
theorem dX10_expand_65 : decode cX10_expand 65 = .ok (.iload_n 2, 1) := by decide +kernel
theorem dX10_expand_66 : decode cX10_expand 66 = .ok (.iconst 2, 1) := by decide +kernel
theorem dX10_expand_67 : decode cX10_expand 67 = .ok (.iadd, 1) := by decide +kernel
theorem dX10_expand_68 : decode cX10_expand 68 = .ok (.iaload, 1) := by decide +kernel
theorem dX10_expand_69 : decode cX10_expand 69 = .ok (.iload_n 3, 1) := by decide +kernel
theorem dX10_expand_70 : decode cX10_expand 70 = .ok (.ifCond .eq 18, 3) := by decide +kernel
theorem dX10_expand_73 : decode cX10_expand 73 = .ok (.aload_n 0, 1) := by decide +kernel
theorem dX10_expand_74 : decode cX10_expand 74 = .ok (.aload_n 0, 1) := by decide +kernel
theorem dX10_expand_75 : decode cX10_expand 75 = .ok (.getfield 7, 3) := by decide +kernel
theorem dX10_expand_78 : decode cX10_expand 78 = .ok (.iload_n 2, 1) := by decide +kernel
theorem dX10_expand_79 : decode cX10_expand 79 = .ok (.iconst 3, 1) := by decide +kernel
theorem dX10_expand_80 : decode cX10_expand 80 = .ok (.iadd, 1) := by decide +kernel
theorem dX10_expand_81 : decode cX10_expand 81 = .ok (.iaload, 1) := by decide +kernel
theorem dX10_expand_82 : decode cX10_expand 82 = .ok (.invokevirtual 152, 3) := by decide +kernel
theorem dX10_expand_85 : decode cX10_expand 85 = .ok (.goto 11, 3) := by decide +kernel
theorem dX10_expand_88 : decode cX10_expand 88 = .ok (.aload_n 0, 1) := by decide +kernel
theorem dX10_expand_89 : decode cX10_expand 89 = .ok (.getfield 7, 3) := by decide +kernel
theorem dX10_expand_92 : decode cX10_expand 92 = .ok (.iload_n 2, 1) := by decide +kernel
theorem dX10_expand_93 : decode cX10_expand 93 = .ok (.iconst 3, 1) := by decide +kernel
theorem dX10_expand_94 : decode cX10_expand 94 = .ok (.iadd, 1) := by decide +kernel
theorem dX10_expand_95 : decode cX10_expand 95 = .ok (.iaload, 1) := by decide +kernel
theorem dX10_expand_96 : decode cX10_expand 96 = .ok (.iconst 0, 1) := by decide +kernel
theorem dX10_expand_97 : decode cX10_expand 97 = .ok (.invokevirtual 155, 3) := by decide +kernel
theorem dX10_expand_100 : decode cX10_expand 100 = .ok (.aload_n 0, 1) := by decide +kernel
theorem dX10_expand_101 : decode cX10_expand 101 = .ok (.getfield 13, 3) := by decide +kernel
theorem dX10_expand_104 : decode cX10_expand 104 = .ok (.iconst 0, 1) := by decide +kernel
theorem dX10_expand_105 : decode cX10_expand 105 = .ok (.dup2, 1) := by decide +kernel
theorem dX10_expand_106 : decode cX10_expand 106 = .ok (.iaload, 1) := by decide +kernel
theorem dX10_expand_107 : decode cX10_expand 107 = .ok (.iconst 1, 1) := by decide +kernel
theorem dX10_expand_108 : decode cX10_expand 108 = .ok (.iadd, 1) := by decide +kernel
theorem dX10_expand_109 : decode cX10_expand 109 = .ok (.iastore, 1) := by decide +kernel
theorem dX10_expand_110 : decode cX10_expand 110 = .ok (.iload_n 3, 1) := by decide +kernel
theorem dX10_expand_111 : decode cX10_expand 111 = .ok (.ifCond .eq 28, 3) := by decide +kernel
theorem dX10_expand_114 : decode cX10_expand 114 = .ok (.aload_n 0, 1) := by decide +kernel
theorem dX10_expand_115 : decode cX10_expand 115 = .ok (.aload_n 0, 1) := by decide +kernel
theorem dX10_expand_116 : decode cX10_expand 116 = .ok (.getfield 13, 3) := by decide +kernel
theorem dX10_expand_119 : decode cX10_expand 119 = .ok (.iconst 0, 1) := by decide +kernel
theorem dX10_expand_120 : decode cX10_expand 120 = .ok (.iaload, 1) := by decide +kernel
theorem dX10_expand_121 : decode cX10_expand 121 = .ok (.iconst 0, 1) := by decide +kernel
theorem dX10_expand_122 : decode cX10_expand 122 = .ok (.iconst 0, 1) := by decide +kernel
theorem dX10_expand_123 : decode cX10_expand 123 = .ok (.iconst 0, 1) := by decide +kernel
theorem dX10_expand_124 : decode cX10_expand 124 = .ok (.iconst 0, 1) := by decide +kernel
theorem dX10_expand_125 : decode cX10_expand 125 = .ok (.iconst 0, 1) := by decide +kernel
theorem dX10_expand_126 : decode cX10_expand 126 = .ok (.invokevirtual 155, 3) := by decide +kernel
theorem dX10_expand_129 : decode cX10_expand 129 = .ok (.aload_n 0, 1) := by decide +kernel
theorem dX10_expand_130 : decode cX10_expand 130 = .ok (.getfield 13, 3) := by decide +kernel
theorem dX10_expand_133 : decode cX10_expand 133 = .ok (.iconst 0, 1) := by decide +kernel
theorem dX10_expand_134 : decode cX10_expand 134 = .ok (.dup2, 1) := by decide +kernel
theorem dX10_expand_135 : decode cX10_expand 135 = .ok (.iaload, 1) := by decide +kernel
theorem dX10_expand_136 : decode cX10_expand 136 = .ok (.iconst 1, 1) := by decide +kernel
theorem dX10_expand_137 : decode cX10_expand 137 = .ok (.iadd, 1) := by decide +kernel
theorem dX10_expand_138 : decode cX10_expand 138 = .ok (.iastore, 1) := by decide +kernel
theorem dX10_expand_139 : decode cX10_expand 139 = .ok (.iinc 1 1, 3) := by decide +kernel
theorem dX10_expand_142 : decode cX10_expand 142 = .ok (.goto (-124), 3) := by decide +kernel
theorem dX10_expand_145 : decode cX10_expand 145 = .ok (.aload_n 0, 1) := by decide +kernel
theorem dX10_expand_146 : decode cX10_expand 146 = .ok (.getfield 13, 3) := by decide +kernel
theorem dX10_expand_149 : decode cX10_expand 149 = .ok (.iconst 0, 1) := by decide +kernel
theorem dX10_expand_150 : decode cX10_expand 150 = .ok (.iaload, 1) := by decide +kernel
theorem dX10_expand_151 : decode cX10_expand 151 = .ok (.ireturn, 1) := by decide +kernel
theorem dX10_entries_0 : decode cX10_entries 0 = .ok (.aload_n 0, 1) := by decide +kernel
theorem dX10_entries_1 : decode cX10_entries 1 = .ok (.iconst 0, 1) := by decide +kernel
theorem dX10_entries_2 : decode cX10_entries 2 = .ok (.putfield 69, 3) := by decide +kernel
theorem dX10_entries_5 : decode cX10_entries 5 = .ok (.aload_n 0, 1) := by decide +kernel
theorem dX10_entries_6 : decode cX10_entries 6 = .ok (.invokevirtual 85, 3) := by decide +kernel
theorem dX10_entries_9 : decode cX10_entries 9 = .ok (.ireturn, 1) := by decide +kernel
theorem dX10_targeted_0 : decode cX10_targeted 0 = .ok (.iconst 0, 1) := by decide +kernel
theorem dX10_targeted_1 : decode cX10_targeted 1 = .ok (.istore_n 2, 1) := by decide +kernel
theorem dX10_targeted_2 : decode cX10_targeted 2 = .ok (.iconst 0, 1) := by decide +kernel
theorem dX10_targeted_3 : decode cX10_targeted 3 = .ok (.istore_n 3, 1) := by decide +kernel
theorem dX10_targeted_4 : decode cX10_targeted 4 = .ok (.iload_n 3, 1) := by decide +kernel
theorem dX10_targeted_5 : decode cX10_targeted 5 = .ok (.aload_n 0, 1) := by decide +kernel
theorem dX10_targeted_6 : decode cX10_targeted 6 = .ok (.invokevirtual 85, 3) := by decide +kernel
theorem dX10_targeted_9 : decode cX10_targeted 9 = .ok (.if_icmp .ge 39, 3) := by decide +kernel
theorem dX10_targeted_12 : decode cX10_targeted 12 = .ok (.iload_n 2, 1) := by decide +kernel
theorem dX10_targeted_13 : decode cX10_targeted 13 = .ok (.aload_n 0, 1) := by decide +kernel
theorem dX10_targeted_14 : decode cX10_targeted 14 = .ok (.iload_n 3, 1) := by decide +kernel
theorem dX10_targeted_15 : decode cX10_targeted 15 = .ok (.iconst 0, 1) := by decide +kernel
theorem dX10_targeted_16 : decode cX10_targeted 16 = .ok (.invokevirtual 77, 3) := by decide +kernel
theorem dX10_targeted_19 : decode cX10_targeted 19 = .ok (.invokestatic 81, 3) := by decide +kernel
theorem dX10_targeted_22 : decode cX10_targeted 22 = .ok (.ifCond .eq 17, 3) := by decide +kernel
theorem dX10_targeted_25 : decode cX10_targeted 25 = .ok (.aload_n 0, 1) := by decide +kernel
theorem dX10_targeted_26 : decode cX10_targeted 26 = .ok (.iload_n 3, 1) := by decide +kernel
theorem dX10_targeted_27 : decode cX10_targeted 27 = .ok (.iconst 3, 1) := by decide +kernel
theorem dX10_targeted_28 : decode cX10_targeted 28 = .ok (.invokevirtual 77, 3) := by decide +kernel
theorem dX10_targeted_31 : decode cX10_targeted 31 = .ok (.iload_n 1, 1) := by decide +kernel
theorem dX10_targeted_32 : decode cX10_targeted 32 = .ok (.if_icmp .ne 7, 3) := by decide +kernel
theorem dX10_targeted_35 : decode cX10_targeted 35 = .ok (.iconst 1, 1) := by decide +kernel
theorem dX10_targeted_36 : decode cX10_targeted 36 = .ok (.goto 4, 3) := by decide +kernel
theorem dX10_targeted_39 : decode cX10_targeted 39 = .ok (.iconst 0, 1) := by decide +kernel
theorem dX10_targeted_40 : decode cX10_targeted 40 = .ok (.iadd, 1) := by decide +kernel
theorem dX10_targeted_41 : decode cX10_targeted 41 = .ok (.istore_n 2, 1) := by decide +kernel
theorem dX10_targeted_42 : decode cX10_targeted 42 = .ok (.iinc 3 1, 3) := by decide +kernel
theorem dX10_targeted_45 : decode cX10_targeted 45 = .ok (.goto (-41), 3) := by decide +kernel
theorem dX10_targeted_48 : decode cX10_targeted 48 = .ok (.iload_n 2, 1) := by decide +kernel
theorem dX10_targeted_49 : decode cX10_targeted 49 = .ok (.ireturn, 1) := by decide +kernel
theorem dX10_entry_0 : decode cX10_entry 0 = .ok (.aload_n 0, 1) := by decide +kernel
theorem dX10_entry_1 : decode cX10_entry 1 = .ok (.aload_n 0, 1) := by decide +kernel
theorem dX10_entry_2 : decode cX10_entry 2 = .ok (.iload_n 1, 1) := by decide +kernel
theorem dX10_entry_3 : decode cX10_entry 3 = .ok (.invokevirtual 159, 3) := by decide +kernel
theorem dX10_entry_6 : decode cX10_entry 6 = .ok (.ifCond .ne 7, 3) := by decide +kernel
theorem dX10_entry_9 : decode cX10_entry 9 = .ok (.iconst 1, 1) := by decide +kernel
theorem dX10_entry_10 : decode cX10_entry 10 = .ok (.goto 18, 3) := by decide +kernel
theorem dX10_entry_13 : decode cX10_entry 13 = .ok (.iload_n 2, 1) := by decide +kernel
theorem dX10_entry_14 : decode cX10_entry 14 = .ok (.iconst 0, 1) := by decide +kernel
theorem dX10_entry_15 : decode cX10_entry 15 = .ok (.bipush 6, 2) := by decide +kernel
theorem dX10_entry_17 : decode cX10_entry 17 = .ok (.invokestatic 73, 3) := by decide +kernel
theorem dX10_entry_20 : decode cX10_entry 20 = .ok (.ifCond .ne 7, 3) := by decide +kernel
theorem dX10_entry_23 : decode cX10_entry 23 = .ok (.iconst 2, 1) := by decide +kernel
theorem dX10_entry_24 : decode cX10_entry 24 = .ok (.goto 4, 3) := by decide +kernel
theorem dX10_entry_27 : decode cX10_entry 27 = .ok (.iconst 0, 1) := by decide +kernel
theorem dX10_entry_28 : decode cX10_entry 28 = .ok (.putfield 69, 3) := by decide +kernel
theorem dX10_entry_31 : decode cX10_entry 31 = .ok (.aload_n 0, 1) := by decide +kernel
theorem dX10_entry_32 : decode cX10_entry 32 = .ok (.getfield 69, 3) := by decide +kernel
theorem dX10_entry_35 : decode cX10_entry 35 = .ok (.ifCond .eq 5, 3) := by decide +kernel
theorem dX10_entry_38 : decode cX10_entry 38 = .ok (.iconst 0, 1) := by decide +kernel
theorem dX10_entry_39 : decode cX10_entry 39 = .ok (.ireturn, 1) := by decide +kernel
theorem dX10_entry_40 : decode cX10_entry 40 = .ok (.iload_n 2, 1) := by decide +kernel
theorem dX10_entry_41 : decode cX10_entry 41 = .ok (.iconst 4, 1) := by decide +kernel
theorem dX10_entry_42 : decode cX10_entry 42 = .ok (.if_icmp .ge 12, 3) := by decide +kernel
theorem dX10_entry_45 : decode cX10_entry 45 = .ok (.aload_n 0, 1) := by decide +kernel
theorem dX10_entry_46 : decode cX10_entry 46 = .ok (.iload_n 1, 1) := by decide +kernel
theorem dX10_entry_47 : decode cX10_entry 47 = .ok (.iload_n 2, 1) := by decide +kernel
theorem dX10_entry_48 : decode cX10_entry 48 = .ok (.invokevirtual 77, 3) := by decide +kernel
theorem dX10_entry_51 : decode cX10_entry 51 = .ok (.goto 43, 3) := by decide +kernel
theorem dX10_entry_54 : decode cX10_entry 54 = .ok (.iload_n 2, 1) := by decide +kernel
theorem dX10_entry_55 : decode cX10_entry 55 = .ok (.iconst 4, 1) := by decide +kernel
theorem dX10_entry_56 : decode cX10_entry 56 = .ok (.if_icmp .ne 19, 3) := by decide +kernel
theorem dX10_entry_59 : decode cX10_entry 59 = .ok (.aload_n 0, 1) := by decide +kernel
theorem dX10_entry_60 : decode cX10_entry 60 = .ok (.iload_n 1, 1) := by decide +kernel
theorem dX10_entry_61 : decode cX10_entry 61 = .ok (.invokevirtual 162, 3) := by decide +kernel
theorem dX10_entry_64 : decode cX10_entry 64 = .ok (.ifCond .eq 7, 3) := by decide +kernel
theorem dX10_entry_67 : decode cX10_entry 67 = .ok (.iconst 1, 1) := by decide +kernel
theorem dX10_entry_68 : decode cX10_entry 68 = .ok (.goto 26, 3) := by decide +kernel
theorem dX10_entry_71 : decode cX10_entry 71 = .ok (.iconst 0, 1) := by decide +kernel
theorem dX10_entry_72 : decode cX10_entry 72 = .ok (.goto 22, 3) := by decide +kernel
theorem dX10_entry_75 : decode cX10_entry 75 = .ok (.iload_n 2, 1) := by decide +kernel
theorem dX10_entry_76 : decode cX10_entry 76 = .ok (.iconst 5, 1) := by decide +kernel
theorem dX10_entry_77 : decode cX10_entry 77 = .ok (.if_icmp .ne 12, 3) := by decide +kernel
theorem dX10_entry_80 : decode cX10_entry 80 = .ok (.aload_n 0, 1) := by decide +kernel
theorem dX10_entry_81 : decode cX10_entry 81 = .ok (.iload_n 1, 1) := by decide +kernel
theorem dX10_entry_82 : decode cX10_entry 82 = .ok (.iconst 4, 1) := by decide +kernel
theorem dX10_entry_83 : decode cX10_entry 83 = .ok (.invokevirtual 77, 3) := by decide +kernel
theorem dX10_entry_86 : decode cX10_entry 86 = .ok (.goto 8, 3) := by decide +kernel
theorem dX10_entry_89 : decode cX10_entry 89 = .ok (.aload_n 0, 1) := by decide +kernel
theorem dX10_entry_90 : decode cX10_entry 90 = .ok (.iload_n 1, 1) := by decide +kernel
theorem dX10_entry_91 : decode cX10_entry 91 = .ok (.invokevirtual 165, 3) := by decide +kernel
theorem dX10_entry_94 : decode cX10_entry 94 = .ok (.ireturn, 1) := by decide +kernel
theorem dX10_meet_0 : decode cX10_meet 0 = .ok (.aload_n 0, 1) := by decide +kernel
theorem dX10_meet_1 : decode cX10_meet 1 = .ok (.getfield 26, 3) := by decide +kernel
theorem dX10_meet_4 : decode cX10_meet 4 = .ok (.iload_n 1, 1) := by decide +kernel
theorem dX10_meet_5 : decode cX10_meet 5 = .ok (.iconst 1, 1) := by decide +kernel
theorem dX10_meet_6 : decode cX10_meet 6 = .ok (.bastore, 1) := by decide +kernel
theorem dX10_meet_7 : decode cX10_meet 7 = .ok (.return_, 1) := by decide +kernel
theorem dX10_findReached_0 : decode cX10_findReached 0 = .ok (.iconst 0, 1) := by decide +kernel
theorem dX10_findReached_1 : decode cX10_findReached 1 = .ok (.istore_n 1, 1) := by decide +kernel
theorem dX10_findReached_2 : decode cX10_findReached 2 = .ok (.iload_n 1, 1) := by decide +kernel
theorem dX10_findReached_3 : decode cX10_findReached 3 = .ok (.bipush 61, 2) := by decide +kernel
theorem dX10_findReached_5 : decode cX10_findReached 5 = .ok (.if_icmp .gt 24, 3) := by decide +kernel
theorem dX10_findReached_8 : decode cX10_findReached 8 = .ok (.aload_n 0, 1) := by decide +kernel
theorem dX10_findReached_9 : decode cX10_findReached 9 = .ok (.getfield 26, 3) := by decide +kernel
theorem dX10_findReached_12 : decode cX10_findReached 12 = .ok (.iload_n 1, 1) := by decide +kernel
theorem dX10_findReached_13 : decode cX10_findReached 13 = .ok (.iload_n 1, 1) := by decide +kernel
theorem dX10_findReached_14 : decode cX10_findReached 14 = .ok (.ifCond .ne 7, 3) := by decide +kernel
theorem dX10_findReached_17 : decode cX10_findReached 17 = .ok (.iconst 1, 1) := by decide +kernel
theorem dX10_findReached_18 : decode cX10_findReached 18 = .ok (.goto 4, 3) := by decide +kernel
theorem dX10_findReached_21 : decode cX10_findReached 21 = .ok (.iconst 0, 1) := by decide +kernel
theorem dX10_findReached_22 : decode cX10_findReached 22 = .ok (.bastore, 1) := by decide +kernel
theorem dX10_findReached_23 : decode cX10_findReached 23 = .ok (.iinc 1 1, 3) := by decide +kernel
theorem dX10_findReached_26 : decode cX10_findReached 26 = .ok (.goto (-24), 3) := by decide +kernel
theorem dX10_findReached_29 : decode cX10_findReached 29 = .ok (.iconst 0, 1) := by decide +kernel
theorem dX10_findReached_30 : decode cX10_findReached 30 = .ok (.istore_n 1, 1) := by decide +kernel
theorem dX10_findReached_31 : decode cX10_findReached 31 = .ok (.iload_n 1, 1) := by decide +kernel
theorem dX10_findReached_32 : decode cX10_findReached 32 = .ok (.aload_n 0, 1) := by decide +kernel
theorem dX10_findReached_33 : decode cX10_findReached 33 = .ok (.invokevirtual 85, 3) := by decide +kernel
theorem dX10_findReached_36 : decode cX10_findReached 36 = .ok (.if_icmp .ge 99, 3) := by decide +kernel
theorem dX10_findReached_39 : decode cX10_findReached 39 = .ok (.iconst 0, 1) := by decide +kernel
theorem dX10_findReached_40 : decode cX10_findReached 40 = .ok (.istore_n 2, 1) := by decide +kernel
theorem dX10_findReached_41 : decode cX10_findReached 41 = .ok (.iload_n 2, 1) := by decide +kernel
theorem dX10_findReached_42 : decode cX10_findReached 42 = .ok (.aload_n 0, 1) := by decide +kernel
theorem dX10_findReached_43 : decode cX10_findReached 43 = .ok (.invokevirtual 85, 3) := by decide +kernel
theorem dX10_findReached_46 : decode cX10_findReached 46 = .ok (.if_icmp .ge 83, 3) := by decide +kernel
theorem dX10_findReached_49 : decode cX10_findReached 49 = .ok (.aload_n 0, 1) := by decide +kernel
theorem dX10_findReached_50 : decode cX10_findReached 50 = .ok (.iload_n 2, 1) := by decide +kernel
theorem dX10_findReached_51 : decode cX10_findReached 51 = .ok (.iconst 0, 1) := by decide +kernel
theorem dX10_findReached_52 : decode cX10_findReached 52 = .ok (.invokevirtual 77, 3) := by decide +kernel
theorem dX10_findReached_55 : decode cX10_findReached 55 = .ok (.istore_n 3, 1) := by decide +kernel
theorem dX10_findReached_56 : decode cX10_findReached 56 = .ok (.aload_n 0, 1) := by decide +kernel
theorem dX10_findReached_57 : decode cX10_findReached 57 = .ok (.getfield 26, 3) := by decide +kernel
theorem dX10_findReached_60 : decode cX10_findReached 60 = .ok (.iload_n 2, 1) := by decide +kernel
theorem dX10_findReached_61 : decode cX10_findReached 61 = .ok (.baload, 1) := by decide +kernel
theorem dX10_findReached_62 : decode cX10_findReached 62 = .ok (.ifCond .eq 20, 3) := by decide +kernel
theorem dX10_findReached_65 : decode cX10_findReached 65 = .ok (.iload_n 3, 1) := by decide +kernel
theorem dX10_findReached_66 : decode cX10_findReached 66 = .ok (.invokestatic 81, 3) := by decide +kernel
theorem dX10_findReached_69 : decode cX10_findReached 69 = .ok (.ifCond .eq 13, 3) := by decide +kernel
theorem dX10_findReached_72 : decode cX10_findReached 72 = .ok (.aload_n 0, 1) := by decide +kernel
theorem dX10_findReached_73 : decode cX10_findReached 73 = .ok (.aload_n 0, 1) := by decide +kernel
theorem dX10_findReached_74 : decode cX10_findReached 74 = .ok (.iload_n 2, 1) := by decide +kernel
theorem dX10_findReached_75 : decode cX10_findReached 75 = .ok (.iconst 3, 1) := by decide +kernel
theorem dX10_findReached_76 : decode cX10_findReached 76 = .ok (.invokevirtual 77, 3) := by decide +kernel
theorem dX10_findReached_79 : decode cX10_findReached 79 = .ok (.invokevirtual 168, 3) := by decide +kernel
theorem dX10_findReached_82 : decode cX10_findReached 82 = .ok (.aload_n 0, 1) := by decide +kernel
theorem dX10_findReached_83 : decode cX10_findReached 83 = .ok (.getfield 26, 3) := by decide +kernel
theorem dX10_findReached_86 : decode cX10_findReached 86 = .ok (.iload_n 2, 1) := by decide +kernel
theorem dX10_findReached_87 : decode cX10_findReached 87 = .ok (.baload, 1) := by decide +kernel
theorem dX10_findReached_88 : decode cX10_findReached 88 = .ok (.ifCond .eq 35, 3) := by decide +kernel
theorem dX10_findReached_91 : decode cX10_findReached 91 = .ok (.iload_n 3, 1) := by decide +kernel
theorem dX10_findReached_92 : decode cX10_findReached 92 = .ok (.bipush 10, 2) := by decide +kernel
theorem dX10_findReached_94 : decode cX10_findReached 94 = .ok (.if_icmp .eq 29, 3) := by decide +kernel
theorem dX10_findReached_97 : decode cX10_findReached 97 = .ok (.iload_n 3, 1) := by decide +kernel
theorem dX10_findReached_98 : decode cX10_findReached 98 = .ok (.bipush 11, 2) := by decide +kernel
theorem dX10_findReached_100 : decode cX10_findReached 100 = .ok (.if_icmp .eq 23, 3) := by decide +kernel
theorem dX10_findReached_103 : decode cX10_findReached 103 = .ok (.aload_n 0, 1) := by decide +kernel
theorem dX10_findReached_104 : decode cX10_findReached 104 = .ok (.iload_n 3, 1) := by decide +kernel
theorem dX10_findReached_105 : decode cX10_findReached 105 = .ok (.invokestatic 81, 3) := by decide +kernel
theorem dX10_findReached_108 : decode cX10_findReached 108 = .ok (.ifCond .eq 9, 3) := by decide +kernel
theorem dX10_findReached_111 : decode cX10_findReached 111 = .ok (.iload_n 2, 1) := by decide +kernel
theorem dX10_findReached_112 : decode cX10_findReached 112 = .ok (.iconst 2, 1) := by decide +kernel
theorem dX10_findReached_113 : decode cX10_findReached 113 = .ok (.iadd, 1) := by decide +kernel
theorem dX10_findReached_114 : decode cX10_findReached 114 = .ok (.goto 6, 3) := by decide +kernel
theorem dX10_findReached_117 : decode cX10_findReached 117 = .ok (.iload_n 2, 1) := by decide +kernel
theorem dX10_findReached_118 : decode cX10_findReached 118 = .ok (.iconst 1, 1) := by decide +kernel
theorem dX10_findReached_119 : decode cX10_findReached 119 = .ok (.iadd, 1) := by decide +kernel
theorem dX10_findReached_120 : decode cX10_findReached 120 = .ok (.invokevirtual 168, 3) := by decide +kernel
theorem dX10_findReached_123 : decode cX10_findReached 123 = .ok (.iinc 2 1, 3) := by decide +kernel
theorem dX10_findReached_126 : decode cX10_findReached 126 = .ok (.goto (-85), 3) := by decide +kernel
theorem dX10_findReached_129 : decode cX10_findReached 129 = .ok (.iinc 1 1, 3) := by decide +kernel
theorem dX10_findReached_132 : decode cX10_findReached 132 = .ok (.goto (-101), 3) := by decide +kernel
theorem dX10_findReached_135 : decode cX10_findReached 135 = .ok (.return_, 1) := by decide +kernel
theorem dX10_count_0 : decode cX10_count 0 = .ok (.aload_n 0, 1) := by decide +kernel
theorem dX10_count_1 : decode cX10_count 1 = .ok (.iconst 0, 1) := by decide +kernel
theorem dX10_count_2 : decode cX10_count 2 = .ok (.putfield 69, 3) := by decide +kernel
theorem dX10_count_5 : decode cX10_count 5 = .ok (.iload_n 1, 1) := by decide +kernel
theorem dX10_count_6 : decode cX10_count 6 = .ok (.iconst 0, 1) := by decide +kernel
theorem dX10_count_7 : decode cX10_count 7 = .ok (.iconst 4, 1) := by decide +kernel
theorem dX10_count_8 : decode cX10_count 8 = .ok (.invokestatic 73, 3) := by decide +kernel
theorem dX10_count_11 : decode cX10_count 11 = .ok (.ifCond .ne 9, 3) := by decide +kernel
theorem dX10_count_14 : decode cX10_count 14 = .ok (.aload_n 0, 1) := by decide +kernel
theorem dX10_count_15 : decode cX10_count 15 = .ok (.iconst 1, 1) := by decide +kernel
theorem dX10_count_16 : decode cX10_count 16 = .ok (.invokevirtual 92, 3) := by decide +kernel
theorem dX10_count_19 : decode cX10_count 19 = .ok (.ireturn, 1) := by decide +kernel
theorem dX10_count_20 : decode cX10_count 20 = .ok (.aload_n 0, 1) := by decide +kernel
theorem dX10_count_21 : decode cX10_count 21 = .ok (.invokevirtual 172, 3) := by decide +kernel
theorem dX10_count_24 : decode cX10_count 24 = .ok (.iconst 0, 1) := by decide +kernel
theorem dX10_count_25 : decode cX10_count 25 = .ok (.istore_n 2, 1) := by decide +kernel
theorem dX10_count_26 : decode cX10_count 26 = .ok (.iconst 0, 1) := by decide +kernel
theorem dX10_count_27 : decode cX10_count 27 = .ok (.istore_n 3, 1) := by decide +kernel
theorem dX10_count_28 : decode cX10_count 28 = .ok (.iload_n 3, 1) := by decide +kernel
theorem dX10_count_29 : decode cX10_count 29 = .ok (.aload_n 0, 1) := by decide +kernel
theorem dX10_count_30 : decode cX10_count 30 = .ok (.invokevirtual 85, 3) := by decide +kernel
theorem dX10_count_33 : decode cX10_count 33 = .ok (.if_icmp .ge 133, 3) := by decide +kernel
theorem dX10_count_36 : decode cX10_count 36 = .ok (.aload_n 0, 1) := by decide +kernel
theorem dX10_count_37 : decode cX10_count 37 = .ok (.iload_n 3, 1) := by decide +kernel
theorem dX10_count_38 : decode cX10_count 38 = .ok (.iconst 0, 1) := by decide +kernel
theorem dX10_count_39 : decode cX10_count 39 = .ok (.invokevirtual 77, 3) := by decide +kernel
theorem dX10_count_42 : decode cX10_count 42 = .ok (.istore 4, 2) := by decide +kernel
theorem dX10_count_44 : decode cX10_count 44 = .ok (.iload_n 1, 1) := by decide +kernel
theorem dX10_count_45 : decode cX10_count 45 = .ok (.ifCond .ne 11, 3) := by decide +kernel
theorem dX10_count_48 : decode cX10_count 48 = .ok (.iload 4, 2) := by decide +kernel
theorem dX10_count_50 : decode cX10_count 50 = .ok (.invokestatic 81, 3) := by decide +kernel
theorem dX10_count_53 : decode cX10_count 53 = .ok (.goto 92, 3) := by decide +kernel
theorem dX10_count_56 : decode cX10_count 56 = .ok (.iload_n 1, 1) := by decide +kernel
theorem dX10_count_57 : decode cX10_count 57 = .ok (.iconst 1, 1) := by decide +kernel
theorem dX10_count_58 : decode cX10_count 58 = .ok (.if_icmp .ne 24, 3) := by decide +kernel
theorem dX10_count_61 : decode cX10_count 61 = .ok (.aload_n 0, 1) := by decide +kernel
theorem dX10_count_62 : decode cX10_count 62 = .ok (.iload_n 3, 1) := by decide +kernel
theorem dX10_count_63 : decode cX10_count 63 = .ok (.invokevirtual 162, 3) := by decide +kernel
theorem dX10_count_66 : decode cX10_count 66 = .ok (.ifCond .eq 12, 3) := by decide +kernel
theorem dX10_count_69 : decode cX10_count 69 = .ok (.iload 4, 2) := by decide +kernel
theorem dX10_count_71 : decode cX10_count 71 = .ok (.ifCond .ne 7, 3) := by decide +kernel
theorem dX10_count_74 : decode cX10_count 74 = .ok (.iconst 1, 1) := by decide +kernel
theorem dX10_count_75 : decode cX10_count 75 = .ok (.goto 70, 3) := by decide +kernel
theorem dX10_count_78 : decode cX10_count 78 = .ok (.iconst 0, 1) := by decide +kernel
theorem dX10_count_79 : decode cX10_count 79 = .ok (.goto 66, 3) := by decide +kernel
theorem dX10_count_82 : decode cX10_count 82 = .ok (.iload_n 1, 1) := by decide +kernel
theorem dX10_count_83 : decode cX10_count 83 = .ok (.iconst 2, 1) := by decide +kernel
theorem dX10_count_84 : decode cX10_count 84 = .ok (.if_icmp .ne 21, 3) := by decide +kernel
theorem dX10_count_87 : decode cX10_count 87 = .ok (.aload_n 0, 1) := by decide +kernel
theorem dX10_count_88 : decode cX10_count 88 = .ok (.iload_n 3, 1) := by decide +kernel
theorem dX10_count_89 : decode cX10_count 89 = .ok (.iconst 4, 1) := by decide +kernel
theorem dX10_count_90 : decode cX10_count 90 = .ok (.invokevirtual 77, 3) := by decide +kernel
theorem dX10_count_93 : decode cX10_count 93 = .ok (.iconst 1, 1) := by decide +kernel
theorem dX10_count_94 : decode cX10_count 94 = .ok (.if_icmp .ne 7, 3) := by decide +kernel
theorem dX10_count_97 : decode cX10_count 97 = .ok (.iconst 1, 1) := by decide +kernel
theorem dX10_count_98 : decode cX10_count 98 = .ok (.goto 47, 3) := by decide +kernel
theorem dX10_count_101 : decode cX10_count 101 = .ok (.iconst 0, 1) := by decide +kernel
theorem dX10_count_102 : decode cX10_count 102 = .ok (.goto 43, 3) := by decide +kernel
theorem dX10_count_105 : decode cX10_count 105 = .ok (.iload_n 1, 1) := by decide +kernel
theorem dX10_count_106 : decode cX10_count 106 = .ok (.iconst 3, 1) := by decide +kernel
theorem dX10_count_107 : decode cX10_count 107 = .ok (.if_icmp .ne 16, 3) := by decide +kernel
theorem dX10_count_110 : decode cX10_count 110 = .ok (.iload 4, 2) := by decide +kernel
theorem dX10_count_112 : decode cX10_count 112 = .ok (.ifCond .ne 7, 3) := by decide +kernel
theorem dX10_count_115 : decode cX10_count 115 = .ok (.iconst 1, 1) := by decide +kernel
theorem dX10_count_116 : decode cX10_count 116 = .ok (.goto 29, 3) := by decide +kernel
theorem dX10_count_119 : decode cX10_count 119 = .ok (.iconst 0, 1) := by decide +kernel
theorem dX10_count_120 : decode cX10_count 120 = .ok (.goto 25, 3) := by decide +kernel
theorem dX10_count_123 : decode cX10_count 123 = .ok (.aload_n 0, 1) := by decide +kernel
theorem dX10_count_124 : decode cX10_count 124 = .ok (.iload_n 3, 1) := by decide +kernel
theorem dX10_count_125 : decode cX10_count 125 = .ok (.invokevirtual 162, 3) := by decide +kernel
theorem dX10_count_128 : decode cX10_count 128 = .ok (.ifCond .ne 16, 3) := by decide +kernel
theorem dX10_count_131 : decode cX10_count 131 = .ok (.aload_n 0, 1) := by decide +kernel
theorem dX10_count_132 : decode cX10_count 132 = .ok (.getfield 26, 3) := by decide +kernel
theorem dX10_count_135 : decode cX10_count 135 = .ok (.iload_n 3, 1) := by decide +kernel
theorem dX10_count_136 : decode cX10_count 136 = .ok (.baload, 1) := by decide +kernel
theorem dX10_count_137 : decode cX10_count 137 = .ok (.ifCond .ne 7, 3) := by decide +kernel
theorem dX10_count_140 : decode cX10_count 140 = .ok (.iconst 1, 1) := by decide +kernel
theorem dX10_count_141 : decode cX10_count 141 = .ok (.goto 4, 3) := by decide +kernel
theorem dX10_count_144 : decode cX10_count 144 = .ok (.iconst 0, 1) := by decide +kernel
theorem dX10_count_145 : decode cX10_count 145 = .ok (.istore 5, 2) := by decide +kernel
theorem dX10_count_147 : decode cX10_count 147 = .ok (.iload_n 2, 1) := by decide +kernel
theorem dX10_count_148 : decode cX10_count 148 = .ok (.iload 5, 2) := by decide +kernel
theorem dX10_count_150 : decode cX10_count 150 = .ok (.ifCond .eq 7, 3) := by decide +kernel
theorem dX10_count_153 : decode cX10_count 153 = .ok (.iconst 1, 1) := by decide +kernel
theorem dX10_count_154 : decode cX10_count 154 = .ok (.goto 4, 3) := by decide +kernel
theorem dX10_count_157 : decode cX10_count 157 = .ok (.iconst 0, 1) := by decide +kernel
theorem dX10_count_158 : decode cX10_count 158 = .ok (.iadd, 1) := by decide +kernel
theorem dX10_count_159 : decode cX10_count 159 = .ok (.istore_n 2, 1) := by decide +kernel
theorem dX10_count_160 : decode cX10_count 160 = .ok (.iinc 3 1, 3) := by decide +kernel
theorem dX10_count_163 : decode cX10_count 163 = .ok (.goto (-135), 3) := by decide +kernel
theorem dX10_count_166 : decode cX10_count 166 = .ok (.iload_n 2, 1) := by decide +kernel
theorem dX10_count_167 : decode cX10_count 167 = .ok (.ireturn, 1) := by decide +kernel
theorem dX10_reads_0 : decode cX10_reads 0 = .ok (.iconst 1, 1) := by decide +kernel
theorem dX10_reads_1 : decode cX10_reads 1 = .ok (.aload_n 0, 1) := by decide +kernel
theorem dX10_reads_2 : decode cX10_reads 2 = .ok (.iload_n 1, 1) := by decide +kernel
theorem dX10_reads_3 : decode cX10_reads 3 = .ok (.iconst 1, 1) := by decide +kernel
theorem dX10_reads_4 : decode cX10_reads 4 = .ok (.invokevirtual 77, 3) := by decide +kernel
theorem dX10_reads_7 : decode cX10_reads 7 = .ok (.ishl, 1) := by decide +kernel
theorem dX10_reads_8 : decode cX10_reads 8 = .ok (.istore_n 2, 1) := by decide +kernel
theorem dX10_reads_9 : decode cX10_reads 9 = .ok (.iconst 1, 1) := by decide +kernel
theorem dX10_reads_10 : decode cX10_reads 10 = .ok (.aload_n 0, 1) := by decide +kernel
theorem dX10_reads_11 : decode cX10_reads 11 = .ok (.iload_n 1, 1) := by decide +kernel
theorem dX10_reads_12 : decode cX10_reads 12 = .ok (.iconst 2, 1) := by decide +kernel
theorem dX10_reads_13 : decode cX10_reads 13 = .ok (.invokevirtual 77, 3) := by decide +kernel
theorem dX10_reads_16 : decode cX10_reads 16 = .ok (.ishl, 1) := by decide +kernel
theorem dX10_reads_17 : decode cX10_reads 17 = .ok (.istore_n 3, 1) := by decide +kernel
theorem dX10_reads_18 : decode cX10_reads 18 = .ok (.aload_n 0, 1) := by decide +kernel
theorem dX10_reads_19 : decode cX10_reads 19 = .ok (.iload_n 1, 1) := by decide +kernel
theorem dX10_reads_20 : decode cX10_reads 20 = .ok (.iconst 0, 1) := by decide +kernel
theorem dX10_reads_21 : decode cX10_reads 21 = .ok (.invokevirtual 77, 3) := by decide +kernel
theorem dX10_reads_24 : decode cX10_reads 24 = .ok (.tableswitch 67 2 9 #[48, 50, 50, 48, 61, 65, 61, 61], 48) := by decide +kernel
theorem dX10_reads_72 : decode cX10_reads 72 = .ok (.iload_n 3, 1) := by decide +kernel
theorem dX10_reads_73 : decode cX10_reads 73 = .ok (.ireturn, 1) := by decide +kernel
theorem dX10_reads_74 : decode cX10_reads 74 = .ok (.iload_n 3, 1) := by decide +kernel
theorem dX10_reads_75 : decode cX10_reads 75 = .ok (.iconst 1, 1) := by decide +kernel
theorem dX10_reads_76 : decode cX10_reads 76 = .ok (.aload_n 0, 1) := by decide +kernel
theorem dX10_reads_77 : decode cX10_reads 77 = .ok (.iload_n 1, 1) := by decide +kernel
theorem dX10_reads_78 : decode cX10_reads 78 = .ok (.iconst 3, 1) := by decide +kernel
theorem dX10_reads_79 : decode cX10_reads 79 = .ok (.invokevirtual 77, 3) := by decide +kernel
theorem dX10_reads_82 : decode cX10_reads 82 = .ok (.ishl, 1) := by decide +kernel
theorem dX10_reads_83 : decode cX10_reads 83 = .ok (.ior, 1) := by decide +kernel
theorem dX10_reads_84 : decode cX10_reads 84 = .ok (.ireturn, 1) := by decide +kernel
theorem dX10_reads_85 : decode cX10_reads 85 = .ok (.iload_n 2, 1) := by decide +kernel
theorem dX10_reads_86 : decode cX10_reads 86 = .ok (.iload_n 3, 1) := by decide +kernel
theorem dX10_reads_87 : decode cX10_reads 87 = .ok (.ior, 1) := by decide +kernel
theorem dX10_reads_88 : decode cX10_reads 88 = .ok (.ireturn, 1) := by decide +kernel
theorem dX10_reads_89 : decode cX10_reads 89 = .ok (.iload_n 2, 1) := by decide +kernel
theorem dX10_reads_90 : decode cX10_reads 90 = .ok (.ireturn, 1) := by decide +kernel
theorem dX10_reads_91 : decode cX10_reads 91 = .ok (.iconst 0, 1) := by decide +kernel
theorem dX10_reads_92 : decode cX10_reads 92 = .ok (.ireturn, 1) := by decide +kernel
theorem dX10_writes_0 : decode cX10_writes 0 = .ok (.aload_n 0, 1) := by decide +kernel
theorem dX10_writes_1 : decode cX10_writes 1 = .ok (.iload_n 1, 1) := by decide +kernel
theorem dX10_writes_2 : decode cX10_writes 2 = .ok (.iconst 0, 1) := by decide +kernel
theorem dX10_writes_3 : decode cX10_writes 3 = .ok (.invokevirtual 77, 3) := by decide +kernel
theorem dX10_writes_6 : decode cX10_writes 6 = .ok (.iconst 1, 1) := by decide +kernel
theorem dX10_writes_7 : decode cX10_writes 7 = .ok (.iconst 5, 1) := by decide +kernel
theorem dX10_writes_8 : decode cX10_writes 8 = .ok (.invokestatic 73, 3) := by decide +kernel
theorem dX10_writes_11 : decode cX10_writes 11 = .ok (.ifCond .eq 14, 3) := by decide +kernel
theorem dX10_writes_14 : decode cX10_writes 14 = .ok (.iconst 1, 1) := by decide +kernel
theorem dX10_writes_15 : decode cX10_writes 15 = .ok (.aload_n 0, 1) := by decide +kernel
theorem dX10_writes_16 : decode cX10_writes 16 = .ok (.iload_n 1, 1) := by decide +kernel
theorem dX10_writes_17 : decode cX10_writes 17 = .ok (.iconst 1, 1) := by decide +kernel
theorem dX10_writes_18 : decode cX10_writes 18 = .ok (.invokevirtual 77, 3) := by decide +kernel
theorem dX10_writes_21 : decode cX10_writes 21 = .ok (.ishl, 1) := by decide +kernel
theorem dX10_writes_22 : decode cX10_writes 22 = .ok (.goto 4, 3) := by decide +kernel
theorem dX10_writes_25 : decode cX10_writes 25 = .ok (.iconst 0, 1) := by decide +kernel
theorem dX10_writes_26 : decode cX10_writes 26 = .ok (.ireturn, 1) := by decide +kernel
theorem dX10_through_0 : decode cX10_through 0 = .ok (.aload_n 0, 1) := by decide +kernel
theorem dX10_through_1 : decode cX10_through 1 = .ok (.iload_n 1, 1) := by decide +kernel
theorem dX10_through_2 : decode cX10_through 2 = .ok (.invokevirtual 175, 3) := by decide +kernel
theorem dX10_through_5 : decode cX10_through 5 = .ok (.iload_n 2, 1) := by decide +kernel
theorem dX10_through_6 : decode cX10_through 6 = .ok (.aload_n 0, 1) := by decide +kernel
theorem dX10_through_7 : decode cX10_through 7 = .ok (.iload_n 1, 1) := by decide +kernel
theorem dX10_through_8 : decode cX10_through 8 = .ok (.invokevirtual 178, 3) := by decide +kernel
theorem dX10_through_11 : decode cX10_through 11 = .ok (.iconst (-1), 1) := by decide +kernel
theorem dX10_through_12 : decode cX10_through 12 = .ok (.ixor, 1) := by decide +kernel
theorem dX10_through_13 : decode cX10_through 13 = .ok (.iand, 1) := by decide +kernel
theorem dX10_through_14 : decode cX10_through 14 = .ok (.ior, 1) := by decide +kernel
theorem dX10_through_15 : decode cX10_through 15 = .ok (.ireturn, 1) := by decide +kernel
theorem dX10_liveNow_0 : decode cX10_liveNow 0 = .ok (.aload_n 0, 1) := by decide +kernel
theorem dX10_liveNow_1 : decode cX10_liveNow 1 = .ok (.iload_n 1, 1) := by decide +kernel
theorem dX10_liveNow_2 : decode cX10_liveNow 2 = .ok (.iconst 0, 1) := by decide +kernel
theorem dX10_liveNow_3 : decode cX10_liveNow 3 = .ok (.invokevirtual 77, 3) := by decide +kernel
theorem dX10_liveNow_6 : decode cX10_liveNow 6 = .ok (.istore_n 2, 1) := by decide +kernel
theorem dX10_liveNow_7 : decode cX10_liveNow 7 = .ok (.iload_n 2, 1) := by decide +kernel
theorem dX10_liveNow_8 : decode cX10_liveNow 8 = .ok (.invokestatic 81, 3) := by decide +kernel
theorem dX10_liveNow_11 : decode cX10_liveNow 11 = .ok (.ifCond .ne 27, 3) := by decide +kernel
theorem dX10_liveNow_14 : decode cX10_liveNow 14 = .ok (.iload_n 2, 1) := by decide +kernel
theorem dX10_liveNow_15 : decode cX10_liveNow 15 = .ok (.bipush 11, 2) := by decide +kernel
theorem dX10_liveNow_17 : decode cX10_liveNow 17 = .ok (.if_icmp .ne 7, 3) := by decide +kernel
theorem dX10_liveNow_20 : decode cX10_liveNow 20 = .ok (.iconst 0, 1) := by decide +kernel
theorem dX10_liveNow_21 : decode cX10_liveNow 21 = .ok (.goto 16, 3) := by decide +kernel
theorem dX10_liveNow_24 : decode cX10_liveNow 24 = .ok (.aload_n 0, 1) := by decide +kernel
theorem dX10_liveNow_25 : decode cX10_liveNow 25 = .ok (.iload_n 1, 1) := by decide +kernel
theorem dX10_liveNow_26 : decode cX10_liveNow 26 = .ok (.aload_n 0, 1) := by decide +kernel
theorem dX10_liveNow_27 : decode cX10_liveNow 27 = .ok (.getfield 30, 3) := by decide +kernel
theorem dX10_liveNow_30 : decode cX10_liveNow 30 = .ok (.iload_n 1, 1) := by decide +kernel
theorem dX10_liveNow_31 : decode cX10_liveNow 31 = .ok (.iconst 1, 1) := by decide +kernel
theorem dX10_liveNow_32 : decode cX10_liveNow 32 = .ok (.iadd, 1) := by decide +kernel
theorem dX10_liveNow_33 : decode cX10_liveNow 33 = .ok (.iaload, 1) := by decide +kernel
theorem dX10_liveNow_34 : decode cX10_liveNow 34 = .ok (.invokevirtual 181, 3) := by decide +kernel
theorem dX10_liveNow_37 : decode cX10_liveNow 37 = .ok (.ireturn, 1) := by decide +kernel
theorem dX10_liveNow_38 : decode cX10_liveNow 38 = .ok (.aload_n 0, 1) := by decide +kernel
theorem dX10_liveNow_39 : decode cX10_liveNow 39 = .ok (.iload_n 1, 1) := by decide +kernel
theorem dX10_liveNow_40 : decode cX10_liveNow 40 = .ok (.iconst 1, 1) := by decide +kernel
theorem dX10_liveNow_41 : decode cX10_liveNow 41 = .ok (.iadd, 1) := by decide +kernel
theorem dX10_liveNow_42 : decode cX10_liveNow 42 = .ok (.aload_n 0, 1) := by decide +kernel
theorem dX10_liveNow_43 : decode cX10_liveNow 43 = .ok (.getfield 30, 3) := by decide +kernel
theorem dX10_liveNow_46 : decode cX10_liveNow 46 = .ok (.aload_n 0, 1) := by decide +kernel
theorem dX10_liveNow_47 : decode cX10_liveNow 47 = .ok (.iload_n 1, 1) := by decide +kernel
theorem dX10_liveNow_48 : decode cX10_liveNow 48 = .ok (.iconst 3, 1) := by decide +kernel
theorem dX10_liveNow_49 : decode cX10_liveNow 49 = .ok (.invokevirtual 77, 3) := by decide +kernel
theorem dX10_liveNow_52 : decode cX10_liveNow 52 = .ok (.iaload, 1) := by decide +kernel
theorem dX10_liveNow_53 : decode cX10_liveNow 53 = .ok (.invokevirtual 181, 3) := by decide +kernel
theorem dX10_liveNow_56 : decode cX10_liveNow 56 = .ok (.istore_n 3, 1) := by decide +kernel
theorem dX10_liveNow_57 : decode cX10_liveNow 57 = .ok (.iload_n 2, 1) := by decide +kernel
theorem dX10_liveNow_58 : decode cX10_liveNow 58 = .ok (.bipush 10, 2) := by decide +kernel
theorem dX10_liveNow_60 : decode cX10_liveNow 60 = .ok (.if_icmp .ne 7, 3) := by decide +kernel
theorem dX10_liveNow_63 : decode cX10_liveNow 63 = .ok (.iconst 0, 1) := by decide +kernel
theorem dX10_liveNow_64 : decode cX10_liveNow 64 = .ok (.goto 39, 3) := by decide +kernel
theorem dX10_liveNow_67 : decode cX10_liveNow 67 = .ok (.aload_n 0, 1) := by decide +kernel
theorem dX10_liveNow_68 : decode cX10_liveNow 68 = .ok (.iload_n 1, 1) := by decide +kernel
theorem dX10_liveNow_69 : decode cX10_liveNow 69 = .ok (.iconst 4, 1) := by decide +kernel
theorem dX10_liveNow_70 : decode cX10_liveNow 70 = .ok (.invokevirtual 77, 3) := by decide +kernel
theorem dX10_liveNow_73 : decode cX10_liveNow 73 = .ok (.iconst 1, 1) := by decide +kernel
theorem dX10_liveNow_74 : decode cX10_liveNow 74 = .ok (.if_icmp .ne 14, 3) := by decide +kernel
theorem dX10_liveNow_77 : decode cX10_liveNow 77 = .ok (.aload_n 0, 1) := by decide +kernel
theorem dX10_liveNow_78 : decode cX10_liveNow 78 = .ok (.getfield 30, 3) := by decide +kernel
theorem dX10_liveNow_81 : decode cX10_liveNow 81 = .ok (.iload_n 1, 1) := by decide +kernel
theorem dX10_liveNow_82 : decode cX10_liveNow 82 = .ok (.iconst 2, 1) := by decide +kernel
theorem dX10_liveNow_83 : decode cX10_liveNow 83 = .ok (.iadd, 1) := by decide +kernel
theorem dX10_liveNow_84 : decode cX10_liveNow 84 = .ok (.iaload, 1) := by decide +kernel
theorem dX10_liveNow_85 : decode cX10_liveNow 85 = .ok (.goto 18, 3) := by decide +kernel
theorem dX10_liveNow_88 : decode cX10_liveNow 88 = .ok (.aload_n 0, 1) := by decide +kernel
theorem dX10_liveNow_89 : decode cX10_liveNow 89 = .ok (.iload_n 1, 1) := by decide +kernel
theorem dX10_liveNow_90 : decode cX10_liveNow 90 = .ok (.iconst 1, 1) := by decide +kernel
theorem dX10_liveNow_91 : decode cX10_liveNow 91 = .ok (.iadd, 1) := by decide +kernel
theorem dX10_liveNow_92 : decode cX10_liveNow 92 = .ok (.aload_n 0, 1) := by decide +kernel
theorem dX10_liveNow_93 : decode cX10_liveNow 93 = .ok (.getfield 30, 3) := by decide +kernel
theorem dX10_liveNow_96 : decode cX10_liveNow 96 = .ok (.iload_n 1, 1) := by decide +kernel
theorem dX10_liveNow_97 : decode cX10_liveNow 97 = .ok (.iconst 2, 1) := by decide +kernel
theorem dX10_liveNow_98 : decode cX10_liveNow 98 = .ok (.iadd, 1) := by decide +kernel
theorem dX10_liveNow_99 : decode cX10_liveNow 99 = .ok (.iaload, 1) := by decide +kernel
theorem dX10_liveNow_100 : decode cX10_liveNow 100 = .ok (.invokevirtual 181, 3) := by decide +kernel
theorem dX10_liveNow_103 : decode cX10_liveNow 103 = .ok (.istore 4, 2) := by decide +kernel
theorem dX10_liveNow_105 : decode cX10_liveNow 105 = .ok (.aload_n 0, 1) := by decide +kernel
theorem dX10_liveNow_106 : decode cX10_liveNow 106 = .ok (.iload_n 1, 1) := by decide +kernel
theorem dX10_liveNow_107 : decode cX10_liveNow 107 = .ok (.invokevirtual 175, 3) := by decide +kernel
theorem dX10_liveNow_110 : decode cX10_liveNow 110 = .ok (.iload_n 3, 1) := by decide +kernel
theorem dX10_liveNow_111 : decode cX10_liveNow 111 = .ok (.ior, 1) := by decide +kernel
theorem dX10_liveNow_112 : decode cX10_liveNow 112 = .ok (.iload 4, 2) := by decide +kernel
theorem dX10_liveNow_114 : decode cX10_liveNow 114 = .ok (.ior, 1) := by decide +kernel
theorem dX10_liveNow_115 : decode cX10_liveNow 115 = .ok (.ireturn, 1) := by decide +kernel
theorem dX10_findLives_0 : decode cX10_findLives 0 = .ok (.iconst 0, 1) := by decide +kernel
theorem dX10_findLives_1 : decode cX10_findLives 1 = .ok (.istore_n 1, 1) := by decide +kernel
theorem dX10_findLives_2 : decode cX10_findLives 2 = .ok (.iload_n 1, 1) := by decide +kernel
theorem dX10_findLives_3 : decode cX10_findLives 3 = .ok (.bipush 61, 2) := by decide +kernel
theorem dX10_findLives_5 : decode cX10_findLives 5 = .ok (.if_icmp .gt 16, 3) := by decide +kernel
theorem dX10_findLives_8 : decode cX10_findLives 8 = .ok (.aload_n 0, 1) := by decide +kernel
theorem dX10_findLives_9 : decode cX10_findLives 9 = .ok (.getfield 30, 3) := by decide +kernel
theorem dX10_findLives_12 : decode cX10_findLives 12 = .ok (.iload_n 1, 1) := by decide +kernel
theorem dX10_findLives_13 : decode cX10_findLives 13 = .ok (.iconst 0, 1) := by decide +kernel
theorem dX10_findLives_14 : decode cX10_findLives 14 = .ok (.iastore, 1) := by decide +kernel
theorem dX10_findLives_15 : decode cX10_findLives 15 = .ok (.iinc 1 1, 3) := by decide +kernel
theorem dX10_findLives_18 : decode cX10_findLives 18 = .ok (.goto (-16), 3) := by decide +kernel
theorem dX10_findLives_21 : decode cX10_findLives 21 = .ok (.iconst 0, 1) := by decide +kernel
theorem dX10_findLives_22 : decode cX10_findLives 22 = .ok (.istore_n 1, 1) := by decide +kernel
theorem dX10_findLives_23 : decode cX10_findLives 23 = .ok (.iload_n 1, 1) := by decide +kernel
theorem dX10_findLives_24 : decode cX10_findLives 24 = .ok (.aload_n 0, 1) := by decide +kernel
theorem dX10_findLives_25 : decode cX10_findLives 25 = .ok (.invokevirtual 85, 3) := by decide +kernel
theorem dX10_findLives_28 : decode cX10_findLives 28 = .ok (.if_icmp .gt 49, 3) := by decide +kernel
theorem dX10_findLives_31 : decode cX10_findLives 31 = .ok (.aload_n 0, 1) := by decide +kernel
theorem dX10_findLives_32 : decode cX10_findLives 32 = .ok (.invokevirtual 85, 3) := by decide +kernel
theorem dX10_findLives_35 : decode cX10_findLives 35 = .ok (.iconst 1, 1) := by decide +kernel
theorem dX10_findLives_36 : decode cX10_findLives 36 = .ok (.isub, 1) := by decide +kernel
theorem dX10_findLives_37 : decode cX10_findLives 37 = .ok (.istore_n 2, 1) := by decide +kernel
theorem dX10_findLives_38 : decode cX10_findLives 38 = .ok (.iload_n 2, 1) := by decide +kernel
theorem dX10_findLives_39 : decode cX10_findLives 39 = .ok (.ifCond .lt 32, 3) := by decide +kernel
theorem dX10_findLives_42 : decode cX10_findLives 42 = .ok (.aload_n 0, 1) := by decide +kernel
theorem dX10_findLives_43 : decode cX10_findLives 43 = .ok (.getfield 30, 3) := by decide +kernel
theorem dX10_findLives_46 : decode cX10_findLives 46 = .ok (.iload_n 2, 1) := by decide +kernel
theorem dX10_findLives_47 : decode cX10_findLives 47 = .ok (.aload_n 0, 1) := by decide +kernel
theorem dX10_findLives_48 : decode cX10_findLives 48 = .ok (.iload_n 2, 1) := by decide +kernel
theorem dX10_findLives_49 : decode cX10_findLives 49 = .ok (.invokevirtual 162, 3) := by decide +kernel
theorem dX10_findLives_52 : decode cX10_findLives 52 = .ok (.ifCond .eq 7, 3) := by decide +kernel
theorem dX10_findLives_55 : decode cX10_findLives 55 = .ok (.iconst 0, 1) := by decide +kernel
theorem dX10_findLives_56 : decode cX10_findLives 56 = .ok (.goto 8, 3) := by decide +kernel
theorem dX10_findLives_59 : decode cX10_findLives 59 = .ok (.aload_n 0, 1) := by decide +kernel
theorem dX10_findLives_60 : decode cX10_findLives 60 = .ok (.iload_n 2, 1) := by decide +kernel
theorem dX10_findLives_61 : decode cX10_findLives 61 = .ok (.invokevirtual 184, 3) := by decide +kernel
theorem dX10_findLives_64 : decode cX10_findLives 64 = .ok (.iastore, 1) := by decide +kernel
theorem dX10_findLives_65 : decode cX10_findLives 65 = .ok (.iinc 2 (-1), 3) := by decide +kernel
theorem dX10_findLives_68 : decode cX10_findLives 68 = .ok (.goto (-30), 3) := by decide +kernel
theorem dX10_findLives_71 : decode cX10_findLives 71 = .ok (.iinc 1 1, 3) := by decide +kernel
theorem dX10_findLives_74 : decode cX10_findLives 74 = .ok (.goto (-51), 3) := by decide +kernel
theorem dX10_findLives_77 : decode cX10_findLives 77 = .ok (.return_, 1) := by decide +kernel
theorem dX10_live_0 : decode cX10_live 0 = .ok (.aload_n 0, 1) := by decide +kernel
theorem dX10_live_1 : decode cX10_live 1 = .ok (.iload_n 1, 1) := by decide +kernel
theorem dX10_live_2 : decode cX10_live 2 = .ok (.iconst 0, 1) := by decide +kernel
theorem dX10_live_3 : decode cX10_live 3 = .ok (.aload_n 0, 1) := by decide +kernel
theorem dX10_live_4 : decode cX10_live 4 = .ok (.invokevirtual 85, 3) := by decide +kernel
theorem dX10_live_7 : decode cX10_live 7 = .ok (.invokestatic 73, 3) := by decide +kernel
theorem dX10_live_10 : decode cX10_live 10 = .ok (.ifCond .ne 7, 3) := by decide +kernel
theorem dX10_live_13 : decode cX10_live 13 = .ok (.iconst 1, 1) := by decide +kernel
theorem dX10_live_14 : decode cX10_live 14 = .ok (.goto 24, 3) := by decide +kernel
theorem dX10_live_17 : decode cX10_live 17 = .ok (.aload_n 0, 1) := by decide +kernel
theorem dX10_live_18 : decode cX10_live 18 = .ok (.iload_n 1, 1) := by decide +kernel
theorem dX10_live_19 : decode cX10_live 19 = .ok (.invokevirtual 159, 3) := by decide +kernel
theorem dX10_live_22 : decode cX10_live 22 = .ok (.ifCond .eq 15, 3) := by decide +kernel
theorem dX10_live_25 : decode cX10_live 25 = .ok (.aload_n 0, 1) := by decide +kernel
theorem dX10_live_26 : decode cX10_live 26 = .ok (.iload_n 1, 1) := by decide +kernel
theorem dX10_live_27 : decode cX10_live 27 = .ok (.invokevirtual 162, 3) := by decide +kernel
theorem dX10_live_30 : decode cX10_live 30 = .ok (.ifCond .eq 7, 3) := by decide +kernel
theorem dX10_live_33 : decode cX10_live 33 = .ok (.iconst 2, 1) := by decide +kernel
theorem dX10_live_34 : decode cX10_live 34 = .ok (.goto 4, 3) := by decide +kernel
theorem dX10_live_37 : decode cX10_live 37 = .ok (.iconst 0, 1) := by decide +kernel
theorem dX10_live_38 : decode cX10_live 38 = .ok (.putfield 69, 3) := by decide +kernel
theorem dX10_live_41 : decode cX10_live 41 = .ok (.aload_n 0, 1) := by decide +kernel
theorem dX10_live_42 : decode cX10_live 42 = .ok (.getfield 69, 3) := by decide +kernel
theorem dX10_live_45 : decode cX10_live 45 = .ok (.ifCond .eq 5, 3) := by decide +kernel
theorem dX10_live_48 : decode cX10_live 48 = .ok (.iconst 0, 1) := by decide +kernel
theorem dX10_live_49 : decode cX10_live 49 = .ok (.ireturn, 1) := by decide +kernel
theorem dX10_live_50 : decode cX10_live 50 = .ok (.aload_n 0, 1) := by decide +kernel
theorem dX10_live_51 : decode cX10_live 51 = .ok (.invokevirtual 187, 3) := by decide +kernel
theorem dX10_live_54 : decode cX10_live 54 = .ok (.aload_n 0, 1) := by decide +kernel
theorem dX10_live_55 : decode cX10_live 55 = .ok (.getfield 30, 3) := by decide +kernel
theorem dX10_live_58 : decode cX10_live 58 = .ok (.iload_n 1, 1) := by decide +kernel
theorem dX10_live_59 : decode cX10_live 59 = .ok (.iaload, 1) := by decide +kernel
theorem dX10_live_60 : decode cX10_live 60 = .ok (.ireturn, 1) := by decide +kernel
theorem dX10_areIndependent_0 : decode cX10_areIndependent 0 = .ok (.aload_n 0, 1) := by decide +kernel
theorem dX10_areIndependent_1 : decode cX10_areIndependent 1 = .ok (.iload_n 1, 1) := by decide +kernel
theorem dX10_areIndependent_2 : decode cX10_areIndependent 2 = .ok (.iconst 0, 1) := by decide +kernel
theorem dX10_areIndependent_3 : decode cX10_areIndependent 3 = .ok (.invokevirtual 77, 3) := by decide +kernel
theorem dX10_areIndependent_6 : decode cX10_areIndependent 6 = .ok (.iconst 5, 1) := by decide +kernel
theorem dX10_areIndependent_7 : decode cX10_areIndependent 7 = .ok (.bipush 6, 2) := by decide +kernel
theorem dX10_areIndependent_9 : decode cX10_areIndependent 9 = .ok (.invokestatic 73, 3) := by decide +kernel
theorem dX10_areIndependent_12 : decode cX10_areIndependent 12 = .ok (.ifCond .eq 44, 3) := by decide +kernel
theorem dX10_areIndependent_15 : decode cX10_areIndependent 15 = .ok (.aload_n 0, 1) := by decide +kernel
theorem dX10_areIndependent_16 : decode cX10_areIndependent 16 = .ok (.iload_n 2, 1) := by decide +kernel
theorem dX10_areIndependent_17 : decode cX10_areIndependent 17 = .ok (.iconst 0, 1) := by decide +kernel
theorem dX10_areIndependent_18 : decode cX10_areIndependent 18 = .ok (.invokevirtual 77, 3) := by decide +kernel
theorem dX10_areIndependent_21 : decode cX10_areIndependent 21 = .ok (.iconst 5, 1) := by decide +kernel
theorem dX10_areIndependent_22 : decode cX10_areIndependent 22 = .ok (.bipush 6, 2) := by decide +kernel
theorem dX10_areIndependent_24 : decode cX10_areIndependent 24 = .ok (.invokestatic 73, 3) := by decide +kernel
theorem dX10_areIndependent_27 : decode cX10_areIndependent 27 = .ok (.ifCond .eq 29, 3) := by decide +kernel
theorem dX10_areIndependent_30 : decode cX10_areIndependent 30 = .ok (.aload_n 0, 1) := by decide +kernel
theorem dX10_areIndependent_31 : decode cX10_areIndependent 31 = .ok (.iload_n 1, 1) := by decide +kernel
theorem dX10_areIndependent_32 : decode cX10_areIndependent 32 = .ok (.iconst 0, 1) := by decide +kernel
theorem dX10_areIndependent_33 : decode cX10_areIndependent 33 = .ok (.invokevirtual 77, 3) := by decide +kernel
theorem dX10_areIndependent_36 : decode cX10_areIndependent 36 = .ok (.bipush 6, 2) := by decide +kernel
theorem dX10_areIndependent_38 : decode cX10_areIndependent 38 = .ok (.if_icmp .eq 14, 3) := by decide +kernel
theorem dX10_areIndependent_41 : decode cX10_areIndependent 41 = .ok (.aload_n 0, 1) := by decide +kernel
theorem dX10_areIndependent_42 : decode cX10_areIndependent 42 = .ok (.iload_n 2, 1) := by decide +kernel
theorem dX10_areIndependent_43 : decode cX10_areIndependent 43 = .ok (.iconst 0, 1) := by decide +kernel
theorem dX10_areIndependent_44 : decode cX10_areIndependent 44 = .ok (.invokevirtual 77, 3) := by decide +kernel
theorem dX10_areIndependent_47 : decode cX10_areIndependent 47 = .ok (.bipush 6, 2) := by decide +kernel
theorem dX10_areIndependent_49 : decode cX10_areIndependent 49 = .ok (.if_icmp .ne 7, 3) := by decide +kernel
theorem dX10_areIndependent_52 : decode cX10_areIndependent 52 = .ok (.iconst 1, 1) := by decide +kernel
theorem dX10_areIndependent_53 : decode cX10_areIndependent 53 = .ok (.goto 4, 3) := by decide +kernel
theorem dX10_areIndependent_56 : decode cX10_areIndependent 56 = .ok (.iconst 0, 1) := by decide +kernel
theorem dX10_areIndependent_57 : decode cX10_areIndependent 57 = .ok (.istore_n 3, 1) := by decide +kernel
theorem dX10_areIndependent_58 : decode cX10_areIndependent 58 = .ok (.aload_n 0, 1) := by decide +kernel
theorem dX10_areIndependent_59 : decode cX10_areIndependent 59 = .ok (.iload_n 1, 1) := by decide +kernel
theorem dX10_areIndependent_60 : decode cX10_areIndependent 60 = .ok (.iconst 0, 1) := by decide +kernel
theorem dX10_areIndependent_61 : decode cX10_areIndependent 61 = .ok (.invokevirtual 77, 3) := by decide +kernel
theorem dX10_areIndependent_64 : decode cX10_areIndependent 64 = .ok (.bipush 7, 2) := by decide +kernel
theorem dX10_areIndependent_66 : decode cX10_areIndependent 66 = .ok (.if_icmp .ne 18, 3) := by decide +kernel
theorem dX10_areIndependent_69 : decode cX10_areIndependent 69 = .ok (.aload_n 0, 1) := by decide +kernel
theorem dX10_areIndependent_70 : decode cX10_areIndependent 70 = .ok (.iload_n 2, 1) := by decide +kernel
theorem dX10_areIndependent_71 : decode cX10_areIndependent 71 = .ok (.iconst 0, 1) := by decide +kernel
theorem dX10_areIndependent_72 : decode cX10_areIndependent 72 = .ok (.invokevirtual 77, 3) := by decide +kernel
theorem dX10_areIndependent_75 : decode cX10_areIndependent 75 = .ok (.bipush 7, 2) := by decide +kernel
theorem dX10_areIndependent_77 : decode cX10_areIndependent 77 = .ok (.if_icmp .ne 7, 3) := by decide +kernel
theorem dX10_areIndependent_80 : decode cX10_areIndependent 80 = .ok (.iconst 1, 1) := by decide +kernel
theorem dX10_areIndependent_81 : decode cX10_areIndependent 81 = .ok (.goto 4, 3) := by decide +kernel
theorem dX10_areIndependent_84 : decode cX10_areIndependent 84 = .ok (.iconst 0, 1) := by decide +kernel
theorem dX10_areIndependent_85 : decode cX10_areIndependent 85 = .ok (.istore 4, 2) := by decide +kernel
theorem dX10_areIndependent_87 : decode cX10_areIndependent 87 = .ok (.aload_n 0, 1) := by decide +kernel
theorem dX10_areIndependent_88 : decode cX10_areIndependent 88 = .ok (.iload_n 1, 1) := by decide +kernel
theorem dX10_areIndependent_89 : decode cX10_areIndependent 89 = .ok (.invokevirtual 178, 3) := by decide +kernel
theorem dX10_areIndependent_92 : decode cX10_areIndependent 92 = .ok (.aload_n 0, 1) := by decide +kernel
theorem dX10_areIndependent_93 : decode cX10_areIndependent 93 = .ok (.iload_n 2, 1) := by decide +kernel
theorem dX10_areIndependent_94 : decode cX10_areIndependent 94 = .ok (.invokevirtual 175, 3) := by decide +kernel
theorem dX10_areIndependent_97 : decode cX10_areIndependent 97 = .ok (.aload_n 0, 1) := by decide +kernel
theorem dX10_areIndependent_98 : decode cX10_areIndependent 98 = .ok (.iload_n 2, 1) := by decide +kernel
theorem dX10_areIndependent_99 : decode cX10_areIndependent 99 = .ok (.invokevirtual 178, 3) := by decide +kernel
theorem dX10_areIndependent_102 : decode cX10_areIndependent 102 = .ok (.ior, 1) := by decide +kernel
theorem dX10_areIndependent_103 : decode cX10_areIndependent 103 = .ok (.iand, 1) := by decide +kernel
theorem dX10_areIndependent_104 : decode cX10_areIndependent 104 = .ok (.ifCond .ne 30, 3) := by decide +kernel
theorem dX10_areIndependent_107 : decode cX10_areIndependent 107 = .ok (.aload_n 0, 1) := by decide +kernel
theorem dX10_areIndependent_108 : decode cX10_areIndependent 108 = .ok (.iload_n 2, 1) := by decide +kernel
theorem dX10_areIndependent_109 : decode cX10_areIndependent 109 = .ok (.invokevirtual 178, 3) := by decide +kernel
theorem dX10_areIndependent_112 : decode cX10_areIndependent 112 = .ok (.aload_n 0, 1) := by decide +kernel
theorem dX10_areIndependent_113 : decode cX10_areIndependent 113 = .ok (.iload_n 1, 1) := by decide +kernel
theorem dX10_areIndependent_114 : decode cX10_areIndependent 114 = .ok (.invokevirtual 175, 3) := by decide +kernel
theorem dX10_areIndependent_117 : decode cX10_areIndependent 117 = .ok (.iand, 1) := by decide +kernel
theorem dX10_areIndependent_118 : decode cX10_areIndependent 118 = .ok (.ifCond .ne 16, 3) := by decide +kernel
theorem dX10_areIndependent_121 : decode cX10_areIndependent 121 = .ok (.iload_n 3, 1) := by decide +kernel
theorem dX10_areIndependent_122 : decode cX10_areIndependent 122 = .ok (.ifCond .ne 12, 3) := by decide +kernel
theorem dX10_areIndependent_125 : decode cX10_areIndependent 125 = .ok (.iload 4, 2) := by decide +kernel
theorem dX10_areIndependent_127 : decode cX10_areIndependent 127 = .ok (.ifCond .ne 7, 3) := by decide +kernel
theorem dX10_areIndependent_130 : decode cX10_areIndependent 130 = .ok (.iconst 1, 1) := by decide +kernel
theorem dX10_areIndependent_131 : decode cX10_areIndependent 131 = .ok (.goto 4, 3) := by decide +kernel
theorem dX10_areIndependent_134 : decode cX10_areIndependent 134 = .ok (.iconst 0, 1) := by decide +kernel
theorem dX10_areIndependent_135 : decode cX10_areIndependent 135 = .ok (.ireturn, 1) := by decide +kernel
theorem dX10_isIndependent_0 : decode cX10_isIndependent 0 = .ok (.aload_n 0, 1) := by decide +kernel
theorem dX10_isIndependent_1 : decode cX10_isIndependent 1 = .ok (.aload_n 0, 1) := by decide +kernel
theorem dX10_isIndependent_2 : decode cX10_isIndependent 2 = .ok (.iload_n 1, 1) := by decide +kernel
theorem dX10_isIndependent_3 : decode cX10_isIndependent 3 = .ok (.invokevirtual 159, 3) := by decide +kernel
theorem dX10_isIndependent_6 : decode cX10_isIndependent 6 = .ok (.ifCond .eq 15, 3) := by decide +kernel
theorem dX10_isIndependent_9 : decode cX10_isIndependent 9 = .ok (.aload_n 0, 1) := by decide +kernel
theorem dX10_isIndependent_10 : decode cX10_isIndependent 10 = .ok (.iload_n 2, 1) := by decide +kernel
theorem dX10_isIndependent_11 : decode cX10_isIndependent 11 = .ok (.invokevirtual 159, 3) := by decide +kernel
theorem dX10_isIndependent_14 : decode cX10_isIndependent 14 = .ok (.ifCond .eq 7, 3) := by decide +kernel
theorem dX10_isIndependent_17 : decode cX10_isIndependent 17 = .ok (.iconst 0, 1) := by decide +kernel
theorem dX10_isIndependent_18 : decode cX10_isIndependent 18 = .ok (.goto 4, 3) := by decide +kernel
theorem dX10_isIndependent_21 : decode cX10_isIndependent 21 = .ok (.iconst 1, 1) := by decide +kernel
theorem dX10_isIndependent_22 : decode cX10_isIndependent 22 = .ok (.putfield 69, 3) := by decide +kernel
theorem dX10_isIndependent_25 : decode cX10_isIndependent 25 = .ok (.aload_n 0, 1) := by decide +kernel
theorem dX10_isIndependent_26 : decode cX10_isIndependent 26 = .ok (.getfield 69, 3) := by decide +kernel
theorem dX10_isIndependent_29 : decode cX10_isIndependent 29 = .ok (.ifCond .ne 16, 3) := by decide +kernel
theorem dX10_isIndependent_32 : decode cX10_isIndependent 32 = .ok (.aload_n 0, 1) := by decide +kernel
theorem dX10_isIndependent_33 : decode cX10_isIndependent 33 = .ok (.iload_n 1, 1) := by decide +kernel
theorem dX10_isIndependent_34 : decode cX10_isIndependent 34 = .ok (.iload_n 2, 1) := by decide +kernel
theorem dX10_isIndependent_35 : decode cX10_isIndependent 35 = .ok (.invokevirtual 190, 3) := by decide +kernel
theorem dX10_isIndependent_38 : decode cX10_isIndependent 38 = .ok (.ifCond .eq 7, 3) := by decide +kernel
theorem dX10_isIndependent_41 : decode cX10_isIndependent 41 = .ok (.iconst 1, 1) := by decide +kernel
theorem dX10_isIndependent_42 : decode cX10_isIndependent 42 = .ok (.goto 4, 3) := by decide +kernel
theorem dX10_isIndependent_45 : decode cX10_isIndependent 45 = .ok (.iconst 0, 1) := by decide +kernel
theorem dX10_isIndependent_46 : decode cX10_isIndependent 46 = .ok (.ireturn, 1) := by decide +kernel
theorem dX10_beforeCandidate_0 : decode cX10_beforeCandidate 0 = .ok (.iload_n 1, 1) := by decide +kernel
theorem dX10_beforeCandidate_1 : decode cX10_beforeCandidate 1 = .ok (.iconst 1, 1) := by decide +kernel
theorem dX10_beforeCandidate_2 : decode cX10_beforeCandidate 2 = .ok (.isub, 1) := by decide +kernel
theorem dX10_beforeCandidate_3 : decode cX10_beforeCandidate 3 = .ok (.istore_n 2, 1) := by decide +kernel
theorem dX10_beforeCandidate_4 : decode cX10_beforeCandidate 4 = .ok (.iload_n 2, 1) := by decide +kernel
theorem dX10_beforeCandidate_5 : decode cX10_beforeCandidate 5 = .ok (.ifCond .lt 114, 3) := by decide +kernel
theorem dX10_beforeCandidate_8 : decode cX10_beforeCandidate 8 = .ok (.aload_n 0, 1) := by decide +kernel
theorem dX10_beforeCandidate_9 : decode cX10_beforeCandidate 9 = .ok (.iload_n 1, 1) := by decide +kernel
theorem dX10_beforeCandidate_10 : decode cX10_beforeCandidate 10 = .ok (.invokevirtual 165, 3) := by decide +kernel
theorem dX10_beforeCandidate_13 : decode cX10_beforeCandidate 13 = .ok (.ifCond .ne 106, 3) := by decide +kernel
theorem dX10_beforeCandidate_16 : decode cX10_beforeCandidate 16 = .ok (.aload_n 0, 1) := by decide +kernel
theorem dX10_beforeCandidate_17 : decode cX10_beforeCandidate 17 = .ok (.iload_n 2, 1) := by decide +kernel
theorem dX10_beforeCandidate_18 : decode cX10_beforeCandidate 18 = .ok (.iconst 0, 1) := by decide +kernel
theorem dX10_beforeCandidate_19 : decode cX10_beforeCandidate 19 = .ok (.invokevirtual 77, 3) := by decide +kernel
theorem dX10_beforeCandidate_22 : decode cX10_beforeCandidate 22 = .ok (.istore_n 3, 1) := by decide +kernel
theorem dX10_beforeCandidate_23 : decode cX10_beforeCandidate 23 = .ok (.iload_n 3, 1) := by decide +kernel
theorem dX10_beforeCandidate_24 : decode cX10_beforeCandidate 24 = .ok (.invokestatic 81, 3) := by decide +kernel
theorem dX10_beforeCandidate_27 : decode cX10_beforeCandidate 27 = .ok (.ifCond .ne 17, 3) := by decide +kernel
theorem dX10_beforeCandidate_30 : decode cX10_beforeCandidate 30 = .ok (.aload_n 0, 1) := by decide +kernel
theorem dX10_beforeCandidate_31 : decode cX10_beforeCandidate 31 = .ok (.iload_n 2, 1) := by decide +kernel
theorem dX10_beforeCandidate_32 : decode cX10_beforeCandidate 32 = .ok (.invokevirtual 162, 3) := by decide +kernel
theorem dX10_beforeCandidate_35 : decode cX10_beforeCandidate 35 = .ok (.ifCond .ne 9, 3) := by decide +kernel
theorem dX10_beforeCandidate_38 : decode cX10_beforeCandidate 38 = .ok (.iload_n 3, 1) := by decide +kernel
theorem dX10_beforeCandidate_39 : decode cX10_beforeCandidate 39 = .ok (.bipush 11, 2) := by decide +kernel
theorem dX10_beforeCandidate_41 : decode cX10_beforeCandidate 41 = .ok (.if_icmp .ne 5, 3) := by decide +kernel
theorem dX10_beforeCandidate_44 : decode cX10_beforeCandidate 44 = .ok (.iconst (-1), 1) := by decide +kernel
theorem dX10_beforeCandidate_45 : decode cX10_beforeCandidate 45 = .ok (.ireturn, 1) := by decide +kernel
theorem dX10_beforeCandidate_46 : decode cX10_beforeCandidate 46 = .ok (.iload_n 3, 1) := by decide +kernel
theorem dX10_beforeCandidate_47 : decode cX10_beforeCandidate 47 = .ok (.ifCond .eq 7, 3) := by decide +kernel
theorem dX10_beforeCandidate_50 : decode cX10_beforeCandidate 50 = .ok (.iconst 1, 1) := by decide +kernel
theorem dX10_beforeCandidate_51 : decode cX10_beforeCandidate 51 = .ok (.goto 4, 3) := by decide +kernel
theorem dX10_beforeCandidate_54 : decode cX10_beforeCandidate 54 = .ok (.iconst 0, 1) := by decide +kernel
theorem dX10_beforeCandidate_55 : decode cX10_beforeCandidate 55 = .ok (.istore 4, 2) := by decide +kernel
theorem dX10_beforeCandidate_57 : decode cX10_beforeCandidate 57 = .ok (.iload_n 2, 1) := by decide +kernel
theorem dX10_beforeCandidate_58 : decode cX10_beforeCandidate 58 = .ok (.iconst 1, 1) := by decide +kernel
theorem dX10_beforeCandidate_59 : decode cX10_beforeCandidate 59 = .ok (.iadd, 1) := by decide +kernel
theorem dX10_beforeCandidate_60 : decode cX10_beforeCandidate 60 = .ok (.istore 5, 2) := by decide +kernel
theorem dX10_beforeCandidate_62 : decode cX10_beforeCandidate 62 = .ok (.iload 5, 2) := by decide +kernel
theorem dX10_beforeCandidate_64 : decode cX10_beforeCandidate 64 = .ok (.iload_n 1, 1) := by decide +kernel
theorem dX10_beforeCandidate_65 : decode cX10_beforeCandidate 65 = .ok (.if_icmp .gt 31, 3) := by decide +kernel
theorem dX10_beforeCandidate_68 : decode cX10_beforeCandidate 68 = .ok (.iload 4, 2) := by decide +kernel
theorem dX10_beforeCandidate_70 : decode cX10_beforeCandidate 70 = .ok (.ifCond .eq 17, 3) := by decide +kernel
theorem dX10_beforeCandidate_73 : decode cX10_beforeCandidate 73 = .ok (.aload_n 0, 1) := by decide +kernel
theorem dX10_beforeCandidate_74 : decode cX10_beforeCandidate 74 = .ok (.iload_n 2, 1) := by decide +kernel
theorem dX10_beforeCandidate_75 : decode cX10_beforeCandidate 75 = .ok (.iload 5, 2) := by decide +kernel
theorem dX10_beforeCandidate_77 : decode cX10_beforeCandidate 77 = .ok (.invokevirtual 190, 3) := by decide +kernel
theorem dX10_beforeCandidate_80 : decode cX10_beforeCandidate 80 = .ok (.ifCond .eq 7, 3) := by decide +kernel
theorem dX10_beforeCandidate_83 : decode cX10_beforeCandidate 83 = .ok (.iconst 1, 1) := by decide +kernel
theorem dX10_beforeCandidate_84 : decode cX10_beforeCandidate 84 = .ok (.goto 4, 3) := by decide +kernel
theorem dX10_beforeCandidate_87 : decode cX10_beforeCandidate 87 = .ok (.iconst 0, 1) := by decide +kernel
theorem dX10_beforeCandidate_88 : decode cX10_beforeCandidate 88 = .ok (.istore 4, 2) := by decide +kernel
theorem dX10_beforeCandidate_90 : decode cX10_beforeCandidate 90 = .ok (.iinc 5 1, 3) := by decide +kernel
theorem dX10_beforeCandidate_93 : decode cX10_beforeCandidate 93 = .ok (.goto (-31), 3) := by decide +kernel
theorem dX10_beforeCandidate_96 : decode cX10_beforeCandidate 96 = .ok (.iload 4, 2) := by decide +kernel
theorem dX10_beforeCandidate_98 : decode cX10_beforeCandidate 98 = .ok (.ifCond .eq 5, 3) := by decide +kernel
theorem dX10_beforeCandidate_101 : decode cX10_beforeCandidate 101 = .ok (.iload_n 2, 1) := by decide +kernel
theorem dX10_beforeCandidate_102 : decode cX10_beforeCandidate 102 = .ok (.ireturn, 1) := by decide +kernel
theorem dX10_beforeCandidate_103 : decode cX10_beforeCandidate 103 = .ok (.aload_n 0, 1) := by decide +kernel
theorem dX10_beforeCandidate_104 : decode cX10_beforeCandidate 104 = .ok (.iload_n 2, 1) := by decide +kernel
theorem dX10_beforeCandidate_105 : decode cX10_beforeCandidate 105 = .ok (.invokevirtual 165, 3) := by decide +kernel
theorem dX10_beforeCandidate_108 : decode cX10_beforeCandidate 108 = .ok (.ifCond .le 5, 3) := by decide +kernel
theorem dX10_beforeCandidate_111 : decode cX10_beforeCandidate 111 = .ok (.iconst (-1), 1) := by decide +kernel
theorem dX10_beforeCandidate_112 : decode cX10_beforeCandidate 112 = .ok (.ireturn, 1) := by decide +kernel
theorem dX10_beforeCandidate_113 : decode cX10_beforeCandidate 113 = .ok (.iinc 2 (-1), 3) := by decide +kernel
theorem dX10_beforeCandidate_116 : decode cX10_beforeCandidate 116 = .ok (.goto (-112), 3) := by decide +kernel
theorem dX10_beforeCandidate_119 : decode cX10_beforeCandidate 119 = .ok (.iconst (-1), 1) := by decide +kernel
theorem dX10_beforeCandidate_120 : decode cX10_beforeCandidate 120 = .ok (.ireturn, 1) := by decide +kernel
theorem dX10_isPlain_0 : decode cX10_isPlain 0 = .ok (.aload_n 0, 1) := by decide +kernel
theorem dX10_isPlain_1 : decode cX10_isPlain 1 = .ok (.iload_n 1, 1) := by decide +kernel
theorem dX10_isPlain_2 : decode cX10_isPlain 2 = .ok (.iconst 0, 1) := by decide +kernel
theorem dX10_isPlain_3 : decode cX10_isPlain 3 = .ok (.invokevirtual 77, 3) := by decide +kernel
theorem dX10_isPlain_6 : decode cX10_isPlain 6 = .ok (.istore_n 2, 1) := by decide +kernel
theorem dX10_isPlain_7 : decode cX10_isPlain 7 = .ok (.iload_n 2, 1) := by decide +kernel
theorem dX10_isPlain_8 : decode cX10_isPlain 8 = .ok (.ifCond .eq 20, 3) := by decide +kernel
theorem dX10_isPlain_11 : decode cX10_isPlain 11 = .ok (.iload_n 2, 1) := by decide +kernel
theorem dX10_isPlain_12 : decode cX10_isPlain 12 = .ok (.invokestatic 81, 3) := by decide +kernel
theorem dX10_isPlain_15 : decode cX10_isPlain 15 = .ok (.ifCond .ne 13, 3) := by decide +kernel
theorem dX10_isPlain_18 : decode cX10_isPlain 18 = .ok (.iload_n 2, 1) := by decide +kernel
theorem dX10_isPlain_19 : decode cX10_isPlain 19 = .ok (.bipush 11, 2) := by decide +kernel
theorem dX10_isPlain_21 : decode cX10_isPlain 21 = .ok (.if_icmp .eq 7, 3) := by decide +kernel
theorem dX10_isPlain_24 : decode cX10_isPlain 24 = .ok (.iconst 1, 1) := by decide +kernel
theorem dX10_isPlain_25 : decode cX10_isPlain 25 = .ok (.goto 4, 3) := by decide +kernel
theorem dX10_isPlain_28 : decode cX10_isPlain 28 = .ok (.iconst 0, 1) := by decide +kernel
theorem dX10_isPlain_29 : decode cX10_isPlain 29 = .ok (.ireturn, 1) := by decide +kernel
theorem dX10_targetCandidate_0 : decode cX10_targetCandidate 0 = .ok (.aload_n 0, 1) := by decide +kernel
theorem dX10_targetCandidate_1 : decode cX10_targetCandidate 1 = .ok (.iload_n 1, 1) := by decide +kernel
theorem dX10_targetCandidate_2 : decode cX10_targetCandidate 2 = .ok (.iconst 3, 1) := by decide +kernel
theorem dX10_targetCandidate_3 : decode cX10_targetCandidate 3 = .ok (.invokevirtual 77, 3) := by decide +kernel
theorem dX10_targetCandidate_6 : decode cX10_targetCandidate 6 = .ok (.istore_n 2, 1) := by decide +kernel
theorem dX10_targetCandidate_7 : decode cX10_targetCandidate 7 = .ok (.aload_n 0, 1) := by decide +kernel
theorem dX10_targetCandidate_8 : decode cX10_targetCandidate 8 = .ok (.iload_n 2, 1) := by decide +kernel
theorem dX10_targetCandidate_9 : decode cX10_targetCandidate 9 = .ok (.invokevirtual 159, 3) := by decide +kernel
theorem dX10_targetCandidate_12 : decode cX10_targetCandidate 12 = .ok (.ifCond .eq 15, 3) := by decide +kernel
theorem dX10_targetCandidate_15 : decode cX10_targetCandidate 15 = .ok (.aload_n 0, 1) := by decide +kernel
theorem dX10_targetCandidate_16 : decode cX10_targetCandidate 16 = .ok (.iload_n 2, 1) := by decide +kernel
theorem dX10_targetCandidate_17 : decode cX10_targetCandidate 17 = .ok (.invokevirtual 194, 3) := by decide +kernel
theorem dX10_targetCandidate_20 : decode cX10_targetCandidate 20 = .ok (.ifCond .eq 7, 3) := by decide +kernel
theorem dX10_targetCandidate_23 : decode cX10_targetCandidate 23 = .ok (.iload_n 2, 1) := by decide +kernel
theorem dX10_targetCandidate_24 : decode cX10_targetCandidate 24 = .ok (.goto 4, 3) := by decide +kernel
theorem dX10_targetCandidate_27 : decode cX10_targetCandidate 27 = .ok (.iconst (-1), 1) := by decide +kernel
theorem dX10_targetCandidate_28 : decode cX10_targetCandidate 28 = .ok (.ireturn, 1) := by decide +kernel
theorem dX10_fallCandidate_0 : decode cX10_fallCandidate 0 = .ok (.iload_n 1, 1) := by decide +kernel
theorem dX10_fallCandidate_1 : decode cX10_fallCandidate 1 = .ok (.iconst 2, 1) := by decide +kernel
theorem dX10_fallCandidate_2 : decode cX10_fallCandidate 2 = .ok (.iadd, 1) := by decide +kernel
theorem dX10_fallCandidate_3 : decode cX10_fallCandidate 3 = .ok (.istore_n 2, 1) := by decide +kernel
theorem dX10_fallCandidate_4 : decode cX10_fallCandidate 4 = .ok (.aload_n 0, 1) := by decide +kernel
theorem dX10_fallCandidate_5 : decode cX10_fallCandidate 5 = .ok (.iload_n 1, 1) := by decide +kernel
theorem dX10_fallCandidate_6 : decode cX10_fallCandidate 6 = .ok (.iconst 0, 1) := by decide +kernel
theorem dX10_fallCandidate_7 : decode cX10_fallCandidate 7 = .ok (.invokevirtual 77, 3) := by decide +kernel
theorem dX10_fallCandidate_10 : decode cX10_fallCandidate 10 = .ok (.bipush 10, 2) := by decide +kernel
theorem dX10_fallCandidate_12 : decode cX10_fallCandidate 12 = .ok (.if_icmp .eq 43, 3) := by decide +kernel
theorem dX10_fallCandidate_15 : decode cX10_fallCandidate 15 = .ok (.aload_n 0, 1) := by decide +kernel
theorem dX10_fallCandidate_16 : decode cX10_fallCandidate 16 = .ok (.iload_n 2, 1) := by decide +kernel
theorem dX10_fallCandidate_17 : decode cX10_fallCandidate 17 = .ok (.invokevirtual 159, 3) := by decide +kernel
theorem dX10_fallCandidate_20 : decode cX10_fallCandidate 20 = .ok (.ifCond .eq 35, 3) := by decide +kernel
theorem dX10_fallCandidate_23 : decode cX10_fallCandidate 23 = .ok (.aload_n 0, 1) := by decide +kernel
theorem dX10_fallCandidate_24 : decode cX10_fallCandidate 24 = .ok (.iload_n 2, 1) := by decide +kernel
theorem dX10_fallCandidate_25 : decode cX10_fallCandidate 25 = .ok (.invokevirtual 194, 3) := by decide +kernel
theorem dX10_fallCandidate_28 : decode cX10_fallCandidate 28 = .ok (.ifCond .eq 27, 3) := by decide +kernel
theorem dX10_fallCandidate_31 : decode cX10_fallCandidate 31 = .ok (.aload_n 0, 1) := by decide +kernel
theorem dX10_fallCandidate_32 : decode cX10_fallCandidate 32 = .ok (.iload_n 2, 1) := by decide +kernel
theorem dX10_fallCandidate_33 : decode cX10_fallCandidate 33 = .ok (.iconst 0, 1) := by decide +kernel
theorem dX10_fallCandidate_34 : decode cX10_fallCandidate 34 = .ok (.invokevirtual 77, 3) := by decide +kernel
theorem dX10_fallCandidate_37 : decode cX10_fallCandidate 37 = .ok (.bipush 6, 2) := by decide +kernel
theorem dX10_fallCandidate_39 : decode cX10_fallCandidate 39 = .ok (.bipush 7, 2) := by decide +kernel
theorem dX10_fallCandidate_41 : decode cX10_fallCandidate 41 = .ok (.invokestatic 73, 3) := by decide +kernel
theorem dX10_fallCandidate_44 : decode cX10_fallCandidate 44 = .ok (.ifCond .ne 11, 3) := by decide +kernel
theorem dX10_fallCandidate_47 : decode cX10_fallCandidate 47 = .ok (.aload_n 0, 1) := by decide +kernel
theorem dX10_fallCandidate_48 : decode cX10_fallCandidate 48 = .ok (.iload_n 2, 1) := by decide +kernel
theorem dX10_fallCandidate_49 : decode cX10_fallCandidate 49 = .ok (.invokevirtual 165, 3) := by decide +kernel
theorem dX10_fallCandidate_52 : decode cX10_fallCandidate 52 = .ok (.ifCond .le 5, 3) := by decide +kernel
theorem dX10_fallCandidate_55 : decode cX10_fallCandidate 55 = .ok (.iconst (-1), 1) := by decide +kernel
theorem dX10_fallCandidate_56 : decode cX10_fallCandidate 56 = .ok (.ireturn, 1) := by decide +kernel
theorem dX10_fallCandidate_57 : decode cX10_fallCandidate 57 = .ok (.aload_n 0, 1) := by decide +kernel
theorem dX10_fallCandidate_58 : decode cX10_fallCandidate 58 = .ok (.invokevirtual 187, 3) := by decide +kernel
theorem dX10_fallCandidate_61 : decode cX10_fallCandidate 61 = .ok (.aload_n 0, 1) := by decide +kernel
theorem dX10_fallCandidate_62 : decode cX10_fallCandidate 62 = .ok (.iload_n 2, 1) := by decide +kernel
theorem dX10_fallCandidate_63 : decode cX10_fallCandidate 63 = .ok (.invokevirtual 178, 3) := by decide +kernel
theorem dX10_fallCandidate_66 : decode cX10_fallCandidate 66 = .ok (.aload_n 0, 1) := by decide +kernel
theorem dX10_fallCandidate_67 : decode cX10_fallCandidate 67 = .ok (.getfield 30, 3) := by decide +kernel
theorem dX10_fallCandidate_70 : decode cX10_fallCandidate 70 = .ok (.aload_n 0, 1) := by decide +kernel
theorem dX10_fallCandidate_71 : decode cX10_fallCandidate 71 = .ok (.iload_n 1, 1) := by decide +kernel
theorem dX10_fallCandidate_72 : decode cX10_fallCandidate 72 = .ok (.iconst 3, 1) := by decide +kernel
theorem dX10_fallCandidate_73 : decode cX10_fallCandidate 73 = .ok (.invokevirtual 77, 3) := by decide +kernel
theorem dX10_fallCandidate_76 : decode cX10_fallCandidate 76 = .ok (.iaload, 1) := by decide +kernel
theorem dX10_fallCandidate_77 : decode cX10_fallCandidate 77 = .ok (.iand, 1) := by decide +kernel
theorem dX10_fallCandidate_78 : decode cX10_fallCandidate 78 = .ok (.ifCond .ne 7, 3) := by decide +kernel
theorem dX10_fallCandidate_81 : decode cX10_fallCandidate 81 = .ok (.iload_n 2, 1) := by decide +kernel
theorem dX10_fallCandidate_82 : decode cX10_fallCandidate 82 = .ok (.goto 4, 3) := by decide +kernel
theorem dX10_fallCandidate_85 : decode cX10_fallCandidate 85 = .ok (.iconst (-1), 1) := by decide +kernel
theorem dX10_fallCandidate_86 : decode cX10_fallCandidate 86 = .ok (.ireturn, 1) := by decide +kernel
theorem dX10_candidateOf_0 : decode cX10_candidateOf 0 = .ok (.iload_n 2, 1) := by decide +kernel
theorem dX10_candidateOf_1 : decode cX10_candidateOf 1 = .ok (.ifCond .ne 11, 3) := by decide +kernel
theorem dX10_candidateOf_4 : decode cX10_candidateOf 4 = .ok (.aload_n 0, 1) := by decide +kernel
theorem dX10_candidateOf_5 : decode cX10_candidateOf 5 = .ok (.iload_n 1, 1) := by decide +kernel
theorem dX10_candidateOf_6 : decode cX10_candidateOf 6 = .ok (.invokevirtual 197, 3) := by decide +kernel
theorem dX10_candidateOf_9 : decode cX10_candidateOf 9 = .ok (.goto 21, 3) := by decide +kernel
theorem dX10_candidateOf_12 : decode cX10_candidateOf 12 = .ok (.iload_n 2, 1) := by decide +kernel
theorem dX10_candidateOf_13 : decode cX10_candidateOf 13 = .ok (.iconst 1, 1) := by decide +kernel
theorem dX10_candidateOf_14 : decode cX10_candidateOf 14 = .ok (.if_icmp .ne 11, 3) := by decide +kernel
theorem dX10_candidateOf_17 : decode cX10_candidateOf 17 = .ok (.aload_n 0, 1) := by decide +kernel
theorem dX10_candidateOf_18 : decode cX10_candidateOf 18 = .ok (.iload_n 1, 1) := by decide +kernel
theorem dX10_candidateOf_19 : decode cX10_candidateOf 19 = .ok (.invokevirtual 200, 3) := by decide +kernel
theorem dX10_candidateOf_22 : decode cX10_candidateOf 22 = .ok (.goto 8, 3) := by decide +kernel
theorem dX10_candidateOf_25 : decode cX10_candidateOf 25 = .ok (.aload_n 0, 1) := by decide +kernel
theorem dX10_candidateOf_26 : decode cX10_candidateOf 26 = .ok (.iload_n 1, 1) := by decide +kernel
theorem dX10_candidateOf_27 : decode cX10_candidateOf 27 = .ok (.invokevirtual 203, 3) := by decide +kernel
theorem dX10_candidateOf_30 : decode cX10_candidateOf 30 = .ok (.ireturn, 1) := by decide +kernel
theorem dX10_problem_0 : decode cX10_problem 0 = .ok (.aload_n 0, 1) := by decide +kernel
theorem dX10_problem_1 : decode cX10_problem 1 = .ok (.iload_n 1, 1) := by decide +kernel
theorem dX10_problem_2 : decode cX10_problem 2 = .ok (.invokevirtual 159, 3) := by decide +kernel
theorem dX10_problem_5 : decode cX10_problem 5 = .ok (.ifCond .ne 5, 3) := by decide +kernel
theorem dX10_problem_8 : decode cX10_problem 8 = .ok (.iconst 1, 1) := by decide +kernel
theorem dX10_problem_9 : decode cX10_problem 9 = .ok (.ireturn, 1) := by decide +kernel
theorem dX10_problem_10 : decode cX10_problem 10 = .ok (.iload_n 2, 1) := by decide +kernel
theorem dX10_problem_11 : decode cX10_problem 11 = .ok (.iconst 0, 1) := by decide +kernel
theorem dX10_problem_12 : decode cX10_problem 12 = .ok (.iconst 2, 1) := by decide +kernel
theorem dX10_problem_13 : decode cX10_problem 13 = .ok (.invokestatic 73, 3) := by decide +kernel
theorem dX10_problem_16 : decode cX10_problem 16 = .ok (.ifCond .ne 7, 3) := by decide +kernel
theorem dX10_problem_19 : decode cX10_problem 19 = .ok (.iconst 2, 1) := by decide +kernel
theorem dX10_problem_20 : decode cX10_problem 20 = .ok (.goto 45, 3) := by decide +kernel
theorem dX10_problem_23 : decode cX10_problem 23 = .ok (.aload_n 0, 1) := by decide +kernel
theorem dX10_problem_24 : decode cX10_problem 24 = .ok (.iload_n 1, 1) := by decide +kernel
theorem dX10_problem_25 : decode cX10_problem 25 = .ok (.iconst 0, 1) := by decide +kernel
theorem dX10_problem_26 : decode cX10_problem 26 = .ok (.invokevirtual 77, 3) := by decide +kernel
theorem dX10_problem_29 : decode cX10_problem 29 = .ok (.invokestatic 81, 3) := by decide +kernel
theorem dX10_problem_32 : decode cX10_problem 32 = .ok (.ifCond .eq 14, 3) := by decide +kernel
theorem dX10_problem_35 : decode cX10_problem 35 = .ok (.aload_n 0, 1) := by decide +kernel
theorem dX10_problem_36 : decode cX10_problem 36 = .ok (.iload_n 1, 1) := by decide +kernel
theorem dX10_problem_37 : decode cX10_problem 37 = .ok (.iconst 1, 1) := by decide +kernel
theorem dX10_problem_38 : decode cX10_problem 38 = .ok (.iadd, 1) := by decide +kernel
theorem dX10_problem_39 : decode cX10_problem 39 = .ok (.iconst 0, 1) := by decide +kernel
theorem dX10_problem_40 : decode cX10_problem 40 = .ok (.invokevirtual 77, 3) := by decide +kernel
theorem dX10_problem_43 : decode cX10_problem 43 = .ok (.ifCond .eq 7, 3) := by decide +kernel
theorem dX10_problem_46 : decode cX10_problem 46 = .ok (.iconst 3, 1) := by decide +kernel
theorem dX10_problem_47 : decode cX10_problem 47 = .ok (.goto 18, 3) := by decide +kernel
theorem dX10_problem_50 : decode cX10_problem 50 = .ok (.aload_n 0, 1) := by decide +kernel
theorem dX10_problem_51 : decode cX10_problem 51 = .ok (.iload_n 1, 1) := by decide +kernel
theorem dX10_problem_52 : decode cX10_problem 52 = .ok (.iload_n 2, 1) := by decide +kernel
theorem dX10_problem_53 : decode cX10_problem 53 = .ok (.invokevirtual 206, 3) := by decide +kernel
theorem dX10_problem_56 : decode cX10_problem 56 = .ok (.iconst (-1), 1) := by decide +kernel
theorem dX10_problem_57 : decode cX10_problem 57 = .ok (.if_icmp .ne 7, 3) := by decide +kernel
theorem dX10_problem_60 : decode cX10_problem 60 = .ok (.iconst 4, 1) := by decide +kernel
theorem dX10_problem_61 : decode cX10_problem 61 = .ok (.goto 4, 3) := by decide +kernel
theorem dX10_problem_64 : decode cX10_problem 64 = .ok (.iconst 0, 1) := by decide +kernel
theorem dX10_problem_65 : decode cX10_problem 65 = .ok (.ireturn, 1) := by decide +kernel
theorem dX10_candidate_0 : decode cX10_candidate 0 = .ok (.aload_n 0, 1) := by decide +kernel
theorem dX10_candidate_1 : decode cX10_candidate 1 = .ok (.aload_n 0, 1) := by decide +kernel
theorem dX10_candidate_2 : decode cX10_candidate 2 = .ok (.iload_n 1, 1) := by decide +kernel
theorem dX10_candidate_3 : decode cX10_candidate 3 = .ok (.iload_n 2, 1) := by decide +kernel
theorem dX10_candidate_4 : decode cX10_candidate 4 = .ok (.invokevirtual 209, 3) := by decide +kernel
theorem dX10_candidate_7 : decode cX10_candidate 7 = .ok (.putfield 69, 3) := by decide +kernel
theorem dX10_candidate_10 : decode cX10_candidate 10 = .ok (.aload_n 0, 1) := by decide +kernel
theorem dX10_candidate_11 : decode cX10_candidate 11 = .ok (.getfield 69, 3) := by decide +kernel
theorem dX10_candidate_14 : decode cX10_candidate 14 = .ok (.ifCond .ne 12, 3) := by decide +kernel
theorem dX10_candidate_17 : decode cX10_candidate 17 = .ok (.aload_n 0, 1) := by decide +kernel
theorem dX10_candidate_18 : decode cX10_candidate 18 = .ok (.iload_n 1, 1) := by decide +kernel
theorem dX10_candidate_19 : decode cX10_candidate 19 = .ok (.iload_n 2, 1) := by decide +kernel
theorem dX10_candidate_20 : decode cX10_candidate 20 = .ok (.invokevirtual 206, 3) := by decide +kernel
theorem dX10_candidate_23 : decode cX10_candidate 23 = .ok (.goto 4, 3) := by decide +kernel
theorem dX10_candidate_26 : decode cX10_candidate 26 = .ok (.iconst 0, 1) := by decide +kernel
theorem dX10_candidate_27 : decode cX10_candidate 27 = .ok (.ireturn, 1) := by decide +kernel
theorem dX10_take_0 : decode cX10_take 0 = .ok (.aload_n 0, 1) := by decide +kernel
theorem dX10_take_1 : decode cX10_take 1 = .ok (.getfield 13, 3) := by decide +kernel
theorem dX10_take_4 : decode cX10_take 4 = .ok (.iconst 0, 1) := by decide +kernel
theorem dX10_take_5 : decode cX10_take 5 = .ok (.dup2, 1) := by decide +kernel
theorem dX10_take_6 : decode cX10_take 6 = .ok (.iaload, 1) := by decide +kernel
theorem dX10_take_7 : decode cX10_take 7 = .ok (.iconst 1, 1) := by decide +kernel
theorem dX10_take_8 : decode cX10_take 8 = .ok (.isub, 1) := by decide +kernel
theorem dX10_take_9 : decode cX10_take 9 = .ok (.iastore, 1) := by decide +kernel
theorem dX10_take_10 : decode cX10_take 10 = .ok (.iload_n 1, 1) := by decide +kernel
theorem dX10_take_11 : decode cX10_take 11 = .ok (.istore_n 2, 1) := by decide +kernel
theorem dX10_take_12 : decode cX10_take 12 = .ok (.iload_n 2, 1) := by decide +kernel
theorem dX10_take_13 : decode cX10_take 13 = .ok (.aload_n 0, 1) := by decide +kernel
theorem dX10_take_14 : decode cX10_take 14 = .ok (.getfield 13, 3) := by decide +kernel
theorem dX10_take_17 : decode cX10_take 17 = .ok (.iconst 0, 1) := by decide +kernel
theorem dX10_take_18 : decode cX10_take 18 = .ok (.iaload, 1) := by decide +kernel
theorem dX10_take_19 : decode cX10_take 19 = .ok (.if_icmp .ge 54, 3) := by decide +kernel
theorem dX10_take_22 : decode cX10_take 22 = .ok (.aload_n 0, 1) := by decide +kernel
theorem dX10_take_23 : decode cX10_take 23 = .ok (.iload_n 2, 1) := by decide +kernel
theorem dX10_take_24 : decode cX10_take 24 = .ok (.aload_n 0, 1) := by decide +kernel
theorem dX10_take_25 : decode cX10_take 25 = .ok (.iload_n 2, 1) := by decide +kernel
theorem dX10_take_26 : decode cX10_take 26 = .ok (.iconst 1, 1) := by decide +kernel
theorem dX10_take_27 : decode cX10_take 27 = .ok (.iadd, 1) := by decide +kernel
theorem dX10_take_28 : decode cX10_take 28 = .ok (.iconst 0, 1) := by decide +kernel
theorem dX10_take_29 : decode cX10_take 29 = .ok (.invokevirtual 77, 3) := by decide +kernel
theorem dX10_take_32 : decode cX10_take 32 = .ok (.aload_n 0, 1) := by decide +kernel
theorem dX10_take_33 : decode cX10_take 33 = .ok (.iload_n 2, 1) := by decide +kernel
theorem dX10_take_34 : decode cX10_take 34 = .ok (.iconst 1, 1) := by decide +kernel
theorem dX10_take_35 : decode cX10_take 35 = .ok (.iadd, 1) := by decide +kernel
theorem dX10_take_36 : decode cX10_take 36 = .ok (.iconst 1, 1) := by decide +kernel
theorem dX10_take_37 : decode cX10_take 37 = .ok (.invokevirtual 77, 3) := by decide +kernel
theorem dX10_take_40 : decode cX10_take 40 = .ok (.aload_n 0, 1) := by decide +kernel
theorem dX10_take_41 : decode cX10_take 41 = .ok (.iload_n 2, 1) := by decide +kernel
theorem dX10_take_42 : decode cX10_take 42 = .ok (.iconst 1, 1) := by decide +kernel
theorem dX10_take_43 : decode cX10_take 43 = .ok (.iadd, 1) := by decide +kernel
theorem dX10_take_44 : decode cX10_take 44 = .ok (.iconst 2, 1) := by decide +kernel
theorem dX10_take_45 : decode cX10_take 45 = .ok (.invokevirtual 77, 3) := by decide +kernel
theorem dX10_take_48 : decode cX10_take 48 = .ok (.aload_n 0, 1) := by decide +kernel
theorem dX10_take_49 : decode cX10_take 49 = .ok (.iload_n 2, 1) := by decide +kernel
theorem dX10_take_50 : decode cX10_take 50 = .ok (.iconst 1, 1) := by decide +kernel
theorem dX10_take_51 : decode cX10_take 51 = .ok (.iadd, 1) := by decide +kernel
theorem dX10_take_52 : decode cX10_take 52 = .ok (.iconst 3, 1) := by decide +kernel
theorem dX10_take_53 : decode cX10_take 53 = .ok (.invokevirtual 77, 3) := by decide +kernel
theorem dX10_take_56 : decode cX10_take 56 = .ok (.aload_n 0, 1) := by decide +kernel
theorem dX10_take_57 : decode cX10_take 57 = .ok (.iload_n 2, 1) := by decide +kernel
theorem dX10_take_58 : decode cX10_take 58 = .ok (.iconst 1, 1) := by decide +kernel
theorem dX10_take_59 : decode cX10_take 59 = .ok (.iadd, 1) := by decide +kernel
theorem dX10_take_60 : decode cX10_take 60 = .ok (.iconst 4, 1) := by decide +kernel
theorem dX10_take_61 : decode cX10_take 61 = .ok (.invokevirtual 77, 3) := by decide +kernel
theorem dX10_take_64 : decode cX10_take 64 = .ok (.invokevirtual 155, 3) := by decide +kernel
theorem dX10_take_67 : decode cX10_take 67 = .ok (.iinc 2 1, 3) := by decide +kernel
theorem dX10_take_70 : decode cX10_take 70 = .ok (.goto (-58), 3) := by decide +kernel
theorem dX10_take_73 : decode cX10_take 73 = .ok (.iconst 0, 1) := by decide +kernel
theorem dX10_take_74 : decode cX10_take 74 = .ok (.istore_n 2, 1) := by decide +kernel
theorem dX10_take_75 : decode cX10_take 75 = .ok (.iload_n 2, 1) := by decide +kernel
theorem dX10_take_76 : decode cX10_take 76 = .ok (.aload_n 0, 1) := by decide +kernel
theorem dX10_take_77 : decode cX10_take 77 = .ok (.getfield 13, 3) := by decide +kernel
theorem dX10_take_80 : decode cX10_take 80 = .ok (.iconst 0, 1) := by decide +kernel
theorem dX10_take_81 : decode cX10_take 81 = .ok (.iaload, 1) := by decide +kernel
theorem dX10_take_82 : decode cX10_take 82 = .ok (.if_icmp .ge 47, 3) := by decide +kernel
theorem dX10_take_85 : decode cX10_take 85 = .ok (.aload_n 0, 1) := by decide +kernel
theorem dX10_take_86 : decode cX10_take 86 = .ok (.iload_n 2, 1) := by decide +kernel
theorem dX10_take_87 : decode cX10_take 87 = .ok (.iconst 0, 1) := by decide +kernel
theorem dX10_take_88 : decode cX10_take 88 = .ok (.invokevirtual 77, 3) := by decide +kernel
theorem dX10_take_91 : decode cX10_take 91 = .ok (.invokestatic 81, 3) := by decide +kernel
theorem dX10_take_94 : decode cX10_take 94 = .ok (.ifCond .eq 29, 3) := by decide +kernel
theorem dX10_take_97 : decode cX10_take 97 = .ok (.aload_n 0, 1) := by decide +kernel
theorem dX10_take_98 : decode cX10_take 98 = .ok (.iload_n 2, 1) := by decide +kernel
theorem dX10_take_99 : decode cX10_take 99 = .ok (.iconst 3, 1) := by decide +kernel
theorem dX10_take_100 : decode cX10_take 100 = .ok (.invokevirtual 77, 3) := by decide +kernel
theorem dX10_take_103 : decode cX10_take 103 = .ok (.iload_n 1, 1) := by decide +kernel
theorem dX10_take_104 : decode cX10_take 104 = .ok (.if_icmp .le 19, 3) := by decide +kernel
theorem dX10_take_107 : decode cX10_take 107 = .ok (.aload_n 0, 1) := by decide +kernel
theorem dX10_take_108 : decode cX10_take 108 = .ok (.getfield 13, 3) := by decide +kernel
theorem dX10_take_111 : decode cX10_take 111 = .ok (.iconst 1, 1) := by decide +kernel
theorem dX10_take_112 : decode cX10_take 112 = .ok (.iconst 5, 1) := by decide +kernel
theorem dX10_take_113 : decode cX10_take 113 = .ok (.iload_n 2, 1) := by decide +kernel
theorem dX10_take_114 : decode cX10_take 114 = .ok (.imul, 1) := by decide +kernel
theorem dX10_take_115 : decode cX10_take 115 = .ok (.iadd, 1) := by decide +kernel
theorem dX10_take_116 : decode cX10_take 116 = .ok (.iconst 3, 1) := by decide +kernel
theorem dX10_take_117 : decode cX10_take 117 = .ok (.iadd, 1) := by decide +kernel
theorem dX10_take_118 : decode cX10_take 118 = .ok (.dup2, 1) := by decide +kernel
theorem dX10_take_119 : decode cX10_take 119 = .ok (.iaload, 1) := by decide +kernel
theorem dX10_take_120 : decode cX10_take 120 = .ok (.iconst 1, 1) := by decide +kernel
theorem dX10_take_121 : decode cX10_take 121 = .ok (.isub, 1) := by decide +kernel
theorem dX10_take_122 : decode cX10_take 122 = .ok (.iastore, 1) := by decide +kernel
theorem dX10_take_123 : decode cX10_take 123 = .ok (.iinc 2 1, 3) := by decide +kernel
theorem dX10_take_126 : decode cX10_take 126 = .ok (.goto (-51), 3) := by decide +kernel
theorem dX10_take_129 : decode cX10_take 129 = .ok (.return_, 1) := by decide +kernel
theorem dX10_doFill_0 : decode cX10_doFill 0 = .ok (.aload_n 0, 1) := by decide +kernel
theorem dX10_doFill_1 : decode cX10_doFill 1 = .ok (.iload_n 1, 1) := by decide +kernel
theorem dX10_doFill_2 : decode cX10_doFill 2 = .ok (.iconst 1, 1) := by decide +kernel
theorem dX10_doFill_3 : decode cX10_doFill 3 = .ok (.iadd, 1) := by decide +kernel
theorem dX10_doFill_4 : decode cX10_doFill 4 = .ok (.aload_n 0, 1) := by decide +kernel
theorem dX10_doFill_5 : decode cX10_doFill 5 = .ok (.iload_n 3, 1) := by decide +kernel
theorem dX10_doFill_6 : decode cX10_doFill 6 = .ok (.iconst 0, 1) := by decide +kernel
theorem dX10_doFill_7 : decode cX10_doFill 7 = .ok (.invokevirtual 77, 3) := by decide +kernel
theorem dX10_doFill_10 : decode cX10_doFill 10 = .ok (.aload_n 0, 1) := by decide +kernel
theorem dX10_doFill_11 : decode cX10_doFill 11 = .ok (.iload_n 3, 1) := by decide +kernel
theorem dX10_doFill_12 : decode cX10_doFill 12 = .ok (.iconst 1, 1) := by decide +kernel
theorem dX10_doFill_13 : decode cX10_doFill 13 = .ok (.invokevirtual 77, 3) := by decide +kernel
theorem dX10_doFill_16 : decode cX10_doFill 16 = .ok (.aload_n 0, 1) := by decide +kernel
theorem dX10_doFill_17 : decode cX10_doFill 17 = .ok (.iload_n 3, 1) := by decide +kernel
theorem dX10_doFill_18 : decode cX10_doFill 18 = .ok (.iconst 2, 1) := by decide +kernel
theorem dX10_doFill_19 : decode cX10_doFill 19 = .ok (.invokevirtual 77, 3) := by decide +kernel
theorem dX10_doFill_22 : decode cX10_doFill 22 = .ok (.aload_n 0, 1) := by decide +kernel
theorem dX10_doFill_23 : decode cX10_doFill 23 = .ok (.iload_n 3, 1) := by decide +kernel
theorem dX10_doFill_24 : decode cX10_doFill 24 = .ok (.iconst 3, 1) := by decide +kernel
theorem dX10_doFill_25 : decode cX10_doFill 25 = .ok (.invokevirtual 77, 3) := by decide +kernel
theorem dX10_doFill_28 : decode cX10_doFill 28 = .ok (.iconst 0, 1) := by decide +kernel
theorem dX10_doFill_29 : decode cX10_doFill 29 = .ok (.invokevirtual 155, 3) := by decide +kernel
theorem dX10_doFill_32 : decode cX10_doFill 32 = .ok (.aload_n 0, 1) := by decide +kernel
theorem dX10_doFill_33 : decode cX10_doFill 33 = .ok (.getfield 13, 3) := by decide +kernel
theorem dX10_doFill_36 : decode cX10_doFill 36 = .ok (.iconst 1, 1) := by decide +kernel
theorem dX10_doFill_37 : decode cX10_doFill 37 = .ok (.iconst 5, 1) := by decide +kernel
theorem dX10_doFill_38 : decode cX10_doFill 38 = .ok (.iload_n 1, 1) := by decide +kernel
theorem dX10_doFill_39 : decode cX10_doFill 39 = .ok (.imul, 1) := by decide +kernel
theorem dX10_doFill_40 : decode cX10_doFill 40 = .ok (.iadd, 1) := by decide +kernel
theorem dX10_doFill_41 : decode cX10_doFill 41 = .ok (.iconst 4, 1) := by decide +kernel
theorem dX10_doFill_42 : decode cX10_doFill 42 = .ok (.iadd, 1) := by decide +kernel
theorem dX10_doFill_43 : decode cX10_doFill 43 = .ok (.iload_n 2, 1) := by decide +kernel
theorem dX10_doFill_44 : decode cX10_doFill 44 = .ok (.iconst 1, 1) := by decide +kernel
theorem dX10_doFill_45 : decode cX10_doFill 45 = .ok (.if_icmp .ne 18, 3) := by decide +kernel
theorem dX10_doFill_48 : decode cX10_doFill 48 = .ok (.aload_n 0, 1) := by decide +kernel
theorem dX10_doFill_49 : decode cX10_doFill 49 = .ok (.iload_n 1, 1) := by decide +kernel
theorem dX10_doFill_50 : decode cX10_doFill 50 = .ok (.iconst 0, 1) := by decide +kernel
theorem dX10_doFill_51 : decode cX10_doFill 51 = .ok (.invokevirtual 77, 3) := by decide +kernel
theorem dX10_doFill_54 : decode cX10_doFill 54 = .ok (.bipush 10, 2) := by decide +kernel
theorem dX10_doFill_56 : decode cX10_doFill 56 = .ok (.if_icmp .eq 7, 3) := by decide +kernel
theorem dX10_doFill_59 : decode cX10_doFill 59 = .ok (.iconst 1, 1) := by decide +kernel
theorem dX10_doFill_60 : decode cX10_doFill 60 = .ok (.goto 4, 3) := by decide +kernel
theorem dX10_doFill_63 : decode cX10_doFill 63 = .ok (.iconst 0, 1) := by decide +kernel
theorem dX10_doFill_64 : decode cX10_doFill 64 = .ok (.iastore, 1) := by decide +kernel
theorem dX10_doFill_65 : decode cX10_doFill 65 = .ok (.iload_n 2, 1) := by decide +kernel
theorem dX10_doFill_66 : decode cX10_doFill 66 = .ok (.iconst 1, 1) := by decide +kernel
theorem dX10_doFill_67 : decode cX10_doFill 67 = .ok (.if_icmp .ne 20, 3) := by decide +kernel
theorem dX10_doFill_70 : decode cX10_doFill 70 = .ok (.aload_n 0, 1) := by decide +kernel
theorem dX10_doFill_71 : decode cX10_doFill 71 = .ok (.getfield 13, 3) := by decide +kernel
theorem dX10_doFill_74 : decode cX10_doFill 74 = .ok (.iconst 1, 1) := by decide +kernel
theorem dX10_doFill_75 : decode cX10_doFill 75 = .ok (.iconst 5, 1) := by decide +kernel
theorem dX10_doFill_76 : decode cX10_doFill 76 = .ok (.iload_n 1, 1) := by decide +kernel
theorem dX10_doFill_77 : decode cX10_doFill 77 = .ok (.imul, 1) := by decide +kernel
theorem dX10_doFill_78 : decode cX10_doFill 78 = .ok (.iadd, 1) := by decide +kernel
theorem dX10_doFill_79 : decode cX10_doFill 79 = .ok (.iconst 3, 1) := by decide +kernel
theorem dX10_doFill_80 : decode cX10_doFill 80 = .ok (.iadd, 1) := by decide +kernel
theorem dX10_doFill_81 : decode cX10_doFill 81 = .ok (.iload_n 3, 1) := by decide +kernel
theorem dX10_doFill_82 : decode cX10_doFill 82 = .ok (.iconst 1, 1) := by decide +kernel
theorem dX10_doFill_83 : decode cX10_doFill 83 = .ok (.iadd, 1) := by decide +kernel
theorem dX10_doFill_84 : decode cX10_doFill 84 = .ok (.iastore, 1) := by decide +kernel
theorem dX10_doFill_85 : decode cX10_doFill 85 = .ok (.iload_n 1, 1) := by decide +kernel
theorem dX10_doFill_86 : decode cX10_doFill 86 = .ok (.ireturn, 1) := by decide +kernel
theorem dX10_doFill_87 : decode cX10_doFill 87 = .ok (.aload_n 0, 1) := by decide +kernel
theorem dX10_doFill_88 : decode cX10_doFill 88 = .ok (.iload_n 3, 1) := by decide +kernel
theorem dX10_doFill_89 : decode cX10_doFill 89 = .ok (.invokevirtual 212, 3) := by decide +kernel
theorem dX10_doFill_92 : decode cX10_doFill 92 = .ok (.iload_n 2, 1) := by decide +kernel
theorem dX10_doFill_93 : decode cX10_doFill 93 = .ok (.ifCond .ne 9, 3) := by decide +kernel
theorem dX10_doFill_96 : decode cX10_doFill 96 = .ok (.iload_n 1, 1) := by decide +kernel
theorem dX10_doFill_97 : decode cX10_doFill 97 = .ok (.iconst 1, 1) := by decide +kernel
theorem dX10_doFill_98 : decode cX10_doFill 98 = .ok (.isub, 1) := by decide +kernel
theorem dX10_doFill_99 : decode cX10_doFill 99 = .ok (.goto 4, 3) := by decide +kernel
theorem dX10_doFill_102 : decode cX10_doFill 102 = .ok (.iload_n 1, 1) := by decide +kernel
theorem dX10_doFill_103 : decode cX10_doFill 103 = .ok (.ireturn, 1) := by decide +kernel
theorem dX10_fill_0 : decode cX10_fill 0 = .ok (.aload_n 0, 1) := by decide +kernel
theorem dX10_fill_1 : decode cX10_fill 1 = .ok (.aload_n 0, 1) := by decide +kernel
theorem dX10_fill_2 : decode cX10_fill 2 = .ok (.iload_n 1, 1) := by decide +kernel
theorem dX10_fill_3 : decode cX10_fill 3 = .ok (.iload_n 2, 1) := by decide +kernel
theorem dX10_fill_4 : decode cX10_fill 4 = .ok (.invokevirtual 209, 3) := by decide +kernel
theorem dX10_fill_7 : decode cX10_fill 7 = .ok (.putfield 69, 3) := by decide +kernel
theorem dX10_fill_10 : decode cX10_fill 10 = .ok (.aload_n 0, 1) := by decide +kernel
theorem dX10_fill_11 : decode cX10_fill 11 = .ok (.getfield 69, 3) := by decide +kernel
theorem dX10_fill_14 : decode cX10_fill 14 = .ok (.ifCond .eq 5, 3) := by decide +kernel
theorem dX10_fill_17 : decode cX10_fill 17 = .ok (.iconst 0, 1) := by decide +kernel
theorem dX10_fill_18 : decode cX10_fill 18 = .ok (.ireturn, 1) := by decide +kernel
theorem dX10_fill_19 : decode cX10_fill 19 = .ok (.aload_n 0, 1) := by decide +kernel
theorem dX10_fill_20 : decode cX10_fill 20 = .ok (.invokevirtual 149, 3) := by decide +kernel
theorem dX10_fill_23 : decode cX10_fill 23 = .ok (.aload_n 0, 1) := by decide +kernel
theorem dX10_fill_24 : decode cX10_fill 24 = .ok (.iload_n 1, 1) := by decide +kernel
theorem dX10_fill_25 : decode cX10_fill 25 = .ok (.iload_n 2, 1) := by decide +kernel
theorem dX10_fill_26 : decode cX10_fill 26 = .ok (.aload_n 0, 1) := by decide +kernel
theorem dX10_fill_27 : decode cX10_fill 27 = .ok (.iload_n 1, 1) := by decide +kernel
theorem dX10_fill_28 : decode cX10_fill 28 = .ok (.iload_n 2, 1) := by decide +kernel
theorem dX10_fill_29 : decode cX10_fill 29 = .ok (.invokevirtual 206, 3) := by decide +kernel
theorem dX10_fill_32 : decode cX10_fill 32 = .ok (.invokevirtual 215, 3) := by decide +kernel
theorem dX10_fill_35 : decode cX10_fill 35 = .ok (.ireturn, 1) := by decide +kernel
theorem dX10_fillAll_0 : decode cX10_fillAll 0 = .ok (.aload_n 0, 1) := by decide +kernel
theorem dX10_fillAll_1 : decode cX10_fillAll 1 = .ok (.iconst 0, 1) := by decide +kernel
theorem dX10_fillAll_2 : decode cX10_fillAll 2 = .ok (.putfield 69, 3) := by decide +kernel
theorem dX10_fillAll_5 : decode cX10_fillAll 5 = .ok (.iload_n 1, 1) := by decide +kernel
theorem dX10_fillAll_6 : decode cX10_fillAll 6 = .ok (.iconst 0, 1) := by decide +kernel
theorem dX10_fillAll_7 : decode cX10_fillAll 7 = .ok (.iconst 2, 1) := by decide +kernel
theorem dX10_fillAll_8 : decode cX10_fillAll 8 = .ok (.invokestatic 73, 3) := by decide +kernel
theorem dX10_fillAll_11 : decode cX10_fillAll 11 = .ok (.ifCond .eq 17, 3) := by decide +kernel
theorem dX10_fillAll_14 : decode cX10_fillAll 14 = .ok (.iload_n 2, 1) := by decide +kernel
theorem dX10_fillAll_15 : decode cX10_fillAll 15 = .ok (.iconst 0, 1) := by decide +kernel
theorem dX10_fillAll_16 : decode cX10_fillAll 16 = .ok (.iconst 2, 1) := by decide +kernel
theorem dX10_fillAll_17 : decode cX10_fillAll 17 = .ok (.invokestatic 73, 3) := by decide +kernel
theorem dX10_fillAll_20 : decode cX10_fillAll 20 = .ok (.ifCond .eq 8, 3) := by decide +kernel
theorem dX10_fillAll_23 : decode cX10_fillAll 23 = .ok (.iload_n 1, 1) := by decide +kernel
theorem dX10_fillAll_24 : decode cX10_fillAll 24 = .ok (.iload_n 2, 1) := by decide +kernel
theorem dX10_fillAll_25 : decode cX10_fillAll 25 = .ok (.if_icmp .ne 9, 3) := by decide +kernel
theorem dX10_fillAll_28 : decode cX10_fillAll 28 = .ok (.aload_n 0, 1) := by decide +kernel
theorem dX10_fillAll_29 : decode cX10_fillAll 29 = .ok (.iconst 1, 1) := by decide +kernel
theorem dX10_fillAll_30 : decode cX10_fillAll 30 = .ok (.invokevirtual 92, 3) := by decide +kernel
theorem dX10_fillAll_33 : decode cX10_fillAll 33 = .ok (.ireturn, 1) := by decide +kernel
theorem dX10_fillAll_34 : decode cX10_fillAll 34 = .ok (.aload_n 0, 1) := by decide +kernel
theorem dX10_fillAll_35 : decode cX10_fillAll 35 = .ok (.invokevirtual 149, 3) := by decide +kernel
theorem dX10_fillAll_38 : decode cX10_fillAll 38 = .ok (.iconst 0, 1) := by decide +kernel
theorem dX10_fillAll_39 : decode cX10_fillAll 39 = .ok (.istore_n 3, 1) := by decide +kernel
theorem dX10_fillAll_40 : decode cX10_fillAll 40 = .ok (.iconst 0, 1) := by decide +kernel
theorem dX10_fillAll_41 : decode cX10_fillAll 41 = .ok (.istore 4, 2) := by decide +kernel
theorem dX10_fillAll_43 : decode cX10_fillAll 43 = .ok (.iload 4, 2) := by decide +kernel
theorem dX10_fillAll_45 : decode cX10_fillAll 45 = .ok (.aload_n 0, 1) := by decide +kernel
theorem dX10_fillAll_46 : decode cX10_fillAll 46 = .ok (.invokevirtual 85, 3) := by decide +kernel
theorem dX10_fillAll_49 : decode cX10_fillAll 49 = .ok (.if_icmp .ge 116, 3) := by decide +kernel
theorem dX10_fillAll_52 : decode cX10_fillAll 52 = .ok (.aload_n 0, 1) := by decide +kernel
theorem dX10_fillAll_53 : decode cX10_fillAll 53 = .ok (.iload 4, 2) := by decide +kernel
theorem dX10_fillAll_55 : decode cX10_fillAll 55 = .ok (.iconst 0, 1) := by decide +kernel
theorem dX10_fillAll_56 : decode cX10_fillAll 56 = .ok (.invokevirtual 77, 3) := by decide +kernel
theorem dX10_fillAll_59 : decode cX10_fillAll 59 = .ok (.invokestatic 81, 3) := by decide +kernel
theorem dX10_fillAll_62 : decode cX10_fillAll 62 = .ok (.ifCond .eq 97, 3) := by decide +kernel
theorem dX10_fillAll_65 : decode cX10_fillAll 65 = .ok (.iload 4, 2) := by decide +kernel
theorem dX10_fillAll_67 : decode cX10_fillAll 67 = .ok (.istore 5, 2) := by decide +kernel
theorem dX10_fillAll_69 : decode cX10_fillAll 69 = .ok (.iconst 0, 1) := by decide +kernel
theorem dX10_fillAll_70 : decode cX10_fillAll 70 = .ok (.istore 6, 2) := by decide +kernel
theorem dX10_fillAll_72 : decode cX10_fillAll 72 = .ok (.iload 6, 2) := by decide +kernel
theorem dX10_fillAll_74 : decode cX10_fillAll 74 = .ok (.iconst 3, 1) := by decide +kernel
theorem dX10_fillAll_75 : decode cX10_fillAll 75 = .ok (.if_icmp .ge 78, 3) := by decide +kernel
theorem dX10_fillAll_78 : decode cX10_fillAll 78 = .ok (.aload_n 0, 1) := by decide +kernel
theorem dX10_fillAll_79 : decode cX10_fillAll 79 = .ok (.iload 5, 2) := by decide +kernel
theorem dX10_fillAll_81 : decode cX10_fillAll 81 = .ok (.iconst 1, 1) := by decide +kernel
theorem dX10_fillAll_82 : decode cX10_fillAll 82 = .ok (.iadd, 1) := by decide +kernel
theorem dX10_fillAll_83 : decode cX10_fillAll 83 = .ok (.iconst 0, 1) := by decide +kernel
theorem dX10_fillAll_84 : decode cX10_fillAll 84 = .ok (.invokevirtual 77, 3) := by decide +kernel
theorem dX10_fillAll_87 : decode cX10_fillAll 87 = .ok (.ifCond .ne 66, 3) := by decide +kernel
theorem dX10_fillAll_90 : decode cX10_fillAll 90 = .ok (.iload 6, 2) := by decide +kernel
theorem dX10_fillAll_92 : decode cX10_fillAll 92 = .ok (.ifCond .ne 7, 3) := by decide +kernel
theorem dX10_fillAll_95 : decode cX10_fillAll 95 = .ok (.iload_n 1, 1) := by decide +kernel
theorem dX10_fillAll_96 : decode cX10_fillAll 96 = .ok (.goto 18, 3) := by decide +kernel
theorem dX10_fillAll_99 : decode cX10_fillAll 99 = .ok (.iload 6, 2) := by decide +kernel
theorem dX10_fillAll_101 : decode cX10_fillAll 101 = .ok (.iconst 1, 1) := by decide +kernel
theorem dX10_fillAll_102 : decode cX10_fillAll 102 = .ok (.if_icmp .ne 7, 3) := by decide +kernel
theorem dX10_fillAll_105 : decode cX10_fillAll 105 = .ok (.iload_n 2, 1) := by decide +kernel
theorem dX10_fillAll_106 : decode cX10_fillAll 106 = .ok (.goto 8, 3) := by decide +kernel
theorem dX10_fillAll_109 : decode cX10_fillAll 109 = .ok (.iconst 3, 1) := by decide +kernel
theorem dX10_fillAll_110 : decode cX10_fillAll 110 = .ok (.iload_n 1, 1) := by decide +kernel
theorem dX10_fillAll_111 : decode cX10_fillAll 111 = .ok (.isub, 1) := by decide +kernel
theorem dX10_fillAll_112 : decode cX10_fillAll 112 = .ok (.iload_n 2, 1) := by decide +kernel
theorem dX10_fillAll_113 : decode cX10_fillAll 113 = .ok (.isub, 1) := by decide +kernel
theorem dX10_fillAll_114 : decode cX10_fillAll 114 = .ok (.istore 7, 2) := by decide +kernel
theorem dX10_fillAll_116 : decode cX10_fillAll 116 = .ok (.aload_n 0, 1) := by decide +kernel
theorem dX10_fillAll_117 : decode cX10_fillAll 117 = .ok (.iload 5, 2) := by decide +kernel
theorem dX10_fillAll_119 : decode cX10_fillAll 119 = .ok (.iload 7, 2) := by decide +kernel
theorem dX10_fillAll_121 : decode cX10_fillAll 121 = .ok (.invokevirtual 206, 3) := by decide +kernel
theorem dX10_fillAll_124 : decode cX10_fillAll 124 = .ok (.istore 8, 2) := by decide +kernel
theorem dX10_fillAll_126 : decode cX10_fillAll 126 = .ok (.iload 8, 2) := by decide +kernel
theorem dX10_fillAll_128 : decode cX10_fillAll 128 = .ok (.iconst (-1), 1) := by decide +kernel
theorem dX10_fillAll_129 : decode cX10_fillAll 129 = .ok (.if_icmp .eq 18, 3) := by decide +kernel
theorem dX10_fillAll_132 : decode cX10_fillAll 132 = .ok (.aload_n 0, 1) := by decide +kernel
theorem dX10_fillAll_133 : decode cX10_fillAll 133 = .ok (.iload 5, 2) := by decide +kernel
theorem dX10_fillAll_135 : decode cX10_fillAll 135 = .ok (.iload 7, 2) := by decide +kernel
theorem dX10_fillAll_137 : decode cX10_fillAll 137 = .ok (.iload 8, 2) := by decide +kernel
theorem dX10_fillAll_139 : decode cX10_fillAll 139 = .ok (.invokevirtual 215, 3) := by decide +kernel
theorem dX10_fillAll_142 : decode cX10_fillAll 142 = .ok (.istore 5, 2) := by decide +kernel
theorem dX10_fillAll_144 : decode cX10_fillAll 144 = .ok (.iinc 3 1, 3) := by decide +kernel
theorem dX10_fillAll_147 : decode cX10_fillAll 147 = .ok (.iinc 6 1, 3) := by decide +kernel
theorem dX10_fillAll_150 : decode cX10_fillAll 150 = .ok (.goto (-78), 3) := by decide +kernel
theorem dX10_fillAll_153 : decode cX10_fillAll 153 = .ok (.iload 5, 2) := by decide +kernel
theorem dX10_fillAll_155 : decode cX10_fillAll 155 = .ok (.iconst 1, 1) := by decide +kernel
theorem dX10_fillAll_156 : decode cX10_fillAll 156 = .ok (.iadd, 1) := by decide +kernel
theorem dX10_fillAll_157 : decode cX10_fillAll 157 = .ok (.istore 4, 2) := by decide +kernel
theorem dX10_fillAll_159 : decode cX10_fillAll 159 = .ok (.iinc 4 1, 3) := by decide +kernel
theorem dX10_fillAll_162 : decode cX10_fillAll 162 = .ok (.goto (-119), 3) := by decide +kernel
theorem dX10_fillAll_165 : decode cX10_fillAll 165 = .ok (.iload_n 3, 1) := by decide +kernel
theorem dX10_fillAll_166 : decode cX10_fillAll 166 = .ok (.ireturn, 1) := by decide +kernel
theorem dX10_add_0 : decode cX10_add 0 = .ok (.iload_n 1, 1) := by decide +kernel
theorem dX10_add_1 : decode cX10_add 1 = .ok (.ifCond .eq 23, 3) := by decide +kernel
theorem dX10_add_4 : decode cX10_add 4 = .ok (.aload_n 0, 1) := by decide +kernel
theorem dX10_add_5 : decode cX10_add 5 = .ok (.getfield 33, 3) := by decide +kernel
theorem dX10_add_8 : decode cX10_add 8 = .ok (.aload_n 0, 1) := by decide +kernel
theorem dX10_add_9 : decode cX10_add 9 = .ok (.getfield 219, 3) := by decide +kernel
theorem dX10_add_12 : decode cX10_add 12 = .ok (.iload_n 1, 1) := by decide +kernel
theorem dX10_add_13 : decode cX10_add 13 = .ok (.castore, 1) := by decide +kernel
theorem dX10_add_14 : decode cX10_add 14 = .ok (.aload_n 0, 1) := by decide +kernel
theorem dX10_add_15 : decode cX10_add 15 = .ok (.dup, 1) := by decide +kernel
theorem dX10_add_16 : decode cX10_add 16 = .ok (.getfield 219, 3) := by decide +kernel
theorem dX10_add_19 : decode cX10_add 19 = .ok (.iconst 1, 1) := by decide +kernel
theorem dX10_add_20 : decode cX10_add 20 = .ok (.iadd, 1) := by decide +kernel
theorem dX10_add_21 : decode cX10_add 21 = .ok (.putfield 219, 3) := by decide +kernel
theorem dX10_add_24 : decode cX10_add 24 = .ok (.return_, 1) := by decide +kernel
theorem dX10_addName_0 : decode cX10_addName 0 = .ok (.aload_n 0, 1) := by decide +kernel
theorem dX10_addName_1 : decode cX10_addName 1 = .ok (.iload_n 1, 1) := by decide +kernel
theorem dX10_addName_2 : decode cX10_addName 2 = .ok (.invokevirtual 222, 3) := by decide +kernel
theorem dX10_addName_5 : decode cX10_addName 5 = .ok (.aload_n 0, 1) := by decide +kernel
theorem dX10_addName_6 : decode cX10_addName 6 = .ok (.iload_n 2, 1) := by decide +kernel
theorem dX10_addName_7 : decode cX10_addName 7 = .ok (.invokevirtual 222, 3) := by decide +kernel
theorem dX10_addName_10 : decode cX10_addName 10 = .ok (.aload_n 0, 1) := by decide +kernel
theorem dX10_addName_11 : decode cX10_addName 11 = .ok (.iload_n 3, 1) := by decide +kernel
theorem dX10_addName_12 : decode cX10_addName 12 = .ok (.invokevirtual 222, 3) := by decide +kernel
theorem dX10_addName_15 : decode cX10_addName 15 = .ok (.aload_n 0, 1) := by decide +kernel
theorem dX10_addName_16 : decode cX10_addName 16 = .ok (.iload 4, 2) := by decide +kernel
theorem dX10_addName_18 : decode cX10_addName 18 = .ok (.invokevirtual 222, 3) := by decide +kernel
theorem dX10_addName_21 : decode cX10_addName 21 = .ok (.aload_n 0, 1) := by decide +kernel
theorem dX10_addName_22 : decode cX10_addName 22 = .ok (.iload 5, 2) := by decide +kernel
theorem dX10_addName_24 : decode cX10_addName 24 = .ok (.invokevirtual 222, 3) := by decide +kernel
theorem dX10_addName_27 : decode cX10_addName 27 = .ok (.return_, 1) := by decide +kernel
theorem dX10_addKind_0 : decode cX10_addKind 0 = .ok (.iload_n 1, 1) := by decide +kernel
theorem dX10_addKind_1 : decode cX10_addKind 1 = .ok (.tableswitch 232 0 10 #[59, 74, 89, 105, 120, 135, 151, 168, 183, 200, 216], 59) := by decide +kernel
theorem dX10_addKind_60 : decode cX10_addKind 60 = .ok (.aload_n 0, 1) := by decide +kernel
theorem dX10_addKind_61 : decode cX10_addKind 61 = .ok (.bipush 110, 2) := by decide +kernel
theorem dX10_addKind_63 : decode cX10_addKind 63 = .ok (.bipush 111, 2) := by decide +kernel
theorem dX10_addKind_65 : decode cX10_addKind 65 = .ok (.bipush 112, 2) := by decide +kernel
theorem dX10_addKind_67 : decode cX10_addKind 67 = .ok (.iconst 0, 1) := by decide +kernel
theorem dX10_addKind_68 : decode cX10_addKind 68 = .ok (.iconst 0, 1) := by decide +kernel
theorem dX10_addKind_69 : decode cX10_addKind 69 = .ok (.invokevirtual 226, 3) := by decide +kernel
theorem dX10_addKind_72 : decode cX10_addKind 72 = .ok (.goto 174, 3) := by decide +kernel
theorem dX10_addKind_75 : decode cX10_addKind 75 = .ok (.aload_n 0, 1) := by decide +kernel
theorem dX10_addKind_76 : decode cX10_addKind 76 = .ok (.bipush 115, 2) := by decide +kernel
theorem dX10_addKind_78 : decode cX10_addKind 78 = .ok (.bipush 101, 2) := by decide +kernel
theorem dX10_addKind_80 : decode cX10_addKind 80 = .ok (.bipush 116, 2) := by decide +kernel
theorem dX10_addKind_82 : decode cX10_addKind 82 = .ok (.iconst 0, 1) := by decide +kernel
theorem dX10_addKind_83 : decode cX10_addKind 83 = .ok (.iconst 0, 1) := by decide +kernel
theorem dX10_addKind_84 : decode cX10_addKind 84 = .ok (.invokevirtual 226, 3) := by decide +kernel
theorem dX10_addKind_87 : decode cX10_addKind 87 = .ok (.goto 159, 3) := by decide +kernel
theorem dX10_addKind_90 : decode cX10_addKind 90 = .ok (.aload_n 0, 1) := by decide +kernel
theorem dX10_addKind_91 : decode cX10_addKind 91 = .ok (.bipush 99, 2) := by decide +kernel
theorem dX10_addKind_93 : decode cX10_addKind 93 = .ok (.bipush 111, 2) := by decide +kernel
theorem dX10_addKind_95 : decode cX10_addKind 95 = .ok (.bipush 112, 2) := by decide +kernel
theorem dX10_addKind_97 : decode cX10_addKind 97 = .ok (.bipush 121, 2) := by decide +kernel
theorem dX10_addKind_99 : decode cX10_addKind 99 = .ok (.iconst 0, 1) := by decide +kernel
theorem dX10_addKind_100 : decode cX10_addKind 100 = .ok (.invokevirtual 226, 3) := by decide +kernel
theorem dX10_addKind_103 : decode cX10_addKind 103 = .ok (.goto 143, 3) := by decide +kernel
theorem dX10_addKind_106 : decode cX10_addKind 106 = .ok (.aload_n 0, 1) := by decide +kernel
theorem dX10_addKind_107 : decode cX10_addKind 107 = .ok (.bipush 97, 2) := by decide +kernel
theorem dX10_addKind_109 : decode cX10_addKind 109 = .ok (.bipush 100, 2) := by decide +kernel
theorem dX10_addKind_111 : decode cX10_addKind 111 = .ok (.bipush 100, 2) := by decide +kernel
theorem dX10_addKind_113 : decode cX10_addKind 113 = .ok (.iconst 0, 1) := by decide +kernel
theorem dX10_addKind_114 : decode cX10_addKind 114 = .ok (.iconst 0, 1) := by decide +kernel
theorem dX10_addKind_115 : decode cX10_addKind 115 = .ok (.invokevirtual 226, 3) := by decide +kernel
theorem dX10_addKind_118 : decode cX10_addKind 118 = .ok (.goto 128, 3) := by decide +kernel
theorem dX10_addKind_121 : decode cX10_addKind 121 = .ok (.aload_n 0, 1) := by decide +kernel
theorem dX10_addKind_122 : decode cX10_addKind 122 = .ok (.bipush 115, 2) := by decide +kernel
theorem dX10_addKind_124 : decode cX10_addKind 124 = .ok (.bipush 117, 2) := by decide +kernel
theorem dX10_addKind_126 : decode cX10_addKind 126 = .ok (.bipush 98, 2) := by decide +kernel
theorem dX10_addKind_128 : decode cX10_addKind 128 = .ok (.iconst 0, 1) := by decide +kernel
theorem dX10_addKind_129 : decode cX10_addKind 129 = .ok (.iconst 0, 1) := by decide +kernel
theorem dX10_addKind_130 : decode cX10_addKind 130 = .ok (.invokevirtual 226, 3) := by decide +kernel
theorem dX10_addKind_133 : decode cX10_addKind 133 = .ok (.goto 113, 3) := by decide +kernel
theorem dX10_addKind_136 : decode cX10_addKind 136 = .ok (.aload_n 0, 1) := by decide +kernel
theorem dX10_addKind_137 : decode cX10_addKind 137 = .ok (.bipush 108, 2) := by decide +kernel
theorem dX10_addKind_139 : decode cX10_addKind 139 = .ok (.bipush 111, 2) := by decide +kernel
theorem dX10_addKind_141 : decode cX10_addKind 141 = .ok (.bipush 97, 2) := by decide +kernel
theorem dX10_addKind_143 : decode cX10_addKind 143 = .ok (.bipush 100, 2) := by decide +kernel
theorem dX10_addKind_145 : decode cX10_addKind 145 = .ok (.iconst 0, 1) := by decide +kernel
theorem dX10_addKind_146 : decode cX10_addKind 146 = .ok (.invokevirtual 226, 3) := by decide +kernel
theorem dX10_addKind_149 : decode cX10_addKind 149 = .ok (.goto 97, 3) := by decide +kernel
theorem dX10_addKind_152 : decode cX10_addKind 152 = .ok (.aload_n 0, 1) := by decide +kernel
theorem dX10_addKind_153 : decode cX10_addKind 153 = .ok (.bipush 115, 2) := by decide +kernel
theorem dX10_addKind_155 : decode cX10_addKind 155 = .ok (.bipush 116, 2) := by decide +kernel
theorem dX10_addKind_157 : decode cX10_addKind 157 = .ok (.bipush 111, 2) := by decide +kernel
theorem dX10_addKind_159 : decode cX10_addKind 159 = .ok (.bipush 114, 2) := by decide +kernel
theorem dX10_addKind_161 : decode cX10_addKind 161 = .ok (.bipush 101, 2) := by decide +kernel
theorem dX10_addKind_163 : decode cX10_addKind 163 = .ok (.invokevirtual 226, 3) := by decide +kernel
theorem dX10_addKind_166 : decode cX10_addKind 166 = .ok (.goto 80, 3) := by decide +kernel
theorem dX10_addKind_169 : decode cX10_addKind 169 = .ok (.aload_n 0, 1) := by decide +kernel
theorem dX10_addKind_170 : decode cX10_addKind 170 = .ok (.bipush 111, 2) := by decide +kernel
theorem dX10_addKind_172 : decode cX10_addKind 172 = .ok (.bipush 117, 2) := by decide +kernel
theorem dX10_addKind_174 : decode cX10_addKind 174 = .ok (.bipush 116, 2) := by decide +kernel
theorem dX10_addKind_176 : decode cX10_addKind 176 = .ok (.iconst 0, 1) := by decide +kernel
theorem dX10_addKind_177 : decode cX10_addKind 177 = .ok (.iconst 0, 1) := by decide +kernel
theorem dX10_addKind_178 : decode cX10_addKind 178 = .ok (.invokevirtual 226, 3) := by decide +kernel
theorem dX10_addKind_181 : decode cX10_addKind 181 = .ok (.goto 65, 3) := by decide +kernel
theorem dX10_addKind_184 : decode cX10_addKind 184 = .ok (.aload_n 0, 1) := by decide +kernel
theorem dX10_addKind_185 : decode cX10_addKind 185 = .ok (.bipush 101, 2) := by decide +kernel
theorem dX10_addKind_187 : decode cX10_addKind 187 = .ok (.bipush 113, 2) := by decide +kernel
theorem dX10_addKind_189 : decode cX10_addKind 189 = .ok (.bipush 117, 2) := by decide +kernel
theorem dX10_addKind_191 : decode cX10_addKind 191 = .ok (.bipush 97, 2) := by decide +kernel
theorem dX10_addKind_193 : decode cX10_addKind 193 = .ok (.bipush 108, 2) := by decide +kernel
theorem dX10_addKind_195 : decode cX10_addKind 195 = .ok (.invokevirtual 226, 3) := by decide +kernel
theorem dX10_addKind_198 : decode cX10_addKind 198 = .ok (.goto 48, 3) := by decide +kernel
theorem dX10_addKind_201 : decode cX10_addKind 201 = .ok (.aload_n 0, 1) := by decide +kernel
theorem dX10_addKind_202 : decode cX10_addKind 202 = .ok (.bipush 108, 2) := by decide +kernel
theorem dX10_addKind_204 : decode cX10_addKind 204 = .ok (.bipush 101, 2) := by decide +kernel
theorem dX10_addKind_206 : decode cX10_addKind 206 = .ok (.bipush 115, 2) := by decide +kernel
theorem dX10_addKind_208 : decode cX10_addKind 208 = .ok (.bipush 115, 2) := by decide +kernel
theorem dX10_addKind_210 : decode cX10_addKind 210 = .ok (.iconst 0, 1) := by decide +kernel
theorem dX10_addKind_211 : decode cX10_addKind 211 = .ok (.invokevirtual 226, 3) := by decide +kernel
theorem dX10_addKind_214 : decode cX10_addKind 214 = .ok (.goto 32, 3) := by decide +kernel
theorem dX10_addKind_217 : decode cX10_addKind 217 = .ok (.aload_n 0, 1) := by decide +kernel
theorem dX10_addKind_218 : decode cX10_addKind 218 = .ok (.bipush 106, 2) := by decide +kernel
theorem dX10_addKind_220 : decode cX10_addKind 220 = .ok (.bipush 117, 2) := by decide +kernel
theorem dX10_addKind_222 : decode cX10_addKind 222 = .ok (.bipush 109, 2) := by decide +kernel
theorem dX10_addKind_224 : decode cX10_addKind 224 = .ok (.bipush 112, 2) := by decide +kernel
theorem dX10_addKind_226 : decode cX10_addKind 226 = .ok (.iconst 0, 1) := by decide +kernel
theorem dX10_addKind_227 : decode cX10_addKind 227 = .ok (.invokevirtual 226, 3) := by decide +kernel
theorem dX10_addKind_230 : decode cX10_addKind 230 = .ok (.goto 16, 3) := by decide +kernel
theorem dX10_addKind_233 : decode cX10_addKind 233 = .ok (.aload_n 0, 1) := by decide +kernel
theorem dX10_addKind_234 : decode cX10_addKind 234 = .ok (.bipush 104, 2) := by decide +kernel
theorem dX10_addKind_236 : decode cX10_addKind 236 = .ok (.bipush 97, 2) := by decide +kernel
theorem dX10_addKind_238 : decode cX10_addKind 238 = .ok (.bipush 108, 2) := by decide +kernel
theorem dX10_addKind_240 : decode cX10_addKind 240 = .ok (.bipush 116, 2) := by decide +kernel
theorem dX10_addKind_242 : decode cX10_addKind 242 = .ok (.iconst 0, 1) := by decide +kernel
theorem dX10_addKind_243 : decode cX10_addKind 243 = .ok (.invokevirtual 226, 3) := by decide +kernel
theorem dX10_addKind_246 : decode cX10_addKind 246 = .ok (.return_, 1) := by decide +kernel
theorem dX10_addNumber_0 : decode cX10_addNumber 0 = .ok (.aload_n 0, 1) := by decide +kernel
theorem dX10_addNumber_1 : decode cX10_addNumber 1 = .ok (.bipush 32, 2) := by decide +kernel
theorem dX10_addNumber_3 : decode cX10_addNumber 3 = .ok (.invokevirtual 222, 3) := by decide +kernel
theorem dX10_addNumber_6 : decode cX10_addNumber 6 = .ok (.iload_n 1, 1) := by decide +kernel
theorem dX10_addNumber_7 : decode cX10_addNumber 7 = .ok (.istore_n 2, 1) := by decide +kernel
theorem dX10_addNumber_8 : decode cX10_addNumber 8 = .ok (.iload_n 1, 1) := by decide +kernel
theorem dX10_addNumber_9 : decode cX10_addNumber 9 = .ok (.ifCond .ge 12, 3) := by decide +kernel
theorem dX10_addNumber_12 : decode cX10_addNumber 12 = .ok (.aload_n 0, 1) := by decide +kernel
theorem dX10_addNumber_13 : decode cX10_addNumber 13 = .ok (.bipush 45, 2) := by decide +kernel
theorem dX10_addNumber_15 : decode cX10_addNumber 15 = .ok (.invokevirtual 222, 3) := by decide +kernel
theorem dX10_addNumber_18 : decode cX10_addNumber 18 = .ok (.iload_n 1, 1) := by decide +kernel
theorem dX10_addNumber_19 : decode cX10_addNumber 19 = .ok (.ineg, 1) := by decide +kernel
theorem dX10_addNumber_20 : decode cX10_addNumber 20 = .ok (.istore_n 2, 1) := by decide +kernel
theorem dX10_addNumber_21 : decode cX10_addNumber 21 = .ok (.iload_n 2, 1) := by decide +kernel
theorem dX10_addNumber_22 : decode cX10_addNumber 22 = .ok (.bipush 9, 2) := by decide +kernel
theorem dX10_addNumber_24 : decode cX10_addNumber 24 = .ok (.if_icmp .le 15, 3) := by decide +kernel
theorem dX10_addNumber_27 : decode cX10_addNumber 27 = .ok (.aload_n 0, 1) := by decide +kernel
theorem dX10_addNumber_28 : decode cX10_addNumber 28 = .ok (.bipush 48, 2) := by decide +kernel
theorem dX10_addNumber_30 : decode cX10_addNumber 30 = .ok (.iload_n 2, 1) := by decide +kernel
theorem dX10_addNumber_31 : decode cX10_addNumber 31 = .ok (.bipush 10, 2) := by decide +kernel
theorem dX10_addNumber_33 : decode cX10_addNumber 33 = .ok (.idiv, 1) := by decide +kernel
theorem dX10_addNumber_34 : decode cX10_addNumber 34 = .ok (.iadd, 1) := by decide +kernel
theorem dX10_addNumber_35 : decode cX10_addNumber 35 = .ok (.i2c, 1) := by decide +kernel
theorem dX10_addNumber_36 : decode cX10_addNumber 36 = .ok (.invokevirtual 222, 3) := by decide +kernel
theorem dX10_addNumber_39 : decode cX10_addNumber 39 = .ok (.aload_n 0, 1) := by decide +kernel
theorem dX10_addNumber_40 : decode cX10_addNumber 40 = .ok (.bipush 48, 2) := by decide +kernel
theorem dX10_addNumber_42 : decode cX10_addNumber 42 = .ok (.iload_n 2, 1) := by decide +kernel
theorem dX10_addNumber_43 : decode cX10_addNumber 43 = .ok (.bipush 10, 2) := by decide +kernel
theorem dX10_addNumber_45 : decode cX10_addNumber 45 = .ok (.irem, 1) := by decide +kernel
theorem dX10_addNumber_46 : decode cX10_addNumber 46 = .ok (.iadd, 1) := by decide +kernel
theorem dX10_addNumber_47 : decode cX10_addNumber 47 = .ok (.i2c, 1) := by decide +kernel
theorem dX10_addNumber_48 : decode cX10_addNumber 48 = .ok (.invokevirtual 222, 3) := by decide +kernel
theorem dX10_addNumber_51 : decode cX10_addNumber 51 = .ok (.return_, 1) := by decide +kernel
theorem dX10_write_0 : decode cX10_write 0 = .ok (.aload_n 0, 1) := by decide +kernel
theorem dX10_write_1 : decode cX10_write 1 = .ok (.iconst 0, 1) := by decide +kernel
theorem dX10_write_2 : decode cX10_write 2 = .ok (.putfield 69, 3) := by decide +kernel
theorem dX10_write_5 : decode cX10_write 5 = .ok (.aload_n 0, 1) := by decide +kernel
theorem dX10_write_6 : decode cX10_write 6 = .ok (.iconst 0, 1) := by decide +kernel
theorem dX10_write_7 : decode cX10_write 7 = .ok (.putfield 219, 3) := by decide +kernel
theorem dX10_write_10 : decode cX10_write 10 = .ok (.iconst 0, 1) := by decide +kernel
theorem dX10_write_11 : decode cX10_write 11 = .ok (.istore_n 1, 1) := by decide +kernel
theorem dX10_write_12 : decode cX10_write 12 = .ok (.iload_n 1, 1) := by decide +kernel
theorem dX10_write_13 : decode cX10_write 13 = .ok (.aload_n 0, 1) := by decide +kernel
theorem dX10_write_14 : decode cX10_write 14 = .ok (.invokevirtual 85, 3) := by decide +kernel
theorem dX10_write_17 : decode cX10_write 17 = .ok (.if_icmp .ge 100, 3) := by decide +kernel
theorem dX10_write_20 : decode cX10_write 20 = .ok (.iload_n 1, 1) := by decide +kernel
theorem dX10_write_21 : decode cX10_write 21 = .ok (.ifCond .le 22, 3) := by decide +kernel
theorem dX10_write_24 : decode cX10_write 24 = .ok (.aload_n 0, 1) := by decide +kernel
theorem dX10_write_25 : decode cX10_write 25 = .ok (.aload_n 0, 1) := by decide +kernel
theorem dX10_write_26 : decode cX10_write 26 = .ok (.iload_n 1, 1) := by decide +kernel
theorem dX10_write_27 : decode cX10_write 27 = .ok (.invokevirtual 162, 3) := by decide +kernel
theorem dX10_write_30 : decode cX10_write 30 = .ok (.ifCond .eq 8, 3) := by decide +kernel
theorem dX10_write_33 : decode cX10_write 33 = .ok (.bipush 124, 2) := by decide +kernel
theorem dX10_write_35 : decode cX10_write 35 = .ok (.goto 5, 3) := by decide +kernel
theorem dX10_write_38 : decode cX10_write 38 = .ok (.bipush 59, 2) := by decide +kernel
theorem dX10_write_40 : decode cX10_write 40 = .ok (.invokevirtual 222, 3) := by decide +kernel
theorem dX10_write_43 : decode cX10_write 43 = .ok (.aload_n 0, 1) := by decide +kernel
theorem dX10_write_44 : decode cX10_write 44 = .ok (.aload_n 0, 1) := by decide +kernel
theorem dX10_write_45 : decode cX10_write 45 = .ok (.iload_n 1, 1) := by decide +kernel
theorem dX10_write_46 : decode cX10_write 46 = .ok (.iconst 0, 1) := by decide +kernel
theorem dX10_write_47 : decode cX10_write 47 = .ok (.invokevirtual 77, 3) := by decide +kernel
theorem dX10_write_50 : decode cX10_write 50 = .ok (.invokevirtual 230, 3) := by decide +kernel
theorem dX10_write_53 : decode cX10_write 53 = .ok (.aload_n 0, 1) := by decide +kernel
theorem dX10_write_54 : decode cX10_write 54 = .ok (.iload_n 1, 1) := by decide +kernel
theorem dX10_write_55 : decode cX10_write 55 = .ok (.iconst 4, 1) := by decide +kernel
theorem dX10_write_56 : decode cX10_write 56 = .ok (.invokevirtual 77, 3) := by decide +kernel
theorem dX10_write_59 : decode cX10_write 59 = .ok (.iconst 1, 1) := by decide +kernel
theorem dX10_write_60 : decode cX10_write 60 = .ok (.if_icmp .ne 9, 3) := by decide +kernel
theorem dX10_write_63 : decode cX10_write 63 = .ok (.aload_n 0, 1) := by decide +kernel
theorem dX10_write_64 : decode cX10_write 64 = .ok (.bipush 42, 2) := by decide +kernel
theorem dX10_write_66 : decode cX10_write 66 = .ok (.invokevirtual 222, 3) := by decide +kernel
theorem dX10_write_69 : decode cX10_write 69 = .ok (.iconst 0, 1) := by decide +kernel
theorem dX10_write_70 : decode cX10_write 70 = .ok (.istore_n 2, 1) := by decide +kernel
theorem dX10_write_71 : decode cX10_write 71 = .ok (.iload_n 2, 1) := by decide +kernel
theorem dX10_write_72 : decode cX10_write 72 = .ok (.iconst 3, 1) := by decide +kernel
theorem dX10_write_73 : decode cX10_write 73 = .ok (.if_icmp .ge 38, 3) := by decide +kernel
theorem dX10_write_76 : decode cX10_write 76 = .ok (.aload_n 0, 1) := by decide +kernel
theorem dX10_write_77 : decode cX10_write 77 = .ok (.iload_n 1, 1) := by decide +kernel
theorem dX10_write_78 : decode cX10_write 78 = .ok (.iconst 0, 1) := by decide +kernel
theorem dX10_write_79 : decode cX10_write 79 = .ok (.invokevirtual 77, 3) := by decide +kernel
theorem dX10_write_82 : decode cX10_write 82 = .ok (.invokestatic 130, 3) := by decide +kernel
theorem dX10_write_85 : decode cX10_write 85 = .ok (.iload_n 2, 1) := by decide +kernel
theorem dX10_write_86 : decode cX10_write 86 = .ok (.ishr, 1) := by decide +kernel
theorem dX10_write_87 : decode cX10_write 87 = .ok (.iconst 1, 1) := by decide +kernel
theorem dX10_write_88 : decode cX10_write 88 = .ok (.iand, 1) := by decide +kernel
theorem dX10_write_89 : decode cX10_write 89 = .ok (.iconst 1, 1) := by decide +kernel
theorem dX10_write_90 : decode cX10_write 90 = .ok (.if_icmp .ne 15, 3) := by decide +kernel
theorem dX10_write_93 : decode cX10_write 93 = .ok (.aload_n 0, 1) := by decide +kernel
theorem dX10_write_94 : decode cX10_write 94 = .ok (.aload_n 0, 1) := by decide +kernel
theorem dX10_write_95 : decode cX10_write 95 = .ok (.iload_n 1, 1) := by decide +kernel
theorem dX10_write_96 : decode cX10_write 96 = .ok (.iconst 1, 1) := by decide +kernel
theorem dX10_write_97 : decode cX10_write 97 = .ok (.iload_n 2, 1) := by decide +kernel
theorem dX10_write_98 : decode cX10_write 98 = .ok (.iadd, 1) := by decide +kernel
theorem dX10_write_99 : decode cX10_write 99 = .ok (.invokevirtual 77, 3) := by decide +kernel
theorem dX10_write_102 : decode cX10_write 102 = .ok (.invokevirtual 233, 3) := by decide +kernel
theorem dX10_write_105 : decode cX10_write 105 = .ok (.iinc 2 1, 3) := by decide +kernel
theorem dX10_write_108 : decode cX10_write 108 = .ok (.goto (-37), 3) := by decide +kernel
theorem dX10_write_111 : decode cX10_write 111 = .ok (.iinc 1 1, 3) := by decide +kernel
theorem dX10_write_114 : decode cX10_write 114 = .ok (.goto (-102), 3) := by decide +kernel
theorem dX10_write_117 : decode cX10_write 117 = .ok (.aload_n 0, 1) := by decide +kernel
theorem dX10_write_118 : decode cX10_write 118 = .ok (.getfield 219, 3) := by decide +kernel
theorem dX10_write_121 : decode cX10_write 121 = .ok (.ireturn, 1) := by decide +kernel
theorem dX10_text_0 : decode cX10_text 0 = .ok (.aload_n 0, 1) := by decide +kernel
theorem dX10_text_1 : decode cX10_text 1 = .ok (.iload_n 1, 1) := by decide +kernel
theorem dX10_text_2 : decode cX10_text 2 = .ok (.iconst 0, 1) := by decide +kernel
theorem dX10_text_3 : decode cX10_text 3 = .ok (.aload_n 0, 1) := by decide +kernel
theorem dX10_text_4 : decode cX10_text 4 = .ok (.getfield 219, 3) := by decide +kernel
theorem dX10_text_7 : decode cX10_text 7 = .ok (.iconst 1, 1) := by decide +kernel
theorem dX10_text_8 : decode cX10_text 8 = .ok (.isub, 1) := by decide +kernel
theorem dX10_text_9 : decode cX10_text 9 = .ok (.invokestatic 73, 3) := by decide +kernel
theorem dX10_text_12 : decode cX10_text 12 = .ok (.ifCond .eq 7, 3) := by decide +kernel
theorem dX10_text_15 : decode cX10_text 15 = .ok (.iconst 0, 1) := by decide +kernel
theorem dX10_text_16 : decode cX10_text 16 = .ok (.goto 4, 3) := by decide +kernel
theorem dX10_text_19 : decode cX10_text 19 = .ok (.iconst 1, 1) := by decide +kernel
theorem dX10_text_20 : decode cX10_text 20 = .ok (.putfield 69, 3) := by decide +kernel
theorem dX10_text_23 : decode cX10_text 23 = .ok (.aload_n 0, 1) := by decide +kernel
theorem dX10_text_24 : decode cX10_text 24 = .ok (.getfield 69, 3) := by decide +kernel
theorem dX10_text_27 : decode cX10_text 27 = .ok (.ifCond .ne 12, 3) := by decide +kernel
theorem dX10_text_30 : decode cX10_text 30 = .ok (.aload_n 0, 1) := by decide +kernel
theorem dX10_text_31 : decode cX10_text 31 = .ok (.getfield 33, 3) := by decide +kernel
theorem dX10_text_34 : decode cX10_text 34 = .ok (.iload_n 1, 1) := by decide +kernel
theorem dX10_text_35 : decode cX10_text 35 = .ok (.caload, 1) := by decide +kernel
theorem dX10_text_36 : decode cX10_text 36 = .ok (.goto 4, 3) := by decide +kernel
theorem dX10_text_39 : decode cX10_text 39 = .ok (.iconst 0, 1) := by decide +kernel
theorem dX10_text_40 : decode cX10_text 40 = .ok (.ireturn, 1) := by decide +kernel
theorem dX10_placeOf_0 : decode cX10_placeOf 0 = .ok (.iload_n 1, 1) := by decide +kernel
theorem dX10_placeOf_1 : decode cX10_placeOf 1 = .ok (.iconst 0, 1) := by decide +kernel
theorem dX10_placeOf_2 : decode cX10_placeOf 2 = .ok (.iload_n 0, 1) := by decide +kernel
theorem dX10_placeOf_3 : decode cX10_placeOf 3 = .ok (.ifCond .eq 8, 3) := by decide +kernel
theorem dX10_placeOf_6 : decode cX10_placeOf 6 = .ok (.bipush 15, 2) := by decide +kernel
theorem dX10_placeOf_8 : decode cX10_placeOf 8 = .ok (.goto 5, 3) := by decide +kernel
theorem dX10_placeOf_11 : decode cX10_placeOf 11 = .ok (.bipush 7, 2) := by decide +kernel
theorem dX10_placeOf_13 : decode cX10_placeOf 13 = .ok (.invokestatic 73, 3) := by decide +kernel
theorem dX10_placeOf_16 : decode cX10_placeOf 16 = .ok (.ifCond .eq 18, 3) := by decide +kernel
theorem dX10_placeOf_19 : decode cX10_placeOf 19 = .ok (.iload_n 0, 1) := by decide +kernel
theorem dX10_placeOf_20 : decode cX10_placeOf 20 = .ok (.ifCond .eq 8, 3) := by decide +kernel
theorem dX10_placeOf_23 : decode cX10_placeOf 23 = .ok (.bipush 8, 2) := by decide +kernel
theorem dX10_placeOf_25 : decode cX10_placeOf 25 = .ok (.goto 4, 3) := by decide +kernel
theorem dX10_placeOf_28 : decode cX10_placeOf 28 = .ok (.iconst 0, 1) := by decide +kernel
theorem dX10_placeOf_29 : decode cX10_placeOf 29 = .ok (.iload_n 1, 1) := by decide +kernel
theorem dX10_placeOf_30 : decode cX10_placeOf 30 = .ok (.iadd, 1) := by decide +kernel
theorem dX10_placeOf_31 : decode cX10_placeOf 31 = .ok (.goto 4, 3) := by decide +kernel
theorem dX10_placeOf_34 : decode cX10_placeOf 34 = .ok (.iconst (-1), 1) := by decide +kernel
theorem dX10_placeOf_35 : decode cX10_placeOf 35 = .ok (.ireturn, 1) := by decide +kernel
theorem dX10_setInitial_0 : decode cX10_setInitial 0 = .ok (.aload_n 0, 1) := by decide +kernel
theorem dX10_setInitial_1 : decode cX10_setInitial 1 = .ok (.iload_n 1, 1) := by decide +kernel
theorem dX10_setInitial_2 : decode cX10_setInitial 2 = .ok (.iload_n 2, 1) := by decide +kernel
theorem dX10_setInitial_3 : decode cX10_setInitial 3 = .ok (.invokestatic 236, 3) := by decide +kernel
theorem dX10_setInitial_6 : decode cX10_setInitial 6 = .ok (.iconst (-1), 1) := by decide +kernel
theorem dX10_setInitial_7 : decode cX10_setInitial 7 = .ok (.if_icmp .ne 7, 3) := by decide +kernel
theorem dX10_setInitial_10 : decode cX10_setInitial 10 = .ok (.iconst 1, 1) := by decide +kernel
theorem dX10_setInitial_11 : decode cX10_setInitial 11 = .ok (.goto 4, 3) := by decide +kernel
theorem dX10_setInitial_14 : decode cX10_setInitial 14 = .ok (.iconst 0, 1) := by decide +kernel
theorem dX10_setInitial_15 : decode cX10_setInitial 15 = .ok (.putfield 69, 3) := by decide +kernel
theorem dX10_setInitial_18 : decode cX10_setInitial 18 = .ok (.aload_n 0, 1) := by decide +kernel
theorem dX10_setInitial_19 : decode cX10_setInitial 19 = .ok (.getfield 69, 3) := by decide +kernel
theorem dX10_setInitial_22 : decode cX10_setInitial 22 = .ok (.ifCond .eq 5, 3) := by decide +kernel
theorem dX10_setInitial_25 : decode cX10_setInitial 25 = .ok (.iconst 0, 1) := by decide +kernel
theorem dX10_setInitial_26 : decode cX10_setInitial 26 = .ok (.ireturn, 1) := by decide +kernel
theorem dX10_setInitial_27 : decode cX10_setInitial 27 = .ok (.aload_n 0, 1) := by decide +kernel
theorem dX10_setInitial_28 : decode cX10_setInitial 28 = .ok (.getfield 36, 3) := by decide +kernel
theorem dX10_setInitial_31 : decode cX10_setInitial 31 = .ok (.iload_n 1, 1) := by decide +kernel
theorem dX10_setInitial_32 : decode cX10_setInitial 32 = .ok (.iload_n 2, 1) := by decide +kernel
theorem dX10_setInitial_33 : decode cX10_setInitial 33 = .ok (.invokestatic 236, 3) := by decide +kernel
theorem dX10_setInitial_36 : decode cX10_setInitial 36 = .ok (.iaload, 1) := by decide +kernel
theorem dX10_setInitial_37 : decode cX10_setInitial 37 = .ok (.istore 4, 2) := by decide +kernel
theorem dX10_setInitial_39 : decode cX10_setInitial 39 = .ok (.aload_n 0, 1) := by decide +kernel
theorem dX10_setInitial_40 : decode cX10_setInitial 40 = .ok (.getfield 36, 3) := by decide +kernel
theorem dX10_setInitial_43 : decode cX10_setInitial 43 = .ok (.iload_n 1, 1) := by decide +kernel
theorem dX10_setInitial_44 : decode cX10_setInitial 44 = .ok (.iload_n 2, 1) := by decide +kernel
theorem dX10_setInitial_45 : decode cX10_setInitial 45 = .ok (.invokestatic 236, 3) := by decide +kernel
theorem dX10_setInitial_48 : decode cX10_setInitial 48 = .ok (.iload_n 3, 1) := by decide +kernel
theorem dX10_setInitial_49 : decode cX10_setInitial 49 = .ok (.iastore, 1) := by decide +kernel
theorem dX10_setInitial_50 : decode cX10_setInitial 50 = .ok (.iload 4, 2) := by decide +kernel
theorem dX10_setInitial_52 : decode cX10_setInitial 52 = .ok (.ireturn, 1) := by decide +kernel
theorem dX10_partOf_0 : decode cX10_partOf 0 = .ok (.iload_n 1, 1) := by decide +kernel
theorem dX10_partOf_1 : decode cX10_partOf 1 = .ok (.ifCond .eq 12, 3) := by decide +kernel
theorem dX10_partOf_4 : decode cX10_partOf 4 = .ok (.aload_n 0, 1) := by decide +kernel
theorem dX10_partOf_5 : decode cX10_partOf 5 = .ok (.iload_n 2, 1) := by decide +kernel
theorem dX10_partOf_6 : decode cX10_partOf 6 = .ok (.iload_n 3, 1) := by decide +kernel
theorem dX10_partOf_7 : decode cX10_partOf 7 = .ok (.invokevirtual 77, 3) := by decide +kernel
theorem dX10_partOf_10 : decode cX10_partOf 10 = .ok (.goto 13, 3) := by decide +kernel
theorem dX10_partOf_13 : decode cX10_partOf 13 = .ok (.aload_n 0, 1) := by decide +kernel
theorem dX10_partOf_14 : decode cX10_partOf 14 = .ok (.getfield 7, 3) := by decide +kernel
theorem dX10_partOf_17 : decode cX10_partOf 17 = .ok (.iconst 4, 1) := by decide +kernel
theorem dX10_partOf_18 : decode cX10_partOf 18 = .ok (.iload_n 2, 1) := by decide +kernel
theorem dX10_partOf_19 : decode cX10_partOf 19 = .ok (.imul, 1) := by decide +kernel
theorem dX10_partOf_20 : decode cX10_partOf 20 = .ok (.iload_n 3, 1) := by decide +kernel
theorem dX10_partOf_21 : decode cX10_partOf 21 = .ok (.iadd, 1) := by decide +kernel
theorem dX10_partOf_22 : decode cX10_partOf 22 = .ok (.iaload, 1) := by decide +kernel
theorem dX10_partOf_23 : decode cX10_partOf 23 = .ok (.ireturn, 1) := by decide +kernel
theorem dX10_execute_0 : decode cX10_execute 0 = .ok (.aload_n 0, 1) := by decide +kernel
theorem dX10_execute_1 : decode cX10_execute 1 = .ok (.iload_n 1, 1) := by decide +kernel
theorem dX10_execute_2 : decode cX10_execute 2 = .ok (.iload_n 2, 1) := by decide +kernel
theorem dX10_execute_3 : decode cX10_execute 3 = .ok (.iconst 1, 1) := by decide +kernel
theorem dX10_execute_4 : decode cX10_execute 4 = .ok (.invokevirtual 240, 3) := by decide +kernel
theorem dX10_execute_7 : decode cX10_execute 7 = .ok (.istore_n 3, 1) := by decide +kernel
theorem dX10_execute_8 : decode cX10_execute 8 = .ok (.aload_n 0, 1) := by decide +kernel
theorem dX10_execute_9 : decode cX10_execute 9 = .ok (.iload_n 1, 1) := by decide +kernel
theorem dX10_execute_10 : decode cX10_execute 10 = .ok (.iload_n 2, 1) := by decide +kernel
theorem dX10_execute_11 : decode cX10_execute 11 = .ok (.iconst 2, 1) := by decide +kernel
theorem dX10_execute_12 : decode cX10_execute 12 = .ok (.invokevirtual 240, 3) := by decide +kernel
theorem dX10_execute_15 : decode cX10_execute 15 = .ok (.istore 4, 2) := by decide +kernel
theorem dX10_execute_17 : decode cX10_execute 17 = .ok (.aload_n 0, 1) := by decide +kernel
theorem dX10_execute_18 : decode cX10_execute 18 = .ok (.iload_n 1, 1) := by decide +kernel
theorem dX10_execute_19 : decode cX10_execute 19 = .ok (.iload_n 2, 1) := by decide +kernel
theorem dX10_execute_20 : decode cX10_execute 20 = .ok (.iconst 3, 1) := by decide +kernel
theorem dX10_execute_21 : decode cX10_execute 21 = .ok (.invokevirtual 240, 3) := by decide +kernel
theorem dX10_execute_24 : decode cX10_execute 24 = .ok (.istore 5, 2) := by decide +kernel
theorem dX10_execute_26 : decode cX10_execute 26 = .ok (.aload_n 0, 1) := by decide +kernel
theorem dX10_execute_27 : decode cX10_execute 27 = .ok (.dup, 1) := by decide +kernel
theorem dX10_execute_28 : decode cX10_execute 28 = .ok (.getfield 244, 3) := by decide +kernel
theorem dX10_execute_31 : decode cX10_execute 31 = .ok (.iconst 1, 1) := by decide +kernel
theorem dX10_execute_32 : decode cX10_execute 32 = .ok (.iadd, 1) := by decide +kernel
theorem dX10_execute_33 : decode cX10_execute 33 = .ok (.putfield 244, 3) := by decide +kernel
theorem dX10_execute_36 : decode cX10_execute 36 = .ok (.aload_n 0, 1) := by decide +kernel
theorem dX10_execute_37 : decode cX10_execute 37 = .ok (.iload_n 1, 1) := by decide +kernel
theorem dX10_execute_38 : decode cX10_execute 38 = .ok (.iload_n 2, 1) := by decide +kernel
theorem dX10_execute_39 : decode cX10_execute 39 = .ok (.iconst 0, 1) := by decide +kernel
theorem dX10_execute_40 : decode cX10_execute 40 = .ok (.invokevirtual 240, 3) := by decide +kernel
theorem dX10_execute_43 : decode cX10_execute 43 = .ok (.tableswitch 204 1 7 #[41, 52, 68, 92, 116, 146, 176], 41) := by decide +kernel
theorem dX10_execute_84 : decode cX10_execute 84 = .ok (.aload_n 0, 1) := by decide +kernel
theorem dX10_execute_85 : decode cX10_execute 85 = .ok (.getfield 39, 3) := by decide +kernel
theorem dX10_execute_88 : decode cX10_execute 88 = .ok (.iload_n 3, 1) := by decide +kernel
theorem dX10_execute_89 : decode cX10_execute 89 = .ok (.iload 5, 2) := by decide +kernel
theorem dX10_execute_91 : decode cX10_execute 91 = .ok (.iastore, 1) := by decide +kernel
theorem dX10_execute_92 : decode cX10_execute 92 = .ok (.goto 155, 3) := by decide +kernel
theorem dX10_execute_95 : decode cX10_execute 95 = .ok (.aload_n 0, 1) := by decide +kernel
theorem dX10_execute_96 : decode cX10_execute 96 = .ok (.getfield 39, 3) := by decide +kernel
theorem dX10_execute_99 : decode cX10_execute 99 = .ok (.iload_n 3, 1) := by decide +kernel
theorem dX10_execute_100 : decode cX10_execute 100 = .ok (.aload_n 0, 1) := by decide +kernel
theorem dX10_execute_101 : decode cX10_execute 101 = .ok (.getfield 39, 3) := by decide +kernel
theorem dX10_execute_104 : decode cX10_execute 104 = .ok (.iload 4, 2) := by decide +kernel
theorem dX10_execute_106 : decode cX10_execute 106 = .ok (.iaload, 1) := by decide +kernel
theorem dX10_execute_107 : decode cX10_execute 107 = .ok (.iastore, 1) := by decide +kernel
theorem dX10_execute_108 : decode cX10_execute 108 = .ok (.goto 139, 3) := by decide +kernel
theorem dX10_execute_111 : decode cX10_execute 111 = .ok (.aload_n 0, 1) := by decide +kernel
theorem dX10_execute_112 : decode cX10_execute 112 = .ok (.getfield 39, 3) := by decide +kernel
theorem dX10_execute_115 : decode cX10_execute 115 = .ok (.iload_n 3, 1) := by decide +kernel
theorem dX10_execute_116 : decode cX10_execute 116 = .ok (.aload_n 0, 1) := by decide +kernel
theorem dX10_execute_117 : decode cX10_execute 117 = .ok (.getfield 39, 3) := by decide +kernel
theorem dX10_execute_120 : decode cX10_execute 120 = .ok (.iload 4, 2) := by decide +kernel
theorem dX10_execute_122 : decode cX10_execute 122 = .ok (.iaload, 1) := by decide +kernel
theorem dX10_execute_123 : decode cX10_execute 123 = .ok (.aload_n 0, 1) := by decide +kernel
theorem dX10_execute_124 : decode cX10_execute 124 = .ok (.getfield 39, 3) := by decide +kernel
theorem dX10_execute_127 : decode cX10_execute 127 = .ok (.iload 5, 2) := by decide +kernel
theorem dX10_execute_129 : decode cX10_execute 129 = .ok (.iaload, 1) := by decide +kernel
theorem dX10_execute_130 : decode cX10_execute 130 = .ok (.iadd, 1) := by decide +kernel
theorem dX10_execute_131 : decode cX10_execute 131 = .ok (.iastore, 1) := by decide +kernel
theorem dX10_execute_132 : decode cX10_execute 132 = .ok (.goto 115, 3) := by decide +kernel
theorem dX10_execute_135 : decode cX10_execute 135 = .ok (.aload_n 0, 1) := by decide +kernel
theorem dX10_execute_136 : decode cX10_execute 136 = .ok (.getfield 39, 3) := by decide +kernel
theorem dX10_execute_139 : decode cX10_execute 139 = .ok (.iload_n 3, 1) := by decide +kernel
theorem dX10_execute_140 : decode cX10_execute 140 = .ok (.aload_n 0, 1) := by decide +kernel
theorem dX10_execute_141 : decode cX10_execute 141 = .ok (.getfield 39, 3) := by decide +kernel
theorem dX10_execute_144 : decode cX10_execute 144 = .ok (.iload 4, 2) := by decide +kernel
theorem dX10_execute_146 : decode cX10_execute 146 = .ok (.iaload, 1) := by decide +kernel
theorem dX10_execute_147 : decode cX10_execute 147 = .ok (.aload_n 0, 1) := by decide +kernel
theorem dX10_execute_148 : decode cX10_execute 148 = .ok (.getfield 39, 3) := by decide +kernel
theorem dX10_execute_151 : decode cX10_execute 151 = .ok (.iload 5, 2) := by decide +kernel
theorem dX10_execute_153 : decode cX10_execute 153 = .ok (.iaload, 1) := by decide +kernel
theorem dX10_execute_154 : decode cX10_execute 154 = .ok (.isub, 1) := by decide +kernel
theorem dX10_execute_155 : decode cX10_execute 155 = .ok (.iastore, 1) := by decide +kernel
theorem dX10_execute_156 : decode cX10_execute 156 = .ok (.goto 91, 3) := by decide +kernel
theorem dX10_execute_159 : decode cX10_execute 159 = .ok (.aload_n 0, 1) := by decide +kernel
theorem dX10_execute_160 : decode cX10_execute 160 = .ok (.getfield 39, 3) := by decide +kernel
theorem dX10_execute_163 : decode cX10_execute 163 = .ok (.iload_n 3, 1) := by decide +kernel
theorem dX10_execute_164 : decode cX10_execute 164 = .ok (.aload_n 0, 1) := by decide +kernel
theorem dX10_execute_165 : decode cX10_execute 165 = .ok (.getfield 39, 3) := by decide +kernel
theorem dX10_execute_168 : decode cX10_execute 168 = .ok (.bipush 8, 2) := by decide +kernel
theorem dX10_execute_170 : decode cX10_execute 170 = .ok (.aload_n 0, 1) := by decide +kernel
theorem dX10_execute_171 : decode cX10_execute 171 = .ok (.getfield 39, 3) := by decide +kernel
theorem dX10_execute_174 : decode cX10_execute 174 = .ok (.iload 4, 2) := by decide +kernel
theorem dX10_execute_176 : decode cX10_execute 176 = .ok (.iaload, 1) := by decide +kernel
theorem dX10_execute_177 : decode cX10_execute 177 = .ok (.iload 5, 2) := by decide +kernel
theorem dX10_execute_179 : decode cX10_execute 179 = .ok (.iadd, 1) := by decide +kernel
theorem dX10_execute_180 : decode cX10_execute 180 = .ok (.bipush 15, 2) := by decide +kernel
theorem dX10_execute_182 : decode cX10_execute 182 = .ok (.iand, 1) := by decide +kernel
theorem dX10_execute_183 : decode cX10_execute 183 = .ok (.iadd, 1) := by decide +kernel
theorem dX10_execute_184 : decode cX10_execute 184 = .ok (.iaload, 1) := by decide +kernel
theorem dX10_execute_185 : decode cX10_execute 185 = .ok (.iastore, 1) := by decide +kernel
theorem dX10_execute_186 : decode cX10_execute 186 = .ok (.goto 61, 3) := by decide +kernel
theorem dX10_execute_189 : decode cX10_execute 189 = .ok (.aload_n 0, 1) := by decide +kernel
theorem dX10_execute_190 : decode cX10_execute 190 = .ok (.getfield 39, 3) := by decide +kernel
theorem dX10_execute_193 : decode cX10_execute 193 = .ok (.bipush 8, 2) := by decide +kernel
theorem dX10_execute_195 : decode cX10_execute 195 = .ok (.aload_n 0, 1) := by decide +kernel
theorem dX10_execute_196 : decode cX10_execute 196 = .ok (.getfield 39, 3) := by decide +kernel
theorem dX10_execute_199 : decode cX10_execute 199 = .ok (.iload 4, 2) := by decide +kernel
theorem dX10_execute_201 : decode cX10_execute 201 = .ok (.iaload, 1) := by decide +kernel
theorem dX10_execute_202 : decode cX10_execute 202 = .ok (.iload 5, 2) := by decide +kernel
theorem dX10_execute_204 : decode cX10_execute 204 = .ok (.iadd, 1) := by decide +kernel
theorem dX10_execute_205 : decode cX10_execute 205 = .ok (.bipush 15, 2) := by decide +kernel
theorem dX10_execute_207 : decode cX10_execute 207 = .ok (.iand, 1) := by decide +kernel
theorem dX10_execute_208 : decode cX10_execute 208 = .ok (.iadd, 1) := by decide +kernel
theorem dX10_execute_209 : decode cX10_execute 209 = .ok (.aload_n 0, 1) := by decide +kernel
theorem dX10_execute_210 : decode cX10_execute 210 = .ok (.getfield 39, 3) := by decide +kernel
theorem dX10_execute_213 : decode cX10_execute 213 = .ok (.iload_n 3, 1) := by decide +kernel
theorem dX10_execute_214 : decode cX10_execute 214 = .ok (.iaload, 1) := by decide +kernel
theorem dX10_execute_215 : decode cX10_execute 215 = .ok (.iastore, 1) := by decide +kernel
theorem dX10_execute_216 : decode cX10_execute 216 = .ok (.goto 31, 3) := by decide +kernel
theorem dX10_execute_219 : decode cX10_execute 219 = .ok (.aload_n 0, 1) := by decide +kernel
theorem dX10_execute_220 : decode cX10_execute 220 = .ok (.getfield 42, 3) := by decide +kernel
theorem dX10_execute_223 : decode cX10_execute 223 = .ok (.aload_n 0, 1) := by decide +kernel
theorem dX10_execute_224 : decode cX10_execute 224 = .ok (.getfield 247, 3) := by decide +kernel
theorem dX10_execute_227 : decode cX10_execute 227 = .ok (.aload_n 0, 1) := by decide +kernel
theorem dX10_execute_228 : decode cX10_execute 228 = .ok (.getfield 39, 3) := by decide +kernel
theorem dX10_execute_231 : decode cX10_execute 231 = .ok (.iload_n 3, 1) := by decide +kernel
theorem dX10_execute_232 : decode cX10_execute 232 = .ok (.iaload, 1) := by decide +kernel
theorem dX10_execute_233 : decode cX10_execute 233 = .ok (.iastore, 1) := by decide +kernel
theorem dX10_execute_234 : decode cX10_execute 234 = .ok (.aload_n 0, 1) := by decide +kernel
theorem dX10_execute_235 : decode cX10_execute 235 = .ok (.dup, 1) := by decide +kernel
theorem dX10_execute_236 : decode cX10_execute 236 = .ok (.getfield 247, 3) := by decide +kernel
theorem dX10_execute_239 : decode cX10_execute 239 = .ok (.iconst 1, 1) := by decide +kernel
theorem dX10_execute_240 : decode cX10_execute 240 = .ok (.iadd, 1) := by decide +kernel
theorem dX10_execute_241 : decode cX10_execute 241 = .ok (.putfield 247, 3) := by decide +kernel
theorem dX10_execute_244 : decode cX10_execute 244 = .ok (.goto 3, 3) := by decide +kernel
theorem dX10_execute_247 : decode cX10_execute 247 = .ok (.return_, 1) := by decide +kernel
theorem dX10_isTaken_0 : decode cX10_isTaken 0 = .ok (.aload_n 0, 1) := by decide +kernel
theorem dX10_isTaken_1 : decode cX10_isTaken 1 = .ok (.iload_n 1, 1) := by decide +kernel
theorem dX10_isTaken_2 : decode cX10_isTaken 2 = .ok (.iload_n 2, 1) := by decide +kernel
theorem dX10_isTaken_3 : decode cX10_isTaken 3 = .ok (.iconst 0, 1) := by decide +kernel
theorem dX10_isTaken_4 : decode cX10_isTaken 4 = .ok (.invokevirtual 240, 3) := by decide +kernel
theorem dX10_isTaken_7 : decode cX10_isTaken 7 = .ok (.istore_n 3, 1) := by decide +kernel
theorem dX10_isTaken_8 : decode cX10_isTaken 8 = .ok (.aload_n 0, 1) := by decide +kernel
theorem dX10_isTaken_9 : decode cX10_isTaken 9 = .ok (.getfield 39, 3) := by decide +kernel
theorem dX10_isTaken_12 : decode cX10_isTaken 12 = .ok (.aload_n 0, 1) := by decide +kernel
theorem dX10_isTaken_13 : decode cX10_isTaken 13 = .ok (.iload_n 1, 1) := by decide +kernel
theorem dX10_isTaken_14 : decode cX10_isTaken 14 = .ok (.iload_n 2, 1) := by decide +kernel
theorem dX10_isTaken_15 : decode cX10_isTaken 15 = .ok (.iconst 1, 1) := by decide +kernel
theorem dX10_isTaken_16 : decode cX10_isTaken 16 = .ok (.invokevirtual 240, 3) := by decide +kernel
theorem dX10_isTaken_19 : decode cX10_isTaken 19 = .ok (.iaload, 1) := by decide +kernel
theorem dX10_isTaken_20 : decode cX10_isTaken 20 = .ok (.istore 4, 2) := by decide +kernel
theorem dX10_isTaken_22 : decode cX10_isTaken 22 = .ok (.aload_n 0, 1) := by decide +kernel
theorem dX10_isTaken_23 : decode cX10_isTaken 23 = .ok (.getfield 39, 3) := by decide +kernel
theorem dX10_isTaken_26 : decode cX10_isTaken 26 = .ok (.aload_n 0, 1) := by decide +kernel
theorem dX10_isTaken_27 : decode cX10_isTaken 27 = .ok (.iload_n 1, 1) := by decide +kernel
theorem dX10_isTaken_28 : decode cX10_isTaken 28 = .ok (.iload_n 2, 1) := by decide +kernel
theorem dX10_isTaken_29 : decode cX10_isTaken 29 = .ok (.iconst 2, 1) := by decide +kernel
theorem dX10_isTaken_30 : decode cX10_isTaken 30 = .ok (.invokevirtual 240, 3) := by decide +kernel
theorem dX10_isTaken_33 : decode cX10_isTaken 33 = .ok (.iaload, 1) := by decide +kernel
theorem dX10_isTaken_34 : decode cX10_isTaken 34 = .ok (.istore 5, 2) := by decide +kernel
theorem dX10_isTaken_36 : decode cX10_isTaken 36 = .ok (.iload_n 3, 1) := by decide +kernel
theorem dX10_isTaken_37 : decode cX10_isTaken 37 = .ok (.bipush 10, 2) := by decide +kernel
theorem dX10_isTaken_39 : decode cX10_isTaken 39 = .ok (.if_icmp .eq 26, 3) := by decide +kernel
theorem dX10_isTaken_42 : decode cX10_isTaken 42 = .ok (.iload_n 3, 1) := by decide +kernel
theorem dX10_isTaken_43 : decode cX10_isTaken 43 = .ok (.bipush 8, 2) := by decide +kernel
theorem dX10_isTaken_45 : decode cX10_isTaken 45 = .ok (.if_icmp .ne 13, 3) := by decide +kernel
theorem dX10_isTaken_48 : decode cX10_isTaken 48 = .ok (.iload 4, 2) := by decide +kernel
theorem dX10_isTaken_50 : decode cX10_isTaken 50 = .ok (.iload 5, 2) := by decide +kernel
theorem dX10_isTaken_52 : decode cX10_isTaken 52 = .ok (.if_icmp .ne 17, 3) := by decide +kernel
theorem dX10_isTaken_55 : decode cX10_isTaken 55 = .ok (.goto 10, 3) := by decide +kernel
theorem dX10_isTaken_58 : decode cX10_isTaken 58 = .ok (.iload 4, 2) := by decide +kernel
theorem dX10_isTaken_60 : decode cX10_isTaken 60 = .ok (.iload 5, 2) := by decide +kernel
theorem dX10_isTaken_62 : decode cX10_isTaken 62 = .ok (.if_icmp .ge 7, 3) := by decide +kernel
theorem dX10_isTaken_65 : decode cX10_isTaken 65 = .ok (.iconst 1, 1) := by decide +kernel
theorem dX10_isTaken_66 : decode cX10_isTaken 66 = .ok (.goto 4, 3) := by decide +kernel
theorem dX10_isTaken_69 : decode cX10_isTaken 69 = .ok (.iconst 0, 1) := by decide +kernel
theorem dX10_isTaken_70 : decode cX10_isTaken 70 = .ok (.ireturn, 1) := by decide +kernel
theorem dX10_runs_0 : decode cX10_runs 0 = .ok (.iload_n 1, 1) := by decide +kernel
theorem dX10_runs_1 : decode cX10_runs 1 = .ok (.ifCond .eq 10, 3) := by decide +kernel
theorem dX10_runs_4 : decode cX10_runs 4 = .ok (.aload_n 0, 1) := by decide +kernel
theorem dX10_runs_5 : decode cX10_runs 5 = .ok (.invokevirtual 85, 3) := by decide +kernel
theorem dX10_runs_8 : decode cX10_runs 8 = .ok (.goto 7, 3) := by decide +kernel
theorem dX10_runs_11 : decode cX10_runs 11 = .ok (.aload_n 0, 1) := by decide +kernel
theorem dX10_runs_12 : decode cX10_runs 12 = .ok (.getfield 146, 3) := by decide +kernel
theorem dX10_runs_15 : decode cX10_runs 15 = .ok (.istore_n 3, 1) := by decide +kernel
theorem dX10_runs_16 : decode cX10_runs 16 = .ok (.aload_n 0, 1) := by decide +kernel
theorem dX10_runs_17 : decode cX10_runs 17 = .ok (.iconst 0, 1) := by decide +kernel
theorem dX10_runs_18 : decode cX10_runs 18 = .ok (.putfield 247, 3) := by decide +kernel
theorem dX10_runs_21 : decode cX10_runs 21 = .ok (.aload_n 0, 1) := by decide +kernel
theorem dX10_runs_22 : decode cX10_runs 22 = .ok (.iconst 0, 1) := by decide +kernel
theorem dX10_runs_23 : decode cX10_runs 23 = .ok (.putfield 244, 3) := by decide +kernel
theorem dX10_runs_26 : decode cX10_runs 26 = .ok (.iconst 0, 1) := by decide +kernel
theorem dX10_runs_27 : decode cX10_runs 27 = .ok (.istore 4, 2) := by decide +kernel
theorem dX10_runs_29 : decode cX10_runs 29 = .ok (.iload 4, 2) := by decide +kernel
theorem dX10_runs_31 : decode cX10_runs 31 = .ok (.iload_n 3, 1) := by decide +kernel
theorem dX10_runs_32 : decode cX10_runs 32 = .ok (.if_icmp .ge 153, 3) := by decide +kernel
theorem dX10_runs_35 : decode cX10_runs 35 = .ok (.aload_n 0, 1) := by decide +kernel
theorem dX10_runs_36 : decode cX10_runs 36 = .ok (.getfield 244, 3) := by decide +kernel
theorem dX10_runs_39 : decode cX10_runs 39 = .ok (.iload_n 2, 1) := by decide +kernel
theorem dX10_runs_40 : decode cX10_runs 40 = .ok (.if_icmp .ne 5, 3) := by decide +kernel
theorem dX10_runs_43 : decode cX10_runs 43 = .ok (.iconst 0, 1) := by decide +kernel
theorem dX10_runs_44 : decode cX10_runs 44 = .ok (.ireturn, 1) := by decide +kernel
theorem dX10_runs_45 : decode cX10_runs 45 = .ok (.aload_n 0, 1) := by decide +kernel
theorem dX10_runs_46 : decode cX10_runs 46 = .ok (.iload_n 1, 1) := by decide +kernel
theorem dX10_runs_47 : decode cX10_runs 47 = .ok (.iload 4, 2) := by decide +kernel
theorem dX10_runs_49 : decode cX10_runs 49 = .ok (.iconst 0, 1) := by decide +kernel
theorem dX10_runs_50 : decode cX10_runs 50 = .ok (.invokevirtual 240, 3) := by decide +kernel
theorem dX10_runs_53 : decode cX10_runs 53 = .ok (.istore 5, 2) := by decide +kernel
theorem dX10_runs_55 : decode cX10_runs 55 = .ok (.iload 5, 2) := by decide +kernel
theorem dX10_runs_57 : decode cX10_runs 57 = .ok (.bipush 11, 2) := by decide +kernel
theorem dX10_runs_59 : decode cX10_runs 59 = .ok (.if_icmp .ne 15, 3) := by decide +kernel
theorem dX10_runs_62 : decode cX10_runs 62 = .ok (.aload_n 0, 1) := by decide +kernel
theorem dX10_runs_63 : decode cX10_runs 63 = .ok (.dup, 1) := by decide +kernel
theorem dX10_runs_64 : decode cX10_runs 64 = .ok (.getfield 244, 3) := by decide +kernel
theorem dX10_runs_67 : decode cX10_runs 67 = .ok (.iconst 1, 1) := by decide +kernel
theorem dX10_runs_68 : decode cX10_runs 68 = .ok (.iadd, 1) := by decide +kernel
theorem dX10_runs_69 : decode cX10_runs 69 = .ok (.putfield 244, 3) := by decide +kernel
theorem dX10_runs_72 : decode cX10_runs 72 = .ok (.iconst 1, 1) := by decide +kernel
theorem dX10_runs_73 : decode cX10_runs 73 = .ok (.ireturn, 1) := by decide +kernel
theorem dX10_runs_74 : decode cX10_runs 74 = .ok (.iload 5, 2) := by decide +kernel
theorem dX10_runs_76 : decode cX10_runs 76 = .ok (.invokestatic 81, 3) := by decide +kernel
theorem dX10_runs_79 : decode cX10_runs 79 = .ok (.ifCond .ne 16, 3) := by decide +kernel
theorem dX10_runs_82 : decode cX10_runs 82 = .ok (.aload_n 0, 1) := by decide +kernel
theorem dX10_runs_83 : decode cX10_runs 83 = .ok (.iload_n 1, 1) := by decide +kernel
theorem dX10_runs_84 : decode cX10_runs 84 = .ok (.iload 4, 2) := by decide +kernel
theorem dX10_runs_86 : decode cX10_runs 86 = .ok (.invokevirtual 250, 3) := by decide +kernel
theorem dX10_runs_89 : decode cX10_runs 89 = .ok (.iinc 4 1, 3) := by decide +kernel
theorem dX10_runs_92 : decode cX10_runs 92 = .ok (.goto 90, 3) := by decide +kernel
theorem dX10_runs_95 : decode cX10_runs 95 = .ok (.aload_n 0, 1) := by decide +kernel
theorem dX10_runs_96 : decode cX10_runs 96 = .ok (.iload_n 1, 1) := by decide +kernel
theorem dX10_runs_97 : decode cX10_runs 97 = .ok (.iload 4, 2) := by decide +kernel
theorem dX10_runs_99 : decode cX10_runs 99 = .ok (.invokevirtual 254, 3) := by decide +kernel
theorem dX10_runs_102 : decode cX10_runs 102 = .ok (.istore 6, 2) := by decide +kernel
theorem dX10_runs_104 : decode cX10_runs 104 = .ok (.aload_n 0, 1) := by decide +kernel
theorem dX10_runs_105 : decode cX10_runs 105 = .ok (.dup, 1) := by decide +kernel
theorem dX10_runs_106 : decode cX10_runs 106 = .ok (.getfield 244, 3) := by decide +kernel
theorem dX10_runs_109 : decode cX10_runs 109 = .ok (.iconst 1, 1) := by decide +kernel
theorem dX10_runs_110 : decode cX10_runs 110 = .ok (.iadd, 1) := by decide +kernel
theorem dX10_runs_111 : decode cX10_runs 111 = .ok (.putfield 244, 3) := by decide +kernel
theorem dX10_runs_114 : decode cX10_runs 114 = .ok (.iload_n 1, 1) := by decide +kernel
theorem dX10_runs_115 : decode cX10_runs 115 = .ok (.ifCond .eq 37, 3) := by decide +kernel
theorem dX10_runs_118 : decode cX10_runs 118 = .ok (.iload 6, 2) := by decide +kernel
theorem dX10_runs_120 : decode cX10_runs 120 = .ok (.ifCond .ne 13, 3) := by decide +kernel
theorem dX10_runs_123 : decode cX10_runs 123 = .ok (.aload_n 0, 1) := by decide +kernel
theorem dX10_runs_124 : decode cX10_runs 124 = .ok (.iload 4, 2) := by decide +kernel
theorem dX10_runs_126 : decode cX10_runs 126 = .ok (.iconst 4, 1) := by decide +kernel
theorem dX10_runs_127 : decode cX10_runs 127 = .ok (.invokevirtual 77, 3) := by decide +kernel
theorem dX10_runs_130 : decode cX10_runs 130 = .ok (.ifCond .ne 22, 3) := by decide +kernel
theorem dX10_runs_133 : decode cX10_runs 133 = .ok (.aload_n 0, 1) := by decide +kernel
theorem dX10_runs_134 : decode cX10_runs 134 = .ok (.getfield 244, 3) := by decide +kernel
theorem dX10_runs_137 : decode cX10_runs 137 = .ok (.iload_n 2, 1) := by decide +kernel
theorem dX10_runs_138 : decode cX10_runs 138 = .ok (.if_icmp .ne 5, 3) := by decide +kernel
theorem dX10_runs_141 : decode cX10_runs 141 = .ok (.iconst 0, 1) := by decide +kernel
theorem dX10_runs_142 : decode cX10_runs 142 = .ok (.ireturn, 1) := by decide +kernel
theorem dX10_runs_143 : decode cX10_runs 143 = .ok (.aload_n 0, 1) := by decide +kernel
theorem dX10_runs_144 : decode cX10_runs 144 = .ok (.iconst 1, 1) := by decide +kernel
theorem dX10_runs_145 : decode cX10_runs 145 = .ok (.iload 4, 2) := by decide +kernel
theorem dX10_runs_147 : decode cX10_runs 147 = .ok (.iconst 1, 1) := by decide +kernel
theorem dX10_runs_148 : decode cX10_runs 148 = .ok (.iadd, 1) := by decide +kernel
theorem dX10_runs_149 : decode cX10_runs 149 = .ok (.invokevirtual 250, 3) := by decide +kernel
theorem dX10_runs_152 : decode cX10_runs 152 = .ok (.iload 6, 2) := by decide +kernel
theorem dX10_runs_154 : decode cX10_runs 154 = .ok (.ifCond .eq 14, 3) := by decide +kernel
theorem dX10_runs_157 : decode cX10_runs 157 = .ok (.aload_n 0, 1) := by decide +kernel
theorem dX10_runs_158 : decode cX10_runs 158 = .ok (.iload_n 1, 1) := by decide +kernel
theorem dX10_runs_159 : decode cX10_runs 159 = .ok (.iload 4, 2) := by decide +kernel
theorem dX10_runs_161 : decode cX10_runs 161 = .ok (.iconst 3, 1) := by decide +kernel
theorem dX10_runs_162 : decode cX10_runs 162 = .ok (.invokevirtual 240, 3) := by decide +kernel
theorem dX10_runs_165 : decode cX10_runs 165 = .ok (.goto 15, 3) := by decide +kernel
theorem dX10_runs_168 : decode cX10_runs 168 = .ok (.iload 4, 2) := by decide +kernel
theorem dX10_runs_170 : decode cX10_runs 170 = .ok (.iload_n 1, 1) := by decide +kernel
theorem dX10_runs_171 : decode cX10_runs 171 = .ok (.ifCond .eq 7, 3) := by decide +kernel
theorem dX10_runs_174 : decode cX10_runs 174 = .ok (.iconst 2, 1) := by decide +kernel
theorem dX10_runs_175 : decode cX10_runs 175 = .ok (.goto 4, 3) := by decide +kernel
theorem dX10_runs_178 : decode cX10_runs 178 = .ok (.iconst 1, 1) := by decide +kernel
theorem dX10_runs_179 : decode cX10_runs 179 = .ok (.iadd, 1) := by decide +kernel
theorem dX10_runs_180 : decode cX10_runs 180 = .ok (.istore 4, 2) := by decide +kernel
theorem dX10_runs_182 : decode cX10_runs 182 = .ok (.goto (-153), 3) := by decide +kernel
theorem dX10_runs_185 : decode cX10_runs 185 = .ok (.iconst 1, 1) := by decide +kernel
theorem dX10_runs_186 : decode cX10_runs 186 = .ok (.ireturn, 1) := by decide +kernel
theorem dX10_run_0 : decode cX10_run 0 = .ok (.aload_n 0, 1) := by decide +kernel
theorem dX10_run_1 : decode cX10_run 1 = .ok (.iconst 0, 1) := by decide +kernel
theorem dX10_run_2 : decode cX10_run 2 = .ok (.putfield 69, 3) := by decide +kernel
theorem dX10_run_5 : decode cX10_run 5 = .ok (.iload_n 2, 1) := by decide +kernel
theorem dX10_run_6 : decode cX10_run 6 = .ok (.iconst 1, 1) := by decide +kernel
theorem dX10_run_7 : decode cX10_run 7 = .ok (.sipush 2000, 3) := by decide +kernel
theorem dX10_run_10 : decode cX10_run 10 = .ok (.invokestatic 73, 3) := by decide +kernel
theorem dX10_run_13 : decode cX10_run 13 = .ok (.ifCond .ne 9, 3) := by decide +kernel
theorem dX10_run_16 : decode cX10_run 16 = .ok (.aload_n 0, 1) := by decide +kernel
theorem dX10_run_17 : decode cX10_run 17 = .ok (.iconst 1, 1) := by decide +kernel
theorem dX10_run_18 : decode cX10_run 18 = .ok (.invokevirtual 92, 3) := by decide +kernel
theorem dX10_run_21 : decode cX10_run 21 = .ok (.ireturn, 1) := by decide +kernel
theorem dX10_run_22 : decode cX10_run 22 = .ok (.iconst 0, 1) := by decide +kernel
theorem dX10_run_23 : decode cX10_run 23 = .ok (.istore_n 3, 1) := by decide +kernel
theorem dX10_run_24 : decode cX10_run 24 = .ok (.iload_n 3, 1) := by decide +kernel
theorem dX10_run_25 : decode cX10_run 25 = .ok (.bipush 24, 2) := by decide +kernel
theorem dX10_run_27 : decode cX10_run 27 = .ok (.if_icmp .ge 21, 3) := by decide +kernel
theorem dX10_run_30 : decode cX10_run 30 = .ok (.aload_n 0, 1) := by decide +kernel
theorem dX10_run_31 : decode cX10_run 31 = .ok (.getfield 39, 3) := by decide +kernel
theorem dX10_run_34 : decode cX10_run 34 = .ok (.iload_n 3, 1) := by decide +kernel
theorem dX10_run_35 : decode cX10_run 35 = .ok (.aload_n 0, 1) := by decide +kernel
theorem dX10_run_36 : decode cX10_run 36 = .ok (.getfield 36, 3) := by decide +kernel
theorem dX10_run_39 : decode cX10_run 39 = .ok (.iload_n 3, 1) := by decide +kernel
theorem dX10_run_40 : decode cX10_run 40 = .ok (.iaload, 1) := by decide +kernel
theorem dX10_run_41 : decode cX10_run 41 = .ok (.iastore, 1) := by decide +kernel
theorem dX10_run_42 : decode cX10_run 42 = .ok (.iinc 3 1, 3) := by decide +kernel
theorem dX10_run_45 : decode cX10_run 45 = .ok (.goto (-21), 3) := by decide +kernel
theorem dX10_run_48 : decode cX10_run 48 = .ok (.aload_n 0, 1) := by decide +kernel
theorem dX10_run_49 : decode cX10_run 49 = .ok (.iload_n 1, 1) := by decide +kernel
theorem dX10_run_50 : decode cX10_run 50 = .ok (.iload_n 2, 1) := by decide +kernel
theorem dX10_run_51 : decode cX10_run 51 = .ok (.invokevirtual 258, 3) := by decide +kernel
theorem dX10_run_54 : decode cX10_run 54 = .ok (.ifCond .ne 9, 3) := by decide +kernel
theorem dX10_run_57 : decode cX10_run 57 = .ok (.aload_n 0, 1) := by decide +kernel
theorem dX10_run_58 : decode cX10_run 58 = .ok (.iconst 2, 1) := by decide +kernel
theorem dX10_run_59 : decode cX10_run 59 = .ok (.invokevirtual 92, 3) := by decide +kernel
theorem dX10_run_62 : decode cX10_run 62 = .ok (.ireturn, 1) := by decide +kernel
theorem dX10_run_63 : decode cX10_run 63 = .ok (.aload_n 0, 1) := by decide +kernel
theorem dX10_run_64 : decode cX10_run 64 = .ok (.iconst 1, 1) := by decide +kernel
theorem dX10_run_65 : decode cX10_run 65 = .ok (.putfield 261, 3) := by decide +kernel
theorem dX10_run_68 : decode cX10_run 68 = .ok (.iconst 0, 1) := by decide +kernel
theorem dX10_run_69 : decode cX10_run 69 = .ok (.istore_n 3, 1) := by decide +kernel
theorem dX10_run_70 : decode cX10_run 70 = .ok (.iload_n 3, 1) := by decide +kernel
theorem dX10_run_71 : decode cX10_run 71 = .ok (.bipush 24, 2) := by decide +kernel
theorem dX10_run_73 : decode cX10_run 73 = .ok (.if_icmp .ge 21, 3) := by decide +kernel
theorem dX10_run_76 : decode cX10_run 76 = .ok (.aload_n 0, 1) := by decide +kernel
theorem dX10_run_77 : decode cX10_run 77 = .ok (.getfield 45, 3) := by decide +kernel
theorem dX10_run_80 : decode cX10_run 80 = .ok (.iload_n 3, 1) := by decide +kernel
theorem dX10_run_81 : decode cX10_run 81 = .ok (.aload_n 0, 1) := by decide +kernel
theorem dX10_run_82 : decode cX10_run 82 = .ok (.getfield 39, 3) := by decide +kernel
theorem dX10_run_85 : decode cX10_run 85 = .ok (.iload_n 3, 1) := by decide +kernel
theorem dX10_run_86 : decode cX10_run 86 = .ok (.iaload, 1) := by decide +kernel
theorem dX10_run_87 : decode cX10_run 87 = .ok (.iastore, 1) := by decide +kernel
theorem dX10_run_88 : decode cX10_run 88 = .ok (.iinc 3 1, 3) := by decide +kernel
theorem dX10_run_91 : decode cX10_run 91 = .ok (.goto (-21), 3) := by decide +kernel
theorem dX10_run_94 : decode cX10_run 94 = .ok (.iconst 0, 1) := by decide +kernel
theorem dX10_run_95 : decode cX10_run 95 = .ok (.istore_n 3, 1) := by decide +kernel
theorem dX10_run_96 : decode cX10_run 96 = .ok (.iload_n 3, 1) := by decide +kernel
theorem dX10_run_97 : decode cX10_run 97 = .ok (.aload_n 0, 1) := by decide +kernel
theorem dX10_run_98 : decode cX10_run 98 = .ok (.getfield 247, 3) := by decide +kernel
theorem dX10_run_101 : decode cX10_run 101 = .ok (.if_icmp .ge 21, 3) := by decide +kernel
theorem dX10_run_104 : decode cX10_run 104 = .ok (.aload_n 0, 1) := by decide +kernel
theorem dX10_run_105 : decode cX10_run 105 = .ok (.getfield 48, 3) := by decide +kernel
theorem dX10_run_108 : decode cX10_run 108 = .ok (.iload_n 3, 1) := by decide +kernel
theorem dX10_run_109 : decode cX10_run 109 = .ok (.aload_n 0, 1) := by decide +kernel
theorem dX10_run_110 : decode cX10_run 110 = .ok (.getfield 42, 3) := by decide +kernel
theorem dX10_run_113 : decode cX10_run 113 = .ok (.iload_n 3, 1) := by decide +kernel
theorem dX10_run_114 : decode cX10_run 114 = .ok (.iaload, 1) := by decide +kernel
theorem dX10_run_115 : decode cX10_run 115 = .ok (.iastore, 1) := by decide +kernel
theorem dX10_run_116 : decode cX10_run 116 = .ok (.iinc 3 1, 3) := by decide +kernel
theorem dX10_run_119 : decode cX10_run 119 = .ok (.goto (-23), 3) := by decide +kernel
theorem dX10_run_122 : decode cX10_run 122 = .ok (.aload_n 0, 1) := by decide +kernel
theorem dX10_run_123 : decode cX10_run 123 = .ok (.aload_n 0, 1) := by decide +kernel
theorem dX10_run_124 : decode cX10_run 124 = .ok (.getfield 247, 3) := by decide +kernel
theorem dX10_run_127 : decode cX10_run 127 = .ok (.putfield 265, 3) := by decide +kernel
theorem dX10_run_130 : decode cX10_run 130 = .ok (.aload_n 0, 1) := by decide +kernel
theorem dX10_run_131 : decode cX10_run 131 = .ok (.getfield 244, 3) := by decide +kernel
theorem dX10_run_134 : decode cX10_run 134 = .ok (.ireturn, 1) := by decide +kernel
theorem dX10_finalValue_0 : decode cX10_finalValue 0 = .ok (.aload_n 0, 1) := by decide +kernel
theorem dX10_finalValue_1 : decode cX10_finalValue 1 = .ok (.aload_n 0, 1) := by decide +kernel
theorem dX10_finalValue_2 : decode cX10_finalValue 2 = .ok (.getfield 261, 3) := by decide +kernel
theorem dX10_finalValue_5 : decode cX10_finalValue 5 = .ok (.ifCond .ne 7, 3) := by decide +kernel
theorem dX10_finalValue_8 : decode cX10_finalValue 8 = .ok (.iconst 1, 1) := by decide +kernel
theorem dX10_finalValue_9 : decode cX10_finalValue 9 = .ok (.goto 17, 3) := by decide +kernel
theorem dX10_finalValue_12 : decode cX10_finalValue 12 = .ok (.iload_n 1, 1) := by decide +kernel
theorem dX10_finalValue_13 : decode cX10_finalValue 13 = .ok (.iload_n 2, 1) := by decide +kernel
theorem dX10_finalValue_14 : decode cX10_finalValue 14 = .ok (.invokestatic 236, 3) := by decide +kernel
theorem dX10_finalValue_17 : decode cX10_finalValue 17 = .ok (.iconst (-1), 1) := by decide +kernel
theorem dX10_finalValue_18 : decode cX10_finalValue 18 = .ok (.if_icmp .ne 7, 3) := by decide +kernel
theorem dX10_finalValue_21 : decode cX10_finalValue 21 = .ok (.iconst 2, 1) := by decide +kernel
theorem dX10_finalValue_22 : decode cX10_finalValue 22 = .ok (.goto 4, 3) := by decide +kernel
theorem dX10_finalValue_25 : decode cX10_finalValue 25 = .ok (.iconst 0, 1) := by decide +kernel
theorem dX10_finalValue_26 : decode cX10_finalValue 26 = .ok (.putfield 69, 3) := by decide +kernel
theorem dX10_finalValue_29 : decode cX10_finalValue 29 = .ok (.aload_n 0, 1) := by decide +kernel
theorem dX10_finalValue_30 : decode cX10_finalValue 30 = .ok (.getfield 69, 3) := by decide +kernel
theorem dX10_finalValue_33 : decode cX10_finalValue 33 = .ok (.ifCond .ne 16, 3) := by decide +kernel
theorem dX10_finalValue_36 : decode cX10_finalValue 36 = .ok (.aload_n 0, 1) := by decide +kernel
theorem dX10_finalValue_37 : decode cX10_finalValue 37 = .ok (.getfield 45, 3) := by decide +kernel
theorem dX10_finalValue_40 : decode cX10_finalValue 40 = .ok (.iload_n 1, 1) := by decide +kernel
theorem dX10_finalValue_41 : decode cX10_finalValue 41 = .ok (.iload_n 2, 1) := by decide +kernel
theorem dX10_finalValue_42 : decode cX10_finalValue 42 = .ok (.invokestatic 236, 3) := by decide +kernel
theorem dX10_finalValue_45 : decode cX10_finalValue 45 = .ok (.iaload, 1) := by decide +kernel
theorem dX10_finalValue_46 : decode cX10_finalValue 46 = .ok (.goto 4, 3) := by decide +kernel
theorem dX10_finalValue_49 : decode cX10_finalValue 49 = .ok (.iconst 0, 1) := by decide +kernel
theorem dX10_finalValue_50 : decode cX10_finalValue 50 = .ok (.ireturn, 1) := by decide +kernel
theorem dX10_outputs_0 : decode cX10_outputs 0 = .ok (.aload_n 0, 1) := by decide +kernel
theorem dX10_outputs_1 : decode cX10_outputs 1 = .ok (.iconst 0, 1) := by decide +kernel
theorem dX10_outputs_2 : decode cX10_outputs 2 = .ok (.putfield 69, 3) := by decide +kernel
theorem dX10_outputs_5 : decode cX10_outputs 5 = .ok (.aload_n 0, 1) := by decide +kernel
theorem dX10_outputs_6 : decode cX10_outputs 6 = .ok (.getfield 261, 3) := by decide +kernel
theorem dX10_outputs_9 : decode cX10_outputs 9 = .ok (.ifCond .eq 10, 3) := by decide +kernel
theorem dX10_outputs_12 : decode cX10_outputs 12 = .ok (.aload_n 0, 1) := by decide +kernel
theorem dX10_outputs_13 : decode cX10_outputs 13 = .ok (.getfield 265, 3) := by decide +kernel
theorem dX10_outputs_16 : decode cX10_outputs 16 = .ok (.goto 8, 3) := by decide +kernel
theorem dX10_outputs_19 : decode cX10_outputs 19 = .ok (.aload_n 0, 1) := by decide +kernel
theorem dX10_outputs_20 : decode cX10_outputs 20 = .ok (.iconst 1, 1) := by decide +kernel
theorem dX10_outputs_21 : decode cX10_outputs 21 = .ok (.invokevirtual 92, 3) := by decide +kernel
theorem dX10_outputs_24 : decode cX10_outputs 24 = .ok (.ireturn, 1) := by decide +kernel
theorem dX10_output_0 : decode cX10_output 0 = .ok (.aload_n 0, 1) := by decide +kernel
theorem dX10_output_1 : decode cX10_output 1 = .ok (.aload_n 0, 1) := by decide +kernel
theorem dX10_output_2 : decode cX10_output 2 = .ok (.getfield 261, 3) := by decide +kernel
theorem dX10_output_5 : decode cX10_output 5 = .ok (.ifCond .ne 7, 3) := by decide +kernel
theorem dX10_output_8 : decode cX10_output 8 = .ok (.iconst 1, 1) := by decide +kernel
theorem dX10_output_9 : decode cX10_output 9 = .ok (.goto 22, 3) := by decide +kernel
theorem dX10_output_12 : decode cX10_output 12 = .ok (.iload_n 1, 1) := by decide +kernel
theorem dX10_output_13 : decode cX10_output 13 = .ok (.iconst 0, 1) := by decide +kernel
theorem dX10_output_14 : decode cX10_output 14 = .ok (.aload_n 0, 1) := by decide +kernel
theorem dX10_output_15 : decode cX10_output 15 = .ok (.getfield 265, 3) := by decide +kernel
theorem dX10_output_18 : decode cX10_output 18 = .ok (.iconst 1, 1) := by decide +kernel
theorem dX10_output_19 : decode cX10_output 19 = .ok (.isub, 1) := by decide +kernel
theorem dX10_output_20 : decode cX10_output 20 = .ok (.invokestatic 73, 3) := by decide +kernel
theorem dX10_output_23 : decode cX10_output 23 = .ok (.ifCond .ne 7, 3) := by decide +kernel
theorem dX10_output_26 : decode cX10_output 26 = .ok (.iconst 2, 1) := by decide +kernel
theorem dX10_output_27 : decode cX10_output 27 = .ok (.goto 4, 3) := by decide +kernel
theorem dX10_output_30 : decode cX10_output 30 = .ok (.iconst 0, 1) := by decide +kernel
theorem dX10_output_31 : decode cX10_output 31 = .ok (.putfield 69, 3) := by decide +kernel
theorem dX10_output_34 : decode cX10_output 34 = .ok (.aload_n 0, 1) := by decide +kernel
theorem dX10_output_35 : decode cX10_output 35 = .ok (.getfield 69, 3) := by decide +kernel
theorem dX10_output_38 : decode cX10_output 38 = .ok (.ifCond .ne 12, 3) := by decide +kernel
theorem dX10_output_41 : decode cX10_output 41 = .ok (.aload_n 0, 1) := by decide +kernel
theorem dX10_output_42 : decode cX10_output 42 = .ok (.getfield 48, 3) := by decide +kernel
theorem dX10_output_45 : decode cX10_output 45 = .ok (.iload_n 1, 1) := by decide +kernel
theorem dX10_output_46 : decode cX10_output 46 = .ok (.iaload, 1) := by decide +kernel
theorem dX10_output_47 : decode cX10_output 47 = .ok (.goto 4, 3) := by decide +kernel
theorem dX10_output_50 : decode cX10_output 50 = .ok (.iconst 0, 1) := by decide +kernel
theorem dX10_output_51 : decode cX10_output 51 = .ok (.ireturn, 1) := by decide +kernel
theorem dX10_draw_0 : decode cX10_draw 0 = .ok (.iconst 0, 1) := by decide +kernel
theorem dX10_draw_1 : decode cX10_draw 1 = .ok (.istore_n 1, 1) := by decide +kernel
theorem dX10_draw_2 : decode cX10_draw 2 = .ok (.iload_n 1, 1) := by decide +kernel
theorem dX10_draw_3 : decode cX10_draw 3 = .ok (.bipush 24, 2) := by decide +kernel
theorem dX10_draw_5 : decode cX10_draw 5 = .ok (.if_icmp .ge 41, 3) := by decide +kernel
theorem dX10_draw_8 : decode cX10_draw 8 = .ok (.aload_n 0, 1) := by decide +kernel
theorem dX10_draw_9 : decode cX10_draw 9 = .ok (.aload_n 0, 1) := by decide +kernel
theorem dX10_draw_10 : decode cX10_draw 10 = .ok (.getfield 268, 3) := by decide +kernel
theorem dX10_draw_13 : decode cX10_draw 13 = .ok (.ldc_w 271, 3) := by decide +kernel
theorem dX10_draw_16 : decode cX10_draw 16 = .ok (.imul, 1) := by decide +kernel
theorem dX10_draw_17 : decode cX10_draw 17 = .ok (.sipush 12345, 3) := by decide +kernel
theorem dX10_draw_20 : decode cX10_draw 20 = .ok (.iadd, 1) := by decide +kernel
theorem dX10_draw_21 : decode cX10_draw 21 = .ok (.putfield 268, 3) := by decide +kernel
theorem dX10_draw_24 : decode cX10_draw 24 = .ok (.aload_n 0, 1) := by decide +kernel
theorem dX10_draw_25 : decode cX10_draw 25 = .ok (.getfield 51, 3) := by decide +kernel
theorem dX10_draw_28 : decode cX10_draw 28 = .ok (.iload_n 1, 1) := by decide +kernel
theorem dX10_draw_29 : decode cX10_draw 29 = .ok (.aload_n 0, 1) := by decide +kernel
theorem dX10_draw_30 : decode cX10_draw 30 = .ok (.getfield 268, 3) := by decide +kernel
theorem dX10_draw_33 : decode cX10_draw 33 = .ok (.bipush 16, 2) := by decide +kernel
theorem dX10_draw_35 : decode cX10_draw 35 = .ok (.iushr, 1) := by decide +kernel
theorem dX10_draw_36 : decode cX10_draw 36 = .ok (.bipush 10, 2) := by decide +kernel
theorem dX10_draw_38 : decode cX10_draw 38 = .ok (.irem, 1) := by decide +kernel
theorem dX10_draw_39 : decode cX10_draw 39 = .ok (.iastore, 1) := by decide +kernel
theorem dX10_draw_40 : decode cX10_draw 40 = .ok (.iinc 1 1, 3) := by decide +kernel
theorem dX10_draw_43 : decode cX10_draw 43 = .ok (.goto (-41), 3) := by decide +kernel
theorem dX10_draw_46 : decode cX10_draw 46 = .ok (.return_, 1) := by decide +kernel
theorem dX10_runsDrawn_0 : decode cX10_runsDrawn 0 = .ok (.iconst 0, 1) := by decide +kernel
theorem dX10_runsDrawn_1 : decode cX10_runsDrawn 1 = .ok (.istore_n 2, 1) := by decide +kernel
theorem dX10_runsDrawn_2 : decode cX10_runsDrawn 2 = .ok (.iload_n 2, 1) := by decide +kernel
theorem dX10_runsDrawn_3 : decode cX10_runsDrawn 3 = .ok (.bipush 24, 2) := by decide +kernel
theorem dX10_runsDrawn_5 : decode cX10_runsDrawn 5 = .ok (.if_icmp .ge 21, 3) := by decide +kernel
theorem dX10_runsDrawn_8 : decode cX10_runsDrawn 8 = .ok (.aload_n 0, 1) := by decide +kernel
theorem dX10_runsDrawn_9 : decode cX10_runsDrawn 9 = .ok (.getfield 39, 3) := by decide +kernel
theorem dX10_runsDrawn_12 : decode cX10_runsDrawn 12 = .ok (.iload_n 2, 1) := by decide +kernel
theorem dX10_runsDrawn_13 : decode cX10_runsDrawn 13 = .ok (.aload_n 0, 1) := by decide +kernel
theorem dX10_runsDrawn_14 : decode cX10_runsDrawn 14 = .ok (.getfield 51, 3) := by decide +kernel
theorem dX10_runsDrawn_17 : decode cX10_runsDrawn 17 = .ok (.iload_n 2, 1) := by decide +kernel
theorem dX10_runsDrawn_18 : decode cX10_runsDrawn 18 = .ok (.iaload, 1) := by decide +kernel
theorem dX10_runsDrawn_19 : decode cX10_runsDrawn 19 = .ok (.iastore, 1) := by decide +kernel
theorem dX10_runsDrawn_20 : decode cX10_runsDrawn 20 = .ok (.iinc 2 1, 3) := by decide +kernel
theorem dX10_runsDrawn_23 : decode cX10_runsDrawn 23 = .ok (.goto (-21), 3) := by decide +kernel
theorem dX10_runsDrawn_26 : decode cX10_runsDrawn 26 = .ok (.aload_n 0, 1) := by decide +kernel
theorem dX10_runsDrawn_27 : decode cX10_runsDrawn 27 = .ok (.iload_n 1, 1) := by decide +kernel
theorem dX10_runsDrawn_28 : decode cX10_runsDrawn 28 = .ok (.sipush 300, 3) := by decide +kernel
theorem dX10_runsDrawn_31 : decode cX10_runsDrawn 31 = .ok (.invokevirtual 258, 3) := by decide +kernel
theorem dX10_runsDrawn_34 : decode cX10_runsDrawn 34 = .ok (.ireturn, 1) := by decide +kernel
theorem dX10_isDifferent_0 : decode cX10_isDifferent 0 = .ok (.aload_n 0, 1) := by decide +kernel
theorem dX10_isDifferent_1 : decode cX10_isDifferent 1 = .ok (.iconst 0, 1) := by decide +kernel
theorem dX10_isDifferent_2 : decode cX10_isDifferent 2 = .ok (.invokevirtual 272, 3) := by decide +kernel
theorem dX10_isDifferent_5 : decode cX10_isDifferent 5 = .ok (.ifCond .ne 5, 3) := by decide +kernel
theorem dX10_isDifferent_8 : decode cX10_isDifferent 8 = .ok (.iconst 0, 1) := by decide +kernel
theorem dX10_isDifferent_9 : decode cX10_isDifferent 9 = .ok (.ireturn, 1) := by decide +kernel
theorem dX10_isDifferent_10 : decode cX10_isDifferent 10 = .ok (.aload_n 0, 1) := by decide +kernel
theorem dX10_isDifferent_11 : decode cX10_isDifferent 11 = .ok (.getfield 247, 3) := by decide +kernel
theorem dX10_isDifferent_14 : decode cX10_isDifferent 14 = .ok (.istore_n 1, 1) := by decide +kernel
theorem dX10_isDifferent_15 : decode cX10_isDifferent 15 = .ok (.iconst 0, 1) := by decide +kernel
theorem dX10_isDifferent_16 : decode cX10_isDifferent 16 = .ok (.istore_n 2, 1) := by decide +kernel
theorem dX10_isDifferent_17 : decode cX10_isDifferent 17 = .ok (.iload_n 2, 1) := by decide +kernel
theorem dX10_isDifferent_18 : decode cX10_isDifferent 18 = .ok (.iload_n 1, 1) := by decide +kernel
theorem dX10_isDifferent_19 : decode cX10_isDifferent 19 = .ok (.if_icmp .ge 21, 3) := by decide +kernel
theorem dX10_isDifferent_22 : decode cX10_isDifferent 22 = .ok (.aload_n 0, 1) := by decide +kernel
theorem dX10_isDifferent_23 : decode cX10_isDifferent 23 = .ok (.getfield 57, 3) := by decide +kernel
theorem dX10_isDifferent_26 : decode cX10_isDifferent 26 = .ok (.iload_n 2, 1) := by decide +kernel
theorem dX10_isDifferent_27 : decode cX10_isDifferent 27 = .ok (.aload_n 0, 1) := by decide +kernel
theorem dX10_isDifferent_28 : decode cX10_isDifferent 28 = .ok (.getfield 42, 3) := by decide +kernel
theorem dX10_isDifferent_31 : decode cX10_isDifferent 31 = .ok (.iload_n 2, 1) := by decide +kernel
theorem dX10_isDifferent_32 : decode cX10_isDifferent 32 = .ok (.iaload, 1) := by decide +kernel
theorem dX10_isDifferent_33 : decode cX10_isDifferent 33 = .ok (.iastore, 1) := by decide +kernel
theorem dX10_isDifferent_34 : decode cX10_isDifferent 34 = .ok (.iinc 2 1, 3) := by decide +kernel
theorem dX10_isDifferent_37 : decode cX10_isDifferent 37 = .ok (.goto (-20), 3) := by decide +kernel
theorem dX10_isDifferent_40 : decode cX10_isDifferent 40 = .ok (.iconst 0, 1) := by decide +kernel
theorem dX10_isDifferent_41 : decode cX10_isDifferent 41 = .ok (.istore_n 2, 1) := by decide +kernel
theorem dX10_isDifferent_42 : decode cX10_isDifferent 42 = .ok (.iload_n 2, 1) := by decide +kernel
theorem dX10_isDifferent_43 : decode cX10_isDifferent 43 = .ok (.bipush 16, 2) := by decide +kernel
theorem dX10_isDifferent_45 : decode cX10_isDifferent 45 = .ok (.if_icmp .ge 24, 3) := by decide +kernel
theorem dX10_isDifferent_48 : decode cX10_isDifferent 48 = .ok (.aload_n 0, 1) := by decide +kernel
theorem dX10_isDifferent_49 : decode cX10_isDifferent 49 = .ok (.getfield 54, 3) := by decide +kernel
theorem dX10_isDifferent_52 : decode cX10_isDifferent 52 = .ok (.iload_n 2, 1) := by decide +kernel
theorem dX10_isDifferent_53 : decode cX10_isDifferent 53 = .ok (.aload_n 0, 1) := by decide +kernel
theorem dX10_isDifferent_54 : decode cX10_isDifferent 54 = .ok (.getfield 39, 3) := by decide +kernel
theorem dX10_isDifferent_57 : decode cX10_isDifferent 57 = .ok (.bipush 8, 2) := by decide +kernel
theorem dX10_isDifferent_59 : decode cX10_isDifferent 59 = .ok (.iload_n 2, 1) := by decide +kernel
theorem dX10_isDifferent_60 : decode cX10_isDifferent 60 = .ok (.iadd, 1) := by decide +kernel
theorem dX10_isDifferent_61 : decode cX10_isDifferent 61 = .ok (.iaload, 1) := by decide +kernel
theorem dX10_isDifferent_62 : decode cX10_isDifferent 62 = .ok (.iastore, 1) := by decide +kernel
theorem dX10_isDifferent_63 : decode cX10_isDifferent 63 = .ok (.iinc 2 1, 3) := by decide +kernel
theorem dX10_isDifferent_66 : decode cX10_isDifferent 66 = .ok (.goto (-24), 3) := by decide +kernel
theorem dX10_isDifferent_69 : decode cX10_isDifferent 69 = .ok (.aload_n 0, 1) := by decide +kernel
theorem dX10_isDifferent_70 : decode cX10_isDifferent 70 = .ok (.iconst 1, 1) := by decide +kernel
theorem dX10_isDifferent_71 : decode cX10_isDifferent 71 = .ok (.invokevirtual 272, 3) := by decide +kernel
theorem dX10_isDifferent_74 : decode cX10_isDifferent 74 = .ok (.ifCond .ne 5, 3) := by decide +kernel
theorem dX10_isDifferent_77 : decode cX10_isDifferent 77 = .ok (.iconst 0, 1) := by decide +kernel
theorem dX10_isDifferent_78 : decode cX10_isDifferent 78 = .ok (.ireturn, 1) := by decide +kernel
theorem dX10_isDifferent_79 : decode cX10_isDifferent 79 = .ok (.iload_n 1, 1) := by decide +kernel
theorem dX10_isDifferent_80 : decode cX10_isDifferent 80 = .ok (.aload_n 0, 1) := by decide +kernel
theorem dX10_isDifferent_81 : decode cX10_isDifferent 81 = .ok (.getfield 247, 3) := by decide +kernel
theorem dX10_isDifferent_84 : decode cX10_isDifferent 84 = .ok (.if_icmp .eq 7, 3) := by decide +kernel
theorem dX10_isDifferent_87 : decode cX10_isDifferent 87 = .ok (.iconst 1, 1) := by decide +kernel
theorem dX10_isDifferent_88 : decode cX10_isDifferent 88 = .ok (.goto 4, 3) := by decide +kernel
theorem dX10_isDifferent_91 : decode cX10_isDifferent 91 = .ok (.iconst 0, 1) := by decide +kernel
theorem dX10_isDifferent_92 : decode cX10_isDifferent 92 = .ok (.istore_n 2, 1) := by decide +kernel
theorem dX10_isDifferent_93 : decode cX10_isDifferent 93 = .ok (.iconst 0, 1) := by decide +kernel
theorem dX10_isDifferent_94 : decode cX10_isDifferent 94 = .ok (.istore_n 3, 1) := by decide +kernel
theorem dX10_isDifferent_95 : decode cX10_isDifferent 95 = .ok (.iload_n 3, 1) := by decide +kernel
theorem dX10_isDifferent_96 : decode cX10_isDifferent 96 = .ok (.iload_n 1, 1) := by decide +kernel
theorem dX10_isDifferent_97 : decode cX10_isDifferent 97 = .ok (.if_icmp .ge 34, 3) := by decide +kernel
theorem dX10_isDifferent_100 : decode cX10_isDifferent 100 = .ok (.iload_n 2, 1) := by decide +kernel
theorem dX10_isDifferent_101 : decode cX10_isDifferent 101 = .ok (.ifCond .ne 30, 3) := by decide +kernel
theorem dX10_isDifferent_104 : decode cX10_isDifferent 104 = .ok (.aload_n 0, 1) := by decide +kernel
theorem dX10_isDifferent_105 : decode cX10_isDifferent 105 = .ok (.getfield 57, 3) := by decide +kernel
theorem dX10_isDifferent_108 : decode cX10_isDifferent 108 = .ok (.iload_n 3, 1) := by decide +kernel
theorem dX10_isDifferent_109 : decode cX10_isDifferent 109 = .ok (.iaload, 1) := by decide +kernel
theorem dX10_isDifferent_110 : decode cX10_isDifferent 110 = .ok (.aload_n 0, 1) := by decide +kernel
theorem dX10_isDifferent_111 : decode cX10_isDifferent 111 = .ok (.getfield 42, 3) := by decide +kernel
theorem dX10_isDifferent_114 : decode cX10_isDifferent 114 = .ok (.iload_n 3, 1) := by decide +kernel
theorem dX10_isDifferent_115 : decode cX10_isDifferent 115 = .ok (.iaload, 1) := by decide +kernel
theorem dX10_isDifferent_116 : decode cX10_isDifferent 116 = .ok (.if_icmp .eq 7, 3) := by decide +kernel
theorem dX10_isDifferent_119 : decode cX10_isDifferent 119 = .ok (.iconst 1, 1) := by decide +kernel
theorem dX10_isDifferent_120 : decode cX10_isDifferent 120 = .ok (.goto 4, 3) := by decide +kernel
theorem dX10_isDifferent_123 : decode cX10_isDifferent 123 = .ok (.iconst 0, 1) := by decide +kernel
theorem dX10_isDifferent_124 : decode cX10_isDifferent 124 = .ok (.istore_n 2, 1) := by decide +kernel
theorem dX10_isDifferent_125 : decode cX10_isDifferent 125 = .ok (.iinc 3 1, 3) := by decide +kernel
theorem dX10_isDifferent_128 : decode cX10_isDifferent 128 = .ok (.goto (-33), 3) := by decide +kernel
theorem dX10_isDifferent_131 : decode cX10_isDifferent 131 = .ok (.iconst 0, 1) := by decide +kernel
theorem dX10_isDifferent_132 : decode cX10_isDifferent 132 = .ok (.istore_n 3, 1) := by decide +kernel
theorem dX10_isDifferent_133 : decode cX10_isDifferent 133 = .ok (.iload_n 3, 1) := by decide +kernel
theorem dX10_isDifferent_134 : decode cX10_isDifferent 134 = .ok (.bipush 16, 2) := by decide +kernel
theorem dX10_isDifferent_136 : decode cX10_isDifferent 136 = .ok (.if_icmp .ge 37, 3) := by decide +kernel
theorem dX10_isDifferent_139 : decode cX10_isDifferent 139 = .ok (.iload_n 2, 1) := by decide +kernel
theorem dX10_isDifferent_140 : decode cX10_isDifferent 140 = .ok (.ifCond .ne 21, 3) := by decide +kernel
theorem dX10_isDifferent_143 : decode cX10_isDifferent 143 = .ok (.aload_n 0, 1) := by decide +kernel
theorem dX10_isDifferent_144 : decode cX10_isDifferent 144 = .ok (.getfield 54, 3) := by decide +kernel
theorem dX10_isDifferent_147 : decode cX10_isDifferent 147 = .ok (.iload_n 3, 1) := by decide +kernel
theorem dX10_isDifferent_148 : decode cX10_isDifferent 148 = .ok (.iaload, 1) := by decide +kernel
theorem dX10_isDifferent_149 : decode cX10_isDifferent 149 = .ok (.aload_n 0, 1) := by decide +kernel
theorem dX10_isDifferent_150 : decode cX10_isDifferent 150 = .ok (.getfield 39, 3) := by decide +kernel
theorem dX10_isDifferent_153 : decode cX10_isDifferent 153 = .ok (.bipush 8, 2) := by decide +kernel
theorem dX10_isDifferent_155 : decode cX10_isDifferent 155 = .ok (.iload_n 3, 1) := by decide +kernel
theorem dX10_isDifferent_156 : decode cX10_isDifferent 156 = .ok (.iadd, 1) := by decide +kernel
theorem dX10_isDifferent_157 : decode cX10_isDifferent 157 = .ok (.iaload, 1) := by decide +kernel
theorem dX10_isDifferent_158 : decode cX10_isDifferent 158 = .ok (.if_icmp .eq 7, 3) := by decide +kernel
theorem dX10_isDifferent_161 : decode cX10_isDifferent 161 = .ok (.iconst 1, 1) := by decide +kernel
theorem dX10_isDifferent_162 : decode cX10_isDifferent 162 = .ok (.goto 4, 3) := by decide +kernel
theorem dX10_isDifferent_165 : decode cX10_isDifferent 165 = .ok (.iconst 0, 1) := by decide +kernel
theorem dX10_isDifferent_166 : decode cX10_isDifferent 166 = .ok (.istore_n 2, 1) := by decide +kernel
theorem dX10_isDifferent_167 : decode cX10_isDifferent 167 = .ok (.iinc 3 1, 3) := by decide +kernel
theorem dX10_isDifferent_170 : decode cX10_isDifferent 170 = .ok (.goto (-37), 3) := by decide +kernel
theorem dX10_isDifferent_173 : decode cX10_isDifferent 173 = .ok (.iload_n 2, 1) := by decide +kernel
theorem dX10_isDifferent_174 : decode cX10_isDifferent 174 = .ok (.ireturn, 1) := by decide +kernel
theorem dX10_differences_0 : decode cX10_differences 0 = .ok (.aload_n 0, 1) := by decide +kernel
theorem dX10_differences_1 : decode cX10_differences 1 = .ok (.iconst 0, 1) := by decide +kernel
theorem dX10_differences_2 : decode cX10_differences 2 = .ok (.putfield 69, 3) := by decide +kernel
theorem dX10_differences_5 : decode cX10_differences 5 = .ok (.iload_n 2, 1) := by decide +kernel
theorem dX10_differences_6 : decode cX10_differences 6 = .ok (.iconst 1, 1) := by decide +kernel
theorem dX10_differences_7 : decode cX10_differences 7 = .ok (.bipush 50, 2) := by decide +kernel
theorem dX10_differences_9 : decode cX10_differences 9 = .ok (.invokestatic 73, 3) := by decide +kernel
theorem dX10_differences_12 : decode cX10_differences 12 = .ok (.ifCond .ne 9, 3) := by decide +kernel
theorem dX10_differences_15 : decode cX10_differences 15 = .ok (.aload_n 0, 1) := by decide +kernel
theorem dX10_differences_16 : decode cX10_differences 16 = .ok (.iconst 1, 1) := by decide +kernel
theorem dX10_differences_17 : decode cX10_differences 17 = .ok (.invokevirtual 92, 3) := by decide +kernel
theorem dX10_differences_20 : decode cX10_differences 20 = .ok (.ireturn, 1) := by decide +kernel
theorem dX10_differences_21 : decode cX10_differences 21 = .ok (.aload_n 0, 1) := by decide +kernel
theorem dX10_differences_22 : decode cX10_differences 22 = .ok (.iload_n 1, 1) := by decide +kernel
theorem dX10_differences_23 : decode cX10_differences 23 = .ok (.putfield 268, 3) := by decide +kernel
theorem dX10_differences_26 : decode cX10_differences 26 = .ok (.iconst 0, 1) := by decide +kernel
theorem dX10_differences_27 : decode cX10_differences 27 = .ok (.istore_n 3, 1) := by decide +kernel
theorem dX10_differences_28 : decode cX10_differences 28 = .ok (.iconst 0, 1) := by decide +kernel
theorem dX10_differences_29 : decode cX10_differences 29 = .ok (.istore 4, 2) := by decide +kernel
theorem dX10_differences_31 : decode cX10_differences 31 = .ok (.iload 4, 2) := by decide +kernel
theorem dX10_differences_33 : decode cX10_differences 33 = .ok (.iload_n 2, 1) := by decide +kernel
theorem dX10_differences_34 : decode cX10_differences 34 = .ok (.if_icmp .ge 28, 3) := by decide +kernel
theorem dX10_differences_37 : decode cX10_differences 37 = .ok (.aload_n 0, 1) := by decide +kernel
theorem dX10_differences_38 : decode cX10_differences 38 = .ok (.invokevirtual 276, 3) := by decide +kernel
theorem dX10_differences_41 : decode cX10_differences 41 = .ok (.iload_n 3, 1) := by decide +kernel
theorem dX10_differences_42 : decode cX10_differences 42 = .ok (.aload_n 0, 1) := by decide +kernel
theorem dX10_differences_43 : decode cX10_differences 43 = .ok (.invokevirtual 279, 3) := by decide +kernel
theorem dX10_differences_46 : decode cX10_differences 46 = .ok (.ifCond .eq 7, 3) := by decide +kernel
theorem dX10_differences_49 : decode cX10_differences 49 = .ok (.iconst 1, 1) := by decide +kernel
theorem dX10_differences_50 : decode cX10_differences 50 = .ok (.goto 4, 3) := by decide +kernel
theorem dX10_differences_53 : decode cX10_differences 53 = .ok (.iconst 0, 1) := by decide +kernel
theorem dX10_differences_54 : decode cX10_differences 54 = .ok (.iadd, 1) := by decide +kernel
theorem dX10_differences_55 : decode cX10_differences 55 = .ok (.istore_n 3, 1) := by decide +kernel
theorem dX10_differences_56 : decode cX10_differences 56 = .ok (.iinc 4 1, 3) := by decide +kernel
theorem dX10_differences_59 : decode cX10_differences 59 = .ok (.goto (-28), 3) := by decide +kernel
theorem dX10_differences_62 : decode cX10_differences 62 = .ok (.iload_n 3, 1) := by decide +kernel
theorem dX10_differences_63 : decode cX10_differences 63 = .ok (.ireturn, 1) := by decide +kernel
theorem dX10_meanSteps_0 : decode cX10_meanSteps 0 = .ok (.aload_n 0, 1) := by decide +kernel
theorem dX10_meanSteps_1 : decode cX10_meanSteps 1 = .ok (.iconst 0, 1) := by decide +kernel
theorem dX10_meanSteps_2 : decode cX10_meanSteps 2 = .ok (.putfield 69, 3) := by decide +kernel
theorem dX10_meanSteps_5 : decode cX10_meanSteps 5 = .ok (.iload_n 2, 1) := by decide +kernel
theorem dX10_meanSteps_6 : decode cX10_meanSteps 6 = .ok (.iconst 1, 1) := by decide +kernel
theorem dX10_meanSteps_7 : decode cX10_meanSteps 7 = .ok (.bipush 50, 2) := by decide +kernel
theorem dX10_meanSteps_9 : decode cX10_meanSteps 9 = .ok (.invokestatic 73, 3) := by decide +kernel
theorem dX10_meanSteps_12 : decode cX10_meanSteps 12 = .ok (.ifCond .ne 10, 3) := by decide +kernel
theorem dX10_meanSteps_15 : decode cX10_meanSteps 15 = .ok (.aload_n 0, 1) := by decide +kernel
theorem dX10_meanSteps_16 : decode cX10_meanSteps 16 = .ok (.iconst 1, 1) := by decide +kernel
theorem dX10_meanSteps_17 : decode cX10_meanSteps 17 = .ok (.invokevirtual 92, 3) := by decide +kernel
theorem dX10_meanSteps_20 : decode cX10_meanSteps 20 = .ok (.i2d, 1) := by decide +kernel
theorem dX10_meanSteps_21 : decode cX10_meanSteps 21 = .ok (.dreturn, 1) := by decide +kernel
theorem dX10_meanSteps_22 : decode cX10_meanSteps 22 = .ok (.aload_n 0, 1) := by decide +kernel
theorem dX10_meanSteps_23 : decode cX10_meanSteps 23 = .ok (.iload_n 1, 1) := by decide +kernel
theorem dX10_meanSteps_24 : decode cX10_meanSteps 24 = .ok (.putfield 268, 3) := by decide +kernel
theorem dX10_meanSteps_27 : decode cX10_meanSteps 27 = .ok (.iconst 0, 1) := by decide +kernel
theorem dX10_meanSteps_28 : decode cX10_meanSteps 28 = .ok (.istore_n 3, 1) := by decide +kernel
theorem dX10_meanSteps_29 : decode cX10_meanSteps 29 = .ok (.iconst 0, 1) := by decide +kernel
theorem dX10_meanSteps_30 : decode cX10_meanSteps 30 = .ok (.istore 4, 2) := by decide +kernel
theorem dX10_meanSteps_32 : decode cX10_meanSteps 32 = .ok (.iload 4, 2) := by decide +kernel
theorem dX10_meanSteps_34 : decode cX10_meanSteps 34 = .ok (.iload_n 2, 1) := by decide +kernel
theorem dX10_meanSteps_35 : decode cX10_meanSteps 35 = .ok (.if_icmp .ge 34, 3) := by decide +kernel
theorem dX10_meanSteps_38 : decode cX10_meanSteps 38 = .ok (.aload_n 0, 1) := by decide +kernel
theorem dX10_meanSteps_39 : decode cX10_meanSteps 39 = .ok (.invokevirtual 276, 3) := by decide +kernel
theorem dX10_meanSteps_42 : decode cX10_meanSteps 42 = .ok (.iload_n 3, 1) := by decide +kernel
theorem dX10_meanSteps_43 : decode cX10_meanSteps 43 = .ok (.aload_n 0, 1) := by decide +kernel
theorem dX10_meanSteps_44 : decode cX10_meanSteps 44 = .ok (.iconst 1, 1) := by decide +kernel
theorem dX10_meanSteps_45 : decode cX10_meanSteps 45 = .ok (.invokevirtual 272, 3) := by decide +kernel
theorem dX10_meanSteps_48 : decode cX10_meanSteps 48 = .ok (.ifCond .eq 10, 3) := by decide +kernel
theorem dX10_meanSteps_51 : decode cX10_meanSteps 51 = .ok (.aload_n 0, 1) := by decide +kernel
theorem dX10_meanSteps_52 : decode cX10_meanSteps 52 = .ok (.getfield 244, 3) := by decide +kernel
theorem dX10_meanSteps_55 : decode cX10_meanSteps 55 = .ok (.goto 6, 3) := by decide +kernel
theorem dX10_meanSteps_58 : decode cX10_meanSteps 58 = .ok (.sipush 300, 3) := by decide +kernel
theorem dX10_meanSteps_61 : decode cX10_meanSteps 61 = .ok (.iadd, 1) := by decide +kernel
theorem dX10_meanSteps_62 : decode cX10_meanSteps 62 = .ok (.istore_n 3, 1) := by decide +kernel
theorem dX10_meanSteps_63 : decode cX10_meanSteps 63 = .ok (.iinc 4 1, 3) := by decide +kernel
theorem dX10_meanSteps_66 : decode cX10_meanSteps 66 = .ok (.goto (-34), 3) := by decide +kernel
theorem dX10_meanSteps_69 : decode cX10_meanSteps 69 = .ok (.iload_n 3, 1) := by decide +kernel
theorem dX10_meanSteps_70 : decode cX10_meanSteps 70 = .ok (.i2d, 1) := by decide +kernel
theorem dX10_meanSteps_71 : decode cX10_meanSteps 71 = .ok (.iload_n 2, 1) := by decide +kernel
theorem dX10_meanSteps_72 : decode cX10_meanSteps 72 = .ok (.i2d, 1) := by decide +kernel
theorem dX10_meanSteps_73 : decode cX10_meanSteps 73 = .ok (.ddiv, 1) := by decide +kernel
theorem dX10_meanSteps_74 : decode cX10_meanSteps 74 = .ok (.dreturn, 1) := by decide +kernel
theorem dX10_filledShare_0 : decode cX10_filledShare 0 = .ok (.aload_n 0, 1) := by decide +kernel
theorem dX10_filledShare_1 : decode cX10_filledShare 1 = .ok (.iconst 0, 1) := by decide +kernel
theorem dX10_filledShare_2 : decode cX10_filledShare 2 = .ok (.putfield 69, 3) := by decide +kernel
theorem dX10_filledShare_5 : decode cX10_filledShare 5 = .ok (.iconst 0, 1) := by decide +kernel
theorem dX10_filledShare_6 : decode cX10_filledShare 6 = .ok (.istore_n 1, 1) := by decide +kernel
theorem dX10_filledShare_7 : decode cX10_filledShare 7 = .ok (.iconst 0, 1) := by decide +kernel
theorem dX10_filledShare_8 : decode cX10_filledShare 8 = .ok (.istore_n 2, 1) := by decide +kernel
theorem dX10_filledShare_9 : decode cX10_filledShare 9 = .ok (.iconst 0, 1) := by decide +kernel
theorem dX10_filledShare_10 : decode cX10_filledShare 10 = .ok (.istore_n 3, 1) := by decide +kernel
theorem dX10_filledShare_11 : decode cX10_filledShare 11 = .ok (.iload_n 3, 1) := by decide +kernel
theorem dX10_filledShare_12 : decode cX10_filledShare 12 = .ok (.aload_n 0, 1) := by decide +kernel
theorem dX10_filledShare_13 : decode cX10_filledShare 13 = .ok (.invokevirtual 85, 3) := by decide +kernel
theorem dX10_filledShare_16 : decode cX10_filledShare 16 = .ok (.if_icmp .ge 54, 3) := by decide +kernel
theorem dX10_filledShare_19 : decode cX10_filledShare 19 = .ok (.iload_n 1, 1) := by decide +kernel
theorem dX10_filledShare_20 : decode cX10_filledShare 20 = .ok (.aload_n 0, 1) := by decide +kernel
theorem dX10_filledShare_21 : decode cX10_filledShare 21 = .ok (.iload_n 3, 1) := by decide +kernel
theorem dX10_filledShare_22 : decode cX10_filledShare 22 = .ok (.iconst 0, 1) := by decide +kernel
theorem dX10_filledShare_23 : decode cX10_filledShare 23 = .ok (.invokevirtual 77, 3) := by decide +kernel
theorem dX10_filledShare_26 : decode cX10_filledShare 26 = .ok (.invokestatic 81, 3) := by decide +kernel
theorem dX10_filledShare_29 : decode cX10_filledShare 29 = .ok (.ifCond .eq 7, 3) := by decide +kernel
theorem dX10_filledShare_32 : decode cX10_filledShare 32 = .ok (.iconst 1, 1) := by decide +kernel
theorem dX10_filledShare_33 : decode cX10_filledShare 33 = .ok (.goto 4, 3) := by decide +kernel
theorem dX10_filledShare_36 : decode cX10_filledShare 36 = .ok (.iconst 0, 1) := by decide +kernel
theorem dX10_filledShare_37 : decode cX10_filledShare 37 = .ok (.iadd, 1) := by decide +kernel
theorem dX10_filledShare_38 : decode cX10_filledShare 38 = .ok (.istore_n 1, 1) := by decide +kernel
theorem dX10_filledShare_39 : decode cX10_filledShare 39 = .ok (.iload_n 2, 1) := by decide +kernel
theorem dX10_filledShare_40 : decode cX10_filledShare 40 = .ok (.aload_n 0, 1) := by decide +kernel
theorem dX10_filledShare_41 : decode cX10_filledShare 41 = .ok (.iload_n 3, 1) := by decide +kernel
theorem dX10_filledShare_42 : decode cX10_filledShare 42 = .ok (.invokevirtual 162, 3) := by decide +kernel
theorem dX10_filledShare_45 : decode cX10_filledShare 45 = .ok (.ifCond .eq 16, 3) := by decide +kernel
theorem dX10_filledShare_48 : decode cX10_filledShare 48 = .ok (.aload_n 0, 1) := by decide +kernel
theorem dX10_filledShare_49 : decode cX10_filledShare 49 = .ok (.iload_n 3, 1) := by decide +kernel
theorem dX10_filledShare_50 : decode cX10_filledShare 50 = .ok (.iconst 0, 1) := by decide +kernel
theorem dX10_filledShare_51 : decode cX10_filledShare 51 = .ok (.invokevirtual 77, 3) := by decide +kernel
theorem dX10_filledShare_54 : decode cX10_filledShare 54 = .ok (.ifCond .eq 7, 3) := by decide +kernel
theorem dX10_filledShare_57 : decode cX10_filledShare 57 = .ok (.iconst 1, 1) := by decide +kernel
theorem dX10_filledShare_58 : decode cX10_filledShare 58 = .ok (.goto 4, 3) := by decide +kernel
theorem dX10_filledShare_61 : decode cX10_filledShare 61 = .ok (.iconst 0, 1) := by decide +kernel
theorem dX10_filledShare_62 : decode cX10_filledShare 62 = .ok (.iadd, 1) := by decide +kernel
theorem dX10_filledShare_63 : decode cX10_filledShare 63 = .ok (.istore_n 2, 1) := by decide +kernel
theorem dX10_filledShare_64 : decode cX10_filledShare 64 = .ok (.iinc 3 1, 3) := by decide +kernel
theorem dX10_filledShare_67 : decode cX10_filledShare 67 = .ok (.goto (-56), 3) := by decide +kernel
theorem dX10_filledShare_70 : decode cX10_filledShare 70 = .ok (.iload_n 1, 1) := by decide +kernel
theorem dX10_filledShare_71 : decode cX10_filledShare 71 = .ok (.ifCond .ne 12, 3) := by decide +kernel
theorem dX10_filledShare_74 : decode cX10_filledShare 74 = .ok (.aload_n 0, 1) := by decide +kernel
theorem dX10_filledShare_75 : decode cX10_filledShare 75 = .ok (.iconst 1, 1) := by decide +kernel
theorem dX10_filledShare_76 : decode cX10_filledShare 76 = .ok (.invokevirtual 92, 3) := by decide +kernel
theorem dX10_filledShare_79 : decode cX10_filledShare 79 = .ok (.i2f, 1) := by decide +kernel
theorem dX10_filledShare_80 : decode cX10_filledShare 80 = .ok (.goto 8, 3) := by decide +kernel
theorem dX10_filledShare_83 : decode cX10_filledShare 83 = .ok (.iload_n 2, 1) := by decide +kernel
theorem dX10_filledShare_84 : decode cX10_filledShare 84 = .ok (.i2f, 1) := by decide +kernel
theorem dX10_filledShare_85 : decode cX10_filledShare 85 = .ok (.iload_n 1, 1) := by decide +kernel
theorem dX10_filledShare_86 : decode cX10_filledShare 86 = .ok (.i2f, 1) := by decide +kernel
theorem dX10_filledShare_87 : decode cX10_filledShare 87 = .ok (.fdiv, 1) := by decide +kernel
theorem dX10_filledShare_88 : decode cX10_filledShare 88 = .ok (.freturn, 1) := by decide +kernel
theorem dX10_pass_0 : decode cX10_pass 0 = .ok (.iconst 0, 1) := by decide +kernel
theorem dX10_pass_1 : decode cX10_pass 1 = .ok (.istore_n 3, 1) := by decide +kernel
theorem dX10_pass_2 : decode cX10_pass 2 = .ok (.iload_n 3, 1) := by decide +kernel
theorem dX10_pass_3 : decode cX10_pass 3 = .ok (.aload_n 1, 1) := by decide +kernel
theorem dX10_pass_4 : decode cX10_pass 4 = .ok (.arraylength, 1) := by decide +kernel
theorem dX10_pass_5 : decode cX10_pass 5 = .ok (.if_icmp .ge 15, 3) := by decide +kernel
theorem dX10_pass_8 : decode cX10_pass 8 = .ok (.aload_n 2, 1) := by decide +kernel
theorem dX10_pass_9 : decode cX10_pass 9 = .ok (.iload_n 3, 1) := by decide +kernel
theorem dX10_pass_10 : decode cX10_pass 10 = .ok (.aload_n 1, 1) := by decide +kernel
theorem dX10_pass_11 : decode cX10_pass 11 = .ok (.iload_n 3, 1) := by decide +kernel
theorem dX10_pass_12 : decode cX10_pass 12 = .ok (.iaload, 1) := by decide +kernel
theorem dX10_pass_13 : decode cX10_pass 13 = .ok (.iastore, 1) := by decide +kernel
theorem dX10_pass_14 : decode cX10_pass 14 = .ok (.iinc 3 1, 3) := by decide +kernel
theorem dX10_pass_17 : decode cX10_pass 17 = .ok (.goto (-15), 3) := by decide +kernel
theorem dX10_pass_20 : decode cX10_pass 20 = .ok (.return_, 1) := by decide +kernel
theorem dX10_save_0 : decode cX10_save 0 = .ok (.aload_n 0, 1) := by decide +kernel
theorem dX10_save_1 : decode cX10_save 1 = .ok (.iconst 0, 1) := by decide +kernel
theorem dX10_save_2 : decode cX10_save 2 = .ok (.putfield 69, 3) := by decide +kernel
theorem dX10_save_5 : decode cX10_save 5 = .ok (.aload_n 0, 1) := by decide +kernel
theorem dX10_save_6 : decode cX10_save 6 = .ok (.iconst 1, 1) := by decide +kernel
theorem dX10_save_7 : decode cX10_save 7 = .ok (.putfield 282, 3) := by decide +kernel
theorem dX10_save_10 : decode cX10_save 10 = .ok (.aload_n 0, 1) := by decide +kernel
theorem dX10_save_11 : decode cX10_save 11 = .ok (.aload_n 0, 1) := by decide +kernel
theorem dX10_save_12 : decode cX10_save 12 = .ok (.getfield 7, 3) := by decide +kernel
theorem dX10_save_15 : decode cX10_save 15 = .ok (.aload_n 0, 1) := by decide +kernel
theorem dX10_save_16 : decode cX10_save 16 = .ok (.getfield 60, 3) := by decide +kernel
theorem dX10_save_19 : decode cX10_save 19 = .ok (.invokevirtual 285, 3) := by decide +kernel
theorem dX10_save_22 : decode cX10_save 22 = .ok (.aload_n 0, 1) := by decide +kernel
theorem dX10_save_23 : decode cX10_save 23 = .ok (.aload_n 0, 1) := by decide +kernel
theorem dX10_save_24 : decode cX10_save 24 = .ok (.getfield 146, 3) := by decide +kernel
theorem dX10_save_27 : decode cX10_save 27 = .ok (.putfield 289, 3) := by decide +kernel
theorem dX10_save_30 : decode cX10_save 30 = .ok (.aload_n 0, 1) := by decide +kernel
theorem dX10_save_31 : decode cX10_save 31 = .ok (.aload_n 0, 1) := by decide +kernel
theorem dX10_save_32 : decode cX10_save 32 = .ok (.getfield 13, 3) := by decide +kernel
theorem dX10_save_35 : decode cX10_save 35 = .ok (.aload_n 0, 1) := by decide +kernel
theorem dX10_save_36 : decode cX10_save 36 = .ok (.getfield 63, 3) := by decide +kernel
theorem dX10_save_39 : decode cX10_save 39 = .ok (.invokevirtual 285, 3) := by decide +kernel
theorem dX10_save_42 : decode cX10_save 42 = .ok (.aload_n 0, 1) := by decide +kernel
theorem dX10_save_43 : decode cX10_save 43 = .ok (.aload_n 0, 1) := by decide +kernel
theorem dX10_save_44 : decode cX10_save 44 = .ok (.getfield 36, 3) := by decide +kernel
theorem dX10_save_47 : decode cX10_save 47 = .ok (.aload_n 0, 1) := by decide +kernel
theorem dX10_save_48 : decode cX10_save 48 = .ok (.getfield 66, 3) := by decide +kernel
theorem dX10_save_51 : decode cX10_save 51 = .ok (.invokevirtual 285, 3) := by decide +kernel
theorem dX10_save_54 : decode cX10_save 54 = .ok (.aload_n 0, 1) := by decide +kernel
theorem dX10_save_55 : decode cX10_save 55 = .ok (.getfield 146, 3) := by decide +kernel
theorem dX10_save_58 : decode cX10_save 58 = .ok (.ireturn, 1) := by decide +kernel
theorem dX10_restore_0 : decode cX10_restore 0 = .ok (.aload_n 0, 1) := by decide +kernel
theorem dX10_restore_1 : decode cX10_restore 1 = .ok (.iconst 0, 1) := by decide +kernel
theorem dX10_restore_2 : decode cX10_restore 2 = .ok (.putfield 69, 3) := by decide +kernel
theorem dX10_restore_5 : decode cX10_restore 5 = .ok (.aload_n 0, 1) := by decide +kernel
theorem dX10_restore_6 : decode cX10_restore 6 = .ok (.getfield 282, 3) := by decide +kernel
theorem dX10_restore_9 : decode cX10_restore 9 = .ok (.ifCond .ne 9, 3) := by decide +kernel
theorem dX10_restore_12 : decode cX10_restore 12 = .ok (.aload_n 0, 1) := by decide +kernel
theorem dX10_restore_13 : decode cX10_restore 13 = .ok (.iconst 1, 1) := by decide +kernel
theorem dX10_restore_14 : decode cX10_restore 14 = .ok (.invokevirtual 92, 3) := by decide +kernel
theorem dX10_restore_17 : decode cX10_restore 17 = .ok (.ireturn, 1) := by decide +kernel
theorem dX10_restore_18 : decode cX10_restore 18 = .ok (.aload_n 0, 1) := by decide +kernel
theorem dX10_restore_19 : decode cX10_restore 19 = .ok (.aload_n 0, 1) := by decide +kernel
theorem dX10_restore_20 : decode cX10_restore 20 = .ok (.getfield 60, 3) := by decide +kernel
theorem dX10_restore_23 : decode cX10_restore 23 = .ok (.aload_n 0, 1) := by decide +kernel
theorem dX10_restore_24 : decode cX10_restore 24 = .ok (.getfield 7, 3) := by decide +kernel
theorem dX10_restore_27 : decode cX10_restore 27 = .ok (.invokevirtual 285, 3) := by decide +kernel
theorem dX10_restore_30 : decode cX10_restore 30 = .ok (.aload_n 0, 1) := by decide +kernel
theorem dX10_restore_31 : decode cX10_restore 31 = .ok (.aload_n 0, 1) := by decide +kernel
theorem dX10_restore_32 : decode cX10_restore 32 = .ok (.getfield 289, 3) := by decide +kernel
theorem dX10_restore_35 : decode cX10_restore 35 = .ok (.putfield 146, 3) := by decide +kernel
theorem dX10_restore_38 : decode cX10_restore 38 = .ok (.aload_n 0, 1) := by decide +kernel
theorem dX10_restore_39 : decode cX10_restore 39 = .ok (.aload_n 0, 1) := by decide +kernel
theorem dX10_restore_40 : decode cX10_restore 40 = .ok (.getfield 63, 3) := by decide +kernel
theorem dX10_restore_43 : decode cX10_restore 43 = .ok (.aload_n 0, 1) := by decide +kernel
theorem dX10_restore_44 : decode cX10_restore 44 = .ok (.getfield 13, 3) := by decide +kernel
theorem dX10_restore_47 : decode cX10_restore 47 = .ok (.invokevirtual 285, 3) := by decide +kernel
theorem dX10_restore_50 : decode cX10_restore 50 = .ok (.aload_n 0, 1) := by decide +kernel
theorem dX10_restore_51 : decode cX10_restore 51 = .ok (.aload_n 0, 1) := by decide +kernel
theorem dX10_restore_52 : decode cX10_restore 52 = .ok (.getfield 66, 3) := by decide +kernel
theorem dX10_restore_55 : decode cX10_restore 55 = .ok (.aload_n 0, 1) := by decide +kernel
theorem dX10_restore_56 : decode cX10_restore 56 = .ok (.getfield 36, 3) := by decide +kernel
theorem dX10_restore_59 : decode cX10_restore 59 = .ok (.invokevirtual 285, 3) := by decide +kernel
theorem dX10_restore_62 : decode cX10_restore 62 = .ok (.aload_n 0, 1) := by decide +kernel
theorem dX10_restore_63 : decode cX10_restore 63 = .ok (.iconst 0, 1) := by decide +kernel
theorem dX10_restore_64 : decode cX10_restore 64 = .ok (.putfield 89, 3) := by decide +kernel
theorem dX10_restore_67 : decode cX10_restore 67 = .ok (.aload_n 0, 1) := by decide +kernel
theorem dX10_restore_68 : decode cX10_restore 68 = .ok (.getfield 146, 3) := by decide +kernel
theorem dX10_restore_71 : decode cX10_restore 71 = .ok (.ireturn, 1) := by decide +kernel
theorem dJx00060_init_a7421_0 : decode cJx00060_init_a7421 0 = .ok (.aload_n 0, 1) := by decide +kernel
theorem dJx00060_init_a7421_1 : decode cJx00060_init_a7421 1 = .ok (.aload_n 1, 1) := by decide +kernel
theorem dJx00060_init_a7421_2 : decode cJx00060_init_a7421 2 = .ok (.invokespecial 7, 3) := by decide +kernel
theorem dJx00060_init_a7421_5 : decode cJx00060_init_a7421 5 = .ok (.return_, 1) := by decide +kernel
theorem dJx29ce0_ordinal_8abf5_0 : decode cJx29ce0_ordinal_8abf5 0 = .ok (.aload_n 0, 1) := by decide +kernel
theorem dJx29ce0_ordinal_8abf5_1 : decode cJx29ce0_ordinal_8abf5 1 = .ok (.getfield 7, 3) := by decide +kernel
theorem dJx29ce0_ordinal_8abf5_4 : decode cJx29ce0_ordinal_8abf5 4 = .ok (.ireturn, 1) := by decide +kernel
theorem dJ9_abs_0f7a4_0 : decode cJ9_abs_0f7a4 0 = .ok (.iload_n 0, 1) := by decide +kernel
theorem dJ9_abs_0f7a4_1 : decode cJ9_abs_0f7a4 1 = .ok (.ifCond .ge 8, 3) := by decide +kernel
theorem dJ9_abs_0f7a4_4 : decode cJ9_abs_0f7a4 4 = .ok (.iload_n 0, 1) := by decide +kernel
theorem dJ9_abs_0f7a4_5 : decode cJ9_abs_0f7a4 5 = .ok (.ineg, 1) := by decide +kernel
theorem dJ9_abs_0f7a4_6 : decode cJ9_abs_0f7a4 6 = .ok (.goto 4, 3) := by decide +kernel
theorem dJ9_abs_0f7a4_9 : decode cJ9_abs_0f7a4 9 = .ok (.iload_n 0, 1) := by decide +kernel
theorem dJ9_abs_0f7a4_10 : decode cJ9_abs_0f7a4 10 = .ok (.ireturn, 1) := by decide +kernel
theorem dJ9_min_7cf53_0 : decode cJ9_min_7cf53 0 = .ok (.iload_n 0, 1) := by decide +kernel
theorem dJ9_min_7cf53_1 : decode cJ9_min_7cf53 1 = .ok (.iload_n 1, 1) := by decide +kernel
theorem dJ9_min_7cf53_2 : decode cJ9_min_7cf53 2 = .ok (.if_icmp .gt 7, 3) := by decide +kernel
theorem dJ9_min_7cf53_5 : decode cJ9_min_7cf53 5 = .ok (.iload_n 0, 1) := by decide +kernel
theorem dJ9_min_7cf53_6 : decode cJ9_min_7cf53 6 = .ok (.goto 4, 3) := by decide +kernel
theorem dJ9_min_7cf53_9 : decode cJ9_min_7cf53 9 = .ok (.iload_n 1, 1) := by decide +kernel
theorem dJ9_min_7cf53_10 : decode cJ9_min_7cf53 10 = .ok (.ireturn, 1) := by decide +kernel
theorem dJ0_length_8abf5_0 : decode cJ0_length_8abf5 0 = .ok (.aload_n 0, 1) := by decide +kernel
theorem dJ0_length_8abf5_1 : decode cJ0_length_8abf5 1 = .ok (.getfield 9, 3) := by decide +kernel
theorem dJ0_length_8abf5_4 : decode cJ0_length_8abf5 4 = .ok (.arraylength, 1) := by decide +kernel
theorem dJ0_length_8abf5_5 : decode cJ0_length_8abf5 5 = .ok (.aload_n 0, 1) := by decide +kernel
theorem dJ0_length_8abf5_6 : decode cJ0_length_8abf5 6 = .ok (.invokevirtual 335, 3) := by decide +kernel
theorem dJ0_length_8abf5_9 : decode cJ0_length_8abf5 9 = .ok (.ishr, 1) := by decide +kernel
theorem dJ0_length_8abf5_10 : decode cJ0_length_8abf5 10 = .ok (.ireturn, 1) := by decide +kernel
theorem dJ0_charAt_5068e_0 : decode cJ0_charAt_5068e 0 = .ok (.aload_n 0, 1) := by decide +kernel
theorem dJ0_charAt_5068e_1 : decode cJ0_charAt_5068e 1 = .ok (.invokevirtual 492, 3) := by decide +kernel
theorem dJ0_charAt_5068e_4 : decode cJ0_charAt_5068e 4 = .ok (.ifCond .eq 12, 3) := by decide +kernel
theorem dJ0_charAt_5068e_7 : decode cJ0_charAt_5068e 7 = .ok (.aload_n 0, 1) := by decide +kernel
theorem dJ0_charAt_5068e_8 : decode cJ0_charAt_5068e 8 = .ok (.getfield 9, 3) := by decide +kernel
theorem dJ0_charAt_5068e_11 : decode cJ0_charAt_5068e 11 = .ok (.iload_n 1, 1) := by decide +kernel
theorem dJ0_charAt_5068e_12 : decode cJ0_charAt_5068e 12 = .ok (.invokestatic 495, 3) := by decide +kernel
theorem dJ0_charAt_5068e_15 : decode cJ0_charAt_5068e 15 = .ok (.ireturn, 1) := by decide +kernel
theorem dJ0_charAt_5068e_16 : decode cJ0_charAt_5068e 16 = .ok (.aload_n 0, 1) := by decide +kernel
theorem dJ0_charAt_5068e_17 : decode cJ0_charAt_5068e 17 = .ok (.getfield 9, 3) := by decide +kernel
theorem dJ0_charAt_5068e_20 : decode cJ0_charAt_5068e 20 = .ok (.iload_n 1, 1) := by decide +kernel
theorem dJ0_charAt_5068e_21 : decode cJ0_charAt_5068e 21 = .ok (.invokestatic 498, 3) := by decide +kernel
theorem dJ0_charAt_5068e_24 : decode cJ0_charAt_5068e 24 = .ok (.ireturn, 1) := by decide +kernel
theorem dJ0_coder_7d493_0 : decode cJ0_coder_7d493 0 = .ok (.getstatic 38, 3) := by decide +kernel
theorem dJ0_coder_7d493_3 : decode cJ0_coder_7d493 3 = .ok (.ifCond .eq 10, 3) := by decide +kernel
theorem dJ0_coder_7d493_6 : decode cJ0_coder_7d493 6 = .ok (.aload_n 0, 1) := by decide +kernel
theorem dJ0_coder_7d493_7 : decode cJ0_coder_7d493 7 = .ok (.getfield 15, 3) := by decide +kernel
theorem dJ0_coder_7d493_10 : decode cJ0_coder_7d493 10 = .ok (.goto 4, 3) := by decide +kernel
theorem dJ0_coder_7d493_13 : decode cJ0_coder_7d493 13 = .ok (.iconst 1, 1) := by decide +kernel
theorem dJ0_coder_7d493_14 : decode cJ0_coder_7d493 14 = .ok (.ireturn, 1) := by decide +kernel
theorem dJ0_isLatin1_aae02_0 : decode cJ0_isLatin1_aae02 0 = .ok (.getstatic 38, 3) := by decide +kernel
theorem dJ0_isLatin1_aae02_3 : decode cJ0_isLatin1_aae02 3 = .ok (.ifCond .eq 14, 3) := by decide +kernel
theorem dJ0_isLatin1_aae02_6 : decode cJ0_isLatin1_aae02 6 = .ok (.aload_n 0, 1) := by decide +kernel
theorem dJ0_isLatin1_aae02_7 : decode cJ0_isLatin1_aae02 7 = .ok (.getfield 15, 3) := by decide +kernel
theorem dJ0_isLatin1_aae02_10 : decode cJ0_isLatin1_aae02 10 = .ok (.ifCond .ne 7, 3) := by decide +kernel
theorem dJ0_isLatin1_aae02_13 : decode cJ0_isLatin1_aae02 13 = .ok (.iconst 1, 1) := by decide +kernel
theorem dJ0_isLatin1_aae02_14 : decode cJ0_isLatin1_aae02 14 = .ok (.goto 4, 3) := by decide +kernel
theorem dJ0_isLatin1_aae02_17 : decode cJ0_isLatin1_aae02 17 = .ok (.iconst 0, 1) := by decide +kernel
theorem dJ0_isLatin1_aae02_18 : decode cJ0_isLatin1_aae02 18 = .ok (.ireturn, 1) := by decide +kernel
theorem dJ0_checkIndex_df160_0 : decode cJ0_checkIndex_df160 0 = .ok (.iload_n 0, 1) := by decide +kernel
theorem dJ0_checkIndex_df160_1 : decode cJ0_checkIndex_df160 1 = .ok (.iload_n 1, 1) := by decide +kernel
theorem dJ0_checkIndex_df160_2 : decode cJ0_checkIndex_df160 2 = .ok (.getstatic 1053, 3) := by decide +kernel
theorem dJ0_checkIndex_df160_5 : decode cJ0_checkIndex_df160 5 = .ok (.invokestatic 1059, 3) := by decide +kernel
theorem dJ0_checkIndex_df160_8 : decode cJ0_checkIndex_df160 8 = .ok (.pop, 1) := by decide +kernel
theorem dJ0_checkIndex_df160_9 : decode cJ0_checkIndex_df160 9 = .ok (.return_, 1) := by decide +kernel
theorem dJ1_charAt_3b067_0 : decode cJ1_charAt_3b067 0 = .ok (.iload_n 1, 1) := by decide +kernel
theorem dJ1_charAt_3b067_1 : decode cJ1_charAt_3b067 1 = .ok (.aload_n 0, 1) := by decide +kernel
theorem dJ1_charAt_3b067_2 : decode cJ1_charAt_3b067 2 = .ok (.arraylength, 1) := by decide +kernel
theorem dJ1_charAt_3b067_3 : decode cJ1_charAt_3b067 3 = .ok (.invokestatic 9, 3) := by decide +kernel
theorem dJ1_charAt_3b067_6 : decode cJ1_charAt_3b067 6 = .ok (.aload_n 0, 1) := by decide +kernel
theorem dJ1_charAt_3b067_7 : decode cJ1_charAt_3b067 7 = .ok (.iload_n 1, 1) := by decide +kernel
theorem dJ1_charAt_3b067_8 : decode cJ1_charAt_3b067 8 = .ok (.baload, 1) := by decide +kernel
theorem dJ1_charAt_3b067_9 : decode cJ1_charAt_3b067 9 = .ok (.sipush 255, 3) := by decide +kernel
theorem dJ1_charAt_3b067_12 : decode cJ1_charAt_3b067 12 = .ok (.iand, 1) := by decide +kernel
theorem dJ1_charAt_3b067_13 : decode cJ1_charAt_3b067 13 = .ok (.i2c, 1) := by decide +kernel
theorem dJ1_charAt_3b067_14 : decode cJ1_charAt_3b067 14 = .ok (.ireturn, 1) := by decide +kernel
theorem dJ2_getChar_3b067_0 : decode cJ2_getChar_3b067 0 = .ok (.getstatic 44, 3) := by decide +kernel
theorem dJ2_getChar_3b067_3 : decode cJ2_getChar_3b067 3 = .ok (.ifCond .ne 25, 3) := by decide +kernel
theorem dJ2_getChar_3b067_6 : decode cJ2_getChar_3b067 6 = .ok (.iload_n 1, 1) := by decide +kernel
theorem dJ2_getChar_3b067_7 : decode cJ2_getChar_3b067 7 = .ok (.ifCond .lt 11, 3) := by decide +kernel
theorem dJ2_getChar_3b067_10 : decode cJ2_getChar_3b067 10 = .ok (.iload_n 1, 1) := by decide +kernel
theorem dJ2_getChar_3b067_11 : decode cJ2_getChar_3b067 11 = .ok (.aload_n 0, 1) := by decide +kernel
theorem dJ2_getChar_3b067_12 : decode cJ2_getChar_3b067 12 = .ok (.invokestatic 48, 3) := by decide +kernel
theorem dJ2_getChar_3b067_15 : decode cJ2_getChar_3b067 15 = .ok (.if_icmp .lt 13, 3) := by decide +kernel
theorem dJ2_getChar_3b067_18 : decode cJ2_getChar_3b067 18 = .ok (.new 52, 3) := by decide +kernel
theorem dJ2_getChar_3b067_21 : decode cJ2_getChar_3b067 21 = .ok (.dup, 1) := by decide +kernel
theorem dJ2_getChar_3b067_22 : decode cJ2_getChar_3b067 22 = .ok (.ldc 54, 2) := by decide +kernel
theorem dJ2_getChar_3b067_24 : decode cJ2_getChar_3b067 24 = .ok (.invokespecial 56, 3) := by decide +kernel
theorem dJ2_getChar_3b067_27 : decode cJ2_getChar_3b067 27 = .ok (.athrow, 1) := by decide +kernel
theorem dJ2_getChar_3b067_28 : decode cJ2_getChar_3b067 28 = .ok (.iload_n 1, 1) := by decide +kernel
theorem dJ2_getChar_3b067_29 : decode cJ2_getChar_3b067 29 = .ok (.iconst 1, 1) := by decide +kernel
theorem dJ2_getChar_3b067_30 : decode cJ2_getChar_3b067 30 = .ok (.ishl, 1) := by decide +kernel
theorem dJ2_getChar_3b067_31 : decode cJ2_getChar_3b067 31 = .ok (.istore_n 1, 1) := by decide +kernel
theorem dJ2_getChar_3b067_32 : decode cJ2_getChar_3b067 32 = .ok (.aload_n 0, 1) := by decide +kernel
theorem dJ2_getChar_3b067_33 : decode cJ2_getChar_3b067 33 = .ok (.iload_n 1, 1) := by decide +kernel
theorem dJ2_getChar_3b067_34 : decode cJ2_getChar_3b067 34 = .ok (.iinc 1 1, 3) := by decide +kernel
theorem dJ2_getChar_3b067_37 : decode cJ2_getChar_3b067 37 = .ok (.baload, 1) := by decide +kernel
theorem dJ2_getChar_3b067_38 : decode cJ2_getChar_3b067 38 = .ok (.sipush 255, 3) := by decide +kernel
theorem dJ2_getChar_3b067_41 : decode cJ2_getChar_3b067 41 = .ok (.iand, 1) := by decide +kernel
theorem dJ2_getChar_3b067_42 : decode cJ2_getChar_3b067 42 = .ok (.getstatic 59, 3) := by decide +kernel
theorem dJ2_getChar_3b067_45 : decode cJ2_getChar_3b067 45 = .ok (.ishl, 1) := by decide +kernel
theorem dJ2_getChar_3b067_46 : decode cJ2_getChar_3b067 46 = .ok (.aload_n 0, 1) := by decide +kernel
theorem dJ2_getChar_3b067_47 : decode cJ2_getChar_3b067 47 = .ok (.iload_n 1, 1) := by decide +kernel
theorem dJ2_getChar_3b067_48 : decode cJ2_getChar_3b067 48 = .ok (.baload, 1) := by decide +kernel
theorem dJ2_getChar_3b067_49 : decode cJ2_getChar_3b067 49 = .ok (.sipush 255, 3) := by decide +kernel
theorem dJ2_getChar_3b067_52 : decode cJ2_getChar_3b067 52 = .ok (.iand, 1) := by decide +kernel
theorem dJ2_getChar_3b067_53 : decode cJ2_getChar_3b067 53 = .ok (.getstatic 63, 3) := by decide +kernel
theorem dJ2_getChar_3b067_56 : decode cJ2_getChar_3b067 56 = .ok (.ishl, 1) := by decide +kernel
theorem dJ2_getChar_3b067_57 : decode cJ2_getChar_3b067 57 = .ok (.ior, 1) := by decide +kernel
theorem dJ2_getChar_3b067_58 : decode cJ2_getChar_3b067 58 = .ok (.i2c, 1) := by decide +kernel
theorem dJ2_getChar_3b067_59 : decode cJ2_getChar_3b067 59 = .ok (.ireturn, 1) := by decide +kernel
theorem dJ2_length_9d52b_0 : decode cJ2_length_9d52b 0 = .ok (.aload_n 0, 1) := by decide +kernel
theorem dJ2_length_9d52b_1 : decode cJ2_length_9d52b 1 = .ok (.arraylength, 1) := by decide +kernel
theorem dJ2_length_9d52b_2 : decode cJ2_length_9d52b 2 = .ok (.iconst 1, 1) := by decide +kernel
theorem dJ2_length_9d52b_3 : decode cJ2_length_9d52b 3 = .ok (.ishr, 1) := by decide +kernel
theorem dJ2_length_9d52b_4 : decode cJ2_length_9d52b 4 = .ok (.ireturn, 1) := by decide +kernel
theorem dJ2_charAt_3b067_0 : decode cJ2_charAt_3b067 0 = .ok (.iload_n 1, 1) := by decide +kernel
theorem dJ2_charAt_3b067_1 : decode cJ2_charAt_3b067 1 = .ok (.aload_n 0, 1) := by decide +kernel
theorem dJ2_charAt_3b067_2 : decode cJ2_charAt_3b067 2 = .ok (.invokestatic 67, 3) := by decide +kernel
theorem dJ2_charAt_3b067_5 : decode cJ2_charAt_3b067 5 = .ok (.aload_n 0, 1) := by decide +kernel
theorem dJ2_charAt_3b067_6 : decode cJ2_charAt_3b067 6 = .ok (.iload_n 1, 1) := by decide +kernel
theorem dJ2_charAt_3b067_7 : decode cJ2_charAt_3b067 7 = .ok (.invokestatic 71, 3) := by decide +kernel
theorem dJ2_charAt_3b067_10 : decode cJ2_charAt_3b067 10 = .ok (.ireturn, 1) := by decide +kernel
theorem dJ2_checkIndex_2214a_0 : decode cJ2_checkIndex_2214a 0 = .ok (.iload_n 0, 1) := by decide +kernel
theorem dJ2_checkIndex_2214a_1 : decode cJ2_checkIndex_2214a 1 = .ok (.aload_n 1, 1) := by decide +kernel
theorem dJ2_checkIndex_2214a_2 : decode cJ2_checkIndex_2214a 2 = .ok (.invokestatic 48, 3) := by decide +kernel
theorem dJ2_checkIndex_2214a_5 : decode cJ2_checkIndex_2214a 5 = .ok (.invokestatic 414, 3) := by decide +kernel
theorem dJ2_checkIndex_2214a_8 : decode cJ2_checkIndex_2214a 8 = .ok (.return_, 1) := by decide +kernel
theorem dJ3_checkIndex_8e157_0 : decode cJ3_checkIndex_8e157 0 = .ok (.iload_n 0, 1) := by decide +kernel
theorem dJ3_checkIndex_8e157_1 : decode cJ3_checkIndex_8e157 1 = .ok (.ifCond .lt 8, 3) := by decide +kernel
theorem dJ3_checkIndex_8e157_4 : decode cJ3_checkIndex_8e157 4 = .ok (.iload_n 0, 1) := by decide +kernel
theorem dJ3_checkIndex_8e157_5 : decode cJ3_checkIndex_8e157 5 = .ok (.iload_n 1, 1) := by decide +kernel
theorem dJ3_checkIndex_8e157_6 : decode cJ3_checkIndex_8e157 6 = .ok (.if_icmp .lt 10, 3) := by decide +kernel
theorem dJ3_checkIndex_8e157_9 : decode cJ3_checkIndex_8e157 9 = .ok (.aload_n 2, 1) := by decide +kernel
theorem dJ3_checkIndex_8e157_10 : decode cJ3_checkIndex_8e157 10 = .ok (.iload_n 0, 1) := by decide +kernel
theorem dJ3_checkIndex_8e157_11 : decode cJ3_checkIndex_8e157 11 = .ok (.iload_n 1, 1) := by decide +kernel
theorem dJ3_checkIndex_8e157_12 : decode cJ3_checkIndex_8e157 12 = .ok (.invokestatic 95, 3) := by decide +kernel
theorem dJ3_checkIndex_8e157_15 : decode cJ3_checkIndex_8e157 15 = .ok (.athrow, 1) := by decide +kernel
theorem dJ3_checkIndex_8e157_16 : decode cJ3_checkIndex_8e157 16 = .ok (.iload_n 0, 1) := by decide +kernel
theorem dJ3_checkIndex_8e157_17 : decode cJ3_checkIndex_8e157 17 = .ok (.ireturn, 1) := by decide +kernel
theorem dL_feed_0 : decode cL_feed 0 = .ok (.aload_n 2, 1) := by decide +kernel
theorem dL_feed_1 : decode cL_feed 1 = .ok (.iconst 0, 1) := by decide +kernel
theorem dL_feed_2 : decode cL_feed 2 = .ok (.aload_n 0, 1) := by decide +kernel
theorem dL_feed_3 : decode cL_feed 3 = .ok (.iload_n 1, 1) := by decide +kernel
theorem dL_feed_4 : decode cL_feed 4 = .ok (.invokevirtual 7, 3) := by decide +kernel
theorem dL_feed_7 : decode cL_feed 7 = .ok (.i2l, 1) := by decide +kernel
theorem dL_feed_8 : decode cL_feed 8 = .ok (.lastore, 1) := by decide +kernel
theorem dL_feed_9 : decode cL_feed 9 = .ok (.goto 6, 3) := by decide +kernel
theorem dL_feed_12 : decode cL_feed 12 = .ok (.astore_n 3, 1) := by decide +kernel
theorem dL_feed_13 : decode cL_feed 13 = .ok (.iconst 1, 1) := by decide +kernel
theorem dL_feed_14 : decode cL_feed 14 = .ok (.ireturn, 1) := by decide +kernel
theorem dL_feed_15 : decode cL_feed 15 = .ok (.iconst 0, 1) := by decide +kernel
theorem dL_feed_16 : decode cL_feed 16 = .ok (.ireturn, 1) := by decide +kernel
theorem dL_parse_0 : decode cL_parse 0 = .ok (.aload_n 1, 1) := by decide +kernel
theorem dL_parse_1 : decode cL_parse 1 = .ok (.iconst 0, 1) := by decide +kernel
theorem dL_parse_2 : decode cL_parse 2 = .ok (.aload_n 0, 1) := by decide +kernel
theorem dL_parse_3 : decode cL_parse 3 = .ok (.invokevirtual 15, 3) := by decide +kernel
theorem dL_parse_6 : decode cL_parse 6 = .ok (.i2l, 1) := by decide +kernel
theorem dL_parse_7 : decode cL_parse 7 = .ok (.lastore, 1) := by decide +kernel
theorem dL_parse_8 : decode cL_parse 8 = .ok (.goto 9, 3) := by decide +kernel
theorem dL_parse_11 : decode cL_parse 11 = .ok (.astore_n 2, 1) := by decide +kernel
theorem dL_parse_12 : decode cL_parse 12 = .ok (.iconst 1, 1) := by decide +kernel
theorem dL_parse_13 : decode cL_parse 13 = .ok (.ireturn, 1) := by decide +kernel
theorem dL_parse_14 : decode cL_parse 14 = .ok (.astore_n 2, 1) := by decide +kernel
theorem dL_parse_15 : decode cL_parse 15 = .ok (.iconst 2, 1) := by decide +kernel
theorem dL_parse_16 : decode cL_parse 16 = .ok (.ireturn, 1) := by decide +kernel
theorem dL_parse_17 : decode cL_parse 17 = .ok (.iconst 0, 1) := by decide +kernel
theorem dL_parse_18 : decode cL_parse 18 = .ok (.ireturn, 1) := by decide +kernel
theorem dL_instruction_0 : decode cL_instruction 0 = .ok (.aload_n 3, 1) := by decide +kernel
theorem dL_instruction_1 : decode cL_instruction 1 = .ok (.iconst 0, 1) := by decide +kernel
theorem dL_instruction_2 : decode cL_instruction 2 = .ok (.aload_n 0, 1) := by decide +kernel
theorem dL_instruction_3 : decode cL_instruction 3 = .ok (.iload_n 1, 1) := by decide +kernel
theorem dL_instruction_4 : decode cL_instruction 4 = .ok (.iload_n 2, 1) := by decide +kernel
theorem dL_instruction_5 : decode cL_instruction 5 = .ok (.invokevirtual 21, 3) := by decide +kernel
theorem dL_instruction_8 : decode cL_instruction 8 = .ok (.i2l, 1) := by decide +kernel
theorem dL_instruction_9 : decode cL_instruction 9 = .ok (.lastore, 1) := by decide +kernel
theorem dL_instruction_10 : decode cL_instruction 10 = .ok (.goto 11, 3) := by decide +kernel
theorem dL_instruction_13 : decode cL_instruction 13 = .ok (.astore 4, 2) := by decide +kernel
theorem dL_instruction_15 : decode cL_instruction 15 = .ok (.iconst 1, 1) := by decide +kernel
theorem dL_instruction_16 : decode cL_instruction 16 = .ok (.ireturn, 1) := by decide +kernel
theorem dL_instruction_17 : decode cL_instruction 17 = .ok (.astore 4, 2) := by decide +kernel
theorem dL_instruction_19 : decode cL_instruction 19 = .ok (.iconst 2, 1) := by decide +kernel
theorem dL_instruction_20 : decode cL_instruction 20 = .ok (.ireturn, 1) := by decide +kernel
theorem dL_instruction_21 : decode cL_instruction 21 = .ok (.iconst 0, 1) := by decide +kernel
theorem dL_instruction_22 : decode cL_instruction 22 = .ok (.ireturn, 1) := by decide +kernel
theorem dL_entry_0 : decode cL_entry 0 = .ok (.aload_n 3, 1) := by decide +kernel
theorem dL_entry_1 : decode cL_entry 1 = .ok (.iconst 0, 1) := by decide +kernel
theorem dL_entry_2 : decode cL_entry 2 = .ok (.aload_n 0, 1) := by decide +kernel
theorem dL_entry_3 : decode cL_entry 3 = .ok (.iload_n 1, 1) := by decide +kernel
theorem dL_entry_4 : decode cL_entry 4 = .ok (.iload_n 2, 1) := by decide +kernel
theorem dL_entry_5 : decode cL_entry 5 = .ok (.invokevirtual 27, 3) := by decide +kernel
theorem dL_entry_8 : decode cL_entry 8 = .ok (.i2l, 1) := by decide +kernel
theorem dL_entry_9 : decode cL_entry 9 = .ok (.lastore, 1) := by decide +kernel
theorem dL_entry_10 : decode cL_entry 10 = .ok (.goto 11, 3) := by decide +kernel
theorem dL_entry_13 : decode cL_entry 13 = .ok (.astore 4, 2) := by decide +kernel
theorem dL_entry_15 : decode cL_entry 15 = .ok (.iconst 1, 1) := by decide +kernel
theorem dL_entry_16 : decode cL_entry 16 = .ok (.ireturn, 1) := by decide +kernel
theorem dL_entry_17 : decode cL_entry 17 = .ok (.astore 4, 2) := by decide +kernel
theorem dL_entry_19 : decode cL_entry 19 = .ok (.iconst 2, 1) := by decide +kernel
theorem dL_entry_20 : decode cL_entry 20 = .ok (.ireturn, 1) := by decide +kernel
theorem dL_entry_21 : decode cL_entry 21 = .ok (.iconst 0, 1) := by decide +kernel
theorem dL_entry_22 : decode cL_entry 22 = .ok (.ireturn, 1) := by decide +kernel
theorem dL_count_0 : decode cL_count 0 = .ok (.aload_n 2, 1) := by decide +kernel
theorem dL_count_1 : decode cL_count 1 = .ok (.iconst 0, 1) := by decide +kernel
theorem dL_count_2 : decode cL_count 2 = .ok (.aload_n 0, 1) := by decide +kernel
theorem dL_count_3 : decode cL_count 3 = .ok (.iload_n 1, 1) := by decide +kernel
theorem dL_count_4 : decode cL_count 4 = .ok (.invokevirtual 30, 3) := by decide +kernel
theorem dL_count_7 : decode cL_count 7 = .ok (.i2l, 1) := by decide +kernel
theorem dL_count_8 : decode cL_count 8 = .ok (.lastore, 1) := by decide +kernel
theorem dL_count_9 : decode cL_count 9 = .ok (.goto 6, 3) := by decide +kernel
theorem dL_count_12 : decode cL_count 12 = .ok (.astore_n 3, 1) := by decide +kernel
theorem dL_count_13 : decode cL_count 13 = .ok (.iconst 1, 1) := by decide +kernel
theorem dL_count_14 : decode cL_count 14 = .ok (.ireturn, 1) := by decide +kernel
theorem dL_count_15 : decode cL_count 15 = .ok (.iconst 0, 1) := by decide +kernel
theorem dL_count_16 : decode cL_count 16 = .ok (.ireturn, 1) := by decide +kernel
theorem dL_live_0 : decode cL_live 0 = .ok (.aload_n 2, 1) := by decide +kernel
theorem dL_live_1 : decode cL_live 1 = .ok (.iconst 0, 1) := by decide +kernel
theorem dL_live_2 : decode cL_live 2 = .ok (.aload_n 0, 1) := by decide +kernel
theorem dL_live_3 : decode cL_live 3 = .ok (.iload_n 1, 1) := by decide +kernel
theorem dL_live_4 : decode cL_live 4 = .ok (.invokevirtual 34, 3) := by decide +kernel
theorem dL_live_7 : decode cL_live 7 = .ok (.i2l, 1) := by decide +kernel
theorem dL_live_8 : decode cL_live 8 = .ok (.lastore, 1) := by decide +kernel
theorem dL_live_9 : decode cL_live 9 = .ok (.goto 9, 3) := by decide +kernel
theorem dL_live_12 : decode cL_live 12 = .ok (.astore_n 3, 1) := by decide +kernel
theorem dL_live_13 : decode cL_live 13 = .ok (.iconst 1, 1) := by decide +kernel
theorem dL_live_14 : decode cL_live 14 = .ok (.ireturn, 1) := by decide +kernel
theorem dL_live_15 : decode cL_live 15 = .ok (.astore_n 3, 1) := by decide +kernel
theorem dL_live_16 : decode cL_live 16 = .ok (.iconst 2, 1) := by decide +kernel
theorem dL_live_17 : decode cL_live 17 = .ok (.ireturn, 1) := by decide +kernel
theorem dL_live_18 : decode cL_live 18 = .ok (.iconst 0, 1) := by decide +kernel
theorem dL_live_19 : decode cL_live 19 = .ok (.ireturn, 1) := by decide +kernel
theorem dL_isIndependent_0 : decode cL_isIndependent 0 = .ok (.aload_n 3, 1) := by decide +kernel
theorem dL_isIndependent_1 : decode cL_isIndependent 1 = .ok (.iconst 0, 1) := by decide +kernel
theorem dL_isIndependent_2 : decode cL_isIndependent 2 = .ok (.aload_n 0, 1) := by decide +kernel
theorem dL_isIndependent_3 : decode cL_isIndependent 3 = .ok (.iload_n 1, 1) := by decide +kernel
theorem dL_isIndependent_4 : decode cL_isIndependent 4 = .ok (.iload_n 2, 1) := by decide +kernel
theorem dL_isIndependent_5 : decode cL_isIndependent 5 = .ok (.invokevirtual 37, 3) := by decide +kernel
theorem dL_isIndependent_8 : decode cL_isIndependent 8 = .ok (.ifCond .eq 7, 3) := by decide +kernel
theorem dL_isIndependent_11 : decode cL_isIndependent 11 = .ok (.lconst 1, 1) := by decide +kernel
theorem dL_isIndependent_12 : decode cL_isIndependent 12 = .ok (.goto 4, 3) := by decide +kernel
theorem dL_isIndependent_15 : decode cL_isIndependent 15 = .ok (.lconst 0, 1) := by decide +kernel
theorem dL_isIndependent_16 : decode cL_isIndependent 16 = .ok (.lastore, 1) := by decide +kernel
theorem dL_isIndependent_17 : decode cL_isIndependent 17 = .ok (.goto 7, 3) := by decide +kernel
theorem dL_isIndependent_20 : decode cL_isIndependent 20 = .ok (.astore 4, 2) := by decide +kernel
theorem dL_isIndependent_22 : decode cL_isIndependent 22 = .ok (.iconst 1, 1) := by decide +kernel
theorem dL_isIndependent_23 : decode cL_isIndependent 23 = .ok (.ireturn, 1) := by decide +kernel
theorem dL_isIndependent_24 : decode cL_isIndependent 24 = .ok (.iconst 0, 1) := by decide +kernel
theorem dL_isIndependent_25 : decode cL_isIndependent 25 = .ok (.ireturn, 1) := by decide +kernel
theorem dL_candidate_0 : decode cL_candidate 0 = .ok (.aload_n 3, 1) := by decide +kernel
theorem dL_candidate_1 : decode cL_candidate 1 = .ok (.iconst 0, 1) := by decide +kernel
theorem dL_candidate_2 : decode cL_candidate 2 = .ok (.aload_n 0, 1) := by decide +kernel
theorem dL_candidate_3 : decode cL_candidate 3 = .ok (.iload_n 1, 1) := by decide +kernel
theorem dL_candidate_4 : decode cL_candidate 4 = .ok (.iload_n 2, 1) := by decide +kernel
theorem dL_candidate_5 : decode cL_candidate 5 = .ok (.invokevirtual 41, 3) := by decide +kernel
theorem dL_candidate_8 : decode cL_candidate 8 = .ok (.i2l, 1) := by decide +kernel
theorem dL_candidate_9 : decode cL_candidate 9 = .ok (.lastore, 1) := by decide +kernel
theorem dL_candidate_10 : decode cL_candidate 10 = .ok (.goto 19, 3) := by decide +kernel
theorem dL_candidate_13 : decode cL_candidate 13 = .ok (.astore 4, 2) := by decide +kernel
theorem dL_candidate_15 : decode cL_candidate 15 = .ok (.iconst 1, 1) := by decide +kernel
theorem dL_candidate_16 : decode cL_candidate 16 = .ok (.ireturn, 1) := by decide +kernel
theorem dL_candidate_17 : decode cL_candidate 17 = .ok (.astore 4, 2) := by decide +kernel
theorem dL_candidate_19 : decode cL_candidate 19 = .ok (.iconst 2, 1) := by decide +kernel
theorem dL_candidate_20 : decode cL_candidate 20 = .ok (.ireturn, 1) := by decide +kernel
theorem dL_candidate_21 : decode cL_candidate 21 = .ok (.astore 4, 2) := by decide +kernel
theorem dL_candidate_23 : decode cL_candidate 23 = .ok (.iconst 3, 1) := by decide +kernel
theorem dL_candidate_24 : decode cL_candidate 24 = .ok (.ireturn, 1) := by decide +kernel
theorem dL_candidate_25 : decode cL_candidate 25 = .ok (.astore 4, 2) := by decide +kernel
theorem dL_candidate_27 : decode cL_candidate 27 = .ok (.iconst 4, 1) := by decide +kernel
theorem dL_candidate_28 : decode cL_candidate 28 = .ok (.ireturn, 1) := by decide +kernel
theorem dL_candidate_29 : decode cL_candidate 29 = .ok (.iconst 0, 1) := by decide +kernel
theorem dL_candidate_30 : decode cL_candidate 30 = .ok (.ireturn, 1) := by decide +kernel
theorem dL_fill_0 : decode cL_fill 0 = .ok (.aload_n 3, 1) := by decide +kernel
theorem dL_fill_1 : decode cL_fill 1 = .ok (.iconst 0, 1) := by decide +kernel
theorem dL_fill_2 : decode cL_fill 2 = .ok (.aload_n 0, 1) := by decide +kernel
theorem dL_fill_3 : decode cL_fill 3 = .ok (.iload_n 1, 1) := by decide +kernel
theorem dL_fill_4 : decode cL_fill 4 = .ok (.iload_n 2, 1) := by decide +kernel
theorem dL_fill_5 : decode cL_fill 5 = .ok (.invokevirtual 46, 3) := by decide +kernel
theorem dL_fill_8 : decode cL_fill 8 = .ok (.i2l, 1) := by decide +kernel
theorem dL_fill_9 : decode cL_fill 9 = .ok (.lastore, 1) := by decide +kernel
theorem dL_fill_10 : decode cL_fill 10 = .ok (.goto 19, 3) := by decide +kernel
theorem dL_fill_13 : decode cL_fill 13 = .ok (.astore 4, 2) := by decide +kernel
theorem dL_fill_15 : decode cL_fill 15 = .ok (.iconst 1, 1) := by decide +kernel
theorem dL_fill_16 : decode cL_fill 16 = .ok (.ireturn, 1) := by decide +kernel
theorem dL_fill_17 : decode cL_fill 17 = .ok (.astore 4, 2) := by decide +kernel
theorem dL_fill_19 : decode cL_fill 19 = .ok (.iconst 2, 1) := by decide +kernel
theorem dL_fill_20 : decode cL_fill 20 = .ok (.ireturn, 1) := by decide +kernel
theorem dL_fill_21 : decode cL_fill 21 = .ok (.astore 4, 2) := by decide +kernel
theorem dL_fill_23 : decode cL_fill 23 = .ok (.iconst 3, 1) := by decide +kernel
theorem dL_fill_24 : decode cL_fill 24 = .ok (.ireturn, 1) := by decide +kernel
theorem dL_fill_25 : decode cL_fill 25 = .ok (.astore 4, 2) := by decide +kernel
theorem dL_fill_27 : decode cL_fill 27 = .ok (.iconst 4, 1) := by decide +kernel
theorem dL_fill_28 : decode cL_fill 28 = .ok (.ireturn, 1) := by decide +kernel
theorem dL_fill_29 : decode cL_fill 29 = .ok (.iconst 0, 1) := by decide +kernel
theorem dL_fill_30 : decode cL_fill 30 = .ok (.ireturn, 1) := by decide +kernel
theorem dL_fillAll_0 : decode cL_fillAll 0 = .ok (.aload_n 3, 1) := by decide +kernel
theorem dL_fillAll_1 : decode cL_fillAll 1 = .ok (.iconst 0, 1) := by decide +kernel
theorem dL_fillAll_2 : decode cL_fillAll 2 = .ok (.aload_n 0, 1) := by decide +kernel
theorem dL_fillAll_3 : decode cL_fillAll 3 = .ok (.iload_n 1, 1) := by decide +kernel
theorem dL_fillAll_4 : decode cL_fillAll 4 = .ok (.iload_n 2, 1) := by decide +kernel
theorem dL_fillAll_5 : decode cL_fillAll 5 = .ok (.invokevirtual 49, 3) := by decide +kernel
theorem dL_fillAll_8 : decode cL_fillAll 8 = .ok (.i2l, 1) := by decide +kernel
theorem dL_fillAll_9 : decode cL_fillAll 9 = .ok (.lastore, 1) := by decide +kernel
theorem dL_fillAll_10 : decode cL_fillAll 10 = .ok (.goto 7, 3) := by decide +kernel
theorem dL_fillAll_13 : decode cL_fillAll 13 = .ok (.astore 4, 2) := by decide +kernel
theorem dL_fillAll_15 : decode cL_fillAll 15 = .ok (.iconst 1, 1) := by decide +kernel
theorem dL_fillAll_16 : decode cL_fillAll 16 = .ok (.ireturn, 1) := by decide +kernel
theorem dL_fillAll_17 : decode cL_fillAll 17 = .ok (.iconst 0, 1) := by decide +kernel
theorem dL_fillAll_18 : decode cL_fillAll 18 = .ok (.ireturn, 1) := by decide +kernel
theorem dL_undo_0 : decode cL_undo 0 = .ok (.aload_n 1, 1) := by decide +kernel
theorem dL_undo_1 : decode cL_undo 1 = .ok (.iconst 0, 1) := by decide +kernel
theorem dL_undo_2 : decode cL_undo 2 = .ok (.aload_n 0, 1) := by decide +kernel
theorem dL_undo_3 : decode cL_undo 3 = .ok (.invokevirtual 52, 3) := by decide +kernel
theorem dL_undo_6 : decode cL_undo 6 = .ok (.i2l, 1) := by decide +kernel
theorem dL_undo_7 : decode cL_undo 7 = .ok (.lastore, 1) := by decide +kernel
theorem dL_undo_8 : decode cL_undo 8 = .ok (.goto 6, 3) := by decide +kernel
theorem dL_undo_11 : decode cL_undo 11 = .ok (.astore_n 2, 1) := by decide +kernel
theorem dL_undo_12 : decode cL_undo 12 = .ok (.iconst 1, 1) := by decide +kernel
theorem dL_undo_13 : decode cL_undo 13 = .ok (.ireturn, 1) := by decide +kernel
theorem dL_undo_14 : decode cL_undo 14 = .ok (.iconst 0, 1) := by decide +kernel
theorem dL_undo_15 : decode cL_undo 15 = .ok (.ireturn, 1) := by decide +kernel
theorem dL_text_0 : decode cL_text 0 = .ok (.aload_n 2, 1) := by decide +kernel
theorem dL_text_1 : decode cL_text 1 = .ok (.iconst 0, 1) := by decide +kernel
theorem dL_text_2 : decode cL_text 2 = .ok (.aload_n 0, 1) := by decide +kernel
theorem dL_text_3 : decode cL_text 3 = .ok (.iload_n 1, 1) := by decide +kernel
theorem dL_text_4 : decode cL_text 4 = .ok (.invokevirtual 55, 3) := by decide +kernel
theorem dL_text_7 : decode cL_text 7 = .ok (.i2l, 1) := by decide +kernel
theorem dL_text_8 : decode cL_text 8 = .ok (.lastore, 1) := by decide +kernel
theorem dL_text_9 : decode cL_text 9 = .ok (.goto 6, 3) := by decide +kernel
theorem dL_text_12 : decode cL_text 12 = .ok (.astore_n 3, 1) := by decide +kernel
theorem dL_text_13 : decode cL_text 13 = .ok (.iconst 1, 1) := by decide +kernel
theorem dL_text_14 : decode cL_text 14 = .ok (.ireturn, 1) := by decide +kernel
theorem dL_text_15 : decode cL_text 15 = .ok (.iconst 0, 1) := by decide +kernel
theorem dL_text_16 : decode cL_text 16 = .ok (.ireturn, 1) := by decide +kernel
theorem dL_setInitial_0 : decode cL_setInitial 0 = .ok (.aload 4, 2) := by decide +kernel
theorem dL_setInitial_2 : decode cL_setInitial 2 = .ok (.iconst 0, 1) := by decide +kernel
theorem dL_setInitial_3 : decode cL_setInitial 3 = .ok (.aload_n 0, 1) := by decide +kernel
theorem dL_setInitial_4 : decode cL_setInitial 4 = .ok (.iload_n 1, 1) := by decide +kernel
theorem dL_setInitial_5 : decode cL_setInitial 5 = .ok (.iload_n 2, 1) := by decide +kernel
theorem dL_setInitial_6 : decode cL_setInitial 6 = .ok (.iload_n 3, 1) := by decide +kernel
theorem dL_setInitial_7 : decode cL_setInitial 7 = .ok (.invokevirtual 59, 3) := by decide +kernel
theorem dL_setInitial_10 : decode cL_setInitial 10 = .ok (.i2l, 1) := by decide +kernel
theorem dL_setInitial_11 : decode cL_setInitial 11 = .ok (.lastore, 1) := by decide +kernel
theorem dL_setInitial_12 : decode cL_setInitial 12 = .ok (.goto 7, 3) := by decide +kernel
theorem dL_setInitial_15 : decode cL_setInitial 15 = .ok (.astore 5, 2) := by decide +kernel
theorem dL_setInitial_17 : decode cL_setInitial 17 = .ok (.iconst 1, 1) := by decide +kernel
theorem dL_setInitial_18 : decode cL_setInitial 18 = .ok (.ireturn, 1) := by decide +kernel
theorem dL_setInitial_19 : decode cL_setInitial 19 = .ok (.iconst 0, 1) := by decide +kernel
theorem dL_setInitial_20 : decode cL_setInitial 20 = .ok (.ireturn, 1) := by decide +kernel
theorem dL_run_0 : decode cL_run 0 = .ok (.aload_n 3, 1) := by decide +kernel
theorem dL_run_1 : decode cL_run 1 = .ok (.iconst 0, 1) := by decide +kernel
theorem dL_run_2 : decode cL_run 2 = .ok (.aload_n 0, 1) := by decide +kernel
theorem dL_run_3 : decode cL_run 3 = .ok (.iload_n 1, 1) := by decide +kernel
theorem dL_run_4 : decode cL_run 4 = .ok (.iload_n 2, 1) := by decide +kernel
theorem dL_run_5 : decode cL_run 5 = .ok (.invokevirtual 63, 3) := by decide +kernel
theorem dL_run_8 : decode cL_run 8 = .ok (.i2l, 1) := by decide +kernel
theorem dL_run_9 : decode cL_run 9 = .ok (.lastore, 1) := by decide +kernel
theorem dL_run_10 : decode cL_run 10 = .ok (.goto 11, 3) := by decide +kernel
theorem dL_run_13 : decode cL_run 13 = .ok (.astore 4, 2) := by decide +kernel
theorem dL_run_15 : decode cL_run 15 = .ok (.iconst 1, 1) := by decide +kernel
theorem dL_run_16 : decode cL_run 16 = .ok (.ireturn, 1) := by decide +kernel
theorem dL_run_17 : decode cL_run 17 = .ok (.astore 4, 2) := by decide +kernel
theorem dL_run_19 : decode cL_run 19 = .ok (.iconst 2, 1) := by decide +kernel
theorem dL_run_20 : decode cL_run 20 = .ok (.ireturn, 1) := by decide +kernel
theorem dL_run_21 : decode cL_run 21 = .ok (.iconst 0, 1) := by decide +kernel
theorem dL_run_22 : decode cL_run 22 = .ok (.ireturn, 1) := by decide +kernel
theorem dL_finalValue_0 : decode cL_finalValue 0 = .ok (.aload_n 3, 1) := by decide +kernel
theorem dL_finalValue_1 : decode cL_finalValue 1 = .ok (.iconst 0, 1) := by decide +kernel
theorem dL_finalValue_2 : decode cL_finalValue 2 = .ok (.aload_n 0, 1) := by decide +kernel
theorem dL_finalValue_3 : decode cL_finalValue 3 = .ok (.iload_n 1, 1) := by decide +kernel
theorem dL_finalValue_4 : decode cL_finalValue 4 = .ok (.iload_n 2, 1) := by decide +kernel
theorem dL_finalValue_5 : decode cL_finalValue 5 = .ok (.invokevirtual 69, 3) := by decide +kernel
theorem dL_finalValue_8 : decode cL_finalValue 8 = .ok (.i2l, 1) := by decide +kernel
theorem dL_finalValue_9 : decode cL_finalValue 9 = .ok (.lastore, 1) := by decide +kernel
theorem dL_finalValue_10 : decode cL_finalValue 10 = .ok (.goto 11, 3) := by decide +kernel
theorem dL_finalValue_13 : decode cL_finalValue 13 = .ok (.astore 4, 2) := by decide +kernel
theorem dL_finalValue_15 : decode cL_finalValue 15 = .ok (.iconst 1, 1) := by decide +kernel
theorem dL_finalValue_16 : decode cL_finalValue 16 = .ok (.ireturn, 1) := by decide +kernel
theorem dL_finalValue_17 : decode cL_finalValue 17 = .ok (.astore 4, 2) := by decide +kernel
theorem dL_finalValue_19 : decode cL_finalValue 19 = .ok (.iconst 2, 1) := by decide +kernel
theorem dL_finalValue_20 : decode cL_finalValue 20 = .ok (.ireturn, 1) := by decide +kernel
theorem dL_finalValue_21 : decode cL_finalValue 21 = .ok (.iconst 0, 1) := by decide +kernel
theorem dL_finalValue_22 : decode cL_finalValue 22 = .ok (.ireturn, 1) := by decide +kernel
theorem dL_outputs_0 : decode cL_outputs 0 = .ok (.aload_n 1, 1) := by decide +kernel
theorem dL_outputs_1 : decode cL_outputs 1 = .ok (.iconst 0, 1) := by decide +kernel
theorem dL_outputs_2 : decode cL_outputs 2 = .ok (.aload_n 0, 1) := by decide +kernel
theorem dL_outputs_3 : decode cL_outputs 3 = .ok (.invokevirtual 72, 3) := by decide +kernel
theorem dL_outputs_6 : decode cL_outputs 6 = .ok (.i2l, 1) := by decide +kernel
theorem dL_outputs_7 : decode cL_outputs 7 = .ok (.lastore, 1) := by decide +kernel
theorem dL_outputs_8 : decode cL_outputs 8 = .ok (.goto 6, 3) := by decide +kernel
theorem dL_outputs_11 : decode cL_outputs 11 = .ok (.astore_n 2, 1) := by decide +kernel
theorem dL_outputs_12 : decode cL_outputs 12 = .ok (.iconst 1, 1) := by decide +kernel
theorem dL_outputs_13 : decode cL_outputs 13 = .ok (.ireturn, 1) := by decide +kernel
theorem dL_outputs_14 : decode cL_outputs 14 = .ok (.iconst 0, 1) := by decide +kernel
theorem dL_outputs_15 : decode cL_outputs 15 = .ok (.ireturn, 1) := by decide +kernel
theorem dL_output_0 : decode cL_output 0 = .ok (.aload_n 2, 1) := by decide +kernel
theorem dL_output_1 : decode cL_output 1 = .ok (.iconst 0, 1) := by decide +kernel
theorem dL_output_2 : decode cL_output 2 = .ok (.aload_n 0, 1) := by decide +kernel
theorem dL_output_3 : decode cL_output 3 = .ok (.iload_n 1, 1) := by decide +kernel
theorem dL_output_4 : decode cL_output 4 = .ok (.invokevirtual 75, 3) := by decide +kernel
theorem dL_output_7 : decode cL_output 7 = .ok (.i2l, 1) := by decide +kernel
theorem dL_output_8 : decode cL_output 8 = .ok (.lastore, 1) := by decide +kernel
theorem dL_output_9 : decode cL_output 9 = .ok (.goto 9, 3) := by decide +kernel
theorem dL_output_12 : decode cL_output 12 = .ok (.astore_n 3, 1) := by decide +kernel
theorem dL_output_13 : decode cL_output 13 = .ok (.iconst 1, 1) := by decide +kernel
theorem dL_output_14 : decode cL_output 14 = .ok (.ireturn, 1) := by decide +kernel
theorem dL_output_15 : decode cL_output 15 = .ok (.astore_n 3, 1) := by decide +kernel
theorem dL_output_16 : decode cL_output 16 = .ok (.iconst 2, 1) := by decide +kernel
theorem dL_output_17 : decode cL_output 17 = .ok (.ireturn, 1) := by decide +kernel
theorem dL_output_18 : decode cL_output 18 = .ok (.iconst 0, 1) := by decide +kernel
theorem dL_output_19 : decode cL_output 19 = .ok (.ireturn, 1) := by decide +kernel
theorem dL_differences_0 : decode cL_differences 0 = .ok (.aload_n 3, 1) := by decide +kernel
theorem dL_differences_1 : decode cL_differences 1 = .ok (.iconst 0, 1) := by decide +kernel
theorem dL_differences_2 : decode cL_differences 2 = .ok (.aload_n 0, 1) := by decide +kernel
theorem dL_differences_3 : decode cL_differences 3 = .ok (.iload_n 1, 1) := by decide +kernel
theorem dL_differences_4 : decode cL_differences 4 = .ok (.iload_n 2, 1) := by decide +kernel
theorem dL_differences_5 : decode cL_differences 5 = .ok (.invokevirtual 78, 3) := by decide +kernel
theorem dL_differences_8 : decode cL_differences 8 = .ok (.i2l, 1) := by decide +kernel
theorem dL_differences_9 : decode cL_differences 9 = .ok (.lastore, 1) := by decide +kernel
theorem dL_differences_10 : decode cL_differences 10 = .ok (.goto 7, 3) := by decide +kernel
theorem dL_differences_13 : decode cL_differences 13 = .ok (.astore 4, 2) := by decide +kernel
theorem dL_differences_15 : decode cL_differences 15 = .ok (.iconst 1, 1) := by decide +kernel
theorem dL_differences_16 : decode cL_differences 16 = .ok (.ireturn, 1) := by decide +kernel
theorem dL_differences_17 : decode cL_differences 17 = .ok (.iconst 0, 1) := by decide +kernel
theorem dL_differences_18 : decode cL_differences 18 = .ok (.ireturn, 1) := by decide +kernel
theorem dL_meanSteps_0 : decode cL_meanSteps 0 = .ok (.aload_n 3, 1) := by decide +kernel
theorem dL_meanSteps_1 : decode cL_meanSteps 1 = .ok (.iconst 0, 1) := by decide +kernel
theorem dL_meanSteps_2 : decode cL_meanSteps 2 = .ok (.aload_n 0, 1) := by decide +kernel
theorem dL_meanSteps_3 : decode cL_meanSteps 3 = .ok (.iload_n 1, 1) := by decide +kernel
theorem dL_meanSteps_4 : decode cL_meanSteps 4 = .ok (.iload_n 2, 1) := by decide +kernel
theorem dL_meanSteps_5 : decode cL_meanSteps 5 = .ok (.invokevirtual 81, 3) := by decide +kernel
theorem dL_meanSteps_8 : decode cL_meanSteps 8 = .ok (.dastore, 1) := by decide +kernel
theorem dL_meanSteps_9 : decode cL_meanSteps 9 = .ok (.goto 7, 3) := by decide +kernel
theorem dL_meanSteps_12 : decode cL_meanSteps 12 = .ok (.astore 4, 2) := by decide +kernel
theorem dL_meanSteps_14 : decode cL_meanSteps 14 = .ok (.iconst 1, 1) := by decide +kernel
theorem dL_meanSteps_15 : decode cL_meanSteps 15 = .ok (.ireturn, 1) := by decide +kernel
theorem dL_meanSteps_16 : decode cL_meanSteps 16 = .ok (.iconst 0, 1) := by decide +kernel
theorem dL_meanSteps_17 : decode cL_meanSteps 17 = .ok (.ireturn, 1) := by decide +kernel
theorem dL_filledShare_0 : decode cL_filledShare 0 = .ok (.aload_n 1, 1) := by decide +kernel
theorem dL_filledShare_1 : decode cL_filledShare 1 = .ok (.iconst 0, 1) := by decide +kernel
theorem dL_filledShare_2 : decode cL_filledShare 2 = .ok (.aload_n 0, 1) := by decide +kernel
theorem dL_filledShare_3 : decode cL_filledShare 3 = .ok (.invokevirtual 85, 3) := by decide +kernel
theorem dL_filledShare_6 : decode cL_filledShare 6 = .ok (.f2d, 1) := by decide +kernel
theorem dL_filledShare_7 : decode cL_filledShare 7 = .ok (.dastore, 1) := by decide +kernel
theorem dL_filledShare_8 : decode cL_filledShare 8 = .ok (.goto 6, 3) := by decide +kernel
theorem dL_filledShare_11 : decode cL_filledShare 11 = .ok (.astore_n 2, 1) := by decide +kernel
theorem dL_filledShare_12 : decode cL_filledShare 12 = .ok (.iconst 1, 1) := by decide +kernel
theorem dL_filledShare_13 : decode cL_filledShare 13 = .ok (.ireturn, 1) := by decide +kernel
theorem dL_filledShare_14 : decode cL_filledShare 14 = .ok (.iconst 0, 1) := by decide +kernel
theorem dL_filledShare_15 : decode cL_filledShare 15 = .ok (.ireturn, 1) := by decide +kernel
theorem dL_restore_0 : decode cL_restore 0 = .ok (.aload_n 1, 1) := by decide +kernel
theorem dL_restore_1 : decode cL_restore 1 = .ok (.iconst 0, 1) := by decide +kernel
theorem dL_restore_2 : decode cL_restore 2 = .ok (.aload_n 0, 1) := by decide +kernel
theorem dL_restore_3 : decode cL_restore 3 = .ok (.invokevirtual 91, 3) := by decide +kernel
theorem dL_restore_6 : decode cL_restore 6 = .ok (.i2l, 1) := by decide +kernel
theorem dL_restore_7 : decode cL_restore 7 = .ok (.lastore, 1) := by decide +kernel
theorem dL_restore_8 : decode cL_restore 8 = .ok (.goto 6, 3) := by decide +kernel
theorem dL_restore_11 : decode cL_restore 11 = .ok (.astore_n 2, 1) := by decide +kernel
theorem dL_restore_12 : decode cL_restore 12 = .ok (.iconst 1, 1) := by decide +kernel
theorem dL_restore_13 : decode cL_restore 13 = .ok (.ireturn, 1) := by decide +kernel
theorem dL_restore_14 : decode cL_restore 14 = .ok (.iconst 0, 1) := by decide +kernel
theorem dL_restore_15 : decode cL_restore 15 = .ok (.ireturn, 1) := by decide +kernel
theorem dL_law_0 : decode cL_law 0 = .ok (.new 8, 3) := by decide +kernel
theorem dL_law_3 : decode cL_law 3 = .ok (.dup, 1) := by decide +kernel
theorem dL_law_4 : decode cL_law 4 = .ok (.invokespecial 94, 3) := by decide +kernel
theorem dL_law_7 : decode cL_law 7 = .ok (.astore_n 1, 1) := by decide +kernel
theorem dL_law_8 : decode cL_law 8 = .ok (.new 95, 3) := by decide +kernel
theorem dL_law_11 : decode cL_law 11 = .ok (.dup, 1) := by decide +kernel
theorem dL_law_12 : decode cL_law 12 = .ok (.invokespecial 97, 3) := by decide +kernel
theorem dL_law_15 : decode cL_law 15 = .ok (.astore_n 2, 1) := by decide +kernel
theorem dL_law_16 : decode cL_law 16 = .ok (.iconst 1, 1) := by decide +kernel
theorem dL_law_17 : decode cL_law 17 = .ok (.newarray .long, 2) := by decide +kernel
theorem dL_law_19 : decode cL_law 19 = .ok (.astore_n 3, 1) := by decide +kernel
theorem dL_law_20 : decode cL_law 20 = .ok (.iconst 1, 1) := by decide +kernel
theorem dL_law_21 : decode cL_law 21 = .ok (.newarray .double, 2) := by decide +kernel
theorem dL_law_23 : decode cL_law 23 = .ok (.astore 4, 2) := by decide +kernel
theorem dL_law_25 : decode cL_law 25 = .ok (.iconst 0, 1) := by decide +kernel
theorem dL_law_26 : decode cL_law 26 = .ok (.istore 5, 2) := by decide +kernel
theorem dL_law_28 : decode cL_law 28 = .ok (.iload 5, 2) := by decide +kernel
theorem dL_law_30 : decode cL_law 30 = .ok (.aload_n 0, 1) := by decide +kernel
theorem dL_law_31 : decode cL_law 31 = .ok (.arraylength, 1) := by decide +kernel
theorem dL_law_32 : decode cL_law 32 = .ok (.iconst 4, 1) := by decide +kernel
theorem dL_law_33 : decode cL_law 33 = .ok (.isub, 1) := by decide +kernel
theorem dL_law_34 : decode cL_law 34 = .ok (.if_icmp .gt 1578, 3) := by decide +kernel
theorem dL_law_37 : decode cL_law 37 = .ok (.aload_n 0, 1) := by decide +kernel
theorem dL_law_38 : decode cL_law 38 = .ok (.iload 5, 2) := by decide +kernel
theorem dL_law_40 : decode cL_law 40 = .ok (.iaload, 1) := by decide +kernel
theorem dL_law_41 : decode cL_law 41 = .ok (.bipush 31, 2) := by decide +kernel
theorem dL_law_43 : decode cL_law 43 = .ok (.iand, 1) := by decide +kernel
theorem dL_law_44 : decode cL_law 44 = .ok (.tableswitch 1562 0 26 #[124, 182, 226, 239, 252, 320, 333, 346, 414, 470, 526, 601, 669, 737, 805, 849, 862, 918, 1014, 1098, 1182, 1226, 1282, 1350, 1439, 1505, 1518], 124) := by decide +kernel
theorem dL_law_168 : decode cL_law 168 = .ok (.aload_n 1, 1) := by decide +kernel
theorem dL_law_169 : decode cL_law 169 = .ok (.aload_n 0, 1) := by decide +kernel
theorem dL_law_170 : decode cL_law 170 = .ok (.iload 5, 2) := by decide +kernel
theorem dL_law_172 : decode cL_law 172 = .ok (.iconst 1, 1) := by decide +kernel
theorem dL_law_173 : decode cL_law 173 = .ok (.iadd, 1) := by decide +kernel
theorem dL_law_174 : decode cL_law 174 = .ok (.iaload, 1) := by decide +kernel
theorem dL_law_175 : decode cL_law 175 = .ok (.i2c, 1) := by decide +kernel
theorem dL_law_176 : decode cL_law 176 = .ok (.aload_n 3, 1) := by decide +kernel
theorem dL_law_177 : decode cL_law 177 = .ok (.invokestatic 98, 3) := by decide +kernel
theorem dL_law_180 : decode cL_law 180 = .ok (.istore 6, 2) := by decide +kernel
theorem dL_law_182 : decode cL_law 182 = .ok (.aload_n 2, 1) := by decide +kernel
theorem dL_law_183 : decode cL_law 183 = .ok (.aload_n 0, 1) := by decide +kernel
theorem dL_law_184 : decode cL_law 184 = .ok (.iload 5, 2) := by decide +kernel
theorem dL_law_186 : decode cL_law 186 = .ok (.iconst 1, 1) := by decide +kernel
theorem dL_law_187 : decode cL_law 187 = .ok (.iadd, 1) := by decide +kernel
theorem dL_law_188 : decode cL_law 188 = .ok (.iaload, 1) := by decide +kernel
theorem dL_law_189 : decode cL_law 189 = .ok (.i2c, 1) := by decide +kernel
theorem dL_law_190 : decode cL_law 190 = .ok (.invokevirtual 103, 3) := by decide +kernel
theorem dL_law_193 : decode cL_law 193 = .ok (.istore 7, 2) := by decide +kernel
theorem dL_law_195 : decode cL_law 195 = .ok (.aload_n 2, 1) := by decide +kernel
theorem dL_law_196 : decode cL_law 196 = .ok (.invokevirtual 104, 3) := by decide +kernel
theorem dL_law_199 : decode cL_law 199 = .ok (.iload 6, 2) := by decide +kernel
theorem dL_law_201 : decode cL_law 201 = .ok (.if_icmp .eq 5, 3) := by decide +kernel
theorem dL_law_204 : decode cL_law 204 = .ok (.iconst 0, 1) := by decide +kernel
theorem dL_law_205 : decode cL_law 205 = .ok (.ireturn, 1) := by decide +kernel
theorem dL_law_206 : decode cL_law 206 = .ok (.iload 6, 2) := by decide +kernel
theorem dL_law_208 : decode cL_law 208 = .ok (.ifCond .ne 15, 3) := by decide +kernel
theorem dL_law_211 : decode cL_law 211 = .ok (.aload_n 3, 1) := by decide +kernel
theorem dL_law_212 : decode cL_law 212 = .ok (.iconst 0, 1) := by decide +kernel
theorem dL_law_213 : decode cL_law 213 = .ok (.laload, 1) := by decide +kernel
theorem dL_law_214 : decode cL_law 214 = .ok (.iload 7, 2) := by decide +kernel
theorem dL_law_216 : decode cL_law 216 = .ok (.i2l, 1) := by decide +kernel
theorem dL_law_217 : decode cL_law 217 = .ok (.lcmp, 1) := by decide +kernel
theorem dL_law_218 : decode cL_law 218 = .ok (.ifCond .eq 5, 3) := by decide +kernel
theorem dL_law_221 : decode cL_law 221 = .ok (.iconst 0, 1) := by decide +kernel
theorem dL_law_222 : decode cL_law 222 = .ok (.ireturn, 1) := by decide +kernel
theorem dL_law_223 : decode cL_law 223 = .ok (.goto 1383, 3) := by decide +kernel
theorem dL_law_226 : decode cL_law 226 = .ok (.aload_n 1, 1) := by decide +kernel
theorem dL_law_227 : decode cL_law 227 = .ok (.aload_n 3, 1) := by decide +kernel
theorem dL_law_228 : decode cL_law 228 = .ok (.invokestatic 107, 3) := by decide +kernel
theorem dL_law_231 : decode cL_law 231 = .ok (.istore 6, 2) := by decide +kernel
theorem dL_law_233 : decode cL_law 233 = .ok (.aload_n 2, 1) := by decide +kernel
theorem dL_law_234 : decode cL_law 234 = .ok (.invokevirtual 110, 3) := by decide +kernel
theorem dL_law_237 : decode cL_law 237 = .ok (.istore 7, 2) := by decide +kernel
theorem dL_law_239 : decode cL_law 239 = .ok (.aload_n 2, 1) := by decide +kernel
theorem dL_law_240 : decode cL_law 240 = .ok (.invokevirtual 104, 3) := by decide +kernel
theorem dL_law_243 : decode cL_law 243 = .ok (.iload 6, 2) := by decide +kernel
theorem dL_law_245 : decode cL_law 245 = .ok (.if_icmp .eq 5, 3) := by decide +kernel
theorem dL_law_248 : decode cL_law 248 = .ok (.iconst 0, 1) := by decide +kernel
theorem dL_law_249 : decode cL_law 249 = .ok (.ireturn, 1) := by decide +kernel
theorem dL_law_250 : decode cL_law 250 = .ok (.iload 6, 2) := by decide +kernel
theorem dL_law_252 : decode cL_law 252 = .ok (.ifCond .ne 15, 3) := by decide +kernel
theorem dL_law_255 : decode cL_law 255 = .ok (.aload_n 3, 1) := by decide +kernel
theorem dL_law_256 : decode cL_law 256 = .ok (.iconst 0, 1) := by decide +kernel
theorem dL_law_257 : decode cL_law 257 = .ok (.laload, 1) := by decide +kernel
theorem dL_law_258 : decode cL_law 258 = .ok (.iload 7, 2) := by decide +kernel
theorem dL_law_260 : decode cL_law 260 = .ok (.i2l, 1) := by decide +kernel
theorem dL_law_261 : decode cL_law 261 = .ok (.lcmp, 1) := by decide +kernel
theorem dL_law_262 : decode cL_law 262 = .ok (.ifCond .eq 5, 3) := by decide +kernel
theorem dL_law_265 : decode cL_law 265 = .ok (.iconst 0, 1) := by decide +kernel
theorem dL_law_266 : decode cL_law 266 = .ok (.ireturn, 1) := by decide +kernel
theorem dL_law_267 : decode cL_law 267 = .ok (.goto 1339, 3) := by decide +kernel
theorem dL_law_270 : decode cL_law 270 = .ok (.aload_n 1, 1) := by decide +kernel
theorem dL_law_271 : decode cL_law 271 = .ok (.invokevirtual 111, 3) := by decide +kernel
theorem dL_law_274 : decode cL_law 274 = .ok (.aload_n 2, 1) := by decide +kernel
theorem dL_law_275 : decode cL_law 275 = .ok (.invokevirtual 114, 3) := by decide +kernel
theorem dL_law_278 : decode cL_law 278 = .ok (.if_icmp .eq 1328, 3) := by decide +kernel
theorem dL_law_281 : decode cL_law 281 = .ok (.iconst 0, 1) := by decide +kernel
theorem dL_law_282 : decode cL_law 282 = .ok (.ireturn, 1) := by decide +kernel
theorem dL_law_283 : decode cL_law 283 = .ok (.aload_n 1, 1) := by decide +kernel
theorem dL_law_284 : decode cL_law 284 = .ok (.invokevirtual 115, 3) := by decide +kernel
theorem dL_law_287 : decode cL_law 287 = .ok (.aload_n 2, 1) := by decide +kernel
theorem dL_law_288 : decode cL_law 288 = .ok (.invokevirtual 118, 3) := by decide +kernel
theorem dL_law_291 : decode cL_law 291 = .ok (.if_icmp .eq 1315, 3) := by decide +kernel
theorem dL_law_294 : decode cL_law 294 = .ok (.iconst 0, 1) := by decide +kernel
theorem dL_law_295 : decode cL_law 295 = .ok (.ireturn, 1) := by decide +kernel
theorem dL_law_296 : decode cL_law 296 = .ok (.aload_n 1, 1) := by decide +kernel
theorem dL_law_297 : decode cL_law 297 = .ok (.aload_n 0, 1) := by decide +kernel
theorem dL_law_298 : decode cL_law 298 = .ok (.iload 5, 2) := by decide +kernel
theorem dL_law_300 : decode cL_law 300 = .ok (.iconst 1, 1) := by decide +kernel
theorem dL_law_301 : decode cL_law 301 = .ok (.iadd, 1) := by decide +kernel
theorem dL_law_302 : decode cL_law 302 = .ok (.iaload, 1) := by decide +kernel
theorem dL_law_303 : decode cL_law 303 = .ok (.aload_n 0, 1) := by decide +kernel
theorem dL_law_304 : decode cL_law 304 = .ok (.iload 5, 2) := by decide +kernel
theorem dL_law_306 : decode cL_law 306 = .ok (.iconst 2, 1) := by decide +kernel
theorem dL_law_307 : decode cL_law 307 = .ok (.iadd, 1) := by decide +kernel
theorem dL_law_308 : decode cL_law 308 = .ok (.iaload, 1) := by decide +kernel
theorem dL_law_309 : decode cL_law 309 = .ok (.aload_n 3, 1) := by decide +kernel
theorem dL_law_310 : decode cL_law 310 = .ok (.invokestatic 119, 3) := by decide +kernel
theorem dL_law_313 : decode cL_law 313 = .ok (.istore 6, 2) := by decide +kernel
theorem dL_law_315 : decode cL_law 315 = .ok (.aload_n 2, 1) := by decide +kernel
theorem dL_law_316 : decode cL_law 316 = .ok (.aload_n 0, 1) := by decide +kernel
theorem dL_law_317 : decode cL_law 317 = .ok (.iload 5, 2) := by decide +kernel
theorem dL_law_319 : decode cL_law 319 = .ok (.iconst 1, 1) := by decide +kernel
theorem dL_law_320 : decode cL_law 320 = .ok (.iadd, 1) := by decide +kernel
theorem dL_law_321 : decode cL_law 321 = .ok (.iaload, 1) := by decide +kernel
theorem dL_law_322 : decode cL_law 322 = .ok (.aload_n 0, 1) := by decide +kernel
theorem dL_law_323 : decode cL_law 323 = .ok (.iload 5, 2) := by decide +kernel
theorem dL_law_325 : decode cL_law 325 = .ok (.iconst 2, 1) := by decide +kernel
theorem dL_law_326 : decode cL_law 326 = .ok (.iadd, 1) := by decide +kernel
theorem dL_law_327 : decode cL_law 327 = .ok (.iaload, 1) := by decide +kernel
theorem dL_law_328 : decode cL_law 328 = .ok (.invokevirtual 122, 3) := by decide +kernel
theorem dL_law_331 : decode cL_law 331 = .ok (.istore 7, 2) := by decide +kernel
theorem dL_law_333 : decode cL_law 333 = .ok (.aload_n 2, 1) := by decide +kernel
theorem dL_law_334 : decode cL_law 334 = .ok (.invokevirtual 104, 3) := by decide +kernel
theorem dL_law_337 : decode cL_law 337 = .ok (.iload 6, 2) := by decide +kernel
theorem dL_law_339 : decode cL_law 339 = .ok (.if_icmp .eq 5, 3) := by decide +kernel
theorem dL_law_342 : decode cL_law 342 = .ok (.iconst 0, 1) := by decide +kernel
theorem dL_law_343 : decode cL_law 343 = .ok (.ireturn, 1) := by decide +kernel
theorem dL_law_344 : decode cL_law 344 = .ok (.iload 6, 2) := by decide +kernel
theorem dL_law_346 : decode cL_law 346 = .ok (.ifCond .ne 15, 3) := by decide +kernel
theorem dL_law_349 : decode cL_law 349 = .ok (.aload_n 3, 1) := by decide +kernel
theorem dL_law_350 : decode cL_law 350 = .ok (.iconst 0, 1) := by decide +kernel
theorem dL_law_351 : decode cL_law 351 = .ok (.laload, 1) := by decide +kernel
theorem dL_law_352 : decode cL_law 352 = .ok (.iload 7, 2) := by decide +kernel
theorem dL_law_354 : decode cL_law 354 = .ok (.i2l, 1) := by decide +kernel
theorem dL_law_355 : decode cL_law 355 = .ok (.lcmp, 1) := by decide +kernel
theorem dL_law_356 : decode cL_law 356 = .ok (.ifCond .eq 5, 3) := by decide +kernel
theorem dL_law_359 : decode cL_law 359 = .ok (.iconst 0, 1) := by decide +kernel
theorem dL_law_360 : decode cL_law 360 = .ok (.ireturn, 1) := by decide +kernel
theorem dL_law_361 : decode cL_law 361 = .ok (.goto 1245, 3) := by decide +kernel
theorem dL_law_364 : decode cL_law 364 = .ok (.aload_n 1, 1) := by decide +kernel
theorem dL_law_365 : decode cL_law 365 = .ok (.invokevirtual 123, 3) := by decide +kernel
theorem dL_law_368 : decode cL_law 368 = .ok (.aload_n 2, 1) := by decide +kernel
theorem dL_law_369 : decode cL_law 369 = .ok (.invokevirtual 126, 3) := by decide +kernel
theorem dL_law_372 : decode cL_law 372 = .ok (.if_icmp .eq 1234, 3) := by decide +kernel
theorem dL_law_375 : decode cL_law 375 = .ok (.iconst 0, 1) := by decide +kernel
theorem dL_law_376 : decode cL_law 376 = .ok (.ireturn, 1) := by decide +kernel
theorem dL_law_377 : decode cL_law 377 = .ok (.aload_n 1, 1) := by decide +kernel
theorem dL_law_378 : decode cL_law 378 = .ok (.invokevirtual 127, 3) := by decide +kernel
theorem dL_law_381 : decode cL_law 381 = .ok (.aload_n 2, 1) := by decide +kernel
theorem dL_law_382 : decode cL_law 382 = .ok (.invokevirtual 130, 3) := by decide +kernel
theorem dL_law_385 : decode cL_law 385 = .ok (.if_icmp .eq 1221, 3) := by decide +kernel
theorem dL_law_388 : decode cL_law 388 = .ok (.iconst 0, 1) := by decide +kernel
theorem dL_law_389 : decode cL_law 389 = .ok (.ireturn, 1) := by decide +kernel
theorem dL_law_390 : decode cL_law 390 = .ok (.aload_n 1, 1) := by decide +kernel
theorem dL_law_391 : decode cL_law 391 = .ok (.aload_n 0, 1) := by decide +kernel
theorem dL_law_392 : decode cL_law 392 = .ok (.iload 5, 2) := by decide +kernel
theorem dL_law_394 : decode cL_law 394 = .ok (.iconst 1, 1) := by decide +kernel
theorem dL_law_395 : decode cL_law 395 = .ok (.iadd, 1) := by decide +kernel
theorem dL_law_396 : decode cL_law 396 = .ok (.iaload, 1) := by decide +kernel
theorem dL_law_397 : decode cL_law 397 = .ok (.aload_n 0, 1) := by decide +kernel
theorem dL_law_398 : decode cL_law 398 = .ok (.iload 5, 2) := by decide +kernel
theorem dL_law_400 : decode cL_law 400 = .ok (.iconst 2, 1) := by decide +kernel
theorem dL_law_401 : decode cL_law 401 = .ok (.iadd, 1) := by decide +kernel
theorem dL_law_402 : decode cL_law 402 = .ok (.iaload, 1) := by decide +kernel
theorem dL_law_403 : decode cL_law 403 = .ok (.aload_n 3, 1) := by decide +kernel
theorem dL_law_404 : decode cL_law 404 = .ok (.invokestatic 131, 3) := by decide +kernel
theorem dL_law_407 : decode cL_law 407 = .ok (.istore 6, 2) := by decide +kernel
theorem dL_law_409 : decode cL_law 409 = .ok (.aload_n 2, 1) := by decide +kernel
theorem dL_law_410 : decode cL_law 410 = .ok (.aload_n 0, 1) := by decide +kernel
theorem dL_law_411 : decode cL_law 411 = .ok (.iload 5, 2) := by decide +kernel
theorem dL_law_413 : decode cL_law 413 = .ok (.iconst 1, 1) := by decide +kernel
theorem dL_law_414 : decode cL_law 414 = .ok (.iadd, 1) := by decide +kernel
theorem dL_law_415 : decode cL_law 415 = .ok (.iaload, 1) := by decide +kernel
theorem dL_law_416 : decode cL_law 416 = .ok (.aload_n 0, 1) := by decide +kernel
theorem dL_law_417 : decode cL_law 417 = .ok (.iload 5, 2) := by decide +kernel
theorem dL_law_419 : decode cL_law 419 = .ok (.iconst 2, 1) := by decide +kernel
theorem dL_law_420 : decode cL_law 420 = .ok (.iadd, 1) := by decide +kernel
theorem dL_law_421 : decode cL_law 421 = .ok (.iaload, 1) := by decide +kernel
theorem dL_law_422 : decode cL_law 422 = .ok (.invokevirtual 133, 3) := by decide +kernel
theorem dL_law_425 : decode cL_law 425 = .ok (.istore 7, 2) := by decide +kernel
theorem dL_law_427 : decode cL_law 427 = .ok (.aload_n 2, 1) := by decide +kernel
theorem dL_law_428 : decode cL_law 428 = .ok (.invokevirtual 104, 3) := by decide +kernel
theorem dL_law_431 : decode cL_law 431 = .ok (.iload 6, 2) := by decide +kernel
theorem dL_law_433 : decode cL_law 433 = .ok (.if_icmp .eq 5, 3) := by decide +kernel
theorem dL_law_436 : decode cL_law 436 = .ok (.iconst 0, 1) := by decide +kernel
theorem dL_law_437 : decode cL_law 437 = .ok (.ireturn, 1) := by decide +kernel
theorem dL_law_438 : decode cL_law 438 = .ok (.iload 6, 2) := by decide +kernel
theorem dL_law_440 : decode cL_law 440 = .ok (.ifCond .ne 15, 3) := by decide +kernel
theorem dL_law_443 : decode cL_law 443 = .ok (.aload_n 3, 1) := by decide +kernel
theorem dL_law_444 : decode cL_law 444 = .ok (.iconst 0, 1) := by decide +kernel
theorem dL_law_445 : decode cL_law 445 = .ok (.laload, 1) := by decide +kernel
theorem dL_law_446 : decode cL_law 446 = .ok (.iload 7, 2) := by decide +kernel
theorem dL_law_448 : decode cL_law 448 = .ok (.i2l, 1) := by decide +kernel
theorem dL_law_449 : decode cL_law 449 = .ok (.lcmp, 1) := by decide +kernel
theorem dL_law_450 : decode cL_law 450 = .ok (.ifCond .eq 5, 3) := by decide +kernel
theorem dL_law_453 : decode cL_law 453 = .ok (.iconst 0, 1) := by decide +kernel
theorem dL_law_454 : decode cL_law 454 = .ok (.ireturn, 1) := by decide +kernel
theorem dL_law_455 : decode cL_law 455 = .ok (.goto 1151, 3) := by decide +kernel
theorem dL_law_458 : decode cL_law 458 = .ok (.aload_n 1, 1) := by decide +kernel
theorem dL_law_459 : decode cL_law 459 = .ok (.aload_n 0, 1) := by decide +kernel
theorem dL_law_460 : decode cL_law 460 = .ok (.iload 5, 2) := by decide +kernel
theorem dL_law_462 : decode cL_law 462 = .ok (.iconst 1, 1) := by decide +kernel
theorem dL_law_463 : decode cL_law 463 = .ok (.iadd, 1) := by decide +kernel
theorem dL_law_464 : decode cL_law 464 = .ok (.iaload, 1) := by decide +kernel
theorem dL_law_465 : decode cL_law 465 = .ok (.aload_n 3, 1) := by decide +kernel
theorem dL_law_466 : decode cL_law 466 = .ok (.invokestatic 134, 3) := by decide +kernel
theorem dL_law_469 : decode cL_law 469 = .ok (.istore 6, 2) := by decide +kernel
theorem dL_law_471 : decode cL_law 471 = .ok (.aload_n 2, 1) := by decide +kernel
theorem dL_law_472 : decode cL_law 472 = .ok (.aload_n 0, 1) := by decide +kernel
theorem dL_law_473 : decode cL_law 473 = .ok (.iload 5, 2) := by decide +kernel
theorem dL_law_475 : decode cL_law 475 = .ok (.iconst 1, 1) := by decide +kernel
theorem dL_law_476 : decode cL_law 476 = .ok (.iadd, 1) := by decide +kernel
theorem dL_law_477 : decode cL_law 477 = .ok (.iaload, 1) := by decide +kernel
theorem dL_law_478 : decode cL_law 478 = .ok (.invokevirtual 137, 3) := by decide +kernel
theorem dL_law_481 : decode cL_law 481 = .ok (.istore 7, 2) := by decide +kernel
theorem dL_law_483 : decode cL_law 483 = .ok (.aload_n 2, 1) := by decide +kernel
theorem dL_law_484 : decode cL_law 484 = .ok (.invokevirtual 104, 3) := by decide +kernel
theorem dL_law_487 : decode cL_law 487 = .ok (.iload 6, 2) := by decide +kernel
theorem dL_law_489 : decode cL_law 489 = .ok (.if_icmp .eq 5, 3) := by decide +kernel
theorem dL_law_492 : decode cL_law 492 = .ok (.iconst 0, 1) := by decide +kernel
theorem dL_law_493 : decode cL_law 493 = .ok (.ireturn, 1) := by decide +kernel
theorem dL_law_494 : decode cL_law 494 = .ok (.iload 6, 2) := by decide +kernel
theorem dL_law_496 : decode cL_law 496 = .ok (.ifCond .ne 15, 3) := by decide +kernel
theorem dL_law_499 : decode cL_law 499 = .ok (.aload_n 3, 1) := by decide +kernel
theorem dL_law_500 : decode cL_law 500 = .ok (.iconst 0, 1) := by decide +kernel
theorem dL_law_501 : decode cL_law 501 = .ok (.laload, 1) := by decide +kernel
theorem dL_law_502 : decode cL_law 502 = .ok (.iload 7, 2) := by decide +kernel
theorem dL_law_504 : decode cL_law 504 = .ok (.i2l, 1) := by decide +kernel
theorem dL_law_505 : decode cL_law 505 = .ok (.lcmp, 1) := by decide +kernel
theorem dL_law_506 : decode cL_law 506 = .ok (.ifCond .eq 5, 3) := by decide +kernel
theorem dL_law_509 : decode cL_law 509 = .ok (.iconst 0, 1) := by decide +kernel
theorem dL_law_510 : decode cL_law 510 = .ok (.ireturn, 1) := by decide +kernel
theorem dL_law_511 : decode cL_law 511 = .ok (.goto 1095, 3) := by decide +kernel
theorem dL_law_514 : decode cL_law 514 = .ok (.aload_n 1, 1) := by decide +kernel
theorem dL_law_515 : decode cL_law 515 = .ok (.aload_n 0, 1) := by decide +kernel
theorem dL_law_516 : decode cL_law 516 = .ok (.iload 5, 2) := by decide +kernel
theorem dL_law_518 : decode cL_law 518 = .ok (.iconst 1, 1) := by decide +kernel
theorem dL_law_519 : decode cL_law 519 = .ok (.iadd, 1) := by decide +kernel
theorem dL_law_520 : decode cL_law 520 = .ok (.iaload, 1) := by decide +kernel
theorem dL_law_521 : decode cL_law 521 = .ok (.aload_n 3, 1) := by decide +kernel
theorem dL_law_522 : decode cL_law 522 = .ok (.invokestatic 138, 3) := by decide +kernel
theorem dL_law_525 : decode cL_law 525 = .ok (.istore 6, 2) := by decide +kernel
theorem dL_law_527 : decode cL_law 527 = .ok (.aload_n 2, 1) := by decide +kernel
theorem dL_law_528 : decode cL_law 528 = .ok (.aload_n 0, 1) := by decide +kernel
theorem dL_law_529 : decode cL_law 529 = .ok (.iload 5, 2) := by decide +kernel
theorem dL_law_531 : decode cL_law 531 = .ok (.iconst 1, 1) := by decide +kernel
theorem dL_law_532 : decode cL_law 532 = .ok (.iadd, 1) := by decide +kernel
theorem dL_law_533 : decode cL_law 533 = .ok (.iaload, 1) := by decide +kernel
theorem dL_law_534 : decode cL_law 534 = .ok (.invokevirtual 140, 3) := by decide +kernel
theorem dL_law_537 : decode cL_law 537 = .ok (.istore 7, 2) := by decide +kernel
theorem dL_law_539 : decode cL_law 539 = .ok (.aload_n 2, 1) := by decide +kernel
theorem dL_law_540 : decode cL_law 540 = .ok (.invokevirtual 104, 3) := by decide +kernel
theorem dL_law_543 : decode cL_law 543 = .ok (.iload 6, 2) := by decide +kernel
theorem dL_law_545 : decode cL_law 545 = .ok (.if_icmp .eq 5, 3) := by decide +kernel
theorem dL_law_548 : decode cL_law 548 = .ok (.iconst 0, 1) := by decide +kernel
theorem dL_law_549 : decode cL_law 549 = .ok (.ireturn, 1) := by decide +kernel
theorem dL_law_550 : decode cL_law 550 = .ok (.iload 6, 2) := by decide +kernel
theorem dL_law_552 : decode cL_law 552 = .ok (.ifCond .ne 15, 3) := by decide +kernel
theorem dL_law_555 : decode cL_law 555 = .ok (.aload_n 3, 1) := by decide +kernel
theorem dL_law_556 : decode cL_law 556 = .ok (.iconst 0, 1) := by decide +kernel
theorem dL_law_557 : decode cL_law 557 = .ok (.laload, 1) := by decide +kernel
theorem dL_law_558 : decode cL_law 558 = .ok (.iload 7, 2) := by decide +kernel
theorem dL_law_560 : decode cL_law 560 = .ok (.i2l, 1) := by decide +kernel
theorem dL_law_561 : decode cL_law 561 = .ok (.lcmp, 1) := by decide +kernel
theorem dL_law_562 : decode cL_law 562 = .ok (.ifCond .eq 5, 3) := by decide +kernel
theorem dL_law_565 : decode cL_law 565 = .ok (.iconst 0, 1) := by decide +kernel
theorem dL_law_566 : decode cL_law 566 = .ok (.ireturn, 1) := by decide +kernel
theorem dL_law_567 : decode cL_law 567 = .ok (.goto 1039, 3) := by decide +kernel
theorem dL_law_570 : decode cL_law 570 = .ok (.aload_n 1, 1) := by decide +kernel
theorem dL_law_571 : decode cL_law 571 = .ok (.aload_n 0, 1) := by decide +kernel
theorem dL_law_572 : decode cL_law 572 = .ok (.iload 5, 2) := by decide +kernel
theorem dL_law_574 : decode cL_law 574 = .ok (.iconst 1, 1) := by decide +kernel
theorem dL_law_575 : decode cL_law 575 = .ok (.iadd, 1) := by decide +kernel
theorem dL_law_576 : decode cL_law 576 = .ok (.iaload, 1) := by decide +kernel
theorem dL_law_577 : decode cL_law 577 = .ok (.aload_n 0, 1) := by decide +kernel
theorem dL_law_578 : decode cL_law 578 = .ok (.iload 5, 2) := by decide +kernel
theorem dL_law_580 : decode cL_law 580 = .ok (.iconst 2, 1) := by decide +kernel
theorem dL_law_581 : decode cL_law 581 = .ok (.iadd, 1) := by decide +kernel
theorem dL_law_582 : decode cL_law 582 = .ok (.iaload, 1) := by decide +kernel
theorem dL_law_583 : decode cL_law 583 = .ok (.aload_n 3, 1) := by decide +kernel
theorem dL_law_584 : decode cL_law 584 = .ok (.invokestatic 141, 3) := by decide +kernel
theorem dL_law_587 : decode cL_law 587 = .ok (.istore 6, 2) := by decide +kernel
theorem dL_law_589 : decode cL_law 589 = .ok (.aload_n 2, 1) := by decide +kernel
theorem dL_law_590 : decode cL_law 590 = .ok (.aload_n 0, 1) := by decide +kernel
theorem dL_law_591 : decode cL_law 591 = .ok (.iload 5, 2) := by decide +kernel
theorem dL_law_593 : decode cL_law 593 = .ok (.iconst 1, 1) := by decide +kernel
theorem dL_law_594 : decode cL_law 594 = .ok (.iadd, 1) := by decide +kernel
theorem dL_law_595 : decode cL_law 595 = .ok (.iaload, 1) := by decide +kernel
theorem dL_law_596 : decode cL_law 596 = .ok (.aload_n 0, 1) := by decide +kernel
theorem dL_law_597 : decode cL_law 597 = .ok (.iload 5, 2) := by decide +kernel
theorem dL_law_599 : decode cL_law 599 = .ok (.iconst 2, 1) := by decide +kernel
theorem dL_law_600 : decode cL_law 600 = .ok (.iadd, 1) := by decide +kernel
theorem dL_law_601 : decode cL_law 601 = .ok (.iaload, 1) := by decide +kernel
theorem dL_law_602 : decode cL_law 602 = .ok (.invokevirtual 143, 3) := by decide +kernel
theorem dL_law_605 : decode cL_law 605 = .ok (.istore 7, 2) := by decide +kernel
theorem dL_law_607 : decode cL_law 607 = .ok (.aload_n 2, 1) := by decide +kernel
theorem dL_law_608 : decode cL_law 608 = .ok (.invokevirtual 104, 3) := by decide +kernel
theorem dL_law_611 : decode cL_law 611 = .ok (.iload 6, 2) := by decide +kernel
theorem dL_law_613 : decode cL_law 613 = .ok (.if_icmp .eq 5, 3) := by decide +kernel
theorem dL_law_616 : decode cL_law 616 = .ok (.iconst 0, 1) := by decide +kernel
theorem dL_law_617 : decode cL_law 617 = .ok (.ireturn, 1) := by decide +kernel
theorem dL_law_618 : decode cL_law 618 = .ok (.iload 6, 2) := by decide +kernel
theorem dL_law_620 : decode cL_law 620 = .ok (.ifCond .ne 22, 3) := by decide +kernel
theorem dL_law_623 : decode cL_law 623 = .ok (.aload_n 3, 1) := by decide +kernel
theorem dL_law_624 : decode cL_law 624 = .ok (.iconst 0, 1) := by decide +kernel
theorem dL_law_625 : decode cL_law 625 = .ok (.laload, 1) := by decide +kernel
theorem dL_law_626 : decode cL_law 626 = .ok (.iload 7, 2) := by decide +kernel
theorem dL_law_628 : decode cL_law 628 = .ok (.ifCond .eq 7, 3) := by decide +kernel
theorem dL_law_631 : decode cL_law 631 = .ok (.lconst 1, 1) := by decide +kernel
theorem dL_law_632 : decode cL_law 632 = .ok (.goto 4, 3) := by decide +kernel
theorem dL_law_635 : decode cL_law 635 = .ok (.lconst 0, 1) := by decide +kernel
theorem dL_law_636 : decode cL_law 636 = .ok (.lcmp, 1) := by decide +kernel
theorem dL_law_637 : decode cL_law 637 = .ok (.ifCond .eq 5, 3) := by decide +kernel
theorem dL_law_640 : decode cL_law 640 = .ok (.iconst 0, 1) := by decide +kernel
theorem dL_law_641 : decode cL_law 641 = .ok (.ireturn, 1) := by decide +kernel
theorem dL_law_642 : decode cL_law 642 = .ok (.goto 964, 3) := by decide +kernel
theorem dL_law_645 : decode cL_law 645 = .ok (.aload_n 1, 1) := by decide +kernel
theorem dL_law_646 : decode cL_law 646 = .ok (.aload_n 0, 1) := by decide +kernel
theorem dL_law_647 : decode cL_law 647 = .ok (.iload 5, 2) := by decide +kernel
theorem dL_law_649 : decode cL_law 649 = .ok (.iconst 1, 1) := by decide +kernel
theorem dL_law_650 : decode cL_law 650 = .ok (.iadd, 1) := by decide +kernel
theorem dL_law_651 : decode cL_law 651 = .ok (.iaload, 1) := by decide +kernel
theorem dL_law_652 : decode cL_law 652 = .ok (.aload_n 0, 1) := by decide +kernel
theorem dL_law_653 : decode cL_law 653 = .ok (.iload 5, 2) := by decide +kernel
theorem dL_law_655 : decode cL_law 655 = .ok (.iconst 2, 1) := by decide +kernel
theorem dL_law_656 : decode cL_law 656 = .ok (.iadd, 1) := by decide +kernel
theorem dL_law_657 : decode cL_law 657 = .ok (.iaload, 1) := by decide +kernel
theorem dL_law_658 : decode cL_law 658 = .ok (.aload_n 3, 1) := by decide +kernel
theorem dL_law_659 : decode cL_law 659 = .ok (.invokestatic 144, 3) := by decide +kernel
theorem dL_law_662 : decode cL_law 662 = .ok (.istore 6, 2) := by decide +kernel
theorem dL_law_664 : decode cL_law 664 = .ok (.aload_n 2, 1) := by decide +kernel
theorem dL_law_665 : decode cL_law 665 = .ok (.aload_n 0, 1) := by decide +kernel
theorem dL_law_666 : decode cL_law 666 = .ok (.iload 5, 2) := by decide +kernel
theorem dL_law_668 : decode cL_law 668 = .ok (.iconst 1, 1) := by decide +kernel
theorem dL_law_669 : decode cL_law 669 = .ok (.iadd, 1) := by decide +kernel
theorem dL_law_670 : decode cL_law 670 = .ok (.iaload, 1) := by decide +kernel
theorem dL_law_671 : decode cL_law 671 = .ok (.aload_n 0, 1) := by decide +kernel
theorem dL_law_672 : decode cL_law 672 = .ok (.iload 5, 2) := by decide +kernel
theorem dL_law_674 : decode cL_law 674 = .ok (.iconst 2, 1) := by decide +kernel
theorem dL_law_675 : decode cL_law 675 = .ok (.iadd, 1) := by decide +kernel
theorem dL_law_676 : decode cL_law 676 = .ok (.iaload, 1) := by decide +kernel
theorem dL_law_677 : decode cL_law 677 = .ok (.invokevirtual 146, 3) := by decide +kernel
theorem dL_law_680 : decode cL_law 680 = .ok (.istore 7, 2) := by decide +kernel
theorem dL_law_682 : decode cL_law 682 = .ok (.aload_n 2, 1) := by decide +kernel
theorem dL_law_683 : decode cL_law 683 = .ok (.invokevirtual 104, 3) := by decide +kernel
theorem dL_law_686 : decode cL_law 686 = .ok (.iload 6, 2) := by decide +kernel
theorem dL_law_688 : decode cL_law 688 = .ok (.if_icmp .eq 5, 3) := by decide +kernel
theorem dL_law_691 : decode cL_law 691 = .ok (.iconst 0, 1) := by decide +kernel
theorem dL_law_692 : decode cL_law 692 = .ok (.ireturn, 1) := by decide +kernel
theorem dL_law_693 : decode cL_law 693 = .ok (.iload 6, 2) := by decide +kernel
theorem dL_law_695 : decode cL_law 695 = .ok (.ifCond .ne 15, 3) := by decide +kernel
theorem dL_law_698 : decode cL_law 698 = .ok (.aload_n 3, 1) := by decide +kernel
theorem dL_law_699 : decode cL_law 699 = .ok (.iconst 0, 1) := by decide +kernel
theorem dL_law_700 : decode cL_law 700 = .ok (.laload, 1) := by decide +kernel
theorem dL_law_701 : decode cL_law 701 = .ok (.iload 7, 2) := by decide +kernel
theorem dL_law_703 : decode cL_law 703 = .ok (.i2l, 1) := by decide +kernel
theorem dL_law_704 : decode cL_law 704 = .ok (.lcmp, 1) := by decide +kernel
theorem dL_law_705 : decode cL_law 705 = .ok (.ifCond .eq 5, 3) := by decide +kernel
theorem dL_law_708 : decode cL_law 708 = .ok (.iconst 0, 1) := by decide +kernel
theorem dL_law_709 : decode cL_law 709 = .ok (.ireturn, 1) := by decide +kernel
theorem dL_law_710 : decode cL_law 710 = .ok (.goto 896, 3) := by decide +kernel
theorem dL_law_713 : decode cL_law 713 = .ok (.aload_n 1, 1) := by decide +kernel
theorem dL_law_714 : decode cL_law 714 = .ok (.aload_n 0, 1) := by decide +kernel
theorem dL_law_715 : decode cL_law 715 = .ok (.iload 5, 2) := by decide +kernel
theorem dL_law_717 : decode cL_law 717 = .ok (.iconst 1, 1) := by decide +kernel
theorem dL_law_718 : decode cL_law 718 = .ok (.iadd, 1) := by decide +kernel
theorem dL_law_719 : decode cL_law 719 = .ok (.iaload, 1) := by decide +kernel
theorem dL_law_720 : decode cL_law 720 = .ok (.aload_n 0, 1) := by decide +kernel
theorem dL_law_721 : decode cL_law 721 = .ok (.iload 5, 2) := by decide +kernel
theorem dL_law_723 : decode cL_law 723 = .ok (.iconst 2, 1) := by decide +kernel
theorem dL_law_724 : decode cL_law 724 = .ok (.iadd, 1) := by decide +kernel
theorem dL_law_725 : decode cL_law 725 = .ok (.iaload, 1) := by decide +kernel
theorem dL_law_726 : decode cL_law 726 = .ok (.aload_n 3, 1) := by decide +kernel
theorem dL_law_727 : decode cL_law 727 = .ok (.invokestatic 147, 3) := by decide +kernel
theorem dL_law_730 : decode cL_law 730 = .ok (.istore 6, 2) := by decide +kernel
theorem dL_law_732 : decode cL_law 732 = .ok (.aload_n 2, 1) := by decide +kernel
theorem dL_law_733 : decode cL_law 733 = .ok (.aload_n 0, 1) := by decide +kernel
theorem dL_law_734 : decode cL_law 734 = .ok (.iload 5, 2) := by decide +kernel
theorem dL_law_736 : decode cL_law 736 = .ok (.iconst 1, 1) := by decide +kernel
theorem dL_law_737 : decode cL_law 737 = .ok (.iadd, 1) := by decide +kernel
theorem dL_law_738 : decode cL_law 738 = .ok (.iaload, 1) := by decide +kernel
theorem dL_law_739 : decode cL_law 739 = .ok (.aload_n 0, 1) := by decide +kernel
theorem dL_law_740 : decode cL_law 740 = .ok (.iload 5, 2) := by decide +kernel
theorem dL_law_742 : decode cL_law 742 = .ok (.iconst 2, 1) := by decide +kernel
theorem dL_law_743 : decode cL_law 743 = .ok (.iadd, 1) := by decide +kernel
theorem dL_law_744 : decode cL_law 744 = .ok (.iaload, 1) := by decide +kernel
theorem dL_law_745 : decode cL_law 745 = .ok (.invokevirtual 149, 3) := by decide +kernel
theorem dL_law_748 : decode cL_law 748 = .ok (.istore 7, 2) := by decide +kernel
theorem dL_law_750 : decode cL_law 750 = .ok (.aload_n 2, 1) := by decide +kernel
theorem dL_law_751 : decode cL_law 751 = .ok (.invokevirtual 104, 3) := by decide +kernel
theorem dL_law_754 : decode cL_law 754 = .ok (.iload 6, 2) := by decide +kernel
theorem dL_law_756 : decode cL_law 756 = .ok (.if_icmp .eq 5, 3) := by decide +kernel
theorem dL_law_759 : decode cL_law 759 = .ok (.iconst 0, 1) := by decide +kernel
theorem dL_law_760 : decode cL_law 760 = .ok (.ireturn, 1) := by decide +kernel
theorem dL_law_761 : decode cL_law 761 = .ok (.iload 6, 2) := by decide +kernel
theorem dL_law_763 : decode cL_law 763 = .ok (.ifCond .ne 15, 3) := by decide +kernel
theorem dL_law_766 : decode cL_law 766 = .ok (.aload_n 3, 1) := by decide +kernel
theorem dL_law_767 : decode cL_law 767 = .ok (.iconst 0, 1) := by decide +kernel
theorem dL_law_768 : decode cL_law 768 = .ok (.laload, 1) := by decide +kernel
theorem dL_law_769 : decode cL_law 769 = .ok (.iload 7, 2) := by decide +kernel
theorem dL_law_771 : decode cL_law 771 = .ok (.i2l, 1) := by decide +kernel
theorem dL_law_772 : decode cL_law 772 = .ok (.lcmp, 1) := by decide +kernel
theorem dL_law_773 : decode cL_law 773 = .ok (.ifCond .eq 5, 3) := by decide +kernel
theorem dL_law_776 : decode cL_law 776 = .ok (.iconst 0, 1) := by decide +kernel
theorem dL_law_777 : decode cL_law 777 = .ok (.ireturn, 1) := by decide +kernel
theorem dL_law_778 : decode cL_law 778 = .ok (.goto 828, 3) := by decide +kernel
theorem dL_law_781 : decode cL_law 781 = .ok (.aload_n 1, 1) := by decide +kernel
theorem dL_law_782 : decode cL_law 782 = .ok (.aload_n 0, 1) := by decide +kernel
theorem dL_law_783 : decode cL_law 783 = .ok (.iload 5, 2) := by decide +kernel
theorem dL_law_785 : decode cL_law 785 = .ok (.iconst 1, 1) := by decide +kernel
theorem dL_law_786 : decode cL_law 786 = .ok (.iadd, 1) := by decide +kernel
theorem dL_law_787 : decode cL_law 787 = .ok (.iaload, 1) := by decide +kernel
theorem dL_law_788 : decode cL_law 788 = .ok (.aload_n 0, 1) := by decide +kernel
theorem dL_law_789 : decode cL_law 789 = .ok (.iload 5, 2) := by decide +kernel
theorem dL_law_791 : decode cL_law 791 = .ok (.iconst 2, 1) := by decide +kernel
theorem dL_law_792 : decode cL_law 792 = .ok (.iadd, 1) := by decide +kernel
theorem dL_law_793 : decode cL_law 793 = .ok (.iaload, 1) := by decide +kernel
theorem dL_law_794 : decode cL_law 794 = .ok (.aload_n 3, 1) := by decide +kernel
theorem dL_law_795 : decode cL_law 795 = .ok (.invokestatic 150, 3) := by decide +kernel
theorem dL_law_798 : decode cL_law 798 = .ok (.istore 6, 2) := by decide +kernel
theorem dL_law_800 : decode cL_law 800 = .ok (.aload_n 2, 1) := by decide +kernel
theorem dL_law_801 : decode cL_law 801 = .ok (.aload_n 0, 1) := by decide +kernel
theorem dL_law_802 : decode cL_law 802 = .ok (.iload 5, 2) := by decide +kernel
theorem dL_law_804 : decode cL_law 804 = .ok (.iconst 1, 1) := by decide +kernel
theorem dL_law_805 : decode cL_law 805 = .ok (.iadd, 1) := by decide +kernel
theorem dL_law_806 : decode cL_law 806 = .ok (.iaload, 1) := by decide +kernel
theorem dL_law_807 : decode cL_law 807 = .ok (.aload_n 0, 1) := by decide +kernel
theorem dL_law_808 : decode cL_law 808 = .ok (.iload 5, 2) := by decide +kernel
theorem dL_law_810 : decode cL_law 810 = .ok (.iconst 2, 1) := by decide +kernel
theorem dL_law_811 : decode cL_law 811 = .ok (.iadd, 1) := by decide +kernel
theorem dL_law_812 : decode cL_law 812 = .ok (.iaload, 1) := by decide +kernel
theorem dL_law_813 : decode cL_law 813 = .ok (.invokevirtual 152, 3) := by decide +kernel
theorem dL_law_816 : decode cL_law 816 = .ok (.istore 7, 2) := by decide +kernel
theorem dL_law_818 : decode cL_law 818 = .ok (.aload_n 2, 1) := by decide +kernel
theorem dL_law_819 : decode cL_law 819 = .ok (.invokevirtual 104, 3) := by decide +kernel
theorem dL_law_822 : decode cL_law 822 = .ok (.iload 6, 2) := by decide +kernel
theorem dL_law_824 : decode cL_law 824 = .ok (.if_icmp .eq 5, 3) := by decide +kernel
theorem dL_law_827 : decode cL_law 827 = .ok (.iconst 0, 1) := by decide +kernel
theorem dL_law_828 : decode cL_law 828 = .ok (.ireturn, 1) := by decide +kernel
theorem dL_law_829 : decode cL_law 829 = .ok (.iload 6, 2) := by decide +kernel
theorem dL_law_831 : decode cL_law 831 = .ok (.ifCond .ne 15, 3) := by decide +kernel
theorem dL_law_834 : decode cL_law 834 = .ok (.aload_n 3, 1) := by decide +kernel
theorem dL_law_835 : decode cL_law 835 = .ok (.iconst 0, 1) := by decide +kernel
theorem dL_law_836 : decode cL_law 836 = .ok (.laload, 1) := by decide +kernel
theorem dL_law_837 : decode cL_law 837 = .ok (.iload 7, 2) := by decide +kernel
theorem dL_law_839 : decode cL_law 839 = .ok (.i2l, 1) := by decide +kernel
theorem dL_law_840 : decode cL_law 840 = .ok (.lcmp, 1) := by decide +kernel
theorem dL_law_841 : decode cL_law 841 = .ok (.ifCond .eq 5, 3) := by decide +kernel
theorem dL_law_844 : decode cL_law 844 = .ok (.iconst 0, 1) := by decide +kernel
theorem dL_law_845 : decode cL_law 845 = .ok (.ireturn, 1) := by decide +kernel
theorem dL_law_846 : decode cL_law 846 = .ok (.goto 760, 3) := by decide +kernel
theorem dL_law_849 : decode cL_law 849 = .ok (.aload_n 1, 1) := by decide +kernel
theorem dL_law_850 : decode cL_law 850 = .ok (.aload_n 3, 1) := by decide +kernel
theorem dL_law_851 : decode cL_law 851 = .ok (.invokestatic 153, 3) := by decide +kernel
theorem dL_law_854 : decode cL_law 854 = .ok (.istore 6, 2) := by decide +kernel
theorem dL_law_856 : decode cL_law 856 = .ok (.aload_n 2, 1) := by decide +kernel
theorem dL_law_857 : decode cL_law 857 = .ok (.invokevirtual 155, 3) := by decide +kernel
theorem dL_law_860 : decode cL_law 860 = .ok (.istore 7, 2) := by decide +kernel
theorem dL_law_862 : decode cL_law 862 = .ok (.aload_n 2, 1) := by decide +kernel
theorem dL_law_863 : decode cL_law 863 = .ok (.invokevirtual 104, 3) := by decide +kernel
theorem dL_law_866 : decode cL_law 866 = .ok (.iload 6, 2) := by decide +kernel
theorem dL_law_868 : decode cL_law 868 = .ok (.if_icmp .eq 5, 3) := by decide +kernel
theorem dL_law_871 : decode cL_law 871 = .ok (.iconst 0, 1) := by decide +kernel
theorem dL_law_872 : decode cL_law 872 = .ok (.ireturn, 1) := by decide +kernel
theorem dL_law_873 : decode cL_law 873 = .ok (.iload 6, 2) := by decide +kernel
theorem dL_law_875 : decode cL_law 875 = .ok (.ifCond .ne 15, 3) := by decide +kernel
theorem dL_law_878 : decode cL_law 878 = .ok (.aload_n 3, 1) := by decide +kernel
theorem dL_law_879 : decode cL_law 879 = .ok (.iconst 0, 1) := by decide +kernel
theorem dL_law_880 : decode cL_law 880 = .ok (.laload, 1) := by decide +kernel
theorem dL_law_881 : decode cL_law 881 = .ok (.iload 7, 2) := by decide +kernel
theorem dL_law_883 : decode cL_law 883 = .ok (.i2l, 1) := by decide +kernel
theorem dL_law_884 : decode cL_law 884 = .ok (.lcmp, 1) := by decide +kernel
theorem dL_law_885 : decode cL_law 885 = .ok (.ifCond .eq 5, 3) := by decide +kernel
theorem dL_law_888 : decode cL_law 888 = .ok (.iconst 0, 1) := by decide +kernel
theorem dL_law_889 : decode cL_law 889 = .ok (.ireturn, 1) := by decide +kernel
theorem dL_law_890 : decode cL_law 890 = .ok (.goto 716, 3) := by decide +kernel
theorem dL_law_893 : decode cL_law 893 = .ok (.aload_n 1, 1) := by decide +kernel
theorem dL_law_894 : decode cL_law 894 = .ok (.invokevirtual 156, 3) := by decide +kernel
theorem dL_law_897 : decode cL_law 897 = .ok (.aload_n 2, 1) := by decide +kernel
theorem dL_law_898 : decode cL_law 898 = .ok (.invokevirtual 159, 3) := by decide +kernel
theorem dL_law_901 : decode cL_law 901 = .ok (.if_icmp .eq 705, 3) := by decide +kernel
theorem dL_law_904 : decode cL_law 904 = .ok (.iconst 0, 1) := by decide +kernel
theorem dL_law_905 : decode cL_law 905 = .ok (.ireturn, 1) := by decide +kernel
theorem dL_law_906 : decode cL_law 906 = .ok (.aload_n 1, 1) := by decide +kernel
theorem dL_law_907 : decode cL_law 907 = .ok (.aload_n 0, 1) := by decide +kernel
theorem dL_law_908 : decode cL_law 908 = .ok (.iload 5, 2) := by decide +kernel
theorem dL_law_910 : decode cL_law 910 = .ok (.iconst 1, 1) := by decide +kernel
theorem dL_law_911 : decode cL_law 911 = .ok (.iadd, 1) := by decide +kernel
theorem dL_law_912 : decode cL_law 912 = .ok (.iaload, 1) := by decide +kernel
theorem dL_law_913 : decode cL_law 913 = .ok (.aload_n 3, 1) := by decide +kernel
theorem dL_law_914 : decode cL_law 914 = .ok (.invokestatic 160, 3) := by decide +kernel
theorem dL_law_917 : decode cL_law 917 = .ok (.istore 6, 2) := by decide +kernel
theorem dL_law_919 : decode cL_law 919 = .ok (.aload_n 2, 1) := by decide +kernel
theorem dL_law_920 : decode cL_law 920 = .ok (.aload_n 0, 1) := by decide +kernel
theorem dL_law_921 : decode cL_law 921 = .ok (.iload 5, 2) := by decide +kernel
theorem dL_law_923 : decode cL_law 923 = .ok (.iconst 1, 1) := by decide +kernel
theorem dL_law_924 : decode cL_law 924 = .ok (.iadd, 1) := by decide +kernel
theorem dL_law_925 : decode cL_law 925 = .ok (.iaload, 1) := by decide +kernel
theorem dL_law_926 : decode cL_law 926 = .ok (.invokevirtual 162, 3) := by decide +kernel
theorem dL_law_929 : decode cL_law 929 = .ok (.istore 7, 2) := by decide +kernel
theorem dL_law_931 : decode cL_law 931 = .ok (.aload_n 2, 1) := by decide +kernel
theorem dL_law_932 : decode cL_law 932 = .ok (.invokevirtual 104, 3) := by decide +kernel
theorem dL_law_935 : decode cL_law 935 = .ok (.iload 6, 2) := by decide +kernel
theorem dL_law_937 : decode cL_law 937 = .ok (.if_icmp .eq 5, 3) := by decide +kernel
theorem dL_law_940 : decode cL_law 940 = .ok (.iconst 0, 1) := by decide +kernel
theorem dL_law_941 : decode cL_law 941 = .ok (.ireturn, 1) := by decide +kernel
theorem dL_law_942 : decode cL_law 942 = .ok (.iload 6, 2) := by decide +kernel
theorem dL_law_944 : decode cL_law 944 = .ok (.ifCond .ne 15, 3) := by decide +kernel
theorem dL_law_947 : decode cL_law 947 = .ok (.aload_n 3, 1) := by decide +kernel
theorem dL_law_948 : decode cL_law 948 = .ok (.iconst 0, 1) := by decide +kernel
theorem dL_law_949 : decode cL_law 949 = .ok (.laload, 1) := by decide +kernel
theorem dL_law_950 : decode cL_law 950 = .ok (.iload 7, 2) := by decide +kernel
theorem dL_law_952 : decode cL_law 952 = .ok (.i2l, 1) := by decide +kernel
theorem dL_law_953 : decode cL_law 953 = .ok (.lcmp, 1) := by decide +kernel
theorem dL_law_954 : decode cL_law 954 = .ok (.ifCond .eq 5, 3) := by decide +kernel
theorem dL_law_957 : decode cL_law 957 = .ok (.iconst 0, 1) := by decide +kernel
theorem dL_law_958 : decode cL_law 958 = .ok (.ireturn, 1) := by decide +kernel
theorem dL_law_959 : decode cL_law 959 = .ok (.goto 647, 3) := by decide +kernel
theorem dL_law_962 : decode cL_law 962 = .ok (.aload_n 1, 1) := by decide +kernel
theorem dL_law_963 : decode cL_law 963 = .ok (.aload_n 0, 1) := by decide +kernel
theorem dL_law_964 : decode cL_law 964 = .ok (.iload 5, 2) := by decide +kernel
theorem dL_law_966 : decode cL_law 966 = .ok (.iconst 1, 1) := by decide +kernel
theorem dL_law_967 : decode cL_law 967 = .ok (.iadd, 1) := by decide +kernel
theorem dL_law_968 : decode cL_law 968 = .ok (.iaload, 1) := by decide +kernel
theorem dL_law_969 : decode cL_law 969 = .ok (.ifCond .eq 7, 3) := by decide +kernel
theorem dL_law_972 : decode cL_law 972 = .ok (.iconst 1, 1) := by decide +kernel
theorem dL_law_973 : decode cL_law 973 = .ok (.goto 4, 3) := by decide +kernel
theorem dL_law_976 : decode cL_law 976 = .ok (.iconst 0, 1) := by decide +kernel
theorem dL_law_977 : decode cL_law 977 = .ok (.aload_n 0, 1) := by decide +kernel
theorem dL_law_978 : decode cL_law 978 = .ok (.iload 5, 2) := by decide +kernel
theorem dL_law_980 : decode cL_law 980 = .ok (.iconst 2, 1) := by decide +kernel
theorem dL_law_981 : decode cL_law 981 = .ok (.iadd, 1) := by decide +kernel
theorem dL_law_982 : decode cL_law 982 = .ok (.iaload, 1) := by decide +kernel
theorem dL_law_983 : decode cL_law 983 = .ok (.aload_n 0, 1) := by decide +kernel
theorem dL_law_984 : decode cL_law 984 = .ok (.iload 5, 2) := by decide +kernel
theorem dL_law_986 : decode cL_law 986 = .ok (.iconst 3, 1) := by decide +kernel
theorem dL_law_987 : decode cL_law 987 = .ok (.iadd, 1) := by decide +kernel
theorem dL_law_988 : decode cL_law 988 = .ok (.iaload, 1) := by decide +kernel
theorem dL_law_989 : decode cL_law 989 = .ok (.aload_n 3, 1) := by decide +kernel
theorem dL_law_990 : decode cL_law 990 = .ok (.invokestatic 163, 3) := by decide +kernel
theorem dL_law_993 : decode cL_law 993 = .ok (.istore 6, 2) := by decide +kernel
theorem dL_law_995 : decode cL_law 995 = .ok (.aload_n 2, 1) := by decide +kernel
theorem dL_law_996 : decode cL_law 996 = .ok (.aload_n 0, 1) := by decide +kernel
theorem dL_law_997 : decode cL_law 997 = .ok (.iload 5, 2) := by decide +kernel
theorem dL_law_999 : decode cL_law 999 = .ok (.iconst 1, 1) := by decide +kernel
theorem dL_law_1000 : decode cL_law 1000 = .ok (.iadd, 1) := by decide +kernel
theorem dL_law_1001 : decode cL_law 1001 = .ok (.iaload, 1) := by decide +kernel
theorem dL_law_1002 : decode cL_law 1002 = .ok (.ifCond .eq 7, 3) := by decide +kernel
theorem dL_law_1005 : decode cL_law 1005 = .ok (.iconst 1, 1) := by decide +kernel
theorem dL_law_1006 : decode cL_law 1006 = .ok (.goto 4, 3) := by decide +kernel
theorem dL_law_1009 : decode cL_law 1009 = .ok (.iconst 0, 1) := by decide +kernel
theorem dL_law_1010 : decode cL_law 1010 = .ok (.aload_n 0, 1) := by decide +kernel
theorem dL_law_1011 : decode cL_law 1011 = .ok (.iload 5, 2) := by decide +kernel
theorem dL_law_1013 : decode cL_law 1013 = .ok (.iconst 2, 1) := by decide +kernel
theorem dL_law_1014 : decode cL_law 1014 = .ok (.iadd, 1) := by decide +kernel
theorem dL_law_1015 : decode cL_law 1015 = .ok (.iaload, 1) := by decide +kernel
theorem dL_law_1016 : decode cL_law 1016 = .ok (.aload_n 0, 1) := by decide +kernel
theorem dL_law_1017 : decode cL_law 1017 = .ok (.iload 5, 2) := by decide +kernel
theorem dL_law_1019 : decode cL_law 1019 = .ok (.iconst 3, 1) := by decide +kernel
theorem dL_law_1020 : decode cL_law 1020 = .ok (.iadd, 1) := by decide +kernel
theorem dL_law_1021 : decode cL_law 1021 = .ok (.iaload, 1) := by decide +kernel
theorem dL_law_1022 : decode cL_law 1022 = .ok (.invokevirtual 166, 3) := by decide +kernel
theorem dL_law_1025 : decode cL_law 1025 = .ok (.istore 7, 2) := by decide +kernel
theorem dL_law_1027 : decode cL_law 1027 = .ok (.aload_n 2, 1) := by decide +kernel
theorem dL_law_1028 : decode cL_law 1028 = .ok (.invokevirtual 104, 3) := by decide +kernel
theorem dL_law_1031 : decode cL_law 1031 = .ok (.iload 6, 2) := by decide +kernel
theorem dL_law_1033 : decode cL_law 1033 = .ok (.if_icmp .eq 5, 3) := by decide +kernel
theorem dL_law_1036 : decode cL_law 1036 = .ok (.iconst 0, 1) := by decide +kernel
theorem dL_law_1037 : decode cL_law 1037 = .ok (.ireturn, 1) := by decide +kernel
theorem dL_law_1038 : decode cL_law 1038 = .ok (.iload 6, 2) := by decide +kernel
theorem dL_law_1040 : decode cL_law 1040 = .ok (.ifCond .ne 15, 3) := by decide +kernel
theorem dL_law_1043 : decode cL_law 1043 = .ok (.aload_n 3, 1) := by decide +kernel
theorem dL_law_1044 : decode cL_law 1044 = .ok (.iconst 0, 1) := by decide +kernel
theorem dL_law_1045 : decode cL_law 1045 = .ok (.laload, 1) := by decide +kernel
theorem dL_law_1046 : decode cL_law 1046 = .ok (.iload 7, 2) := by decide +kernel
theorem dL_law_1048 : decode cL_law 1048 = .ok (.i2l, 1) := by decide +kernel
theorem dL_law_1049 : decode cL_law 1049 = .ok (.lcmp, 1) := by decide +kernel
theorem dL_law_1050 : decode cL_law 1050 = .ok (.ifCond .eq 5, 3) := by decide +kernel
theorem dL_law_1053 : decode cL_law 1053 = .ok (.iconst 0, 1) := by decide +kernel
theorem dL_law_1054 : decode cL_law 1054 = .ok (.ireturn, 1) := by decide +kernel
theorem dL_law_1055 : decode cL_law 1055 = .ok (.goto 551, 3) := by decide +kernel
theorem dL_law_1058 : decode cL_law 1058 = .ok (.aload_n 1, 1) := by decide +kernel
theorem dL_law_1059 : decode cL_law 1059 = .ok (.aload_n 0, 1) := by decide +kernel
theorem dL_law_1060 : decode cL_law 1060 = .ok (.iload 5, 2) := by decide +kernel
theorem dL_law_1062 : decode cL_law 1062 = .ok (.iconst 1, 1) := by decide +kernel
theorem dL_law_1063 : decode cL_law 1063 = .ok (.iadd, 1) := by decide +kernel
theorem dL_law_1064 : decode cL_law 1064 = .ok (.iaload, 1) := by decide +kernel
theorem dL_law_1065 : decode cL_law 1065 = .ok (.ifCond .eq 7, 3) := by decide +kernel
theorem dL_law_1068 : decode cL_law 1068 = .ok (.iconst 1, 1) := by decide +kernel
theorem dL_law_1069 : decode cL_law 1069 = .ok (.goto 4, 3) := by decide +kernel
theorem dL_law_1072 : decode cL_law 1072 = .ok (.iconst 0, 1) := by decide +kernel
theorem dL_law_1073 : decode cL_law 1073 = .ok (.aload_n 0, 1) := by decide +kernel
theorem dL_law_1074 : decode cL_law 1074 = .ok (.iload 5, 2) := by decide +kernel
theorem dL_law_1076 : decode cL_law 1076 = .ok (.iconst 2, 1) := by decide +kernel
theorem dL_law_1077 : decode cL_law 1077 = .ok (.iadd, 1) := by decide +kernel
theorem dL_law_1078 : decode cL_law 1078 = .ok (.iaload, 1) := by decide +kernel
theorem dL_law_1079 : decode cL_law 1079 = .ok (.aload_n 3, 1) := by decide +kernel
theorem dL_law_1080 : decode cL_law 1080 = .ok (.invokestatic 167, 3) := by decide +kernel
theorem dL_law_1083 : decode cL_law 1083 = .ok (.istore 6, 2) := by decide +kernel
theorem dL_law_1085 : decode cL_law 1085 = .ok (.aload_n 2, 1) := by decide +kernel
theorem dL_law_1086 : decode cL_law 1086 = .ok (.aload_n 0, 1) := by decide +kernel
theorem dL_law_1087 : decode cL_law 1087 = .ok (.iload 5, 2) := by decide +kernel
theorem dL_law_1089 : decode cL_law 1089 = .ok (.iconst 1, 1) := by decide +kernel
theorem dL_law_1090 : decode cL_law 1090 = .ok (.iadd, 1) := by decide +kernel
theorem dL_law_1091 : decode cL_law 1091 = .ok (.iaload, 1) := by decide +kernel
theorem dL_law_1092 : decode cL_law 1092 = .ok (.ifCond .eq 7, 3) := by decide +kernel
theorem dL_law_1095 : decode cL_law 1095 = .ok (.iconst 1, 1) := by decide +kernel
theorem dL_law_1096 : decode cL_law 1096 = .ok (.goto 4, 3) := by decide +kernel
theorem dL_law_1099 : decode cL_law 1099 = .ok (.iconst 0, 1) := by decide +kernel
theorem dL_law_1100 : decode cL_law 1100 = .ok (.aload_n 0, 1) := by decide +kernel
theorem dL_law_1101 : decode cL_law 1101 = .ok (.iload 5, 2) := by decide +kernel
theorem dL_law_1103 : decode cL_law 1103 = .ok (.iconst 2, 1) := by decide +kernel
theorem dL_law_1104 : decode cL_law 1104 = .ok (.iadd, 1) := by decide +kernel
theorem dL_law_1105 : decode cL_law 1105 = .ok (.iaload, 1) := by decide +kernel
theorem dL_law_1106 : decode cL_law 1106 = .ok (.invokevirtual 170, 3) := by decide +kernel
theorem dL_law_1109 : decode cL_law 1109 = .ok (.istore 7, 2) := by decide +kernel
theorem dL_law_1111 : decode cL_law 1111 = .ok (.aload_n 2, 1) := by decide +kernel
theorem dL_law_1112 : decode cL_law 1112 = .ok (.invokevirtual 104, 3) := by decide +kernel
theorem dL_law_1115 : decode cL_law 1115 = .ok (.iload 6, 2) := by decide +kernel
theorem dL_law_1117 : decode cL_law 1117 = .ok (.if_icmp .eq 5, 3) := by decide +kernel
theorem dL_law_1120 : decode cL_law 1120 = .ok (.iconst 0, 1) := by decide +kernel
theorem dL_law_1121 : decode cL_law 1121 = .ok (.ireturn, 1) := by decide +kernel
theorem dL_law_1122 : decode cL_law 1122 = .ok (.iload 6, 2) := by decide +kernel
theorem dL_law_1124 : decode cL_law 1124 = .ok (.ifCond .ne 15, 3) := by decide +kernel
theorem dL_law_1127 : decode cL_law 1127 = .ok (.aload_n 3, 1) := by decide +kernel
theorem dL_law_1128 : decode cL_law 1128 = .ok (.iconst 0, 1) := by decide +kernel
theorem dL_law_1129 : decode cL_law 1129 = .ok (.laload, 1) := by decide +kernel
theorem dL_law_1130 : decode cL_law 1130 = .ok (.iload 7, 2) := by decide +kernel
theorem dL_law_1132 : decode cL_law 1132 = .ok (.i2l, 1) := by decide +kernel
theorem dL_law_1133 : decode cL_law 1133 = .ok (.lcmp, 1) := by decide +kernel
theorem dL_law_1134 : decode cL_law 1134 = .ok (.ifCond .eq 5, 3) := by decide +kernel
theorem dL_law_1137 : decode cL_law 1137 = .ok (.iconst 0, 1) := by decide +kernel
theorem dL_law_1138 : decode cL_law 1138 = .ok (.ireturn, 1) := by decide +kernel
theorem dL_law_1139 : decode cL_law 1139 = .ok (.goto 467, 3) := by decide +kernel
theorem dL_law_1142 : decode cL_law 1142 = .ok (.aload_n 1, 1) := by decide +kernel
theorem dL_law_1143 : decode cL_law 1143 = .ok (.aload_n 0, 1) := by decide +kernel
theorem dL_law_1144 : decode cL_law 1144 = .ok (.iload 5, 2) := by decide +kernel
theorem dL_law_1146 : decode cL_law 1146 = .ok (.iconst 1, 1) := by decide +kernel
theorem dL_law_1147 : decode cL_law 1147 = .ok (.iadd, 1) := by decide +kernel
theorem dL_law_1148 : decode cL_law 1148 = .ok (.iaload, 1) := by decide +kernel
theorem dL_law_1149 : decode cL_law 1149 = .ok (.ifCond .eq 7, 3) := by decide +kernel
theorem dL_law_1152 : decode cL_law 1152 = .ok (.iconst 1, 1) := by decide +kernel
theorem dL_law_1153 : decode cL_law 1153 = .ok (.goto 4, 3) := by decide +kernel
theorem dL_law_1156 : decode cL_law 1156 = .ok (.iconst 0, 1) := by decide +kernel
theorem dL_law_1157 : decode cL_law 1157 = .ok (.aload_n 0, 1) := by decide +kernel
theorem dL_law_1158 : decode cL_law 1158 = .ok (.iload 5, 2) := by decide +kernel
theorem dL_law_1160 : decode cL_law 1160 = .ok (.iconst 2, 1) := by decide +kernel
theorem dL_law_1161 : decode cL_law 1161 = .ok (.iadd, 1) := by decide +kernel
theorem dL_law_1162 : decode cL_law 1162 = .ok (.iaload, 1) := by decide +kernel
theorem dL_law_1163 : decode cL_law 1163 = .ok (.aload_n 3, 1) := by decide +kernel
theorem dL_law_1164 : decode cL_law 1164 = .ok (.invokestatic 171, 3) := by decide +kernel
theorem dL_law_1167 : decode cL_law 1167 = .ok (.istore 6, 2) := by decide +kernel
theorem dL_law_1169 : decode cL_law 1169 = .ok (.aload_n 2, 1) := by decide +kernel
theorem dL_law_1170 : decode cL_law 1170 = .ok (.aload_n 0, 1) := by decide +kernel
theorem dL_law_1171 : decode cL_law 1171 = .ok (.iload 5, 2) := by decide +kernel
theorem dL_law_1173 : decode cL_law 1173 = .ok (.iconst 1, 1) := by decide +kernel
theorem dL_law_1174 : decode cL_law 1174 = .ok (.iadd, 1) := by decide +kernel
theorem dL_law_1175 : decode cL_law 1175 = .ok (.iaload, 1) := by decide +kernel
theorem dL_law_1176 : decode cL_law 1176 = .ok (.ifCond .eq 7, 3) := by decide +kernel
theorem dL_law_1179 : decode cL_law 1179 = .ok (.iconst 1, 1) := by decide +kernel
theorem dL_law_1180 : decode cL_law 1180 = .ok (.goto 4, 3) := by decide +kernel
theorem dL_law_1183 : decode cL_law 1183 = .ok (.iconst 0, 1) := by decide +kernel
theorem dL_law_1184 : decode cL_law 1184 = .ok (.aload_n 0, 1) := by decide +kernel
theorem dL_law_1185 : decode cL_law 1185 = .ok (.iload 5, 2) := by decide +kernel
theorem dL_law_1187 : decode cL_law 1187 = .ok (.iconst 2, 1) := by decide +kernel
theorem dL_law_1188 : decode cL_law 1188 = .ok (.iadd, 1) := by decide +kernel
theorem dL_law_1189 : decode cL_law 1189 = .ok (.iaload, 1) := by decide +kernel
theorem dL_law_1190 : decode cL_law 1190 = .ok (.invokevirtual 173, 3) := by decide +kernel
theorem dL_law_1193 : decode cL_law 1193 = .ok (.istore 7, 2) := by decide +kernel
theorem dL_law_1195 : decode cL_law 1195 = .ok (.aload_n 2, 1) := by decide +kernel
theorem dL_law_1196 : decode cL_law 1196 = .ok (.invokevirtual 104, 3) := by decide +kernel
theorem dL_law_1199 : decode cL_law 1199 = .ok (.iload 6, 2) := by decide +kernel
theorem dL_law_1201 : decode cL_law 1201 = .ok (.if_icmp .eq 5, 3) := by decide +kernel
theorem dL_law_1204 : decode cL_law 1204 = .ok (.iconst 0, 1) := by decide +kernel
theorem dL_law_1205 : decode cL_law 1205 = .ok (.ireturn, 1) := by decide +kernel
theorem dL_law_1206 : decode cL_law 1206 = .ok (.iload 6, 2) := by decide +kernel
theorem dL_law_1208 : decode cL_law 1208 = .ok (.ifCond .ne 15, 3) := by decide +kernel
theorem dL_law_1211 : decode cL_law 1211 = .ok (.aload_n 3, 1) := by decide +kernel
theorem dL_law_1212 : decode cL_law 1212 = .ok (.iconst 0, 1) := by decide +kernel
theorem dL_law_1213 : decode cL_law 1213 = .ok (.laload, 1) := by decide +kernel
theorem dL_law_1214 : decode cL_law 1214 = .ok (.iload 7, 2) := by decide +kernel
theorem dL_law_1216 : decode cL_law 1216 = .ok (.i2l, 1) := by decide +kernel
theorem dL_law_1217 : decode cL_law 1217 = .ok (.lcmp, 1) := by decide +kernel
theorem dL_law_1218 : decode cL_law 1218 = .ok (.ifCond .eq 5, 3) := by decide +kernel
theorem dL_law_1221 : decode cL_law 1221 = .ok (.iconst 0, 1) := by decide +kernel
theorem dL_law_1222 : decode cL_law 1222 = .ok (.ireturn, 1) := by decide +kernel
theorem dL_law_1223 : decode cL_law 1223 = .ok (.goto 383, 3) := by decide +kernel
theorem dL_law_1226 : decode cL_law 1226 = .ok (.aload_n 1, 1) := by decide +kernel
theorem dL_law_1227 : decode cL_law 1227 = .ok (.aload_n 3, 1) := by decide +kernel
theorem dL_law_1228 : decode cL_law 1228 = .ok (.invokestatic 174, 3) := by decide +kernel
theorem dL_law_1231 : decode cL_law 1231 = .ok (.istore 6, 2) := by decide +kernel
theorem dL_law_1233 : decode cL_law 1233 = .ok (.aload_n 2, 1) := by decide +kernel
theorem dL_law_1234 : decode cL_law 1234 = .ok (.invokevirtual 176, 3) := by decide +kernel
theorem dL_law_1237 : decode cL_law 1237 = .ok (.istore 7, 2) := by decide +kernel
theorem dL_law_1239 : decode cL_law 1239 = .ok (.aload_n 2, 1) := by decide +kernel
theorem dL_law_1240 : decode cL_law 1240 = .ok (.invokevirtual 104, 3) := by decide +kernel
theorem dL_law_1243 : decode cL_law 1243 = .ok (.iload 6, 2) := by decide +kernel
theorem dL_law_1245 : decode cL_law 1245 = .ok (.if_icmp .eq 5, 3) := by decide +kernel
theorem dL_law_1248 : decode cL_law 1248 = .ok (.iconst 0, 1) := by decide +kernel
theorem dL_law_1249 : decode cL_law 1249 = .ok (.ireturn, 1) := by decide +kernel
theorem dL_law_1250 : decode cL_law 1250 = .ok (.iload 6, 2) := by decide +kernel
theorem dL_law_1252 : decode cL_law 1252 = .ok (.ifCond .ne 15, 3) := by decide +kernel
theorem dL_law_1255 : decode cL_law 1255 = .ok (.aload_n 3, 1) := by decide +kernel
theorem dL_law_1256 : decode cL_law 1256 = .ok (.iconst 0, 1) := by decide +kernel
theorem dL_law_1257 : decode cL_law 1257 = .ok (.laload, 1) := by decide +kernel
theorem dL_law_1258 : decode cL_law 1258 = .ok (.iload 7, 2) := by decide +kernel
theorem dL_law_1260 : decode cL_law 1260 = .ok (.i2l, 1) := by decide +kernel
theorem dL_law_1261 : decode cL_law 1261 = .ok (.lcmp, 1) := by decide +kernel
theorem dL_law_1262 : decode cL_law 1262 = .ok (.ifCond .eq 5, 3) := by decide +kernel
theorem dL_law_1265 : decode cL_law 1265 = .ok (.iconst 0, 1) := by decide +kernel
theorem dL_law_1266 : decode cL_law 1266 = .ok (.ireturn, 1) := by decide +kernel
theorem dL_law_1267 : decode cL_law 1267 = .ok (.goto 339, 3) := by decide +kernel
theorem dL_law_1270 : decode cL_law 1270 = .ok (.aload_n 1, 1) := by decide +kernel
theorem dL_law_1271 : decode cL_law 1271 = .ok (.aload_n 0, 1) := by decide +kernel
theorem dL_law_1272 : decode cL_law 1272 = .ok (.iload 5, 2) := by decide +kernel
theorem dL_law_1274 : decode cL_law 1274 = .ok (.iconst 1, 1) := by decide +kernel
theorem dL_law_1275 : decode cL_law 1275 = .ok (.iadd, 1) := by decide +kernel
theorem dL_law_1276 : decode cL_law 1276 = .ok (.iaload, 1) := by decide +kernel
theorem dL_law_1277 : decode cL_law 1277 = .ok (.aload_n 3, 1) := by decide +kernel
theorem dL_law_1278 : decode cL_law 1278 = .ok (.invokestatic 177, 3) := by decide +kernel
theorem dL_law_1281 : decode cL_law 1281 = .ok (.istore 6, 2) := by decide +kernel
theorem dL_law_1283 : decode cL_law 1283 = .ok (.aload_n 2, 1) := by decide +kernel
theorem dL_law_1284 : decode cL_law 1284 = .ok (.aload_n 0, 1) := by decide +kernel
theorem dL_law_1285 : decode cL_law 1285 = .ok (.iload 5, 2) := by decide +kernel
theorem dL_law_1287 : decode cL_law 1287 = .ok (.iconst 1, 1) := by decide +kernel
theorem dL_law_1288 : decode cL_law 1288 = .ok (.iadd, 1) := by decide +kernel
theorem dL_law_1289 : decode cL_law 1289 = .ok (.iaload, 1) := by decide +kernel
theorem dL_law_1290 : decode cL_law 1290 = .ok (.invokevirtual 179, 3) := by decide +kernel
theorem dL_law_1293 : decode cL_law 1293 = .ok (.istore 7, 2) := by decide +kernel
theorem dL_law_1295 : decode cL_law 1295 = .ok (.aload_n 2, 1) := by decide +kernel
theorem dL_law_1296 : decode cL_law 1296 = .ok (.invokevirtual 104, 3) := by decide +kernel
theorem dL_law_1299 : decode cL_law 1299 = .ok (.iload 6, 2) := by decide +kernel
theorem dL_law_1301 : decode cL_law 1301 = .ok (.if_icmp .eq 5, 3) := by decide +kernel
theorem dL_law_1304 : decode cL_law 1304 = .ok (.iconst 0, 1) := by decide +kernel
theorem dL_law_1305 : decode cL_law 1305 = .ok (.ireturn, 1) := by decide +kernel
theorem dL_law_1306 : decode cL_law 1306 = .ok (.iload 6, 2) := by decide +kernel
theorem dL_law_1308 : decode cL_law 1308 = .ok (.ifCond .ne 15, 3) := by decide +kernel
theorem dL_law_1311 : decode cL_law 1311 = .ok (.aload_n 3, 1) := by decide +kernel
theorem dL_law_1312 : decode cL_law 1312 = .ok (.iconst 0, 1) := by decide +kernel
theorem dL_law_1313 : decode cL_law 1313 = .ok (.laload, 1) := by decide +kernel
theorem dL_law_1314 : decode cL_law 1314 = .ok (.iload 7, 2) := by decide +kernel
theorem dL_law_1316 : decode cL_law 1316 = .ok (.i2l, 1) := by decide +kernel
theorem dL_law_1317 : decode cL_law 1317 = .ok (.lcmp, 1) := by decide +kernel
theorem dL_law_1318 : decode cL_law 1318 = .ok (.ifCond .eq 5, 3) := by decide +kernel
theorem dL_law_1321 : decode cL_law 1321 = .ok (.iconst 0, 1) := by decide +kernel
theorem dL_law_1322 : decode cL_law 1322 = .ok (.ireturn, 1) := by decide +kernel
theorem dL_law_1323 : decode cL_law 1323 = .ok (.goto 283, 3) := by decide +kernel
theorem dL_law_1326 : decode cL_law 1326 = .ok (.aload_n 1, 1) := by decide +kernel
theorem dL_law_1327 : decode cL_law 1327 = .ok (.aload_n 0, 1) := by decide +kernel
theorem dL_law_1328 : decode cL_law 1328 = .ok (.iload 5, 2) := by decide +kernel
theorem dL_law_1330 : decode cL_law 1330 = .ok (.iconst 1, 1) := by decide +kernel
theorem dL_law_1331 : decode cL_law 1331 = .ok (.iadd, 1) := by decide +kernel
theorem dL_law_1332 : decode cL_law 1332 = .ok (.iaload, 1) := by decide +kernel
theorem dL_law_1333 : decode cL_law 1333 = .ok (.aload_n 0, 1) := by decide +kernel
theorem dL_law_1334 : decode cL_law 1334 = .ok (.iload 5, 2) := by decide +kernel
theorem dL_law_1336 : decode cL_law 1336 = .ok (.iconst 2, 1) := by decide +kernel
theorem dL_law_1337 : decode cL_law 1337 = .ok (.iadd, 1) := by decide +kernel
theorem dL_law_1338 : decode cL_law 1338 = .ok (.iaload, 1) := by decide +kernel
theorem dL_law_1339 : decode cL_law 1339 = .ok (.aload_n 3, 1) := by decide +kernel
theorem dL_law_1340 : decode cL_law 1340 = .ok (.invokestatic 180, 3) := by decide +kernel
theorem dL_law_1343 : decode cL_law 1343 = .ok (.istore 6, 2) := by decide +kernel
theorem dL_law_1345 : decode cL_law 1345 = .ok (.aload_n 2, 1) := by decide +kernel
theorem dL_law_1346 : decode cL_law 1346 = .ok (.aload_n 0, 1) := by decide +kernel
theorem dL_law_1347 : decode cL_law 1347 = .ok (.iload 5, 2) := by decide +kernel
theorem dL_law_1349 : decode cL_law 1349 = .ok (.iconst 1, 1) := by decide +kernel
theorem dL_law_1350 : decode cL_law 1350 = .ok (.iadd, 1) := by decide +kernel
theorem dL_law_1351 : decode cL_law 1351 = .ok (.iaload, 1) := by decide +kernel
theorem dL_law_1352 : decode cL_law 1352 = .ok (.aload_n 0, 1) := by decide +kernel
theorem dL_law_1353 : decode cL_law 1353 = .ok (.iload 5, 2) := by decide +kernel
theorem dL_law_1355 : decode cL_law 1355 = .ok (.iconst 2, 1) := by decide +kernel
theorem dL_law_1356 : decode cL_law 1356 = .ok (.iadd, 1) := by decide +kernel
theorem dL_law_1357 : decode cL_law 1357 = .ok (.iaload, 1) := by decide +kernel
theorem dL_law_1358 : decode cL_law 1358 = .ok (.invokevirtual 182, 3) := by decide +kernel
theorem dL_law_1361 : decode cL_law 1361 = .ok (.istore 7, 2) := by decide +kernel
theorem dL_law_1363 : decode cL_law 1363 = .ok (.aload_n 2, 1) := by decide +kernel
theorem dL_law_1364 : decode cL_law 1364 = .ok (.invokevirtual 104, 3) := by decide +kernel
theorem dL_law_1367 : decode cL_law 1367 = .ok (.iload 6, 2) := by decide +kernel
theorem dL_law_1369 : decode cL_law 1369 = .ok (.if_icmp .eq 5, 3) := by decide +kernel
theorem dL_law_1372 : decode cL_law 1372 = .ok (.iconst 0, 1) := by decide +kernel
theorem dL_law_1373 : decode cL_law 1373 = .ok (.ireturn, 1) := by decide +kernel
theorem dL_law_1374 : decode cL_law 1374 = .ok (.iload 6, 2) := by decide +kernel
theorem dL_law_1376 : decode cL_law 1376 = .ok (.ifCond .ne 15, 3) := by decide +kernel
theorem dL_law_1379 : decode cL_law 1379 = .ok (.aload_n 3, 1) := by decide +kernel
theorem dL_law_1380 : decode cL_law 1380 = .ok (.iconst 0, 1) := by decide +kernel
theorem dL_law_1381 : decode cL_law 1381 = .ok (.laload, 1) := by decide +kernel
theorem dL_law_1382 : decode cL_law 1382 = .ok (.iload 7, 2) := by decide +kernel
theorem dL_law_1384 : decode cL_law 1384 = .ok (.i2l, 1) := by decide +kernel
theorem dL_law_1385 : decode cL_law 1385 = .ok (.lcmp, 1) := by decide +kernel
theorem dL_law_1386 : decode cL_law 1386 = .ok (.ifCond .eq 5, 3) := by decide +kernel
theorem dL_law_1389 : decode cL_law 1389 = .ok (.iconst 0, 1) := by decide +kernel
theorem dL_law_1390 : decode cL_law 1390 = .ok (.ireturn, 1) := by decide +kernel
theorem dL_law_1391 : decode cL_law 1391 = .ok (.goto 215, 3) := by decide +kernel
theorem dL_law_1394 : decode cL_law 1394 = .ok (.aload_n 1, 1) := by decide +kernel
theorem dL_law_1395 : decode cL_law 1395 = .ok (.aload_n 0, 1) := by decide +kernel
theorem dL_law_1396 : decode cL_law 1396 = .ok (.iload 5, 2) := by decide +kernel
theorem dL_law_1398 : decode cL_law 1398 = .ok (.iconst 1, 1) := by decide +kernel
theorem dL_law_1399 : decode cL_law 1399 = .ok (.iadd, 1) := by decide +kernel
theorem dL_law_1400 : decode cL_law 1400 = .ok (.iaload, 1) := by decide +kernel
theorem dL_law_1401 : decode cL_law 1401 = .ok (.aload_n 0, 1) := by decide +kernel
theorem dL_law_1402 : decode cL_law 1402 = .ok (.iload 5, 2) := by decide +kernel
theorem dL_law_1404 : decode cL_law 1404 = .ok (.iconst 2, 1) := by decide +kernel
theorem dL_law_1405 : decode cL_law 1405 = .ok (.iadd, 1) := by decide +kernel
theorem dL_law_1406 : decode cL_law 1406 = .ok (.iaload, 1) := by decide +kernel
theorem dL_law_1407 : decode cL_law 1407 = .ok (.aload 4, 2) := by decide +kernel
theorem dL_law_1409 : decode cL_law 1409 = .ok (.invokestatic 183, 3) := by decide +kernel
theorem dL_law_1412 : decode cL_law 1412 = .ok (.istore 6, 2) := by decide +kernel
theorem dL_law_1414 : decode cL_law 1414 = .ok (.aload_n 2, 1) := by decide +kernel
theorem dL_law_1415 : decode cL_law 1415 = .ok (.aload_n 0, 1) := by decide +kernel
theorem dL_law_1416 : decode cL_law 1416 = .ok (.iload 5, 2) := by decide +kernel
theorem dL_law_1418 : decode cL_law 1418 = .ok (.iconst 1, 1) := by decide +kernel
theorem dL_law_1419 : decode cL_law 1419 = .ok (.iadd, 1) := by decide +kernel
theorem dL_law_1420 : decode cL_law 1420 = .ok (.iaload, 1) := by decide +kernel
theorem dL_law_1421 : decode cL_law 1421 = .ok (.aload_n 0, 1) := by decide +kernel
theorem dL_law_1422 : decode cL_law 1422 = .ok (.iload 5, 2) := by decide +kernel
theorem dL_law_1424 : decode cL_law 1424 = .ok (.iconst 2, 1) := by decide +kernel
theorem dL_law_1425 : decode cL_law 1425 = .ok (.iadd, 1) := by decide +kernel
theorem dL_law_1426 : decode cL_law 1426 = .ok (.iaload, 1) := by decide +kernel
theorem dL_law_1427 : decode cL_law 1427 = .ok (.invokevirtual 186, 3) := by decide +kernel
theorem dL_law_1430 : decode cL_law 1430 = .ok (.dstore 7, 2) := by decide +kernel
theorem dL_law_1432 : decode cL_law 1432 = .ok (.aload_n 2, 1) := by decide +kernel
theorem dL_law_1433 : decode cL_law 1433 = .ok (.invokevirtual 104, 3) := by decide +kernel
theorem dL_law_1436 : decode cL_law 1436 = .ok (.iload 6, 2) := by decide +kernel
theorem dL_law_1438 : decode cL_law 1438 = .ok (.if_icmp .eq 5, 3) := by decide +kernel
theorem dL_law_1441 : decode cL_law 1441 = .ok (.iconst 0, 1) := by decide +kernel
theorem dL_law_1442 : decode cL_law 1442 = .ok (.ireturn, 1) := by decide +kernel
theorem dL_law_1443 : decode cL_law 1443 = .ok (.iload 6, 2) := by decide +kernel
theorem dL_law_1445 : decode cL_law 1445 = .ok (.ifCond .ne 35, 3) := by decide +kernel
theorem dL_law_1448 : decode cL_law 1448 = .ok (.aload 4, 2) := by decide +kernel
theorem dL_law_1450 : decode cL_law 1450 = .ok (.iconst 0, 1) := by decide +kernel
theorem dL_law_1451 : decode cL_law 1451 = .ok (.daload, 1) := by decide +kernel
theorem dL_law_1452 : decode cL_law 1452 = .ok (.dload 7, 2) := by decide +kernel
theorem dL_law_1454 : decode cL_law 1454 = .ok (.dcmp .l, 1) := by decide +kernel
theorem dL_law_1455 : decode cL_law 1455 = .ok (.ifCond .eq 25, 3) := by decide +kernel
theorem dL_law_1458 : decode cL_law 1458 = .ok (.aload 4, 2) := by decide +kernel
theorem dL_law_1460 : decode cL_law 1460 = .ok (.iconst 0, 1) := by decide +kernel
theorem dL_law_1461 : decode cL_law 1461 = .ok (.daload, 1) := by decide +kernel
theorem dL_law_1462 : decode cL_law 1462 = .ok (.aload 4, 2) := by decide +kernel
theorem dL_law_1464 : decode cL_law 1464 = .ok (.iconst 0, 1) := by decide +kernel
theorem dL_law_1465 : decode cL_law 1465 = .ok (.daload, 1) := by decide +kernel
theorem dL_law_1466 : decode cL_law 1466 = .ok (.dcmp .l, 1) := by decide +kernel
theorem dL_law_1467 : decode cL_law 1467 = .ok (.ifCond .eq 11, 3) := by decide +kernel
theorem dL_law_1470 : decode cL_law 1470 = .ok (.dload 7, 2) := by decide +kernel
theorem dL_law_1472 : decode cL_law 1472 = .ok (.dload 7, 2) := by decide +kernel
theorem dL_law_1474 : decode cL_law 1474 = .ok (.dcmp .l, 1) := by decide +kernel
theorem dL_law_1475 : decode cL_law 1475 = .ok (.ifCond .ne 5, 3) := by decide +kernel
theorem dL_law_1478 : decode cL_law 1478 = .ok (.iconst 0, 1) := by decide +kernel
theorem dL_law_1479 : decode cL_law 1479 = .ok (.ireturn, 1) := by decide +kernel
theorem dL_law_1480 : decode cL_law 1480 = .ok (.goto 126, 3) := by decide +kernel
theorem dL_law_1483 : decode cL_law 1483 = .ok (.aload_n 1, 1) := by decide +kernel
theorem dL_law_1484 : decode cL_law 1484 = .ok (.aload 4, 2) := by decide +kernel
theorem dL_law_1486 : decode cL_law 1486 = .ok (.invokestatic 187, 3) := by decide +kernel
theorem dL_law_1489 : decode cL_law 1489 = .ok (.istore 6, 2) := by decide +kernel
theorem dL_law_1491 : decode cL_law 1491 = .ok (.aload_n 2, 1) := by decide +kernel
theorem dL_law_1492 : decode cL_law 1492 = .ok (.invokevirtual 190, 3) := by decide +kernel
theorem dL_law_1495 : decode cL_law 1495 = .ok (.fstore 7, 2) := by decide +kernel
theorem dL_law_1497 : decode cL_law 1497 = .ok (.aload_n 2, 1) := by decide +kernel
theorem dL_law_1498 : decode cL_law 1498 = .ok (.invokevirtual 104, 3) := by decide +kernel
theorem dL_law_1501 : decode cL_law 1501 = .ok (.iload 6, 2) := by decide +kernel
theorem dL_law_1503 : decode cL_law 1503 = .ok (.if_icmp .eq 5, 3) := by decide +kernel
theorem dL_law_1506 : decode cL_law 1506 = .ok (.iconst 0, 1) := by decide +kernel
theorem dL_law_1507 : decode cL_law 1507 = .ok (.ireturn, 1) := by decide +kernel
theorem dL_law_1508 : decode cL_law 1508 = .ok (.iload 6, 2) := by decide +kernel
theorem dL_law_1510 : decode cL_law 1510 = .ok (.ifCond .ne 36, 3) := by decide +kernel
theorem dL_law_1513 : decode cL_law 1513 = .ok (.aload 4, 2) := by decide +kernel
theorem dL_law_1515 : decode cL_law 1515 = .ok (.iconst 0, 1) := by decide +kernel
theorem dL_law_1516 : decode cL_law 1516 = .ok (.daload, 1) := by decide +kernel
theorem dL_law_1517 : decode cL_law 1517 = .ok (.fload 7, 2) := by decide +kernel
theorem dL_law_1519 : decode cL_law 1519 = .ok (.f2d, 1) := by decide +kernel
theorem dL_law_1520 : decode cL_law 1520 = .ok (.dcmp .l, 1) := by decide +kernel
theorem dL_law_1521 : decode cL_law 1521 = .ok (.ifCond .eq 25, 3) := by decide +kernel
theorem dL_law_1524 : decode cL_law 1524 = .ok (.aload 4, 2) := by decide +kernel
theorem dL_law_1526 : decode cL_law 1526 = .ok (.iconst 0, 1) := by decide +kernel
theorem dL_law_1527 : decode cL_law 1527 = .ok (.daload, 1) := by decide +kernel
theorem dL_law_1528 : decode cL_law 1528 = .ok (.aload 4, 2) := by decide +kernel
theorem dL_law_1530 : decode cL_law 1530 = .ok (.iconst 0, 1) := by decide +kernel
theorem dL_law_1531 : decode cL_law 1531 = .ok (.daload, 1) := by decide +kernel
theorem dL_law_1532 : decode cL_law 1532 = .ok (.dcmp .l, 1) := by decide +kernel
theorem dL_law_1533 : decode cL_law 1533 = .ok (.ifCond .eq 11, 3) := by decide +kernel
theorem dL_law_1536 : decode cL_law 1536 = .ok (.fload 7, 2) := by decide +kernel
theorem dL_law_1538 : decode cL_law 1538 = .ok (.fload 7, 2) := by decide +kernel
theorem dL_law_1540 : decode cL_law 1540 = .ok (.fcmp .l, 1) := by decide +kernel
theorem dL_law_1541 : decode cL_law 1541 = .ok (.ifCond .ne 5, 3) := by decide +kernel
theorem dL_law_1544 : decode cL_law 1544 = .ok (.iconst 0, 1) := by decide +kernel
theorem dL_law_1545 : decode cL_law 1545 = .ok (.ireturn, 1) := by decide +kernel
theorem dL_law_1546 : decode cL_law 1546 = .ok (.goto 60, 3) := by decide +kernel
theorem dL_law_1549 : decode cL_law 1549 = .ok (.aload_n 1, 1) := by decide +kernel
theorem dL_law_1550 : decode cL_law 1550 = .ok (.invokevirtual 191, 3) := by decide +kernel
theorem dL_law_1553 : decode cL_law 1553 = .ok (.aload_n 2, 1) := by decide +kernel
theorem dL_law_1554 : decode cL_law 1554 = .ok (.invokevirtual 194, 3) := by decide +kernel
theorem dL_law_1557 : decode cL_law 1557 = .ok (.if_icmp .eq 49, 3) := by decide +kernel
theorem dL_law_1560 : decode cL_law 1560 = .ok (.iconst 0, 1) := by decide +kernel
theorem dL_law_1561 : decode cL_law 1561 = .ok (.ireturn, 1) := by decide +kernel
theorem dL_law_1562 : decode cL_law 1562 = .ok (.aload_n 1, 1) := by decide +kernel
theorem dL_law_1563 : decode cL_law 1563 = .ok (.aload_n 3, 1) := by decide +kernel
theorem dL_law_1564 : decode cL_law 1564 = .ok (.invokestatic 195, 3) := by decide +kernel
theorem dL_law_1567 : decode cL_law 1567 = .ok (.istore 6, 2) := by decide +kernel
theorem dL_law_1569 : decode cL_law 1569 = .ok (.aload_n 2, 1) := by decide +kernel
theorem dL_law_1570 : decode cL_law 1570 = .ok (.invokevirtual 197, 3) := by decide +kernel
theorem dL_law_1573 : decode cL_law 1573 = .ok (.istore 7, 2) := by decide +kernel
theorem dL_law_1575 : decode cL_law 1575 = .ok (.aload_n 2, 1) := by decide +kernel
theorem dL_law_1576 : decode cL_law 1576 = .ok (.invokevirtual 104, 3) := by decide +kernel
theorem dL_law_1579 : decode cL_law 1579 = .ok (.iload 6, 2) := by decide +kernel
theorem dL_law_1581 : decode cL_law 1581 = .ok (.if_icmp .eq 5, 3) := by decide +kernel
theorem dL_law_1584 : decode cL_law 1584 = .ok (.iconst 0, 1) := by decide +kernel
theorem dL_law_1585 : decode cL_law 1585 = .ok (.ireturn, 1) := by decide +kernel
theorem dL_law_1586 : decode cL_law 1586 = .ok (.iload 6, 2) := by decide +kernel
theorem dL_law_1588 : decode cL_law 1588 = .ok (.ifCond .ne 15, 3) := by decide +kernel
theorem dL_law_1591 : decode cL_law 1591 = .ok (.aload_n 3, 1) := by decide +kernel
theorem dL_law_1592 : decode cL_law 1592 = .ok (.iconst 0, 1) := by decide +kernel
theorem dL_law_1593 : decode cL_law 1593 = .ok (.laload, 1) := by decide +kernel
theorem dL_law_1594 : decode cL_law 1594 = .ok (.iload 7, 2) := by decide +kernel
theorem dL_law_1596 : decode cL_law 1596 = .ok (.i2l, 1) := by decide +kernel
theorem dL_law_1597 : decode cL_law 1597 = .ok (.lcmp, 1) := by decide +kernel
theorem dL_law_1598 : decode cL_law 1598 = .ok (.ifCond .eq 5, 3) := by decide +kernel
theorem dL_law_1601 : decode cL_law 1601 = .ok (.iconst 0, 1) := by decide +kernel
theorem dL_law_1602 : decode cL_law 1602 = .ok (.ireturn, 1) := by decide +kernel
theorem dL_law_1603 : decode cL_law 1603 = .ok (.goto 3, 3) := by decide +kernel
theorem dL_law_1606 : decode cL_law 1606 = .ok (.iinc 5 4, 3) := by decide +kernel
theorem dL_law_1609 : decode cL_law 1609 = .ok (.goto (-1581), 3) := by decide +kernel
theorem dL_law_1612 : decode cL_law 1612 = .ok (.iconst 1, 1) := by decide +kernel
theorem dL_law_1613 : decode cL_law 1613 = .ok (.ireturn, 1) := by decide +kernel
abbrev vwCl : List vw_C := [(RX1, TX1, 2), (RX1, TX1, 2), (RJx00060, TJx00060, 6), (RX1, TX1, 2), (RX1, TX1, 2), (RX2, TX2, 5), (RX3, TX3, 3), (RX5, TX5, 4), (RX6, TX6, 2), (RX7, TX7, 5), (RX8, TX8, 2), (RX9, TX9, 17), (RX10, TX10, 35)]
