
/-! ===== BEGIN printed: names, fields, word lists, decode rows ===== -/
def RX0 : String := "GuestFrames$Draft"
def TX0 : u_T := fun k => match k with
  | 0 => ("GuestFrames$Draft", "tape", "[B", true)
  | 1 => ("GuestFrames$Draft", "rows", "[I", true)
  | 2 => ("GuestFrames$Draft", "length", "I", false)
  | _ => ("GuestFrames$Draft", "handlers", "I", false)
def tyX0 : Nat → FieldType := fun k => match k with
  | 0 => .array .byte
  | 1 => .array .int
  | 2 => .int
  | _ => .int
abbrev wsX00 : List Cond := u_ws RX0 TX0 4
theorem nmX0 : ∀ a, a < 4 → ∀ b, b < 4 → a ≠ b → (TX0 a).2.1 ≠ (TX0 b).2.1 := by decide +kernel
theorem tyX0_ok : ∀ k, k < 4 → parseFieldDescriptor (TX0 k).2.2.1 = some (tyX0 k) := by decide +kernel
abbrev cX0_init : ByteArray := prog_2_method_1_code
def yX0_init : MethodName := ⟨RX0, "<init>", "()V"⟩
abbrev cX0_append : ByteArray := prog_2_method_2_code
def yX0_append : MethodName := ⟨RX0, "append", "(II)V"⟩
abbrev cX0_appendHandler : ByteArray := prog_2_method_3_code
def yX0_appendHandler : MethodName := ⟨RX0, "appendHandler", "(IIII)V"⟩
abbrev cX0_code : ByteArray := prog_2_method_4_code
def yX0_code : MethodName := ⟨RX0, "code", "()[B"⟩
abbrev cX0_handlerRows : ByteArray := prog_2_method_5_code
def yX0_handlerRows : MethodName := ⟨RX0, "handlerRows", "()[I"⟩
abbrev cX0_empty : ByteArray := prog_2_method_6_code
def yX0_empty : MethodName := ⟨RX0, "empty", "()V"⟩
def RX1 : String := "GuestFrames$Frame"
def TX1 : u_T := fun k => match k with
  | 0 => ("GuestFrames$Frame", "numbers", "[J", true)
  | 1 => ("GuestFrames$Frame", "references", "[I", true)
  | 2 => ("GuestFrames$Frame", "top", "I", false)
  | 3 => ("GuestFrames$Frame", "routine", "LGuestFrames$Routine;", false)
  | _ => ("GuestFrames$Frame", "place", "I", false)
def tyX1 : Nat → FieldType := fun k => match k with
  | 0 => .array .long
  | 1 => .array .int
  | 2 => .int
  | 3 => .object "GuestFrames$Routine"
  | _ => .int
abbrev wsX10 : List Cond := u_ws RX1 TX1 5
theorem nmX1 : ∀ a, a < 5 → ∀ b, b < 5 → a ≠ b → (TX1 a).2.1 ≠ (TX1 b).2.1 := by decide +kernel
theorem tyX1_ok : ∀ k, k < 5 → parseFieldDescriptor (TX1 k).2.2.1 = some (tyX1 k) := by decide +kernel
abbrev cX1_init : ByteArray := prog_3_method_1_code
def yX1_init : MethodName := ⟨RX1, "<init>", "(LGuestFrames$Routine;)V"⟩
abbrev cX1_routine : ByteArray := prog_3_method_2_code
def yX1_routine : MethodName := ⟨RX1, "routine", "()LGuestFrames$Routine;"⟩
abbrev cX1_begin : ByteArray := prog_3_method_3_code
def yX1_begin : MethodName := ⟨RX1, "begin", "(LGuestFrames$Routine;)V"⟩
abbrev cX1_opcode : ByteArray := prog_3_method_4_code
def yX1_opcode : MethodName := ⟨RX1, "opcode", "()I"⟩
abbrev cX1_operand : ByteArray := prog_3_method_5_code
def yX1_operand : MethodName := ⟨RX1, "operand", "(I)I"⟩
abbrev cX1_pair : ByteArray := prog_3_method_6_code
def yX1_pair : MethodName := ⟨RX1, "pair", "()I"⟩
abbrev cX1_number : ByteArray := prog_3_method_7_code
def yX1_number : MethodName := ⟨RX1, "number", "(I)J"⟩
abbrev cX1_reference : ByteArray := prog_3_method_8_code
def yX1_reference : MethodName := ⟨RX1, "reference", "(I)I"⟩
abbrev cX1_drop : ByteArray := prog_3_method_9_code
def yX1_drop : MethodName := ⟨RX1, "drop", "(I)V"⟩
abbrev cX1_pushNumber : ByteArray := prog_3_method_10_code
def yX1_pushNumber : MethodName := ⟨RX1, "pushNumber", "(J)V"⟩
abbrev cX1_pushReference : ByteArray := prog_3_method_11_code
def yX1_pushReference : MethodName := ⟨RX1, "pushReference", "(I)V"⟩
abbrev cX1_setNumber : ByteArray := prog_3_method_12_code
def yX1_setNumber : MethodName := ⟨RX1, "setNumber", "(IJ)V"⟩
abbrev cX1_pushLocal : ByteArray := prog_3_method_13_code
def yX1_pushLocal : MethodName := ⟨RX1, "pushLocal", "(I)V"⟩
abbrev cX1_popLocal : ByteArray := prog_3_method_14_code
def yX1_popLocal : MethodName := ⟨RX1, "popLocal", "(I)V"⟩
abbrev cX1_increase : ByteArray := prog_3_method_15_code
def yX1_increase : MethodName := ⟨RX1, "increase", "(II)V"⟩
abbrev cX1_duplicate : ByteArray := prog_3_method_16_code
def yX1_duplicate : MethodName := ⟨RX1, "duplicate", "()V"⟩
abbrev cX1_exchange : ByteArray := prog_3_method_17_code
def yX1_exchange : MethodName := ⟨RX1, "exchange", "()V"⟩
abbrev cX1_takeArguments : ByteArray := prog_3_method_18_code
def yX1_takeArguments : MethodName := ⟨RX1, "takeArguments", "(LGuestFrames$Frame;)V"⟩
abbrev cX1_catchAt : ByteArray := prog_3_method_19_code
def yX1_catchAt : MethodName := ⟨RX1, "catchAt", "(II)V"⟩
abbrev cX1_showReferences : ByteArray := prog_3_method_20_code
def yX1_showReferences : MethodName := ⟨RX1, "showReferences", "(LGuestFrames$Heap;)V"⟩
abbrev cX1_copySlot : ByteArray := prog_3_method_21_code
def yX1_copySlot : MethodName := ⟨RX1, "copySlot", "(LGuestFrames$Frame;II)V"⟩
def RX2 : String := "GuestFrames$Heap"
def TX2 : u_T := fun k => match k with
  | 0 => ("GuestFrames$Heap", "types", "LGuestFrames$Types;", true)
  | 1 => ("GuestFrames$Heap", "words", "[I", true)
  | 2 => ("GuestFrames$Heap", "start", "[I", true)
  | 3 => ("GuestFrames$Heap", "size", "[I", true)
  | 4 => ("GuestFrames$Heap", "reachedIn", "[I", true)
  | 5 => ("GuestFrames$Heap", "order", "[I", true)
  | 6 => ("GuestFrames$Heap", "reached", "[I", true)
  | 7 => ("GuestFrames$Heap", "used", "I", false)
  | 8 => ("GuestFrames$Heap", "top", "I", false)
  | 9 => ("GuestFrames$Heap", "search", "I", false)
  | _ => ("GuestFrames$Heap", "reachedHandles", "I", false)
def tyX2 : Nat → FieldType := fun k => match k with
  | 0 => .object "GuestFrames$Types"
  | 1 => .array .int
  | 2 => .array .int
  | 3 => .array .int
  | 4 => .array .int
  | 5 => .array .int
  | 6 => .array .int
  | 7 => .int
  | 8 => .int
  | 9 => .int
  | _ => .int
abbrev wsX20 : List Cond := u_ws RX2 TX2 11
theorem nmX2 : ∀ a, a < 11 → ∀ b, b < 11 → a ≠ b → (TX2 a).2.1 ≠ (TX2 b).2.1 := by decide +kernel
theorem tyX2_ok : ∀ k, k < 11 → parseFieldDescriptor (TX2 k).2.2.1 = some (tyX2 k) := by decide +kernel
abbrev cX2_init : ByteArray := prog_4_method_1_code
def yX2_init : MethodName := ⟨RX2, "<init>", "(LGuestFrames$Types;I)V"⟩
abbrev cX2_wordsOfArray : ByteArray := prog_4_method_2_code
def yX2_wordsOfArray : MethodName := ⟨RX2, "wordsOfArray", "(IJ)J"⟩
abbrev cX2_wordsOfObject : ByteArray := prog_4_method_3_code
def yX2_wordsOfObject : MethodName := ⟨RX2, "wordsOfObject", "(I)I"⟩
abbrev cX2_empty : ByteArray := prog_4_method_4_code
def yX2_empty : MethodName := ⟨RX2, "empty", "()V"⟩
abbrev cX2_beginSearch : ByteArray := prog_4_method_5_code
def yX2_beginSearch : MethodName := ⟨RX2, "beginSearch", "()V"⟩
abbrev cX2_reach : ByteArray := prog_4_method_6_code
def yX2_reach : MethodName := ⟨RX2, "reach", "(I)V"⟩
abbrev cX2_reachedWords : ByteArray := prog_4_method_7_code
def yX2_reachedWords : MethodName := ⟨RX2, "reachedWords", "()I"⟩
abbrev cX2_reachWhatHas : ByteArray := prog_4_method_8_code
def yX2_reachWhatHas : MethodName := ⟨RX2, "reachWhatHas", "(I)V"⟩
abbrev cX2_add : ByteArray := prog_4_method_9_code
def yX2_add : MethodName := ⟨RX2, "add", "(III)I"⟩
abbrev cX2_sweep : ByteArray := prog_4_method_10_code
def yX2_sweep : MethodName := ⟨RX2, "sweep", "()V"⟩
abbrev cX2_tag : ByteArray := prog_4_method_11_code
def yX2_tag : MethodName := ⟨RX2, "tag", "(I)I"⟩
abbrev cX2_length : ByteArray := prog_4_method_12_code
def yX2_length : MethodName := ⟨RX2, "length", "(I)I"⟩
abbrev cX2_isArray : ByteArray := prog_4_method_13_code
def yX2_isArray : MethodName := ⟨RX2, "isArray", "(I)Z"⟩
abbrev cX2_classes : ByteArray := prog_4_method_14_code
def yX2_classes : MethodName := ⟨RX2, "classes", "(I)I"⟩
abbrev cX2_field : ByteArray := prog_4_method_15_code
def yX2_field : MethodName := ⟨RX2, "field", "(II)I"⟩
abbrev cX2_setField : ByteArray := prog_4_method_16_code
def yX2_setField : MethodName := ⟨RX2, "setField", "(III)V"⟩
abbrev cX2_element : ByteArray := prog_4_method_17_code
def yX2_element : MethodName := ⟨RX2, "element", "(II)J"⟩
abbrev cX2_setElement : ByteArray := prog_4_method_18_code
def yX2_setElement : MethodName := ⟨RX2, "setElement", "(IIJ)V"⟩
abbrev cX2_setBits : ByteArray := prog_4_method_19_code
def yX2_setBits : MethodName := ⟨RX2, "setBits", "(IIII)V"⟩
def RX3 : String := "GuestFrames$Judge"
def TX3 : u_T := fun k => match k with
  | 0 => ("GuestFrames$Judge", "types", "LGuestFrames$Types;", true)
  | 1 => ("GuestFrames$Judge", "routines", "Ljava/util/ArrayList;", true)
  | 2 => ("GuestFrames$Judge", "seen", "[Z", true)
  | 3 => ("GuestFrames$Judge", "waits", "[Z", true)
  | 4 => ("GuestFrames$Judge", "waiting", "[I", true)
  | 5 => ("GuestFrames$Judge", "stackAt", "[I", true)
  | 6 => ("GuestFrames$Judge", "localsAt", "[I", true)
  | 7 => ("GuestFrames$Judge", "waitingPlaces", "I", false)
  | 8 => ("GuestFrames$Judge", "routine", "LGuestFrames$Routine;", false)
  | 9 => ("GuestFrames$Judge", "good", "Z", false)
  | 10 => ("GuestFrames$Judge", "stack", "I", false)
  | _ => ("GuestFrames$Judge", "locals", "I", false)
def tyX3 : Nat → FieldType := fun k => match k with
  | 0 => .object "GuestFrames$Types"
  | 1 => .object "java/util/ArrayList"
  | 2 => .array .boolean
  | 3 => .array .boolean
  | 4 => .array .int
  | 5 => .array .int
  | 6 => .array .int
  | 7 => .int
  | 8 => .object "GuestFrames$Routine"
  | 9 => .boolean
  | 10 => .int
  | _ => .int
abbrev wsX30 : List Cond := u_ws RX3 TX3 12
theorem nmX3 : ∀ a, a < 12 → ∀ b, b < 12 → a ≠ b → (TX3 a).2.1 ≠ (TX3 b).2.1 := by decide +kernel
theorem tyX3_ok : ∀ k, k < 12 → parseFieldDescriptor (TX3 k).2.2.1 = some (tyX3 k) := by decide +kernel
abbrev cX3_init : ByteArray := prog_5_method_1_code
def yX3_init : MethodName := ⟨RX3, "<init>", "(LGuestFrames$Types;Ljava/util/ArrayList;)V"⟩
abbrev cX3_findsGood : ByteArray := prog_5_method_2_code
def yX3_findsGood : MethodName := ⟨RX3, "findsGood", "(LGuestFrames$Routine;)Z"⟩
abbrev cX3_require : ByteArray := prog_5_method_3_code
def yX3_require : MethodName := ⟨RX3, "require", "(Z)V"⟩
abbrev cX3_look : ByteArray := prog_5_method_4_code
def yX3_look : MethodName := ⟨RX3, "look", "(I)V"⟩
abbrev cX3_leadToHandlers : ByteArray := prog_5_method_5_code
def yX3_leadToHandlers : MethodName := ⟨RX3, "leadToHandlers", "(I)V"⟩
abbrev cX3_lead : ByteArray := prog_5_method_6_code
def yX3_lead : MethodName := ⟨RX3, "lead", "(III)V"⟩
abbrev cX3_await : ByteArray := prog_5_method_7_code
def yX3_await : MethodName := ⟨RX3, "await", "(I)V"⟩
abbrev cX3_commonKinds : ByteArray := prog_5_method_8_code
def yX3_commonKinds : MethodName := ⟨RX3, "commonKinds", "(II)I"⟩
abbrev cX3_take : ByteArray := prog_5_method_9_code
def yX3_take : MethodName := ⟨RX3, "take", "(I)V"⟩
abbrev cX3_takeNarrow : ByteArray := prog_5_method_10_code
def yX3_takeNarrow : MethodName := ⟨RX3, "takeNarrow", "()I"⟩
abbrev cX3_give : ByteArray := prog_5_method_11_code
def yX3_give : MethodName := ⟨RX3, "give", "(I)V"⟩
abbrev cX3_heed : ByteArray := prog_5_method_12_code
def yX3_heed : MethodName := ⟨RX3, "heed", "(III)V"⟩
abbrev cX3_readLocal : ByteArray := prog_5_method_13_code
def yX3_readLocal : MethodName := ⟨RX3, "readLocal", "(II)V"⟩
abbrev cX3_setLocal : ByteArray := prog_5_method_14_code
def yX3_setLocal : MethodName := ⟨RX3, "setLocal", "(II)V"⟩
abbrev cX3_duplicate : ByteArray := prog_5_method_15_code
def yX3_duplicate : MethodName := ⟨RX3, "duplicate", "()V"⟩
abbrev cX3_exchange : ByteArray := prog_5_method_16_code
def yX3_exchange : MethodName := ⟨RX3, "exchange", "()V"⟩
abbrev cX3_fieldKind : ByteArray := prog_5_method_17_code
def yX3_fieldKind : MethodName := ⟨RX3, "fieldKind", "(I)I"⟩
abbrev cX3_passCall : ByteArray := prog_5_method_18_code
def yX3_passCall : MethodName := ⟨RX3, "passCall", "(I)V"⟩
abbrev cX3_isSortOfNumbers : ByteArray := prog_5_method_19_code
def yX3_isSortOfNumbers : MethodName := ⟨RX3, "isSortOfNumbers", "(I)Z"⟩
def RX4 : String := "GuestFrames$Machine"
def TX4 : u_T := fun k => match k with
  | 0 => ("GuestFrames$Machine", "types", "LGuestFrames$Types;", true)
  | 1 => ("GuestFrames$Machine", "routines", "Ljava/util/ArrayList;", true)
  | 2 => ("GuestFrames$Machine", "heap", "LGuestFrames$Heap;", true)
  | 3 => ("GuestFrames$Machine", "room", "I", true)
  | 4 => ("GuestFrames$Machine", "frames", "[LGuestFrames$Frame;", true)
  | 5 => ("GuestFrames$Machine", "frame", "LGuestFrames$Frame;", false)
  | 6 => ("GuestFrames$Machine", "depth", "I", false)
  | 7 => ("GuestFrames$Machine", "outcome", "I", false)
  | 8 => ("GuestFrames$Machine", "answer", "J", false)
  | 9 => ("GuestFrames$Machine", "begun", "I", false)
  | 10 => ("GuestFrames$Machine", "latestWords", "I", false)
  | _ => ("GuestFrames$Machine", "mostWords", "I", false)
def tyX4 : Nat → FieldType := fun k => match k with
  | 0 => .object "GuestFrames$Types"
  | 1 => .object "java/util/ArrayList"
  | 2 => .object "GuestFrames$Heap"
  | 3 => .int
  | 4 => .array (.object "GuestFrames$Frame")
  | 5 => .object "GuestFrames$Frame"
  | 6 => .int
  | 7 => .int
  | 8 => .long
  | 9 => .int
  | 10 => .int
  | _ => .int
abbrev wsX40 : List Cond := u_ws RX4 TX4 12
theorem nmX4 : ∀ a, a < 12 → ∀ b, b < 12 → a ≠ b → (TX4 a).2.1 ≠ (TX4 b).2.1 := by decide +kernel
theorem tyX4_ok : ∀ k, k < 12 → parseFieldDescriptor (TX4 k).2.2.1 = some (tyX4 k) := by decide +kernel
abbrev cX4_init : ByteArray := prog_6_method_1_code
def yX4_init : MethodName := ⟨RX4, "<init>", "(LGuestFrames$Types;Ljava/util/ArrayList;I)V"⟩
abbrev cX4_perform : ByteArray := prog_6_method_2_code
def yX4_perform : MethodName := ⟨RX4, "perform", "(LGuestFrames$Routine;JJI)I"⟩
abbrev cX4_beginFirst : ByteArray := prog_6_method_3_code
def yX4_beginFirst : MethodName := ⟨RX4, "beginFirst", "(LGuestFrames$Routine;JJ)V"⟩
abbrev cX4_step : ByteArray := prog_6_method_4_code
def yX4_step : MethodName := ⟨RX4, "step", "()I"⟩
abbrev cX4_goOn : ByteArray := prog_6_method_5_code
def yX4_goOn : MethodName := ⟨RX4, "goOn", "(I)I"⟩
abbrev cX4_push : ByteArray := prog_6_method_6_code
def yX4_push : MethodName := ⟨RX4, "push", "(I)I"⟩
abbrev cX4_storeLocal : ByteArray := prog_6_method_7_code
def yX4_storeLocal : MethodName := ⟨RX4, "storeLocal", "()I"⟩
abbrev cX4_loadElement : ByteArray := prog_6_method_8_code
def yX4_loadElement : MethodName := ⟨RX4, "loadElement", "(I)I"⟩
abbrev cX4_storeElement : ByteArray := prog_6_method_9_code
def yX4_storeElement : MethodName := ⟨RX4, "storeElement", "(I)I"⟩
abbrev cX4_faultOfElement : ByteArray := prog_6_method_10_code
def yX4_faultOfElement : MethodName := ⟨RX4, "faultOfElement", "(III)I"⟩
abbrev cX4_isForSort : ByteArray := prog_6_method_11_code
def yX4_isForSort : MethodName := ⟨RX4, "isForSort", "(II)Z"⟩
abbrev cX4_shuffle : ByteArray := prog_6_method_12_code
def yX4_shuffle : MethodName := ⟨RX4, "shuffle", "(I)I"⟩
abbrev cX4_reckon : ByteArray := prog_6_method_13_code
def yX4_reckon : MethodName := ⟨RX4, "reckon", "(I)I"⟩
abbrev cX4_combined : ByteArray := prog_6_method_14_code
def yX4_combined : MethodName := ⟨RX4, "combined", "(IJJ)J"⟩
abbrev cX4_moved : ByteArray := prog_6_method_15_code
def yX4_moved : MethodName := ⟨RX4, "moved", "(IJJZ)J"⟩
abbrev cX4_convert : ByteArray := prog_6_method_16_code
def yX4_convert : MethodName := ⟨RX4, "convert", "(I)I"⟩
abbrev cX4_converted : ByteArray := prog_6_method_17_code
def yX4_converted : MethodName := ⟨RX4, "converted", "(IJ)J"⟩
abbrev cX4_branch : ByteArray := prog_6_method_18_code
def yX4_branch : MethodName := ⟨RX4, "branch", "(I)I"⟩
abbrev cX4_holds : ByteArray := prog_6_method_19_code
def yX4_holds : MethodName := ⟨RX4, "holds", "(IJJ)Z"⟩
abbrev cX4_leave : ByteArray := prog_6_method_20_code
def yX4_leave : MethodName := ⟨RX4, "leave", "(I)I"⟩
abbrev cX4_call : ByteArray := prog_6_method_21_code
def yX4_call : MethodName := ⟨RX4, "call", "()I"⟩
abbrev cX4_readField : ByteArray := prog_6_method_22_code
def yX4_readField : MethodName := ⟨RX4, "readField", "()I"⟩
abbrev cX4_writeField : ByteArray := prog_6_method_23_code
def yX4_writeField : MethodName := ⟨RX4, "writeField", "()I"⟩
abbrev cX4_faultOfObject : ByteArray := prog_6_method_24_code
def yX4_faultOfObject : MethodName := ⟨RX4, "faultOfObject", "(II)I"⟩
abbrev cX4_isOf : ByteArray := prog_6_method_25_code
def yX4_isOf : MethodName := ⟨RX4, "isOf", "(II)Z"⟩
abbrev cX4_makeObject : ByteArray := prog_6_method_26_code
def yX4_makeObject : MethodName := ⟨RX4, "makeObject", "()I"⟩
abbrev cX4_makeArray : ByteArray := prog_6_method_27_code
def yX4_makeArray : MethodName := ⟨RX4, "makeArray", "(II)I"⟩
abbrev cX4_make : ByteArray := prog_6_method_28_code
def yX4_make : MethodName := ⟨RX4, "make", "(IIJ)I"⟩
abbrev cX4_tellLength : ByteArray := prog_6_method_29_code
def yX4_tellLength : MethodName := ⟨RX4, "tellLength", "()I"⟩
abbrev cX4_throwTop : ByteArray := prog_6_method_30_code
def yX4_throwTop : MethodName := ⟨RX4, "throwTop", "()I"⟩
abbrev cX4_cast : ByteArray := prog_6_method_31_code
def yX4_cast : MethodName := ⟨RX4, "cast", "()I"⟩
abbrev cX4_tellWhetherOf : ByteArray := prog_6_method_32_code
def yX4_tellWhetherOf : MethodName := ⟨RX4, "tellWhetherOf", "()I"⟩
abbrev cX4_raise : ByteArray := prog_6_method_33_code
def yX4_raise : MethodName := ⟨RX4, "raise", "(I)V"⟩
abbrev cX4_unwind : ByteArray := prog_6_method_34_code
def yX4_unwind : MethodName := ⟨RX4, "unwind", "(I)V"⟩
def RX5 : String := "GuestFrames$Op"
def TX5 : u_T := fun k => match k with
  | _ => ("", "", "", false)
def tyX5 : Nat → FieldType := fun k => match k with
  | _ => .int
abbrev wsX50 : List Cond := u_ws RX5 TX5 0
theorem nmX5 : ∀ a, a < 0 → ∀ b, b < 0 → a ≠ b → (TX5 a).2.1 ≠ (TX5 b).2.1 := by decide +kernel
theorem tyX5_ok : ∀ k, k < 0 → parseFieldDescriptor (TX5 k).2.2.1 = some (tyX5 k) := by decide +kernel
abbrev cX5_shape : ByteArray := prog_7_method_2_code
def yX5_shape : MethodName := ⟨RX5, "shape", "(I)I"⟩
abbrev cX5_bytes : ByteArray := prog_7_method_3_code
def yX5_bytes : MethodName := ⟨RX5, "bytes", "(I)I"⟩
abbrev cX5_takes : ByteArray := prog_7_method_4_code
def yX5_takes : MethodName := ⟨RX5, "takes", "(I)I"⟩
abbrev cX5_leaves : ByteArray := prog_7_method_5_code
def yX5_leaves : MethodName := ⟨RX5, "leaves", "(I)I"⟩
abbrev cX5_jumps : ByteArray := prog_7_method_6_code
def yX5_jumps : MethodName := ⟨RX5, "jumps", "(I)Z"⟩
abbrev cX5_goesOn : ByteArray := prog_7_method_7_code
def yX5_goesOn : MethodName := ⟨RX5, "goesOn", "(I)Z"⟩
abbrev cX5_pack : ByteArray := prog_7_method_8_code
def yX5_pack : MethodName := ⟨RX5, "pack", "(III)I"⟩
abbrev cX5_shapeOfMove : ByteArray := prog_7_method_9_code
def yX5_shapeOfMove : MethodName := ⟨RX5, "shapeOfMove", "(I)I"⟩
abbrev cX5_shapeOfReckoning : ByteArray := prog_7_method_10_code
def yX5_shapeOfReckoning : MethodName := ⟨RX5, "shapeOfReckoning", "(I)I"⟩
abbrev cX5_shapeOfWay : ByteArray := prog_7_method_11_code
def yX5_shapeOfWay : MethodName := ⟨RX5, "shapeOfWay", "(I)I"⟩
abbrev cX5_shapeOfHeapUse : ByteArray := prog_7_method_12_code
def yX5_shapeOfHeapUse : MethodName := ⟨RX5, "shapeOfHeapUse", "(I)I"⟩
def RX6 : String := "GuestFrames$Routine"
def TX6 : u_T := fun k => match k with
  | 0 => ("GuestFrames$Routine", "code", "[B", true)
  | 1 => ("GuestFrames$Routine", "handlers", "[I", true)
  | 2 => ("GuestFrames$Routine", "arguments", "I", true)
  | 3 => ("GuestFrames$Routine", "kinds", "I", true)
  | 4 => ("GuestFrames$Routine", "locals", "I", true)
  | 5 => ("GuestFrames$Routine", "stack", "I", true)
  | _ => ("GuestFrames$Routine", "end", "I", true)
def tyX6 : Nat → FieldType := fun k => match k with
  | 0 => .array .byte
  | 1 => .array .int
  | 2 => .int
  | 3 => .int
  | 4 => .int
  | 5 => .int
  | _ => .int
abbrev wsX60 : List Cond := u_ws RX6 TX6 7
theorem nmX6 : ∀ a, a < 7 → ∀ b, b < 7 → a ≠ b → (TX6 a).2.1 ≠ (TX6 b).2.1 := by decide +kernel
theorem tyX6_ok : ∀ k, k < 7 → parseFieldDescriptor (TX6 k).2.2.1 = some (tyX6 k) := by decide +kernel
abbrev cX6_init : ByteArray := prog_8_method_1_code
def yX6_init : MethodName := ⟨RX6, "<init>", "([B[IIIII)V"⟩
abbrev cX6_at : ByteArray := prog_8_method_2_code
def yX6_at : MethodName := ⟨RX6, "at", "(I)I"⟩
abbrev cX6_pairAt : ByteArray := prog_8_method_3_code
def yX6_pairAt : MethodName := ⟨RX6, "pairAt", "(I)I"⟩
abbrev cX6_kindOfArgument : ByteArray := prog_8_method_4_code
def yX6_kindOfArgument : MethodName := ⟨RX6, "kindOfArgument", "(I)I"⟩
abbrev cX6_guards : ByteArray := prog_8_method_5_code
def yX6_guards : MethodName := ⟨RX6, "guards", "(II)Z"⟩
abbrev cX6_placeToCatch : ByteArray := prog_8_method_6_code
def yX6_placeToCatch : MethodName := ⟨RX6, "placeToCatch", "(II)I"⟩
def RX7 : String := "GuestFrames$Types"
def TX7 : u_T := fun k => match k with
  | 0 => ("GuestFrames$Types", "above", "[I", true)
  | 1 => ("GuestFrames$Types", "fields", "[I", true)
  | 2 => ("GuestFrames$Types", "references", "[I", true)
  | _ => ("GuestFrames$Types", "known", "I", false)
def tyX7 : Nat → FieldType := fun k => match k with
  | 0 => .array .int
  | 1 => .array .int
  | 2 => .array .int
  | _ => .int
abbrev wsX70 : List Cond := u_ws RX7 TX7 4
theorem nmX7 : ∀ a, a < 4 → ∀ b, b < 4 → a ≠ b → (TX7 a).2.1 ≠ (TX7 b).2.1 := by decide +kernel
theorem tyX7_ok : ∀ k, k < 4 → parseFieldDescriptor (TX7 k).2.2.1 = some (tyX7 k) := by decide +kernel
abbrev cX7_init : ByteArray := prog_9_method_1_code
def yX7_init : MethodName := ⟨RX7, "<init>", "()V"⟩
abbrev cX7_has : ByteArray := prog_9_method_2_code
def yX7_has : MethodName := ⟨RX7, "has", "(I)Z"⟩
abbrev cX7_add : ByteArray := prog_9_method_3_code
def yX7_add : MethodName := ⟨RX7, "add", "(III)I"⟩
abbrev cX7_kindOfField : ByteArray := prog_9_method_4_code
def yX7_kindOfField : MethodName := ⟨RX7, "kindOfField", "(II)I"⟩
def RX8 : String := "GuestFrames"
def TX8 : u_T := fun k => match k with
  | 0 => ("GuestFrames", "types", "LGuestFrames$Types;", true)
  | 1 => ("GuestFrames", "draft", "LGuestFrames$Draft;", true)
  | 2 => ("GuestFrames", "routines", "Ljava/util/ArrayList;", true)
  | 3 => ("GuestFrames", "judge", "LGuestFrames$Judge;", true)
  | _ => ("GuestFrames", "machine", "LGuestFrames$Machine;", true)
def tyX8 : Nat → FieldType := fun k => match k with
  | 0 => .object "GuestFrames$Types"
  | 1 => .object "GuestFrames$Draft"
  | 2 => .object "java/util/ArrayList"
  | 3 => .object "GuestFrames$Judge"
  | _ => .object "GuestFrames$Machine"
abbrev wsX80 : List Cond := u_ws RX8 TX8 5
theorem nmX8 : ∀ a, a < 5 → ∀ b, b < 5 → a ≠ b → (TX8 a).2.1 ≠ (TX8 b).2.1 := by decide +kernel
theorem tyX8_ok : ∀ k, k < 5 → parseFieldDescriptor (TX8 k).2.2.1 = some (tyX8 k) := by decide +kernel
abbrev cX8_init : ByteArray := prog_1_method_1_code
def yX8_init : MethodName := ⟨RX8, "<init>", "(I)V"⟩
abbrev cX8_feed : ByteArray := prog_1_method_2_code
def yX8_feed : MethodName := ⟨RX8, "feed", "(IIIIII)I"⟩
abbrev cX8_type : ByteArray := prog_1_method_3_code
def yX8_type : MethodName := ⟨RX8, "type", "(III)I"⟩
abbrev cX8_handler : ByteArray := prog_1_method_4_code
def yX8_handler : MethodName := ⟨RX8, "handler", "(IIII)I"⟩
abbrev cX8_method : ByteArray := prog_1_method_5_code
def yX8_method : MethodName := ⟨RX8, "method", "(IIII)I"⟩
abbrev cX8_run : ByteArray := prog_1_method_6_code
def yX8_run : MethodName := ⟨RX8, "run", "(IJJI)I"⟩
abbrev cX8_result : ByteArray := prog_1_method_7_code
def yX8_result : MethodName := ⟨RX8, "result", "()J"⟩
abbrev cX8_steps : ByteArray := prog_1_method_8_code
def yX8_steps : MethodName := ⟨RX8, "steps", "()I"⟩
abbrev cX8_count : ByteArray := prog_1_method_9_code
def yX8_count : MethodName := ⟨RX8, "count", "(I)I"⟩
abbrev cX8_argumentsIn : ByteArray := prog_1_method_10_code
def yX8_argumentsIn : MethodName := ⟨RX8, "argumentsIn", "(I)I"⟩
def RX9 : String := "GuestFramesModel"
def TX9 : u_T := fun k => match k with
  | 0 => ("GuestFramesModel", "thrown", "I", false)
  | 1 => ("GuestFramesModel", "words", "I", true)
  | 2 => ("GuestFramesModel", "parents", "[I", true)
  | 3 => ("GuestFramesModel", "fieldCounts", "[I", true)
  | 4 => ("GuestFramesModel", "fieldKinds", "[I", true)
  | 5 => ("GuestFramesModel", "classes", "I", false)
  | 6 => ("GuestFramesModel", "tape", "[I", true)
  | 7 => ("GuestFramesModel", "tapeSize", "I", false)
  | 8 => ("GuestFramesModel", "next", "[I", true)
  | 9 => ("GuestFramesModel", "nextCount", "I", false)
  | 10 => ("GuestFramesModel", "handlers", "[I", true)
  | 11 => ("GuestFramesModel", "handlerCounts", "[I", true)
  | 12 => ("GuestFramesModel", "argumentCounts", "[I", true)
  | 13 => ("GuestFramesModel", "arguments", "[I", true)
  | 14 => ("GuestFramesModel", "localCounts", "[I", true)
  | 15 => ("GuestFramesModel", "stackSizes", "[I", true)
  | 16 => ("GuestFramesModel", "results", "[I", true)
  | 17 => ("GuestFramesModel", "codes", "[I", true)
  | 18 => ("GuestFramesModel", "lengths", "[I", true)
  | 19 => ("GuestFramesModel", "methods", "I", false)
  | 20 => ("GuestFramesModel", "led", "[Z", true)
  | 21 => ("GuestFramesModel", "depths", "[I", true)
  | 22 => ("GuestFramesModel", "stackKinds", "[I", true)
  | 23 => ("GuestFramesModel", "localKinds", "[I", true)
  | 24 => ("GuestFramesModel", "nowStack", "[I", true)
  | 25 => ("GuestFramesModel", "nowDepth", "I", false)
  | 26 => ("GuestFramesModel", "nowLocals", "[I", true)
  | 27 => ("GuestFramesModel", "right", "Z", false)
  | 28 => ("GuestFramesModel", "moved", "Z", false)
  | 29 => ("GuestFramesModel", "alive", "[Z", true)
  | 30 => ("GuestFramesModel", "met", "[Z", true)
  | 31 => ("GuestFramesModel", "thingClasses", "[I", true)
  | 32 => ("GuestFramesModel", "sorts", "[I", true)
  | 33 => ("GuestFramesModel", "sizes", "[I", true)
  | 34 => ("GuestFramesModel", "begins", "[I", true)
  | 35 => ("GuestFramesModel", "order", "[I", true)
  | 36 => ("GuestFramesModel", "orderCount", "I", false)
  | 37 => ("GuestFramesModel", "cells", "[J", true)
  | 38 => ("GuestFramesModel", "cellEnd", "I", false)
  | 39 => ("GuestFramesModel", "pile", "[I", true)
  | 40 => ("GuestFramesModel", "frameMethods", "[I", true)
  | 41 => ("GuestFramesModel", "places", "[I", true)
  | 42 => ("GuestFramesModel", "frameDepths", "[I", true)
  | 43 => ("GuestFramesModel", "localValues", "[J", true)
  | 44 => ("GuestFramesModel", "localTags", "[I", true)
  | 45 => ("GuestFramesModel", "stackValues", "[J", true)
  | 46 => ("GuestFramesModel", "stackTags", "[I", true)
  | 47 => ("GuestFramesModel", "frames", "I", false)
  | 48 => ("GuestFramesModel", "outcome", "I", false)
  | 49 => ("GuestFramesModel", "ended", "Z", false)
  | 50 => ("GuestFramesModel", "result", "J", false)
  | 51 => ("GuestFramesModel", "steps", "I", false)
  | 52 => ("GuestFramesModel", "lastWords", "I", false)
  | 53 => ("GuestFramesModel", "mostWords", "I", false)
  | _ => ("GuestFramesModel", "raised", "Z", false)
def tyX9 : Nat → FieldType := fun k => match k with
  | 0 => .int
  | 1 => .int
  | 2 => .array .int
  | 3 => .array .int
  | 4 => .array .int
  | 5 => .int
  | 6 => .array .int
  | 7 => .int
  | 8 => .array .int
  | 9 => .int
  | 10 => .array .int
  | 11 => .array .int
  | 12 => .array .int
  | 13 => .array .int
  | 14 => .array .int
  | 15 => .array .int
  | 16 => .array .int
  | 17 => .array .int
  | 18 => .array .int
  | 19 => .int
  | 20 => .array .boolean
  | 21 => .array .int
  | 22 => .array .int
  | 23 => .array .int
  | 24 => .array .int
  | 25 => .int
  | 26 => .array .int
  | 27 => .boolean
  | 28 => .boolean
  | 29 => .array .boolean
  | 30 => .array .boolean
  | 31 => .array .int
  | 32 => .array .int
  | 33 => .array .int
  | 34 => .array .int
  | 35 => .array .int
  | 36 => .int
  | 37 => .array .long
  | 38 => .int
  | 39 => .array .int
  | 40 => .array .int
  | 41 => .array .int
  | 42 => .array .int
  | 43 => .array .long
  | 44 => .array .int
  | 45 => .array .long
  | 46 => .array .int
  | 47 => .int
  | 48 => .int
  | 49 => .boolean
  | 50 => .long
  | 51 => .int
  | 52 => .int
  | 53 => .int
  | _ => .boolean
abbrev wsX90 : List Cond := u_ws RX9 TX9 55
theorem nmX9 : ∀ a, a < 55 → ∀ b, b < 55 → a ≠ b → (TX9 a).2.1 ≠ (TX9 b).2.1 := by decide +kernel
theorem tyX9_ok : ∀ k, k < 55 → parseFieldDescriptor (TX9 k).2.2.1 = some (tyX9 k) := by decide +kernel
abbrev cX9_init : ByteArray := prog_11_method_1_code
def yX9_init : MethodName := ⟨RX9, "<init>", "(I)V"⟩
abbrev cX9_thrown : ByteArray := prog_11_method_2_code
def yX9_thrown : MethodName := ⟨RX9, "thrown", "()I"⟩
abbrev cX9_feed : ByteArray := prog_11_method_3_code
def yX9_feed : MethodName := ⟨RX9, "feed", "(IIIIII)I"⟩
abbrev cX9_type : ByteArray := prog_11_method_4_code
def yX9_type : MethodName := ⟨RX9, "type", "(III)I"⟩
abbrev cX9_handler : ByteArray := prog_11_method_5_code
def yX9_handler : MethodName := ⟨RX9, "handler", "(IIII)I"⟩
abbrev cX9_method : ByteArray := prog_11_method_6_code
def yX9_method : MethodName := ⟨RX9, "method", "(IIII)I"⟩
abbrev cX9_isGood : ByteArray := prog_11_method_7_code
def yX9_isGood : MethodName := ⟨RX9, "isGood", "(I)Z"⟩
abbrev cX9_lead : ByteArray := prog_11_method_8_code
def yX9_lead : MethodName := ⟨RX9, "lead", "(II)V"⟩
abbrev cX9_pop : ByteArray := prog_11_method_9_code
def yX9_pop : MethodName := ⟨RX9, "pop", "(I)V"⟩
abbrev cX9_popEither : ByteArray := prog_11_method_10_code
def yX9_popEither : MethodName := ⟨RX9, "popEither", "()I"⟩
abbrev cX9_push : ByteArray := prog_11_method_11_code
def yX9_push : MethodName := ⟨RX9, "push", "(II)V"⟩
abbrev cX9_code : ByteArray := prog_11_method_12_code
def yX9_code : MethodName := ⟨RX9, "code", "(II)I"⟩
abbrev cX9_length : ByteArray := prog_11_method_13_code
def yX9_length : MethodName := ⟨RX9, "length", "(I)I"⟩
abbrev cX9_signed : ByteArray := prog_11_method_14_code
def yX9_signed : MethodName := ⟨RX9, "signed", "(I)I"⟩
abbrev cX9_to : ByteArray := prog_11_method_15_code
def yX9_to : MethodName := ⟨RX9, "to", "(II)I"⟩
abbrev cX9_arrayKind : ByteArray := prog_11_method_16_code
def yX9_arrayKind : MethodName := ⟨RX9, "arrayKind", "(I)I"⟩
abbrev cX9_judge : ByteArray := prog_11_method_17_code
def yX9_judge : MethodName := ⟨RX9, "judge", "(II)V"⟩
abbrev cX9_take : ByteArray := prog_11_method_18_code
def yX9_take : MethodName := ⟨RX9, "take", "(I)V"⟩
abbrev cX9_judgeLoad : ByteArray := prog_11_method_19_code
def yX9_judgeLoad : MethodName := ⟨RX9, "judgeLoad", "(III)V"⟩
abbrev cX9_judgeStack : ByteArray := prog_11_method_20_code
def yX9_judgeStack : MethodName := ⟨RX9, "judgeStack", "(II)V"⟩
abbrev cX9_judgeReckoning : ByteArray := prog_11_method_21_code
def yX9_judgeReckoning : MethodName := ⟨RX9, "judgeReckoning", "(III)V"⟩
abbrev cX9_judgeBranch : ByteArray := prog_11_method_22_code
def yX9_judgeBranch : MethodName := ⟨RX9, "judgeBranch", "(I)V"⟩
abbrev cX9_judgeThing : ByteArray := prog_11_method_23_code
def yX9_judgeThing : MethodName := ⟨RX9, "judgeThing", "(IIII)V"⟩
abbrev cX9_isOf : ByteArray := prog_11_method_24_code
def yX9_isOf : MethodName := ⟨RX9, "isOf", "(II)Z"⟩
abbrev cX9_wordsOf : ByteArray := prog_11_method_25_code
def yX9_wordsOf : MethodName := ⟨RX9, "wordsOf", "(IJ)J"⟩
abbrev cX9_reach : ByteArray := prog_11_method_26_code
def yX9_reach : MethodName := ⟨RX9, "reach", "()J"⟩
abbrev cX9_meet : ByteArray := prog_11_method_27_code
def yX9_meet : MethodName := ⟨RX9, "meet", "(JI)I"⟩
abbrev cX9_sweep : ByteArray := prog_11_method_28_code
def yX9_sweep : MethodName := ⟨RX9, "sweep", "()V"⟩
abbrev cX9_make : ByteArray := prog_11_method_29_code
def yX9_make : MethodName := ⟨RX9, "make", "(III)J"⟩
abbrev cX9_popValue : ByteArray := prog_11_method_30_code
def yX9_popValue : MethodName := ⟨RX9, "popValue", "()J"⟩
abbrev cX9_pushValue : ByteArray := prog_11_method_31_code
def yX9_pushValue : MethodName := ⟨RX9, "pushValue", "(IJ)V"⟩
abbrev cX9_peek : ByteArray := prog_11_method_32_code
def yX9_peek : MethodName := ⟨RX9, "peek", "(I)J"⟩
abbrev cX9_open : ByteArray := prog_11_method_33_code
def yX9_open : MethodName := ⟨RX9, "open", "(I)V"⟩
abbrev cX9_run : ByteArray := prog_11_method_34_code
def yX9_run : MethodName := ⟨RX9, "run", "(IJJI)I"⟩
abbrev cX9_raise : ByteArray := prog_11_method_35_code
def yX9_raise : MethodName := ⟨RX9, "raise", "(I)V"⟩
abbrev cX9_hurl : ByteArray := prog_11_method_36_code
def yX9_hurl : MethodName := ⟨RX9, "hurl", "(I)V"⟩
abbrev cX9_step : ByteArray := prog_11_method_37_code
def yX9_step : MethodName := ⟨RX9, "step", "()V"⟩
abbrev cX9_fail : ByteArray := prog_11_method_38_code
def yX9_fail : MethodName := ⟨RX9, "fail", "(I)V"⟩
abbrev cX9_doLoad : ByteArray := prog_11_method_39_code
def yX9_doLoad : MethodName := ⟨RX9, "doLoad", "(IIII)V"⟩
abbrev cX9_isSort : ByteArray := prog_11_method_40_code
def yX9_isSort : MethodName := ⟨RX9, "isSort", "(II)Z"⟩
abbrev cX9_wrong : ByteArray := prog_11_method_41_code
def yX9_wrong : MethodName := ⟨RX9, "wrong", "(IJJ)I"⟩
abbrev cX9_doFetch : ByteArray := prog_11_method_42_code
def yX9_doFetch : MethodName := ⟨RX9, "doFetch", "(I)V"⟩
abbrev cX9_doStore : ByteArray := prog_11_method_43_code
def yX9_doStore : MethodName := ⟨RX9, "doStore", "(I)V"⟩
abbrev cX9_doStack : ByteArray := prog_11_method_44_code
def yX9_doStack : MethodName := ⟨RX9, "doStack", "(II)V"⟩
abbrev cX9_doReckoning : ByteArray := prog_11_method_45_code
def yX9_doReckoning : MethodName := ⟨RX9, "doReckoning", "(IIII)V"⟩
abbrev cX9_ofInts : ByteArray := prog_11_method_46_code
def yX9_ofInts : MethodName := ⟨RX9, "ofInts", "(III)I"⟩
abbrev cX9_ofLongs : ByteArray := prog_11_method_47_code
def yX9_ofLongs : MethodName := ⟨RX9, "ofLongs", "(IJJ)J"⟩
abbrev cX9_holds : ByteArray := prog_11_method_48_code
def yX9_holds : MethodName := ⟨RX9, "holds", "(IJJ)Z"⟩
abbrev cX9_goes : ByteArray := prog_11_method_49_code
def yX9_goes : MethodName := ⟨RX9, "goes", "(I)Z"⟩
abbrev cX9_doEnd : ByteArray := prog_11_method_50_code
def yX9_doEnd : MethodName := ⟨RX9, "doEnd", "(I)V"⟩
abbrev cX9_doCall : ByteArray := prog_11_method_51_code
def yX9_doCall : MethodName := ⟨RX9, "doCall", "(I)V"⟩
abbrev cX9_doThrow : ByteArray := prog_11_method_52_code
def yX9_doThrow : MethodName := ⟨RX9, "doThrow", "()V"⟩
abbrev cX9_doThing : ByteArray := prog_11_method_53_code
def yX9_doThing : MethodName := ⟨RX9, "doThing", "(III)V"⟩
abbrev cX9_noRoom : ByteArray := prog_11_method_54_code
def yX9_noRoom : MethodName := ⟨RX9, "noRoom", "()J"⟩
abbrev cX9_doField : ByteArray := prog_11_method_55_code
def yX9_doField : MethodName := ⟨RX9, "doField", "(III)V"⟩
abbrev cX9_result : ByteArray := prog_11_method_56_code
def yX9_result : MethodName := ⟨RX9, "result", "()J"⟩
abbrev cX9_steps : ByteArray := prog_11_method_57_code
def yX9_steps : MethodName := ⟨RX9, "steps", "()I"⟩
abbrev cX9_count : ByteArray := prog_11_method_58_code
def yX9_count : MethodName := ⟨RX9, "count", "(I)I"⟩
def RJx145de : String := "java/io/Serializable"
def TJx145de : u_T := fun k => match k with
  | _ => ("", "", "", false)
def tyJx145de : Nat → FieldType := fun k => match k with
  | _ => .int
abbrev wsJx145de0 : List Cond := u_ws RJx145de TJx145de 0
theorem nmJx145de : ∀ a, a < 0 → ∀ b, b < 0 → a ≠ b → (TJx145de a).2.1 ≠ (TJx145de b).2.1 := by decide +kernel
theorem tyJx145de_ok : ∀ k, k < 0 → parseFieldDescriptor (TJx145de k).2.2.1 = some (tyJx145de k) := by decide +kernel
def RJ5 : String := "java/lang/AbstractStringBuilder"
def TJ5 : u_T := fun k => match k with
  | _ => ("", "", "", false)
def tyJ5 : Nat → FieldType := fun k => match k with
  | _ => .int
abbrev wsJ50 : List Cond := u_ws RJ5 TJ5 0
theorem nmJ5 : ∀ a, a < 0 → ∀ b, b < 0 → a ≠ b → (TJ5 a).2.1 ≠ (TJ5 b).2.1 := by decide +kernel
theorem tyJ5_ok : ∀ k, k < 0 → parseFieldDescriptor (TJ5 k).2.2.1 = some (tyJ5 k) := by decide +kernel
abbrev cJ5_init_d00df : ByteArray := prog_13_method_2_code
def yJ5_init_d00df : MethodName := ⟨RJ5, "<init>", "(I)V"⟩
abbrev cJ5_length_8abf5 : ByteArray := prog_13_method_6_code
def yJ5_length_8abf5 : MethodName := ⟨RJ5, "length", "()I"⟩
abbrev cJ5_ensureCapacityInternal_d00df : ByteArray := prog_13_method_9_code
def yJ5_ensureCapacityInternal_d00df : MethodName := ⟨RJ5, "ensureCapacityInternal", "(I)V"⟩
abbrev cJ5_newCapacity_0f7a4 : ByteArray := prog_13_method_10_code
def yJ5_newCapacity_0f7a4 : MethodName := ⟨RJ5, "newCapacity", "(I)I"⟩
abbrev cJ5_inflate_da8c8 : ByteArray := prog_13_method_11_code
def yJ5_inflate_da8c8 : MethodName := ⟨RJ5, "inflate", "()V"⟩
abbrev cJ5_append_cf1ce : ByteArray := prog_13_method_22_code
def yJ5_append_cf1ce : MethodName := ⟨RJ5, "append", "(Ljava/lang/String;)Ljava/lang/AbstractStringBuilder;"⟩
abbrev cJ5_appendNull_278bc : ByteArray := prog_13_method_26_code
def yJ5_appendNull_278bc : MethodName := ⟨RJ5, "appendNull", "()Ljava/lang/AbstractStringBuilder;"⟩
abbrev cJ5_append_c97b9 : ByteArray := prog_13_method_32_code
def yJ5_append_c97b9 : MethodName := ⟨RJ5, "append", "(I)Ljava/lang/AbstractStringBuilder;"⟩
abbrev cJ5_getValue_6d5f1 : ByteArray := prog_13_method_64_code
def yJ5_getValue_6d5f1 : MethodName := ⟨RJ5, "getValue", "()[B"⟩
abbrev cJ5_isLatin1_aae02 : ByteArray := prog_13_method_68_code
def yJ5_isLatin1_aae02 : MethodName := ⟨RJ5, "isLatin1", "()Z"⟩
abbrev cJ5_inflateIfNeededFor_a7421 : ByteArray := prog_13_method_71_code
def yJ5_inflateIfNeededFor_a7421 : MethodName := ⟨RJ5, "inflateIfNeededFor", "(Ljava/lang/String;)V"⟩
abbrev cJ5_putStringAt_47b60 : ByteArray := prog_13_method_73_code
def yJ5_putStringAt_47b60 : MethodName := ⟨RJ5, "putStringAt", "(ILjava/lang/String;)V"⟩
def RJx00060 : String := "java/lang/ArrayIndexOutOfBoundsException"
def TJx00060 : u_T := fun k => match k with
  | 0 => ("java/lang/Throwable", "backtrace", "Ljava/lang/Object;", false)
  | 1 => ("java/lang/Throwable", "detailMessage", "Ljava/lang/String;", false)
  | 2 => ("java/lang/Throwable", "cause", "Ljava/lang/Throwable;", false)
  | 3 => ("java/lang/Throwable", "stackTrace", "[Ljava/lang/StackTraceElement;", false)
  | 4 => ("java/lang/Throwable", "depth", "I", false)
  | _ => ("java/lang/Throwable", "suppressedExceptions", "Ljava/util/List;", false)
def tyJx00060 : Nat → FieldType := fun k => match k with
  | 0 => .object "java/lang/Object"
  | 1 => .object "java/lang/String"
  | 2 => .object "java/lang/Throwable"
  | 3 => .array (.object "java/lang/StackTraceElement")
  | 4 => .int
  | _ => .object "java/util/List"
abbrev wsJx000600 : List Cond := u_ws RJx00060 TJx00060 6
theorem nmJx00060 : ∀ a, a < 6 → ∀ b, b < 6 → a ≠ b → (TJx00060 a).2.1 ≠ (TJx00060 b).2.1 := by decide +kernel
theorem tyJx00060_ok : ∀ k, k < 6 → parseFieldDescriptor (TJx00060 k).2.2.1 = some (tyJx00060 k) := by decide +kernel
abbrev cJx00060_init_d00df : ByteArray := prog_14_method_3_code
def yJx00060_init_d00df : MethodName := ⟨RJx00060, "<init>", "(I)V"⟩
def RJx8e188 : String := "java/lang/Cloneable"
def TJx8e188 : u_T := fun k => match k with
  | _ => ("", "", "", false)
def tyJx8e188 : Nat → FieldType := fun k => match k with
  | _ => .int
abbrev wsJx8e1880 : List Cond := u_ws RJx8e188 TJx8e188 0
theorem nmJx8e188 : ∀ a, a < 0 → ∀ b, b < 0 → a ≠ b → (TJx8e188 a).2.1 ≠ (TJx8e188 b).2.1 := by decide +kernel
theorem tyJx8e188_ok : ∀ k, k < 0 → parseFieldDescriptor (TJx8e188 k).2.2.1 = some (tyJx8e188 k) := by decide +kernel
def RJ6 : String := "java/lang/Integer"
def TJ6 : u_T := fun k => match k with
  | _ => ("", "", "", false)
def tyJ6 : Nat → FieldType := fun k => match k with
  | _ => .int
abbrev wsJ60 : List Cond := u_ws RJ6 TJ6 0
theorem nmJ6 : ∀ a, a < 0 → ∀ b, b < 0 → a ≠ b → (TJ6 a).2.1 ≠ (TJ6 b).2.1 := by decide +kernel
theorem tyJ6_ok : ∀ k, k < 0 → parseFieldDescriptor (TJ6 k).2.2.1 = some (tyJ6 k) := by decide +kernel
abbrev cJ6_getChars_ba4f3 : ByteArray := prog_19_method_12_code
def yJ6_getChars_ba4f3 : MethodName := ⟨RJ6, "getChars", "(II[B)I"⟩
abbrev cJ6_stringSize_0f7a4 : ByteArray := prog_19_method_13_code
def yJ6_stringSize_0f7a4 : MethodName := ⟨RJ6, "stringSize", "(I)I"⟩
def RJxab1ab : String := "java/lang/Iterable"
def TJxab1ab : u_T := fun k => match k with
  | _ => ("", "", "", false)
def tyJxab1ab : Nat → FieldType := fun k => match k with
  | _ => .int
abbrev wsJxab1ab0 : List Cond := u_ws RJxab1ab TJxab1ab 0
theorem nmJxab1ab : ∀ a, a < 0 → ∀ b, b < 0 → a ≠ b → (TJxab1ab a).2.1 ≠ (TJxab1ab b).2.1 := by decide +kernel
theorem tyJxab1ab_ok : ∀ k, k < 0 → parseFieldDescriptor (TJxab1ab k).2.2.1 = some (tyJxab1ab k) := by decide +kernel
def RJ13 : String := "java/lang/Long"
def TJ13 : u_T := fun k => match k with
  | _ => ("", "", "", false)
def tyJ13 : Nat → FieldType := fun k => match k with
  | _ => .int
abbrev wsJ130 : List Cond := u_ws RJ13 TJ13 0
theorem nmJ13 : ∀ a, a < 0 → ∀ b, b < 0 → a ≠ b → (TJ13 a).2.1 ≠ (TJ13 b).2.1 := by decide +kernel
theorem tyJ13_ok : ∀ k, k < 0 → parseFieldDescriptor (TJ13 k).2.2.1 = some (tyJ13 k) := by decide +kernel
abbrev cJ13_compare_74951 : ByteArray := prog_21_method_42_code
def yJ13_compare_74951 : MethodName := ⟨RJ13, "compare", "(JJ)I"⟩
def RJ9 : String := "java/lang/Math"
def TJ9 : u_T := fun k => match k with
  | _ => ("", "", "", false)
def tyJ9 : Nat → FieldType := fun k => match k with
  | _ => .int
abbrev wsJ90 : List Cond := u_ws RJ9 TJ9 0
theorem nmJ9 : ∀ a, a < 0 → ∀ b, b < 0 → a ≠ b → (TJ9 a).2.1 ≠ (TJ9 b).2.1 := by decide +kernel
theorem tyJ9_ok : ∀ k, k < 0 → parseFieldDescriptor (TJ9 k).2.2.1 = some (tyJ9 k) := by decide +kernel
abbrev cJ9_max_7cf53 : ByteArray := prog_22_method_65_code
def yJ9_max_7cf53 : MethodName := ⟨RJ9, "max", "(II)I"⟩
abbrev cJ9_min_7cf53 : ByteArray := prog_22_method_69_code
def yJ9_min_7cf53 : MethodName := ⟨RJ9, "min", "(II)I"⟩
def RJ0 : String := "java/lang/String"
def TJ0 : u_T := fun k => match k with
  | 0 => ("java/lang/String", "value", "[B", true)
  | 1 => ("java/lang/String", "coder", "B", true)
  | 2 => ("java/lang/String", "hash", "I", false)
  | _ => ("java/lang/String", "hashIsZero", "Z", false)
def tyJ0 : Nat → FieldType := fun k => match k with
  | 0 => .array .byte
  | 1 => .byte
  | 2 => .int
  | _ => .boolean
abbrev wsJ00 : List Cond := u_ws RJ0 TJ0 4
theorem nmJ0 : ∀ a, a < 4 → ∀ b, b < 4 → a ≠ b → (TJ0 a).2.1 ≠ (TJ0 b).2.1 := by decide +kernel
theorem tyJ0_ok : ∀ k, k < 4 → parseFieldDescriptor (TJ0 k).2.2.1 = some (tyJ0 k) := by decide +kernel
abbrev cJ0_init_81219 : ByteArray := prog_24_method_53_code
def yJ0_init_81219 : MethodName := ⟨RJ0, "<init>", "(Ljava/lang/StringBuilder;)V"⟩
abbrev cJ0_length_8abf5 : ByteArray := prog_24_method_54_code
def yJ0_length_8abf5 : MethodName := ⟨RJ0, "length", "()I"⟩
abbrev cJ0_getBytes_840e7 : ByteArray := prog_24_method_147_code
def yJ0_getBytes_840e7 : MethodName := ⟨RJ0, "getBytes", "([BIB)V"⟩
abbrev cJ0_init_db425 : ByteArray := prog_24_method_150_code
def yJ0_init_db425 : MethodName := ⟨RJ0, "<init>", "(Ljava/lang/AbstractStringBuilder;Ljava/lang/Void;)V"⟩
abbrev cJ0_coder_7d493 : ByteArray := prog_24_method_152_code
def yJ0_coder_7d493 : MethodName := ⟨RJ0, "coder", "()B"⟩
abbrev cJ0_checkBoundsOffCount_cabcc : ByteArray := prog_24_method_157_code
def yJ0_checkBoundsOffCount_cabcc : MethodName := ⟨RJ0, "checkBoundsOffCount", "(III)I"⟩
abbrev cJ0_checkBoundsBeginEnd_23922 : ByteArray := prog_24_method_158_code
def yJ0_checkBoundsBeginEnd_23922 : MethodName := ⟨RJ0, "checkBoundsBeginEnd", "(III)V"⟩
def RJ4 : String := "java/lang/StringBuilder"
def TJ4 : u_T := fun k => match k with
  | 0 => ("java/lang/AbstractStringBuilder", "value", "[B", false)
  | 1 => ("java/lang/AbstractStringBuilder", "coder", "B", false)
  | 2 => ("java/lang/AbstractStringBuilder", "maybeLatin1", "Z", false)
  | _ => ("java/lang/AbstractStringBuilder", "count", "I", false)
def tyJ4 : Nat → FieldType := fun k => match k with
  | 0 => .array .byte
  | 1 => .byte
  | 2 => .boolean
  | _ => .int
abbrev wsJ40 : List Cond := u_ws RJ4 TJ4 4
theorem nmJ4 : ∀ a, a < 4 → ∀ b, b < 4 → a ≠ b → (TJ4 a).2.1 ≠ (TJ4 b).2.1 := by decide +kernel
theorem tyJ4_ok : ∀ k, k < 4 → parseFieldDescriptor (TJ4 k).2.2.1 = some (tyJ4 k) := by decide +kernel
abbrev cJ4_init_da8c8 : ByteArray := prog_25_method_1_code
def yJ4_init_da8c8 : MethodName := ⟨RJ4, "<init>", "()V"⟩
abbrev cJ4_append_15ec4 : ByteArray := prog_25_method_7_code
def yJ4_append_15ec4 : MethodName := ⟨RJ4, "append", "(Ljava/lang/String;)Ljava/lang/StringBuilder;"⟩
abbrev cJ4_append_bf812 : ByteArray := prog_25_method_15_code
def yJ4_append_bf812 : MethodName := ⟨RJ4, "append", "(I)Ljava/lang/StringBuilder;"⟩
abbrev cJ4_toString_0e30d : ByteArray := prog_25_method_42_code
def yJ4_toString_0e30d : MethodName := ⟨RJ4, "toString", "()Ljava/lang/String;"⟩
abbrev cJ4_length_8abf5 : ByteArray := prog_25_method_93_code
def yJ4_length_8abf5 : MethodName := ⟨RJ4, "length", "()I"⟩
def RJ1 : String := "java/lang/StringLatin1"
def TJ1 : u_T := fun k => match k with
  | _ => ("", "", "", false)
def tyJ1 : Nat → FieldType := fun k => match k with
  | _ => .int
abbrev wsJ10 : List Cond := u_ws RJ1 TJ1 0
theorem nmJ1 : ∀ a, a < 0 → ∀ b, b < 0 → a ≠ b → (TJ1 a).2.1 ≠ (TJ1 b).2.1 := by decide +kernel
theorem tyJ1_ok : ∀ k, k < 0 → parseFieldDescriptor (TJ1 k).2.2.1 = some (tyJ1 k) := by decide +kernel
abbrev cJ1_inflate_0e8fd : ByteArray := prog_26_method_50_code
def yJ1_inflate_0e8fd : MethodName := ⟨RJ1, "inflate", "([BI[BII)V"⟩
def RJ2 : String := "java/lang/StringUTF16"
def TJ2 : u_T := fun k => match k with
  | _ => ("", "", "", false)
def tyJ2 : Nat → FieldType := fun k => match k with
  | _ => .int
abbrev wsJ20 : List Cond := u_ws RJ2 TJ2 0
theorem nmJ2 : ∀ a, a < 0 → ∀ b, b < 0 → a ≠ b → (TJ2 a).2.1 ≠ (TJ2 b).2.1 := by decide +kernel
theorem tyJ2_ok : ∀ k, k < 0 → parseFieldDescriptor (TJ2 k).2.2.1 = some (tyJ2 k) := by decide +kernel
abbrev cJ2_newBytesFor_77867 : ByteArray := prog_27_method_2_code
def yJ2_newBytesFor_77867 : MethodName := ⟨RJ2, "newBytesFor", "(I)[B"⟩
abbrev cJ2_newBytesLength_0f7a4 : ByteArray := prog_27_method_3_code
def yJ2_newBytesLength_0f7a4 : MethodName := ⟨RJ2, "newBytesLength", "(I)I"⟩
abbrev cJ2_putChar_b72d1 : ByteArray := prog_27_method_4_code
def yJ2_putChar_b72d1 : MethodName := ⟨RJ2, "putChar", "([BII)V"⟩
abbrev cJ2_getChar_3b067 : ByteArray := prog_27_method_5_code
def yJ2_getChar_3b067 : MethodName := ⟨RJ2, "getChar", "([BI)C"⟩
abbrev cJ2_length_9d52b : ByteArray := prog_27_method_6_code
def yJ2_length_9d52b : MethodName := ⟨RJ2, "length", "([B)I"⟩
abbrev cJ2_coderFromArrayLen_85cad : ByteArray := prog_27_method_15_code
def yJ2_coderFromArrayLen_85cad : MethodName := ⟨RJ2, "coderFromArrayLen", "([BI)B"⟩
abbrev cJ2_compress_39247 : ByteArray := prog_27_method_17_code
def yJ2_compress_39247 : MethodName := ⟨RJ2, "compress", "([BII)[B"⟩
abbrev cJ2_compress_5af95 : ByteArray := prog_27_method_22_code
def yJ2_compress_5af95 : MethodName := ⟨RJ2, "compress", "([BI[BII)I"⟩
abbrev cJ2_getChars_46870 : ByteArray := prog_27_method_77_code
def yJ2_getChars_46870 : MethodName := ⟨RJ2, "getChars", "(III[B)I"⟩
abbrev cJ2_putCharsAt_cd4e5 : ByteArray := prog_27_method_81_code
def yJ2_putCharsAt_cd4e5 : MethodName := ⟨RJ2, "putCharsAt", "([BICCCC)I"⟩
abbrev cJ2_inflate_0e8fd : ByteArray := prog_27_method_86_code
def yJ2_inflate_0e8fd : MethodName := ⟨RJ2, "inflate", "([BI[BII)V"⟩
abbrev cJ2_getChars_ba4f3 : ByteArray := prog_27_method_89_code
def yJ2_getChars_ba4f3 : MethodName := ⟨RJ2, "getChars", "(II[B)I"⟩
abbrev cJ2_checkBoundsBeginEnd_d044e : ByteArray := prog_27_method_93_code
def yJ2_checkBoundsBeginEnd_d044e : MethodName := ⟨RJ2, "checkBoundsBeginEnd", "(II[B)V"⟩
abbrev cJ2_checkBoundsOffCount_d044e : ByteArray := prog_27_method_94_code
def yJ2_checkBoundsOffCount_d044e : MethodName := ⟨RJ2, "checkBoundsOffCount", "(II[B)V"⟩
def RJ10 : String := "java/lang/System"
def TJ10 : u_T := fun k => match k with
  | _ => ("", "", "", false)
def tyJ10 : Nat → FieldType := fun k => match k with
  | _ => .int
abbrev wsJ100 : List Cond := u_ws RJ10 TJ10 0
theorem nmJ10 : ∀ a, a < 0 → ∀ b, b < 0 → a ≠ b → (TJ10 a).2.1 ≠ (TJ10 b).2.1 := by decide +kernel
theorem tyJ10_ok : ∀ k, k < 0 → parseFieldDescriptor (TJ10 k).2.2.1 = some (tyJ10 k) := by decide +kernel
def RJxa1e45 : String := "java/util/AbstractCollection"
def TJxa1e45 : u_T := fun k => match k with
  | _ => ("", "", "", false)
def tyJxa1e45 : Nat → FieldType := fun k => match k with
  | _ => .int
abbrev wsJxa1e450 : List Cond := u_ws RJxa1e45 TJxa1e45 0
theorem nmJxa1e45 : ∀ a, a < 0 → ∀ b, b < 0 → a ≠ b → (TJxa1e45 a).2.1 ≠ (TJxa1e45 b).2.1 := by decide +kernel
theorem tyJxa1e45_ok : ∀ k, k < 0 → parseFieldDescriptor (TJxa1e45 k).2.2.1 = some (tyJxa1e45 k) := by decide +kernel
abbrev cJxa1e45_init_da8c8 : ByteArray := prog_31_method_1_code
def yJxa1e45_init_da8c8 : MethodName := ⟨RJxa1e45, "<init>", "()V"⟩
def RJxc12de : String := "java/util/AbstractList"
def TJxc12de : u_T := fun k => match k with
  | _ => ("", "", "", false)
def tyJxc12de : Nat → FieldType := fun k => match k with
  | _ => .int
abbrev wsJxc12de0 : List Cond := u_ws RJxc12de TJxc12de 0
theorem nmJxc12de : ∀ a, a < 0 → ∀ b, b < 0 → a ≠ b → (TJxc12de a).2.1 ≠ (TJxc12de b).2.1 := by decide +kernel
theorem tyJxc12de_ok : ∀ k, k < 0 → parseFieldDescriptor (TJxc12de k).2.2.1 = some (tyJxc12de k) := by decide +kernel
abbrev cJxc12de_init_da8c8 : ByteArray := prog_32_method_1_code
def yJxc12de_init_da8c8 : MethodName := ⟨RJxc12de, "<init>", "()V"⟩
def RJx4a65c : String := "java/util/ArrayList"
def TJx4a65c : u_T := fun k => match k with
  | 0 => ("java/util/AbstractList", "modCount", "I", false)
  | 1 => ("java/util/ArrayList", "elementData", "[Ljava/lang/Object;", false)
  | _ => ("java/util/ArrayList", "size", "I", false)
def tyJx4a65c : Nat → FieldType := fun k => match k with
  | 0 => .int
  | 1 => .array (.object "java/lang/Object")
  | _ => .int
abbrev wsJx4a65c0 : List Cond := u_ws RJx4a65c TJx4a65c 3
theorem nmJx4a65c : ∀ a, a < 3 → ∀ b, b < 3 → a ≠ b → (TJx4a65c a).2.1 ≠ (TJx4a65c b).2.1 := by decide +kernel
theorem tyJx4a65c_ok : ∀ k, k < 3 → parseFieldDescriptor (TJx4a65c k).2.2.1 = some (tyJx4a65c k) := by decide +kernel
abbrev cJx4a65c_init_da8c8 : ByteArray := prog_33_method_2_code
def yJx4a65c_init_da8c8 : MethodName := ⟨RJx4a65c, "<init>", "()V"⟩
abbrev cJx4a65c_grow_92f84 : ByteArray := prog_33_method_6_code
def yJx4a65c_grow_92f84 : MethodName := ⟨RJx4a65c, "grow", "(I)[Ljava/lang/Object;"⟩
abbrev cJx4a65c_grow_d5877 : ByteArray := prog_33_method_7_code
def yJx4a65c_grow_d5877 : MethodName := ⟨RJx4a65c, "grow", "()[Ljava/lang/Object;"⟩
abbrev cJx4a65c_size_8abf5 : ByteArray := prog_33_method_8_code
def yJx4a65c_size_8abf5 : MethodName := ⟨RJx4a65c, "size", "()I"⟩
abbrev cJx4a65c_elementData_915e3 : ByteArray := prog_33_method_18_code
def yJx4a65c_elementData_915e3 : MethodName := ⟨RJx4a65c, "elementData", "(I)Ljava/lang/Object;"⟩
abbrev cJx4a65c_get_915e3 : ByteArray := prog_33_method_20_code
def yJx4a65c_get_915e3 : MethodName := ⟨RJx4a65c, "get", "(I)Ljava/lang/Object;"⟩
abbrev cJx4a65c_add_72be8 : ByteArray := prog_33_method_24_code
def yJx4a65c_add_72be8 : MethodName := ⟨RJx4a65c, "add", "(Ljava/lang/Object;[Ljava/lang/Object;I)V"⟩
abbrev cJx4a65c_add_9ea2d : ByteArray := prog_33_method_25_code
def yJx4a65c_add_9ea2d : MethodName := ⟨RJx4a65c, "add", "(Ljava/lang/Object;)Z"⟩
def RJ7 : String := "java/util/Arrays"
def TJ7 : u_T := fun k => match k with
  | _ => ("", "", "", false)
def tyJ7 : Nat → FieldType := fun k => match k with
  | _ => .int
abbrev wsJ70 : List Cond := u_ws RJ7 TJ7 0
theorem nmJ7 : ∀ a, a < 0 → ∀ b, b < 0 → a ≠ b → (TJ7 a).2.1 ≠ (TJ7 b).2.1 := by decide +kernel
theorem tyJ7_ok : ∀ k, k < 0 → parseFieldDescriptor (TJ7 k).2.2.1 = some (tyJ7 k) := by decide +kernel
abbrev cJ7_rangeCheck_23922 : ByteArray := prog_34_method_30_code
def yJ7_rangeCheck_23922 : MethodName := ⟨RJ7, "rangeCheck", "(III)V"⟩
abbrev cJ7_fill_fda19 : ByteArray := prog_34_method_104_code
def yJ7_fill_fda19 : MethodName := ⟨RJ7, "fill", "([IIII)V"⟩
abbrev cJ7_copyOf_1904c : ByteArray := prog_34_method_119_code
def yJ7_copyOf_1904c : MethodName := ⟨RJ7, "copyOf", "([Ljava/lang/Object;I)[Ljava/lang/Object;"⟩
abbrev cJ7_copyOf_6403c : ByteArray := prog_34_method_120_code
def yJ7_copyOf_6403c : MethodName := ⟨RJ7, "copyOf", "([Ljava/lang/Object;ILjava/lang/Class;)[Ljava/lang/Object;"⟩
abbrev cJ7_copyOf_9075b : ByteArray := prog_34_method_121_code
def yJ7_copyOf_9075b : MethodName := ⟨RJ7, "copyOf", "([BI)[B"⟩
abbrev cJ7_copyOf_59c91 : ByteArray := prog_34_method_123_code
def yJ7_copyOf_59c91 : MethodName := ⟨RJ7, "copyOf", "([II)[I"⟩
abbrev cJ7_checkLength_df160 : ByteArray := prog_34_method_131_code
def yJ7_checkLength_df160 : MethodName := ⟨RJ7, "checkLength", "(II)V"⟩
abbrev cJ7_copyOfRange_39247 : ByteArray := prog_34_method_132_code
def yJ7_copyOfRange_39247 : MethodName := ⟨RJ7, "copyOfRange", "([BII)[B"⟩
abbrev cJ7_copyOfRangeByte_39247 : ByteArray := prog_34_method_133_code
def yJ7_copyOfRangeByte_39247 : MethodName := ⟨RJ7, "copyOfRangeByte", "([BII)[B"⟩
def RJx5ef63 : String := "java/util/Collection"
def TJx5ef63 : u_T := fun k => match k with
  | _ => ("", "", "", false)
def tyJx5ef63 : Nat → FieldType := fun k => match k with
  | _ => .int
abbrev wsJx5ef630 : List Cond := u_ws RJx5ef63 TJx5ef63 0
theorem nmJx5ef63 : ∀ a, a < 0 → ∀ b, b < 0 → a ≠ b → (TJx5ef63 a).2.1 ≠ (TJx5ef63 b).2.1 := by decide +kernel
theorem tyJx5ef63_ok : ∀ k, k < 0 → parseFieldDescriptor (TJx5ef63 k).2.2.1 = some (tyJx5ef63 k) := by decide +kernel
def RJxbd725 : String := "java/util/List"
def TJxbd725 : u_T := fun k => match k with
  | _ => ("", "", "", false)
def tyJxbd725 : Nat → FieldType := fun k => match k with
  | _ => .int
abbrev wsJxbd7250 : List Cond := u_ws RJxbd725 TJxbd725 0
theorem nmJxbd725 : ∀ a, a < 0 → ∀ b, b < 0 → a ≠ b → (TJxbd725 a).2.1 ≠ (TJxbd725 b).2.1 := by decide +kernel
theorem tyJxbd725_ok : ∀ k, k < 0 → parseFieldDescriptor (TJxbd725 k).2.2.1 = some (tyJxbd725 k) := by decide +kernel
def RJ15 : String := "java/util/Objects"
def TJ15 : u_T := fun k => match k with
  | _ => ("", "", "", false)
def tyJ15 : Nat → FieldType := fun k => match k with
  | _ => .int
abbrev wsJ150 : List Cond := u_ws RJ15 TJ15 0
theorem nmJ15 : ∀ a, a < 0 → ∀ b, b < 0 → a ≠ b → (TJ15 a).2.1 ≠ (TJ15 b).2.1 := by decide +kernel
theorem tyJ15_ok : ∀ k, k < 0 → parseFieldDescriptor (TJ15 k).2.2.1 = some (tyJ15 k) := by decide +kernel
abbrev cJ15_checkIndex_7cf53 : ByteArray := prog_37_method_17_code
def yJ15_checkIndex_7cf53 : MethodName := ⟨RJ15, "checkIndex", "(II)I"⟩
def RJxf0a74 : String := "java/util/RandomAccess"
def TJxf0a74 : u_T := fun k => match k with
  | _ => ("", "", "", false)
def tyJxf0a74 : Nat → FieldType := fun k => match k with
  | _ => .int
abbrev wsJxf0a740 : List Cond := u_ws RJxf0a74 TJxf0a74 0
theorem nmJxf0a74 : ∀ a, a < 0 → ∀ b, b < 0 → a ≠ b → (TJxf0a74 a).2.1 ≠ (TJxf0a74 b).2.1 := by decide +kernel
theorem tyJxf0a74_ok : ∀ k, k < 0 → parseFieldDescriptor (TJxf0a74 k).2.2.1 = some (tyJxf0a74 k) := by decide +kernel
def RJxa66e6 : String := "java/util/SequencedCollection"
def TJxa66e6 : u_T := fun k => match k with
  | _ => ("", "", "", false)
def tyJxa66e6 : Nat → FieldType := fun k => match k with
  | _ => .int
abbrev wsJxa66e60 : List Cond := u_ws RJxa66e6 TJxa66e6 0
theorem nmJxa66e6 : ∀ a, a < 0 → ∀ b, b < 0 → a ≠ b → (TJxa66e6 a).2.1 ≠ (TJxa66e6 b).2.1 := by decide +kernel
theorem tyJxa66e6_ok : ∀ k, k < 0 → parseFieldDescriptor (TJxa66e6 k).2.2.1 = some (tyJxa66e6 k) := by decide +kernel
def RJ8 : String := "jdk/internal/util/ArraysSupport"
def TJ8 : u_T := fun k => match k with
  | _ => ("", "", "", false)
def tyJ8 : Nat → FieldType := fun k => match k with
  | _ => .int
abbrev wsJ80 : List Cond := u_ws RJ8 TJ8 0
theorem nmJ8 : ∀ a, a < 0 → ∀ b, b < 0 → a ≠ b → (TJ8 a).2.1 ≠ (TJ8 b).2.1 := by decide +kernel
theorem tyJ8_ok : ∀ k, k < 0 → parseFieldDescriptor (TJ8 k).2.2.1 = some (tyJ8 k) := by decide +kernel
abbrev cJ8_newLength_cabcc : ByteArray := prog_40_method_27_code
def yJ8_newLength_cabcc : MethodName := ⟨RJ8, "newLength", "(III)I"⟩
abbrev cJ8_hugeLength_7cf53 : ByteArray := prog_40_method_28_code
def yJ8_hugeLength_7cf53 : MethodName := ⟨RJ8, "hugeLength", "(II)I"⟩
def RJ3 : String := "jdk/internal/util/Preconditions"
def TJ3 : u_T := fun k => match k with
  | _ => ("", "", "", false)
def tyJ3 : Nat → FieldType := fun k => match k with
  | _ => .int
abbrev wsJ30 : List Cond := u_ws RJ3 TJ3 0
theorem nmJ3 : ∀ a, a < 0 → ∀ b, b < 0 → a ≠ b → (TJ3 a).2.1 ≠ (TJ3 b).2.1 := by decide +kernel
theorem tyJ3_ok : ∀ k, k < 0 → parseFieldDescriptor (TJ3 k).2.2.1 = some (tyJ3 k) := by decide +kernel
abbrev cJ3_checkIndex_8e157 : ByteArray := prog_41_method_11_code
def yJ3_checkIndex_8e157 : MethodName := ⟨RJ3, "checkIndex", "(IILjava/util/function/BiFunction;)I"⟩
abbrev cJ3_checkFromToIndex_8c36e : ByteArray := prog_41_method_12_code
def yJ3_checkFromToIndex_8c36e : MethodName := ⟨RJ3, "checkFromToIndex", "(IIILjava/util/function/BiFunction;)I"⟩
abbrev cJ3_checkFromIndexSize_8c36e : ByteArray := prog_41_method_13_code
def yJ3_checkFromIndexSize_8c36e : MethodName := ⟨RJ3, "checkFromIndexSize", "(IIILjava/util/function/BiFunction;)I"⟩
def RL : String := "GuestFramesLaw"
abbrev cL_cell : ByteArray := method_2_code
def yL_cell : MethodName := ⟨RL, "cell", "([II)I"⟩
abbrev cL_feed : ByteArray := method_3_code
def yL_feed : MethodName := ⟨RL, "feed", "(LGuestFrames;IIIIII[J)I"⟩
abbrev cL_type : ByteArray := method_4_code
def yL_type : MethodName := ⟨RL, "type", "(LGuestFrames;III[J)I"⟩
abbrev cL_handler : ByteArray := method_5_code
def yL_handler : MethodName := ⟨RL, "handler", "(LGuestFrames;IIII[J)I"⟩
abbrev cL_method : ByteArray := method_6_code
def yL_method : MethodName := ⟨RL, "method", "(LGuestFrames;IIII[J)I"⟩
abbrev cL_run : ByteArray := method_7_code
def yL_run : MethodName := ⟨RL, "run", "(LGuestFrames;IJJI[J)I"⟩
abbrev cL_count : ByteArray := method_8_code
def yL_count : MethodName := ⟨RL, "count", "(LGuestFrames;I[J)I"⟩
abbrev cL_law : ByteArray := code
def yL_law : MethodName := ⟨RL, "law", "([I)Z"⟩
