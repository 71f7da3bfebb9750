def RX0 : String := "CliffSerial$History"
def TX0 : u_T := fun k => match k with
  | 0 => ("CliffSerial$History", "states", "[LCliffSerial$Moment;", true)
  | _ => ("CliffSerial$History", "kept", "I", false)
def tyX0 : Nat → FieldType := fun k => match k with
  | 0 => .array (.object "CliffSerial$Moment")
  | _ => .int
theorem nmX0 : ∀ a, a < 2 → ∀ b, b < 2 → a ≠ b → (TX0 a).2.1 ≠ (TX0 b).2.1 := by decide +kernel
theorem tyX0_ok : ∀ k, k < 2 → parseFieldDescriptor (TX0 k).2.2.1 = some (tyX0 k) := by decide +kernel
abbrev cX0_init : ByteArray := prog_2_method_1_code
def yX0_init : MethodName := ⟨RX0, "<init>", "()V"⟩
abbrev cX0_record : ByteArray := prog_2_method_2_code
def yX0_record : MethodName := ⟨RX0, "record", "(LCliffSerial$Moment;)V"⟩
abbrev cX0_dropOldest : ByteArray := prog_2_method_3_code
def yX0_dropOldest : MethodName := ⟨RX0, "dropOldest", "()V"⟩
abbrev cX0_goBack : ByteArray := prog_2_method_4_code
def yX0_goBack : MethodName := ⟨RX0, "goBack", "(LCliffSerial$Moment;)V"⟩
def RX1 : String := "CliffSerial$Moment"
def TX1 : u_T := fun k => match k with
  | 0 => ("CliffSerial$Moment", "novel", "LCliffSerial$Novel;", true)
  | 1 => ("CliffSerial$Moment", "slots", "[LCliffSerial$Novel;", true)
  | _ => ("CliffSerial$Moment", "taken", "[Z", true)
def tyX1 : Nat → FieldType := fun k => match k with
  | 0 => .object "CliffSerial$Novel"
  | 1 => .array (.object "CliffSerial$Novel")
  | _ => .array .boolean
theorem nmX1 : ∀ a, a < 3 → ∀ b, b < 3 → a ≠ b → (TX1 a).2.1 ≠ (TX1 b).2.1 := by decide +kernel
theorem tyX1_ok : ∀ k, k < 3 → parseFieldDescriptor (TX1 k).2.2.1 = some (tyX1 k) := by decide +kernel
abbrev cX1_init : ByteArray := prog_3_method_1_code
def yX1_init : MethodName := ⟨RX1, "<init>", "()V"⟩
abbrev cX1_copyFrom : ByteArray := prog_3_method_2_code
def yX1_copyFrom : MethodName := ⟨RX1, "copyFrom", "(LCliffSerial$Moment;)V"⟩
abbrev cX1_snapshots : ByteArray := prog_3_method_3_code
def yX1_snapshots : MethodName := ⟨RX1, "snapshots", "()I"⟩
def RX2 : String := "CliffSerial$Novel"
def TX2 : u_T := fun k => match k with
  | 0 => ("CliffSerial$Novel", "numbers", "[I", true)
  | 1 => ("CliffSerial$Novel", "scenes", "[[I", true)
  | _ => ("CliffSerial$Novel", "weeks", "[[I", true)
def tyX2 : Nat → FieldType := fun k => match k with
  | 0 => .array .int
  | 1 => .array (.array .int)
  | _ => .array (.array .int)
theorem nmX2 : ∀ a, a < 3 → ∀ b, b < 3 → a ≠ b → (TX2 a).2.1 ≠ (TX2 b).2.1 := by decide +kernel
theorem tyX2_ok : ∀ k, k < 3 → parseFieldDescriptor (TX2 k).2.2.1 = some (tyX2 k) := by decide +kernel
abbrev cX2_init : ByteArray := prog_4_method_1_code
def yX2_init : MethodName := ⟨RX2, "<init>", "()V"⟩
abbrev cX2_copyFrom : ByteArray := prog_4_method_2_code
def yX2_copyFrom : MethodName := ⟨RX2, "copyFrom", "(LCliffSerial$Novel;)V"⟩
abbrev cX2_toCome : ByteArray := prog_4_method_3_code
def yX2_toCome : MethodName := ⟨RX2, "toCome", "()I"⟩
abbrev cX2_isToCome : ByteArray := prog_4_method_4_code
def yX2_isToCome : MethodName := ⟨RX2, "isToCome", "(I)Z"⟩
abbrev cX2_addScene : ByteArray := prog_4_method_5_code
def yX2_addScene : MethodName := ⟨RX2, "addScene", "(IIIII)V"⟩
abbrev cX2_dropScene : ByteArray := prog_4_method_6_code
def yX2_dropScene : MethodName := ⟨RX2, "dropScene", "(I)V"⟩
abbrev cX2_roomOf : ByteArray := prog_4_method_7_code
def yX2_roomOf : MethodName := ⟨RX2, "roomOf", "(I)I"⟩
abbrev cX2_sum : ByteArray := prog_4_method_8_code
def yX2_sum : MethodName := ⟨RX2, "sum", "(III)I"⟩
abbrev cX2_wordsOfStrand : ByteArray := prog_4_method_9_code
def yX2_wordsOfStrand : MethodName := ⟨RX2, "wordsOfStrand", "(III)I"⟩
abbrev cX2_wordsOfNext : ByteArray := prog_4_method_10_code
def yX2_wordsOfNext : MethodName := ⟨RX2, "wordsOfNext", "(I)I"⟩
abbrev cX2_strandBefore : ByteArray := prog_4_method_11_code
def yX2_strandBefore : MethodName := ⟨RX2, "strandBefore", "(I)I"⟩
abbrev cX2_cutOf : ByteArray := prog_4_method_12_code
def yX2_cutOf : MethodName := ⟨RX2, "cutOf", "(III)I"⟩
abbrev cX2_tensionAfter : ByteArray := prog_4_method_13_code
def yX2_tensionAfter : MethodName := ⟨RX2, "tensionAfter", "(II)I"⟩
abbrev cX2_lastTension : ByteArray := prog_4_method_14_code
def yX2_lastTension : MethodName := ⟨RX2, "lastTension", "(II)I"⟩
abbrev cX2_isCliff : ByteArray := prog_4_method_15_code
def yX2_isCliff : MethodName := ⟨RX2, "isCliff", "(III)Z"⟩
abbrev cX2_reason : ByteArray := prog_4_method_16_code
def yX2_reason : MethodName := ⟨RX2, "reason", "(IIIII)I"⟩
abbrev cX2_reasonNow : ByteArray := prog_4_method_17_code
def yX2_reasonNow : MethodName := ⟨RX2, "reasonNow", "(II)I"⟩
abbrev cX2_isGood : ByteArray := prog_4_method_18_code
def yX2_isGood : MethodName := ⟨RX2, "isGood", "(I)Z"⟩
abbrev cX2_owedAfter : ByteArray := prog_4_method_20_code
def yX2_owedAfter : MethodName := ⟨RX2, "owedAfter", "(II)I"⟩
abbrev cX2_payFor : ByteArray := prog_4_method_21_code
def yX2_payFor : MethodName := ⟨RX2, "payFor", "(II)I"⟩
abbrev cX2_printInstalment : ByteArray := prog_4_method_22_code
def yX2_printInstalment : MethodName := ⟨RX2, "printInstalment", "(I)I"⟩
abbrev cX2_passWeek : ByteArray := prog_4_method_23_code
def yX2_passWeek : MethodName := ⟨RX2, "passWeek", "(II)V"⟩
def RX3 : String := "CliffSerial$PlanTable"
def TX3 : u_T := fun k => match k with
  | 0 => ("CliffSerial$PlanTable", "plans", "[[I", true)
  | 1 => ("CliffSerial$PlanTable", "fewest", "[[I", true)
  | 2 => ("CliffSerial$PlanTable", "greatest", "[[I", true)
  | 3 => ("CliffSerial$PlanTable", "counts", "[[I", true)
  | 4 => ("CliffSerial$PlanTable", "begin", "I", false)
  | _ => ("CliffSerial$PlanTable", "end", "I", false)
def tyX3 : Nat → FieldType := fun k => match k with
  | 0 => .array (.array .int)
  | 1 => .array (.array .int)
  | 2 => .array (.array .int)
  | 3 => .array (.array .int)
  | 4 => .int
  | _ => .int
theorem nmX3 : ∀ a, a < 6 → ∀ b, b < 6 → a ≠ b → (TX3 a).2.1 ≠ (TX3 b).2.1 := by decide +kernel
theorem tyX3_ok : ∀ k, k < 6 → parseFieldDescriptor (TX3 k).2.2.1 = some (tyX3 k) := by decide +kernel
abbrev cX3_init : ByteArray := prog_5_method_1_code
def yX3_init : MethodName := ⟨RX3, "<init>", "()V"⟩
def RX4 : String := "CliffSerial$SceneText"
def TX4 : u_T := fun k => match k with
  | 0 => ("CliffSerial$SceneText", "characters", "[I", true)
  | 1 => ("CliffSerial$SceneText", "scenes", "[[I", true)
  | 2 => ("CliffSerial$SceneText", "length", "I", false)
  | 3 => ("CliffSerial$SceneText", "found", "I", false)
  | _ => ("CliffSerial$SceneText", "at", "I", false)
def tyX4 : Nat → FieldType := fun k => match k with
  | 0 => .array .int
  | 1 => .array (.array .int)
  | 2 => .int
  | 3 => .int
  | _ => .int
theorem nmX4 : ∀ a, a < 5 → ∀ b, b < 5 → a ≠ b → (TX4 a).2.1 ≠ (TX4 b).2.1 := by decide +kernel
theorem tyX4_ok : ∀ k, k < 5 → parseFieldDescriptor (TX4 k).2.2.1 = some (tyX4 k) := by decide +kernel
abbrev cX4_init : ByteArray := prog_6_method_1_code
def yX4_init : MethodName := ⟨RX4, "<init>", "()V"⟩
def RX5 : String := "CliffSerial"
def TX5 : u_T := fun k => match k with
  | 0 => ("CliffSerial", "now", "LCliffSerial$Moment;", true)
  | 1 => ("CliffSerial", "history", "LCliffSerial$History;", true)
  | 2 => ("CliffSerial", "text", "LCliffSerial$SceneText;", true)
  | _ => ("CliffSerial", "table", "LCliffSerial$PlanTable;", true)
def tyX5 : Nat → FieldType := fun k => match k with
  | 0 => .object "CliffSerial$Moment"
  | 1 => .object "CliffSerial$History"
  | 2 => .object "CliffSerial$SceneText"
  | _ => .object "CliffSerial$PlanTable"
theorem nmX5 : ∀ a, a < 4 → ∀ b, b < 4 → a ≠ b → (TX5 a).2.1 ≠ (TX5 b).2.1 := by decide +kernel
theorem tyX5_ok : ∀ k, k < 4 → parseFieldDescriptor (TX5 k).2.2.1 = some (tyX5 k) := by decide +kernel
abbrev cX5_init : ByteArray := prog_1_method_1_code
def yX5_init : MethodName := ⟨RX5, "<init>", "()V"⟩
abbrev cX5_insert : ByteArray := prog_1_method_2_code
def yX5_insert : MethodName := ⟨RX5, "insert", "(IIIII)I"⟩
abbrev cX5_remove : ByteArray := prog_1_method_3_code
def yX5_remove : MethodName := ⟨RX5, "remove", "(I)I"⟩
abbrev cX5_change : ByteArray := prog_1_method_4_code
def yX5_change : MethodName := ⟨RX5, "change", "(III)I"⟩
abbrev cX5_isSet : ByteArray := prog_1_method_5_code
def yX5_isSet : MethodName := ⟨RX5, "isSet", "()Z"⟩
abbrev cX5_isScene : ByteArray := prog_1_method_6_code
def yX5_isScene : MethodName := ⟨RX5, "isScene", "(IIII)Z"⟩
abbrev cX5_isOfScene : ByteArray := prog_1_method_7_code
def yX5_isOfScene : MethodName := ⟨RX5, "isOfScene", "(II)Z"⟩
abbrev cX5_fits : ByteArray := prog_1_method_8_code
def yX5_fits : MethodName := ⟨RX5, "fits", "(III)Z"⟩
abbrev cX5_setWeek : ByteArray := prog_1_method_9_code
def yX5_setWeek : MethodName := ⟨RX5, "setWeek", "(III)I"⟩
abbrev cX5_setNumber : ByteArray := prog_1_method_10_code
def yX5_setNumber : MethodName := ⟨RX5, "setNumber", "(II)I"⟩
abbrev cX5_ask : ByteArray := prog_1_method_11_code
def yX5_ask : MethodName := ⟨RX5, "ask", "(I)I"⟩
abbrev cX5_set : ByteArray := prog_1_method_12_code
def yX5_set : MethodName := ⟨RX5, "set", "(I)I"⟩
abbrev cX5_unset : ByteArray := prog_1_method_13_code
def yX5_unset : MethodName := ⟨RX5, "unset", "()I"⟩
abbrev cX5_mend : ByteArray := prog_1_method_14_code
def yX5_mend : MethodName := ⟨RX5, "mend", "()I"⟩
abbrev cX5_nearestGood : ByteArray := prog_1_method_15_code
def yX5_nearestGood : MethodName := ⟨RX5, "nearestGood", "(I)I"⟩
abbrev cX5_print : ByteArray := prog_1_method_16_code
def yX5_print : MethodName := ⟨RX5, "print", "()I"⟩
abbrev cX5_skip : ByteArray := prog_1_method_17_code
def yX5_skip : MethodName := ⟨RX5, "skip", "()I"⟩
abbrev cX5_take : ByteArray := prog_1_method_18_code
def yX5_take : MethodName := ⟨RX5, "take", "(I)I"⟩
abbrev cX5_restore : ByteArray := prog_1_method_19_code
def yX5_restore : MethodName := ⟨RX5, "restore", "(I)I"⟩
abbrev cX5_undo : ByteArray := prog_1_method_20_code
def yX5_undo : MethodName := ⟨RX5, "undo", "()I"⟩
abbrev cX5_count : ByteArray := prog_1_method_24_code
def yX5_count : MethodName := ⟨RX5, "count", "(I)I"⟩
abbrev cX5_scene : ByteArray := prog_1_method_25_code
def yX5_scene : MethodName := ⟨RX5, "scene", "(II)I"⟩
abbrev cX5_week : ByteArray := prog_1_method_26_code
def yX5_week : MethodName := ⟨RX5, "week", "(II)I"⟩
abbrev cX5_why : ByteArray := prog_1_method_27_code
def yX5_why : MethodName := ⟨RX5, "why", "(I)I"⟩
abbrev cX5_cutFrom : ByteArray := prog_1_method_28_code
def yX5_cutFrom : MethodName := ⟨RX5, "cutFrom", "(II)I"⟩
abbrev cX5_since : ByteArray := prog_1_method_29_code
def yX5_since : MethodName := ⟨RX5, "since", "(I)I"⟩
abbrev cX5_strand : ByteArray := prog_1_method_30_code
def yX5_strand : MethodName := ⟨RX5, "strand", "(II)I"⟩
abbrev cX5_fineFor : ByteArray := prog_1_method_39_code
def yX5_fineFor : MethodName := ⟨RX5, "fineFor", "(I)I"⟩
def RX6 : String := "CliffSerialModel"
def TX6 : u_T := fun k => match k with
  | _ => ("", "", "", false)
def tyX6 : Nat → FieldType := fun k => match k with
  | _ => .int
theorem nmX6 : ∀ a, a < 0 → ∀ b, b < 0 → a ≠ b → (TX6 a).2.1 ≠ (TX6 b).2.1 := by decide +kernel
theorem tyX6_ok : ∀ k, k < 0 → parseFieldDescriptor (TX6 k).2.2.1 = some (tyX6 k) := by decide +kernel
def RJ9 : String := "java/lang/Math"
def RJ10 : String := "java/lang/System"
def RL : String := "CliffSerialLaw"
abbrev cL_cell : ByteArray := method_2_code
def yL_cell : MethodName := ⟨RL, "cell", "([II)I"⟩
abbrev cL_holds : ByteArray := method_3_code
def yL_holds : MethodName := ⟨RL, "holds", "(LCliffSerial;)Z"⟩
abbrev cL_prints : ByteArray := method_4_code
def yL_prints : MethodName := ⟨RL, "prints", "(LCliffSerial;I)Z"⟩
abbrev cL_late : ByteArray := method_5_code
def yL_late : MethodName := ⟨RL, "late", "(LCliffSerial;II)Z"⟩
abbrev cL_law : ByteArray := code
def yL_law : MethodName := ⟨RL, "law", "([I)Z"⟩
abbrev vwCl : List vw_C := [(RX0, TX0, 2), (RX1, TX1, 3), (RX2, TX2, 3), (RX3, TX3, 6), (RX4, TX4, 5), (RX5, TX5, 4)]
