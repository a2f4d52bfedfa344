/-! ===== BEGIN printed: names, fields, word lists, decode rows ===== -/
def RX0 : String := "RightsSteps$GivenSeeds"
def TX0 : u_T := fun k => match k with
  | 0 => ("RightsSteps$GivenSeeds", "seeds", "[I", true)
  | _ => ("RightsSteps$GivenSeeds", "size", "I", false)
def tyX0 : Nat → FieldType := fun k => match k with
  | 0 => .array .int
  | _ => .int
abbrev wsX00 : List Cond := u_ws RX0 TX0 2
theorem nmX0 : ∀ a, a < 2 → ∀ b, b < 2 → a ≠ b → (TX0 a).2.1 ≠ (TX0 b).2.1 := by decide +kernel
theorem tyX0_ok : ∀ k, k < 2 → parseFieldDescriptor (TX0 k).2.2.1 = some (tyX0 k) := by decide +kernel
abbrev cX0_init : ByteArray := prog_2_method_1_code
def yX0_init : MethodName := ⟨RX0, "<init>", "()V"⟩
abbrev cX0_has : ByteArray := prog_2_method_2_code
def yX0_has : MethodName := ⟨RX0, "has", "(I)Z"⟩
abbrev cX0_add : ByteArray := prog_2_method_3_code
def yX0_add : MethodName := ⟨RX0, "add", "(I)V"⟩
abbrev cX0_forgetAll : ByteArray := prog_2_method_4_code
def yX0_forgetAll : MethodName := ⟨RX0, "forgetAll", "()V"⟩
def RX1 : String := "RightsSteps$Level"
def TX1 : u_T := fun k => match k with
  | 0 => ("RightsSteps$Level", "number", "I", true)
  | 1 => ("RightsSteps$Level", "kind", "I", true)
  | 2 => ("RightsSteps$Level", "tries", "I", true)
  | _ => ("RightsSteps$Level", "delay", "J", true)
def tyX1 : Nat → FieldType := fun k => match k with
  | 0 => .int
  | 1 => .int
  | 2 => .int
  | _ => .long
abbrev wsX10 : List Cond := u_ws RX1 TX1 4
theorem nmX1 : ∀ a, a < 4 → ∀ b, b < 4 → a ≠ b → (TX1 a).2.1 ≠ (TX1 b).2.1 := by decide +kernel
theorem tyX1_ok : ∀ k, k < 4 → parseFieldDescriptor (TX1 k).2.2.1 = some (tyX1 k) := by decide +kernel
abbrev cX1_init : ByteArray := prog_3_method_1_code
def yX1_init : MethodName := ⟨RX1, "<init>", "(IIIJ)V"⟩
abbrev cX1_needsRole : ByteArray := prog_3_method_2_code
def yX1_needsRole : MethodName := ⟨RX1, "needsRole", "()Z"⟩
abbrev cX1_isForSession : ByteArray := prog_3_method_3_code
def yX1_isForSession : MethodName := ⟨RX1, "isForSession", "(I)Z"⟩
abbrev cX1_keyTo : ByteArray := prog_3_method_4_code
def yX1_keyTo : MethodName := ⟨RX1, "keyTo", "(I)I"⟩
abbrev cX1_shiftedKeyTo : ByteArray := prog_3_method_5_code
def yX1_shiftedKeyTo : MethodName := ⟨RX1, "shiftedKeyTo", "(I)I"⟩
def RX2 : String := "RightsSteps$Tape"
def TX2 : u_T := fun k => match k with
  | 0 => ("RightsSteps$Tape", "numbers", "[I", true)
  | 1 => ("RightsSteps$Tape", "first", "I", false)
  | _ => ("RightsSteps$Tape", "size", "I", false)
def tyX2 : Nat → FieldType := fun k => match k with
  | 0 => .array .int
  | 1 => .int
  | _ => .int
abbrev wsX20 : List Cond := u_ws RX2 TX2 3
theorem nmX2 : ∀ a, a < 3 → ∀ b, b < 3 → a ≠ b → (TX2 a).2.1 ≠ (TX2 b).2.1 := by decide +kernel
theorem tyX2_ok : ∀ k, k < 3 → parseFieldDescriptor (TX2 k).2.2.1 = some (tyX2 k) := by decide +kernel
abbrev cX2_init : ByteArray := prog_4_method_1_code
def yX2_init : MethodName := ⟨RX2, "<init>", "()V"⟩
abbrev cX2_add : ByteArray := prog_4_method_2_code
def yX2_add : MethodName := ⟨RX2, "add", "(I)V"⟩
abbrev cX2_takeSeed : ByteArray := prog_4_method_3_code
def yX2_takeSeed : MethodName := ⟨RX2, "takeSeed", "(LRightsSteps$GivenSeeds;)I"⟩
abbrev cX2_takeFirst : ByteArray := prog_4_method_4_code
def yX2_takeFirst : MethodName := ⟨RX2, "takeFirst", "()I"⟩
def RX3 : String := "RightsSteps$Tester"
def TX3 : u_T := fun k => match k with
  | 0 => ("RightsSteps$Tester", "number", "I", true)
  | 1 => ("RightsSteps$Tester", "session", "I", false)
  | 2 => ("RightsSteps$Tester", "roleUntil", "J", false)
  | 3 => ("RightsSteps$Tester", "openLevel", "I", false)
  | 4 => ("RightsSteps$Tester", "awaitedLevel", "I", false)
  | 5 => ("RightsSteps$Tester", "awaitedSeed", "I", false)
  | 6 => ("RightsSteps$Tester", "octets", "I", false)
  | 7 => ("RightsSteps$Tester", "keySoFar", "I", false)
  | 8 => ("RightsSteps$Tester", "out", "I", false)
  | 9 => ("RightsSteps$Tester", "usedTries", "[I", true)
  | _ => ("RightsSteps$Tester", "lockedUntil", "[J", true)
def tyX3 : Nat → FieldType := fun k => match k with
  | 0 => .int
  | 1 => .int
  | 2 => .long
  | 3 => .int
  | 4 => .int
  | 5 => .int
  | 6 => .int
  | 7 => .int
  | 8 => .int
  | 9 => .array .int
  | _ => .array .long
abbrev wsX30 : List Cond := u_ws RX3 TX3 11
theorem nmX3 : ∀ a, a < 11 → ∀ b, b < 11 → a ≠ b → (TX3 a).2.1 ≠ (TX3 b).2.1 := by decide +kernel
theorem tyX3_ok : ∀ k, k < 11 → parseFieldDescriptor (TX3 k).2.2.1 = some (tyX3 k) := by decide +kernel
abbrev cX3_init : ByteArray := prog_5_method_1_code
def yX3_init : MethodName := ⟨RX3, "<init>", "(I)V"⟩
abbrev cX3_startSession : ByteArray := prog_5_method_2_code
def yX3_startSession : MethodName := ⟨RX3, "startSession", "(I)V"⟩
abbrev cX3_awaitKey : ByteArray := prog_5_method_3_code
def yX3_awaitKey : MethodName := ⟨RX3, "awaitKey", "(II)V"⟩
abbrev cX3_addOctet : ByteArray := prog_5_method_4_code
def yX3_addOctet : MethodName := ⟨RX3, "addOctet", "(B)V"⟩
abbrev cX3_dropOctets : ByteArray := prog_5_method_5_code
def yX3_dropOctets : MethodName := ⟨RX3, "dropOctets", "()V"⟩
abbrev cX3_usedTries : ByteArray := prog_5_method_6_code
def yX3_usedTries : MethodName := ⟨RX3, "usedTries", "(I)I"⟩
abbrev cX3_setUsedTries : ByteArray := prog_5_method_7_code
def yX3_setUsedTries : MethodName := ⟨RX3, "setUsedTries", "(II)V"⟩
abbrev cX3_lockedUntil : ByteArray := prog_5_method_8_code
def yX3_lockedUntil : MethodName := ⟨RX3, "lockedUntil", "(I)J"⟩
abbrev cX3_lock : ByteArray := prog_5_method_9_code
def yX3_lock : MethodName := ⟨RX3, "lock", "(IJ)V"⟩
def RX4 : String := "RightsSteps$UseLog"
def TX4 : u_T := fun k => match k with
  | 0 => ("RightsSteps$UseLog", "parts", "[I", true)
  | 1 => ("RightsSteps$UseLog", "kept", "I", false)
  | _ => ("RightsSteps$UseLog", "count", "I", false)
def tyX4 : Nat → FieldType := fun k => match k with
  | 0 => .array .int
  | 1 => .int
  | _ => .int
abbrev wsX40 : List Cond := u_ws RX4 TX4 3
theorem nmX4 : ∀ a, a < 3 → ∀ b, b < 3 → a ≠ b → (TX4 a).2.1 ≠ (TX4 b).2.1 := by decide +kernel
theorem tyX4_ok : ∀ k, k < 3 → parseFieldDescriptor (TX4 k).2.2.1 = some (tyX4 k) := by decide +kernel
abbrev cX4_init : ByteArray := prog_6_method_1_code
def yX4_init : MethodName := ⟨RX4, "<init>", "()V"⟩
abbrev cX4_add : ByteArray := prog_6_method_2_code
def yX4_add : MethodName := ⟨RX4, "add", "(III)V"⟩
abbrev cX4_has : ByteArray := prog_6_method_3_code
def yX4_has : MethodName := ⟨RX4, "has", "(I)Z"⟩
abbrev cX4_part : ByteArray := prog_6_method_4_code
def yX4_part : MethodName := ⟨RX4, "part", "(II)I"⟩
def RX5 : String := "RightsSteps"
def TX5 : u_T := fun k => match k with
  | 0 => ("RightsSteps", "levels", "[LRightsSteps$Level;", true)
  | 1 => ("RightsSteps", "tape", "LRightsSteps$Tape;", true)
  | 2 => ("RightsSteps", "given", "LRightsSteps$GivenSeeds;", true)
  | 3 => ("RightsSteps", "uses", "LRightsSteps$UseLog;", true)
  | 4 => ("RightsSteps", "testers", "[LRightsSteps$Tester;", true)
  | 5 => ("RightsSteps", "atHand", "LRightsSteps$Tester;", false)
  | 6 => ("RightsSteps", "levelsMade", "I", false)
  | _ => ("RightsSteps", "time", "J", false)
def tyX5 : Nat → FieldType := fun k => match k with
  | 0 => .array (.object "RightsSteps$Level")
  | 1 => .object "RightsSteps$Tape"
  | 2 => .object "RightsSteps$GivenSeeds"
  | 3 => .object "RightsSteps$UseLog"
  | 4 => .array (.object "RightsSteps$Tester")
  | 5 => .object "RightsSteps$Tester"
  | 6 => .int
  | _ => .long
abbrev wsX50 : List Cond := u_ws RX5 TX5 8
theorem nmX5 : ∀ a, a < 8 → ∀ b, b < 8 → a ≠ b → (TX5 a).2.1 ≠ (TX5 b).2.1 := by decide +kernel
theorem tyX5_ok : ∀ k, k < 8 → parseFieldDescriptor (TX5 k).2.2.1 = some (tyX5 k) := by decide +kernel
abbrev cX5_init : ByteArray := prog_1_method_1_code
def yX5_init : MethodName := ⟨RX5, "<init>", "()V"⟩
abbrev cX5_level : ByteArray := prog_1_method_2_code
def yX5_level : MethodName := ⟨RX5, "level", "(IIIJ)I"⟩
abbrev cX5_tape : ByteArray := prog_1_method_3_code
def yX5_tape : MethodName := ⟨RX5, "tape", "(I)V"⟩
abbrev cX5_seed : ByteArray := prog_1_method_4_code
def yX5_seed : MethodName := ⟨RX5, "seed", "(IJ)I"⟩
abbrev cX5_out : ByteArray := prog_1_method_5_code
def yX5_out : MethodName := ⟨RX5, "out", "(I)B"⟩
abbrev cX5_key : ByteArray := prog_1_method_6_code
def yX5_key : MethodName := ⟨RX5, "key", "(IBZ)I"⟩
abbrev cX5_open : ByteArray := prog_1_method_7_code
def yX5_open : MethodName := ⟨RX5, "open", "(I)I"⟩
abbrev cX5_session : ByteArray := prog_1_method_8_code
def yX5_session : MethodName := ⟨RX5, "session", "(I)I"⟩
abbrev cX5_reset : ByteArray := prog_1_method_9_code
def yX5_reset : MethodName := ⟨RX5, "reset", "()I"⟩
abbrev cX5_role : ByteArray := prog_1_method_10_code
def yX5_role : MethodName := ⟨RX5, "role", "(IZJ)I"⟩
abbrev cX5_left : ByteArray := prog_1_method_11_code
def yX5_left : MethodName := ⟨RX5, "left", "(IJ)I"⟩
abbrev cX5_log : ByteArray := prog_1_method_12_code
def yX5_log : MethodName := ⟨RX5, "log", "(II)I"⟩
abbrev cX5_digit : ByteArray := prog_1_method_13_code
def yX5_digit : MethodName := ⟨RX5, "digit", "(I)I"⟩
abbrev cX5_tester : ByteArray := prog_1_method_14_code
def yX5_tester : MethodName := ⟨RX5, "tester", "(I)I"⟩
abbrev cX5_madeLevel : ByteArray := prog_1_method_15_code
def yX5_madeLevel : MethodName := ⟨RX5, "madeLevel", "(I)LRightsSteps$Level;"⟩
abbrev cX5_askForSeed : ByteArray := prog_1_method_16_code
def yX5_askForSeed : MethodName := ⟨RX5, "askForSeed", "(LRightsSteps$Level;)I"⟩
abbrev cX5_tryKey : ByteArray := prog_1_method_17_code
def yX5_tryKey : MethodName := ⟨RX5, "tryKey", "(LRightsSteps$Level;I)I"⟩
abbrev cX5_countDigits : ByteArray := prog_1_method_18_code
def yX5_countDigits : MethodName := ⟨RX5, "countDigits", "(J)I"⟩
abbrev cX5_isPlain : ByteArray := prog_1_method_19_code
def yX5_isPlain : MethodName := ⟨RX5, "isPlain", "(I)Z"⟩
def RX6 : String := "RightsStepsModel"
def TX6 : u_T := fun k => match k with
  | 0 => ("RightsStepsModel", "code", "I", false)
  | 1 => ("RightsStepsModel", "time", "J", false)
  | 2 => ("RightsStepsModel", "hand", "I", false)
  | 3 => ("RightsStepsModel", "made", "I", false)
  | 4 => ("RightsStepsModel", "kind", "[I", true)
  | 5 => ("RightsStepsModel", "tries", "[I", true)
  | 6 => ("RightsStepsModel", "delay", "[J", true)
  | 7 => ("RightsStepsModel", "typed", "I", false)
  | 8 => ("RightsStepsModel", "read", "I", false)
  | 9 => ("RightsStepsModel", "tape", "[I", true)
  | 10 => ("RightsStepsModel", "givens", "I", false)
  | 11 => ("RightsStepsModel", "given", "[I", true)
  | 12 => ("RightsStepsModel", "session", "[I", true)
  | 13 => ("RightsStepsModel", "roleUntil", "[J", true)
  | 14 => ("RightsStepsModel", "open", "[I", true)
  | 15 => ("RightsStepsModel", "awaited", "[I", true)
  | 16 => ("RightsStepsModel", "awaitedSeed", "[I", true)
  | 17 => ("RightsStepsModel", "out", "[I", true)
  | 18 => ("RightsStepsModel", "octets", "[I", true)
  | 19 => ("RightsStepsModel", "octetRow", "[I", true)
  | 20 => ("RightsStepsModel", "used", "[I", true)
  | 21 => ("RightsStepsModel", "locked", "[J", true)
  | 22 => ("RightsStepsModel", "wasLocked", "[Z", true)
  | 23 => ("RightsStepsModel", "uses", "I", false)
  | 24 => ("RightsStepsModel", "useBy", "[I", true)
  | 25 => ("RightsStepsModel", "useLevel", "[I", true)
  | _ => ("RightsStepsModel", "useAnswer", "[I", true)
def tyX6 : Nat → FieldType := fun k => match k with
  | 0 => .int
  | 1 => .long
  | 2 => .int
  | 3 => .int
  | 4 => .array .int
  | 5 => .array .int
  | 6 => .array .long
  | 7 => .int
  | 8 => .int
  | 9 => .array .int
  | 10 => .int
  | 11 => .array .int
  | 12 => .array .int
  | 13 => .array .long
  | 14 => .array .int
  | 15 => .array .int
  | 16 => .array .int
  | 17 => .array .int
  | 18 => .array .int
  | 19 => .array .int
  | 20 => .array .int
  | 21 => .array .long
  | 22 => .array .boolean
  | 23 => .int
  | 24 => .array .int
  | 25 => .array .int
  | _ => .array .int
abbrev wsX60 : List Cond := u_ws RX6 TX6 27
theorem nmX6 : ∀ a, a < 27 → ∀ b, b < 27 → a ≠ b → (TX6 a).2.1 ≠ (TX6 b).2.1 := by decide +kernel
theorem tyX6_ok : ∀ k, k < 27 → parseFieldDescriptor (TX6 k).2.2.1 = some (tyX6 k) := by decide +kernel
abbrev cX6_init : ByteArray := prog_8_method_1_code
def yX6_init : MethodName := ⟨RX6, "<init>", "()V"⟩
abbrev cX6_thrown : ByteArray := prog_8_method_2_code
def yX6_thrown : MethodName := ⟨RX6, "thrown", "()I"⟩
abbrev cX6_isMade : ByteArray := prog_8_method_3_code
def yX6_isMade : MethodName := ⟨RX6, "isMade", "(I)Z"⟩
abbrev cX6_level : ByteArray := prog_8_method_4_code
def yX6_level : MethodName := ⟨RX6, "level", "(IIIJ)I"⟩
abbrev cX6_tape : ByteArray := prog_8_method_5_code
def yX6_tape : MethodName := ⟨RX6, "tape", "(I)V"⟩
abbrev cX6_isPlain : ByteArray := prog_8_method_6_code
def yX6_isPlain : MethodName := ⟨RX6, "isPlain", "(I)Z"⟩
abbrev cX6_wasGiven : ByteArray := prog_8_method_7_code
def yX6_wasGiven : MethodName := ⟨RX6, "wasGiven", "(I)Z"⟩
abbrev cX6_note : ByteArray := prog_8_method_8_code
def yX6_note : MethodName := ⟨RX6, "note", "(II)I"⟩
abbrev cX6_asked : ByteArray := prog_8_method_9_code
def yX6_asked : MethodName := ⟨RX6, "asked", "(I)I"⟩
abbrev cX6_seed : ByteArray := prog_8_method_10_code
def yX6_seed : MethodName := ⟨RX6, "seed", "(IJ)I"⟩
abbrev cX6_keyTo : ByteArray := prog_8_method_11_code
def yX6_keyTo : MethodName := ⟨RX6, "keyTo", "(II)I"⟩
abbrev cX6_came : ByteArray := prog_8_method_12_code
def yX6_came : MethodName := ⟨RX6, "came", "(III)I"⟩
abbrev cX6_key : ByteArray := prog_8_method_13_code
def yX6_key : MethodName := ⟨RX6, "key", "(IBZ)I"⟩
abbrev cX6_out : ByteArray := prog_8_method_14_code
def yX6_out : MethodName := ⟨RX6, "out", "(I)B"⟩
abbrev cX6_open : ByteArray := prog_8_method_15_code
def yX6_open : MethodName := ⟨RX6, "open", "(I)I"⟩
abbrev cX6_begin : ByteArray := prog_8_method_16_code
def yX6_begin : MethodName := ⟨RX6, "begin", "(II)V"⟩
abbrev cX6_session : ByteArray := prog_8_method_17_code
def yX6_session : MethodName := ⟨RX6, "session", "(I)I"⟩
abbrev cX6_reset : ByteArray := prog_8_method_18_code
def yX6_reset : MethodName := ⟨RX6, "reset", "()I"⟩
abbrev cX6_role : ByteArray := prog_8_method_19_code
def yX6_role : MethodName := ⟨RX6, "role", "(IZJ)I"⟩
abbrev cX6_left : ByteArray := prog_8_method_20_code
def yX6_left : MethodName := ⟨RX6, "left", "(IJ)I"⟩
abbrev cX6_log : ByteArray := prog_8_method_21_code
def yX6_log : MethodName := ⟨RX6, "log", "(II)I"⟩
abbrev cX6_digit : ByteArray := prog_8_method_22_code
def yX6_digit : MethodName := ⟨RX6, "digit", "(I)I"⟩
abbrev cX6_tester : ByteArray := prog_8_method_23_code
def yX6_tester : MethodName := ⟨RX6, "tester", "(I)I"⟩
def RJx145de : String := "java/io/Serializable"
def TJx145de : u_T := fun k => match k with
  | _ => ("", "", "", false)
def tyJx145de : Nat → FieldType := fun k => match k with
  | _ => .int
abbrev wsJx145de0 : List Cond := u_ws RJx145de TJx145de 0
theorem nmJx145de : ∀ a, a < 0 → ∀ b, b < 0 → a ≠ b → (TJx145de a).2.1 ≠ (TJx145de b).2.1 := by decide +kernel
theorem tyJx145de_ok : ∀ k, k < 0 → parseFieldDescriptor (TJx145de k).2.2.1 = some (tyJx145de k) := by decide +kernel
def RJx00060 : String := "java/lang/ArrayIndexOutOfBoundsException"
def TJx00060 : u_T := fun k => match k with
  | 0 => ("java/lang/Throwable", "backtrace", "Ljava/lang/Object;", false)
  | 1 => ("java/lang/Throwable", "detailMessage", "Ljava/lang/String;", false)
  | 2 => ("java/lang/Throwable", "cause", "Ljava/lang/Throwable;", false)
  | 3 => ("java/lang/Throwable", "stackTrace", "[Ljava/lang/StackTraceElement;", false)
  | 4 => ("java/lang/Throwable", "depth", "I", false)
  | _ => ("java/lang/Throwable", "suppressedExceptions", "Ljava/util/List;", false)
def tyJx00060 : Nat → FieldType := fun k => match k with
  | 0 => .object "java/lang/Object"
  | 1 => .object "java/lang/String"
  | 2 => .object "java/lang/Throwable"
  | 3 => .array (.object "java/lang/StackTraceElement")
  | 4 => .int
  | _ => .object "java/util/List"
abbrev wsJx000600 : List Cond := u_ws RJx00060 TJx00060 6
theorem nmJx00060 : ∀ a, a < 6 → ∀ b, b < 6 → a ≠ b → (TJx00060 a).2.1 ≠ (TJx00060 b).2.1 := by decide +kernel
theorem tyJx00060_ok : ∀ k, k < 6 → parseFieldDescriptor (TJx00060 k).2.2.1 = some (tyJx00060 k) := by decide +kernel
abbrev cJx00060_init_da8c8 : ByteArray := prog_9_method_1_code
def yJx00060_init_da8c8 : MethodName := ⟨RJx00060, "<init>", "()V"⟩
abbrev cJx00060_init_a7421 : ByteArray := prog_9_method_2_code
def yJx00060_init_a7421 : MethodName := ⟨RJx00060, "<init>", "(Ljava/lang/String;)V"⟩
def RJ0 : String := "java/lang/String"
def TJ0 : u_T := fun k => match k with
  | 0 => ("java/lang/String", "value", "[B", true)
  | _ => ("java/lang/String", "coder", "B", true)
def tyJ0 : Nat → FieldType := fun k => match k with
  | 0 => .array .byte
  | _ => .byte
abbrev wsJ00 : List Cond := u_ws RJ0 TJ0 2
theorem nmJ0 : ∀ a, a < 2 → ∀ b, b < 2 → a ≠ b → (TJ0 a).2.1 ≠ (TJ0 b).2.1 := by decide +kernel
theorem tyJ0_ok : ∀ k, k < 2 → parseFieldDescriptor (TJ0 k).2.2.1 = some (tyJ0 k) := by decide +kernel
def RJ7 : String := "java/util/Arrays"
def TJ7 : u_T := fun k => match k with
  | _ => ("", "", "", false)
def tyJ7 : Nat → FieldType := fun k => match k with
  | _ => .int
abbrev wsJ70 : List Cond := u_ws RJ7 TJ7 0
theorem nmJ7 : ∀ a, a < 0 → ∀ b, b < 0 → a ≠ b → (TJ7 a).2.1 ≠ (TJ7 b).2.1 := by decide +kernel
theorem tyJ7_ok : ∀ k, k < 0 → parseFieldDescriptor (TJ7 k).2.2.1 = some (tyJ7 k) := by decide +kernel
abbrev cJ7_fill_d0a16 : ByteArray := prog_15_method_101_code
def yJ7_fill_d0a16 : MethodName := ⟨RJ7, "fill", "([JJ)V"⟩
def RL : String := "RightsStepsLaw"
abbrev cL_out : ByteArray := method_3_code
def yL_out : MethodName := ⟨RL, "out", "(LRightsSteps;I[J)I"⟩
abbrev cL_digit : ByteArray := method_4_code
def yL_digit : MethodName := ⟨RL, "digit", "(LRightsSteps;I[J)I"⟩
abbrev cL_law : ByteArray := code
def yL_law : MethodName := ⟨RL, "law", "([I)Z"⟩
def wsX0_init : List Cond := .code yX0_init cX0_init 1 none :: ([.methodLink RX0 1 objectInit, .instanceMethod objectInit, .code objectInit ⟨#[0xb1]⟩ 1 none, .arrayClass .int, .fieldLink RX0 9 "RightsSteps$GivenSeeds" "seeds" "[I"] ++ wsX00)
def wsX0_has : List Cond := .code yX0_has cX0_has 3 (some .boolean) :: ([.fieldLink RX0 13 "RightsSteps$GivenSeeds" "size" "I", .fieldLink RX0 9 "RightsSteps$GivenSeeds" "seeds" "[I"] ++ wsX00 ++ (vx_atM "java/lang/ArrayIndexOutOfBoundsException" ["java/lang/IndexOutOfBoundsException", "java/lang/RuntimeException", "java/lang/Exception"]).filter goodWord)
def wsX0_add : List Cond := .code yX0_add cX0_add 2 none :: ([.fieldLink RX0 13 "RightsSteps$GivenSeeds" "size" "I", .fieldLink RX0 9 "RightsSteps$GivenSeeds" "seeds" "[I"] ++ wsX00 ++ (vx_atM "java/lang/ArrayIndexOutOfBoundsException" ["java/lang/IndexOutOfBoundsException", "java/lang/RuntimeException", "java/lang/Exception"]).filter goodWord)
def wsX0_forgetAll : List Cond := .code yX0_forgetAll cX0_forgetAll 1 none :: ([.fieldLink RX0 13 "RightsSteps$GivenSeeds" "size" "I"] ++ wsX00)
def wsX1_init : List Cond := .code yX1_init cX1_init 6 none :: ([.methodLink RX1 3 objectInit, .instanceMethod objectInit, .code objectInit ⟨#[0xb1]⟩ 1 none, .fieldLink RX1 9 "RightsSteps$Level" "number" "I", .fieldLink RX1 15 "RightsSteps$Level" "kind" "I", .fieldLink RX1 18 "RightsSteps$Level" "tries" "I", .fieldLink RX1 21 "RightsSteps$Level" "delay" "J"] ++ wsX10)
def wsX1_needsRole : List Cond := .code yX1_needsRole cX1_needsRole 1 (some .boolean) :: ([.fieldLink RX1 9 "RightsSteps$Level" "number" "I"] ++ wsX10)
def wsX1_isForSession : List Cond := .code yX1_isForSession cX1_isForSession 2 (some .boolean) :: ([.fieldLink RX1 9 "RightsSteps$Level" "number" "I"] ++ wsX10)
def wsX1_shiftedKeyTo : List Cond := .code yX1_shiftedKeyTo cX1_shiftedKeyTo 5 (some .int) :: ([.fieldLink RX1 9 "RightsSteps$Level" "number" "I", .constant RX1 31 (-306674912)] ++ wsX10)
def wsX1_keyTo : List Cond := .code yX1_keyTo cX1_keyTo 2 (some .int) :: ([.fieldLink RX1 15 "RightsSteps$Level" "kind" "I", .constant RX1 25 (1515870810), .constant RX1 26 (-1640531535), .fieldLink RX1 9 "RightsSteps$Level" "number" "I", .methodLink RX1 27 yX1_shiftedKeyTo, .instanceMethod yX1_shiftedKeyTo, .selects RX1 yX1_shiftedKeyTo yX1_shiftedKeyTo, .initialized RX1, .code yX1_shiftedKeyTo cX1_shiftedKeyTo 5 (some .int), .constant RX1 31 (-306674912)] ++ wsX10)
def wsX2_init : List Cond := .code yX2_init cX2_init 1 none :: ([.methodLink RX2 3 objectInit, .instanceMethod objectInit, .code objectInit ⟨#[0xb1]⟩ 1 none, .arrayClass .int, .fieldLink RX2 11 "RightsSteps$Tape" "numbers" "[I"] ++ wsX20)
def wsX2_add : List Cond := .code yX2_add cX2_add 3 none :: ([.fieldLink RX2 15 "RightsSteps$Tape" "size" "I", .fieldLink RX2 11 "RightsSteps$Tape" "numbers" "[I", .fieldLink RX2 19 "RightsSteps$Tape" "first" "I"] ++ wsX20 ++ (vx_atM "java/lang/ArrayIndexOutOfBoundsException" ["java/lang/IndexOutOfBoundsException", "java/lang/RuntimeException", "java/lang/Exception"]).filter goodWord)
def wsX2_takeFirst : List Cond := .code yX2_takeFirst cX2_takeFirst 2 (some .int) :: ([.fieldLink RX2 19 "RightsSteps$Tape" "first" "I", .fieldLink RX2 11 "RightsSteps$Tape" "numbers" "[I", .fieldLink RX2 15 "RightsSteps$Tape" "size" "I"] ++ wsX20 ++ (vx_atM "java/lang/ArrayIndexOutOfBoundsException" ["java/lang/IndexOutOfBoundsException", "java/lang/RuntimeException", "java/lang/Exception"]).filter goodWord)
def wsX5_isPlain : List Cond := .code yX5_isPlain cX5_isPlain 1 (some .boolean) :: ([.constant RX5 188 (16843009)])
def wsX2_takeSeed : List Cond := .code yX2_takeSeed cX2_takeSeed 4 (some .int) :: ([.fieldLink RX2 15 "RightsSteps$Tape" "size" "I", .methodLink RX2 22 yX2_takeFirst, .instanceMethod yX2_takeFirst, .selects RX2 yX2_takeFirst yX2_takeFirst, .initialized RX2, .code yX2_takeFirst cX2_takeFirst 2 (some .int), .fieldLink RX2 19 "RightsSteps$Tape" "first" "I", .fieldLink RX2 11 "RightsSteps$Tape" "numbers" "[I", .static yX5_isPlain, .initialized RX5, .code yX5_isPlain cX5_isPlain 1 (some .boolean), .constant RX5 188 (16843009), .methodLink RX2 30 yX0_has, .instanceMethod yX0_has, .selects RX0 yX0_has yX0_has, .initialized RX0, .code yX0_has cX0_has 3 (some .boolean), .fieldLink RX0 13 "RightsSteps$GivenSeeds" "size" "I", .fieldLink RX0 9 "RightsSteps$GivenSeeds" "seeds" "[I"] ++ wsX20 ++ wsX00 ++ (vx_atM "java/lang/ArrayIndexOutOfBoundsException" ["java/lang/IndexOutOfBoundsException", "java/lang/RuntimeException", "java/lang/Exception"]).filter goodWord)
def wsJ7_fill_d0a16 : List Cond := .code yJ7_fill_d0a16 cJ7_fill_d0a16 5 none :: ([])
def wsX3_init : List Cond := .code yX3_init cX3_init 2 none :: ([.methodLink RX3 3 objectInit, .instanceMethod objectInit, .code objectInit ⟨#[0xb1]⟩ 1 none, .fieldLink RX3 9 "RightsSteps$Tester" "session" "I", .constantLong RX3 15 (-9223372036854775808), .fieldLink RX3 17 "RightsSteps$Tester" "roleUntil" "J", .fieldLink RX3 21 "RightsSteps$Tester" "openLevel" "I", .fieldLink RX3 24 "RightsSteps$Tester" "awaitedLevel" "I", .arrayClass .int, .fieldLink RX3 27 "RightsSteps$Tester" "usedTries" "[I", .arrayClass .long, .fieldLink RX3 31 "RightsSteps$Tester" "lockedUntil" "[J", .fieldLink RX3 35 "RightsSteps$Tester" "number" "I", .methodLink RX3 38 yJ7_fill_d0a16, .static yJ7_fill_d0a16, .initialized RJ7, .code yJ7_fill_d0a16 cJ7_fill_d0a16 5 none] ++ wsX30)
def wsX3_startSession : List Cond := .code yX3_startSession cX3_startSession 2 none :: ([.fieldLink RX3 9 "RightsSteps$Tester" "session" "I", .fieldLink RX3 24 "RightsSteps$Tester" "awaitedLevel" "I", .fieldLink RX3 21 "RightsSteps$Tester" "openLevel" "I", .constantLong RX3 15 (-9223372036854775808), .fieldLink RX3 17 "RightsSteps$Tester" "roleUntil" "J"] ++ wsX30)
def wsX3_awaitKey : List Cond := .code yX3_awaitKey cX3_awaitKey 3 none :: ([.fieldLink RX3 44 "RightsSteps$Tester" "out" "I", .fieldLink RX3 24 "RightsSteps$Tester" "awaitedLevel" "I", .fieldLink RX3 47 "RightsSteps$Tester" "awaitedSeed" "I"] ++ wsX30)
def wsX3_addOctet : List Cond := .code yX3_addOctet cX3_addOctet 2 none :: ([.fieldLink RX3 50 "RightsSteps$Tester" "octets" "I", .fieldLink RX3 53 "RightsSteps$Tester" "keySoFar" "I"] ++ wsX30)
def wsX3_dropOctets : List Cond := .code yX3_dropOctets cX3_dropOctets 1 none :: ([.fieldLink RX3 50 "RightsSteps$Tester" "octets" "I", .fieldLink RX3 53 "RightsSteps$Tester" "keySoFar" "I"] ++ wsX30)
def wsX3_usedTries : List Cond := .code yX3_usedTries cX3_usedTries 2 (some .int) :: ([.fieldLink RX3 27 "RightsSteps$Tester" "usedTries" "[I"] ++ wsX30 ++ (vx_atM "java/lang/ArrayIndexOutOfBoundsException" ["java/lang/IndexOutOfBoundsException", "java/lang/RuntimeException", "java/lang/Exception"]).filter goodWord)
def wsX3_setUsedTries : List Cond := .code yX3_setUsedTries cX3_setUsedTries 3 none :: ([.fieldLink RX3 27 "RightsSteps$Tester" "usedTries" "[I"] ++ wsX30 ++ (vx_atM "java/lang/ArrayIndexOutOfBoundsException" ["java/lang/IndexOutOfBoundsException", "java/lang/RuntimeException", "java/lang/Exception"]).filter goodWord)
def wsX3_lockedUntil : List Cond := .code yX3_lockedUntil cX3_lockedUntil 2 (some .long) :: ([.fieldLink RX3 31 "RightsSteps$Tester" "lockedUntil" "[J", .constantLong RX3 15 (-9223372036854775808)] ++ wsX30 ++ (vx_atM "java/lang/ArrayIndexOutOfBoundsException" ["java/lang/IndexOutOfBoundsException", "java/lang/RuntimeException", "java/lang/Exception"]).filter goodWord)
def wsX3_lock : List Cond := .code yX3_lock cX3_lock 4 none :: ([.fieldLink RX3 31 "RightsSteps$Tester" "lockedUntil" "[J"] ++ wsX30 ++ (vx_atM "java/lang/ArrayIndexOutOfBoundsException" ["java/lang/IndexOutOfBoundsException", "java/lang/RuntimeException", "java/lang/Exception"]).filter goodWord)
def wsX4_init : List Cond := .code yX4_init cX4_init 1 none :: ([.methodLink RX4 1 objectInit, .instanceMethod objectInit, .code objectInit ⟨#[0xb1]⟩ 1 none, .arrayClass .int, .fieldLink RX4 9 "RightsSteps$UseLog" "parts" "[I"] ++ wsX40)
def wsX4_add : List Cond := .code yX4_add cX4_add 5 none :: ([.fieldLink RX4 13 "RightsSteps$UseLog" "count" "I", .fieldLink RX4 17 "RightsSteps$UseLog" "kept" "I", .fieldLink RX4 9 "RightsSteps$UseLog" "parts" "[I"] ++ wsX40 ++ (vx_atM "java/lang/ArrayIndexOutOfBoundsException" ["java/lang/IndexOutOfBoundsException", "java/lang/RuntimeException", "java/lang/Exception"]).filter goodWord)
def wsX4_has : List Cond := .code yX4_has cX4_has 2 (some .boolean) :: ([.fieldLink RX4 17 "RightsSteps$UseLog" "kept" "I"] ++ wsX40)
def wsX4_part : List Cond := .code yX4_part cX4_part 3 (some .int) :: ([.fieldLink RX4 9 "RightsSteps$UseLog" "parts" "[I", .methodLink RX4 20 yX4_has, .instanceMethod yX4_has, .selects RX4 yX4_has yX4_has, .initialized RX4, .code yX4_has cX4_has 2 (some .boolean), .fieldLink RX4 17 "RightsSteps$UseLog" "kept" "I"] ++ wsX40 ++ (vx_atM "java/lang/ArrayIndexOutOfBoundsException" ["java/lang/IndexOutOfBoundsException", "java/lang/RuntimeException", "java/lang/Exception"]).filter goodWord)
def wsX5_init_r1 : List Cond := [Cond.methodLink RX5 1 objectInit, Cond.instanceMethod objectInit, Cond.code objectInit ⟨#[0xb1]⟩ 1 none, Cond.classLink RX5 9 RX1, Cond.fieldLink RX5 11 "RightsSteps" "levels" "[LRightsSteps$Level;", Cond.classLink RX5 15 RX2, Cond.instantiable RX2 3, Cond.initialized RX2, Cond.fieldLink RX5 18 "RightsSteps" "tape" "LRightsSteps$Tape;", Cond.classLink RX5 22 RX0, Cond.instantiable RX0 2, Cond.initialized RX0, Cond.fieldLink RX5 25 "RightsSteps" "given" "LRightsSteps$GivenSeeds;", Cond.classLink RX5 29 RX4, Cond.instantiable RX4 3, Cond.initialized RX4, Cond.fieldLink RX5 32 "RightsSteps" "uses" "LRightsSteps$UseLog;", Cond.classLink RX5 36 RX3, Cond.fieldLink RX5 38 "RightsSteps" "testers" "[LRightsSteps$Tester;", Cond.instantiable RX3 11, Cond.initialized RX3, Cond.fieldLink RX5 45 "RightsSteps" "atHand" "LRightsSteps$Tester;", Cond.instanceMethod yX2_init, Cond.code yX2_init cX2_init 1 none]
def wsX5_init_r2 : List Cond := [Cond.methodLink RX2 3 objectInit, Cond.arrayClass .int, Cond.fieldLink RX2 11 "RightsSteps$Tape" "numbers" "[I", Cond.instanceMethod yX0_init, Cond.code yX0_init cX0_init 1 none, Cond.methodLink RX0 1 objectInit, Cond.fieldLink RX0 9 "RightsSteps$GivenSeeds" "seeds" "[I", Cond.instanceMethod yX4_init, Cond.code yX4_init cX4_init 1 none, Cond.methodLink RX4 1 objectInit, Cond.fieldLink RX4 9 "RightsSteps$UseLog" "parts" "[I", Cond.methodLink RX5 42 yX3_init, Cond.instanceMethod yX3_init, Cond.code yX3_init cX3_init 2 none, Cond.methodLink RX3 3 objectInit, Cond.fieldLink RX3 9 "RightsSteps$Tester" "session" "I", Cond.constantLong RX3 15 (-9223372036854775808), Cond.fieldLink RX3 17 "RightsSteps$Tester" "roleUntil" "J", Cond.fieldLink RX3 21 "RightsSteps$Tester" "openLevel" "I", Cond.fieldLink RX3 24 "RightsSteps$Tester" "awaitedLevel" "I", Cond.fieldLink RX3 27 "RightsSteps$Tester" "usedTries" "[I", Cond.arrayClass .long, Cond.fieldLink RX3 31 "RightsSteps$Tester" "lockedUntil" "[J", Cond.fieldLink RX3 35 "RightsSteps$Tester" "number" "I"]
def wsX5_init_r3 : List Cond := [Cond.methodLink RX3 38 yJ7_fill_d0a16, Cond.static yJ7_fill_d0a16, Cond.initialized RJ7, Cond.code yJ7_fill_d0a16 cJ7_fill_d0a16 5 none]
def wsX5_init : List Cond := .code yX5_init cX5_init 2 none :: ((wsX5_init_r1 ++ (wsX5_init_r2 ++ wsX5_init_r3)) ++ wsX50 ++ wsX20 ++ wsX00 ++ wsX40 ++ wsX30)
def wsX5_level : List Cond := .code yX5_level cX5_level 6 (some .int) :: ([.constantLong RX5 49 (100000), .fieldLink RX5 11 "RightsSteps" "levels" "[LRightsSteps$Level;", .classLink RX5 9 RX1, .instantiable RX1 4, .initialized RX1, .fieldLink RX5 54 "RightsSteps" "levelsMade" "I", .methodLink RX5 51 yX1_init, .instanceMethod yX1_init, .code yX1_init cX1_init 6 none, .methodLink RX1 3 objectInit, .instanceMethod objectInit, .code objectInit ⟨#[0xb1]⟩ 1 none, .fieldLink RX1 9 "RightsSteps$Level" "number" "I", .fieldLink RX1 15 "RightsSteps$Level" "kind" "I", .fieldLink RX1 18 "RightsSteps$Level" "tries" "I", .fieldLink RX1 21 "RightsSteps$Level" "delay" "J"] ++ wsX50 ++ wsX10)
def wsX5_tape : List Cond := .code yX5_tape cX5_tape 2 none :: ([.fieldLink RX5 18 "RightsSteps" "tape" "LRightsSteps$Tape;", .methodLink RX5 58 yX2_add, .instanceMethod yX2_add, .selects RX2 yX2_add yX2_add, .initialized RX2, .code yX2_add cX2_add 3 none, .fieldLink RX2 15 "RightsSteps$Tape" "size" "I", .fieldLink RX2 11 "RightsSteps$Tape" "numbers" "[I", .fieldLink RX2 19 "RightsSteps$Tape" "first" "I"] ++ wsX50 ++ wsX20 ++ (vx_atM "java/lang/ArrayIndexOutOfBoundsException" ["java/lang/IndexOutOfBoundsException", "java/lang/RuntimeException", "java/lang/Exception"]).filter goodWord)
def wsX5_madeLevel : List Cond := .code yX5_madeLevel cX5_madeLevel 2 (some (.object "RightsSteps$Level")) :: ([.fieldLink RX5 11 "RightsSteps" "levels" "[LRightsSteps$Level;"] ++ wsX50)
def wsX5_askForSeed_r1 : List Cond := [Cond.fieldLink RX5 45 "RightsSteps" "atHand" "LRightsSteps$Tester;", Cond.fieldLink RX5 65 "RightsSteps" "time" "J", Cond.fieldLink RX5 18 "RightsSteps" "tape" "LRightsSteps$Tape;", Cond.fieldLink RX5 25 "RightsSteps" "given" "LRightsSteps$GivenSeeds;", Cond.methodLink RX5 145 yX1_isForSession, Cond.instanceMethod yX1_isForSession, Cond.selects RX1 yX1_isForSession yX1_isForSession, Cond.initialized RX1, Cond.code yX1_isForSession cX1_isForSession 2 (some .boolean), Cond.fieldLink RX1 9 "RightsSteps$Level" "number" "I", Cond.methodLink RX5 148 yX1_needsRole, Cond.instanceMethod yX1_needsRole, Cond.selects RX1 yX1_needsRole yX1_needsRole, Cond.code yX1_needsRole cX1_needsRole 1 (some .boolean), Cond.methodLink RX5 119 yX3_lockedUntil, Cond.instanceMethod yX3_lockedUntil, Cond.selects RX3 yX3_lockedUntil yX3_lockedUntil, Cond.initialized RX3, Cond.code yX3_lockedUntil cX3_lockedUntil 2 (some .long), Cond.fieldLink RX3 31 "RightsSteps$Tester" "lockedUntil" "[J", Cond.constantLong RX3 15 (-9223372036854775808), Cond.methodLink RX5 153 yX2_takeSeed, Cond.instanceMethod yX2_takeSeed, Cond.selects RX2 yX2_takeSeed yX2_takeSeed]
def wsX5_askForSeed_r2 : List Cond := [Cond.initialized RX2, Cond.code yX2_takeSeed cX2_takeSeed 4 (some .int), Cond.fieldLink RX2 15 "RightsSteps$Tape" "size" "I", Cond.methodLink RX2 22 yX2_takeFirst, Cond.instanceMethod yX2_takeFirst, Cond.selects RX2 yX2_takeFirst yX2_takeFirst, Cond.code yX2_takeFirst cX2_takeFirst 2 (some .int), Cond.fieldLink RX2 19 "RightsSteps$Tape" "first" "I", Cond.fieldLink RX2 11 "RightsSteps$Tape" "numbers" "[I", Cond.static yX5_isPlain, Cond.initialized RX5, Cond.code yX5_isPlain cX5_isPlain 1 (some .boolean), Cond.constant RX5 188 (16843009), Cond.methodLink RX2 30 yX0_has, Cond.instanceMethod yX0_has, Cond.selects RX0 yX0_has yX0_has, Cond.initialized RX0, Cond.code yX0_has cX0_has 3 (some .boolean), Cond.fieldLink RX0 13 "RightsSteps$GivenSeeds" "size" "I", Cond.fieldLink RX0 9 "RightsSteps$GivenSeeds" "seeds" "[I", Cond.methodLink RX5 157 yX0_add, Cond.instanceMethod yX0_add, Cond.selects RX0 yX0_add yX0_add, Cond.code yX0_add cX0_add 2 none]
def wsX5_askForSeed_r3 : List Cond := [Cond.methodLink RX5 158 yX3_awaitKey, Cond.instanceMethod yX3_awaitKey, Cond.selects RX3 yX3_awaitKey yX3_awaitKey, Cond.code yX3_awaitKey cX3_awaitKey 3 none, Cond.fieldLink RX3 44 "RightsSteps$Tester" "out" "I", Cond.fieldLink RX3 24 "RightsSteps$Tester" "awaitedLevel" "I", Cond.fieldLink RX3 47 "RightsSteps$Tester" "awaitedSeed" "I"]
def wsX5_askForSeed : List Cond := .code yX5_askForSeed cX5_askForSeed 3 (some .int) :: ((wsX5_askForSeed_r1 ++ (wsX5_askForSeed_r2 ++ wsX5_askForSeed_r3)) ++ wsX50 ++ wsX30 ++ wsX10 ++ wsX20 ++ wsX00 ++ (vx_atM "java/lang/ArrayIndexOutOfBoundsException" ["java/lang/IndexOutOfBoundsException", "java/lang/RuntimeException", "java/lang/Exception"]).filter goodWord)
def wsX5_seed_r1 : List Cond := [Cond.fieldLink RX5 65 "RightsSteps" "time" "J", Cond.constantLong RX5 69 (1152921504606846976), Cond.fieldLink RX5 32 "RightsSteps" "uses" "LRightsSteps$UseLog;", Cond.fieldLink RX5 45 "RightsSteps" "atHand" "LRightsSteps$Tester;", Cond.methodLink RX5 61 yX5_madeLevel, Cond.instanceMethod yX5_madeLevel, Cond.selects RX5 yX5_madeLevel yX5_madeLevel, Cond.initialized RX5, Cond.code yX5_madeLevel cX5_madeLevel 2 (some (.object "RightsSteps$Level")), Cond.fieldLink RX5 11 "RightsSteps" "levels" "[LRightsSteps$Level;", Cond.methodLink RX5 71 yX5_askForSeed, Cond.instanceMethod yX5_askForSeed, Cond.selects RX5 yX5_askForSeed yX5_askForSeed, Cond.code yX5_askForSeed cX5_askForSeed 3 (some .int), Cond.fieldLink RX5 18 "RightsSteps" "tape" "LRightsSteps$Tape;", Cond.fieldLink RX5 25 "RightsSteps" "given" "LRightsSteps$GivenSeeds;", Cond.methodLink RX5 145 yX1_isForSession, Cond.instanceMethod yX1_isForSession, Cond.selects RX1 yX1_isForSession yX1_isForSession, Cond.initialized RX1, Cond.code yX1_isForSession cX1_isForSession 2 (some .boolean), Cond.fieldLink RX1 9 "RightsSteps$Level" "number" "I", Cond.methodLink RX5 148 yX1_needsRole, Cond.instanceMethod yX1_needsRole]
def wsX5_seed_r2 : List Cond := [Cond.selects RX1 yX1_needsRole yX1_needsRole, Cond.code yX1_needsRole cX1_needsRole 1 (some .boolean), Cond.methodLink RX5 119 yX3_lockedUntil, Cond.instanceMethod yX3_lockedUntil, Cond.selects RX3 yX3_lockedUntil yX3_lockedUntil, Cond.initialized RX3, Cond.code yX3_lockedUntil cX3_lockedUntil 2 (some .long), Cond.fieldLink RX3 31 "RightsSteps$Tester" "lockedUntil" "[J", Cond.constantLong RX3 15 (-9223372036854775808), Cond.methodLink RX5 153 yX2_takeSeed, Cond.instanceMethod yX2_takeSeed, Cond.selects RX2 yX2_takeSeed yX2_takeSeed, Cond.initialized RX2, Cond.code yX2_takeSeed cX2_takeSeed 4 (some .int), Cond.fieldLink RX2 15 "RightsSteps$Tape" "size" "I", Cond.methodLink RX2 22 yX2_takeFirst, Cond.instanceMethod yX2_takeFirst, Cond.selects RX2 yX2_takeFirst yX2_takeFirst, Cond.code yX2_takeFirst cX2_takeFirst 2 (some .int), Cond.fieldLink RX2 19 "RightsSteps$Tape" "first" "I", Cond.fieldLink RX2 11 "RightsSteps$Tape" "numbers" "[I", Cond.static yX5_isPlain, Cond.code yX5_isPlain cX5_isPlain 1 (some .boolean), Cond.constant RX5 188 (16843009)]
def wsX5_seed_r3 : List Cond := [Cond.methodLink RX2 30 yX0_has, Cond.instanceMethod yX0_has, Cond.selects RX0 yX0_has yX0_has, Cond.initialized RX0, Cond.code yX0_has cX0_has 3 (some .boolean), Cond.fieldLink RX0 13 "RightsSteps$GivenSeeds" "size" "I", Cond.fieldLink RX0 9 "RightsSteps$GivenSeeds" "seeds" "[I", Cond.methodLink RX5 157 yX0_add, Cond.instanceMethod yX0_add, Cond.selects RX0 yX0_add yX0_add, Cond.code yX0_add cX0_add 2 none, Cond.methodLink RX5 158 yX3_awaitKey, Cond.instanceMethod yX3_awaitKey, Cond.selects RX3 yX3_awaitKey yX3_awaitKey, Cond.code yX3_awaitKey cX3_awaitKey 3 none, Cond.fieldLink RX3 44 "RightsSteps$Tester" "out" "I", Cond.fieldLink RX3 24 "RightsSteps$Tester" "awaitedLevel" "I", Cond.fieldLink RX3 47 "RightsSteps$Tester" "awaitedSeed" "I", Cond.methodLink RX5 78 yX4_add, Cond.instanceMethod yX4_add, Cond.selects RX4 yX4_add yX4_add, Cond.initialized RX4, Cond.code yX4_add cX4_add 5 none, Cond.fieldLink RX4 13 "RightsSteps$UseLog" "count" "I"]
def wsX5_seed_r4 : List Cond := [Cond.fieldLink RX4 17 "RightsSteps$UseLog" "kept" "I", Cond.fieldLink RX4 9 "RightsSteps$UseLog" "parts" "[I"]
def wsX5_seed : List Cond := .code yX5_seed cX5_seed 6 (some .int) :: ((wsX5_seed_r1 ++ (wsX5_seed_r2 ++ (wsX5_seed_r3 ++ wsX5_seed_r4))) ++ wsX50 ++ wsX30 ++ wsX10 ++ wsX20 ++ wsX00 ++ wsX40 ++ (vx_atM "java/lang/ArrayIndexOutOfBoundsException" ["java/lang/IndexOutOfBoundsException", "java/lang/RuntimeException", "java/lang/Exception"]).filter goodWord)
def wsX5_out : List Cond := .code yX5_out cX5_out 2 (some .byte) :: ([.classLink RX5 81 RJx00060, .instantiable RJx00060 6, .initialized RJx00060, .fieldLink RX5 45 "RightsSteps" "atHand" "LRightsSteps$Tester;"] ++ wsJx000600 ++ wsX50 ++ wsX30)
def wsX5_tryKey_r1 : List Cond := [Cond.fieldLink RX5 45 "RightsSteps" "atHand" "LRightsSteps$Tester;", Cond.fieldLink RX5 65 "RightsSteps" "time" "J", Cond.methodLink RX5 168 yX1_keyTo, Cond.instanceMethod yX1_keyTo, Cond.selects RX1 yX1_keyTo yX1_keyTo, Cond.initialized RX1, Cond.code yX1_keyTo cX1_keyTo 2 (some .int), Cond.fieldLink RX1 15 "RightsSteps$Level" "kind" "I", Cond.constant RX1 25 (1515870810), Cond.constant RX1 26 (-1640531535), Cond.fieldLink RX1 9 "RightsSteps$Level" "number" "I", Cond.methodLink RX1 27 yX1_shiftedKeyTo, Cond.instanceMethod yX1_shiftedKeyTo, Cond.selects RX1 yX1_shiftedKeyTo yX1_shiftedKeyTo, Cond.code yX1_shiftedKeyTo cX1_shiftedKeyTo 5 (some .int), Cond.constant RX1 31 (-306674912), Cond.methodLink RX5 172 yX3_setUsedTries, Cond.instanceMethod yX3_setUsedTries, Cond.selects RX3 yX3_setUsedTries yX3_setUsedTries, Cond.initialized RX3, Cond.code yX3_setUsedTries cX3_setUsedTries 3 none, Cond.fieldLink RX3 27 "RightsSteps$Tester" "usedTries" "[I", Cond.methodLink RX5 175 yX3_usedTries, Cond.instanceMethod yX3_usedTries]
def wsX5_tryKey_r2 : List Cond := [Cond.selects RX3 yX3_usedTries yX3_usedTries, Cond.code yX3_usedTries cX3_usedTries 2 (some .int), Cond.methodLink RX5 184 yX3_lock, Cond.instanceMethod yX3_lock, Cond.selects RX3 yX3_lock yX3_lock, Cond.code yX3_lock cX3_lock 4 none, Cond.fieldLink RX3 31 "RightsSteps$Tester" "lockedUntil" "[J"]
def wsX5_tryKey : List Cond := .code yX5_tryKey cX5_tryKey 4 (some .int) :: ((wsX5_tryKey_r1 ++ wsX5_tryKey_r2) ++ wsX50 ++ wsX30 ++ wsX10 ++ (vx_atM "java/lang/ArrayIndexOutOfBoundsException" ["java/lang/IndexOutOfBoundsException", "java/lang/RuntimeException", "java/lang/Exception"]).filter goodWord)
def wsX5_key_r1 : List Cond := [Cond.fieldLink RX5 45 "RightsSteps" "atHand" "LRightsSteps$Tester;", Cond.fieldLink RX5 32 "RightsSteps" "uses" "LRightsSteps$UseLog;", Cond.methodLink RX5 87 yX3_addOctet, Cond.instanceMethod yX3_addOctet, Cond.selects RX3 yX3_addOctet yX3_addOctet, Cond.initialized RX3, Cond.code yX3_addOctet cX3_addOctet 2 none, Cond.fieldLink RX3 50 "RightsSteps$Tester" "octets" "I", Cond.fieldLink RX3 53 "RightsSteps$Tester" "keySoFar" "I", Cond.methodLink RX5 97 yX3_dropOctets, Cond.instanceMethod yX3_dropOctets, Cond.selects RX3 yX3_dropOctets yX3_dropOctets, Cond.code yX3_dropOctets cX3_dropOctets 1 none, Cond.methodLink RX5 61 yX5_madeLevel, Cond.instanceMethod yX5_madeLevel, Cond.selects RX5 yX5_madeLevel yX5_madeLevel, Cond.initialized RX5, Cond.code yX5_madeLevel cX5_madeLevel 2 (some (.object "RightsSteps$Level")), Cond.fieldLink RX5 11 "RightsSteps" "levels" "[LRightsSteps$Level;", Cond.methodLink RX5 100 yX5_tryKey, Cond.instanceMethod yX5_tryKey, Cond.selects RX5 yX5_tryKey yX5_tryKey, Cond.code yX5_tryKey cX5_tryKey 4 (some .int), Cond.fieldLink RX5 65 "RightsSteps" "time" "J"]
def wsX5_key_r2 : List Cond := [Cond.methodLink RX5 168 yX1_keyTo, Cond.instanceMethod yX1_keyTo, Cond.selects RX1 yX1_keyTo yX1_keyTo, Cond.initialized RX1, Cond.code yX1_keyTo cX1_keyTo 2 (some .int), Cond.fieldLink RX1 15 "RightsSteps$Level" "kind" "I", Cond.constant RX1 25 (1515870810), Cond.constant RX1 26 (-1640531535), Cond.fieldLink RX1 9 "RightsSteps$Level" "number" "I", Cond.methodLink RX1 27 yX1_shiftedKeyTo, Cond.instanceMethod yX1_shiftedKeyTo, Cond.selects RX1 yX1_shiftedKeyTo yX1_shiftedKeyTo, Cond.code yX1_shiftedKeyTo cX1_shiftedKeyTo 5 (some .int), Cond.constant RX1 31 (-306674912), Cond.methodLink RX5 172 yX3_setUsedTries, Cond.instanceMethod yX3_setUsedTries, Cond.selects RX3 yX3_setUsedTries yX3_setUsedTries, Cond.code yX3_setUsedTries cX3_setUsedTries 3 none, Cond.fieldLink RX3 27 "RightsSteps$Tester" "usedTries" "[I", Cond.methodLink RX5 175 yX3_usedTries, Cond.instanceMethod yX3_usedTries, Cond.selects RX3 yX3_usedTries yX3_usedTries, Cond.code yX3_usedTries cX3_usedTries 2 (some .int), Cond.methodLink RX5 184 yX3_lock]
def wsX5_key_r3 : List Cond := [Cond.instanceMethod yX3_lock, Cond.selects RX3 yX3_lock yX3_lock, Cond.code yX3_lock cX3_lock 4 none, Cond.fieldLink RX3 31 "RightsSteps$Tester" "lockedUntil" "[J", Cond.methodLink RX5 78 yX4_add, Cond.instanceMethod yX4_add, Cond.selects RX4 yX4_add yX4_add, Cond.initialized RX4, Cond.code yX4_add cX4_add 5 none, Cond.fieldLink RX4 13 "RightsSteps$UseLog" "count" "I", Cond.fieldLink RX4 17 "RightsSteps$UseLog" "kept" "I", Cond.fieldLink RX4 9 "RightsSteps$UseLog" "parts" "[I"]
def wsX5_key : List Cond := .code yX5_key cX5_key 8 (some .int) :: ((wsX5_key_r1 ++ (wsX5_key_r2 ++ wsX5_key_r3)) ++ wsX50 ++ wsX30 ++ wsX10 ++ wsX40 ++ (vx_atM "java/lang/ArrayIndexOutOfBoundsException" ["java/lang/IndexOutOfBoundsException", "java/lang/RuntimeException", "java/lang/Exception"]).filter goodWord)
def wsX5_open : List Cond := .code yX5_open cX5_open 2 (some .int) :: ([.fieldLink RX5 45 "RightsSteps" "atHand" "LRightsSteps$Tester;", .methodLink RX5 61 yX5_madeLevel, .instanceMethod yX5_madeLevel, .selects RX5 yX5_madeLevel yX5_madeLevel, .initialized RX5, .code yX5_madeLevel cX5_madeLevel 2 (some (.object "RightsSteps$Level")), .fieldLink RX5 11 "RightsSteps" "levels" "[LRightsSteps$Level;"] ++ wsX50 ++ wsX30)
def wsX5_session : List Cond := .code yX5_session cX5_session 3 (some .int) :: ([.fieldLink RX5 45 "RightsSteps" "atHand" "LRightsSteps$Tester;", .methodLink RX5 110 yX3_startSession, .instanceMethod yX3_startSession, .selects RX3 yX3_startSession yX3_startSession, .initialized RX3, .code yX3_startSession cX3_startSession 2 none, .fieldLink RX3 9 "RightsSteps$Tester" "session" "I", .fieldLink RX3 24 "RightsSteps$Tester" "awaitedLevel" "I", .fieldLink RX3 21 "RightsSteps$Tester" "openLevel" "I", .constantLong RX3 15 (-9223372036854775808), .fieldLink RX3 17 "RightsSteps$Tester" "roleUntil" "J"] ++ wsX50 ++ wsX30)
def wsX5_reset : List Cond := .code yX5_reset cX5_reset 4 (some .int) :: ([.fieldLink RX5 38 "RightsSteps" "testers" "[LRightsSteps$Tester;", .fieldLink RX5 25 "RightsSteps" "given" "LRightsSteps$GivenSeeds;", .methodLink RX5 110 yX3_startSession, .instanceMethod yX3_startSession, .selects RX3 yX3_startSession yX3_startSession, .initialized RX3, .code yX3_startSession cX3_startSession 2 none, .fieldLink RX3 9 "RightsSteps$Tester" "session" "I", .fieldLink RX3 24 "RightsSteps$Tester" "awaitedLevel" "I", .fieldLink RX3 21 "RightsSteps$Tester" "openLevel" "I", .constantLong RX3 15 (-9223372036854775808), .fieldLink RX3 17 "RightsSteps$Tester" "roleUntil" "J", .methodLink RX5 97 yX3_dropOctets, .instanceMethod yX3_dropOctets, .selects RX3 yX3_dropOctets yX3_dropOctets, .code yX3_dropOctets cX3_dropOctets 1 none, .fieldLink RX3 50 "RightsSteps$Tester" "octets" "I", .fieldLink RX3 53 "RightsSteps$Tester" "keySoFar" "I", .methodLink RX5 113 yX0_forgetAll, .instanceMethod yX0_forgetAll, .selects RX0 yX0_forgetAll yX0_forgetAll, .initialized RX0, .code yX0_forgetAll cX0_forgetAll 1 none, .fieldLink RX0 13 "RightsSteps$GivenSeeds" "size" "I"] ++ wsX50 ++ wsX30 ++ wsX00)
def wsX5_role : List Cond := .code yX5_role cX5_role 5 (some .int) :: ([.fieldLink RX5 65 "RightsSteps" "time" "J", .fieldLink RX5 45 "RightsSteps" "atHand" "LRightsSteps$Tester;"] ++ wsX50 ++ wsX30)
def wsX5_left : List Cond := .code yX5_left cX5_left 6 (some .int) :: ([.fieldLink RX5 45 "RightsSteps" "atHand" "LRightsSteps$Tester;", .constantLong RX5 123 (1000000), .constant RX5 125 (1000000), .methodLink RX5 61 yX5_madeLevel, .instanceMethod yX5_madeLevel, .selects RX5 yX5_madeLevel yX5_madeLevel, .initialized RX5, .code yX5_madeLevel cX5_madeLevel 2 (some (.object "RightsSteps$Level")), .fieldLink RX5 11 "RightsSteps" "levels" "[LRightsSteps$Level;", .methodLink RX5 119 yX3_lockedUntil, .instanceMethod yX3_lockedUntil, .selects RX3 yX3_lockedUntil yX3_lockedUntil, .initialized RX3, .code yX3_lockedUntil cX3_lockedUntil 2 (some .long), .fieldLink RX3 31 "RightsSteps$Tester" "lockedUntil" "[J", .constantLong RX3 15 (-9223372036854775808)] ++ wsX50 ++ wsX30 ++ (vx_atM "java/lang/ArrayIndexOutOfBoundsException" ["java/lang/IndexOutOfBoundsException", "java/lang/RuntimeException", "java/lang/Exception"]).filter goodWord)
def wsX5_log : List Cond := .code yX5_log cX5_log 3 (some .int) :: ([.fieldLink RX5 32 "RightsSteps" "uses" "LRightsSteps$UseLog;", .methodLink RX5 129 yX4_has, .instanceMethod yX4_has, .selects RX4 yX4_has yX4_has, .initialized RX4, .code yX4_has cX4_has 2 (some .boolean), .fieldLink RX4 17 "RightsSteps$UseLog" "kept" "I", .methodLink RX5 133 yX4_part, .instanceMethod yX4_part, .selects RX4 yX4_part yX4_part, .code yX4_part cX4_part 3 (some .int), .fieldLink RX4 9 "RightsSteps$UseLog" "parts" "[I", .methodLink RX4 20 yX4_has] ++ wsX50 ++ wsX40 ++ (vx_atM "java/lang/ArrayIndexOutOfBoundsException" ["java/lang/IndexOutOfBoundsException", "java/lang/RuntimeException", "java/lang/Exception"]).filter goodWord)
def wsX5_countDigits : List Cond := .code yX5_countDigits cX5_countDigits 5 (some .int) :: ([.constantLong RX5 143 (10)])
def wsX5_digit : List Cond := .code yX5_digit cX5_digit 6 (some .int) :: ([.fieldLink RX5 45 "RightsSteps" "atHand" "LRightsSteps$Tester;", .constantLong RX5 137 (4294967295), .classLink RX5 81 RJx00060, .instantiable RJx00060 6, .initialized RJx00060, .constantLong RX5 143 (10), .methodLink RX5 139 yX5_countDigits, .static yX5_countDigits, .initialized RX5, .code yX5_countDigits cX5_countDigits 5 (some .int)] ++ wsX50 ++ wsX30 ++ wsJx000600)
def wsX5_tester : List Cond := .code yX5_tester cX5_tester 3 (some .int) :: ([.fieldLink RX5 45 "RightsSteps" "atHand" "LRightsSteps$Tester;", .fieldLink RX5 38 "RightsSteps" "testers" "[LRightsSteps$Tester;"] ++ wsX50 ++ wsX30)
def wsX6_init_r1 : List Cond := [Cond.methodLink RX6 1 objectInit, Cond.instanceMethod objectInit, Cond.code objectInit ⟨#[0xb1]⟩ 1 none, Cond.arrayClass .int, Cond.fieldLink RX6 7 "RightsStepsModel" "kind" "[I", Cond.fieldLink RX6 13 "RightsStepsModel" "tries" "[I", Cond.arrayClass .long, Cond.fieldLink RX6 16 "RightsStepsModel" "delay" "[J", Cond.fieldLink RX6 20 "RightsStepsModel" "tape" "[I", Cond.fieldLink RX6 23 "RightsStepsModel" "given" "[I", Cond.fieldLink RX6 26 "RightsStepsModel" "session" "[I", Cond.constantLong RX6 29 (-1), Cond.fieldLink RX6 31 "RightsStepsModel" "roleUntil" "[J", Cond.fieldLink RX6 34 "RightsStepsModel" "open" "[I", Cond.fieldLink RX6 37 "RightsStepsModel" "awaited" "[I", Cond.fieldLink RX6 40 "RightsStepsModel" "awaitedSeed" "[I", Cond.fieldLink RX6 43 "RightsStepsModel" "out" "[I", Cond.fieldLink RX6 46 "RightsStepsModel" "octets" "[I", Cond.fieldLink RX6 49 "RightsStepsModel" "octetRow" "[I", Cond.fieldLink RX6 52 "RightsStepsModel" "used" "[I", Cond.fieldLink RX6 55 "RightsStepsModel" "locked" "[J", Cond.arrayClass .boolean, Cond.fieldLink RX6 58 "RightsStepsModel" "wasLocked" "[Z", Cond.fieldLink RX6 62 "RightsStepsModel" "useBy" "[I"]
def wsX6_init_r2 : List Cond := [Cond.fieldLink RX6 65 "RightsStepsModel" "useLevel" "[I", Cond.fieldLink RX6 68 "RightsStepsModel" "useAnswer" "[I"]
def wsX6_init : List Cond := .code yX6_init cX6_init 1 none :: ((wsX6_init_r1 ++ wsX6_init_r2) ++ wsX60 ++ (vx_atM "java/lang/ArrayIndexOutOfBoundsException" ["java/lang/IndexOutOfBoundsException", "java/lang/RuntimeException", "java/lang/Exception"]).filter goodWord)
def wsX6_thrown : List Cond := .code yX6_thrown cX6_thrown 1 (some .int) :: ([.fieldLink RX6 71 "RightsStepsModel" "code" "I"] ++ wsX60)
def wsX6_isMade : List Cond := .code yX6_isMade cX6_isMade 2 (some .boolean) :: ([.fieldLink RX6 13 "RightsStepsModel" "tries" "[I"] ++ wsX60 ++ (vx_atM "java/lang/ArrayIndexOutOfBoundsException" ["java/lang/IndexOutOfBoundsException", "java/lang/RuntimeException", "java/lang/Exception"]).filter goodWord)
def wsX6_level : List Cond := .code yX6_level cX6_level 6 (some .int) :: ([.fieldLink RX6 71 "RightsStepsModel" "code" "I", .constantLong RX6 75 (100000), .fieldLink RX6 7 "RightsStepsModel" "kind" "[I", .fieldLink RX6 13 "RightsStepsModel" "tries" "[I", .fieldLink RX6 16 "RightsStepsModel" "delay" "[J", .fieldLink RX6 81 "RightsStepsModel" "made" "I", .methodLink RX6 77 yX6_isMade, .instanceMethod yX6_isMade, .selects RX6 yX6_isMade yX6_isMade, .initialized RX6, .code yX6_isMade cX6_isMade 2 (some .boolean)] ++ wsX60 ++ (vx_atM "java/lang/ArrayIndexOutOfBoundsException" ["java/lang/IndexOutOfBoundsException", "java/lang/RuntimeException", "java/lang/Exception"]).filter goodWord)
def wsX6_tape : List Cond := .code yX6_tape cX6_tape 2 none :: ([.fieldLink RX6 71 "RightsStepsModel" "code" "I", .fieldLink RX6 84 "RightsStepsModel" "typed" "I", .fieldLink RX6 87 "RightsStepsModel" "read" "I", .fieldLink RX6 20 "RightsStepsModel" "tape" "[I"] ++ wsX60 ++ (vx_atM "java/lang/ArrayIndexOutOfBoundsException" ["java/lang/IndexOutOfBoundsException", "java/lang/RuntimeException", "java/lang/Exception"]).filter goodWord)
def wsX6_isPlain : List Cond := .code yX6_isPlain cX6_isPlain 2 (some .boolean) :: ([])
def wsX6_wasGiven : List Cond := .code yX6_wasGiven cX6_wasGiven 3 (some .boolean) :: ([.fieldLink RX6 90 "RightsStepsModel" "givens" "I", .fieldLink RX6 23 "RightsStepsModel" "given" "[I"] ++ wsX60 ++ (vx_atM "java/lang/ArrayIndexOutOfBoundsException" ["java/lang/IndexOutOfBoundsException", "java/lang/RuntimeException", "java/lang/Exception"]).filter goodWord)
def wsX6_note : List Cond := .code yX6_note cX6_note 3 (some .int) :: ([.fieldLink RX6 93 "RightsStepsModel" "uses" "I", .fieldLink RX6 62 "RightsStepsModel" "useBy" "[I", .fieldLink RX6 96 "RightsStepsModel" "hand" "I", .fieldLink RX6 65 "RightsStepsModel" "useLevel" "[I", .fieldLink RX6 68 "RightsStepsModel" "useAnswer" "[I"] ++ wsX60 ++ (vx_atM "java/lang/ArrayIndexOutOfBoundsException" ["java/lang/IndexOutOfBoundsException", "java/lang/RuntimeException", "java/lang/Exception"]).filter goodWord)
def wsX6_asked : List Cond := .code yX6_asked cX6_asked 4 (some .int) :: ([.fieldLink RX6 26 "RightsStepsModel" "session" "[I", .fieldLink RX6 96 "RightsStepsModel" "hand" "I", .fieldLink RX6 99 "RightsStepsModel" "time" "J", .fieldLink RX6 31 "RightsStepsModel" "roleUntil" "[J", .fieldLink RX6 34 "RightsStepsModel" "open" "[I", .fieldLink RX6 43 "RightsStepsModel" "out" "[I", .fieldLink RX6 55 "RightsStepsModel" "locked" "[J", .fieldLink RX6 87 "RightsStepsModel" "read" "I", .fieldLink RX6 84 "RightsStepsModel" "typed" "I", .fieldLink RX6 20 "RightsStepsModel" "tape" "[I", .fieldLink RX6 23 "RightsStepsModel" "given" "[I", .fieldLink RX6 90 "RightsStepsModel" "givens" "I", .fieldLink RX6 37 "RightsStepsModel" "awaited" "[I", .fieldLink RX6 40 "RightsStepsModel" "awaitedSeed" "[I", .methodLink RX6 103 yX6_isPlain, .static yX6_isPlain, .initialized RX6, .code yX6_isPlain cX6_isPlain 2 (some .boolean), .methodLink RX6 106 yX6_wasGiven, .instanceMethod yX6_wasGiven, .selects RX6 yX6_wasGiven yX6_wasGiven, .code yX6_wasGiven cX6_wasGiven 3 (some .boolean)] ++ wsX60 ++ (vx_atM "java/lang/ArrayIndexOutOfBoundsException" ["java/lang/IndexOutOfBoundsException", "java/lang/RuntimeException", "java/lang/Exception"]).filter goodWord)
def wsX6_seed_r1 : List Cond := [Cond.fieldLink RX6 71 "RightsStepsModel" "code" "I", Cond.fieldLink RX6 99 "RightsStepsModel" "time" "J", Cond.constantLong RX6 109 (1152921504606846976), Cond.methodLink RX6 77 yX6_isMade, Cond.instanceMethod yX6_isMade, Cond.selects RX6 yX6_isMade yX6_isMade, Cond.initialized RX6, Cond.code yX6_isMade cX6_isMade 2 (some .boolean), Cond.fieldLink RX6 13 "RightsStepsModel" "tries" "[I", Cond.methodLink RX6 111 yX6_asked, Cond.instanceMethod yX6_asked, Cond.selects RX6 yX6_asked yX6_asked, Cond.code yX6_asked cX6_asked 4 (some .int), Cond.fieldLink RX6 26 "RightsStepsModel" "session" "[I", Cond.fieldLink RX6 96 "RightsStepsModel" "hand" "I", Cond.fieldLink RX6 31 "RightsStepsModel" "roleUntil" "[J", Cond.fieldLink RX6 34 "RightsStepsModel" "open" "[I", Cond.fieldLink RX6 43 "RightsStepsModel" "out" "[I", Cond.fieldLink RX6 55 "RightsStepsModel" "locked" "[J", Cond.fieldLink RX6 87 "RightsStepsModel" "read" "I", Cond.fieldLink RX6 84 "RightsStepsModel" "typed" "I", Cond.fieldLink RX6 20 "RightsStepsModel" "tape" "[I", Cond.fieldLink RX6 23 "RightsStepsModel" "given" "[I", Cond.fieldLink RX6 90 "RightsStepsModel" "givens" "I"]
def wsX6_seed_r2 : List Cond := [Cond.fieldLink RX6 37 "RightsStepsModel" "awaited" "[I", Cond.fieldLink RX6 40 "RightsStepsModel" "awaitedSeed" "[I", Cond.methodLink RX6 103 yX6_isPlain, Cond.static yX6_isPlain, Cond.code yX6_isPlain cX6_isPlain 2 (some .boolean), Cond.methodLink RX6 106 yX6_wasGiven, Cond.instanceMethod yX6_wasGiven, Cond.selects RX6 yX6_wasGiven yX6_wasGiven, Cond.code yX6_wasGiven cX6_wasGiven 3 (some .boolean), Cond.methodLink RX6 115 yX6_note, Cond.instanceMethod yX6_note, Cond.selects RX6 yX6_note yX6_note, Cond.code yX6_note cX6_note 3 (some .int), Cond.fieldLink RX6 93 "RightsStepsModel" "uses" "I", Cond.fieldLink RX6 62 "RightsStepsModel" "useBy" "[I", Cond.fieldLink RX6 65 "RightsStepsModel" "useLevel" "[I", Cond.fieldLink RX6 68 "RightsStepsModel" "useAnswer" "[I"]
def wsX6_seed : List Cond := .code yX6_seed cX6_seed 4 (some .int) :: ((wsX6_seed_r1 ++ wsX6_seed_r2) ++ wsX60 ++ (vx_atM "java/lang/ArrayIndexOutOfBoundsException" ["java/lang/IndexOutOfBoundsException", "java/lang/RuntimeException", "java/lang/Exception"]).filter goodWord)
def wsX6_keyTo : List Cond := .code yX6_keyTo cX6_keyTo 5 (some .int) :: ([.fieldLink RX6 7 "RightsStepsModel" "kind" "[I", .constant RX6 119 (1515870810), .constant RX6 120 (-1640531535), .constant RX6 121 (-306674912)] ++ wsX60 ++ (vx_atM "java/lang/ArrayIndexOutOfBoundsException" ["java/lang/IndexOutOfBoundsException", "java/lang/RuntimeException", "java/lang/Exception"]).filter goodWord)
def wsX6_came : List Cond := .code yX6_came cX6_came 5 (some .int) :: ([.fieldLink RX6 37 "RightsStepsModel" "awaited" "[I", .fieldLink RX6 96 "RightsStepsModel" "hand" "I", .fieldLink RX6 40 "RightsStepsModel" "awaitedSeed" "[I", .fieldLink RX6 34 "RightsStepsModel" "open" "[I", .fieldLink RX6 52 "RightsStepsModel" "used" "[I", .fieldLink RX6 13 "RightsStepsModel" "tries" "[I", .fieldLink RX6 55 "RightsStepsModel" "locked" "[J", .fieldLink RX6 99 "RightsStepsModel" "time" "J", .fieldLink RX6 16 "RightsStepsModel" "delay" "[J", .fieldLink RX6 58 "RightsStepsModel" "wasLocked" "[Z", .methodLink RX6 122 yX6_keyTo, .instanceMethod yX6_keyTo, .selects RX6 yX6_keyTo yX6_keyTo, .initialized RX6, .code yX6_keyTo cX6_keyTo 5 (some .int), .fieldLink RX6 7 "RightsStepsModel" "kind" "[I", .constant RX6 119 (1515870810), .constant RX6 120 (-1640531535), .constant RX6 121 (-306674912)] ++ wsX60 ++ (vx_atM "java/lang/ArrayIndexOutOfBoundsException" ["java/lang/IndexOutOfBoundsException", "java/lang/RuntimeException", "java/lang/Exception"]).filter goodWord)
def wsX6_key_r1 : List Cond := [Cond.fieldLink RX6 71 "RightsStepsModel" "code" "I", Cond.fieldLink RX6 49 "RightsStepsModel" "octetRow" "[I", Cond.fieldLink RX6 96 "RightsStepsModel" "hand" "I", Cond.fieldLink RX6 46 "RightsStepsModel" "octets" "[I", Cond.methodLink RX6 77 yX6_isMade, Cond.instanceMethod yX6_isMade, Cond.selects RX6 yX6_isMade yX6_isMade, Cond.initialized RX6, Cond.code yX6_isMade cX6_isMade 2 (some .boolean), Cond.fieldLink RX6 13 "RightsStepsModel" "tries" "[I", Cond.methodLink RX6 125 yX6_came, Cond.instanceMethod yX6_came, Cond.selects RX6 yX6_came yX6_came, Cond.code yX6_came cX6_came 5 (some .int), Cond.fieldLink RX6 37 "RightsStepsModel" "awaited" "[I", Cond.fieldLink RX6 40 "RightsStepsModel" "awaitedSeed" "[I", Cond.fieldLink RX6 34 "RightsStepsModel" "open" "[I", Cond.fieldLink RX6 52 "RightsStepsModel" "used" "[I", Cond.fieldLink RX6 55 "RightsStepsModel" "locked" "[J", Cond.fieldLink RX6 99 "RightsStepsModel" "time" "J", Cond.fieldLink RX6 16 "RightsStepsModel" "delay" "[J", Cond.fieldLink RX6 58 "RightsStepsModel" "wasLocked" "[Z", Cond.methodLink RX6 122 yX6_keyTo, Cond.instanceMethod yX6_keyTo]
def wsX6_key_r2 : List Cond := [Cond.selects RX6 yX6_keyTo yX6_keyTo, Cond.code yX6_keyTo cX6_keyTo 5 (some .int), Cond.fieldLink RX6 7 "RightsStepsModel" "kind" "[I", Cond.constant RX6 119 (1515870810), Cond.constant RX6 120 (-1640531535), Cond.constant RX6 121 (-306674912), Cond.methodLink RX6 115 yX6_note, Cond.instanceMethod yX6_note, Cond.selects RX6 yX6_note yX6_note, Cond.code yX6_note cX6_note 3 (some .int), Cond.fieldLink RX6 93 "RightsStepsModel" "uses" "I", Cond.fieldLink RX6 62 "RightsStepsModel" "useBy" "[I", Cond.fieldLink RX6 65 "RightsStepsModel" "useLevel" "[I", Cond.fieldLink RX6 68 "RightsStepsModel" "useAnswer" "[I"]
def wsX6_key : List Cond := .code yX6_key cX6_key 6 (some .int) :: ((wsX6_key_r1 ++ wsX6_key_r2) ++ wsX60 ++ (vx_atM "java/lang/ArrayIndexOutOfBoundsException" ["java/lang/IndexOutOfBoundsException", "java/lang/RuntimeException", "java/lang/Exception"]).filter goodWord)
def wsX6_out : List Cond := .code yX6_out cX6_out 2 (some .byte) :: ([.fieldLink RX6 71 "RightsStepsModel" "code" "I", .fieldLink RX6 43 "RightsStepsModel" "out" "[I", .fieldLink RX6 96 "RightsStepsModel" "hand" "I"] ++ wsX60 ++ (vx_atM "java/lang/ArrayIndexOutOfBoundsException" ["java/lang/IndexOutOfBoundsException", "java/lang/RuntimeException", "java/lang/Exception"]).filter goodWord)
def wsX6_open : List Cond := .code yX6_open cX6_open 2 (some .int) :: ([.fieldLink RX6 71 "RightsStepsModel" "code" "I", .fieldLink RX6 34 "RightsStepsModel" "open" "[I", .fieldLink RX6 96 "RightsStepsModel" "hand" "I", .methodLink RX6 77 yX6_isMade, .instanceMethod yX6_isMade, .selects RX6 yX6_isMade yX6_isMade, .initialized RX6, .code yX6_isMade cX6_isMade 2 (some .boolean), .fieldLink RX6 13 "RightsStepsModel" "tries" "[I"] ++ wsX60 ++ (vx_atM "java/lang/ArrayIndexOutOfBoundsException" ["java/lang/IndexOutOfBoundsException", "java/lang/RuntimeException", "java/lang/Exception"]).filter goodWord)
def wsX6_begin : List Cond := .code yX6_begin cX6_begin 3 none :: ([.fieldLink RX6 26 "RightsStepsModel" "session" "[I", .fieldLink RX6 37 "RightsStepsModel" "awaited" "[I", .fieldLink RX6 34 "RightsStepsModel" "open" "[I", .fieldLink RX6 31 "RightsStepsModel" "roleUntil" "[J", .constantLong RX6 29 (-1)] ++ wsX60 ++ (vx_atM "java/lang/ArrayIndexOutOfBoundsException" ["java/lang/IndexOutOfBoundsException", "java/lang/RuntimeException", "java/lang/Exception"]).filter goodWord)
def wsX6_session : List Cond := .code yX6_session cX6_session 3 (some .int) :: ([.fieldLink RX6 71 "RightsStepsModel" "code" "I", .fieldLink RX6 26 "RightsStepsModel" "session" "[I", .fieldLink RX6 96 "RightsStepsModel" "hand" "I", .methodLink RX6 129 yX6_begin, .instanceMethod yX6_begin, .selects RX6 yX6_begin yX6_begin, .initialized RX6, .code yX6_begin cX6_begin 3 none, .fieldLink RX6 37 "RightsStepsModel" "awaited" "[I", .fieldLink RX6 34 "RightsStepsModel" "open" "[I", .fieldLink RX6 31 "RightsStepsModel" "roleUntil" "[J", .constantLong RX6 29 (-1)] ++ wsX60 ++ (vx_atM "java/lang/ArrayIndexOutOfBoundsException" ["java/lang/IndexOutOfBoundsException", "java/lang/RuntimeException", "java/lang/Exception"]).filter goodWord)
def wsX6_reset : List Cond := .code yX6_reset cX6_reset 3 (some .int) :: ([.fieldLink RX6 71 "RightsStepsModel" "code" "I", .fieldLink RX6 34 "RightsStepsModel" "open" "[I", .fieldLink RX6 46 "RightsStepsModel" "octets" "[I", .fieldLink RX6 49 "RightsStepsModel" "octetRow" "[I", .fieldLink RX6 90 "RightsStepsModel" "givens" "I", .methodLink RX6 129 yX6_begin, .instanceMethod yX6_begin, .selects RX6 yX6_begin yX6_begin, .initialized RX6, .code yX6_begin cX6_begin 3 none, .fieldLink RX6 26 "RightsStepsModel" "session" "[I", .fieldLink RX6 37 "RightsStepsModel" "awaited" "[I", .fieldLink RX6 31 "RightsStepsModel" "roleUntil" "[J", .constantLong RX6 29 (-1)] ++ wsX60 ++ (vx_atM "java/lang/ArrayIndexOutOfBoundsException" ["java/lang/IndexOutOfBoundsException", "java/lang/RuntimeException", "java/lang/Exception"]).filter goodWord)
def wsX6_role : List Cond := .code yX6_role cX6_role 5 (some .int) :: ([.fieldLink RX6 71 "RightsStepsModel" "code" "I", .fieldLink RX6 99 "RightsStepsModel" "time" "J", .fieldLink RX6 31 "RightsStepsModel" "roleUntil" "[J", .fieldLink RX6 96 "RightsStepsModel" "hand" "I"] ++ wsX60 ++ (vx_atM "java/lang/ArrayIndexOutOfBoundsException" ["java/lang/IndexOutOfBoundsException", "java/lang/RuntimeException", "java/lang/Exception"]).filter goodWord)
def wsX6_left : List Cond := .code yX6_left cX6_left 6 (some .int) :: ([.fieldLink RX6 71 "RightsStepsModel" "code" "I", .fieldLink RX6 55 "RightsStepsModel" "locked" "[J", .fieldLink RX6 96 "RightsStepsModel" "hand" "I", .fieldLink RX6 58 "RightsStepsModel" "wasLocked" "[Z", .constantLong RX6 133 (1000000), .constant RX6 135 (1000000), .methodLink RX6 77 yX6_isMade, .instanceMethod yX6_isMade, .selects RX6 yX6_isMade yX6_isMade, .initialized RX6, .code yX6_isMade cX6_isMade 2 (some .boolean), .fieldLink RX6 13 "RightsStepsModel" "tries" "[I"] ++ wsX60 ++ (vx_atM "java/lang/ArrayIndexOutOfBoundsException" ["java/lang/IndexOutOfBoundsException", "java/lang/RuntimeException", "java/lang/Exception"]).filter goodWord)
def wsX6_log : List Cond := .code yX6_log cX6_log 3 (some .int) :: ([.fieldLink RX6 71 "RightsStepsModel" "code" "I", .fieldLink RX6 93 "RightsStepsModel" "uses" "I", .fieldLink RX6 62 "RightsStepsModel" "useBy" "[I", .fieldLink RX6 65 "RightsStepsModel" "useLevel" "[I", .fieldLink RX6 68 "RightsStepsModel" "useAnswer" "[I"] ++ wsX60 ++ (vx_atM "java/lang/ArrayIndexOutOfBoundsException" ["java/lang/IndexOutOfBoundsException", "java/lang/RuntimeException", "java/lang/Exception"]).filter goodWord)
def wsX6_digit : List Cond := .code yX6_digit cX6_digit 7 (some .int) :: ([.fieldLink RX6 43 "RightsStepsModel" "out" "[I", .fieldLink RX6 96 "RightsStepsModel" "hand" "I", .constantLong RX6 136 (4294967295), .constantLong RX6 138 (10), .fieldLink RX6 71 "RightsStepsModel" "code" "I"] ++ wsX60 ++ (vx_atM "java/lang/ArrayIndexOutOfBoundsException" ["java/lang/IndexOutOfBoundsException", "java/lang/RuntimeException", "java/lang/Exception"]).filter goodWord)
def wsX6_tester : List Cond := .code yX6_tester cX6_tester 3 (some .int) :: ([.fieldLink RX6 71 "RightsStepsModel" "code" "I", .fieldLink RX6 96 "RightsStepsModel" "hand" "I"] ++ wsX60)
def wsJx00060_init_da8c8 : List Cond := .code yJx00060_init_da8c8 cJx00060_init_da8c8 1 none :: ([])
def wsJx00060_init_a7421 : List Cond := .code yJx00060_init_a7421 cJx00060_init_a7421 2 none :: ([])
def wsL_out : List Cond := .codeWith yL_out cL_out 4 (some .int) [(0, 9, 12, 13)] :: ([.methodLink RL 7 yX5_out, .instanceMethod yX5_out, .selects RX5 yX5_out yX5_out, .initialized RX5, .code yX5_out cX5_out 2 (some .byte), .classLink RX5 81 RJx00060, .instantiable RJx00060 6, .initialized RJx00060, .fieldLink RX5 45 "RightsSteps" "atHand" "LRightsSteps$Tester;"] ++ wsJx000600 ++ wsX50 ++ wsX30 ++ (vx_atM "java/lang/ArrayIndexOutOfBoundsException" ["java/lang/IndexOutOfBoundsException", "java/lang/RuntimeException", "java/lang/Exception"]).filter goodWord)
def wsL_digit : List Cond := .codeWith yL_digit cL_digit 4 (some .int) [(0, 9, 12, 13)] :: ([.methodLink RL 15 yX5_digit, .instanceMethod yX5_digit, .selects RX5 yX5_digit yX5_digit, .initialized RX5, .code yX5_digit cX5_digit 6 (some .int), .fieldLink RX5 45 "RightsSteps" "atHand" "LRightsSteps$Tester;", .constantLong RX5 137 (4294967295), .classLink RX5 81 RJx00060, .instantiable RJx00060 6, .initialized RJx00060, .constantLong RX5 143 (10), .methodLink RX5 139 yX5_countDigits, .static yX5_countDigits, .code yX5_countDigits cX5_countDigits 5 (some .int)] ++ wsX50 ++ wsX30 ++ wsJx000600 ++ (vx_atM "java/lang/ArrayIndexOutOfBoundsException" ["java/lang/IndexOutOfBoundsException", "java/lang/RuntimeException", "java/lang/Exception"]).filter goodWord)
def wsL_law0_r1 : List Cond := [Cond.classLink RL 8 RX5, Cond.instantiable RX5 8, Cond.initialized RX5, Cond.classLink RL 20 RX6, Cond.instantiable RX6 27, Cond.initialized RX6, Cond.arrayClass .long, Cond.constantLong RL 23 (4294967295), Cond.methodLink RL 19 yX5_init, Cond.instanceMethod yX5_init, Cond.code yX5_init cX5_init 2 none, Cond.methodLink RX5 1 objectInit, Cond.instanceMethod objectInit, Cond.code objectInit ⟨#[0xb1]⟩ 1 none, Cond.classLink RX5 9 RX1, Cond.fieldLink RX5 11 "RightsSteps" "levels" "[LRightsSteps$Level;", Cond.classLink RX5 15 RX2, Cond.instantiable RX2 3, Cond.initialized RX2, Cond.fieldLink RX5 18 "RightsSteps" "tape" "LRightsSteps$Tape;", Cond.classLink RX5 22 RX0, Cond.instantiable RX0 2, Cond.initialized RX0, Cond.fieldLink RX5 25 "RightsSteps" "given" "LRightsSteps$GivenSeeds;"]
def wsL_law0_r2 : List Cond := [Cond.classLink RX5 29 RX4, Cond.instantiable RX4 3, Cond.initialized RX4, Cond.fieldLink RX5 32 "RightsSteps" "uses" "LRightsSteps$UseLog;", Cond.classLink RX5 36 RX3, Cond.fieldLink RX5 38 "RightsSteps" "testers" "[LRightsSteps$Tester;", Cond.instantiable RX3 11, Cond.initialized RX3, Cond.fieldLink RX5 45 "RightsSteps" "atHand" "LRightsSteps$Tester;", Cond.instanceMethod yX2_init, Cond.code yX2_init cX2_init 1 none, Cond.methodLink RX2 3 objectInit, Cond.arrayClass .int, Cond.fieldLink RX2 11 "RightsSteps$Tape" "numbers" "[I", Cond.instanceMethod yX0_init, Cond.code yX0_init cX0_init 1 none, Cond.methodLink RX0 1 objectInit, Cond.fieldLink RX0 9 "RightsSteps$GivenSeeds" "seeds" "[I", Cond.instanceMethod yX4_init, Cond.code yX4_init cX4_init 1 none, Cond.methodLink RX4 1 objectInit, Cond.fieldLink RX4 9 "RightsSteps$UseLog" "parts" "[I", Cond.methodLink RX5 42 yX3_init, Cond.instanceMethod yX3_init]
def wsL_law0_r3 : List Cond := [Cond.code yX3_init cX3_init 2 none, Cond.methodLink RX3 3 objectInit, Cond.fieldLink RX3 9 "RightsSteps$Tester" "session" "I", Cond.constantLong RX3 15 (-9223372036854775808), Cond.fieldLink RX3 17 "RightsSteps$Tester" "roleUntil" "J", Cond.fieldLink RX3 21 "RightsSteps$Tester" "openLevel" "I", Cond.fieldLink RX3 24 "RightsSteps$Tester" "awaitedLevel" "I", Cond.fieldLink RX3 27 "RightsSteps$Tester" "usedTries" "[I", Cond.fieldLink RX3 31 "RightsSteps$Tester" "lockedUntil" "[J", Cond.fieldLink RX3 35 "RightsSteps$Tester" "number" "I", Cond.methodLink RX3 38 yJ7_fill_d0a16, Cond.static yJ7_fill_d0a16, Cond.initialized RJ7, Cond.code yJ7_fill_d0a16 cJ7_fill_d0a16 5 none, Cond.methodLink RL 22 yX6_init, Cond.instanceMethod yX6_init, Cond.code yX6_init cX6_init 1 none, Cond.methodLink RX6 1 objectInit, Cond.fieldLink RX6 7 "RightsStepsModel" "kind" "[I", Cond.fieldLink RX6 13 "RightsStepsModel" "tries" "[I", Cond.fieldLink RX6 16 "RightsStepsModel" "delay" "[J", Cond.fieldLink RX6 20 "RightsStepsModel" "tape" "[I", Cond.fieldLink RX6 23 "RightsStepsModel" "given" "[I", Cond.fieldLink RX6 26 "RightsStepsModel" "session" "[I"]
def wsL_law0_r4 : List Cond := [Cond.constantLong RX6 29 (-1), Cond.fieldLink RX6 31 "RightsStepsModel" "roleUntil" "[J", Cond.fieldLink RX6 34 "RightsStepsModel" "open" "[I", Cond.fieldLink RX6 37 "RightsStepsModel" "awaited" "[I", Cond.fieldLink RX6 40 "RightsStepsModel" "awaitedSeed" "[I", Cond.fieldLink RX6 43 "RightsStepsModel" "out" "[I", Cond.fieldLink RX6 46 "RightsStepsModel" "octets" "[I", Cond.fieldLink RX6 49 "RightsStepsModel" "octetRow" "[I", Cond.fieldLink RX6 52 "RightsStepsModel" "used" "[I", Cond.fieldLink RX6 55 "RightsStepsModel" "locked" "[J", Cond.arrayClass .boolean, Cond.fieldLink RX6 58 "RightsStepsModel" "wasLocked" "[Z", Cond.fieldLink RX6 62 "RightsStepsModel" "useBy" "[I", Cond.fieldLink RX6 65 "RightsStepsModel" "useLevel" "[I", Cond.fieldLink RX6 68 "RightsStepsModel" "useAnswer" "[I", Cond.methodLink RL 25 yX5_level, Cond.instanceMethod yX5_level, Cond.selects RX5 yX5_level yX5_level, Cond.code yX5_level cX5_level 6 (some .int), Cond.constantLong RX5 49 (100000), Cond.instantiable RX1 4, Cond.initialized RX1, Cond.fieldLink RX5 54 "RightsSteps" "levelsMade" "I", Cond.methodLink RX5 51 yX1_init]
def wsL_law0_r5 : List Cond := [Cond.instanceMethod yX1_init, Cond.code yX1_init cX1_init 6 none, Cond.methodLink RX1 3 objectInit, Cond.fieldLink RX1 9 "RightsSteps$Level" "number" "I", Cond.fieldLink RX1 15 "RightsSteps$Level" "kind" "I", Cond.fieldLink RX1 18 "RightsSteps$Level" "tries" "I", Cond.fieldLink RX1 21 "RightsSteps$Level" "delay" "J", Cond.methodLink RL 29 yX6_level, Cond.instanceMethod yX6_level, Cond.selects RX6 yX6_level yX6_level, Cond.code yX6_level cX6_level 6 (some .int), Cond.fieldLink RX6 71 "RightsStepsModel" "code" "I", Cond.constantLong RX6 75 (100000), Cond.fieldLink RX6 81 "RightsStepsModel" "made" "I", Cond.methodLink RX6 77 yX6_isMade, Cond.instanceMethod yX6_isMade, Cond.selects RX6 yX6_isMade yX6_isMade, Cond.code yX6_isMade cX6_isMade 2 (some .boolean), Cond.methodLink RL 30 yX5_tape, Cond.instanceMethod yX5_tape, Cond.selects RX5 yX5_tape yX5_tape, Cond.code yX5_tape cX5_tape 2 none, Cond.methodLink RX5 58 yX2_add, Cond.instanceMethod yX2_add]
def wsL_law0_r6 : List Cond := [Cond.selects RX2 yX2_add yX2_add, Cond.code yX2_add cX2_add 3 none, Cond.fieldLink RX2 15 "RightsSteps$Tape" "size" "I", Cond.fieldLink RX2 19 "RightsSteps$Tape" "first" "I", Cond.methodLink RL 34 yX6_tape, Cond.instanceMethod yX6_tape, Cond.selects RX6 yX6_tape yX6_tape, Cond.code yX6_tape cX6_tape 2 none, Cond.fieldLink RX6 84 "RightsStepsModel" "typed" "I", Cond.fieldLink RX6 87 "RightsStepsModel" "read" "I", Cond.methodLink RL 35 yX5_seed, Cond.instanceMethod yX5_seed, Cond.selects RX5 yX5_seed yX5_seed, Cond.code yX5_seed cX5_seed 6 (some .int), Cond.fieldLink RX5 65 "RightsSteps" "time" "J", Cond.constantLong RX5 69 (1152921504606846976), Cond.methodLink RX5 61 yX5_madeLevel, Cond.instanceMethod yX5_madeLevel, Cond.selects RX5 yX5_madeLevel yX5_madeLevel, Cond.code yX5_madeLevel cX5_madeLevel 2 (some (.object "RightsSteps$Level")), Cond.methodLink RX5 71 yX5_askForSeed, Cond.instanceMethod yX5_askForSeed, Cond.selects RX5 yX5_askForSeed yX5_askForSeed, Cond.code yX5_askForSeed cX5_askForSeed 3 (some .int)]
def wsL_law0_r7 : List Cond := [Cond.methodLink RX5 145 yX1_isForSession, Cond.instanceMethod yX1_isForSession, Cond.selects RX1 yX1_isForSession yX1_isForSession, Cond.code yX1_isForSession cX1_isForSession 2 (some .boolean), Cond.methodLink RX5 148 yX1_needsRole, Cond.instanceMethod yX1_needsRole, Cond.selects RX1 yX1_needsRole yX1_needsRole, Cond.code yX1_needsRole cX1_needsRole 1 (some .boolean), Cond.methodLink RX5 119 yX3_lockedUntil, Cond.instanceMethod yX3_lockedUntil, Cond.selects RX3 yX3_lockedUntil yX3_lockedUntil, Cond.code yX3_lockedUntil cX3_lockedUntil 2 (some .long), Cond.methodLink RX5 153 yX2_takeSeed, Cond.instanceMethod yX2_takeSeed, Cond.selects RX2 yX2_takeSeed yX2_takeSeed, Cond.code yX2_takeSeed cX2_takeSeed 4 (some .int), Cond.methodLink RX2 22 yX2_takeFirst, Cond.instanceMethod yX2_takeFirst, Cond.selects RX2 yX2_takeFirst yX2_takeFirst, Cond.code yX2_takeFirst cX2_takeFirst 2 (some .int), Cond.static yX5_isPlain, Cond.code yX5_isPlain cX5_isPlain 1 (some .boolean), Cond.constant RX5 188 (16843009), Cond.methodLink RX2 30 yX0_has]
def wsL_law0_r8 : List Cond := [Cond.instanceMethod yX0_has, Cond.selects RX0 yX0_has yX0_has, Cond.code yX0_has cX0_has 3 (some .boolean), Cond.fieldLink RX0 13 "RightsSteps$GivenSeeds" "size" "I", Cond.methodLink RX5 157 yX0_add, Cond.instanceMethod yX0_add, Cond.selects RX0 yX0_add yX0_add, Cond.code yX0_add cX0_add 2 none, Cond.methodLink RX5 158 yX3_awaitKey, Cond.instanceMethod yX3_awaitKey, Cond.selects RX3 yX3_awaitKey yX3_awaitKey, Cond.code yX3_awaitKey cX3_awaitKey 3 none, Cond.fieldLink RX3 44 "RightsSteps$Tester" "out" "I", Cond.fieldLink RX3 47 "RightsSteps$Tester" "awaitedSeed" "I", Cond.methodLink RX5 78 yX4_add, Cond.instanceMethod yX4_add, Cond.selects RX4 yX4_add yX4_add, Cond.code yX4_add cX4_add 5 none, Cond.fieldLink RX4 13 "RightsSteps$UseLog" "count" "I", Cond.fieldLink RX4 17 "RightsSteps$UseLog" "kept" "I", Cond.methodLink RL 39 yX6_seed, Cond.instanceMethod yX6_seed, Cond.selects RX6 yX6_seed yX6_seed, Cond.code yX6_seed cX6_seed 4 (some .int)]
def wsL_law0_r9 : List Cond := [Cond.fieldLink RX6 99 "RightsStepsModel" "time" "J", Cond.constantLong RX6 109 (1152921504606846976), Cond.methodLink RX6 111 yX6_asked, Cond.instanceMethod yX6_asked, Cond.selects RX6 yX6_asked yX6_asked, Cond.code yX6_asked cX6_asked 4 (some .int), Cond.fieldLink RX6 96 "RightsStepsModel" "hand" "I", Cond.fieldLink RX6 90 "RightsStepsModel" "givens" "I", Cond.methodLink RX6 103 yX6_isPlain, Cond.static yX6_isPlain, Cond.code yX6_isPlain cX6_isPlain 2 (some .boolean), Cond.methodLink RX6 106 yX6_wasGiven, Cond.instanceMethod yX6_wasGiven, Cond.selects RX6 yX6_wasGiven yX6_wasGiven, Cond.code yX6_wasGiven cX6_wasGiven 3 (some .boolean), Cond.methodLink RX6 115 yX6_note, Cond.instanceMethod yX6_note, Cond.selects RX6 yX6_note yX6_note, Cond.code yX6_note cX6_note 3 (some .int), Cond.fieldLink RX6 93 "RightsStepsModel" "uses" "I", Cond.methodLink RL 40 yL_out, Cond.static yL_out, Cond.initialized RL, Cond.codeWith yL_out cL_out 4 (some .int) [(0, 9, 12, 13)]]
def wsL_law0_r10 : List Cond := [Cond.methodLink RL 7 yX5_out, Cond.instanceMethod yX5_out, Cond.selects RX5 yX5_out yX5_out, Cond.code yX5_out cX5_out 2 (some .byte), Cond.classLink RX5 81 RJx00060, Cond.instantiable RJx00060 6, Cond.initialized RJx00060, Cond.methodLink RL 45 yX6_out, Cond.instanceMethod yX6_out, Cond.selects RX6 yX6_out yX6_out, Cond.code yX6_out cX6_out 2 (some .byte), Cond.methodLink RL 46 yX6_thrown, Cond.instanceMethod yX6_thrown, Cond.selects RX6 yX6_thrown yX6_thrown, Cond.code yX6_thrown cX6_thrown 1 (some .int), Cond.methodLink RL 50 yX5_key, Cond.instanceMethod yX5_key, Cond.selects RX5 yX5_key yX5_key, Cond.code yX5_key cX5_key 8 (some .int), Cond.methodLink RX5 87 yX3_addOctet, Cond.instanceMethod yX3_addOctet, Cond.selects RX3 yX3_addOctet yX3_addOctet, Cond.code yX3_addOctet cX3_addOctet 2 none, Cond.fieldLink RX3 50 "RightsSteps$Tester" "octets" "I"]
def wsL_law0_r11 : List Cond := [Cond.fieldLink RX3 53 "RightsSteps$Tester" "keySoFar" "I", Cond.methodLink RX5 97 yX3_dropOctets, Cond.instanceMethod yX3_dropOctets, Cond.selects RX3 yX3_dropOctets yX3_dropOctets, Cond.code yX3_dropOctets cX3_dropOctets 1 none, Cond.methodLink RX5 100 yX5_tryKey, Cond.instanceMethod yX5_tryKey, Cond.selects RX5 yX5_tryKey yX5_tryKey, Cond.code yX5_tryKey cX5_tryKey 4 (some .int), Cond.methodLink RX5 168 yX1_keyTo, Cond.instanceMethod yX1_keyTo, Cond.selects RX1 yX1_keyTo yX1_keyTo, Cond.code yX1_keyTo cX1_keyTo 2 (some .int), Cond.constant RX1 25 (1515870810), Cond.constant RX1 26 (-1640531535), Cond.methodLink RX1 27 yX1_shiftedKeyTo, Cond.instanceMethod yX1_shiftedKeyTo, Cond.selects RX1 yX1_shiftedKeyTo yX1_shiftedKeyTo, Cond.code yX1_shiftedKeyTo cX1_shiftedKeyTo 5 (some .int), Cond.constant RX1 31 (-306674912), Cond.methodLink RX5 172 yX3_setUsedTries, Cond.instanceMethod yX3_setUsedTries, Cond.selects RX3 yX3_setUsedTries yX3_setUsedTries, Cond.code yX3_setUsedTries cX3_setUsedTries 3 none]
def wsL_law0_r12 : List Cond := [Cond.methodLink RX5 175 yX3_usedTries, Cond.instanceMethod yX3_usedTries, Cond.selects RX3 yX3_usedTries yX3_usedTries, Cond.code yX3_usedTries cX3_usedTries 2 (some .int), Cond.methodLink RX5 184 yX3_lock, Cond.instanceMethod yX3_lock, Cond.selects RX3 yX3_lock yX3_lock, Cond.code yX3_lock cX3_lock 4 none, Cond.methodLink RL 54 yX6_key, Cond.instanceMethod yX6_key, Cond.selects RX6 yX6_key yX6_key, Cond.code yX6_key cX6_key 6 (some .int), Cond.methodLink RX6 125 yX6_came, Cond.instanceMethod yX6_came, Cond.selects RX6 yX6_came yX6_came, Cond.code yX6_came cX6_came 5 (some .int), Cond.methodLink RX6 122 yX6_keyTo, Cond.instanceMethod yX6_keyTo, Cond.selects RX6 yX6_keyTo yX6_keyTo, Cond.code yX6_keyTo cX6_keyTo 5 (some .int), Cond.constant RX6 119 (1515870810), Cond.constant RX6 120 (-1640531535), Cond.constant RX6 121 (-306674912), Cond.methodLink RL 55 yX5_open]
def wsL_law0_r13 : List Cond := [Cond.instanceMethod yX5_open, Cond.selects RX5 yX5_open yX5_open, Cond.code yX5_open cX5_open 2 (some .int), Cond.methodLink RL 58 yX6_open, Cond.instanceMethod yX6_open, Cond.selects RX6 yX6_open yX6_open, Cond.code yX6_open cX6_open 2 (some .int), Cond.methodLink RL 59 yX5_session, Cond.instanceMethod yX5_session, Cond.selects RX5 yX5_session yX5_session, Cond.code yX5_session cX5_session 3 (some .int), Cond.methodLink RX5 110 yX3_startSession, Cond.instanceMethod yX3_startSession, Cond.selects RX3 yX3_startSession yX3_startSession, Cond.code yX3_startSession cX3_startSession 2 none, Cond.methodLink RL 62 yX6_session, Cond.instanceMethod yX6_session, Cond.selects RX6 yX6_session yX6_session, Cond.code yX6_session cX6_session 3 (some .int), Cond.methodLink RX6 129 yX6_begin, Cond.instanceMethod yX6_begin, Cond.selects RX6 yX6_begin yX6_begin, Cond.code yX6_begin cX6_begin 3 none, Cond.methodLink RL 63 yX5_reset]
def wsL_law0_r14 : List Cond := [Cond.instanceMethod yX5_reset, Cond.selects RX5 yX5_reset yX5_reset, Cond.code yX5_reset cX5_reset 4 (some .int), Cond.methodLink RX5 113 yX0_forgetAll, Cond.instanceMethod yX0_forgetAll, Cond.selects RX0 yX0_forgetAll yX0_forgetAll, Cond.code yX0_forgetAll cX0_forgetAll 1 none, Cond.methodLink RL 66 yX6_reset, Cond.instanceMethod yX6_reset, Cond.selects RX6 yX6_reset yX6_reset, Cond.code yX6_reset cX6_reset 3 (some .int), Cond.methodLink RL 67 yX5_role, Cond.instanceMethod yX5_role, Cond.selects RX5 yX5_role yX5_role, Cond.code yX5_role cX5_role 5 (some .int), Cond.methodLink RL 71 yX6_role, Cond.instanceMethod yX6_role, Cond.selects RX6 yX6_role yX6_role, Cond.code yX6_role cX6_role 5 (some .int), Cond.methodLink RL 72 yX5_left, Cond.instanceMethod yX5_left, Cond.selects RX5 yX5_left yX5_left, Cond.code yX5_left cX5_left 6 (some .int), Cond.constantLong RX5 123 (1000000)]
def wsL_law0_r15 : List Cond := [Cond.constant RX5 125 (1000000), Cond.methodLink RL 75 yX6_left, Cond.instanceMethod yX6_left, Cond.selects RX6 yX6_left yX6_left, Cond.code yX6_left cX6_left 6 (some .int), Cond.constantLong RX6 133 (1000000), Cond.constant RX6 135 (1000000), Cond.methodLink RL 76 yX5_log, Cond.instanceMethod yX5_log, Cond.selects RX5 yX5_log yX5_log, Cond.code yX5_log cX5_log 3 (some .int), Cond.methodLink RX5 129 yX4_has, Cond.instanceMethod yX4_has, Cond.selects RX4 yX4_has yX4_has, Cond.code yX4_has cX4_has 2 (some .boolean), Cond.methodLink RX5 133 yX4_part, Cond.instanceMethod yX4_part, Cond.selects RX4 yX4_part yX4_part, Cond.code yX4_part cX4_part 3 (some .int), Cond.methodLink RX4 20 yX4_has, Cond.methodLink RL 80 yX6_log, Cond.instanceMethod yX6_log, Cond.selects RX6 yX6_log yX6_log, Cond.code yX6_log cX6_log 3 (some .int)]
def wsL_law0_r16 : List Cond := [Cond.methodLink RL 81 yL_digit, Cond.static yL_digit, Cond.codeWith yL_digit cL_digit 4 (some .int) [(0, 9, 12, 13)], Cond.methodLink RL 15 yX5_digit, Cond.instanceMethod yX5_digit, Cond.selects RX5 yX5_digit yX5_digit, Cond.code yX5_digit cX5_digit 6 (some .int), Cond.constantLong RX5 137 (4294967295), Cond.constantLong RX5 143 (10), Cond.methodLink RX5 139 yX5_countDigits, Cond.static yX5_countDigits, Cond.code yX5_countDigits cX5_countDigits 5 (some .int), Cond.methodLink RL 83 yX6_digit, Cond.instanceMethod yX6_digit, Cond.selects RX6 yX6_digit yX6_digit, Cond.code yX6_digit cX6_digit 7 (some .int), Cond.constantLong RX6 136 (4294967295), Cond.constantLong RX6 138 (10), Cond.methodLink RL 84 yX5_tester, Cond.instanceMethod yX5_tester, Cond.selects RX5 yX5_tester yX5_tester, Cond.code yX5_tester cX5_tester 3 (some .int), Cond.methodLink RL 87 yX6_tester, Cond.instanceMethod yX6_tester]
def wsL_law0_r17 : List Cond := [Cond.selects RX6 yX6_tester yX6_tester, Cond.code yX6_tester cX6_tester 3 (some .int)]
def wsL_law0 : List Cond := (wsL_law0_r1 ++ (wsL_law0_r2 ++ (wsL_law0_r3 ++ (wsL_law0_r4 ++ (wsL_law0_r5 ++ (wsL_law0_r6 ++ (wsL_law0_r7 ++ (wsL_law0_r8 ++ (wsL_law0_r9 ++ (wsL_law0_r10 ++ (wsL_law0_r11 ++ (wsL_law0_r12 ++ (wsL_law0_r13 ++ (wsL_law0_r14 ++ (wsL_law0_r15 ++ (wsL_law0_r16 ++ wsL_law0_r17)))))))))))))))) ++ wsX50 ++ wsX60 ++ wsX20 ++ wsX00 ++ wsX40 ++ wsX30 ++ wsX10 ++ wsJx000600 ++ ([] : List Cond)
def wsL_law : List Cond := wsL_law0 ++ (vx_atM "java/lang/ArrayIndexOutOfBoundsException" ["java/lang/IndexOutOfBoundsException", "java/lang/RuntimeException", "java/lang/Exception"]).filter goodWord
set_option maxRecDepth 20000 in
theorem wsL_law_in0 : ∀ w ∈ wsL_law0, w ∈ lw_tbl := fun w h => (goodIn_p wsL_law0 [32, 35, 42, 59, 72, 90, 95, 449, 168, 173, 542, 547, 194, 198, 551, 202, 206, 211, 215, 219, 223, 227, 231, 234, 239, 243, 247, 251, 555, 560, 563, 567, 571, 418, 590, 538, 255, 259, 263, 267, 271, 277, 282, 286, 290, 575, 579, 583, 294, 594, 298, 302, 598, 602, 306, 310, 606, 314, 610, 318, 614, 324, 328, 332, 620, 439, 443, 624, 337, 630] (by decide +kernel) (by decide +kernel) w h).1
theorem wsL_law_x0 : ∀ w ∈ (vx_atM "java/lang/ArrayIndexOutOfBoundsException" ["java/lang/IndexOutOfBoundsException", "java/lang/RuntimeException", "java/lang/Exception"]).filter goodWord, w ∈ lw_tbl := by decide +kernel
theorem wsL_law_in : ∀ w ∈ wsL_law, w ∈ lw_tbl := fun w h => (List.mem_append.mp h).elim (fun h => wsL_law_in0 w h) (fun h => wsL_law_x0 w h)
theorem inlX0 : ∀ w ∈ wsX00, w ∈ wsL_law := fun _ h => List.mem_append_left _ (List.mem_append_left _ (List.mem_append_left _ (List.mem_append_left _ (List.mem_append_left _ (List.mem_append_left _ (List.mem_append_right _ h))))))
theorem inX0 : ∀ w ∈ wsX00, w ∈ lw_tbl := fun w h => wsL_law_in w (inlX0 w h)
theorem inlX1 : ∀ w ∈ wsX10, w ∈ wsL_law := fun _ h => List.mem_append_left _ (List.mem_append_left _ (List.mem_append_left _ (List.mem_append_right _ h)))
theorem inX1 : ∀ w ∈ wsX10, w ∈ lw_tbl := fun w h => wsL_law_in w (inlX1 w h)
theorem inlX2 : ∀ w ∈ wsX20, w ∈ wsL_law := fun _ h => List.mem_append_left _ (List.mem_append_left _ (List.mem_append_left _ (List.mem_append_left _ (List.mem_append_left _ (List.mem_append_left _ (List.mem_append_left _ (List.mem_append_right _ h)))))))
theorem inX2 : ∀ w ∈ wsX20, w ∈ lw_tbl := fun w h => wsL_law_in w (inlX2 w h)
theorem inlX3 : ∀ w ∈ wsX30, w ∈ wsL_law := fun _ h => List.mem_append_left _ (List.mem_append_left _ (List.mem_append_left _ (List.mem_append_left _ (List.mem_append_right _ h))))
theorem inX3 : ∀ w ∈ wsX30, w ∈ lw_tbl := fun w h => wsL_law_in w (inlX3 w h)
theorem inlX4 : ∀ w ∈ wsX40, w ∈ wsL_law := fun _ h => List.mem_append_left _ (List.mem_append_left _ (List.mem_append_left _ (List.mem_append_left _ (List.mem_append_left _ (List.mem_append_right _ h)))))
theorem inX4 : ∀ w ∈ wsX40, w ∈ lw_tbl := fun w h => wsL_law_in w (inlX4 w h)
theorem inlX5 : ∀ w ∈ wsX50, w ∈ wsL_law := fun _ h => List.mem_append_left _ (List.mem_append_left _ (List.mem_append_left _ (List.mem_append_left _ (List.mem_append_left _ (List.mem_append_left _ (List.mem_append_left _ (List.mem_append_left _ (List.mem_append_left _ (List.mem_append_right _ h)))))))))
theorem inX5 : ∀ w ∈ wsX50, w ∈ lw_tbl := fun w h => wsL_law_in w (inlX5 w h)
theorem inlX6 : ∀ w ∈ wsX60, w ∈ wsL_law := fun _ h => List.mem_append_left _ (List.mem_append_left _ (List.mem_append_left _ (List.mem_append_left _ (List.mem_append_left _ (List.mem_append_left _ (List.mem_append_left _ (List.mem_append_left _ (List.mem_append_right _ h))))))))
theorem inX6 : ∀ w ∈ wsX60, w ∈ lw_tbl := fun w h => wsL_law_in w (inlX6 w h)
theorem inJx145de : ∀ w ∈ wsJx145de0, w ∈ lw_tbl := by decide +kernel
theorem inlJx00060 : ∀ w ∈ wsJx000600, w ∈ wsL_law := fun _ h => List.mem_append_left _ (List.mem_append_left _ (List.mem_append_right _ h))
theorem inJx00060 : ∀ w ∈ wsJx000600, w ∈ lw_tbl := fun w h => wsL_law_in w (inlJx00060 w h)
theorem inJ0 : ∀ w ∈ wsJ00, w ∈ lw_tbl := by decide +kernel
theorem inJ7 : ∀ w ∈ wsJ70, w ∈ lw_tbl := by decide +kernel
theorem dX0_init_0 : decode cX0_init 0 = .ok (.aload_n 0, 1) := by decide +kernel
theorem dX0_init_1 : decode cX0_init 1 = .ok (.invokespecial 1, 3) := by decide +kernel
theorem dX0_init_4 : decode cX0_init 4 = .ok (.aload_n 0, 1) := by decide +kernel
theorem dX0_init_5 : decode cX0_init 5 = .ok (.sipush 256, 3) := by decide +kernel
theorem dX0_init_8 : decode cX0_init 8 = .ok (.newarray .int, 2) := by decide +kernel
theorem dX0_init_10 : decode cX0_init 10 = .ok (.putfield 9, 3) := by decide +kernel
theorem dX0_init_13 : decode cX0_init 13 = .ok (.return_, 1) := by decide +kernel
theorem dX0_has_0 : decode cX0_has 0 = .ok (.iconst 0, 1) := by decide +kernel
theorem dX0_has_1 : decode cX0_has 1 = .ok (.istore_n 2, 1) := by decide +kernel
theorem dX0_has_2 : decode cX0_has 2 = .ok (.iload_n 2, 1) := by decide +kernel
theorem dX0_has_3 : decode cX0_has 3 = .ok (.aload_n 0, 1) := by decide +kernel
theorem dX0_has_4 : decode cX0_has 4 = .ok (.getfield 13, 3) := by decide +kernel
theorem dX0_has_7 : decode cX0_has 7 = .ok (.if_icmp .ge 30, 3) := by decide +kernel
theorem dX0_has_10 : decode cX0_has 10 = .ok (.iload_n 2, 1) := by decide +kernel
theorem dX0_has_11 : decode cX0_has 11 = .ok (.aload_n 0, 1) := by decide +kernel
theorem dX0_has_12 : decode cX0_has 12 = .ok (.getfield 9, 3) := by decide +kernel
theorem dX0_has_15 : decode cX0_has 15 = .ok (.arraylength, 1) := by decide +kernel
theorem dX0_has_16 : decode cX0_has 16 = .ok (.if_icmp .ge 21, 3) := by decide +kernel
theorem dX0_has_19 : decode cX0_has 19 = .ok (.aload_n 0, 1) := by decide +kernel
theorem dX0_has_20 : decode cX0_has 20 = .ok (.getfield 9, 3) := by decide +kernel
theorem dX0_has_23 : decode cX0_has 23 = .ok (.iload_n 2, 1) := by decide +kernel
theorem dX0_has_24 : decode cX0_has 24 = .ok (.iaload, 1) := by decide +kernel
theorem dX0_has_25 : decode cX0_has 25 = .ok (.iload_n 1, 1) := by decide +kernel
theorem dX0_has_26 : decode cX0_has 26 = .ok (.if_icmp .ne 5, 3) := by decide +kernel
theorem dX0_has_29 : decode cX0_has 29 = .ok (.iconst 1, 1) := by decide +kernel
theorem dX0_has_30 : decode cX0_has 30 = .ok (.ireturn, 1) := by decide +kernel
theorem dX0_has_31 : decode cX0_has 31 = .ok (.iinc 2 1, 3) := by decide +kernel
theorem dX0_has_34 : decode cX0_has 34 = .ok (.goto (-32), 3) := by decide +kernel
theorem dX0_has_37 : decode cX0_has 37 = .ok (.iconst 0, 1) := by decide +kernel
theorem dX0_has_38 : decode cX0_has 38 = .ok (.ireturn, 1) := by decide +kernel
theorem dX0_add_0 : decode cX0_add 0 = .ok (.aload_n 0, 1) := by decide +kernel
theorem dX0_add_1 : decode cX0_add 1 = .ok (.getfield 13, 3) := by decide +kernel
theorem dX0_add_4 : decode cX0_add 4 = .ok (.aload_n 0, 1) := by decide +kernel
theorem dX0_add_5 : decode cX0_add 5 = .ok (.getfield 9, 3) := by decide +kernel
theorem dX0_add_8 : decode cX0_add 8 = .ok (.arraylength, 1) := by decide +kernel
theorem dX0_add_9 : decode cX0_add 9 = .ok (.if_icmp .ge 23, 3) := by decide +kernel
theorem dX0_add_12 : decode cX0_add 12 = .ok (.aload_n 0, 1) := by decide +kernel
theorem dX0_add_13 : decode cX0_add 13 = .ok (.getfield 9, 3) := by decide +kernel
theorem dX0_add_16 : decode cX0_add 16 = .ok (.aload_n 0, 1) := by decide +kernel
theorem dX0_add_17 : decode cX0_add 17 = .ok (.getfield 13, 3) := by decide +kernel
theorem dX0_add_20 : decode cX0_add 20 = .ok (.iload_n 1, 1) := by decide +kernel
theorem dX0_add_21 : decode cX0_add 21 = .ok (.iastore, 1) := by decide +kernel
theorem dX0_add_22 : decode cX0_add 22 = .ok (.aload_n 0, 1) := by decide +kernel
theorem dX0_add_23 : decode cX0_add 23 = .ok (.dup, 1) := by decide +kernel
theorem dX0_add_24 : decode cX0_add 24 = .ok (.getfield 13, 3) := by decide +kernel
theorem dX0_add_27 : decode cX0_add 27 = .ok (.iconst 1, 1) := by decide +kernel
theorem dX0_add_28 : decode cX0_add 28 = .ok (.iadd, 1) := by decide +kernel
theorem dX0_add_29 : decode cX0_add 29 = .ok (.putfield 13, 3) := by decide +kernel
theorem dX0_add_32 : decode cX0_add 32 = .ok (.return_, 1) := by decide +kernel
theorem dX0_forgetAll_0 : decode cX0_forgetAll 0 = .ok (.aload_n 0, 1) := by decide +kernel
theorem dX0_forgetAll_1 : decode cX0_forgetAll 1 = .ok (.iconst 0, 1) := by decide +kernel
theorem dX0_forgetAll_2 : decode cX0_forgetAll 2 = .ok (.putfield 13, 3) := by decide +kernel
theorem dX0_forgetAll_5 : decode cX0_forgetAll 5 = .ok (.return_, 1) := by decide +kernel
theorem dX1_init_0 : decode cX1_init 0 = .ok (.aload_n 0, 1) := by decide +kernel
theorem dX1_init_1 : decode cX1_init 1 = .ok (.invokespecial 3, 3) := by decide +kernel
theorem dX1_init_4 : decode cX1_init 4 = .ok (.aload_n 0, 1) := by decide +kernel
theorem dX1_init_5 : decode cX1_init 5 = .ok (.iload_n 1, 1) := by decide +kernel
theorem dX1_init_6 : decode cX1_init 6 = .ok (.putfield 9, 3) := by decide +kernel
theorem dX1_init_9 : decode cX1_init 9 = .ok (.aload_n 0, 1) := by decide +kernel
theorem dX1_init_10 : decode cX1_init 10 = .ok (.iload_n 2, 1) := by decide +kernel
theorem dX1_init_11 : decode cX1_init 11 = .ok (.putfield 15, 3) := by decide +kernel
theorem dX1_init_14 : decode cX1_init 14 = .ok (.aload_n 0, 1) := by decide +kernel
theorem dX1_init_15 : decode cX1_init 15 = .ok (.iload_n 3, 1) := by decide +kernel
theorem dX1_init_16 : decode cX1_init 16 = .ok (.putfield 18, 3) := by decide +kernel
theorem dX1_init_19 : decode cX1_init 19 = .ok (.aload_n 0, 1) := by decide +kernel
theorem dX1_init_20 : decode cX1_init 20 = .ok (.lload 4, 2) := by decide +kernel
theorem dX1_init_22 : decode cX1_init 22 = .ok (.putfield 21, 3) := by decide +kernel
theorem dX1_init_25 : decode cX1_init 25 = .ok (.return_, 1) := by decide +kernel
theorem dX1_needsRole_0 : decode cX1_needsRole 0 = .ok (.aload_n 0, 1) := by decide +kernel
theorem dX1_needsRole_1 : decode cX1_needsRole 1 = .ok (.getfield 9, 3) := by decide +kernel
theorem dX1_needsRole_4 : decode cX1_needsRole 4 = .ok (.bipush 10, 2) := by decide +kernel
theorem dX1_needsRole_6 : decode cX1_needsRole 6 = .ok (.if_icmp .le 7, 3) := by decide +kernel
theorem dX1_needsRole_9 : decode cX1_needsRole 9 = .ok (.iconst 1, 1) := by decide +kernel
theorem dX1_needsRole_10 : decode cX1_needsRole 10 = .ok (.goto 4, 3) := by decide +kernel
theorem dX1_needsRole_13 : decode cX1_needsRole 13 = .ok (.iconst 0, 1) := by decide +kernel
theorem dX1_needsRole_14 : decode cX1_needsRole 14 = .ok (.ireturn, 1) := by decide +kernel
theorem dX1_isForSession_0 : decode cX1_isForSession 0 = .ok (.iload_n 1, 1) := by decide +kernel
theorem dX1_isForSession_1 : decode cX1_isForSession 1 = .ok (.iconst 3, 1) := by decide +kernel
theorem dX1_isForSession_2 : decode cX1_isForSession 2 = .ok (.if_icmp .eq 17, 3) := by decide +kernel
theorem dX1_isForSession_5 : decode cX1_isForSession 5 = .ok (.iload_n 1, 1) := by decide +kernel
theorem dX1_isForSession_6 : decode cX1_isForSession 6 = .ok (.iconst 2, 1) := by decide +kernel
theorem dX1_isForSession_7 : decode cX1_isForSession 7 = .ok (.if_icmp .ne 16, 3) := by decide +kernel
theorem dX1_isForSession_10 : decode cX1_isForSession 10 = .ok (.aload_n 0, 1) := by decide +kernel
theorem dX1_isForSession_11 : decode cX1_isForSession 11 = .ok (.getfield 9, 3) := by decide +kernel
theorem dX1_isForSession_14 : decode cX1_isForSession 14 = .ok (.bipush 10, 2) := by decide +kernel
theorem dX1_isForSession_16 : decode cX1_isForSession 16 = .ok (.if_icmp .gt 7, 3) := by decide +kernel
theorem dX1_isForSession_19 : decode cX1_isForSession 19 = .ok (.iconst 1, 1) := by decide +kernel
theorem dX1_isForSession_20 : decode cX1_isForSession 20 = .ok (.goto 4, 3) := by decide +kernel
theorem dX1_isForSession_23 : decode cX1_isForSession 23 = .ok (.iconst 0, 1) := by decide +kernel
theorem dX1_isForSession_24 : decode cX1_isForSession 24 = .ok (.ireturn, 1) := by decide +kernel
set_option maxRecDepth 20000 in
theorem ggX1_keyTo_X1_shiftedKeyTo : GoodIn wsX1_keyTo wsX1_shiftedKeyTo := goodIn_r _ [9, 4, 10, 11, 12, 13, 14] (by decide +kernel) (by decide +kernel)
set_option maxRecDepth 20000 in
theorem gX1_keyTo_X1_shiftedKeyTo : GoodIn wsX1_keyTo (wsV RX1 27 RX1 yX1_shiftedKeyTo wsX1_shiftedKeyTo) := goodIn_app (goodIn_of _ (by decide +kernel)) ggX1_keyTo_X1_shiftedKeyTo
theorem dX1_keyTo_0 : decode cX1_keyTo 0 = .ok (.aload_n 0, 1) := by decide +kernel
theorem dX1_keyTo_1 : decode cX1_keyTo 1 = .ok (.getfield 15, 3) := by decide +kernel
theorem dX1_keyTo_4 : decode cX1_keyTo 4 = .ok (.ifCond .ne 8, 3) := by decide +kernel
theorem dX1_keyTo_7 : decode cX1_keyTo 7 = .ok (.iload_n 1, 1) := by decide +kernel
theorem dX1_keyTo_8 : decode cX1_keyTo 8 = .ok (.ldc 25, 2) := by decide +kernel
theorem dX1_keyTo_10 : decode cX1_keyTo 10 = .ok (.ixor, 1) := by decide +kernel
theorem dX1_keyTo_11 : decode cX1_keyTo 11 = .ok (.ireturn, 1) := by decide +kernel
theorem dX1_keyTo_12 : decode cX1_keyTo 12 = .ok (.aload_n 0, 1) := by decide +kernel
theorem dX1_keyTo_13 : decode cX1_keyTo 13 = .ok (.getfield 15, 3) := by decide +kernel
theorem dX1_keyTo_16 : decode cX1_keyTo 16 = .ok (.iconst 1, 1) := by decide +kernel
theorem dX1_keyTo_17 : decode cX1_keyTo 17 = .ok (.if_icmp .ne 21, 3) := by decide +kernel
theorem dX1_keyTo_20 : decode cX1_keyTo 20 = .ok (.iload_n 1, 1) := by decide +kernel
theorem dX1_keyTo_21 : decode cX1_keyTo 21 = .ok (.bipush 7, 2) := by decide +kernel
theorem dX1_keyTo_23 : decode cX1_keyTo 23 = .ok (.ishl, 1) := by decide +kernel
theorem dX1_keyTo_24 : decode cX1_keyTo 24 = .ok (.iload_n 1, 1) := by decide +kernel
theorem dX1_keyTo_25 : decode cX1_keyTo 25 = .ok (.bipush 25, 2) := by decide +kernel
theorem dX1_keyTo_27 : decode cX1_keyTo 27 = .ok (.iushr, 1) := by decide +kernel
theorem dX1_keyTo_28 : decode cX1_keyTo 28 = .ok (.ior, 1) := by decide +kernel
theorem dX1_keyTo_29 : decode cX1_keyTo 29 = .ok (.ldc 26, 2) := by decide +kernel
theorem dX1_keyTo_31 : decode cX1_keyTo 31 = .ok (.imul, 1) := by decide +kernel
theorem dX1_keyTo_32 : decode cX1_keyTo 32 = .ok (.aload_n 0, 1) := by decide +kernel
theorem dX1_keyTo_33 : decode cX1_keyTo 33 = .ok (.getfield 9, 3) := by decide +kernel
theorem dX1_keyTo_36 : decode cX1_keyTo 36 = .ok (.iadd, 1) := by decide +kernel
theorem dX1_keyTo_37 : decode cX1_keyTo 37 = .ok (.ireturn, 1) := by decide +kernel
theorem dX1_keyTo_38 : decode cX1_keyTo 38 = .ok (.aload_n 0, 1) := by decide +kernel
theorem dX1_keyTo_39 : decode cX1_keyTo 39 = .ok (.iload_n 1, 1) := by decide +kernel
theorem dX1_keyTo_40 : decode cX1_keyTo 40 = .ok (.invokevirtual 27, 3) := by decide +kernel
theorem dX1_keyTo_43 : decode cX1_keyTo 43 = .ok (.ireturn, 1) := by decide +kernel
theorem dX1_shiftedKeyTo_0 : decode cX1_shiftedKeyTo 0 = .ok (.iload_n 1, 1) := by decide +kernel
theorem dX1_shiftedKeyTo_1 : decode cX1_shiftedKeyTo 1 = .ok (.aload_n 0, 1) := by decide +kernel
theorem dX1_shiftedKeyTo_2 : decode cX1_shiftedKeyTo 2 = .ok (.getfield 9, 3) := by decide +kernel
theorem dX1_shiftedKeyTo_5 : decode cX1_shiftedKeyTo 5 = .ok (.ixor, 1) := by decide +kernel
theorem dX1_shiftedKeyTo_6 : decode cX1_shiftedKeyTo 6 = .ok (.istore_n 2, 1) := by decide +kernel
theorem dX1_shiftedKeyTo_7 : decode cX1_shiftedKeyTo 7 = .ok (.iconst 0, 1) := by decide +kernel
theorem dX1_shiftedKeyTo_8 : decode cX1_shiftedKeyTo 8 = .ok (.istore_n 3, 1) := by decide +kernel
theorem dX1_shiftedKeyTo_9 : decode cX1_shiftedKeyTo 9 = .ok (.iload_n 3, 1) := by decide +kernel
theorem dX1_shiftedKeyTo_10 : decode cX1_shiftedKeyTo 10 = .ok (.bipush 32, 2) := by decide +kernel
theorem dX1_shiftedKeyTo_12 : decode cX1_shiftedKeyTo 12 = .ok (.if_icmp .ge 37, 3) := by decide +kernel
theorem dX1_shiftedKeyTo_15 : decode cX1_shiftedKeyTo 15 = .ok (.iload_n 2, 1) := by decide +kernel
theorem dX1_shiftedKeyTo_16 : decode cX1_shiftedKeyTo 16 = .ok (.iconst 1, 1) := by decide +kernel
theorem dX1_shiftedKeyTo_17 : decode cX1_shiftedKeyTo 17 = .ok (.iand, 1) := by decide +kernel
theorem dX1_shiftedKeyTo_18 : decode cX1_shiftedKeyTo 18 = .ok (.iconst 1, 1) := by decide +kernel
theorem dX1_shiftedKeyTo_19 : decode cX1_shiftedKeyTo 19 = .ok (.if_icmp .ne 7, 3) := by decide +kernel
theorem dX1_shiftedKeyTo_22 : decode cX1_shiftedKeyTo 22 = .ok (.iconst 1, 1) := by decide +kernel
theorem dX1_shiftedKeyTo_23 : decode cX1_shiftedKeyTo 23 = .ok (.goto 4, 3) := by decide +kernel
theorem dX1_shiftedKeyTo_26 : decode cX1_shiftedKeyTo 26 = .ok (.iconst 0, 1) := by decide +kernel
theorem dX1_shiftedKeyTo_27 : decode cX1_shiftedKeyTo 27 = .ok (.istore 4, 2) := by decide +kernel
theorem dX1_shiftedKeyTo_29 : decode cX1_shiftedKeyTo 29 = .ok (.iload_n 2, 1) := by decide +kernel
theorem dX1_shiftedKeyTo_30 : decode cX1_shiftedKeyTo 30 = .ok (.iconst 1, 1) := by decide +kernel
theorem dX1_shiftedKeyTo_31 : decode cX1_shiftedKeyTo 31 = .ok (.iushr, 1) := by decide +kernel
theorem dX1_shiftedKeyTo_32 : decode cX1_shiftedKeyTo 32 = .ok (.istore_n 2, 1) := by decide +kernel
theorem dX1_shiftedKeyTo_33 : decode cX1_shiftedKeyTo 33 = .ok (.iload 4, 2) := by decide +kernel
theorem dX1_shiftedKeyTo_35 : decode cX1_shiftedKeyTo 35 = .ok (.ifCond .eq 8, 3) := by decide +kernel
theorem dX1_shiftedKeyTo_38 : decode cX1_shiftedKeyTo 38 = .ok (.iload_n 2, 1) := by decide +kernel
theorem dX1_shiftedKeyTo_39 : decode cX1_shiftedKeyTo 39 = .ok (.ldc 31, 2) := by decide +kernel
theorem dX1_shiftedKeyTo_41 : decode cX1_shiftedKeyTo 41 = .ok (.ixor, 1) := by decide +kernel
theorem dX1_shiftedKeyTo_42 : decode cX1_shiftedKeyTo 42 = .ok (.istore_n 2, 1) := by decide +kernel
theorem dX1_shiftedKeyTo_43 : decode cX1_shiftedKeyTo 43 = .ok (.iinc 3 1, 3) := by decide +kernel
theorem dX1_shiftedKeyTo_46 : decode cX1_shiftedKeyTo 46 = .ok (.goto (-37), 3) := by decide +kernel
theorem dX1_shiftedKeyTo_49 : decode cX1_shiftedKeyTo 49 = .ok (.iload_n 2, 1) := by decide +kernel
theorem dX1_shiftedKeyTo_50 : decode cX1_shiftedKeyTo 50 = .ok (.ireturn, 1) := by decide +kernel
theorem dX2_init_0 : decode cX2_init 0 = .ok (.aload_n 0, 1) := by decide +kernel
theorem dX2_init_1 : decode cX2_init 1 = .ok (.invokespecial 3, 3) := by decide +kernel
theorem dX2_init_4 : decode cX2_init 4 = .ok (.aload_n 0, 1) := by decide +kernel
theorem dX2_init_5 : decode cX2_init 5 = .ok (.sipush 200, 3) := by decide +kernel
theorem dX2_init_8 : decode cX2_init 8 = .ok (.newarray .int, 2) := by decide +kernel
theorem dX2_init_10 : decode cX2_init 10 = .ok (.putfield 11, 3) := by decide +kernel
theorem dX2_init_13 : decode cX2_init 13 = .ok (.return_, 1) := by decide +kernel
theorem dX2_add_0 : decode cX2_add 0 = .ok (.aload_n 0, 1) := by decide +kernel
theorem dX2_add_1 : decode cX2_add 1 = .ok (.getfield 15, 3) := by decide +kernel
theorem dX2_add_4 : decode cX2_add 4 = .ok (.aload_n 0, 1) := by decide +kernel
theorem dX2_add_5 : decode cX2_add 5 = .ok (.getfield 11, 3) := by decide +kernel
theorem dX2_add_8 : decode cX2_add 8 = .ok (.arraylength, 1) := by decide +kernel
theorem dX2_add_9 : decode cX2_add 9 = .ok (.if_icmp .lt 4, 3) := by decide +kernel
theorem dX2_add_12 : decode cX2_add 12 = .ok (.return_, 1) := by decide +kernel
theorem dX2_add_13 : decode cX2_add 13 = .ok (.aload_n 0, 1) := by decide +kernel
theorem dX2_add_14 : decode cX2_add 14 = .ok (.getfield 19, 3) := by decide +kernel
theorem dX2_add_17 : decode cX2_add 17 = .ok (.aload_n 0, 1) := by decide +kernel
theorem dX2_add_18 : decode cX2_add 18 = .ok (.getfield 15, 3) := by decide +kernel
theorem dX2_add_21 : decode cX2_add 21 = .ok (.iadd, 1) := by decide +kernel
theorem dX2_add_22 : decode cX2_add 22 = .ok (.istore_n 2, 1) := by decide +kernel
theorem dX2_add_23 : decode cX2_add 23 = .ok (.iload_n 2, 1) := by decide +kernel
theorem dX2_add_24 : decode cX2_add 24 = .ok (.aload_n 0, 1) := by decide +kernel
theorem dX2_add_25 : decode cX2_add 25 = .ok (.getfield 11, 3) := by decide +kernel
theorem dX2_add_28 : decode cX2_add 28 = .ok (.arraylength, 1) := by decide +kernel
theorem dX2_add_29 : decode cX2_add 29 = .ok (.if_icmp .lt 11, 3) := by decide +kernel
theorem dX2_add_32 : decode cX2_add 32 = .ok (.iload_n 2, 1) := by decide +kernel
theorem dX2_add_33 : decode cX2_add 33 = .ok (.aload_n 0, 1) := by decide +kernel
theorem dX2_add_34 : decode cX2_add 34 = .ok (.getfield 11, 3) := by decide +kernel
theorem dX2_add_37 : decode cX2_add 37 = .ok (.arraylength, 1) := by decide +kernel
theorem dX2_add_38 : decode cX2_add 38 = .ok (.isub, 1) := by decide +kernel
theorem dX2_add_39 : decode cX2_add 39 = .ok (.istore_n 2, 1) := by decide +kernel
theorem dX2_add_40 : decode cX2_add 40 = .ok (.aload_n 0, 1) := by decide +kernel
theorem dX2_add_41 : decode cX2_add 41 = .ok (.getfield 11, 3) := by decide +kernel
theorem dX2_add_44 : decode cX2_add 44 = .ok (.iload_n 2, 1) := by decide +kernel
theorem dX2_add_45 : decode cX2_add 45 = .ok (.iload_n 1, 1) := by decide +kernel
theorem dX2_add_46 : decode cX2_add 46 = .ok (.iastore, 1) := by decide +kernel
theorem dX2_add_47 : decode cX2_add 47 = .ok (.aload_n 0, 1) := by decide +kernel
theorem dX2_add_48 : decode cX2_add 48 = .ok (.dup, 1) := by decide +kernel
theorem dX2_add_49 : decode cX2_add 49 = .ok (.getfield 15, 3) := by decide +kernel
theorem dX2_add_52 : decode cX2_add 52 = .ok (.iconst 1, 1) := by decide +kernel
theorem dX2_add_53 : decode cX2_add 53 = .ok (.iadd, 1) := by decide +kernel
theorem dX2_add_54 : decode cX2_add 54 = .ok (.putfield 15, 3) := by decide +kernel
theorem dX2_add_57 : decode cX2_add 57 = .ok (.return_, 1) := by decide +kernel
set_option maxRecDepth 20000 in
theorem ggX2_takeSeed_X2_takeFirst : GoodIn wsX2_takeSeed wsX2_takeFirst := goodIn_ca (goodIn_r _ [6, 7, 8, 1, 20, 21, 22] (by decide +kernel) (by decide +kernel)) (goodIn_sub (fun _ h => List.mem_cons_of_mem _ (List.mem_append_right _ h)) (by decide +kernel))
set_option maxRecDepth 20000 in
theorem gX2_takeSeed_X2_takeFirst : GoodIn wsX2_takeSeed (wsV RX2 22 RX2 yX2_takeFirst wsX2_takeFirst) := goodIn_app (goodIn_of _ (by decide +kernel)) ggX2_takeSeed_X2_takeFirst
set_option maxRecDepth 20000 in
theorem ggX2_takeSeed_X5_isPlain : GoodIn wsX2_takeSeed wsX5_isPlain := goodIn_r _ [11, 12] (by decide +kernel) (by decide +kernel)
set_option maxRecDepth 20000 in
theorem gX2_takeSeed_X5_isPlain_n26 : GoodIn wsX2_takeSeed (wsX5_isPlain) := ggX2_takeSeed_X5_isPlain
set_option maxRecDepth 20000 in
theorem ggX2_takeSeed_X0_has : GoodIn wsX2_takeSeed wsX0_has := goodIn_ca (goodIn_r _ [17, 18, 19, 23, 24] (by decide +kernel) (by decide +kernel)) (goodIn_sub (fun _ h => List.mem_cons_of_mem _ (List.mem_append_right _ h)) (by decide +kernel))
set_option maxRecDepth 20000 in
theorem gX2_takeSeed_X0_has : GoodIn wsX2_takeSeed (wsV RX2 30 RX0 yX0_has wsX0_has) := goodIn_app (goodIn_of _ (by decide +kernel)) ggX2_takeSeed_X0_has
theorem dX2_takeSeed_0 : decode cX2_takeSeed 0 = .ok (.aload_n 0, 1) := by decide +kernel
theorem dX2_takeSeed_1 : decode cX2_takeSeed 1 = .ok (.getfield 15, 3) := by decide +kernel
theorem dX2_takeSeed_4 : decode cX2_takeSeed 4 = .ok (.istore_n 2, 1) := by decide +kernel
theorem dX2_takeSeed_5 : decode cX2_takeSeed 5 = .ok (.iload_n 2, 1) := by decide +kernel
theorem dX2_takeSeed_6 : decode cX2_takeSeed 6 = .ok (.ifCond .le 31, 3) := by decide +kernel
theorem dX2_takeSeed_9 : decode cX2_takeSeed 9 = .ok (.aload_n 0, 1) := by decide +kernel
theorem dX2_takeSeed_10 : decode cX2_takeSeed 10 = .ok (.invokevirtual 22, 3) := by decide +kernel
theorem dX2_takeSeed_13 : decode cX2_takeSeed 13 = .ok (.istore_n 3, 1) := by decide +kernel
theorem dX2_takeSeed_14 : decode cX2_takeSeed 14 = .ok (.iload_n 3, 1) := by decide +kernel
theorem dX2_takeSeed_15 : decode cX2_takeSeed 15 = .ok (.invokestatic 26, 3) := by decide +kernel
theorem dX2_takeSeed_18 : decode cX2_takeSeed 18 = .ok (.ifCond .ne 13, 3) := by decide +kernel
theorem dX2_takeSeed_21 : decode cX2_takeSeed 21 = .ok (.aload_n 1, 1) := by decide +kernel
theorem dX2_takeSeed_22 : decode cX2_takeSeed 22 = .ok (.iload_n 3, 1) := by decide +kernel
theorem dX2_takeSeed_23 : decode cX2_takeSeed 23 = .ok (.invokevirtual 30, 3) := by decide +kernel
theorem dX2_takeSeed_26 : decode cX2_takeSeed 26 = .ok (.ifCond .ne 5, 3) := by decide +kernel
theorem dX2_takeSeed_29 : decode cX2_takeSeed 29 = .ok (.iload_n 3, 1) := by decide +kernel
theorem dX2_takeSeed_30 : decode cX2_takeSeed 30 = .ok (.ireturn, 1) := by decide +kernel
theorem dX2_takeSeed_31 : decode cX2_takeSeed 31 = .ok (.iinc 2 (-1), 3) := by decide +kernel
theorem dX2_takeSeed_34 : decode cX2_takeSeed 34 = .ok (.goto (-29), 3) := by decide +kernel
theorem dX2_takeSeed_37 : decode cX2_takeSeed 37 = .ok (.iconst 0, 1) := by decide +kernel
theorem dX2_takeSeed_38 : decode cX2_takeSeed 38 = .ok (.ireturn, 1) := by decide +kernel
theorem dX2_takeFirst_0 : decode cX2_takeFirst 0 = .ok (.aload_n 0, 1) := by decide +kernel
theorem dX2_takeFirst_1 : decode cX2_takeFirst 1 = .ok (.getfield 19, 3) := by decide +kernel
theorem dX2_takeFirst_4 : decode cX2_takeFirst 4 = .ok (.aload_n 0, 1) := by decide +kernel
theorem dX2_takeFirst_5 : decode cX2_takeFirst 5 = .ok (.getfield 11, 3) := by decide +kernel
theorem dX2_takeFirst_8 : decode cX2_takeFirst 8 = .ok (.arraylength, 1) := by decide +kernel
theorem dX2_takeFirst_9 : decode cX2_takeFirst 9 = .ok (.if_icmp .lt 8, 3) := by decide +kernel
theorem dX2_takeFirst_12 : decode cX2_takeFirst 12 = .ok (.aload_n 0, 1) := by decide +kernel
theorem dX2_takeFirst_13 : decode cX2_takeFirst 13 = .ok (.iconst 0, 1) := by decide +kernel
theorem dX2_takeFirst_14 : decode cX2_takeFirst 14 = .ok (.putfield 19, 3) := by decide +kernel
theorem dX2_takeFirst_17 : decode cX2_takeFirst 17 = .ok (.aload_n 0, 1) := by decide +kernel
theorem dX2_takeFirst_18 : decode cX2_takeFirst 18 = .ok (.getfield 11, 3) := by decide +kernel
theorem dX2_takeFirst_21 : decode cX2_takeFirst 21 = .ok (.aload_n 0, 1) := by decide +kernel
theorem dX2_takeFirst_22 : decode cX2_takeFirst 22 = .ok (.getfield 19, 3) := by decide +kernel
theorem dX2_takeFirst_25 : decode cX2_takeFirst 25 = .ok (.iaload, 1) := by decide +kernel
theorem dX2_takeFirst_26 : decode cX2_takeFirst 26 = .ok (.istore_n 1, 1) := by decide +kernel
theorem dX2_takeFirst_27 : decode cX2_takeFirst 27 = .ok (.aload_n 0, 1) := by decide +kernel
theorem dX2_takeFirst_28 : decode cX2_takeFirst 28 = .ok (.dup, 1) := by decide +kernel
theorem dX2_takeFirst_29 : decode cX2_takeFirst 29 = .ok (.getfield 19, 3) := by decide +kernel
theorem dX2_takeFirst_32 : decode cX2_takeFirst 32 = .ok (.iconst 1, 1) := by decide +kernel
theorem dX2_takeFirst_33 : decode cX2_takeFirst 33 = .ok (.iadd, 1) := by decide +kernel
theorem dX2_takeFirst_34 : decode cX2_takeFirst 34 = .ok (.putfield 19, 3) := by decide +kernel
theorem dX2_takeFirst_37 : decode cX2_takeFirst 37 = .ok (.aload_n 0, 1) := by decide +kernel
theorem dX2_takeFirst_38 : decode cX2_takeFirst 38 = .ok (.dup, 1) := by decide +kernel
theorem dX2_takeFirst_39 : decode cX2_takeFirst 39 = .ok (.getfield 15, 3) := by decide +kernel
theorem dX2_takeFirst_42 : decode cX2_takeFirst 42 = .ok (.iconst 1, 1) := by decide +kernel
theorem dX2_takeFirst_43 : decode cX2_takeFirst 43 = .ok (.isub, 1) := by decide +kernel
theorem dX2_takeFirst_44 : decode cX2_takeFirst 44 = .ok (.putfield 15, 3) := by decide +kernel
theorem dX2_takeFirst_47 : decode cX2_takeFirst 47 = .ok (.iload_n 1, 1) := by decide +kernel
theorem dX2_takeFirst_48 : decode cX2_takeFirst 48 = .ok (.ireturn, 1) := by decide +kernel
set_option maxRecDepth 20000 in
theorem ggX3_init_J7_fill_d0a16 : GoodIn wsX3_init wsJ7_fill_d0a16 := goodIn_r _ [17] (by decide +kernel) (by decide +kernel)
set_option maxRecDepth 20000 in
theorem gX3_init_J7_fill_d0a16 : GoodIn wsX3_init (va_wsS RX3 38 yJ7_fill_d0a16 wsJ7_fill_d0a16) := goodIn_app (goodIn_of _ (by decide +kernel)) ggX3_init_J7_fill_d0a16
theorem dX3_init_0 : decode cX3_init 0 = .ok (.aload_n 0, 1) := by decide +kernel
theorem dX3_init_1 : decode cX3_init 1 = .ok (.invokespecial 3, 3) := by decide +kernel
theorem dX3_init_4 : decode cX3_init 4 = .ok (.aload_n 0, 1) := by decide +kernel
theorem dX3_init_5 : decode cX3_init 5 = .ok (.iconst 1, 1) := by decide +kernel
theorem dX3_init_6 : decode cX3_init 6 = .ok (.putfield 9, 3) := by decide +kernel
theorem dX3_init_9 : decode cX3_init 9 = .ok (.aload_n 0, 1) := by decide +kernel
theorem dX3_init_10 : decode cX3_init 10 = .ok (.ldc2_w 15, 3) := by decide +kernel
theorem dX3_init_13 : decode cX3_init 13 = .ok (.putfield 17, 3) := by decide +kernel
theorem dX3_init_16 : decode cX3_init 16 = .ok (.aload_n 0, 1) := by decide +kernel
theorem dX3_init_17 : decode cX3_init 17 = .ok (.iconst 0, 1) := by decide +kernel
theorem dX3_init_18 : decode cX3_init 18 = .ok (.putfield 21, 3) := by decide +kernel
theorem dX3_init_21 : decode cX3_init 21 = .ok (.aload_n 0, 1) := by decide +kernel
theorem dX3_init_22 : decode cX3_init 22 = .ok (.iconst 0, 1) := by decide +kernel
theorem dX3_init_23 : decode cX3_init 23 = .ok (.putfield 24, 3) := by decide +kernel
theorem dX3_init_26 : decode cX3_init 26 = .ok (.aload_n 0, 1) := by decide +kernel
theorem dX3_init_27 : decode cX3_init 27 = .ok (.bipush 21, 2) := by decide +kernel
theorem dX3_init_29 : decode cX3_init 29 = .ok (.newarray .int, 2) := by decide +kernel
theorem dX3_init_31 : decode cX3_init 31 = .ok (.putfield 27, 3) := by decide +kernel
theorem dX3_init_34 : decode cX3_init 34 = .ok (.aload_n 0, 1) := by decide +kernel
theorem dX3_init_35 : decode cX3_init 35 = .ok (.bipush 21, 2) := by decide +kernel
theorem dX3_init_37 : decode cX3_init 37 = .ok (.newarray .long, 2) := by decide +kernel
theorem dX3_init_39 : decode cX3_init 39 = .ok (.putfield 31, 3) := by decide +kernel
theorem dX3_init_42 : decode cX3_init 42 = .ok (.aload_n 0, 1) := by decide +kernel
theorem dX3_init_43 : decode cX3_init 43 = .ok (.iload_n 1, 1) := by decide +kernel
theorem dX3_init_44 : decode cX3_init 44 = .ok (.putfield 35, 3) := by decide +kernel
theorem dX3_init_47 : decode cX3_init 47 = .ok (.aload_n 0, 1) := by decide +kernel
theorem dX3_init_48 : decode cX3_init 48 = .ok (.getfield 31, 3) := by decide +kernel
theorem dX3_init_51 : decode cX3_init 51 = .ok (.ldc2_w 15, 3) := by decide +kernel
theorem dX3_init_54 : decode cX3_init 54 = .ok (.invokestatic 38, 3) := by decide +kernel
theorem dX3_init_57 : decode cX3_init 57 = .ok (.return_, 1) := by decide +kernel
theorem dX3_startSession_0 : decode cX3_startSession 0 = .ok (.aload_n 0, 1) := by decide +kernel
theorem dX3_startSession_1 : decode cX3_startSession 1 = .ok (.iload_n 1, 1) := by decide +kernel
theorem dX3_startSession_2 : decode cX3_startSession 2 = .ok (.putfield 9, 3) := by decide +kernel
theorem dX3_startSession_5 : decode cX3_startSession 5 = .ok (.aload_n 0, 1) := by decide +kernel
theorem dX3_startSession_6 : decode cX3_startSession 6 = .ok (.iconst 0, 1) := by decide +kernel
theorem dX3_startSession_7 : decode cX3_startSession 7 = .ok (.putfield 24, 3) := by decide +kernel
theorem dX3_startSession_10 : decode cX3_startSession 10 = .ok (.aload_n 0, 1) := by decide +kernel
theorem dX3_startSession_11 : decode cX3_startSession 11 = .ok (.iconst 0, 1) := by decide +kernel
theorem dX3_startSession_12 : decode cX3_startSession 12 = .ok (.putfield 21, 3) := by decide +kernel
theorem dX3_startSession_15 : decode cX3_startSession 15 = .ok (.aload_n 0, 1) := by decide +kernel
theorem dX3_startSession_16 : decode cX3_startSession 16 = .ok (.ldc2_w 15, 3) := by decide +kernel
theorem dX3_startSession_19 : decode cX3_startSession 19 = .ok (.putfield 17, 3) := by decide +kernel
theorem dX3_startSession_22 : decode cX3_startSession 22 = .ok (.return_, 1) := by decide +kernel
theorem dX3_awaitKey_0 : decode cX3_awaitKey 0 = .ok (.aload_n 0, 1) := by decide +kernel
theorem dX3_awaitKey_1 : decode cX3_awaitKey 1 = .ok (.iload_n 2, 1) := by decide +kernel
theorem dX3_awaitKey_2 : decode cX3_awaitKey 2 = .ok (.putfield 44, 3) := by decide +kernel
theorem dX3_awaitKey_5 : decode cX3_awaitKey 5 = .ok (.aload_n 0, 1) := by decide +kernel
theorem dX3_awaitKey_6 : decode cX3_awaitKey 6 = .ok (.iload_n 1, 1) := by decide +kernel
theorem dX3_awaitKey_7 : decode cX3_awaitKey 7 = .ok (.putfield 24, 3) := by decide +kernel
theorem dX3_awaitKey_10 : decode cX3_awaitKey 10 = .ok (.aload_n 0, 1) := by decide +kernel
theorem dX3_awaitKey_11 : decode cX3_awaitKey 11 = .ok (.iload_n 2, 1) := by decide +kernel
theorem dX3_awaitKey_12 : decode cX3_awaitKey 12 = .ok (.putfield 47, 3) := by decide +kernel
theorem dX3_awaitKey_15 : decode cX3_awaitKey 15 = .ok (.return_, 1) := by decide +kernel
theorem dX3_addOctet_0 : decode cX3_addOctet 0 = .ok (.aload_n 0, 1) := by decide +kernel
theorem dX3_addOctet_1 : decode cX3_addOctet 1 = .ok (.getfield 50, 3) := by decide +kernel
theorem dX3_addOctet_4 : decode cX3_addOctet 4 = .ok (.iconst 4, 1) := by decide +kernel
theorem dX3_addOctet_5 : decode cX3_addOctet 5 = .ok (.if_icmp .gt 13, 3) := by decide +kernel
theorem dX3_addOctet_8 : decode cX3_addOctet 8 = .ok (.aload_n 0, 1) := by decide +kernel
theorem dX3_addOctet_9 : decode cX3_addOctet 9 = .ok (.dup, 1) := by decide +kernel
theorem dX3_addOctet_10 : decode cX3_addOctet 10 = .ok (.getfield 50, 3) := by decide +kernel
theorem dX3_addOctet_13 : decode cX3_addOctet 13 = .ok (.iconst 1, 1) := by decide +kernel
theorem dX3_addOctet_14 : decode cX3_addOctet 14 = .ok (.iadd, 1) := by decide +kernel
theorem dX3_addOctet_15 : decode cX3_addOctet 15 = .ok (.putfield 50, 3) := by decide +kernel
theorem dX3_addOctet_18 : decode cX3_addOctet 18 = .ok (.aload_n 0, 1) := by decide +kernel
theorem dX3_addOctet_19 : decode cX3_addOctet 19 = .ok (.aload_n 0, 1) := by decide +kernel
theorem dX3_addOctet_20 : decode cX3_addOctet 20 = .ok (.getfield 53, 3) := by decide +kernel
theorem dX3_addOctet_23 : decode cX3_addOctet 23 = .ok (.bipush 8, 2) := by decide +kernel
theorem dX3_addOctet_25 : decode cX3_addOctet 25 = .ok (.ishl, 1) := by decide +kernel
theorem dX3_addOctet_26 : decode cX3_addOctet 26 = .ok (.iload_n 1, 1) := by decide +kernel
theorem dX3_addOctet_27 : decode cX3_addOctet 27 = .ok (.sipush 255, 3) := by decide +kernel
theorem dX3_addOctet_30 : decode cX3_addOctet 30 = .ok (.iand, 1) := by decide +kernel
theorem dX3_addOctet_31 : decode cX3_addOctet 31 = .ok (.ior, 1) := by decide +kernel
theorem dX3_addOctet_32 : decode cX3_addOctet 32 = .ok (.putfield 53, 3) := by decide +kernel
theorem dX3_addOctet_35 : decode cX3_addOctet 35 = .ok (.return_, 1) := by decide +kernel
theorem dX3_dropOctets_0 : decode cX3_dropOctets 0 = .ok (.aload_n 0, 1) := by decide +kernel
theorem dX3_dropOctets_1 : decode cX3_dropOctets 1 = .ok (.iconst 0, 1) := by decide +kernel
theorem dX3_dropOctets_2 : decode cX3_dropOctets 2 = .ok (.putfield 50, 3) := by decide +kernel
theorem dX3_dropOctets_5 : decode cX3_dropOctets 5 = .ok (.aload_n 0, 1) := by decide +kernel
theorem dX3_dropOctets_6 : decode cX3_dropOctets 6 = .ok (.iconst 0, 1) := by decide +kernel
theorem dX3_dropOctets_7 : decode cX3_dropOctets 7 = .ok (.putfield 53, 3) := by decide +kernel
theorem dX3_dropOctets_10 : decode cX3_dropOctets 10 = .ok (.return_, 1) := by decide +kernel
theorem dX3_usedTries_0 : decode cX3_usedTries 0 = .ok (.iload_n 1, 1) := by decide +kernel
theorem dX3_usedTries_1 : decode cX3_usedTries 1 = .ok (.ifCond .lt 12, 3) := by decide +kernel
theorem dX3_usedTries_4 : decode cX3_usedTries 4 = .ok (.iload_n 1, 1) := by decide +kernel
theorem dX3_usedTries_5 : decode cX3_usedTries 5 = .ok (.aload_n 0, 1) := by decide +kernel
theorem dX3_usedTries_6 : decode cX3_usedTries 6 = .ok (.getfield 27, 3) := by decide +kernel
theorem dX3_usedTries_9 : decode cX3_usedTries 9 = .ok (.arraylength, 1) := by decide +kernel
theorem dX3_usedTries_10 : decode cX3_usedTries 10 = .ok (.if_icmp .lt 7, 3) := by decide +kernel
theorem dX3_usedTries_13 : decode cX3_usedTries 13 = .ok (.iconst 0, 1) := by decide +kernel
theorem dX3_usedTries_14 : decode cX3_usedTries 14 = .ok (.goto 9, 3) := by decide +kernel
theorem dX3_usedTries_17 : decode cX3_usedTries 17 = .ok (.aload_n 0, 1) := by decide +kernel
theorem dX3_usedTries_18 : decode cX3_usedTries 18 = .ok (.getfield 27, 3) := by decide +kernel
theorem dX3_usedTries_21 : decode cX3_usedTries 21 = .ok (.iload_n 1, 1) := by decide +kernel
theorem dX3_usedTries_22 : decode cX3_usedTries 22 = .ok (.iaload, 1) := by decide +kernel
theorem dX3_usedTries_23 : decode cX3_usedTries 23 = .ok (.ireturn, 1) := by decide +kernel
theorem dX3_setUsedTries_0 : decode cX3_setUsedTries 0 = .ok (.iload_n 1, 1) := by decide +kernel
theorem dX3_setUsedTries_1 : decode cX3_setUsedTries 1 = .ok (.ifCond .lt 19, 3) := by decide +kernel
theorem dX3_setUsedTries_4 : decode cX3_setUsedTries 4 = .ok (.iload_n 1, 1) := by decide +kernel
theorem dX3_setUsedTries_5 : decode cX3_setUsedTries 5 = .ok (.aload_n 0, 1) := by decide +kernel
theorem dX3_setUsedTries_6 : decode cX3_setUsedTries 6 = .ok (.getfield 27, 3) := by decide +kernel
theorem dX3_setUsedTries_9 : decode cX3_setUsedTries 9 = .ok (.arraylength, 1) := by decide +kernel
theorem dX3_setUsedTries_10 : decode cX3_setUsedTries 10 = .ok (.if_icmp .ge 10, 3) := by decide +kernel
theorem dX3_setUsedTries_13 : decode cX3_setUsedTries 13 = .ok (.aload_n 0, 1) := by decide +kernel
theorem dX3_setUsedTries_14 : decode cX3_setUsedTries 14 = .ok (.getfield 27, 3) := by decide +kernel
theorem dX3_setUsedTries_17 : decode cX3_setUsedTries 17 = .ok (.iload_n 1, 1) := by decide +kernel
theorem dX3_setUsedTries_18 : decode cX3_setUsedTries 18 = .ok (.iload_n 2, 1) := by decide +kernel
theorem dX3_setUsedTries_19 : decode cX3_setUsedTries 19 = .ok (.iastore, 1) := by decide +kernel
theorem dX3_setUsedTries_20 : decode cX3_setUsedTries 20 = .ok (.return_, 1) := by decide +kernel
theorem dX3_lockedUntil_0 : decode cX3_lockedUntil 0 = .ok (.iload_n 1, 1) := by decide +kernel
theorem dX3_lockedUntil_1 : decode cX3_lockedUntil 1 = .ok (.ifCond .lt 12, 3) := by decide +kernel
theorem dX3_lockedUntil_4 : decode cX3_lockedUntil 4 = .ok (.iload_n 1, 1) := by decide +kernel
theorem dX3_lockedUntil_5 : decode cX3_lockedUntil 5 = .ok (.aload_n 0, 1) := by decide +kernel
theorem dX3_lockedUntil_6 : decode cX3_lockedUntil 6 = .ok (.getfield 31, 3) := by decide +kernel
theorem dX3_lockedUntil_9 : decode cX3_lockedUntil 9 = .ok (.arraylength, 1) := by decide +kernel
theorem dX3_lockedUntil_10 : decode cX3_lockedUntil 10 = .ok (.if_icmp .lt 9, 3) := by decide +kernel
theorem dX3_lockedUntil_13 : decode cX3_lockedUntil 13 = .ok (.ldc2_w 15, 3) := by decide +kernel
theorem dX3_lockedUntil_16 : decode cX3_lockedUntil 16 = .ok (.goto 9, 3) := by decide +kernel
theorem dX3_lockedUntil_19 : decode cX3_lockedUntil 19 = .ok (.aload_n 0, 1) := by decide +kernel
theorem dX3_lockedUntil_20 : decode cX3_lockedUntil 20 = .ok (.getfield 31, 3) := by decide +kernel
theorem dX3_lockedUntil_23 : decode cX3_lockedUntil 23 = .ok (.iload_n 1, 1) := by decide +kernel
theorem dX3_lockedUntil_24 : decode cX3_lockedUntil 24 = .ok (.laload, 1) := by decide +kernel
theorem dX3_lockedUntil_25 : decode cX3_lockedUntil 25 = .ok (.lreturn, 1) := by decide +kernel
theorem dX3_lock_0 : decode cX3_lock 0 = .ok (.iload_n 1, 1) := by decide +kernel
theorem dX3_lock_1 : decode cX3_lock 1 = .ok (.ifCond .lt 19, 3) := by decide +kernel
theorem dX3_lock_4 : decode cX3_lock 4 = .ok (.iload_n 1, 1) := by decide +kernel
theorem dX3_lock_5 : decode cX3_lock 5 = .ok (.aload_n 0, 1) := by decide +kernel
theorem dX3_lock_6 : decode cX3_lock 6 = .ok (.getfield 31, 3) := by decide +kernel
theorem dX3_lock_9 : decode cX3_lock 9 = .ok (.arraylength, 1) := by decide +kernel
theorem dX3_lock_10 : decode cX3_lock 10 = .ok (.if_icmp .ge 10, 3) := by decide +kernel
theorem dX3_lock_13 : decode cX3_lock 13 = .ok (.aload_n 0, 1) := by decide +kernel
theorem dX3_lock_14 : decode cX3_lock 14 = .ok (.getfield 31, 3) := by decide +kernel
theorem dX3_lock_17 : decode cX3_lock 17 = .ok (.iload_n 1, 1) := by decide +kernel
theorem dX3_lock_18 : decode cX3_lock 18 = .ok (.lload_n 2, 1) := by decide +kernel
theorem dX3_lock_19 : decode cX3_lock 19 = .ok (.lastore, 1) := by decide +kernel
theorem dX3_lock_20 : decode cX3_lock 20 = .ok (.return_, 1) := by decide +kernel
theorem dX4_init_0 : decode cX4_init 0 = .ok (.aload_n 0, 1) := by decide +kernel
theorem dX4_init_1 : decode cX4_init 1 = .ok (.invokespecial 1, 3) := by decide +kernel
theorem dX4_init_4 : decode cX4_init 4 = .ok (.aload_n 0, 1) := by decide +kernel
theorem dX4_init_5 : decode cX4_init 5 = .ok (.sipush 900, 3) := by decide +kernel
theorem dX4_init_8 : decode cX4_init 8 = .ok (.newarray .int, 2) := by decide +kernel
theorem dX4_init_10 : decode cX4_init 10 = .ok (.putfield 9, 3) := by decide +kernel
theorem dX4_init_13 : decode cX4_init 13 = .ok (.return_, 1) := by decide +kernel
theorem dX4_add_0 : decode cX4_add 0 = .ok (.aload_n 0, 1) := by decide +kernel
theorem dX4_add_1 : decode cX4_add 1 = .ok (.dup, 1) := by decide +kernel
theorem dX4_add_2 : decode cX4_add 2 = .ok (.getfield 13, 3) := by decide +kernel
theorem dX4_add_5 : decode cX4_add 5 = .ok (.iconst 1, 1) := by decide +kernel
theorem dX4_add_6 : decode cX4_add 6 = .ok (.iadd, 1) := by decide +kernel
theorem dX4_add_7 : decode cX4_add 7 = .ok (.putfield 13, 3) := by decide +kernel
theorem dX4_add_10 : decode cX4_add 10 = .ok (.aload_n 0, 1) := by decide +kernel
theorem dX4_add_11 : decode cX4_add 11 = .ok (.getfield 17, 3) := by decide +kernel
theorem dX4_add_14 : decode cX4_add 14 = .ok (.sipush 300, 3) := by decide +kernel
theorem dX4_add_17 : decode cX4_add 17 = .ok (.if_icmp .lt 4, 3) := by decide +kernel
theorem dX4_add_20 : decode cX4_add 20 = .ok (.return_, 1) := by decide +kernel
theorem dX4_add_21 : decode cX4_add 21 = .ok (.aload_n 0, 1) := by decide +kernel
theorem dX4_add_22 : decode cX4_add 22 = .ok (.getfield 17, 3) := by decide +kernel
theorem dX4_add_25 : decode cX4_add 25 = .ok (.iconst 3, 1) := by decide +kernel
theorem dX4_add_26 : decode cX4_add 26 = .ok (.imul, 1) := by decide +kernel
theorem dX4_add_27 : decode cX4_add 27 = .ok (.istore 4, 2) := by decide +kernel
theorem dX4_add_29 : decode cX4_add 29 = .ok (.aload_n 0, 1) := by decide +kernel
theorem dX4_add_30 : decode cX4_add 30 = .ok (.getfield 9, 3) := by decide +kernel
theorem dX4_add_33 : decode cX4_add 33 = .ok (.iload 4, 2) := by decide +kernel
theorem dX4_add_35 : decode cX4_add 35 = .ok (.iload_n 1, 1) := by decide +kernel
theorem dX4_add_36 : decode cX4_add 36 = .ok (.iastore, 1) := by decide +kernel
theorem dX4_add_37 : decode cX4_add 37 = .ok (.aload_n 0, 1) := by decide +kernel
theorem dX4_add_38 : decode cX4_add 38 = .ok (.getfield 9, 3) := by decide +kernel
theorem dX4_add_41 : decode cX4_add 41 = .ok (.iload 4, 2) := by decide +kernel
theorem dX4_add_43 : decode cX4_add 43 = .ok (.iconst 1, 1) := by decide +kernel
theorem dX4_add_44 : decode cX4_add 44 = .ok (.iadd, 1) := by decide +kernel
theorem dX4_add_45 : decode cX4_add 45 = .ok (.iload_n 2, 1) := by decide +kernel
theorem dX4_add_46 : decode cX4_add 46 = .ok (.iastore, 1) := by decide +kernel
theorem dX4_add_47 : decode cX4_add 47 = .ok (.aload_n 0, 1) := by decide +kernel
theorem dX4_add_48 : decode cX4_add 48 = .ok (.getfield 9, 3) := by decide +kernel
theorem dX4_add_51 : decode cX4_add 51 = .ok (.iload 4, 2) := by decide +kernel
theorem dX4_add_53 : decode cX4_add 53 = .ok (.iconst 2, 1) := by decide +kernel
theorem dX4_add_54 : decode cX4_add 54 = .ok (.iadd, 1) := by decide +kernel
theorem dX4_add_55 : decode cX4_add 55 = .ok (.iload_n 3, 1) := by decide +kernel
theorem dX4_add_56 : decode cX4_add 56 = .ok (.iastore, 1) := by decide +kernel
theorem dX4_add_57 : decode cX4_add 57 = .ok (.aload_n 0, 1) := by decide +kernel
theorem dX4_add_58 : decode cX4_add 58 = .ok (.dup, 1) := by decide +kernel
theorem dX4_add_59 : decode cX4_add 59 = .ok (.getfield 17, 3) := by decide +kernel
theorem dX4_add_62 : decode cX4_add 62 = .ok (.iconst 1, 1) := by decide +kernel
theorem dX4_add_63 : decode cX4_add 63 = .ok (.iadd, 1) := by decide +kernel
theorem dX4_add_64 : decode cX4_add 64 = .ok (.putfield 17, 3) := by decide +kernel
theorem dX4_add_67 : decode cX4_add 67 = .ok (.return_, 1) := by decide +kernel
theorem dX4_has_0 : decode cX4_has 0 = .ok (.iload_n 1, 1) := by decide +kernel
theorem dX4_has_1 : decode cX4_has 1 = .ok (.ifCond .lt 15, 3) := by decide +kernel
theorem dX4_has_4 : decode cX4_has 4 = .ok (.iload_n 1, 1) := by decide +kernel
theorem dX4_has_5 : decode cX4_has 5 = .ok (.aload_n 0, 1) := by decide +kernel
theorem dX4_has_6 : decode cX4_has 6 = .ok (.getfield 17, 3) := by decide +kernel
theorem dX4_has_9 : decode cX4_has 9 = .ok (.if_icmp .ge 7, 3) := by decide +kernel
theorem dX4_has_12 : decode cX4_has 12 = .ok (.iconst 1, 1) := by decide +kernel
theorem dX4_has_13 : decode cX4_has 13 = .ok (.goto 4, 3) := by decide +kernel
theorem dX4_has_16 : decode cX4_has 16 = .ok (.iconst 0, 1) := by decide +kernel
theorem dX4_has_17 : decode cX4_has 17 = .ok (.ireturn, 1) := by decide +kernel
set_option maxRecDepth 20000 in
theorem ggX4_part_X4_has : GoodIn wsX4_part wsX4_has := goodIn_r _ [6, 7, 8, 9, 10] (by decide +kernel) (by decide +kernel)
set_option maxRecDepth 20000 in
theorem gX4_part_X4_has : GoodIn wsX4_part (wsV RX4 20 RX4 yX4_has wsX4_has) := goodIn_app (goodIn_of _ (by decide +kernel)) ggX4_part_X4_has
theorem dX4_part_0 : decode cX4_part 0 = .ok (.aload_n 0, 1) := by decide +kernel
theorem dX4_part_1 : decode cX4_part 1 = .ok (.iload_n 1, 1) := by decide +kernel
theorem dX4_part_2 : decode cX4_part 2 = .ok (.invokevirtual 20, 3) := by decide +kernel
theorem dX4_part_5 : decode cX4_part 5 = .ok (.ifCond .eq 25, 3) := by decide +kernel
theorem dX4_part_8 : decode cX4_part 8 = .ok (.iload_n 2, 1) := by decide +kernel
theorem dX4_part_9 : decode cX4_part 9 = .ok (.ifCond .lt 21, 3) := by decide +kernel
theorem dX4_part_12 : decode cX4_part 12 = .ok (.iload_n 2, 1) := by decide +kernel
theorem dX4_part_13 : decode cX4_part 13 = .ok (.iconst 3, 1) := by decide +kernel
theorem dX4_part_14 : decode cX4_part 14 = .ok (.if_icmp .ge 16, 3) := by decide +kernel
theorem dX4_part_17 : decode cX4_part 17 = .ok (.aload_n 0, 1) := by decide +kernel
theorem dX4_part_18 : decode cX4_part 18 = .ok (.getfield 9, 3) := by decide +kernel
theorem dX4_part_21 : decode cX4_part 21 = .ok (.iload_n 1, 1) := by decide +kernel
theorem dX4_part_22 : decode cX4_part 22 = .ok (.iconst 3, 1) := by decide +kernel
theorem dX4_part_23 : decode cX4_part 23 = .ok (.imul, 1) := by decide +kernel
theorem dX4_part_24 : decode cX4_part 24 = .ok (.iload_n 2, 1) := by decide +kernel
theorem dX4_part_25 : decode cX4_part 25 = .ok (.iadd, 1) := by decide +kernel
theorem dX4_part_26 : decode cX4_part 26 = .ok (.iaload, 1) := by decide +kernel
theorem dX4_part_27 : decode cX4_part 27 = .ok (.goto 4, 3) := by decide +kernel
theorem dX4_part_30 : decode cX4_part 30 = .ok (.iconst 0, 1) := by decide +kernel
theorem dX4_part_31 : decode cX4_part 31 = .ok (.ireturn, 1) := by decide +kernel
set_option maxRecDepth 20000 in
theorem ggX5_init_X2_init : GoodIn wsX5_init wsX2_init := goodIn_r _ [24, 25, 2, 3, 26, 27, 61, 62, 63] (by decide +kernel) (by decide +kernel)
set_option maxRecDepth 20000 in
theorem gX5_init_X2_init_n17 : GoodIn wsX5_init (wsX2_init) := ggX5_init_X2_init
set_option maxRecDepth 20000 in
theorem ggX5_init_X0_init : GoodIn wsX5_init wsX0_init := goodIn_r _ [29, 30, 2, 3, 26, 31, 64, 65] (by decide +kernel) (by decide +kernel)
set_option maxRecDepth 20000 in
theorem gX5_init_X0_init_n24 : GoodIn wsX5_init (wsX0_init) := ggX5_init_X0_init
set_option maxRecDepth 20000 in
theorem ggX5_init_X4_init : GoodIn wsX5_init wsX4_init := goodIn_r _ [33, 34, 2, 3, 26, 35, 66, 67, 68] (by decide +kernel) (by decide +kernel)
set_option maxRecDepth 20000 in
theorem gX5_init_X4_init_n31 : GoodIn wsX5_init (wsX4_init) := ggX5_init_X4_init
set_option maxRecDepth 20000 in
theorem ggX5_init_X3_init : GoodIn wsX5_init wsX3_init := goodIn_r _ [38, 39, 2, 3, 40, 41, 42, 43, 44, 26, 45, 46, 47, 48, 49, 50, 51, 52, 69, 70, 71, 72, 73, 74, 75, 76, 77, 78, 79] (by decide +kernel) (by decide +kernel)
set_option maxRecDepth 20000 in
theorem gX5_init_X3_init : GoodIn wsX5_init (wsX3_init) := ggX5_init_X3_init
theorem dX5_init_0 : decode cX5_init 0 = .ok (.aload_n 0, 1) := by decide +kernel
theorem dX5_init_1 : decode cX5_init 1 = .ok (.invokespecial 1, 3) := by decide +kernel
theorem dX5_init_4 : decode cX5_init 4 = .ok (.aload_n 0, 1) := by decide +kernel
theorem dX5_init_5 : decode cX5_init 5 = .ok (.bipush 21, 2) := by decide +kernel
theorem dX5_init_7 : decode cX5_init 7 = .ok (.anewarray 9, 3) := by decide +kernel
theorem dX5_init_10 : decode cX5_init 10 = .ok (.putfield 11, 3) := by decide +kernel
theorem dX5_init_13 : decode cX5_init 13 = .ok (.aload_n 0, 1) := by decide +kernel
theorem dX5_init_14 : decode cX5_init 14 = .ok (.new 15, 3) := by decide +kernel
theorem dX5_init_17 : decode cX5_init 17 = .ok (.dup, 1) := by decide +kernel
theorem dX5_init_18 : decode cX5_init 18 = .ok (.invokespecial 17, 3) := by decide +kernel
theorem dX5_init_21 : decode cX5_init 21 = .ok (.putfield 18, 3) := by decide +kernel
theorem dX5_init_24 : decode cX5_init 24 = .ok (.aload_n 0, 1) := by decide +kernel
theorem dX5_init_25 : decode cX5_init 25 = .ok (.new 22, 3) := by decide +kernel
theorem dX5_init_28 : decode cX5_init 28 = .ok (.dup, 1) := by decide +kernel
theorem dX5_init_29 : decode cX5_init 29 = .ok (.invokespecial 24, 3) := by decide +kernel
theorem dX5_init_32 : decode cX5_init 32 = .ok (.putfield 25, 3) := by decide +kernel
theorem dX5_init_35 : decode cX5_init 35 = .ok (.aload_n 0, 1) := by decide +kernel
theorem dX5_init_36 : decode cX5_init 36 = .ok (.new 29, 3) := by decide +kernel
theorem dX5_init_39 : decode cX5_init 39 = .ok (.dup, 1) := by decide +kernel
theorem dX5_init_40 : decode cX5_init 40 = .ok (.invokespecial 31, 3) := by decide +kernel
theorem dX5_init_43 : decode cX5_init 43 = .ok (.putfield 32, 3) := by decide +kernel
theorem dX5_init_46 : decode cX5_init 46 = .ok (.aload_n 0, 1) := by decide +kernel
theorem dX5_init_47 : decode cX5_init 47 = .ok (.iconst 4, 1) := by decide +kernel
theorem dX5_init_48 : decode cX5_init 48 = .ok (.anewarray 36, 3) := by decide +kernel
theorem dX5_init_51 : decode cX5_init 51 = .ok (.putfield 38, 3) := by decide +kernel
theorem dX5_init_54 : decode cX5_init 54 = .ok (.iconst 0, 1) := by decide +kernel
theorem dX5_init_55 : decode cX5_init 55 = .ok (.istore_n 1, 1) := by decide +kernel
theorem dX5_init_56 : decode cX5_init 56 = .ok (.iload_n 1, 1) := by decide +kernel
theorem dX5_init_57 : decode cX5_init 57 = .ok (.aload_n 0, 1) := by decide +kernel
theorem dX5_init_58 : decode cX5_init 58 = .ok (.getfield 38, 3) := by decide +kernel
theorem dX5_init_61 : decode cX5_init 61 = .ok (.arraylength, 1) := by decide +kernel
theorem dX5_init_62 : decode cX5_init 62 = .ok (.if_icmp .ge 25, 3) := by decide +kernel
theorem dX5_init_65 : decode cX5_init 65 = .ok (.aload_n 0, 1) := by decide +kernel
theorem dX5_init_66 : decode cX5_init 66 = .ok (.getfield 38, 3) := by decide +kernel
theorem dX5_init_69 : decode cX5_init 69 = .ok (.iload_n 1, 1) := by decide +kernel
theorem dX5_init_70 : decode cX5_init 70 = .ok (.new 36, 3) := by decide +kernel
theorem dX5_init_73 : decode cX5_init 73 = .ok (.dup, 1) := by decide +kernel
theorem dX5_init_74 : decode cX5_init 74 = .ok (.iload_n 1, 1) := by decide +kernel
theorem dX5_init_75 : decode cX5_init 75 = .ok (.iconst 1, 1) := by decide +kernel
theorem dX5_init_76 : decode cX5_init 76 = .ok (.iadd, 1) := by decide +kernel
theorem dX5_init_77 : decode cX5_init 77 = .ok (.invokespecial 42, 3) := by decide +kernel
theorem dX5_init_80 : decode cX5_init 80 = .ok (.aastore, 1) := by decide +kernel
theorem dX5_init_81 : decode cX5_init 81 = .ok (.iinc 1 1, 3) := by decide +kernel
theorem dX5_init_84 : decode cX5_init 84 = .ok (.goto (-28), 3) := by decide +kernel
theorem dX5_init_87 : decode cX5_init 87 = .ok (.aload_n 0, 1) := by decide +kernel
theorem dX5_init_88 : decode cX5_init 88 = .ok (.aload_n 0, 1) := by decide +kernel
theorem dX5_init_89 : decode cX5_init 89 = .ok (.getfield 38, 3) := by decide +kernel
theorem dX5_init_92 : decode cX5_init 92 = .ok (.iconst 0, 1) := by decide +kernel
theorem dX5_init_93 : decode cX5_init 93 = .ok (.aaload, 1) := by decide +kernel
theorem dX5_init_94 : decode cX5_init 94 = .ok (.putfield 45, 3) := by decide +kernel
theorem dX5_init_97 : decode cX5_init 97 = .ok (.return_, 1) := by decide +kernel
set_option maxRecDepth 20000 in
theorem ggX5_level_X1_init : GoodIn wsX5_level wsX1_init := goodIn_r _ [9, 10, 11, 12, 13, 14, 15, 16, 25, 26, 27, 28] (by decide +kernel) (by decide +kernel)
set_option maxRecDepth 20000 in
theorem gX5_level_X1_init : GoodIn wsX5_level (wsX1_init) := ggX5_level_X1_init
theorem dX5_level_0 : decode cX5_level 0 = .ok (.iload_n 1, 1) := by decide +kernel
theorem dX5_level_1 : decode cX5_level 1 = .ok (.iconst 1, 1) := by decide +kernel
theorem dX5_level_2 : decode cX5_level 2 = .ok (.if_icmp .lt 9, 3) := by decide +kernel
theorem dX5_level_5 : decode cX5_level 5 = .ok (.iload_n 1, 1) := by decide +kernel
theorem dX5_level_6 : decode cX5_level 6 = .ok (.bipush 20, 2) := by decide +kernel
theorem dX5_level_8 : decode cX5_level 8 = .ok (.if_icmp .le 5, 3) := by decide +kernel
theorem dX5_level_11 : decode cX5_level 11 = .ok (.iconst (-1), 1) := by decide +kernel
theorem dX5_level_12 : decode cX5_level 12 = .ok (.ireturn, 1) := by decide +kernel
theorem dX5_level_13 : decode cX5_level 13 = .ok (.iload_n 2, 1) := by decide +kernel
theorem dX5_level_14 : decode cX5_level 14 = .ok (.ifCond .lt 35, 3) := by decide +kernel
theorem dX5_level_17 : decode cX5_level 17 = .ok (.iload_n 2, 1) := by decide +kernel
theorem dX5_level_18 : decode cX5_level 18 = .ok (.iconst 3, 1) := by decide +kernel
theorem dX5_level_19 : decode cX5_level 19 = .ok (.if_icmp .ge 30, 3) := by decide +kernel
theorem dX5_level_22 : decode cX5_level 22 = .ok (.iload_n 3, 1) := by decide +kernel
theorem dX5_level_23 : decode cX5_level 23 = .ok (.iconst 1, 1) := by decide +kernel
theorem dX5_level_24 : decode cX5_level 24 = .ok (.if_icmp .lt 25, 3) := by decide +kernel
theorem dX5_level_27 : decode cX5_level 27 = .ok (.iload_n 3, 1) := by decide +kernel
theorem dX5_level_28 : decode cX5_level 28 = .ok (.bipush 10, 2) := by decide +kernel
theorem dX5_level_30 : decode cX5_level 30 = .ok (.if_icmp .gt 19, 3) := by decide +kernel
theorem dX5_level_33 : decode cX5_level 33 = .ok (.lload 4, 2) := by decide +kernel
theorem dX5_level_35 : decode cX5_level 35 = .ok (.lconst 0, 1) := by decide +kernel
theorem dX5_level_36 : decode cX5_level 36 = .ok (.lcmp, 1) := by decide +kernel
theorem dX5_level_37 : decode cX5_level 37 = .ok (.ifCond .lt 12, 3) := by decide +kernel
theorem dX5_level_40 : decode cX5_level 40 = .ok (.lload 4, 2) := by decide +kernel
theorem dX5_level_42 : decode cX5_level 42 = .ok (.ldc2_w 49, 3) := by decide +kernel
theorem dX5_level_45 : decode cX5_level 45 = .ok (.lcmp, 1) := by decide +kernel
theorem dX5_level_46 : decode cX5_level 46 = .ok (.ifCond .le 6, 3) := by decide +kernel
theorem dX5_level_49 : decode cX5_level 49 = .ok (.bipush (-2), 2) := by decide +kernel
theorem dX5_level_51 : decode cX5_level 51 = .ok (.ireturn, 1) := by decide +kernel
theorem dX5_level_52 : decode cX5_level 52 = .ok (.aload_n 0, 1) := by decide +kernel
theorem dX5_level_53 : decode cX5_level 53 = .ok (.getfield 11, 3) := by decide +kernel
theorem dX5_level_56 : decode cX5_level 56 = .ok (.iload_n 1, 1) := by decide +kernel
theorem dX5_level_57 : decode cX5_level 57 = .ok (.aaload, 1) := by decide +kernel
theorem dX5_level_58 : decode cX5_level 58 = .ok (.ifnull 6, 3) := by decide +kernel
theorem dX5_level_61 : decode cX5_level 61 = .ok (.bipush (-3), 2) := by decide +kernel
theorem dX5_level_63 : decode cX5_level 63 = .ok (.ireturn, 1) := by decide +kernel
theorem dX5_level_64 : decode cX5_level 64 = .ok (.aload_n 0, 1) := by decide +kernel
theorem dX5_level_65 : decode cX5_level 65 = .ok (.getfield 11, 3) := by decide +kernel
theorem dX5_level_68 : decode cX5_level 68 = .ok (.iload_n 1, 1) := by decide +kernel
theorem dX5_level_69 : decode cX5_level 69 = .ok (.new 9, 3) := by decide +kernel
theorem dX5_level_72 : decode cX5_level 72 = .ok (.dup, 1) := by decide +kernel
theorem dX5_level_73 : decode cX5_level 73 = .ok (.iload_n 1, 1) := by decide +kernel
theorem dX5_level_74 : decode cX5_level 74 = .ok (.iload_n 2, 1) := by decide +kernel
theorem dX5_level_75 : decode cX5_level 75 = .ok (.iload_n 3, 1) := by decide +kernel
theorem dX5_level_76 : decode cX5_level 76 = .ok (.lload 4, 2) := by decide +kernel
theorem dX5_level_78 : decode cX5_level 78 = .ok (.invokespecial 51, 3) := by decide +kernel
theorem dX5_level_81 : decode cX5_level 81 = .ok (.aastore, 1) := by decide +kernel
theorem dX5_level_82 : decode cX5_level 82 = .ok (.aload_n 0, 1) := by decide +kernel
theorem dX5_level_83 : decode cX5_level 83 = .ok (.dup, 1) := by decide +kernel
theorem dX5_level_84 : decode cX5_level 84 = .ok (.getfield 54, 3) := by decide +kernel
theorem dX5_level_87 : decode cX5_level 87 = .ok (.iconst 1, 1) := by decide +kernel
theorem dX5_level_88 : decode cX5_level 88 = .ok (.iadd, 1) := by decide +kernel
theorem dX5_level_89 : decode cX5_level 89 = .ok (.putfield 54, 3) := by decide +kernel
theorem dX5_level_92 : decode cX5_level 92 = .ok (.aload_n 0, 1) := by decide +kernel
theorem dX5_level_93 : decode cX5_level 93 = .ok (.getfield 54, 3) := by decide +kernel
theorem dX5_level_96 : decode cX5_level 96 = .ok (.ireturn, 1) := by decide +kernel
set_option maxRecDepth 20000 in
theorem ggX5_tape_X2_add : GoodIn wsX5_tape wsX2_add := goodIn_ca (goodIn_r _ [6, 7, 8, 9, 18, 19, 20] (by decide +kernel) (by decide +kernel)) (goodIn_sub (fun _ h => List.mem_cons_of_mem _ (List.mem_append_right _ h)) (by decide +kernel))
set_option maxRecDepth 20000 in
theorem gX5_tape_X2_add : GoodIn wsX5_tape (wsV RX5 58 RX2 yX2_add wsX2_add) := goodIn_app (goodIn_of _ (by decide +kernel)) ggX5_tape_X2_add
theorem dX5_tape_0 : decode cX5_tape 0 = .ok (.aload_n 0, 1) := by decide +kernel
theorem dX5_tape_1 : decode cX5_tape 1 = .ok (.getfield 18, 3) := by decide +kernel
theorem dX5_tape_4 : decode cX5_tape 4 = .ok (.iload_n 1, 1) := by decide +kernel
theorem dX5_tape_5 : decode cX5_tape 5 = .ok (.invokevirtual 58, 3) := by decide +kernel
theorem dX5_tape_8 : decode cX5_tape 8 = .ok (.return_, 1) := by decide +kernel
set_option maxRecDepth 20000 in
theorem ggX5_seed_X5_madeLevel : GoodIn wsX5_seed wsX5_madeLevel := goodIn_r _ [9, 10, 75, 76, 77, 78, 79, 80, 81, 82] (by decide +kernel) (by decide +kernel)
set_option maxRecDepth 20000 in
theorem gX5_seed_X5_madeLevel : GoodIn wsX5_seed (wsV RX5 61 RX5 yX5_madeLevel wsX5_madeLevel) := goodIn_app (goodIn_of _ (by decide +kernel)) ggX5_seed_X5_madeLevel
set_option maxRecDepth 20000 in
theorem ggX5_seed_X5_askForSeed : GoodIn wsX5_seed wsX5_askForSeed := goodIn_ca (goodIn_r _ [14, 4, 1, 15, 16, 17, 18, 19, 20, 21, 22, 23, 24, 25, 26, 27, 28, 29, 30, 31, 32, 33, 34, 35, 36, 37, 38, 39, 40, 41, 42, 43, 44, 45, 46, 8, 47, 48, 49, 50, 51, 52, 53, 54, 55, 56, 57, 58, 59, 60, 61, 62, 63, 64, 65, 66, 75, 76, 77, 78, 79, 80, 81, 82, 83, 84, 85, 86, 87, 88, 89, 90, 91, 92, 93, 94, 95, 96, 97, 98, 99, 100, 101, 102] (by decide +kernel) (by decide +kernel)) (goodIn_sub (fun _ h => List.mem_cons_of_mem _ (List.mem_append_right _ h)) (by decide +kernel))
set_option maxRecDepth 20000 in
theorem gX5_seed_X5_askForSeed : GoodIn wsX5_seed (wsV RX5 71 RX5 yX5_askForSeed wsX5_askForSeed) := goodIn_app (goodIn_of _ (by decide +kernel)) ggX5_seed_X5_askForSeed
set_option maxRecDepth 20000 in
theorem ggX5_seed_X4_add : GoodIn wsX5_seed wsX4_add := goodIn_ca (goodIn_r _ [71, 72, 73, 74, 103, 104, 105] (by decide +kernel) (by decide +kernel)) (goodIn_sub (fun _ h => List.mem_cons_of_mem _ (List.mem_append_right _ h)) (by decide +kernel))
set_option maxRecDepth 20000 in
theorem gX5_seed_X4_add : GoodIn wsX5_seed (wsV RX5 78 RX4 yX4_add wsX4_add) := goodIn_app (goodIn_of _ (by decide +kernel)) ggX5_seed_X4_add
theorem dX5_seed_0 : decode cX5_seed 0 = .ok (.aload_n 0, 1) := by decide +kernel
theorem dX5_seed_1 : decode cX5_seed 1 = .ok (.iload_n 1, 1) := by decide +kernel
theorem dX5_seed_2 : decode cX5_seed 2 = .ok (.invokevirtual 61, 3) := by decide +kernel
theorem dX5_seed_5 : decode cX5_seed 5 = .ok (.astore 4, 2) := by decide +kernel
theorem dX5_seed_7 : decode cX5_seed 7 = .ok (.aload 4, 2) := by decide +kernel
theorem dX5_seed_9 : decode cX5_seed 9 = .ok (.ifnonnull 5, 3) := by decide +kernel
theorem dX5_seed_12 : decode cX5_seed 12 = .ok (.iconst (-1), 1) := by decide +kernel
theorem dX5_seed_13 : decode cX5_seed 13 = .ok (.ireturn, 1) := by decide +kernel
theorem dX5_seed_14 : decode cX5_seed 14 = .ok (.lload_n 2, 1) := by decide +kernel
theorem dX5_seed_15 : decode cX5_seed 15 = .ok (.aload_n 0, 1) := by decide +kernel
theorem dX5_seed_16 : decode cX5_seed 16 = .ok (.getfield 65, 3) := by decide +kernel
theorem dX5_seed_19 : decode cX5_seed 19 = .ok (.lcmp, 1) := by decide +kernel
theorem dX5_seed_20 : decode cX5_seed 20 = .ok (.ifCond .lt 11, 3) := by decide +kernel
theorem dX5_seed_23 : decode cX5_seed 23 = .ok (.lload_n 2, 1) := by decide +kernel
theorem dX5_seed_24 : decode cX5_seed 24 = .ok (.ldc2_w 69, 3) := by decide +kernel
theorem dX5_seed_27 : decode cX5_seed 27 = .ok (.lcmp, 1) := by decide +kernel
theorem dX5_seed_28 : decode cX5_seed 28 = .ok (.ifCond .le 6, 3) := by decide +kernel
theorem dX5_seed_31 : decode cX5_seed 31 = .ok (.bipush (-2), 2) := by decide +kernel
theorem dX5_seed_33 : decode cX5_seed 33 = .ok (.ireturn, 1) := by decide +kernel
theorem dX5_seed_34 : decode cX5_seed 34 = .ok (.aload_n 0, 1) := by decide +kernel
theorem dX5_seed_35 : decode cX5_seed 35 = .ok (.lload_n 2, 1) := by decide +kernel
theorem dX5_seed_36 : decode cX5_seed 36 = .ok (.putfield 65, 3) := by decide +kernel
theorem dX5_seed_39 : decode cX5_seed 39 = .ok (.aload_n 0, 1) := by decide +kernel
theorem dX5_seed_40 : decode cX5_seed 40 = .ok (.aload 4, 2) := by decide +kernel
theorem dX5_seed_42 : decode cX5_seed 42 = .ok (.invokevirtual 71, 3) := by decide +kernel
theorem dX5_seed_45 : decode cX5_seed 45 = .ok (.istore 5, 2) := by decide +kernel
theorem dX5_seed_47 : decode cX5_seed 47 = .ok (.aload_n 0, 1) := by decide +kernel
theorem dX5_seed_48 : decode cX5_seed 48 = .ok (.getfield 32, 3) := by decide +kernel
theorem dX5_seed_51 : decode cX5_seed 51 = .ok (.aload_n 0, 1) := by decide +kernel
theorem dX5_seed_52 : decode cX5_seed 52 = .ok (.getfield 45, 3) := by decide +kernel
theorem dX5_seed_55 : decode cX5_seed 55 = .ok (.getfield 75, 3) := by decide +kernel
theorem dX5_seed_58 : decode cX5_seed 58 = .ok (.iload_n 1, 1) := by decide +kernel
theorem dX5_seed_59 : decode cX5_seed 59 = .ok (.iload 5, 2) := by decide +kernel
theorem dX5_seed_61 : decode cX5_seed 61 = .ok (.invokevirtual 78, 3) := by decide +kernel
theorem dX5_seed_64 : decode cX5_seed 64 = .ok (.iload 5, 2) := by decide +kernel
theorem dX5_seed_66 : decode cX5_seed 66 = .ok (.ireturn, 1) := by decide +kernel
theorem dX5_out_0 : decode cX5_out 0 = .ok (.iload_n 1, 1) := by decide +kernel
theorem dX5_out_1 : decode cX5_out 1 = .ok (.ifCond .lt 8, 3) := by decide +kernel
theorem dX5_out_4 : decode cX5_out 4 = .ok (.iload_n 1, 1) := by decide +kernel
theorem dX5_out_5 : decode cX5_out 5 = .ok (.iconst 4, 1) := by decide +kernel
theorem dX5_out_6 : decode cX5_out 6 = .ok (.if_icmp .lt 11, 3) := by decide +kernel
theorem dX5_out_9 : decode cX5_out 9 = .ok (.new 81, 3) := by decide +kernel
theorem dX5_out_12 : decode cX5_out 12 = .ok (.dup, 1) := by decide +kernel
theorem dX5_out_13 : decode cX5_out 13 = .ok (.invokespecial 83, 3) := by decide +kernel
theorem dX5_out_16 : decode cX5_out 16 = .ok (.athrow, 1) := by decide +kernel
theorem dX5_out_17 : decode cX5_out 17 = .ok (.aload_n 0, 1) := by decide +kernel
theorem dX5_out_18 : decode cX5_out 18 = .ok (.getfield 45, 3) := by decide +kernel
theorem dX5_out_21 : decode cX5_out 21 = .ok (.getfield 84, 3) := by decide +kernel
theorem dX5_out_24 : decode cX5_out 24 = .ok (.bipush 24, 2) := by decide +kernel
theorem dX5_out_26 : decode cX5_out 26 = .ok (.bipush 8, 2) := by decide +kernel
theorem dX5_out_28 : decode cX5_out 28 = .ok (.iload_n 1, 1) := by decide +kernel
theorem dX5_out_29 : decode cX5_out 29 = .ok (.imul, 1) := by decide +kernel
theorem dX5_out_30 : decode cX5_out 30 = .ok (.isub, 1) := by decide +kernel
theorem dX5_out_31 : decode cX5_out 31 = .ok (.iushr, 1) := by decide +kernel
theorem dX5_out_32 : decode cX5_out 32 = .ok (.i2b, 1) := by decide +kernel
theorem dX5_out_33 : decode cX5_out 33 = .ok (.ireturn, 1) := by decide +kernel
set_option maxRecDepth 20000 in
theorem ggX5_key_X3_addOctet : GoodIn wsX5_key wsX3_addOctet := goodIn_r _ [7, 8, 9, 69, 70, 71, 72, 73, 74, 75, 76, 77, 78, 79] (by decide +kernel) (by decide +kernel)
set_option maxRecDepth 20000 in
theorem gX5_key_X3_addOctet : GoodIn wsX5_key (wsV RX5 87 RX3 yX3_addOctet wsX3_addOctet) := goodIn_app (goodIn_of _ (by decide +kernel)) ggX5_key_X3_addOctet
set_option maxRecDepth 20000 in
theorem ggX5_key_X3_dropOctets : GoodIn wsX5_key wsX3_dropOctets := goodIn_r _ [13, 8, 9, 69, 70, 71, 72, 73, 74, 75, 76, 77, 78, 79] (by decide +kernel) (by decide +kernel)
set_option maxRecDepth 20000 in
theorem gX5_key_X3_dropOctets : GoodIn wsX5_key (wsV RX5 97 RX3 yX3_dropOctets wsX3_dropOctets) := goodIn_app (goodIn_of _ (by decide +kernel)) ggX5_key_X3_dropOctets
set_option maxRecDepth 20000 in
theorem ggX5_key_X5_madeLevel : GoodIn wsX5_key wsX5_madeLevel := goodIn_r _ [18, 19, 61, 62, 63, 64, 65, 66, 67, 68] (by decide +kernel) (by decide +kernel)
set_option maxRecDepth 20000 in
theorem gX5_key_X5_madeLevel : GoodIn wsX5_key (wsV RX5 61 RX5 yX5_madeLevel wsX5_madeLevel) := goodIn_app (goodIn_of _ (by decide +kernel)) ggX5_key_X5_madeLevel
set_option maxRecDepth 20000 in
theorem ggX5_key_X5_tryKey : GoodIn wsX5_key wsX5_tryKey := goodIn_ca (goodIn_r _ [23, 1, 24, 25, 26, 27, 28, 29, 30, 31, 32, 33, 34, 35, 36, 37, 38, 39, 40, 41, 6, 42, 43, 44, 45, 46, 47, 48, 49, 50, 51, 52, 61, 62, 63, 64, 65, 66, 67, 68, 69, 70, 71, 72, 73, 74, 75, 76, 77, 78, 79, 80, 81, 82, 83] (by decide +kernel) (by decide +kernel)) (goodIn_sub (fun _ h => List.mem_cons_of_mem _ (List.mem_append_right _ h)) (by decide +kernel))
set_option maxRecDepth 20000 in
theorem gX5_key_X5_tryKey : GoodIn wsX5_key (wsV RX5 100 RX5 yX5_tryKey wsX5_tryKey) := goodIn_app (goodIn_of _ (by decide +kernel)) ggX5_key_X5_tryKey
set_option maxRecDepth 20000 in
theorem ggX5_key_X4_add : GoodIn wsX5_key wsX4_add := goodIn_ca (goodIn_r _ [57, 58, 59, 60, 84, 85, 86] (by decide +kernel) (by decide +kernel)) (goodIn_sub (fun _ h => List.mem_cons_of_mem _ (List.mem_append_right _ h)) (by decide +kernel))
set_option maxRecDepth 20000 in
theorem gX5_key_X4_add : GoodIn wsX5_key (wsV RX5 78 RX4 yX4_add wsX4_add) := goodIn_app (goodIn_of _ (by decide +kernel)) ggX5_key_X4_add
theorem dX5_key_0 : decode cX5_key 0 = .ok (.aload_n 0, 1) := by decide +kernel
theorem dX5_key_1 : decode cX5_key 1 = .ok (.getfield 45, 3) := by decide +kernel
theorem dX5_key_4 : decode cX5_key 4 = .ok (.iload_n 2, 1) := by decide +kernel
theorem dX5_key_5 : decode cX5_key 5 = .ok (.invokevirtual 87, 3) := by decide +kernel
theorem dX5_key_8 : decode cX5_key 8 = .ok (.iload_n 3, 1) := by decide +kernel
theorem dX5_key_9 : decode cX5_key 9 = .ok (.ifCond .ne 5, 3) := by decide +kernel
theorem dX5_key_12 : decode cX5_key 12 = .ok (.iconst 0, 1) := by decide +kernel
theorem dX5_key_13 : decode cX5_key 13 = .ok (.ireturn, 1) := by decide +kernel
theorem dX5_key_14 : decode cX5_key 14 = .ok (.aload_n 0, 1) := by decide +kernel
theorem dX5_key_15 : decode cX5_key 15 = .ok (.getfield 45, 3) := by decide +kernel
theorem dX5_key_18 : decode cX5_key 18 = .ok (.getfield 91, 3) := by decide +kernel
theorem dX5_key_21 : decode cX5_key 21 = .ok (.istore 4, 2) := by decide +kernel
theorem dX5_key_23 : decode cX5_key 23 = .ok (.aload_n 0, 1) := by decide +kernel
theorem dX5_key_24 : decode cX5_key 24 = .ok (.getfield 45, 3) := by decide +kernel
theorem dX5_key_27 : decode cX5_key 27 = .ok (.getfield 94, 3) := by decide +kernel
theorem dX5_key_30 : decode cX5_key 30 = .ok (.istore 5, 2) := by decide +kernel
theorem dX5_key_32 : decode cX5_key 32 = .ok (.aload_n 0, 1) := by decide +kernel
theorem dX5_key_33 : decode cX5_key 33 = .ok (.getfield 45, 3) := by decide +kernel
theorem dX5_key_36 : decode cX5_key 36 = .ok (.invokevirtual 97, 3) := by decide +kernel
theorem dX5_key_39 : decode cX5_key 39 = .ok (.aload_n 0, 1) := by decide +kernel
theorem dX5_key_40 : decode cX5_key 40 = .ok (.iload_n 1, 1) := by decide +kernel
theorem dX5_key_41 : decode cX5_key 41 = .ok (.invokevirtual 61, 3) := by decide +kernel
theorem dX5_key_44 : decode cX5_key 44 = .ok (.astore 6, 2) := by decide +kernel
theorem dX5_key_46 : decode cX5_key 46 = .ok (.aload 6, 2) := by decide +kernel
theorem dX5_key_48 : decode cX5_key 48 = .ok (.ifnonnull 5, 3) := by decide +kernel
theorem dX5_key_51 : decode cX5_key 51 = .ok (.iconst (-1), 1) := by decide +kernel
theorem dX5_key_52 : decode cX5_key 52 = .ok (.ireturn, 1) := by decide +kernel
theorem dX5_key_53 : decode cX5_key 53 = .ok (.iload 4, 2) := by decide +kernel
theorem dX5_key_55 : decode cX5_key 55 = .ok (.iconst 4, 1) := by decide +kernel
theorem dX5_key_56 : decode cX5_key 56 = .ok (.if_icmp .ne 14, 3) := by decide +kernel
theorem dX5_key_59 : decode cX5_key 59 = .ok (.aload_n 0, 1) := by decide +kernel
theorem dX5_key_60 : decode cX5_key 60 = .ok (.aload 6, 2) := by decide +kernel
theorem dX5_key_62 : decode cX5_key 62 = .ok (.iload 5, 2) := by decide +kernel
theorem dX5_key_64 : decode cX5_key 64 = .ok (.invokevirtual 100, 3) := by decide +kernel
theorem dX5_key_67 : decode cX5_key 67 = .ok (.goto 5, 3) := by decide +kernel
theorem dX5_key_70 : decode cX5_key 70 = .ok (.bipush (-19), 2) := by decide +kernel
theorem dX5_key_72 : decode cX5_key 72 = .ok (.istore 7, 2) := by decide +kernel
theorem dX5_key_74 : decode cX5_key 74 = .ok (.aload_n 0, 1) := by decide +kernel
theorem dX5_key_75 : decode cX5_key 75 = .ok (.getfield 32, 3) := by decide +kernel
theorem dX5_key_78 : decode cX5_key 78 = .ok (.aload_n 0, 1) := by decide +kernel
theorem dX5_key_79 : decode cX5_key 79 = .ok (.getfield 45, 3) := by decide +kernel
theorem dX5_key_82 : decode cX5_key 82 = .ok (.getfield 75, 3) := by decide +kernel
theorem dX5_key_85 : decode cX5_key 85 = .ok (.iload_n 1, 1) := by decide +kernel
theorem dX5_key_86 : decode cX5_key 86 = .ok (.iload 7, 2) := by decide +kernel
theorem dX5_key_88 : decode cX5_key 88 = .ok (.invokevirtual 78, 3) := by decide +kernel
theorem dX5_key_91 : decode cX5_key 91 = .ok (.iload 7, 2) := by decide +kernel
theorem dX5_key_93 : decode cX5_key 93 = .ok (.ireturn, 1) := by decide +kernel
set_option maxRecDepth 20000 in
theorem ggX5_open_X5_madeLevel : GoodIn wsX5_open wsX5_madeLevel := goodIn_r _ [6, 7, 8, 9, 10, 11, 12, 13, 14, 15] (by decide +kernel) (by decide +kernel)
set_option maxRecDepth 20000 in
theorem gX5_open_X5_madeLevel : GoodIn wsX5_open (wsV RX5 61 RX5 yX5_madeLevel wsX5_madeLevel) := goodIn_app (goodIn_of _ (by decide +kernel)) ggX5_open_X5_madeLevel
theorem dX5_open_0 : decode cX5_open 0 = .ok (.aload_n 0, 1) := by decide +kernel
theorem dX5_open_1 : decode cX5_open 1 = .ok (.iload_n 1, 1) := by decide +kernel
theorem dX5_open_2 : decode cX5_open 2 = .ok (.invokevirtual 61, 3) := by decide +kernel
theorem dX5_open_5 : decode cX5_open 5 = .ok (.ifnonnull 5, 3) := by decide +kernel
theorem dX5_open_8 : decode cX5_open 8 = .ok (.iconst (-1), 1) := by decide +kernel
theorem dX5_open_9 : decode cX5_open 9 = .ok (.ireturn, 1) := by decide +kernel
theorem dX5_open_10 : decode cX5_open 10 = .ok (.aload_n 0, 1) := by decide +kernel
theorem dX5_open_11 : decode cX5_open 11 = .ok (.getfield 45, 3) := by decide +kernel
theorem dX5_open_14 : decode cX5_open 14 = .ok (.getfield 104, 3) := by decide +kernel
theorem dX5_open_17 : decode cX5_open 17 = .ok (.iload_n 1, 1) := by decide +kernel
theorem dX5_open_18 : decode cX5_open 18 = .ok (.if_icmp .ne 7, 3) := by decide +kernel
theorem dX5_open_21 : decode cX5_open 21 = .ok (.iconst 1, 1) := by decide +kernel
theorem dX5_open_22 : decode cX5_open 22 = .ok (.goto 4, 3) := by decide +kernel
theorem dX5_open_25 : decode cX5_open 25 = .ok (.iconst 0, 1) := by decide +kernel
theorem dX5_open_26 : decode cX5_open 26 = .ok (.ireturn, 1) := by decide +kernel
set_option maxRecDepth 20000 in
theorem ggX5_session_X3_startSession : GoodIn wsX5_session wsX3_startSession := goodIn_r _ [6, 7, 8, 9, 10, 11, 20, 21, 22, 23, 24, 25, 26, 27, 28, 29, 30] (by decide +kernel) (by decide +kernel)
set_option maxRecDepth 20000 in
theorem gX5_session_X3_startSession : GoodIn wsX5_session (wsV RX5 110 RX3 yX3_startSession wsX3_startSession) := goodIn_app (goodIn_of _ (by decide +kernel)) ggX5_session_X3_startSession
theorem dX5_session_0 : decode cX5_session 0 = .ok (.iload_n 1, 1) := by decide +kernel
theorem dX5_session_1 : decode cX5_session 1 = .ok (.iconst 1, 1) := by decide +kernel
theorem dX5_session_2 : decode cX5_session 2 = .ok (.if_icmp .lt 8, 3) := by decide +kernel
theorem dX5_session_5 : decode cX5_session 5 = .ok (.iload_n 1, 1) := by decide +kernel
theorem dX5_session_6 : decode cX5_session 6 = .ok (.iconst 3, 1) := by decide +kernel
theorem dX5_session_7 : decode cX5_session 7 = .ok (.if_icmp .le 6, 3) := by decide +kernel
theorem dX5_session_10 : decode cX5_session 10 = .ok (.bipush (-2), 2) := by decide +kernel
theorem dX5_session_12 : decode cX5_session 12 = .ok (.ireturn, 1) := by decide +kernel
theorem dX5_session_13 : decode cX5_session 13 = .ok (.aload_n 0, 1) := by decide +kernel
theorem dX5_session_14 : decode cX5_session 14 = .ok (.getfield 45, 3) := by decide +kernel
theorem dX5_session_17 : decode cX5_session 17 = .ok (.getfield 107, 3) := by decide +kernel
theorem dX5_session_20 : decode cX5_session 20 = .ok (.istore_n 2, 1) := by decide +kernel
theorem dX5_session_21 : decode cX5_session 21 = .ok (.aload_n 0, 1) := by decide +kernel
theorem dX5_session_22 : decode cX5_session 22 = .ok (.getfield 45, 3) := by decide +kernel
theorem dX5_session_25 : decode cX5_session 25 = .ok (.iload_n 1, 1) := by decide +kernel
theorem dX5_session_26 : decode cX5_session 26 = .ok (.invokevirtual 110, 3) := by decide +kernel
theorem dX5_session_29 : decode cX5_session 29 = .ok (.iload_n 2, 1) := by decide +kernel
theorem dX5_session_30 : decode cX5_session 30 = .ok (.ireturn, 1) := by decide +kernel
set_option maxRecDepth 20000 in
theorem ggX5_reset_X3_startSession : GoodIn wsX5_reset wsX3_startSession := goodIn_r _ [7, 8, 9, 10, 11, 12, 33, 34, 35, 36, 37, 38, 39, 40, 41, 42, 43] (by decide +kernel) (by decide +kernel)
set_option maxRecDepth 20000 in
theorem gX5_reset_X3_startSession : GoodIn wsX5_reset (wsV RX5 110 RX3 yX3_startSession wsX3_startSession) := goodIn_app (goodIn_of _ (by decide +kernel)) ggX5_reset_X3_startSession
set_option maxRecDepth 20000 in
theorem ggX5_reset_X3_dropOctets : GoodIn wsX5_reset wsX3_dropOctets := goodIn_r _ [16, 17, 18, 33, 34, 35, 36, 37, 38, 39, 40, 41, 42, 43] (by decide +kernel) (by decide +kernel)
set_option maxRecDepth 20000 in
theorem gX5_reset_X3_dropOctets : GoodIn wsX5_reset (wsV RX5 97 RX3 yX3_dropOctets wsX3_dropOctets) := goodIn_app (goodIn_of _ (by decide +kernel)) ggX5_reset_X3_dropOctets
set_option maxRecDepth 20000 in
theorem ggX5_reset_X0_forgetAll : GoodIn wsX5_reset wsX0_forgetAll := goodIn_r _ [23, 24, 44, 45] (by decide +kernel) (by decide +kernel)
set_option maxRecDepth 20000 in
theorem gX5_reset_X0_forgetAll : GoodIn wsX5_reset (wsV RX5 113 RX0 yX0_forgetAll wsX0_forgetAll) := goodIn_app (goodIn_of _ (by decide +kernel)) ggX5_reset_X0_forgetAll
theorem dX5_reset_0 : decode cX5_reset 0 = .ok (.iconst 0, 1) := by decide +kernel
theorem dX5_reset_1 : decode cX5_reset 1 = .ok (.istore_n 1, 1) := by decide +kernel
theorem dX5_reset_2 : decode cX5_reset 2 = .ok (.iconst 0, 1) := by decide +kernel
theorem dX5_reset_3 : decode cX5_reset 3 = .ok (.istore_n 2, 1) := by decide +kernel
theorem dX5_reset_4 : decode cX5_reset 4 = .ok (.iload_n 2, 1) := by decide +kernel
theorem dX5_reset_5 : decode cX5_reset 5 = .ok (.aload_n 0, 1) := by decide +kernel
theorem dX5_reset_6 : decode cX5_reset 6 = .ok (.getfield 38, 3) := by decide +kernel
theorem dX5_reset_9 : decode cX5_reset 9 = .ok (.arraylength, 1) := by decide +kernel
theorem dX5_reset_10 : decode cX5_reset 10 = .ok (.if_icmp .ge 35, 3) := by decide +kernel
theorem dX5_reset_13 : decode cX5_reset 13 = .ok (.aload_n 0, 1) := by decide +kernel
theorem dX5_reset_14 : decode cX5_reset 14 = .ok (.getfield 38, 3) := by decide +kernel
theorem dX5_reset_17 : decode cX5_reset 17 = .ok (.iload_n 2, 1) := by decide +kernel
theorem dX5_reset_18 : decode cX5_reset 18 = .ok (.aaload, 1) := by decide +kernel
theorem dX5_reset_19 : decode cX5_reset 19 = .ok (.astore_n 3, 1) := by decide +kernel
theorem dX5_reset_20 : decode cX5_reset 20 = .ok (.aload_n 3, 1) := by decide +kernel
theorem dX5_reset_21 : decode cX5_reset 21 = .ok (.getfield 104, 3) := by decide +kernel
theorem dX5_reset_24 : decode cX5_reset 24 = .ok (.ifCond .eq 6, 3) := by decide +kernel
theorem dX5_reset_27 : decode cX5_reset 27 = .ok (.iinc 1 1, 3) := by decide +kernel
theorem dX5_reset_30 : decode cX5_reset 30 = .ok (.aload_n 3, 1) := by decide +kernel
theorem dX5_reset_31 : decode cX5_reset 31 = .ok (.iconst 1, 1) := by decide +kernel
theorem dX5_reset_32 : decode cX5_reset 32 = .ok (.invokevirtual 110, 3) := by decide +kernel
theorem dX5_reset_35 : decode cX5_reset 35 = .ok (.aload_n 3, 1) := by decide +kernel
theorem dX5_reset_36 : decode cX5_reset 36 = .ok (.invokevirtual 97, 3) := by decide +kernel
theorem dX5_reset_39 : decode cX5_reset 39 = .ok (.iinc 2 1, 3) := by decide +kernel
theorem dX5_reset_42 : decode cX5_reset 42 = .ok (.goto (-38), 3) := by decide +kernel
theorem dX5_reset_45 : decode cX5_reset 45 = .ok (.aload_n 0, 1) := by decide +kernel
theorem dX5_reset_46 : decode cX5_reset 46 = .ok (.getfield 25, 3) := by decide +kernel
theorem dX5_reset_49 : decode cX5_reset 49 = .ok (.invokevirtual 113, 3) := by decide +kernel
theorem dX5_reset_52 : decode cX5_reset 52 = .ok (.iload_n 1, 1) := by decide +kernel
theorem dX5_reset_53 : decode cX5_reset 53 = .ok (.ireturn, 1) := by decide +kernel
theorem dX5_role_0 : decode cX5_role 0 = .ok (.iload_n 1, 1) := by decide +kernel
theorem dX5_role_1 : decode cX5_role 1 = .ok (.iconst 1, 1) := by decide +kernel
theorem dX5_role_2 : decode cX5_role 2 = .ok (.if_icmp .lt 9, 3) := by decide +kernel
theorem dX5_role_5 : decode cX5_role 5 = .ok (.iload_n 1, 1) := by decide +kernel
theorem dX5_role_6 : decode cX5_role 6 = .ok (.bipush 8, 2) := by decide +kernel
theorem dX5_role_8 : decode cX5_role 8 = .ok (.if_icmp .le 5, 3) := by decide +kernel
theorem dX5_role_11 : decode cX5_role 11 = .ok (.iconst (-1), 1) := by decide +kernel
theorem dX5_role_12 : decode cX5_role 12 = .ok (.ireturn, 1) := by decide +kernel
theorem dX5_role_13 : decode cX5_role 13 = .ok (.iload_n 2, 1) := by decide +kernel
theorem dX5_role_14 : decode cX5_role 14 = .ok (.ifCond .eq 12, 3) := by decide +kernel
theorem dX5_role_17 : decode cX5_role 17 = .ok (.lload_n 3, 1) := by decide +kernel
theorem dX5_role_18 : decode cX5_role 18 = .ok (.aload_n 0, 1) := by decide +kernel
theorem dX5_role_19 : decode cX5_role 19 = .ok (.getfield 65, 3) := by decide +kernel
theorem dX5_role_22 : decode cX5_role 22 = .ok (.lcmp, 1) := by decide +kernel
theorem dX5_role_23 : decode cX5_role 23 = .ok (.ifCond .gt 5, 3) := by decide +kernel
theorem dX5_role_26 : decode cX5_role 26 = .ok (.iconst 0, 1) := by decide +kernel
theorem dX5_role_27 : decode cX5_role 27 = .ok (.ireturn, 1) := by decide +kernel
theorem dX5_role_28 : decode cX5_role 28 = .ok (.aload_n 0, 1) := by decide +kernel
theorem dX5_role_29 : decode cX5_role 29 = .ok (.getfield 45, 3) := by decide +kernel
theorem dX5_role_32 : decode cX5_role 32 = .ok (.lload_n 3, 1) := by decide +kernel
theorem dX5_role_33 : decode cX5_role 33 = .ok (.putfield 116, 3) := by decide +kernel
theorem dX5_role_36 : decode cX5_role 36 = .ok (.iconst 1, 1) := by decide +kernel
theorem dX5_role_37 : decode cX5_role 37 = .ok (.ireturn, 1) := by decide +kernel
set_option maxRecDepth 20000 in
theorem ggX5_left_X5_madeLevel : GoodIn wsX5_left wsX5_madeLevel := goodIn_r _ [8, 9, 17, 18, 19, 20, 21, 22, 23, 24] (by decide +kernel) (by decide +kernel)
set_option maxRecDepth 20000 in
theorem gX5_left_X5_madeLevel : GoodIn wsX5_left (wsV RX5 61 RX5 yX5_madeLevel wsX5_madeLevel) := goodIn_app (goodIn_of _ (by decide +kernel)) ggX5_left_X5_madeLevel
set_option maxRecDepth 20000 in
theorem ggX5_left_X3_lockedUntil : GoodIn wsX5_left wsX3_lockedUntil := goodIn_ca (goodIn_r _ [14, 15, 16, 25, 26, 27, 28, 29, 30, 31, 32, 33, 34, 35] (by decide +kernel) (by decide +kernel)) (goodIn_sub (fun _ h => List.mem_cons_of_mem _ (List.mem_append_right _ h)) (by decide +kernel))
set_option maxRecDepth 20000 in
theorem gX5_left_X3_lockedUntil : GoodIn wsX5_left (wsV RX5 119 RX3 yX3_lockedUntil wsX3_lockedUntil) := goodIn_app (goodIn_of _ (by decide +kernel)) ggX5_left_X3_lockedUntil
theorem dX5_left_0 : decode cX5_left 0 = .ok (.aload_n 0, 1) := by decide +kernel
theorem dX5_left_1 : decode cX5_left 1 = .ok (.iload_n 1, 1) := by decide +kernel
theorem dX5_left_2 : decode cX5_left 2 = .ok (.invokevirtual 61, 3) := by decide +kernel
theorem dX5_left_5 : decode cX5_left 5 = .ok (.ifnonnull 5, 3) := by decide +kernel
theorem dX5_left_8 : decode cX5_left 8 = .ok (.iconst (-1), 1) := by decide +kernel
theorem dX5_left_9 : decode cX5_left 9 = .ok (.ireturn, 1) := by decide +kernel
theorem dX5_left_10 : decode cX5_left 10 = .ok (.aload_n 0, 1) := by decide +kernel
theorem dX5_left_11 : decode cX5_left 11 = .ok (.getfield 45, 3) := by decide +kernel
theorem dX5_left_14 : decode cX5_left 14 = .ok (.iload_n 1, 1) := by decide +kernel
theorem dX5_left_15 : decode cX5_left 15 = .ok (.invokevirtual 119, 3) := by decide +kernel
theorem dX5_left_18 : decode cX5_left 18 = .ok (.lstore 4, 2) := by decide +kernel
theorem dX5_left_20 : decode cX5_left 20 = .ok (.lload_n 2, 1) := by decide +kernel
theorem dX5_left_21 : decode cX5_left 21 = .ok (.lload 4, 2) := by decide +kernel
theorem dX5_left_23 : decode cX5_left 23 = .ok (.lcmp, 1) := by decide +kernel
theorem dX5_left_24 : decode cX5_left 24 = .ok (.ifCond .lt 5, 3) := by decide +kernel
theorem dX5_left_27 : decode cX5_left 27 = .ok (.iconst 0, 1) := by decide +kernel
theorem dX5_left_28 : decode cX5_left 28 = .ok (.ireturn, 1) := by decide +kernel
theorem dX5_left_29 : decode cX5_left 29 = .ok (.lload_n 2, 1) := by decide +kernel
theorem dX5_left_30 : decode cX5_left 30 = .ok (.lload 4, 2) := by decide +kernel
theorem dX5_left_32 : decode cX5_left 32 = .ok (.ldc2_w 123, 3) := by decide +kernel
theorem dX5_left_35 : decode cX5_left 35 = .ok (.lsub, 1) := by decide +kernel
theorem dX5_left_36 : decode cX5_left 36 = .ok (.lcmp, 1) := by decide +kernel
theorem dX5_left_37 : decode cX5_left 37 = .ok (.ifCond .ge 6, 3) := by decide +kernel
theorem dX5_left_40 : decode cX5_left 40 = .ok (.ldc 125, 2) := by decide +kernel
theorem dX5_left_42 : decode cX5_left 42 = .ok (.ireturn, 1) := by decide +kernel
theorem dX5_left_43 : decode cX5_left 43 = .ok (.lload 4, 2) := by decide +kernel
theorem dX5_left_45 : decode cX5_left 45 = .ok (.lload_n 2, 1) := by decide +kernel
theorem dX5_left_46 : decode cX5_left 46 = .ok (.lsub, 1) := by decide +kernel
theorem dX5_left_47 : decode cX5_left 47 = .ok (.l2i, 1) := by decide +kernel
theorem dX5_left_48 : decode cX5_left 48 = .ok (.ireturn, 1) := by decide +kernel
set_option maxRecDepth 20000 in
theorem ggX5_log_X4_has : GoodIn wsX5_log wsX4_has := goodIn_r _ [6, 7, 22, 23, 24] (by decide +kernel) (by decide +kernel)
set_option maxRecDepth 20000 in
theorem gX5_log_X4_has : GoodIn wsX5_log (wsV RX5 129 RX4 yX4_has wsX4_has) := goodIn_app (goodIn_of _ (by decide +kernel)) ggX5_log_X4_has
set_option maxRecDepth 20000 in
theorem ggX5_log_X4_part : GoodIn wsX5_log wsX4_part := goodIn_ca (goodIn_r _ [11, 12, 13, 3, 4, 5, 6, 7, 22, 23, 24] (by decide +kernel) (by decide +kernel)) (goodIn_sub (fun _ h => List.mem_cons_of_mem _ (List.mem_append_right _ h)) (by decide +kernel))
set_option maxRecDepth 20000 in
theorem gX5_log_X4_part : GoodIn wsX5_log (wsV RX5 133 RX4 yX4_part wsX4_part) := goodIn_app (goodIn_of _ (by decide +kernel)) ggX5_log_X4_part
theorem dX5_log_0 : decode cX5_log 0 = .ok (.iload_n 1, 1) := by decide +kernel
theorem dX5_log_1 : decode cX5_log 1 = .ok (.iconst (-1), 1) := by decide +kernel
theorem dX5_log_2 : decode cX5_log 2 = .ok (.if_icmp .ne 15, 3) := by decide +kernel
theorem dX5_log_5 : decode cX5_log 5 = .ok (.iload_n 2, 1) := by decide +kernel
theorem dX5_log_6 : decode cX5_log 6 = .ok (.ifCond .ne 11, 3) := by decide +kernel
theorem dX5_log_9 : decode cX5_log 9 = .ok (.aload_n 0, 1) := by decide +kernel
theorem dX5_log_10 : decode cX5_log 10 = .ok (.getfield 32, 3) := by decide +kernel
theorem dX5_log_13 : decode cX5_log 13 = .ok (.getfield 126, 3) := by decide +kernel
theorem dX5_log_16 : decode cX5_log 16 = .ok (.ireturn, 1) := by decide +kernel
theorem dX5_log_17 : decode cX5_log 17 = .ok (.aload_n 0, 1) := by decide +kernel
theorem dX5_log_18 : decode cX5_log 18 = .ok (.getfield 32, 3) := by decide +kernel
theorem dX5_log_21 : decode cX5_log 21 = .ok (.iload_n 1, 1) := by decide +kernel
theorem dX5_log_22 : decode cX5_log 22 = .ok (.invokevirtual 129, 3) := by decide +kernel
theorem dX5_log_25 : decode cX5_log 25 = .ok (.ifCond .ne 5, 3) := by decide +kernel
theorem dX5_log_28 : decode cX5_log 28 = .ok (.iconst (-1), 1) := by decide +kernel
theorem dX5_log_29 : decode cX5_log 29 = .ok (.ireturn, 1) := by decide +kernel
theorem dX5_log_30 : decode cX5_log 30 = .ok (.iload_n 2, 1) := by decide +kernel
theorem dX5_log_31 : decode cX5_log 31 = .ok (.ifCond .lt 8, 3) := by decide +kernel
theorem dX5_log_34 : decode cX5_log 34 = .ok (.iload_n 2, 1) := by decide +kernel
theorem dX5_log_35 : decode cX5_log 35 = .ok (.iconst 3, 1) := by decide +kernel
theorem dX5_log_36 : decode cX5_log 36 = .ok (.if_icmp .lt 6, 3) := by decide +kernel
theorem dX5_log_39 : decode cX5_log 39 = .ok (.bipush (-2), 2) := by decide +kernel
theorem dX5_log_41 : decode cX5_log 41 = .ok (.ireturn, 1) := by decide +kernel
theorem dX5_log_42 : decode cX5_log 42 = .ok (.aload_n 0, 1) := by decide +kernel
theorem dX5_log_43 : decode cX5_log 43 = .ok (.getfield 32, 3) := by decide +kernel
theorem dX5_log_46 : decode cX5_log 46 = .ok (.iload_n 1, 1) := by decide +kernel
theorem dX5_log_47 : decode cX5_log 47 = .ok (.iload_n 2, 1) := by decide +kernel
theorem dX5_log_48 : decode cX5_log 48 = .ok (.invokevirtual 133, 3) := by decide +kernel
theorem dX5_log_51 : decode cX5_log 51 = .ok (.ireturn, 1) := by decide +kernel
set_option maxRecDepth 20000 in
theorem ggX5_digit_X5_countDigits : GoodIn wsX5_digit wsX5_countDigits := goodIn_r _ [10, 6] (by decide +kernel) (by decide +kernel)
set_option maxRecDepth 20000 in
theorem gX5_digit_X5_countDigits : GoodIn wsX5_digit (va_wsS RX5 139 yX5_countDigits wsX5_countDigits) := goodIn_app (goodIn_of _ (by decide +kernel)) ggX5_digit_X5_countDigits
theorem dX5_digit_0 : decode cX5_digit 0 = .ok (.aload_n 0, 1) := by decide +kernel
theorem dX5_digit_1 : decode cX5_digit 1 = .ok (.getfield 45, 3) := by decide +kernel
theorem dX5_digit_4 : decode cX5_digit 4 = .ok (.getfield 84, 3) := by decide +kernel
theorem dX5_digit_7 : decode cX5_digit 7 = .ok (.i2l, 1) := by decide +kernel
theorem dX5_digit_8 : decode cX5_digit 8 = .ok (.ldc2_w 137, 3) := by decide +kernel
theorem dX5_digit_11 : decode cX5_digit 11 = .ok (.land, 1) := by decide +kernel
theorem dX5_digit_12 : decode cX5_digit 12 = .ok (.lstore_n 2, 1) := by decide +kernel
theorem dX5_digit_13 : decode cX5_digit 13 = .ok (.lload_n 2, 1) := by decide +kernel
theorem dX5_digit_14 : decode cX5_digit 14 = .ok (.invokestatic 139, 3) := by decide +kernel
theorem dX5_digit_17 : decode cX5_digit 17 = .ok (.istore 4, 2) := by decide +kernel
theorem dX5_digit_19 : decode cX5_digit 19 = .ok (.iload_n 1, 1) := by decide +kernel
theorem dX5_digit_20 : decode cX5_digit 20 = .ok (.ifCond .lt 9, 3) := by decide +kernel
theorem dX5_digit_23 : decode cX5_digit 23 = .ok (.iload_n 1, 1) := by decide +kernel
theorem dX5_digit_24 : decode cX5_digit 24 = .ok (.iload 4, 2) := by decide +kernel
theorem dX5_digit_26 : decode cX5_digit 26 = .ok (.if_icmp .lt 11, 3) := by decide +kernel
theorem dX5_digit_29 : decode cX5_digit 29 = .ok (.new 81, 3) := by decide +kernel
theorem dX5_digit_32 : decode cX5_digit 32 = .ok (.dup, 1) := by decide +kernel
theorem dX5_digit_33 : decode cX5_digit 33 = .ok (.invokespecial 83, 3) := by decide +kernel
theorem dX5_digit_36 : decode cX5_digit 36 = .ok (.athrow, 1) := by decide +kernel
theorem dX5_digit_37 : decode cX5_digit 37 = .ok (.iload 4, 2) := by decide +kernel
theorem dX5_digit_39 : decode cX5_digit 39 = .ok (.iconst 1, 1) := by decide +kernel
theorem dX5_digit_40 : decode cX5_digit 40 = .ok (.isub, 1) := by decide +kernel
theorem dX5_digit_41 : decode cX5_digit 41 = .ok (.istore 5, 2) := by decide +kernel
theorem dX5_digit_43 : decode cX5_digit 43 = .ok (.iload 5, 2) := by decide +kernel
theorem dX5_digit_45 : decode cX5_digit 45 = .ok (.iload_n 1, 1) := by decide +kernel
theorem dX5_digit_46 : decode cX5_digit 46 = .ok (.if_icmp .le 15, 3) := by decide +kernel
theorem dX5_digit_49 : decode cX5_digit 49 = .ok (.lload_n 2, 1) := by decide +kernel
theorem dX5_digit_50 : decode cX5_digit 50 = .ok (.ldc2_w 143, 3) := by decide +kernel
theorem dX5_digit_53 : decode cX5_digit 53 = .ok (.ldiv, 1) := by decide +kernel
theorem dX5_digit_54 : decode cX5_digit 54 = .ok (.lstore_n 2, 1) := by decide +kernel
theorem dX5_digit_55 : decode cX5_digit 55 = .ok (.iinc 5 (-1), 3) := by decide +kernel
theorem dX5_digit_58 : decode cX5_digit 58 = .ok (.goto (-15), 3) := by decide +kernel
theorem dX5_digit_61 : decode cX5_digit 61 = .ok (.lload_n 2, 1) := by decide +kernel
theorem dX5_digit_62 : decode cX5_digit 62 = .ok (.ldc2_w 143, 3) := by decide +kernel
theorem dX5_digit_65 : decode cX5_digit 65 = .ok (.lrem, 1) := by decide +kernel
theorem dX5_digit_66 : decode cX5_digit 66 = .ok (.l2i, 1) := by decide +kernel
theorem dX5_digit_67 : decode cX5_digit 67 = .ok (.ireturn, 1) := by decide +kernel
theorem dX5_tester_0 : decode cX5_tester 0 = .ok (.iload_n 1, 1) := by decide +kernel
theorem dX5_tester_1 : decode cX5_tester 1 = .ok (.iconst 1, 1) := by decide +kernel
theorem dX5_tester_2 : decode cX5_tester 2 = .ok (.if_icmp .lt 8, 3) := by decide +kernel
theorem dX5_tester_5 : decode cX5_tester 5 = .ok (.iload_n 1, 1) := by decide +kernel
theorem dX5_tester_6 : decode cX5_tester 6 = .ok (.iconst 4, 1) := by decide +kernel
theorem dX5_tester_7 : decode cX5_tester 7 = .ok (.if_icmp .le 6, 3) := by decide +kernel
theorem dX5_tester_10 : decode cX5_tester 10 = .ok (.bipush (-2), 2) := by decide +kernel
theorem dX5_tester_12 : decode cX5_tester 12 = .ok (.ireturn, 1) := by decide +kernel
theorem dX5_tester_13 : decode cX5_tester 13 = .ok (.aload_n 0, 1) := by decide +kernel
theorem dX5_tester_14 : decode cX5_tester 14 = .ok (.getfield 45, 3) := by decide +kernel
theorem dX5_tester_17 : decode cX5_tester 17 = .ok (.getfield 75, 3) := by decide +kernel
theorem dX5_tester_20 : decode cX5_tester 20 = .ok (.istore_n 2, 1) := by decide +kernel
theorem dX5_tester_21 : decode cX5_tester 21 = .ok (.aload_n 0, 1) := by decide +kernel
theorem dX5_tester_22 : decode cX5_tester 22 = .ok (.aload_n 0, 1) := by decide +kernel
theorem dX5_tester_23 : decode cX5_tester 23 = .ok (.getfield 38, 3) := by decide +kernel
theorem dX5_tester_26 : decode cX5_tester 26 = .ok (.iload_n 1, 1) := by decide +kernel
theorem dX5_tester_27 : decode cX5_tester 27 = .ok (.iconst 1, 1) := by decide +kernel
theorem dX5_tester_28 : decode cX5_tester 28 = .ok (.isub, 1) := by decide +kernel
theorem dX5_tester_29 : decode cX5_tester 29 = .ok (.aaload, 1) := by decide +kernel
theorem dX5_tester_30 : decode cX5_tester 30 = .ok (.putfield 45, 3) := by decide +kernel
theorem dX5_tester_33 : decode cX5_tester 33 = .ok (.iload_n 2, 1) := by decide +kernel
theorem dX5_tester_34 : decode cX5_tester 34 = .ok (.ireturn, 1) := by decide +kernel
theorem dX5_madeLevel_0 : decode cX5_madeLevel 0 = .ok (.iload_n 1, 1) := by decide +kernel
theorem dX5_madeLevel_1 : decode cX5_madeLevel 1 = .ok (.iconst 1, 1) := by decide +kernel
theorem dX5_madeLevel_2 : decode cX5_madeLevel 2 = .ok (.if_icmp .lt 9, 3) := by decide +kernel
theorem dX5_madeLevel_5 : decode cX5_madeLevel 5 = .ok (.iload_n 1, 1) := by decide +kernel
theorem dX5_madeLevel_6 : decode cX5_madeLevel 6 = .ok (.bipush 20, 2) := by decide +kernel
theorem dX5_madeLevel_8 : decode cX5_madeLevel 8 = .ok (.if_icmp .le 7, 3) := by decide +kernel
theorem dX5_madeLevel_11 : decode cX5_madeLevel 11 = .ok (.aconst_null, 1) := by decide +kernel
theorem dX5_madeLevel_12 : decode cX5_madeLevel 12 = .ok (.goto 9, 3) := by decide +kernel
theorem dX5_madeLevel_15 : decode cX5_madeLevel 15 = .ok (.aload_n 0, 1) := by decide +kernel
theorem dX5_madeLevel_16 : decode cX5_madeLevel 16 = .ok (.getfield 11, 3) := by decide +kernel
theorem dX5_madeLevel_19 : decode cX5_madeLevel 19 = .ok (.iload_n 1, 1) := by decide +kernel
theorem dX5_madeLevel_20 : decode cX5_madeLevel 20 = .ok (.aaload, 1) := by decide +kernel
theorem dX5_madeLevel_21 : decode cX5_madeLevel 21 = .ok (.areturn, 1) := by decide +kernel
set_option maxRecDepth 20000 in
theorem ggX5_askForSeed_X1_isForSession : GoodIn wsX5_askForSeed wsX1_isForSession := goodIn_r _ [9, 10, 75, 76, 77, 78] (by decide +kernel) (by decide +kernel)
set_option maxRecDepth 20000 in
theorem gX5_askForSeed_X1_isForSession : GoodIn wsX5_askForSeed (wsV RX5 145 RX1 yX1_isForSession wsX1_isForSession) := goodIn_app (goodIn_of _ (by decide +kernel)) ggX5_askForSeed_X1_isForSession
set_option maxRecDepth 20000 in
theorem ggX5_askForSeed_X1_needsRole : GoodIn wsX5_askForSeed wsX1_needsRole := goodIn_r _ [14, 10, 75, 76, 77, 78] (by decide +kernel) (by decide +kernel)
set_option maxRecDepth 20000 in
theorem gX5_askForSeed_X1_needsRole : GoodIn wsX5_askForSeed (wsV RX5 148 RX1 yX1_needsRole wsX1_needsRole) := goodIn_app (goodIn_of _ (by decide +kernel)) ggX5_askForSeed_X1_needsRole
set_option maxRecDepth 20000 in
theorem ggX5_askForSeed_X3_lockedUntil : GoodIn wsX5_askForSeed wsX3_lockedUntil := goodIn_ca (goodIn_r _ [19, 20, 21, 64, 65, 66, 67, 68, 69, 70, 71, 72, 73, 74] (by decide +kernel) (by decide +kernel)) (goodIn_sub (fun _ h => List.mem_cons_of_mem _ (List.mem_append_right _ h)) (by decide +kernel))
set_option maxRecDepth 20000 in
theorem gX5_askForSeed_X3_lockedUntil : GoodIn wsX5_askForSeed (wsV RX5 119 RX3 yX3_lockedUntil wsX3_lockedUntil) := goodIn_app (goodIn_of _ (by decide +kernel)) ggX5_askForSeed_X3_lockedUntil
set_option maxRecDepth 20000 in
theorem ggX5_askForSeed_X2_takeSeed : GoodIn wsX5_askForSeed wsX2_takeSeed := goodIn_ca (goodIn_r _ [26, 27, 28, 29, 30, 25, 31, 32, 33, 34, 35, 36, 37, 38, 39, 40, 41, 42, 43, 44, 79, 80, 81, 82, 83] (by decide +kernel) (by decide +kernel)) (goodIn_sub (fun _ h => List.mem_cons_of_mem _ (List.mem_append_right _ h)) (by decide +kernel))
set_option maxRecDepth 20000 in
theorem gX5_askForSeed_X2_takeSeed : GoodIn wsX5_askForSeed (wsV RX5 153 RX2 yX2_takeSeed wsX2_takeSeed) := goodIn_app (goodIn_of _ (by decide +kernel)) ggX5_askForSeed_X2_takeSeed
set_option maxRecDepth 20000 in
theorem ggX5_askForSeed_X0_add : GoodIn wsX5_askForSeed wsX0_add := goodIn_ca (goodIn_r _ [48, 43, 44, 82, 83] (by decide +kernel) (by decide +kernel)) (goodIn_sub (fun _ h => List.mem_cons_of_mem _ (List.mem_append_right _ h)) (by decide +kernel))
set_option maxRecDepth 20000 in
theorem gX5_askForSeed_X0_add : GoodIn wsX5_askForSeed (wsV RX5 157 RX0 yX0_add wsX0_add) := goodIn_app (goodIn_of _ (by decide +kernel)) ggX5_askForSeed_X0_add
set_option maxRecDepth 20000 in
theorem ggX5_askForSeed_X3_awaitKey : GoodIn wsX5_askForSeed wsX3_awaitKey := goodIn_r _ [52, 53, 54, 55, 64, 65, 66, 67, 68, 69, 70, 71, 72, 73, 74] (by decide +kernel) (by decide +kernel)
set_option maxRecDepth 20000 in
theorem gX5_askForSeed_X3_awaitKey : GoodIn wsX5_askForSeed (wsV RX5 158 RX3 yX3_awaitKey wsX3_awaitKey) := goodIn_app (goodIn_of _ (by decide +kernel)) ggX5_askForSeed_X3_awaitKey
theorem dX5_askForSeed_0 : decode cX5_askForSeed 0 = .ok (.aload_n 1, 1) := by decide +kernel
theorem dX5_askForSeed_1 : decode cX5_askForSeed 1 = .ok (.aload_n 0, 1) := by decide +kernel
theorem dX5_askForSeed_2 : decode cX5_askForSeed 2 = .ok (.getfield 45, 3) := by decide +kernel
theorem dX5_askForSeed_5 : decode cX5_askForSeed 5 = .ok (.getfield 107, 3) := by decide +kernel
theorem dX5_askForSeed_8 : decode cX5_askForSeed 8 = .ok (.invokevirtual 145, 3) := by decide +kernel
theorem dX5_askForSeed_11 : decode cX5_askForSeed 11 = .ok (.ifCond .ne 6, 3) := by decide +kernel
theorem dX5_askForSeed_14 : decode cX5_askForSeed 14 = .ok (.bipush (-18), 2) := by decide +kernel
theorem dX5_askForSeed_16 : decode cX5_askForSeed 16 = .ok (.ireturn, 1) := by decide +kernel
theorem dX5_askForSeed_17 : decode cX5_askForSeed 17 = .ok (.aload_n 1, 1) := by decide +kernel
theorem dX5_askForSeed_18 : decode cX5_askForSeed 18 = .ok (.invokevirtual 148, 3) := by decide +kernel
theorem dX5_askForSeed_21 : decode cX5_askForSeed 21 = .ok (.ifCond .eq 21, 3) := by decide +kernel
theorem dX5_askForSeed_24 : decode cX5_askForSeed 24 = .ok (.aload_n 0, 1) := by decide +kernel
theorem dX5_askForSeed_25 : decode cX5_askForSeed 25 = .ok (.getfield 65, 3) := by decide +kernel
theorem dX5_askForSeed_28 : decode cX5_askForSeed 28 = .ok (.aload_n 0, 1) := by decide +kernel
theorem dX5_askForSeed_29 : decode cX5_askForSeed 29 = .ok (.getfield 45, 3) := by decide +kernel
theorem dX5_askForSeed_32 : decode cX5_askForSeed 32 = .ok (.getfield 116, 3) := by decide +kernel
theorem dX5_askForSeed_35 : decode cX5_askForSeed 35 = .ok (.lcmp, 1) := by decide +kernel
theorem dX5_askForSeed_36 : decode cX5_askForSeed 36 = .ok (.ifCond .lt 6, 3) := by decide +kernel
theorem dX5_askForSeed_39 : decode cX5_askForSeed 39 = .ok (.bipush (-51), 2) := by decide +kernel
theorem dX5_askForSeed_41 : decode cX5_askForSeed 41 = .ok (.ireturn, 1) := by decide +kernel
theorem dX5_askForSeed_42 : decode cX5_askForSeed 42 = .ok (.aload_n 0, 1) := by decide +kernel
theorem dX5_askForSeed_43 : decode cX5_askForSeed 43 = .ok (.getfield 45, 3) := by decide +kernel
theorem dX5_askForSeed_46 : decode cX5_askForSeed 46 = .ok (.getfield 104, 3) := by decide +kernel
theorem dX5_askForSeed_49 : decode cX5_askForSeed 49 = .ok (.aload_n 1, 1) := by decide +kernel
theorem dX5_askForSeed_50 : decode cX5_askForSeed 50 = .ok (.getfield 152, 3) := by decide +kernel
theorem dX5_askForSeed_53 : decode cX5_askForSeed 53 = .ok (.if_icmp .ne 13, 3) := by decide +kernel
theorem dX5_askForSeed_56 : decode cX5_askForSeed 56 = .ok (.aload_n 0, 1) := by decide +kernel
theorem dX5_askForSeed_57 : decode cX5_askForSeed 57 = .ok (.getfield 45, 3) := by decide +kernel
theorem dX5_askForSeed_60 : decode cX5_askForSeed 60 = .ok (.iconst 0, 1) := by decide +kernel
theorem dX5_askForSeed_61 : decode cX5_askForSeed 61 = .ok (.putfield 84, 3) := by decide +kernel
theorem dX5_askForSeed_64 : decode cX5_askForSeed 64 = .ok (.iconst 4, 1) := by decide +kernel
theorem dX5_askForSeed_65 : decode cX5_askForSeed 65 = .ok (.ireturn, 1) := by decide +kernel
theorem dX5_askForSeed_66 : decode cX5_askForSeed 66 = .ok (.aload_n 0, 1) := by decide +kernel
theorem dX5_askForSeed_67 : decode cX5_askForSeed 67 = .ok (.getfield 65, 3) := by decide +kernel
theorem dX5_askForSeed_70 : decode cX5_askForSeed 70 = .ok (.aload_n 0, 1) := by decide +kernel
theorem dX5_askForSeed_71 : decode cX5_askForSeed 71 = .ok (.getfield 45, 3) := by decide +kernel
theorem dX5_askForSeed_74 : decode cX5_askForSeed 74 = .ok (.aload_n 1, 1) := by decide +kernel
theorem dX5_askForSeed_75 : decode cX5_askForSeed 75 = .ok (.getfield 152, 3) := by decide +kernel
theorem dX5_askForSeed_78 : decode cX5_askForSeed 78 = .ok (.invokevirtual 119, 3) := by decide +kernel
theorem dX5_askForSeed_81 : decode cX5_askForSeed 81 = .ok (.lcmp, 1) := by decide +kernel
theorem dX5_askForSeed_82 : decode cX5_askForSeed 82 = .ok (.ifCond .ge 6, 3) := by decide +kernel
theorem dX5_askForSeed_85 : decode cX5_askForSeed 85 = .ok (.bipush (-55), 2) := by decide +kernel
theorem dX5_askForSeed_87 : decode cX5_askForSeed 87 = .ok (.ireturn, 1) := by decide +kernel
theorem dX5_askForSeed_88 : decode cX5_askForSeed 88 = .ok (.aload_n 0, 1) := by decide +kernel
theorem dX5_askForSeed_89 : decode cX5_askForSeed 89 = .ok (.getfield 18, 3) := by decide +kernel
theorem dX5_askForSeed_92 : decode cX5_askForSeed 92 = .ok (.aload_n 0, 1) := by decide +kernel
theorem dX5_askForSeed_93 : decode cX5_askForSeed 93 = .ok (.getfield 25, 3) := by decide +kernel
theorem dX5_askForSeed_96 : decode cX5_askForSeed 96 = .ok (.invokevirtual 153, 3) := by decide +kernel
theorem dX5_askForSeed_99 : decode cX5_askForSeed 99 = .ok (.istore_n 2, 1) := by decide +kernel
theorem dX5_askForSeed_100 : decode cX5_askForSeed 100 = .ok (.iload_n 2, 1) := by decide +kernel
theorem dX5_askForSeed_101 : decode cX5_askForSeed 101 = .ok (.ifCond .ne 6, 3) := by decide +kernel
theorem dX5_askForSeed_104 : decode cX5_askForSeed 104 = .ok (.bipush (-34), 2) := by decide +kernel
theorem dX5_askForSeed_106 : decode cX5_askForSeed 106 = .ok (.ireturn, 1) := by decide +kernel
theorem dX5_askForSeed_107 : decode cX5_askForSeed 107 = .ok (.aload_n 0, 1) := by decide +kernel
theorem dX5_askForSeed_108 : decode cX5_askForSeed 108 = .ok (.getfield 25, 3) := by decide +kernel
theorem dX5_askForSeed_111 : decode cX5_askForSeed 111 = .ok (.iload_n 2, 1) := by decide +kernel
theorem dX5_askForSeed_112 : decode cX5_askForSeed 112 = .ok (.invokevirtual 157, 3) := by decide +kernel
theorem dX5_askForSeed_115 : decode cX5_askForSeed 115 = .ok (.aload_n 0, 1) := by decide +kernel
theorem dX5_askForSeed_116 : decode cX5_askForSeed 116 = .ok (.getfield 45, 3) := by decide +kernel
theorem dX5_askForSeed_119 : decode cX5_askForSeed 119 = .ok (.aload_n 1, 1) := by decide +kernel
theorem dX5_askForSeed_120 : decode cX5_askForSeed 120 = .ok (.getfield 152, 3) := by decide +kernel
theorem dX5_askForSeed_123 : decode cX5_askForSeed 123 = .ok (.iload_n 2, 1) := by decide +kernel
theorem dX5_askForSeed_124 : decode cX5_askForSeed 124 = .ok (.invokevirtual 158, 3) := by decide +kernel
theorem dX5_askForSeed_127 : decode cX5_askForSeed 127 = .ok (.iconst 4, 1) := by decide +kernel
theorem dX5_askForSeed_128 : decode cX5_askForSeed 128 = .ok (.ireturn, 1) := by decide +kernel
set_option maxRecDepth 20000 in
theorem ggX5_tryKey_X1_keyTo : GoodIn wsX5_tryKey wsX1_keyTo := goodIn_r _ [7, 8, 9, 10, 11, 12, 13, 14, 6, 15, 16, 51, 52, 53, 54] (by decide +kernel) (by decide +kernel)
set_option maxRecDepth 20000 in
theorem gX5_tryKey_X1_keyTo : GoodIn wsX5_tryKey (wsV RX5 168 RX1 yX1_keyTo wsX1_keyTo) := goodIn_app (goodIn_of _ (by decide +kernel)) ggX5_tryKey_X1_keyTo
set_option maxRecDepth 20000 in
theorem ggX5_tryKey_X3_setUsedTries : GoodIn wsX5_tryKey wsX3_setUsedTries := goodIn_ca (goodIn_r _ [21, 22, 40, 41, 42, 43, 44, 45, 46, 47, 48, 49, 50] (by decide +kernel) (by decide +kernel)) (goodIn_sub (fun _ h => List.mem_cons_of_mem _ (List.mem_append_right _ h)) (by decide +kernel))
set_option maxRecDepth 20000 in
theorem gX5_tryKey_X3_setUsedTries : GoodIn wsX5_tryKey (wsV RX5 172 RX3 yX3_setUsedTries wsX3_setUsedTries) := goodIn_app (goodIn_of _ (by decide +kernel)) ggX5_tryKey_X3_setUsedTries
set_option maxRecDepth 20000 in
theorem ggX5_tryKey_X3_usedTries : GoodIn wsX5_tryKey wsX3_usedTries := goodIn_ca (goodIn_r _ [26, 22, 40, 41, 42, 43, 44, 45, 46, 47, 48, 49, 50] (by decide +kernel) (by decide +kernel)) (goodIn_sub (fun _ h => List.mem_cons_of_mem _ (List.mem_append_right _ h)) (by decide +kernel))
set_option maxRecDepth 20000 in
theorem gX5_tryKey_X3_usedTries : GoodIn wsX5_tryKey (wsV RX5 175 RX3 yX3_usedTries wsX3_usedTries) := goodIn_app (goodIn_of _ (by decide +kernel)) ggX5_tryKey_X3_usedTries
set_option maxRecDepth 20000 in
theorem ggX5_tryKey_X3_lock : GoodIn wsX5_tryKey wsX3_lock := goodIn_ca (goodIn_r _ [30, 31, 40, 41, 42, 43, 44, 45, 46, 47, 48, 49, 50] (by decide +kernel) (by decide +kernel)) (goodIn_sub (fun _ h => List.mem_cons_of_mem _ (List.mem_append_right _ h)) (by decide +kernel))
set_option maxRecDepth 20000 in
theorem gX5_tryKey_X3_lock : GoodIn wsX5_tryKey (wsV RX5 184 RX3 yX3_lock wsX3_lock) := goodIn_app (goodIn_of _ (by decide +kernel)) ggX5_tryKey_X3_lock
theorem dX5_tryKey_0 : decode cX5_tryKey 0 = .ok (.aload_n 0, 1) := by decide +kernel
theorem dX5_tryKey_1 : decode cX5_tryKey 1 = .ok (.getfield 45, 3) := by decide +kernel
theorem dX5_tryKey_4 : decode cX5_tryKey 4 = .ok (.getfield 162, 3) := by decide +kernel
theorem dX5_tryKey_7 : decode cX5_tryKey 7 = .ok (.aload_n 1, 1) := by decide +kernel
theorem dX5_tryKey_8 : decode cX5_tryKey 8 = .ok (.getfield 152, 3) := by decide +kernel
theorem dX5_tryKey_11 : decode cX5_tryKey 11 = .ok (.if_icmp .eq 6, 3) := by decide +kernel
theorem dX5_tryKey_14 : decode cX5_tryKey 14 = .ok (.bipush (-36), 2) := by decide +kernel
theorem dX5_tryKey_16 : decode cX5_tryKey 16 = .ok (.ireturn, 1) := by decide +kernel
theorem dX5_tryKey_17 : decode cX5_tryKey 17 = .ok (.aload_n 0, 1) := by decide +kernel
theorem dX5_tryKey_18 : decode cX5_tryKey 18 = .ok (.getfield 45, 3) := by decide +kernel
theorem dX5_tryKey_21 : decode cX5_tryKey 21 = .ok (.iconst 0, 1) := by decide +kernel
theorem dX5_tryKey_22 : decode cX5_tryKey 22 = .ok (.putfield 162, 3) := by decide +kernel
theorem dX5_tryKey_25 : decode cX5_tryKey 25 = .ok (.iload_n 2, 1) := by decide +kernel
theorem dX5_tryKey_26 : decode cX5_tryKey 26 = .ok (.aload_n 1, 1) := by decide +kernel
theorem dX5_tryKey_27 : decode cX5_tryKey 27 = .ok (.aload_n 0, 1) := by decide +kernel
theorem dX5_tryKey_28 : decode cX5_tryKey 28 = .ok (.getfield 45, 3) := by decide +kernel
theorem dX5_tryKey_31 : decode cX5_tryKey 31 = .ok (.getfield 165, 3) := by decide +kernel
theorem dX5_tryKey_34 : decode cX5_tryKey 34 = .ok (.invokevirtual 168, 3) := by decide +kernel
theorem dX5_tryKey_37 : decode cX5_tryKey 37 = .ok (.if_icmp .ne 28, 3) := by decide +kernel
theorem dX5_tryKey_40 : decode cX5_tryKey 40 = .ok (.aload_n 0, 1) := by decide +kernel
theorem dX5_tryKey_41 : decode cX5_tryKey 41 = .ok (.getfield 45, 3) := by decide +kernel
theorem dX5_tryKey_44 : decode cX5_tryKey 44 = .ok (.aload_n 1, 1) := by decide +kernel
theorem dX5_tryKey_45 : decode cX5_tryKey 45 = .ok (.getfield 152, 3) := by decide +kernel
theorem dX5_tryKey_48 : decode cX5_tryKey 48 = .ok (.putfield 104, 3) := by decide +kernel
theorem dX5_tryKey_51 : decode cX5_tryKey 51 = .ok (.aload_n 0, 1) := by decide +kernel
theorem dX5_tryKey_52 : decode cX5_tryKey 52 = .ok (.getfield 45, 3) := by decide +kernel
theorem dX5_tryKey_55 : decode cX5_tryKey 55 = .ok (.aload_n 1, 1) := by decide +kernel
theorem dX5_tryKey_56 : decode cX5_tryKey 56 = .ok (.getfield 152, 3) := by decide +kernel
theorem dX5_tryKey_59 : decode cX5_tryKey 59 = .ok (.iconst 0, 1) := by decide +kernel
theorem dX5_tryKey_60 : decode cX5_tryKey 60 = .ok (.invokevirtual 172, 3) := by decide +kernel
theorem dX5_tryKey_63 : decode cX5_tryKey 63 = .ok (.iconst 1, 1) := by decide +kernel
theorem dX5_tryKey_64 : decode cX5_tryKey 64 = .ok (.ireturn, 1) := by decide +kernel
theorem dX5_tryKey_65 : decode cX5_tryKey 65 = .ok (.aload_n 0, 1) := by decide +kernel
theorem dX5_tryKey_66 : decode cX5_tryKey 66 = .ok (.getfield 45, 3) := by decide +kernel
theorem dX5_tryKey_69 : decode cX5_tryKey 69 = .ok (.aload_n 1, 1) := by decide +kernel
theorem dX5_tryKey_70 : decode cX5_tryKey 70 = .ok (.getfield 152, 3) := by decide +kernel
theorem dX5_tryKey_73 : decode cX5_tryKey 73 = .ok (.invokevirtual 175, 3) := by decide +kernel
theorem dX5_tryKey_76 : decode cX5_tryKey 76 = .ok (.iconst 1, 1) := by decide +kernel
theorem dX5_tryKey_77 : decode cX5_tryKey 77 = .ok (.iadd, 1) := by decide +kernel
theorem dX5_tryKey_78 : decode cX5_tryKey 78 = .ok (.istore_n 3, 1) := by decide +kernel
theorem dX5_tryKey_79 : decode cX5_tryKey 79 = .ok (.iload_n 3, 1) := by decide +kernel
theorem dX5_tryKey_80 : decode cX5_tryKey 80 = .ok (.aload_n 1, 1) := by decide +kernel
theorem dX5_tryKey_81 : decode cX5_tryKey 81 = .ok (.getfield 178, 3) := by decide +kernel
theorem dX5_tryKey_84 : decode cX5_tryKey 84 = .ok (.if_icmp .ge 18, 3) := by decide +kernel
theorem dX5_tryKey_87 : decode cX5_tryKey 87 = .ok (.aload_n 0, 1) := by decide +kernel
theorem dX5_tryKey_88 : decode cX5_tryKey 88 = .ok (.getfield 45, 3) := by decide +kernel
theorem dX5_tryKey_91 : decode cX5_tryKey 91 = .ok (.aload_n 1, 1) := by decide +kernel
theorem dX5_tryKey_92 : decode cX5_tryKey 92 = .ok (.getfield 152, 3) := by decide +kernel
theorem dX5_tryKey_95 : decode cX5_tryKey 95 = .ok (.iload_n 3, 1) := by decide +kernel
theorem dX5_tryKey_96 : decode cX5_tryKey 96 = .ok (.invokevirtual 172, 3) := by decide +kernel
theorem dX5_tryKey_99 : decode cX5_tryKey 99 = .ok (.bipush (-53), 2) := by decide +kernel
theorem dX5_tryKey_101 : decode cX5_tryKey 101 = .ok (.ireturn, 1) := by decide +kernel
theorem dX5_tryKey_102 : decode cX5_tryKey 102 = .ok (.aload_n 0, 1) := by decide +kernel
theorem dX5_tryKey_103 : decode cX5_tryKey 103 = .ok (.getfield 45, 3) := by decide +kernel
theorem dX5_tryKey_106 : decode cX5_tryKey 106 = .ok (.aload_n 1, 1) := by decide +kernel
theorem dX5_tryKey_107 : decode cX5_tryKey 107 = .ok (.getfield 152, 3) := by decide +kernel
theorem dX5_tryKey_110 : decode cX5_tryKey 110 = .ok (.iconst 0, 1) := by decide +kernel
theorem dX5_tryKey_111 : decode cX5_tryKey 111 = .ok (.invokevirtual 172, 3) := by decide +kernel
theorem dX5_tryKey_114 : decode cX5_tryKey 114 = .ok (.aload_n 0, 1) := by decide +kernel
theorem dX5_tryKey_115 : decode cX5_tryKey 115 = .ok (.getfield 45, 3) := by decide +kernel
theorem dX5_tryKey_118 : decode cX5_tryKey 118 = .ok (.aload_n 1, 1) := by decide +kernel
theorem dX5_tryKey_119 : decode cX5_tryKey 119 = .ok (.getfield 152, 3) := by decide +kernel
theorem dX5_tryKey_122 : decode cX5_tryKey 122 = .ok (.aload_n 0, 1) := by decide +kernel
theorem dX5_tryKey_123 : decode cX5_tryKey 123 = .ok (.getfield 65, 3) := by decide +kernel
theorem dX5_tryKey_126 : decode cX5_tryKey 126 = .ok (.aload_n 1, 1) := by decide +kernel
theorem dX5_tryKey_127 : decode cX5_tryKey 127 = .ok (.getfield 181, 3) := by decide +kernel
theorem dX5_tryKey_130 : decode cX5_tryKey 130 = .ok (.ladd, 1) := by decide +kernel
theorem dX5_tryKey_131 : decode cX5_tryKey 131 = .ok (.invokevirtual 184, 3) := by decide +kernel
theorem dX5_tryKey_134 : decode cX5_tryKey 134 = .ok (.bipush (-54), 2) := by decide +kernel
theorem dX5_tryKey_136 : decode cX5_tryKey 136 = .ok (.ireturn, 1) := by decide +kernel
theorem dX5_countDigits_0 : decode cX5_countDigits 0 = .ok (.iconst 1, 1) := by decide +kernel
theorem dX5_countDigits_1 : decode cX5_countDigits 1 = .ok (.istore_n 2, 1) := by decide +kernel
theorem dX5_countDigits_2 : decode cX5_countDigits 2 = .ok (.ldc2_w 143, 3) := by decide +kernel
theorem dX5_countDigits_5 : decode cX5_countDigits 5 = .ok (.lstore_n 3, 1) := by decide +kernel
theorem dX5_countDigits_6 : decode cX5_countDigits 6 = .ok (.lload_n 3, 1) := by decide +kernel
theorem dX5_countDigits_7 : decode cX5_countDigits 7 = .ok (.lload_n 0, 1) := by decide +kernel
theorem dX5_countDigits_8 : decode cX5_countDigits 8 = .ok (.lcmp, 1) := by decide +kernel
theorem dX5_countDigits_9 : decode cX5_countDigits 9 = .ok (.ifCond .gt 21, 3) := by decide +kernel
theorem dX5_countDigits_12 : decode cX5_countDigits 12 = .ok (.iload_n 2, 1) := by decide +kernel
theorem dX5_countDigits_13 : decode cX5_countDigits 13 = .ok (.bipush 10, 2) := by decide +kernel
theorem dX5_countDigits_15 : decode cX5_countDigits 15 = .ok (.if_icmp .ge 15, 3) := by decide +kernel
theorem dX5_countDigits_18 : decode cX5_countDigits 18 = .ok (.iinc 2 1, 3) := by decide +kernel
theorem dX5_countDigits_21 : decode cX5_countDigits 21 = .ok (.lload_n 3, 1) := by decide +kernel
theorem dX5_countDigits_22 : decode cX5_countDigits 22 = .ok (.ldc2_w 143, 3) := by decide +kernel
theorem dX5_countDigits_25 : decode cX5_countDigits 25 = .ok (.lmul, 1) := by decide +kernel
theorem dX5_countDigits_26 : decode cX5_countDigits 26 = .ok (.lstore_n 3, 1) := by decide +kernel
theorem dX5_countDigits_27 : decode cX5_countDigits 27 = .ok (.goto (-21), 3) := by decide +kernel
theorem dX5_countDigits_30 : decode cX5_countDigits 30 = .ok (.iload_n 2, 1) := by decide +kernel
theorem dX5_countDigits_31 : decode cX5_countDigits 31 = .ok (.ireturn, 1) := by decide +kernel
theorem dX5_isPlain_0 : decode cX5_isPlain 0 = .ok (.iload_n 0, 1) := by decide +kernel
theorem dX5_isPlain_1 : decode cX5_isPlain 1 = .ok (.iload_n 0, 1) := by decide +kernel
theorem dX5_isPlain_2 : decode cX5_isPlain 2 = .ok (.sipush 255, 3) := by decide +kernel
theorem dX5_isPlain_5 : decode cX5_isPlain 5 = .ok (.iand, 1) := by decide +kernel
theorem dX5_isPlain_6 : decode cX5_isPlain 6 = .ok (.ldc 188, 2) := by decide +kernel
theorem dX5_isPlain_8 : decode cX5_isPlain 8 = .ok (.imul, 1) := by decide +kernel
theorem dX5_isPlain_9 : decode cX5_isPlain 9 = .ok (.if_icmp .ne 7, 3) := by decide +kernel
theorem dX5_isPlain_12 : decode cX5_isPlain 12 = .ok (.iconst 1, 1) := by decide +kernel
theorem dX5_isPlain_13 : decode cX5_isPlain 13 = .ok (.goto 4, 3) := by decide +kernel
theorem dX5_isPlain_16 : decode cX5_isPlain 16 = .ok (.iconst 0, 1) := by decide +kernel
theorem dX5_isPlain_17 : decode cX5_isPlain 17 = .ok (.ireturn, 1) := by decide +kernel
theorem dX6_init_0 : decode cX6_init 0 = .ok (.aload_n 0, 1) := by decide +kernel
theorem dX6_init_1 : decode cX6_init 1 = .ok (.invokespecial 1, 3) := by decide +kernel
theorem dX6_init_4 : decode cX6_init 4 = .ok (.aload_n 0, 1) := by decide +kernel
theorem dX6_init_5 : decode cX6_init 5 = .ok (.bipush 21, 2) := by decide +kernel
theorem dX6_init_7 : decode cX6_init 7 = .ok (.newarray .int, 2) := by decide +kernel
theorem dX6_init_9 : decode cX6_init 9 = .ok (.putfield 7, 3) := by decide +kernel
theorem dX6_init_12 : decode cX6_init 12 = .ok (.aload_n 0, 1) := by decide +kernel
theorem dX6_init_13 : decode cX6_init 13 = .ok (.bipush 21, 2) := by decide +kernel
theorem dX6_init_15 : decode cX6_init 15 = .ok (.newarray .int, 2) := by decide +kernel
theorem dX6_init_17 : decode cX6_init 17 = .ok (.putfield 13, 3) := by decide +kernel
theorem dX6_init_20 : decode cX6_init 20 = .ok (.aload_n 0, 1) := by decide +kernel
theorem dX6_init_21 : decode cX6_init 21 = .ok (.bipush 21, 2) := by decide +kernel
theorem dX6_init_23 : decode cX6_init 23 = .ok (.newarray .long, 2) := by decide +kernel
theorem dX6_init_25 : decode cX6_init 25 = .ok (.putfield 16, 3) := by decide +kernel
theorem dX6_init_28 : decode cX6_init 28 = .ok (.aload_n 0, 1) := by decide +kernel
theorem dX6_init_29 : decode cX6_init 29 = .ok (.sipush 2000, 3) := by decide +kernel
theorem dX6_init_32 : decode cX6_init 32 = .ok (.newarray .int, 2) := by decide +kernel
theorem dX6_init_34 : decode cX6_init 34 = .ok (.putfield 20, 3) := by decide +kernel
theorem dX6_init_37 : decode cX6_init 37 = .ok (.aload_n 0, 1) := by decide +kernel
theorem dX6_init_38 : decode cX6_init 38 = .ok (.sipush 2000, 3) := by decide +kernel
theorem dX6_init_41 : decode cX6_init 41 = .ok (.newarray .int, 2) := by decide +kernel
theorem dX6_init_43 : decode cX6_init 43 = .ok (.putfield 23, 3) := by decide +kernel
theorem dX6_init_46 : decode cX6_init 46 = .ok (.aload_n 0, 1) := by decide +kernel
theorem dX6_init_47 : decode cX6_init 47 = .ok (.iconst 4, 1) := by decide +kernel
theorem dX6_init_48 : decode cX6_init 48 = .ok (.newarray .int, 2) := by decide +kernel
theorem dX6_init_50 : decode cX6_init 50 = .ok (.dup, 1) := by decide +kernel
theorem dX6_init_51 : decode cX6_init 51 = .ok (.iconst 0, 1) := by decide +kernel
theorem dX6_init_52 : decode cX6_init 52 = .ok (.iconst 1, 1) := by decide +kernel
theorem dX6_init_53 : decode cX6_init 53 = .ok (.iastore, 1) := by decide +kernel
theorem dX6_init_54 : decode cX6_init 54 = .ok (.dup, 1) := by decide +kernel
theorem dX6_init_55 : decode cX6_init 55 = .ok (.iconst 1, 1) := by decide +kernel
theorem dX6_init_56 : decode cX6_init 56 = .ok (.iconst 1, 1) := by decide +kernel
theorem dX6_init_57 : decode cX6_init 57 = .ok (.iastore, 1) := by decide +kernel
theorem dX6_init_58 : decode cX6_init 58 = .ok (.dup, 1) := by decide +kernel
theorem dX6_init_59 : decode cX6_init 59 = .ok (.iconst 2, 1) := by decide +kernel
theorem dX6_init_60 : decode cX6_init 60 = .ok (.iconst 1, 1) := by decide +kernel
theorem dX6_init_61 : decode cX6_init 61 = .ok (.iastore, 1) := by decide +kernel
theorem dX6_init_62 : decode cX6_init 62 = .ok (.dup, 1) := by decide +kernel
theorem dX6_init_63 : decode cX6_init 63 = .ok (.iconst 3, 1) := by decide +kernel
theorem dX6_init_64 : decode cX6_init 64 = .ok (.iconst 1, 1) := by decide +kernel
theorem dX6_init_65 : decode cX6_init 65 = .ok (.iastore, 1) := by decide +kernel
theorem dX6_init_66 : decode cX6_init 66 = .ok (.putfield 26, 3) := by decide +kernel
theorem dX6_init_69 : decode cX6_init 69 = .ok (.aload_n 0, 1) := by decide +kernel
theorem dX6_init_70 : decode cX6_init 70 = .ok (.iconst 4, 1) := by decide +kernel
theorem dX6_init_71 : decode cX6_init 71 = .ok (.newarray .long, 2) := by decide +kernel
theorem dX6_init_73 : decode cX6_init 73 = .ok (.dup, 1) := by decide +kernel
theorem dX6_init_74 : decode cX6_init 74 = .ok (.iconst 0, 1) := by decide +kernel
theorem dX6_init_75 : decode cX6_init 75 = .ok (.ldc2_w 29, 3) := by decide +kernel
theorem dX6_init_78 : decode cX6_init 78 = .ok (.lastore, 1) := by decide +kernel
theorem dX6_init_79 : decode cX6_init 79 = .ok (.dup, 1) := by decide +kernel
theorem dX6_init_80 : decode cX6_init 80 = .ok (.iconst 1, 1) := by decide +kernel
theorem dX6_init_81 : decode cX6_init 81 = .ok (.ldc2_w 29, 3) := by decide +kernel
theorem dX6_init_84 : decode cX6_init 84 = .ok (.lastore, 1) := by decide +kernel
theorem dX6_init_85 : decode cX6_init 85 = .ok (.dup, 1) := by decide +kernel
theorem dX6_init_86 : decode cX6_init 86 = .ok (.iconst 2, 1) := by decide +kernel
theorem dX6_init_87 : decode cX6_init 87 = .ok (.ldc2_w 29, 3) := by decide +kernel
theorem dX6_init_90 : decode cX6_init 90 = .ok (.lastore, 1) := by decide +kernel
theorem dX6_init_91 : decode cX6_init 91 = .ok (.dup, 1) := by decide +kernel
theorem dX6_init_92 : decode cX6_init 92 = .ok (.iconst 3, 1) := by decide +kernel
theorem dX6_init_93 : decode cX6_init 93 = .ok (.ldc2_w 29, 3) := by decide +kernel
theorem dX6_init_96 : decode cX6_init 96 = .ok (.lastore, 1) := by decide +kernel
theorem dX6_init_97 : decode cX6_init 97 = .ok (.putfield 31, 3) := by decide +kernel
theorem dX6_init_100 : decode cX6_init 100 = .ok (.aload_n 0, 1) := by decide +kernel
theorem dX6_init_101 : decode cX6_init 101 = .ok (.iconst 4, 1) := by decide +kernel
theorem dX6_init_102 : decode cX6_init 102 = .ok (.newarray .int, 2) := by decide +kernel
theorem dX6_init_104 : decode cX6_init 104 = .ok (.putfield 34, 3) := by decide +kernel
theorem dX6_init_107 : decode cX6_init 107 = .ok (.aload_n 0, 1) := by decide +kernel
theorem dX6_init_108 : decode cX6_init 108 = .ok (.iconst 4, 1) := by decide +kernel
theorem dX6_init_109 : decode cX6_init 109 = .ok (.newarray .int, 2) := by decide +kernel
theorem dX6_init_111 : decode cX6_init 111 = .ok (.putfield 37, 3) := by decide +kernel
theorem dX6_init_114 : decode cX6_init 114 = .ok (.aload_n 0, 1) := by decide +kernel
theorem dX6_init_115 : decode cX6_init 115 = .ok (.iconst 4, 1) := by decide +kernel
theorem dX6_init_116 : decode cX6_init 116 = .ok (.newarray .int, 2) := by decide +kernel
theorem dX6_init_118 : decode cX6_init 118 = .ok (.putfield 40, 3) := by decide +kernel
theorem dX6_init_121 : decode cX6_init 121 = .ok (.aload_n 0, 1) := by decide +kernel
theorem dX6_init_122 : decode cX6_init 122 = .ok (.iconst 4, 1) := by decide +kernel
theorem dX6_init_123 : decode cX6_init 123 = .ok (.newarray .int, 2) := by decide +kernel
theorem dX6_init_125 : decode cX6_init 125 = .ok (.putfield 43, 3) := by decide +kernel
theorem dX6_init_128 : decode cX6_init 128 = .ok (.aload_n 0, 1) := by decide +kernel
theorem dX6_init_129 : decode cX6_init 129 = .ok (.iconst 4, 1) := by decide +kernel
theorem dX6_init_130 : decode cX6_init 130 = .ok (.newarray .int, 2) := by decide +kernel
theorem dX6_init_132 : decode cX6_init 132 = .ok (.putfield 46, 3) := by decide +kernel
theorem dX6_init_135 : decode cX6_init 135 = .ok (.aload_n 0, 1) := by decide +kernel
theorem dX6_init_136 : decode cX6_init 136 = .ok (.iconst 4, 1) := by decide +kernel
theorem dX6_init_137 : decode cX6_init 137 = .ok (.newarray .int, 2) := by decide +kernel
theorem dX6_init_139 : decode cX6_init 139 = .ok (.putfield 49, 3) := by decide +kernel
theorem dX6_init_142 : decode cX6_init 142 = .ok (.aload_n 0, 1) := by decide +kernel
theorem dX6_init_143 : decode cX6_init 143 = .ok (.bipush 84, 2) := by decide +kernel
theorem dX6_init_145 : decode cX6_init 145 = .ok (.newarray .int, 2) := by decide +kernel
theorem dX6_init_147 : decode cX6_init 147 = .ok (.putfield 52, 3) := by decide +kernel
theorem dX6_init_150 : decode cX6_init 150 = .ok (.aload_n 0, 1) := by decide +kernel
theorem dX6_init_151 : decode cX6_init 151 = .ok (.bipush 84, 2) := by decide +kernel
theorem dX6_init_153 : decode cX6_init 153 = .ok (.newarray .long, 2) := by decide +kernel
theorem dX6_init_155 : decode cX6_init 155 = .ok (.putfield 55, 3) := by decide +kernel
theorem dX6_init_158 : decode cX6_init 158 = .ok (.aload_n 0, 1) := by decide +kernel
theorem dX6_init_159 : decode cX6_init 159 = .ok (.bipush 84, 2) := by decide +kernel
theorem dX6_init_161 : decode cX6_init 161 = .ok (.newarray .boolean, 2) := by decide +kernel
theorem dX6_init_163 : decode cX6_init 163 = .ok (.putfield 58, 3) := by decide +kernel
theorem dX6_init_166 : decode cX6_init 166 = .ok (.aload_n 0, 1) := by decide +kernel
theorem dX6_init_167 : decode cX6_init 167 = .ok (.sipush 300, 3) := by decide +kernel
theorem dX6_init_170 : decode cX6_init 170 = .ok (.newarray .int, 2) := by decide +kernel
theorem dX6_init_172 : decode cX6_init 172 = .ok (.putfield 62, 3) := by decide +kernel
theorem dX6_init_175 : decode cX6_init 175 = .ok (.aload_n 0, 1) := by decide +kernel
theorem dX6_init_176 : decode cX6_init 176 = .ok (.sipush 300, 3) := by decide +kernel
theorem dX6_init_179 : decode cX6_init 179 = .ok (.newarray .int, 2) := by decide +kernel
theorem dX6_init_181 : decode cX6_init 181 = .ok (.putfield 65, 3) := by decide +kernel
theorem dX6_init_184 : decode cX6_init 184 = .ok (.aload_n 0, 1) := by decide +kernel
theorem dX6_init_185 : decode cX6_init 185 = .ok (.sipush 300, 3) := by decide +kernel
theorem dX6_init_188 : decode cX6_init 188 = .ok (.newarray .int, 2) := by decide +kernel
theorem dX6_init_190 : decode cX6_init 190 = .ok (.putfield 68, 3) := by decide +kernel
theorem dX6_init_193 : decode cX6_init 193 = .ok (.return_, 1) := by decide +kernel
theorem dX6_thrown_0 : decode cX6_thrown 0 = .ok (.aload_n 0, 1) := by decide +kernel
theorem dX6_thrown_1 : decode cX6_thrown 1 = .ok (.getfield 71, 3) := by decide +kernel
theorem dX6_thrown_4 : decode cX6_thrown 4 = .ok (.ireturn, 1) := by decide +kernel
theorem dX6_isMade_0 : decode cX6_isMade 0 = .ok (.iload_n 1, 1) := by decide +kernel
theorem dX6_isMade_1 : decode cX6_isMade 1 = .ok (.iconst 1, 1) := by decide +kernel
theorem dX6_isMade_2 : decode cX6_isMade 2 = .ok (.if_icmp .lt 22, 3) := by decide +kernel
theorem dX6_isMade_5 : decode cX6_isMade 5 = .ok (.iload_n 1, 1) := by decide +kernel
theorem dX6_isMade_6 : decode cX6_isMade 6 = .ok (.bipush 20, 2) := by decide +kernel
theorem dX6_isMade_8 : decode cX6_isMade 8 = .ok (.if_icmp .gt 16, 3) := by decide +kernel
theorem dX6_isMade_11 : decode cX6_isMade 11 = .ok (.aload_n 0, 1) := by decide +kernel
theorem dX6_isMade_12 : decode cX6_isMade 12 = .ok (.getfield 13, 3) := by decide +kernel
theorem dX6_isMade_15 : decode cX6_isMade 15 = .ok (.iload_n 1, 1) := by decide +kernel
theorem dX6_isMade_16 : decode cX6_isMade 16 = .ok (.iaload, 1) := by decide +kernel
theorem dX6_isMade_17 : decode cX6_isMade 17 = .ok (.ifCond .le 7, 3) := by decide +kernel
theorem dX6_isMade_20 : decode cX6_isMade 20 = .ok (.iconst 1, 1) := by decide +kernel
theorem dX6_isMade_21 : decode cX6_isMade 21 = .ok (.goto 4, 3) := by decide +kernel
theorem dX6_isMade_24 : decode cX6_isMade 24 = .ok (.iconst 0, 1) := by decide +kernel
theorem dX6_isMade_25 : decode cX6_isMade 25 = .ok (.ireturn, 1) := by decide +kernel
set_option maxRecDepth 20000 in
theorem ggX6_level_X6_isMade : GoodIn wsX6_level wsX6_isMade := goodIn_ca (goodIn_r _ [11, 4, 12, 13, 14, 15, 16, 17, 18, 19, 20, 21, 22, 23, 24, 25, 26, 27, 28, 29, 30, 31, 32, 33, 34, 35, 36, 37, 38] (by decide +kernel) (by decide +kernel)) (goodIn_sub (fun _ h => List.mem_cons_of_mem _ (List.mem_append_right _ h)) (by decide +kernel))
set_option maxRecDepth 20000 in
theorem gX6_level_X6_isMade : GoodIn wsX6_level (wsV RX6 77 RX6 yX6_isMade wsX6_isMade) := goodIn_app (goodIn_of _ (by decide +kernel)) ggX6_level_X6_isMade
theorem dX6_level_0 : decode cX6_level 0 = .ok (.aload_n 0, 1) := by decide +kernel
theorem dX6_level_1 : decode cX6_level 1 = .ok (.iconst 0, 1) := by decide +kernel
theorem dX6_level_2 : decode cX6_level 2 = .ok (.putfield 71, 3) := by decide +kernel
theorem dX6_level_5 : decode cX6_level 5 = .ok (.iload_n 1, 1) := by decide +kernel
theorem dX6_level_6 : decode cX6_level 6 = .ok (.iconst 1, 1) := by decide +kernel
theorem dX6_level_7 : decode cX6_level 7 = .ok (.if_icmp .lt 9, 3) := by decide +kernel
theorem dX6_level_10 : decode cX6_level 10 = .ok (.iload_n 1, 1) := by decide +kernel
theorem dX6_level_11 : decode cX6_level 11 = .ok (.bipush 20, 2) := by decide +kernel
theorem dX6_level_13 : decode cX6_level 13 = .ok (.if_icmp .le 5, 3) := by decide +kernel
theorem dX6_level_16 : decode cX6_level 16 = .ok (.iconst (-1), 1) := by decide +kernel
theorem dX6_level_17 : decode cX6_level 17 = .ok (.ireturn, 1) := by decide +kernel
theorem dX6_level_18 : decode cX6_level 18 = .ok (.iload_n 2, 1) := by decide +kernel
theorem dX6_level_19 : decode cX6_level 19 = .ok (.ifCond .lt 35, 3) := by decide +kernel
theorem dX6_level_22 : decode cX6_level 22 = .ok (.iload_n 2, 1) := by decide +kernel
theorem dX6_level_23 : decode cX6_level 23 = .ok (.iconst 2, 1) := by decide +kernel
theorem dX6_level_24 : decode cX6_level 24 = .ok (.if_icmp .gt 30, 3) := by decide +kernel
theorem dX6_level_27 : decode cX6_level 27 = .ok (.iload_n 3, 1) := by decide +kernel
theorem dX6_level_28 : decode cX6_level 28 = .ok (.iconst 1, 1) := by decide +kernel
theorem dX6_level_29 : decode cX6_level 29 = .ok (.if_icmp .lt 25, 3) := by decide +kernel
theorem dX6_level_32 : decode cX6_level 32 = .ok (.iload_n 3, 1) := by decide +kernel
theorem dX6_level_33 : decode cX6_level 33 = .ok (.bipush 10, 2) := by decide +kernel
theorem dX6_level_35 : decode cX6_level 35 = .ok (.if_icmp .gt 19, 3) := by decide +kernel
theorem dX6_level_38 : decode cX6_level 38 = .ok (.lload 4, 2) := by decide +kernel
theorem dX6_level_40 : decode cX6_level 40 = .ok (.lconst 0, 1) := by decide +kernel
theorem dX6_level_41 : decode cX6_level 41 = .ok (.lcmp, 1) := by decide +kernel
theorem dX6_level_42 : decode cX6_level 42 = .ok (.ifCond .lt 12, 3) := by decide +kernel
theorem dX6_level_45 : decode cX6_level 45 = .ok (.lload 4, 2) := by decide +kernel
theorem dX6_level_47 : decode cX6_level 47 = .ok (.ldc2_w 75, 3) := by decide +kernel
theorem dX6_level_50 : decode cX6_level 50 = .ok (.lcmp, 1) := by decide +kernel
theorem dX6_level_51 : decode cX6_level 51 = .ok (.ifCond .le 6, 3) := by decide +kernel
theorem dX6_level_54 : decode cX6_level 54 = .ok (.bipush (-2), 2) := by decide +kernel
theorem dX6_level_56 : decode cX6_level 56 = .ok (.ireturn, 1) := by decide +kernel
theorem dX6_level_57 : decode cX6_level 57 = .ok (.aload_n 0, 1) := by decide +kernel
theorem dX6_level_58 : decode cX6_level 58 = .ok (.iload_n 1, 1) := by decide +kernel
theorem dX6_level_59 : decode cX6_level 59 = .ok (.invokevirtual 77, 3) := by decide +kernel
theorem dX6_level_62 : decode cX6_level 62 = .ok (.ifCond .eq 6, 3) := by decide +kernel
theorem dX6_level_65 : decode cX6_level 65 = .ok (.bipush (-3), 2) := by decide +kernel
theorem dX6_level_67 : decode cX6_level 67 = .ok (.ireturn, 1) := by decide +kernel
theorem dX6_level_68 : decode cX6_level 68 = .ok (.aload_n 0, 1) := by decide +kernel
theorem dX6_level_69 : decode cX6_level 69 = .ok (.getfield 7, 3) := by decide +kernel
theorem dX6_level_72 : decode cX6_level 72 = .ok (.iload_n 1, 1) := by decide +kernel
theorem dX6_level_73 : decode cX6_level 73 = .ok (.iload_n 2, 1) := by decide +kernel
theorem dX6_level_74 : decode cX6_level 74 = .ok (.iastore, 1) := by decide +kernel
theorem dX6_level_75 : decode cX6_level 75 = .ok (.aload_n 0, 1) := by decide +kernel
theorem dX6_level_76 : decode cX6_level 76 = .ok (.getfield 13, 3) := by decide +kernel
theorem dX6_level_79 : decode cX6_level 79 = .ok (.iload_n 1, 1) := by decide +kernel
theorem dX6_level_80 : decode cX6_level 80 = .ok (.iload_n 3, 1) := by decide +kernel
theorem dX6_level_81 : decode cX6_level 81 = .ok (.iastore, 1) := by decide +kernel
theorem dX6_level_82 : decode cX6_level 82 = .ok (.aload_n 0, 1) := by decide +kernel
theorem dX6_level_83 : decode cX6_level 83 = .ok (.getfield 16, 3) := by decide +kernel
theorem dX6_level_86 : decode cX6_level 86 = .ok (.iload_n 1, 1) := by decide +kernel
theorem dX6_level_87 : decode cX6_level 87 = .ok (.lload 4, 2) := by decide +kernel
theorem dX6_level_89 : decode cX6_level 89 = .ok (.lastore, 1) := by decide +kernel
theorem dX6_level_90 : decode cX6_level 90 = .ok (.aload_n 0, 1) := by decide +kernel
theorem dX6_level_91 : decode cX6_level 91 = .ok (.dup, 1) := by decide +kernel
theorem dX6_level_92 : decode cX6_level 92 = .ok (.getfield 81, 3) := by decide +kernel
theorem dX6_level_95 : decode cX6_level 95 = .ok (.iconst 1, 1) := by decide +kernel
theorem dX6_level_96 : decode cX6_level 96 = .ok (.iadd, 1) := by decide +kernel
theorem dX6_level_97 : decode cX6_level 97 = .ok (.putfield 81, 3) := by decide +kernel
theorem dX6_level_100 : decode cX6_level 100 = .ok (.aload_n 0, 1) := by decide +kernel
theorem dX6_level_101 : decode cX6_level 101 = .ok (.getfield 81, 3) := by decide +kernel
theorem dX6_level_104 : decode cX6_level 104 = .ok (.ireturn, 1) := by decide +kernel
theorem dX6_tape_0 : decode cX6_tape 0 = .ok (.aload_n 0, 1) := by decide +kernel
theorem dX6_tape_1 : decode cX6_tape 1 = .ok (.iconst 0, 1) := by decide +kernel
theorem dX6_tape_2 : decode cX6_tape 2 = .ok (.putfield 71, 3) := by decide +kernel
theorem dX6_tape_5 : decode cX6_tape 5 = .ok (.aload_n 0, 1) := by decide +kernel
theorem dX6_tape_6 : decode cX6_tape 6 = .ok (.getfield 84, 3) := by decide +kernel
theorem dX6_tape_9 : decode cX6_tape 9 = .ok (.aload_n 0, 1) := by decide +kernel
theorem dX6_tape_10 : decode cX6_tape 10 = .ok (.getfield 87, 3) := by decide +kernel
theorem dX6_tape_13 : decode cX6_tape 13 = .ok (.isub, 1) := by decide +kernel
theorem dX6_tape_14 : decode cX6_tape 14 = .ok (.sipush 200, 3) := by decide +kernel
theorem dX6_tape_17 : decode cX6_tape 17 = .ok (.if_icmp .ne 4, 3) := by decide +kernel
theorem dX6_tape_20 : decode cX6_tape 20 = .ok (.return_, 1) := by decide +kernel
theorem dX6_tape_21 : decode cX6_tape 21 = .ok (.aload_n 0, 1) := by decide +kernel
theorem dX6_tape_22 : decode cX6_tape 22 = .ok (.getfield 20, 3) := by decide +kernel
theorem dX6_tape_25 : decode cX6_tape 25 = .ok (.aload_n 0, 1) := by decide +kernel
theorem dX6_tape_26 : decode cX6_tape 26 = .ok (.getfield 84, 3) := by decide +kernel
theorem dX6_tape_29 : decode cX6_tape 29 = .ok (.iload_n 1, 1) := by decide +kernel
theorem dX6_tape_30 : decode cX6_tape 30 = .ok (.iastore, 1) := by decide +kernel
theorem dX6_tape_31 : decode cX6_tape 31 = .ok (.aload_n 0, 1) := by decide +kernel
theorem dX6_tape_32 : decode cX6_tape 32 = .ok (.dup, 1) := by decide +kernel
theorem dX6_tape_33 : decode cX6_tape 33 = .ok (.getfield 84, 3) := by decide +kernel
theorem dX6_tape_36 : decode cX6_tape 36 = .ok (.iconst 1, 1) := by decide +kernel
theorem dX6_tape_37 : decode cX6_tape 37 = .ok (.iadd, 1) := by decide +kernel
theorem dX6_tape_38 : decode cX6_tape 38 = .ok (.putfield 84, 3) := by decide +kernel
theorem dX6_tape_41 : decode cX6_tape 41 = .ok (.return_, 1) := by decide +kernel
theorem dX6_isPlain_0 : decode cX6_isPlain 0 = .ok (.iload_n 0, 1) := by decide +kernel
theorem dX6_isPlain_1 : decode cX6_isPlain 1 = .ok (.sipush 255, 3) := by decide +kernel
theorem dX6_isPlain_4 : decode cX6_isPlain 4 = .ok (.iand, 1) := by decide +kernel
theorem dX6_isPlain_5 : decode cX6_isPlain 5 = .ok (.istore_n 1, 1) := by decide +kernel
theorem dX6_isPlain_6 : decode cX6_isPlain 6 = .ok (.iload_n 1, 1) := by decide +kernel
theorem dX6_isPlain_7 : decode cX6_isPlain 7 = .ok (.iload_n 0, 1) := by decide +kernel
theorem dX6_isPlain_8 : decode cX6_isPlain 8 = .ok (.bipush 8, 2) := by decide +kernel
theorem dX6_isPlain_10 : decode cX6_isPlain 10 = .ok (.ishr, 1) := by decide +kernel
theorem dX6_isPlain_11 : decode cX6_isPlain 11 = .ok (.sipush 255, 3) := by decide +kernel
theorem dX6_isPlain_14 : decode cX6_isPlain 14 = .ok (.iand, 1) := by decide +kernel
theorem dX6_isPlain_15 : decode cX6_isPlain 15 = .ok (.if_icmp .ne 31, 3) := by decide +kernel
theorem dX6_isPlain_18 : decode cX6_isPlain 18 = .ok (.iload_n 1, 1) := by decide +kernel
theorem dX6_isPlain_19 : decode cX6_isPlain 19 = .ok (.iload_n 0, 1) := by decide +kernel
theorem dX6_isPlain_20 : decode cX6_isPlain 20 = .ok (.bipush 16, 2) := by decide +kernel
theorem dX6_isPlain_22 : decode cX6_isPlain 22 = .ok (.ishr, 1) := by decide +kernel
theorem dX6_isPlain_23 : decode cX6_isPlain 23 = .ok (.sipush 255, 3) := by decide +kernel
theorem dX6_isPlain_26 : decode cX6_isPlain 26 = .ok (.iand, 1) := by decide +kernel
theorem dX6_isPlain_27 : decode cX6_isPlain 27 = .ok (.if_icmp .ne 19, 3) := by decide +kernel
theorem dX6_isPlain_30 : decode cX6_isPlain 30 = .ok (.iload_n 1, 1) := by decide +kernel
theorem dX6_isPlain_31 : decode cX6_isPlain 31 = .ok (.iload_n 0, 1) := by decide +kernel
theorem dX6_isPlain_32 : decode cX6_isPlain 32 = .ok (.bipush 24, 2) := by decide +kernel
theorem dX6_isPlain_34 : decode cX6_isPlain 34 = .ok (.ishr, 1) := by decide +kernel
theorem dX6_isPlain_35 : decode cX6_isPlain 35 = .ok (.sipush 255, 3) := by decide +kernel
theorem dX6_isPlain_38 : decode cX6_isPlain 38 = .ok (.iand, 1) := by decide +kernel
theorem dX6_isPlain_39 : decode cX6_isPlain 39 = .ok (.if_icmp .ne 7, 3) := by decide +kernel
theorem dX6_isPlain_42 : decode cX6_isPlain 42 = .ok (.iconst 1, 1) := by decide +kernel
theorem dX6_isPlain_43 : decode cX6_isPlain 43 = .ok (.goto 4, 3) := by decide +kernel
theorem dX6_isPlain_46 : decode cX6_isPlain 46 = .ok (.iconst 0, 1) := by decide +kernel
theorem dX6_isPlain_47 : decode cX6_isPlain 47 = .ok (.ireturn, 1) := by decide +kernel
theorem dX6_wasGiven_0 : decode cX6_wasGiven 0 = .ok (.iconst 0, 1) := by decide +kernel
theorem dX6_wasGiven_1 : decode cX6_wasGiven 1 = .ok (.istore_n 2, 1) := by decide +kernel
theorem dX6_wasGiven_2 : decode cX6_wasGiven 2 = .ok (.iload_n 2, 1) := by decide +kernel
theorem dX6_wasGiven_3 : decode cX6_wasGiven 3 = .ok (.aload_n 0, 1) := by decide +kernel
theorem dX6_wasGiven_4 : decode cX6_wasGiven 4 = .ok (.getfield 90, 3) := by decide +kernel
theorem dX6_wasGiven_7 : decode cX6_wasGiven 7 = .ok (.if_icmp .ge 21, 3) := by decide +kernel
theorem dX6_wasGiven_10 : decode cX6_wasGiven 10 = .ok (.aload_n 0, 1) := by decide +kernel
theorem dX6_wasGiven_11 : decode cX6_wasGiven 11 = .ok (.getfield 23, 3) := by decide +kernel
theorem dX6_wasGiven_14 : decode cX6_wasGiven 14 = .ok (.iload_n 2, 1) := by decide +kernel
theorem dX6_wasGiven_15 : decode cX6_wasGiven 15 = .ok (.iaload, 1) := by decide +kernel
theorem dX6_wasGiven_16 : decode cX6_wasGiven 16 = .ok (.iload_n 1, 1) := by decide +kernel
theorem dX6_wasGiven_17 : decode cX6_wasGiven 17 = .ok (.if_icmp .ne 5, 3) := by decide +kernel
theorem dX6_wasGiven_20 : decode cX6_wasGiven 20 = .ok (.iconst 1, 1) := by decide +kernel
theorem dX6_wasGiven_21 : decode cX6_wasGiven 21 = .ok (.ireturn, 1) := by decide +kernel
theorem dX6_wasGiven_22 : decode cX6_wasGiven 22 = .ok (.iinc 2 1, 3) := by decide +kernel
theorem dX6_wasGiven_25 : decode cX6_wasGiven 25 = .ok (.goto (-23), 3) := by decide +kernel
theorem dX6_wasGiven_28 : decode cX6_wasGiven 28 = .ok (.iconst 0, 1) := by decide +kernel
theorem dX6_wasGiven_29 : decode cX6_wasGiven 29 = .ok (.ireturn, 1) := by decide +kernel
theorem dX6_note_0 : decode cX6_note 0 = .ok (.aload_n 0, 1) := by decide +kernel
theorem dX6_note_1 : decode cX6_note 1 = .ok (.getfield 93, 3) := by decide +kernel
theorem dX6_note_4 : decode cX6_note 4 = .ok (.sipush 300, 3) := by decide +kernel
theorem dX6_note_7 : decode cX6_note 7 = .ok (.if_icmp .ge 38, 3) := by decide +kernel
theorem dX6_note_10 : decode cX6_note 10 = .ok (.aload_n 0, 1) := by decide +kernel
theorem dX6_note_11 : decode cX6_note 11 = .ok (.getfield 62, 3) := by decide +kernel
theorem dX6_note_14 : decode cX6_note 14 = .ok (.aload_n 0, 1) := by decide +kernel
theorem dX6_note_15 : decode cX6_note 15 = .ok (.getfield 93, 3) := by decide +kernel
theorem dX6_note_18 : decode cX6_note 18 = .ok (.aload_n 0, 1) := by decide +kernel
theorem dX6_note_19 : decode cX6_note 19 = .ok (.getfield 96, 3) := by decide +kernel
theorem dX6_note_22 : decode cX6_note 22 = .ok (.iconst 1, 1) := by decide +kernel
theorem dX6_note_23 : decode cX6_note 23 = .ok (.iadd, 1) := by decide +kernel
theorem dX6_note_24 : decode cX6_note 24 = .ok (.iastore, 1) := by decide +kernel
theorem dX6_note_25 : decode cX6_note 25 = .ok (.aload_n 0, 1) := by decide +kernel
theorem dX6_note_26 : decode cX6_note 26 = .ok (.getfield 65, 3) := by decide +kernel
theorem dX6_note_29 : decode cX6_note 29 = .ok (.aload_n 0, 1) := by decide +kernel
theorem dX6_note_30 : decode cX6_note 30 = .ok (.getfield 93, 3) := by decide +kernel
theorem dX6_note_33 : decode cX6_note 33 = .ok (.iload_n 1, 1) := by decide +kernel
theorem dX6_note_34 : decode cX6_note 34 = .ok (.iastore, 1) := by decide +kernel
theorem dX6_note_35 : decode cX6_note 35 = .ok (.aload_n 0, 1) := by decide +kernel
theorem dX6_note_36 : decode cX6_note 36 = .ok (.getfield 68, 3) := by decide +kernel
theorem dX6_note_39 : decode cX6_note 39 = .ok (.aload_n 0, 1) := by decide +kernel
theorem dX6_note_40 : decode cX6_note 40 = .ok (.getfield 93, 3) := by decide +kernel
theorem dX6_note_43 : decode cX6_note 43 = .ok (.iload_n 2, 1) := by decide +kernel
theorem dX6_note_44 : decode cX6_note 44 = .ok (.iastore, 1) := by decide +kernel
theorem dX6_note_45 : decode cX6_note 45 = .ok (.aload_n 0, 1) := by decide +kernel
theorem dX6_note_46 : decode cX6_note 46 = .ok (.dup, 1) := by decide +kernel
theorem dX6_note_47 : decode cX6_note 47 = .ok (.getfield 93, 3) := by decide +kernel
theorem dX6_note_50 : decode cX6_note 50 = .ok (.iconst 1, 1) := by decide +kernel
theorem dX6_note_51 : decode cX6_note 51 = .ok (.iadd, 1) := by decide +kernel
theorem dX6_note_52 : decode cX6_note 52 = .ok (.putfield 93, 3) := by decide +kernel
theorem dX6_note_55 : decode cX6_note 55 = .ok (.iload_n 2, 1) := by decide +kernel
theorem dX6_note_56 : decode cX6_note 56 = .ok (.ireturn, 1) := by decide +kernel
set_option maxRecDepth 20000 in
theorem ggX6_asked_X6_isPlain : GoodIn wsX6_asked wsX6_isPlain := goodIn_r _ [18] (by decide +kernel) (by decide +kernel)
set_option maxRecDepth 20000 in
theorem gX6_asked_X6_isPlain : GoodIn wsX6_asked (va_wsS RX6 103 yX6_isPlain wsX6_isPlain) := goodIn_app (goodIn_of _ (by decide +kernel)) ggX6_asked_X6_isPlain
set_option maxRecDepth 20000 in
theorem ggX6_asked_X6_wasGiven : GoodIn wsX6_asked wsX6_wasGiven := goodIn_ca (goodIn_r _ [22, 12, 11, 23, 24, 25, 26, 27, 28, 29, 30, 31, 32, 33, 34, 35, 36, 37, 38, 39, 40, 41, 42, 43, 44, 45, 46, 47, 48, 49] (by decide +kernel) (by decide +kernel)) (goodIn_sub (fun _ h => List.mem_cons_of_mem _ (List.mem_append_right _ h)) (by decide +kernel))
set_option maxRecDepth 20000 in
theorem gX6_asked_X6_wasGiven : GoodIn wsX6_asked (wsV RX6 106 RX6 yX6_wasGiven wsX6_wasGiven) := goodIn_app (goodIn_of _ (by decide +kernel)) ggX6_asked_X6_wasGiven
theorem dX6_asked_0 : decode cX6_asked 0 = .ok (.aload_n 0, 1) := by decide +kernel
theorem dX6_asked_1 : decode cX6_asked 1 = .ok (.getfield 26, 3) := by decide +kernel
theorem dX6_asked_4 : decode cX6_asked 4 = .ok (.aload_n 0, 1) := by decide +kernel
theorem dX6_asked_5 : decode cX6_asked 5 = .ok (.getfield 96, 3) := by decide +kernel
theorem dX6_asked_8 : decode cX6_asked 8 = .ok (.iaload, 1) := by decide +kernel
theorem dX6_asked_9 : decode cX6_asked 9 = .ok (.istore_n 2, 1) := by decide +kernel
theorem dX6_asked_10 : decode cX6_asked 10 = .ok (.iload_n 2, 1) := by decide +kernel
theorem dX6_asked_11 : decode cX6_asked 11 = .ok (.iload_n 1, 1) := by decide +kernel
theorem dX6_asked_12 : decode cX6_asked 12 = .ok (.bipush 11, 2) := by decide +kernel
theorem dX6_asked_14 : decode cX6_asked 14 = .ok (.if_icmp .ge 7, 3) := by decide +kernel
theorem dX6_asked_17 : decode cX6_asked 17 = .ok (.iconst 2, 1) := by decide +kernel
theorem dX6_asked_18 : decode cX6_asked 18 = .ok (.goto 4, 3) := by decide +kernel
theorem dX6_asked_21 : decode cX6_asked 21 = .ok (.iconst 3, 1) := by decide +kernel
theorem dX6_asked_22 : decode cX6_asked 22 = .ok (.if_icmp .ge 6, 3) := by decide +kernel
theorem dX6_asked_25 : decode cX6_asked 25 = .ok (.bipush (-18), 2) := by decide +kernel
theorem dX6_asked_27 : decode cX6_asked 27 = .ok (.ireturn, 1) := by decide +kernel
theorem dX6_asked_28 : decode cX6_asked 28 = .ok (.iload_n 1, 1) := by decide +kernel
theorem dX6_asked_29 : decode cX6_asked 29 = .ok (.bipush 10, 2) := by decide +kernel
theorem dX6_asked_31 : decode cX6_asked 31 = .ok (.if_icmp .le 23, 3) := by decide +kernel
theorem dX6_asked_34 : decode cX6_asked 34 = .ok (.aload_n 0, 1) := by decide +kernel
theorem dX6_asked_35 : decode cX6_asked 35 = .ok (.getfield 99, 3) := by decide +kernel
theorem dX6_asked_38 : decode cX6_asked 38 = .ok (.aload_n 0, 1) := by decide +kernel
theorem dX6_asked_39 : decode cX6_asked 39 = .ok (.getfield 31, 3) := by decide +kernel
theorem dX6_asked_42 : decode cX6_asked 42 = .ok (.aload_n 0, 1) := by decide +kernel
theorem dX6_asked_43 : decode cX6_asked 43 = .ok (.getfield 96, 3) := by decide +kernel
theorem dX6_asked_46 : decode cX6_asked 46 = .ok (.laload, 1) := by decide +kernel
theorem dX6_asked_47 : decode cX6_asked 47 = .ok (.lcmp, 1) := by decide +kernel
theorem dX6_asked_48 : decode cX6_asked 48 = .ok (.ifCond .lt 6, 3) := by decide +kernel
theorem dX6_asked_51 : decode cX6_asked 51 = .ok (.bipush (-51), 2) := by decide +kernel
theorem dX6_asked_53 : decode cX6_asked 53 = .ok (.ireturn, 1) := by decide +kernel
theorem dX6_asked_54 : decode cX6_asked 54 = .ok (.aload_n 0, 1) := by decide +kernel
theorem dX6_asked_55 : decode cX6_asked 55 = .ok (.getfield 34, 3) := by decide +kernel
theorem dX6_asked_58 : decode cX6_asked 58 = .ok (.aload_n 0, 1) := by decide +kernel
theorem dX6_asked_59 : decode cX6_asked 59 = .ok (.getfield 96, 3) := by decide +kernel
theorem dX6_asked_62 : decode cX6_asked 62 = .ok (.iaload, 1) := by decide +kernel
theorem dX6_asked_63 : decode cX6_asked 63 = .ok (.iload_n 1, 1) := by decide +kernel
theorem dX6_asked_64 : decode cX6_asked 64 = .ok (.if_icmp .ne 15, 3) := by decide +kernel
theorem dX6_asked_67 : decode cX6_asked 67 = .ok (.aload_n 0, 1) := by decide +kernel
theorem dX6_asked_68 : decode cX6_asked 68 = .ok (.getfield 43, 3) := by decide +kernel
theorem dX6_asked_71 : decode cX6_asked 71 = .ok (.aload_n 0, 1) := by decide +kernel
theorem dX6_asked_72 : decode cX6_asked 72 = .ok (.getfield 96, 3) := by decide +kernel
theorem dX6_asked_75 : decode cX6_asked 75 = .ok (.iconst 0, 1) := by decide +kernel
theorem dX6_asked_76 : decode cX6_asked 76 = .ok (.iastore, 1) := by decide +kernel
theorem dX6_asked_77 : decode cX6_asked 77 = .ok (.iconst 4, 1) := by decide +kernel
theorem dX6_asked_78 : decode cX6_asked 78 = .ok (.ireturn, 1) := by decide +kernel
theorem dX6_asked_79 : decode cX6_asked 79 = .ok (.aload_n 0, 1) := by decide +kernel
theorem dX6_asked_80 : decode cX6_asked 80 = .ok (.getfield 99, 3) := by decide +kernel
theorem dX6_asked_83 : decode cX6_asked 83 = .ok (.aload_n 0, 1) := by decide +kernel
theorem dX6_asked_84 : decode cX6_asked 84 = .ok (.getfield 55, 3) := by decide +kernel
theorem dX6_asked_87 : decode cX6_asked 87 = .ok (.bipush 21, 2) := by decide +kernel
theorem dX6_asked_89 : decode cX6_asked 89 = .ok (.aload_n 0, 1) := by decide +kernel
theorem dX6_asked_90 : decode cX6_asked 90 = .ok (.getfield 96, 3) := by decide +kernel
theorem dX6_asked_93 : decode cX6_asked 93 = .ok (.imul, 1) := by decide +kernel
theorem dX6_asked_94 : decode cX6_asked 94 = .ok (.iload_n 1, 1) := by decide +kernel
theorem dX6_asked_95 : decode cX6_asked 95 = .ok (.iadd, 1) := by decide +kernel
theorem dX6_asked_96 : decode cX6_asked 96 = .ok (.laload, 1) := by decide +kernel
theorem dX6_asked_97 : decode cX6_asked 97 = .ok (.lcmp, 1) := by decide +kernel
theorem dX6_asked_98 : decode cX6_asked 98 = .ok (.ifCond .ge 6, 3) := by decide +kernel
theorem dX6_asked_101 : decode cX6_asked 101 = .ok (.bipush (-55), 2) := by decide +kernel
theorem dX6_asked_103 : decode cX6_asked 103 = .ok (.ireturn, 1) := by decide +kernel
theorem dX6_asked_104 : decode cX6_asked 104 = .ok (.aload_n 0, 1) := by decide +kernel
theorem dX6_asked_105 : decode cX6_asked 105 = .ok (.getfield 87, 3) := by decide +kernel
theorem dX6_asked_108 : decode cX6_asked 108 = .ok (.aload_n 0, 1) := by decide +kernel
theorem dX6_asked_109 : decode cX6_asked 109 = .ok (.getfield 84, 3) := by decide +kernel
theorem dX6_asked_112 : decode cX6_asked 112 = .ok (.if_icmp .ge 47, 3) := by decide +kernel
theorem dX6_asked_115 : decode cX6_asked 115 = .ok (.aload_n 0, 1) := by decide +kernel
theorem dX6_asked_116 : decode cX6_asked 116 = .ok (.getfield 20, 3) := by decide +kernel
theorem dX6_asked_119 : decode cX6_asked 119 = .ok (.aload_n 0, 1) := by decide +kernel
theorem dX6_asked_120 : decode cX6_asked 120 = .ok (.getfield 87, 3) := by decide +kernel
theorem dX6_asked_123 : decode cX6_asked 123 = .ok (.iaload, 1) := by decide +kernel
theorem dX6_asked_124 : decode cX6_asked 124 = .ok (.invokestatic 103, 3) := by decide +kernel
theorem dX6_asked_127 : decode cX6_asked 127 = .ok (.ifCond .ne 19, 3) := by decide +kernel
theorem dX6_asked_130 : decode cX6_asked 130 = .ok (.aload_n 0, 1) := by decide +kernel
theorem dX6_asked_131 : decode cX6_asked 131 = .ok (.aload_n 0, 1) := by decide +kernel
theorem dX6_asked_132 : decode cX6_asked 132 = .ok (.getfield 20, 3) := by decide +kernel
theorem dX6_asked_135 : decode cX6_asked 135 = .ok (.aload_n 0, 1) := by decide +kernel
theorem dX6_asked_136 : decode cX6_asked 136 = .ok (.getfield 87, 3) := by decide +kernel
theorem dX6_asked_139 : decode cX6_asked 139 = .ok (.iaload, 1) := by decide +kernel
theorem dX6_asked_140 : decode cX6_asked 140 = .ok (.invokevirtual 106, 3) := by decide +kernel
theorem dX6_asked_143 : decode cX6_asked 143 = .ok (.ifCond .eq 16, 3) := by decide +kernel
theorem dX6_asked_146 : decode cX6_asked 146 = .ok (.aload_n 0, 1) := by decide +kernel
theorem dX6_asked_147 : decode cX6_asked 147 = .ok (.dup, 1) := by decide +kernel
theorem dX6_asked_148 : decode cX6_asked 148 = .ok (.getfield 87, 3) := by decide +kernel
theorem dX6_asked_151 : decode cX6_asked 151 = .ok (.iconst 1, 1) := by decide +kernel
theorem dX6_asked_152 : decode cX6_asked 152 = .ok (.iadd, 1) := by decide +kernel
theorem dX6_asked_153 : decode cX6_asked 153 = .ok (.putfield 87, 3) := by decide +kernel
theorem dX6_asked_156 : decode cX6_asked 156 = .ok (.goto (-52), 3) := by decide +kernel
theorem dX6_asked_159 : decode cX6_asked 159 = .ok (.aload_n 0, 1) := by decide +kernel
theorem dX6_asked_160 : decode cX6_asked 160 = .ok (.getfield 87, 3) := by decide +kernel
theorem dX6_asked_163 : decode cX6_asked 163 = .ok (.aload_n 0, 1) := by decide +kernel
theorem dX6_asked_164 : decode cX6_asked 164 = .ok (.getfield 84, 3) := by decide +kernel
theorem dX6_asked_167 : decode cX6_asked 167 = .ok (.if_icmp .ne 6, 3) := by decide +kernel
theorem dX6_asked_170 : decode cX6_asked 170 = .ok (.bipush (-34), 2) := by decide +kernel
theorem dX6_asked_172 : decode cX6_asked 172 = .ok (.ireturn, 1) := by decide +kernel
theorem dX6_asked_173 : decode cX6_asked 173 = .ok (.aload_n 0, 1) := by decide +kernel
theorem dX6_asked_174 : decode cX6_asked 174 = .ok (.getfield 20, 3) := by decide +kernel
theorem dX6_asked_177 : decode cX6_asked 177 = .ok (.aload_n 0, 1) := by decide +kernel
theorem dX6_asked_178 : decode cX6_asked 178 = .ok (.getfield 87, 3) := by decide +kernel
theorem dX6_asked_181 : decode cX6_asked 181 = .ok (.iaload, 1) := by decide +kernel
theorem dX6_asked_182 : decode cX6_asked 182 = .ok (.istore_n 3, 1) := by decide +kernel
theorem dX6_asked_183 : decode cX6_asked 183 = .ok (.aload_n 0, 1) := by decide +kernel
theorem dX6_asked_184 : decode cX6_asked 184 = .ok (.dup, 1) := by decide +kernel
theorem dX6_asked_185 : decode cX6_asked 185 = .ok (.getfield 87, 3) := by decide +kernel
theorem dX6_asked_188 : decode cX6_asked 188 = .ok (.iconst 1, 1) := by decide +kernel
theorem dX6_asked_189 : decode cX6_asked 189 = .ok (.iadd, 1) := by decide +kernel
theorem dX6_asked_190 : decode cX6_asked 190 = .ok (.putfield 87, 3) := by decide +kernel
theorem dX6_asked_193 : decode cX6_asked 193 = .ok (.aload_n 0, 1) := by decide +kernel
theorem dX6_asked_194 : decode cX6_asked 194 = .ok (.getfield 23, 3) := by decide +kernel
theorem dX6_asked_197 : decode cX6_asked 197 = .ok (.aload_n 0, 1) := by decide +kernel
theorem dX6_asked_198 : decode cX6_asked 198 = .ok (.getfield 90, 3) := by decide +kernel
theorem dX6_asked_201 : decode cX6_asked 201 = .ok (.iload_n 3, 1) := by decide +kernel
theorem dX6_asked_202 : decode cX6_asked 202 = .ok (.iastore, 1) := by decide +kernel
theorem dX6_asked_203 : decode cX6_asked 203 = .ok (.aload_n 0, 1) := by decide +kernel
theorem dX6_asked_204 : decode cX6_asked 204 = .ok (.dup, 1) := by decide +kernel
theorem dX6_asked_205 : decode cX6_asked 205 = .ok (.getfield 90, 3) := by decide +kernel
theorem dX6_asked_208 : decode cX6_asked 208 = .ok (.iconst 1, 1) := by decide +kernel
theorem dX6_asked_209 : decode cX6_asked 209 = .ok (.iadd, 1) := by decide +kernel
theorem dX6_asked_210 : decode cX6_asked 210 = .ok (.putfield 90, 3) := by decide +kernel
theorem dX6_asked_213 : decode cX6_asked 213 = .ok (.aload_n 0, 1) := by decide +kernel
theorem dX6_asked_214 : decode cX6_asked 214 = .ok (.getfield 43, 3) := by decide +kernel
theorem dX6_asked_217 : decode cX6_asked 217 = .ok (.aload_n 0, 1) := by decide +kernel
theorem dX6_asked_218 : decode cX6_asked 218 = .ok (.getfield 96, 3) := by decide +kernel
theorem dX6_asked_221 : decode cX6_asked 221 = .ok (.iload_n 3, 1) := by decide +kernel
theorem dX6_asked_222 : decode cX6_asked 222 = .ok (.iastore, 1) := by decide +kernel
theorem dX6_asked_223 : decode cX6_asked 223 = .ok (.aload_n 0, 1) := by decide +kernel
theorem dX6_asked_224 : decode cX6_asked 224 = .ok (.getfield 37, 3) := by decide +kernel
theorem dX6_asked_227 : decode cX6_asked 227 = .ok (.aload_n 0, 1) := by decide +kernel
theorem dX6_asked_228 : decode cX6_asked 228 = .ok (.getfield 96, 3) := by decide +kernel
theorem dX6_asked_231 : decode cX6_asked 231 = .ok (.iload_n 1, 1) := by decide +kernel
theorem dX6_asked_232 : decode cX6_asked 232 = .ok (.iastore, 1) := by decide +kernel
theorem dX6_asked_233 : decode cX6_asked 233 = .ok (.aload_n 0, 1) := by decide +kernel
theorem dX6_asked_234 : decode cX6_asked 234 = .ok (.getfield 40, 3) := by decide +kernel
theorem dX6_asked_237 : decode cX6_asked 237 = .ok (.aload_n 0, 1) := by decide +kernel
theorem dX6_asked_238 : decode cX6_asked 238 = .ok (.getfield 96, 3) := by decide +kernel
theorem dX6_asked_241 : decode cX6_asked 241 = .ok (.iload_n 3, 1) := by decide +kernel
theorem dX6_asked_242 : decode cX6_asked 242 = .ok (.iastore, 1) := by decide +kernel
theorem dX6_asked_243 : decode cX6_asked 243 = .ok (.iconst 4, 1) := by decide +kernel
theorem dX6_asked_244 : decode cX6_asked 244 = .ok (.ireturn, 1) := by decide +kernel
set_option maxRecDepth 20000 in
theorem ggX6_seed_X6_isMade : GoodIn wsX6_seed wsX6_isMade := goodIn_ca (goodIn_r _ [8, 9, 42, 43, 44, 45, 46, 47, 48, 49, 50, 51, 52, 53, 54, 55, 56, 57, 58, 59, 60, 61, 62, 63, 64, 65, 66, 67, 68] (by decide +kernel) (by decide +kernel)) (goodIn_sub (fun _ h => List.mem_cons_of_mem _ (List.mem_append_right _ h)) (by decide +kernel))
set_option maxRecDepth 20000 in
theorem gX6_seed_X6_isMade : GoodIn wsX6_seed (wsV RX6 77 RX6 yX6_isMade wsX6_isMade) := goodIn_app (goodIn_of _ (by decide +kernel)) ggX6_seed_X6_isMade
set_option maxRecDepth 20000 in
theorem ggX6_seed_X6_asked : GoodIn wsX6_seed wsX6_asked := goodIn_ca (goodIn_r _ [13, 14, 15, 2, 16, 17, 18, 19, 20, 21, 22, 23, 24, 25, 26, 27, 28, 7, 29, 30, 31, 32, 33, 42, 43, 44, 45, 46, 47, 48, 49, 50, 51, 52, 53, 54, 55, 56, 57, 58, 59, 60, 61, 62, 63, 64, 65, 66, 67, 68] (by decide +kernel) (by decide +kernel)) (goodIn_sub (fun _ h => List.mem_cons_of_mem _ (List.mem_append_right _ h)) (by decide +kernel))
set_option maxRecDepth 20000 in
theorem gX6_seed_X6_asked : GoodIn wsX6_seed (wsV RX6 111 RX6 yX6_asked wsX6_asked) := goodIn_app (goodIn_of _ (by decide +kernel)) ggX6_seed_X6_asked
set_option maxRecDepth 20000 in
theorem ggX6_seed_X6_note : GoodIn wsX6_seed wsX6_note := goodIn_ca (goodIn_r _ [37, 38, 39, 15, 40, 41, 42, 43, 44, 45, 46, 47, 48, 49, 50, 51, 52, 53, 54, 55, 56, 57, 58, 59, 60, 61, 62, 63, 64, 65, 66, 67, 68] (by decide +kernel) (by decide +kernel)) (goodIn_sub (fun _ h => List.mem_cons_of_mem _ (List.mem_append_right _ h)) (by decide +kernel))
set_option maxRecDepth 20000 in
theorem gX6_seed_X6_note : GoodIn wsX6_seed (wsV RX6 115 RX6 yX6_note wsX6_note) := goodIn_app (goodIn_of _ (by decide +kernel)) ggX6_seed_X6_note
theorem dX6_seed_0 : decode cX6_seed 0 = .ok (.aload_n 0, 1) := by decide +kernel
theorem dX6_seed_1 : decode cX6_seed 1 = .ok (.iconst 0, 1) := by decide +kernel
theorem dX6_seed_2 : decode cX6_seed 2 = .ok (.putfield 71, 3) := by decide +kernel
theorem dX6_seed_5 : decode cX6_seed 5 = .ok (.aload_n 0, 1) := by decide +kernel
theorem dX6_seed_6 : decode cX6_seed 6 = .ok (.iload_n 1, 1) := by decide +kernel
theorem dX6_seed_7 : decode cX6_seed 7 = .ok (.invokevirtual 77, 3) := by decide +kernel
theorem dX6_seed_10 : decode cX6_seed 10 = .ok (.ifCond .ne 5, 3) := by decide +kernel
theorem dX6_seed_13 : decode cX6_seed 13 = .ok (.iconst (-1), 1) := by decide +kernel
theorem dX6_seed_14 : decode cX6_seed 14 = .ok (.ireturn, 1) := by decide +kernel
theorem dX6_seed_15 : decode cX6_seed 15 = .ok (.lload_n 2, 1) := by decide +kernel
theorem dX6_seed_16 : decode cX6_seed 16 = .ok (.aload_n 0, 1) := by decide +kernel
theorem dX6_seed_17 : decode cX6_seed 17 = .ok (.getfield 99, 3) := by decide +kernel
theorem dX6_seed_20 : decode cX6_seed 20 = .ok (.lcmp, 1) := by decide +kernel
theorem dX6_seed_21 : decode cX6_seed 21 = .ok (.ifCond .lt 11, 3) := by decide +kernel
theorem dX6_seed_24 : decode cX6_seed 24 = .ok (.lload_n 2, 1) := by decide +kernel
theorem dX6_seed_25 : decode cX6_seed 25 = .ok (.ldc2_w 109, 3) := by decide +kernel
theorem dX6_seed_28 : decode cX6_seed 28 = .ok (.lcmp, 1) := by decide +kernel
theorem dX6_seed_29 : decode cX6_seed 29 = .ok (.ifCond .le 6, 3) := by decide +kernel
theorem dX6_seed_32 : decode cX6_seed 32 = .ok (.bipush (-2), 2) := by decide +kernel
theorem dX6_seed_34 : decode cX6_seed 34 = .ok (.ireturn, 1) := by decide +kernel
theorem dX6_seed_35 : decode cX6_seed 35 = .ok (.aload_n 0, 1) := by decide +kernel
theorem dX6_seed_36 : decode cX6_seed 36 = .ok (.lload_n 2, 1) := by decide +kernel
theorem dX6_seed_37 : decode cX6_seed 37 = .ok (.putfield 99, 3) := by decide +kernel
theorem dX6_seed_40 : decode cX6_seed 40 = .ok (.aload_n 0, 1) := by decide +kernel
theorem dX6_seed_41 : decode cX6_seed 41 = .ok (.iload_n 1, 1) := by decide +kernel
theorem dX6_seed_42 : decode cX6_seed 42 = .ok (.aload_n 0, 1) := by decide +kernel
theorem dX6_seed_43 : decode cX6_seed 43 = .ok (.iload_n 1, 1) := by decide +kernel
theorem dX6_seed_44 : decode cX6_seed 44 = .ok (.invokevirtual 111, 3) := by decide +kernel
theorem dX6_seed_47 : decode cX6_seed 47 = .ok (.invokevirtual 115, 3) := by decide +kernel
theorem dX6_seed_50 : decode cX6_seed 50 = .ok (.ireturn, 1) := by decide +kernel
theorem dX6_keyTo_0 : decode cX6_keyTo 0 = .ok (.aload_n 0, 1) := by decide +kernel
theorem dX6_keyTo_1 : decode cX6_keyTo 1 = .ok (.getfield 7, 3) := by decide +kernel
theorem dX6_keyTo_4 : decode cX6_keyTo 4 = .ok (.iload_n 1, 1) := by decide +kernel
theorem dX6_keyTo_5 : decode cX6_keyTo 5 = .ok (.iaload, 1) := by decide +kernel
theorem dX6_keyTo_6 : decode cX6_keyTo 6 = .ok (.ifCond .ne 8, 3) := by decide +kernel
theorem dX6_keyTo_9 : decode cX6_keyTo 9 = .ok (.iload_n 2, 1) := by decide +kernel
theorem dX6_keyTo_10 : decode cX6_keyTo 10 = .ok (.ldc 119, 2) := by decide +kernel
theorem dX6_keyTo_12 : decode cX6_keyTo 12 = .ok (.ixor, 1) := by decide +kernel
theorem dX6_keyTo_13 : decode cX6_keyTo 13 = .ok (.ireturn, 1) := by decide +kernel
theorem dX6_keyTo_14 : decode cX6_keyTo 14 = .ok (.aload_n 0, 1) := by decide +kernel
theorem dX6_keyTo_15 : decode cX6_keyTo 15 = .ok (.getfield 7, 3) := by decide +kernel
theorem dX6_keyTo_18 : decode cX6_keyTo 18 = .ok (.iload_n 1, 1) := by decide +kernel
theorem dX6_keyTo_19 : decode cX6_keyTo 19 = .ok (.iaload, 1) := by decide +kernel
theorem dX6_keyTo_20 : decode cX6_keyTo 20 = .ok (.iconst 1, 1) := by decide +kernel
theorem dX6_keyTo_21 : decode cX6_keyTo 21 = .ok (.if_icmp .ne 18, 3) := by decide +kernel
theorem dX6_keyTo_24 : decode cX6_keyTo 24 = .ok (.iload_n 2, 1) := by decide +kernel
theorem dX6_keyTo_25 : decode cX6_keyTo 25 = .ok (.bipush 7, 2) := by decide +kernel
theorem dX6_keyTo_27 : decode cX6_keyTo 27 = .ok (.ishl, 1) := by decide +kernel
theorem dX6_keyTo_28 : decode cX6_keyTo 28 = .ok (.iload_n 2, 1) := by decide +kernel
theorem dX6_keyTo_29 : decode cX6_keyTo 29 = .ok (.bipush 25, 2) := by decide +kernel
theorem dX6_keyTo_31 : decode cX6_keyTo 31 = .ok (.iushr, 1) := by decide +kernel
theorem dX6_keyTo_32 : decode cX6_keyTo 32 = .ok (.ior, 1) := by decide +kernel
theorem dX6_keyTo_33 : decode cX6_keyTo 33 = .ok (.ldc 120, 2) := by decide +kernel
theorem dX6_keyTo_35 : decode cX6_keyTo 35 = .ok (.imul, 1) := by decide +kernel
theorem dX6_keyTo_36 : decode cX6_keyTo 36 = .ok (.iload_n 1, 1) := by decide +kernel
theorem dX6_keyTo_37 : decode cX6_keyTo 37 = .ok (.iadd, 1) := by decide +kernel
theorem dX6_keyTo_38 : decode cX6_keyTo 38 = .ok (.ireturn, 1) := by decide +kernel
theorem dX6_keyTo_39 : decode cX6_keyTo 39 = .ok (.iload_n 2, 1) := by decide +kernel
theorem dX6_keyTo_40 : decode cX6_keyTo 40 = .ok (.iload_n 1, 1) := by decide +kernel
theorem dX6_keyTo_41 : decode cX6_keyTo 41 = .ok (.ixor, 1) := by decide +kernel
theorem dX6_keyTo_42 : decode cX6_keyTo 42 = .ok (.istore_n 3, 1) := by decide +kernel
theorem dX6_keyTo_43 : decode cX6_keyTo 43 = .ok (.iconst 0, 1) := by decide +kernel
theorem dX6_keyTo_44 : decode cX6_keyTo 44 = .ok (.istore 4, 2) := by decide +kernel
theorem dX6_keyTo_46 : decode cX6_keyTo 46 = .ok (.iload 4, 2) := by decide +kernel
theorem dX6_keyTo_48 : decode cX6_keyTo 48 = .ok (.bipush 32, 2) := by decide +kernel
theorem dX6_keyTo_50 : decode cX6_keyTo 50 = .ok (.if_icmp .ge 28, 3) := by decide +kernel
theorem dX6_keyTo_53 : decode cX6_keyTo 53 = .ok (.iload_n 3, 1) := by decide +kernel
theorem dX6_keyTo_54 : decode cX6_keyTo 54 = .ok (.iconst 2, 1) := by decide +kernel
theorem dX6_keyTo_55 : decode cX6_keyTo 55 = .ok (.irem, 1) := by decide +kernel
theorem dX6_keyTo_56 : decode cX6_keyTo 56 = .ok (.ifCond .ne 9, 3) := by decide +kernel
theorem dX6_keyTo_59 : decode cX6_keyTo 59 = .ok (.iload_n 3, 1) := by decide +kernel
theorem dX6_keyTo_60 : decode cX6_keyTo 60 = .ok (.iconst 1, 1) := by decide +kernel
theorem dX6_keyTo_61 : decode cX6_keyTo 61 = .ok (.iushr, 1) := by decide +kernel
theorem dX6_keyTo_62 : decode cX6_keyTo 62 = .ok (.goto 9, 3) := by decide +kernel
theorem dX6_keyTo_65 : decode cX6_keyTo 65 = .ok (.iload_n 3, 1) := by decide +kernel
theorem dX6_keyTo_66 : decode cX6_keyTo 66 = .ok (.iconst 1, 1) := by decide +kernel
theorem dX6_keyTo_67 : decode cX6_keyTo 67 = .ok (.iushr, 1) := by decide +kernel
theorem dX6_keyTo_68 : decode cX6_keyTo 68 = .ok (.ldc 121, 2) := by decide +kernel
theorem dX6_keyTo_70 : decode cX6_keyTo 70 = .ok (.ixor, 1) := by decide +kernel
theorem dX6_keyTo_71 : decode cX6_keyTo 71 = .ok (.istore_n 3, 1) := by decide +kernel
theorem dX6_keyTo_72 : decode cX6_keyTo 72 = .ok (.iinc 4 1, 3) := by decide +kernel
theorem dX6_keyTo_75 : decode cX6_keyTo 75 = .ok (.goto (-29), 3) := by decide +kernel
theorem dX6_keyTo_78 : decode cX6_keyTo 78 = .ok (.iload_n 3, 1) := by decide +kernel
theorem dX6_keyTo_79 : decode cX6_keyTo 79 = .ok (.ireturn, 1) := by decide +kernel
set_option maxRecDepth 20000 in
theorem ggX6_came_X6_keyTo : GoodIn wsX6_came wsX6_keyTo := goodIn_ca (goodIn_r _ [15, 16, 17, 18, 19, 20, 21, 22, 23, 24, 25, 26, 27, 28, 29, 30, 31, 32, 33, 34, 35, 36, 37, 38, 39, 40, 41, 42, 43, 44, 45, 46] (by decide +kernel) (by decide +kernel)) (goodIn_sub (fun _ h => List.mem_cons_of_mem _ (List.mem_append_right _ h)) (by decide +kernel))
set_option maxRecDepth 20000 in
theorem gX6_came_X6_keyTo : GoodIn wsX6_came (wsV RX6 122 RX6 yX6_keyTo wsX6_keyTo) := goodIn_app (goodIn_of _ (by decide +kernel)) ggX6_came_X6_keyTo
theorem dX6_came_0 : decode cX6_came 0 = .ok (.iload_n 2, 1) := by decide +kernel
theorem dX6_came_1 : decode cX6_came 1 = .ok (.iconst 4, 1) := by decide +kernel
theorem dX6_came_2 : decode cX6_came 2 = .ok (.if_icmp .eq 6, 3) := by decide +kernel
theorem dX6_came_5 : decode cX6_came 5 = .ok (.bipush (-19), 2) := by decide +kernel
theorem dX6_came_7 : decode cX6_came 7 = .ok (.ireturn, 1) := by decide +kernel
theorem dX6_came_8 : decode cX6_came 8 = .ok (.aload_n 0, 1) := by decide +kernel
theorem dX6_came_9 : decode cX6_came 9 = .ok (.getfield 37, 3) := by decide +kernel
theorem dX6_came_12 : decode cX6_came 12 = .ok (.aload_n 0, 1) := by decide +kernel
theorem dX6_came_13 : decode cX6_came 13 = .ok (.getfield 96, 3) := by decide +kernel
theorem dX6_came_16 : decode cX6_came 16 = .ok (.iaload, 1) := by decide +kernel
theorem dX6_came_17 : decode cX6_came 17 = .ok (.iload_n 1, 1) := by decide +kernel
theorem dX6_came_18 : decode cX6_came 18 = .ok (.if_icmp .eq 6, 3) := by decide +kernel
theorem dX6_came_21 : decode cX6_came 21 = .ok (.bipush (-36), 2) := by decide +kernel
theorem dX6_came_23 : decode cX6_came 23 = .ok (.ireturn, 1) := by decide +kernel
theorem dX6_came_24 : decode cX6_came 24 = .ok (.aload_n 0, 1) := by decide +kernel
theorem dX6_came_25 : decode cX6_came 25 = .ok (.getfield 37, 3) := by decide +kernel
theorem dX6_came_28 : decode cX6_came 28 = .ok (.aload_n 0, 1) := by decide +kernel
theorem dX6_came_29 : decode cX6_came 29 = .ok (.getfield 96, 3) := by decide +kernel
theorem dX6_came_32 : decode cX6_came 32 = .ok (.iconst 0, 1) := by decide +kernel
theorem dX6_came_33 : decode cX6_came 33 = .ok (.iastore, 1) := by decide +kernel
theorem dX6_came_34 : decode cX6_came 34 = .ok (.bipush 21, 2) := by decide +kernel
theorem dX6_came_36 : decode cX6_came 36 = .ok (.aload_n 0, 1) := by decide +kernel
theorem dX6_came_37 : decode cX6_came 37 = .ok (.getfield 96, 3) := by decide +kernel
theorem dX6_came_40 : decode cX6_came 40 = .ok (.imul, 1) := by decide +kernel
theorem dX6_came_41 : decode cX6_came 41 = .ok (.iload_n 1, 1) := by decide +kernel
theorem dX6_came_42 : decode cX6_came 42 = .ok (.iadd, 1) := by decide +kernel
theorem dX6_came_43 : decode cX6_came 43 = .ok (.istore 4, 2) := by decide +kernel
theorem dX6_came_45 : decode cX6_came 45 = .ok (.iload_n 3, 1) := by decide +kernel
theorem dX6_came_46 : decode cX6_came 46 = .ok (.aload_n 0, 1) := by decide +kernel
theorem dX6_came_47 : decode cX6_came 47 = .ok (.iload_n 1, 1) := by decide +kernel
theorem dX6_came_48 : decode cX6_came 48 = .ok (.aload_n 0, 1) := by decide +kernel
theorem dX6_came_49 : decode cX6_came 49 = .ok (.getfield 40, 3) := by decide +kernel
theorem dX6_came_52 : decode cX6_came 52 = .ok (.aload_n 0, 1) := by decide +kernel
theorem dX6_came_53 : decode cX6_came 53 = .ok (.getfield 96, 3) := by decide +kernel
theorem dX6_came_56 : decode cX6_came 56 = .ok (.iaload, 1) := by decide +kernel
theorem dX6_came_57 : decode cX6_came 57 = .ok (.invokevirtual 122, 3) := by decide +kernel
theorem dX6_came_60 : decode cX6_came 60 = .ok (.if_icmp .ne 23, 3) := by decide +kernel
theorem dX6_came_63 : decode cX6_came 63 = .ok (.aload_n 0, 1) := by decide +kernel
theorem dX6_came_64 : decode cX6_came 64 = .ok (.getfield 34, 3) := by decide +kernel
theorem dX6_came_67 : decode cX6_came 67 = .ok (.aload_n 0, 1) := by decide +kernel
theorem dX6_came_68 : decode cX6_came 68 = .ok (.getfield 96, 3) := by decide +kernel
theorem dX6_came_71 : decode cX6_came 71 = .ok (.iload_n 1, 1) := by decide +kernel
theorem dX6_came_72 : decode cX6_came 72 = .ok (.iastore, 1) := by decide +kernel
theorem dX6_came_73 : decode cX6_came 73 = .ok (.aload_n 0, 1) := by decide +kernel
theorem dX6_came_74 : decode cX6_came 74 = .ok (.getfield 52, 3) := by decide +kernel
theorem dX6_came_77 : decode cX6_came 77 = .ok (.iload 4, 2) := by decide +kernel
theorem dX6_came_79 : decode cX6_came 79 = .ok (.iconst 0, 1) := by decide +kernel
theorem dX6_came_80 : decode cX6_came 80 = .ok (.iastore, 1) := by decide +kernel
theorem dX6_came_81 : decode cX6_came 81 = .ok (.iconst 1, 1) := by decide +kernel
theorem dX6_came_82 : decode cX6_came 82 = .ok (.ireturn, 1) := by decide +kernel
theorem dX6_came_83 : decode cX6_came 83 = .ok (.aload_n 0, 1) := by decide +kernel
theorem dX6_came_84 : decode cX6_came 84 = .ok (.getfield 52, 3) := by decide +kernel
theorem dX6_came_87 : decode cX6_came 87 = .ok (.iload 4, 2) := by decide +kernel
theorem dX6_came_89 : decode cX6_came 89 = .ok (.dup2, 1) := by decide +kernel
theorem dX6_came_90 : decode cX6_came 90 = .ok (.iaload, 1) := by decide +kernel
theorem dX6_came_91 : decode cX6_came 91 = .ok (.iconst 1, 1) := by decide +kernel
theorem dX6_came_92 : decode cX6_came 92 = .ok (.iadd, 1) := by decide +kernel
theorem dX6_came_93 : decode cX6_came 93 = .ok (.iastore, 1) := by decide +kernel
theorem dX6_came_94 : decode cX6_came 94 = .ok (.aload_n 0, 1) := by decide +kernel
theorem dX6_came_95 : decode cX6_came 95 = .ok (.getfield 52, 3) := by decide +kernel
theorem dX6_came_98 : decode cX6_came 98 = .ok (.iload 4, 2) := by decide +kernel
theorem dX6_came_100 : decode cX6_came 100 = .ok (.iaload, 1) := by decide +kernel
theorem dX6_came_101 : decode cX6_came 101 = .ok (.aload_n 0, 1) := by decide +kernel
theorem dX6_came_102 : decode cX6_came 102 = .ok (.getfield 13, 3) := by decide +kernel
theorem dX6_came_105 : decode cX6_came 105 = .ok (.iload_n 1, 1) := by decide +kernel
theorem dX6_came_106 : decode cX6_came 106 = .ok (.iaload, 1) := by decide +kernel
theorem dX6_came_107 : decode cX6_came 107 = .ok (.if_icmp .ge 6, 3) := by decide +kernel
theorem dX6_came_110 : decode cX6_came 110 = .ok (.bipush (-53), 2) := by decide +kernel
theorem dX6_came_112 : decode cX6_came 112 = .ok (.ireturn, 1) := by decide +kernel
theorem dX6_came_113 : decode cX6_came 113 = .ok (.aload_n 0, 1) := by decide +kernel
theorem dX6_came_114 : decode cX6_came 114 = .ok (.getfield 52, 3) := by decide +kernel
theorem dX6_came_117 : decode cX6_came 117 = .ok (.iload 4, 2) := by decide +kernel
theorem dX6_came_119 : decode cX6_came 119 = .ok (.iconst 0, 1) := by decide +kernel
theorem dX6_came_120 : decode cX6_came 120 = .ok (.iastore, 1) := by decide +kernel
theorem dX6_came_121 : decode cX6_came 121 = .ok (.aload_n 0, 1) := by decide +kernel
theorem dX6_came_122 : decode cX6_came 122 = .ok (.getfield 55, 3) := by decide +kernel
theorem dX6_came_125 : decode cX6_came 125 = .ok (.iload 4, 2) := by decide +kernel
theorem dX6_came_127 : decode cX6_came 127 = .ok (.aload_n 0, 1) := by decide +kernel
theorem dX6_came_128 : decode cX6_came 128 = .ok (.getfield 99, 3) := by decide +kernel
theorem dX6_came_131 : decode cX6_came 131 = .ok (.aload_n 0, 1) := by decide +kernel
theorem dX6_came_132 : decode cX6_came 132 = .ok (.getfield 16, 3) := by decide +kernel
theorem dX6_came_135 : decode cX6_came 135 = .ok (.iload_n 1, 1) := by decide +kernel
theorem dX6_came_136 : decode cX6_came 136 = .ok (.laload, 1) := by decide +kernel
theorem dX6_came_137 : decode cX6_came 137 = .ok (.ladd, 1) := by decide +kernel
theorem dX6_came_138 : decode cX6_came 138 = .ok (.lastore, 1) := by decide +kernel
theorem dX6_came_139 : decode cX6_came 139 = .ok (.aload_n 0, 1) := by decide +kernel
theorem dX6_came_140 : decode cX6_came 140 = .ok (.getfield 58, 3) := by decide +kernel
theorem dX6_came_143 : decode cX6_came 143 = .ok (.iload 4, 2) := by decide +kernel
theorem dX6_came_145 : decode cX6_came 145 = .ok (.iconst 1, 1) := by decide +kernel
theorem dX6_came_146 : decode cX6_came 146 = .ok (.bastore, 1) := by decide +kernel
theorem dX6_came_147 : decode cX6_came 147 = .ok (.bipush (-54), 2) := by decide +kernel
theorem dX6_came_149 : decode cX6_came 149 = .ok (.ireturn, 1) := by decide +kernel
set_option maxRecDepth 20000 in
theorem ggX6_key_X6_isMade : GoodIn wsX6_key wsX6_isMade := goodIn_ca (goodIn_r _ [9, 10, 39, 40, 41, 42, 43, 44, 45, 46, 47, 48, 49, 50, 51, 52, 53, 54, 55, 56, 57, 58, 59, 60, 61, 62, 63, 64, 65] (by decide +kernel) (by decide +kernel)) (goodIn_sub (fun _ h => List.mem_cons_of_mem _ (List.mem_append_right _ h)) (by decide +kernel))
set_option maxRecDepth 20000 in
theorem gX6_key_X6_isMade : GoodIn wsX6_key (wsV RX6 77 RX6 yX6_isMade wsX6_isMade) := goodIn_app (goodIn_of _ (by decide +kernel)) ggX6_key_X6_isMade
set_option maxRecDepth 20000 in
theorem ggX6_key_X6_came : GoodIn wsX6_key wsX6_came := goodIn_ca (goodIn_r _ [14, 15, 3, 16, 17, 18, 10, 19, 20, 21, 22, 23, 24, 25, 8, 26, 27, 28, 29, 30, 39, 40, 41, 42, 43, 44, 45, 46, 47, 48, 49, 50, 51, 52, 53, 54, 55, 56, 57, 58, 59, 60, 61, 62, 63, 64, 65] (by decide +kernel) (by decide +kernel)) (goodIn_sub (fun _ h => List.mem_cons_of_mem _ (List.mem_append_right _ h)) (by decide +kernel))
set_option maxRecDepth 20000 in
theorem gX6_key_X6_came : GoodIn wsX6_key (wsV RX6 125 RX6 yX6_came wsX6_came) := goodIn_app (goodIn_of _ (by decide +kernel)) ggX6_key_X6_came
set_option maxRecDepth 20000 in
theorem ggX6_key_X6_note : GoodIn wsX6_key wsX6_note := goodIn_ca (goodIn_r _ [34, 35, 36, 3, 37, 38, 39, 40, 41, 42, 43, 44, 45, 46, 47, 48, 49, 50, 51, 52, 53, 54, 55, 56, 57, 58, 59, 60, 61, 62, 63, 64, 65] (by decide +kernel) (by decide +kernel)) (goodIn_sub (fun _ h => List.mem_cons_of_mem _ (List.mem_append_right _ h)) (by decide +kernel))
set_option maxRecDepth 20000 in
theorem gX6_key_X6_note : GoodIn wsX6_key (wsV RX6 115 RX6 yX6_note wsX6_note) := goodIn_app (goodIn_of _ (by decide +kernel)) ggX6_key_X6_note
theorem dX6_key_0 : decode cX6_key 0 = .ok (.aload_n 0, 1) := by decide +kernel
theorem dX6_key_1 : decode cX6_key 1 = .ok (.iconst 0, 1) := by decide +kernel
theorem dX6_key_2 : decode cX6_key 2 = .ok (.putfield 71, 3) := by decide +kernel
theorem dX6_key_5 : decode cX6_key 5 = .ok (.aload_n 0, 1) := by decide +kernel
theorem dX6_key_6 : decode cX6_key 6 = .ok (.getfield 49, 3) := by decide +kernel
theorem dX6_key_9 : decode cX6_key 9 = .ok (.aload_n 0, 1) := by decide +kernel
theorem dX6_key_10 : decode cX6_key 10 = .ok (.getfield 96, 3) := by decide +kernel
theorem dX6_key_13 : decode cX6_key 13 = .ok (.aload_n 0, 1) := by decide +kernel
theorem dX6_key_14 : decode cX6_key 14 = .ok (.getfield 49, 3) := by decide +kernel
theorem dX6_key_17 : decode cX6_key 17 = .ok (.aload_n 0, 1) := by decide +kernel
theorem dX6_key_18 : decode cX6_key 18 = .ok (.getfield 96, 3) := by decide +kernel
theorem dX6_key_21 : decode cX6_key 21 = .ok (.iaload, 1) := by decide +kernel
theorem dX6_key_22 : decode cX6_key 22 = .ok (.bipush 8, 2) := by decide +kernel
theorem dX6_key_24 : decode cX6_key 24 = .ok (.ishl, 1) := by decide +kernel
theorem dX6_key_25 : decode cX6_key 25 = .ok (.iload_n 2, 1) := by decide +kernel
theorem dX6_key_26 : decode cX6_key 26 = .ok (.sipush 255, 3) := by decide +kernel
theorem dX6_key_29 : decode cX6_key 29 = .ok (.iand, 1) := by decide +kernel
theorem dX6_key_30 : decode cX6_key 30 = .ok (.ior, 1) := by decide +kernel
theorem dX6_key_31 : decode cX6_key 31 = .ok (.iastore, 1) := by decide +kernel
theorem dX6_key_32 : decode cX6_key 32 = .ok (.aload_n 0, 1) := by decide +kernel
theorem dX6_key_33 : decode cX6_key 33 = .ok (.getfield 46, 3) := by decide +kernel
theorem dX6_key_36 : decode cX6_key 36 = .ok (.aload_n 0, 1) := by decide +kernel
theorem dX6_key_37 : decode cX6_key 37 = .ok (.getfield 96, 3) := by decide +kernel
theorem dX6_key_40 : decode cX6_key 40 = .ok (.dup2, 1) := by decide +kernel
theorem dX6_key_41 : decode cX6_key 41 = .ok (.iaload, 1) := by decide +kernel
theorem dX6_key_42 : decode cX6_key 42 = .ok (.iconst 1, 1) := by decide +kernel
theorem dX6_key_43 : decode cX6_key 43 = .ok (.iadd, 1) := by decide +kernel
theorem dX6_key_44 : decode cX6_key 44 = .ok (.iastore, 1) := by decide +kernel
theorem dX6_key_45 : decode cX6_key 45 = .ok (.iload_n 3, 1) := by decide +kernel
theorem dX6_key_46 : decode cX6_key 46 = .ok (.ifCond .ne 5, 3) := by decide +kernel
theorem dX6_key_49 : decode cX6_key 49 = .ok (.iconst 0, 1) := by decide +kernel
theorem dX6_key_50 : decode cX6_key 50 = .ok (.ireturn, 1) := by decide +kernel
theorem dX6_key_51 : decode cX6_key 51 = .ok (.aload_n 0, 1) := by decide +kernel
theorem dX6_key_52 : decode cX6_key 52 = .ok (.getfield 46, 3) := by decide +kernel
theorem dX6_key_55 : decode cX6_key 55 = .ok (.aload_n 0, 1) := by decide +kernel
theorem dX6_key_56 : decode cX6_key 56 = .ok (.getfield 96, 3) := by decide +kernel
theorem dX6_key_59 : decode cX6_key 59 = .ok (.iaload, 1) := by decide +kernel
theorem dX6_key_60 : decode cX6_key 60 = .ok (.istore 4, 2) := by decide +kernel
theorem dX6_key_62 : decode cX6_key 62 = .ok (.aload_n 0, 1) := by decide +kernel
theorem dX6_key_63 : decode cX6_key 63 = .ok (.getfield 49, 3) := by decide +kernel
theorem dX6_key_66 : decode cX6_key 66 = .ok (.aload_n 0, 1) := by decide +kernel
theorem dX6_key_67 : decode cX6_key 67 = .ok (.getfield 96, 3) := by decide +kernel
theorem dX6_key_70 : decode cX6_key 70 = .ok (.iaload, 1) := by decide +kernel
theorem dX6_key_71 : decode cX6_key 71 = .ok (.istore 5, 2) := by decide +kernel
theorem dX6_key_73 : decode cX6_key 73 = .ok (.aload_n 0, 1) := by decide +kernel
theorem dX6_key_74 : decode cX6_key 74 = .ok (.getfield 46, 3) := by decide +kernel
theorem dX6_key_77 : decode cX6_key 77 = .ok (.aload_n 0, 1) := by decide +kernel
theorem dX6_key_78 : decode cX6_key 78 = .ok (.getfield 96, 3) := by decide +kernel
theorem dX6_key_81 : decode cX6_key 81 = .ok (.iconst 0, 1) := by decide +kernel
theorem dX6_key_82 : decode cX6_key 82 = .ok (.iastore, 1) := by decide +kernel
theorem dX6_key_83 : decode cX6_key 83 = .ok (.aload_n 0, 1) := by decide +kernel
theorem dX6_key_84 : decode cX6_key 84 = .ok (.getfield 49, 3) := by decide +kernel
theorem dX6_key_87 : decode cX6_key 87 = .ok (.aload_n 0, 1) := by decide +kernel
theorem dX6_key_88 : decode cX6_key 88 = .ok (.getfield 96, 3) := by decide +kernel
theorem dX6_key_91 : decode cX6_key 91 = .ok (.iconst 0, 1) := by decide +kernel
theorem dX6_key_92 : decode cX6_key 92 = .ok (.iastore, 1) := by decide +kernel
theorem dX6_key_93 : decode cX6_key 93 = .ok (.aload_n 0, 1) := by decide +kernel
theorem dX6_key_94 : decode cX6_key 94 = .ok (.iload_n 1, 1) := by decide +kernel
theorem dX6_key_95 : decode cX6_key 95 = .ok (.invokevirtual 77, 3) := by decide +kernel
theorem dX6_key_98 : decode cX6_key 98 = .ok (.ifCond .eq 20, 3) := by decide +kernel
theorem dX6_key_101 : decode cX6_key 101 = .ok (.aload_n 0, 1) := by decide +kernel
theorem dX6_key_102 : decode cX6_key 102 = .ok (.iload_n 1, 1) := by decide +kernel
theorem dX6_key_103 : decode cX6_key 103 = .ok (.aload_n 0, 1) := by decide +kernel
theorem dX6_key_104 : decode cX6_key 104 = .ok (.iload_n 1, 1) := by decide +kernel
theorem dX6_key_105 : decode cX6_key 105 = .ok (.iload 4, 2) := by decide +kernel
theorem dX6_key_107 : decode cX6_key 107 = .ok (.iload 5, 2) := by decide +kernel
theorem dX6_key_109 : decode cX6_key 109 = .ok (.invokevirtual 125, 3) := by decide +kernel
theorem dX6_key_112 : decode cX6_key 112 = .ok (.invokevirtual 115, 3) := by decide +kernel
theorem dX6_key_115 : decode cX6_key 115 = .ok (.goto 4, 3) := by decide +kernel
theorem dX6_key_118 : decode cX6_key 118 = .ok (.iconst (-1), 1) := by decide +kernel
theorem dX6_key_119 : decode cX6_key 119 = .ok (.ireturn, 1) := by decide +kernel
theorem dX6_out_0 : decode cX6_out 0 = .ok (.aload_n 0, 1) := by decide +kernel
theorem dX6_out_1 : decode cX6_out 1 = .ok (.iload_n 1, 1) := by decide +kernel
theorem dX6_out_2 : decode cX6_out 2 = .ok (.ifCond .lt 8, 3) := by decide +kernel
theorem dX6_out_5 : decode cX6_out 5 = .ok (.iload_n 1, 1) := by decide +kernel
theorem dX6_out_6 : decode cX6_out 6 = .ok (.iconst 3, 1) := by decide +kernel
theorem dX6_out_7 : decode cX6_out 7 = .ok (.if_icmp .le 7, 3) := by decide +kernel
theorem dX6_out_10 : decode cX6_out 10 = .ok (.iconst 1, 1) := by decide +kernel
theorem dX6_out_11 : decode cX6_out 11 = .ok (.goto 4, 3) := by decide +kernel
theorem dX6_out_14 : decode cX6_out 14 = .ok (.iconst 0, 1) := by decide +kernel
theorem dX6_out_15 : decode cX6_out 15 = .ok (.putfield 71, 3) := by decide +kernel
theorem dX6_out_18 : decode cX6_out 18 = .ok (.aload_n 0, 1) := by decide +kernel
theorem dX6_out_19 : decode cX6_out 19 = .ok (.getfield 71, 3) := by decide +kernel
theorem dX6_out_22 : decode cX6_out 22 = .ok (.ifCond .le 7, 3) := by decide +kernel
theorem dX6_out_25 : decode cX6_out 25 = .ok (.iconst 0, 1) := by decide +kernel
theorem dX6_out_26 : decode cX6_out 26 = .ok (.goto 21, 3) := by decide +kernel
theorem dX6_out_29 : decode cX6_out 29 = .ok (.aload_n 0, 1) := by decide +kernel
theorem dX6_out_30 : decode cX6_out 30 = .ok (.getfield 43, 3) := by decide +kernel
theorem dX6_out_33 : decode cX6_out 33 = .ok (.aload_n 0, 1) := by decide +kernel
theorem dX6_out_34 : decode cX6_out 34 = .ok (.getfield 96, 3) := by decide +kernel
theorem dX6_out_37 : decode cX6_out 37 = .ok (.iaload, 1) := by decide +kernel
theorem dX6_out_38 : decode cX6_out 38 = .ok (.bipush 24, 2) := by decide +kernel
theorem dX6_out_40 : decode cX6_out 40 = .ok (.bipush 8, 2) := by decide +kernel
theorem dX6_out_42 : decode cX6_out 42 = .ok (.iload_n 1, 1) := by decide +kernel
theorem dX6_out_43 : decode cX6_out 43 = .ok (.imul, 1) := by decide +kernel
theorem dX6_out_44 : decode cX6_out 44 = .ok (.isub, 1) := by decide +kernel
theorem dX6_out_45 : decode cX6_out 45 = .ok (.ishr, 1) := by decide +kernel
theorem dX6_out_46 : decode cX6_out 46 = .ok (.i2b, 1) := by decide +kernel
theorem dX6_out_47 : decode cX6_out 47 = .ok (.ireturn, 1) := by decide +kernel
set_option maxRecDepth 20000 in
theorem ggX6_open_X6_isMade : GoodIn wsX6_open wsX6_isMade := goodIn_ca (goodIn_r _ [8, 9, 10, 11, 12, 13, 14, 15, 16, 17, 18, 19, 20, 21, 22, 23, 24, 25, 26, 27, 28, 29, 30, 31, 32, 33, 34, 35, 36] (by decide +kernel) (by decide +kernel)) (goodIn_sub (fun _ h => List.mem_cons_of_mem _ (List.mem_append_right _ h)) (by decide +kernel))
set_option maxRecDepth 20000 in
theorem gX6_open_X6_isMade : GoodIn wsX6_open (wsV RX6 77 RX6 yX6_isMade wsX6_isMade) := goodIn_app (goodIn_of _ (by decide +kernel)) ggX6_open_X6_isMade
theorem dX6_open_0 : decode cX6_open 0 = .ok (.aload_n 0, 1) := by decide +kernel
theorem dX6_open_1 : decode cX6_open 1 = .ok (.iconst 0, 1) := by decide +kernel
theorem dX6_open_2 : decode cX6_open 2 = .ok (.putfield 71, 3) := by decide +kernel
theorem dX6_open_5 : decode cX6_open 5 = .ok (.aload_n 0, 1) := by decide +kernel
theorem dX6_open_6 : decode cX6_open 6 = .ok (.iload_n 1, 1) := by decide +kernel
theorem dX6_open_7 : decode cX6_open 7 = .ok (.invokevirtual 77, 3) := by decide +kernel
theorem dX6_open_10 : decode cX6_open 10 = .ok (.ifCond .ne 7, 3) := by decide +kernel
theorem dX6_open_13 : decode cX6_open 13 = .ok (.iconst (-1), 1) := by decide +kernel
theorem dX6_open_14 : decode cX6_open 14 = .ok (.goto 21, 3) := by decide +kernel
theorem dX6_open_17 : decode cX6_open 17 = .ok (.aload_n 0, 1) := by decide +kernel
theorem dX6_open_18 : decode cX6_open 18 = .ok (.getfield 34, 3) := by decide +kernel
theorem dX6_open_21 : decode cX6_open 21 = .ok (.aload_n 0, 1) := by decide +kernel
theorem dX6_open_22 : decode cX6_open 22 = .ok (.getfield 96, 3) := by decide +kernel
theorem dX6_open_25 : decode cX6_open 25 = .ok (.iaload, 1) := by decide +kernel
theorem dX6_open_26 : decode cX6_open 26 = .ok (.iload_n 1, 1) := by decide +kernel
theorem dX6_open_27 : decode cX6_open 27 = .ok (.if_icmp .ne 7, 3) := by decide +kernel
theorem dX6_open_30 : decode cX6_open 30 = .ok (.iconst 1, 1) := by decide +kernel
theorem dX6_open_31 : decode cX6_open 31 = .ok (.goto 4, 3) := by decide +kernel
theorem dX6_open_34 : decode cX6_open 34 = .ok (.iconst 0, 1) := by decide +kernel
theorem dX6_open_35 : decode cX6_open 35 = .ok (.ireturn, 1) := by decide +kernel
theorem dX6_begin_0 : decode cX6_begin 0 = .ok (.aload_n 0, 1) := by decide +kernel
theorem dX6_begin_1 : decode cX6_begin 1 = .ok (.getfield 26, 3) := by decide +kernel
theorem dX6_begin_4 : decode cX6_begin 4 = .ok (.iload_n 1, 1) := by decide +kernel
theorem dX6_begin_5 : decode cX6_begin 5 = .ok (.iload_n 2, 1) := by decide +kernel
theorem dX6_begin_6 : decode cX6_begin 6 = .ok (.iastore, 1) := by decide +kernel
theorem dX6_begin_7 : decode cX6_begin 7 = .ok (.aload_n 0, 1) := by decide +kernel
theorem dX6_begin_8 : decode cX6_begin 8 = .ok (.getfield 37, 3) := by decide +kernel
theorem dX6_begin_11 : decode cX6_begin 11 = .ok (.iload_n 1, 1) := by decide +kernel
theorem dX6_begin_12 : decode cX6_begin 12 = .ok (.iconst 0, 1) := by decide +kernel
theorem dX6_begin_13 : decode cX6_begin 13 = .ok (.iastore, 1) := by decide +kernel
theorem dX6_begin_14 : decode cX6_begin 14 = .ok (.aload_n 0, 1) := by decide +kernel
theorem dX6_begin_15 : decode cX6_begin 15 = .ok (.getfield 34, 3) := by decide +kernel
theorem dX6_begin_18 : decode cX6_begin 18 = .ok (.iload_n 1, 1) := by decide +kernel
theorem dX6_begin_19 : decode cX6_begin 19 = .ok (.iconst 0, 1) := by decide +kernel
theorem dX6_begin_20 : decode cX6_begin 20 = .ok (.iastore, 1) := by decide +kernel
theorem dX6_begin_21 : decode cX6_begin 21 = .ok (.aload_n 0, 1) := by decide +kernel
theorem dX6_begin_22 : decode cX6_begin 22 = .ok (.getfield 31, 3) := by decide +kernel
theorem dX6_begin_25 : decode cX6_begin 25 = .ok (.iload_n 1, 1) := by decide +kernel
theorem dX6_begin_26 : decode cX6_begin 26 = .ok (.ldc2_w 29, 3) := by decide +kernel
theorem dX6_begin_29 : decode cX6_begin 29 = .ok (.lastore, 1) := by decide +kernel
theorem dX6_begin_30 : decode cX6_begin 30 = .ok (.return_, 1) := by decide +kernel
set_option maxRecDepth 20000 in
theorem ggX6_session_X6_begin : GoodIn wsX6_session wsX6_begin := goodIn_ca (goodIn_r _ [8, 2, 9, 10, 11, 12, 13, 14, 15, 16, 17, 18, 19, 20, 21, 22, 23, 24, 25, 26, 27, 28, 29, 30, 31, 32, 33, 34, 35, 36, 37, 38, 39] (by decide +kernel) (by decide +kernel)) (goodIn_sub (fun _ h => List.mem_cons_of_mem _ (List.mem_append_right _ h)) (by decide +kernel))
set_option maxRecDepth 20000 in
theorem gX6_session_X6_begin : GoodIn wsX6_session (wsV RX6 129 RX6 yX6_begin wsX6_begin) := goodIn_app (goodIn_of _ (by decide +kernel)) ggX6_session_X6_begin
theorem dX6_session_0 : decode cX6_session 0 = .ok (.aload_n 0, 1) := by decide +kernel
theorem dX6_session_1 : decode cX6_session 1 = .ok (.iconst 0, 1) := by decide +kernel
theorem dX6_session_2 : decode cX6_session 2 = .ok (.putfield 71, 3) := by decide +kernel
theorem dX6_session_5 : decode cX6_session 5 = .ok (.iload_n 1, 1) := by decide +kernel
theorem dX6_session_6 : decode cX6_session 6 = .ok (.iconst 1, 1) := by decide +kernel
theorem dX6_session_7 : decode cX6_session 7 = .ok (.if_icmp .lt 8, 3) := by decide +kernel
theorem dX6_session_10 : decode cX6_session 10 = .ok (.iload_n 1, 1) := by decide +kernel
theorem dX6_session_11 : decode cX6_session 11 = .ok (.iconst 3, 1) := by decide +kernel
theorem dX6_session_12 : decode cX6_session 12 = .ok (.if_icmp .le 6, 3) := by decide +kernel
theorem dX6_session_15 : decode cX6_session 15 = .ok (.bipush (-2), 2) := by decide +kernel
theorem dX6_session_17 : decode cX6_session 17 = .ok (.ireturn, 1) := by decide +kernel
theorem dX6_session_18 : decode cX6_session 18 = .ok (.aload_n 0, 1) := by decide +kernel
theorem dX6_session_19 : decode cX6_session 19 = .ok (.getfield 26, 3) := by decide +kernel
theorem dX6_session_22 : decode cX6_session 22 = .ok (.aload_n 0, 1) := by decide +kernel
theorem dX6_session_23 : decode cX6_session 23 = .ok (.getfield 96, 3) := by decide +kernel
theorem dX6_session_26 : decode cX6_session 26 = .ok (.iaload, 1) := by decide +kernel
theorem dX6_session_27 : decode cX6_session 27 = .ok (.istore_n 2, 1) := by decide +kernel
theorem dX6_session_28 : decode cX6_session 28 = .ok (.aload_n 0, 1) := by decide +kernel
theorem dX6_session_29 : decode cX6_session 29 = .ok (.aload_n 0, 1) := by decide +kernel
theorem dX6_session_30 : decode cX6_session 30 = .ok (.getfield 96, 3) := by decide +kernel
theorem dX6_session_33 : decode cX6_session 33 = .ok (.iload_n 1, 1) := by decide +kernel
theorem dX6_session_34 : decode cX6_session 34 = .ok (.invokevirtual 129, 3) := by decide +kernel
theorem dX6_session_37 : decode cX6_session 37 = .ok (.iload_n 2, 1) := by decide +kernel
theorem dX6_session_38 : decode cX6_session 38 = .ok (.ireturn, 1) := by decide +kernel
set_option maxRecDepth 20000 in
theorem ggX6_reset_X6_begin : GoodIn wsX6_reset wsX6_begin := goodIn_ca (goodIn_r _ [10, 11, 12, 2, 13, 14, 15, 16, 17, 18, 19, 20, 21, 22, 23, 24, 25, 26, 27, 28, 29, 30, 31, 32, 33, 34, 35, 36, 37, 38, 39, 40, 41] (by decide +kernel) (by decide +kernel)) (goodIn_sub (fun _ h => List.mem_cons_of_mem _ (List.mem_append_right _ h)) (by decide +kernel))
set_option maxRecDepth 20000 in
theorem gX6_reset_X6_begin : GoodIn wsX6_reset (wsV RX6 129 RX6 yX6_begin wsX6_begin) := goodIn_app (goodIn_of _ (by decide +kernel)) ggX6_reset_X6_begin
theorem dX6_reset_0 : decode cX6_reset 0 = .ok (.aload_n 0, 1) := by decide +kernel
theorem dX6_reset_1 : decode cX6_reset 1 = .ok (.iconst 0, 1) := by decide +kernel
theorem dX6_reset_2 : decode cX6_reset 2 = .ok (.putfield 71, 3) := by decide +kernel
theorem dX6_reset_5 : decode cX6_reset 5 = .ok (.iconst 0, 1) := by decide +kernel
theorem dX6_reset_6 : decode cX6_reset 6 = .ok (.istore_n 1, 1) := by decide +kernel
theorem dX6_reset_7 : decode cX6_reset 7 = .ok (.iconst 0, 1) := by decide +kernel
theorem dX6_reset_8 : decode cX6_reset 8 = .ok (.istore_n 2, 1) := by decide +kernel
theorem dX6_reset_9 : decode cX6_reset 9 = .ok (.iload_n 2, 1) := by decide +kernel
theorem dX6_reset_10 : decode cX6_reset 10 = .ok (.iconst 4, 1) := by decide +kernel
theorem dX6_reset_11 : decode cX6_reset 11 = .ok (.if_icmp .ge 46, 3) := by decide +kernel
theorem dX6_reset_14 : decode cX6_reset 14 = .ok (.aload_n 0, 1) := by decide +kernel
theorem dX6_reset_15 : decode cX6_reset 15 = .ok (.getfield 34, 3) := by decide +kernel
theorem dX6_reset_18 : decode cX6_reset 18 = .ok (.iload_n 2, 1) := by decide +kernel
theorem dX6_reset_19 : decode cX6_reset 19 = .ok (.iaload, 1) := by decide +kernel
theorem dX6_reset_20 : decode cX6_reset 20 = .ok (.ifCond .le 9, 3) := by decide +kernel
theorem dX6_reset_23 : decode cX6_reset 23 = .ok (.iload_n 1, 1) := by decide +kernel
theorem dX6_reset_24 : decode cX6_reset 24 = .ok (.iconst 1, 1) := by decide +kernel
theorem dX6_reset_25 : decode cX6_reset 25 = .ok (.iadd, 1) := by decide +kernel
theorem dX6_reset_26 : decode cX6_reset 26 = .ok (.goto 4, 3) := by decide +kernel
theorem dX6_reset_29 : decode cX6_reset 29 = .ok (.iload_n 1, 1) := by decide +kernel
theorem dX6_reset_30 : decode cX6_reset 30 = .ok (.istore_n 1, 1) := by decide +kernel
theorem dX6_reset_31 : decode cX6_reset 31 = .ok (.aload_n 0, 1) := by decide +kernel
theorem dX6_reset_32 : decode cX6_reset 32 = .ok (.iload_n 2, 1) := by decide +kernel
theorem dX6_reset_33 : decode cX6_reset 33 = .ok (.iconst 1, 1) := by decide +kernel
theorem dX6_reset_34 : decode cX6_reset 34 = .ok (.invokevirtual 129, 3) := by decide +kernel
theorem dX6_reset_37 : decode cX6_reset 37 = .ok (.aload_n 0, 1) := by decide +kernel
theorem dX6_reset_38 : decode cX6_reset 38 = .ok (.getfield 46, 3) := by decide +kernel
theorem dX6_reset_41 : decode cX6_reset 41 = .ok (.iload_n 2, 1) := by decide +kernel
theorem dX6_reset_42 : decode cX6_reset 42 = .ok (.iconst 0, 1) := by decide +kernel
theorem dX6_reset_43 : decode cX6_reset 43 = .ok (.iastore, 1) := by decide +kernel
theorem dX6_reset_44 : decode cX6_reset 44 = .ok (.aload_n 0, 1) := by decide +kernel
theorem dX6_reset_45 : decode cX6_reset 45 = .ok (.getfield 49, 3) := by decide +kernel
theorem dX6_reset_48 : decode cX6_reset 48 = .ok (.iload_n 2, 1) := by decide +kernel
theorem dX6_reset_49 : decode cX6_reset 49 = .ok (.iconst 0, 1) := by decide +kernel
theorem dX6_reset_50 : decode cX6_reset 50 = .ok (.iastore, 1) := by decide +kernel
theorem dX6_reset_51 : decode cX6_reset 51 = .ok (.iinc 2 1, 3) := by decide +kernel
theorem dX6_reset_54 : decode cX6_reset 54 = .ok (.goto (-45), 3) := by decide +kernel
theorem dX6_reset_57 : decode cX6_reset 57 = .ok (.aload_n 0, 1) := by decide +kernel
theorem dX6_reset_58 : decode cX6_reset 58 = .ok (.iconst 0, 1) := by decide +kernel
theorem dX6_reset_59 : decode cX6_reset 59 = .ok (.putfield 90, 3) := by decide +kernel
theorem dX6_reset_62 : decode cX6_reset 62 = .ok (.iload_n 1, 1) := by decide +kernel
theorem dX6_reset_63 : decode cX6_reset 63 = .ok (.ireturn, 1) := by decide +kernel
theorem dX6_role_0 : decode cX6_role 0 = .ok (.aload_n 0, 1) := by decide +kernel
theorem dX6_role_1 : decode cX6_role 1 = .ok (.iconst 0, 1) := by decide +kernel
theorem dX6_role_2 : decode cX6_role 2 = .ok (.putfield 71, 3) := by decide +kernel
theorem dX6_role_5 : decode cX6_role 5 = .ok (.iload_n 1, 1) := by decide +kernel
theorem dX6_role_6 : decode cX6_role 6 = .ok (.iconst 1, 1) := by decide +kernel
theorem dX6_role_7 : decode cX6_role 7 = .ok (.if_icmp .lt 9, 3) := by decide +kernel
theorem dX6_role_10 : decode cX6_role 10 = .ok (.iload_n 1, 1) := by decide +kernel
theorem dX6_role_11 : decode cX6_role 11 = .ok (.bipush 8, 2) := by decide +kernel
theorem dX6_role_13 : decode cX6_role 13 = .ok (.if_icmp .le 5, 3) := by decide +kernel
theorem dX6_role_16 : decode cX6_role 16 = .ok (.iconst (-1), 1) := by decide +kernel
theorem dX6_role_17 : decode cX6_role 17 = .ok (.ireturn, 1) := by decide +kernel
theorem dX6_role_18 : decode cX6_role 18 = .ok (.iload_n 2, 1) := by decide +kernel
theorem dX6_role_19 : decode cX6_role 19 = .ok (.ifCond .eq 12, 3) := by decide +kernel
theorem dX6_role_22 : decode cX6_role 22 = .ok (.lload_n 3, 1) := by decide +kernel
theorem dX6_role_23 : decode cX6_role 23 = .ok (.aload_n 0, 1) := by decide +kernel
theorem dX6_role_24 : decode cX6_role 24 = .ok (.getfield 99, 3) := by decide +kernel
theorem dX6_role_27 : decode cX6_role 27 = .ok (.lcmp, 1) := by decide +kernel
theorem dX6_role_28 : decode cX6_role 28 = .ok (.ifCond .gt 5, 3) := by decide +kernel
theorem dX6_role_31 : decode cX6_role 31 = .ok (.iconst 0, 1) := by decide +kernel
theorem dX6_role_32 : decode cX6_role 32 = .ok (.ireturn, 1) := by decide +kernel
theorem dX6_role_33 : decode cX6_role 33 = .ok (.aload_n 0, 1) := by decide +kernel
theorem dX6_role_34 : decode cX6_role 34 = .ok (.getfield 31, 3) := by decide +kernel
theorem dX6_role_37 : decode cX6_role 37 = .ok (.aload_n 0, 1) := by decide +kernel
theorem dX6_role_38 : decode cX6_role 38 = .ok (.getfield 96, 3) := by decide +kernel
theorem dX6_role_41 : decode cX6_role 41 = .ok (.lload_n 3, 1) := by decide +kernel
theorem dX6_role_42 : decode cX6_role 42 = .ok (.lastore, 1) := by decide +kernel
theorem dX6_role_43 : decode cX6_role 43 = .ok (.iconst 1, 1) := by decide +kernel
theorem dX6_role_44 : decode cX6_role 44 = .ok (.ireturn, 1) := by decide +kernel
set_option maxRecDepth 20000 in
theorem ggX6_left_X6_isMade : GoodIn wsX6_left wsX6_isMade := goodIn_ca (goodIn_r _ [11, 12, 13, 14, 15, 16, 17, 18, 19, 20, 21, 22, 23, 24, 25, 26, 27, 28, 29, 30, 31, 32, 33, 34, 35, 36, 37, 38, 39] (by decide +kernel) (by decide +kernel)) (goodIn_sub (fun _ h => List.mem_cons_of_mem _ (List.mem_append_right _ h)) (by decide +kernel))
set_option maxRecDepth 20000 in
theorem gX6_left_X6_isMade : GoodIn wsX6_left (wsV RX6 77 RX6 yX6_isMade wsX6_isMade) := goodIn_app (goodIn_of _ (by decide +kernel)) ggX6_left_X6_isMade
theorem dX6_left_0 : decode cX6_left 0 = .ok (.aload_n 0, 1) := by decide +kernel
theorem dX6_left_1 : decode cX6_left 1 = .ok (.iconst 0, 1) := by decide +kernel
theorem dX6_left_2 : decode cX6_left 2 = .ok (.putfield 71, 3) := by decide +kernel
theorem dX6_left_5 : decode cX6_left 5 = .ok (.aload_n 0, 1) := by decide +kernel
theorem dX6_left_6 : decode cX6_left 6 = .ok (.iload_n 1, 1) := by decide +kernel
theorem dX6_left_7 : decode cX6_left 7 = .ok (.invokevirtual 77, 3) := by decide +kernel
theorem dX6_left_10 : decode cX6_left 10 = .ok (.ifCond .ne 5, 3) := by decide +kernel
theorem dX6_left_13 : decode cX6_left 13 = .ok (.iconst (-1), 1) := by decide +kernel
theorem dX6_left_14 : decode cX6_left 14 = .ok (.ireturn, 1) := by decide +kernel
theorem dX6_left_15 : decode cX6_left 15 = .ok (.aload_n 0, 1) := by decide +kernel
theorem dX6_left_16 : decode cX6_left 16 = .ok (.getfield 55, 3) := by decide +kernel
theorem dX6_left_19 : decode cX6_left 19 = .ok (.bipush 21, 2) := by decide +kernel
theorem dX6_left_21 : decode cX6_left 21 = .ok (.aload_n 0, 1) := by decide +kernel
theorem dX6_left_22 : decode cX6_left 22 = .ok (.getfield 96, 3) := by decide +kernel
theorem dX6_left_25 : decode cX6_left 25 = .ok (.imul, 1) := by decide +kernel
theorem dX6_left_26 : decode cX6_left 26 = .ok (.iload_n 1, 1) := by decide +kernel
theorem dX6_left_27 : decode cX6_left 27 = .ok (.iadd, 1) := by decide +kernel
theorem dX6_left_28 : decode cX6_left 28 = .ok (.laload, 1) := by decide +kernel
theorem dX6_left_29 : decode cX6_left 29 = .ok (.lstore 4, 2) := by decide +kernel
theorem dX6_left_31 : decode cX6_left 31 = .ok (.aload_n 0, 1) := by decide +kernel
theorem dX6_left_32 : decode cX6_left 32 = .ok (.getfield 58, 3) := by decide +kernel
theorem dX6_left_35 : decode cX6_left 35 = .ok (.bipush 21, 2) := by decide +kernel
theorem dX6_left_37 : decode cX6_left 37 = .ok (.aload_n 0, 1) := by decide +kernel
theorem dX6_left_38 : decode cX6_left 38 = .ok (.getfield 96, 3) := by decide +kernel
theorem dX6_left_41 : decode cX6_left 41 = .ok (.imul, 1) := by decide +kernel
theorem dX6_left_42 : decode cX6_left 42 = .ok (.iload_n 1, 1) := by decide +kernel
theorem dX6_left_43 : decode cX6_left 43 = .ok (.iadd, 1) := by decide +kernel
theorem dX6_left_44 : decode cX6_left 44 = .ok (.baload, 1) := by decide +kernel
theorem dX6_left_45 : decode cX6_left 45 = .ok (.ifCond .eq 10, 3) := by decide +kernel
theorem dX6_left_48 : decode cX6_left 48 = .ok (.lload_n 2, 1) := by decide +kernel
theorem dX6_left_49 : decode cX6_left 49 = .ok (.lload 4, 2) := by decide +kernel
theorem dX6_left_51 : decode cX6_left 51 = .ok (.lcmp, 1) := by decide +kernel
theorem dX6_left_52 : decode cX6_left 52 = .ok (.ifCond .lt 5, 3) := by decide +kernel
theorem dX6_left_55 : decode cX6_left 55 = .ok (.iconst 0, 1) := by decide +kernel
theorem dX6_left_56 : decode cX6_left 56 = .ok (.ireturn, 1) := by decide +kernel
theorem dX6_left_57 : decode cX6_left 57 = .ok (.lload_n 2, 1) := by decide +kernel
theorem dX6_left_58 : decode cX6_left 58 = .ok (.lload 4, 2) := by decide +kernel
theorem dX6_left_60 : decode cX6_left 60 = .ok (.ldc2_w 133, 3) := by decide +kernel
theorem dX6_left_63 : decode cX6_left 63 = .ok (.lsub, 1) := by decide +kernel
theorem dX6_left_64 : decode cX6_left 64 = .ok (.lcmp, 1) := by decide +kernel
theorem dX6_left_65 : decode cX6_left 65 = .ok (.ifCond .ge 8, 3) := by decide +kernel
theorem dX6_left_68 : decode cX6_left 68 = .ok (.ldc 135, 2) := by decide +kernel
theorem dX6_left_70 : decode cX6_left 70 = .ok (.goto 8, 3) := by decide +kernel
theorem dX6_left_73 : decode cX6_left 73 = .ok (.lload 4, 2) := by decide +kernel
theorem dX6_left_75 : decode cX6_left 75 = .ok (.lload_n 2, 1) := by decide +kernel
theorem dX6_left_76 : decode cX6_left 76 = .ok (.lsub, 1) := by decide +kernel
theorem dX6_left_77 : decode cX6_left 77 = .ok (.l2i, 1) := by decide +kernel
theorem dX6_left_78 : decode cX6_left 78 = .ok (.ireturn, 1) := by decide +kernel
theorem dX6_log_0 : decode cX6_log 0 = .ok (.aload_n 0, 1) := by decide +kernel
theorem dX6_log_1 : decode cX6_log 1 = .ok (.iconst 0, 1) := by decide +kernel
theorem dX6_log_2 : decode cX6_log 2 = .ok (.putfield 71, 3) := by decide +kernel
theorem dX6_log_5 : decode cX6_log 5 = .ok (.iload_n 1, 1) := by decide +kernel
theorem dX6_log_6 : decode cX6_log 6 = .ok (.iconst (-1), 1) := by decide +kernel
theorem dX6_log_7 : decode cX6_log 7 = .ok (.if_icmp .ne 12, 3) := by decide +kernel
theorem dX6_log_10 : decode cX6_log 10 = .ok (.iload_n 2, 1) := by decide +kernel
theorem dX6_log_11 : decode cX6_log 11 = .ok (.ifCond .ne 8, 3) := by decide +kernel
theorem dX6_log_14 : decode cX6_log 14 = .ok (.aload_n 0, 1) := by decide +kernel
theorem dX6_log_15 : decode cX6_log 15 = .ok (.getfield 93, 3) := by decide +kernel
theorem dX6_log_18 : decode cX6_log 18 = .ok (.ireturn, 1) := by decide +kernel
theorem dX6_log_19 : decode cX6_log 19 = .ok (.iload_n 1, 1) := by decide +kernel
theorem dX6_log_20 : decode cX6_log 20 = .ok (.ifCond .lt 18, 3) := by decide +kernel
theorem dX6_log_23 : decode cX6_log 23 = .ok (.iload_n 1, 1) := by decide +kernel
theorem dX6_log_24 : decode cX6_log 24 = .ok (.aload_n 0, 1) := by decide +kernel
theorem dX6_log_25 : decode cX6_log 25 = .ok (.getfield 93, 3) := by decide +kernel
theorem dX6_log_28 : decode cX6_log 28 = .ok (.if_icmp .ge 10, 3) := by decide +kernel
theorem dX6_log_31 : decode cX6_log 31 = .ok (.iload_n 1, 1) := by decide +kernel
theorem dX6_log_32 : decode cX6_log 32 = .ok (.sipush 299, 3) := by decide +kernel
theorem dX6_log_35 : decode cX6_log 35 = .ok (.if_icmp .le 5, 3) := by decide +kernel
theorem dX6_log_38 : decode cX6_log 38 = .ok (.iconst (-1), 1) := by decide +kernel
theorem dX6_log_39 : decode cX6_log 39 = .ok (.ireturn, 1) := by decide +kernel
theorem dX6_log_40 : decode cX6_log 40 = .ok (.iload_n 2, 1) := by decide +kernel
theorem dX6_log_41 : decode cX6_log 41 = .ok (.ifCond .lt 8, 3) := by decide +kernel
theorem dX6_log_44 : decode cX6_log 44 = .ok (.iload_n 2, 1) := by decide +kernel
theorem dX6_log_45 : decode cX6_log 45 = .ok (.iconst 2, 1) := by decide +kernel
theorem dX6_log_46 : decode cX6_log 46 = .ok (.if_icmp .le 6, 3) := by decide +kernel
theorem dX6_log_49 : decode cX6_log 49 = .ok (.bipush (-2), 2) := by decide +kernel
theorem dX6_log_51 : decode cX6_log 51 = .ok (.ireturn, 1) := by decide +kernel
theorem dX6_log_52 : decode cX6_log 52 = .ok (.iload_n 2, 1) := by decide +kernel
theorem dX6_log_53 : decode cX6_log 53 = .ok (.ifCond .ne 12, 3) := by decide +kernel
theorem dX6_log_56 : decode cX6_log 56 = .ok (.aload_n 0, 1) := by decide +kernel
theorem dX6_log_57 : decode cX6_log 57 = .ok (.getfield 62, 3) := by decide +kernel
theorem dX6_log_60 : decode cX6_log 60 = .ok (.iload_n 1, 1) := by decide +kernel
theorem dX6_log_61 : decode cX6_log 61 = .ok (.iaload, 1) := by decide +kernel
theorem dX6_log_62 : decode cX6_log 62 = .ok (.goto 23, 3) := by decide +kernel
theorem dX6_log_65 : decode cX6_log 65 = .ok (.iload_n 2, 1) := by decide +kernel
theorem dX6_log_66 : decode cX6_log 66 = .ok (.iconst 1, 1) := by decide +kernel
theorem dX6_log_67 : decode cX6_log 67 = .ok (.if_icmp .ne 12, 3) := by decide +kernel
theorem dX6_log_70 : decode cX6_log 70 = .ok (.aload_n 0, 1) := by decide +kernel
theorem dX6_log_71 : decode cX6_log 71 = .ok (.getfield 65, 3) := by decide +kernel
theorem dX6_log_74 : decode cX6_log 74 = .ok (.iload_n 1, 1) := by decide +kernel
theorem dX6_log_75 : decode cX6_log 75 = .ok (.iaload, 1) := by decide +kernel
theorem dX6_log_76 : decode cX6_log 76 = .ok (.goto 9, 3) := by decide +kernel
theorem dX6_log_79 : decode cX6_log 79 = .ok (.aload_n 0, 1) := by decide +kernel
theorem dX6_log_80 : decode cX6_log 80 = .ok (.getfield 68, 3) := by decide +kernel
theorem dX6_log_83 : decode cX6_log 83 = .ok (.iload_n 1, 1) := by decide +kernel
theorem dX6_log_84 : decode cX6_log 84 = .ok (.iaload, 1) := by decide +kernel
theorem dX6_log_85 : decode cX6_log 85 = .ok (.ireturn, 1) := by decide +kernel
theorem dX6_digit_0 : decode cX6_digit 0 = .ok (.aload_n 0, 1) := by decide +kernel
theorem dX6_digit_1 : decode cX6_digit 1 = .ok (.getfield 43, 3) := by decide +kernel
theorem dX6_digit_4 : decode cX6_digit 4 = .ok (.aload_n 0, 1) := by decide +kernel
theorem dX6_digit_5 : decode cX6_digit 5 = .ok (.getfield 96, 3) := by decide +kernel
theorem dX6_digit_8 : decode cX6_digit 8 = .ok (.iaload, 1) := by decide +kernel
theorem dX6_digit_9 : decode cX6_digit 9 = .ok (.i2l, 1) := by decide +kernel
theorem dX6_digit_10 : decode cX6_digit 10 = .ok (.ldc2_w 136, 3) := by decide +kernel
theorem dX6_digit_13 : decode cX6_digit 13 = .ok (.land, 1) := by decide +kernel
theorem dX6_digit_14 : decode cX6_digit 14 = .ok (.lstore_n 2, 1) := by decide +kernel
theorem dX6_digit_15 : decode cX6_digit 15 = .ok (.iconst 1, 1) := by decide +kernel
theorem dX6_digit_16 : decode cX6_digit 16 = .ok (.istore 4, 2) := by decide +kernel
theorem dX6_digit_18 : decode cX6_digit 18 = .ok (.lload_n 2, 1) := by decide +kernel
theorem dX6_digit_19 : decode cX6_digit 19 = .ok (.ldc2_w 138, 3) := by decide +kernel
theorem dX6_digit_22 : decode cX6_digit 22 = .ok (.ldiv, 1) := by decide +kernel
theorem dX6_digit_23 : decode cX6_digit 23 = .ok (.lstore 5, 2) := by decide +kernel
theorem dX6_digit_25 : decode cX6_digit 25 = .ok (.lload 5, 2) := by decide +kernel
theorem dX6_digit_27 : decode cX6_digit 27 = .ok (.lconst 0, 1) := by decide +kernel
theorem dX6_digit_28 : decode cX6_digit 28 = .ok (.lcmp, 1) := by decide +kernel
theorem dX6_digit_29 : decode cX6_digit 29 = .ok (.ifCond .le 17, 3) := by decide +kernel
theorem dX6_digit_32 : decode cX6_digit 32 = .ok (.iinc 4 1, 3) := by decide +kernel
theorem dX6_digit_35 : decode cX6_digit 35 = .ok (.lload 5, 2) := by decide +kernel
theorem dX6_digit_37 : decode cX6_digit 37 = .ok (.ldc2_w 138, 3) := by decide +kernel
theorem dX6_digit_40 : decode cX6_digit 40 = .ok (.ldiv, 1) := by decide +kernel
theorem dX6_digit_41 : decode cX6_digit 41 = .ok (.lstore 5, 2) := by decide +kernel
theorem dX6_digit_43 : decode cX6_digit 43 = .ok (.goto (-18), 3) := by decide +kernel
theorem dX6_digit_46 : decode cX6_digit 46 = .ok (.aload_n 0, 1) := by decide +kernel
theorem dX6_digit_47 : decode cX6_digit 47 = .ok (.iload_n 1, 1) := by decide +kernel
theorem dX6_digit_48 : decode cX6_digit 48 = .ok (.ifCond .lt 9, 3) := by decide +kernel
theorem dX6_digit_51 : decode cX6_digit 51 = .ok (.iload_n 1, 1) := by decide +kernel
theorem dX6_digit_52 : decode cX6_digit 52 = .ok (.iload 4, 2) := by decide +kernel
theorem dX6_digit_54 : decode cX6_digit 54 = .ok (.if_icmp .lt 7, 3) := by decide +kernel
theorem dX6_digit_57 : decode cX6_digit 57 = .ok (.iconst 1, 1) := by decide +kernel
theorem dX6_digit_58 : decode cX6_digit 58 = .ok (.goto 4, 3) := by decide +kernel
theorem dX6_digit_61 : decode cX6_digit 61 = .ok (.iconst 0, 1) := by decide +kernel
theorem dX6_digit_62 : decode cX6_digit 62 = .ok (.putfield 71, 3) := by decide +kernel
theorem dX6_digit_65 : decode cX6_digit 65 = .ok (.aload_n 0, 1) := by decide +kernel
theorem dX6_digit_66 : decode cX6_digit 66 = .ok (.getfield 71, 3) := by decide +kernel
theorem dX6_digit_69 : decode cX6_digit 69 = .ok (.ifCond .le 5, 3) := by decide +kernel
theorem dX6_digit_72 : decode cX6_digit 72 = .ok (.iconst 0, 1) := by decide +kernel
theorem dX6_digit_73 : decode cX6_digit 73 = .ok (.ireturn, 1) := by decide +kernel
theorem dX6_digit_74 : decode cX6_digit 74 = .ok (.iload 4, 2) := by decide +kernel
theorem dX6_digit_76 : decode cX6_digit 76 = .ok (.iconst 1, 1) := by decide +kernel
theorem dX6_digit_77 : decode cX6_digit 77 = .ok (.isub, 1) := by decide +kernel
theorem dX6_digit_78 : decode cX6_digit 78 = .ok (.istore 5, 2) := by decide +kernel
theorem dX6_digit_80 : decode cX6_digit 80 = .ok (.iload 5, 2) := by decide +kernel
theorem dX6_digit_82 : decode cX6_digit 82 = .ok (.iload_n 1, 1) := by decide +kernel
theorem dX6_digit_83 : decode cX6_digit 83 = .ok (.if_icmp .le 15, 3) := by decide +kernel
theorem dX6_digit_86 : decode cX6_digit 86 = .ok (.lload_n 2, 1) := by decide +kernel
theorem dX6_digit_87 : decode cX6_digit 87 = .ok (.ldc2_w 138, 3) := by decide +kernel
theorem dX6_digit_90 : decode cX6_digit 90 = .ok (.ldiv, 1) := by decide +kernel
theorem dX6_digit_91 : decode cX6_digit 91 = .ok (.lstore_n 2, 1) := by decide +kernel
theorem dX6_digit_92 : decode cX6_digit 92 = .ok (.iinc 5 (-1), 3) := by decide +kernel
theorem dX6_digit_95 : decode cX6_digit 95 = .ok (.goto (-15), 3) := by decide +kernel
theorem dX6_digit_98 : decode cX6_digit 98 = .ok (.lload_n 2, 1) := by decide +kernel
theorem dX6_digit_99 : decode cX6_digit 99 = .ok (.ldc2_w 138, 3) := by decide +kernel
theorem dX6_digit_102 : decode cX6_digit 102 = .ok (.lrem, 1) := by decide +kernel
theorem dX6_digit_103 : decode cX6_digit 103 = .ok (.l2i, 1) := by decide +kernel
theorem dX6_digit_104 : decode cX6_digit 104 = .ok (.ireturn, 1) := by decide +kernel
theorem dX6_tester_0 : decode cX6_tester 0 = .ok (.aload_n 0, 1) := by decide +kernel
theorem dX6_tester_1 : decode cX6_tester 1 = .ok (.iconst 0, 1) := by decide +kernel
theorem dX6_tester_2 : decode cX6_tester 2 = .ok (.putfield 71, 3) := by decide +kernel
theorem dX6_tester_5 : decode cX6_tester 5 = .ok (.iload_n 1, 1) := by decide +kernel
theorem dX6_tester_6 : decode cX6_tester 6 = .ok (.iconst 1, 1) := by decide +kernel
theorem dX6_tester_7 : decode cX6_tester 7 = .ok (.if_icmp .lt 8, 3) := by decide +kernel
theorem dX6_tester_10 : decode cX6_tester 10 = .ok (.iload_n 1, 1) := by decide +kernel
theorem dX6_tester_11 : decode cX6_tester 11 = .ok (.iconst 4, 1) := by decide +kernel
theorem dX6_tester_12 : decode cX6_tester 12 = .ok (.if_icmp .le 6, 3) := by decide +kernel
theorem dX6_tester_15 : decode cX6_tester 15 = .ok (.bipush (-2), 2) := by decide +kernel
theorem dX6_tester_17 : decode cX6_tester 17 = .ok (.ireturn, 1) := by decide +kernel
theorem dX6_tester_18 : decode cX6_tester 18 = .ok (.aload_n 0, 1) := by decide +kernel
theorem dX6_tester_19 : decode cX6_tester 19 = .ok (.getfield 96, 3) := by decide +kernel
theorem dX6_tester_22 : decode cX6_tester 22 = .ok (.iconst 1, 1) := by decide +kernel
theorem dX6_tester_23 : decode cX6_tester 23 = .ok (.iadd, 1) := by decide +kernel
theorem dX6_tester_24 : decode cX6_tester 24 = .ok (.istore_n 2, 1) := by decide +kernel
theorem dX6_tester_25 : decode cX6_tester 25 = .ok (.aload_n 0, 1) := by decide +kernel
theorem dX6_tester_26 : decode cX6_tester 26 = .ok (.iload_n 1, 1) := by decide +kernel
theorem dX6_tester_27 : decode cX6_tester 27 = .ok (.iconst 1, 1) := by decide +kernel
theorem dX6_tester_28 : decode cX6_tester 28 = .ok (.isub, 1) := by decide +kernel
theorem dX6_tester_29 : decode cX6_tester 29 = .ok (.putfield 96, 3) := by decide +kernel
theorem dX6_tester_32 : decode cX6_tester 32 = .ok (.iload_n 2, 1) := by decide +kernel
theorem dX6_tester_33 : decode cX6_tester 33 = .ok (.ireturn, 1) := by decide +kernel
theorem dJx00060_init_da8c8_0 : decode cJx00060_init_da8c8 0 = .ok (.aload_n 0, 1) := by decide +kernel
theorem dJx00060_init_da8c8_1 : decode cJx00060_init_da8c8 1 = .ok (.invokespecial 1, 3) := by decide +kernel
theorem dJx00060_init_da8c8_4 : decode cJx00060_init_da8c8 4 = .ok (.return_, 1) := by decide +kernel
theorem dJx00060_init_a7421_0 : decode cJx00060_init_a7421 0 = .ok (.aload_n 0, 1) := by decide +kernel
theorem dJx00060_init_a7421_1 : decode cJx00060_init_a7421 1 = .ok (.aload_n 1, 1) := by decide +kernel
theorem dJx00060_init_a7421_2 : decode cJx00060_init_a7421 2 = .ok (.invokespecial 7, 3) := by decide +kernel
theorem dJx00060_init_a7421_5 : decode cJx00060_init_a7421 5 = .ok (.return_, 1) := by decide +kernel
theorem dJ7_fill_d0a16_0 : decode cJ7_fill_d0a16 0 = .ok (.iconst 0, 1) := by decide +kernel
theorem dJ7_fill_d0a16_1 : decode cJ7_fill_d0a16 1 = .ok (.istore_n 3, 1) := by decide +kernel
theorem dJ7_fill_d0a16_2 : decode cJ7_fill_d0a16 2 = .ok (.aload_n 0, 1) := by decide +kernel
theorem dJ7_fill_d0a16_3 : decode cJ7_fill_d0a16 3 = .ok (.arraylength, 1) := by decide +kernel
theorem dJ7_fill_d0a16_4 : decode cJ7_fill_d0a16 4 = .ok (.istore 4, 2) := by decide +kernel
theorem dJ7_fill_d0a16_6 : decode cJ7_fill_d0a16 6 = .ok (.iload_n 3, 1) := by decide +kernel
theorem dJ7_fill_d0a16_7 : decode cJ7_fill_d0a16 7 = .ok (.iload 4, 2) := by decide +kernel
theorem dJ7_fill_d0a16_9 : decode cJ7_fill_d0a16 9 = .ok (.if_icmp .ge 13, 3) := by decide +kernel
theorem dJ7_fill_d0a16_12 : decode cJ7_fill_d0a16 12 = .ok (.aload_n 0, 1) := by decide +kernel
theorem dJ7_fill_d0a16_13 : decode cJ7_fill_d0a16 13 = .ok (.iload_n 3, 1) := by decide +kernel
theorem dJ7_fill_d0a16_14 : decode cJ7_fill_d0a16 14 = .ok (.lload_n 1, 1) := by decide +kernel
theorem dJ7_fill_d0a16_15 : decode cJ7_fill_d0a16 15 = .ok (.lastore, 1) := by decide +kernel
theorem dJ7_fill_d0a16_16 : decode cJ7_fill_d0a16 16 = .ok (.iinc 3 1, 3) := by decide +kernel
theorem dJ7_fill_d0a16_19 : decode cJ7_fill_d0a16 19 = .ok (.goto (-13), 3) := by decide +kernel
theorem dJ7_fill_d0a16_22 : decode cJ7_fill_d0a16 22 = .ok (.return_, 1) := by decide +kernel
set_option maxRecDepth 20000 in
theorem ggL_out_X5_out : GoodIn wsL_out wsX5_out := goodIn_r _ [5, 6, 7, 8, 9, 10, 11, 12, 13, 14, 15, 16, 17, 18, 19, 20, 21, 22, 23, 24, 25, 26, 27, 28, 29, 30, 31, 32, 33, 34] (by decide +kernel) (by decide +kernel)
set_option maxRecDepth 20000 in
theorem gL_out_X5_out : GoodIn wsL_out (wsV RL 7 RX5 yX5_out wsX5_out) := goodIn_app (goodIn_of _ (by decide +kernel)) ggL_out_X5_out
theorem dL_out_0 : decode cL_out 0 = .ok (.aload_n 2, 1) := by decide +kernel
theorem dL_out_1 : decode cL_out 1 = .ok (.iconst 0, 1) := by decide +kernel
theorem dL_out_2 : decode cL_out 2 = .ok (.aload_n 0, 1) := by decide +kernel
theorem dL_out_3 : decode cL_out 3 = .ok (.iload_n 1, 1) := by decide +kernel
theorem dL_out_4 : decode cL_out 4 = .ok (.invokevirtual 7, 3) := by decide +kernel
theorem dL_out_7 : decode cL_out 7 = .ok (.i2l, 1) := by decide +kernel
theorem dL_out_8 : decode cL_out 8 = .ok (.lastore, 1) := by decide +kernel
theorem dL_out_9 : decode cL_out 9 = .ok (.goto 6, 3) := by decide +kernel
theorem dL_out_12 : decode cL_out 12 = .ok (.astore_n 3, 1) := by decide +kernel
theorem dL_out_13 : decode cL_out 13 = .ok (.iconst 1, 1) := by decide +kernel
theorem dL_out_14 : decode cL_out 14 = .ok (.ireturn, 1) := by decide +kernel
theorem dL_out_15 : decode cL_out 15 = .ok (.iconst 0, 1) := by decide +kernel
theorem dL_out_16 : decode cL_out 16 = .ok (.ireturn, 1) := by decide +kernel
set_option maxRecDepth 20000 in
theorem ggL_digit_X5_digit : GoodIn wsL_digit wsX5_digit := goodIn_r _ [5, 6, 7, 8, 9, 10, 11, 12, 13, 4, 14, 15, 16, 17, 18, 19, 20, 21, 22, 23, 24, 25, 26, 27, 28, 29, 30, 31, 32, 33, 34, 35, 36, 37, 38, 39] (by decide +kernel) (by decide +kernel)
set_option maxRecDepth 20000 in
theorem gL_digit_X5_digit : GoodIn wsL_digit (wsV RL 15 RX5 yX5_digit wsX5_digit) := goodIn_app (goodIn_of _ (by decide +kernel)) ggL_digit_X5_digit
theorem dL_digit_0 : decode cL_digit 0 = .ok (.aload_n 2, 1) := by decide +kernel
theorem dL_digit_1 : decode cL_digit 1 = .ok (.iconst 0, 1) := by decide +kernel
theorem dL_digit_2 : decode cL_digit 2 = .ok (.aload_n 0, 1) := by decide +kernel
theorem dL_digit_3 : decode cL_digit 3 = .ok (.iload_n 1, 1) := by decide +kernel
theorem dL_digit_4 : decode cL_digit 4 = .ok (.invokevirtual 15, 3) := by decide +kernel
theorem dL_digit_7 : decode cL_digit 7 = .ok (.i2l, 1) := by decide +kernel
theorem dL_digit_8 : decode cL_digit 8 = .ok (.lastore, 1) := by decide +kernel
theorem dL_digit_9 : decode cL_digit 9 = .ok (.goto 6, 3) := by decide +kernel
theorem dL_digit_12 : decode cL_digit 12 = .ok (.astore_n 3, 1) := by decide +kernel
theorem dL_digit_13 : decode cL_digit 13 = .ok (.iconst 1, 1) := by decide +kernel
theorem dL_digit_14 : decode cL_digit 14 = .ok (.ireturn, 1) := by decide +kernel
theorem dL_digit_15 : decode cL_digit 15 = .ok (.iconst 0, 1) := by decide +kernel
theorem dL_digit_16 : decode cL_digit 16 = .ok (.ireturn, 1) := by decide +kernel
set_option maxRecDepth 20000 in
theorem ggL_law_X5_init : GoodIn wsL_law wsX5_init := goodIn_r _ [10, 11, 12, 13, 14, 15, 16, 17, 18, 19, 20, 21, 22, 23, 24, 25, 26, 27, 28, 29, 30, 31, 32, 33, 34, 35, 36, 37, 38, 39, 40, 41, 42, 43, 44, 45, 46, 47, 48, 49, 50, 51, 52, 53, 54, 55, 6, 56, 57, 58, 59, 60, 61, 386, 387, 388, 389, 390, 391, 392, 393, 421, 422, 423, 424, 425, 426, 427, 428, 429, 430, 431, 432, 433, 434, 435, 436, 437, 438, 439] (by decide +kernel) (by decide +kernel)
set_option maxRecDepth 20000 in
theorem gL_law_X5_init : GoodIn wsL_law (wsX5_init) := ggL_law_X5_init
set_option maxRecDepth 20000 in
theorem ggL_law_X6_init : GoodIn wsL_law wsX6_init := goodIn_ca (goodIn_r _ [64, 65, 12, 13, 36, 66, 67, 6, 68, 69, 70, 71, 72, 73, 74, 75, 76, 77, 78, 79, 80, 81, 82, 83, 84, 85, 86, 394, 395, 396, 397, 398, 399, 400, 401, 402, 403, 404, 405, 406, 407, 408, 409, 410, 411, 412, 413, 414, 415, 416, 417, 418, 419, 420] (by decide +kernel) (by decide +kernel)) (goodIn_sub (fun _ h => List.mem_append_right _ h) (by decide +kernel))
set_option maxRecDepth 20000 in
theorem gL_law_X6_init : GoodIn wsL_law (wsX6_init) := ggL_law_X6_init
set_option maxRecDepth 20000 in
theorem ggL_law_X5_level : GoodIn wsL_law wsX5_level := goodIn_r _ [90, 91, 15, 14, 92, 93, 94, 95, 96, 97, 98, 12, 13, 99, 100, 101, 102, 386, 387, 388, 389, 390, 391, 392, 393, 440, 441, 442, 443] (by decide +kernel) (by decide +kernel)
set_option maxRecDepth 20000 in
theorem gL_law_X5_level : GoodIn wsL_law (wsV RL 25 RX5 yX5_level wsX5_level) := goodIn_app (goodIn_of _ (by decide +kernel)) ggL_law_X5_level
set_option maxRecDepth 20000 in
theorem ggL_law_X6_level : GoodIn wsL_law wsX6_level := goodIn_ca (goodIn_r _ [106, 107, 108, 66, 67, 68, 109, 110, 111, 112, 5, 113, 394, 395, 396, 397, 398, 399, 400, 401, 402, 403, 404, 405, 406, 407, 408, 409, 410, 411, 412, 413, 414, 415, 416, 417, 418, 419, 420] (by decide +kernel) (by decide +kernel)) (goodIn_sub (fun _ h => List.mem_append_right _ h) (by decide +kernel))
set_option maxRecDepth 20000 in
theorem gL_law_X6_level : GoodIn wsL_law (wsV RL 29 RX6 yX6_level wsX6_level) := goodIn_app (goodIn_of _ (by decide +kernel)) ggL_law_X6_level
set_option maxRecDepth 20000 in
theorem ggL_law_X5_tape : GoodIn wsL_law wsX5_tape := goodIn_ca (goodIn_r _ [117, 19, 118, 119, 120, 18, 121, 122, 37, 123, 386, 387, 388, 389, 390, 391, 392, 393, 421, 422, 423] (by decide +kernel) (by decide +kernel)) (goodIn_sub (fun _ h => List.mem_append_right _ h) (by decide +kernel))
set_option maxRecDepth 20000 in
theorem gL_law_X5_tape : GoodIn wsL_law (wsV RL 30 RX5 yX5_tape wsX5_tape) := goodIn_app (goodIn_of _ (by decide +kernel)) ggL_law_X5_tape
set_option maxRecDepth 20000 in
theorem ggL_law_X6_tape : GoodIn wsL_law wsX6_tape := goodIn_ca (goodIn_r _ [127, 107, 128, 129, 69, 394, 395, 396, 397, 398, 399, 400, 401, 402, 403, 404, 405, 406, 407, 408, 409, 410, 411, 412, 413, 414, 415, 416, 417, 418, 419, 420] (by decide +kernel) (by decide +kernel)) (goodIn_sub (fun _ h => List.mem_append_right _ h) (by decide +kernel))
set_option maxRecDepth 20000 in
theorem gL_law_X6_tape : GoodIn wsL_law (wsV RL 34 RX6 yX6_tape wsX6_tape) := goodIn_app (goodIn_of _ (by decide +kernel)) ggL_law_X6_tape
set_option maxRecDepth 20000 in
theorem ggL_law_X5_seed : GoodIn wsL_law wsX5_seed := goodIn_ca (goodIn_r _ [133, 134, 135, 27, 32, 136, 137, 138, 2, 139, 15, 140, 141, 142, 143, 19, 23, 144, 145, 146, 93, 147, 99, 148, 149, 150, 151, 152, 153, 154, 31, 155, 56, 51, 156, 157, 158, 18, 159, 122, 160, 161, 162, 163, 123, 37, 164, 165, 166, 167, 168, 169, 22, 170, 171, 41, 172, 173, 174, 175, 176, 177, 178, 179, 180, 54, 181, 182, 183, 184, 26, 185, 186, 187, 45, 386, 387, 388, 389, 390, 391, 392, 393, 429, 430, 431, 432, 433, 434, 435, 436, 437, 438, 439, 440, 441, 442, 443, 421, 422, 423, 424, 425, 426, 427, 428] (by decide +kernel) (by decide +kernel)) (goodIn_sub (fun _ h => List.mem_append_right _ h) (by decide +kernel))
set_option maxRecDepth 20000 in
theorem gL_law_X5_seed : GoodIn wsL_law (wsV RL 35 RX5 yX5_seed wsX5_seed) := goodIn_app (goodIn_of _ (by decide +kernel)) ggL_law_X5_seed
set_option maxRecDepth 20000 in
theorem ggL_law_X6_seed : GoodIn wsL_law wsX6_seed := goodIn_ca (goodIn_r _ [191, 107, 192, 193, 110, 111, 112, 5, 113, 67, 194, 195, 196, 197, 71, 198, 73, 74, 77, 81, 129, 128, 69, 70, 199, 75, 76, 200, 201, 202, 203, 204, 205, 206, 207, 208, 209, 210, 211, 84, 85, 86, 394, 395, 396, 397, 398, 399, 400, 401, 402, 403, 404, 405, 406, 407, 408, 409, 410, 411, 412, 413, 414, 415, 416, 417, 418, 419, 420] (by decide +kernel) (by decide +kernel)) (goodIn_sub (fun _ h => List.mem_append_right _ h) (by decide +kernel))
set_option maxRecDepth 20000 in
theorem gL_law_X6_seed : GoodIn wsL_law (wsV RL 39 RX6 yX6_seed wsX6_seed) := goodIn_app (goodIn_of _ (by decide +kernel)) ggL_law_X6_seed
set_option maxRecDepth 20000 in
theorem ggL_law_L_out : GoodIn wsL_law wsL_out := goodIn_ca (goodIn_r _ [215, 216, 217, 218, 2, 219, 220, 221, 222, 32, 444, 445, 446, 447, 448, 449, 386, 387, 388, 389, 390, 391, 392, 393, 429, 430, 431, 432, 433, 434, 435, 436, 437, 438, 439] (by decide +kernel) (by decide +kernel)) (goodIn_sub (fun _ h => List.mem_append_right _ h) (by decide +kernel))
set_option maxRecDepth 20000 in
theorem gL_law_L_out : GoodIn wsL_law (va_wsS RL 40 yL_out wsL_out) := goodIn_app (goodIn_of _ (by decide +kernel)) ggL_law_L_out
set_option maxRecDepth 20000 in
theorem ggL_law_X6_out : GoodIn wsL_law wsX6_out := goodIn_ca (goodIn_r _ [226, 107, 77, 198, 394, 395, 396, 397, 398, 399, 400, 401, 402, 403, 404, 405, 406, 407, 408, 409, 410, 411, 412, 413, 414, 415, 416, 417, 418, 419, 420] (by decide +kernel) (by decide +kernel)) (goodIn_sub (fun _ h => List.mem_append_right _ h) (by decide +kernel))
set_option maxRecDepth 20000 in
theorem gL_law_X6_out : GoodIn wsL_law (wsV RL 45 RX6 yX6_out wsX6_out) := goodIn_app (goodIn_of _ (by decide +kernel)) ggL_law_X6_out
set_option maxRecDepth 20000 in
theorem ggL_law_X6_thrown : GoodIn wsL_law wsX6_thrown := goodIn_r _ [230, 107, 394, 395, 396, 397, 398, 399, 400, 401, 402, 403, 404, 405, 406, 407, 408, 409, 410, 411, 412, 413, 414, 415, 416, 417, 418, 419, 420] (by decide +kernel) (by decide +kernel)
set_option maxRecDepth 20000 in
theorem gL_law_X6_thrown : GoodIn wsL_law (wsV RL 46 RX6 yX6_thrown wsX6_thrown) := goodIn_app (goodIn_of _ (by decide +kernel)) ggL_law_X6_thrown
set_option maxRecDepth 20000 in
theorem ggL_law_X5_key : GoodIn wsL_law wsX5_key := goodIn_ca (goodIn_r _ [234, 32, 27, 235, 236, 237, 31, 238, 239, 240, 241, 242, 243, 244, 136, 137, 138, 2, 139, 15, 245, 246, 247, 248, 134, 249, 250, 251, 93, 252, 100, 253, 254, 99, 255, 256, 257, 258, 259, 260, 261, 262, 263, 55, 264, 265, 266, 267, 268, 269, 270, 271, 56, 182, 183, 184, 26, 185, 186, 187, 45, 386, 387, 388, 389, 390, 391, 392, 393, 429, 430, 431, 432, 433, 434, 435, 436, 437, 438, 439, 440, 441, 442, 443, 426, 427, 428] (by decide +kernel) (by decide +kernel)) (goodIn_sub (fun _ h => List.mem_append_right _ h) (by decide +kernel))
set_option maxRecDepth 20000 in
theorem gL_law_X5_key : GoodIn wsL_law (wsV RL 50 RX5 yX5_key wsX5_key) := goodIn_app (goodIn_of _ (by decide +kernel)) ggL_law_X5_key
set_option maxRecDepth 20000 in
theorem ggL_law_X6_key : GoodIn wsL_law wsX6_key := goodIn_ca (goodIn_r _ [275, 107, 79, 198, 78, 110, 111, 112, 5, 113, 67, 276, 277, 278, 279, 75, 76, 74, 80, 81, 192, 68, 83, 280, 281, 282, 283, 66, 284, 285, 286, 207, 208, 209, 210, 211, 84, 85, 86, 394, 395, 396, 397, 398, 399, 400, 401, 402, 403, 404, 405, 406, 407, 408, 409, 410, 411, 412, 413, 414, 415, 416, 417, 418, 419, 420] (by decide +kernel) (by decide +kernel)) (goodIn_sub (fun _ h => List.mem_append_right _ h) (by decide +kernel))
set_option maxRecDepth 20000 in
theorem gL_law_X6_key : GoodIn wsL_law (wsV RL 54 RX6 yX6_key wsX6_key) := goodIn_app (goodIn_of _ (by decide +kernel)) ggL_law_X6_key
set_option maxRecDepth 20000 in
theorem ggL_law_X5_open : GoodIn wsL_law wsX5_open := goodIn_r _ [290, 32, 136, 137, 138, 2, 139, 15, 386, 387, 388, 389, 390, 391, 392, 393, 429, 430, 431, 432, 433, 434, 435, 436, 437, 438, 439] (by decide +kernel) (by decide +kernel)
set_option maxRecDepth 20000 in
theorem gL_law_X5_open : GoodIn wsL_law (wsV RL 55 RX5 yX5_open wsX5_open) := goodIn_app (goodIn_of _ (by decide +kernel)) ggL_law_X5_open
set_option maxRecDepth 20000 in
theorem ggL_law_X6_open : GoodIn wsL_law wsX6_open := goodIn_ca (goodIn_r _ [294, 107, 74, 198, 110, 111, 112, 5, 113, 67, 394, 395, 396, 397, 398, 399, 400, 401, 402, 403, 404, 405, 406, 407, 408, 409, 410, 411, 412, 413, 414, 415, 416, 417, 418, 419, 420] (by decide +kernel) (by decide +kernel)) (goodIn_sub (fun _ h => List.mem_append_right _ h) (by decide +kernel))
set_option maxRecDepth 20000 in
theorem gL_law_X6_open : GoodIn wsL_law (wsV RL 58 RX6 yX6_open wsX6_open) := goodIn_app (goodIn_of _ (by decide +kernel)) ggL_law_X6_open
set_option maxRecDepth 20000 in
theorem ggL_law_X5_session : GoodIn wsL_law wsX5_session := goodIn_r _ [298, 32, 299, 300, 301, 31, 302, 50, 54, 53, 51, 52, 386, 387, 388, 389, 390, 391, 392, 393, 429, 430, 431, 432, 433, 434, 435, 436, 437, 438, 439] (by decide +kernel) (by decide +kernel)
set_option maxRecDepth 20000 in
theorem gL_law_X5_session : GoodIn wsL_law (wsV RL 59 RX5 yX5_session wsX5_session) := goodIn_app (goodIn_of _ (by decide +kernel)) ggL_law_X5_session
set_option maxRecDepth 20000 in
theorem ggL_law_X6_session : GoodIn wsL_law wsX6_session := goodIn_ca (goodIn_r _ [306, 107, 71, 198, 307, 308, 309, 5, 310, 75, 74, 73, 72, 394, 395, 396, 397, 398, 399, 400, 401, 402, 403, 404, 405, 406, 407, 408, 409, 410, 411, 412, 413, 414, 415, 416, 417, 418, 419, 420] (by decide +kernel) (by decide +kernel)) (goodIn_sub (fun _ h => List.mem_append_right _ h) (by decide +kernel))
set_option maxRecDepth 20000 in
theorem gL_law_X6_session : GoodIn wsL_law (wsV RL 62 RX6 yX6_session wsX6_session) := goodIn_app (goodIn_of _ (by decide +kernel)) ggL_law_X6_session
set_option maxRecDepth 20000 in
theorem ggL_law_X5_reset : GoodIn wsL_law wsX5_reset := goodIn_r _ [314, 29, 23, 299, 300, 301, 31, 302, 50, 54, 53, 51, 52, 241, 242, 243, 244, 239, 240, 315, 316, 317, 22, 318, 171, 386, 387, 388, 389, 390, 391, 392, 393, 429, 430, 431, 432, 433, 434, 435, 436, 437, 438, 439, 424, 425] (by decide +kernel) (by decide +kernel)
set_option maxRecDepth 20000 in
theorem gL_law_X5_reset : GoodIn wsL_law (wsV RL 63 RX5 yX5_reset wsX5_reset) := goodIn_app (goodIn_of _ (by decide +kernel)) ggL_law_X5_reset
set_option maxRecDepth 20000 in
theorem ggL_law_X6_reset : GoodIn wsL_law wsX6_reset := goodIn_ca (goodIn_r _ [322, 107, 74, 78, 79, 199, 307, 308, 309, 5, 310, 71, 75, 73, 72, 394, 395, 396, 397, 398, 399, 400, 401, 402, 403, 404, 405, 406, 407, 408, 409, 410, 411, 412, 413, 414, 415, 416, 417, 418, 419, 420] (by decide +kernel) (by decide +kernel)) (goodIn_sub (fun _ h => List.mem_append_right _ h) (by decide +kernel))
set_option maxRecDepth 20000 in
theorem gL_law_X6_reset : GoodIn wsL_law (wsV RL 66 RX6 yX6_reset wsX6_reset) := goodIn_app (goodIn_of _ (by decide +kernel)) ggL_law_X6_reset
set_option maxRecDepth 20000 in
theorem ggL_law_X5_role : GoodIn wsL_law wsX5_role := goodIn_r _ [326, 134, 32, 386, 387, 388, 389, 390, 391, 392, 393, 429, 430, 431, 432, 433, 434, 435, 436, 437, 438, 439] (by decide +kernel) (by decide +kernel)
set_option maxRecDepth 20000 in
theorem gL_law_X5_role : GoodIn wsL_law (wsV RL 67 RX5 yX5_role wsX5_role) := goodIn_app (goodIn_of _ (by decide +kernel)) ggL_law_X5_role
set_option maxRecDepth 20000 in
theorem ggL_law_X6_role : GoodIn wsL_law wsX6_role := goodIn_ca (goodIn_r _ [330, 107, 192, 73, 198, 394, 395, 396, 397, 398, 399, 400, 401, 402, 403, 404, 405, 406, 407, 408, 409, 410, 411, 412, 413, 414, 415, 416, 417, 418, 419, 420] (by decide +kernel) (by decide +kernel)) (goodIn_sub (fun _ h => List.mem_append_right _ h) (by decide +kernel))
set_option maxRecDepth 20000 in
theorem gL_law_X6_role : GoodIn wsL_law (wsV RL 71 RX6 yX6_role wsX6_role) := goodIn_app (goodIn_of _ (by decide +kernel)) ggL_law_X6_role
set_option maxRecDepth 20000 in
theorem ggL_law_X5_left : GoodIn wsL_law wsX5_left := goodIn_ca (goodIn_r _ [334, 32, 335, 336, 136, 137, 138, 2, 139, 15, 152, 153, 154, 31, 155, 56, 51, 386, 387, 388, 389, 390, 391, 392, 393, 429, 430, 431, 432, 433, 434, 435, 436, 437, 438, 439] (by decide +kernel) (by decide +kernel)) (goodIn_sub (fun _ h => List.mem_append_right _ h) (by decide +kernel))
set_option maxRecDepth 20000 in
theorem gL_law_X5_left : GoodIn wsL_law (wsV RL 72 RX5 yX5_left wsX5_left) := goodIn_app (goodIn_of _ (by decide +kernel)) ggL_law_X5_left
set_option maxRecDepth 20000 in
theorem ggL_law_X6_left : GoodIn wsL_law wsX6_left := goodIn_ca (goodIn_r _ [340, 107, 81, 198, 83, 341, 342, 110, 111, 112, 5, 113, 67, 394, 395, 396, 397, 398, 399, 400, 401, 402, 403, 404, 405, 406, 407, 408, 409, 410, 411, 412, 413, 414, 415, 416, 417, 418, 419, 420] (by decide +kernel) (by decide +kernel)) (goodIn_sub (fun _ h => List.mem_append_right _ h) (by decide +kernel))
set_option maxRecDepth 20000 in
theorem gL_law_X6_left : GoodIn wsL_law (wsV RL 75 RX6 yX6_left wsX6_left) := goodIn_app (goodIn_of _ (by decide +kernel)) ggL_law_X6_left
set_option maxRecDepth 20000 in
theorem ggL_law_X5_log : GoodIn wsL_law wsX5_log := goodIn_ca (goodIn_r _ [346, 27, 347, 348, 349, 26, 350, 187, 351, 352, 353, 354, 45, 355, 386, 387, 388, 389, 390, 391, 392, 393, 426, 427, 428] (by decide +kernel) (by decide +kernel)) (goodIn_sub (fun _ h => List.mem_append_right _ h) (by decide +kernel))
set_option maxRecDepth 20000 in
theorem gL_law_X5_log : GoodIn wsL_law (wsV RL 76 RX5 yX5_log wsX5_log) := goodIn_app (goodIn_of _ (by decide +kernel)) ggL_law_X5_log
set_option maxRecDepth 20000 in
theorem ggL_law_X6_log : GoodIn wsL_law wsX6_log := goodIn_ca (goodIn_r _ [359, 107, 211, 84, 85, 86, 394, 395, 396, 397, 398, 399, 400, 401, 402, 403, 404, 405, 406, 407, 408, 409, 410, 411, 412, 413, 414, 415, 416, 417, 418, 419, 420] (by decide +kernel) (by decide +kernel)) (goodIn_sub (fun _ h => List.mem_append_right _ h) (by decide +kernel))
set_option maxRecDepth 20000 in
theorem gL_law_X6_log : GoodIn wsL_law (wsV RL 80 RX6 yX6_log wsX6_log) := goodIn_app (goodIn_of _ (by decide +kernel)) ggL_law_X6_log
set_option maxRecDepth 20000 in
theorem ggL_law_L_digit : GoodIn wsL_law wsL_digit := goodIn_ca (goodIn_r _ [362, 363, 364, 365, 2, 366, 32, 367, 220, 221, 222, 368, 369, 370, 371, 386, 387, 388, 389, 390, 391, 392, 393, 429, 430, 431, 432, 433, 434, 435, 436, 437, 438, 439, 444, 445, 446, 447, 448, 449] (by decide +kernel) (by decide +kernel)) (goodIn_sub (fun _ h => List.mem_append_right _ h) (by decide +kernel))
set_option maxRecDepth 20000 in
theorem gL_law_L_digit : GoodIn wsL_law (va_wsS RL 81 yL_digit wsL_digit) := goodIn_app (goodIn_of _ (by decide +kernel)) ggL_law_L_digit
set_option maxRecDepth 20000 in
theorem ggL_law_X6_digit : GoodIn wsL_law wsX6_digit := goodIn_ca (goodIn_r _ [375, 77, 198, 376, 377, 107, 394, 395, 396, 397, 398, 399, 400, 401, 402, 403, 404, 405, 406, 407, 408, 409, 410, 411, 412, 413, 414, 415, 416, 417, 418, 419, 420] (by decide +kernel) (by decide +kernel)) (goodIn_sub (fun _ h => List.mem_append_right _ h) (by decide +kernel))
set_option maxRecDepth 20000 in
theorem gL_law_X6_digit : GoodIn wsL_law (wsV RL 83 RX6 yX6_digit wsX6_digit) := goodIn_app (goodIn_of _ (by decide +kernel)) ggL_law_X6_digit
set_option maxRecDepth 20000 in
theorem ggL_law_X5_tester : GoodIn wsL_law wsX5_tester := goodIn_r _ [381, 32, 29, 386, 387, 388, 389, 390, 391, 392, 393, 429, 430, 431, 432, 433, 434, 435, 436, 437, 438, 439] (by decide +kernel) (by decide +kernel)
set_option maxRecDepth 20000 in
theorem gL_law_X5_tester : GoodIn wsL_law (wsV RL 84 RX5 yX5_tester wsX5_tester) := goodIn_app (goodIn_of _ (by decide +kernel)) ggL_law_X5_tester
set_option maxRecDepth 20000 in
theorem ggL_law_X6_tester : GoodIn wsL_law wsX6_tester := goodIn_r _ [385, 107, 198, 394, 395, 396, 397, 398, 399, 400, 401, 402, 403, 404, 405, 406, 407, 408, 409, 410, 411, 412, 413, 414, 415, 416, 417, 418, 419, 420] (by decide +kernel) (by decide +kernel)
set_option maxRecDepth 20000 in
theorem gL_law_X6_tester : GoodIn wsL_law (wsV RL 87 RX6 yX6_tester wsX6_tester) := goodIn_app (goodIn_of _ (by decide +kernel)) ggL_law_X6_tester
theorem dL_law_0 : decode cL_law 0 = .ok (.new 8, 3) := by decide +kernel
theorem dL_law_3 : decode cL_law 3 = .ok (.dup, 1) := by decide +kernel
theorem dL_law_4 : decode cL_law 4 = .ok (.invokespecial 19, 3) := by decide +kernel
theorem dL_law_7 : decode cL_law 7 = .ok (.astore_n 1, 1) := by decide +kernel
theorem dL_law_8 : decode cL_law 8 = .ok (.new 20, 3) := by decide +kernel
theorem dL_law_11 : decode cL_law 11 = .ok (.dup, 1) := by decide +kernel
theorem dL_law_12 : decode cL_law 12 = .ok (.invokespecial 22, 3) := by decide +kernel
theorem dL_law_15 : decode cL_law 15 = .ok (.astore_n 2, 1) := by decide +kernel
theorem dL_law_16 : decode cL_law 16 = .ok (.iconst 1, 1) := by decide +kernel
theorem dL_law_17 : decode cL_law 17 = .ok (.newarray .long, 2) := by decide +kernel
theorem dL_law_19 : decode cL_law 19 = .ok (.astore_n 3, 1) := by decide +kernel
theorem dL_law_20 : decode cL_law 20 = .ok (.iconst 0, 1) := by decide +kernel
theorem dL_law_21 : decode cL_law 21 = .ok (.istore 4, 2) := by decide +kernel
theorem dL_law_23 : decode cL_law 23 = .ok (.iload 4, 2) := by decide +kernel
theorem dL_law_25 : decode cL_law 25 = .ok (.aload_n 0, 1) := by decide +kernel
theorem dL_law_26 : decode cL_law 26 = .ok (.arraylength, 1) := by decide +kernel
theorem dL_law_27 : decode cL_law 27 = .ok (.bipush 6, 2) := by decide +kernel
theorem dL_law_29 : decode cL_law 29 = .ok (.isub, 1) := by decide +kernel
theorem dL_law_30 : decode cL_law 30 = .ok (.if_icmp .gt 739, 3) := by decide +kernel
theorem dL_law_33 : decode cL_law 33 = .ok (.aload_n 0, 1) := by decide +kernel
theorem dL_law_34 : decode cL_law 34 = .ok (.iload 4, 2) := by decide +kernel
theorem dL_law_36 : decode cL_law 36 = .ok (.iaload, 1) := by decide +kernel
theorem dL_law_37 : decode cL_law 37 = .ok (.bipush 15, 2) := by decide +kernel
theorem dL_law_39 : decode cL_law 39 = .ok (.iand, 1) := by decide +kernel
theorem dL_law_40 : decode cL_law 40 = .ok (.tableswitch 723 0 12 #[68, 161, 184, 253, 309, 376, 401, 426, 439, 536, 605, 642, 698], 68) := by decide +kernel
theorem dL_law_108 : decode cL_law 108 = .ok (.aload_n 1, 1) := by decide +kernel
theorem dL_law_109 : decode cL_law 109 = .ok (.aload_n 0, 1) := by decide +kernel
theorem dL_law_110 : decode cL_law 110 = .ok (.iload 4, 2) := by decide +kernel
theorem dL_law_112 : decode cL_law 112 = .ok (.iconst 1, 1) := by decide +kernel
theorem dL_law_113 : decode cL_law 113 = .ok (.iadd, 1) := by decide +kernel
theorem dL_law_114 : decode cL_law 114 = .ok (.iaload, 1) := by decide +kernel
theorem dL_law_115 : decode cL_law 115 = .ok (.aload_n 0, 1) := by decide +kernel
theorem dL_law_116 : decode cL_law 116 = .ok (.iload 4, 2) := by decide +kernel
theorem dL_law_118 : decode cL_law 118 = .ok (.iconst 2, 1) := by decide +kernel
theorem dL_law_119 : decode cL_law 119 = .ok (.iadd, 1) := by decide +kernel
theorem dL_law_120 : decode cL_law 120 = .ok (.iaload, 1) := by decide +kernel
theorem dL_law_121 : decode cL_law 121 = .ok (.aload_n 0, 1) := by decide +kernel
theorem dL_law_122 : decode cL_law 122 = .ok (.iload 4, 2) := by decide +kernel
theorem dL_law_124 : decode cL_law 124 = .ok (.iconst 3, 1) := by decide +kernel
theorem dL_law_125 : decode cL_law 125 = .ok (.iadd, 1) := by decide +kernel
theorem dL_law_126 : decode cL_law 126 = .ok (.iaload, 1) := by decide +kernel
theorem dL_law_127 : decode cL_law 127 = .ok (.aload_n 0, 1) := by decide +kernel
theorem dL_law_128 : decode cL_law 128 = .ok (.iload 4, 2) := by decide +kernel
theorem dL_law_130 : decode cL_law 130 = .ok (.iconst 4, 1) := by decide +kernel
theorem dL_law_131 : decode cL_law 131 = .ok (.iadd, 1) := by decide +kernel
theorem dL_law_132 : decode cL_law 132 = .ok (.iaload, 1) := by decide +kernel
theorem dL_law_133 : decode cL_law 133 = .ok (.i2l, 1) := by decide +kernel
theorem dL_law_134 : decode cL_law 134 = .ok (.bipush 32, 2) := by decide +kernel
theorem dL_law_136 : decode cL_law 136 = .ok (.lshl, 1) := by decide +kernel
theorem dL_law_137 : decode cL_law 137 = .ok (.aload_n 0, 1) := by decide +kernel
theorem dL_law_138 : decode cL_law 138 = .ok (.iload 4, 2) := by decide +kernel
theorem dL_law_140 : decode cL_law 140 = .ok (.iconst 5, 1) := by decide +kernel
theorem dL_law_141 : decode cL_law 141 = .ok (.iadd, 1) := by decide +kernel
theorem dL_law_142 : decode cL_law 142 = .ok (.iaload, 1) := by decide +kernel
theorem dL_law_143 : decode cL_law 143 = .ok (.i2l, 1) := by decide +kernel
theorem dL_law_144 : decode cL_law 144 = .ok (.ldc2_w 23, 3) := by decide +kernel
theorem dL_law_147 : decode cL_law 147 = .ok (.land, 1) := by decide +kernel
theorem dL_law_148 : decode cL_law 148 = .ok (.lor, 1) := by decide +kernel
theorem dL_law_149 : decode cL_law 149 = .ok (.invokevirtual 25, 3) := by decide +kernel
theorem dL_law_152 : decode cL_law 152 = .ok (.aload_n 2, 1) := by decide +kernel
theorem dL_law_153 : decode cL_law 153 = .ok (.aload_n 0, 1) := by decide +kernel
theorem dL_law_154 : decode cL_law 154 = .ok (.iload 4, 2) := by decide +kernel
theorem dL_law_156 : decode cL_law 156 = .ok (.iconst 1, 1) := by decide +kernel
theorem dL_law_157 : decode cL_law 157 = .ok (.iadd, 1) := by decide +kernel
theorem dL_law_158 : decode cL_law 158 = .ok (.iaload, 1) := by decide +kernel
theorem dL_law_159 : decode cL_law 159 = .ok (.aload_n 0, 1) := by decide +kernel
theorem dL_law_160 : decode cL_law 160 = .ok (.iload 4, 2) := by decide +kernel
theorem dL_law_162 : decode cL_law 162 = .ok (.iconst 2, 1) := by decide +kernel
theorem dL_law_163 : decode cL_law 163 = .ok (.iadd, 1) := by decide +kernel
theorem dL_law_164 : decode cL_law 164 = .ok (.iaload, 1) := by decide +kernel
theorem dL_law_165 : decode cL_law 165 = .ok (.aload_n 0, 1) := by decide +kernel
theorem dL_law_166 : decode cL_law 166 = .ok (.iload 4, 2) := by decide +kernel
theorem dL_law_168 : decode cL_law 168 = .ok (.iconst 3, 1) := by decide +kernel
theorem dL_law_169 : decode cL_law 169 = .ok (.iadd, 1) := by decide +kernel
theorem dL_law_170 : decode cL_law 170 = .ok (.iaload, 1) := by decide +kernel
theorem dL_law_171 : decode cL_law 171 = .ok (.aload_n 0, 1) := by decide +kernel
theorem dL_law_172 : decode cL_law 172 = .ok (.iload 4, 2) := by decide +kernel
theorem dL_law_174 : decode cL_law 174 = .ok (.iconst 4, 1) := by decide +kernel
theorem dL_law_175 : decode cL_law 175 = .ok (.iadd, 1) := by decide +kernel
theorem dL_law_176 : decode cL_law 176 = .ok (.iaload, 1) := by decide +kernel
theorem dL_law_177 : decode cL_law 177 = .ok (.i2l, 1) := by decide +kernel
theorem dL_law_178 : decode cL_law 178 = .ok (.bipush 32, 2) := by decide +kernel
theorem dL_law_180 : decode cL_law 180 = .ok (.lshl, 1) := by decide +kernel
theorem dL_law_181 : decode cL_law 181 = .ok (.aload_n 0, 1) := by decide +kernel
theorem dL_law_182 : decode cL_law 182 = .ok (.iload 4, 2) := by decide +kernel
theorem dL_law_184 : decode cL_law 184 = .ok (.iconst 5, 1) := by decide +kernel
theorem dL_law_185 : decode cL_law 185 = .ok (.iadd, 1) := by decide +kernel
theorem dL_law_186 : decode cL_law 186 = .ok (.iaload, 1) := by decide +kernel
theorem dL_law_187 : decode cL_law 187 = .ok (.i2l, 1) := by decide +kernel
theorem dL_law_188 : decode cL_law 188 = .ok (.ldc2_w 23, 3) := by decide +kernel
theorem dL_law_191 : decode cL_law 191 = .ok (.land, 1) := by decide +kernel
theorem dL_law_192 : decode cL_law 192 = .ok (.lor, 1) := by decide +kernel
theorem dL_law_193 : decode cL_law 193 = .ok (.invokevirtual 29, 3) := by decide +kernel
theorem dL_law_196 : decode cL_law 196 = .ok (.if_icmp .eq 567, 3) := by decide +kernel
theorem dL_law_199 : decode cL_law 199 = .ok (.iconst 0, 1) := by decide +kernel
theorem dL_law_200 : decode cL_law 200 = .ok (.ireturn, 1) := by decide +kernel
theorem dL_law_201 : decode cL_law 201 = .ok (.aload_n 1, 1) := by decide +kernel
theorem dL_law_202 : decode cL_law 202 = .ok (.aload_n 0, 1) := by decide +kernel
theorem dL_law_203 : decode cL_law 203 = .ok (.iload 4, 2) := by decide +kernel
theorem dL_law_205 : decode cL_law 205 = .ok (.iconst 1, 1) := by decide +kernel
theorem dL_law_206 : decode cL_law 206 = .ok (.iadd, 1) := by decide +kernel
theorem dL_law_207 : decode cL_law 207 = .ok (.iaload, 1) := by decide +kernel
theorem dL_law_208 : decode cL_law 208 = .ok (.invokevirtual 30, 3) := by decide +kernel
theorem dL_law_211 : decode cL_law 211 = .ok (.aload_n 2, 1) := by decide +kernel
theorem dL_law_212 : decode cL_law 212 = .ok (.aload_n 0, 1) := by decide +kernel
theorem dL_law_213 : decode cL_law 213 = .ok (.iload 4, 2) := by decide +kernel
theorem dL_law_215 : decode cL_law 215 = .ok (.iconst 1, 1) := by decide +kernel
theorem dL_law_216 : decode cL_law 216 = .ok (.iadd, 1) := by decide +kernel
theorem dL_law_217 : decode cL_law 217 = .ok (.iaload, 1) := by decide +kernel
theorem dL_law_218 : decode cL_law 218 = .ok (.invokevirtual 34, 3) := by decide +kernel
theorem dL_law_221 : decode cL_law 221 = .ok (.goto 542, 3) := by decide +kernel
theorem dL_law_224 : decode cL_law 224 = .ok (.aload_n 1, 1) := by decide +kernel
theorem dL_law_225 : decode cL_law 225 = .ok (.aload_n 0, 1) := by decide +kernel
theorem dL_law_226 : decode cL_law 226 = .ok (.iload 4, 2) := by decide +kernel
theorem dL_law_228 : decode cL_law 228 = .ok (.iconst 1, 1) := by decide +kernel
theorem dL_law_229 : decode cL_law 229 = .ok (.iadd, 1) := by decide +kernel
theorem dL_law_230 : decode cL_law 230 = .ok (.iaload, 1) := by decide +kernel
theorem dL_law_231 : decode cL_law 231 = .ok (.aload_n 0, 1) := by decide +kernel
theorem dL_law_232 : decode cL_law 232 = .ok (.iload 4, 2) := by decide +kernel
theorem dL_law_234 : decode cL_law 234 = .ok (.iconst 2, 1) := by decide +kernel
theorem dL_law_235 : decode cL_law 235 = .ok (.iadd, 1) := by decide +kernel
theorem dL_law_236 : decode cL_law 236 = .ok (.iaload, 1) := by decide +kernel
theorem dL_law_237 : decode cL_law 237 = .ok (.i2l, 1) := by decide +kernel
theorem dL_law_238 : decode cL_law 238 = .ok (.bipush 32, 2) := by decide +kernel
theorem dL_law_240 : decode cL_law 240 = .ok (.lshl, 1) := by decide +kernel
theorem dL_law_241 : decode cL_law 241 = .ok (.aload_n 0, 1) := by decide +kernel
theorem dL_law_242 : decode cL_law 242 = .ok (.iload 4, 2) := by decide +kernel
theorem dL_law_244 : decode cL_law 244 = .ok (.iconst 3, 1) := by decide +kernel
theorem dL_law_245 : decode cL_law 245 = .ok (.iadd, 1) := by decide +kernel
theorem dL_law_246 : decode cL_law 246 = .ok (.iaload, 1) := by decide +kernel
theorem dL_law_247 : decode cL_law 247 = .ok (.i2l, 1) := by decide +kernel
theorem dL_law_248 : decode cL_law 248 = .ok (.ldc2_w 23, 3) := by decide +kernel
theorem dL_law_251 : decode cL_law 251 = .ok (.land, 1) := by decide +kernel
theorem dL_law_252 : decode cL_law 252 = .ok (.lor, 1) := by decide +kernel
theorem dL_law_253 : decode cL_law 253 = .ok (.invokevirtual 35, 3) := by decide +kernel
theorem dL_law_256 : decode cL_law 256 = .ok (.aload_n 2, 1) := by decide +kernel
theorem dL_law_257 : decode cL_law 257 = .ok (.aload_n 0, 1) := by decide +kernel
theorem dL_law_258 : decode cL_law 258 = .ok (.iload 4, 2) := by decide +kernel
theorem dL_law_260 : decode cL_law 260 = .ok (.iconst 1, 1) := by decide +kernel
theorem dL_law_261 : decode cL_law 261 = .ok (.iadd, 1) := by decide +kernel
theorem dL_law_262 : decode cL_law 262 = .ok (.iaload, 1) := by decide +kernel
theorem dL_law_263 : decode cL_law 263 = .ok (.aload_n 0, 1) := by decide +kernel
theorem dL_law_264 : decode cL_law 264 = .ok (.iload 4, 2) := by decide +kernel
theorem dL_law_266 : decode cL_law 266 = .ok (.iconst 2, 1) := by decide +kernel
theorem dL_law_267 : decode cL_law 267 = .ok (.iadd, 1) := by decide +kernel
theorem dL_law_268 : decode cL_law 268 = .ok (.iaload, 1) := by decide +kernel
theorem dL_law_269 : decode cL_law 269 = .ok (.i2l, 1) := by decide +kernel
theorem dL_law_270 : decode cL_law 270 = .ok (.bipush 32, 2) := by decide +kernel
theorem dL_law_272 : decode cL_law 272 = .ok (.lshl, 1) := by decide +kernel
theorem dL_law_273 : decode cL_law 273 = .ok (.aload_n 0, 1) := by decide +kernel
theorem dL_law_274 : decode cL_law 274 = .ok (.iload 4, 2) := by decide +kernel
theorem dL_law_276 : decode cL_law 276 = .ok (.iconst 3, 1) := by decide +kernel
theorem dL_law_277 : decode cL_law 277 = .ok (.iadd, 1) := by decide +kernel
theorem dL_law_278 : decode cL_law 278 = .ok (.iaload, 1) := by decide +kernel
theorem dL_law_279 : decode cL_law 279 = .ok (.i2l, 1) := by decide +kernel
theorem dL_law_280 : decode cL_law 280 = .ok (.ldc2_w 23, 3) := by decide +kernel
theorem dL_law_283 : decode cL_law 283 = .ok (.land, 1) := by decide +kernel
theorem dL_law_284 : decode cL_law 284 = .ok (.lor, 1) := by decide +kernel
theorem dL_law_285 : decode cL_law 285 = .ok (.invokevirtual 39, 3) := by decide +kernel
theorem dL_law_288 : decode cL_law 288 = .ok (.if_icmp .eq 475, 3) := by decide +kernel
theorem dL_law_291 : decode cL_law 291 = .ok (.iconst 0, 1) := by decide +kernel
theorem dL_law_292 : decode cL_law 292 = .ok (.ireturn, 1) := by decide +kernel
theorem dL_law_293 : decode cL_law 293 = .ok (.aload_n 1, 1) := by decide +kernel
theorem dL_law_294 : decode cL_law 294 = .ok (.aload_n 0, 1) := by decide +kernel
theorem dL_law_295 : decode cL_law 295 = .ok (.iload 4, 2) := by decide +kernel
theorem dL_law_297 : decode cL_law 297 = .ok (.iconst 1, 1) := by decide +kernel
theorem dL_law_298 : decode cL_law 298 = .ok (.iadd, 1) := by decide +kernel
theorem dL_law_299 : decode cL_law 299 = .ok (.iaload, 1) := by decide +kernel
theorem dL_law_300 : decode cL_law 300 = .ok (.aload_n 3, 1) := by decide +kernel
theorem dL_law_301 : decode cL_law 301 = .ok (.invokestatic 40, 3) := by decide +kernel
theorem dL_law_304 : decode cL_law 304 = .ok (.istore 5, 2) := by decide +kernel
theorem dL_law_306 : decode cL_law 306 = .ok (.aload_n 2, 1) := by decide +kernel
theorem dL_law_307 : decode cL_law 307 = .ok (.aload_n 0, 1) := by decide +kernel
theorem dL_law_308 : decode cL_law 308 = .ok (.iload 4, 2) := by decide +kernel
theorem dL_law_310 : decode cL_law 310 = .ok (.iconst 1, 1) := by decide +kernel
theorem dL_law_311 : decode cL_law 311 = .ok (.iadd, 1) := by decide +kernel
theorem dL_law_312 : decode cL_law 312 = .ok (.iaload, 1) := by decide +kernel
theorem dL_law_313 : decode cL_law 313 = .ok (.invokevirtual 45, 3) := by decide +kernel
theorem dL_law_316 : decode cL_law 316 = .ok (.istore 6, 2) := by decide +kernel
theorem dL_law_318 : decode cL_law 318 = .ok (.aload_n 2, 1) := by decide +kernel
theorem dL_law_319 : decode cL_law 319 = .ok (.invokevirtual 46, 3) := by decide +kernel
theorem dL_law_322 : decode cL_law 322 = .ok (.iload 5, 2) := by decide +kernel
theorem dL_law_324 : decode cL_law 324 = .ok (.if_icmp .eq 5, 3) := by decide +kernel
theorem dL_law_327 : decode cL_law 327 = .ok (.iconst 0, 1) := by decide +kernel
theorem dL_law_328 : decode cL_law 328 = .ok (.ireturn, 1) := by decide +kernel
theorem dL_law_329 : decode cL_law 329 = .ok (.iload 5, 2) := by decide +kernel
theorem dL_law_331 : decode cL_law 331 = .ok (.ifCond .ne 15, 3) := by decide +kernel
theorem dL_law_334 : decode cL_law 334 = .ok (.aload_n 3, 1) := by decide +kernel
theorem dL_law_335 : decode cL_law 335 = .ok (.iconst 0, 1) := by decide +kernel
theorem dL_law_336 : decode cL_law 336 = .ok (.laload, 1) := by decide +kernel
theorem dL_law_337 : decode cL_law 337 = .ok (.iload 6, 2) := by decide +kernel
theorem dL_law_339 : decode cL_law 339 = .ok (.i2l, 1) := by decide +kernel
theorem dL_law_340 : decode cL_law 340 = .ok (.lcmp, 1) := by decide +kernel
theorem dL_law_341 : decode cL_law 341 = .ok (.ifCond .eq 5, 3) := by decide +kernel
theorem dL_law_344 : decode cL_law 344 = .ok (.iconst 0, 1) := by decide +kernel
theorem dL_law_345 : decode cL_law 345 = .ok (.ireturn, 1) := by decide +kernel
theorem dL_law_346 : decode cL_law 346 = .ok (.goto 417, 3) := by decide +kernel
theorem dL_law_349 : decode cL_law 349 = .ok (.aload_n 1, 1) := by decide +kernel
theorem dL_law_350 : decode cL_law 350 = .ok (.aload_n 0, 1) := by decide +kernel
theorem dL_law_351 : decode cL_law 351 = .ok (.iload 4, 2) := by decide +kernel
theorem dL_law_353 : decode cL_law 353 = .ok (.iconst 1, 1) := by decide +kernel
theorem dL_law_354 : decode cL_law 354 = .ok (.iadd, 1) := by decide +kernel
theorem dL_law_355 : decode cL_law 355 = .ok (.iaload, 1) := by decide +kernel
theorem dL_law_356 : decode cL_law 356 = .ok (.aload_n 0, 1) := by decide +kernel
theorem dL_law_357 : decode cL_law 357 = .ok (.iload 4, 2) := by decide +kernel
theorem dL_law_359 : decode cL_law 359 = .ok (.iconst 2, 1) := by decide +kernel
theorem dL_law_360 : decode cL_law 360 = .ok (.iadd, 1) := by decide +kernel
theorem dL_law_361 : decode cL_law 361 = .ok (.iaload, 1) := by decide +kernel
theorem dL_law_362 : decode cL_law 362 = .ok (.i2b, 1) := by decide +kernel
theorem dL_law_363 : decode cL_law 363 = .ok (.aload_n 0, 1) := by decide +kernel
theorem dL_law_364 : decode cL_law 364 = .ok (.iload 4, 2) := by decide +kernel
theorem dL_law_366 : decode cL_law 366 = .ok (.iconst 3, 1) := by decide +kernel
theorem dL_law_367 : decode cL_law 367 = .ok (.iadd, 1) := by decide +kernel
theorem dL_law_368 : decode cL_law 368 = .ok (.iaload, 1) := by decide +kernel
theorem dL_law_369 : decode cL_law 369 = .ok (.ifCond .eq 7, 3) := by decide +kernel
theorem dL_law_372 : decode cL_law 372 = .ok (.iconst 1, 1) := by decide +kernel
theorem dL_law_373 : decode cL_law 373 = .ok (.goto 4, 3) := by decide +kernel
theorem dL_law_376 : decode cL_law 376 = .ok (.iconst 0, 1) := by decide +kernel
theorem dL_law_377 : decode cL_law 377 = .ok (.invokevirtual 50, 3) := by decide +kernel
theorem dL_law_380 : decode cL_law 380 = .ok (.aload_n 2, 1) := by decide +kernel
theorem dL_law_381 : decode cL_law 381 = .ok (.aload_n 0, 1) := by decide +kernel
theorem dL_law_382 : decode cL_law 382 = .ok (.iload 4, 2) := by decide +kernel
theorem dL_law_384 : decode cL_law 384 = .ok (.iconst 1, 1) := by decide +kernel
theorem dL_law_385 : decode cL_law 385 = .ok (.iadd, 1) := by decide +kernel
theorem dL_law_386 : decode cL_law 386 = .ok (.iaload, 1) := by decide +kernel
theorem dL_law_387 : decode cL_law 387 = .ok (.aload_n 0, 1) := by decide +kernel
theorem dL_law_388 : decode cL_law 388 = .ok (.iload 4, 2) := by decide +kernel
theorem dL_law_390 : decode cL_law 390 = .ok (.iconst 2, 1) := by decide +kernel
theorem dL_law_391 : decode cL_law 391 = .ok (.iadd, 1) := by decide +kernel
theorem dL_law_392 : decode cL_law 392 = .ok (.iaload, 1) := by decide +kernel
theorem dL_law_393 : decode cL_law 393 = .ok (.i2b, 1) := by decide +kernel
theorem dL_law_394 : decode cL_law 394 = .ok (.aload_n 0, 1) := by decide +kernel
theorem dL_law_395 : decode cL_law 395 = .ok (.iload 4, 2) := by decide +kernel
theorem dL_law_397 : decode cL_law 397 = .ok (.iconst 3, 1) := by decide +kernel
theorem dL_law_398 : decode cL_law 398 = .ok (.iadd, 1) := by decide +kernel
theorem dL_law_399 : decode cL_law 399 = .ok (.iaload, 1) := by decide +kernel
theorem dL_law_400 : decode cL_law 400 = .ok (.ifCond .eq 7, 3) := by decide +kernel
theorem dL_law_403 : decode cL_law 403 = .ok (.iconst 1, 1) := by decide +kernel
theorem dL_law_404 : decode cL_law 404 = .ok (.goto 4, 3) := by decide +kernel
theorem dL_law_407 : decode cL_law 407 = .ok (.iconst 0, 1) := by decide +kernel
theorem dL_law_408 : decode cL_law 408 = .ok (.invokevirtual 54, 3) := by decide +kernel
theorem dL_law_411 : decode cL_law 411 = .ok (.if_icmp .eq 352, 3) := by decide +kernel
theorem dL_law_414 : decode cL_law 414 = .ok (.iconst 0, 1) := by decide +kernel
theorem dL_law_415 : decode cL_law 415 = .ok (.ireturn, 1) := by decide +kernel
theorem dL_law_416 : decode cL_law 416 = .ok (.aload_n 1, 1) := by decide +kernel
theorem dL_law_417 : decode cL_law 417 = .ok (.aload_n 0, 1) := by decide +kernel
theorem dL_law_418 : decode cL_law 418 = .ok (.iload 4, 2) := by decide +kernel
theorem dL_law_420 : decode cL_law 420 = .ok (.iconst 1, 1) := by decide +kernel
theorem dL_law_421 : decode cL_law 421 = .ok (.iadd, 1) := by decide +kernel
theorem dL_law_422 : decode cL_law 422 = .ok (.iaload, 1) := by decide +kernel
theorem dL_law_423 : decode cL_law 423 = .ok (.invokevirtual 55, 3) := by decide +kernel
theorem dL_law_426 : decode cL_law 426 = .ok (.aload_n 2, 1) := by decide +kernel
theorem dL_law_427 : decode cL_law 427 = .ok (.aload_n 0, 1) := by decide +kernel
theorem dL_law_428 : decode cL_law 428 = .ok (.iload 4, 2) := by decide +kernel
theorem dL_law_430 : decode cL_law 430 = .ok (.iconst 1, 1) := by decide +kernel
theorem dL_law_431 : decode cL_law 431 = .ok (.iadd, 1) := by decide +kernel
theorem dL_law_432 : decode cL_law 432 = .ok (.iaload, 1) := by decide +kernel
theorem dL_law_433 : decode cL_law 433 = .ok (.invokevirtual 58, 3) := by decide +kernel
theorem dL_law_436 : decode cL_law 436 = .ok (.if_icmp .eq 327, 3) := by decide +kernel
theorem dL_law_439 : decode cL_law 439 = .ok (.iconst 0, 1) := by decide +kernel
theorem dL_law_440 : decode cL_law 440 = .ok (.ireturn, 1) := by decide +kernel
theorem dL_law_441 : decode cL_law 441 = .ok (.aload_n 1, 1) := by decide +kernel
theorem dL_law_442 : decode cL_law 442 = .ok (.aload_n 0, 1) := by decide +kernel
theorem dL_law_443 : decode cL_law 443 = .ok (.iload 4, 2) := by decide +kernel
theorem dL_law_445 : decode cL_law 445 = .ok (.iconst 1, 1) := by decide +kernel
theorem dL_law_446 : decode cL_law 446 = .ok (.iadd, 1) := by decide +kernel
theorem dL_law_447 : decode cL_law 447 = .ok (.iaload, 1) := by decide +kernel
theorem dL_law_448 : decode cL_law 448 = .ok (.invokevirtual 59, 3) := by decide +kernel
theorem dL_law_451 : decode cL_law 451 = .ok (.aload_n 2, 1) := by decide +kernel
theorem dL_law_452 : decode cL_law 452 = .ok (.aload_n 0, 1) := by decide +kernel
theorem dL_law_453 : decode cL_law 453 = .ok (.iload 4, 2) := by decide +kernel
theorem dL_law_455 : decode cL_law 455 = .ok (.iconst 1, 1) := by decide +kernel
theorem dL_law_456 : decode cL_law 456 = .ok (.iadd, 1) := by decide +kernel
theorem dL_law_457 : decode cL_law 457 = .ok (.iaload, 1) := by decide +kernel
theorem dL_law_458 : decode cL_law 458 = .ok (.invokevirtual 62, 3) := by decide +kernel
theorem dL_law_461 : decode cL_law 461 = .ok (.if_icmp .eq 302, 3) := by decide +kernel
theorem dL_law_464 : decode cL_law 464 = .ok (.iconst 0, 1) := by decide +kernel
theorem dL_law_465 : decode cL_law 465 = .ok (.ireturn, 1) := by decide +kernel
theorem dL_law_466 : decode cL_law 466 = .ok (.aload_n 1, 1) := by decide +kernel
theorem dL_law_467 : decode cL_law 467 = .ok (.invokevirtual 63, 3) := by decide +kernel
theorem dL_law_470 : decode cL_law 470 = .ok (.aload_n 2, 1) := by decide +kernel
theorem dL_law_471 : decode cL_law 471 = .ok (.invokevirtual 66, 3) := by decide +kernel
theorem dL_law_474 : decode cL_law 474 = .ok (.if_icmp .eq 289, 3) := by decide +kernel
theorem dL_law_477 : decode cL_law 477 = .ok (.iconst 0, 1) := by decide +kernel
theorem dL_law_478 : decode cL_law 478 = .ok (.ireturn, 1) := by decide +kernel
theorem dL_law_479 : decode cL_law 479 = .ok (.aload_n 1, 1) := by decide +kernel
theorem dL_law_480 : decode cL_law 480 = .ok (.aload_n 0, 1) := by decide +kernel
theorem dL_law_481 : decode cL_law 481 = .ok (.iload 4, 2) := by decide +kernel
theorem dL_law_483 : decode cL_law 483 = .ok (.iconst 1, 1) := by decide +kernel
theorem dL_law_484 : decode cL_law 484 = .ok (.iadd, 1) := by decide +kernel
theorem dL_law_485 : decode cL_law 485 = .ok (.iaload, 1) := by decide +kernel
theorem dL_law_486 : decode cL_law 486 = .ok (.aload_n 0, 1) := by decide +kernel
theorem dL_law_487 : decode cL_law 487 = .ok (.iload 4, 2) := by decide +kernel
theorem dL_law_489 : decode cL_law 489 = .ok (.iconst 2, 1) := by decide +kernel
theorem dL_law_490 : decode cL_law 490 = .ok (.iadd, 1) := by decide +kernel
theorem dL_law_491 : decode cL_law 491 = .ok (.iaload, 1) := by decide +kernel
theorem dL_law_492 : decode cL_law 492 = .ok (.ifCond .eq 7, 3) := by decide +kernel
theorem dL_law_495 : decode cL_law 495 = .ok (.iconst 1, 1) := by decide +kernel
theorem dL_law_496 : decode cL_law 496 = .ok (.goto 4, 3) := by decide +kernel
theorem dL_law_499 : decode cL_law 499 = .ok (.iconst 0, 1) := by decide +kernel
theorem dL_law_500 : decode cL_law 500 = .ok (.aload_n 0, 1) := by decide +kernel
theorem dL_law_501 : decode cL_law 501 = .ok (.iload 4, 2) := by decide +kernel
theorem dL_law_503 : decode cL_law 503 = .ok (.iconst 3, 1) := by decide +kernel
theorem dL_law_504 : decode cL_law 504 = .ok (.iadd, 1) := by decide +kernel
theorem dL_law_505 : decode cL_law 505 = .ok (.iaload, 1) := by decide +kernel
theorem dL_law_506 : decode cL_law 506 = .ok (.i2l, 1) := by decide +kernel
theorem dL_law_507 : decode cL_law 507 = .ok (.bipush 32, 2) := by decide +kernel
theorem dL_law_509 : decode cL_law 509 = .ok (.lshl, 1) := by decide +kernel
theorem dL_law_510 : decode cL_law 510 = .ok (.aload_n 0, 1) := by decide +kernel
theorem dL_law_511 : decode cL_law 511 = .ok (.iload 4, 2) := by decide +kernel
theorem dL_law_513 : decode cL_law 513 = .ok (.iconst 4, 1) := by decide +kernel
theorem dL_law_514 : decode cL_law 514 = .ok (.iadd, 1) := by decide +kernel
theorem dL_law_515 : decode cL_law 515 = .ok (.iaload, 1) := by decide +kernel
theorem dL_law_516 : decode cL_law 516 = .ok (.i2l, 1) := by decide +kernel
theorem dL_law_517 : decode cL_law 517 = .ok (.ldc2_w 23, 3) := by decide +kernel
theorem dL_law_520 : decode cL_law 520 = .ok (.land, 1) := by decide +kernel
theorem dL_law_521 : decode cL_law 521 = .ok (.lor, 1) := by decide +kernel
theorem dL_law_522 : decode cL_law 522 = .ok (.invokevirtual 67, 3) := by decide +kernel
theorem dL_law_525 : decode cL_law 525 = .ok (.aload_n 2, 1) := by decide +kernel
theorem dL_law_526 : decode cL_law 526 = .ok (.aload_n 0, 1) := by decide +kernel
theorem dL_law_527 : decode cL_law 527 = .ok (.iload 4, 2) := by decide +kernel
theorem dL_law_529 : decode cL_law 529 = .ok (.iconst 1, 1) := by decide +kernel
theorem dL_law_530 : decode cL_law 530 = .ok (.iadd, 1) := by decide +kernel
theorem dL_law_531 : decode cL_law 531 = .ok (.iaload, 1) := by decide +kernel
theorem dL_law_532 : decode cL_law 532 = .ok (.aload_n 0, 1) := by decide +kernel
theorem dL_law_533 : decode cL_law 533 = .ok (.iload 4, 2) := by decide +kernel
theorem dL_law_535 : decode cL_law 535 = .ok (.iconst 2, 1) := by decide +kernel
theorem dL_law_536 : decode cL_law 536 = .ok (.iadd, 1) := by decide +kernel
theorem dL_law_537 : decode cL_law 537 = .ok (.iaload, 1) := by decide +kernel
theorem dL_law_538 : decode cL_law 538 = .ok (.ifCond .eq 7, 3) := by decide +kernel
theorem dL_law_541 : decode cL_law 541 = .ok (.iconst 1, 1) := by decide +kernel
theorem dL_law_542 : decode cL_law 542 = .ok (.goto 4, 3) := by decide +kernel
theorem dL_law_545 : decode cL_law 545 = .ok (.iconst 0, 1) := by decide +kernel
theorem dL_law_546 : decode cL_law 546 = .ok (.aload_n 0, 1) := by decide +kernel
theorem dL_law_547 : decode cL_law 547 = .ok (.iload 4, 2) := by decide +kernel
theorem dL_law_549 : decode cL_law 549 = .ok (.iconst 3, 1) := by decide +kernel
theorem dL_law_550 : decode cL_law 550 = .ok (.iadd, 1) := by decide +kernel
theorem dL_law_551 : decode cL_law 551 = .ok (.iaload, 1) := by decide +kernel
theorem dL_law_552 : decode cL_law 552 = .ok (.i2l, 1) := by decide +kernel
theorem dL_law_553 : decode cL_law 553 = .ok (.bipush 32, 2) := by decide +kernel
theorem dL_law_555 : decode cL_law 555 = .ok (.lshl, 1) := by decide +kernel
theorem dL_law_556 : decode cL_law 556 = .ok (.aload_n 0, 1) := by decide +kernel
theorem dL_law_557 : decode cL_law 557 = .ok (.iload 4, 2) := by decide +kernel
theorem dL_law_559 : decode cL_law 559 = .ok (.iconst 4, 1) := by decide +kernel
theorem dL_law_560 : decode cL_law 560 = .ok (.iadd, 1) := by decide +kernel
theorem dL_law_561 : decode cL_law 561 = .ok (.iaload, 1) := by decide +kernel
theorem dL_law_562 : decode cL_law 562 = .ok (.i2l, 1) := by decide +kernel
theorem dL_law_563 : decode cL_law 563 = .ok (.ldc2_w 23, 3) := by decide +kernel
theorem dL_law_566 : decode cL_law 566 = .ok (.land, 1) := by decide +kernel
theorem dL_law_567 : decode cL_law 567 = .ok (.lor, 1) := by decide +kernel
theorem dL_law_568 : decode cL_law 568 = .ok (.invokevirtual 71, 3) := by decide +kernel
theorem dL_law_571 : decode cL_law 571 = .ok (.if_icmp .eq 192, 3) := by decide +kernel
theorem dL_law_574 : decode cL_law 574 = .ok (.iconst 0, 1) := by decide +kernel
theorem dL_law_575 : decode cL_law 575 = .ok (.ireturn, 1) := by decide +kernel
theorem dL_law_576 : decode cL_law 576 = .ok (.aload_n 1, 1) := by decide +kernel
theorem dL_law_577 : decode cL_law 577 = .ok (.aload_n 0, 1) := by decide +kernel
theorem dL_law_578 : decode cL_law 578 = .ok (.iload 4, 2) := by decide +kernel
theorem dL_law_580 : decode cL_law 580 = .ok (.iconst 1, 1) := by decide +kernel
theorem dL_law_581 : decode cL_law 581 = .ok (.iadd, 1) := by decide +kernel
theorem dL_law_582 : decode cL_law 582 = .ok (.iaload, 1) := by decide +kernel
theorem dL_law_583 : decode cL_law 583 = .ok (.aload_n 0, 1) := by decide +kernel
theorem dL_law_584 : decode cL_law 584 = .ok (.iload 4, 2) := by decide +kernel
theorem dL_law_586 : decode cL_law 586 = .ok (.iconst 2, 1) := by decide +kernel
theorem dL_law_587 : decode cL_law 587 = .ok (.iadd, 1) := by decide +kernel
theorem dL_law_588 : decode cL_law 588 = .ok (.iaload, 1) := by decide +kernel
theorem dL_law_589 : decode cL_law 589 = .ok (.i2l, 1) := by decide +kernel
theorem dL_law_590 : decode cL_law 590 = .ok (.bipush 32, 2) := by decide +kernel
theorem dL_law_592 : decode cL_law 592 = .ok (.lshl, 1) := by decide +kernel
theorem dL_law_593 : decode cL_law 593 = .ok (.aload_n 0, 1) := by decide +kernel
theorem dL_law_594 : decode cL_law 594 = .ok (.iload 4, 2) := by decide +kernel
theorem dL_law_596 : decode cL_law 596 = .ok (.iconst 3, 1) := by decide +kernel
theorem dL_law_597 : decode cL_law 597 = .ok (.iadd, 1) := by decide +kernel
theorem dL_law_598 : decode cL_law 598 = .ok (.iaload, 1) := by decide +kernel
theorem dL_law_599 : decode cL_law 599 = .ok (.i2l, 1) := by decide +kernel
theorem dL_law_600 : decode cL_law 600 = .ok (.ldc2_w 23, 3) := by decide +kernel
theorem dL_law_603 : decode cL_law 603 = .ok (.land, 1) := by decide +kernel
theorem dL_law_604 : decode cL_law 604 = .ok (.lor, 1) := by decide +kernel
theorem dL_law_605 : decode cL_law 605 = .ok (.invokevirtual 72, 3) := by decide +kernel
theorem dL_law_608 : decode cL_law 608 = .ok (.aload_n 2, 1) := by decide +kernel
theorem dL_law_609 : decode cL_law 609 = .ok (.aload_n 0, 1) := by decide +kernel
theorem dL_law_610 : decode cL_law 610 = .ok (.iload 4, 2) := by decide +kernel
theorem dL_law_612 : decode cL_law 612 = .ok (.iconst 1, 1) := by decide +kernel
theorem dL_law_613 : decode cL_law 613 = .ok (.iadd, 1) := by decide +kernel
theorem dL_law_614 : decode cL_law 614 = .ok (.iaload, 1) := by decide +kernel
theorem dL_law_615 : decode cL_law 615 = .ok (.aload_n 0, 1) := by decide +kernel
theorem dL_law_616 : decode cL_law 616 = .ok (.iload 4, 2) := by decide +kernel
theorem dL_law_618 : decode cL_law 618 = .ok (.iconst 2, 1) := by decide +kernel
theorem dL_law_619 : decode cL_law 619 = .ok (.iadd, 1) := by decide +kernel
theorem dL_law_620 : decode cL_law 620 = .ok (.iaload, 1) := by decide +kernel
theorem dL_law_621 : decode cL_law 621 = .ok (.i2l, 1) := by decide +kernel
theorem dL_law_622 : decode cL_law 622 = .ok (.bipush 32, 2) := by decide +kernel
theorem dL_law_624 : decode cL_law 624 = .ok (.lshl, 1) := by decide +kernel
theorem dL_law_625 : decode cL_law 625 = .ok (.aload_n 0, 1) := by decide +kernel
theorem dL_law_626 : decode cL_law 626 = .ok (.iload 4, 2) := by decide +kernel
theorem dL_law_628 : decode cL_law 628 = .ok (.iconst 3, 1) := by decide +kernel
theorem dL_law_629 : decode cL_law 629 = .ok (.iadd, 1) := by decide +kernel
theorem dL_law_630 : decode cL_law 630 = .ok (.iaload, 1) := by decide +kernel
theorem dL_law_631 : decode cL_law 631 = .ok (.i2l, 1) := by decide +kernel
theorem dL_law_632 : decode cL_law 632 = .ok (.ldc2_w 23, 3) := by decide +kernel
theorem dL_law_635 : decode cL_law 635 = .ok (.land, 1) := by decide +kernel
theorem dL_law_636 : decode cL_law 636 = .ok (.lor, 1) := by decide +kernel
theorem dL_law_637 : decode cL_law 637 = .ok (.invokevirtual 75, 3) := by decide +kernel
theorem dL_law_640 : decode cL_law 640 = .ok (.if_icmp .eq 123, 3) := by decide +kernel
theorem dL_law_643 : decode cL_law 643 = .ok (.iconst 0, 1) := by decide +kernel
theorem dL_law_644 : decode cL_law 644 = .ok (.ireturn, 1) := by decide +kernel
theorem dL_law_645 : decode cL_law 645 = .ok (.aload_n 1, 1) := by decide +kernel
theorem dL_law_646 : decode cL_law 646 = .ok (.aload_n 0, 1) := by decide +kernel
theorem dL_law_647 : decode cL_law 647 = .ok (.iload 4, 2) := by decide +kernel
theorem dL_law_649 : decode cL_law 649 = .ok (.iconst 1, 1) := by decide +kernel
theorem dL_law_650 : decode cL_law 650 = .ok (.iadd, 1) := by decide +kernel
theorem dL_law_651 : decode cL_law 651 = .ok (.iaload, 1) := by decide +kernel
theorem dL_law_652 : decode cL_law 652 = .ok (.aload_n 0, 1) := by decide +kernel
theorem dL_law_653 : decode cL_law 653 = .ok (.iload 4, 2) := by decide +kernel
theorem dL_law_655 : decode cL_law 655 = .ok (.iconst 2, 1) := by decide +kernel
theorem dL_law_656 : decode cL_law 656 = .ok (.iadd, 1) := by decide +kernel
theorem dL_law_657 : decode cL_law 657 = .ok (.iaload, 1) := by decide +kernel
theorem dL_law_658 : decode cL_law 658 = .ok (.invokevirtual 76, 3) := by decide +kernel
theorem dL_law_661 : decode cL_law 661 = .ok (.aload_n 2, 1) := by decide +kernel
theorem dL_law_662 : decode cL_law 662 = .ok (.aload_n 0, 1) := by decide +kernel
theorem dL_law_663 : decode cL_law 663 = .ok (.iload 4, 2) := by decide +kernel
theorem dL_law_665 : decode cL_law 665 = .ok (.iconst 1, 1) := by decide +kernel
theorem dL_law_666 : decode cL_law 666 = .ok (.iadd, 1) := by decide +kernel
theorem dL_law_667 : decode cL_law 667 = .ok (.iaload, 1) := by decide +kernel
theorem dL_law_668 : decode cL_law 668 = .ok (.aload_n 0, 1) := by decide +kernel
theorem dL_law_669 : decode cL_law 669 = .ok (.iload 4, 2) := by decide +kernel
theorem dL_law_671 : decode cL_law 671 = .ok (.iconst 2, 1) := by decide +kernel
theorem dL_law_672 : decode cL_law 672 = .ok (.iadd, 1) := by decide +kernel
theorem dL_law_673 : decode cL_law 673 = .ok (.iaload, 1) := by decide +kernel
theorem dL_law_674 : decode cL_law 674 = .ok (.invokevirtual 80, 3) := by decide +kernel
theorem dL_law_677 : decode cL_law 677 = .ok (.if_icmp .eq 86, 3) := by decide +kernel
theorem dL_law_680 : decode cL_law 680 = .ok (.iconst 0, 1) := by decide +kernel
theorem dL_law_681 : decode cL_law 681 = .ok (.ireturn, 1) := by decide +kernel
theorem dL_law_682 : decode cL_law 682 = .ok (.aload_n 1, 1) := by decide +kernel
theorem dL_law_683 : decode cL_law 683 = .ok (.aload_n 0, 1) := by decide +kernel
theorem dL_law_684 : decode cL_law 684 = .ok (.iload 4, 2) := by decide +kernel
theorem dL_law_686 : decode cL_law 686 = .ok (.iconst 1, 1) := by decide +kernel
theorem dL_law_687 : decode cL_law 687 = .ok (.iadd, 1) := by decide +kernel
theorem dL_law_688 : decode cL_law 688 = .ok (.iaload, 1) := by decide +kernel
theorem dL_law_689 : decode cL_law 689 = .ok (.aload_n 3, 1) := by decide +kernel
theorem dL_law_690 : decode cL_law 690 = .ok (.invokestatic 81, 3) := by decide +kernel
theorem dL_law_693 : decode cL_law 693 = .ok (.istore 5, 2) := by decide +kernel
theorem dL_law_695 : decode cL_law 695 = .ok (.aload_n 2, 1) := by decide +kernel
theorem dL_law_696 : decode cL_law 696 = .ok (.aload_n 0, 1) := by decide +kernel
theorem dL_law_697 : decode cL_law 697 = .ok (.iload 4, 2) := by decide +kernel
theorem dL_law_699 : decode cL_law 699 = .ok (.iconst 1, 1) := by decide +kernel
theorem dL_law_700 : decode cL_law 700 = .ok (.iadd, 1) := by decide +kernel
theorem dL_law_701 : decode cL_law 701 = .ok (.iaload, 1) := by decide +kernel
theorem dL_law_702 : decode cL_law 702 = .ok (.invokevirtual 83, 3) := by decide +kernel
theorem dL_law_705 : decode cL_law 705 = .ok (.istore 6, 2) := by decide +kernel
theorem dL_law_707 : decode cL_law 707 = .ok (.aload_n 2, 1) := by decide +kernel
theorem dL_law_708 : decode cL_law 708 = .ok (.invokevirtual 46, 3) := by decide +kernel
theorem dL_law_711 : decode cL_law 711 = .ok (.iload 5, 2) := by decide +kernel
theorem dL_law_713 : decode cL_law 713 = .ok (.if_icmp .eq 5, 3) := by decide +kernel
theorem dL_law_716 : decode cL_law 716 = .ok (.iconst 0, 1) := by decide +kernel
theorem dL_law_717 : decode cL_law 717 = .ok (.ireturn, 1) := by decide +kernel
theorem dL_law_718 : decode cL_law 718 = .ok (.iload 5, 2) := by decide +kernel
theorem dL_law_720 : decode cL_law 720 = .ok (.ifCond .ne 15, 3) := by decide +kernel
theorem dL_law_723 : decode cL_law 723 = .ok (.aload_n 3, 1) := by decide +kernel
theorem dL_law_724 : decode cL_law 724 = .ok (.iconst 0, 1) := by decide +kernel
theorem dL_law_725 : decode cL_law 725 = .ok (.laload, 1) := by decide +kernel
theorem dL_law_726 : decode cL_law 726 = .ok (.iload 6, 2) := by decide +kernel
theorem dL_law_728 : decode cL_law 728 = .ok (.i2l, 1) := by decide +kernel
theorem dL_law_729 : decode cL_law 729 = .ok (.lcmp, 1) := by decide +kernel
theorem dL_law_730 : decode cL_law 730 = .ok (.ifCond .eq 5, 3) := by decide +kernel
theorem dL_law_733 : decode cL_law 733 = .ok (.iconst 0, 1) := by decide +kernel
theorem dL_law_734 : decode cL_law 734 = .ok (.ireturn, 1) := by decide +kernel
theorem dL_law_735 : decode cL_law 735 = .ok (.goto 28, 3) := by decide +kernel
theorem dL_law_738 : decode cL_law 738 = .ok (.aload_n 1, 1) := by decide +kernel
theorem dL_law_739 : decode cL_law 739 = .ok (.aload_n 0, 1) := by decide +kernel
theorem dL_law_740 : decode cL_law 740 = .ok (.iload 4, 2) := by decide +kernel
theorem dL_law_742 : decode cL_law 742 = .ok (.iconst 1, 1) := by decide +kernel
theorem dL_law_743 : decode cL_law 743 = .ok (.iadd, 1) := by decide +kernel
theorem dL_law_744 : decode cL_law 744 = .ok (.iaload, 1) := by decide +kernel
theorem dL_law_745 : decode cL_law 745 = .ok (.invokevirtual 84, 3) := by decide +kernel
theorem dL_law_748 : decode cL_law 748 = .ok (.aload_n 2, 1) := by decide +kernel
theorem dL_law_749 : decode cL_law 749 = .ok (.aload_n 0, 1) := by decide +kernel
theorem dL_law_750 : decode cL_law 750 = .ok (.iload 4, 2) := by decide +kernel
theorem dL_law_752 : decode cL_law 752 = .ok (.iconst 1, 1) := by decide +kernel
theorem dL_law_753 : decode cL_law 753 = .ok (.iadd, 1) := by decide +kernel
theorem dL_law_754 : decode cL_law 754 = .ok (.iaload, 1) := by decide +kernel
theorem dL_law_755 : decode cL_law 755 = .ok (.invokevirtual 87, 3) := by decide +kernel
theorem dL_law_758 : decode cL_law 758 = .ok (.if_icmp .eq 5, 3) := by decide +kernel
theorem dL_law_761 : decode cL_law 761 = .ok (.iconst 0, 1) := by decide +kernel
theorem dL_law_762 : decode cL_law 762 = .ok (.ireturn, 1) := by decide +kernel
theorem dL_law_763 : decode cL_law 763 = .ok (.iinc 4 6, 3) := by decide +kernel
theorem dL_law_766 : decode cL_law 766 = .ok (.goto (-743), 3) := by decide +kernel
theorem dL_law_769 : decode cL_law 769 = .ok (.iconst 1, 1) := by decide +kernel
theorem dL_law_770 : decode cL_law 770 = .ok (.ireturn, 1) := by decide +kernel
abbrev vwCl : List vw_C := [(RJ0, TJ0, 2), (RJx00060, TJx00060, 6), (RX0, TX0, 2), (RX1, TX1, 4), (RX2, TX2, 3), (RX3, TX3, 11), (RX4, TX4, 3), (RX5, TX5, 8), (RX6, TX6, 27)]
