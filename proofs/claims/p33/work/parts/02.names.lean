def RX0 : String := "GuestHall$Following"
def TX0 : u_T := fun k => match k with
  | 0 => ("GuestHall$Following", "isOn", "Z", false)
  | 1 => ("GuestHall$Following", "step", "LGuestHall$State;", true)
  | 2 => ("GuestHall$Following", "cameSince", "LGuestHall$Numbers;", true)
  | _ => ("GuestHall$Following", "held", "LGuestHall$Numbers;", true)
def tyX0 : Nat → FieldType := fun k => match k with
  | 0 => .boolean
  | 1 => .object "GuestHall$State"
  | 2 => .object "GuestHall$Numbers"
  | _ => .object "GuestHall$Numbers"
theorem nmX0 : ∀ a, a < 4 → ∀ b, b < 4 → a ≠ b → (TX0 a).2.1 ≠ (TX0 b).2.1 := by decide +kernel
theorem tyX0_ok : ∀ k, k < 4 → parseFieldDescriptor (TX0 k).2.2.1 = some (tyX0 k) := by decide +kernel
abbrev cX0_init : ByteArray := prog_2_method_1_code
def yX0_init : MethodName := ⟨RX0, "<init>", "()V"⟩
abbrev cX0_end : ByteArray := prog_2_method_2_code
def yX0_end : MethodName := ⟨RX0, "end", "()V"⟩
def RX1 : String := "GuestHall$Guest"
def TX1 : u_T := fun k => match k with
  | 0 => ("GuestHall$Guest", "number", "I", true)
  | 1 => ("GuestHall$Guest", "weight", "I", true)
  | 2 => ("GuestHall$Guest", "isSealed", "Z", true)
  | 3 => ("GuestHall$Guest", "program", "LGuestHall$Program;", true)
  | 4 => ("GuestHall$Guest", "state", "LGuestHall$State;", true)
  | 5 => ("GuestHall$Guest", "following", "LGuestHall$Following;", true)
  | 6 => ("GuestHall$Guest", "wentOut", "LGuestHall$Numbers;", true)
  | 7 => ("GuestHall$Guest", "exits", "[I", true)
  | 8 => ("GuestHall$Guest", "host", "LGuestHall$Host;", false)
  | 9 => ("GuestHall$Guest", "lastSnapshot", "LGuestHall$Snapshot;", false)
  | 10 => ("GuestHall$Guest", "scale", "I", false)
  | 11 => ("GuestHall$Guest", "stolen", "I", false)
  | 12 => ("GuestHall$Guest", "ran", "I", false)
  | 13 => ("GuestHall$Guest", "sent", "I", false)
  | 14 => ("GuestHall$Guest", "barePages", "I", false)
  | 15 => ("GuestHall$Guest", "toSend", "I", false)
  | 16 => ("GuestHall$Guest", "isPaused", "Z", false)
  | 17 => ("GuestHall$Guest", "wasRestored", "Z", false)
  | _ => ("GuestHall$Guest", "diedWithHost", "Z", false)
def tyX1 : Nat → FieldType := fun k => match k with
  | 0 => .int
  | 1 => .int
  | 2 => .boolean
  | 3 => .object "GuestHall$Program"
  | 4 => .object "GuestHall$State"
  | 5 => .object "GuestHall$Following"
  | 6 => .object "GuestHall$Numbers"
  | 7 => .array .int
  | 8 => .object "GuestHall$Host"
  | 9 => .object "GuestHall$Snapshot"
  | 10 => .int
  | 11 => .int
  | 12 => .int
  | 13 => .int
  | 14 => .int
  | 15 => .int
  | 16 => .boolean
  | 17 => .boolean
  | _ => .boolean
theorem nmX1 : ∀ a, a < 19 → ∀ b, b < 19 → a ≠ b → (TX1 a).2.1 ≠ (TX1 b).2.1 := by decide +kernel
theorem tyX1_ok : ∀ k, k < 19 → parseFieldDescriptor (TX1 k).2.2.1 = some (tyX1 k) := by decide +kernel
abbrev cX1_init : ByteArray := prog_3_method_1_code
def yX1_init : MethodName := ⟨RX1, "<init>", "(ILGuestHall$Host;IZ)V"⟩
abbrev cX1_isDead : ByteArray := prog_3_method_2_code
def yX1_isDead : MethodName := ⟨RX1, "isDead", "()Z"⟩
abbrev cX1_isMoving : ByteArray := prog_3_method_3_code
def yX1_isMoving : MethodName := ⟨RX1, "isMoving", "()Z"⟩
abbrev cX1_isBare : ByteArray := prog_3_method_4_code
def yX1_isBare : MethodName := ⟨RX1, "isBare", "(I)Z"⟩
abbrev cX1_frameFor : ByteArray := prog_3_method_5_code
def yX1_frameFor : MethodName := ⟨RX1, "frameFor", "(I)I"⟩
abbrev cX1_keyOf : ByteArray := prog_3_method_6_code
def yX1_keyOf : MethodName := ⟨RX1, "keyOf", "(I)I"⟩
abbrev cX1_canRunOn : ByteArray := prog_3_method_7_code
def yX1_canRunOn : MethodName := ⟨RX1, "canRunOn", "(LGuestHall$Host;)Z"⟩
abbrev cX1_runTick : ByteArray := prog_3_method_8_code
def yX1_runTick : MethodName := ⟨RX1, "runTick", "()V"⟩
abbrev cX1_advanceClock : ByteArray := prog_3_method_9_code
def yX1_advanceClock : MethodName := ⟨RX1, "advanceClock", "()V"⟩
abbrev cX1_reach : ByteArray := prog_3_method_10_code
def yX1_reach : MethodName := ⟨RX1, "reach", "(IZ)V"⟩
abbrev cX1_giveBack : ByteArray := prog_3_method_11_code
def yX1_giveBack : MethodName := ⟨RX1, "giveBack", "(I)V"⟩
abbrev cX1_sendAgain : ByteArray := prog_3_method_12_code
def yX1_sendAgain : MethodName := ⟨RX1, "sendAgain", "(I)V"⟩
abbrev cX1_takeFrom : ByteArray := prog_3_method_13_code
def yX1_takeFrom : MethodName := ⟨RX1, "takeFrom", "(I)I"⟩
abbrev cX1_tell : ByteArray := prog_3_method_14_code
def yX1_tell : MethodName := ⟨RX1, "tell", "(II)V"⟩
abbrev cX1_isInterruptPending : ByteArray := prog_3_method_15_code
def yX1_isInterruptPending : MethodName := ⟨RX1, "isInterruptPending", "()Z"⟩
abbrev cX1_countExit : ByteArray := prog_3_method_16_code
def yX1_countExit : MethodName := ⟨RX1, "countExit", "(I)V"⟩
abbrev cX1_sendPages : ByteArray := prog_3_method_17_code
def yX1_sendPages : MethodName := ⟨RX1, "sendPages", "(I)V"⟩
abbrev cX1_leaveFrames : ByteArray := prog_3_method_18_code
def yX1_leaveFrames : MethodName := ⟨RX1, "leaveFrames", "()V"⟩
abbrev cX1_goBackTo : ByteArray := prog_3_method_19_code
def yX1_goBackTo : MethodName := ⟨RX1, "goBackTo", "(LGuestHall$State;)I"⟩
abbrev cX1_keepStep : ByteArray := prog_3_method_20_code
def yX1_keepStep : MethodName := ⟨RX1, "keepStep", "()I"⟩
abbrev cX1_letHeldOut : ByteArray := prog_3_method_21_code
def yX1_letHeldOut : MethodName := ⟨RX1, "letHeldOut", "()I"⟩
abbrev cX1_goOnUpon : ByteArray := prog_3_method_22_code
def yX1_goOnUpon : MethodName := ⟨RX1, "goOnUpon", "(LGuestHall$Host;)V"⟩
abbrev cX1_dieWithHost : ByteArray := prog_3_method_23_code
def yX1_dieWithHost : MethodName := ⟨RX1, "dieWithHost", "()V"⟩
def RX2 : String := "GuestHall$Host"
def TX2 : u_T := fun k => match k with
  | 0 => ("GuestHall$Host", "number", "I", true)
  | 1 => ("GuestHall$Host", "frameOfKey", "[I", true)
  | 2 => ("GuestHall$Host", "pagesIn", "[I", true)
  | 3 => ("GuestHall$Host", "usedAt", "[I", true)
  | 4 => ("GuestHall$Host", "hasFailed", "Z", false)
  | 5 => ("GuestHall$Host", "tick", "I", false)
  | 6 => ("GuestHall$Host", "ranLast", "LGuestHall$Guest;", false)
  | _ => ("GuestHall$Host", "row", "I", false)
def tyX2 : Nat → FieldType := fun k => match k with
  | 0 => .int
  | 1 => .array .int
  | 2 => .array .int
  | 3 => .array .int
  | 4 => .boolean
  | 5 => .int
  | 6 => .object "GuestHall$Guest"
  | _ => .int
theorem nmX2 : ∀ a, a < 8 → ∀ b, b < 8 → a ≠ b → (TX2 a).2.1 ≠ (TX2 b).2.1 := by decide +kernel
theorem tyX2_ok : ∀ k, k < 8 → parseFieldDescriptor (TX2 k).2.2.1 = some (tyX2 k) := by decide +kernel
abbrev cX2_init : ByteArray := prog_4_method_1_code
def yX2_init : MethodName := ⟨RX2, "<init>", "(I)V"⟩
abbrev cX2_countUsed : ByteArray := prog_4_method_2_code
def yX2_countUsed : MethodName := ⟨RX2, "countUsed", "()I"⟩
abbrev cX2_keyIn : ByteArray := prog_4_method_3_code
def yX2_keyIn : MethodName := ⟨RX2, "keyIn", "(I)I"⟩
abbrev cX2_hold : ByteArray := prog_4_method_4_code
def yX2_hold : MethodName := ⟨RX2, "hold", "(II)V"⟩
abbrev cX2_leave : ByteArray := prog_4_method_5_code
def yX2_leave : MethodName := ⟨RX2, "leave", "(I)V"⟩
abbrev cX2_merge : ByteArray := prog_4_method_6_code
def yX2_merge : MethodName := ⟨RX2, "merge", "(II)V"⟩
abbrev cX2_lowestFree : ByteArray := prog_4_method_7_code
def yX2_lowestFree : MethodName := ⟨RX2, "lowestFree", "()I"⟩
abbrev cX2_oldestBut : ByteArray := prog_4_method_8_code
def yX2_oldestBut : MethodName := ⟨RX2, "oldestBut", "(I)I"⟩
abbrev cX2_moveAll : ByteArray := prog_4_method_9_code
def yX2_moveAll : MethodName := ⟨RX2, "moveAll", "(II)V"⟩
def RX3 : String := "GuestHall$Machine"
def TX3 : u_T := fun k => match k with
  | 0 => ("GuestHall$Machine", "registers", "[I", true)
  | 1 => ("GuestHall$Machine", "views", "[I", true)
  | 2 => ("GuestHall$Machine", "words", "[I", true)
  | 3 => ("GuestHall$Machine", "next", "I", false)
  | 4 => ("GuestHall$Machine", "handler", "I", false)
  | 5 => ("GuestHall$Machine", "saved", "I", false)
  | 6 => ("GuestHall$Machine", "cause", "I", false)
  | 7 => ("GuestHall$Machine", "isMasked", "Z", false)
  | _ => ("GuestHall$Machine", "how", "I", false)
def tyX3 : Nat → FieldType := fun k => match k with
  | 0 => .array .int
  | 1 => .array .int
  | 2 => .array .int
  | 3 => .int
  | 4 => .int
  | 5 => .int
  | 6 => .int
  | 7 => .boolean
  | _ => .int
theorem nmX3 : ∀ a, a < 9 → ∀ b, b < 9 → a ≠ b → (TX3 a).2.1 ≠ (TX3 b).2.1 := by decide +kernel
theorem tyX3_ok : ∀ k, k < 9 → parseFieldDescriptor (TX3 k).2.2.1 = some (tyX3 k) := by decide +kernel
abbrev cX3_init : ByteArray := prog_5_method_1_code
def yX3_init : MethodName := ⟨RX3, "<init>", "()V"⟩
abbrev cX3_hasEnded : ByteArray := prog_5_method_2_code
def yX3_hasEnded : MethodName := ⟨RX3, "hasEnded", "()Z"⟩
abbrev cX3_doNext : ByteArray := prog_5_method_3_code
def yX3_doNext : MethodName := ⟨RX3, "doNext", "(LGuestHall$Program;LGuestHall$Surroundings;)V"⟩
abbrev cX3_change : ByteArray := prog_5_method_4_code
def yX3_change : MethodName := ⟨RX3, "change", "(IIILGuestHall$Surroundings;)V"⟩
abbrev cX3_clear : ByteArray := prog_5_method_5_code
def yX3_clear : MethodName := ⟨RX3, "clear", "(I)V"⟩
abbrev cX3_access : ByteArray := prog_5_method_6_code
def yX3_access : MethodName := ⟨RX3, "access", "(ZIILGuestHall$Surroundings;)V"⟩
abbrev cX3_wordAt : ByteArray := prog_5_method_7_code
def yX3_wordAt : MethodName := ⟨RX3, "wordAt", "(I)I"⟩
abbrev cX3_tellOrTake : ByteArray := prog_5_method_8_code
def yX3_tellOrTake : MethodName := ⟨RX3, "tellOrTake", "(ZIILGuestHall$Surroundings;)V"⟩
abbrev cX3_rest : ByteArray := prog_5_method_9_code
def yX3_rest : MethodName := ⟨RX3, "rest", "(ZLGuestHall$Surroundings;)V"⟩
abbrev cX3_fault : ByteArray := prog_5_method_10_code
def yX3_fault : MethodName := ⟨RX3, "fault", "()V"⟩
abbrev cX3_enterHandler : ByteArray := prog_5_method_11_code
def yX3_enterHandler : MethodName := ⟨RX3, "enterHandler", "(I)V"⟩
abbrev cX3_copyFrom : ByteArray := prog_5_method_12_code
def yX3_copyFrom : MethodName := ⟨RX3, "copyFrom", "(LGuestHall$Machine;)V"⟩
abbrev cX3_isAs : ByteArray := prog_5_method_13_code
def yX3_isAs : MethodName := ⟨RX3, "isAs", "(LGuestHall$Machine;)Z"⟩
def RX4 : String := "GuestHall$Numbers"
def TX4 : u_T := fun k => match k with
  | 0 => ("GuestHall$Numbers", "row", "[I", false)
  | _ => ("GuestHall$Numbers", "size", "I", false)
def tyX4 : Nat → FieldType := fun k => match k with
  | 0 => .array .int
  | _ => .int
theorem nmX4 : ∀ a, a < 2 → ∀ b, b < 2 → a ≠ b → (TX4 a).2.1 ≠ (TX4 b).2.1 := by decide +kernel
theorem tyX4_ok : ∀ k, k < 2 → parseFieldDescriptor (TX4 k).2.2.1 = some (tyX4 k) := by decide +kernel
abbrev cX4_init : ByteArray := prog_6_method_1_code
def yX4_init : MethodName := ⟨RX4, "<init>", "()V"⟩
abbrev cX4_add : ByteArray := prog_6_method_2_code
def yX4_add : MethodName := ⟨RX4, "add", "(I)V"⟩
abbrev cX4_addAll : ByteArray := prog_6_method_3_code
def yX4_addAll : MethodName := ⟨RX4, "addAll", "(LGuestHall$Numbers;)V"⟩
abbrev cX4_takeFirst : ByteArray := prog_6_method_4_code
def yX4_takeFirst : MethodName := ⟨RX4, "takeFirst", "()I"⟩
abbrev cX4_copyFrom : ByteArray := prog_6_method_5_code
def yX4_copyFrom : MethodName := ⟨RX4, "copyFrom", "(LGuestHall$Numbers;)V"⟩
def RX5 : String := "GuestHall$Program"
def TX5 : u_T := fun k => match k with
  | 0 => ("GuestHall$Program", "whats", "[I", true)
  | 1 => ("GuestHall$Program", "firsts", "[I", true)
  | 2 => ("GuestHall$Program", "seconds", "[I", true)
  | _ => ("GuestHall$Program", "size", "I", false)
def tyX5 : Nat → FieldType := fun k => match k with
  | 0 => .array .int
  | 1 => .array .int
  | 2 => .array .int
  | _ => .int
theorem nmX5 : ∀ a, a < 4 → ∀ b, b < 4 → a ≠ b → (TX5 a).2.1 ≠ (TX5 b).2.1 := by decide +kernel
theorem tyX5_ok : ∀ k, k < 4 → parseFieldDescriptor (TX5 k).2.2.1 = some (tyX5 k) := by decide +kernel
abbrev cX5_init : ByteArray := prog_7_method_1_code
def yX5_init : MethodName := ⟨RX5, "<init>", "()V"⟩
abbrev cX5_append : ByteArray := prog_7_method_2_code
def yX5_append : MethodName := ⟨RX5, "append", "(III)I"⟩
def RX6 : String := "GuestHall$Replay"
def TX6 : u_T := fun k => match k with
  | 0 => ("GuestHall$Replay", "machine", "LGuestHall$Machine;", true)
  | 1 => ("GuestHall$Replay", "record", "LGuestHall$State;", true)
  | 2 => ("GuestHall$Replay", "takenSoFar", "I", false)
  | 3 => ("GuestHall$Replay", "saidSoFar", "I", false)
  | _ => ("GuestHall$Replay", "isSame", "Z", false)
def tyX6 : Nat → FieldType := fun k => match k with
  | 0 => .object "GuestHall$Machine"
  | 1 => .object "GuestHall$State"
  | 2 => .int
  | 3 => .int
  | _ => .boolean
theorem nmX6 : ∀ a, a < 5 → ∀ b, b < 5 → a ≠ b → (TX6 a).2.1 ≠ (TX6 b).2.1 := by decide +kernel
theorem tyX6_ok : ∀ k, k < 5 → parseFieldDescriptor (TX6 k).2.2.1 = some (tyX6 k) := by decide +kernel
abbrev cX6_init : ByteArray := prog_8_method_1_code
def yX6_init : MethodName := ⟨RX6, "<init>", "(LGuestHall$State;)V"⟩
abbrev cX6_agrees : ByteArray := prog_8_method_2_code
def yX6_agrees : MethodName := ⟨RX6, "agrees", "(LGuestHall$Program;)Z"⟩
abbrev cX6_takeFrom : ByteArray := prog_8_method_3_code
def yX6_takeFrom : MethodName := ⟨RX6, "takeFrom", "(I)I"⟩
abbrev cX6_tell : ByteArray := prog_8_method_4_code
def yX6_tell : MethodName := ⟨RX6, "tell", "(II)V"⟩
abbrev cX6_isInterruptPending : ByteArray := prog_8_method_5_code
def yX6_isInterruptPending : MethodName := ⟨RX6, "isInterruptPending", "()Z"⟩
abbrev cX6_reach : ByteArray := prog_8_method_6_code
def yX6_reach : MethodName := ⟨RX6, "reach", "(IZ)V"⟩
abbrev cX6_giveBack : ByteArray := prog_8_method_7_code
def yX6_giveBack : MethodName := ⟨RX6, "giveBack", "(I)V"⟩
abbrev cX6_countExit : ByteArray := prog_8_method_8_code
def yX6_countExit : MethodName := ⟨RX6, "countExit", "(I)V"⟩
def RX7 : String := "GuestHall$Snapshot"
def TX7 : u_T := fun k => match k with
  | 0 => ("GuestHall$Snapshot", "owner", "LGuestHall$Guest;", true)
  | 1 => ("GuestHall$Snapshot", "state", "LGuestHall$State;", true)
  | _ => ("GuestHall$Snapshot", "storedPages", "I", true)
def tyX7 : Nat → FieldType := fun k => match k with
  | 0 => .object "GuestHall$Guest"
  | 1 => .object "GuestHall$State"
  | _ => .int
theorem nmX7 : ∀ a, a < 3 → ∀ b, b < 3 → a ≠ b → (TX7 a).2.1 ≠ (TX7 b).2.1 := by decide +kernel
theorem tyX7_ok : ∀ k, k < 3 → parseFieldDescriptor (TX7 k).2.2.1 = some (tyX7 k) := by decide +kernel
abbrev cX7_init : ByteArray := prog_9_method_1_code
def yX7_init : MethodName := ⟨RX7, "<init>", "(LGuestHall$Guest;)V"⟩
def RX8 : String := "GuestHall$State"
def TX8 : u_T := fun k => match k with
  | 0 => ("GuestHall$State", "machine", "LGuestHall$Machine;", true)
  | 1 => ("GuestHall$State", "inputs", "LGuestHall$Numbers;", true)
  | 2 => ("GuestHall$State", "taken", "LGuestHall$Numbers;", true)
  | 3 => ("GuestHall$State", "said", "LGuestHall$Numbers;", true)
  | 4 => ("GuestHall$State", "interrupts", "LGuestHall$Numbers;", true)
  | 5 => ("GuestHall$State", "steps", "I", false)
  | 6 => ("GuestHall$State", "timer", "I", false)
  | 7 => ("GuestHall$State", "isTimerPending", "Z", false)
  | 8 => ("GuestHall$State", "isSentPending", "Z", false)
  | _ => ("GuestHall$State", "clock", "I", false)
def tyX8 : Nat → FieldType := fun k => match k with
  | 0 => .object "GuestHall$Machine"
  | 1 => .object "GuestHall$Numbers"
  | 2 => .object "GuestHall$Numbers"
  | 3 => .object "GuestHall$Numbers"
  | 4 => .object "GuestHall$Numbers"
  | 5 => .int
  | 6 => .int
  | 7 => .boolean
  | 8 => .boolean
  | _ => .int
theorem nmX8 : ∀ a, a < 10 → ∀ b, b < 10 → a ≠ b → (TX8 a).2.1 ≠ (TX8 b).2.1 := by decide +kernel
theorem tyX8_ok : ∀ k, k < 10 → parseFieldDescriptor (TX8 k).2.2.1 = some (tyX8 k) := by decide +kernel
abbrev cX8_init : ByteArray := prog_10_method_1_code
def yX8_init : MethodName := ⟨RX8, "<init>", "()V"⟩
abbrev cX8_isInterruptPending : ByteArray := prog_10_method_2_code
def yX8_isInterruptPending : MethodName := ⟨RX8, "isInterruptPending", "()Z"⟩
abbrev cX8_rouse : ByteArray := prog_10_method_3_code
def yX8_rouse : MethodName := ⟨RX8, "rouse", "()V"⟩
abbrev cX8_countTimerDown : ByteArray := prog_10_method_4_code
def yX8_countTimerDown : MethodName := ⟨RX8, "countTimerDown", "()V"⟩
abbrev cX8_letInterruptIn : ByteArray := prog_10_method_5_code
def yX8_letInterruptIn : MethodName := ⟨RX8, "letInterruptIn", "()Z"⟩
abbrev cX8_copyFrom : ByteArray := prog_10_method_6_code
def yX8_copyFrom : MethodName := ⟨RX8, "copyFrom", "(LGuestHall$State;)V"⟩
abbrev cX8_countPagesUnlike : ByteArray := prog_10_method_7_code
def yX8_countPagesUnlike : MethodName := ⟨RX8, "countPagesUnlike", "(LGuestHall$State;)I"⟩
abbrev cX8_isZero : ByteArray := prog_10_method_8_code
def yX8_isZero : MethodName := ⟨RX8, "isZero", "(I)Z"⟩
def RX9 : String := "GuestHall$Surroundings"
def TX9 : u_T := fun k => match k with
  | _ => ("", "", "", false)
def tyX9 : Nat → FieldType := fun k => match k with
  | _ => .int
theorem nmX9 : ∀ a, a < 0 → ∀ b, b < 0 → a ≠ b → (TX9 a).2.1 ≠ (TX9 b).2.1 := by decide +kernel
theorem tyX9_ok : ∀ k, k < 0 → parseFieldDescriptor (TX9 k).2.2.1 = some (tyX9 k) := by decide +kernel
abbrev cX9_init : ByteArray := prog_11_method_1_code
def yX9_init : MethodName := ⟨RX9, "<init>", "()V"⟩
def RX10 : String := "GuestHall"
def TX10 : u_T := fun k => match k with
  | 0 => ("GuestHall", "guests", "Ljava/util/ArrayList;", true)
  | 1 => ("GuestHall", "snapshots", "Ljava/util/ArrayList;", true)
  | 2 => ("GuestHall", "hosts", "[LGuestHall$Host;", true)
  | _ => ("GuestHall", "time", "I", false)
def tyX10 : Nat → FieldType := fun k => match k with
  | 0 => .object "java/util/ArrayList"
  | 1 => .object "java/util/ArrayList"
  | 2 => .array (.object "GuestHall$Host")
  | _ => .int
theorem nmX10 : ∀ a, a < 4 → ∀ b, b < 4 → a ≠ b → (TX10 a).2.1 ≠ (TX10 b).2.1 := by decide +kernel
theorem tyX10_ok : ∀ k, k < 4 → parseFieldDescriptor (TX10 k).2.2.1 = some (tyX10 k) := by decide +kernel
abbrev cX10_init : ByteArray := prog_1_method_1_code
def yX10_init : MethodName := ⟨RX10, "<init>", "()V"⟩
abbrev cX10_guest : ByteArray := prog_1_method_2_code
def yX10_guest : MethodName := ⟨RX10, "guest", "(IIZ)I"⟩
abbrev cX10_instruct : ByteArray := prog_1_method_3_code
def yX10_instruct : MethodName := ⟨RX10, "instruct", "(IIII)I"⟩
abbrev cX10_pause : ByteArray := prog_1_method_4_code
def yX10_pause : MethodName := ⟨RX10, "pause", "(IZ)Z"⟩
abbrev cX10_scale : ByteArray := prog_1_method_5_code
def yX10_scale : MethodName := ⟨RX10, "scale", "(II)I"⟩
abbrev cX10_input : ByteArray := prog_1_method_6_code
def yX10_input : MethodName := ⟨RX10, "input", "(II)I"⟩
abbrev cX10_send : ByteArray := prog_1_method_7_code
def yX10_send : MethodName := ⟨RX10, "send", "(I)Z"⟩
abbrev cX10_tick : ByteArray := prog_1_method_8_code
def yX10_tick : MethodName := ⟨RX10, "tick", "(I)I"⟩
abbrev cX10_share : ByteArray := prog_1_method_9_code
def yX10_share : MethodName := ⟨RX10, "share", "(I)I"⟩
abbrev cX10_move : ByteArray := prog_1_method_10_code
def yX10_move : MethodName := ⟨RX10, "move", "(I)I"⟩
abbrev cX10_round : ByteArray := prog_1_method_11_code
def yX10_round : MethodName := ⟨RX10, "round", "(II)I"⟩
abbrev cX10_land : ByteArray := prog_1_method_12_code
def yX10_land : MethodName := ⟨RX10, "land", "(IZ)I"⟩
abbrev cX10_snapshot : ByteArray := prog_1_method_13_code
def yX10_snapshot : MethodName := ⟨RX10, "snapshot", "(I)I"⟩
abbrev cX10_restore : ByteArray := prog_1_method_14_code
def yX10_restore : MethodName := ⟨RX10, "restore", "(II)I"⟩
abbrev cX10_follow : ByteArray := prog_1_method_15_code
def yX10_follow : MethodName := ⟨RX10, "follow", "(IZ)Z"⟩
abbrev cX10_step : ByteArray := prog_1_method_16_code
def yX10_step : MethodName := ⟨RX10, "step", "(I)I"⟩
abbrev cX10_fail : ByteArray := prog_1_method_17_code
def yX10_fail : MethodName := ⟨RX10, "fail", "(I)I"⟩
abbrev cX10_mend : ByteArray := prog_1_method_18_code
def yX10_mend : MethodName := ⟨RX10, "mend", "(I)V"⟩
abbrev cX10_time : ByteArray := prog_1_method_19_code
def yX10_time : MethodName := ⟨RX10, "time", "()I"⟩
abbrev cX10_of : ByteArray := prog_1_method_20_code
def yX10_of : MethodName := ⟨RX10, "of", "(II)I"⟩
abbrev cX10_register : ByteArray := prog_1_method_21_code
def yX10_register : MethodName := ⟨RX10, "register", "(II)I"⟩
abbrev cX10_word : ByteArray := prog_1_method_22_code
def yX10_word : MethodName := ⟨RX10, "word", "(III)I"⟩
abbrev cX10_pageOf : ByteArray := prog_1_method_23_code
def yX10_pageOf : MethodName := ⟨RX10, "pageOf", "(II)I"⟩
abbrev cX10_frameOf : ByteArray := prog_1_method_24_code
def yX10_frameOf : MethodName := ⟨RX10, "frameOf", "(II)I"⟩
abbrev cX10_used : ByteArray := prog_1_method_25_code
def yX10_used : MethodName := ⟨RX10, "used", "(I)I"⟩
abbrev cX10_exits : ByteArray := prog_1_method_26_code
def yX10_exits : MethodName := ⟨RX10, "exits", "(II)I"⟩
abbrev cX10_out : ByteArray := prog_1_method_27_code
def yX10_out : MethodName := ⟨RX10, "out", "(I)I"⟩
abbrev cX10_outAt : ByteArray := prog_1_method_28_code
def yX10_outAt : MethodName := ⟨RX10, "outAt", "(II)I"⟩
abbrev cX10_held : ByteArray := prog_1_method_29_code
def yX10_held : MethodName := ⟨RX10, "held", "(I)I"⟩
abbrev cX10_stored : ByteArray := prog_1_method_30_code
def yX10_stored : MethodName := ⟨RX10, "stored", "(I)I"⟩
abbrev cX10_isAsPlain : ByteArray := prog_1_method_31_code
def yX10_isAsPlain : MethodName := ⟨RX10, "isAsPlain", "(I)Z"⟩
abbrev cX10_guestAt : ByteArray := prog_1_method_32_code
def yX10_guestAt : MethodName := ⟨RX10, "guestAt", "(I)LGuestHall$Guest;"⟩
abbrev cX10_hostAt : ByteArray := prog_1_method_33_code
def yX10_hostAt : MethodName := ⟨RX10, "hostAt", "(I)LGuestHall$Host;"⟩
abbrev cX10_snapshotAt : ByteArray := prog_1_method_34_code
def yX10_snapshotAt : MethodName := ⟨RX10, "snapshotAt", "(I)LGuestHall$Snapshot;"⟩
abbrev cX10_checkPlace : ByteArray := prog_1_method_35_code
def yX10_checkPlace : MethodName := ⟨RX10, "checkPlace", "(II)V"⟩
abbrev cX10_isOneOf : ByteArray := prog_1_method_36_code
def yX10_isOneOf : MethodName := ⟨RX10, "isOneOf", "(II)Z"⟩
abbrev cX10_otherOf : ByteArray := prog_1_method_37_code
def yX10_otherOf : MethodName := ⟨RX10, "otherOf", "(LGuestHall$Host;)LGuestHall$Host;"⟩
abbrev cX10_countTimersDown : ByteArray := prog_1_method_38_code
def yX10_countTimersDown : MethodName := ⟨RX10, "countTimersDown", "()V"⟩
abbrev cX10_endTick : ByteArray := prog_1_method_39_code
def yX10_endTick : MethodName := ⟨RX10, "endTick", "()V"⟩
abbrev cX10_giveTurn : ByteArray := prog_1_method_40_code
def yX10_giveTurn : MethodName := ⟨RX10, "giveTurn", "(LGuestHall$Host;)V"⟩
abbrev cX10_chooseFor : ByteArray := prog_1_method_41_code
def yX10_chooseFor : MethodName := ⟨RX10, "chooseFor", "(LGuestHall$Host;)LGuestHall$Guest;"⟩
abbrev cX10_areAlike : ByteArray := prog_1_method_42_code
def yX10_areAlike : MethodName := ⟨RX10, "areAlike", "(II)Z"⟩
abbrev cX10_arePagesAlike : ByteArray := prog_1_method_43_code
def yX10_arePagesAlike : MethodName := ⟨RX10, "arePagesAlike", "([II[II)Z"⟩
abbrev cX10_areRowsAlike : ByteArray := prog_1_method_44_code
def yX10_areRowsAlike : MethodName := ⟨RX10, "areRowsAlike", "([I[I)Z"⟩
def RX11 : String := "GuestHallModel"
def TX11 : u_T := fun k => match k with
  | _ => ("", "", "", false)
def tyX11 : Nat → FieldType := fun k => match k with
  | _ => .int
theorem nmX11 : ∀ a, a < 0 → ∀ b, b < 0 → a ≠ b → (TX11 a).2.1 ≠ (TX11 b).2.1 := by decide +kernel
theorem tyX11_ok : ∀ k, k < 0 → parseFieldDescriptor (TX11 k).2.2.1 = some (tyX11 k) := by decide +kernel
def RJx145de : String := "java/io/Serializable"
def TJx145de : u_T := fun k => match k with
  | _ => ("", "", "", false)
def tyJx145de : Nat → FieldType := fun k => match k with
  | _ => .int
theorem nmJx145de : ∀ a, a < 0 → ∀ b, b < 0 → a ≠ b → (TJx145de a).2.1 ≠ (TJx145de b).2.1 := by decide +kernel
theorem tyJx145de_ok : ∀ k, k < 0 → parseFieldDescriptor (TJx145de k).2.2.1 = some (tyJx145de k) := by decide +kernel
def RJx8e188 : String := "java/lang/Cloneable"
def TJx8e188 : u_T := fun k => match k with
  | _ => ("", "", "", false)
def tyJx8e188 : Nat → FieldType := fun k => match k with
  | _ => .int
theorem nmJx8e188 : ∀ a, a < 0 → ∀ b, b < 0 → a ≠ b → (TJx8e188 a).2.1 ≠ (TJx8e188 b).2.1 := by decide +kernel
theorem tyJx8e188_ok : ∀ k, k < 0 → parseFieldDescriptor (TJx8e188 k).2.2.1 = some (tyJx8e188 k) := by decide +kernel
def RJ6 : String := "java/lang/Integer"
def TJ6 : u_T := fun k => match k with
  | _ => ("", "", "", false)
def tyJ6 : Nat → FieldType := fun k => match k with
  | _ => .int
theorem nmJ6 : ∀ a, a < 0 → ∀ b, b < 0 → a ≠ b → (TJ6 a).2.1 ≠ (TJ6 b).2.1 := by decide +kernel
theorem tyJ6_ok : ∀ k, k < 0 → parseFieldDescriptor (TJ6 k).2.2.1 = some (tyJ6 k) := by decide +kernel
abbrev cJ6_bitCount_0f7a4 : ByteArray := prog_20_method_49_code
def yJ6_bitCount_0f7a4 : MethodName := ⟨RJ6, "bitCount", "(I)I"⟩
def RJxab1ab : String := "java/lang/Iterable"
def TJxab1ab : u_T := fun k => match k with
  | _ => ("", "", "", false)
def tyJxab1ab : Nat → FieldType := fun k => match k with
  | _ => .int
theorem nmJxab1ab : ∀ a, a < 0 → ∀ b, b < 0 → a ≠ b → (TJxab1ab a).2.1 ≠ (TJxab1ab b).2.1 := by decide +kernel
theorem tyJxab1ab_ok : ∀ k, k < 0 → parseFieldDescriptor (TJxab1ab k).2.2.1 = some (tyJxab1ab k) := by decide +kernel
def RJ9 : String := "java/lang/Math"
def TJ9 : u_T := fun k => match k with
  | _ => ("", "", "", false)
def tyJ9 : Nat → FieldType := fun k => match k with
  | _ => .int
theorem nmJ9 : ∀ a, a < 0 → ∀ b, b < 0 → a ≠ b → (TJ9 a).2.1 ≠ (TJ9 b).2.1 := by decide +kernel
theorem tyJ9_ok : ∀ k, k < 0 → parseFieldDescriptor (TJ9 k).2.2.1 = some (tyJ9 k) := by decide +kernel
abbrev cJ9_max_7cf53 : ByteArray := prog_22_method_65_code
def yJ9_max_7cf53 : MethodName := ⟨RJ9, "max", "(II)I"⟩
abbrev cJ9_min_7cf53 : ByteArray := prog_22_method_69_code
def yJ9_min_7cf53 : MethodName := ⟨RJ9, "min", "(II)I"⟩
def RJ0 : String := "java/lang/String"
def TJ0 : u_T := fun k => match k with
  | _ => ("", "", "", false)
def tyJ0 : Nat → FieldType := fun k => match k with
  | _ => .int
theorem nmJ0 : ∀ a, a < 0 → ∀ b, b < 0 → a ≠ b → (TJ0 a).2.1 ≠ (TJ0 b).2.1 := by decide +kernel
theorem tyJ0_ok : ∀ k, k < 0 → parseFieldDescriptor (TJ0 k).2.2.1 = some (tyJ0 k) := by decide +kernel
def RJ10 : String := "java/lang/System"
def TJ10 : u_T := fun k => match k with
  | _ => ("", "", "", false)
def tyJ10 : Nat → FieldType := fun k => match k with
  | _ => .int
theorem nmJ10 : ∀ a, a < 0 → ∀ b, b < 0 → a ≠ b → (TJ10 a).2.1 ≠ (TJ10 b).2.1 := by decide +kernel
theorem tyJ10_ok : ∀ k, k < 0 → parseFieldDescriptor (TJ10 k).2.2.1 = some (tyJ10 k) := by decide +kernel
def RJxa1e45 : String := "java/util/AbstractCollection"
def TJxa1e45 : u_T := fun k => match k with
  | _ => ("", "", "", false)
def tyJxa1e45 : Nat → FieldType := fun k => match k with
  | _ => .int
theorem nmJxa1e45 : ∀ a, a < 0 → ∀ b, b < 0 → a ≠ b → (TJxa1e45 a).2.1 ≠ (TJxa1e45 b).2.1 := by decide +kernel
theorem tyJxa1e45_ok : ∀ k, k < 0 → parseFieldDescriptor (TJxa1e45 k).2.2.1 = some (tyJxa1e45 k) := by decide +kernel
abbrev cJxa1e45_init_da8c8 : ByteArray := prog_27_method_1_code
def yJxa1e45_init_da8c8 : MethodName := ⟨RJxa1e45, "<init>", "()V"⟩
def RJxc12de : String := "java/util/AbstractList"
def TJxc12de : u_T := fun k => match k with
  | _ => ("", "", "", false)
def tyJxc12de : Nat → FieldType := fun k => match k with
  | _ => .int
theorem nmJxc12de : ∀ a, a < 0 → ∀ b, b < 0 → a ≠ b → (TJxc12de a).2.1 ≠ (TJxc12de b).2.1 := by decide +kernel
theorem tyJxc12de_ok : ∀ k, k < 0 → parseFieldDescriptor (TJxc12de k).2.2.1 = some (tyJxc12de k) := by decide +kernel
abbrev cJxc12de_init_da8c8 : ByteArray := prog_28_method_1_code
def yJxc12de_init_da8c8 : MethodName := ⟨RJxc12de, "<init>", "()V"⟩
def RJx4a65c : String := "java/util/ArrayList"
def TJx4a65c : u_T := fun k => match k with
  | 0 => ("java/util/AbstractList", "modCount", "I", false)
  | 1 => ("java/util/ArrayList", "elementData", "[Ljava/lang/Object;", false)
  | _ => ("java/util/ArrayList", "size", "I", false)
def tyJx4a65c : Nat → FieldType := fun k => match k with
  | 0 => .int
  | 1 => .array (.object "java/lang/Object")
  | _ => .int
theorem nmJx4a65c : ∀ a, a < 3 → ∀ b, b < 3 → a ≠ b → (TJx4a65c a).2.1 ≠ (TJx4a65c b).2.1 := by decide +kernel
theorem tyJx4a65c_ok : ∀ k, k < 3 → parseFieldDescriptor (TJx4a65c k).2.2.1 = some (tyJx4a65c k) := by decide +kernel
abbrev cJx4a65c_init_da8c8 : ByteArray := prog_29_method_2_code
def yJx4a65c_init_da8c8 : MethodName := ⟨RJx4a65c, "<init>", "()V"⟩
abbrev cJx4a65c_grow_92f84 : ByteArray := prog_29_method_6_code
def yJx4a65c_grow_92f84 : MethodName := ⟨RJx4a65c, "grow", "(I)[Ljava/lang/Object;"⟩
abbrev cJx4a65c_grow_d5877 : ByteArray := prog_29_method_7_code
def yJx4a65c_grow_d5877 : MethodName := ⟨RJx4a65c, "grow", "()[Ljava/lang/Object;"⟩
abbrev cJx4a65c_size_8abf5 : ByteArray := prog_29_method_8_code
def yJx4a65c_size_8abf5 : MethodName := ⟨RJx4a65c, "size", "()I"⟩
abbrev cJx4a65c_elementData_915e3 : ByteArray := prog_29_method_18_code
def yJx4a65c_elementData_915e3 : MethodName := ⟨RJx4a65c, "elementData", "(I)Ljava/lang/Object;"⟩
abbrev cJx4a65c_get_915e3 : ByteArray := prog_29_method_20_code
def yJx4a65c_get_915e3 : MethodName := ⟨RJx4a65c, "get", "(I)Ljava/lang/Object;"⟩
abbrev cJx4a65c_add_72be8 : ByteArray := prog_29_method_24_code
def yJx4a65c_add_72be8 : MethodName := ⟨RJx4a65c, "add", "(Ljava/lang/Object;[Ljava/lang/Object;I)V"⟩
abbrev cJx4a65c_add_9ea2d : ByteArray := prog_29_method_25_code
def yJx4a65c_add_9ea2d : MethodName := ⟨RJx4a65c, "add", "(Ljava/lang/Object;)Z"⟩
def RJ7 : String := "java/util/Arrays"
def TJ7 : u_T := fun k => match k with
  | _ => ("", "", "", false)
def tyJ7 : Nat → FieldType := fun k => match k with
  | _ => .int
theorem nmJ7 : ∀ a, a < 0 → ∀ b, b < 0 → a ≠ b → (TJ7 a).2.1 ≠ (TJ7 b).2.1 := by decide +kernel
theorem tyJ7_ok : ∀ k, k < 0 → parseFieldDescriptor (TJ7 k).2.2.1 = some (tyJ7 k) := by decide +kernel
abbrev cJ7_fill_53178 : ByteArray := prog_30_method_103_code
def yJ7_fill_53178 : MethodName := ⟨RJ7, "fill", "([II)V"⟩
abbrev cJ7_copyOf_1904c : ByteArray := prog_30_method_119_code
def yJ7_copyOf_1904c : MethodName := ⟨RJ7, "copyOf", "([Ljava/lang/Object;I)[Ljava/lang/Object;"⟩
abbrev cJ7_copyOf_6403c : ByteArray := prog_30_method_120_code
def yJ7_copyOf_6403c : MethodName := ⟨RJ7, "copyOf", "([Ljava/lang/Object;ILjava/lang/Class;)[Ljava/lang/Object;"⟩
abbrev cJ7_copyOf_59c91 : ByteArray := prog_30_method_123_code
def yJ7_copyOf_59c91 : MethodName := ⟨RJ7, "copyOf", "([II)[I"⟩
def RJx5ef63 : String := "java/util/Collection"
def TJx5ef63 : u_T := fun k => match k with
  | _ => ("", "", "", false)
def tyJx5ef63 : Nat → FieldType := fun k => match k with
  | _ => .int
theorem nmJx5ef63 : ∀ a, a < 0 → ∀ b, b < 0 → a ≠ b → (TJx5ef63 a).2.1 ≠ (TJx5ef63 b).2.1 := by decide +kernel
theorem tyJx5ef63_ok : ∀ k, k < 0 → parseFieldDescriptor (TJx5ef63 k).2.2.1 = some (tyJx5ef63 k) := by decide +kernel
def RJxbd725 : String := "java/util/List"
def TJxbd725 : u_T := fun k => match k with
  | _ => ("", "", "", false)
def tyJxbd725 : Nat → FieldType := fun k => match k with
  | _ => .int
theorem nmJxbd725 : ∀ a, a < 0 → ∀ b, b < 0 → a ≠ b → (TJxbd725 a).2.1 ≠ (TJxbd725 b).2.1 := by decide +kernel
theorem tyJxbd725_ok : ∀ k, k < 0 → parseFieldDescriptor (TJxbd725 k).2.2.1 = some (tyJxbd725 k) := by decide +kernel
def RJ15 : String := "java/util/Objects"
def TJ15 : u_T := fun k => match k with
  | _ => ("", "", "", false)
def tyJ15 : Nat → FieldType := fun k => match k with
  | _ => .int
theorem nmJ15 : ∀ a, a < 0 → ∀ b, b < 0 → a ≠ b → (TJ15 a).2.1 ≠ (TJ15 b).2.1 := by decide +kernel
theorem tyJ15_ok : ∀ k, k < 0 → parseFieldDescriptor (TJ15 k).2.2.1 = some (tyJ15 k) := by decide +kernel
abbrev cJ15_checkIndex_7cf53 : ByteArray := prog_33_method_17_code
def yJ15_checkIndex_7cf53 : MethodName := ⟨RJ15, "checkIndex", "(II)I"⟩
def RJxf0a74 : String := "java/util/RandomAccess"
def TJxf0a74 : u_T := fun k => match k with
  | _ => ("", "", "", false)
def tyJxf0a74 : Nat → FieldType := fun k => match k with
  | _ => .int
theorem nmJxf0a74 : ∀ a, a < 0 → ∀ b, b < 0 → a ≠ b → (TJxf0a74 a).2.1 ≠ (TJxf0a74 b).2.1 := by decide +kernel
theorem tyJxf0a74_ok : ∀ k, k < 0 → parseFieldDescriptor (TJxf0a74 k).2.2.1 = some (tyJxf0a74 k) := by decide +kernel
def RJxa66e6 : String := "java/util/SequencedCollection"
def TJxa66e6 : u_T := fun k => match k with
  | _ => ("", "", "", false)
def tyJxa66e6 : Nat → FieldType := fun k => match k with
  | _ => .int
theorem nmJxa66e6 : ∀ a, a < 0 → ∀ b, b < 0 → a ≠ b → (TJxa66e6 a).2.1 ≠ (TJxa66e6 b).2.1 := by decide +kernel
theorem tyJxa66e6_ok : ∀ k, k < 0 → parseFieldDescriptor (TJxa66e6 k).2.2.1 = some (tyJxa66e6 k) := by decide +kernel
def RJ8 : String := "jdk/internal/util/ArraysSupport"
def TJ8 : u_T := fun k => match k with
  | _ => ("", "", "", false)
def tyJ8 : Nat → FieldType := fun k => match k with
  | _ => .int
theorem nmJ8 : ∀ a, a < 0 → ∀ b, b < 0 → a ≠ b → (TJ8 a).2.1 ≠ (TJ8 b).2.1 := by decide +kernel
theorem tyJ8_ok : ∀ k, k < 0 → parseFieldDescriptor (TJ8 k).2.2.1 = some (tyJ8 k) := by decide +kernel
abbrev cJ8_newLength_cabcc : ByteArray := prog_36_method_27_code
def yJ8_newLength_cabcc : MethodName := ⟨RJ8, "newLength", "(III)I"⟩
abbrev cJ8_hugeLength_7cf53 : ByteArray := prog_36_method_28_code
def yJ8_hugeLength_7cf53 : MethodName := ⟨RJ8, "hugeLength", "(II)I"⟩
def RJ3 : String := "jdk/internal/util/Preconditions"
def TJ3 : u_T := fun k => match k with
  | _ => ("", "", "", false)
def tyJ3 : Nat → FieldType := fun k => match k with
  | _ => .int
theorem nmJ3 : ∀ a, a < 0 → ∀ b, b < 0 → a ≠ b → (TJ3 a).2.1 ≠ (TJ3 b).2.1 := by decide +kernel
theorem tyJ3_ok : ∀ k, k < 0 → parseFieldDescriptor (TJ3 k).2.2.1 = some (tyJ3 k) := by decide +kernel
abbrev cJ3_checkIndex_8e157 : ByteArray := prog_37_method_11_code
def yJ3_checkIndex_8e157 : MethodName := ⟨RJ3, "checkIndex", "(IILjava/util/function/BiFunction;)I"⟩
def RL : String := "GuestHallLaw"
abbrev cL_guest : ByteArray := method_2_code
def yL_guest : MethodName := ⟨RL, "guest", "(LGuestHall;IIZ)I"⟩
abbrev cL_op : ByteArray := method_3_code
def yL_op : MethodName := ⟨RL, "op", "(LGuestHall;IIII)I"⟩
abbrev cL_pause : ByteArray := method_4_code
def yL_pause : MethodName := ⟨RL, "pause", "(LGuestHall;IZ)I"⟩
abbrev cL_scale : ByteArray := method_5_code
def yL_scale : MethodName := ⟨RL, "scale", "(LGuestHall;II)I"⟩
abbrev cL_input : ByteArray := method_6_code
def yL_input : MethodName := ⟨RL, "input", "(LGuestHall;II)I"⟩
abbrev cL_send : ByteArray := method_7_code
def yL_send : MethodName := ⟨RL, "send", "(LGuestHall;I)I"⟩
abbrev cL_tick : ByteArray := method_8_code
def yL_tick : MethodName := ⟨RL, "tick", "(LGuestHall;I)I"⟩
abbrev cL_share : ByteArray := method_9_code
def yL_share : MethodName := ⟨RL, "share", "(LGuestHall;I)I"⟩
abbrev cL_move : ByteArray := method_10_code
def yL_move : MethodName := ⟨RL, "move", "(LGuestHall;I)I"⟩
abbrev cL_round : ByteArray := method_11_code
def yL_round : MethodName := ⟨RL, "round", "(LGuestHall;II)I"⟩
abbrev cL_land : ByteArray := method_12_code
def yL_land : MethodName := ⟨RL, "land", "(LGuestHall;IZ)I"⟩
abbrev cL_snapshot : ByteArray := method_13_code
def yL_snapshot : MethodName := ⟨RL, "snapshot", "(LGuestHall;I)I"⟩
abbrev cL_restore : ByteArray := method_14_code
def yL_restore : MethodName := ⟨RL, "restore", "(LGuestHall;II)I"⟩
abbrev cL_follow : ByteArray := method_15_code
def yL_follow : MethodName := ⟨RL, "follow", "(LGuestHall;IZ)I"⟩
abbrev cL_step : ByteArray := method_16_code
def yL_step : MethodName := ⟨RL, "step", "(LGuestHall;I)I"⟩
abbrev cL_fail : ByteArray := method_17_code
def yL_fail : MethodName := ⟨RL, "fail", "(LGuestHall;I)I"⟩
abbrev cL_mend : ByteArray := method_18_code
def yL_mend : MethodName := ⟨RL, "mend", "(LGuestHall;I)I"⟩
abbrev cL_of : ByteArray := method_19_code
def yL_of : MethodName := ⟨RL, "of", "(LGuestHall;II)I"⟩
abbrev cL_register : ByteArray := method_20_code
def yL_register : MethodName := ⟨RL, "register", "(LGuestHall;II)I"⟩
abbrev cL_word : ByteArray := method_21_code
def yL_word : MethodName := ⟨RL, "word", "(LGuestHall;III)I"⟩
abbrev cL_pageOf : ByteArray := method_22_code
def yL_pageOf : MethodName := ⟨RL, "pageOf", "(LGuestHall;II)I"⟩
abbrev cL_frameOf : ByteArray := method_23_code
def yL_frameOf : MethodName := ⟨RL, "frameOf", "(LGuestHall;II)I"⟩
abbrev cL_used : ByteArray := method_24_code
def yL_used : MethodName := ⟨RL, "used", "(LGuestHall;I)I"⟩
abbrev cL_exits : ByteArray := method_25_code
def yL_exits : MethodName := ⟨RL, "exits", "(LGuestHall;II)I"⟩
abbrev cL_out : ByteArray := method_26_code
def yL_out : MethodName := ⟨RL, "out", "(LGuestHall;I)I"⟩
abbrev cL_outAt : ByteArray := method_27_code
def yL_outAt : MethodName := ⟨RL, "outAt", "(LGuestHall;II)I"⟩
abbrev cL_held : ByteArray := method_28_code
def yL_held : MethodName := ⟨RL, "held", "(LGuestHall;I)I"⟩
abbrev cL_stored : ByteArray := method_29_code
def yL_stored : MethodName := ⟨RL, "stored", "(LGuestHall;I)I"⟩
abbrev cL_plain : ByteArray := method_30_code
def yL_plain : MethodName := ⟨RL, "plain", "(LGuestHall;I)I"⟩
abbrev cL_drawn : ByteArray := method_31_code
def yL_drawn : MethodName := ⟨RL, "drawn", "([II)I"⟩
abbrev cL_refuses : ByteArray := method_32_code
def yL_refuses : MethodName := ⟨RL, "refuses", "(LGuestHall;[II)Z"⟩
abbrev cL_opBy : ByteArray := method_33_code
def yL_opBy : MethodName := ⟨RL, "opBy", "(LGuestHall;II)I"⟩
abbrev cL_act : ByteArray := method_34_code
def yL_act : MethodName := ⟨RL, "act", "(LGuestHall;I)I"⟩
abbrev cL_isAlike : ByteArray := method_35_code
def yL_isAlike : MethodName := ⟨RL, "isAlike", "(LGuestHall;LGuestHall;I)Z"⟩
abbrev cL_isWhole : ByteArray := method_36_code
def yL_isWhole : MethodName := ⟨RL, "isWhole", "(LGuestHall;[II)Z"⟩
abbrev cL_law : ByteArray := code
def yL_law : MethodName := ⟨RL, "law", "([I)Z"⟩
