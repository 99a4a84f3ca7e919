def RX0 : String := "HelpDesk$Calendar"
def TX0 : u_T := fun k => match k with
  | 0 => ("HelpDesk$Calendar", "opening", "[I", true)
  | _ => ("HelpDesk$Calendar", "closing", "[I", true)
def tyX0 : Nat → FieldType := fun k => match k with
  | 0 => .array .int
  | _ => .array .int
abbrev wsX00 : List Cond := u_ws RX0 TX0 2
theorem nmX0 : ∀ a, a < 2 → ∀ b, b < 2 → a ≠ b → (TX0 a).2.1 ≠ (TX0 b).2.1 := by decide +kernel
theorem tyX0_ok : ∀ k, k < 2 → parseFieldDescriptor (TX0 k).2.2.1 = some (tyX0 k) := by decide +kernel
abbrev cX0_init : ByteArray := prog_2_method_1_code
def yX0_init : MethodName := ⟨RX0, "<init>", "()V"⟩
abbrev cX0_begin : ByteArray := prog_2_method_2_code
def yX0_begin : MethodName := ⟨RX0, "begin", "()V"⟩
abbrev cX0_setHours : ByteArray := prog_2_method_3_code
def yX0_setHours : MethodName := ⟨RX0, "setHours", "(III)V"⟩
abbrev cX0_opensAt : ByteArray := prog_2_method_4_code
def yX0_opensAt : MethodName := ⟨RX0, "opensAt", "(I)Z"⟩
abbrev cX0_openBetween : ByteArray := prog_2_method_5_code
def yX0_openBetween : MethodName := ⟨RX0, "openBetween", "(II)I"⟩
abbrev cX0_alikeUntil : ByteArray := prog_2_method_6_code
def yX0_alikeUntil : MethodName := ⟨RX0, "alikeUntil", "(I)I"⟩
abbrev cX0_copyFrom : ByteArray := prog_2_method_7_code
def yX0_copyFrom : MethodName := ⟨RX0, "copyFrom", "(LHelpDesk$Calendar;)V"⟩
def RX1 : String := "HelpDesk$Desk"
def TX1 : u_T := fun k => match k with
  | 0 => ("HelpDesk$Desk", "calendar", "LHelpDesk$Calendar;", true)
  | 1 => ("HelpDesk$Desk", "kinds", "LHelpDesk$Kinds;", true)
  | 2 => ("HelpDesk$Desk", "agents", "[I", true)
  | 3 => ("HelpDesk$Desk", "tickets", "LHelpDesk$Tickets;", true)
  | 4 => ("HelpDesk$Desk", "log", "LHelpDesk$Log;", true)
  | _ => ("HelpDesk$Desk", "time", "I", false)
def tyX1 : Nat → FieldType := fun k => match k with
  | 0 => .object "HelpDesk$Calendar"
  | 1 => .object "HelpDesk$Kinds"
  | 2 => .array .int
  | 3 => .object "HelpDesk$Tickets"
  | 4 => .object "HelpDesk$Log"
  | _ => .int
abbrev wsX10 : List Cond := u_ws RX1 TX1 6
theorem nmX1 : ∀ a, a < 6 → ∀ b, b < 6 → a ≠ b → (TX1 a).2.1 ≠ (TX1 b).2.1 := by decide +kernel
theorem tyX1_ok : ∀ k, k < 6 → parseFieldDescriptor (TX1 k).2.2.1 = some (tyX1 k) := by decide +kernel
abbrev cX1_init : ByteArray := prog_3_method_1_code
def yX1_init : MethodName := ⟨RX1, "<init>", "(I)V"⟩
abbrev cX1_beginWeek : ByteArray := prog_3_method_2_code
def yX1_beginWeek : MethodName := ⟨RX1, "beginWeek", "()V"⟩
abbrev cX1_copyFrom : ByteArray := prog_3_method_3_code
def yX1_copyFrom : MethodName := ⟨RX1, "copyFrom", "(LHelpDesk$Desk;)V"⟩
abbrev cX1_errorOf : ByteArray := prog_3_method_4_code
def yX1_errorOf : MethodName := ⟨RX1, "errorOf", "(IIIII)I"⟩
abbrev cX1_dayError : ByteArray := prog_3_method_5_code
def yX1_dayError : MethodName := ⟨RX1, "dayError", "(III)I"⟩
abbrev cX1_reportError : ByteArray := prog_3_method_6_code
def yX1_reportError : MethodName := ⟨RX1, "reportError", "(IIII)I"⟩
abbrev cX1_joinError : ByteArray := prog_3_method_7_code
def yX1_joinError : MethodName := ⟨RX1, "joinError", "(II)I"⟩
abbrev cX1_priorityError : ByteArray := prog_3_method_8_code
def yX1_priorityError : MethodName := ⟨RX1, "priorityError", "(II)I"⟩
abbrev cX1_ticketError : ByteArray := prog_3_method_9_code
def yX1_ticketError : MethodName := ⟨RX1, "ticketError", "(II)I"⟩
abbrev cX1_allows : ByteArray := prog_3_method_10_code
def yX1_allows : MethodName := ⟨RX1, "allows", "(II)Z"⟩
abbrev cX1_make : ByteArray := prog_3_method_11_code
def yX1_make : MethodName := ⟨RX1, "make", "(IIIII)I"⟩
abbrev cX1_staff : ByteArray := prog_3_method_12_code
def yX1_staff : MethodName := ⟨RX1, "staff", "(II)I"⟩
abbrev cX1_enter : ByteArray := prog_3_method_13_code
def yX1_enter : MethodName := ⟨RX1, "enter", "(IIII)I"⟩
abbrev cX1_move : ByteArray := prog_3_method_14_code
def yX1_move : MethodName := ⟨RX1, "move", "(III)I"⟩
abbrev cX1_raise : ByteArray := prog_3_method_15_code
def yX1_raise : MethodName := ⟨RX1, "raise", "(II)I"⟩
abbrev cX1_finish : ByteArray := prog_3_method_16_code
def yX1_finish : MethodName := ⟨RX1, "finish", "(II)I"⟩
abbrev cX1_markSolved : ByteArray := prog_3_method_17_code
def yX1_markSolved : MethodName := ⟨RX1, "markSolved", "(II)V"⟩
abbrev cX1_reviveWithTwins : ByteArray := prog_3_method_18_code
def yX1_reviveWithTwins : MethodName := ⟨RX1, "reviveWithTwins", "(I)I"⟩
abbrev cX1_revive : ByteArray := prog_3_method_19_code
def yX1_revive : MethodName := ⟨RX1, "revive", "(II)V"⟩
abbrev cX1_tie : ByteArray := prog_3_method_20_code
def yX1_tie : MethodName := ⟨RX1, "tie", "(II)I"⟩
abbrev cX1_untie : ByteArray := prog_3_method_21_code
def yX1_untie : MethodName := ⟨RX1, "untie", "(I)I"⟩
abbrev cX1_rank : ByteArray := prog_3_method_22_code
def yX1_rank : MethodName := ⟨RX1, "rank", "(II)I"⟩
abbrev cX1_passUntil : ByteArray := prog_3_method_23_code
def yX1_passUntil : MethodName := ⟨RX1, "passUntil", "(I)V"⟩
abbrev cX1_takeTickets : ByteArray := prog_3_method_24_code
def yX1_takeTickets : MethodName := ⟨RX1, "takeTickets", "()V"⟩
abbrev cX1_firstQueued : ByteArray := prog_3_method_25_code
def yX1_firstQueued : MethodName := ⟨RX1, "firstQueued", "(I)I"⟩
abbrev cX1_isMoreUrgent : ByteArray := prog_3_method_26_code
def yX1_isMoreUrgent : MethodName := ⟨RX1, "isMoreUrgent", "(II)Z"⟩
abbrev cX1_minutesLeft : ByteArray := prog_3_method_27_code
def yX1_minutesLeft : MethodName := ⟨RX1, "minutesLeft", "(I)I"⟩
abbrev cX1_take : ByteArray := prog_3_method_28_code
def yX1_take : MethodName := ⟨RX1, "take", "(I)V"⟩
abbrev cX1_stretch : ByteArray := prog_3_method_29_code
def yX1_stretch : MethodName := ⟨RX1, "stretch", "(IZ)I"⟩
abbrev cX1_minutesToClockEvent : ByteArray := prog_3_method_30_code
def yX1_minutesToClockEvent : MethodName := ⟨RX1, "minutesToClockEvent", "(I)I"⟩
abbrev cX1_minutesToBreach : ByteArray := prog_3_method_31_code
def yX1_minutesToBreach : MethodName := ⟨RX1, "minutesToBreach", "(II)I"⟩
abbrev cX1_counts : ByteArray := prog_3_method_32_code
def yX1_counts : MethodName := ⟨RX1, "counts", "(IZ)Z"⟩
abbrev cX1_climbsByItself : ByteArray := prog_3_method_33_code
def yX1_climbsByItself : MethodName := ⟨RX1, "climbsByItself", "(I)Z"⟩
abbrev cX1_growClocks : ByteArray := prog_3_method_34_code
def yX1_growClocks : MethodName := ⟨RX1, "growClocks", "(IZ)V"⟩
abbrev cX1_grow : ByteArray := prog_3_method_35_code
def yX1_grow : MethodName := ⟨RX1, "grow", "([IIIII)V"⟩
abbrev cX1_work : ByteArray := prog_3_method_36_code
def yX1_work : MethodName := ⟨RX1, "work", "(I)V"⟩
abbrev cX1_climbWaiting : ByteArray := prog_3_method_37_code
def yX1_climbWaiting : MethodName := ⟨RX1, "climbWaiting", "(I)V"⟩
abbrev cX1_lateResponses : ByteArray := prog_3_method_38_code
def yX1_lateResponses : MethodName := ⟨RX1, "lateResponses", "(I)I"⟩
abbrev cX1_lateSolutions : ByteArray := prog_3_method_39_code
def yX1_lateSolutions : MethodName := ⟨RX1, "lateSolutions", "(I)I"⟩
abbrev cX1_countLate : ByteArray := prog_3_method_40_code
def yX1_countLate : MethodName := ⟨RX1, "countLate", "(I[I[I)I"⟩
abbrev cX1_allBreaches : ByteArray := prog_3_method_41_code
def yX1_allBreaches : MethodName := ⟨RX1, "allBreaches", "()I"⟩
def RX2 : String := "HelpDesk$History"
def TX2 : u_T := fun k => match k with
  | 0 => ("HelpDesk$History", "time", "[I", true)
  | 1 => ("HelpDesk$History", "type", "[I", true)
  | 2 => ("HelpDesk$History", "first", "[I", true)
  | 3 => ("HelpDesk$History", "second", "[I", true)
  | 4 => ("HelpDesk$History", "third", "[I", true)
  | 5 => ("HelpDesk$History", "fourth", "[I", true)
  | _ => ("HelpDesk$History", "length", "I", false)
def tyX2 : Nat → FieldType := fun k => match k with
  | 0 => .array .int
  | 1 => .array .int
  | 2 => .array .int
  | 3 => .array .int
  | 4 => .array .int
  | 5 => .array .int
  | _ => .int
abbrev wsX20 : List Cond := u_ws RX2 TX2 7
theorem nmX2 : ∀ a, a < 7 → ∀ b, b < 7 → a ≠ b → (TX2 a).2.1 ≠ (TX2 b).2.1 := by decide +kernel
theorem tyX2_ok : ∀ k, k < 7 → parseFieldDescriptor (TX2 k).2.2.1 = some (tyX2 k) := by decide +kernel
abbrev cX2_init : ByteArray := prog_4_method_1_code
def yX2_init : MethodName := ⟨RX2, "<init>", "()V"⟩
abbrev cX2_record : ByteArray := prog_4_method_2_code
def yX2_record : MethodName := ⟨RX2, "record", "(IIIIII)Z"⟩
abbrev cX2_copyFrom : ByteArray := prog_4_method_3_code
def yX2_copyFrom : MethodName := ⟨RX2, "copyFrom", "(LHelpDesk$History;)V"⟩
def RX3 : String := "HelpDesk$Kinds"
def TX3 : u_T := fun k => match k with
  | 0 => ("HelpDesk$Kinds", "response", "[I", true)
  | 1 => ("HelpDesk$Kinds", "resolve", "[I", true)
  | 2 => ("HelpDesk$Kinds", "effort", "[I", true)
  | 3 => ("HelpDesk$Kinds", "level", "[I", true)
  | 4 => ("HelpDesk$Kinds", "climb", "[I", true)
  | 5 => ("HelpDesk$Kinds", "always", "[Z", true)
  | _ => ("HelpDesk$Kinds", "count", "I", false)
def tyX3 : Nat → FieldType := fun k => match k with
  | 0 => .array .int
  | 1 => .array .int
  | 2 => .array .int
  | 3 => .array .int
  | 4 => .array .int
  | 5 => .array .boolean
  | _ => .int
abbrev wsX30 : List Cond := u_ws RX3 TX3 7
theorem nmX3 : ∀ a, a < 7 → ∀ b, b < 7 → a ≠ b → (TX3 a).2.1 ≠ (TX3 b).2.1 := by decide +kernel
theorem tyX3_ok : ∀ k, k < 7 → parseFieldDescriptor (TX3 k).2.2.1 = some (tyX3 k) := by decide +kernel
abbrev cX3_init : ByteArray := prog_5_method_1_code
def yX3_init : MethodName := ⟨RX3, "<init>", "()V"⟩
abbrev cX3_add : ByteArray := prog_5_method_2_code
def yX3_add : MethodName := ⟨RX3, "add", "(IIIIIZ)I"⟩
abbrev cX3_copyFrom : ByteArray := prog_5_method_3_code
def yX3_copyFrom : MethodName := ⟨RX3, "copyFrom", "(LHelpDesk$Kinds;)V"⟩
def RX4 : String := "HelpDesk$Log"
def TX4 : u_T := fun k => match k with
  | 0 => ("HelpDesk$Log", "time", "[I", true)
  | 1 => ("HelpDesk$Log", "type", "[I", true)
  | 2 => ("HelpDesk$Log", "ticket", "[I", true)
  | 3 => ("HelpDesk$Log", "detail", "[I", true)
  | _ => ("HelpDesk$Log", "size", "I", false)
def tyX4 : Nat → FieldType := fun k => match k with
  | 0 => .array .int
  | 1 => .array .int
  | 2 => .array .int
  | 3 => .array .int
  | _ => .int
abbrev wsX40 : List Cond := u_ws RX4 TX4 5
theorem nmX4 : ∀ a, a < 5 → ∀ b, b < 5 → a ≠ b → (TX4 a).2.1 ≠ (TX4 b).2.1 := by decide +kernel
theorem tyX4_ok : ∀ k, k < 5 → parseFieldDescriptor (TX4 k).2.2.1 = some (tyX4 k) := by decide +kernel
abbrev cX4_init : ByteArray := prog_6_method_1_code
def yX4_init : MethodName := ⟨RX4, "<init>", "(I)V"⟩
abbrev cX4_write : ByteArray := prog_6_method_2_code
def yX4_write : MethodName := ⟨RX4, "write", "(IIII)V"⟩
abbrev cX4_copyFrom : ByteArray := prog_6_method_3_code
def yX4_copyFrom : MethodName := ⟨RX4, "copyFrom", "(LHelpDesk$Log;)V"⟩
def RX5 : String := "HelpDesk$Script"
def TX5 : u_T := fun k => match k with
  | 0 => ("HelpDesk$Script", "text", "[B", true)
  | 1 => ("HelpDesk$Script", "length", "I", false)
  | 2 => ("HelpDesk$Script", "verb", "[I", true)
  | 3 => ("HelpDesk$Script", "numbers", "[[I", true)
  | 4 => ("HelpDesk$Script", "always", "[Z", true)
  | 5 => ("HelpDesk$Script", "statements", "I", false)
  | 6 => ("HelpDesk$Script", "errorCode", "I", false)
  | 7 => ("HelpDesk$Script", "errorPosition", "I", false)
  | 8 => ("HelpDesk$Script", "failure", "I", false)
  | 9 => ("HelpDesk$Script", "token", "I", false)
  | 10 => ("HelpDesk$Script", "start", "I", false)
  | 11 => ("HelpDesk$Script", "next", "I", false)
  | _ => ("HelpDesk$Script", "number", "I", false)
def tyX5 : Nat → FieldType := fun k => match k with
  | 0 => .array .byte
  | 1 => .int
  | 2 => .array .int
  | 3 => .array (.array .int)
  | 4 => .array .boolean
  | 5 => .int
  | 6 => .int
  | 7 => .int
  | 8 => .int
  | 9 => .int
  | 10 => .int
  | 11 => .int
  | _ => .int
abbrev wsX50 : List Cond := u_ws RX5 TX5 13
theorem nmX5 : ∀ a, a < 13 → ∀ b, b < 13 → a ≠ b → (TX5 a).2.1 ≠ (TX5 b).2.1 := by decide +kernel
theorem tyX5_ok : ∀ k, k < 13 → parseFieldDescriptor (TX5 k).2.2.1 = some (tyX5 k) := by decide +kernel
abbrev cX5_init : ByteArray := prog_7_method_1_code
def yX5_init : MethodName := ⟨RX5, "<init>", "()V"⟩
def RX6 : String := "HelpDesk$State"
def TX6 : u_T := fun k => match k with
  | 0 => ("HelpDesk$State", "desk", "LHelpDesk$Desk;", true)
  | _ => ("HelpDesk$State", "history", "LHelpDesk$History;", true)
def tyX6 : Nat → FieldType := fun k => match k with
  | 0 => .object "HelpDesk$Desk"
  | _ => .object "HelpDesk$History"
abbrev wsX60 : List Cond := u_ws RX6 TX6 2
theorem nmX6 : ∀ a, a < 2 → ∀ b, b < 2 → a ≠ b → (TX6 a).2.1 ≠ (TX6 b).2.1 := by decide +kernel
theorem tyX6_ok : ∀ k, k < 2 → parseFieldDescriptor (TX6 k).2.2.1 = some (tyX6 k) := by decide +kernel
abbrev cX6_init : ByteArray := prog_8_method_1_code
def yX6_init : MethodName := ⟨RX6, "<init>", "()V"⟩
abbrev cX6_copyFrom : ByteArray := prog_8_method_2_code
def yX6_copyFrom : MethodName := ⟨RX6, "copyFrom", "(LHelpDesk$State;)V"⟩
def RX7 : String := "HelpDesk$Tickets"
def TX7 : u_T := fun k => match k with
  | 0 => ("HelpDesk$Tickets", "kind", "[I", true)
  | 1 => ("HelpDesk$Tickets", "customer", "[I", true)
  | 2 => ("HelpDesk$Tickets", "subject", "[I", true)
  | 3 => ("HelpDesk$Tickets", "priority", "[I", true)
  | 4 => ("HelpDesk$Tickets", "level", "[I", true)
  | 5 => ("HelpDesk$Tickets", "state", "[I", true)
  | 6 => ("HelpDesk$Tickets", "progress", "[I", true)
  | 7 => ("HelpDesk$Tickets", "levelClock", "[I", true)
  | 8 => ("HelpDesk$Tickets", "responseClock", "[I", true)
  | 9 => ("HelpDesk$Tickets", "resolveClock", "[I", true)
  | 10 => ("HelpDesk$Tickets", "root", "[I", true)
  | 11 => ("HelpDesk$Tickets", "reportedAt", "[I", true)
  | 12 => ("HelpDesk$Tickets", "answeredAt", "[I", true)
  | 13 => ("HelpDesk$Tickets", "solvedAt", "[I", true)
  | _ => ("HelpDesk$Tickets", "count", "I", false)
def tyX7 : Nat → FieldType := fun k => match k with
  | 0 => .array .int
  | 1 => .array .int
  | 2 => .array .int
  | 3 => .array .int
  | 4 => .array .int
  | 5 => .array .int
  | 6 => .array .int
  | 7 => .array .int
  | 8 => .array .int
  | 9 => .array .int
  | 10 => .array .int
  | 11 => .array .int
  | 12 => .array .int
  | 13 => .array .int
  | _ => .int
abbrev wsX70 : List Cond := u_ws RX7 TX7 15
theorem nmX7 : ∀ a, a < 15 → ∀ b, b < 15 → a ≠ b → (TX7 a).2.1 ≠ (TX7 b).2.1 := by decide +kernel
theorem tyX7_ok : ∀ k, k < 15 → parseFieldDescriptor (TX7 k).2.2.1 = some (tyX7 k) := by decide +kernel
abbrev cX7_init : ByteArray := prog_9_method_1_code
def yX7_init : MethodName := ⟨RX7, "<init>", "()V"⟩
abbrev cX7_isFull : ByteArray := prog_9_method_2_code
def yX7_isFull : MethodName := ⟨RX7, "isFull", "()Z"⟩
abbrev cX7_exists : ByteArray := prog_9_method_3_code
def yX7_exists : MethodName := ⟨RX7, "exists", "(I)Z"⟩
abbrev cX7_add : ByteArray := prog_9_method_4_code
def yX7_add : MethodName := ⟨RX7, "add", "(IIIII)I"⟩
abbrev cX7_isActive : ByteArray := prog_9_method_5_code
def yX7_isActive : MethodName := ⟨RX7, "isActive", "(I)Z"⟩
abbrev cX7_standsAlone : ByteArray := prog_9_method_6_code
def yX7_standsAlone : MethodName := ⟨RX7, "standsAlone", "(I)Z"⟩
abbrev cX7_isAnswered : ByteArray := prog_9_method_7_code
def yX7_isAnswered : MethodName := ⟨RX7, "isAnswered", "(I)Z"⟩
abbrev cX7_responseRuns : ByteArray := prog_9_method_8_code
def yX7_responseRuns : MethodName := ⟨RX7, "responseRuns", "(I)Z"⟩
abbrev cX7_resolveRuns : ByteArray := prog_9_method_9_code
def yX7_resolveRuns : MethodName := ⟨RX7, "resolveRuns", "(I)Z"⟩
abbrev cX7_countAt : ByteArray := prog_9_method_10_code
def yX7_countAt : MethodName := ⟨RX7, "countAt", "(II)I"⟩
abbrev cX7_countSolved : ByteArray := prog_9_method_11_code
def yX7_countSolved : MethodName := ⟨RX7, "countSolved", "()I"⟩
abbrev cX7_twinMask : ByteArray := prog_9_method_12_code
def yX7_twinMask : MethodName := ⟨RX7, "twinMask", "(I)J"⟩
abbrev cX7_copyFrom : ByteArray := prog_9_method_17_code
def yX7_copyFrom : MethodName := ⟨RX7, "copyFrom", "(LHelpDesk$Tickets;)V"⟩
def RX8 : String := "HelpDesk"
def TX8 : u_T := fun k => match k with
  | 0 => ("HelpDesk", "live", "LHelpDesk$State;", true)
  | 1 => ("HelpDesk", "saved", "[LHelpDesk$State;", true)
  | 2 => ("HelpDesk", "trial", "LHelpDesk$Desk;", true)
  | _ => ("HelpDesk", "script", "LHelpDesk$Script;", true)
def tyX8 : Nat → FieldType := fun k => match k with
  | 0 => .object "HelpDesk$State"
  | 1 => .array (.object "HelpDesk$State")
  | 2 => .object "HelpDesk$Desk"
  | _ => .object "HelpDesk$Script"
abbrev wsX80 : List Cond := u_ws RX8 TX8 4
theorem nmX8 : ∀ a, a < 4 → ∀ b, b < 4 → a ≠ b → (TX8 a).2.1 ≠ (TX8 b).2.1 := by decide +kernel
theorem tyX8_ok : ∀ k, k < 4 → parseFieldDescriptor (TX8 k).2.2.1 = some (tyX8 k) := by decide +kernel
abbrev cX8_init : ByteArray := prog_1_method_1_code
def yX8_init : MethodName := ⟨RX8, "<init>", "()V"⟩
abbrev cX8_openMinutes : ByteArray := prog_1_method_6_code
def yX8_openMinutes : MethodName := ⟨RX8, "openMinutes", "(II)I"⟩
abbrev cX8_addKind : ByteArray := prog_1_method_7_code
def yX8_addKind : MethodName := ⟨RX8, "addKind", "(IIIIIZ)I"⟩
abbrev cX8_setAgents : ByteArray := prog_1_method_9_code
def yX8_setAgents : MethodName := ⟨RX8, "setAgents", "(II)I"⟩
abbrev cX8_agents : ByteArray := prog_1_method_10_code
def yX8_agents : MethodName := ⟨RX8, "agents", "(I)I"⟩
abbrev cX8_report : ByteArray := prog_1_method_11_code
def yX8_report : MethodName := ⟨RX8, "report", "(IIII)I"⟩
abbrev cX8_pause : ByteArray := prog_1_method_12_code
def yX8_pause : MethodName := ⟨RX8, "pause", "(I)I"⟩
abbrev cX8_resume : ByteArray := prog_1_method_13_code
def yX8_resume : MethodName := ⟨RX8, "resume", "(I)I"⟩
abbrev cX8_climb : ByteArray := prog_1_method_14_code
def yX8_climb : MethodName := ⟨RX8, "climb", "(I)I"⟩
abbrev cX8_solve : ByteArray := prog_1_method_15_code
def yX8_solve : MethodName := ⟨RX8, "solve", "(I)I"⟩
abbrev cX8_reopen : ByteArray := prog_1_method_16_code
def yX8_reopen : MethodName := ⟨RX8, "reopen", "(I)I"⟩
abbrev cX8_join : ByteArray := prog_1_method_17_code
def yX8_join : MethodName := ⟨RX8, "join", "(II)I"⟩
abbrev cX8_part : ByteArray := prog_1_method_18_code
def yX8_part : MethodName := ⟨RX8, "part", "(I)I"⟩
abbrev cX8_setPriority : ByteArray := prog_1_method_19_code
def yX8_setPriority : MethodName := ⟨RX8, "setPriority", "(II)I"⟩
abbrev cX8_change : ByteArray := prog_1_method_20_code
def yX8_change : MethodName := ⟨RX8, "change", "(IIIII)I"⟩
abbrev cX8_pass : ByteArray := prog_1_method_21_code
def yX8_pass : MethodName := ⟨RX8, "pass", "(I)I"⟩
abbrev cX8_now : ByteArray := prog_1_method_22_code
def yX8_now : MethodName := ⟨RX8, "now", "()I"⟩
abbrev cX8_ticketCount : ByteArray := prog_1_method_23_code
def yX8_ticketCount : MethodName := ⟨RX8, "ticketCount", "()I"⟩
abbrev cX8_stateOf : ByteArray := prog_1_method_24_code
def yX8_stateOf : MethodName := ⟨RX8, "stateOf", "(I)I"⟩
abbrev cX8_kindOf : ByteArray := prog_1_method_25_code
def yX8_kindOf : MethodName := ⟨RX8, "kindOf", "(I)I"⟩
abbrev cX8_levelOf : ByteArray := prog_1_method_26_code
def yX8_levelOf : MethodName := ⟨RX8, "levelOf", "(I)I"⟩
abbrev cX8_progress : ByteArray := prog_1_method_28_code
def yX8_progress : MethodName := ⟨RX8, "progress", "(I)I"⟩
abbrev cX8_rootOf : ByteArray := prog_1_method_29_code
def yX8_rootOf : MethodName := ⟨RX8, "rootOf", "(I)I"⟩
abbrev cX8_twins : ByteArray := prog_1_method_30_code
def yX8_twins : MethodName := ⟨RX8, "twins", "(I)J"⟩
abbrev cX8_reportedAt : ByteArray := prog_1_method_31_code
def yX8_reportedAt : MethodName := ⟨RX8, "reportedAt", "(I)I"⟩
abbrev cX8_answeredAt : ByteArray := prog_1_method_32_code
def yX8_answeredAt : MethodName := ⟨RX8, "answeredAt", "(I)I"⟩
abbrev cX8_solvedAt : ByteArray := prog_1_method_33_code
def yX8_solvedAt : MethodName := ⟨RX8, "solvedAt", "(I)I"⟩
abbrev cX8_responseClock : ByteArray := prog_1_method_34_code
def yX8_responseClock : MethodName := ⟨RX8, "responseClock", "(I)I"⟩
abbrev cX8_resolveClock : ByteArray := prog_1_method_35_code
def yX8_resolveClock : MethodName := ⟨RX8, "resolveClock", "(I)I"⟩
abbrev cX8_ofTicket : ByteArray := prog_1_method_36_code
def yX8_ofTicket : MethodName := ⟨RX8, "ofTicket", "([II)I"⟩
abbrev cX8_queueLength : ByteArray := prog_1_method_37_code
def yX8_queueLength : MethodName := ⟨RX8, "queueLength", "(I)I"⟩
abbrev cX8_nextTicket : ByteArray := prog_1_method_38_code
def yX8_nextTicket : MethodName := ⟨RX8, "nextTicket", "(I)I"⟩
abbrev cX8_busyAgents : ByteArray := prog_1_method_39_code
def yX8_busyAgents : MethodName := ⟨RX8, "busyAgents", "(I)I"⟩
abbrev cX8_responseBreaches : ByteArray := prog_1_method_42_code
def yX8_responseBreaches : MethodName := ⟨RX8, "responseBreaches", "(I)I"⟩
abbrev cX8_resolveBreaches : ByteArray := prog_1_method_43_code
def yX8_resolveBreaches : MethodName := ⟨RX8, "resolveBreaches", "(I)I"⟩
abbrev cX8_forecast : ByteArray := prog_1_method_45_code
def yX8_forecast : MethodName := ⟨RX8, "forecast", "(I)I"⟩
abbrev cX8_breachesAhead : ByteArray := prog_1_method_46_code
def yX8_breachesAhead : MethodName := ⟨RX8, "breachesAhead", "()I"⟩
abbrev cX8_historyLength : ByteArray := prog_1_method_49_code
def yX8_historyLength : MethodName := ⟨RX8, "historyLength", "()I"⟩
abbrev cX8_logSize : ByteArray := prog_1_method_52_code
def yX8_logSize : MethodName := ⟨RX8, "logSize", "()I"⟩
abbrev cX8_logTime : ByteArray := prog_1_method_53_code
def yX8_logTime : MethodName := ⟨RX8, "logTime", "(I)I"⟩
abbrev cX8_logType : ByteArray := prog_1_method_54_code
def yX8_logType : MethodName := ⟨RX8, "logType", "(I)I"⟩
abbrev cX8_logTicket : ByteArray := prog_1_method_55_code
def yX8_logTicket : MethodName := ⟨RX8, "logTicket", "(I)I"⟩
abbrev cX8_logDetail : ByteArray := prog_1_method_56_code
def yX8_logDetail : MethodName := ⟨RX8, "logDetail", "(I)I"⟩
abbrev cX8_ofEvent : ByteArray := prog_1_method_57_code
def yX8_ofEvent : MethodName := ⟨RX8, "ofEvent", "([II)I"⟩
abbrev cX8_save : ByteArray := prog_1_method_64_code
def yX8_save : MethodName := ⟨RX8, "save", "(I)Z"⟩
abbrev cX8_restore : ByteArray := prog_1_method_65_code
def yX8_restore : MethodName := ⟨RX8, "restore", "(I)Z"⟩
abbrev cX8_within : ByteArray := prog_1_method_66_code
def yX8_within : MethodName := ⟨RX8, "within", "(III)Z"⟩
def RX9 : String := "HelpDeskModel"
def TX9 : u_T := fun k => match k with
  | _ => ("", "", "", false)
def tyX9 : Nat → FieldType := fun k => match k with
  | _ => .int
abbrev wsX90 : List Cond := u_ws RX9 TX9 0
theorem nmX9 : ∀ a, a < 0 → ∀ b, b < 0 → a ≠ b → (TX9 a).2.1 ≠ (TX9 b).2.1 := by decide +kernel
theorem tyX9_ok : ∀ k, k < 0 → parseFieldDescriptor (TX9 k).2.2.1 = some (tyX9 k) := by decide +kernel
def RJx145de : String := "java/io/Serializable"
def TJx145de : u_T := fun k => match k with
  | _ => ("", "", "", false)
def tyJx145de : Nat → FieldType := fun k => match k with
  | _ => .int
abbrev wsJx145de0 : List Cond := u_ws RJx145de TJx145de 0
theorem nmJx145de : ∀ a, a < 0 → ∀ b, b < 0 → a ≠ b → (TJx145de a).2.1 ≠ (TJx145de b).2.1 := by decide +kernel
theorem tyJx145de_ok : ∀ k, k < 0 → parseFieldDescriptor (TJx145de k).2.2.1 = some (tyJx145de k) := by decide +kernel
def RJx8e188 : String := "java/lang/Cloneable"
def TJx8e188 : u_T := fun k => match k with
  | _ => ("", "", "", false)
def tyJx8e188 : Nat → FieldType := fun k => match k with
  | _ => .int
abbrev wsJx8e1880 : List Cond := u_ws RJx8e188 TJx8e188 0
theorem nmJx8e188 : ∀ a, a < 0 → ∀ b, b < 0 → a ≠ b → (TJx8e188 a).2.1 ≠ (TJx8e188 b).2.1 := by decide +kernel
theorem tyJx8e188_ok : ∀ k, k < 0 → parseFieldDescriptor (TJx8e188 k).2.2.1 = some (tyJx8e188 k) := by decide +kernel
def RJxab1ab : String := "java/lang/Iterable"
def TJxab1ab : u_T := fun k => match k with
  | _ => ("", "", "", false)
def tyJxab1ab : Nat → FieldType := fun k => match k with
  | _ => .int
abbrev wsJxab1ab0 : List Cond := u_ws RJxab1ab TJxab1ab 0
theorem nmJxab1ab : ∀ a, a < 0 → ∀ b, b < 0 → a ≠ b → (TJxab1ab a).2.1 ≠ (TJxab1ab b).2.1 := by decide +kernel
theorem tyJxab1ab_ok : ∀ k, k < 0 → parseFieldDescriptor (TJxab1ab k).2.2.1 = some (tyJxab1ab k) := by decide +kernel
def RJ13 : String := "java/lang/Long"
def TJ13 : u_T := fun k => match k with
  | _ => ("", "", "", false)
def tyJ13 : Nat → FieldType := fun k => match k with
  | _ => .int
abbrev wsJ130 : List Cond := u_ws RJ13 TJ13 0
theorem nmJ13 : ∀ a, a < 0 → ∀ b, b < 0 → a ≠ b → (TJ13 a).2.1 ≠ (TJ13 b).2.1 := by decide +kernel
theorem tyJ13_ok : ∀ k, k < 0 → parseFieldDescriptor (TJ13 k).2.2.1 = some (tyJ13 k) := by decide +kernel
abbrev cJ13_bitCount_95d88 : ByteArray := prog_15_method_50_code
def yJ13_bitCount_95d88 : MethodName := ⟨RJ13, "bitCount", "(J)I"⟩
def RJ9 : String := "java/lang/Math"
def TJ9 : u_T := fun k => match k with
  | _ => ("", "", "", false)
def tyJ9 : Nat → FieldType := fun k => match k with
  | _ => .int
abbrev wsJ90 : List Cond := u_ws RJ9 TJ9 0
theorem nmJ9 : ∀ a, a < 0 → ∀ b, b < 0 → a ≠ b → (TJ9 a).2.1 ≠ (TJ9 b).2.1 := by decide +kernel
theorem tyJ9_ok : ∀ k, k < 0 → parseFieldDescriptor (TJ9 k).2.2.1 = some (tyJ9 k) := by decide +kernel
abbrev cJ9_max_7cf53 : ByteArray := prog_16_method_65_code
def yJ9_max_7cf53 : MethodName := ⟨RJ9, "max", "(II)I"⟩
abbrev cJ9_min_7cf53 : ByteArray := prog_16_method_69_code
def yJ9_min_7cf53 : MethodName := ⟨RJ9, "min", "(II)I"⟩
def RJ10 : String := "java/lang/System"
def TJ10 : u_T := fun k => match k with
  | _ => ("", "", "", false)
def tyJ10 : Nat → FieldType := fun k => match k with
  | _ => .int
abbrev wsJ100 : List Cond := u_ws RJ10 TJ10 0
theorem nmJ10 : ∀ a, a < 0 → ∀ b, b < 0 → a ≠ b → (TJ10 a).2.1 ≠ (TJ10 b).2.1 := by decide +kernel
theorem tyJ10_ok : ∀ k, k < 0 → parseFieldDescriptor (TJ10 k).2.2.1 = some (tyJ10 k) := by decide +kernel
def RJxa1e45 : String := "java/util/AbstractCollection"
def TJxa1e45 : u_T := fun k => match k with
  | _ => ("", "", "", false)
def tyJxa1e45 : Nat → FieldType := fun k => match k with
  | _ => .int
abbrev wsJxa1e450 : List Cond := u_ws RJxa1e45 TJxa1e45 0
theorem nmJxa1e45 : ∀ a, a < 0 → ∀ b, b < 0 → a ≠ b → (TJxa1e45 a).2.1 ≠ (TJxa1e45 b).2.1 := by decide +kernel
theorem tyJxa1e45_ok : ∀ k, k < 0 → parseFieldDescriptor (TJxa1e45 k).2.2.1 = some (tyJxa1e45 k) := by decide +kernel
abbrev cJxa1e45_init_da8c8 : ByteArray := prog_18_method_1_code
def yJxa1e45_init_da8c8 : MethodName := ⟨RJxa1e45, "<init>", "()V"⟩
def RJxc12de : String := "java/util/AbstractList"
def TJxc12de : u_T := fun k => match k with
  | _ => ("", "", "", false)
def tyJxc12de : Nat → FieldType := fun k => match k with
  | _ => .int
abbrev wsJxc12de0 : List Cond := u_ws RJxc12de TJxc12de 0
theorem nmJxc12de : ∀ a, a < 0 → ∀ b, b < 0 → a ≠ b → (TJxc12de a).2.1 ≠ (TJxc12de b).2.1 := by decide +kernel
theorem tyJxc12de_ok : ∀ k, k < 0 → parseFieldDescriptor (TJxc12de k).2.2.1 = some (tyJxc12de k) := by decide +kernel
abbrev cJxc12de_init_da8c8 : ByteArray := prog_19_method_1_code
def yJxc12de_init_da8c8 : MethodName := ⟨RJxc12de, "<init>", "()V"⟩
def RJx4a65c : String := "java/util/ArrayList"
def TJx4a65c : u_T := fun k => match k with
  | 0 => ("java/util/AbstractList", "modCount", "I", false)
  | 1 => ("java/util/ArrayList", "elementData", "[Ljava/lang/Object;", false)
  | _ => ("java/util/ArrayList", "size", "I", false)
def tyJx4a65c : Nat → FieldType := fun k => match k with
  | 0 => .int
  | 1 => .array (.object "java/lang/Object")
  | _ => .int
abbrev wsJx4a65c0 : List Cond := u_ws RJx4a65c TJx4a65c 3
theorem nmJx4a65c : ∀ a, a < 3 → ∀ b, b < 3 → a ≠ b → (TJx4a65c a).2.1 ≠ (TJx4a65c b).2.1 := by decide +kernel
theorem tyJx4a65c_ok : ∀ k, k < 3 → parseFieldDescriptor (TJx4a65c k).2.2.1 = some (tyJx4a65c k) := by decide +kernel
abbrev cJx4a65c_init_da8c8 : ByteArray := prog_20_method_2_code
def yJx4a65c_init_da8c8 : MethodName := ⟨RJx4a65c, "<init>", "()V"⟩
abbrev cJx4a65c_grow_92f84 : ByteArray := prog_20_method_6_code
def yJx4a65c_grow_92f84 : MethodName := ⟨RJx4a65c, "grow", "(I)[Ljava/lang/Object;"⟩
abbrev cJx4a65c_grow_d5877 : ByteArray := prog_20_method_7_code
def yJx4a65c_grow_d5877 : MethodName := ⟨RJx4a65c, "grow", "()[Ljava/lang/Object;"⟩
abbrev cJx4a65c_size_8abf5 : ByteArray := prog_20_method_8_code
def yJx4a65c_size_8abf5 : MethodName := ⟨RJx4a65c, "size", "()I"⟩
abbrev cJx4a65c_elementData_915e3 : ByteArray := prog_20_method_18_code
def yJx4a65c_elementData_915e3 : MethodName := ⟨RJx4a65c, "elementData", "(I)Ljava/lang/Object;"⟩
abbrev cJx4a65c_get_915e3 : ByteArray := prog_20_method_20_code
def yJx4a65c_get_915e3 : MethodName := ⟨RJx4a65c, "get", "(I)Ljava/lang/Object;"⟩
abbrev cJx4a65c_add_72be8 : ByteArray := prog_20_method_24_code
def yJx4a65c_add_72be8 : MethodName := ⟨RJx4a65c, "add", "(Ljava/lang/Object;[Ljava/lang/Object;I)V"⟩
abbrev cJx4a65c_add_9ea2d : ByteArray := prog_20_method_25_code
def yJx4a65c_add_9ea2d : MethodName := ⟨RJx4a65c, "add", "(Ljava/lang/Object;)Z"⟩
def RJ7 : String := "java/util/Arrays"
def TJ7 : u_T := fun k => match k with
  | _ => ("", "", "", false)
def tyJ7 : Nat → FieldType := fun k => match k with
  | _ => .int
abbrev wsJ70 : List Cond := u_ws RJ7 TJ7 0
theorem nmJ7 : ∀ a, a < 0 → ∀ b, b < 0 → a ≠ b → (TJ7 a).2.1 ≠ (TJ7 b).2.1 := by decide +kernel
theorem tyJ7_ok : ∀ k, k < 0 → parseFieldDescriptor (TJ7 k).2.2.1 = some (tyJ7 k) := by decide +kernel
abbrev cJ7_fill_53178 : ByteArray := prog_21_method_103_code
def yJ7_fill_53178 : MethodName := ⟨RJ7, "fill", "([II)V"⟩
abbrev cJ7_copyOf_1904c : ByteArray := prog_21_method_119_code
def yJ7_copyOf_1904c : MethodName := ⟨RJ7, "copyOf", "([Ljava/lang/Object;I)[Ljava/lang/Object;"⟩
abbrev cJ7_copyOf_6403c : ByteArray := prog_21_method_120_code
def yJ7_copyOf_6403c : MethodName := ⟨RJ7, "copyOf", "([Ljava/lang/Object;ILjava/lang/Class;)[Ljava/lang/Object;"⟩
def RJx5ef63 : String := "java/util/Collection"
def TJx5ef63 : u_T := fun k => match k with
  | _ => ("", "", "", false)
def tyJx5ef63 : Nat → FieldType := fun k => match k with
  | _ => .int
abbrev wsJx5ef630 : List Cond := u_ws RJx5ef63 TJx5ef63 0
theorem nmJx5ef63 : ∀ a, a < 0 → ∀ b, b < 0 → a ≠ b → (TJx5ef63 a).2.1 ≠ (TJx5ef63 b).2.1 := by decide +kernel
theorem tyJx5ef63_ok : ∀ k, k < 0 → parseFieldDescriptor (TJx5ef63 k).2.2.1 = some (tyJx5ef63 k) := by decide +kernel
def RJxbd725 : String := "java/util/List"
def TJxbd725 : u_T := fun k => match k with
  | _ => ("", "", "", false)
def tyJxbd725 : Nat → FieldType := fun k => match k with
  | _ => .int
abbrev wsJxbd7250 : List Cond := u_ws RJxbd725 TJxbd725 0
theorem nmJxbd725 : ∀ a, a < 0 → ∀ b, b < 0 → a ≠ b → (TJxbd725 a).2.1 ≠ (TJxbd725 b).2.1 := by decide +kernel
theorem tyJxbd725_ok : ∀ k, k < 0 → parseFieldDescriptor (TJxbd725 k).2.2.1 = some (tyJxbd725 k) := by decide +kernel
def RJ15 : String := "java/util/Objects"
def TJ15 : u_T := fun k => match k with
  | _ => ("", "", "", false)
def tyJ15 : Nat → FieldType := fun k => match k with
  | _ => .int
abbrev wsJ150 : List Cond := u_ws RJ15 TJ15 0
theorem nmJ15 : ∀ a, a < 0 → ∀ b, b < 0 → a ≠ b → (TJ15 a).2.1 ≠ (TJ15 b).2.1 := by decide +kernel
theorem tyJ15_ok : ∀ k, k < 0 → parseFieldDescriptor (TJ15 k).2.2.1 = some (tyJ15 k) := by decide +kernel
abbrev cJ15_checkIndex_7cf53 : ByteArray := prog_24_method_17_code
def yJ15_checkIndex_7cf53 : MethodName := ⟨RJ15, "checkIndex", "(II)I"⟩
def RJxf0a74 : String := "java/util/RandomAccess"
def TJxf0a74 : u_T := fun k => match k with
  | _ => ("", "", "", false)
def tyJxf0a74 : Nat → FieldType := fun k => match k with
  | _ => .int
abbrev wsJxf0a740 : List Cond := u_ws RJxf0a74 TJxf0a74 0
theorem nmJxf0a74 : ∀ a, a < 0 → ∀ b, b < 0 → a ≠ b → (TJxf0a74 a).2.1 ≠ (TJxf0a74 b).2.1 := by decide +kernel
theorem tyJxf0a74_ok : ∀ k, k < 0 → parseFieldDescriptor (TJxf0a74 k).2.2.1 = some (tyJxf0a74 k) := by decide +kernel
def RJxa66e6 : String := "java/util/SequencedCollection"
def TJxa66e6 : u_T := fun k => match k with
  | _ => ("", "", "", false)
def tyJxa66e6 : Nat → FieldType := fun k => match k with
  | _ => .int
abbrev wsJxa66e60 : List Cond := u_ws RJxa66e6 TJxa66e6 0
theorem nmJxa66e6 : ∀ a, a < 0 → ∀ b, b < 0 → a ≠ b → (TJxa66e6 a).2.1 ≠ (TJxa66e6 b).2.1 := by decide +kernel
theorem tyJxa66e6_ok : ∀ k, k < 0 → parseFieldDescriptor (TJxa66e6 k).2.2.1 = some (tyJxa66e6 k) := by decide +kernel
def RJ8 : String := "jdk/internal/util/ArraysSupport"
def TJ8 : u_T := fun k => match k with
  | _ => ("", "", "", false)
def tyJ8 : Nat → FieldType := fun k => match k with
  | _ => .int
abbrev wsJ80 : List Cond := u_ws RJ8 TJ8 0
theorem nmJ8 : ∀ a, a < 0 → ∀ b, b < 0 → a ≠ b → (TJ8 a).2.1 ≠ (TJ8 b).2.1 := by decide +kernel
theorem tyJ8_ok : ∀ k, k < 0 → parseFieldDescriptor (TJ8 k).2.2.1 = some (tyJ8 k) := by decide +kernel
abbrev cJ8_newLength_cabcc : ByteArray := prog_27_method_27_code
def yJ8_newLength_cabcc : MethodName := ⟨RJ8, "newLength", "(III)I"⟩
abbrev cJ8_hugeLength_7cf53 : ByteArray := prog_27_method_28_code
def yJ8_hugeLength_7cf53 : MethodName := ⟨RJ8, "hugeLength", "(II)I"⟩
def RJ3 : String := "jdk/internal/util/Preconditions"
def TJ3 : u_T := fun k => match k with
  | _ => ("", "", "", false)
def tyJ3 : Nat → FieldType := fun k => match k with
  | _ => .int
abbrev wsJ30 : List Cond := u_ws RJ3 TJ3 0
theorem nmJ3 : ∀ a, a < 0 → ∀ b, b < 0 → a ≠ b → (TJ3 a).2.1 ≠ (TJ3 b).2.1 := by decide +kernel
theorem tyJ3_ok : ∀ k, k < 0 → parseFieldDescriptor (TJ3 k).2.2.1 = some (tyJ3 k) := by decide +kernel
abbrev cJ3_checkIndex_8e157 : ByteArray := prog_28_method_11_code
def yJ3_checkIndex_8e157 : MethodName := ⟨RJ3, "checkIndex", "(IILjava/util/function/BiFunction;)I"⟩
def RL : String := "HelpDeskLaw"
def TL : u_T := fun k => match k with
  | 0 => ("HelpDeskLaw", "x", "LHelpDesk;", true)
  | 1 => ("HelpDeskLaw", "ints", "[I", false)
  | 2 => ("HelpDeskLaw", "next", "I", false)
  | _ => ("HelpDeskLaw", "kinds", "Ljava/util/ArrayList;", true)
def tyL : Nat → FieldType := fun k => match k with
  | 0 => .object "HelpDesk"
  | 1 => .array .int
  | 2 => .int
  | _ => .object "java/util/ArrayList"
theorem nmL : ∀ a, a < 4 → ∀ b, b < 4 → a ≠ b → (TL a).2.1 ≠ (TL b).2.1 := by decide +kernel
theorem tyL_ok : ∀ k, k < 4 → parseFieldDescriptor (TL k).2.2.1 = some (tyL k) := by decide +kernel
abbrev cL_init : ByteArray := method_1_code
def yL_init : MethodName := ⟨RL, "<init>", "()V"⟩
abbrev cL_at : ByteArray := method_2_code
def yL_at : MethodName := ⟨RL, "at", "([II)I"⟩
abbrev cL_draw : ByteArray := method_3_code
def yL_draw : MethodName := ⟨RL, "draw", "(I)I"⟩
abbrev cL_begins : ByteArray := method_4_code
def yL_begins : MethodName := ⟨RL, "begins", "()Z"⟩
abbrev cL_acts : ByteArray := method_5_code
def yL_acts : MethodName := ⟨RL, "acts", "()Z"⟩
abbrev cL_told : ByteArray := method_6_code
def yL_told : MethodName := ⟨RL, "told", "(IIII)Z"⟩
abbrev cL_solves : ByteArray := method_7_code
def yL_solves : MethodName := ⟨RL, "solves", "(II)Z"⟩
abbrev cL_joins : ByteArray := method_8_code
def yL_joins : MethodName := ⟨RL, "joins", "(II)Z"⟩
abbrev cL_passes : ByteArray := method_9_code
def yL_passes : MethodName := ⟨RL, "passes", "()Z"⟩
abbrev cL_keeps : ByteArray := method_10_code
def yL_keeps : MethodName := ⟨RL, "keeps", "()Z"⟩
abbrev cL_logged : ByteArray := method_11_code
def yL_logged : MethodName := ⟨RL, "logged", "()Z"⟩
abbrev cL_law : ByteArray := code
def yL_law : MethodName := ⟨RL, "law", "([I)Z"⟩
abbrev cL_holds : ByteArray := method_13_code
def yL_holds : MethodName := ⟨RL, "holds", "([I)Z"⟩
abbrev vwCl : List vw_C := [(RX0, TX0, 2), (RX1, TX1, 6), (RX2, TX2, 7), (RX3, TX3, 7), (RX4, TX4, 5), (RX5, TX5, 13), (RX6, TX6, 2), (RX7, TX7, 15), (RX8, TX8, 4), (RJx4a65c, TJx4a65c, 3), (RL, TL, 4)]
