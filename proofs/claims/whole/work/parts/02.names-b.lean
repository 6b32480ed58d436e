/-! ===== BEGIN printed: names, fields, word lists, decode rows ===== -/
def RX0 : String := "Bookinghouse$Crowd"
def TX0 : u_T := fun k => match k with
  | 0 => ("Bookinghouse$Crowd", "times", "LBookinghouse$Row;", true)
  | _ => ("Bookinghouse$Crowd", "changes", "LBookinghouse$Row;", true)
def tyX0 : Nat → FieldType := fun k => match k with
  | 0 => .object "Bookinghouse$Row"
  | _ => .object "Bookinghouse$Row"
abbrev wsX00 : List Cond := u_ws RX0 TX0 2
theorem nmX0 : ∀ a, a < 2 → ∀ b, b < 2 → a ≠ b → (TX0 a).2.1 ≠ (TX0 b).2.1 := by decide +kernel
theorem tyX0_ok : ∀ k, k < 2 → parseFieldDescriptor (TX0 k).2.2.1 = some (tyX0 k) := by decide +kernel
abbrev cX0_init : ByteArray := prog_2_method_1_code
def yX0_init : MethodName := ⟨RX0, "<init>", "()V"⟩
abbrev cX0_clear : ByteArray := prog_2_method_2_code
def yX0_clear : MethodName := ⟨RX0, "clear", "()V"⟩
abbrev cX0_isEmpty : ByteArray := prog_2_method_3_code
def yX0_isEmpty : MethodName := ⟨RX0, "isEmpty", "()Z"⟩
abbrev cX0_isLike : ByteArray := prog_2_method_4_code
def yX0_isLike : MethodName := ⟨RX0, "isLike", "(LBookinghouse$Crowd;)Z"⟩
abbrev cX0_enter : ByteArray := prog_2_method_5_code
def yX0_enter : MethodName := ⟨RX0, "enter", "(III)V"⟩
abbrev cX0_alter : ByteArray := prog_2_method_6_code
def yX0_alter : MethodName := ⟨RX0, "alter", "(II)V"⟩
abbrev cX0_at : ByteArray := prog_2_method_7_code
def yX0_at : MethodName := ⟨RX0, "at", "(I)I"⟩
abbrev cX0_changeAt : ByteArray := prog_2_method_8_code
def yX0_changeAt : MethodName := ⟨RX0, "changeAt", "(I)I"⟩
abbrev cX0_highest : ByteArray := prog_2_method_9_code
def yX0_highest : MethodName := ⟨RX0, "highest", "()I"⟩
abbrev cX0_highestFrom : ByteArray := prog_2_method_10_code
def yX0_highestFrom : MethodName := ⟨RX0, "highestFrom", "()I"⟩
abbrev cX0_allBusyTimes : ByteArray := prog_2_method_11_code
def yX0_allBusyTimes : MethodName := ⟨RX0, "allBusyTimes", "()I"⟩
abbrev cX0_busyTimes : ByteArray := prog_2_method_12_code
def yX0_busyTimes : MethodName := ⟨RX0, "busyTimes", "(II)I"⟩
abbrev cX0_busySpans : ByteArray := prog_2_method_13_code
def yX0_busySpans : MethodName := ⟨RX0, "busySpans", "()I"⟩
abbrev cX0_firstChangeOf : ByteArray := prog_2_method_14_code
def yX0_firstChangeOf : MethodName := ⟨RX0, "firstChangeOf", "(I)I"⟩
abbrev cX0_endOfSpan : ByteArray := prog_2_method_15_code
def yX0_endOfSpan : MethodName := ⟨RX0, "endOfSpan", "(I)I"⟩
abbrev cX0_highestOfSpan : ByteArray := prog_2_method_16_code
def yX0_highestOfSpan : MethodName := ⟨RX0, "highestOfSpan", "(I)I"⟩
abbrev cX0_freeFrom : ByteArray := prog_2_method_17_code
def yX0_freeFrom : MethodName := ⟨RX0, "freeFrom", "(II)I"⟩
abbrev cX0_total : ByteArray := prog_2_method_18_code
def yX0_total : MethodName := ⟨RX0, "total", "()J"⟩
abbrev cX0_isLevelInTheEnd : ByteArray := prog_2_method_19_code
def yX0_isLevelInTheEnd : MethodName := ⟨RX0, "isLevelInTheEnd", "()Z"⟩
abbrev cX0_isOverAt : ByteArray := prog_2_method_20_code
def yX0_isOverAt : MethodName := ⟨RX0, "isOverAt", "(I)Z"⟩
def RX1 : String := "Bookinghouse$House"
def TX1 : u_T := fun k => match k with
  | 0 => ("Bookinghouse$House", "number", "I", true)
  | 1 => ("Bookinghouse$House", "queue", "LBookinghouse$Row;", true)
  | 2 => ("Bookinghouse$House", "past", "LBookinghouse$Row;", true)
  | 3 => ("Bookinghouse$House", "crowd", "LBookinghouse$Crowd;", true)
  | _ => ("Bookinghouse$House", "now", "I", false)
def tyX1 : Nat → FieldType := fun k => match k with
  | 0 => .int
  | 1 => .object "Bookinghouse$Row"
  | 2 => .object "Bookinghouse$Row"
  | 3 => .object "Bookinghouse$Crowd"
  | _ => .int
abbrev wsX10 : List Cond := u_ws RX1 TX1 5
theorem nmX1 : ∀ a, a < 5 → ∀ b, b < 5 → a ≠ b → (TX1 a).2.1 ≠ (TX1 b).2.1 := by decide +kernel
theorem tyX1_ok : ∀ k, k < 5 → parseFieldDescriptor (TX1 k).2.2.1 = some (tyX1 k) := by decide +kernel
abbrev cX1_init : ByteArray := prog_3_method_1_code
def yX1_init : MethodName := ⟨RX1, "<init>", "(I)V"⟩
def RX2 : String := "Bookinghouse$Ledger"
def TX2 : u_T := fun k => match k with
  | 0 => ("Bookinghouse$Ledger", "times", "LBookinghouse$Row;", true)
  | 1 => ("Bookinghouse$Ledger", "spans", "LBookinghouse$Row;", true)
  | 2 => ("Bookinghouse$Ledger", "weights", "LBookinghouse$Row;", true)
  | 3 => ("Bookinghouse$Ledger", "homes", "LBookinghouse$Row;", true)
  | _ => ("Bookinghouse$Ledger", "states", "LBookinghouse$Row;", true)
def tyX2 : Nat → FieldType := fun k => match k with
  | 0 => .object "Bookinghouse$Row"
  | 1 => .object "Bookinghouse$Row"
  | 2 => .object "Bookinghouse$Row"
  | 3 => .object "Bookinghouse$Row"
  | _ => .object "Bookinghouse$Row"
abbrev wsX20 : List Cond := u_ws RX2 TX2 5
theorem nmX2 : ∀ a, a < 5 → ∀ b, b < 5 → a ≠ b → (TX2 a).2.1 ≠ (TX2 b).2.1 := by decide +kernel
theorem tyX2_ok : ∀ k, k < 5 → parseFieldDescriptor (TX2 k).2.2.1 = some (tyX2 k) := by decide +kernel
abbrev cX2_init : ByteArray := prog_4_method_1_code
def yX2_init : MethodName := ⟨RX2, "<init>", "()V"⟩
abbrev cX2_size : ByteArray := prog_4_method_2_code
def yX2_size : MethodName := ⟨RX2, "size", "()I"⟩
abbrev cX2_enter : ByteArray := prog_4_method_3_code
def yX2_enter : MethodName := ⟨RX2, "enter", "(III)I"⟩
abbrev cX2_end : ByteArray := prog_4_method_4_code
def yX2_end : MethodName := ⟨RX2, "end", "(I)I"⟩
abbrev cX2_isAhead : ByteArray := prog_4_method_5_code
def yX2_isAhead : MethodName := ⟨RX2, "isAhead", "(II)Z"⟩
def RX3 : String := "Bookinghouse$Row"
def TX3 : u_T := fun k => match k with
  | 0 => ("Bookinghouse$Row", "items", "[I", true)
  | _ => ("Bookinghouse$Row", "size", "I", false)
def tyX3 : Nat → FieldType := fun k => match k with
  | 0 => .array .int
  | _ => .int
abbrev wsX30 : List Cond := u_ws RX3 TX3 2
theorem nmX3 : ∀ a, a < 2 → ∀ b, b < 2 → a ≠ b → (TX3 a).2.1 ≠ (TX3 b).2.1 := by decide +kernel
theorem tyX3_ok : ∀ k, k < 2 → parseFieldDescriptor (TX3 k).2.2.1 = some (tyX3 k) := by decide +kernel
abbrev cX3_init : ByteArray := prog_5_method_1_code
def yX3_init : MethodName := ⟨RX3, "<init>", "(I)V"⟩
abbrev cX3_size : ByteArray := prog_5_method_2_code
def yX3_size : MethodName := ⟨RX3, "size", "()I"⟩
abbrev cX3_holds : ByteArray := prog_5_method_3_code
def yX3_holds : MethodName := ⟨RX3, "holds", "(I)Z"⟩
abbrev cX3_get : ByteArray := prog_5_method_4_code
def yX3_get : MethodName := ⟨RX3, "get", "(I)I"⟩
abbrev cX3_set : ByteArray := prog_5_method_5_code
def yX3_set : MethodName := ⟨RX3, "set", "(II)V"⟩
abbrev cX3_add : ByteArray := prog_5_method_6_code
def yX3_add : MethodName := ⟨RX3, "add", "(I)V"⟩
abbrev cX3_insert : ByteArray := prog_5_method_7_code
def yX3_insert : MethodName := ⟨RX3, "insert", "(II)V"⟩
abbrev cX3_remove : ByteArray := prog_5_method_8_code
def yX3_remove : MethodName := ⟨RX3, "remove", "(I)I"⟩
abbrev cX3_clear : ByteArray := prog_5_method_9_code
def yX3_clear : MethodName := ⟨RX3, "clear", "()V"⟩
abbrev cX3_placeOf : ByteArray := prog_5_method_10_code
def yX3_placeOf : MethodName := ⟨RX3, "placeOf", "(I)I"⟩
abbrev cX3_count : ByteArray := prog_5_method_11_code
def yX3_count : MethodName := ⟨RX3, "count", "(I)I"⟩
abbrev cX3_isLike : ByteArray := prog_5_method_12_code
def yX3_isLike : MethodName := ⟨RX3, "isLike", "(LBookinghouse$Row;)Z"⟩
def RX4 : String := "Bookinghouse"
def TX4 : u_T := fun k => match k with
  | 0 => ("Bookinghouse", "ledger", "LBookinghouse$Ledger;", true)
  | 1 => ("Bookinghouse", "houses", "[LBookinghouse$House;", true)
  | _ => ("Bookinghouse", "rebuilt", "LBookinghouse$Crowd;", true)
def tyX4 : Nat → FieldType := fun k => match k with
  | 0 => .object "Bookinghouse$Ledger"
  | 1 => .array (.object "Bookinghouse$House")
  | _ => .object "Bookinghouse$Crowd"
abbrev wsX40 : List Cond := u_ws RX4 TX4 3
theorem nmX4 : ∀ a, a < 3 → ∀ b, b < 3 → a ≠ b → (TX4 a).2.1 ≠ (TX4 b).2.1 := by decide +kernel
theorem tyX4_ok : ∀ k, k < 3 → parseFieldDescriptor (TX4 k).2.2.1 = some (tyX4 k) := by decide +kernel
abbrev cX4_init : ByteArray := prog_1_method_1_code
def yX4_init : MethodName := ⟨RX4, "<init>", "()V"⟩
abbrev cX4_book : ByteArray := prog_1_method_2_code
def yX4_book : MethodName := ⟨RX4, "book", "(IIII)I"⟩
abbrev cX4_series : ByteArray := prog_1_method_3_code
def yX4_series : MethodName := ⟨RX4, "series", "(IIIIII)I"⟩
abbrev cX4_callOff : ByteArray := prog_1_method_4_code
def yX4_callOff : MethodName := ⟨RX4, "callOff", "(II)Z"⟩
abbrev cX4_callOffAll : ByteArray := prog_1_method_5_code
def yX4_callOffAll : MethodName := ⟨RX4, "callOffAll", "(III)I"⟩
abbrev cX4_put : ByteArray := prog_1_method_6_code
def yX4_put : MethodName := ⟨RX4, "put", "(III)I"⟩
abbrev cX4_join : ByteArray := prog_1_method_7_code
def yX4_join : MethodName := ⟨RX4, "join", "(II)I"⟩
abbrev cX4_part : ByteArray := prog_1_method_8_code
def yX4_part : MethodName := ⟨RX4, "part", "(III)I"⟩
abbrev cX4_next : ByteArray := prog_1_method_9_code
def yX4_next : MethodName := ⟨RX4, "next", "(I)I"⟩
abbrev cX4_run : ByteArray := prog_1_method_10_code
def yX4_run : MethodName := ⟨RX4, "run", "(II)I"⟩
abbrev cX4_back : ByteArray := prog_1_method_11_code
def yX4_back : MethodName := ⟨RX4, "back", "(II)I"⟩
abbrev cX4_clock : ByteArray := prog_1_method_12_code
def yX4_clock : MethodName := ⟨RX4, "clock", "(I)I"⟩
abbrev cX4_waiting : ByteArray := prog_1_method_13_code
def yX4_waiting : MethodName := ⟨RX4, "waiting", "(I)I"⟩
abbrev cX4_came : ByteArray := prog_1_method_14_code
def yX4_came : MethodName := ⟨RX4, "came", "(I)I"⟩
abbrev cX4_waits : ByteArray := prog_1_method_15_code
def yX4_waits : MethodName := ⟨RX4, "waits", "(II)I"⟩
abbrev cX4_cameAt : ByteArray := prog_1_method_16_code
def yX4_cameAt : MethodName := ⟨RX4, "cameAt", "(II)I"⟩
abbrev cX4_nextTime : ByteArray := prog_1_method_17_code
def yX4_nextTime : MethodName := ⟨RX4, "nextTime", "(II)I"⟩
abbrev cX4_about : ByteArray := prog_1_method_18_code
def yX4_about : MethodName := ⟨RX4, "about", "(IC)J"⟩
abbrev cX4_crowd : ByteArray := prog_1_method_19_code
def yX4_crowd : MethodName := ⟨RX4, "crowd", "(II)I"⟩
abbrev cX4_change : ByteArray := prog_1_method_20_code
def yX4_change : MethodName := ⟨RX4, "change", "(II)I"⟩
abbrev cX4_greatest : ByteArray := prog_1_method_21_code
def yX4_greatest : MethodName := ⟨RX4, "greatest", "(I)I"⟩
abbrev cX4_greatestFrom : ByteArray := prog_1_method_22_code
def yX4_greatestFrom : MethodName := ⟨RX4, "greatestFrom", "(I)I"⟩
abbrev cX4_busy : ByteArray := prog_1_method_23_code
def yX4_busy : MethodName := ⟨RX4, "busy", "(III)I"⟩
abbrev cX4_spans : ByteArray := prog_1_method_24_code
def yX4_spans : MethodName := ⟨RX4, "spans", "(I)I"⟩
abbrev cX4_span : ByteArray := prog_1_method_25_code
def yX4_span : MethodName := ⟨RX4, "span", "(IIC)I"⟩
abbrev cX4_free : ByteArray := prog_1_method_26_code
def yX4_free : MethodName := ⟨RX4, "free", "(III)I"⟩
abbrev cX4_load : ByteArray := prog_1_method_27_code
def yX4_load : MethodName := ⟨RX4, "load", "(I)J"⟩
abbrev cX4_mean : ByteArray := prog_1_method_28_code
def yX4_mean : MethodName := ⟨RX4, "mean", "(I)D"⟩
abbrev cX4_share : ByteArray := prog_1_method_29_code
def yX4_share : MethodName := ⟨RX4, "share", "(I)F"⟩
abbrev cX4_isQuiet : ByteArray := prog_1_method_30_code
def yX4_isQuiet : MethodName := ⟨RX4, "isQuiet", "(I)Z"⟩
abbrev cX4_checksum : ByteArray := prog_1_method_31_code
def yX4_checksum : MethodName := ⟨RX4, "checksum", "()J"⟩
abbrev cX4_isSound : ByteArray := prog_1_method_32_code
def yX4_isSound : MethodName := ⟨RX4, "isSound", "()Z"⟩
abbrev cX4_houseAt : ByteArray := prog_1_method_33_code
def yX4_houseAt : MethodName := ⟨RX4, "houseAt", "(I)LBookinghouse$House;"⟩
abbrev cX4_refuseIfNoRoom : ByteArray := prog_1_method_34_code
def yX4_refuseIfNoRoom : MethodName := ⟨RX4, "refuseIfNoRoom", "(LBookinghouse$House;II)V"⟩
abbrev cX4_refuseIfNoTime : ByteArray := prog_1_method_35_code
def yX4_refuseIfNoTime : MethodName := ⟨RX4, "refuseIfNoTime", "(I)V"⟩
abbrev cX4_refuseIfTurned : ByteArray := prog_1_method_36_code
def yX4_refuseIfTurned : MethodName := ⟨RX4, "refuseIfTurned", "(II)V"⟩
abbrev cX4_refuseIfSame : ByteArray := prog_1_method_37_code
def yX4_refuseIfSame : MethodName := ⟨RX4, "refuseIfSame", "(II)V"⟩
abbrev cX4_itemAt : ByteArray := prog_1_method_38_code
def yX4_itemAt : MethodName := ⟨RX4, "itemAt", "(LBookinghouse$Row;I)I"⟩
abbrev cX4_isIn : ByteArray := prog_1_method_39_code
def yX4_isIn : MethodName := ⟨RX4, "isIn", "(III)Z"⟩
abbrev cX4_isTime : ByteArray := prog_1_method_40_code
def yX4_isTime : MethodName := ⟨RX4, "isTime", "(I)Z"⟩
abbrev cX4_isSpan : ByteArray := prog_1_method_41_code
def yX4_isSpan : MethodName := ⟨RX4, "isSpan", "(I)Z"⟩
abbrev cX4_isWeight : ByteArray := prog_1_method_42_code
def yX4_isWeight : MethodName := ⟨RX4, "isWeight", "(I)Z"⟩
abbrev cX4_make : ByteArray := prog_1_method_43_code
def yX4_make : MethodName := ⟨RX4, "make", "(LBookinghouse$House;III)I"⟩
abbrev cX4_enqueue : ByteArray := prog_1_method_44_code
def yX4_enqueue : MethodName := ⟨RX4, "enqueue", "(LBookinghouse$House;I)V"⟩
abbrev cX4_callOffPlace : ByteArray := prog_1_method_45_code
def yX4_callOffPlace : MethodName := ⟨RX4, "callOffPlace", "(LBookinghouse$House;I)V"⟩
abbrev cX4_move : ByteArray := prog_1_method_46_code
def yX4_move : MethodName := ⟨RX4, "move", "(LBookinghouse$House;ILBookinghouse$House;)I"⟩
abbrev cX4_letFirstCome : ByteArray := prog_1_method_47_code
def yX4_letFirstCome : MethodName := ⟨RX4, "letFirstCome", "(LBookinghouse$House;)I"⟩
abbrev cX4_bringLastBack : ByteArray := prog_1_method_48_code
def yX4_bringLastBack : MethodName := ⟨RX4, "bringLastBack", "(LBookinghouse$House;)V"⟩
abbrev cX4_waitingAheadOf : ByteArray := prog_1_method_49_code
def yX4_waitingAheadOf : MethodName := ⟨RX4, "waitingAheadOf", "(LBookinghouse$House;I)I"⟩
abbrev cX4_cameBehind : ByteArray := prog_1_method_50_code
def yX4_cameBehind : MethodName := ⟨RX4, "cameBehind", "(LBookinghouse$House;I)I"⟩
abbrev cX4_withHouse : ByteArray := prog_1_method_51_code
def yX4_withHouse : MethodName := ⟨RX4, "withHouse", "(JLBookinghouse$House;)J"⟩
abbrev cX4_withRow : ByteArray := prog_1_method_52_code
def yX4_withRow : MethodName := ⟨RX4, "withRow", "(JLBookinghouse$Row;)J"⟩
abbrev cX4_isOneThingOnce : ByteArray := prog_1_method_53_code
def yX4_isOneThingOnce : MethodName := ⟨RX4, "isOneThingOnce", "(I)Z"⟩
abbrev cX4_isSplitByClock : ByteArray := prog_1_method_54_code
def yX4_isSplitByClock : MethodName := ⟨RX4, "isSplitByClock", "(LBookinghouse$House;)Z"⟩
abbrev cX4_standsWithAllOthers : ByteArray := prog_1_method_55_code
def yX4_standsWithAllOthers : MethodName := ⟨RX4, "standsWithAllOthers", "(LBookinghouse$House;)Z"⟩
abbrev cX4_standInSequence : ByteArray := prog_1_method_56_code
def yX4_standInSequence : MethodName := ⟨RX4, "standInSequence", "(LBookinghouse$Row;LBookinghouse$Row;)Z"⟩
abbrev cX4_crowdIsOfThoseThatCame : ByteArray := prog_1_method_57_code
def yX4_crowdIsOfThoseThatCame : MethodName := ⟨RX4, "crowdIsOfThoseThatCame", "(LBookinghouse$House;)Z"⟩
def RX5 : String := "BookinghouseModel"
def TX5 : u_T := fun k => match k with
  | 0 => ("BookinghouseModel", "thrown", "I", false)
  | 1 => ("BookinghouseModel", "made", "I", false)
  | 2 => ("BookinghouseModel", "stamp", "I", false)
  | 3 => ("BookinghouseModel", "time", "[I", true)
  | 4 => ("BookinghouseModel", "span", "[I", true)
  | 5 => ("BookinghouseModel", "weight", "[I", true)
  | 6 => ("BookinghouseModel", "home", "[I", true)
  | 7 => ("BookinghouseModel", "state", "[I", true)
  | 8 => ("BookinghouseModel", "came", "[I", true)
  | 9 => ("BookinghouseModel", "clock", "[I", true)
  | _ => ("BookinghouseModel", "sum", "J", false)
def tyX5 : Nat → FieldType := fun k => match k with
  | 0 => .int
  | 1 => .int
  | 2 => .int
  | 3 => .array .int
  | 4 => .array .int
  | 5 => .array .int
  | 6 => .array .int
  | 7 => .array .int
  | 8 => .array .int
  | 9 => .array .int
  | _ => .long
abbrev wsX50 : List Cond := u_ws RX5 TX5 11
theorem nmX5 : ∀ a, a < 11 → ∀ b, b < 11 → a ≠ b → (TX5 a).2.1 ≠ (TX5 b).2.1 := by decide +kernel
theorem tyX5_ok : ∀ k, k < 11 → parseFieldDescriptor (TX5 k).2.2.1 = some (tyX5 k) := by decide +kernel
abbrev cX5_init : ByteArray := prog_7_method_1_code
def yX5_init : MethodName := ⟨RX5, "<init>", "()V"⟩
abbrev cX5_thrown : ByteArray := prog_7_method_2_code
def yX5_thrown : MethodName := ⟨RX5, "thrown", "()I"⟩
abbrev cX5_isThrown : ByteArray := prog_7_method_3_code
def yX5_isThrown : MethodName := ⟨RX5, "isThrown", "(ZI)Z"⟩
abbrev cX5_isHouse : ByteArray := prog_7_method_4_code
def yX5_isHouse : MethodName := ⟨RX5, "isHouse", "(I)Z"⟩
abbrev cX5_isIn : ByteArray := prog_7_method_5_code
def yX5_isIn : MethodName := ⟨RX5, "isIn", "(III)Z"⟩
abbrev cX5_many : ByteArray := prog_7_method_6_code
def yX5_many : MethodName := ⟨RX5, "many", "(II)I"⟩
abbrev cX5_isAhead : ByteArray := prog_7_method_7_code
def yX5_isAhead : MethodName := ⟨RX5, "isAhead", "(II)Z"⟩
abbrev cX5_behind : ByteArray := prog_7_method_8_code
def yX5_behind : MethodName := ⟨RX5, "behind", "(II)I"⟩
abbrev cX5_first : ByteArray := prog_7_method_9_code
def yX5_first : MethodName := ⟨RX5, "first", "(I)I"⟩
abbrev cX5_isWaiting : ByteArray := prog_7_method_10_code
def yX5_isWaiting : MethodName := ⟨RX5, "isWaiting", "(II)Z"⟩
abbrev cX5_makes : ByteArray := prog_7_method_11_code
def yX5_makes : MethodName := ⟨RX5, "makes", "(IIII)I"⟩
abbrev cX5_book : ByteArray := prog_7_method_12_code
def yX5_book : MethodName := ⟨RX5, "book", "(IIII)I"⟩
abbrev cX5_series : ByteArray := prog_7_method_13_code
def yX5_series : MethodName := ⟨RX5, "series", "(IIIIII)I"⟩
abbrev cX5_callOff : ByteArray := prog_7_method_14_code
def yX5_callOff : MethodName := ⟨RX5, "callOff", "(II)Z"⟩
abbrev cX5_callOffAll : ByteArray := prog_7_method_15_code
def yX5_callOffAll : MethodName := ⟨RX5, "callOffAll", "(III)I"⟩
abbrev cX5_put : ByteArray := prog_7_method_16_code
def yX5_put : MethodName := ⟨RX5, "put", "(III)I"⟩
abbrev cX5_moved : ByteArray := prog_7_method_17_code
def yX5_moved : MethodName := ⟨RX5, "moved", "(IIIIZ)I"⟩
abbrev cX5_goes : ByteArray := prog_7_method_18_code
def yX5_goes : MethodName := ⟨RX5, "goes", "(III)I"⟩
abbrev cX5_join : ByteArray := prog_7_method_19_code
def yX5_join : MethodName := ⟨RX5, "join", "(II)I"⟩
abbrev cX5_part : ByteArray := prog_7_method_20_code
def yX5_part : MethodName := ⟨RX5, "part", "(III)I"⟩
abbrev cX5_comes : ByteArray := prog_7_method_21_code
def yX5_comes : MethodName := ⟨RX5, "comes", "(I)V"⟩
abbrev cX5_next : ByteArray := prog_7_method_22_code
def yX5_next : MethodName := ⟨RX5, "next", "(I)I"⟩
abbrev cX5_run : ByteArray := prog_7_method_23_code
def yX5_run : MethodName := ⟨RX5, "run", "(II)I"⟩
abbrev cX5_back : ByteArray := prog_7_method_24_code
def yX5_back : MethodName := ⟨RX5, "back", "(II)I"⟩
abbrev cX5_clock : ByteArray := prog_7_method_25_code
def yX5_clock : MethodName := ⟨RX5, "clock", "(I)I"⟩
abbrev cX5_waiting : ByteArray := prog_7_method_26_code
def yX5_waiting : MethodName := ⟨RX5, "waiting", "(I)I"⟩
abbrev cX5_came : ByteArray := prog_7_method_27_code
def yX5_came : MethodName := ⟨RX5, "came", "(I)I"⟩
abbrev cX5_cameBehind : ByteArray := prog_7_method_28_code
def yX5_cameBehind : MethodName := ⟨RX5, "cameBehind", "(II)I"⟩
abbrev cX5_waits : ByteArray := prog_7_method_29_code
def yX5_waits : MethodName := ⟨RX5, "waits", "(II)I"⟩
abbrev cX5_cameAt : ByteArray := prog_7_method_30_code
def yX5_cameAt : MethodName := ⟨RX5, "cameAt", "(II)I"⟩
abbrev cX5_nextTime : ByteArray := prog_7_method_31_code
def yX5_nextTime : MethodName := ⟨RX5, "nextTime", "(II)I"⟩
abbrev cX5_about : ByteArray := prog_7_method_32_code
def yX5_about : MethodName := ⟨RX5, "about", "(IC)J"⟩
abbrev cX5_isOf : ByteArray := prog_7_method_33_code
def yX5_isOf : MethodName := ⟨RX5, "isOf", "(II)Z"⟩
abbrev cX5_crowdAt : ByteArray := prog_7_method_34_code
def yX5_crowdAt : MethodName := ⟨RX5, "crowdAt", "(II)I"⟩
abbrev cX5_changeAt : ByteArray := prog_7_method_35_code
def yX5_changeAt : MethodName := ⟨RX5, "changeAt", "(II)I"⟩
abbrev cX5_busyFrom : ByteArray := prog_7_method_36_code
def yX5_busyFrom : MethodName := ⟨RX5, "busyFrom", "(II)I"⟩
abbrev cX5_idleFrom : ByteArray := prog_7_method_37_code
def yX5_idleFrom : MethodName := ⟨RX5, "idleFrom", "(II)I"⟩
abbrev cX5_greatestIn : ByteArray := prog_7_method_38_code
def yX5_greatestIn : MethodName := ⟨RX5, "greatestIn", "(III)I"⟩
abbrev cX5_crowd : ByteArray := prog_7_method_39_code
def yX5_crowd : MethodName := ⟨RX5, "crowd", "(II)I"⟩
abbrev cX5_change : ByteArray := prog_7_method_40_code
def yX5_change : MethodName := ⟨RX5, "change", "(II)I"⟩
abbrev cX5_greatest : ByteArray := prog_7_method_41_code
def yX5_greatest : MethodName := ⟨RX5, "greatest", "(I)I"⟩
abbrev cX5_greatestFrom : ByteArray := prog_7_method_42_code
def yX5_greatestFrom : MethodName := ⟨RX5, "greatestFrom", "(I)I"⟩
abbrev cX5_busyIn : ByteArray := prog_7_method_43_code
def yX5_busyIn : MethodName := ⟨RX5, "busyIn", "(III)I"⟩
abbrev cX5_busy : ByteArray := prog_7_method_44_code
def yX5_busy : MethodName := ⟨RX5, "busy", "(III)I"⟩
abbrev cX5_spans : ByteArray := prog_7_method_45_code
def yX5_spans : MethodName := ⟨RX5, "spans", "(I)I"⟩
abbrev cX5_span : ByteArray := prog_7_method_46_code
def yX5_span : MethodName := ⟨RX5, "span", "(IIC)I"⟩
abbrev cX5_free : ByteArray := prog_7_method_47_code
def yX5_free : MethodName := ⟨RX5, "free", "(III)I"⟩
abbrev cX5_loadOf : ByteArray := prog_7_method_48_code
def yX5_loadOf : MethodName := ⟨RX5, "loadOf", "(I)J"⟩
abbrev cX5_load : ByteArray := prog_7_method_49_code
def yX5_load : MethodName := ⟨RX5, "load", "(I)J"⟩
abbrev cX5_mean : ByteArray := prog_7_method_50_code
def yX5_mean : MethodName := ⟨RX5, "mean", "(I)D"⟩
abbrev cX5_share : ByteArray := prog_7_method_51_code
def yX5_share : MethodName := ⟨RX5, "share", "(I)F"⟩
abbrev cX5_isQuiet : ByteArray := prog_7_method_52_code
def yX5_isQuiet : MethodName := ⟨RX5, "isQuiet", "(I)Z"⟩
abbrev cX5_adds : ByteArray := prog_7_method_53_code
def yX5_adds : MethodName := ⟨RX5, "adds", "(J)V"⟩
abbrev cX5_turnBehind : ByteArray := prog_7_method_54_code
def yX5_turnBehind : MethodName := ⟨RX5, "turnBehind", "(II)I"⟩
abbrev cX5_checksum : ByteArray := prog_7_method_55_code
def yX5_checksum : MethodName := ⟨RX5, "checksum", "()J"⟩
abbrev cX5_isSound : ByteArray := prog_7_method_56_code
def yX5_isSound : MethodName := ⟨RX5, "isSound", "()Z"⟩
def RJx145de : String := "java/io/Serializable"
def TJx145de : u_T := fun k => match k with
  | _ => ("", "", "", false)
def tyJx145de : Nat → FieldType := fun k => match k with
  | _ => .int
abbrev wsJx145de0 : List Cond := u_ws RJx145de TJx145de 0
theorem nmJx145de : ∀ a, a < 0 → ∀ b, b < 0 → a ≠ b → (TJx145de a).2.1 ≠ (TJx145de b).2.1 := by decide +kernel
theorem tyJx145de_ok : ∀ k, k < 0 → parseFieldDescriptor (TJx145de k).2.2.1 = some (tyJx145de k) := by decide +kernel
def RJx00060 : String := "java/lang/ArrayIndexOutOfBoundsException"
def TJx00060 : u_T := fun k => match k with
  | 0 => ("java/lang/Throwable", "backtrace", "Ljava/lang/Object;", false)
  | 1 => ("java/lang/Throwable", "detailMessage", "Ljava/lang/String;", false)
  | 2 => ("java/lang/Throwable", "cause", "Ljava/lang/Throwable;", false)
  | 3 => ("java/lang/Throwable", "stackTrace", "[Ljava/lang/StackTraceElement;", false)
  | 4 => ("java/lang/Throwable", "depth", "I", false)
  | _ => ("java/lang/Throwable", "suppressedExceptions", "Ljava/util/List;", false)
def tyJx00060 : Nat → FieldType := fun k => match k with
  | 0 => .object "java/lang/Object"
  | 1 => .object "java/lang/String"
  | 2 => .object "java/lang/Throwable"
  | 3 => .array (.object "java/lang/StackTraceElement")
  | 4 => .int
  | _ => .object "java/util/List"
abbrev wsJx000600 : List Cond := u_ws RJx00060 TJx00060 6
theorem nmJx00060 : ∀ a, a < 6 → ∀ b, b < 6 → a ≠ b → (TJx00060 a).2.1 ≠ (TJx00060 b).2.1 := by decide +kernel
theorem tyJx00060_ok : ∀ k, k < 6 → parseFieldDescriptor (TJx00060 k).2.2.1 = some (tyJx00060 k) := by decide +kernel
abbrev cJx00060_init_a7421 : ByteArray := prog_10_method_2_code
def yJx00060_init_a7421 : MethodName := ⟨RJx00060, "<init>", "(Ljava/lang/String;)V"⟩
def RJ9 : String := "java/lang/Math"
def TJ9 : u_T := fun k => match k with
  | _ => ("", "", "", false)
def tyJ9 : Nat → FieldType := fun k => match k with
  | _ => .int
abbrev wsJ90 : List Cond := u_ws RJ9 TJ9 0
theorem nmJ9 : ∀ a, a < 0 → ∀ b, b < 0 → a ≠ b → (TJ9 a).2.1 ≠ (TJ9 b).2.1 := by decide +kernel
theorem tyJ9_ok : ∀ k, k < 0 → parseFieldDescriptor (TJ9 k).2.2.1 = some (tyJ9 k) := by decide +kernel
abbrev cJ9_max_7cf53 : ByteArray := prog_15_method_65_code
def yJ9_max_7cf53 : MethodName := ⟨RJ9, "max", "(II)I"⟩
abbrev cJ9_min_7cf53 : ByteArray := prog_15_method_69_code
def yJ9_min_7cf53 : MethodName := ⟨RJ9, "min", "(II)I"⟩
def RJ0 : String := "java/lang/String"
def TJ0 : u_T := fun k => match k with
  | 0 => ("java/lang/String", "value", "[B", true)
  | _ => ("java/lang/String", "coder", "B", true)
def tyJ0 : Nat → FieldType := fun k => match k with
  | 0 => .array .byte
  | _ => .byte
abbrev wsJ00 : List Cond := u_ws RJ0 TJ0 2
theorem nmJ0 : ∀ a, a < 2 → ∀ b, b < 2 → a ≠ b → (TJ0 a).2.1 ≠ (TJ0 b).2.1 := by decide +kernel
theorem tyJ0_ok : ∀ k, k < 2 → parseFieldDescriptor (TJ0 k).2.2.1 = some (tyJ0 k) := by decide +kernel
def RJ10 : String := "java/lang/System"
def TJ10 : u_T := fun k => match k with
  | _ => ("", "", "", false)
def tyJ10 : Nat → FieldType := fun k => match k with
  | _ => .int
abbrev wsJ100 : List Cond := u_ws RJ10 TJ10 0
theorem nmJ10 : ∀ a, a < 0 → ∀ b, b < 0 → a ≠ b → (TJ10 a).2.1 ≠ (TJ10 b).2.1 := by decide +kernel
theorem tyJ10_ok : ∀ k, k < 0 → parseFieldDescriptor (TJ10 k).2.2.1 = some (tyJ10 k) := by decide +kernel
def RL : String := "BookinghouseLaw"
abbrev cL_book : ByteArray := method_3_code
def yL_book : MethodName := ⟨RL, "book", "(LBookinghouse;IIII[J)I"⟩
abbrev cL_series : ByteArray := method_4_code
def yL_series : MethodName := ⟨RL, "series", "(LBookinghouse;IIIIII[J)I"⟩
abbrev cL_callOff : ByteArray := method_5_code
def yL_callOff : MethodName := ⟨RL, "callOff", "(LBookinghouse;II[J)I"⟩
abbrev cL_callOffAll : ByteArray := method_6_code
def yL_callOffAll : MethodName := ⟨RL, "callOffAll", "(LBookinghouse;III[J)I"⟩
abbrev cL_put : ByteArray := method_7_code
def yL_put : MethodName := ⟨RL, "put", "(LBookinghouse;III[J)I"⟩
abbrev cL_join : ByteArray := method_8_code
def yL_join : MethodName := ⟨RL, "join", "(LBookinghouse;II[J)I"⟩
abbrev cL_part : ByteArray := method_9_code
def yL_part : MethodName := ⟨RL, "part", "(LBookinghouse;III[J)I"⟩
abbrev cL_next : ByteArray := method_10_code
def yL_next : MethodName := ⟨RL, "next", "(LBookinghouse;I[J)I"⟩
abbrev cL_run : ByteArray := method_11_code
def yL_run : MethodName := ⟨RL, "run", "(LBookinghouse;II[J)I"⟩
abbrev cL_back : ByteArray := method_12_code
def yL_back : MethodName := ⟨RL, "back", "(LBookinghouse;II[J)I"⟩
abbrev cL_clock : ByteArray := method_13_code
def yL_clock : MethodName := ⟨RL, "clock", "(LBookinghouse;I[J)I"⟩
abbrev cL_waiting : ByteArray := method_14_code
def yL_waiting : MethodName := ⟨RL, "waiting", "(LBookinghouse;I[J)I"⟩
abbrev cL_came : ByteArray := method_15_code
def yL_came : MethodName := ⟨RL, "came", "(LBookinghouse;I[J)I"⟩
abbrev cL_waits : ByteArray := method_16_code
def yL_waits : MethodName := ⟨RL, "waits", "(LBookinghouse;II[J)I"⟩
abbrev cL_cameAt : ByteArray := method_17_code
def yL_cameAt : MethodName := ⟨RL, "cameAt", "(LBookinghouse;II[J)I"⟩
abbrev cL_nextTime : ByteArray := method_18_code
def yL_nextTime : MethodName := ⟨RL, "nextTime", "(LBookinghouse;II[J)I"⟩
abbrev cL_about : ByteArray := method_19_code
def yL_about : MethodName := ⟨RL, "about", "(LBookinghouse;IC[J)I"⟩
abbrev cL_crowd : ByteArray := method_20_code
def yL_crowd : MethodName := ⟨RL, "crowd", "(LBookinghouse;II[J)I"⟩
abbrev cL_change : ByteArray := method_21_code
def yL_change : MethodName := ⟨RL, "change", "(LBookinghouse;II[J)I"⟩
abbrev cL_greatest : ByteArray := method_22_code
def yL_greatest : MethodName := ⟨RL, "greatest", "(LBookinghouse;I[J)I"⟩
abbrev cL_greatestFrom : ByteArray := method_23_code
def yL_greatestFrom : MethodName := ⟨RL, "greatestFrom", "(LBookinghouse;I[J)I"⟩
abbrev cL_busy : ByteArray := method_24_code
def yL_busy : MethodName := ⟨RL, "busy", "(LBookinghouse;III[J)I"⟩
abbrev cL_spans : ByteArray := method_25_code
def yL_spans : MethodName := ⟨RL, "spans", "(LBookinghouse;I[J)I"⟩
abbrev cL_span : ByteArray := method_26_code
def yL_span : MethodName := ⟨RL, "span", "(LBookinghouse;IIC[J)I"⟩
abbrev cL_free : ByteArray := method_27_code
def yL_free : MethodName := ⟨RL, "free", "(LBookinghouse;III[J)I"⟩
abbrev cL_load : ByteArray := method_28_code
def yL_load : MethodName := ⟨RL, "load", "(LBookinghouse;I[J)I"⟩
abbrev cL_mean : ByteArray := method_29_code
def yL_mean : MethodName := ⟨RL, "mean", "(LBookinghouse;I[D)I"⟩
abbrev cL_share : ByteArray := method_30_code
def yL_share : MethodName := ⟨RL, "share", "(LBookinghouse;I[D)I"⟩
abbrev cL_isQuiet : ByteArray := method_31_code
def yL_isQuiet : MethodName := ⟨RL, "isQuiet", "(LBookinghouse;I[J)I"⟩
abbrev cL_law : ByteArray := code
def yL_law : MethodName := ⟨RL, "law", "([I)Z"⟩
def wsX3_init : List Cond := .code yX3_init cX3_init 2 none :: ([.methodLink RX3 1 objectInit, .instanceMethod objectInit, .code objectInit ⟨#[0xb1]⟩ 1 none, .methodLink RX3 7 Lib.Math.max.name, .static Lib.Math.max.name, .initialized "java/lang/Math", .code Lib.Math.max.name Lib.Math.max.code 2 (some .int), .arrayClass .int, .fieldLink RX3 13 "Bookinghouse$Row" "items" "[I"] ++ wsX30)
def wsX0_init : List Cond := .code yX0_init cX0_init 1 none :: ([.methodLink RX0 3 objectInit, .instanceMethod objectInit, .code objectInit ⟨#[0xb1]⟩ 1 none, .classLink RX0 9 RX3, .instantiable RX3 2, .initialized RX3, .fieldLink RX0 14 "Bookinghouse$Crowd" "times" "LBookinghouse$Row;", .fieldLink RX0 20 "Bookinghouse$Crowd" "changes" "LBookinghouse$Row;", .methodLink RX0 11 yX3_init, .instanceMethod yX3_init, .code yX3_init cX3_init 2 none, .methodLink RX3 1 objectInit, .methodLink RX3 7 Lib.Math.max.name, .static Lib.Math.max.name, .initialized "java/lang/Math", .code Lib.Math.max.name Lib.Math.max.code 2 (some .int), .arrayClass .int, .fieldLink RX3 13 "Bookinghouse$Row" "items" "[I"] ++ wsX30 ++ wsX00)
def wsX3_clear : List Cond := .code yX3_clear cX3_clear 1 none :: ([.fieldLink RX3 19 "Bookinghouse$Row" "size" "I"] ++ wsX30)
def wsX0_clear : List Cond := .code yX0_clear cX0_clear 1 none :: ([.fieldLink RX0 14 "Bookinghouse$Crowd" "times" "LBookinghouse$Row;", .fieldLink RX0 20 "Bookinghouse$Crowd" "changes" "LBookinghouse$Row;", .methodLink RX0 23 yX3_clear, .instanceMethod yX3_clear, .selects RX3 yX3_clear yX3_clear, .initialized RX3, .code yX3_clear cX3_clear 1 none, .fieldLink RX3 19 "Bookinghouse$Row" "size" "I"] ++ wsX00 ++ wsX30)
def wsX3_size : List Cond := .code yX3_size cX3_size 1 (some .int) :: ([.fieldLink RX3 19 "Bookinghouse$Row" "size" "I"] ++ wsX30)
def wsX0_isEmpty : List Cond := .code yX0_isEmpty cX0_isEmpty 1 (some .boolean) :: ([.fieldLink RX0 14 "Bookinghouse$Crowd" "times" "LBookinghouse$Row;", .methodLink RX0 26 yX3_size, .instanceMethod yX3_size, .selects RX3 yX3_size yX3_size, .initialized RX3, .code yX3_size cX3_size 1 (some .int), .fieldLink RX3 19 "Bookinghouse$Row" "size" "I"] ++ wsX00 ++ wsX30)
def wsX3_holds : List Cond := .code yX3_holds cX3_holds 2 (some .boolean) :: ([.fieldLink RX3 19 "Bookinghouse$Row" "size" "I", .fieldLink RX3 13 "Bookinghouse$Row" "items" "[I"] ++ wsX30)
def wsX3_get : List Cond := .code yX3_get cX3_get 2 (some .int) :: ([.fieldLink RX3 13 "Bookinghouse$Row" "items" "[I", .methodLink RX3 23 yX3_holds, .instanceMethod yX3_holds, .selects RX3 yX3_holds yX3_holds, .initialized RX3, .code yX3_holds cX3_holds 2 (some .boolean), .fieldLink RX3 19 "Bookinghouse$Row" "size" "I"] ++ wsX30 ++ (vx_atM "java/lang/ArrayIndexOutOfBoundsException" ["java/lang/IndexOutOfBoundsException", "java/lang/RuntimeException", "java/lang/Exception"]).filter goodWord)
def wsX3_isLike : List Cond := .code yX3_isLike cX3_isLike 3 (some .boolean) :: ([.fieldLink RX3 19 "Bookinghouse$Row" "size" "I", .methodLink RX3 37 yX3_get, .instanceMethod yX3_get, .selects RX3 yX3_get yX3_get, .initialized RX3, .code yX3_get cX3_get 2 (some .int), .fieldLink RX3 13 "Bookinghouse$Row" "items" "[I", .methodLink RX3 23 yX3_holds, .instanceMethod yX3_holds, .selects RX3 yX3_holds yX3_holds, .code yX3_holds cX3_holds 2 (some .boolean)] ++ wsX30 ++ (vx_atM "java/lang/ArrayIndexOutOfBoundsException" ["java/lang/IndexOutOfBoundsException", "java/lang/RuntimeException", "java/lang/Exception"]).filter goodWord)
def wsX0_isLike : List Cond := .code yX0_isLike cX0_isLike 2 (some .boolean) :: ([.fieldLink RX0 14 "Bookinghouse$Crowd" "times" "LBookinghouse$Row;", .fieldLink RX0 20 "Bookinghouse$Crowd" "changes" "LBookinghouse$Row;", .methodLink RX0 30 yX3_isLike, .instanceMethod yX3_isLike, .selects RX3 yX3_isLike yX3_isLike, .initialized RX3, .code yX3_isLike cX3_isLike 3 (some .boolean), .fieldLink RX3 19 "Bookinghouse$Row" "size" "I", .methodLink RX3 37 yX3_get, .instanceMethod yX3_get, .selects RX3 yX3_get yX3_get, .code yX3_get cX3_get 2 (some .int), .fieldLink RX3 13 "Bookinghouse$Row" "items" "[I", .methodLink RX3 23 yX3_holds, .instanceMethod yX3_holds, .selects RX3 yX3_holds yX3_holds, .code yX3_holds cX3_holds 2 (some .boolean)] ++ wsX00 ++ wsX30 ++ (vx_atM "java/lang/ArrayIndexOutOfBoundsException" ["java/lang/IndexOutOfBoundsException", "java/lang/RuntimeException", "java/lang/Exception"]).filter goodWord)
def wsX3_insert : List Cond := .code yX3_insert cX3_insert 3 none :: ([.fieldLink RX3 19 "Bookinghouse$Row" "size" "I", .fieldLink RX3 13 "Bookinghouse$Row" "items" "[I", .methodLink RX3 31 arraycopyName, .native arraycopyName, .static arraycopyName, .initialized "java/lang/System"] ++ wsX30 ++ (vx_atM "java/lang/ArrayIndexOutOfBoundsException" ["java/lang/IndexOutOfBoundsException", "java/lang/RuntimeException", "java/lang/Exception"]).filter goodWord)
def wsX3_remove : List Cond := .code yX3_remove cX3_remove 3 (some .int) :: ([.fieldLink RX3 13 "Bookinghouse$Row" "items" "[I", .fieldLink RX3 19 "Bookinghouse$Row" "size" "I", .methodLink RX3 31 arraycopyName, .native arraycopyName, .static arraycopyName, .initialized "java/lang/System", .methodLink RX3 23 yX3_holds, .instanceMethod yX3_holds, .selects RX3 yX3_holds yX3_holds, .initialized RX3, .code yX3_holds cX3_holds 2 (some .boolean)] ++ wsX30 ++ (vx_atM "java/lang/ArrayIndexOutOfBoundsException" ["java/lang/IndexOutOfBoundsException", "java/lang/RuntimeException", "java/lang/Exception"]).filter goodWord)
def wsX3_set : List Cond := .code yX3_set cX3_set 3 none :: ([.fieldLink RX3 13 "Bookinghouse$Row" "items" "[I", .methodLink RX3 23 yX3_holds, .instanceMethod yX3_holds, .selects RX3 yX3_holds yX3_holds, .initialized RX3, .code yX3_holds cX3_holds 2 (some .boolean), .fieldLink RX3 19 "Bookinghouse$Row" "size" "I"] ++ wsX30 ++ (vx_atM "java/lang/ArrayIndexOutOfBoundsException" ["java/lang/IndexOutOfBoundsException", "java/lang/RuntimeException", "java/lang/Exception"]).filter goodWord)
def wsX0_alter_r1 : List Cond := [Cond.fieldLink RX0 14 "Bookinghouse$Crowd" "times" "LBookinghouse$Row;", Cond.fieldLink RX0 20 "Bookinghouse$Crowd" "changes" "LBookinghouse$Row;", Cond.methodLink RX0 26 yX3_size, Cond.instanceMethod yX3_size, Cond.selects RX3 yX3_size yX3_size, Cond.initialized RX3, Cond.code yX3_size cX3_size 1 (some .int), Cond.fieldLink RX3 19 "Bookinghouse$Row" "size" "I", Cond.methodLink RX0 38 yX3_get, Cond.instanceMethod yX3_get, Cond.selects RX3 yX3_get yX3_get, Cond.code yX3_get cX3_get 2 (some .int), Cond.fieldLink RX3 13 "Bookinghouse$Row" "items" "[I", Cond.methodLink RX3 23 yX3_holds, Cond.instanceMethod yX3_holds, Cond.selects RX3 yX3_holds yX3_holds, Cond.code yX3_holds cX3_holds 2 (some .boolean), Cond.methodLink RX0 42 yX3_insert, Cond.instanceMethod yX3_insert, Cond.selects RX3 yX3_insert yX3_insert, Cond.code yX3_insert cX3_insert 3 none, Cond.methodLink RX3 31 arraycopyName, Cond.native arraycopyName, Cond.static arraycopyName]
def wsX0_alter_r2 : List Cond := [Cond.initialized "java/lang/System", Cond.methodLink RX0 45 yX3_remove, Cond.instanceMethod yX3_remove, Cond.selects RX3 yX3_remove yX3_remove, Cond.code yX3_remove cX3_remove 3 (some .int), Cond.methodLink RX0 48 yX3_set, Cond.instanceMethod yX3_set, Cond.selects RX3 yX3_set yX3_set, Cond.code yX3_set cX3_set 3 none]
def wsX0_alter : List Cond := .code yX0_alter cX0_alter 4 none :: ((wsX0_alter_r1 ++ wsX0_alter_r2) ++ wsX00 ++ wsX30 ++ (vx_atM "java/lang/ArrayIndexOutOfBoundsException" ["java/lang/IndexOutOfBoundsException", "java/lang/RuntimeException", "java/lang/Exception"]).filter goodWord)
def wsX0_enter_r1 : List Cond := [Cond.methodLink RX0 34 yX0_alter, Cond.instanceMethod yX0_alter, Cond.selects RX0 yX0_alter yX0_alter, Cond.initialized RX0, Cond.code yX0_alter cX0_alter 4 none, Cond.fieldLink RX0 14 "Bookinghouse$Crowd" "times" "LBookinghouse$Row;", Cond.fieldLink RX0 20 "Bookinghouse$Crowd" "changes" "LBookinghouse$Row;", Cond.methodLink RX0 26 yX3_size, Cond.instanceMethod yX3_size, Cond.selects RX3 yX3_size yX3_size, Cond.initialized RX3, Cond.code yX3_size cX3_size 1 (some .int), Cond.fieldLink RX3 19 "Bookinghouse$Row" "size" "I", Cond.methodLink RX0 38 yX3_get, Cond.instanceMethod yX3_get, Cond.selects RX3 yX3_get yX3_get, Cond.code yX3_get cX3_get 2 (some .int), Cond.fieldLink RX3 13 "Bookinghouse$Row" "items" "[I", Cond.methodLink RX3 23 yX3_holds, Cond.instanceMethod yX3_holds, Cond.selects RX3 yX3_holds yX3_holds, Cond.code yX3_holds cX3_holds 2 (some .boolean), Cond.methodLink RX0 42 yX3_insert, Cond.instanceMethod yX3_insert]
def wsX0_enter_r2 : List Cond := [Cond.selects RX3 yX3_insert yX3_insert, Cond.code yX3_insert cX3_insert 3 none, Cond.methodLink RX3 31 arraycopyName, Cond.native arraycopyName, Cond.static arraycopyName, Cond.initialized "java/lang/System", Cond.methodLink RX0 45 yX3_remove, Cond.instanceMethod yX3_remove, Cond.selects RX3 yX3_remove yX3_remove, Cond.code yX3_remove cX3_remove 3 (some .int), Cond.methodLink RX0 48 yX3_set, Cond.instanceMethod yX3_set, Cond.selects RX3 yX3_set yX3_set, Cond.code yX3_set cX3_set 3 none]
def wsX0_enter : List Cond := .code yX0_enter cX0_enter 4 none :: ((wsX0_enter_r1 ++ wsX0_enter_r2) ++ wsX00 ++ wsX30 ++ (vx_atM "java/lang/ArrayIndexOutOfBoundsException" ["java/lang/IndexOutOfBoundsException", "java/lang/RuntimeException", "java/lang/Exception"]).filter goodWord)
def wsX0_at : List Cond := .code yX0_at cX0_at 4 (some .int) :: ([.fieldLink RX0 14 "Bookinghouse$Crowd" "times" "LBookinghouse$Row;", .fieldLink RX0 20 "Bookinghouse$Crowd" "changes" "LBookinghouse$Row;", .methodLink RX0 26 yX3_size, .instanceMethod yX3_size, .selects RX3 yX3_size yX3_size, .initialized RX3, .code yX3_size cX3_size 1 (some .int), .fieldLink RX3 19 "Bookinghouse$Row" "size" "I", .methodLink RX0 38 yX3_get, .instanceMethod yX3_get, .selects RX3 yX3_get yX3_get, .code yX3_get cX3_get 2 (some .int), .fieldLink RX3 13 "Bookinghouse$Row" "items" "[I", .methodLink RX3 23 yX3_holds, .instanceMethod yX3_holds, .selects RX3 yX3_holds yX3_holds, .code yX3_holds cX3_holds 2 (some .boolean)] ++ wsX00 ++ wsX30 ++ (vx_atM "java/lang/ArrayIndexOutOfBoundsException" ["java/lang/IndexOutOfBoundsException", "java/lang/RuntimeException", "java/lang/Exception"]).filter goodWord)
def wsX3_placeOf : List Cond := .code yX3_placeOf cX3_placeOf 3 (some .int) :: ([.fieldLink RX3 19 "Bookinghouse$Row" "size" "I", .methodLink RX3 37 yX3_get, .instanceMethod yX3_get, .selects RX3 yX3_get yX3_get, .initialized RX3, .code yX3_get cX3_get 2 (some .int), .fieldLink RX3 13 "Bookinghouse$Row" "items" "[I", .methodLink RX3 23 yX3_holds, .instanceMethod yX3_holds, .selects RX3 yX3_holds yX3_holds, .code yX3_holds cX3_holds 2 (some .boolean)] ++ wsX30 ++ (vx_atM "java/lang/ArrayIndexOutOfBoundsException" ["java/lang/IndexOutOfBoundsException", "java/lang/RuntimeException", "java/lang/Exception"]).filter goodWord)
def wsX0_changeAt : List Cond := .code yX0_changeAt cX0_changeAt 3 (some .int) :: ([.fieldLink RX0 14 "Bookinghouse$Crowd" "times" "LBookinghouse$Row;", .fieldLink RX0 20 "Bookinghouse$Crowd" "changes" "LBookinghouse$Row;", .methodLink RX0 51 yX3_placeOf, .instanceMethod yX3_placeOf, .selects RX3 yX3_placeOf yX3_placeOf, .initialized RX3, .code yX3_placeOf cX3_placeOf 3 (some .int), .fieldLink RX3 19 "Bookinghouse$Row" "size" "I", .methodLink RX3 37 yX3_get, .instanceMethod yX3_get, .selects RX3 yX3_get yX3_get, .code yX3_get cX3_get 2 (some .int), .fieldLink RX3 13 "Bookinghouse$Row" "items" "[I", .methodLink RX3 23 yX3_holds, .instanceMethod yX3_holds, .selects RX3 yX3_holds yX3_holds, .code yX3_holds cX3_holds 2 (some .boolean), .methodLink RX0 38 yX3_get] ++ wsX00 ++ wsX30 ++ (vx_atM "java/lang/ArrayIndexOutOfBoundsException" ["java/lang/IndexOutOfBoundsException", "java/lang/RuntimeException", "java/lang/Exception"]).filter goodWord)
def wsX0_highest : List Cond := .code yX0_highest cX0_highest 4 (some .int) :: ([.fieldLink RX0 14 "Bookinghouse$Crowd" "times" "LBookinghouse$Row;", .fieldLink RX0 20 "Bookinghouse$Crowd" "changes" "LBookinghouse$Row;", .methodLink RX0 54 Lib.Math.max.name, .static Lib.Math.max.name, .initialized "java/lang/Math", .code Lib.Math.max.name Lib.Math.max.code 2 (some .int), .methodLink RX0 26 yX3_size, .instanceMethod yX3_size, .selects RX3 yX3_size yX3_size, .initialized RX3, .code yX3_size cX3_size 1 (some .int), .fieldLink RX3 19 "Bookinghouse$Row" "size" "I", .methodLink RX0 38 yX3_get, .instanceMethod yX3_get, .selects RX3 yX3_get yX3_get, .code yX3_get cX3_get 2 (some .int), .fieldLink RX3 13 "Bookinghouse$Row" "items" "[I", .methodLink RX3 23 yX3_holds, .instanceMethod yX3_holds, .selects RX3 yX3_holds yX3_holds, .code yX3_holds cX3_holds 2 (some .boolean)] ++ wsX00 ++ wsX30 ++ (vx_atM "java/lang/ArrayIndexOutOfBoundsException" ["java/lang/IndexOutOfBoundsException", "java/lang/RuntimeException", "java/lang/Exception"]).filter goodWord)
def wsX0_highestFrom : List Cond := .code yX0_highestFrom cX0_highestFrom 5 (some .int) :: ([.fieldLink RX0 14 "Bookinghouse$Crowd" "times" "LBookinghouse$Row;", .fieldLink RX0 20 "Bookinghouse$Crowd" "changes" "LBookinghouse$Row;", .methodLink RX0 26 yX3_size, .instanceMethod yX3_size, .selects RX3 yX3_size yX3_size, .initialized RX3, .code yX3_size cX3_size 1 (some .int), .fieldLink RX3 19 "Bookinghouse$Row" "size" "I", .methodLink RX0 38 yX3_get, .instanceMethod yX3_get, .selects RX3 yX3_get yX3_get, .code yX3_get cX3_get 2 (some .int), .fieldLink RX3 13 "Bookinghouse$Row" "items" "[I", .methodLink RX3 23 yX3_holds, .instanceMethod yX3_holds, .selects RX3 yX3_holds yX3_holds, .code yX3_holds cX3_holds 2 (some .boolean)] ++ wsX00 ++ wsX30 ++ (vx_atM "java/lang/ArrayIndexOutOfBoundsException" ["java/lang/IndexOutOfBoundsException", "java/lang/RuntimeException", "java/lang/Exception"]).filter goodWord)
def wsX0_busyTimes : List Cond := .code yX0_busyTimes cX0_busyTimes 8 (some .int) :: ([.fieldLink RX0 14 "Bookinghouse$Crowd" "times" "LBookinghouse$Row;", .fieldLink RX0 20 "Bookinghouse$Crowd" "changes" "LBookinghouse$Row;", .methodLink RX0 54 Lib.Math.max.name, .static Lib.Math.max.name, .initialized "java/lang/Math", .code Lib.Math.max.name Lib.Math.max.code 2 (some .int), .methodLink RX0 63 Lib.Math.min.name, .static Lib.Math.min.name, .code Lib.Math.min.name Lib.Math.min.code 2 (some .int), .methodLink RX0 26 yX3_size, .instanceMethod yX3_size, .selects RX3 yX3_size yX3_size, .initialized RX3, .code yX3_size cX3_size 1 (some .int), .fieldLink RX3 19 "Bookinghouse$Row" "size" "I", .methodLink RX0 38 yX3_get, .instanceMethod yX3_get, .selects RX3 yX3_get yX3_get, .code yX3_get cX3_get 2 (some .int), .fieldLink RX3 13 "Bookinghouse$Row" "items" "[I", .methodLink RX3 23 yX3_holds, .instanceMethod yX3_holds, .selects RX3 yX3_holds yX3_holds, .code yX3_holds cX3_holds 2 (some .boolean)] ++ wsX00 ++ wsX30 ++ (vx_atM "java/lang/ArrayIndexOutOfBoundsException" ["java/lang/IndexOutOfBoundsException", "java/lang/RuntimeException", "java/lang/Exception"]).filter goodWord)
def wsX0_allBusyTimes_r1 : List Cond := [Cond.fieldLink RX0 14 "Bookinghouse$Crowd" "times" "LBookinghouse$Row;", Cond.methodLink RX0 26 yX3_size, Cond.instanceMethod yX3_size, Cond.selects RX3 yX3_size yX3_size, Cond.initialized RX3, Cond.code yX3_size cX3_size 1 (some .int), Cond.fieldLink RX3 19 "Bookinghouse$Row" "size" "I", Cond.methodLink RX0 38 yX3_get, Cond.instanceMethod yX3_get, Cond.selects RX3 yX3_get yX3_get, Cond.code yX3_get cX3_get 2 (some .int), Cond.fieldLink RX3 13 "Bookinghouse$Row" "items" "[I", Cond.methodLink RX3 23 yX3_holds, Cond.instanceMethod yX3_holds, Cond.selects RX3 yX3_holds yX3_holds, Cond.code yX3_holds cX3_holds 2 (some .boolean), Cond.methodLink RX0 60 yX0_busyTimes, Cond.instanceMethod yX0_busyTimes, Cond.selects RX0 yX0_busyTimes yX0_busyTimes, Cond.initialized RX0, Cond.code yX0_busyTimes cX0_busyTimes 8 (some .int), Cond.fieldLink RX0 20 "Bookinghouse$Crowd" "changes" "LBookinghouse$Row;", Cond.methodLink RX0 54 Lib.Math.max.name, Cond.static Lib.Math.max.name]
def wsX0_allBusyTimes_r2 : List Cond := [Cond.initialized "java/lang/Math", Cond.code Lib.Math.max.name Lib.Math.max.code 2 (some .int), Cond.methodLink RX0 63 Lib.Math.min.name, Cond.static Lib.Math.min.name, Cond.code Lib.Math.min.name Lib.Math.min.code 2 (some .int)]
def wsX0_allBusyTimes : List Cond := .code yX0_allBusyTimes cX0_allBusyTimes 1 (some .int) :: ((wsX0_allBusyTimes_r1 ++ wsX0_allBusyTimes_r2) ++ wsX00 ++ wsX30 ++ (vx_atM "java/lang/ArrayIndexOutOfBoundsException" ["java/lang/IndexOutOfBoundsException", "java/lang/RuntimeException", "java/lang/Exception"]).filter goodWord)
def wsX0_busySpans : List Cond := .code yX0_busySpans cX0_busySpans 4 (some .int) :: ([.fieldLink RX0 14 "Bookinghouse$Crowd" "times" "LBookinghouse$Row;", .fieldLink RX0 20 "Bookinghouse$Crowd" "changes" "LBookinghouse$Row;", .methodLink RX0 26 yX3_size, .instanceMethod yX3_size, .selects RX3 yX3_size yX3_size, .initialized RX3, .code yX3_size cX3_size 1 (some .int), .fieldLink RX3 19 "Bookinghouse$Row" "size" "I", .methodLink RX0 38 yX3_get, .instanceMethod yX3_get, .selects RX3 yX3_get yX3_get, .code yX3_get cX3_get 2 (some .int), .fieldLink RX3 13 "Bookinghouse$Row" "items" "[I", .methodLink RX3 23 yX3_holds, .instanceMethod yX3_holds, .selects RX3 yX3_holds yX3_holds, .code yX3_holds cX3_holds 2 (some .boolean)] ++ wsX00 ++ wsX30 ++ (vx_atM "java/lang/ArrayIndexOutOfBoundsException" ["java/lang/IndexOutOfBoundsException", "java/lang/RuntimeException", "java/lang/Exception"]).filter goodWord)
def wsX0_firstChangeOf : List Cond := .code yX0_firstChangeOf cX0_firstChangeOf 5 (some .int) :: ([.fieldLink RX0 14 "Bookinghouse$Crowd" "times" "LBookinghouse$Row;", .fieldLink RX0 20 "Bookinghouse$Crowd" "changes" "LBookinghouse$Row;", .methodLink RX0 26 yX3_size, .instanceMethod yX3_size, .selects RX3 yX3_size yX3_size, .initialized RX3, .code yX3_size cX3_size 1 (some .int), .fieldLink RX3 19 "Bookinghouse$Row" "size" "I", .methodLink RX0 38 yX3_get, .instanceMethod yX3_get, .selects RX3 yX3_get yX3_get, .code yX3_get cX3_get 2 (some .int), .fieldLink RX3 13 "Bookinghouse$Row" "items" "[I", .methodLink RX3 23 yX3_holds, .instanceMethod yX3_holds, .selects RX3 yX3_holds yX3_holds, .code yX3_holds cX3_holds 2 (some .boolean)] ++ wsX00 ++ wsX30 ++ (vx_atM "java/lang/ArrayIndexOutOfBoundsException" ["java/lang/IndexOutOfBoundsException", "java/lang/RuntimeException", "java/lang/Exception"]).filter goodWord)
def wsX0_endOfSpan : List Cond := .code yX0_endOfSpan cX0_endOfSpan 4 (some .int) :: ([.fieldLink RX0 14 "Bookinghouse$Crowd" "times" "LBookinghouse$Row;", .fieldLink RX0 20 "Bookinghouse$Crowd" "changes" "LBookinghouse$Row;", .methodLink RX0 26 yX3_size, .instanceMethod yX3_size, .selects RX3 yX3_size yX3_size, .initialized RX3, .code yX3_size cX3_size 1 (some .int), .fieldLink RX3 19 "Bookinghouse$Row" "size" "I", .methodLink RX0 38 yX3_get, .instanceMethod yX3_get, .selects RX3 yX3_get yX3_get, .code yX3_get cX3_get 2 (some .int), .fieldLink RX3 13 "Bookinghouse$Row" "items" "[I", .methodLink RX3 23 yX3_holds, .instanceMethod yX3_holds, .selects RX3 yX3_holds yX3_holds, .code yX3_holds cX3_holds 2 (some .boolean)] ++ wsX00 ++ wsX30 ++ (vx_atM "java/lang/ArrayIndexOutOfBoundsException" ["java/lang/IndexOutOfBoundsException", "java/lang/RuntimeException", "java/lang/Exception"]).filter goodWord)
def wsX0_highestOfSpan : List Cond := .code yX0_highestOfSpan cX0_highestOfSpan 5 (some .int) :: ([.fieldLink RX0 14 "Bookinghouse$Crowd" "times" "LBookinghouse$Row;", .fieldLink RX0 20 "Bookinghouse$Crowd" "changes" "LBookinghouse$Row;", .methodLink RX0 54 Lib.Math.max.name, .static Lib.Math.max.name, .initialized "java/lang/Math", .code Lib.Math.max.name Lib.Math.max.code 2 (some .int), .methodLink RX0 26 yX3_size, .instanceMethod yX3_size, .selects RX3 yX3_size yX3_size, .initialized RX3, .code yX3_size cX3_size 1 (some .int), .fieldLink RX3 19 "Bookinghouse$Row" "size" "I", .methodLink RX0 38 yX3_get, .instanceMethod yX3_get, .selects RX3 yX3_get yX3_get, .code yX3_get cX3_get 2 (some .int), .fieldLink RX3 13 "Bookinghouse$Row" "items" "[I", .methodLink RX3 23 yX3_holds, .instanceMethod yX3_holds, .selects RX3 yX3_holds yX3_holds, .code yX3_holds cX3_holds 2 (some .boolean)] ++ wsX00 ++ wsX30 ++ (vx_atM "java/lang/ArrayIndexOutOfBoundsException" ["java/lang/IndexOutOfBoundsException", "java/lang/RuntimeException", "java/lang/Exception"]).filter goodWord)
def wsX0_freeFrom : List Cond := .code yX0_freeFrom cX0_freeFrom 6 (some .int) :: ([.fieldLink RX0 14 "Bookinghouse$Crowd" "times" "LBookinghouse$Row;", .fieldLink RX0 20 "Bookinghouse$Crowd" "changes" "LBookinghouse$Row;", .methodLink RX0 54 Lib.Math.max.name, .static Lib.Math.max.name, .initialized "java/lang/Math", .code Lib.Math.max.name Lib.Math.max.code 2 (some .int), .methodLink RX0 26 yX3_size, .instanceMethod yX3_size, .selects RX3 yX3_size yX3_size, .initialized RX3, .code yX3_size cX3_size 1 (some .int), .fieldLink RX3 19 "Bookinghouse$Row" "size" "I", .methodLink RX0 38 yX3_get, .instanceMethod yX3_get, .selects RX3 yX3_get yX3_get, .code yX3_get cX3_get 2 (some .int), .fieldLink RX3 13 "Bookinghouse$Row" "items" "[I", .methodLink RX3 23 yX3_holds, .instanceMethod yX3_holds, .selects RX3 yX3_holds yX3_holds, .code yX3_holds cX3_holds 2 (some .boolean)] ++ wsX00 ++ wsX30 ++ (vx_atM "java/lang/ArrayIndexOutOfBoundsException" ["java/lang/IndexOutOfBoundsException", "java/lang/RuntimeException", "java/lang/Exception"]).filter goodWord)
def wsX0_total : List Cond := .code yX0_total cX0_total 5 (some .long) :: ([.fieldLink RX0 14 "Bookinghouse$Crowd" "times" "LBookinghouse$Row;", .fieldLink RX0 20 "Bookinghouse$Crowd" "changes" "LBookinghouse$Row;", .methodLink RX0 26 yX3_size, .instanceMethod yX3_size, .selects RX3 yX3_size yX3_size, .initialized RX3, .code yX3_size cX3_size 1 (some .int), .fieldLink RX3 19 "Bookinghouse$Row" "size" "I", .methodLink RX0 38 yX3_get, .instanceMethod yX3_get, .selects RX3 yX3_get yX3_get, .code yX3_get cX3_get 2 (some .int), .fieldLink RX3 13 "Bookinghouse$Row" "items" "[I", .methodLink RX3 23 yX3_holds, .instanceMethod yX3_holds, .selects RX3 yX3_holds yX3_holds, .code yX3_holds cX3_holds 2 (some .boolean)] ++ wsX00 ++ wsX30 ++ (vx_atM "java/lang/ArrayIndexOutOfBoundsException" ["java/lang/IndexOutOfBoundsException", "java/lang/RuntimeException", "java/lang/Exception"]).filter goodWord)
def wsX0_isLevelInTheEnd : List Cond := .code yX0_isLevelInTheEnd cX0_isLevelInTheEnd 3 (some .boolean) :: ([.fieldLink RX0 20 "Bookinghouse$Crowd" "changes" "LBookinghouse$Row;", .methodLink RX0 26 yX3_size, .instanceMethod yX3_size, .selects RX3 yX3_size yX3_size, .initialized RX3, .code yX3_size cX3_size 1 (some .int), .fieldLink RX3 19 "Bookinghouse$Row" "size" "I", .methodLink RX0 38 yX3_get, .instanceMethod yX3_get, .selects RX3 yX3_get yX3_get, .code yX3_get cX3_get 2 (some .int), .fieldLink RX3 13 "Bookinghouse$Row" "items" "[I", .methodLink RX3 23 yX3_holds, .instanceMethod yX3_holds, .selects RX3 yX3_holds yX3_holds, .code yX3_holds cX3_holds 2 (some .boolean)] ++ wsX00 ++ wsX30 ++ (vx_atM "java/lang/ArrayIndexOutOfBoundsException" ["java/lang/IndexOutOfBoundsException", "java/lang/RuntimeException", "java/lang/Exception"]).filter goodWord)
def wsX0_isOverAt : List Cond := .code yX0_isOverAt cX0_isOverAt 2 (some .boolean) :: ([.fieldLink RX0 14 "Bookinghouse$Crowd" "times" "LBookinghouse$Row;", .methodLink RX0 66 yX0_isEmpty, .instanceMethod yX0_isEmpty, .selects RX0 yX0_isEmpty yX0_isEmpty, .initialized RX0, .code yX0_isEmpty cX0_isEmpty 1 (some .boolean), .methodLink RX0 26 yX3_size, .instanceMethod yX3_size, .selects RX3 yX3_size yX3_size, .initialized RX3, .code yX3_size cX3_size 1 (some .int), .fieldLink RX3 19 "Bookinghouse$Row" "size" "I", .methodLink RX0 38 yX3_get, .instanceMethod yX3_get, .selects RX3 yX3_get yX3_get, .code yX3_get cX3_get 2 (some .int), .fieldLink RX3 13 "Bookinghouse$Row" "items" "[I", .methodLink RX3 23 yX3_holds, .instanceMethod yX3_holds, .selects RX3 yX3_holds yX3_holds, .code yX3_holds cX3_holds 2 (some .boolean)] ++ wsX00 ++ wsX30 ++ (vx_atM "java/lang/ArrayIndexOutOfBoundsException" ["java/lang/IndexOutOfBoundsException", "java/lang/RuntimeException", "java/lang/Exception"]).filter goodWord)
def wsX1_init_r1 : List Cond := [Cond.methodLink RX1 3 objectInit, Cond.instanceMethod objectInit, Cond.code objectInit ⟨#[0xb1]⟩ 1 none, Cond.classLink RX1 9 RX3, Cond.instantiable RX3 2, Cond.initialized RX3, Cond.fieldLink RX1 14 "Bookinghouse$House" "queue" "LBookinghouse$Row;", Cond.fieldLink RX1 20 "Bookinghouse$House" "past" "LBookinghouse$Row;", Cond.classLink RX1 23 RX0, Cond.instantiable RX0 2, Cond.initialized RX0, Cond.fieldLink RX1 26 "Bookinghouse$House" "crowd" "LBookinghouse$Crowd;", Cond.fieldLink RX1 30 "Bookinghouse$House" "number" "I", Cond.methodLink RX1 11 yX3_init, Cond.instanceMethod yX3_init, Cond.code yX3_init cX3_init 2 none, Cond.methodLink RX3 1 objectInit, Cond.methodLink RX3 7 Lib.Math.max.name, Cond.static Lib.Math.max.name, Cond.initialized "java/lang/Math", Cond.code Lib.Math.max.name Lib.Math.max.code 2 (some .int), Cond.arrayClass .int, Cond.fieldLink RX3 13 "Bookinghouse$Row" "items" "[I", Cond.instanceMethod yX0_init]
def wsX1_init_r2 : List Cond := [Cond.code yX0_init cX0_init 1 none, Cond.methodLink RX0 3 objectInit, Cond.classLink RX0 9 RX3, Cond.fieldLink RX0 14 "Bookinghouse$Crowd" "times" "LBookinghouse$Row;", Cond.fieldLink RX0 20 "Bookinghouse$Crowd" "changes" "LBookinghouse$Row;", Cond.methodLink RX0 11 yX3_init]
def wsX1_init : List Cond := .code yX1_init cX1_init 2 none :: ((wsX1_init_r1 ++ wsX1_init_r2) ++ wsX30 ++ wsX10 ++ wsX00)
def wsX2_init : List Cond := .code yX2_init cX2_init 1 none :: ([.methodLink RX2 3 objectInit, .instanceMethod objectInit, .code objectInit ⟨#[0xb1]⟩ 1 none, .classLink RX2 9 RX3, .instantiable RX3 2, .initialized RX3, .fieldLink RX2 14 "Bookinghouse$Ledger" "times" "LBookinghouse$Row;", .fieldLink RX2 20 "Bookinghouse$Ledger" "spans" "LBookinghouse$Row;", .fieldLink RX2 23 "Bookinghouse$Ledger" "weights" "LBookinghouse$Row;", .fieldLink RX2 26 "Bookinghouse$Ledger" "homes" "LBookinghouse$Row;", .fieldLink RX2 29 "Bookinghouse$Ledger" "states" "LBookinghouse$Row;", .methodLink RX2 11 yX3_init, .instanceMethod yX3_init, .code yX3_init cX3_init 2 none, .methodLink RX3 1 objectInit, .methodLink RX3 7 Lib.Math.max.name, .static Lib.Math.max.name, .initialized "java/lang/Math", .code Lib.Math.max.name Lib.Math.max.code 2 (some .int), .arrayClass .int, .fieldLink RX3 13 "Bookinghouse$Row" "items" "[I"] ++ wsX30 ++ wsX20)
def wsX2_size : List Cond := .code yX2_size cX2_size 1 (some .int) :: ([.fieldLink RX2 14 "Bookinghouse$Ledger" "times" "LBookinghouse$Row;", .methodLink RX2 32 yX3_size, .instanceMethod yX3_size, .selects RX3 yX3_size yX3_size, .initialized RX3, .code yX3_size cX3_size 1 (some .int), .fieldLink RX3 19 "Bookinghouse$Row" "size" "I"] ++ wsX20 ++ wsX30)
def wsX3_add : List Cond := .code yX3_add cX3_add 2 none :: ([.fieldLink RX3 19 "Bookinghouse$Row" "size" "I", .methodLink RX3 27 yX3_insert, .instanceMethod yX3_insert, .selects RX3 yX3_insert yX3_insert, .initialized RX3, .code yX3_insert cX3_insert 3 none, .fieldLink RX3 13 "Bookinghouse$Row" "items" "[I", .methodLink RX3 31 arraycopyName, .native arraycopyName, .static arraycopyName, .initialized "java/lang/System"] ++ wsX30 ++ (vx_atM "java/lang/ArrayIndexOutOfBoundsException" ["java/lang/IndexOutOfBoundsException", "java/lang/RuntimeException", "java/lang/Exception"]).filter goodWord)
def wsX2_enter : List Cond := .code yX2_enter cX2_enter 4 (some .int) :: ([.fieldLink RX2 14 "Bookinghouse$Ledger" "times" "LBookinghouse$Row;", .fieldLink RX2 20 "Bookinghouse$Ledger" "spans" "LBookinghouse$Row;", .fieldLink RX2 23 "Bookinghouse$Ledger" "weights" "LBookinghouse$Row;", .fieldLink RX2 26 "Bookinghouse$Ledger" "homes" "LBookinghouse$Row;", .fieldLink RX2 29 "Bookinghouse$Ledger" "states" "LBookinghouse$Row;", .methodLink RX2 36 yX3_add, .instanceMethod yX3_add, .selects RX3 yX3_add yX3_add, .initialized RX3, .code yX3_add cX3_add 2 none, .fieldLink RX3 19 "Bookinghouse$Row" "size" "I", .methodLink RX3 27 yX3_insert, .instanceMethod yX3_insert, .selects RX3 yX3_insert yX3_insert, .code yX3_insert cX3_insert 3 none, .fieldLink RX3 13 "Bookinghouse$Row" "items" "[I", .methodLink RX3 31 arraycopyName, .native arraycopyName, .static arraycopyName, .initialized "java/lang/System", .methodLink RX2 32 yX3_size, .instanceMethod yX3_size, .selects RX3 yX3_size yX3_size, .code yX3_size cX3_size 1 (some .int)] ++ wsX20 ++ wsX30 ++ (vx_atM "java/lang/ArrayIndexOutOfBoundsException" ["java/lang/IndexOutOfBoundsException", "java/lang/RuntimeException", "java/lang/Exception"]).filter goodWord)
def wsX2_end : List Cond := .code yX2_end cX2_end 2 (some .int) :: ([.fieldLink RX2 14 "Bookinghouse$Ledger" "times" "LBookinghouse$Row;", .fieldLink RX2 20 "Bookinghouse$Ledger" "spans" "LBookinghouse$Row;", .methodLink RX2 39 yX3_get, .instanceMethod yX3_get, .selects RX3 yX3_get yX3_get, .initialized RX3, .code yX3_get cX3_get 2 (some .int), .fieldLink RX3 13 "Bookinghouse$Row" "items" "[I", .methodLink RX3 23 yX3_holds, .instanceMethod yX3_holds, .selects RX3 yX3_holds yX3_holds, .code yX3_holds cX3_holds 2 (some .boolean), .fieldLink RX3 19 "Bookinghouse$Row" "size" "I"] ++ wsX20 ++ wsX30 ++ (vx_atM "java/lang/ArrayIndexOutOfBoundsException" ["java/lang/IndexOutOfBoundsException", "java/lang/RuntimeException", "java/lang/Exception"]).filter goodWord)
def wsX2_isAhead : List Cond := .code yX2_isAhead cX2_isAhead 5 (some .boolean) :: ([.fieldLink RX2 14 "Bookinghouse$Ledger" "times" "LBookinghouse$Row;", .methodLink RX2 39 yX3_get, .instanceMethod yX3_get, .selects RX3 yX3_get yX3_get, .initialized RX3, .code yX3_get cX3_get 2 (some .int), .fieldLink RX3 13 "Bookinghouse$Row" "items" "[I", .methodLink RX3 23 yX3_holds, .instanceMethod yX3_holds, .selects RX3 yX3_holds yX3_holds, .code yX3_holds cX3_holds 2 (some .boolean), .fieldLink RX3 19 "Bookinghouse$Row" "size" "I"] ++ wsX20 ++ wsX30 ++ (vx_atM "java/lang/ArrayIndexOutOfBoundsException" ["java/lang/IndexOutOfBoundsException", "java/lang/RuntimeException", "java/lang/Exception"]).filter goodWord)
def wsX3_count : List Cond := .code yX3_count cX3_count 4 (some .int) :: ([.fieldLink RX3 19 "Bookinghouse$Row" "size" "I", .methodLink RX3 37 yX3_get, .instanceMethod yX3_get, .selects RX3 yX3_get yX3_get, .initialized RX3, .code yX3_get cX3_get 2 (some .int), .fieldLink RX3 13 "Bookinghouse$Row" "items" "[I", .methodLink RX3 23 yX3_holds, .instanceMethod yX3_holds, .selects RX3 yX3_holds yX3_holds, .code yX3_holds cX3_holds 2 (some .boolean)] ++ wsX30 ++ (vx_atM "java/lang/ArrayIndexOutOfBoundsException" ["java/lang/IndexOutOfBoundsException", "java/lang/RuntimeException", "java/lang/Exception"]).filter goodWord)
def wsX4_init_r1 : List Cond := [Cond.methodLink RX4 1 objectInit, Cond.instanceMethod objectInit, Cond.code objectInit ⟨#[0xb1]⟩ 1 none, Cond.classLink RX4 7 RX2, Cond.instantiable RX2 5, Cond.initialized RX2, Cond.fieldLink RX4 10 "Bookinghouse" "ledger" "LBookinghouse$Ledger;", Cond.classLink RX4 16 RX1, Cond.fieldLink RX4 18 "Bookinghouse" "houses" "[LBookinghouse$House;", Cond.classLink RX4 22 RX0, Cond.instantiable RX0 2, Cond.initialized RX0, Cond.fieldLink RX4 25 "Bookinghouse" "rebuilt" "LBookinghouse$Crowd;", Cond.instantiable RX1 5, Cond.initialized RX1, Cond.instanceMethod yX2_init, Cond.code yX2_init cX2_init 1 none, Cond.methodLink RX2 3 objectInit, Cond.classLink RX2 9 RX3, Cond.instantiable RX3 2, Cond.initialized RX3, Cond.fieldLink RX2 14 "Bookinghouse$Ledger" "times" "LBookinghouse$Row;", Cond.fieldLink RX2 20 "Bookinghouse$Ledger" "spans" "LBookinghouse$Row;", Cond.fieldLink RX2 23 "Bookinghouse$Ledger" "weights" "LBookinghouse$Row;"]
def wsX4_init_r2 : List Cond := [Cond.fieldLink RX2 26 "Bookinghouse$Ledger" "homes" "LBookinghouse$Row;", Cond.fieldLink RX2 29 "Bookinghouse$Ledger" "states" "LBookinghouse$Row;", Cond.methodLink RX2 11 yX3_init, Cond.instanceMethod yX3_init, Cond.code yX3_init cX3_init 2 none, Cond.methodLink RX3 1 objectInit, Cond.methodLink RX3 7 Lib.Math.max.name, Cond.static Lib.Math.max.name, Cond.initialized "java/lang/Math", Cond.code Lib.Math.max.name Lib.Math.max.code 2 (some .int), Cond.arrayClass .int, Cond.fieldLink RX3 13 "Bookinghouse$Row" "items" "[I", Cond.instanceMethod yX0_init, Cond.code yX0_init cX0_init 1 none, Cond.methodLink RX0 3 objectInit, Cond.classLink RX0 9 RX3, Cond.fieldLink RX0 14 "Bookinghouse$Crowd" "times" "LBookinghouse$Row;", Cond.fieldLink RX0 20 "Bookinghouse$Crowd" "changes" "LBookinghouse$Row;", Cond.methodLink RX0 11 yX3_init, Cond.methodLink RX4 29 yX1_init, Cond.instanceMethod yX1_init, Cond.code yX1_init cX1_init 2 none, Cond.methodLink RX1 3 objectInit, Cond.classLink RX1 9 RX3]
def wsX4_init_r3 : List Cond := [Cond.fieldLink RX1 14 "Bookinghouse$House" "queue" "LBookinghouse$Row;", Cond.fieldLink RX1 20 "Bookinghouse$House" "past" "LBookinghouse$Row;", Cond.classLink RX1 23 RX0, Cond.fieldLink RX1 26 "Bookinghouse$House" "crowd" "LBookinghouse$Crowd;", Cond.fieldLink RX1 30 "Bookinghouse$House" "number" "I", Cond.methodLink RX1 11 yX3_init]
def wsX4_init : List Cond := .code yX4_init cX4_init 2 none :: ((wsX4_init_r1 ++ (wsX4_init_r2 ++ wsX4_init_r3)) ++ wsX20 ++ wsX40 ++ wsX00 ++ wsX10 ++ wsX30)
def wsX4_houseAt : List Cond := .code yX4_houseAt cX4_houseAt 2 (some (.object "Bookinghouse$House")) :: ([.classLink RX4 159 "java/lang/IndexOutOfBoundsException", .initialized "java/lang/IndexOutOfBoundsException", .fieldLink RX4 18 "Bookinghouse" "houses" "[LBookinghouse$House;"] ++ wsX40 ++ (vx_atS RX4 163 "java/lang/IndexOutOfBoundsException" ["java/lang/RuntimeException", "java/lang/Exception"]).filter goodWord)
def wsX4_isIn : List Cond := .code yX4_isIn cX4_isIn 3 (some .boolean) :: ([])
def wsX4_isTime : List Cond := .code yX4_isTime cX4_isTime 1 (some .boolean) :: ([.methodLink RX4 61 yX4_isIn, .static yX4_isIn, .initialized RX4, .code yX4_isIn cX4_isIn 3 (some .boolean)])
def wsX4_isSpan : List Cond := .code yX4_isSpan cX4_isSpan 1 (some .boolean) :: ([.methodLink RX4 61 yX4_isIn, .static yX4_isIn, .initialized RX4, .code yX4_isIn cX4_isIn 3 (some .boolean)])
def wsX4_isWeight : List Cond := .code yX4_isWeight cX4_isWeight 1 (some .boolean) :: ([.methodLink RX4 61 yX4_isIn, .static yX4_isIn, .initialized RX4, .code yX4_isIn cX4_isIn 3 (some .boolean)])
def wsX4_refuseIfNoRoom : List Cond := .code yX4_refuseIfNoRoom cX4_refuseIfNoRoom 4 none :: ([.classLink RX4 105 "java/lang/IllegalStateException", .initialized "java/lang/IllegalStateException", .fieldLink RX4 10 "Bookinghouse" "ledger" "LBookinghouse$Ledger;", .methodLink RX4 132 yX3_size, .instanceMethod yX3_size, .selects RX3 yX3_size yX3_size, .initialized RX3, .code yX3_size cX3_size 1 (some .int), .fieldLink RX3 19 "Bookinghouse$Row" "size" "I", .methodLink RX4 67 yX2_size, .instanceMethod yX2_size, .selects RX2 yX2_size yX2_size, .initialized RX2, .code yX2_size cX2_size 1 (some .int), .fieldLink RX2 14 "Bookinghouse$Ledger" "times" "LBookinghouse$Row;", .methodLink RX2 32 yX3_size] ++ wsX10 ++ wsX40 ++ wsX30 ++ wsX20 ++ (vx_atS RX4 109 "java/lang/IllegalStateException" ["java/lang/RuntimeException", "java/lang/Exception"]).filter goodWord)
def wsX4_enqueue_r1 : List Cond := [Cond.fieldLink RX4 10 "Bookinghouse" "ledger" "LBookinghouse$Ledger;", Cond.methodLink RX4 132 yX3_size, Cond.instanceMethod yX3_size, Cond.selects RX3 yX3_size yX3_size, Cond.initialized RX3, Cond.code yX3_size cX3_size 1 (some .int), Cond.fieldLink RX3 19 "Bookinghouse$Row" "size" "I", Cond.methodLink RX4 113 yX3_get, Cond.instanceMethod yX3_get, Cond.selects RX3 yX3_get yX3_get, Cond.code yX3_get cX3_get 2 (some .int), Cond.fieldLink RX3 13 "Bookinghouse$Row" "items" "[I", Cond.methodLink RX3 23 yX3_holds, Cond.instanceMethod yX3_holds, Cond.selects RX3 yX3_holds yX3_holds, Cond.code yX3_holds cX3_holds 2 (some .boolean), Cond.methodLink RX4 276 yX2_isAhead, Cond.instanceMethod yX2_isAhead, Cond.selects RX2 yX2_isAhead yX2_isAhead, Cond.initialized RX2, Cond.code yX2_isAhead cX2_isAhead 5 (some .boolean), Cond.fieldLink RX2 14 "Bookinghouse$Ledger" "times" "LBookinghouse$Row;", Cond.methodLink RX2 39 yX3_get, Cond.methodLink RX4 280 yX3_insert]
def wsX4_enqueue_r2 : List Cond := [Cond.instanceMethod yX3_insert, Cond.selects RX3 yX3_insert yX3_insert, Cond.code yX3_insert cX3_insert 3 none, Cond.methodLink RX3 31 arraycopyName, Cond.native arraycopyName, Cond.static arraycopyName, Cond.initialized "java/lang/System", Cond.methodLink RX4 119 yX3_set, Cond.instanceMethod yX3_set, Cond.selects RX3 yX3_set yX3_set, Cond.code yX3_set cX3_set 3 none]
def wsX4_enqueue : List Cond := .code yX4_enqueue cX4_enqueue 4 none :: ((wsX4_enqueue_r1 ++ wsX4_enqueue_r2) ++ wsX10 ++ wsX40 ++ wsX20 ++ wsX30 ++ (vx_atM "java/lang/ArrayIndexOutOfBoundsException" ["java/lang/IndexOutOfBoundsException", "java/lang/RuntimeException", "java/lang/Exception"]).filter goodWord)
def wsX4_make_r1 : List Cond := [Cond.fieldLink RX4 10 "Bookinghouse" "ledger" "LBookinghouse$Ledger;", Cond.methodLink RX4 272 yX2_enter, Cond.instanceMethod yX2_enter, Cond.selects RX2 yX2_enter yX2_enter, Cond.initialized RX2, Cond.code yX2_enter cX2_enter 4 (some .int), Cond.fieldLink RX2 14 "Bookinghouse$Ledger" "times" "LBookinghouse$Row;", Cond.fieldLink RX2 20 "Bookinghouse$Ledger" "spans" "LBookinghouse$Row;", Cond.fieldLink RX2 23 "Bookinghouse$Ledger" "weights" "LBookinghouse$Row;", Cond.fieldLink RX2 26 "Bookinghouse$Ledger" "homes" "LBookinghouse$Row;", Cond.fieldLink RX2 29 "Bookinghouse$Ledger" "states" "LBookinghouse$Row;", Cond.methodLink RX2 36 yX3_add, Cond.instanceMethod yX3_add, Cond.selects RX3 yX3_add yX3_add, Cond.initialized RX3, Cond.code yX3_add cX3_add 2 none, Cond.fieldLink RX3 19 "Bookinghouse$Row" "size" "I", Cond.methodLink RX3 27 yX3_insert, Cond.instanceMethod yX3_insert, Cond.selects RX3 yX3_insert yX3_insert, Cond.code yX3_insert cX3_insert 3 none, Cond.fieldLink RX3 13 "Bookinghouse$Row" "items" "[I", Cond.methodLink RX3 31 arraycopyName, Cond.native arraycopyName]
def wsX4_make_r2 : List Cond := [Cond.static arraycopyName, Cond.initialized "java/lang/System", Cond.methodLink RX2 32 yX3_size, Cond.instanceMethod yX3_size, Cond.selects RX3 yX3_size yX3_size, Cond.code yX3_size cX3_size 1 (some .int), Cond.methodLink RX4 122 yX4_enqueue, Cond.instanceMethod yX4_enqueue, Cond.selects RX4 yX4_enqueue yX4_enqueue, Cond.initialized RX4, Cond.code yX4_enqueue cX4_enqueue 4 none, Cond.methodLink RX4 132 yX3_size, Cond.methodLink RX4 113 yX3_get, Cond.instanceMethod yX3_get, Cond.selects RX3 yX3_get yX3_get, Cond.code yX3_get cX3_get 2 (some .int), Cond.methodLink RX3 23 yX3_holds, Cond.instanceMethod yX3_holds, Cond.selects RX3 yX3_holds yX3_holds, Cond.code yX3_holds cX3_holds 2 (some .boolean), Cond.methodLink RX4 276 yX2_isAhead, Cond.instanceMethod yX2_isAhead, Cond.selects RX2 yX2_isAhead yX2_isAhead, Cond.code yX2_isAhead cX2_isAhead 5 (some .boolean)]
def wsX4_make_r3 : List Cond := [Cond.methodLink RX2 39 yX3_get, Cond.methodLink RX4 280 yX3_insert, Cond.methodLink RX4 119 yX3_set, Cond.instanceMethod yX3_set, Cond.selects RX3 yX3_set yX3_set, Cond.code yX3_set cX3_set 3 none]
def wsX4_make : List Cond := .code yX4_make cX4_make 6 (some .int) :: ((wsX4_make_r1 ++ (wsX4_make_r2 ++ wsX4_make_r3)) ++ wsX40 ++ wsX20 ++ wsX30 ++ wsX10 ++ (vx_atM "java/lang/ArrayIndexOutOfBoundsException" ["java/lang/IndexOutOfBoundsException", "java/lang/RuntimeException", "java/lang/Exception"]).filter goodWord)
def wsX4_book_r1 : List Cond := [Cond.classLink RX4 46 "java/lang/IllegalArgumentException", Cond.initialized "java/lang/IllegalArgumentException", Cond.methodLink RX4 32 yX4_houseAt, Cond.instanceMethod yX4_houseAt, Cond.selects RX4 yX4_houseAt yX4_houseAt, Cond.initialized RX4, Cond.code yX4_houseAt cX4_houseAt 2 (some (.object "Bookinghouse$House")), Cond.classLink RX4 159 "java/lang/IndexOutOfBoundsException", Cond.initialized "java/lang/IndexOutOfBoundsException", Cond.fieldLink RX4 18 "Bookinghouse" "houses" "[LBookinghouse$House;", Cond.methodLink RX4 36 yX4_isTime, Cond.static yX4_isTime, Cond.code yX4_isTime cX4_isTime 1 (some .boolean), Cond.methodLink RX4 61 yX4_isIn, Cond.static yX4_isIn, Cond.code yX4_isIn cX4_isIn 3 (some .boolean), Cond.methodLink RX4 40 yX4_isSpan, Cond.static yX4_isSpan, Cond.code yX4_isSpan cX4_isSpan 1 (some .boolean), Cond.methodLink RX4 43 yX4_isWeight, Cond.static yX4_isWeight, Cond.code yX4_isWeight cX4_isWeight 1 (some .boolean), Cond.methodLink RX4 53 yX4_refuseIfNoRoom, Cond.instanceMethod yX4_refuseIfNoRoom]
def wsX4_book_r2 : List Cond := [Cond.selects RX4 yX4_refuseIfNoRoom yX4_refuseIfNoRoom, Cond.code yX4_refuseIfNoRoom cX4_refuseIfNoRoom 4 none, Cond.classLink RX4 105 "java/lang/IllegalStateException", Cond.initialized "java/lang/IllegalStateException", Cond.fieldLink RX4 10 "Bookinghouse" "ledger" "LBookinghouse$Ledger;", Cond.methodLink RX4 132 yX3_size, Cond.instanceMethod yX3_size, Cond.selects RX3 yX3_size yX3_size, Cond.initialized RX3, Cond.code yX3_size cX3_size 1 (some .int), Cond.fieldLink RX3 19 "Bookinghouse$Row" "size" "I", Cond.methodLink RX4 67 yX2_size, Cond.instanceMethod yX2_size, Cond.selects RX2 yX2_size yX2_size, Cond.initialized RX2, Cond.code yX2_size cX2_size 1 (some .int), Cond.fieldLink RX2 14 "Bookinghouse$Ledger" "times" "LBookinghouse$Row;", Cond.methodLink RX2 32 yX3_size, Cond.methodLink RX4 57 yX4_make, Cond.instanceMethod yX4_make, Cond.selects RX4 yX4_make yX4_make, Cond.code yX4_make cX4_make 6 (some .int), Cond.methodLink RX4 272 yX2_enter, Cond.instanceMethod yX2_enter]
def wsX4_book_r3 : List Cond := [Cond.selects RX2 yX2_enter yX2_enter, Cond.code yX2_enter cX2_enter 4 (some .int), Cond.fieldLink RX2 20 "Bookinghouse$Ledger" "spans" "LBookinghouse$Row;", Cond.fieldLink RX2 23 "Bookinghouse$Ledger" "weights" "LBookinghouse$Row;", Cond.fieldLink RX2 26 "Bookinghouse$Ledger" "homes" "LBookinghouse$Row;", Cond.fieldLink RX2 29 "Bookinghouse$Ledger" "states" "LBookinghouse$Row;", Cond.methodLink RX2 36 yX3_add, Cond.instanceMethod yX3_add, Cond.selects RX3 yX3_add yX3_add, Cond.code yX3_add cX3_add 2 none, Cond.methodLink RX3 27 yX3_insert, Cond.instanceMethod yX3_insert, Cond.selects RX3 yX3_insert yX3_insert, Cond.code yX3_insert cX3_insert 3 none, Cond.fieldLink RX3 13 "Bookinghouse$Row" "items" "[I", Cond.methodLink RX3 31 arraycopyName, Cond.native arraycopyName, Cond.static arraycopyName, Cond.initialized "java/lang/System", Cond.methodLink RX4 122 yX4_enqueue, Cond.instanceMethod yX4_enqueue, Cond.selects RX4 yX4_enqueue yX4_enqueue, Cond.code yX4_enqueue cX4_enqueue 4 none, Cond.methodLink RX4 113 yX3_get]
def wsX4_book_r4 : List Cond := [Cond.instanceMethod yX3_get, Cond.selects RX3 yX3_get yX3_get, Cond.code yX3_get cX3_get 2 (some .int), Cond.methodLink RX3 23 yX3_holds, Cond.instanceMethod yX3_holds, Cond.selects RX3 yX3_holds yX3_holds, Cond.code yX3_holds cX3_holds 2 (some .boolean), Cond.methodLink RX4 276 yX2_isAhead, Cond.instanceMethod yX2_isAhead, Cond.selects RX2 yX2_isAhead yX2_isAhead, Cond.code yX2_isAhead cX2_isAhead 5 (some .boolean), Cond.methodLink RX2 39 yX3_get, Cond.methodLink RX4 280 yX3_insert, Cond.methodLink RX4 119 yX3_set, Cond.instanceMethod yX3_set, Cond.selects RX3 yX3_set yX3_set, Cond.code yX3_set cX3_set 3 none]
def wsX4_book : List Cond := .code yX4_book cX4_book 6 (some .int) :: ((wsX4_book_r1 ++ (wsX4_book_r2 ++ (wsX4_book_r3 ++ wsX4_book_r4))) ++ wsX40 ++ wsX10 ++ wsX30 ++ wsX20 ++ (vx_atS RX4 50 "java/lang/IllegalArgumentException" ["java/lang/RuntimeException", "java/lang/Exception"]).filter goodWord ++ (vx_atS RX4 163 "java/lang/IndexOutOfBoundsException" ["java/lang/RuntimeException", "java/lang/Exception"]).filter goodWord ++ (vx_atS RX4 109 "java/lang/IllegalStateException" ["java/lang/RuntimeException", "java/lang/Exception"]).filter goodWord ++ (vx_atM "java/lang/ArrayIndexOutOfBoundsException" ["java/lang/IndexOutOfBoundsException", "java/lang/RuntimeException", "java/lang/Exception"]).filter goodWord)
def wsX4_series_r1 : List Cond := [Cond.classLink RX4 46 "java/lang/IllegalArgumentException", Cond.initialized "java/lang/IllegalArgumentException", Cond.fieldLink RX4 10 "Bookinghouse" "ledger" "LBookinghouse$Ledger;", Cond.methodLink RX4 32 yX4_houseAt, Cond.instanceMethod yX4_houseAt, Cond.selects RX4 yX4_houseAt yX4_houseAt, Cond.initialized RX4, Cond.code yX4_houseAt cX4_houseAt 2 (some (.object "Bookinghouse$House")), Cond.classLink RX4 159 "java/lang/IndexOutOfBoundsException", Cond.initialized "java/lang/IndexOutOfBoundsException", Cond.fieldLink RX4 18 "Bookinghouse" "houses" "[LBookinghouse$House;", Cond.methodLink RX4 36 yX4_isTime, Cond.static yX4_isTime, Cond.code yX4_isTime cX4_isTime 1 (some .boolean), Cond.methodLink RX4 61 yX4_isIn, Cond.static yX4_isIn, Cond.code yX4_isIn cX4_isIn 3 (some .boolean), Cond.methodLink RX4 40 yX4_isSpan, Cond.static yX4_isSpan, Cond.code yX4_isSpan cX4_isSpan 1 (some .boolean), Cond.methodLink RX4 43 yX4_isWeight, Cond.static yX4_isWeight, Cond.code yX4_isWeight cX4_isWeight 1 (some .boolean), Cond.methodLink RX4 53 yX4_refuseIfNoRoom]
def wsX4_series_r2 : List Cond := [Cond.instanceMethod yX4_refuseIfNoRoom, Cond.selects RX4 yX4_refuseIfNoRoom yX4_refuseIfNoRoom, Cond.code yX4_refuseIfNoRoom cX4_refuseIfNoRoom 4 none, Cond.classLink RX4 105 "java/lang/IllegalStateException", Cond.initialized "java/lang/IllegalStateException", Cond.methodLink RX4 132 yX3_size, Cond.instanceMethod yX3_size, Cond.selects RX3 yX3_size yX3_size, Cond.initialized RX3, Cond.code yX3_size cX3_size 1 (some .int), Cond.fieldLink RX3 19 "Bookinghouse$Row" "size" "I", Cond.methodLink RX4 67 yX2_size, Cond.instanceMethod yX2_size, Cond.selects RX2 yX2_size yX2_size, Cond.initialized RX2, Cond.code yX2_size cX2_size 1 (some .int), Cond.fieldLink RX2 14 "Bookinghouse$Ledger" "times" "LBookinghouse$Row;", Cond.methodLink RX2 32 yX3_size, Cond.methodLink RX4 57 yX4_make, Cond.instanceMethod yX4_make, Cond.selects RX4 yX4_make yX4_make, Cond.code yX4_make cX4_make 6 (some .int), Cond.methodLink RX4 272 yX2_enter, Cond.instanceMethod yX2_enter]
def wsX4_series_r3 : List Cond := [Cond.selects RX2 yX2_enter yX2_enter, Cond.code yX2_enter cX2_enter 4 (some .int), Cond.fieldLink RX2 20 "Bookinghouse$Ledger" "spans" "LBookinghouse$Row;", Cond.fieldLink RX2 23 "Bookinghouse$Ledger" "weights" "LBookinghouse$Row;", Cond.fieldLink RX2 26 "Bookinghouse$Ledger" "homes" "LBookinghouse$Row;", Cond.fieldLink RX2 29 "Bookinghouse$Ledger" "states" "LBookinghouse$Row;", Cond.methodLink RX2 36 yX3_add, Cond.instanceMethod yX3_add, Cond.selects RX3 yX3_add yX3_add, Cond.code yX3_add cX3_add 2 none, Cond.methodLink RX3 27 yX3_insert, Cond.instanceMethod yX3_insert, Cond.selects RX3 yX3_insert yX3_insert, Cond.code yX3_insert cX3_insert 3 none, Cond.fieldLink RX3 13 "Bookinghouse$Row" "items" "[I", Cond.methodLink RX3 31 arraycopyName, Cond.native arraycopyName, Cond.static arraycopyName, Cond.initialized "java/lang/System", Cond.methodLink RX4 122 yX4_enqueue, Cond.instanceMethod yX4_enqueue, Cond.selects RX4 yX4_enqueue yX4_enqueue, Cond.code yX4_enqueue cX4_enqueue 4 none, Cond.methodLink RX4 113 yX3_get]
def wsX4_series_r4 : List Cond := [Cond.instanceMethod yX3_get, Cond.selects RX3 yX3_get yX3_get, Cond.code yX3_get cX3_get 2 (some .int), Cond.methodLink RX3 23 yX3_holds, Cond.instanceMethod yX3_holds, Cond.selects RX3 yX3_holds yX3_holds, Cond.code yX3_holds cX3_holds 2 (some .boolean), Cond.methodLink RX4 276 yX2_isAhead, Cond.instanceMethod yX2_isAhead, Cond.selects RX2 yX2_isAhead yX2_isAhead, Cond.code yX2_isAhead cX2_isAhead 5 (some .boolean), Cond.methodLink RX2 39 yX3_get, Cond.methodLink RX4 280 yX3_insert, Cond.methodLink RX4 119 yX3_set, Cond.instanceMethod yX3_set, Cond.selects RX3 yX3_set yX3_set, Cond.code yX3_set cX3_set 3 none]
def wsX4_series : List Cond := .code yX4_series cX4_series 10 (some .int) :: ((wsX4_series_r1 ++ (wsX4_series_r2 ++ (wsX4_series_r3 ++ wsX4_series_r4))) ++ wsX40 ++ wsX10 ++ wsX30 ++ wsX20 ++ (vx_atS RX4 50 "java/lang/IllegalArgumentException" ["java/lang/RuntimeException", "java/lang/Exception"]).filter goodWord ++ (vx_atS RX4 163 "java/lang/IndexOutOfBoundsException" ["java/lang/RuntimeException", "java/lang/Exception"]).filter goodWord ++ (vx_atS RX4 109 "java/lang/IllegalStateException" ["java/lang/RuntimeException", "java/lang/Exception"]).filter goodWord ++ (vx_atM "java/lang/ArrayIndexOutOfBoundsException" ["java/lang/IndexOutOfBoundsException", "java/lang/RuntimeException", "java/lang/Exception"]).filter goodWord)
def wsX4_callOffPlace : List Cond := .code yX4_callOffPlace cX4_callOffPlace 3 none :: ([.fieldLink RX4 10 "Bookinghouse" "ledger" "LBookinghouse$Ledger;", .methodLink RX4 116 yX3_remove, .instanceMethod yX3_remove, .selects RX3 yX3_remove yX3_remove, .initialized RX3, .code yX3_remove cX3_remove 3 (some .int), .fieldLink RX3 13 "Bookinghouse$Row" "items" "[I", .fieldLink RX3 19 "Bookinghouse$Row" "size" "I", .methodLink RX3 31 arraycopyName, .native arraycopyName, .static arraycopyName, .initialized "java/lang/System", .methodLink RX3 23 yX3_holds, .instanceMethod yX3_holds, .selects RX3 yX3_holds yX3_holds, .code yX3_holds cX3_holds 2 (some .boolean), .methodLink RX4 119 yX3_set, .instanceMethod yX3_set, .selects RX3 yX3_set yX3_set, .code yX3_set cX3_set 3 none] ++ wsX40 ++ wsX20 ++ wsX10 ++ wsX30 ++ (vx_atM "java/lang/ArrayIndexOutOfBoundsException" ["java/lang/IndexOutOfBoundsException", "java/lang/RuntimeException", "java/lang/Exception"]).filter goodWord)
def wsX4_callOff_r1 : List Cond := [Cond.methodLink RX4 32 yX4_houseAt, Cond.instanceMethod yX4_houseAt, Cond.selects RX4 yX4_houseAt yX4_houseAt, Cond.initialized RX4, Cond.code yX4_houseAt cX4_houseAt 2 (some (.object "Bookinghouse$House")), Cond.classLink RX4 159 "java/lang/IndexOutOfBoundsException", Cond.initialized "java/lang/IndexOutOfBoundsException", Cond.fieldLink RX4 18 "Bookinghouse" "houses" "[LBookinghouse$House;", Cond.methodLink RX4 75 yX3_placeOf, Cond.instanceMethod yX3_placeOf, Cond.selects RX3 yX3_placeOf yX3_placeOf, Cond.initialized RX3, Cond.code yX3_placeOf cX3_placeOf 3 (some .int), Cond.fieldLink RX3 19 "Bookinghouse$Row" "size" "I", Cond.methodLink RX3 37 yX3_get, Cond.instanceMethod yX3_get, Cond.selects RX3 yX3_get yX3_get, Cond.code yX3_get cX3_get 2 (some .int), Cond.fieldLink RX3 13 "Bookinghouse$Row" "items" "[I", Cond.methodLink RX3 23 yX3_holds, Cond.instanceMethod yX3_holds, Cond.selects RX3 yX3_holds yX3_holds, Cond.code yX3_holds cX3_holds 2 (some .boolean), Cond.methodLink RX4 81 yX4_callOffPlace]
def wsX4_callOff_r2 : List Cond := [Cond.instanceMethod yX4_callOffPlace, Cond.selects RX4 yX4_callOffPlace yX4_callOffPlace, Cond.code yX4_callOffPlace cX4_callOffPlace 3 none, Cond.fieldLink RX4 10 "Bookinghouse" "ledger" "LBookinghouse$Ledger;", Cond.methodLink RX4 116 yX3_remove, Cond.instanceMethod yX3_remove, Cond.selects RX3 yX3_remove yX3_remove, Cond.code yX3_remove cX3_remove 3 (some .int), Cond.methodLink RX3 31 arraycopyName, Cond.native arraycopyName, Cond.static arraycopyName, Cond.initialized "java/lang/System", Cond.methodLink RX4 119 yX3_set, Cond.instanceMethod yX3_set, Cond.selects RX3 yX3_set yX3_set, Cond.code yX3_set cX3_set 3 none]
def wsX4_callOff : List Cond := .code yX4_callOff cX4_callOff 5 (some .boolean) :: ((wsX4_callOff_r1 ++ wsX4_callOff_r2) ++ wsX10 ++ wsX40 ++ wsX30 ++ wsX20 ++ (vx_atS RX4 163 "java/lang/IndexOutOfBoundsException" ["java/lang/RuntimeException", "java/lang/Exception"]).filter goodWord ++ (vx_atM "java/lang/ArrayIndexOutOfBoundsException" ["java/lang/IndexOutOfBoundsException", "java/lang/RuntimeException", "java/lang/Exception"]).filter goodWord)
def wsX4_refuseIfTurned : List Cond := .code yX4_refuseIfTurned cX4_refuseIfTurned 2 none :: ([.classLink RX4 46 "java/lang/IllegalArgumentException", .initialized "java/lang/IllegalArgumentException"] ++ (vx_atS RX4 50 "java/lang/IllegalArgumentException" ["java/lang/RuntimeException", "java/lang/Exception"]).filter goodWord)
def wsX4_waitingAheadOf : List Cond := .code yX4_waitingAheadOf cX4_waitingAheadOf 4 (some .int) :: ([.fieldLink RX4 10 "Bookinghouse" "ledger" "LBookinghouse$Ledger;", .methodLink RX4 132 yX3_size, .instanceMethod yX3_size, .selects RX3 yX3_size yX3_size, .initialized RX3, .code yX3_size cX3_size 1 (some .int), .fieldLink RX3 19 "Bookinghouse$Row" "size" "I", .methodLink RX4 113 yX3_get, .instanceMethod yX3_get, .selects RX3 yX3_get yX3_get, .code yX3_get cX3_get 2 (some .int), .fieldLink RX3 13 "Bookinghouse$Row" "items" "[I", .methodLink RX3 23 yX3_holds, .instanceMethod yX3_holds, .selects RX3 yX3_holds yX3_holds, .code yX3_holds cX3_holds 2 (some .boolean)] ++ wsX10 ++ wsX40 ++ wsX20 ++ wsX30 ++ (vx_atM "java/lang/ArrayIndexOutOfBoundsException" ["java/lang/IndexOutOfBoundsException", "java/lang/RuntimeException", "java/lang/Exception"]).filter goodWord)
def wsX4_callOffAll_r1 : List Cond := [Cond.methodLink RX4 32 yX4_houseAt, Cond.instanceMethod yX4_houseAt, Cond.selects RX4 yX4_houseAt yX4_houseAt, Cond.initialized RX4, Cond.code yX4_houseAt cX4_houseAt 2 (some (.object "Bookinghouse$House")), Cond.classLink RX4 159 "java/lang/IndexOutOfBoundsException", Cond.initialized "java/lang/IndexOutOfBoundsException", Cond.fieldLink RX4 18 "Bookinghouse" "houses" "[LBookinghouse$House;", Cond.methodLink RX4 85 yX4_refuseIfTurned, Cond.static yX4_refuseIfTurned, Cond.code yX4_refuseIfTurned cX4_refuseIfTurned 2 none, Cond.classLink RX4 46 "java/lang/IllegalArgumentException", Cond.initialized "java/lang/IllegalArgumentException", Cond.methodLink RX4 89 yX4_waitingAheadOf, Cond.instanceMethod yX4_waitingAheadOf, Cond.selects RX4 yX4_waitingAheadOf yX4_waitingAheadOf, Cond.code yX4_waitingAheadOf cX4_waitingAheadOf 4 (some .int), Cond.fieldLink RX4 10 "Bookinghouse" "ledger" "LBookinghouse$Ledger;", Cond.methodLink RX4 132 yX3_size, Cond.instanceMethod yX3_size, Cond.selects RX3 yX3_size yX3_size, Cond.initialized RX3, Cond.code yX3_size cX3_size 1 (some .int), Cond.fieldLink RX3 19 "Bookinghouse$Row" "size" "I"]
def wsX4_callOffAll_r2 : List Cond := [Cond.methodLink RX4 113 yX3_get, Cond.instanceMethod yX3_get, Cond.selects RX3 yX3_get yX3_get, Cond.code yX3_get cX3_get 2 (some .int), Cond.fieldLink RX3 13 "Bookinghouse$Row" "items" "[I", Cond.methodLink RX3 23 yX3_holds, Cond.instanceMethod yX3_holds, Cond.selects RX3 yX3_holds yX3_holds, Cond.code yX3_holds cX3_holds 2 (some .boolean), Cond.methodLink RX4 81 yX4_callOffPlace, Cond.instanceMethod yX4_callOffPlace, Cond.selects RX4 yX4_callOffPlace yX4_callOffPlace, Cond.code yX4_callOffPlace cX4_callOffPlace 3 none, Cond.methodLink RX4 116 yX3_remove, Cond.instanceMethod yX3_remove, Cond.selects RX3 yX3_remove yX3_remove, Cond.code yX3_remove cX3_remove 3 (some .int), Cond.methodLink RX3 31 arraycopyName, Cond.native arraycopyName, Cond.static arraycopyName, Cond.initialized "java/lang/System", Cond.methodLink RX4 119 yX3_set, Cond.instanceMethod yX3_set, Cond.selects RX3 yX3_set yX3_set]
def wsX4_callOffAll_r3 : List Cond := [Cond.code yX3_set cX3_set 3 none]
def wsX4_callOffAll : List Cond := .code yX4_callOffAll cX4_callOffAll 8 (some .int) :: ((wsX4_callOffAll_r1 ++ (wsX4_callOffAll_r2 ++ wsX4_callOffAll_r3)) ++ wsX40 ++ wsX10 ++ wsX20 ++ wsX30 ++ (vx_atS RX4 163 "java/lang/IndexOutOfBoundsException" ["java/lang/RuntimeException", "java/lang/Exception"]).filter goodWord ++ (vx_atS RX4 50 "java/lang/IllegalArgumentException" ["java/lang/RuntimeException", "java/lang/Exception"]).filter goodWord ++ (vx_atM "java/lang/ArrayIndexOutOfBoundsException" ["java/lang/IndexOutOfBoundsException", "java/lang/RuntimeException", "java/lang/Exception"]).filter goodWord)
def wsX4_refuseIfNoTime : List Cond := .code yX4_refuseIfNoTime cX4_refuseIfNoTime 1 none :: ([.classLink RX4 46 "java/lang/IllegalArgumentException", .initialized "java/lang/IllegalArgumentException", .methodLink RX4 36 yX4_isTime, .static yX4_isTime, .initialized RX4, .code yX4_isTime cX4_isTime 1 (some .boolean), .methodLink RX4 61 yX4_isIn, .static yX4_isIn, .code yX4_isIn cX4_isIn 3 (some .boolean)] ++ (vx_atS RX4 50 "java/lang/IllegalArgumentException" ["java/lang/RuntimeException", "java/lang/Exception"]).filter goodWord)
def wsX4_put_r1 : List Cond := [Cond.classLink RX4 96 "java/util/NoSuchElementException", Cond.initialized "java/util/NoSuchElementException", Cond.classLink RX4 105 "java/lang/IllegalStateException", Cond.initialized "java/lang/IllegalStateException", Cond.fieldLink RX4 10 "Bookinghouse" "ledger" "LBookinghouse$Ledger;", Cond.methodLink RX4 32 yX4_houseAt, Cond.instanceMethod yX4_houseAt, Cond.selects RX4 yX4_houseAt yX4_houseAt, Cond.initialized RX4, Cond.code yX4_houseAt cX4_houseAt 2 (some (.object "Bookinghouse$House")), Cond.classLink RX4 159 "java/lang/IndexOutOfBoundsException", Cond.initialized "java/lang/IndexOutOfBoundsException", Cond.fieldLink RX4 18 "Bookinghouse" "houses" "[LBookinghouse$House;", Cond.methodLink RX4 93 yX4_refuseIfNoTime, Cond.static yX4_refuseIfNoTime, Cond.code yX4_refuseIfNoTime cX4_refuseIfNoTime 1 none, Cond.classLink RX4 46 "java/lang/IllegalArgumentException", Cond.initialized "java/lang/IllegalArgumentException", Cond.methodLink RX4 36 yX4_isTime, Cond.static yX4_isTime, Cond.code yX4_isTime cX4_isTime 1 (some .boolean), Cond.methodLink RX4 61 yX4_isIn, Cond.static yX4_isIn, Cond.code yX4_isIn cX4_isIn 3 (some .boolean)]
def wsX4_put_r2 : List Cond := [Cond.methodLink RX4 75 yX3_placeOf, Cond.instanceMethod yX3_placeOf, Cond.selects RX3 yX3_placeOf yX3_placeOf, Cond.initialized RX3, Cond.code yX3_placeOf cX3_placeOf 3 (some .int), Cond.fieldLink RX3 19 "Bookinghouse$Row" "size" "I", Cond.methodLink RX3 37 yX3_get, Cond.instanceMethod yX3_get, Cond.selects RX3 yX3_get yX3_get, Cond.code yX3_get cX3_get 2 (some .int), Cond.fieldLink RX3 13 "Bookinghouse$Row" "items" "[I", Cond.methodLink RX3 23 yX3_holds, Cond.instanceMethod yX3_holds, Cond.selects RX3 yX3_holds yX3_holds, Cond.code yX3_holds cX3_holds 2 (some .boolean), Cond.methodLink RX4 113 yX3_get, Cond.methodLink RX4 116 yX3_remove, Cond.instanceMethod yX3_remove, Cond.selects RX3 yX3_remove yX3_remove, Cond.code yX3_remove cX3_remove 3 (some .int), Cond.methodLink RX3 31 arraycopyName, Cond.native arraycopyName, Cond.static arraycopyName, Cond.initialized "java/lang/System"]
def wsX4_put_r3 : List Cond := [Cond.methodLink RX4 119 yX3_set, Cond.instanceMethod yX3_set, Cond.selects RX3 yX3_set yX3_set, Cond.code yX3_set cX3_set 3 none, Cond.methodLink RX4 122 yX4_enqueue, Cond.instanceMethod yX4_enqueue, Cond.selects RX4 yX4_enqueue yX4_enqueue, Cond.code yX4_enqueue cX4_enqueue 4 none, Cond.methodLink RX4 132 yX3_size, Cond.instanceMethod yX3_size, Cond.selects RX3 yX3_size yX3_size, Cond.code yX3_size cX3_size 1 (some .int), Cond.methodLink RX4 276 yX2_isAhead, Cond.instanceMethod yX2_isAhead, Cond.selects RX2 yX2_isAhead yX2_isAhead, Cond.initialized RX2, Cond.code yX2_isAhead cX2_isAhead 5 (some .boolean), Cond.fieldLink RX2 14 "Bookinghouse$Ledger" "times" "LBookinghouse$Row;", Cond.methodLink RX2 39 yX3_get, Cond.methodLink RX4 280 yX3_insert, Cond.instanceMethod yX3_insert, Cond.selects RX3 yX3_insert yX3_insert, Cond.code yX3_insert cX3_insert 3 none]
def wsX4_put : List Cond := .code yX4_put cX4_put 7 (some .int) :: ((wsX4_put_r1 ++ (wsX4_put_r2 ++ wsX4_put_r3)) ++ wsX10 ++ wsX40 ++ wsX20 ++ wsX30 ++ (ntAt RX4 100 "java/util/NoSuchElementException" 13 prog_20_method_4_code ["java/lang/RuntimeException", "java/lang/Exception"]).filter goodWord ++ (vx_atS RX4 109 "java/lang/IllegalStateException" ["java/lang/RuntimeException", "java/lang/Exception"]).filter goodWord ++ (vx_atS RX4 163 "java/lang/IndexOutOfBoundsException" ["java/lang/RuntimeException", "java/lang/Exception"]).filter goodWord ++ (vx_atS RX4 50 "java/lang/IllegalArgumentException" ["java/lang/RuntimeException", "java/lang/Exception"]).filter goodWord ++ (vx_atM "java/lang/ArrayIndexOutOfBoundsException" ["java/lang/IndexOutOfBoundsException", "java/lang/RuntimeException", "java/lang/Exception"]).filter goodWord)
def wsX4_refuseIfSame : List Cond := .code yX4_refuseIfSame cX4_refuseIfSame 2 none :: ([.classLink RX4 105 "java/lang/IllegalStateException", .initialized "java/lang/IllegalStateException"] ++ (vx_atS RX4 109 "java/lang/IllegalStateException" ["java/lang/RuntimeException", "java/lang/Exception"]).filter goodWord)
def wsX4_move_r1 : List Cond := [Cond.classLink RX4 105 "java/lang/IllegalStateException", Cond.initialized "java/lang/IllegalStateException", Cond.fieldLink RX4 10 "Bookinghouse" "ledger" "LBookinghouse$Ledger;", Cond.methodLink RX4 132 yX3_size, Cond.instanceMethod yX3_size, Cond.selects RX3 yX3_size yX3_size, Cond.initialized RX3, Cond.code yX3_size cX3_size 1 (some .int), Cond.fieldLink RX3 19 "Bookinghouse$Row" "size" "I", Cond.methodLink RX4 113 yX3_get, Cond.instanceMethod yX3_get, Cond.selects RX3 yX3_get yX3_get, Cond.code yX3_get cX3_get 2 (some .int), Cond.fieldLink RX3 13 "Bookinghouse$Row" "items" "[I", Cond.methodLink RX3 23 yX3_holds, Cond.instanceMethod yX3_holds, Cond.selects RX3 yX3_holds yX3_holds, Cond.code yX3_holds cX3_holds 2 (some .boolean), Cond.methodLink RX4 116 yX3_remove, Cond.instanceMethod yX3_remove, Cond.selects RX3 yX3_remove yX3_remove, Cond.code yX3_remove cX3_remove 3 (some .int), Cond.methodLink RX3 31 arraycopyName, Cond.native arraycopyName]
def wsX4_move_r2 : List Cond := [Cond.static arraycopyName, Cond.initialized "java/lang/System", Cond.methodLink RX4 122 yX4_enqueue, Cond.instanceMethod yX4_enqueue, Cond.selects RX4 yX4_enqueue yX4_enqueue, Cond.initialized RX4, Cond.code yX4_enqueue cX4_enqueue 4 none, Cond.methodLink RX4 276 yX2_isAhead, Cond.instanceMethod yX2_isAhead, Cond.selects RX2 yX2_isAhead yX2_isAhead, Cond.initialized RX2, Cond.code yX2_isAhead cX2_isAhead 5 (some .boolean), Cond.fieldLink RX2 14 "Bookinghouse$Ledger" "times" "LBookinghouse$Row;", Cond.methodLink RX2 39 yX3_get, Cond.methodLink RX4 280 yX3_insert, Cond.instanceMethod yX3_insert, Cond.selects RX3 yX3_insert yX3_insert, Cond.code yX3_insert cX3_insert 3 none, Cond.methodLink RX4 119 yX3_set, Cond.instanceMethod yX3_set, Cond.selects RX3 yX3_set yX3_set, Cond.code yX3_set cX3_set 3 none]
def wsX4_move : List Cond := .code yX4_move cX4_move 6 (some .int) :: ((wsX4_move_r1 ++ wsX4_move_r2) ++ wsX10 ++ wsX40 ++ wsX20 ++ wsX30 ++ (vx_atS RX4 109 "java/lang/IllegalStateException" ["java/lang/RuntimeException", "java/lang/Exception"]).filter goodWord ++ (vx_atM "java/lang/ArrayIndexOutOfBoundsException" ["java/lang/IndexOutOfBoundsException", "java/lang/RuntimeException", "java/lang/Exception"]).filter goodWord)
def wsX4_join_r1 : List Cond := [Cond.methodLink RX4 32 yX4_houseAt, Cond.instanceMethod yX4_houseAt, Cond.selects RX4 yX4_houseAt yX4_houseAt, Cond.initialized RX4, Cond.code yX4_houseAt cX4_houseAt 2 (some (.object "Bookinghouse$House")), Cond.classLink RX4 159 "java/lang/IndexOutOfBoundsException", Cond.initialized "java/lang/IndexOutOfBoundsException", Cond.fieldLink RX4 18 "Bookinghouse" "houses" "[LBookinghouse$House;", Cond.methodLink RX4 125 yX4_refuseIfSame, Cond.static yX4_refuseIfSame, Cond.code yX4_refuseIfSame cX4_refuseIfSame 2 none, Cond.classLink RX4 105 "java/lang/IllegalStateException", Cond.initialized "java/lang/IllegalStateException", Cond.methodLink RX4 128 yX4_move, Cond.instanceMethod yX4_move, Cond.selects RX4 yX4_move yX4_move, Cond.code yX4_move cX4_move 6 (some .int), Cond.fieldLink RX4 10 "Bookinghouse" "ledger" "LBookinghouse$Ledger;", Cond.methodLink RX4 132 yX3_size, Cond.instanceMethod yX3_size, Cond.selects RX3 yX3_size yX3_size, Cond.initialized RX3, Cond.code yX3_size cX3_size 1 (some .int), Cond.fieldLink RX3 19 "Bookinghouse$Row" "size" "I"]
def wsX4_join_r2 : List Cond := [Cond.methodLink RX4 113 yX3_get, Cond.instanceMethod yX3_get, Cond.selects RX3 yX3_get yX3_get, Cond.code yX3_get cX3_get 2 (some .int), Cond.fieldLink RX3 13 "Bookinghouse$Row" "items" "[I", Cond.methodLink RX3 23 yX3_holds, Cond.instanceMethod yX3_holds, Cond.selects RX3 yX3_holds yX3_holds, Cond.code yX3_holds cX3_holds 2 (some .boolean), Cond.methodLink RX4 116 yX3_remove, Cond.instanceMethod yX3_remove, Cond.selects RX3 yX3_remove yX3_remove, Cond.code yX3_remove cX3_remove 3 (some .int), Cond.methodLink RX3 31 arraycopyName, Cond.native arraycopyName, Cond.static arraycopyName, Cond.initialized "java/lang/System", Cond.methodLink RX4 122 yX4_enqueue, Cond.instanceMethod yX4_enqueue, Cond.selects RX4 yX4_enqueue yX4_enqueue, Cond.code yX4_enqueue cX4_enqueue 4 none, Cond.methodLink RX4 276 yX2_isAhead, Cond.instanceMethod yX2_isAhead, Cond.selects RX2 yX2_isAhead yX2_isAhead]
def wsX4_join_r3 : List Cond := [Cond.initialized RX2, Cond.code yX2_isAhead cX2_isAhead 5 (some .boolean), Cond.fieldLink RX2 14 "Bookinghouse$Ledger" "times" "LBookinghouse$Row;", Cond.methodLink RX2 39 yX3_get, Cond.methodLink RX4 280 yX3_insert, Cond.instanceMethod yX3_insert, Cond.selects RX3 yX3_insert yX3_insert, Cond.code yX3_insert cX3_insert 3 none, Cond.methodLink RX4 119 yX3_set, Cond.instanceMethod yX3_set, Cond.selects RX3 yX3_set yX3_set, Cond.code yX3_set cX3_set 3 none]
def wsX4_join : List Cond := .code yX4_join cX4_join 5 (some .int) :: ((wsX4_join_r1 ++ (wsX4_join_r2 ++ wsX4_join_r3)) ++ wsX40 ++ wsX10 ++ wsX20 ++ wsX30 ++ (vx_atS RX4 163 "java/lang/IndexOutOfBoundsException" ["java/lang/RuntimeException", "java/lang/Exception"]).filter goodWord ++ (vx_atS RX4 109 "java/lang/IllegalStateException" ["java/lang/RuntimeException", "java/lang/Exception"]).filter goodWord ++ (vx_atM "java/lang/ArrayIndexOutOfBoundsException" ["java/lang/IndexOutOfBoundsException", "java/lang/RuntimeException", "java/lang/Exception"]).filter goodWord)
def wsX4_part_r1 : List Cond := [Cond.methodLink RX4 32 yX4_houseAt, Cond.instanceMethod yX4_houseAt, Cond.selects RX4 yX4_houseAt yX4_houseAt, Cond.initialized RX4, Cond.code yX4_houseAt cX4_houseAt 2 (some (.object "Bookinghouse$House")), Cond.classLink RX4 159 "java/lang/IndexOutOfBoundsException", Cond.initialized "java/lang/IndexOutOfBoundsException", Cond.fieldLink RX4 18 "Bookinghouse" "houses" "[LBookinghouse$House;", Cond.methodLink RX4 125 yX4_refuseIfSame, Cond.static yX4_refuseIfSame, Cond.code yX4_refuseIfSame cX4_refuseIfSame 2 none, Cond.classLink RX4 105 "java/lang/IllegalStateException", Cond.initialized "java/lang/IllegalStateException", Cond.methodLink RX4 89 yX4_waitingAheadOf, Cond.instanceMethod yX4_waitingAheadOf, Cond.selects RX4 yX4_waitingAheadOf yX4_waitingAheadOf, Cond.code yX4_waitingAheadOf cX4_waitingAheadOf 4 (some .int), Cond.fieldLink RX4 10 "Bookinghouse" "ledger" "LBookinghouse$Ledger;", Cond.methodLink RX4 132 yX3_size, Cond.instanceMethod yX3_size, Cond.selects RX3 yX3_size yX3_size, Cond.initialized RX3, Cond.code yX3_size cX3_size 1 (some .int), Cond.fieldLink RX3 19 "Bookinghouse$Row" "size" "I"]
def wsX4_part_r2 : List Cond := [Cond.methodLink RX4 113 yX3_get, Cond.instanceMethod yX3_get, Cond.selects RX3 yX3_get yX3_get, Cond.code yX3_get cX3_get 2 (some .int), Cond.fieldLink RX3 13 "Bookinghouse$Row" "items" "[I", Cond.methodLink RX3 23 yX3_holds, Cond.instanceMethod yX3_holds, Cond.selects RX3 yX3_holds yX3_holds, Cond.code yX3_holds cX3_holds 2 (some .boolean), Cond.methodLink RX4 128 yX4_move, Cond.instanceMethod yX4_move, Cond.selects RX4 yX4_move yX4_move, Cond.code yX4_move cX4_move 6 (some .int), Cond.methodLink RX4 116 yX3_remove, Cond.instanceMethod yX3_remove, Cond.selects RX3 yX3_remove yX3_remove, Cond.code yX3_remove cX3_remove 3 (some .int), Cond.methodLink RX3 31 arraycopyName, Cond.native arraycopyName, Cond.static arraycopyName, Cond.initialized "java/lang/System", Cond.methodLink RX4 122 yX4_enqueue, Cond.instanceMethod yX4_enqueue, Cond.selects RX4 yX4_enqueue yX4_enqueue]
def wsX4_part_r3 : List Cond := [Cond.code yX4_enqueue cX4_enqueue 4 none, Cond.methodLink RX4 276 yX2_isAhead, Cond.instanceMethod yX2_isAhead, Cond.selects RX2 yX2_isAhead yX2_isAhead, Cond.initialized RX2, Cond.code yX2_isAhead cX2_isAhead 5 (some .boolean), Cond.fieldLink RX2 14 "Bookinghouse$Ledger" "times" "LBookinghouse$Row;", Cond.methodLink RX2 39 yX3_get, Cond.methodLink RX4 280 yX3_insert, Cond.instanceMethod yX3_insert, Cond.selects RX3 yX3_insert yX3_insert, Cond.code yX3_insert cX3_insert 3 none, Cond.methodLink RX4 119 yX3_set, Cond.instanceMethod yX3_set, Cond.selects RX3 yX3_set yX3_set, Cond.code yX3_set cX3_set 3 none]
def wsX4_part : List Cond := .code yX4_part cX4_part 6 (some .int) :: ((wsX4_part_r1 ++ (wsX4_part_r2 ++ wsX4_part_r3)) ++ wsX40 ++ wsX10 ++ wsX20 ++ wsX30 ++ (vx_atS RX4 163 "java/lang/IndexOutOfBoundsException" ["java/lang/RuntimeException", "java/lang/Exception"]).filter goodWord ++ (vx_atS RX4 109 "java/lang/IllegalStateException" ["java/lang/RuntimeException", "java/lang/Exception"]).filter goodWord ++ (vx_atM "java/lang/ArrayIndexOutOfBoundsException" ["java/lang/IndexOutOfBoundsException", "java/lang/RuntimeException", "java/lang/Exception"]).filter goodWord)
def wsX4_letFirstCome_r1 : List Cond := [Cond.fieldLink RX4 10 "Bookinghouse" "ledger" "LBookinghouse$Ledger;", Cond.methodLink RX4 116 yX3_remove, Cond.instanceMethod yX3_remove, Cond.selects RX3 yX3_remove yX3_remove, Cond.initialized RX3, Cond.code yX3_remove cX3_remove 3 (some .int), Cond.fieldLink RX3 13 "Bookinghouse$Row" "items" "[I", Cond.fieldLink RX3 19 "Bookinghouse$Row" "size" "I", Cond.methodLink RX3 31 arraycopyName, Cond.native arraycopyName, Cond.static arraycopyName, Cond.initialized "java/lang/System", Cond.methodLink RX3 23 yX3_holds, Cond.instanceMethod yX3_holds, Cond.selects RX3 yX3_holds yX3_holds, Cond.code yX3_holds cX3_holds 2 (some .boolean), Cond.methodLink RX4 288 yX3_add, Cond.instanceMethod yX3_add, Cond.selects RX3 yX3_add yX3_add, Cond.code yX3_add cX3_add 2 none, Cond.methodLink RX3 27 yX3_insert, Cond.instanceMethod yX3_insert, Cond.selects RX3 yX3_insert yX3_insert, Cond.code yX3_insert cX3_insert 3 none]
def wsX4_letFirstCome_r2 : List Cond := [Cond.methodLink RX4 113 yX3_get, Cond.instanceMethod yX3_get, Cond.selects RX3 yX3_get yX3_get, Cond.code yX3_get cX3_get 2 (some .int), Cond.methodLink RX4 291 yX2_end, Cond.instanceMethod yX2_end, Cond.selects RX2 yX2_end yX2_end, Cond.initialized RX2, Cond.code yX2_end cX2_end 2 (some .int), Cond.fieldLink RX2 14 "Bookinghouse$Ledger" "times" "LBookinghouse$Row;", Cond.fieldLink RX2 20 "Bookinghouse$Ledger" "spans" "LBookinghouse$Row;", Cond.methodLink RX2 39 yX3_get, Cond.methodLink RX4 294 yX0_enter, Cond.instanceMethod yX0_enter, Cond.selects RX0 yX0_enter yX0_enter, Cond.initialized RX0, Cond.code yX0_enter cX0_enter 4 none, Cond.methodLink RX0 34 yX0_alter, Cond.instanceMethod yX0_alter, Cond.selects RX0 yX0_alter yX0_alter, Cond.code yX0_alter cX0_alter 4 none, Cond.fieldLink RX0 14 "Bookinghouse$Crowd" "times" "LBookinghouse$Row;", Cond.fieldLink RX0 20 "Bookinghouse$Crowd" "changes" "LBookinghouse$Row;", Cond.methodLink RX0 26 yX3_size]
def wsX4_letFirstCome_r3 : List Cond := [Cond.instanceMethod yX3_size, Cond.selects RX3 yX3_size yX3_size, Cond.code yX3_size cX3_size 1 (some .int), Cond.methodLink RX0 38 yX3_get, Cond.methodLink RX0 42 yX3_insert, Cond.methodLink RX0 45 yX3_remove, Cond.methodLink RX0 48 yX3_set, Cond.instanceMethod yX3_set, Cond.selects RX3 yX3_set yX3_set, Cond.code yX3_set cX3_set 3 none, Cond.methodLink RX4 119 yX3_set]
def wsX4_letFirstCome : List Cond := .code yX4_letFirstCome cX4_letFirstCome 3 (some .int) :: ((wsX4_letFirstCome_r1 ++ (wsX4_letFirstCome_r2 ++ wsX4_letFirstCome_r3)) ++ wsX10 ++ wsX40 ++ wsX20 ++ wsX30 ++ wsX00 ++ (vx_atM "java/lang/ArrayIndexOutOfBoundsException" ["java/lang/IndexOutOfBoundsException", "java/lang/RuntimeException", "java/lang/Exception"]).filter goodWord)
def wsX4_next_r1 : List Cond := [Cond.classLink RX4 96 "java/util/NoSuchElementException", Cond.initialized "java/util/NoSuchElementException", Cond.methodLink RX4 32 yX4_houseAt, Cond.instanceMethod yX4_houseAt, Cond.selects RX4 yX4_houseAt yX4_houseAt, Cond.initialized RX4, Cond.code yX4_houseAt cX4_houseAt 2 (some (.object "Bookinghouse$House")), Cond.classLink RX4 159 "java/lang/IndexOutOfBoundsException", Cond.initialized "java/lang/IndexOutOfBoundsException", Cond.fieldLink RX4 18 "Bookinghouse" "houses" "[LBookinghouse$House;", Cond.methodLink RX4 132 yX3_size, Cond.instanceMethod yX3_size, Cond.selects RX3 yX3_size yX3_size, Cond.initialized RX3, Cond.code yX3_size cX3_size 1 (some .int), Cond.fieldLink RX3 19 "Bookinghouse$Row" "size" "I", Cond.methodLink RX4 135 yX4_letFirstCome, Cond.instanceMethod yX4_letFirstCome, Cond.selects RX4 yX4_letFirstCome yX4_letFirstCome, Cond.code yX4_letFirstCome cX4_letFirstCome 3 (some .int), Cond.fieldLink RX4 10 "Bookinghouse" "ledger" "LBookinghouse$Ledger;", Cond.methodLink RX4 116 yX3_remove, Cond.instanceMethod yX3_remove, Cond.selects RX3 yX3_remove yX3_remove]
def wsX4_next_r2 : List Cond := [Cond.code yX3_remove cX3_remove 3 (some .int), Cond.fieldLink RX3 13 "Bookinghouse$Row" "items" "[I", Cond.methodLink RX3 31 arraycopyName, Cond.native arraycopyName, Cond.static arraycopyName, Cond.initialized "java/lang/System", Cond.methodLink RX3 23 yX3_holds, Cond.instanceMethod yX3_holds, Cond.selects RX3 yX3_holds yX3_holds, Cond.code yX3_holds cX3_holds 2 (some .boolean), Cond.methodLink RX4 288 yX3_add, Cond.instanceMethod yX3_add, Cond.selects RX3 yX3_add yX3_add, Cond.code yX3_add cX3_add 2 none, Cond.methodLink RX3 27 yX3_insert, Cond.instanceMethod yX3_insert, Cond.selects RX3 yX3_insert yX3_insert, Cond.code yX3_insert cX3_insert 3 none, Cond.methodLink RX4 113 yX3_get, Cond.instanceMethod yX3_get, Cond.selects RX3 yX3_get yX3_get, Cond.code yX3_get cX3_get 2 (some .int), Cond.methodLink RX4 291 yX2_end, Cond.instanceMethod yX2_end]
def wsX4_next_r3 : List Cond := [Cond.selects RX2 yX2_end yX2_end, Cond.initialized RX2, Cond.code yX2_end cX2_end 2 (some .int), Cond.fieldLink RX2 14 "Bookinghouse$Ledger" "times" "LBookinghouse$Row;", Cond.fieldLink RX2 20 "Bookinghouse$Ledger" "spans" "LBookinghouse$Row;", Cond.methodLink RX2 39 yX3_get, Cond.methodLink RX4 294 yX0_enter, Cond.instanceMethod yX0_enter, Cond.selects RX0 yX0_enter yX0_enter, Cond.initialized RX0, Cond.code yX0_enter cX0_enter 4 none, Cond.methodLink RX0 34 yX0_alter, Cond.instanceMethod yX0_alter, Cond.selects RX0 yX0_alter yX0_alter, Cond.code yX0_alter cX0_alter 4 none, Cond.fieldLink RX0 14 "Bookinghouse$Crowd" "times" "LBookinghouse$Row;", Cond.fieldLink RX0 20 "Bookinghouse$Crowd" "changes" "LBookinghouse$Row;", Cond.methodLink RX0 26 yX3_size, Cond.methodLink RX0 38 yX3_get, Cond.methodLink RX0 42 yX3_insert, Cond.methodLink RX0 45 yX3_remove, Cond.methodLink RX0 48 yX3_set, Cond.instanceMethod yX3_set, Cond.selects RX3 yX3_set yX3_set]
def wsX4_next_r4 : List Cond := [Cond.code yX3_set cX3_set 3 none, Cond.methodLink RX4 119 yX3_set]
def wsX4_next : List Cond := .code yX4_next cX4_next 3 (some .int) :: ((wsX4_next_r1 ++ (wsX4_next_r2 ++ (wsX4_next_r3 ++ wsX4_next_r4))) ++ wsX10 ++ wsX40 ++ wsX30 ++ wsX20 ++ wsX00 ++ (ntAt RX4 100 "java/util/NoSuchElementException" 13 prog_20_method_4_code ["java/lang/RuntimeException", "java/lang/Exception"]).filter goodWord ++ (vx_atS RX4 163 "java/lang/IndexOutOfBoundsException" ["java/lang/RuntimeException", "java/lang/Exception"]).filter goodWord ++ (vx_atM "java/lang/ArrayIndexOutOfBoundsException" ["java/lang/IndexOutOfBoundsException", "java/lang/RuntimeException", "java/lang/Exception"]).filter goodWord)
def wsX4_run_r1 : List Cond := [Cond.classLink RX4 105 "java/lang/IllegalStateException", Cond.initialized "java/lang/IllegalStateException", Cond.methodLink RX4 32 yX4_houseAt, Cond.instanceMethod yX4_houseAt, Cond.selects RX4 yX4_houseAt yX4_houseAt, Cond.initialized RX4, Cond.code yX4_houseAt cX4_houseAt 2 (some (.object "Bookinghouse$House")), Cond.classLink RX4 159 "java/lang/IndexOutOfBoundsException", Cond.initialized "java/lang/IndexOutOfBoundsException", Cond.fieldLink RX4 18 "Bookinghouse" "houses" "[LBookinghouse$House;", Cond.methodLink RX4 93 yX4_refuseIfNoTime, Cond.static yX4_refuseIfNoTime, Cond.code yX4_refuseIfNoTime cX4_refuseIfNoTime 1 none, Cond.classLink RX4 46 "java/lang/IllegalArgumentException", Cond.initialized "java/lang/IllegalArgumentException", Cond.methodLink RX4 36 yX4_isTime, Cond.static yX4_isTime, Cond.code yX4_isTime cX4_isTime 1 (some .boolean), Cond.methodLink RX4 61 yX4_isIn, Cond.static yX4_isIn, Cond.code yX4_isIn cX4_isIn 3 (some .boolean), Cond.methodLink RX4 89 yX4_waitingAheadOf, Cond.instanceMethod yX4_waitingAheadOf, Cond.selects RX4 yX4_waitingAheadOf yX4_waitingAheadOf]
def wsX4_run_r2 : List Cond := [Cond.code yX4_waitingAheadOf cX4_waitingAheadOf 4 (some .int), Cond.fieldLink RX4 10 "Bookinghouse" "ledger" "LBookinghouse$Ledger;", Cond.methodLink RX4 132 yX3_size, Cond.instanceMethod yX3_size, Cond.selects RX3 yX3_size yX3_size, Cond.initialized RX3, Cond.code yX3_size cX3_size 1 (some .int), Cond.fieldLink RX3 19 "Bookinghouse$Row" "size" "I", Cond.methodLink RX4 113 yX3_get, Cond.instanceMethod yX3_get, Cond.selects RX3 yX3_get yX3_get, Cond.code yX3_get cX3_get 2 (some .int), Cond.fieldLink RX3 13 "Bookinghouse$Row" "items" "[I", Cond.methodLink RX3 23 yX3_holds, Cond.instanceMethod yX3_holds, Cond.selects RX3 yX3_holds yX3_holds, Cond.code yX3_holds cX3_holds 2 (some .boolean), Cond.methodLink RX4 135 yX4_letFirstCome, Cond.instanceMethod yX4_letFirstCome, Cond.selects RX4 yX4_letFirstCome yX4_letFirstCome, Cond.code yX4_letFirstCome cX4_letFirstCome 3 (some .int), Cond.methodLink RX4 116 yX3_remove, Cond.instanceMethod yX3_remove, Cond.selects RX3 yX3_remove yX3_remove]
def wsX4_run_r3 : List Cond := [Cond.code yX3_remove cX3_remove 3 (some .int), Cond.methodLink RX3 31 arraycopyName, Cond.native arraycopyName, Cond.static arraycopyName, Cond.initialized "java/lang/System", Cond.methodLink RX4 288 yX3_add, Cond.instanceMethod yX3_add, Cond.selects RX3 yX3_add yX3_add, Cond.code yX3_add cX3_add 2 none, Cond.methodLink RX3 27 yX3_insert, Cond.instanceMethod yX3_insert, Cond.selects RX3 yX3_insert yX3_insert, Cond.code yX3_insert cX3_insert 3 none, Cond.methodLink RX4 291 yX2_end, Cond.instanceMethod yX2_end, Cond.selects RX2 yX2_end yX2_end, Cond.initialized RX2, Cond.code yX2_end cX2_end 2 (some .int), Cond.fieldLink RX2 14 "Bookinghouse$Ledger" "times" "LBookinghouse$Row;", Cond.fieldLink RX2 20 "Bookinghouse$Ledger" "spans" "LBookinghouse$Row;", Cond.methodLink RX2 39 yX3_get, Cond.methodLink RX4 294 yX0_enter, Cond.instanceMethod yX0_enter, Cond.selects RX0 yX0_enter yX0_enter]
def wsX4_run_r4 : List Cond := [Cond.initialized RX0, Cond.code yX0_enter cX0_enter 4 none, Cond.methodLink RX0 34 yX0_alter, Cond.instanceMethod yX0_alter, Cond.selects RX0 yX0_alter yX0_alter, Cond.code yX0_alter cX0_alter 4 none, Cond.fieldLink RX0 14 "Bookinghouse$Crowd" "times" "LBookinghouse$Row;", Cond.fieldLink RX0 20 "Bookinghouse$Crowd" "changes" "LBookinghouse$Row;", Cond.methodLink RX0 26 yX3_size, Cond.methodLink RX0 38 yX3_get, Cond.methodLink RX0 42 yX3_insert, Cond.methodLink RX0 45 yX3_remove, Cond.methodLink RX0 48 yX3_set, Cond.instanceMethod yX3_set, Cond.selects RX3 yX3_set yX3_set, Cond.code yX3_set cX3_set 3 none, Cond.methodLink RX4 119 yX3_set]
def wsX4_run : List Cond := .code yX4_run cX4_run 6 (some .int) :: ((wsX4_run_r1 ++ (wsX4_run_r2 ++ (wsX4_run_r3 ++ wsX4_run_r4))) ++ wsX10 ++ wsX40 ++ wsX20 ++ wsX30 ++ wsX00 ++ (vx_atS RX4 109 "java/lang/IllegalStateException" ["java/lang/RuntimeException", "java/lang/Exception"]).filter goodWord ++ (vx_atS RX4 163 "java/lang/IndexOutOfBoundsException" ["java/lang/RuntimeException", "java/lang/Exception"]).filter goodWord ++ (vx_atS RX4 50 "java/lang/IllegalArgumentException" ["java/lang/RuntimeException", "java/lang/Exception"]).filter goodWord ++ (vx_atM "java/lang/ArrayIndexOutOfBoundsException" ["java/lang/IndexOutOfBoundsException", "java/lang/RuntimeException", "java/lang/Exception"]).filter goodWord)
def wsX4_cameBehind : List Cond := .code yX4_cameBehind cX4_cameBehind 4 (some .int) :: ([.fieldLink RX4 10 "Bookinghouse" "ledger" "LBookinghouse$Ledger;", .methodLink RX4 132 yX3_size, .instanceMethod yX3_size, .selects RX3 yX3_size yX3_size, .initialized RX3, .code yX3_size cX3_size 1 (some .int), .fieldLink RX3 19 "Bookinghouse$Row" "size" "I", .methodLink RX4 113 yX3_get, .instanceMethod yX3_get, .selects RX3 yX3_get yX3_get, .code yX3_get cX3_get 2 (some .int), .fieldLink RX3 13 "Bookinghouse$Row" "items" "[I", .methodLink RX3 23 yX3_holds, .instanceMethod yX3_holds, .selects RX3 yX3_holds yX3_holds, .code yX3_holds cX3_holds 2 (some .boolean)] ++ wsX10 ++ wsX40 ++ wsX20 ++ wsX30 ++ (vx_atM "java/lang/ArrayIndexOutOfBoundsException" ["java/lang/IndexOutOfBoundsException", "java/lang/RuntimeException", "java/lang/Exception"]).filter goodWord)
def wsX4_bringLastBack_r1 : List Cond := [Cond.fieldLink RX4 10 "Bookinghouse" "ledger" "LBookinghouse$Ledger;", Cond.methodLink RX4 132 yX3_size, Cond.instanceMethod yX3_size, Cond.selects RX3 yX3_size yX3_size, Cond.initialized RX3, Cond.code yX3_size cX3_size 1 (some .int), Cond.fieldLink RX3 19 "Bookinghouse$Row" "size" "I", Cond.methodLink RX4 116 yX3_remove, Cond.instanceMethod yX3_remove, Cond.selects RX3 yX3_remove yX3_remove, Cond.code yX3_remove cX3_remove 3 (some .int), Cond.fieldLink RX3 13 "Bookinghouse$Row" "items" "[I", Cond.methodLink RX3 31 arraycopyName, Cond.native arraycopyName, Cond.static arraycopyName, Cond.initialized "java/lang/System", Cond.methodLink RX3 23 yX3_holds, Cond.instanceMethod yX3_holds, Cond.selects RX3 yX3_holds yX3_holds, Cond.code yX3_holds cX3_holds 2 (some .boolean), Cond.methodLink RX4 113 yX3_get, Cond.instanceMethod yX3_get, Cond.selects RX3 yX3_get yX3_get, Cond.code yX3_get cX3_get 2 (some .int)]
def wsX4_bringLastBack_r2 : List Cond := [Cond.methodLink RX4 291 yX2_end, Cond.instanceMethod yX2_end, Cond.selects RX2 yX2_end yX2_end, Cond.initialized RX2, Cond.code yX2_end cX2_end 2 (some .int), Cond.fieldLink RX2 14 "Bookinghouse$Ledger" "times" "LBookinghouse$Row;", Cond.fieldLink RX2 20 "Bookinghouse$Ledger" "spans" "LBookinghouse$Row;", Cond.methodLink RX2 39 yX3_get, Cond.methodLink RX4 294 yX0_enter, Cond.instanceMethod yX0_enter, Cond.selects RX0 yX0_enter yX0_enter, Cond.initialized RX0, Cond.code yX0_enter cX0_enter 4 none, Cond.methodLink RX0 34 yX0_alter, Cond.instanceMethod yX0_alter, Cond.selects RX0 yX0_alter yX0_alter, Cond.code yX0_alter cX0_alter 4 none, Cond.fieldLink RX0 14 "Bookinghouse$Crowd" "times" "LBookinghouse$Row;", Cond.fieldLink RX0 20 "Bookinghouse$Crowd" "changes" "LBookinghouse$Row;", Cond.methodLink RX0 26 yX3_size, Cond.methodLink RX0 38 yX3_get, Cond.methodLink RX0 42 yX3_insert, Cond.instanceMethod yX3_insert, Cond.selects RX3 yX3_insert yX3_insert]
def wsX4_bringLastBack_r3 : List Cond := [Cond.code yX3_insert cX3_insert 3 none, Cond.methodLink RX0 45 yX3_remove, Cond.methodLink RX0 48 yX3_set, Cond.instanceMethod yX3_set, Cond.selects RX3 yX3_set yX3_set, Cond.code yX3_set cX3_set 3 none, Cond.methodLink RX4 122 yX4_enqueue, Cond.instanceMethod yX4_enqueue, Cond.selects RX4 yX4_enqueue yX4_enqueue, Cond.initialized RX4, Cond.code yX4_enqueue cX4_enqueue 4 none, Cond.methodLink RX4 276 yX2_isAhead, Cond.instanceMethod yX2_isAhead, Cond.selects RX2 yX2_isAhead yX2_isAhead, Cond.code yX2_isAhead cX2_isAhead 5 (some .boolean), Cond.methodLink RX4 280 yX3_insert, Cond.methodLink RX4 119 yX3_set]
def wsX4_bringLastBack : List Cond := .code yX4_bringLastBack cX4_bringLastBack 3 none :: ((wsX4_bringLastBack_r1 ++ (wsX4_bringLastBack_r2 ++ wsX4_bringLastBack_r3)) ++ wsX10 ++ wsX40 ++ wsX20 ++ wsX30 ++ wsX00 ++ (vx_atM "java/lang/ArrayIndexOutOfBoundsException" ["java/lang/IndexOutOfBoundsException", "java/lang/RuntimeException", "java/lang/Exception"]).filter goodWord)
def wsX4_back_r1 : List Cond := [Cond.classLink RX4 105 "java/lang/IllegalStateException", Cond.initialized "java/lang/IllegalStateException", Cond.methodLink RX4 32 yX4_houseAt, Cond.instanceMethod yX4_houseAt, Cond.selects RX4 yX4_houseAt yX4_houseAt, Cond.initialized RX4, Cond.code yX4_houseAt cX4_houseAt 2 (some (.object "Bookinghouse$House")), Cond.classLink RX4 159 "java/lang/IndexOutOfBoundsException", Cond.initialized "java/lang/IndexOutOfBoundsException", Cond.fieldLink RX4 18 "Bookinghouse" "houses" "[LBookinghouse$House;", Cond.methodLink RX4 93 yX4_refuseIfNoTime, Cond.static yX4_refuseIfNoTime, Cond.code yX4_refuseIfNoTime cX4_refuseIfNoTime 1 none, Cond.classLink RX4 46 "java/lang/IllegalArgumentException", Cond.initialized "java/lang/IllegalArgumentException", Cond.methodLink RX4 36 yX4_isTime, Cond.static yX4_isTime, Cond.code yX4_isTime cX4_isTime 1 (some .boolean), Cond.methodLink RX4 61 yX4_isIn, Cond.static yX4_isIn, Cond.code yX4_isIn cX4_isIn 3 (some .boolean), Cond.methodLink RX4 141 yX4_cameBehind, Cond.instanceMethod yX4_cameBehind, Cond.selects RX4 yX4_cameBehind yX4_cameBehind]
def wsX4_back_r2 : List Cond := [Cond.code yX4_cameBehind cX4_cameBehind 4 (some .int), Cond.fieldLink RX4 10 "Bookinghouse" "ledger" "LBookinghouse$Ledger;", Cond.methodLink RX4 132 yX3_size, Cond.instanceMethod yX3_size, Cond.selects RX3 yX3_size yX3_size, Cond.initialized RX3, Cond.code yX3_size cX3_size 1 (some .int), Cond.fieldLink RX3 19 "Bookinghouse$Row" "size" "I", Cond.methodLink RX4 113 yX3_get, Cond.instanceMethod yX3_get, Cond.selects RX3 yX3_get yX3_get, Cond.code yX3_get cX3_get 2 (some .int), Cond.fieldLink RX3 13 "Bookinghouse$Row" "items" "[I", Cond.methodLink RX3 23 yX3_holds, Cond.instanceMethod yX3_holds, Cond.selects RX3 yX3_holds yX3_holds, Cond.code yX3_holds cX3_holds 2 (some .boolean), Cond.methodLink RX4 146 yX4_bringLastBack, Cond.instanceMethod yX4_bringLastBack, Cond.selects RX4 yX4_bringLastBack yX4_bringLastBack, Cond.code yX4_bringLastBack cX4_bringLastBack 3 none, Cond.methodLink RX4 116 yX3_remove, Cond.instanceMethod yX3_remove, Cond.selects RX3 yX3_remove yX3_remove]
def wsX4_back_r3 : List Cond := [Cond.code yX3_remove cX3_remove 3 (some .int), Cond.methodLink RX3 31 arraycopyName, Cond.native arraycopyName, Cond.static arraycopyName, Cond.initialized "java/lang/System", Cond.methodLink RX4 291 yX2_end, Cond.instanceMethod yX2_end, Cond.selects RX2 yX2_end yX2_end, Cond.initialized RX2, Cond.code yX2_end cX2_end 2 (some .int), Cond.fieldLink RX2 14 "Bookinghouse$Ledger" "times" "LBookinghouse$Row;", Cond.fieldLink RX2 20 "Bookinghouse$Ledger" "spans" "LBookinghouse$Row;", Cond.methodLink RX2 39 yX3_get, Cond.methodLink RX4 294 yX0_enter, Cond.instanceMethod yX0_enter, Cond.selects RX0 yX0_enter yX0_enter, Cond.initialized RX0, Cond.code yX0_enter cX0_enter 4 none, Cond.methodLink RX0 34 yX0_alter, Cond.instanceMethod yX0_alter, Cond.selects RX0 yX0_alter yX0_alter, Cond.code yX0_alter cX0_alter 4 none, Cond.fieldLink RX0 14 "Bookinghouse$Crowd" "times" "LBookinghouse$Row;", Cond.fieldLink RX0 20 "Bookinghouse$Crowd" "changes" "LBookinghouse$Row;"]
def wsX4_back_r4 : List Cond := [Cond.methodLink RX0 26 yX3_size, Cond.methodLink RX0 38 yX3_get, Cond.methodLink RX0 42 yX3_insert, Cond.instanceMethod yX3_insert, Cond.selects RX3 yX3_insert yX3_insert, Cond.code yX3_insert cX3_insert 3 none, Cond.methodLink RX0 45 yX3_remove, Cond.methodLink RX0 48 yX3_set, Cond.instanceMethod yX3_set, Cond.selects RX3 yX3_set yX3_set, Cond.code yX3_set cX3_set 3 none, Cond.methodLink RX4 122 yX4_enqueue, Cond.instanceMethod yX4_enqueue, Cond.selects RX4 yX4_enqueue yX4_enqueue, Cond.code yX4_enqueue cX4_enqueue 4 none, Cond.methodLink RX4 276 yX2_isAhead, Cond.instanceMethod yX2_isAhead, Cond.selects RX2 yX2_isAhead yX2_isAhead, Cond.code yX2_isAhead cX2_isAhead 5 (some .boolean), Cond.methodLink RX4 280 yX3_insert, Cond.methodLink RX4 119 yX3_set]
def wsX4_back : List Cond := .code yX4_back cX4_back 6 (some .int) :: ((wsX4_back_r1 ++ (wsX4_back_r2 ++ (wsX4_back_r3 ++ wsX4_back_r4))) ++ wsX10 ++ wsX40 ++ wsX20 ++ wsX30 ++ wsX00 ++ (vx_atS RX4 109 "java/lang/IllegalStateException" ["java/lang/RuntimeException", "java/lang/Exception"]).filter goodWord ++ (vx_atS RX4 163 "java/lang/IndexOutOfBoundsException" ["java/lang/RuntimeException", "java/lang/Exception"]).filter goodWord ++ (vx_atS RX4 50 "java/lang/IllegalArgumentException" ["java/lang/RuntimeException", "java/lang/Exception"]).filter goodWord ++ (vx_atM "java/lang/ArrayIndexOutOfBoundsException" ["java/lang/IndexOutOfBoundsException", "java/lang/RuntimeException", "java/lang/Exception"]).filter goodWord)
def wsX4_clock : List Cond := .code yX4_clock cX4_clock 2 (some .int) :: ([.methodLink RX4 32 yX4_houseAt, .instanceMethod yX4_houseAt, .selects RX4 yX4_houseAt yX4_houseAt, .initialized RX4, .code yX4_houseAt cX4_houseAt 2 (some (.object "Bookinghouse$House")), .classLink RX4 159 "java/lang/IndexOutOfBoundsException", .initialized "java/lang/IndexOutOfBoundsException", .fieldLink RX4 18 "Bookinghouse" "houses" "[LBookinghouse$House;"] ++ wsX10 ++ wsX40 ++ (vx_atS RX4 163 "java/lang/IndexOutOfBoundsException" ["java/lang/RuntimeException", "java/lang/Exception"]).filter goodWord)
def wsX4_waiting : List Cond := .code yX4_waiting cX4_waiting 2 (some .int) :: ([.methodLink RX4 32 yX4_houseAt, .instanceMethod yX4_houseAt, .selects RX4 yX4_houseAt yX4_houseAt, .initialized RX4, .code yX4_houseAt cX4_houseAt 2 (some (.object "Bookinghouse$House")), .classLink RX4 159 "java/lang/IndexOutOfBoundsException", .initialized "java/lang/IndexOutOfBoundsException", .fieldLink RX4 18 "Bookinghouse" "houses" "[LBookinghouse$House;", .methodLink RX4 132 yX3_size, .instanceMethod yX3_size, .selects RX3 yX3_size yX3_size, .initialized RX3, .code yX3_size cX3_size 1 (some .int), .fieldLink RX3 19 "Bookinghouse$Row" "size" "I"] ++ wsX10 ++ wsX40 ++ wsX30 ++ (vx_atS RX4 163 "java/lang/IndexOutOfBoundsException" ["java/lang/RuntimeException", "java/lang/Exception"]).filter goodWord)
def wsX4_came : List Cond := .code yX4_came cX4_came 2 (some .int) :: ([.methodLink RX4 32 yX4_houseAt, .instanceMethod yX4_houseAt, .selects RX4 yX4_houseAt yX4_houseAt, .initialized RX4, .code yX4_houseAt cX4_houseAt 2 (some (.object "Bookinghouse$House")), .classLink RX4 159 "java/lang/IndexOutOfBoundsException", .initialized "java/lang/IndexOutOfBoundsException", .fieldLink RX4 18 "Bookinghouse" "houses" "[LBookinghouse$House;", .methodLink RX4 132 yX3_size, .instanceMethod yX3_size, .selects RX3 yX3_size yX3_size, .initialized RX3, .code yX3_size cX3_size 1 (some .int), .fieldLink RX3 19 "Bookinghouse$Row" "size" "I"] ++ wsX10 ++ wsX40 ++ wsX30 ++ (vx_atS RX4 163 "java/lang/IndexOutOfBoundsException" ["java/lang/RuntimeException", "java/lang/Exception"]).filter goodWord)
def wsX4_itemAt : List Cond := .code yX4_itemAt cX4_itemAt 2 (some .int) :: ([.classLink RX4 96 "java/util/NoSuchElementException", .initialized "java/util/NoSuchElementException", .methodLink RX4 269 yX3_holds, .instanceMethod yX3_holds, .selects RX3 yX3_holds yX3_holds, .initialized RX3, .code yX3_holds cX3_holds 2 (some .boolean), .fieldLink RX3 19 "Bookinghouse$Row" "size" "I", .fieldLink RX3 13 "Bookinghouse$Row" "items" "[I", .methodLink RX4 113 yX3_get, .instanceMethod yX3_get, .selects RX3 yX3_get yX3_get, .code yX3_get cX3_get 2 (some .int), .methodLink RX3 23 yX3_holds] ++ wsX30 ++ (ntAt RX4 100 "java/util/NoSuchElementException" 13 prog_20_method_4_code ["java/lang/RuntimeException", "java/lang/Exception"]).filter goodWord ++ (vx_atM "java/lang/ArrayIndexOutOfBoundsException" ["java/lang/IndexOutOfBoundsException", "java/lang/RuntimeException", "java/lang/Exception"]).filter goodWord)
def wsX4_waits_r1 : List Cond := [Cond.methodLink RX4 32 yX4_houseAt, Cond.instanceMethod yX4_houseAt, Cond.selects RX4 yX4_houseAt yX4_houseAt, Cond.initialized RX4, Cond.code yX4_houseAt cX4_houseAt 2 (some (.object "Bookinghouse$House")), Cond.classLink RX4 159 "java/lang/IndexOutOfBoundsException", Cond.initialized "java/lang/IndexOutOfBoundsException", Cond.fieldLink RX4 18 "Bookinghouse" "houses" "[LBookinghouse$House;", Cond.methodLink RX4 153 yX4_itemAt, Cond.static yX4_itemAt, Cond.code yX4_itemAt cX4_itemAt 2 (some .int), Cond.classLink RX4 96 "java/util/NoSuchElementException", Cond.initialized "java/util/NoSuchElementException", Cond.methodLink RX4 269 yX3_holds, Cond.instanceMethod yX3_holds, Cond.selects RX3 yX3_holds yX3_holds, Cond.initialized RX3, Cond.code yX3_holds cX3_holds 2 (some .boolean), Cond.fieldLink RX3 19 "Bookinghouse$Row" "size" "I", Cond.fieldLink RX3 13 "Bookinghouse$Row" "items" "[I", Cond.methodLink RX4 113 yX3_get, Cond.instanceMethod yX3_get, Cond.selects RX3 yX3_get yX3_get, Cond.code yX3_get cX3_get 2 (some .int)]
def wsX4_waits_r2 : List Cond := [Cond.methodLink RX3 23 yX3_holds]
def wsX4_waits : List Cond := .code yX4_waits cX4_waits 3 (some .int) :: ((wsX4_waits_r1 ++ wsX4_waits_r2) ++ wsX10 ++ wsX40 ++ wsX30 ++ (vx_atS RX4 163 "java/lang/IndexOutOfBoundsException" ["java/lang/RuntimeException", "java/lang/Exception"]).filter goodWord ++ (ntAt RX4 100 "java/util/NoSuchElementException" 13 prog_20_method_4_code ["java/lang/RuntimeException", "java/lang/Exception"]).filter goodWord ++ (vx_atM "java/lang/ArrayIndexOutOfBoundsException" ["java/lang/IndexOutOfBoundsException", "java/lang/RuntimeException", "java/lang/Exception"]).filter goodWord)
def wsX4_cameAt_r1 : List Cond := [Cond.methodLink RX4 32 yX4_houseAt, Cond.instanceMethod yX4_houseAt, Cond.selects RX4 yX4_houseAt yX4_houseAt, Cond.initialized RX4, Cond.code yX4_houseAt cX4_houseAt 2 (some (.object "Bookinghouse$House")), Cond.classLink RX4 159 "java/lang/IndexOutOfBoundsException", Cond.initialized "java/lang/IndexOutOfBoundsException", Cond.fieldLink RX4 18 "Bookinghouse" "houses" "[LBookinghouse$House;", Cond.methodLink RX4 153 yX4_itemAt, Cond.static yX4_itemAt, Cond.code yX4_itemAt cX4_itemAt 2 (some .int), Cond.classLink RX4 96 "java/util/NoSuchElementException", Cond.initialized "java/util/NoSuchElementException", Cond.methodLink RX4 269 yX3_holds, Cond.instanceMethod yX3_holds, Cond.selects RX3 yX3_holds yX3_holds, Cond.initialized RX3, Cond.code yX3_holds cX3_holds 2 (some .boolean), Cond.fieldLink RX3 19 "Bookinghouse$Row" "size" "I", Cond.fieldLink RX3 13 "Bookinghouse$Row" "items" "[I", Cond.methodLink RX4 113 yX3_get, Cond.instanceMethod yX3_get, Cond.selects RX3 yX3_get yX3_get, Cond.code yX3_get cX3_get 2 (some .int)]
def wsX4_cameAt_r2 : List Cond := [Cond.methodLink RX3 23 yX3_holds]
def wsX4_cameAt : List Cond := .code yX4_cameAt cX4_cameAt 3 (some .int) :: ((wsX4_cameAt_r1 ++ wsX4_cameAt_r2) ++ wsX10 ++ wsX40 ++ wsX30 ++ (vx_atS RX4 163 "java/lang/IndexOutOfBoundsException" ["java/lang/RuntimeException", "java/lang/Exception"]).filter goodWord ++ (ntAt RX4 100 "java/util/NoSuchElementException" 13 prog_20_method_4_code ["java/lang/RuntimeException", "java/lang/Exception"]).filter goodWord ++ (vx_atM "java/lang/ArrayIndexOutOfBoundsException" ["java/lang/IndexOutOfBoundsException", "java/lang/RuntimeException", "java/lang/Exception"]).filter goodWord)
def wsX4_nextTime_r1 : List Cond := [Cond.classLink RX4 96 "java/util/NoSuchElementException", Cond.initialized "java/util/NoSuchElementException", Cond.fieldLink RX4 10 "Bookinghouse" "ledger" "LBookinghouse$Ledger;", Cond.methodLink RX4 32 yX4_houseAt, Cond.instanceMethod yX4_houseAt, Cond.selects RX4 yX4_houseAt yX4_houseAt, Cond.initialized RX4, Cond.code yX4_houseAt cX4_houseAt 2 (some (.object "Bookinghouse$House")), Cond.classLink RX4 159 "java/lang/IndexOutOfBoundsException", Cond.initialized "java/lang/IndexOutOfBoundsException", Cond.fieldLink RX4 18 "Bookinghouse" "houses" "[LBookinghouse$House;", Cond.methodLink RX4 89 yX4_waitingAheadOf, Cond.instanceMethod yX4_waitingAheadOf, Cond.selects RX4 yX4_waitingAheadOf yX4_waitingAheadOf, Cond.code yX4_waitingAheadOf cX4_waitingAheadOf 4 (some .int), Cond.methodLink RX4 132 yX3_size, Cond.instanceMethod yX3_size, Cond.selects RX3 yX3_size yX3_size, Cond.initialized RX3, Cond.code yX3_size cX3_size 1 (some .int), Cond.fieldLink RX3 19 "Bookinghouse$Row" "size" "I", Cond.methodLink RX4 113 yX3_get, Cond.instanceMethod yX3_get, Cond.selects RX3 yX3_get yX3_get]
def wsX4_nextTime_r2 : List Cond := [Cond.code yX3_get cX3_get 2 (some .int), Cond.fieldLink RX3 13 "Bookinghouse$Row" "items" "[I", Cond.methodLink RX3 23 yX3_holds, Cond.instanceMethod yX3_holds, Cond.selects RX3 yX3_holds yX3_holds, Cond.code yX3_holds cX3_holds 2 (some .boolean)]
def wsX4_nextTime : List Cond := .code yX4_nextTime cX4_nextTime 5 (some .int) :: ((wsX4_nextTime_r1 ++ wsX4_nextTime_r2) ++ wsX10 ++ wsX40 ++ wsX20 ++ wsX30 ++ (ntAt RX4 100 "java/util/NoSuchElementException" 13 prog_20_method_4_code ["java/lang/RuntimeException", "java/lang/Exception"]).filter goodWord ++ (vx_atS RX4 163 "java/lang/IndexOutOfBoundsException" ["java/lang/RuntimeException", "java/lang/Exception"]).filter goodWord ++ (vx_atM "java/lang/ArrayIndexOutOfBoundsException" ["java/lang/IndexOutOfBoundsException", "java/lang/RuntimeException", "java/lang/Exception"]).filter goodWord)
def wsX4_about_r1 : List Cond := [Cond.classLink RX4 159 "java/lang/IndexOutOfBoundsException", Cond.initialized "java/lang/IndexOutOfBoundsException", Cond.classLink RX4 46 "java/lang/IllegalArgumentException", Cond.initialized "java/lang/IllegalArgumentException", Cond.fieldLink RX4 10 "Bookinghouse" "ledger" "LBookinghouse$Ledger;", Cond.methodLink RX4 67 yX2_size, Cond.instanceMethod yX2_size, Cond.selects RX2 yX2_size yX2_size, Cond.initialized RX2, Cond.code yX2_size cX2_size 1 (some .int), Cond.fieldLink RX2 14 "Bookinghouse$Ledger" "times" "LBookinghouse$Row;", Cond.methodLink RX2 32 yX3_size, Cond.instanceMethod yX3_size, Cond.selects RX3 yX3_size yX3_size, Cond.initialized RX3, Cond.code yX3_size cX3_size 1 (some .int), Cond.fieldLink RX3 19 "Bookinghouse$Row" "size" "I", Cond.methodLink RX4 61 yX4_isIn, Cond.static yX4_isIn, Cond.initialized RX4, Cond.code yX4_isIn cX4_isIn 3 (some .boolean), Cond.methodLink RX4 113 yX3_get, Cond.instanceMethod yX3_get, Cond.selects RX3 yX3_get yX3_get]
def wsX4_about_r2 : List Cond := [Cond.code yX3_get cX3_get 2 (some .int), Cond.fieldLink RX3 13 "Bookinghouse$Row" "items" "[I", Cond.methodLink RX3 23 yX3_holds, Cond.instanceMethod yX3_holds, Cond.selects RX3 yX3_holds yX3_holds, Cond.code yX3_holds cX3_holds 2 (some .boolean)]
def wsX4_about : List Cond := .code yX4_about cX4_about 3 (some .long) :: ((wsX4_about_r1 ++ wsX4_about_r2) ++ wsX40 ++ wsX20 ++ wsX30 ++ (vx_atS RX4 163 "java/lang/IndexOutOfBoundsException" ["java/lang/RuntimeException", "java/lang/Exception"]).filter goodWord ++ (vx_atS RX4 50 "java/lang/IllegalArgumentException" ["java/lang/RuntimeException", "java/lang/Exception"]).filter goodWord ++ (vx_atM "java/lang/ArrayIndexOutOfBoundsException" ["java/lang/IndexOutOfBoundsException", "java/lang/RuntimeException", "java/lang/Exception"]).filter goodWord)
def wsX4_crowd_r1 : List Cond := [Cond.methodLink RX4 32 yX4_houseAt, Cond.instanceMethod yX4_houseAt, Cond.selects RX4 yX4_houseAt yX4_houseAt, Cond.initialized RX4, Cond.code yX4_houseAt cX4_houseAt 2 (some (.object "Bookinghouse$House")), Cond.classLink RX4 159 "java/lang/IndexOutOfBoundsException", Cond.initialized "java/lang/IndexOutOfBoundsException", Cond.fieldLink RX4 18 "Bookinghouse" "houses" "[LBookinghouse$House;", Cond.methodLink RX4 181 yX0_at, Cond.instanceMethod yX0_at, Cond.selects RX0 yX0_at yX0_at, Cond.initialized RX0, Cond.code yX0_at cX0_at 4 (some .int), Cond.fieldLink RX0 14 "Bookinghouse$Crowd" "times" "LBookinghouse$Row;", Cond.fieldLink RX0 20 "Bookinghouse$Crowd" "changes" "LBookinghouse$Row;", Cond.methodLink RX0 26 yX3_size, Cond.instanceMethod yX3_size, Cond.selects RX3 yX3_size yX3_size, Cond.initialized RX3, Cond.code yX3_size cX3_size 1 (some .int), Cond.fieldLink RX3 19 "Bookinghouse$Row" "size" "I", Cond.methodLink RX0 38 yX3_get, Cond.instanceMethod yX3_get, Cond.selects RX3 yX3_get yX3_get]
def wsX4_crowd_r2 : List Cond := [Cond.code yX3_get cX3_get 2 (some .int), Cond.fieldLink RX3 13 "Bookinghouse$Row" "items" "[I", Cond.methodLink RX3 23 yX3_holds, Cond.instanceMethod yX3_holds, Cond.selects RX3 yX3_holds yX3_holds, Cond.code yX3_holds cX3_holds 2 (some .boolean)]
def wsX4_crowd : List Cond := .code yX4_crowd cX4_crowd 3 (some .int) :: ((wsX4_crowd_r1 ++ wsX4_crowd_r2) ++ wsX10 ++ wsX40 ++ wsX00 ++ wsX30 ++ (vx_atS RX4 163 "java/lang/IndexOutOfBoundsException" ["java/lang/RuntimeException", "java/lang/Exception"]).filter goodWord ++ (vx_atM "java/lang/ArrayIndexOutOfBoundsException" ["java/lang/IndexOutOfBoundsException", "java/lang/RuntimeException", "java/lang/Exception"]).filter goodWord)
def wsX4_change_r1 : List Cond := [Cond.methodLink RX4 32 yX4_houseAt, Cond.instanceMethod yX4_houseAt, Cond.selects RX4 yX4_houseAt yX4_houseAt, Cond.initialized RX4, Cond.code yX4_houseAt cX4_houseAt 2 (some (.object "Bookinghouse$House")), Cond.classLink RX4 159 "java/lang/IndexOutOfBoundsException", Cond.initialized "java/lang/IndexOutOfBoundsException", Cond.fieldLink RX4 18 "Bookinghouse" "houses" "[LBookinghouse$House;", Cond.methodLink RX4 184 yX0_changeAt, Cond.instanceMethod yX0_changeAt, Cond.selects RX0 yX0_changeAt yX0_changeAt, Cond.initialized RX0, Cond.code yX0_changeAt cX0_changeAt 3 (some .int), Cond.fieldLink RX0 14 "Bookinghouse$Crowd" "times" "LBookinghouse$Row;", Cond.fieldLink RX0 20 "Bookinghouse$Crowd" "changes" "LBookinghouse$Row;", Cond.methodLink RX0 51 yX3_placeOf, Cond.instanceMethod yX3_placeOf, Cond.selects RX3 yX3_placeOf yX3_placeOf, Cond.initialized RX3, Cond.code yX3_placeOf cX3_placeOf 3 (some .int), Cond.fieldLink RX3 19 "Bookinghouse$Row" "size" "I", Cond.methodLink RX3 37 yX3_get, Cond.instanceMethod yX3_get, Cond.selects RX3 yX3_get yX3_get]
def wsX4_change_r2 : List Cond := [Cond.code yX3_get cX3_get 2 (some .int), Cond.fieldLink RX3 13 "Bookinghouse$Row" "items" "[I", Cond.methodLink RX3 23 yX3_holds, Cond.instanceMethod yX3_holds, Cond.selects RX3 yX3_holds yX3_holds, Cond.code yX3_holds cX3_holds 2 (some .boolean), Cond.methodLink RX0 38 yX3_get]
def wsX4_change : List Cond := .code yX4_change cX4_change 3 (some .int) :: ((wsX4_change_r1 ++ wsX4_change_r2) ++ wsX10 ++ wsX40 ++ wsX00 ++ wsX30 ++ (vx_atS RX4 163 "java/lang/IndexOutOfBoundsException" ["java/lang/RuntimeException", "java/lang/Exception"]).filter goodWord ++ (vx_atM "java/lang/ArrayIndexOutOfBoundsException" ["java/lang/IndexOutOfBoundsException", "java/lang/RuntimeException", "java/lang/Exception"]).filter goodWord)
def wsX4_greatest_r1 : List Cond := [Cond.methodLink RX4 32 yX4_houseAt, Cond.instanceMethod yX4_houseAt, Cond.selects RX4 yX4_houseAt yX4_houseAt, Cond.initialized RX4, Cond.code yX4_houseAt cX4_houseAt 2 (some (.object "Bookinghouse$House")), Cond.classLink RX4 159 "java/lang/IndexOutOfBoundsException", Cond.initialized "java/lang/IndexOutOfBoundsException", Cond.fieldLink RX4 18 "Bookinghouse" "houses" "[LBookinghouse$House;", Cond.methodLink RX4 187 yX0_highest, Cond.instanceMethod yX0_highest, Cond.selects RX0 yX0_highest yX0_highest, Cond.initialized RX0, Cond.code yX0_highest cX0_highest 4 (some .int), Cond.fieldLink RX0 14 "Bookinghouse$Crowd" "times" "LBookinghouse$Row;", Cond.fieldLink RX0 20 "Bookinghouse$Crowd" "changes" "LBookinghouse$Row;", Cond.methodLink RX0 54 Lib.Math.max.name, Cond.static Lib.Math.max.name, Cond.initialized "java/lang/Math", Cond.code Lib.Math.max.name Lib.Math.max.code 2 (some .int), Cond.methodLink RX0 26 yX3_size, Cond.instanceMethod yX3_size, Cond.selects RX3 yX3_size yX3_size, Cond.initialized RX3, Cond.code yX3_size cX3_size 1 (some .int)]
def wsX4_greatest_r2 : List Cond := [Cond.fieldLink RX3 19 "Bookinghouse$Row" "size" "I", Cond.methodLink RX0 38 yX3_get, Cond.instanceMethod yX3_get, Cond.selects RX3 yX3_get yX3_get, Cond.code yX3_get cX3_get 2 (some .int), Cond.fieldLink RX3 13 "Bookinghouse$Row" "items" "[I", Cond.methodLink RX3 23 yX3_holds, Cond.instanceMethod yX3_holds, Cond.selects RX3 yX3_holds yX3_holds, Cond.code yX3_holds cX3_holds 2 (some .boolean)]
def wsX4_greatest : List Cond := .code yX4_greatest cX4_greatest 2 (some .int) :: ((wsX4_greatest_r1 ++ wsX4_greatest_r2) ++ wsX10 ++ wsX40 ++ wsX00 ++ wsX30 ++ (vx_atS RX4 163 "java/lang/IndexOutOfBoundsException" ["java/lang/RuntimeException", "java/lang/Exception"]).filter goodWord ++ (vx_atM "java/lang/ArrayIndexOutOfBoundsException" ["java/lang/IndexOutOfBoundsException", "java/lang/RuntimeException", "java/lang/Exception"]).filter goodWord)
def wsX4_greatestFrom_r1 : List Cond := [Cond.classLink RX4 96 "java/util/NoSuchElementException", Cond.initialized "java/util/NoSuchElementException", Cond.methodLink RX4 32 yX4_houseAt, Cond.instanceMethod yX4_houseAt, Cond.selects RX4 yX4_houseAt yX4_houseAt, Cond.initialized RX4, Cond.code yX4_houseAt cX4_houseAt 2 (some (.object "Bookinghouse$House")), Cond.classLink RX4 159 "java/lang/IndexOutOfBoundsException", Cond.initialized "java/lang/IndexOutOfBoundsException", Cond.fieldLink RX4 18 "Bookinghouse" "houses" "[LBookinghouse$House;", Cond.methodLink RX4 190 yX0_isEmpty, Cond.instanceMethod yX0_isEmpty, Cond.selects RX0 yX0_isEmpty yX0_isEmpty, Cond.initialized RX0, Cond.code yX0_isEmpty cX0_isEmpty 1 (some .boolean), Cond.fieldLink RX0 14 "Bookinghouse$Crowd" "times" "LBookinghouse$Row;", Cond.methodLink RX0 26 yX3_size, Cond.instanceMethod yX3_size, Cond.selects RX3 yX3_size yX3_size, Cond.initialized RX3, Cond.code yX3_size cX3_size 1 (some .int), Cond.fieldLink RX3 19 "Bookinghouse$Row" "size" "I", Cond.methodLink RX4 196 yX0_highestFrom, Cond.instanceMethod yX0_highestFrom]
def wsX4_greatestFrom_r2 : List Cond := [Cond.selects RX0 yX0_highestFrom yX0_highestFrom, Cond.code yX0_highestFrom cX0_highestFrom 5 (some .int), Cond.fieldLink RX0 20 "Bookinghouse$Crowd" "changes" "LBookinghouse$Row;", Cond.methodLink RX0 38 yX3_get, Cond.instanceMethod yX3_get, Cond.selects RX3 yX3_get yX3_get, Cond.code yX3_get cX3_get 2 (some .int), Cond.fieldLink RX3 13 "Bookinghouse$Row" "items" "[I", Cond.methodLink RX3 23 yX3_holds, Cond.instanceMethod yX3_holds, Cond.selects RX3 yX3_holds yX3_holds, Cond.code yX3_holds cX3_holds 2 (some .boolean)]
def wsX4_greatestFrom : List Cond := .code yX4_greatestFrom cX4_greatestFrom 3 (some .int) :: ((wsX4_greatestFrom_r1 ++ wsX4_greatestFrom_r2) ++ wsX10 ++ wsX40 ++ wsX00 ++ wsX30 ++ (ntAt RX4 100 "java/util/NoSuchElementException" 13 prog_20_method_4_code ["java/lang/RuntimeException", "java/lang/Exception"]).filter goodWord ++ (vx_atS RX4 163 "java/lang/IndexOutOfBoundsException" ["java/lang/RuntimeException", "java/lang/Exception"]).filter goodWord ++ (vx_atM "java/lang/ArrayIndexOutOfBoundsException" ["java/lang/IndexOutOfBoundsException", "java/lang/RuntimeException", "java/lang/Exception"]).filter goodWord)
def wsX4_busy_r1 : List Cond := [Cond.methodLink RX4 32 yX4_houseAt, Cond.instanceMethod yX4_houseAt, Cond.selects RX4 yX4_houseAt yX4_houseAt, Cond.initialized RX4, Cond.code yX4_houseAt cX4_houseAt 2 (some (.object "Bookinghouse$House")), Cond.classLink RX4 159 "java/lang/IndexOutOfBoundsException", Cond.initialized "java/lang/IndexOutOfBoundsException", Cond.fieldLink RX4 18 "Bookinghouse" "houses" "[LBookinghouse$House;", Cond.methodLink RX4 85 yX4_refuseIfTurned, Cond.static yX4_refuseIfTurned, Cond.code yX4_refuseIfTurned cX4_refuseIfTurned 2 none, Cond.classLink RX4 46 "java/lang/IllegalArgumentException", Cond.initialized "java/lang/IllegalArgumentException", Cond.methodLink RX4 199 yX0_busyTimes, Cond.instanceMethod yX0_busyTimes, Cond.selects RX0 yX0_busyTimes yX0_busyTimes, Cond.initialized RX0, Cond.code yX0_busyTimes cX0_busyTimes 8 (some .int), Cond.fieldLink RX0 14 "Bookinghouse$Crowd" "times" "LBookinghouse$Row;", Cond.fieldLink RX0 20 "Bookinghouse$Crowd" "changes" "LBookinghouse$Row;", Cond.methodLink RX0 54 Lib.Math.max.name, Cond.static Lib.Math.max.name, Cond.initialized "java/lang/Math", Cond.code Lib.Math.max.name Lib.Math.max.code 2 (some .int)]
def wsX4_busy_r2 : List Cond := [Cond.methodLink RX0 63 Lib.Math.min.name, Cond.static Lib.Math.min.name, Cond.code Lib.Math.min.name Lib.Math.min.code 2 (some .int), Cond.methodLink RX0 26 yX3_size, Cond.instanceMethod yX3_size, Cond.selects RX3 yX3_size yX3_size, Cond.initialized RX3, Cond.code yX3_size cX3_size 1 (some .int), Cond.fieldLink RX3 19 "Bookinghouse$Row" "size" "I", Cond.methodLink RX0 38 yX3_get, Cond.instanceMethod yX3_get, Cond.selects RX3 yX3_get yX3_get, Cond.code yX3_get cX3_get 2 (some .int), Cond.fieldLink RX3 13 "Bookinghouse$Row" "items" "[I", Cond.methodLink RX3 23 yX3_holds, Cond.instanceMethod yX3_holds, Cond.selects RX3 yX3_holds yX3_holds, Cond.code yX3_holds cX3_holds 2 (some .boolean)]
def wsX4_busy : List Cond := .code yX4_busy cX4_busy 5 (some .int) :: ((wsX4_busy_r1 ++ wsX4_busy_r2) ++ wsX10 ++ wsX40 ++ wsX00 ++ wsX30 ++ (vx_atS RX4 163 "java/lang/IndexOutOfBoundsException" ["java/lang/RuntimeException", "java/lang/Exception"]).filter goodWord ++ (vx_atS RX4 50 "java/lang/IllegalArgumentException" ["java/lang/RuntimeException", "java/lang/Exception"]).filter goodWord ++ (vx_atM "java/lang/ArrayIndexOutOfBoundsException" ["java/lang/IndexOutOfBoundsException", "java/lang/RuntimeException", "java/lang/Exception"]).filter goodWord)
def wsX4_spans_r1 : List Cond := [Cond.methodLink RX4 32 yX4_houseAt, Cond.instanceMethod yX4_houseAt, Cond.selects RX4 yX4_houseAt yX4_houseAt, Cond.initialized RX4, Cond.code yX4_houseAt cX4_houseAt 2 (some (.object "Bookinghouse$House")), Cond.classLink RX4 159 "java/lang/IndexOutOfBoundsException", Cond.initialized "java/lang/IndexOutOfBoundsException", Cond.fieldLink RX4 18 "Bookinghouse" "houses" "[LBookinghouse$House;", Cond.methodLink RX4 203 yX0_busySpans, Cond.instanceMethod yX0_busySpans, Cond.selects RX0 yX0_busySpans yX0_busySpans, Cond.initialized RX0, Cond.code yX0_busySpans cX0_busySpans 4 (some .int), Cond.fieldLink RX0 14 "Bookinghouse$Crowd" "times" "LBookinghouse$Row;", Cond.fieldLink RX0 20 "Bookinghouse$Crowd" "changes" "LBookinghouse$Row;", Cond.methodLink RX0 26 yX3_size, Cond.instanceMethod yX3_size, Cond.selects RX3 yX3_size yX3_size, Cond.initialized RX3, Cond.code yX3_size cX3_size 1 (some .int), Cond.fieldLink RX3 19 "Bookinghouse$Row" "size" "I", Cond.methodLink RX0 38 yX3_get, Cond.instanceMethod yX3_get, Cond.selects RX3 yX3_get yX3_get]
def wsX4_spans_r2 : List Cond := [Cond.code yX3_get cX3_get 2 (some .int), Cond.fieldLink RX3 13 "Bookinghouse$Row" "items" "[I", Cond.methodLink RX3 23 yX3_holds, Cond.instanceMethod yX3_holds, Cond.selects RX3 yX3_holds yX3_holds, Cond.code yX3_holds cX3_holds 2 (some .boolean)]
def wsX4_spans : List Cond := .code yX4_spans cX4_spans 2 (some .int) :: ((wsX4_spans_r1 ++ wsX4_spans_r2) ++ wsX10 ++ wsX40 ++ wsX00 ++ wsX30 ++ (vx_atS RX4 163 "java/lang/IndexOutOfBoundsException" ["java/lang/RuntimeException", "java/lang/Exception"]).filter goodWord ++ (vx_atM "java/lang/ArrayIndexOutOfBoundsException" ["java/lang/IndexOutOfBoundsException", "java/lang/RuntimeException", "java/lang/Exception"]).filter goodWord)
def wsX4_span_r1 : List Cond := [Cond.classLink RX4 46 "java/lang/IllegalArgumentException", Cond.initialized "java/lang/IllegalArgumentException", Cond.classLink RX4 96 "java/util/NoSuchElementException", Cond.initialized "java/util/NoSuchElementException", Cond.methodLink RX4 32 yX4_houseAt, Cond.instanceMethod yX4_houseAt, Cond.selects RX4 yX4_houseAt yX4_houseAt, Cond.initialized RX4, Cond.code yX4_houseAt cX4_houseAt 2 (some (.object "Bookinghouse$House")), Cond.classLink RX4 159 "java/lang/IndexOutOfBoundsException", Cond.initialized "java/lang/IndexOutOfBoundsException", Cond.fieldLink RX4 18 "Bookinghouse" "houses" "[LBookinghouse$House;", Cond.methodLink RX4 208 yX0_firstChangeOf, Cond.instanceMethod yX0_firstChangeOf, Cond.selects RX0 yX0_firstChangeOf yX0_firstChangeOf, Cond.initialized RX0, Cond.code yX0_firstChangeOf cX0_firstChangeOf 5 (some .int), Cond.fieldLink RX0 14 "Bookinghouse$Crowd" "times" "LBookinghouse$Row;", Cond.fieldLink RX0 20 "Bookinghouse$Crowd" "changes" "LBookinghouse$Row;", Cond.methodLink RX0 26 yX3_size, Cond.instanceMethod yX3_size, Cond.selects RX3 yX3_size yX3_size, Cond.initialized RX3, Cond.code yX3_size cX3_size 1 (some .int)]
def wsX4_span_r2 : List Cond := [Cond.fieldLink RX3 19 "Bookinghouse$Row" "size" "I", Cond.methodLink RX0 38 yX3_get, Cond.instanceMethod yX3_get, Cond.selects RX3 yX3_get yX3_get, Cond.code yX3_get cX3_get 2 (some .int), Cond.fieldLink RX3 13 "Bookinghouse$Row" "items" "[I", Cond.methodLink RX3 23 yX3_holds, Cond.instanceMethod yX3_holds, Cond.selects RX3 yX3_holds yX3_holds, Cond.code yX3_holds cX3_holds 2 (some .boolean), Cond.methodLink RX4 113 yX3_get, Cond.methodLink RX4 214 yX0_endOfSpan, Cond.instanceMethod yX0_endOfSpan, Cond.selects RX0 yX0_endOfSpan yX0_endOfSpan, Cond.code yX0_endOfSpan cX0_endOfSpan 4 (some .int), Cond.methodLink RX4 217 yX0_highestOfSpan, Cond.instanceMethod yX0_highestOfSpan, Cond.selects RX0 yX0_highestOfSpan yX0_highestOfSpan, Cond.code yX0_highestOfSpan cX0_highestOfSpan 5 (some .int), Cond.methodLink RX0 54 Lib.Math.max.name, Cond.static Lib.Math.max.name, Cond.initialized "java/lang/Math", Cond.code Lib.Math.max.name Lib.Math.max.code 2 (some .int)]
def wsX4_span : List Cond := .code yX4_span cX4_span 6 (some .int) :: ((wsX4_span_r1 ++ wsX4_span_r2) ++ wsX10 ++ wsX00 ++ wsX40 ++ wsX30 ++ (vx_atS RX4 50 "java/lang/IllegalArgumentException" ["java/lang/RuntimeException", "java/lang/Exception"]).filter goodWord ++ (ntAt RX4 100 "java/util/NoSuchElementException" 13 prog_20_method_4_code ["java/lang/RuntimeException", "java/lang/Exception"]).filter goodWord ++ (vx_atS RX4 163 "java/lang/IndexOutOfBoundsException" ["java/lang/RuntimeException", "java/lang/Exception"]).filter goodWord ++ (vx_atM "java/lang/ArrayIndexOutOfBoundsException" ["java/lang/IndexOutOfBoundsException", "java/lang/RuntimeException", "java/lang/Exception"]).filter goodWord)
def wsX4_free_r1 : List Cond := [Cond.classLink RX4 46 "java/lang/IllegalArgumentException", Cond.initialized "java/lang/IllegalArgumentException", Cond.methodLink RX4 32 yX4_houseAt, Cond.instanceMethod yX4_houseAt, Cond.selects RX4 yX4_houseAt yX4_houseAt, Cond.initialized RX4, Cond.code yX4_houseAt cX4_houseAt 2 (some (.object "Bookinghouse$House")), Cond.classLink RX4 159 "java/lang/IndexOutOfBoundsException", Cond.initialized "java/lang/IndexOutOfBoundsException", Cond.fieldLink RX4 18 "Bookinghouse" "houses" "[LBookinghouse$House;", Cond.methodLink RX4 61 yX4_isIn, Cond.static yX4_isIn, Cond.code yX4_isIn cX4_isIn 3 (some .boolean), Cond.methodLink RX4 222 yX0_freeFrom, Cond.instanceMethod yX0_freeFrom, Cond.selects RX0 yX0_freeFrom yX0_freeFrom, Cond.initialized RX0, Cond.code yX0_freeFrom cX0_freeFrom 6 (some .int), Cond.fieldLink RX0 14 "Bookinghouse$Crowd" "times" "LBookinghouse$Row;", Cond.fieldLink RX0 20 "Bookinghouse$Crowd" "changes" "LBookinghouse$Row;", Cond.methodLink RX0 54 Lib.Math.max.name, Cond.static Lib.Math.max.name, Cond.initialized "java/lang/Math", Cond.code Lib.Math.max.name Lib.Math.max.code 2 (some .int)]
def wsX4_free_r2 : List Cond := [Cond.methodLink RX0 26 yX3_size, Cond.instanceMethod yX3_size, Cond.selects RX3 yX3_size yX3_size, Cond.initialized RX3, Cond.code yX3_size cX3_size 1 (some .int), Cond.fieldLink RX3 19 "Bookinghouse$Row" "size" "I", Cond.methodLink RX0 38 yX3_get, Cond.instanceMethod yX3_get, Cond.selects RX3 yX3_get yX3_get, Cond.code yX3_get cX3_get 2 (some .int), Cond.fieldLink RX3 13 "Bookinghouse$Row" "items" "[I", Cond.methodLink RX3 23 yX3_holds, Cond.instanceMethod yX3_holds, Cond.selects RX3 yX3_holds yX3_holds, Cond.code yX3_holds cX3_holds 2 (some .boolean)]
def wsX4_free : List Cond := .code yX4_free cX4_free 5 (some .int) :: ((wsX4_free_r1 ++ wsX4_free_r2) ++ wsX10 ++ wsX40 ++ wsX00 ++ wsX30 ++ (vx_atS RX4 50 "java/lang/IllegalArgumentException" ["java/lang/RuntimeException", "java/lang/Exception"]).filter goodWord ++ (vx_atS RX4 163 "java/lang/IndexOutOfBoundsException" ["java/lang/RuntimeException", "java/lang/Exception"]).filter goodWord ++ (vx_atM "java/lang/ArrayIndexOutOfBoundsException" ["java/lang/IndexOutOfBoundsException", "java/lang/RuntimeException", "java/lang/Exception"]).filter goodWord)
def wsX4_load_r1 : List Cond := [Cond.methodLink RX4 32 yX4_houseAt, Cond.instanceMethod yX4_houseAt, Cond.selects RX4 yX4_houseAt yX4_houseAt, Cond.initialized RX4, Cond.code yX4_houseAt cX4_houseAt 2 (some (.object "Bookinghouse$House")), Cond.classLink RX4 159 "java/lang/IndexOutOfBoundsException", Cond.initialized "java/lang/IndexOutOfBoundsException", Cond.fieldLink RX4 18 "Bookinghouse" "houses" "[LBookinghouse$House;", Cond.methodLink RX4 225 yX0_total, Cond.instanceMethod yX0_total, Cond.selects RX0 yX0_total yX0_total, Cond.initialized RX0, Cond.code yX0_total cX0_total 5 (some .long), Cond.fieldLink RX0 14 "Bookinghouse$Crowd" "times" "LBookinghouse$Row;", Cond.fieldLink RX0 20 "Bookinghouse$Crowd" "changes" "LBookinghouse$Row;", Cond.methodLink RX0 26 yX3_size, Cond.instanceMethod yX3_size, Cond.selects RX3 yX3_size yX3_size, Cond.initialized RX3, Cond.code yX3_size cX3_size 1 (some .int), Cond.fieldLink RX3 19 "Bookinghouse$Row" "size" "I", Cond.methodLink RX0 38 yX3_get, Cond.instanceMethod yX3_get, Cond.selects RX3 yX3_get yX3_get]
def wsX4_load_r2 : List Cond := [Cond.code yX3_get cX3_get 2 (some .int), Cond.fieldLink RX3 13 "Bookinghouse$Row" "items" "[I", Cond.methodLink RX3 23 yX3_holds, Cond.instanceMethod yX3_holds, Cond.selects RX3 yX3_holds yX3_holds, Cond.code yX3_holds cX3_holds 2 (some .boolean)]
def wsX4_load : List Cond := .code yX4_load cX4_load 2 (some .long) :: ((wsX4_load_r1 ++ wsX4_load_r2) ++ wsX10 ++ wsX40 ++ wsX00 ++ wsX30 ++ (vx_atS RX4 163 "java/lang/IndexOutOfBoundsException" ["java/lang/RuntimeException", "java/lang/Exception"]).filter goodWord ++ (vx_atM "java/lang/ArrayIndexOutOfBoundsException" ["java/lang/IndexOutOfBoundsException", "java/lang/RuntimeException", "java/lang/Exception"]).filter goodWord)
def wsX4_mean_r1 : List Cond := [Cond.classLink RX4 232 "java/lang/ArithmeticException", Cond.initialized "java/lang/ArithmeticException", Cond.methodLink RX4 32 yX4_houseAt, Cond.instanceMethod yX4_houseAt, Cond.selects RX4 yX4_houseAt yX4_houseAt, Cond.initialized RX4, Cond.code yX4_houseAt cX4_houseAt 2 (some (.object "Bookinghouse$House")), Cond.classLink RX4 159 "java/lang/IndexOutOfBoundsException", Cond.initialized "java/lang/IndexOutOfBoundsException", Cond.fieldLink RX4 18 "Bookinghouse" "houses" "[LBookinghouse$House;", Cond.methodLink RX4 229 yX0_allBusyTimes, Cond.instanceMethod yX0_allBusyTimes, Cond.selects RX0 yX0_allBusyTimes yX0_allBusyTimes, Cond.initialized RX0, Cond.code yX0_allBusyTimes cX0_allBusyTimes 1 (some .int), Cond.fieldLink RX0 14 "Bookinghouse$Crowd" "times" "LBookinghouse$Row;", Cond.methodLink RX0 26 yX3_size, Cond.instanceMethod yX3_size, Cond.selects RX3 yX3_size yX3_size, Cond.initialized RX3, Cond.code yX3_size cX3_size 1 (some .int), Cond.fieldLink RX3 19 "Bookinghouse$Row" "size" "I", Cond.methodLink RX0 38 yX3_get, Cond.instanceMethod yX3_get]
def wsX4_mean_r2 : List Cond := [Cond.selects RX3 yX3_get yX3_get, Cond.code yX3_get cX3_get 2 (some .int), Cond.fieldLink RX3 13 "Bookinghouse$Row" "items" "[I", Cond.methodLink RX3 23 yX3_holds, Cond.instanceMethod yX3_holds, Cond.selects RX3 yX3_holds yX3_holds, Cond.code yX3_holds cX3_holds 2 (some .boolean), Cond.methodLink RX0 60 yX0_busyTimes, Cond.instanceMethod yX0_busyTimes, Cond.selects RX0 yX0_busyTimes yX0_busyTimes, Cond.code yX0_busyTimes cX0_busyTimes 8 (some .int), Cond.fieldLink RX0 20 "Bookinghouse$Crowd" "changes" "LBookinghouse$Row;", Cond.methodLink RX0 54 Lib.Math.max.name, Cond.static Lib.Math.max.name, Cond.initialized "java/lang/Math", Cond.code Lib.Math.max.name Lib.Math.max.code 2 (some .int), Cond.methodLink RX0 63 Lib.Math.min.name, Cond.static Lib.Math.min.name, Cond.code Lib.Math.min.name Lib.Math.min.code 2 (some .int), Cond.methodLink RX4 225 yX0_total, Cond.instanceMethod yX0_total, Cond.selects RX0 yX0_total yX0_total, Cond.code yX0_total cX0_total 5 (some .long)]
def wsX4_mean : List Cond := .code yX4_mean cX4_mean 4 (some .double) :: ((wsX4_mean_r1 ++ wsX4_mean_r2) ++ wsX10 ++ wsX40 ++ wsX00 ++ wsX30 ++ (vx_atS RX4 234 "java/lang/ArithmeticException" ["java/lang/RuntimeException", "java/lang/Exception"]).filter goodWord ++ (vx_atS RX4 163 "java/lang/IndexOutOfBoundsException" ["java/lang/RuntimeException", "java/lang/Exception"]).filter goodWord ++ (vx_atM "java/lang/ArrayIndexOutOfBoundsException" ["java/lang/IndexOutOfBoundsException", "java/lang/RuntimeException", "java/lang/Exception"]).filter goodWord)
def wsX4_share : List Cond := .code yX4_share cX4_share 4 (some .float) :: ([.classLink RX4 232 "java/lang/ArithmeticException", .initialized "java/lang/ArithmeticException", .methodLink RX4 32 yX4_houseAt, .instanceMethod yX4_houseAt, .selects RX4 yX4_houseAt yX4_houseAt, .initialized RX4, .code yX4_houseAt cX4_houseAt 2 (some (.object "Bookinghouse$House")), .classLink RX4 159 "java/lang/IndexOutOfBoundsException", .initialized "java/lang/IndexOutOfBoundsException", .fieldLink RX4 18 "Bookinghouse" "houses" "[LBookinghouse$House;", .methodLink RX4 132 yX3_size, .instanceMethod yX3_size, .selects RX3 yX3_size yX3_size, .initialized RX3, .code yX3_size cX3_size 1 (some .int), .fieldLink RX3 19 "Bookinghouse$Row" "size" "I"] ++ wsX10 ++ wsX40 ++ wsX30 ++ (vx_atS RX4 234 "java/lang/ArithmeticException" ["java/lang/RuntimeException", "java/lang/Exception"]).filter goodWord ++ (vx_atS RX4 163 "java/lang/IndexOutOfBoundsException" ["java/lang/RuntimeException", "java/lang/Exception"]).filter goodWord)
def wsX4_isQuiet_r1 : List Cond := [Cond.methodLink RX4 32 yX4_houseAt, Cond.instanceMethod yX4_houseAt, Cond.selects RX4 yX4_houseAt yX4_houseAt, Cond.initialized RX4, Cond.code yX4_houseAt cX4_houseAt 2 (some (.object "Bookinghouse$House")), Cond.classLink RX4 159 "java/lang/IndexOutOfBoundsException", Cond.initialized "java/lang/IndexOutOfBoundsException", Cond.fieldLink RX4 18 "Bookinghouse" "houses" "[LBookinghouse$House;", Cond.methodLink RX4 132 yX3_size, Cond.instanceMethod yX3_size, Cond.selects RX3 yX3_size yX3_size, Cond.initialized RX3, Cond.code yX3_size cX3_size 1 (some .int), Cond.fieldLink RX3 19 "Bookinghouse$Row" "size" "I", Cond.methodLink RX4 237 yX0_isOverAt, Cond.instanceMethod yX0_isOverAt, Cond.selects RX0 yX0_isOverAt yX0_isOverAt, Cond.initialized RX0, Cond.code yX0_isOverAt cX0_isOverAt 2 (some .boolean), Cond.fieldLink RX0 14 "Bookinghouse$Crowd" "times" "LBookinghouse$Row;", Cond.methodLink RX0 66 yX0_isEmpty, Cond.instanceMethod yX0_isEmpty, Cond.selects RX0 yX0_isEmpty yX0_isEmpty, Cond.code yX0_isEmpty cX0_isEmpty 1 (some .boolean)]
def wsX4_isQuiet_r2 : List Cond := [Cond.methodLink RX0 26 yX3_size, Cond.methodLink RX0 38 yX3_get, Cond.instanceMethod yX3_get, Cond.selects RX3 yX3_get yX3_get, Cond.code yX3_get cX3_get 2 (some .int), Cond.fieldLink RX3 13 "Bookinghouse$Row" "items" "[I", Cond.methodLink RX3 23 yX3_holds, Cond.instanceMethod yX3_holds, Cond.selects RX3 yX3_holds yX3_holds, Cond.code yX3_holds cX3_holds 2 (some .boolean)]
def wsX4_isQuiet : List Cond := .code yX4_isQuiet cX4_isQuiet 3 (some .boolean) :: ((wsX4_isQuiet_r1 ++ wsX4_isQuiet_r2) ++ wsX10 ++ wsX40 ++ wsX30 ++ wsX00 ++ (vx_atS RX4 163 "java/lang/IndexOutOfBoundsException" ["java/lang/RuntimeException", "java/lang/Exception"]).filter goodWord ++ (vx_atM "java/lang/ArrayIndexOutOfBoundsException" ["java/lang/IndexOutOfBoundsException", "java/lang/RuntimeException", "java/lang/Exception"]).filter goodWord)
def wsX4_withRow : List Cond := .code yX4_withRow cX4_withRow 6 (some .long) :: ([.constantLong RX4 297 (31), .methodLink RX4 132 yX3_size, .instanceMethod yX3_size, .selects RX3 yX3_size yX3_size, .initialized RX3, .code yX3_size cX3_size 1 (some .int), .fieldLink RX3 19 "Bookinghouse$Row" "size" "I", .methodLink RX4 113 yX3_get, .instanceMethod yX3_get, .selects RX3 yX3_get yX3_get, .code yX3_get cX3_get 2 (some .int), .fieldLink RX3 13 "Bookinghouse$Row" "items" "[I", .methodLink RX3 23 yX3_holds, .instanceMethod yX3_holds, .selects RX3 yX3_holds yX3_holds, .code yX3_holds cX3_holds 2 (some .boolean)] ++ wsX30 ++ (vx_atM "java/lang/ArrayIndexOutOfBoundsException" ["java/lang/IndexOutOfBoundsException", "java/lang/RuntimeException", "java/lang/Exception"]).filter goodWord)
def wsX4_withHouse : List Cond := .code yX4_withHouse cX4_withHouse 6 (some .long) :: ([.constantLong RX4 297 (31), .methodLink RX4 299 yX4_withRow, .static yX4_withRow, .initialized RX4, .code yX4_withRow cX4_withRow 6 (some .long), .methodLink RX4 132 yX3_size, .instanceMethod yX3_size, .selects RX3 yX3_size yX3_size, .initialized RX3, .code yX3_size cX3_size 1 (some .int), .fieldLink RX3 19 "Bookinghouse$Row" "size" "I", .methodLink RX4 113 yX3_get, .instanceMethod yX3_get, .selects RX3 yX3_get yX3_get, .code yX3_get cX3_get 2 (some .int), .fieldLink RX3 13 "Bookinghouse$Row" "items" "[I", .methodLink RX3 23 yX3_holds, .instanceMethod yX3_holds, .selects RX3 yX3_holds yX3_holds, .code yX3_holds cX3_holds 2 (some .boolean)] ++ wsX10 ++ wsX00 ++ wsX30 ++ (vx_atM "java/lang/ArrayIndexOutOfBoundsException" ["java/lang/IndexOutOfBoundsException", "java/lang/RuntimeException", "java/lang/Exception"]).filter goodWord)
def wsX4_checksum_r1 : List Cond := [Cond.constantLong RX4 240 (7), Cond.fieldLink RX4 18 "Bookinghouse" "houses" "[LBookinghouse$House;", Cond.methodLink RX4 242 yX4_withHouse, Cond.static yX4_withHouse, Cond.initialized RX4, Cond.code yX4_withHouse cX4_withHouse 6 (some .long), Cond.constantLong RX4 297 (31), Cond.methodLink RX4 299 yX4_withRow, Cond.static yX4_withRow, Cond.code yX4_withRow cX4_withRow 6 (some .long), Cond.methodLink RX4 132 yX3_size, Cond.instanceMethod yX3_size, Cond.selects RX3 yX3_size yX3_size, Cond.initialized RX3, Cond.code yX3_size cX3_size 1 (some .int), Cond.fieldLink RX3 19 "Bookinghouse$Row" "size" "I", Cond.methodLink RX4 113 yX3_get, Cond.instanceMethod yX3_get, Cond.selects RX3 yX3_get yX3_get, Cond.code yX3_get cX3_get 2 (some .int), Cond.fieldLink RX3 13 "Bookinghouse$Row" "items" "[I", Cond.methodLink RX3 23 yX3_holds, Cond.instanceMethod yX3_holds, Cond.selects RX3 yX3_holds yX3_holds]
def wsX4_checksum_r2 : List Cond := [Cond.code yX3_holds cX3_holds 2 (some .boolean)]
def wsX4_checksum : List Cond := .code yX4_checksum cX4_checksum 7 (some .long) :: ((wsX4_checksum_r1 ++ wsX4_checksum_r2) ++ wsX40 ++ wsX10 ++ wsX00 ++ wsX30 ++ (vx_atM "java/lang/ArrayIndexOutOfBoundsException" ["java/lang/IndexOutOfBoundsException", "java/lang/RuntimeException", "java/lang/Exception"]).filter goodWord)
def wsX4_isOneThingOnce : List Cond := .code yX4_isOneThingOnce cX4_isOneThingOnce 8 (some .boolean) :: ([.fieldLink RX4 18 "Bookinghouse" "houses" "[LBookinghouse$House;", .fieldLink RX4 10 "Bookinghouse" "ledger" "LBookinghouse$Ledger;", .methodLink RX4 306 yX3_count, .instanceMethod yX3_count, .selects RX3 yX3_count yX3_count, .initialized RX3, .code yX3_count cX3_count 4 (some .int), .fieldLink RX3 19 "Bookinghouse$Row" "size" "I", .methodLink RX3 37 yX3_get, .instanceMethod yX3_get, .selects RX3 yX3_get yX3_get, .code yX3_get cX3_get 2 (some .int), .fieldLink RX3 13 "Bookinghouse$Row" "items" "[I", .methodLink RX3 23 yX3_holds, .instanceMethod yX3_holds, .selects RX3 yX3_holds yX3_holds, .code yX3_holds cX3_holds 2 (some .boolean), .methodLink RX4 113 yX3_get, .methodLink RX4 61 yX4_isIn, .static yX4_isIn, .initialized RX4, .code yX4_isIn cX4_isIn 3 (some .boolean)] ++ wsX40 ++ wsX10 ++ wsX20 ++ wsX30 ++ (vx_atM "java/lang/ArrayIndexOutOfBoundsException" ["java/lang/IndexOutOfBoundsException", "java/lang/RuntimeException", "java/lang/Exception"]).filter goodWord)
def wsX4_isSplitByClock : List Cond := .code yX4_isSplitByClock cX4_isSplitByClock 4 (some .boolean) :: ([.fieldLink RX4 10 "Bookinghouse" "ledger" "LBookinghouse$Ledger;", .methodLink RX4 132 yX3_size, .instanceMethod yX3_size, .selects RX3 yX3_size yX3_size, .initialized RX3, .code yX3_size cX3_size 1 (some .int), .fieldLink RX3 19 "Bookinghouse$Row" "size" "I", .methodLink RX4 113 yX3_get, .instanceMethod yX3_get, .selects RX3 yX3_get yX3_get, .code yX3_get cX3_get 2 (some .int), .fieldLink RX3 13 "Bookinghouse$Row" "items" "[I", .methodLink RX3 23 yX3_holds, .instanceMethod yX3_holds, .selects RX3 yX3_holds yX3_holds, .code yX3_holds cX3_holds 2 (some .boolean)] ++ wsX10 ++ wsX40 ++ wsX20 ++ wsX30 ++ (vx_atM "java/lang/ArrayIndexOutOfBoundsException" ["java/lang/IndexOutOfBoundsException", "java/lang/RuntimeException", "java/lang/Exception"]).filter goodWord)
def wsX4_crowdIsOfThoseThatCame_r1 : List Cond := [Cond.fieldLink RX4 25 "Bookinghouse" "rebuilt" "LBookinghouse$Crowd;", Cond.fieldLink RX4 10 "Bookinghouse" "ledger" "LBookinghouse$Ledger;", Cond.methodLink RX4 313 yX0_clear, Cond.instanceMethod yX0_clear, Cond.selects RX0 yX0_clear yX0_clear, Cond.initialized RX0, Cond.code yX0_clear cX0_clear 1 none, Cond.fieldLink RX0 14 "Bookinghouse$Crowd" "times" "LBookinghouse$Row;", Cond.fieldLink RX0 20 "Bookinghouse$Crowd" "changes" "LBookinghouse$Row;", Cond.methodLink RX0 23 yX3_clear, Cond.instanceMethod yX3_clear, Cond.selects RX3 yX3_clear yX3_clear, Cond.initialized RX3, Cond.code yX3_clear cX3_clear 1 none, Cond.fieldLink RX3 19 "Bookinghouse$Row" "size" "I", Cond.methodLink RX4 132 yX3_size, Cond.instanceMethod yX3_size, Cond.selects RX3 yX3_size yX3_size, Cond.code yX3_size cX3_size 1 (some .int), Cond.methodLink RX4 113 yX3_get, Cond.instanceMethod yX3_get, Cond.selects RX3 yX3_get yX3_get, Cond.code yX3_get cX3_get 2 (some .int), Cond.fieldLink RX3 13 "Bookinghouse$Row" "items" "[I"]
def wsX4_crowdIsOfThoseThatCame_r2 : List Cond := [Cond.methodLink RX3 23 yX3_holds, Cond.instanceMethod yX3_holds, Cond.selects RX3 yX3_holds yX3_holds, Cond.code yX3_holds cX3_holds 2 (some .boolean), Cond.methodLink RX4 291 yX2_end, Cond.instanceMethod yX2_end, Cond.selects RX2 yX2_end yX2_end, Cond.initialized RX2, Cond.code yX2_end cX2_end 2 (some .int), Cond.fieldLink RX2 14 "Bookinghouse$Ledger" "times" "LBookinghouse$Row;", Cond.fieldLink RX2 20 "Bookinghouse$Ledger" "spans" "LBookinghouse$Row;", Cond.methodLink RX2 39 yX3_get, Cond.methodLink RX4 294 yX0_enter, Cond.instanceMethod yX0_enter, Cond.selects RX0 yX0_enter yX0_enter, Cond.code yX0_enter cX0_enter 4 none, Cond.methodLink RX0 34 yX0_alter, Cond.instanceMethod yX0_alter, Cond.selects RX0 yX0_alter yX0_alter, Cond.code yX0_alter cX0_alter 4 none, Cond.methodLink RX0 26 yX3_size, Cond.methodLink RX0 38 yX3_get, Cond.methodLink RX0 42 yX3_insert, Cond.instanceMethod yX3_insert]
def wsX4_crowdIsOfThoseThatCame_r3 : List Cond := [Cond.selects RX3 yX3_insert yX3_insert, Cond.code yX3_insert cX3_insert 3 none, Cond.methodLink RX3 31 arraycopyName, Cond.native arraycopyName, Cond.static arraycopyName, Cond.initialized "java/lang/System", Cond.methodLink RX0 45 yX3_remove, Cond.instanceMethod yX3_remove, Cond.selects RX3 yX3_remove yX3_remove, Cond.code yX3_remove cX3_remove 3 (some .int), Cond.methodLink RX0 48 yX3_set, Cond.instanceMethod yX3_set, Cond.selects RX3 yX3_set yX3_set, Cond.code yX3_set cX3_set 3 none, Cond.methodLink RX4 316 yX0_isLike, Cond.instanceMethod yX0_isLike, Cond.selects RX0 yX0_isLike yX0_isLike, Cond.code yX0_isLike cX0_isLike 2 (some .boolean), Cond.methodLink RX0 30 yX3_isLike, Cond.instanceMethod yX3_isLike, Cond.selects RX3 yX3_isLike yX3_isLike, Cond.code yX3_isLike cX3_isLike 3 (some .boolean), Cond.methodLink RX3 37 yX3_get, Cond.methodLink RX4 320 yX0_isLevelInTheEnd]
def wsX4_crowdIsOfThoseThatCame_r4 : List Cond := [Cond.instanceMethod yX0_isLevelInTheEnd, Cond.selects RX0 yX0_isLevelInTheEnd yX0_isLevelInTheEnd, Cond.code yX0_isLevelInTheEnd cX0_isLevelInTheEnd 3 (some .boolean), Cond.methodLink RX4 225 yX0_total, Cond.instanceMethod yX0_total, Cond.selects RX0 yX0_total yX0_total, Cond.code yX0_total cX0_total 5 (some .long)]
def wsX4_crowdIsOfThoseThatCame : List Cond := .code yX4_crowdIsOfThoseThatCame cX4_crowdIsOfThoseThatCame 7 (some .boolean) :: ((wsX4_crowdIsOfThoseThatCame_r1 ++ (wsX4_crowdIsOfThoseThatCame_r2 ++ (wsX4_crowdIsOfThoseThatCame_r3 ++ wsX4_crowdIsOfThoseThatCame_r4))) ++ wsX40 ++ wsX10 ++ wsX20 ++ wsX00 ++ wsX30 ++ (vx_atM "java/lang/ArrayIndexOutOfBoundsException" ["java/lang/IndexOutOfBoundsException", "java/lang/RuntimeException", "java/lang/Exception"]).filter goodWord)
def wsX4_standInSequence : List Cond := .code yX4_standInSequence cX4_standInSequence 10 (some .boolean) :: ([.fieldLink RX4 10 "Bookinghouse" "ledger" "LBookinghouse$Ledger;", .methodLink RX4 132 yX3_size, .instanceMethod yX3_size, .selects RX3 yX3_size yX3_size, .initialized RX3, .code yX3_size cX3_size 1 (some .int), .fieldLink RX3 19 "Bookinghouse$Row" "size" "I", .methodLink RX4 113 yX3_get, .instanceMethod yX3_get, .selects RX3 yX3_get yX3_get, .code yX3_get cX3_get 2 (some .int), .fieldLink RX3 13 "Bookinghouse$Row" "items" "[I", .methodLink RX3 23 yX3_holds, .instanceMethod yX3_holds, .selects RX3 yX3_holds yX3_holds, .code yX3_holds cX3_holds 2 (some .boolean), .methodLink RX4 276 yX2_isAhead, .instanceMethod yX2_isAhead, .selects RX2 yX2_isAhead yX2_isAhead, .initialized RX2, .code yX2_isAhead cX2_isAhead 5 (some .boolean), .fieldLink RX2 14 "Bookinghouse$Ledger" "times" "LBookinghouse$Row;", .methodLink RX2 39 yX3_get] ++ wsX40 ++ wsX30 ++ wsX20 ++ (vx_atM "java/lang/ArrayIndexOutOfBoundsException" ["java/lang/IndexOutOfBoundsException", "java/lang/RuntimeException", "java/lang/Exception"]).filter goodWord)
def wsX4_standsWithAllOthers_r1 : List Cond := [Cond.fieldLink RX4 18 "Bookinghouse" "houses" "[LBookinghouse$House;", Cond.methodLink RX4 309 yX4_standInSequence, Cond.instanceMethod yX4_standInSequence, Cond.selects RX4 yX4_standInSequence yX4_standInSequence, Cond.initialized RX4, Cond.code yX4_standInSequence cX4_standInSequence 10 (some .boolean), Cond.fieldLink RX4 10 "Bookinghouse" "ledger" "LBookinghouse$Ledger;", Cond.methodLink RX4 132 yX3_size, Cond.instanceMethod yX3_size, Cond.selects RX3 yX3_size yX3_size, Cond.initialized RX3, Cond.code yX3_size cX3_size 1 (some .int), Cond.fieldLink RX3 19 "Bookinghouse$Row" "size" "I", Cond.methodLink RX4 113 yX3_get, Cond.instanceMethod yX3_get, Cond.selects RX3 yX3_get yX3_get, Cond.code yX3_get cX3_get 2 (some .int), Cond.fieldLink RX3 13 "Bookinghouse$Row" "items" "[I", Cond.methodLink RX3 23 yX3_holds, Cond.instanceMethod yX3_holds, Cond.selects RX3 yX3_holds yX3_holds, Cond.code yX3_holds cX3_holds 2 (some .boolean), Cond.methodLink RX4 276 yX2_isAhead, Cond.instanceMethod yX2_isAhead]
def wsX4_standsWithAllOthers_r2 : List Cond := [Cond.selects RX2 yX2_isAhead yX2_isAhead, Cond.initialized RX2, Cond.code yX2_isAhead cX2_isAhead 5 (some .boolean), Cond.fieldLink RX2 14 "Bookinghouse$Ledger" "times" "LBookinghouse$Row;", Cond.methodLink RX2 39 yX3_get]
def wsX4_standsWithAllOthers : List Cond := .code yX4_standsWithAllOthers cX4_standsWithAllOthers 6 (some .boolean) :: ((wsX4_standsWithAllOthers_r1 ++ wsX4_standsWithAllOthers_r2) ++ wsX40 ++ wsX10 ++ wsX30 ++ wsX20 ++ (vx_atM "java/lang/ArrayIndexOutOfBoundsException" ["java/lang/IndexOutOfBoundsException", "java/lang/RuntimeException", "java/lang/Exception"]).filter goodWord)
def wsX4_isSound_r1 : List Cond := [Cond.fieldLink RX4 10 "Bookinghouse" "ledger" "LBookinghouse$Ledger;", Cond.fieldLink RX4 18 "Bookinghouse" "houses" "[LBookinghouse$House;", Cond.methodLink RX4 67 yX2_size, Cond.instanceMethod yX2_size, Cond.selects RX2 yX2_size yX2_size, Cond.initialized RX2, Cond.code yX2_size cX2_size 1 (some .int), Cond.fieldLink RX2 14 "Bookinghouse$Ledger" "times" "LBookinghouse$Row;", Cond.methodLink RX2 32 yX3_size, Cond.instanceMethod yX3_size, Cond.selects RX3 yX3_size yX3_size, Cond.initialized RX3, Cond.code yX3_size cX3_size 1 (some .int), Cond.fieldLink RX3 19 "Bookinghouse$Row" "size" "I", Cond.methodLink RX4 246 yX4_isOneThingOnce, Cond.instanceMethod yX4_isOneThingOnce, Cond.selects RX4 yX4_isOneThingOnce yX4_isOneThingOnce, Cond.initialized RX4, Cond.code yX4_isOneThingOnce cX4_isOneThingOnce 8 (some .boolean), Cond.methodLink RX4 306 yX3_count, Cond.instanceMethod yX3_count, Cond.selects RX3 yX3_count yX3_count, Cond.code yX3_count cX3_count 4 (some .int), Cond.methodLink RX3 37 yX3_get]
def wsX4_isSound_r2 : List Cond := [Cond.instanceMethod yX3_get, Cond.selects RX3 yX3_get yX3_get, Cond.code yX3_get cX3_get 2 (some .int), Cond.fieldLink RX3 13 "Bookinghouse$Row" "items" "[I", Cond.methodLink RX3 23 yX3_holds, Cond.instanceMethod yX3_holds, Cond.selects RX3 yX3_holds yX3_holds, Cond.code yX3_holds cX3_holds 2 (some .boolean), Cond.methodLink RX4 113 yX3_get, Cond.methodLink RX4 61 yX4_isIn, Cond.static yX4_isIn, Cond.code yX4_isIn cX4_isIn 3 (some .boolean), Cond.methodLink RX4 249 yX4_isSplitByClock, Cond.instanceMethod yX4_isSplitByClock, Cond.selects RX4 yX4_isSplitByClock yX4_isSplitByClock, Cond.code yX4_isSplitByClock cX4_isSplitByClock 4 (some .boolean), Cond.methodLink RX4 132 yX3_size, Cond.methodLink RX4 253 yX4_crowdIsOfThoseThatCame, Cond.instanceMethod yX4_crowdIsOfThoseThatCame, Cond.selects RX4 yX4_crowdIsOfThoseThatCame yX4_crowdIsOfThoseThatCame, Cond.code yX4_crowdIsOfThoseThatCame cX4_crowdIsOfThoseThatCame 7 (some .boolean), Cond.fieldLink RX4 25 "Bookinghouse" "rebuilt" "LBookinghouse$Crowd;", Cond.methodLink RX4 313 yX0_clear, Cond.instanceMethod yX0_clear]
def wsX4_isSound_r3 : List Cond := [Cond.selects RX0 yX0_clear yX0_clear, Cond.initialized RX0, Cond.code yX0_clear cX0_clear 1 none, Cond.fieldLink RX0 14 "Bookinghouse$Crowd" "times" "LBookinghouse$Row;", Cond.fieldLink RX0 20 "Bookinghouse$Crowd" "changes" "LBookinghouse$Row;", Cond.methodLink RX0 23 yX3_clear, Cond.instanceMethod yX3_clear, Cond.selects RX3 yX3_clear yX3_clear, Cond.code yX3_clear cX3_clear 1 none, Cond.methodLink RX4 291 yX2_end, Cond.instanceMethod yX2_end, Cond.selects RX2 yX2_end yX2_end, Cond.code yX2_end cX2_end 2 (some .int), Cond.fieldLink RX2 20 "Bookinghouse$Ledger" "spans" "LBookinghouse$Row;", Cond.methodLink RX2 39 yX3_get, Cond.methodLink RX4 294 yX0_enter, Cond.instanceMethod yX0_enter, Cond.selects RX0 yX0_enter yX0_enter, Cond.code yX0_enter cX0_enter 4 none, Cond.methodLink RX0 34 yX0_alter, Cond.instanceMethod yX0_alter, Cond.selects RX0 yX0_alter yX0_alter, Cond.code yX0_alter cX0_alter 4 none, Cond.methodLink RX0 26 yX3_size]
def wsX4_isSound_r4 : List Cond := [Cond.methodLink RX0 38 yX3_get, Cond.methodLink RX0 42 yX3_insert, Cond.instanceMethod yX3_insert, Cond.selects RX3 yX3_insert yX3_insert, Cond.code yX3_insert cX3_insert 3 none, Cond.methodLink RX3 31 arraycopyName, Cond.native arraycopyName, Cond.static arraycopyName, Cond.initialized "java/lang/System", Cond.methodLink RX0 45 yX3_remove, Cond.instanceMethod yX3_remove, Cond.selects RX3 yX3_remove yX3_remove, Cond.code yX3_remove cX3_remove 3 (some .int), Cond.methodLink RX0 48 yX3_set, Cond.instanceMethod yX3_set, Cond.selects RX3 yX3_set yX3_set, Cond.code yX3_set cX3_set 3 none, Cond.methodLink RX4 316 yX0_isLike, Cond.instanceMethod yX0_isLike, Cond.selects RX0 yX0_isLike yX0_isLike, Cond.code yX0_isLike cX0_isLike 2 (some .boolean), Cond.methodLink RX0 30 yX3_isLike, Cond.instanceMethod yX3_isLike, Cond.selects RX3 yX3_isLike yX3_isLike]
def wsX4_isSound_r5 : List Cond := [Cond.code yX3_isLike cX3_isLike 3 (some .boolean), Cond.methodLink RX4 320 yX0_isLevelInTheEnd, Cond.instanceMethod yX0_isLevelInTheEnd, Cond.selects RX0 yX0_isLevelInTheEnd yX0_isLevelInTheEnd, Cond.code yX0_isLevelInTheEnd cX0_isLevelInTheEnd 3 (some .boolean), Cond.methodLink RX4 225 yX0_total, Cond.instanceMethod yX0_total, Cond.selects RX0 yX0_total yX0_total, Cond.code yX0_total cX0_total 5 (some .long), Cond.methodLink RX4 256 yX4_standsWithAllOthers, Cond.instanceMethod yX4_standsWithAllOthers, Cond.selects RX4 yX4_standsWithAllOthers yX4_standsWithAllOthers, Cond.code yX4_standsWithAllOthers cX4_standsWithAllOthers 6 (some .boolean), Cond.methodLink RX4 309 yX4_standInSequence, Cond.instanceMethod yX4_standInSequence, Cond.selects RX4 yX4_standInSequence yX4_standInSequence, Cond.code yX4_standInSequence cX4_standInSequence 10 (some .boolean), Cond.methodLink RX4 276 yX2_isAhead, Cond.instanceMethod yX2_isAhead, Cond.selects RX2 yX2_isAhead yX2_isAhead, Cond.code yX2_isAhead cX2_isAhead 5 (some .boolean)]
def wsX4_isSound : List Cond := .code yX4_isSound cX4_isSound 5 (some .boolean) :: ((wsX4_isSound_r1 ++ (wsX4_isSound_r2 ++ (wsX4_isSound_r3 ++ (wsX4_isSound_r4 ++ wsX4_isSound_r5)))) ++ wsX40 ++ wsX20 ++ wsX30 ++ wsX10 ++ wsX00 ++ (vx_atM "java/lang/ArrayIndexOutOfBoundsException" ["java/lang/IndexOutOfBoundsException", "java/lang/RuntimeException", "java/lang/Exception"]).filter goodWord)
def wsX5_init : List Cond := .code yX5_init cX5_init 1 none :: ([.methodLink RX5 1 objectInit, .instanceMethod objectInit, .code objectInit ⟨#[0xb1]⟩ 1 none, .arrayClass .int, .fieldLink RX5 7 "BookinghouseModel" "time" "[I", .fieldLink RX5 13 "BookinghouseModel" "span" "[I", .fieldLink RX5 16 "BookinghouseModel" "weight" "[I", .fieldLink RX5 19 "BookinghouseModel" "home" "[I", .fieldLink RX5 22 "BookinghouseModel" "state" "[I", .fieldLink RX5 25 "BookinghouseModel" "came" "[I", .fieldLink RX5 28 "BookinghouseModel" "clock" "[I"] ++ wsX50)
def wsX5_thrown : List Cond := .code yX5_thrown cX5_thrown 1 (some .int) :: ([.fieldLink RX5 31 "BookinghouseModel" "thrown" "I"] ++ wsX50)
def wsX5_isThrown : List Cond := .code yX5_isThrown cX5_isThrown 3 (some .boolean) :: ([.fieldLink RX5 31 "BookinghouseModel" "thrown" "I"] ++ wsX50)
def wsX5_isHouse : List Cond := .code yX5_isHouse cX5_isHouse 1 (some .boolean) :: ([])
def wsX5_isIn : List Cond := .code yX5_isIn cX5_isIn 3 (some .boolean) :: ([])
def wsX5_many : List Cond := .code yX5_many cX5_many 5 (some .int) :: ([.fieldLink RX5 35 "BookinghouseModel" "made" "I", .fieldLink RX5 19 "BookinghouseModel" "home" "[I", .fieldLink RX5 22 "BookinghouseModel" "state" "[I"] ++ wsX50 ++ (vx_atM "java/lang/ArrayIndexOutOfBoundsException" ["java/lang/IndexOutOfBoundsException", "java/lang/RuntimeException", "java/lang/Exception"]).filter goodWord)
def wsX5_isAhead : List Cond := .code yX5_isAhead cX5_isAhead 3 (some .boolean) :: ([.fieldLink RX5 7 "BookinghouseModel" "time" "[I"] ++ wsX50 ++ (vx_atM "java/lang/ArrayIndexOutOfBoundsException" ["java/lang/IndexOutOfBoundsException", "java/lang/RuntimeException", "java/lang/Exception"]).filter goodWord)
def wsX5_behind : List Cond := .code yX5_behind cX5_behind 5 (some .int) :: ([.fieldLink RX5 35 "BookinghouseModel" "made" "I", .fieldLink RX5 19 "BookinghouseModel" "home" "[I", .fieldLink RX5 22 "BookinghouseModel" "state" "[I", .methodLink RX5 38 yX5_isAhead, .instanceMethod yX5_isAhead, .selects RX5 yX5_isAhead yX5_isAhead, .initialized RX5, .code yX5_isAhead cX5_isAhead 3 (some .boolean), .fieldLink RX5 7 "BookinghouseModel" "time" "[I"] ++ wsX50 ++ (vx_atM "java/lang/ArrayIndexOutOfBoundsException" ["java/lang/IndexOutOfBoundsException", "java/lang/RuntimeException", "java/lang/Exception"]).filter goodWord)
def wsX5_first : List Cond := .code yX5_first cX5_first 2 (some .int) :: ([.methodLink RX5 42 yX5_behind, .instanceMethod yX5_behind, .selects RX5 yX5_behind yX5_behind, .initialized RX5, .code yX5_behind cX5_behind 5 (some .int), .fieldLink RX5 35 "BookinghouseModel" "made" "I", .fieldLink RX5 19 "BookinghouseModel" "home" "[I", .fieldLink RX5 22 "BookinghouseModel" "state" "[I", .methodLink RX5 38 yX5_isAhead, .instanceMethod yX5_isAhead, .selects RX5 yX5_isAhead yX5_isAhead, .code yX5_isAhead cX5_isAhead 3 (some .boolean), .fieldLink RX5 7 "BookinghouseModel" "time" "[I"] ++ wsX50 ++ (vx_atM "java/lang/ArrayIndexOutOfBoundsException" ["java/lang/IndexOutOfBoundsException", "java/lang/RuntimeException", "java/lang/Exception"]).filter goodWord)
def wsX5_isWaiting : List Cond := .code yX5_isWaiting cX5_isWaiting 3 (some .boolean) :: ([.fieldLink RX5 35 "BookinghouseModel" "made" "I", .fieldLink RX5 19 "BookinghouseModel" "home" "[I", .fieldLink RX5 22 "BookinghouseModel" "state" "[I"] ++ wsX50 ++ (vx_atM "java/lang/ArrayIndexOutOfBoundsException" ["java/lang/IndexOutOfBoundsException", "java/lang/RuntimeException", "java/lang/Exception"]).filter goodWord)
def wsX5_makes : List Cond := .code yX5_makes cX5_makes 5 (some .int) :: ([.fieldLink RX5 7 "BookinghouseModel" "time" "[I", .fieldLink RX5 35 "BookinghouseModel" "made" "I", .fieldLink RX5 13 "BookinghouseModel" "span" "[I", .fieldLink RX5 16 "BookinghouseModel" "weight" "[I", .fieldLink RX5 19 "BookinghouseModel" "home" "[I", .fieldLink RX5 22 "BookinghouseModel" "state" "[I"] ++ wsX50 ++ (vx_atM "java/lang/ArrayIndexOutOfBoundsException" ["java/lang/IndexOutOfBoundsException", "java/lang/RuntimeException", "java/lang/Exception"]).filter goodWord)
def wsX5_book_r1 : List Cond := [Cond.fieldLink RX5 28 "BookinghouseModel" "clock" "[I", Cond.fieldLink RX5 35 "BookinghouseModel" "made" "I", Cond.methodLink RX5 46 yX5_isHouse, Cond.static yX5_isHouse, Cond.initialized RX5, Cond.code yX5_isHouse cX5_isHouse 1 (some .boolean), Cond.methodLink RX5 50 yX5_isThrown, Cond.instanceMethod yX5_isThrown, Cond.selects RX5 yX5_isThrown yX5_isThrown, Cond.code yX5_isThrown cX5_isThrown 3 (some .boolean), Cond.fieldLink RX5 31 "BookinghouseModel" "thrown" "I", Cond.methodLink RX5 54 yX5_isIn, Cond.static yX5_isIn, Cond.code yX5_isIn cX5_isIn 3 (some .boolean), Cond.methodLink RX5 58 yX5_many, Cond.instanceMethod yX5_many, Cond.selects RX5 yX5_many yX5_many, Cond.code yX5_many cX5_many 5 (some .int), Cond.fieldLink RX5 19 "BookinghouseModel" "home" "[I", Cond.fieldLink RX5 22 "BookinghouseModel" "state" "[I", Cond.methodLink RX5 61 yX5_makes, Cond.instanceMethod yX5_makes, Cond.selects RX5 yX5_makes yX5_makes, Cond.code yX5_makes cX5_makes 5 (some .int)]
def wsX5_book_r2 : List Cond := [Cond.fieldLink RX5 7 "BookinghouseModel" "time" "[I", Cond.fieldLink RX5 13 "BookinghouseModel" "span" "[I", Cond.fieldLink RX5 16 "BookinghouseModel" "weight" "[I"]
def wsX5_book : List Cond := .code yX5_book cX5_book 5 (some .int) :: ((wsX5_book_r1 ++ wsX5_book_r2) ++ wsX50 ++ (vx_atM "java/lang/ArrayIndexOutOfBoundsException" ["java/lang/IndexOutOfBoundsException", "java/lang/RuntimeException", "java/lang/Exception"]).filter goodWord)
def wsX5_series_r1 : List Cond := [Cond.fieldLink RX5 28 "BookinghouseModel" "clock" "[I", Cond.fieldLink RX5 35 "BookinghouseModel" "made" "I", Cond.methodLink RX5 46 yX5_isHouse, Cond.static yX5_isHouse, Cond.initialized RX5, Cond.code yX5_isHouse cX5_isHouse 1 (some .boolean), Cond.methodLink RX5 50 yX5_isThrown, Cond.instanceMethod yX5_isThrown, Cond.selects RX5 yX5_isThrown yX5_isThrown, Cond.code yX5_isThrown cX5_isThrown 3 (some .boolean), Cond.fieldLink RX5 31 "BookinghouseModel" "thrown" "I", Cond.methodLink RX5 54 yX5_isIn, Cond.static yX5_isIn, Cond.code yX5_isIn cX5_isIn 3 (some .boolean), Cond.methodLink RX5 58 yX5_many, Cond.instanceMethod yX5_many, Cond.selects RX5 yX5_many yX5_many, Cond.code yX5_many cX5_many 5 (some .int), Cond.fieldLink RX5 19 "BookinghouseModel" "home" "[I", Cond.fieldLink RX5 22 "BookinghouseModel" "state" "[I", Cond.methodLink RX5 61 yX5_makes, Cond.instanceMethod yX5_makes, Cond.selects RX5 yX5_makes yX5_makes, Cond.code yX5_makes cX5_makes 5 (some .int)]
def wsX5_series_r2 : List Cond := [Cond.fieldLink RX5 7 "BookinghouseModel" "time" "[I", Cond.fieldLink RX5 13 "BookinghouseModel" "span" "[I", Cond.fieldLink RX5 16 "BookinghouseModel" "weight" "[I"]
def wsX5_series : List Cond := .code yX5_series cX5_series 9 (some .int) :: ((wsX5_series_r1 ++ wsX5_series_r2) ++ wsX50 ++ (vx_atM "java/lang/ArrayIndexOutOfBoundsException" ["java/lang/IndexOutOfBoundsException", "java/lang/RuntimeException", "java/lang/Exception"]).filter goodWord)
def wsX5_callOff : List Cond := .code yX5_callOff cX5_callOff 3 (some .boolean) :: ([.fieldLink RX5 22 "BookinghouseModel" "state" "[I", .methodLink RX5 46 yX5_isHouse, .static yX5_isHouse, .initialized RX5, .code yX5_isHouse cX5_isHouse 1 (some .boolean), .methodLink RX5 50 yX5_isThrown, .instanceMethod yX5_isThrown, .selects RX5 yX5_isThrown yX5_isThrown, .code yX5_isThrown cX5_isThrown 3 (some .boolean), .fieldLink RX5 31 "BookinghouseModel" "thrown" "I", .methodLink RX5 65 yX5_isWaiting, .instanceMethod yX5_isWaiting, .selects RX5 yX5_isWaiting yX5_isWaiting, .code yX5_isWaiting cX5_isWaiting 3 (some .boolean), .fieldLink RX5 35 "BookinghouseModel" "made" "I", .fieldLink RX5 19 "BookinghouseModel" "home" "[I"] ++ wsX50 ++ (vx_atM "java/lang/ArrayIndexOutOfBoundsException" ["java/lang/IndexOutOfBoundsException", "java/lang/RuntimeException", "java/lang/Exception"]).filter goodWord)
def wsX5_callOffAll : List Cond := .code yX5_callOffAll cX5_callOffAll 6 (some .int) :: ([.fieldLink RX5 35 "BookinghouseModel" "made" "I", .fieldLink RX5 7 "BookinghouseModel" "time" "[I", .fieldLink RX5 22 "BookinghouseModel" "state" "[I", .methodLink RX5 46 yX5_isHouse, .static yX5_isHouse, .initialized RX5, .code yX5_isHouse cX5_isHouse 1 (some .boolean), .methodLink RX5 50 yX5_isThrown, .instanceMethod yX5_isThrown, .selects RX5 yX5_isThrown yX5_isThrown, .code yX5_isThrown cX5_isThrown 3 (some .boolean), .fieldLink RX5 31 "BookinghouseModel" "thrown" "I", .methodLink RX5 65 yX5_isWaiting, .instanceMethod yX5_isWaiting, .selects RX5 yX5_isWaiting yX5_isWaiting, .code yX5_isWaiting cX5_isWaiting 3 (some .boolean), .fieldLink RX5 19 "BookinghouseModel" "home" "[I"] ++ wsX50 ++ (vx_atM "java/lang/ArrayIndexOutOfBoundsException" ["java/lang/IndexOutOfBoundsException", "java/lang/RuntimeException", "java/lang/Exception"]).filter goodWord)
def wsX5_put : List Cond := .code yX5_put cX5_put 5 (some .int) :: ([.fieldLink RX5 28 "BookinghouseModel" "clock" "[I", .fieldLink RX5 7 "BookinghouseModel" "time" "[I", .methodLink RX5 46 yX5_isHouse, .static yX5_isHouse, .initialized RX5, .code yX5_isHouse cX5_isHouse 1 (some .boolean), .methodLink RX5 50 yX5_isThrown, .instanceMethod yX5_isThrown, .selects RX5 yX5_isThrown yX5_isThrown, .code yX5_isThrown cX5_isThrown 3 (some .boolean), .fieldLink RX5 31 "BookinghouseModel" "thrown" "I", .methodLink RX5 54 yX5_isIn, .static yX5_isIn, .code yX5_isIn cX5_isIn 3 (some .boolean), .methodLink RX5 65 yX5_isWaiting, .instanceMethod yX5_isWaiting, .selects RX5 yX5_isWaiting yX5_isWaiting, .code yX5_isWaiting cX5_isWaiting 3 (some .boolean), .fieldLink RX5 35 "BookinghouseModel" "made" "I", .fieldLink RX5 19 "BookinghouseModel" "home" "[I", .fieldLink RX5 22 "BookinghouseModel" "state" "[I"] ++ wsX50 ++ (vx_atM "java/lang/ArrayIndexOutOfBoundsException" ["java/lang/IndexOutOfBoundsException", "java/lang/RuntimeException", "java/lang/Exception"]).filter goodWord)
def wsX5_moved : List Cond := .code yX5_moved cX5_moved 8 (some .int) :: ([.fieldLink RX5 35 "BookinghouseModel" "made" "I", .fieldLink RX5 7 "BookinghouseModel" "time" "[I", .fieldLink RX5 19 "BookinghouseModel" "home" "[I", .methodLink RX5 65 yX5_isWaiting, .instanceMethod yX5_isWaiting, .selects RX5 yX5_isWaiting yX5_isWaiting, .initialized RX5, .code yX5_isWaiting cX5_isWaiting 3 (some .boolean), .fieldLink RX5 22 "BookinghouseModel" "state" "[I"] ++ wsX50 ++ (vx_atM "java/lang/ArrayIndexOutOfBoundsException" ["java/lang/IndexOutOfBoundsException", "java/lang/RuntimeException", "java/lang/Exception"]).filter goodWord)
def wsX5_goes : List Cond := .code yX5_goes cX5_goes 5 (some .int) :: ([.fieldLink RX5 28 "BookinghouseModel" "clock" "[I", .constant RX5 72 (100000), .methodLink RX5 68 yX5_moved, .instanceMethod yX5_moved, .selects RX5 yX5_moved yX5_moved, .initialized RX5, .code yX5_moved cX5_moved 8 (some .int), .fieldLink RX5 35 "BookinghouseModel" "made" "I", .fieldLink RX5 7 "BookinghouseModel" "time" "[I", .fieldLink RX5 19 "BookinghouseModel" "home" "[I", .methodLink RX5 65 yX5_isWaiting, .instanceMethod yX5_isWaiting, .selects RX5 yX5_isWaiting yX5_isWaiting, .code yX5_isWaiting cX5_isWaiting 3 (some .boolean), .fieldLink RX5 22 "BookinghouseModel" "state" "[I", .methodLink RX5 58 yX5_many, .instanceMethod yX5_many, .selects RX5 yX5_many yX5_many, .code yX5_many cX5_many 5 (some .int), .methodLink RX5 50 yX5_isThrown, .instanceMethod yX5_isThrown, .selects RX5 yX5_isThrown yX5_isThrown, .code yX5_isThrown cX5_isThrown 3 (some .boolean), .fieldLink RX5 31 "BookinghouseModel" "thrown" "I"] ++ wsX50 ++ (vx_atM "java/lang/ArrayIndexOutOfBoundsException" ["java/lang/IndexOutOfBoundsException", "java/lang/RuntimeException", "java/lang/Exception"]).filter goodWord)
def wsX5_join_r1 : List Cond := [Cond.methodLink RX5 46 yX5_isHouse, Cond.static yX5_isHouse, Cond.initialized RX5, Cond.code yX5_isHouse cX5_isHouse 1 (some .boolean), Cond.methodLink RX5 50 yX5_isThrown, Cond.instanceMethod yX5_isThrown, Cond.selects RX5 yX5_isThrown yX5_isThrown, Cond.code yX5_isThrown cX5_isThrown 3 (some .boolean), Cond.fieldLink RX5 31 "BookinghouseModel" "thrown" "I", Cond.methodLink RX5 73 yX5_goes, Cond.instanceMethod yX5_goes, Cond.selects RX5 yX5_goes yX5_goes, Cond.code yX5_goes cX5_goes 5 (some .int), Cond.fieldLink RX5 28 "BookinghouseModel" "clock" "[I", Cond.constant RX5 72 (100000), Cond.methodLink RX5 68 yX5_moved, Cond.instanceMethod yX5_moved, Cond.selects RX5 yX5_moved yX5_moved, Cond.code yX5_moved cX5_moved 8 (some .int), Cond.fieldLink RX5 35 "BookinghouseModel" "made" "I", Cond.fieldLink RX5 7 "BookinghouseModel" "time" "[I", Cond.fieldLink RX5 19 "BookinghouseModel" "home" "[I", Cond.methodLink RX5 65 yX5_isWaiting, Cond.instanceMethod yX5_isWaiting]
def wsX5_join_r2 : List Cond := [Cond.selects RX5 yX5_isWaiting yX5_isWaiting, Cond.code yX5_isWaiting cX5_isWaiting 3 (some .boolean), Cond.fieldLink RX5 22 "BookinghouseModel" "state" "[I", Cond.methodLink RX5 58 yX5_many, Cond.instanceMethod yX5_many, Cond.selects RX5 yX5_many yX5_many, Cond.code yX5_many cX5_many 5 (some .int)]
def wsX5_join : List Cond := .code yX5_join cX5_join 3 (some .int) :: ((wsX5_join_r1 ++ wsX5_join_r2) ++ wsX50 ++ (vx_atM "java/lang/ArrayIndexOutOfBoundsException" ["java/lang/IndexOutOfBoundsException", "java/lang/RuntimeException", "java/lang/Exception"]).filter goodWord)
def wsX5_part_r1 : List Cond := [Cond.methodLink RX5 46 yX5_isHouse, Cond.static yX5_isHouse, Cond.initialized RX5, Cond.code yX5_isHouse cX5_isHouse 1 (some .boolean), Cond.methodLink RX5 50 yX5_isThrown, Cond.instanceMethod yX5_isThrown, Cond.selects RX5 yX5_isThrown yX5_isThrown, Cond.code yX5_isThrown cX5_isThrown 3 (some .boolean), Cond.fieldLink RX5 31 "BookinghouseModel" "thrown" "I", Cond.methodLink RX5 73 yX5_goes, Cond.instanceMethod yX5_goes, Cond.selects RX5 yX5_goes yX5_goes, Cond.code yX5_goes cX5_goes 5 (some .int), Cond.fieldLink RX5 28 "BookinghouseModel" "clock" "[I", Cond.constant RX5 72 (100000), Cond.methodLink RX5 68 yX5_moved, Cond.instanceMethod yX5_moved, Cond.selects RX5 yX5_moved yX5_moved, Cond.code yX5_moved cX5_moved 8 (some .int), Cond.fieldLink RX5 35 "BookinghouseModel" "made" "I", Cond.fieldLink RX5 7 "BookinghouseModel" "time" "[I", Cond.fieldLink RX5 19 "BookinghouseModel" "home" "[I", Cond.methodLink RX5 65 yX5_isWaiting, Cond.instanceMethod yX5_isWaiting]
def wsX5_part_r2 : List Cond := [Cond.selects RX5 yX5_isWaiting yX5_isWaiting, Cond.code yX5_isWaiting cX5_isWaiting 3 (some .boolean), Cond.fieldLink RX5 22 "BookinghouseModel" "state" "[I", Cond.methodLink RX5 58 yX5_many, Cond.instanceMethod yX5_many, Cond.selects RX5 yX5_many yX5_many, Cond.code yX5_many cX5_many 5 (some .int)]
def wsX5_part : List Cond := .code yX5_part cX5_part 4 (some .int) :: ((wsX5_part_r1 ++ wsX5_part_r2) ++ wsX50 ++ (vx_atM "java/lang/ArrayIndexOutOfBoundsException" ["java/lang/IndexOutOfBoundsException", "java/lang/RuntimeException", "java/lang/Exception"]).filter goodWord)
def wsX5_comes : List Cond := .code yX5_comes cX5_comes 2 none :: ([.fieldLink RX5 22 "BookinghouseModel" "state" "[I", .fieldLink RX5 25 "BookinghouseModel" "came" "[I", .fieldLink RX5 77 "BookinghouseModel" "stamp" "I", .fieldLink RX5 28 "BookinghouseModel" "clock" "[I", .fieldLink RX5 19 "BookinghouseModel" "home" "[I", .fieldLink RX5 7 "BookinghouseModel" "time" "[I"] ++ wsX50 ++ (vx_atM "java/lang/ArrayIndexOutOfBoundsException" ["java/lang/IndexOutOfBoundsException", "java/lang/RuntimeException", "java/lang/Exception"]).filter goodWord)
def wsX5_next_r1 : List Cond := [Cond.methodLink RX5 46 yX5_isHouse, Cond.static yX5_isHouse, Cond.initialized RX5, Cond.code yX5_isHouse cX5_isHouse 1 (some .boolean), Cond.methodLink RX5 50 yX5_isThrown, Cond.instanceMethod yX5_isThrown, Cond.selects RX5 yX5_isThrown yX5_isThrown, Cond.code yX5_isThrown cX5_isThrown 3 (some .boolean), Cond.fieldLink RX5 31 "BookinghouseModel" "thrown" "I", Cond.methodLink RX5 80 yX5_first, Cond.instanceMethod yX5_first, Cond.selects RX5 yX5_first yX5_first, Cond.code yX5_first cX5_first 2 (some .int), Cond.methodLink RX5 42 yX5_behind, Cond.instanceMethod yX5_behind, Cond.selects RX5 yX5_behind yX5_behind, Cond.code yX5_behind cX5_behind 5 (some .int), Cond.fieldLink RX5 35 "BookinghouseModel" "made" "I", Cond.fieldLink RX5 19 "BookinghouseModel" "home" "[I", Cond.fieldLink RX5 22 "BookinghouseModel" "state" "[I", Cond.methodLink RX5 38 yX5_isAhead, Cond.instanceMethod yX5_isAhead, Cond.selects RX5 yX5_isAhead yX5_isAhead, Cond.code yX5_isAhead cX5_isAhead 3 (some .boolean)]
def wsX5_next_r2 : List Cond := [Cond.fieldLink RX5 7 "BookinghouseModel" "time" "[I", Cond.methodLink RX5 84 yX5_comes, Cond.instanceMethod yX5_comes, Cond.selects RX5 yX5_comes yX5_comes, Cond.code yX5_comes cX5_comes 2 none, Cond.fieldLink RX5 25 "BookinghouseModel" "came" "[I", Cond.fieldLink RX5 77 "BookinghouseModel" "stamp" "I", Cond.fieldLink RX5 28 "BookinghouseModel" "clock" "[I"]
def wsX5_next : List Cond := .code yX5_next cX5_next 3 (some .int) :: ((wsX5_next_r1 ++ wsX5_next_r2) ++ wsX50 ++ (vx_atM "java/lang/ArrayIndexOutOfBoundsException" ["java/lang/IndexOutOfBoundsException", "java/lang/RuntimeException", "java/lang/Exception"]).filter goodWord)
def wsX5_run_r1 : List Cond := [Cond.fieldLink RX5 28 "BookinghouseModel" "clock" "[I", Cond.fieldLink RX5 7 "BookinghouseModel" "time" "[I", Cond.methodLink RX5 46 yX5_isHouse, Cond.static yX5_isHouse, Cond.initialized RX5, Cond.code yX5_isHouse cX5_isHouse 1 (some .boolean), Cond.methodLink RX5 50 yX5_isThrown, Cond.instanceMethod yX5_isThrown, Cond.selects RX5 yX5_isThrown yX5_isThrown, Cond.code yX5_isThrown cX5_isThrown 3 (some .boolean), Cond.fieldLink RX5 31 "BookinghouseModel" "thrown" "I", Cond.methodLink RX5 54 yX5_isIn, Cond.static yX5_isIn, Cond.code yX5_isIn cX5_isIn 3 (some .boolean), Cond.methodLink RX5 80 yX5_first, Cond.instanceMethod yX5_first, Cond.selects RX5 yX5_first yX5_first, Cond.code yX5_first cX5_first 2 (some .int), Cond.methodLink RX5 42 yX5_behind, Cond.instanceMethod yX5_behind, Cond.selects RX5 yX5_behind yX5_behind, Cond.code yX5_behind cX5_behind 5 (some .int), Cond.fieldLink RX5 35 "BookinghouseModel" "made" "I", Cond.fieldLink RX5 19 "BookinghouseModel" "home" "[I"]
def wsX5_run_r2 : List Cond := [Cond.fieldLink RX5 22 "BookinghouseModel" "state" "[I", Cond.methodLink RX5 38 yX5_isAhead, Cond.instanceMethod yX5_isAhead, Cond.selects RX5 yX5_isAhead yX5_isAhead, Cond.code yX5_isAhead cX5_isAhead 3 (some .boolean), Cond.methodLink RX5 84 yX5_comes, Cond.instanceMethod yX5_comes, Cond.selects RX5 yX5_comes yX5_comes, Cond.code yX5_comes cX5_comes 2 none, Cond.fieldLink RX5 25 "BookinghouseModel" "came" "[I", Cond.fieldLink RX5 77 "BookinghouseModel" "stamp" "I"]
def wsX5_run : List Cond := .code yX5_run cX5_run 5 (some .int) :: ((wsX5_run_r1 ++ wsX5_run_r2) ++ wsX50 ++ (vx_atM "java/lang/ArrayIndexOutOfBoundsException" ["java/lang/IndexOutOfBoundsException", "java/lang/RuntimeException", "java/lang/Exception"]).filter goodWord)
def wsX5_back : List Cond := .code yX5_back cX5_back 5 (some .int) :: ([.fieldLink RX5 35 "BookinghouseModel" "made" "I", .fieldLink RX5 19 "BookinghouseModel" "home" "[I", .fieldLink RX5 22 "BookinghouseModel" "state" "[I", .fieldLink RX5 7 "BookinghouseModel" "time" "[I", .fieldLink RX5 28 "BookinghouseModel" "clock" "[I", .methodLink RX5 46 yX5_isHouse, .static yX5_isHouse, .initialized RX5, .code yX5_isHouse cX5_isHouse 1 (some .boolean), .methodLink RX5 50 yX5_isThrown, .instanceMethod yX5_isThrown, .selects RX5 yX5_isThrown yX5_isThrown, .code yX5_isThrown cX5_isThrown 3 (some .boolean), .fieldLink RX5 31 "BookinghouseModel" "thrown" "I", .methodLink RX5 54 yX5_isIn, .static yX5_isIn, .code yX5_isIn cX5_isIn 3 (some .boolean), .methodLink RX5 58 yX5_many, .instanceMethod yX5_many, .selects RX5 yX5_many yX5_many, .code yX5_many cX5_many 5 (some .int)] ++ wsX50 ++ (vx_atM "java/lang/ArrayIndexOutOfBoundsException" ["java/lang/IndexOutOfBoundsException", "java/lang/RuntimeException", "java/lang/Exception"]).filter goodWord)
def wsX5_clock : List Cond := .code yX5_clock cX5_clock 2 (some .int) :: ([.fieldLink RX5 28 "BookinghouseModel" "clock" "[I", .methodLink RX5 46 yX5_isHouse, .static yX5_isHouse, .initialized RX5, .code yX5_isHouse cX5_isHouse 1 (some .boolean), .methodLink RX5 50 yX5_isThrown, .instanceMethod yX5_isThrown, .selects RX5 yX5_isThrown yX5_isThrown, .code yX5_isThrown cX5_isThrown 3 (some .boolean), .fieldLink RX5 31 "BookinghouseModel" "thrown" "I"] ++ wsX50 ++ (vx_atM "java/lang/ArrayIndexOutOfBoundsException" ["java/lang/IndexOutOfBoundsException", "java/lang/RuntimeException", "java/lang/Exception"]).filter goodWord)
def wsX5_waiting : List Cond := .code yX5_waiting cX5_waiting 2 (some .int) :: ([.methodLink RX5 46 yX5_isHouse, .static yX5_isHouse, .initialized RX5, .code yX5_isHouse cX5_isHouse 1 (some .boolean), .methodLink RX5 50 yX5_isThrown, .instanceMethod yX5_isThrown, .selects RX5 yX5_isThrown yX5_isThrown, .code yX5_isThrown cX5_isThrown 3 (some .boolean), .fieldLink RX5 31 "BookinghouseModel" "thrown" "I", .methodLink RX5 58 yX5_many, .instanceMethod yX5_many, .selects RX5 yX5_many yX5_many, .code yX5_many cX5_many 5 (some .int), .fieldLink RX5 35 "BookinghouseModel" "made" "I", .fieldLink RX5 19 "BookinghouseModel" "home" "[I", .fieldLink RX5 22 "BookinghouseModel" "state" "[I"] ++ wsX50 ++ (vx_atM "java/lang/ArrayIndexOutOfBoundsException" ["java/lang/IndexOutOfBoundsException", "java/lang/RuntimeException", "java/lang/Exception"]).filter goodWord)
def wsX5_came : List Cond := .code yX5_came cX5_came 2 (some .int) :: ([.methodLink RX5 46 yX5_isHouse, .static yX5_isHouse, .initialized RX5, .code yX5_isHouse cX5_isHouse 1 (some .boolean), .methodLink RX5 50 yX5_isThrown, .instanceMethod yX5_isThrown, .selects RX5 yX5_isThrown yX5_isThrown, .code yX5_isThrown cX5_isThrown 3 (some .boolean), .fieldLink RX5 31 "BookinghouseModel" "thrown" "I", .methodLink RX5 58 yX5_many, .instanceMethod yX5_many, .selects RX5 yX5_many yX5_many, .code yX5_many cX5_many 5 (some .int), .fieldLink RX5 35 "BookinghouseModel" "made" "I", .fieldLink RX5 19 "BookinghouseModel" "home" "[I", .fieldLink RX5 22 "BookinghouseModel" "state" "[I"] ++ wsX50 ++ (vx_atM "java/lang/ArrayIndexOutOfBoundsException" ["java/lang/IndexOutOfBoundsException", "java/lang/RuntimeException", "java/lang/Exception"]).filter goodWord)
def wsX5_cameBehind : List Cond := .code yX5_cameBehind cX5_cameBehind 5 (some .int) :: ([.fieldLink RX5 35 "BookinghouseModel" "made" "I", .fieldLink RX5 19 "BookinghouseModel" "home" "[I", .fieldLink RX5 22 "BookinghouseModel" "state" "[I", .fieldLink RX5 25 "BookinghouseModel" "came" "[I"] ++ wsX50 ++ (vx_atM "java/lang/ArrayIndexOutOfBoundsException" ["java/lang/IndexOutOfBoundsException", "java/lang/RuntimeException", "java/lang/Exception"]).filter goodWord)
def wsX5_waits_r1 : List Cond := [Cond.methodLink RX5 46 yX5_isHouse, Cond.static yX5_isHouse, Cond.initialized RX5, Cond.code yX5_isHouse cX5_isHouse 1 (some .boolean), Cond.methodLink RX5 50 yX5_isThrown, Cond.instanceMethod yX5_isThrown, Cond.selects RX5 yX5_isThrown yX5_isThrown, Cond.code yX5_isThrown cX5_isThrown 3 (some .boolean), Cond.fieldLink RX5 31 "BookinghouseModel" "thrown" "I", Cond.methodLink RX5 80 yX5_first, Cond.instanceMethod yX5_first, Cond.selects RX5 yX5_first yX5_first, Cond.code yX5_first cX5_first 2 (some .int), Cond.methodLink RX5 42 yX5_behind, Cond.instanceMethod yX5_behind, Cond.selects RX5 yX5_behind yX5_behind, Cond.code yX5_behind cX5_behind 5 (some .int), Cond.fieldLink RX5 35 "BookinghouseModel" "made" "I", Cond.fieldLink RX5 19 "BookinghouseModel" "home" "[I", Cond.fieldLink RX5 22 "BookinghouseModel" "state" "[I", Cond.methodLink RX5 38 yX5_isAhead, Cond.instanceMethod yX5_isAhead, Cond.selects RX5 yX5_isAhead yX5_isAhead, Cond.code yX5_isAhead cX5_isAhead 3 (some .boolean)]
def wsX5_waits_r2 : List Cond := [Cond.fieldLink RX5 7 "BookinghouseModel" "time" "[I"]
def wsX5_waits : List Cond := .code yX5_waits cX5_waits 5 (some .int) :: ((wsX5_waits_r1 ++ wsX5_waits_r2) ++ wsX50 ++ (vx_atM "java/lang/ArrayIndexOutOfBoundsException" ["java/lang/IndexOutOfBoundsException", "java/lang/RuntimeException", "java/lang/Exception"]).filter goodWord)
def wsX5_cameAt : List Cond := .code yX5_cameAt cX5_cameAt 5 (some .int) :: ([.methodLink RX5 46 yX5_isHouse, .static yX5_isHouse, .initialized RX5, .code yX5_isHouse cX5_isHouse 1 (some .boolean), .methodLink RX5 50 yX5_isThrown, .instanceMethod yX5_isThrown, .selects RX5 yX5_isThrown yX5_isThrown, .code yX5_isThrown cX5_isThrown 3 (some .boolean), .fieldLink RX5 31 "BookinghouseModel" "thrown" "I", .methodLink RX5 88 yX5_cameBehind, .instanceMethod yX5_cameBehind, .selects RX5 yX5_cameBehind yX5_cameBehind, .code yX5_cameBehind cX5_cameBehind 5 (some .int), .fieldLink RX5 35 "BookinghouseModel" "made" "I", .fieldLink RX5 19 "BookinghouseModel" "home" "[I", .fieldLink RX5 22 "BookinghouseModel" "state" "[I", .fieldLink RX5 25 "BookinghouseModel" "came" "[I"] ++ wsX50 ++ (vx_atM "java/lang/ArrayIndexOutOfBoundsException" ["java/lang/IndexOutOfBoundsException", "java/lang/RuntimeException", "java/lang/Exception"]).filter goodWord)
def wsX5_nextTime : List Cond := .code yX5_nextTime cX5_nextTime 5 (some .int) :: ([.constant RX5 72 (100000), .fieldLink RX5 35 "BookinghouseModel" "made" "I", .fieldLink RX5 7 "BookinghouseModel" "time" "[I", .methodLink RX5 46 yX5_isHouse, .static yX5_isHouse, .initialized RX5, .code yX5_isHouse cX5_isHouse 1 (some .boolean), .methodLink RX5 50 yX5_isThrown, .instanceMethod yX5_isThrown, .selects RX5 yX5_isThrown yX5_isThrown, .code yX5_isThrown cX5_isThrown 3 (some .boolean), .fieldLink RX5 31 "BookinghouseModel" "thrown" "I", .methodLink RX5 65 yX5_isWaiting, .instanceMethod yX5_isWaiting, .selects RX5 yX5_isWaiting yX5_isWaiting, .code yX5_isWaiting cX5_isWaiting 3 (some .boolean), .fieldLink RX5 19 "BookinghouseModel" "home" "[I", .fieldLink RX5 22 "BookinghouseModel" "state" "[I"] ++ wsX50 ++ (vx_atM "java/lang/ArrayIndexOutOfBoundsException" ["java/lang/IndexOutOfBoundsException", "java/lang/RuntimeException", "java/lang/Exception"]).filter goodWord)
def wsX5_about : List Cond := .code yX5_about cX5_about 3 (some .long) :: ([.fieldLink RX5 35 "BookinghouseModel" "made" "I", .fieldLink RX5 7 "BookinghouseModel" "time" "[I", .fieldLink RX5 13 "BookinghouseModel" "span" "[I", .fieldLink RX5 16 "BookinghouseModel" "weight" "[I", .fieldLink RX5 19 "BookinghouseModel" "home" "[I", .fieldLink RX5 22 "BookinghouseModel" "state" "[I", .methodLink RX5 50 yX5_isThrown, .instanceMethod yX5_isThrown, .selects RX5 yX5_isThrown yX5_isThrown, .initialized RX5, .code yX5_isThrown cX5_isThrown 3 (some .boolean), .fieldLink RX5 31 "BookinghouseModel" "thrown" "I"] ++ wsX50 ++ (vx_atM "java/lang/ArrayIndexOutOfBoundsException" ["java/lang/IndexOutOfBoundsException", "java/lang/RuntimeException", "java/lang/Exception"]).filter goodWord)
def wsX5_isOf : List Cond := .code yX5_isOf cX5_isOf 3 (some .boolean) :: ([.fieldLink RX5 19 "BookinghouseModel" "home" "[I", .fieldLink RX5 22 "BookinghouseModel" "state" "[I", .fieldLink RX5 13 "BookinghouseModel" "span" "[I"] ++ wsX50 ++ (vx_atM "java/lang/ArrayIndexOutOfBoundsException" ["java/lang/IndexOutOfBoundsException", "java/lang/RuntimeException", "java/lang/Exception"]).filter goodWord)
def wsX5_crowdAt : List Cond := .code yX5_crowdAt cX5_crowdAt 5 (some .int) :: ([.fieldLink RX5 35 "BookinghouseModel" "made" "I", .fieldLink RX5 7 "BookinghouseModel" "time" "[I", .fieldLink RX5 13 "BookinghouseModel" "span" "[I", .fieldLink RX5 16 "BookinghouseModel" "weight" "[I", .methodLink RX5 91 yX5_isOf, .instanceMethod yX5_isOf, .selects RX5 yX5_isOf yX5_isOf, .initialized RX5, .code yX5_isOf cX5_isOf 3 (some .boolean), .fieldLink RX5 19 "BookinghouseModel" "home" "[I", .fieldLink RX5 22 "BookinghouseModel" "state" "[I"] ++ wsX50 ++ (vx_atM "java/lang/ArrayIndexOutOfBoundsException" ["java/lang/IndexOutOfBoundsException", "java/lang/RuntimeException", "java/lang/Exception"]).filter goodWord)
def wsX5_changeAt : List Cond := .code yX5_changeAt cX5_changeAt 5 (some .int) :: ([.fieldLink RX5 35 "BookinghouseModel" "made" "I", .fieldLink RX5 7 "BookinghouseModel" "time" "[I", .fieldLink RX5 16 "BookinghouseModel" "weight" "[I", .fieldLink RX5 13 "BookinghouseModel" "span" "[I", .methodLink RX5 91 yX5_isOf, .instanceMethod yX5_isOf, .selects RX5 yX5_isOf yX5_isOf, .initialized RX5, .code yX5_isOf cX5_isOf 3 (some .boolean), .fieldLink RX5 19 "BookinghouseModel" "home" "[I", .fieldLink RX5 22 "BookinghouseModel" "state" "[I"] ++ wsX50 ++ (vx_atM "java/lang/ArrayIndexOutOfBoundsException" ["java/lang/IndexOutOfBoundsException", "java/lang/RuntimeException", "java/lang/Exception"]).filter goodWord)
def wsX5_busyFrom : List Cond := .code yX5_busyFrom cX5_busyFrom 5 (some .int) :: ([.constant RX5 72 (100000), .fieldLink RX5 35 "BookinghouseModel" "made" "I", .fieldLink RX5 7 "BookinghouseModel" "time" "[I", .methodLink RX5 94 yX5_crowdAt, .instanceMethod yX5_crowdAt, .selects RX5 yX5_crowdAt yX5_crowdAt, .initialized RX5, .code yX5_crowdAt cX5_crowdAt 5 (some .int), .fieldLink RX5 13 "BookinghouseModel" "span" "[I", .fieldLink RX5 16 "BookinghouseModel" "weight" "[I", .methodLink RX5 91 yX5_isOf, .instanceMethod yX5_isOf, .selects RX5 yX5_isOf yX5_isOf, .code yX5_isOf cX5_isOf 3 (some .boolean), .fieldLink RX5 19 "BookinghouseModel" "home" "[I", .fieldLink RX5 22 "BookinghouseModel" "state" "[I"] ++ wsX50 ++ (vx_atM "java/lang/ArrayIndexOutOfBoundsException" ["java/lang/IndexOutOfBoundsException", "java/lang/RuntimeException", "java/lang/Exception"]).filter goodWord)
def wsX5_idleFrom : List Cond := .code yX5_idleFrom cX5_idleFrom 6 (some .int) :: ([.fieldLink RX5 35 "BookinghouseModel" "made" "I", .fieldLink RX5 7 "BookinghouseModel" "time" "[I", .fieldLink RX5 13 "BookinghouseModel" "span" "[I", .methodLink RX5 94 yX5_crowdAt, .instanceMethod yX5_crowdAt, .selects RX5 yX5_crowdAt yX5_crowdAt, .initialized RX5, .code yX5_crowdAt cX5_crowdAt 5 (some .int), .fieldLink RX5 16 "BookinghouseModel" "weight" "[I", .methodLink RX5 91 yX5_isOf, .instanceMethod yX5_isOf, .selects RX5 yX5_isOf yX5_isOf, .code yX5_isOf cX5_isOf 3 (some .boolean), .fieldLink RX5 19 "BookinghouseModel" "home" "[I", .fieldLink RX5 22 "BookinghouseModel" "state" "[I"] ++ wsX50 ++ (vx_atM "java/lang/ArrayIndexOutOfBoundsException" ["java/lang/IndexOutOfBoundsException", "java/lang/RuntimeException", "java/lang/Exception"]).filter goodWord)
def wsX5_greatestIn : List Cond := .code yX5_greatestIn cX5_greatestIn 7 (some .int) :: ([.fieldLink RX5 35 "BookinghouseModel" "made" "I", .fieldLink RX5 7 "BookinghouseModel" "time" "[I", .methodLink RX5 91 yX5_isOf, .instanceMethod yX5_isOf, .selects RX5 yX5_isOf yX5_isOf, .initialized RX5, .code yX5_isOf cX5_isOf 3 (some .boolean), .fieldLink RX5 19 "BookinghouseModel" "home" "[I", .fieldLink RX5 22 "BookinghouseModel" "state" "[I", .fieldLink RX5 13 "BookinghouseModel" "span" "[I", .methodLink RX5 94 yX5_crowdAt, .instanceMethod yX5_crowdAt, .selects RX5 yX5_crowdAt yX5_crowdAt, .code yX5_crowdAt cX5_crowdAt 5 (some .int), .fieldLink RX5 16 "BookinghouseModel" "weight" "[I"] ++ wsX50 ++ (vx_atM "java/lang/ArrayIndexOutOfBoundsException" ["java/lang/IndexOutOfBoundsException", "java/lang/RuntimeException", "java/lang/Exception"]).filter goodWord)
def wsX5_crowd : List Cond := .code yX5_crowd cX5_crowd 3 (some .int) :: ([.methodLink RX5 46 yX5_isHouse, .static yX5_isHouse, .initialized RX5, .code yX5_isHouse cX5_isHouse 1 (some .boolean), .methodLink RX5 50 yX5_isThrown, .instanceMethod yX5_isThrown, .selects RX5 yX5_isThrown yX5_isThrown, .code yX5_isThrown cX5_isThrown 3 (some .boolean), .fieldLink RX5 31 "BookinghouseModel" "thrown" "I", .methodLink RX5 94 yX5_crowdAt, .instanceMethod yX5_crowdAt, .selects RX5 yX5_crowdAt yX5_crowdAt, .code yX5_crowdAt cX5_crowdAt 5 (some .int), .fieldLink RX5 35 "BookinghouseModel" "made" "I", .fieldLink RX5 7 "BookinghouseModel" "time" "[I", .fieldLink RX5 13 "BookinghouseModel" "span" "[I", .fieldLink RX5 16 "BookinghouseModel" "weight" "[I", .methodLink RX5 91 yX5_isOf, .instanceMethod yX5_isOf, .selects RX5 yX5_isOf yX5_isOf, .code yX5_isOf cX5_isOf 3 (some .boolean), .fieldLink RX5 19 "BookinghouseModel" "home" "[I", .fieldLink RX5 22 "BookinghouseModel" "state" "[I"] ++ wsX50 ++ (vx_atM "java/lang/ArrayIndexOutOfBoundsException" ["java/lang/IndexOutOfBoundsException", "java/lang/RuntimeException", "java/lang/Exception"]).filter goodWord)
def wsX5_change : List Cond := .code yX5_change cX5_change 3 (some .int) :: ([.methodLink RX5 46 yX5_isHouse, .static yX5_isHouse, .initialized RX5, .code yX5_isHouse cX5_isHouse 1 (some .boolean), .methodLink RX5 50 yX5_isThrown, .instanceMethod yX5_isThrown, .selects RX5 yX5_isThrown yX5_isThrown, .code yX5_isThrown cX5_isThrown 3 (some .boolean), .fieldLink RX5 31 "BookinghouseModel" "thrown" "I", .methodLink RX5 97 yX5_changeAt, .instanceMethod yX5_changeAt, .selects RX5 yX5_changeAt yX5_changeAt, .code yX5_changeAt cX5_changeAt 5 (some .int), .fieldLink RX5 35 "BookinghouseModel" "made" "I", .fieldLink RX5 7 "BookinghouseModel" "time" "[I", .fieldLink RX5 16 "BookinghouseModel" "weight" "[I", .fieldLink RX5 13 "BookinghouseModel" "span" "[I", .methodLink RX5 91 yX5_isOf, .instanceMethod yX5_isOf, .selects RX5 yX5_isOf yX5_isOf, .code yX5_isOf cX5_isOf 3 (some .boolean), .fieldLink RX5 19 "BookinghouseModel" "home" "[I", .fieldLink RX5 22 "BookinghouseModel" "state" "[I"] ++ wsX50 ++ (vx_atM "java/lang/ArrayIndexOutOfBoundsException" ["java/lang/IndexOutOfBoundsException", "java/lang/RuntimeException", "java/lang/Exception"]).filter goodWord)
def wsX5_greatest_r1 : List Cond := [Cond.constant RX5 72 (100000), Cond.methodLink RX5 46 yX5_isHouse, Cond.static yX5_isHouse, Cond.initialized RX5, Cond.code yX5_isHouse cX5_isHouse 1 (some .boolean), Cond.methodLink RX5 50 yX5_isThrown, Cond.instanceMethod yX5_isThrown, Cond.selects RX5 yX5_isThrown yX5_isThrown, Cond.code yX5_isThrown cX5_isThrown 3 (some .boolean), Cond.fieldLink RX5 31 "BookinghouseModel" "thrown" "I", Cond.methodLink RX5 100 yX5_greatestIn, Cond.instanceMethod yX5_greatestIn, Cond.selects RX5 yX5_greatestIn yX5_greatestIn, Cond.code yX5_greatestIn cX5_greatestIn 7 (some .int), Cond.fieldLink RX5 35 "BookinghouseModel" "made" "I", Cond.fieldLink RX5 7 "BookinghouseModel" "time" "[I", Cond.methodLink RX5 91 yX5_isOf, Cond.instanceMethod yX5_isOf, Cond.selects RX5 yX5_isOf yX5_isOf, Cond.code yX5_isOf cX5_isOf 3 (some .boolean), Cond.fieldLink RX5 19 "BookinghouseModel" "home" "[I", Cond.fieldLink RX5 22 "BookinghouseModel" "state" "[I", Cond.fieldLink RX5 13 "BookinghouseModel" "span" "[I", Cond.methodLink RX5 94 yX5_crowdAt]
def wsX5_greatest_r2 : List Cond := [Cond.instanceMethod yX5_crowdAt, Cond.selects RX5 yX5_crowdAt yX5_crowdAt, Cond.code yX5_crowdAt cX5_crowdAt 5 (some .int), Cond.fieldLink RX5 16 "BookinghouseModel" "weight" "[I"]
def wsX5_greatest : List Cond := .code yX5_greatest cX5_greatest 2 (some .int) :: ((wsX5_greatest_r1 ++ wsX5_greatest_r2) ++ wsX50 ++ (vx_atM "java/lang/ArrayIndexOutOfBoundsException" ["java/lang/IndexOutOfBoundsException", "java/lang/RuntimeException", "java/lang/Exception"]).filter goodWord)
def wsX5_greatestFrom_r1 : List Cond := [Cond.constant RX5 72 (100000), Cond.fieldLink RX5 35 "BookinghouseModel" "made" "I", Cond.fieldLink RX5 7 "BookinghouseModel" "time" "[I", Cond.methodLink RX5 46 yX5_isHouse, Cond.static yX5_isHouse, Cond.initialized RX5, Cond.code yX5_isHouse cX5_isHouse 1 (some .boolean), Cond.methodLink RX5 50 yX5_isThrown, Cond.instanceMethod yX5_isThrown, Cond.selects RX5 yX5_isThrown yX5_isThrown, Cond.code yX5_isThrown cX5_isThrown 3 (some .boolean), Cond.fieldLink RX5 31 "BookinghouseModel" "thrown" "I", Cond.methodLink RX5 100 yX5_greatestIn, Cond.instanceMethod yX5_greatestIn, Cond.selects RX5 yX5_greatestIn yX5_greatestIn, Cond.code yX5_greatestIn cX5_greatestIn 7 (some .int), Cond.methodLink RX5 91 yX5_isOf, Cond.instanceMethod yX5_isOf, Cond.selects RX5 yX5_isOf yX5_isOf, Cond.code yX5_isOf cX5_isOf 3 (some .boolean), Cond.fieldLink RX5 19 "BookinghouseModel" "home" "[I", Cond.fieldLink RX5 22 "BookinghouseModel" "state" "[I", Cond.fieldLink RX5 13 "BookinghouseModel" "span" "[I", Cond.methodLink RX5 94 yX5_crowdAt]
def wsX5_greatestFrom_r2 : List Cond := [Cond.instanceMethod yX5_crowdAt, Cond.selects RX5 yX5_crowdAt yX5_crowdAt, Cond.code yX5_crowdAt cX5_crowdAt 5 (some .int), Cond.fieldLink RX5 16 "BookinghouseModel" "weight" "[I"]
def wsX5_greatestFrom : List Cond := .code yX5_greatestFrom cX5_greatestFrom 5 (some .int) :: ((wsX5_greatestFrom_r1 ++ wsX5_greatestFrom_r2) ++ wsX50 ++ (vx_atM "java/lang/ArrayIndexOutOfBoundsException" ["java/lang/IndexOutOfBoundsException", "java/lang/RuntimeException", "java/lang/Exception"]).filter goodWord)
def wsX5_busyIn : List Cond := .code yX5_busyIn cX5_busyIn 9 (some .int) :: ([.constant RX5 72 (100000), .methodLink RX5 103 yX5_busyFrom, .instanceMethod yX5_busyFrom, .selects RX5 yX5_busyFrom yX5_busyFrom, .initialized RX5, .code yX5_busyFrom cX5_busyFrom 5 (some .int), .fieldLink RX5 35 "BookinghouseModel" "made" "I", .fieldLink RX5 7 "BookinghouseModel" "time" "[I", .methodLink RX5 94 yX5_crowdAt, .instanceMethod yX5_crowdAt, .selects RX5 yX5_crowdAt yX5_crowdAt, .code yX5_crowdAt cX5_crowdAt 5 (some .int), .fieldLink RX5 13 "BookinghouseModel" "span" "[I", .fieldLink RX5 16 "BookinghouseModel" "weight" "[I", .methodLink RX5 91 yX5_isOf, .instanceMethod yX5_isOf, .selects RX5 yX5_isOf yX5_isOf, .code yX5_isOf cX5_isOf 3 (some .boolean), .fieldLink RX5 19 "BookinghouseModel" "home" "[I", .fieldLink RX5 22 "BookinghouseModel" "state" "[I", .methodLink RX5 106 yX5_idleFrom, .instanceMethod yX5_idleFrom, .selects RX5 yX5_idleFrom yX5_idleFrom, .code yX5_idleFrom cX5_idleFrom 6 (some .int)] ++ wsX50 ++ (vx_atM "java/lang/ArrayIndexOutOfBoundsException" ["java/lang/IndexOutOfBoundsException", "java/lang/RuntimeException", "java/lang/Exception"]).filter goodWord)
def wsX5_busy_r1 : List Cond := [Cond.methodLink RX5 46 yX5_isHouse, Cond.static yX5_isHouse, Cond.initialized RX5, Cond.code yX5_isHouse cX5_isHouse 1 (some .boolean), Cond.methodLink RX5 50 yX5_isThrown, Cond.instanceMethod yX5_isThrown, Cond.selects RX5 yX5_isThrown yX5_isThrown, Cond.code yX5_isThrown cX5_isThrown 3 (some .boolean), Cond.fieldLink RX5 31 "BookinghouseModel" "thrown" "I", Cond.methodLink RX5 109 yX5_busyIn, Cond.instanceMethod yX5_busyIn, Cond.selects RX5 yX5_busyIn yX5_busyIn, Cond.code yX5_busyIn cX5_busyIn 9 (some .int), Cond.constant RX5 72 (100000), Cond.methodLink RX5 103 yX5_busyFrom, Cond.instanceMethod yX5_busyFrom, Cond.selects RX5 yX5_busyFrom yX5_busyFrom, Cond.code yX5_busyFrom cX5_busyFrom 5 (some .int), Cond.fieldLink RX5 35 "BookinghouseModel" "made" "I", Cond.fieldLink RX5 7 "BookinghouseModel" "time" "[I", Cond.methodLink RX5 94 yX5_crowdAt, Cond.instanceMethod yX5_crowdAt, Cond.selects RX5 yX5_crowdAt yX5_crowdAt, Cond.code yX5_crowdAt cX5_crowdAt 5 (some .int)]
def wsX5_busy_r2 : List Cond := [Cond.fieldLink RX5 13 "BookinghouseModel" "span" "[I", Cond.fieldLink RX5 16 "BookinghouseModel" "weight" "[I", Cond.methodLink RX5 91 yX5_isOf, Cond.instanceMethod yX5_isOf, Cond.selects RX5 yX5_isOf yX5_isOf, Cond.code yX5_isOf cX5_isOf 3 (some .boolean), Cond.fieldLink RX5 19 "BookinghouseModel" "home" "[I", Cond.fieldLink RX5 22 "BookinghouseModel" "state" "[I", Cond.methodLink RX5 106 yX5_idleFrom, Cond.instanceMethod yX5_idleFrom, Cond.selects RX5 yX5_idleFrom yX5_idleFrom, Cond.code yX5_idleFrom cX5_idleFrom 6 (some .int)]
def wsX5_busy : List Cond := .code yX5_busy cX5_busy 4 (some .int) :: ((wsX5_busy_r1 ++ wsX5_busy_r2) ++ wsX50 ++ (vx_atM "java/lang/ArrayIndexOutOfBoundsException" ["java/lang/IndexOutOfBoundsException", "java/lang/RuntimeException", "java/lang/Exception"]).filter goodWord)
def wsX5_spans_r1 : List Cond := [Cond.constant RX5 72 (100000), Cond.methodLink RX5 46 yX5_isHouse, Cond.static yX5_isHouse, Cond.initialized RX5, Cond.code yX5_isHouse cX5_isHouse 1 (some .boolean), Cond.methodLink RX5 50 yX5_isThrown, Cond.instanceMethod yX5_isThrown, Cond.selects RX5 yX5_isThrown yX5_isThrown, Cond.code yX5_isThrown cX5_isThrown 3 (some .boolean), Cond.fieldLink RX5 31 "BookinghouseModel" "thrown" "I", Cond.methodLink RX5 103 yX5_busyFrom, Cond.instanceMethod yX5_busyFrom, Cond.selects RX5 yX5_busyFrom yX5_busyFrom, Cond.code yX5_busyFrom cX5_busyFrom 5 (some .int), Cond.fieldLink RX5 35 "BookinghouseModel" "made" "I", Cond.fieldLink RX5 7 "BookinghouseModel" "time" "[I", Cond.methodLink RX5 94 yX5_crowdAt, Cond.instanceMethod yX5_crowdAt, Cond.selects RX5 yX5_crowdAt yX5_crowdAt, Cond.code yX5_crowdAt cX5_crowdAt 5 (some .int), Cond.fieldLink RX5 13 "BookinghouseModel" "span" "[I", Cond.fieldLink RX5 16 "BookinghouseModel" "weight" "[I", Cond.methodLink RX5 91 yX5_isOf, Cond.instanceMethod yX5_isOf]
def wsX5_spans_r2 : List Cond := [Cond.selects RX5 yX5_isOf yX5_isOf, Cond.code yX5_isOf cX5_isOf 3 (some .boolean), Cond.fieldLink RX5 19 "BookinghouseModel" "home" "[I", Cond.fieldLink RX5 22 "BookinghouseModel" "state" "[I", Cond.methodLink RX5 106 yX5_idleFrom, Cond.instanceMethod yX5_idleFrom, Cond.selects RX5 yX5_idleFrom yX5_idleFrom, Cond.code yX5_idleFrom cX5_idleFrom 6 (some .int)]
def wsX5_spans : List Cond := .code yX5_spans cX5_spans 4 (some .int) :: ((wsX5_spans_r1 ++ wsX5_spans_r2) ++ wsX50 ++ (vx_atM "java/lang/ArrayIndexOutOfBoundsException" ["java/lang/IndexOutOfBoundsException", "java/lang/RuntimeException", "java/lang/Exception"]).filter goodWord)
def wsX5_span_r1 : List Cond := [Cond.constant RX5 72 (100000), Cond.methodLink RX5 46 yX5_isHouse, Cond.static yX5_isHouse, Cond.initialized RX5, Cond.code yX5_isHouse cX5_isHouse 1 (some .boolean), Cond.methodLink RX5 50 yX5_isThrown, Cond.instanceMethod yX5_isThrown, Cond.selects RX5 yX5_isThrown yX5_isThrown, Cond.code yX5_isThrown cX5_isThrown 3 (some .boolean), Cond.fieldLink RX5 31 "BookinghouseModel" "thrown" "I", Cond.methodLink RX5 103 yX5_busyFrom, Cond.instanceMethod yX5_busyFrom, Cond.selects RX5 yX5_busyFrom yX5_busyFrom, Cond.code yX5_busyFrom cX5_busyFrom 5 (some .int), Cond.fieldLink RX5 35 "BookinghouseModel" "made" "I", Cond.fieldLink RX5 7 "BookinghouseModel" "time" "[I", Cond.methodLink RX5 94 yX5_crowdAt, Cond.instanceMethod yX5_crowdAt, Cond.selects RX5 yX5_crowdAt yX5_crowdAt, Cond.code yX5_crowdAt cX5_crowdAt 5 (some .int), Cond.fieldLink RX5 13 "BookinghouseModel" "span" "[I", Cond.fieldLink RX5 16 "BookinghouseModel" "weight" "[I", Cond.methodLink RX5 91 yX5_isOf, Cond.instanceMethod yX5_isOf]
def wsX5_span_r2 : List Cond := [Cond.selects RX5 yX5_isOf yX5_isOf, Cond.code yX5_isOf cX5_isOf 3 (some .boolean), Cond.fieldLink RX5 19 "BookinghouseModel" "home" "[I", Cond.fieldLink RX5 22 "BookinghouseModel" "state" "[I", Cond.methodLink RX5 106 yX5_idleFrom, Cond.instanceMethod yX5_idleFrom, Cond.selects RX5 yX5_idleFrom yX5_idleFrom, Cond.code yX5_idleFrom cX5_idleFrom 6 (some .int), Cond.methodLink RX5 100 yX5_greatestIn, Cond.instanceMethod yX5_greatestIn, Cond.selects RX5 yX5_greatestIn yX5_greatestIn, Cond.code yX5_greatestIn cX5_greatestIn 7 (some .int)]
def wsX5_span : List Cond := .code yX5_span cX5_span 6 (some .int) :: ((wsX5_span_r1 ++ wsX5_span_r2) ++ wsX50 ++ (vx_atM "java/lang/ArrayIndexOutOfBoundsException" ["java/lang/IndexOutOfBoundsException", "java/lang/RuntimeException", "java/lang/Exception"]).filter goodWord)
def wsX5_free_r1 : List Cond := [Cond.methodLink RX5 46 yX5_isHouse, Cond.static yX5_isHouse, Cond.initialized RX5, Cond.code yX5_isHouse cX5_isHouse 1 (some .boolean), Cond.methodLink RX5 50 yX5_isThrown, Cond.instanceMethod yX5_isThrown, Cond.selects RX5 yX5_isThrown yX5_isThrown, Cond.code yX5_isThrown cX5_isThrown 3 (some .boolean), Cond.fieldLink RX5 31 "BookinghouseModel" "thrown" "I", Cond.methodLink RX5 54 yX5_isIn, Cond.static yX5_isIn, Cond.code yX5_isIn cX5_isIn 3 (some .boolean), Cond.methodLink RX5 103 yX5_busyFrom, Cond.instanceMethod yX5_busyFrom, Cond.selects RX5 yX5_busyFrom yX5_busyFrom, Cond.code yX5_busyFrom cX5_busyFrom 5 (some .int), Cond.constant RX5 72 (100000), Cond.fieldLink RX5 35 "BookinghouseModel" "made" "I", Cond.fieldLink RX5 7 "BookinghouseModel" "time" "[I", Cond.methodLink RX5 94 yX5_crowdAt, Cond.instanceMethod yX5_crowdAt, Cond.selects RX5 yX5_crowdAt yX5_crowdAt, Cond.code yX5_crowdAt cX5_crowdAt 5 (some .int), Cond.fieldLink RX5 13 "BookinghouseModel" "span" "[I"]
def wsX5_free_r2 : List Cond := [Cond.fieldLink RX5 16 "BookinghouseModel" "weight" "[I", Cond.methodLink RX5 91 yX5_isOf, Cond.instanceMethod yX5_isOf, Cond.selects RX5 yX5_isOf yX5_isOf, Cond.code yX5_isOf cX5_isOf 3 (some .boolean), Cond.fieldLink RX5 19 "BookinghouseModel" "home" "[I", Cond.fieldLink RX5 22 "BookinghouseModel" "state" "[I", Cond.methodLink RX5 106 yX5_idleFrom, Cond.instanceMethod yX5_idleFrom, Cond.selects RX5 yX5_idleFrom yX5_idleFrom, Cond.code yX5_idleFrom cX5_idleFrom 6 (some .int)]
def wsX5_free : List Cond := .code yX5_free cX5_free 6 (some .int) :: ((wsX5_free_r1 ++ wsX5_free_r2) ++ wsX50 ++ (vx_atM "java/lang/ArrayIndexOutOfBoundsException" ["java/lang/IndexOutOfBoundsException", "java/lang/RuntimeException", "java/lang/Exception"]).filter goodWord)
def wsX5_loadOf : List Cond := .code yX5_loadOf cX5_loadOf 5 (some .long) :: ([.fieldLink RX5 35 "BookinghouseModel" "made" "I", .fieldLink RX5 16 "BookinghouseModel" "weight" "[I", .fieldLink RX5 13 "BookinghouseModel" "span" "[I", .methodLink RX5 91 yX5_isOf, .instanceMethod yX5_isOf, .selects RX5 yX5_isOf yX5_isOf, .initialized RX5, .code yX5_isOf cX5_isOf 3 (some .boolean), .fieldLink RX5 19 "BookinghouseModel" "home" "[I", .fieldLink RX5 22 "BookinghouseModel" "state" "[I"] ++ wsX50 ++ (vx_atM "java/lang/ArrayIndexOutOfBoundsException" ["java/lang/IndexOutOfBoundsException", "java/lang/RuntimeException", "java/lang/Exception"]).filter goodWord)
def wsX5_load : List Cond := .code yX5_load cX5_load 2 (some .long) :: ([.methodLink RX5 46 yX5_isHouse, .static yX5_isHouse, .initialized RX5, .code yX5_isHouse cX5_isHouse 1 (some .boolean), .methodLink RX5 50 yX5_isThrown, .instanceMethod yX5_isThrown, .selects RX5 yX5_isThrown yX5_isThrown, .code yX5_isThrown cX5_isThrown 3 (some .boolean), .fieldLink RX5 31 "BookinghouseModel" "thrown" "I", .methodLink RX5 112 yX5_loadOf, .instanceMethod yX5_loadOf, .selects RX5 yX5_loadOf yX5_loadOf, .code yX5_loadOf cX5_loadOf 5 (some .long), .fieldLink RX5 35 "BookinghouseModel" "made" "I", .fieldLink RX5 16 "BookinghouseModel" "weight" "[I", .fieldLink RX5 13 "BookinghouseModel" "span" "[I", .methodLink RX5 91 yX5_isOf, .instanceMethod yX5_isOf, .selects RX5 yX5_isOf yX5_isOf, .code yX5_isOf cX5_isOf 3 (some .boolean), .fieldLink RX5 19 "BookinghouseModel" "home" "[I", .fieldLink RX5 22 "BookinghouseModel" "state" "[I"] ++ wsX50 ++ (vx_atM "java/lang/ArrayIndexOutOfBoundsException" ["java/lang/IndexOutOfBoundsException", "java/lang/RuntimeException", "java/lang/Exception"]).filter goodWord)
def wsX5_mean_r1 : List Cond := [Cond.constant RX5 72 (100000), Cond.methodLink RX5 46 yX5_isHouse, Cond.static yX5_isHouse, Cond.initialized RX5, Cond.code yX5_isHouse cX5_isHouse 1 (some .boolean), Cond.methodLink RX5 50 yX5_isThrown, Cond.instanceMethod yX5_isThrown, Cond.selects RX5 yX5_isThrown yX5_isThrown, Cond.code yX5_isThrown cX5_isThrown 3 (some .boolean), Cond.fieldLink RX5 31 "BookinghouseModel" "thrown" "I", Cond.methodLink RX5 109 yX5_busyIn, Cond.instanceMethod yX5_busyIn, Cond.selects RX5 yX5_busyIn yX5_busyIn, Cond.code yX5_busyIn cX5_busyIn 9 (some .int), Cond.methodLink RX5 103 yX5_busyFrom, Cond.instanceMethod yX5_busyFrom, Cond.selects RX5 yX5_busyFrom yX5_busyFrom, Cond.code yX5_busyFrom cX5_busyFrom 5 (some .int), Cond.fieldLink RX5 35 "BookinghouseModel" "made" "I", Cond.fieldLink RX5 7 "BookinghouseModel" "time" "[I", Cond.methodLink RX5 94 yX5_crowdAt, Cond.instanceMethod yX5_crowdAt, Cond.selects RX5 yX5_crowdAt yX5_crowdAt, Cond.code yX5_crowdAt cX5_crowdAt 5 (some .int)]
def wsX5_mean_r2 : List Cond := [Cond.fieldLink RX5 13 "BookinghouseModel" "span" "[I", Cond.fieldLink RX5 16 "BookinghouseModel" "weight" "[I", Cond.methodLink RX5 91 yX5_isOf, Cond.instanceMethod yX5_isOf, Cond.selects RX5 yX5_isOf yX5_isOf, Cond.code yX5_isOf cX5_isOf 3 (some .boolean), Cond.fieldLink RX5 19 "BookinghouseModel" "home" "[I", Cond.fieldLink RX5 22 "BookinghouseModel" "state" "[I", Cond.methodLink RX5 106 yX5_idleFrom, Cond.instanceMethod yX5_idleFrom, Cond.selects RX5 yX5_idleFrom yX5_idleFrom, Cond.code yX5_idleFrom cX5_idleFrom 6 (some .int), Cond.methodLink RX5 112 yX5_loadOf, Cond.instanceMethod yX5_loadOf, Cond.selects RX5 yX5_loadOf yX5_loadOf, Cond.code yX5_loadOf cX5_loadOf 5 (some .long)]
def wsX5_mean : List Cond := .code yX5_mean cX5_mean 3 (some .double) :: ((wsX5_mean_r1 ++ wsX5_mean_r2) ++ wsX50 ++ (vx_atM "java/lang/ArrayIndexOutOfBoundsException" ["java/lang/IndexOutOfBoundsException", "java/lang/RuntimeException", "java/lang/Exception"]).filter goodWord)
def wsX5_share : List Cond := .code yX5_share cX5_share 3 (some .float) :: ([.methodLink RX5 46 yX5_isHouse, .static yX5_isHouse, .initialized RX5, .code yX5_isHouse cX5_isHouse 1 (some .boolean), .methodLink RX5 50 yX5_isThrown, .instanceMethod yX5_isThrown, .selects RX5 yX5_isThrown yX5_isThrown, .code yX5_isThrown cX5_isThrown 3 (some .boolean), .fieldLink RX5 31 "BookinghouseModel" "thrown" "I", .methodLink RX5 58 yX5_many, .instanceMethod yX5_many, .selects RX5 yX5_many yX5_many, .code yX5_many cX5_many 5 (some .int), .fieldLink RX5 35 "BookinghouseModel" "made" "I", .fieldLink RX5 19 "BookinghouseModel" "home" "[I", .fieldLink RX5 22 "BookinghouseModel" "state" "[I"] ++ wsX50 ++ (vx_atM "java/lang/ArrayIndexOutOfBoundsException" ["java/lang/IndexOutOfBoundsException", "java/lang/RuntimeException", "java/lang/Exception"]).filter goodWord)
def wsX5_isQuiet_r1 : List Cond := [Cond.fieldLink RX5 28 "BookinghouseModel" "clock" "[I", Cond.constant RX5 72 (100000), Cond.methodLink RX5 46 yX5_isHouse, Cond.static yX5_isHouse, Cond.initialized RX5, Cond.code yX5_isHouse cX5_isHouse 1 (some .boolean), Cond.methodLink RX5 50 yX5_isThrown, Cond.instanceMethod yX5_isThrown, Cond.selects RX5 yX5_isThrown yX5_isThrown, Cond.code yX5_isThrown cX5_isThrown 3 (some .boolean), Cond.fieldLink RX5 31 "BookinghouseModel" "thrown" "I", Cond.methodLink RX5 58 yX5_many, Cond.instanceMethod yX5_many, Cond.selects RX5 yX5_many yX5_many, Cond.code yX5_many cX5_many 5 (some .int), Cond.fieldLink RX5 35 "BookinghouseModel" "made" "I", Cond.fieldLink RX5 19 "BookinghouseModel" "home" "[I", Cond.fieldLink RX5 22 "BookinghouseModel" "state" "[I", Cond.methodLink RX5 103 yX5_busyFrom, Cond.instanceMethod yX5_busyFrom, Cond.selects RX5 yX5_busyFrom yX5_busyFrom, Cond.code yX5_busyFrom cX5_busyFrom 5 (some .int), Cond.fieldLink RX5 7 "BookinghouseModel" "time" "[I", Cond.methodLink RX5 94 yX5_crowdAt]
def wsX5_isQuiet_r2 : List Cond := [Cond.instanceMethod yX5_crowdAt, Cond.selects RX5 yX5_crowdAt yX5_crowdAt, Cond.code yX5_crowdAt cX5_crowdAt 5 (some .int), Cond.fieldLink RX5 13 "BookinghouseModel" "span" "[I", Cond.fieldLink RX5 16 "BookinghouseModel" "weight" "[I", Cond.methodLink RX5 91 yX5_isOf, Cond.instanceMethod yX5_isOf, Cond.selects RX5 yX5_isOf yX5_isOf, Cond.code yX5_isOf cX5_isOf 3 (some .boolean)]
def wsX5_isQuiet : List Cond := .code yX5_isQuiet cX5_isQuiet 2 (some .boolean) :: ((wsX5_isQuiet_r1 ++ wsX5_isQuiet_r2) ++ wsX50 ++ (vx_atM "java/lang/ArrayIndexOutOfBoundsException" ["java/lang/IndexOutOfBoundsException", "java/lang/RuntimeException", "java/lang/Exception"]).filter goodWord)
def wsX5_adds : List Cond := .code yX5_adds cX5_adds 3 none :: ([.constantLong RX5 116 (31), .fieldLink RX5 118 "BookinghouseModel" "sum" "J"] ++ wsX50)
def wsX5_turnBehind : List Cond := .code yX5_turnBehind cX5_turnBehind 5 (some .int) :: ([.constant RX5 72 (100000), .fieldLink RX5 35 "BookinghouseModel" "made" "I", .fieldLink RX5 7 "BookinghouseModel" "time" "[I", .fieldLink RX5 13 "BookinghouseModel" "span" "[I", .methodLink RX5 91 yX5_isOf, .instanceMethod yX5_isOf, .selects RX5 yX5_isOf yX5_isOf, .initialized RX5, .code yX5_isOf cX5_isOf 3 (some .boolean), .fieldLink RX5 19 "BookinghouseModel" "home" "[I", .fieldLink RX5 22 "BookinghouseModel" "state" "[I"] ++ wsX50 ++ (vx_atM "java/lang/ArrayIndexOutOfBoundsException" ["java/lang/IndexOutOfBoundsException", "java/lang/RuntimeException", "java/lang/Exception"]).filter goodWord)
def wsX5_checksum_r1 : List Cond := [Cond.fieldLink RX5 31 "BookinghouseModel" "thrown" "I", Cond.constantLong RX5 122 (7), Cond.fieldLink RX5 118 "BookinghouseModel" "sum" "J", Cond.fieldLink RX5 28 "BookinghouseModel" "clock" "[I", Cond.constant RX5 72 (100000), Cond.methodLink RX5 124 yX5_adds, Cond.instanceMethod yX5_adds, Cond.selects RX5 yX5_adds yX5_adds, Cond.initialized RX5, Cond.code yX5_adds cX5_adds 3 none, Cond.constantLong RX5 116 (31), Cond.methodLink RX5 58 yX5_many, Cond.instanceMethod yX5_many, Cond.selects RX5 yX5_many yX5_many, Cond.code yX5_many cX5_many 5 (some .int), Cond.fieldLink RX5 35 "BookinghouseModel" "made" "I", Cond.fieldLink RX5 19 "BookinghouseModel" "home" "[I", Cond.fieldLink RX5 22 "BookinghouseModel" "state" "[I", Cond.methodLink RX5 80 yX5_first, Cond.instanceMethod yX5_first, Cond.selects RX5 yX5_first yX5_first, Cond.code yX5_first cX5_first 2 (some .int), Cond.methodLink RX5 42 yX5_behind, Cond.instanceMethod yX5_behind]
def wsX5_checksum_r2 : List Cond := [Cond.selects RX5 yX5_behind yX5_behind, Cond.code yX5_behind cX5_behind 5 (some .int), Cond.methodLink RX5 38 yX5_isAhead, Cond.instanceMethod yX5_isAhead, Cond.selects RX5 yX5_isAhead yX5_isAhead, Cond.code yX5_isAhead cX5_isAhead 3 (some .boolean), Cond.fieldLink RX5 7 "BookinghouseModel" "time" "[I", Cond.methodLink RX5 88 yX5_cameBehind, Cond.instanceMethod yX5_cameBehind, Cond.selects RX5 yX5_cameBehind yX5_cameBehind, Cond.code yX5_cameBehind cX5_cameBehind 5 (some .int), Cond.fieldLink RX5 25 "BookinghouseModel" "came" "[I", Cond.methodLink RX5 128 yX5_turnBehind, Cond.instanceMethod yX5_turnBehind, Cond.selects RX5 yX5_turnBehind yX5_turnBehind, Cond.code yX5_turnBehind cX5_turnBehind 5 (some .int), Cond.fieldLink RX5 13 "BookinghouseModel" "span" "[I", Cond.methodLink RX5 91 yX5_isOf, Cond.instanceMethod yX5_isOf, Cond.selects RX5 yX5_isOf yX5_isOf, Cond.code yX5_isOf cX5_isOf 3 (some .boolean), Cond.methodLink RX5 97 yX5_changeAt, Cond.instanceMethod yX5_changeAt, Cond.selects RX5 yX5_changeAt yX5_changeAt]
def wsX5_checksum_r3 : List Cond := [Cond.code yX5_changeAt cX5_changeAt 5 (some .int), Cond.fieldLink RX5 16 "BookinghouseModel" "weight" "[I"]
def wsX5_checksum : List Cond := .code yX5_checksum cX5_checksum 4 (some .long) :: ((wsX5_checksum_r1 ++ (wsX5_checksum_r2 ++ wsX5_checksum_r3)) ++ wsX50 ++ (vx_atM "java/lang/ArrayIndexOutOfBoundsException" ["java/lang/IndexOutOfBoundsException", "java/lang/RuntimeException", "java/lang/Exception"]).filter goodWord)
def wsX5_isSound : List Cond := .code yX5_isSound cX5_isSound 1 (some .boolean) :: ([.fieldLink RX5 31 "BookinghouseModel" "thrown" "I"] ++ wsX50)
def wsJx00060_init_a7421 : List Cond := .code yJx00060_init_a7421 cJx00060_init_a7421 2 none :: ([])
def wsJ9_max_7cf53 : List Cond := .code yJ9_max_7cf53 cJ9_max_7cf53 2 (some .int) :: ([])
def wsJ9_min_7cf53 : List Cond := .code yJ9_min_7cf53 cJ9_min_7cf53 2 (some .int) :: ([])
def wsL_book_r1 : List Cond := [Cond.classLink RL 13 "java/lang/IndexOutOfBoundsException", Cond.classLink RL 15 "java/lang/IllegalArgumentException", Cond.classLink RL 17 "java/lang/IllegalStateException", Cond.methodLink RL 7 yX4_book, Cond.instanceMethod yX4_book, Cond.selects RX4 yX4_book yX4_book, Cond.initialized RX4, Cond.code yX4_book cX4_book 6 (some .int), Cond.classLink RX4 46 "java/lang/IllegalArgumentException", Cond.initialized "java/lang/IllegalArgumentException", Cond.methodLink RX4 32 yX4_houseAt, Cond.instanceMethod yX4_houseAt, Cond.selects RX4 yX4_houseAt yX4_houseAt, Cond.code yX4_houseAt cX4_houseAt 2 (some (.object "Bookinghouse$House")), Cond.classLink RX4 159 "java/lang/IndexOutOfBoundsException", Cond.initialized "java/lang/IndexOutOfBoundsException", Cond.fieldLink RX4 18 "Bookinghouse" "houses" "[LBookinghouse$House;", Cond.methodLink RX4 36 yX4_isTime, Cond.static yX4_isTime, Cond.code yX4_isTime cX4_isTime 1 (some .boolean), Cond.methodLink RX4 61 yX4_isIn, Cond.static yX4_isIn, Cond.code yX4_isIn cX4_isIn 3 (some .boolean), Cond.methodLink RX4 40 yX4_isSpan]
def wsL_book_r2 : List Cond := [Cond.static yX4_isSpan, Cond.code yX4_isSpan cX4_isSpan 1 (some .boolean), Cond.methodLink RX4 43 yX4_isWeight, Cond.static yX4_isWeight, Cond.code yX4_isWeight cX4_isWeight 1 (some .boolean), Cond.methodLink RX4 53 yX4_refuseIfNoRoom, Cond.instanceMethod yX4_refuseIfNoRoom, Cond.selects RX4 yX4_refuseIfNoRoom yX4_refuseIfNoRoom, Cond.code yX4_refuseIfNoRoom cX4_refuseIfNoRoom 4 none, Cond.classLink RX4 105 "java/lang/IllegalStateException", Cond.initialized "java/lang/IllegalStateException", Cond.fieldLink RX4 10 "Bookinghouse" "ledger" "LBookinghouse$Ledger;", Cond.methodLink RX4 132 yX3_size, Cond.instanceMethod yX3_size, Cond.selects RX3 yX3_size yX3_size, Cond.initialized RX3, Cond.code yX3_size cX3_size 1 (some .int), Cond.fieldLink RX3 19 "Bookinghouse$Row" "size" "I", Cond.methodLink RX4 67 yX2_size, Cond.instanceMethod yX2_size, Cond.selects RX2 yX2_size yX2_size, Cond.initialized RX2, Cond.code yX2_size cX2_size 1 (some .int), Cond.fieldLink RX2 14 "Bookinghouse$Ledger" "times" "LBookinghouse$Row;"]
def wsL_book_r3 : List Cond := [Cond.methodLink RX2 32 yX3_size, Cond.methodLink RX4 57 yX4_make, Cond.instanceMethod yX4_make, Cond.selects RX4 yX4_make yX4_make, Cond.code yX4_make cX4_make 6 (some .int), Cond.methodLink RX4 272 yX2_enter, Cond.instanceMethod yX2_enter, Cond.selects RX2 yX2_enter yX2_enter, Cond.code yX2_enter cX2_enter 4 (some .int), Cond.fieldLink RX2 20 "Bookinghouse$Ledger" "spans" "LBookinghouse$Row;", Cond.fieldLink RX2 23 "Bookinghouse$Ledger" "weights" "LBookinghouse$Row;", Cond.fieldLink RX2 26 "Bookinghouse$Ledger" "homes" "LBookinghouse$Row;", Cond.fieldLink RX2 29 "Bookinghouse$Ledger" "states" "LBookinghouse$Row;", Cond.methodLink RX2 36 yX3_add, Cond.instanceMethod yX3_add, Cond.selects RX3 yX3_add yX3_add, Cond.code yX3_add cX3_add 2 none, Cond.methodLink RX3 27 yX3_insert, Cond.instanceMethod yX3_insert, Cond.selects RX3 yX3_insert yX3_insert, Cond.code yX3_insert cX3_insert 3 none, Cond.fieldLink RX3 13 "Bookinghouse$Row" "items" "[I", Cond.methodLink RX3 31 arraycopyName, Cond.native arraycopyName]
def wsL_book_r4 : List Cond := [Cond.static arraycopyName, Cond.initialized "java/lang/System", Cond.methodLink RX4 122 yX4_enqueue, Cond.instanceMethod yX4_enqueue, Cond.selects RX4 yX4_enqueue yX4_enqueue, Cond.code yX4_enqueue cX4_enqueue 4 none, Cond.methodLink RX4 113 yX3_get, Cond.instanceMethod yX3_get, Cond.selects RX3 yX3_get yX3_get, Cond.code yX3_get cX3_get 2 (some .int), Cond.methodLink RX3 23 yX3_holds, Cond.instanceMethod yX3_holds, Cond.selects RX3 yX3_holds yX3_holds, Cond.code yX3_holds cX3_holds 2 (some .boolean), Cond.methodLink RX4 276 yX2_isAhead, Cond.instanceMethod yX2_isAhead, Cond.selects RX2 yX2_isAhead yX2_isAhead, Cond.code yX2_isAhead cX2_isAhead 5 (some .boolean), Cond.methodLink RX2 39 yX3_get, Cond.methodLink RX4 280 yX3_insert, Cond.methodLink RX4 119 yX3_set, Cond.instanceMethod yX3_set, Cond.selects RX3 yX3_set yX3_set, Cond.code yX3_set cX3_set 3 none]
def wsL_book : List Cond := .codeWith yL_book cL_book 7 (some .int) [(0, 14, 17, 13), (0, 14, 21, 15), (0, 14, 25, 17)] :: ((wsL_book_r1 ++ (wsL_book_r2 ++ (wsL_book_r3 ++ wsL_book_r4))) ++ wsX40 ++ wsX10 ++ wsX30 ++ wsX20 ++ (vx_atM "java/lang/ArrayIndexOutOfBoundsException" ["java/lang/IndexOutOfBoundsException", "java/lang/RuntimeException", "java/lang/Exception"]).filter goodWord ++ (vx_atS RX4 50 "java/lang/IllegalArgumentException" ["java/lang/RuntimeException", "java/lang/Exception"]).filter goodWord ++ (vx_atS RX4 163 "java/lang/IndexOutOfBoundsException" ["java/lang/RuntimeException", "java/lang/Exception"]).filter goodWord ++ (vx_atS RX4 109 "java/lang/IllegalStateException" ["java/lang/RuntimeException", "java/lang/Exception"]).filter goodWord)
def wsL_series_r1 : List Cond := [Cond.classLink RL 13 "java/lang/IndexOutOfBoundsException", Cond.classLink RL 15 "java/lang/IllegalArgumentException", Cond.classLink RL 17 "java/lang/IllegalStateException", Cond.methodLink RL 19 yX4_series, Cond.instanceMethod yX4_series, Cond.selects RX4 yX4_series yX4_series, Cond.initialized RX4, Cond.code yX4_series cX4_series 10 (some .int), Cond.classLink RX4 46 "java/lang/IllegalArgumentException", Cond.initialized "java/lang/IllegalArgumentException", Cond.fieldLink RX4 10 "Bookinghouse" "ledger" "LBookinghouse$Ledger;", Cond.methodLink RX4 32 yX4_houseAt, Cond.instanceMethod yX4_houseAt, Cond.selects RX4 yX4_houseAt yX4_houseAt, Cond.code yX4_houseAt cX4_houseAt 2 (some (.object "Bookinghouse$House")), Cond.classLink RX4 159 "java/lang/IndexOutOfBoundsException", Cond.initialized "java/lang/IndexOutOfBoundsException", Cond.fieldLink RX4 18 "Bookinghouse" "houses" "[LBookinghouse$House;", Cond.methodLink RX4 36 yX4_isTime, Cond.static yX4_isTime, Cond.code yX4_isTime cX4_isTime 1 (some .boolean), Cond.methodLink RX4 61 yX4_isIn, Cond.static yX4_isIn, Cond.code yX4_isIn cX4_isIn 3 (some .boolean)]
def wsL_series_r2 : List Cond := [Cond.methodLink RX4 40 yX4_isSpan, Cond.static yX4_isSpan, Cond.code yX4_isSpan cX4_isSpan 1 (some .boolean), Cond.methodLink RX4 43 yX4_isWeight, Cond.static yX4_isWeight, Cond.code yX4_isWeight cX4_isWeight 1 (some .boolean), Cond.methodLink RX4 53 yX4_refuseIfNoRoom, Cond.instanceMethod yX4_refuseIfNoRoom, Cond.selects RX4 yX4_refuseIfNoRoom yX4_refuseIfNoRoom, Cond.code yX4_refuseIfNoRoom cX4_refuseIfNoRoom 4 none, Cond.classLink RX4 105 "java/lang/IllegalStateException", Cond.initialized "java/lang/IllegalStateException", Cond.methodLink RX4 132 yX3_size, Cond.instanceMethod yX3_size, Cond.selects RX3 yX3_size yX3_size, Cond.initialized RX3, Cond.code yX3_size cX3_size 1 (some .int), Cond.fieldLink RX3 19 "Bookinghouse$Row" "size" "I", Cond.methodLink RX4 67 yX2_size, Cond.instanceMethod yX2_size, Cond.selects RX2 yX2_size yX2_size, Cond.initialized RX2, Cond.code yX2_size cX2_size 1 (some .int), Cond.fieldLink RX2 14 "Bookinghouse$Ledger" "times" "LBookinghouse$Row;"]
def wsL_series_r3 : List Cond := [Cond.methodLink RX2 32 yX3_size, Cond.methodLink RX4 57 yX4_make, Cond.instanceMethod yX4_make, Cond.selects RX4 yX4_make yX4_make, Cond.code yX4_make cX4_make 6 (some .int), Cond.methodLink RX4 272 yX2_enter, Cond.instanceMethod yX2_enter, Cond.selects RX2 yX2_enter yX2_enter, Cond.code yX2_enter cX2_enter 4 (some .int), Cond.fieldLink RX2 20 "Bookinghouse$Ledger" "spans" "LBookinghouse$Row;", Cond.fieldLink RX2 23 "Bookinghouse$Ledger" "weights" "LBookinghouse$Row;", Cond.fieldLink RX2 26 "Bookinghouse$Ledger" "homes" "LBookinghouse$Row;", Cond.fieldLink RX2 29 "Bookinghouse$Ledger" "states" "LBookinghouse$Row;", Cond.methodLink RX2 36 yX3_add, Cond.instanceMethod yX3_add, Cond.selects RX3 yX3_add yX3_add, Cond.code yX3_add cX3_add 2 none, Cond.methodLink RX3 27 yX3_insert, Cond.instanceMethod yX3_insert, Cond.selects RX3 yX3_insert yX3_insert, Cond.code yX3_insert cX3_insert 3 none, Cond.fieldLink RX3 13 "Bookinghouse$Row" "items" "[I", Cond.methodLink RX3 31 arraycopyName, Cond.native arraycopyName]
def wsL_series_r4 : List Cond := [Cond.static arraycopyName, Cond.initialized "java/lang/System", Cond.methodLink RX4 122 yX4_enqueue, Cond.instanceMethod yX4_enqueue, Cond.selects RX4 yX4_enqueue yX4_enqueue, Cond.code yX4_enqueue cX4_enqueue 4 none, Cond.methodLink RX4 113 yX3_get, Cond.instanceMethod yX3_get, Cond.selects RX3 yX3_get yX3_get, Cond.code yX3_get cX3_get 2 (some .int), Cond.methodLink RX3 23 yX3_holds, Cond.instanceMethod yX3_holds, Cond.selects RX3 yX3_holds yX3_holds, Cond.code yX3_holds cX3_holds 2 (some .boolean), Cond.methodLink RX4 276 yX2_isAhead, Cond.instanceMethod yX2_isAhead, Cond.selects RX2 yX2_isAhead yX2_isAhead, Cond.code yX2_isAhead cX2_isAhead 5 (some .boolean), Cond.methodLink RX2 39 yX3_get, Cond.methodLink RX4 280 yX3_insert, Cond.methodLink RX4 119 yX3_set, Cond.instanceMethod yX3_set, Cond.selects RX3 yX3_set yX3_set, Cond.code yX3_set cX3_set 3 none]
def wsL_series : List Cond := .codeWith yL_series cL_series 9 (some .int) [(0, 18, 21, 13), (0, 18, 25, 15), (0, 18, 29, 17)] :: ((wsL_series_r1 ++ (wsL_series_r2 ++ (wsL_series_r3 ++ wsL_series_r4))) ++ wsX40 ++ wsX10 ++ wsX30 ++ wsX20 ++ (vx_atM "java/lang/ArrayIndexOutOfBoundsException" ["java/lang/IndexOutOfBoundsException", "java/lang/RuntimeException", "java/lang/Exception"]).filter goodWord ++ (vx_atS RX4 50 "java/lang/IllegalArgumentException" ["java/lang/RuntimeException", "java/lang/Exception"]).filter goodWord ++ (vx_atS RX4 163 "java/lang/IndexOutOfBoundsException" ["java/lang/RuntimeException", "java/lang/Exception"]).filter goodWord ++ (vx_atS RX4 109 "java/lang/IllegalStateException" ["java/lang/RuntimeException", "java/lang/Exception"]).filter goodWord)
def wsL_callOff_r1 : List Cond := [Cond.classLink RL 13 "java/lang/IndexOutOfBoundsException", Cond.methodLink RL 23 yX4_callOff, Cond.instanceMethod yX4_callOff, Cond.selects RX4 yX4_callOff yX4_callOff, Cond.initialized RX4, Cond.code yX4_callOff cX4_callOff 5 (some .boolean), Cond.methodLink RX4 32 yX4_houseAt, Cond.instanceMethod yX4_houseAt, Cond.selects RX4 yX4_houseAt yX4_houseAt, Cond.code yX4_houseAt cX4_houseAt 2 (some (.object "Bookinghouse$House")), Cond.classLink RX4 159 "java/lang/IndexOutOfBoundsException", Cond.initialized "java/lang/IndexOutOfBoundsException", Cond.fieldLink RX4 18 "Bookinghouse" "houses" "[LBookinghouse$House;", Cond.methodLink RX4 75 yX3_placeOf, Cond.instanceMethod yX3_placeOf, Cond.selects RX3 yX3_placeOf yX3_placeOf, Cond.initialized RX3, Cond.code yX3_placeOf cX3_placeOf 3 (some .int), Cond.fieldLink RX3 19 "Bookinghouse$Row" "size" "I", Cond.methodLink RX3 37 yX3_get, Cond.instanceMethod yX3_get, Cond.selects RX3 yX3_get yX3_get, Cond.code yX3_get cX3_get 2 (some .int), Cond.fieldLink RX3 13 "Bookinghouse$Row" "items" "[I"]
def wsL_callOff_r2 : List Cond := [Cond.methodLink RX3 23 yX3_holds, Cond.instanceMethod yX3_holds, Cond.selects RX3 yX3_holds yX3_holds, Cond.code yX3_holds cX3_holds 2 (some .boolean), Cond.methodLink RX4 81 yX4_callOffPlace, Cond.instanceMethod yX4_callOffPlace, Cond.selects RX4 yX4_callOffPlace yX4_callOffPlace, Cond.code yX4_callOffPlace cX4_callOffPlace 3 none, Cond.fieldLink RX4 10 "Bookinghouse" "ledger" "LBookinghouse$Ledger;", Cond.methodLink RX4 116 yX3_remove, Cond.instanceMethod yX3_remove, Cond.selects RX3 yX3_remove yX3_remove, Cond.code yX3_remove cX3_remove 3 (some .int), Cond.methodLink RX3 31 arraycopyName, Cond.native arraycopyName, Cond.static arraycopyName, Cond.initialized "java/lang/System", Cond.methodLink RX4 119 yX3_set, Cond.instanceMethod yX3_set, Cond.selects RX3 yX3_set yX3_set, Cond.code yX3_set cX3_set 3 none]
def wsL_callOff : List Cond := .codeWith yL_callOff cL_callOff 5 (some .int) [(0, 17, 20, 13)] :: ((wsL_callOff_r1 ++ wsL_callOff_r2) ++ wsX10 ++ wsX40 ++ wsX30 ++ wsX20 ++ (vx_atM "java/lang/ArrayIndexOutOfBoundsException" ["java/lang/IndexOutOfBoundsException", "java/lang/RuntimeException", "java/lang/Exception"]).filter goodWord ++ (vx_atS RX4 163 "java/lang/IndexOutOfBoundsException" ["java/lang/RuntimeException", "java/lang/Exception"]).filter goodWord)
def wsL_callOffAll_r1 : List Cond := [Cond.classLink RL 13 "java/lang/IndexOutOfBoundsException", Cond.classLink RL 15 "java/lang/IllegalArgumentException", Cond.methodLink RL 27 yX4_callOffAll, Cond.instanceMethod yX4_callOffAll, Cond.selects RX4 yX4_callOffAll yX4_callOffAll, Cond.initialized RX4, Cond.code yX4_callOffAll cX4_callOffAll 8 (some .int), Cond.methodLink RX4 32 yX4_houseAt, Cond.instanceMethod yX4_houseAt, Cond.selects RX4 yX4_houseAt yX4_houseAt, Cond.code yX4_houseAt cX4_houseAt 2 (some (.object "Bookinghouse$House")), Cond.classLink RX4 159 "java/lang/IndexOutOfBoundsException", Cond.initialized "java/lang/IndexOutOfBoundsException", Cond.fieldLink RX4 18 "Bookinghouse" "houses" "[LBookinghouse$House;", Cond.methodLink RX4 85 yX4_refuseIfTurned, Cond.static yX4_refuseIfTurned, Cond.code yX4_refuseIfTurned cX4_refuseIfTurned 2 none, Cond.classLink RX4 46 "java/lang/IllegalArgumentException", Cond.initialized "java/lang/IllegalArgumentException", Cond.methodLink RX4 89 yX4_waitingAheadOf, Cond.instanceMethod yX4_waitingAheadOf, Cond.selects RX4 yX4_waitingAheadOf yX4_waitingAheadOf, Cond.code yX4_waitingAheadOf cX4_waitingAheadOf 4 (some .int), Cond.fieldLink RX4 10 "Bookinghouse" "ledger" "LBookinghouse$Ledger;"]
def wsL_callOffAll_r2 : List Cond := [Cond.methodLink RX4 132 yX3_size, Cond.instanceMethod yX3_size, Cond.selects RX3 yX3_size yX3_size, Cond.initialized RX3, Cond.code yX3_size cX3_size 1 (some .int), Cond.fieldLink RX3 19 "Bookinghouse$Row" "size" "I", Cond.methodLink RX4 113 yX3_get, Cond.instanceMethod yX3_get, Cond.selects RX3 yX3_get yX3_get, Cond.code yX3_get cX3_get 2 (some .int), Cond.fieldLink RX3 13 "Bookinghouse$Row" "items" "[I", Cond.methodLink RX3 23 yX3_holds, Cond.instanceMethod yX3_holds, Cond.selects RX3 yX3_holds yX3_holds, Cond.code yX3_holds cX3_holds 2 (some .boolean), Cond.methodLink RX4 81 yX4_callOffPlace, Cond.instanceMethod yX4_callOffPlace, Cond.selects RX4 yX4_callOffPlace yX4_callOffPlace, Cond.code yX4_callOffPlace cX4_callOffPlace 3 none, Cond.methodLink RX4 116 yX3_remove, Cond.instanceMethod yX3_remove, Cond.selects RX3 yX3_remove yX3_remove, Cond.code yX3_remove cX3_remove 3 (some .int), Cond.methodLink RX3 31 arraycopyName]
def wsL_callOffAll_r3 : List Cond := [Cond.native arraycopyName, Cond.static arraycopyName, Cond.initialized "java/lang/System", Cond.methodLink RX4 119 yX3_set, Cond.instanceMethod yX3_set, Cond.selects RX3 yX3_set yX3_set, Cond.code yX3_set cX3_set 3 none]
def wsL_callOffAll : List Cond := .codeWith yL_callOffAll cL_callOffAll 6 (some .int) [(0, 12, 15, 13), (0, 12, 19, 15)] :: ((wsL_callOffAll_r1 ++ (wsL_callOffAll_r2 ++ wsL_callOffAll_r3)) ++ wsX40 ++ wsX10 ++ wsX20 ++ wsX30 ++ (vx_atM "java/lang/ArrayIndexOutOfBoundsException" ["java/lang/IndexOutOfBoundsException", "java/lang/RuntimeException", "java/lang/Exception"]).filter goodWord ++ (vx_atS RX4 163 "java/lang/IndexOutOfBoundsException" ["java/lang/RuntimeException", "java/lang/Exception"]).filter goodWord ++ (vx_atS RX4 50 "java/lang/IllegalArgumentException" ["java/lang/RuntimeException", "java/lang/Exception"]).filter goodWord)
def wsL_put_r1 : List Cond := [Cond.classLink RL 13 "java/lang/IndexOutOfBoundsException", Cond.classLink RL 15 "java/lang/IllegalArgumentException", Cond.classLink RL 34 "java/util/NoSuchElementException", Cond.classLink RL 17 "java/lang/IllegalStateException", Cond.methodLink RL 31 yX4_put, Cond.instanceMethod yX4_put, Cond.selects RX4 yX4_put yX4_put, Cond.initialized RX4, Cond.code yX4_put cX4_put 7 (some .int), Cond.classLink RX4 96 "java/util/NoSuchElementException", Cond.initialized "java/util/NoSuchElementException", Cond.classLink RX4 105 "java/lang/IllegalStateException", Cond.initialized "java/lang/IllegalStateException", Cond.fieldLink RX4 10 "Bookinghouse" "ledger" "LBookinghouse$Ledger;", Cond.methodLink RX4 32 yX4_houseAt, Cond.instanceMethod yX4_houseAt, Cond.selects RX4 yX4_houseAt yX4_houseAt, Cond.code yX4_houseAt cX4_houseAt 2 (some (.object "Bookinghouse$House")), Cond.classLink RX4 159 "java/lang/IndexOutOfBoundsException", Cond.initialized "java/lang/IndexOutOfBoundsException", Cond.fieldLink RX4 18 "Bookinghouse" "houses" "[LBookinghouse$House;", Cond.methodLink RX4 93 yX4_refuseIfNoTime, Cond.static yX4_refuseIfNoTime, Cond.code yX4_refuseIfNoTime cX4_refuseIfNoTime 1 none]
def wsL_put_r2 : List Cond := [Cond.classLink RX4 46 "java/lang/IllegalArgumentException", Cond.initialized "java/lang/IllegalArgumentException", Cond.methodLink RX4 36 yX4_isTime, Cond.static yX4_isTime, Cond.code yX4_isTime cX4_isTime 1 (some .boolean), Cond.methodLink RX4 61 yX4_isIn, Cond.static yX4_isIn, Cond.code yX4_isIn cX4_isIn 3 (some .boolean), Cond.methodLink RX4 75 yX3_placeOf, Cond.instanceMethod yX3_placeOf, Cond.selects RX3 yX3_placeOf yX3_placeOf, Cond.initialized RX3, Cond.code yX3_placeOf cX3_placeOf 3 (some .int), Cond.fieldLink RX3 19 "Bookinghouse$Row" "size" "I", Cond.methodLink RX3 37 yX3_get, Cond.instanceMethod yX3_get, Cond.selects RX3 yX3_get yX3_get, Cond.code yX3_get cX3_get 2 (some .int), Cond.fieldLink RX3 13 "Bookinghouse$Row" "items" "[I", Cond.methodLink RX3 23 yX3_holds, Cond.instanceMethod yX3_holds, Cond.selects RX3 yX3_holds yX3_holds, Cond.code yX3_holds cX3_holds 2 (some .boolean), Cond.methodLink RX4 113 yX3_get]
def wsL_put_r3 : List Cond := [Cond.methodLink RX4 116 yX3_remove, Cond.instanceMethod yX3_remove, Cond.selects RX3 yX3_remove yX3_remove, Cond.code yX3_remove cX3_remove 3 (some .int), Cond.methodLink RX3 31 arraycopyName, Cond.native arraycopyName, Cond.static arraycopyName, Cond.initialized "java/lang/System", Cond.methodLink RX4 119 yX3_set, Cond.instanceMethod yX3_set, Cond.selects RX3 yX3_set yX3_set, Cond.code yX3_set cX3_set 3 none, Cond.methodLink RX4 122 yX4_enqueue, Cond.instanceMethod yX4_enqueue, Cond.selects RX4 yX4_enqueue yX4_enqueue, Cond.code yX4_enqueue cX4_enqueue 4 none, Cond.methodLink RX4 132 yX3_size, Cond.instanceMethod yX3_size, Cond.selects RX3 yX3_size yX3_size, Cond.code yX3_size cX3_size 1 (some .int), Cond.methodLink RX4 276 yX2_isAhead, Cond.instanceMethod yX2_isAhead, Cond.selects RX2 yX2_isAhead yX2_isAhead, Cond.initialized RX2]
def wsL_put_r4 : List Cond := [Cond.code yX2_isAhead cX2_isAhead 5 (some .boolean), Cond.fieldLink RX2 14 "Bookinghouse$Ledger" "times" "LBookinghouse$Row;", Cond.methodLink RX2 39 yX3_get, Cond.methodLink RX4 280 yX3_insert, Cond.instanceMethod yX3_insert, Cond.selects RX3 yX3_insert yX3_insert, Cond.code yX3_insert cX3_insert 3 none]
def wsL_put : List Cond := .codeWith yL_put cL_put 6 (some .int) [(0, 12, 15, 13), (0, 12, 19, 15), (0, 12, 23, 34), (0, 12, 27, 17)] :: ((wsL_put_r1 ++ (wsL_put_r2 ++ (wsL_put_r3 ++ wsL_put_r4))) ++ wsX10 ++ wsX40 ++ wsX20 ++ wsX30 ++ (vx_atM "java/lang/ArrayIndexOutOfBoundsException" ["java/lang/IndexOutOfBoundsException", "java/lang/RuntimeException", "java/lang/Exception"]).filter goodWord ++ (ntAt RX4 100 "java/util/NoSuchElementException" 13 prog_20_method_4_code ["java/lang/RuntimeException", "java/lang/Exception"]).filter goodWord ++ (vx_atS RX4 109 "java/lang/IllegalStateException" ["java/lang/RuntimeException", "java/lang/Exception"]).filter goodWord ++ (vx_atS RX4 163 "java/lang/IndexOutOfBoundsException" ["java/lang/RuntimeException", "java/lang/Exception"]).filter goodWord ++ (vx_atS RX4 50 "java/lang/IllegalArgumentException" ["java/lang/RuntimeException", "java/lang/Exception"]).filter goodWord)
def wsL_join_r1 : List Cond := [Cond.classLink RL 13 "java/lang/IndexOutOfBoundsException", Cond.classLink RL 17 "java/lang/IllegalStateException", Cond.methodLink RL 36 yX4_join, Cond.instanceMethod yX4_join, Cond.selects RX4 yX4_join yX4_join, Cond.initialized RX4, Cond.code yX4_join cX4_join 5 (some .int), Cond.methodLink RX4 32 yX4_houseAt, Cond.instanceMethod yX4_houseAt, Cond.selects RX4 yX4_houseAt yX4_houseAt, Cond.code yX4_houseAt cX4_houseAt 2 (some (.object "Bookinghouse$House")), Cond.classLink RX4 159 "java/lang/IndexOutOfBoundsException", Cond.initialized "java/lang/IndexOutOfBoundsException", Cond.fieldLink RX4 18 "Bookinghouse" "houses" "[LBookinghouse$House;", Cond.methodLink RX4 125 yX4_refuseIfSame, Cond.static yX4_refuseIfSame, Cond.code yX4_refuseIfSame cX4_refuseIfSame 2 none, Cond.classLink RX4 105 "java/lang/IllegalStateException", Cond.initialized "java/lang/IllegalStateException", Cond.methodLink RX4 128 yX4_move, Cond.instanceMethod yX4_move, Cond.selects RX4 yX4_move yX4_move, Cond.code yX4_move cX4_move 6 (some .int), Cond.fieldLink RX4 10 "Bookinghouse" "ledger" "LBookinghouse$Ledger;"]
def wsL_join_r2 : List Cond := [Cond.methodLink RX4 132 yX3_size, Cond.instanceMethod yX3_size, Cond.selects RX3 yX3_size yX3_size, Cond.initialized RX3, Cond.code yX3_size cX3_size 1 (some .int), Cond.fieldLink RX3 19 "Bookinghouse$Row" "size" "I", Cond.methodLink RX4 113 yX3_get, Cond.instanceMethod yX3_get, Cond.selects RX3 yX3_get yX3_get, Cond.code yX3_get cX3_get 2 (some .int), Cond.fieldLink RX3 13 "Bookinghouse$Row" "items" "[I", Cond.methodLink RX3 23 yX3_holds, Cond.instanceMethod yX3_holds, Cond.selects RX3 yX3_holds yX3_holds, Cond.code yX3_holds cX3_holds 2 (some .boolean), Cond.methodLink RX4 116 yX3_remove, Cond.instanceMethod yX3_remove, Cond.selects RX3 yX3_remove yX3_remove, Cond.code yX3_remove cX3_remove 3 (some .int), Cond.methodLink RX3 31 arraycopyName, Cond.native arraycopyName, Cond.static arraycopyName, Cond.initialized "java/lang/System", Cond.methodLink RX4 122 yX4_enqueue]
def wsL_join_r3 : List Cond := [Cond.instanceMethod yX4_enqueue, Cond.selects RX4 yX4_enqueue yX4_enqueue, Cond.code yX4_enqueue cX4_enqueue 4 none, Cond.methodLink RX4 276 yX2_isAhead, Cond.instanceMethod yX2_isAhead, Cond.selects RX2 yX2_isAhead yX2_isAhead, Cond.initialized RX2, Cond.code yX2_isAhead cX2_isAhead 5 (some .boolean), Cond.fieldLink RX2 14 "Bookinghouse$Ledger" "times" "LBookinghouse$Row;", Cond.methodLink RX2 39 yX3_get, Cond.methodLink RX4 280 yX3_insert, Cond.instanceMethod yX3_insert, Cond.selects RX3 yX3_insert yX3_insert, Cond.code yX3_insert cX3_insert 3 none, Cond.methodLink RX4 119 yX3_set, Cond.instanceMethod yX3_set, Cond.selects RX3 yX3_set yX3_set, Cond.code yX3_set cX3_set 3 none]
def wsL_join : List Cond := .codeWith yL_join cL_join 5 (some .int) [(0, 10, 13, 13), (0, 10, 17, 17)] :: ((wsL_join_r1 ++ (wsL_join_r2 ++ wsL_join_r3)) ++ wsX40 ++ wsX10 ++ wsX20 ++ wsX30 ++ (vx_atM "java/lang/ArrayIndexOutOfBoundsException" ["java/lang/IndexOutOfBoundsException", "java/lang/RuntimeException", "java/lang/Exception"]).filter goodWord ++ (vx_atS RX4 163 "java/lang/IndexOutOfBoundsException" ["java/lang/RuntimeException", "java/lang/Exception"]).filter goodWord ++ (vx_atS RX4 109 "java/lang/IllegalStateException" ["java/lang/RuntimeException", "java/lang/Exception"]).filter goodWord)
def wsL_part_r1 : List Cond := [Cond.classLink RL 13 "java/lang/IndexOutOfBoundsException", Cond.classLink RL 17 "java/lang/IllegalStateException", Cond.methodLink RL 40 yX4_part, Cond.instanceMethod yX4_part, Cond.selects RX4 yX4_part yX4_part, Cond.initialized RX4, Cond.code yX4_part cX4_part 6 (some .int), Cond.methodLink RX4 32 yX4_houseAt, Cond.instanceMethod yX4_houseAt, Cond.selects RX4 yX4_houseAt yX4_houseAt, Cond.code yX4_houseAt cX4_houseAt 2 (some (.object "Bookinghouse$House")), Cond.classLink RX4 159 "java/lang/IndexOutOfBoundsException", Cond.initialized "java/lang/IndexOutOfBoundsException", Cond.fieldLink RX4 18 "Bookinghouse" "houses" "[LBookinghouse$House;", Cond.methodLink RX4 125 yX4_refuseIfSame, Cond.static yX4_refuseIfSame, Cond.code yX4_refuseIfSame cX4_refuseIfSame 2 none, Cond.classLink RX4 105 "java/lang/IllegalStateException", Cond.initialized "java/lang/IllegalStateException", Cond.methodLink RX4 89 yX4_waitingAheadOf, Cond.instanceMethod yX4_waitingAheadOf, Cond.selects RX4 yX4_waitingAheadOf yX4_waitingAheadOf, Cond.code yX4_waitingAheadOf cX4_waitingAheadOf 4 (some .int), Cond.fieldLink RX4 10 "Bookinghouse" "ledger" "LBookinghouse$Ledger;"]
def wsL_part_r2 : List Cond := [Cond.methodLink RX4 132 yX3_size, Cond.instanceMethod yX3_size, Cond.selects RX3 yX3_size yX3_size, Cond.initialized RX3, Cond.code yX3_size cX3_size 1 (some .int), Cond.fieldLink RX3 19 "Bookinghouse$Row" "size" "I", Cond.methodLink RX4 113 yX3_get, Cond.instanceMethod yX3_get, Cond.selects RX3 yX3_get yX3_get, Cond.code yX3_get cX3_get 2 (some .int), Cond.fieldLink RX3 13 "Bookinghouse$Row" "items" "[I", Cond.methodLink RX3 23 yX3_holds, Cond.instanceMethod yX3_holds, Cond.selects RX3 yX3_holds yX3_holds, Cond.code yX3_holds cX3_holds 2 (some .boolean), Cond.methodLink RX4 128 yX4_move, Cond.instanceMethod yX4_move, Cond.selects RX4 yX4_move yX4_move, Cond.code yX4_move cX4_move 6 (some .int), Cond.methodLink RX4 116 yX3_remove, Cond.instanceMethod yX3_remove, Cond.selects RX3 yX3_remove yX3_remove, Cond.code yX3_remove cX3_remove 3 (some .int), Cond.methodLink RX3 31 arraycopyName]
def wsL_part_r3 : List Cond := [Cond.native arraycopyName, Cond.static arraycopyName, Cond.initialized "java/lang/System", Cond.methodLink RX4 122 yX4_enqueue, Cond.instanceMethod yX4_enqueue, Cond.selects RX4 yX4_enqueue yX4_enqueue, Cond.code yX4_enqueue cX4_enqueue 4 none, Cond.methodLink RX4 276 yX2_isAhead, Cond.instanceMethod yX2_isAhead, Cond.selects RX2 yX2_isAhead yX2_isAhead, Cond.initialized RX2, Cond.code yX2_isAhead cX2_isAhead 5 (some .boolean), Cond.fieldLink RX2 14 "Bookinghouse$Ledger" "times" "LBookinghouse$Row;", Cond.methodLink RX2 39 yX3_get, Cond.methodLink RX4 280 yX3_insert, Cond.instanceMethod yX3_insert, Cond.selects RX3 yX3_insert yX3_insert, Cond.code yX3_insert cX3_insert 3 none, Cond.methodLink RX4 119 yX3_set, Cond.instanceMethod yX3_set, Cond.selects RX3 yX3_set yX3_set, Cond.code yX3_set cX3_set 3 none]
def wsL_part : List Cond := .codeWith yL_part cL_part 6 (some .int) [(0, 12, 15, 13), (0, 12, 19, 17)] :: ((wsL_part_r1 ++ (wsL_part_r2 ++ wsL_part_r3)) ++ wsX40 ++ wsX10 ++ wsX20 ++ wsX30 ++ (vx_atM "java/lang/ArrayIndexOutOfBoundsException" ["java/lang/IndexOutOfBoundsException", "java/lang/RuntimeException", "java/lang/Exception"]).filter goodWord ++ (vx_atS RX4 163 "java/lang/IndexOutOfBoundsException" ["java/lang/RuntimeException", "java/lang/Exception"]).filter goodWord ++ (vx_atS RX4 109 "java/lang/IllegalStateException" ["java/lang/RuntimeException", "java/lang/Exception"]).filter goodWord)
def wsL_next_r1 : List Cond := [Cond.classLink RL 13 "java/lang/IndexOutOfBoundsException", Cond.classLink RL 34 "java/util/NoSuchElementException", Cond.methodLink RL 43 yX4_next, Cond.instanceMethod yX4_next, Cond.selects RX4 yX4_next yX4_next, Cond.initialized RX4, Cond.code yX4_next cX4_next 3 (some .int), Cond.classLink RX4 96 "java/util/NoSuchElementException", Cond.initialized "java/util/NoSuchElementException", Cond.methodLink RX4 32 yX4_houseAt, Cond.instanceMethod yX4_houseAt, Cond.selects RX4 yX4_houseAt yX4_houseAt, Cond.code yX4_houseAt cX4_houseAt 2 (some (.object "Bookinghouse$House")), Cond.classLink RX4 159 "java/lang/IndexOutOfBoundsException", Cond.initialized "java/lang/IndexOutOfBoundsException", Cond.fieldLink RX4 18 "Bookinghouse" "houses" "[LBookinghouse$House;", Cond.methodLink RX4 132 yX3_size, Cond.instanceMethod yX3_size, Cond.selects RX3 yX3_size yX3_size, Cond.initialized RX3, Cond.code yX3_size cX3_size 1 (some .int), Cond.fieldLink RX3 19 "Bookinghouse$Row" "size" "I", Cond.methodLink RX4 135 yX4_letFirstCome, Cond.instanceMethod yX4_letFirstCome]
def wsL_next_r2 : List Cond := [Cond.selects RX4 yX4_letFirstCome yX4_letFirstCome, Cond.code yX4_letFirstCome cX4_letFirstCome 3 (some .int), Cond.fieldLink RX4 10 "Bookinghouse" "ledger" "LBookinghouse$Ledger;", Cond.methodLink RX4 116 yX3_remove, Cond.instanceMethod yX3_remove, Cond.selects RX3 yX3_remove yX3_remove, Cond.code yX3_remove cX3_remove 3 (some .int), Cond.fieldLink RX3 13 "Bookinghouse$Row" "items" "[I", Cond.methodLink RX3 31 arraycopyName, Cond.native arraycopyName, Cond.static arraycopyName, Cond.initialized "java/lang/System", Cond.methodLink RX3 23 yX3_holds, Cond.instanceMethod yX3_holds, Cond.selects RX3 yX3_holds yX3_holds, Cond.code yX3_holds cX3_holds 2 (some .boolean), Cond.methodLink RX4 288 yX3_add, Cond.instanceMethod yX3_add, Cond.selects RX3 yX3_add yX3_add, Cond.code yX3_add cX3_add 2 none, Cond.methodLink RX3 27 yX3_insert, Cond.instanceMethod yX3_insert, Cond.selects RX3 yX3_insert yX3_insert, Cond.code yX3_insert cX3_insert 3 none]
def wsL_next_r3 : List Cond := [Cond.methodLink RX4 113 yX3_get, Cond.instanceMethod yX3_get, Cond.selects RX3 yX3_get yX3_get, Cond.code yX3_get cX3_get 2 (some .int), Cond.methodLink RX4 291 yX2_end, Cond.instanceMethod yX2_end, Cond.selects RX2 yX2_end yX2_end, Cond.initialized RX2, Cond.code yX2_end cX2_end 2 (some .int), Cond.fieldLink RX2 14 "Bookinghouse$Ledger" "times" "LBookinghouse$Row;", Cond.fieldLink RX2 20 "Bookinghouse$Ledger" "spans" "LBookinghouse$Row;", Cond.methodLink RX2 39 yX3_get, Cond.methodLink RX4 294 yX0_enter, Cond.instanceMethod yX0_enter, Cond.selects RX0 yX0_enter yX0_enter, Cond.initialized RX0, Cond.code yX0_enter cX0_enter 4 none, Cond.methodLink RX0 34 yX0_alter, Cond.instanceMethod yX0_alter, Cond.selects RX0 yX0_alter yX0_alter, Cond.code yX0_alter cX0_alter 4 none, Cond.fieldLink RX0 14 "Bookinghouse$Crowd" "times" "LBookinghouse$Row;", Cond.fieldLink RX0 20 "Bookinghouse$Crowd" "changes" "LBookinghouse$Row;", Cond.methodLink RX0 26 yX3_size]
def wsL_next_r4 : List Cond := [Cond.methodLink RX0 38 yX3_get, Cond.methodLink RX0 42 yX3_insert, Cond.methodLink RX0 45 yX3_remove, Cond.methodLink RX0 48 yX3_set, Cond.instanceMethod yX3_set, Cond.selects RX3 yX3_set yX3_set, Cond.code yX3_set cX3_set 3 none, Cond.methodLink RX4 119 yX3_set]
def wsL_next : List Cond := .codeWith yL_next cL_next 4 (some .int) [(0, 9, 12, 13), (0, 9, 15, 34)] :: ((wsL_next_r1 ++ (wsL_next_r2 ++ (wsL_next_r3 ++ wsL_next_r4))) ++ wsX10 ++ wsX40 ++ wsX30 ++ wsX20 ++ wsX00 ++ (vx_atM "java/lang/ArrayIndexOutOfBoundsException" ["java/lang/IndexOutOfBoundsException", "java/lang/RuntimeException", "java/lang/Exception"]).filter goodWord ++ (ntAt RX4 100 "java/util/NoSuchElementException" 13 prog_20_method_4_code ["java/lang/RuntimeException", "java/lang/Exception"]).filter goodWord ++ (vx_atS RX4 163 "java/lang/IndexOutOfBoundsException" ["java/lang/RuntimeException", "java/lang/Exception"]).filter goodWord)
def wsL_run_r1 : List Cond := [Cond.classLink RL 13 "java/lang/IndexOutOfBoundsException", Cond.classLink RL 15 "java/lang/IllegalArgumentException", Cond.classLink RL 17 "java/lang/IllegalStateException", Cond.methodLink RL 47 yX4_run, Cond.instanceMethod yX4_run, Cond.selects RX4 yX4_run yX4_run, Cond.initialized RX4, Cond.code yX4_run cX4_run 6 (some .int), Cond.classLink RX4 105 "java/lang/IllegalStateException", Cond.initialized "java/lang/IllegalStateException", Cond.methodLink RX4 32 yX4_houseAt, Cond.instanceMethod yX4_houseAt, Cond.selects RX4 yX4_houseAt yX4_houseAt, Cond.code yX4_houseAt cX4_houseAt 2 (some (.object "Bookinghouse$House")), Cond.classLink RX4 159 "java/lang/IndexOutOfBoundsException", Cond.initialized "java/lang/IndexOutOfBoundsException", Cond.fieldLink RX4 18 "Bookinghouse" "houses" "[LBookinghouse$House;", Cond.methodLink RX4 93 yX4_refuseIfNoTime, Cond.static yX4_refuseIfNoTime, Cond.code yX4_refuseIfNoTime cX4_refuseIfNoTime 1 none, Cond.classLink RX4 46 "java/lang/IllegalArgumentException", Cond.initialized "java/lang/IllegalArgumentException", Cond.methodLink RX4 36 yX4_isTime, Cond.static yX4_isTime]
def wsL_run_r2 : List Cond := [Cond.code yX4_isTime cX4_isTime 1 (some .boolean), Cond.methodLink RX4 61 yX4_isIn, Cond.static yX4_isIn, Cond.code yX4_isIn cX4_isIn 3 (some .boolean), Cond.methodLink RX4 89 yX4_waitingAheadOf, Cond.instanceMethod yX4_waitingAheadOf, Cond.selects RX4 yX4_waitingAheadOf yX4_waitingAheadOf, Cond.code yX4_waitingAheadOf cX4_waitingAheadOf 4 (some .int), Cond.fieldLink RX4 10 "Bookinghouse" "ledger" "LBookinghouse$Ledger;", Cond.methodLink RX4 132 yX3_size, Cond.instanceMethod yX3_size, Cond.selects RX3 yX3_size yX3_size, Cond.initialized RX3, Cond.code yX3_size cX3_size 1 (some .int), Cond.fieldLink RX3 19 "Bookinghouse$Row" "size" "I", Cond.methodLink RX4 113 yX3_get, Cond.instanceMethod yX3_get, Cond.selects RX3 yX3_get yX3_get, Cond.code yX3_get cX3_get 2 (some .int), Cond.fieldLink RX3 13 "Bookinghouse$Row" "items" "[I", Cond.methodLink RX3 23 yX3_holds, Cond.instanceMethod yX3_holds, Cond.selects RX3 yX3_holds yX3_holds, Cond.code yX3_holds cX3_holds 2 (some .boolean)]
def wsL_run_r3 : List Cond := [Cond.methodLink RX4 135 yX4_letFirstCome, Cond.instanceMethod yX4_letFirstCome, Cond.selects RX4 yX4_letFirstCome yX4_letFirstCome, Cond.code yX4_letFirstCome cX4_letFirstCome 3 (some .int), Cond.methodLink RX4 116 yX3_remove, Cond.instanceMethod yX3_remove, Cond.selects RX3 yX3_remove yX3_remove, Cond.code yX3_remove cX3_remove 3 (some .int), Cond.methodLink RX3 31 arraycopyName, Cond.native arraycopyName, Cond.static arraycopyName, Cond.initialized "java/lang/System", Cond.methodLink RX4 288 yX3_add, Cond.instanceMethod yX3_add, Cond.selects RX3 yX3_add yX3_add, Cond.code yX3_add cX3_add 2 none, Cond.methodLink RX3 27 yX3_insert, Cond.instanceMethod yX3_insert, Cond.selects RX3 yX3_insert yX3_insert, Cond.code yX3_insert cX3_insert 3 none, Cond.methodLink RX4 291 yX2_end, Cond.instanceMethod yX2_end, Cond.selects RX2 yX2_end yX2_end, Cond.initialized RX2]
def wsL_run_r4 : List Cond := [Cond.code yX2_end cX2_end 2 (some .int), Cond.fieldLink RX2 14 "Bookinghouse$Ledger" "times" "LBookinghouse$Row;", Cond.fieldLink RX2 20 "Bookinghouse$Ledger" "spans" "LBookinghouse$Row;", Cond.methodLink RX2 39 yX3_get, Cond.methodLink RX4 294 yX0_enter, Cond.instanceMethod yX0_enter, Cond.selects RX0 yX0_enter yX0_enter, Cond.initialized RX0, Cond.code yX0_enter cX0_enter 4 none, Cond.methodLink RX0 34 yX0_alter, Cond.instanceMethod yX0_alter, Cond.selects RX0 yX0_alter yX0_alter, Cond.code yX0_alter cX0_alter 4 none, Cond.fieldLink RX0 14 "Bookinghouse$Crowd" "times" "LBookinghouse$Row;", Cond.fieldLink RX0 20 "Bookinghouse$Crowd" "changes" "LBookinghouse$Row;", Cond.methodLink RX0 26 yX3_size, Cond.methodLink RX0 38 yX3_get, Cond.methodLink RX0 42 yX3_insert, Cond.methodLink RX0 45 yX3_remove, Cond.methodLink RX0 48 yX3_set, Cond.instanceMethod yX3_set, Cond.selects RX3 yX3_set yX3_set, Cond.code yX3_set cX3_set 3 none, Cond.methodLink RX4 119 yX3_set]
def wsL_run : List Cond := .codeWith yL_run cL_run 5 (some .int) [(0, 10, 13, 13), (0, 10, 17, 15), (0, 10, 21, 17)] :: ((wsL_run_r1 ++ (wsL_run_r2 ++ (wsL_run_r3 ++ wsL_run_r4))) ++ wsX10 ++ wsX40 ++ wsX20 ++ wsX30 ++ wsX00 ++ (vx_atM "java/lang/ArrayIndexOutOfBoundsException" ["java/lang/IndexOutOfBoundsException", "java/lang/RuntimeException", "java/lang/Exception"]).filter goodWord ++ (vx_atS RX4 109 "java/lang/IllegalStateException" ["java/lang/RuntimeException", "java/lang/Exception"]).filter goodWord ++ (vx_atS RX4 163 "java/lang/IndexOutOfBoundsException" ["java/lang/RuntimeException", "java/lang/Exception"]).filter goodWord ++ (vx_atS RX4 50 "java/lang/IllegalArgumentException" ["java/lang/RuntimeException", "java/lang/Exception"]).filter goodWord)
def wsL_back_r1 : List Cond := [Cond.classLink RL 13 "java/lang/IndexOutOfBoundsException", Cond.classLink RL 15 "java/lang/IllegalArgumentException", Cond.classLink RL 17 "java/lang/IllegalStateException", Cond.methodLink RL 50 yX4_back, Cond.instanceMethod yX4_back, Cond.selects RX4 yX4_back yX4_back, Cond.initialized RX4, Cond.code yX4_back cX4_back 6 (some .int), Cond.classLink RX4 105 "java/lang/IllegalStateException", Cond.initialized "java/lang/IllegalStateException", Cond.methodLink RX4 32 yX4_houseAt, Cond.instanceMethod yX4_houseAt, Cond.selects RX4 yX4_houseAt yX4_houseAt, Cond.code yX4_houseAt cX4_houseAt 2 (some (.object "Bookinghouse$House")), Cond.classLink RX4 159 "java/lang/IndexOutOfBoundsException", Cond.initialized "java/lang/IndexOutOfBoundsException", Cond.fieldLink RX4 18 "Bookinghouse" "houses" "[LBookinghouse$House;", Cond.methodLink RX4 93 yX4_refuseIfNoTime, Cond.static yX4_refuseIfNoTime, Cond.code yX4_refuseIfNoTime cX4_refuseIfNoTime 1 none, Cond.classLink RX4 46 "java/lang/IllegalArgumentException", Cond.initialized "java/lang/IllegalArgumentException", Cond.methodLink RX4 36 yX4_isTime, Cond.static yX4_isTime]
def wsL_back_r2 : List Cond := [Cond.code yX4_isTime cX4_isTime 1 (some .boolean), Cond.methodLink RX4 61 yX4_isIn, Cond.static yX4_isIn, Cond.code yX4_isIn cX4_isIn 3 (some .boolean), Cond.methodLink RX4 141 yX4_cameBehind, Cond.instanceMethod yX4_cameBehind, Cond.selects RX4 yX4_cameBehind yX4_cameBehind, Cond.code yX4_cameBehind cX4_cameBehind 4 (some .int), Cond.fieldLink RX4 10 "Bookinghouse" "ledger" "LBookinghouse$Ledger;", Cond.methodLink RX4 132 yX3_size, Cond.instanceMethod yX3_size, Cond.selects RX3 yX3_size yX3_size, Cond.initialized RX3, Cond.code yX3_size cX3_size 1 (some .int), Cond.fieldLink RX3 19 "Bookinghouse$Row" "size" "I", Cond.methodLink RX4 113 yX3_get, Cond.instanceMethod yX3_get, Cond.selects RX3 yX3_get yX3_get, Cond.code yX3_get cX3_get 2 (some .int), Cond.fieldLink RX3 13 "Bookinghouse$Row" "items" "[I", Cond.methodLink RX3 23 yX3_holds, Cond.instanceMethod yX3_holds, Cond.selects RX3 yX3_holds yX3_holds, Cond.code yX3_holds cX3_holds 2 (some .boolean)]
def wsL_back_r3 : List Cond := [Cond.methodLink RX4 146 yX4_bringLastBack, Cond.instanceMethod yX4_bringLastBack, Cond.selects RX4 yX4_bringLastBack yX4_bringLastBack, Cond.code yX4_bringLastBack cX4_bringLastBack 3 none, Cond.methodLink RX4 116 yX3_remove, Cond.instanceMethod yX3_remove, Cond.selects RX3 yX3_remove yX3_remove, Cond.code yX3_remove cX3_remove 3 (some .int), Cond.methodLink RX3 31 arraycopyName, Cond.native arraycopyName, Cond.static arraycopyName, Cond.initialized "java/lang/System", Cond.methodLink RX4 291 yX2_end, Cond.instanceMethod yX2_end, Cond.selects RX2 yX2_end yX2_end, Cond.initialized RX2, Cond.code yX2_end cX2_end 2 (some .int), Cond.fieldLink RX2 14 "Bookinghouse$Ledger" "times" "LBookinghouse$Row;", Cond.fieldLink RX2 20 "Bookinghouse$Ledger" "spans" "LBookinghouse$Row;", Cond.methodLink RX2 39 yX3_get, Cond.methodLink RX4 294 yX0_enter, Cond.instanceMethod yX0_enter, Cond.selects RX0 yX0_enter yX0_enter, Cond.initialized RX0]
def wsL_back_r4 : List Cond := [Cond.code yX0_enter cX0_enter 4 none, Cond.methodLink RX0 34 yX0_alter, Cond.instanceMethod yX0_alter, Cond.selects RX0 yX0_alter yX0_alter, Cond.code yX0_alter cX0_alter 4 none, Cond.fieldLink RX0 14 "Bookinghouse$Crowd" "times" "LBookinghouse$Row;", Cond.fieldLink RX0 20 "Bookinghouse$Crowd" "changes" "LBookinghouse$Row;", Cond.methodLink RX0 26 yX3_size, Cond.methodLink RX0 38 yX3_get, Cond.methodLink RX0 42 yX3_insert, Cond.instanceMethod yX3_insert, Cond.selects RX3 yX3_insert yX3_insert, Cond.code yX3_insert cX3_insert 3 none, Cond.methodLink RX0 45 yX3_remove, Cond.methodLink RX0 48 yX3_set, Cond.instanceMethod yX3_set, Cond.selects RX3 yX3_set yX3_set, Cond.code yX3_set cX3_set 3 none, Cond.methodLink RX4 122 yX4_enqueue, Cond.instanceMethod yX4_enqueue, Cond.selects RX4 yX4_enqueue yX4_enqueue, Cond.code yX4_enqueue cX4_enqueue 4 none, Cond.methodLink RX4 276 yX2_isAhead, Cond.instanceMethod yX2_isAhead]
def wsL_back_r5 : List Cond := [Cond.selects RX2 yX2_isAhead yX2_isAhead, Cond.code yX2_isAhead cX2_isAhead 5 (some .boolean), Cond.methodLink RX4 280 yX3_insert, Cond.methodLink RX4 119 yX3_set]
def wsL_back : List Cond := .codeWith yL_back cL_back 5 (some .int) [(0, 10, 13, 13), (0, 10, 17, 15), (0, 10, 21, 17)] :: ((wsL_back_r1 ++ (wsL_back_r2 ++ (wsL_back_r3 ++ (wsL_back_r4 ++ wsL_back_r5)))) ++ wsX10 ++ wsX40 ++ wsX20 ++ wsX30 ++ wsX00 ++ (vx_atM "java/lang/ArrayIndexOutOfBoundsException" ["java/lang/IndexOutOfBoundsException", "java/lang/RuntimeException", "java/lang/Exception"]).filter goodWord ++ (vx_atS RX4 109 "java/lang/IllegalStateException" ["java/lang/RuntimeException", "java/lang/Exception"]).filter goodWord ++ (vx_atS RX4 163 "java/lang/IndexOutOfBoundsException" ["java/lang/RuntimeException", "java/lang/Exception"]).filter goodWord ++ (vx_atS RX4 50 "java/lang/IllegalArgumentException" ["java/lang/RuntimeException", "java/lang/Exception"]).filter goodWord)
def wsL_clock : List Cond := .codeWith yL_clock cL_clock 4 (some .int) [(0, 9, 12, 13)] :: ([.classLink RL 13 "java/lang/IndexOutOfBoundsException", .methodLink RL 53 yX4_clock, .instanceMethod yX4_clock, .selects RX4 yX4_clock yX4_clock, .initialized RX4, .code yX4_clock cX4_clock 2 (some .int), .methodLink RX4 32 yX4_houseAt, .instanceMethod yX4_houseAt, .selects RX4 yX4_houseAt yX4_houseAt, .code yX4_houseAt cX4_houseAt 2 (some (.object "Bookinghouse$House")), .classLink RX4 159 "java/lang/IndexOutOfBoundsException", .initialized "java/lang/IndexOutOfBoundsException", .fieldLink RX4 18 "Bookinghouse" "houses" "[LBookinghouse$House;"] ++ wsX10 ++ wsX40 ++ (vx_atM "java/lang/ArrayIndexOutOfBoundsException" ["java/lang/IndexOutOfBoundsException", "java/lang/RuntimeException", "java/lang/Exception"]).filter goodWord ++ (vx_atS RX4 163 "java/lang/IndexOutOfBoundsException" ["java/lang/RuntimeException", "java/lang/Exception"]).filter goodWord)
def wsL_waiting : List Cond := .codeWith yL_waiting cL_waiting 4 (some .int) [(0, 9, 12, 13)] :: ([.classLink RL 13 "java/lang/IndexOutOfBoundsException", .methodLink RL 56 yX4_waiting, .instanceMethod yX4_waiting, .selects RX4 yX4_waiting yX4_waiting, .initialized RX4, .code yX4_waiting cX4_waiting 2 (some .int), .methodLink RX4 32 yX4_houseAt, .instanceMethod yX4_houseAt, .selects RX4 yX4_houseAt yX4_houseAt, .code yX4_houseAt cX4_houseAt 2 (some (.object "Bookinghouse$House")), .classLink RX4 159 "java/lang/IndexOutOfBoundsException", .initialized "java/lang/IndexOutOfBoundsException", .fieldLink RX4 18 "Bookinghouse" "houses" "[LBookinghouse$House;", .methodLink RX4 132 yX3_size, .instanceMethod yX3_size, .selects RX3 yX3_size yX3_size, .initialized RX3, .code yX3_size cX3_size 1 (some .int), .fieldLink RX3 19 "Bookinghouse$Row" "size" "I"] ++ wsX10 ++ wsX40 ++ wsX30 ++ (vx_atM "java/lang/ArrayIndexOutOfBoundsException" ["java/lang/IndexOutOfBoundsException", "java/lang/RuntimeException", "java/lang/Exception"]).filter goodWord ++ (vx_atS RX4 163 "java/lang/IndexOutOfBoundsException" ["java/lang/RuntimeException", "java/lang/Exception"]).filter goodWord)
def wsL_came : List Cond := .codeWith yL_came cL_came 4 (some .int) [(0, 9, 12, 13)] :: ([.classLink RL 13 "java/lang/IndexOutOfBoundsException", .methodLink RL 59 yX4_came, .instanceMethod yX4_came, .selects RX4 yX4_came yX4_came, .initialized RX4, .code yX4_came cX4_came 2 (some .int), .methodLink RX4 32 yX4_houseAt, .instanceMethod yX4_houseAt, .selects RX4 yX4_houseAt yX4_houseAt, .code yX4_houseAt cX4_houseAt 2 (some (.object "Bookinghouse$House")), .classLink RX4 159 "java/lang/IndexOutOfBoundsException", .initialized "java/lang/IndexOutOfBoundsException", .fieldLink RX4 18 "Bookinghouse" "houses" "[LBookinghouse$House;", .methodLink RX4 132 yX3_size, .instanceMethod yX3_size, .selects RX3 yX3_size yX3_size, .initialized RX3, .code yX3_size cX3_size 1 (some .int), .fieldLink RX3 19 "Bookinghouse$Row" "size" "I"] ++ wsX10 ++ wsX40 ++ wsX30 ++ (vx_atM "java/lang/ArrayIndexOutOfBoundsException" ["java/lang/IndexOutOfBoundsException", "java/lang/RuntimeException", "java/lang/Exception"]).filter goodWord ++ (vx_atS RX4 163 "java/lang/IndexOutOfBoundsException" ["java/lang/RuntimeException", "java/lang/Exception"]).filter goodWord)
def wsL_waits_r1 : List Cond := [Cond.classLink RL 13 "java/lang/IndexOutOfBoundsException", Cond.classLink RL 34 "java/util/NoSuchElementException", Cond.methodLink RL 62 yX4_waits, Cond.instanceMethod yX4_waits, Cond.selects RX4 yX4_waits yX4_waits, Cond.initialized RX4, Cond.code yX4_waits cX4_waits 3 (some .int), Cond.methodLink RX4 32 yX4_houseAt, Cond.instanceMethod yX4_houseAt, Cond.selects RX4 yX4_houseAt yX4_houseAt, Cond.code yX4_houseAt cX4_houseAt 2 (some (.object "Bookinghouse$House")), Cond.classLink RX4 159 "java/lang/IndexOutOfBoundsException", Cond.initialized "java/lang/IndexOutOfBoundsException", Cond.fieldLink RX4 18 "Bookinghouse" "houses" "[LBookinghouse$House;", Cond.methodLink RX4 153 yX4_itemAt, Cond.static yX4_itemAt, Cond.code yX4_itemAt cX4_itemAt 2 (some .int), Cond.classLink RX4 96 "java/util/NoSuchElementException", Cond.initialized "java/util/NoSuchElementException", Cond.methodLink RX4 269 yX3_holds, Cond.instanceMethod yX3_holds, Cond.selects RX3 yX3_holds yX3_holds, Cond.initialized RX3, Cond.code yX3_holds cX3_holds 2 (some .boolean)]
def wsL_waits_r2 : List Cond := [Cond.fieldLink RX3 19 "Bookinghouse$Row" "size" "I", Cond.fieldLink RX3 13 "Bookinghouse$Row" "items" "[I", Cond.methodLink RX4 113 yX3_get, Cond.instanceMethod yX3_get, Cond.selects RX3 yX3_get yX3_get, Cond.code yX3_get cX3_get 2 (some .int), Cond.methodLink RX3 23 yX3_holds]
def wsL_waits : List Cond := .codeWith yL_waits cL_waits 5 (some .int) [(0, 10, 13, 13), (0, 10, 17, 34)] :: ((wsL_waits_r1 ++ wsL_waits_r2) ++ wsX10 ++ wsX40 ++ wsX30 ++ (vx_atM "java/lang/ArrayIndexOutOfBoundsException" ["java/lang/IndexOutOfBoundsException", "java/lang/RuntimeException", "java/lang/Exception"]).filter goodWord ++ (vx_atS RX4 163 "java/lang/IndexOutOfBoundsException" ["java/lang/RuntimeException", "java/lang/Exception"]).filter goodWord ++ (ntAt RX4 100 "java/util/NoSuchElementException" 13 prog_20_method_4_code ["java/lang/RuntimeException", "java/lang/Exception"]).filter goodWord)
def wsL_cameAt_r1 : List Cond := [Cond.classLink RL 13 "java/lang/IndexOutOfBoundsException", Cond.classLink RL 34 "java/util/NoSuchElementException", Cond.methodLink RL 65 yX4_cameAt, Cond.instanceMethod yX4_cameAt, Cond.selects RX4 yX4_cameAt yX4_cameAt, Cond.initialized RX4, Cond.code yX4_cameAt cX4_cameAt 3 (some .int), Cond.methodLink RX4 32 yX4_houseAt, Cond.instanceMethod yX4_houseAt, Cond.selects RX4 yX4_houseAt yX4_houseAt, Cond.code yX4_houseAt cX4_houseAt 2 (some (.object "Bookinghouse$House")), Cond.classLink RX4 159 "java/lang/IndexOutOfBoundsException", Cond.initialized "java/lang/IndexOutOfBoundsException", Cond.fieldLink RX4 18 "Bookinghouse" "houses" "[LBookinghouse$House;", Cond.methodLink RX4 153 yX4_itemAt, Cond.static yX4_itemAt, Cond.code yX4_itemAt cX4_itemAt 2 (some .int), Cond.classLink RX4 96 "java/util/NoSuchElementException", Cond.initialized "java/util/NoSuchElementException", Cond.methodLink RX4 269 yX3_holds, Cond.instanceMethod yX3_holds, Cond.selects RX3 yX3_holds yX3_holds, Cond.initialized RX3, Cond.code yX3_holds cX3_holds 2 (some .boolean)]
def wsL_cameAt_r2 : List Cond := [Cond.fieldLink RX3 19 "Bookinghouse$Row" "size" "I", Cond.fieldLink RX3 13 "Bookinghouse$Row" "items" "[I", Cond.methodLink RX4 113 yX3_get, Cond.instanceMethod yX3_get, Cond.selects RX3 yX3_get yX3_get, Cond.code yX3_get cX3_get 2 (some .int), Cond.methodLink RX3 23 yX3_holds]
def wsL_cameAt : List Cond := .codeWith yL_cameAt cL_cameAt 5 (some .int) [(0, 10, 13, 13), (0, 10, 17, 34)] :: ((wsL_cameAt_r1 ++ wsL_cameAt_r2) ++ wsX10 ++ wsX40 ++ wsX30 ++ (vx_atM "java/lang/ArrayIndexOutOfBoundsException" ["java/lang/IndexOutOfBoundsException", "java/lang/RuntimeException", "java/lang/Exception"]).filter goodWord ++ (vx_atS RX4 163 "java/lang/IndexOutOfBoundsException" ["java/lang/RuntimeException", "java/lang/Exception"]).filter goodWord ++ (ntAt RX4 100 "java/util/NoSuchElementException" 13 prog_20_method_4_code ["java/lang/RuntimeException", "java/lang/Exception"]).filter goodWord)
def wsL_nextTime_r1 : List Cond := [Cond.classLink RL 13 "java/lang/IndexOutOfBoundsException", Cond.classLink RL 34 "java/util/NoSuchElementException", Cond.methodLink RL 68 yX4_nextTime, Cond.instanceMethod yX4_nextTime, Cond.selects RX4 yX4_nextTime yX4_nextTime, Cond.initialized RX4, Cond.code yX4_nextTime cX4_nextTime 5 (some .int), Cond.classLink RX4 96 "java/util/NoSuchElementException", Cond.initialized "java/util/NoSuchElementException", Cond.fieldLink RX4 10 "Bookinghouse" "ledger" "LBookinghouse$Ledger;", Cond.methodLink RX4 32 yX4_houseAt, Cond.instanceMethod yX4_houseAt, Cond.selects RX4 yX4_houseAt yX4_houseAt, Cond.code yX4_houseAt cX4_houseAt 2 (some (.object "Bookinghouse$House")), Cond.classLink RX4 159 "java/lang/IndexOutOfBoundsException", Cond.initialized "java/lang/IndexOutOfBoundsException", Cond.fieldLink RX4 18 "Bookinghouse" "houses" "[LBookinghouse$House;", Cond.methodLink RX4 89 yX4_waitingAheadOf, Cond.instanceMethod yX4_waitingAheadOf, Cond.selects RX4 yX4_waitingAheadOf yX4_waitingAheadOf, Cond.code yX4_waitingAheadOf cX4_waitingAheadOf 4 (some .int), Cond.methodLink RX4 132 yX3_size, Cond.instanceMethod yX3_size, Cond.selects RX3 yX3_size yX3_size]
def wsL_nextTime_r2 : List Cond := [Cond.initialized RX3, Cond.code yX3_size cX3_size 1 (some .int), Cond.fieldLink RX3 19 "Bookinghouse$Row" "size" "I", Cond.methodLink RX4 113 yX3_get, Cond.instanceMethod yX3_get, Cond.selects RX3 yX3_get yX3_get, Cond.code yX3_get cX3_get 2 (some .int), Cond.fieldLink RX3 13 "Bookinghouse$Row" "items" "[I", Cond.methodLink RX3 23 yX3_holds, Cond.instanceMethod yX3_holds, Cond.selects RX3 yX3_holds yX3_holds, Cond.code yX3_holds cX3_holds 2 (some .boolean)]
def wsL_nextTime : List Cond := .codeWith yL_nextTime cL_nextTime 5 (some .int) [(0, 10, 13, 13), (0, 10, 17, 34)] :: ((wsL_nextTime_r1 ++ wsL_nextTime_r2) ++ wsX10 ++ wsX40 ++ wsX20 ++ wsX30 ++ (vx_atM "java/lang/ArrayIndexOutOfBoundsException" ["java/lang/IndexOutOfBoundsException", "java/lang/RuntimeException", "java/lang/Exception"]).filter goodWord ++ (ntAt RX4 100 "java/util/NoSuchElementException" 13 prog_20_method_4_code ["java/lang/RuntimeException", "java/lang/Exception"]).filter goodWord ++ (vx_atS RX4 163 "java/lang/IndexOutOfBoundsException" ["java/lang/RuntimeException", "java/lang/Exception"]).filter goodWord)
def wsL_about_r1 : List Cond := [Cond.classLink RL 13 "java/lang/IndexOutOfBoundsException", Cond.classLink RL 15 "java/lang/IllegalArgumentException", Cond.methodLink RL 71 yX4_about, Cond.instanceMethod yX4_about, Cond.selects RX4 yX4_about yX4_about, Cond.initialized RX4, Cond.code yX4_about cX4_about 3 (some .long), Cond.classLink RX4 159 "java/lang/IndexOutOfBoundsException", Cond.initialized "java/lang/IndexOutOfBoundsException", Cond.classLink RX4 46 "java/lang/IllegalArgumentException", Cond.initialized "java/lang/IllegalArgumentException", Cond.fieldLink RX4 10 "Bookinghouse" "ledger" "LBookinghouse$Ledger;", Cond.methodLink RX4 67 yX2_size, Cond.instanceMethod yX2_size, Cond.selects RX2 yX2_size yX2_size, Cond.initialized RX2, Cond.code yX2_size cX2_size 1 (some .int), Cond.fieldLink RX2 14 "Bookinghouse$Ledger" "times" "LBookinghouse$Row;", Cond.methodLink RX2 32 yX3_size, Cond.instanceMethod yX3_size, Cond.selects RX3 yX3_size yX3_size, Cond.initialized RX3, Cond.code yX3_size cX3_size 1 (some .int), Cond.fieldLink RX3 19 "Bookinghouse$Row" "size" "I"]
def wsL_about_r2 : List Cond := [Cond.methodLink RX4 61 yX4_isIn, Cond.static yX4_isIn, Cond.code yX4_isIn cX4_isIn 3 (some .boolean), Cond.methodLink RX4 113 yX3_get, Cond.instanceMethod yX3_get, Cond.selects RX3 yX3_get yX3_get, Cond.code yX3_get cX3_get 2 (some .int), Cond.fieldLink RX3 13 "Bookinghouse$Row" "items" "[I", Cond.methodLink RX3 23 yX3_holds, Cond.instanceMethod yX3_holds, Cond.selects RX3 yX3_holds yX3_holds, Cond.code yX3_holds cX3_holds 2 (some .boolean)]
def wsL_about : List Cond := .codeWith yL_about cL_about 5 (some .int) [(0, 9, 12, 13), (0, 9, 16, 15)] :: ((wsL_about_r1 ++ wsL_about_r2) ++ wsX40 ++ wsX20 ++ wsX30 ++ (vx_atM "java/lang/ArrayIndexOutOfBoundsException" ["java/lang/IndexOutOfBoundsException", "java/lang/RuntimeException", "java/lang/Exception"]).filter goodWord ++ (vx_atS RX4 163 "java/lang/IndexOutOfBoundsException" ["java/lang/RuntimeException", "java/lang/Exception"]).filter goodWord ++ (vx_atS RX4 50 "java/lang/IllegalArgumentException" ["java/lang/RuntimeException", "java/lang/Exception"]).filter goodWord)
def wsL_crowd_r1 : List Cond := [Cond.classLink RL 13 "java/lang/IndexOutOfBoundsException", Cond.methodLink RL 75 yX4_crowd, Cond.instanceMethod yX4_crowd, Cond.selects RX4 yX4_crowd yX4_crowd, Cond.initialized RX4, Cond.code yX4_crowd cX4_crowd 3 (some .int), Cond.methodLink RX4 32 yX4_houseAt, Cond.instanceMethod yX4_houseAt, Cond.selects RX4 yX4_houseAt yX4_houseAt, Cond.code yX4_houseAt cX4_houseAt 2 (some (.object "Bookinghouse$House")), Cond.classLink RX4 159 "java/lang/IndexOutOfBoundsException", Cond.initialized "java/lang/IndexOutOfBoundsException", Cond.fieldLink RX4 18 "Bookinghouse" "houses" "[LBookinghouse$House;", Cond.methodLink RX4 181 yX0_at, Cond.instanceMethod yX0_at, Cond.selects RX0 yX0_at yX0_at, Cond.initialized RX0, Cond.code yX0_at cX0_at 4 (some .int), Cond.fieldLink RX0 14 "Bookinghouse$Crowd" "times" "LBookinghouse$Row;", Cond.fieldLink RX0 20 "Bookinghouse$Crowd" "changes" "LBookinghouse$Row;", Cond.methodLink RX0 26 yX3_size, Cond.instanceMethod yX3_size, Cond.selects RX3 yX3_size yX3_size, Cond.initialized RX3]
def wsL_crowd_r2 : List Cond := [Cond.code yX3_size cX3_size 1 (some .int), Cond.fieldLink RX3 19 "Bookinghouse$Row" "size" "I", Cond.methodLink RX0 38 yX3_get, Cond.instanceMethod yX3_get, Cond.selects RX3 yX3_get yX3_get, Cond.code yX3_get cX3_get 2 (some .int), Cond.fieldLink RX3 13 "Bookinghouse$Row" "items" "[I", Cond.methodLink RX3 23 yX3_holds, Cond.instanceMethod yX3_holds, Cond.selects RX3 yX3_holds yX3_holds, Cond.code yX3_holds cX3_holds 2 (some .boolean)]
def wsL_crowd : List Cond := .codeWith yL_crowd cL_crowd 5 (some .int) [(0, 10, 13, 13)] :: ((wsL_crowd_r1 ++ wsL_crowd_r2) ++ wsX10 ++ wsX40 ++ wsX00 ++ wsX30 ++ (vx_atM "java/lang/ArrayIndexOutOfBoundsException" ["java/lang/IndexOutOfBoundsException", "java/lang/RuntimeException", "java/lang/Exception"]).filter goodWord ++ (vx_atS RX4 163 "java/lang/IndexOutOfBoundsException" ["java/lang/RuntimeException", "java/lang/Exception"]).filter goodWord)
def wsL_change_r1 : List Cond := [Cond.classLink RL 13 "java/lang/IndexOutOfBoundsException", Cond.methodLink RL 78 yX4_change, Cond.instanceMethod yX4_change, Cond.selects RX4 yX4_change yX4_change, Cond.initialized RX4, Cond.code yX4_change cX4_change 3 (some .int), Cond.methodLink RX4 32 yX4_houseAt, Cond.instanceMethod yX4_houseAt, Cond.selects RX4 yX4_houseAt yX4_houseAt, Cond.code yX4_houseAt cX4_houseAt 2 (some (.object "Bookinghouse$House")), Cond.classLink RX4 159 "java/lang/IndexOutOfBoundsException", Cond.initialized "java/lang/IndexOutOfBoundsException", Cond.fieldLink RX4 18 "Bookinghouse" "houses" "[LBookinghouse$House;", Cond.methodLink RX4 184 yX0_changeAt, Cond.instanceMethod yX0_changeAt, Cond.selects RX0 yX0_changeAt yX0_changeAt, Cond.initialized RX0, Cond.code yX0_changeAt cX0_changeAt 3 (some .int), Cond.fieldLink RX0 14 "Bookinghouse$Crowd" "times" "LBookinghouse$Row;", Cond.fieldLink RX0 20 "Bookinghouse$Crowd" "changes" "LBookinghouse$Row;", Cond.methodLink RX0 51 yX3_placeOf, Cond.instanceMethod yX3_placeOf, Cond.selects RX3 yX3_placeOf yX3_placeOf, Cond.initialized RX3]
def wsL_change_r2 : List Cond := [Cond.code yX3_placeOf cX3_placeOf 3 (some .int), Cond.fieldLink RX3 19 "Bookinghouse$Row" "size" "I", Cond.methodLink RX3 37 yX3_get, Cond.instanceMethod yX3_get, Cond.selects RX3 yX3_get yX3_get, Cond.code yX3_get cX3_get 2 (some .int), Cond.fieldLink RX3 13 "Bookinghouse$Row" "items" "[I", Cond.methodLink RX3 23 yX3_holds, Cond.instanceMethod yX3_holds, Cond.selects RX3 yX3_holds yX3_holds, Cond.code yX3_holds cX3_holds 2 (some .boolean), Cond.methodLink RX0 38 yX3_get]
def wsL_change : List Cond := .codeWith yL_change cL_change 5 (some .int) [(0, 10, 13, 13)] :: ((wsL_change_r1 ++ wsL_change_r2) ++ wsX10 ++ wsX40 ++ wsX00 ++ wsX30 ++ (vx_atM "java/lang/ArrayIndexOutOfBoundsException" ["java/lang/IndexOutOfBoundsException", "java/lang/RuntimeException", "java/lang/Exception"]).filter goodWord ++ (vx_atS RX4 163 "java/lang/IndexOutOfBoundsException" ["java/lang/RuntimeException", "java/lang/Exception"]).filter goodWord)
def wsL_greatest_r1 : List Cond := [Cond.classLink RL 13 "java/lang/IndexOutOfBoundsException", Cond.methodLink RL 81 yX4_greatest, Cond.instanceMethod yX4_greatest, Cond.selects RX4 yX4_greatest yX4_greatest, Cond.initialized RX4, Cond.code yX4_greatest cX4_greatest 2 (some .int), Cond.methodLink RX4 32 yX4_houseAt, Cond.instanceMethod yX4_houseAt, Cond.selects RX4 yX4_houseAt yX4_houseAt, Cond.code yX4_houseAt cX4_houseAt 2 (some (.object "Bookinghouse$House")), Cond.classLink RX4 159 "java/lang/IndexOutOfBoundsException", Cond.initialized "java/lang/IndexOutOfBoundsException", Cond.fieldLink RX4 18 "Bookinghouse" "houses" "[LBookinghouse$House;", Cond.methodLink RX4 187 yX0_highest, Cond.instanceMethod yX0_highest, Cond.selects RX0 yX0_highest yX0_highest, Cond.initialized RX0, Cond.code yX0_highest cX0_highest 4 (some .int), Cond.fieldLink RX0 14 "Bookinghouse$Crowd" "times" "LBookinghouse$Row;", Cond.fieldLink RX0 20 "Bookinghouse$Crowd" "changes" "LBookinghouse$Row;", Cond.methodLink RX0 54 Lib.Math.max.name, Cond.static Lib.Math.max.name, Cond.initialized "java/lang/Math", Cond.code Lib.Math.max.name Lib.Math.max.code 2 (some .int)]
def wsL_greatest_r2 : List Cond := [Cond.methodLink RX0 26 yX3_size, Cond.instanceMethod yX3_size, Cond.selects RX3 yX3_size yX3_size, Cond.initialized RX3, Cond.code yX3_size cX3_size 1 (some .int), Cond.fieldLink RX3 19 "Bookinghouse$Row" "size" "I", Cond.methodLink RX0 38 yX3_get, Cond.instanceMethod yX3_get, Cond.selects RX3 yX3_get yX3_get, Cond.code yX3_get cX3_get 2 (some .int), Cond.fieldLink RX3 13 "Bookinghouse$Row" "items" "[I", Cond.methodLink RX3 23 yX3_holds, Cond.instanceMethod yX3_holds, Cond.selects RX3 yX3_holds yX3_holds, Cond.code yX3_holds cX3_holds 2 (some .boolean)]
def wsL_greatest : List Cond := .codeWith yL_greatest cL_greatest 4 (some .int) [(0, 9, 12, 13)] :: ((wsL_greatest_r1 ++ wsL_greatest_r2) ++ wsX10 ++ wsX40 ++ wsX00 ++ wsX30 ++ (vx_atM "java/lang/ArrayIndexOutOfBoundsException" ["java/lang/IndexOutOfBoundsException", "java/lang/RuntimeException", "java/lang/Exception"]).filter goodWord ++ (vx_atS RX4 163 "java/lang/IndexOutOfBoundsException" ["java/lang/RuntimeException", "java/lang/Exception"]).filter goodWord)
def wsL_greatestFrom_r1 : List Cond := [Cond.classLink RL 13 "java/lang/IndexOutOfBoundsException", Cond.classLink RL 34 "java/util/NoSuchElementException", Cond.methodLink RL 84 yX4_greatestFrom, Cond.instanceMethod yX4_greatestFrom, Cond.selects RX4 yX4_greatestFrom yX4_greatestFrom, Cond.initialized RX4, Cond.code yX4_greatestFrom cX4_greatestFrom 3 (some .int), Cond.classLink RX4 96 "java/util/NoSuchElementException", Cond.initialized "java/util/NoSuchElementException", Cond.methodLink RX4 32 yX4_houseAt, Cond.instanceMethod yX4_houseAt, Cond.selects RX4 yX4_houseAt yX4_houseAt, Cond.code yX4_houseAt cX4_houseAt 2 (some (.object "Bookinghouse$House")), Cond.classLink RX4 159 "java/lang/IndexOutOfBoundsException", Cond.initialized "java/lang/IndexOutOfBoundsException", Cond.fieldLink RX4 18 "Bookinghouse" "houses" "[LBookinghouse$House;", Cond.methodLink RX4 190 yX0_isEmpty, Cond.instanceMethod yX0_isEmpty, Cond.selects RX0 yX0_isEmpty yX0_isEmpty, Cond.initialized RX0, Cond.code yX0_isEmpty cX0_isEmpty 1 (some .boolean), Cond.fieldLink RX0 14 "Bookinghouse$Crowd" "times" "LBookinghouse$Row;", Cond.methodLink RX0 26 yX3_size, Cond.instanceMethod yX3_size]
def wsL_greatestFrom_r2 : List Cond := [Cond.selects RX3 yX3_size yX3_size, Cond.initialized RX3, Cond.code yX3_size cX3_size 1 (some .int), Cond.fieldLink RX3 19 "Bookinghouse$Row" "size" "I", Cond.methodLink RX4 196 yX0_highestFrom, Cond.instanceMethod yX0_highestFrom, Cond.selects RX0 yX0_highestFrom yX0_highestFrom, Cond.code yX0_highestFrom cX0_highestFrom 5 (some .int), Cond.fieldLink RX0 20 "Bookinghouse$Crowd" "changes" "LBookinghouse$Row;", Cond.methodLink RX0 38 yX3_get, Cond.instanceMethod yX3_get, Cond.selects RX3 yX3_get yX3_get, Cond.code yX3_get cX3_get 2 (some .int), Cond.fieldLink RX3 13 "Bookinghouse$Row" "items" "[I", Cond.methodLink RX3 23 yX3_holds, Cond.instanceMethod yX3_holds, Cond.selects RX3 yX3_holds yX3_holds, Cond.code yX3_holds cX3_holds 2 (some .boolean)]
def wsL_greatestFrom : List Cond := .codeWith yL_greatestFrom cL_greatestFrom 4 (some .int) [(0, 9, 12, 13), (0, 9, 15, 34)] :: ((wsL_greatestFrom_r1 ++ wsL_greatestFrom_r2) ++ wsX10 ++ wsX40 ++ wsX00 ++ wsX30 ++ (vx_atM "java/lang/ArrayIndexOutOfBoundsException" ["java/lang/IndexOutOfBoundsException", "java/lang/RuntimeException", "java/lang/Exception"]).filter goodWord ++ (ntAt RX4 100 "java/util/NoSuchElementException" 13 prog_20_method_4_code ["java/lang/RuntimeException", "java/lang/Exception"]).filter goodWord ++ (vx_atS RX4 163 "java/lang/IndexOutOfBoundsException" ["java/lang/RuntimeException", "java/lang/Exception"]).filter goodWord)
def wsL_busy_r1 : List Cond := [Cond.classLink RL 13 "java/lang/IndexOutOfBoundsException", Cond.classLink RL 15 "java/lang/IllegalArgumentException", Cond.methodLink RL 87 yX4_busy, Cond.instanceMethod yX4_busy, Cond.selects RX4 yX4_busy yX4_busy, Cond.initialized RX4, Cond.code yX4_busy cX4_busy 5 (some .int), Cond.methodLink RX4 32 yX4_houseAt, Cond.instanceMethod yX4_houseAt, Cond.selects RX4 yX4_houseAt yX4_houseAt, Cond.code yX4_houseAt cX4_houseAt 2 (some (.object "Bookinghouse$House")), Cond.classLink RX4 159 "java/lang/IndexOutOfBoundsException", Cond.initialized "java/lang/IndexOutOfBoundsException", Cond.fieldLink RX4 18 "Bookinghouse" "houses" "[LBookinghouse$House;", Cond.methodLink RX4 85 yX4_refuseIfTurned, Cond.static yX4_refuseIfTurned, Cond.code yX4_refuseIfTurned cX4_refuseIfTurned 2 none, Cond.classLink RX4 46 "java/lang/IllegalArgumentException", Cond.initialized "java/lang/IllegalArgumentException", Cond.methodLink RX4 199 yX0_busyTimes, Cond.instanceMethod yX0_busyTimes, Cond.selects RX0 yX0_busyTimes yX0_busyTimes, Cond.initialized RX0, Cond.code yX0_busyTimes cX0_busyTimes 8 (some .int)]
def wsL_busy_r2 : List Cond := [Cond.fieldLink RX0 14 "Bookinghouse$Crowd" "times" "LBookinghouse$Row;", Cond.fieldLink RX0 20 "Bookinghouse$Crowd" "changes" "LBookinghouse$Row;", Cond.methodLink RX0 54 Lib.Math.max.name, Cond.static Lib.Math.max.name, Cond.initialized "java/lang/Math", Cond.code Lib.Math.max.name Lib.Math.max.code 2 (some .int), Cond.methodLink RX0 63 Lib.Math.min.name, Cond.static Lib.Math.min.name, Cond.code Lib.Math.min.name Lib.Math.min.code 2 (some .int), Cond.methodLink RX0 26 yX3_size, Cond.instanceMethod yX3_size, Cond.selects RX3 yX3_size yX3_size, Cond.initialized RX3, Cond.code yX3_size cX3_size 1 (some .int), Cond.fieldLink RX3 19 "Bookinghouse$Row" "size" "I", Cond.methodLink RX0 38 yX3_get, Cond.instanceMethod yX3_get, Cond.selects RX3 yX3_get yX3_get, Cond.code yX3_get cX3_get 2 (some .int), Cond.fieldLink RX3 13 "Bookinghouse$Row" "items" "[I", Cond.methodLink RX3 23 yX3_holds, Cond.instanceMethod yX3_holds, Cond.selects RX3 yX3_holds yX3_holds, Cond.code yX3_holds cX3_holds 2 (some .boolean)]
def wsL_busy : List Cond := .codeWith yL_busy cL_busy 6 (some .int) [(0, 12, 15, 13), (0, 12, 19, 15)] :: ((wsL_busy_r1 ++ wsL_busy_r2) ++ wsX10 ++ wsX40 ++ wsX00 ++ wsX30 ++ (vx_atM "java/lang/ArrayIndexOutOfBoundsException" ["java/lang/IndexOutOfBoundsException", "java/lang/RuntimeException", "java/lang/Exception"]).filter goodWord ++ (vx_atS RX4 163 "java/lang/IndexOutOfBoundsException" ["java/lang/RuntimeException", "java/lang/Exception"]).filter goodWord ++ (vx_atS RX4 50 "java/lang/IllegalArgumentException" ["java/lang/RuntimeException", "java/lang/Exception"]).filter goodWord)
def wsL_spans_r1 : List Cond := [Cond.classLink RL 13 "java/lang/IndexOutOfBoundsException", Cond.methodLink RL 90 yX4_spans, Cond.instanceMethod yX4_spans, Cond.selects RX4 yX4_spans yX4_spans, Cond.initialized RX4, Cond.code yX4_spans cX4_spans 2 (some .int), Cond.methodLink RX4 32 yX4_houseAt, Cond.instanceMethod yX4_houseAt, Cond.selects RX4 yX4_houseAt yX4_houseAt, Cond.code yX4_houseAt cX4_houseAt 2 (some (.object "Bookinghouse$House")), Cond.classLink RX4 159 "java/lang/IndexOutOfBoundsException", Cond.initialized "java/lang/IndexOutOfBoundsException", Cond.fieldLink RX4 18 "Bookinghouse" "houses" "[LBookinghouse$House;", Cond.methodLink RX4 203 yX0_busySpans, Cond.instanceMethod yX0_busySpans, Cond.selects RX0 yX0_busySpans yX0_busySpans, Cond.initialized RX0, Cond.code yX0_busySpans cX0_busySpans 4 (some .int), Cond.fieldLink RX0 14 "Bookinghouse$Crowd" "times" "LBookinghouse$Row;", Cond.fieldLink RX0 20 "Bookinghouse$Crowd" "changes" "LBookinghouse$Row;", Cond.methodLink RX0 26 yX3_size, Cond.instanceMethod yX3_size, Cond.selects RX3 yX3_size yX3_size, Cond.initialized RX3]
def wsL_spans_r2 : List Cond := [Cond.code yX3_size cX3_size 1 (some .int), Cond.fieldLink RX3 19 "Bookinghouse$Row" "size" "I", Cond.methodLink RX0 38 yX3_get, Cond.instanceMethod yX3_get, Cond.selects RX3 yX3_get yX3_get, Cond.code yX3_get cX3_get 2 (some .int), Cond.fieldLink RX3 13 "Bookinghouse$Row" "items" "[I", Cond.methodLink RX3 23 yX3_holds, Cond.instanceMethod yX3_holds, Cond.selects RX3 yX3_holds yX3_holds, Cond.code yX3_holds cX3_holds 2 (some .boolean)]
def wsL_spans : List Cond := .codeWith yL_spans cL_spans 4 (some .int) [(0, 9, 12, 13)] :: ((wsL_spans_r1 ++ wsL_spans_r2) ++ wsX10 ++ wsX40 ++ wsX00 ++ wsX30 ++ (vx_atM "java/lang/ArrayIndexOutOfBoundsException" ["java/lang/IndexOutOfBoundsException", "java/lang/RuntimeException", "java/lang/Exception"]).filter goodWord ++ (vx_atS RX4 163 "java/lang/IndexOutOfBoundsException" ["java/lang/RuntimeException", "java/lang/Exception"]).filter goodWord)
def wsL_span_r1 : List Cond := [Cond.classLink RL 13 "java/lang/IndexOutOfBoundsException", Cond.classLink RL 15 "java/lang/IllegalArgumentException", Cond.classLink RL 34 "java/util/NoSuchElementException", Cond.methodLink RL 93 yX4_span, Cond.instanceMethod yX4_span, Cond.selects RX4 yX4_span yX4_span, Cond.initialized RX4, Cond.code yX4_span cX4_span 6 (some .int), Cond.classLink RX4 46 "java/lang/IllegalArgumentException", Cond.initialized "java/lang/IllegalArgumentException", Cond.classLink RX4 96 "java/util/NoSuchElementException", Cond.initialized "java/util/NoSuchElementException", Cond.methodLink RX4 32 yX4_houseAt, Cond.instanceMethod yX4_houseAt, Cond.selects RX4 yX4_houseAt yX4_houseAt, Cond.code yX4_houseAt cX4_houseAt 2 (some (.object "Bookinghouse$House")), Cond.classLink RX4 159 "java/lang/IndexOutOfBoundsException", Cond.initialized "java/lang/IndexOutOfBoundsException", Cond.fieldLink RX4 18 "Bookinghouse" "houses" "[LBookinghouse$House;", Cond.methodLink RX4 208 yX0_firstChangeOf, Cond.instanceMethod yX0_firstChangeOf, Cond.selects RX0 yX0_firstChangeOf yX0_firstChangeOf, Cond.initialized RX0, Cond.code yX0_firstChangeOf cX0_firstChangeOf 5 (some .int)]
def wsL_span_r2 : List Cond := [Cond.fieldLink RX0 14 "Bookinghouse$Crowd" "times" "LBookinghouse$Row;", Cond.fieldLink RX0 20 "Bookinghouse$Crowd" "changes" "LBookinghouse$Row;", Cond.methodLink RX0 26 yX3_size, Cond.instanceMethod yX3_size, Cond.selects RX3 yX3_size yX3_size, Cond.initialized RX3, Cond.code yX3_size cX3_size 1 (some .int), Cond.fieldLink RX3 19 "Bookinghouse$Row" "size" "I", Cond.methodLink RX0 38 yX3_get, Cond.instanceMethod yX3_get, Cond.selects RX3 yX3_get yX3_get, Cond.code yX3_get cX3_get 2 (some .int), Cond.fieldLink RX3 13 "Bookinghouse$Row" "items" "[I", Cond.methodLink RX3 23 yX3_holds, Cond.instanceMethod yX3_holds, Cond.selects RX3 yX3_holds yX3_holds, Cond.code yX3_holds cX3_holds 2 (some .boolean), Cond.methodLink RX4 113 yX3_get, Cond.methodLink RX4 214 yX0_endOfSpan, Cond.instanceMethod yX0_endOfSpan, Cond.selects RX0 yX0_endOfSpan yX0_endOfSpan, Cond.code yX0_endOfSpan cX0_endOfSpan 4 (some .int), Cond.methodLink RX4 217 yX0_highestOfSpan, Cond.instanceMethod yX0_highestOfSpan]
def wsL_span_r3 : List Cond := [Cond.selects RX0 yX0_highestOfSpan yX0_highestOfSpan, Cond.code yX0_highestOfSpan cX0_highestOfSpan 5 (some .int), Cond.methodLink RX0 54 Lib.Math.max.name, Cond.static Lib.Math.max.name, Cond.initialized "java/lang/Math", Cond.code Lib.Math.max.name Lib.Math.max.code 2 (some .int)]
def wsL_span : List Cond := .codeWith yL_span cL_span 6 (some .int) [(0, 12, 15, 13), (0, 12, 19, 15), (0, 12, 23, 34)] :: ((wsL_span_r1 ++ (wsL_span_r2 ++ wsL_span_r3)) ++ wsX10 ++ wsX00 ++ wsX40 ++ wsX30 ++ (vx_atM "java/lang/ArrayIndexOutOfBoundsException" ["java/lang/IndexOutOfBoundsException", "java/lang/RuntimeException", "java/lang/Exception"]).filter goodWord ++ (vx_atS RX4 50 "java/lang/IllegalArgumentException" ["java/lang/RuntimeException", "java/lang/Exception"]).filter goodWord ++ (ntAt RX4 100 "java/util/NoSuchElementException" 13 prog_20_method_4_code ["java/lang/RuntimeException", "java/lang/Exception"]).filter goodWord ++ (vx_atS RX4 163 "java/lang/IndexOutOfBoundsException" ["java/lang/RuntimeException", "java/lang/Exception"]).filter goodWord)
def wsL_free_r1 : List Cond := [Cond.classLink RL 13 "java/lang/IndexOutOfBoundsException", Cond.classLink RL 15 "java/lang/IllegalArgumentException", Cond.methodLink RL 97 yX4_free, Cond.instanceMethod yX4_free, Cond.selects RX4 yX4_free yX4_free, Cond.initialized RX4, Cond.code yX4_free cX4_free 5 (some .int), Cond.classLink RX4 46 "java/lang/IllegalArgumentException", Cond.initialized "java/lang/IllegalArgumentException", Cond.methodLink RX4 32 yX4_houseAt, Cond.instanceMethod yX4_houseAt, Cond.selects RX4 yX4_houseAt yX4_houseAt, Cond.code yX4_houseAt cX4_houseAt 2 (some (.object "Bookinghouse$House")), Cond.classLink RX4 159 "java/lang/IndexOutOfBoundsException", Cond.initialized "java/lang/IndexOutOfBoundsException", Cond.fieldLink RX4 18 "Bookinghouse" "houses" "[LBookinghouse$House;", Cond.methodLink RX4 61 yX4_isIn, Cond.static yX4_isIn, Cond.code yX4_isIn cX4_isIn 3 (some .boolean), Cond.methodLink RX4 222 yX0_freeFrom, Cond.instanceMethod yX0_freeFrom, Cond.selects RX0 yX0_freeFrom yX0_freeFrom, Cond.initialized RX0, Cond.code yX0_freeFrom cX0_freeFrom 6 (some .int)]
def wsL_free_r2 : List Cond := [Cond.fieldLink RX0 14 "Bookinghouse$Crowd" "times" "LBookinghouse$Row;", Cond.fieldLink RX0 20 "Bookinghouse$Crowd" "changes" "LBookinghouse$Row;", Cond.methodLink RX0 54 Lib.Math.max.name, Cond.static Lib.Math.max.name, Cond.initialized "java/lang/Math", Cond.code Lib.Math.max.name Lib.Math.max.code 2 (some .int), Cond.methodLink RX0 26 yX3_size, Cond.instanceMethod yX3_size, Cond.selects RX3 yX3_size yX3_size, Cond.initialized RX3, Cond.code yX3_size cX3_size 1 (some .int), Cond.fieldLink RX3 19 "Bookinghouse$Row" "size" "I", Cond.methodLink RX0 38 yX3_get, Cond.instanceMethod yX3_get, Cond.selects RX3 yX3_get yX3_get, Cond.code yX3_get cX3_get 2 (some .int), Cond.fieldLink RX3 13 "Bookinghouse$Row" "items" "[I", Cond.methodLink RX3 23 yX3_holds, Cond.instanceMethod yX3_holds, Cond.selects RX3 yX3_holds yX3_holds, Cond.code yX3_holds cX3_holds 2 (some .boolean)]
def wsL_free : List Cond := .codeWith yL_free cL_free 6 (some .int) [(0, 12, 15, 13), (0, 12, 19, 15)] :: ((wsL_free_r1 ++ wsL_free_r2) ++ wsX10 ++ wsX40 ++ wsX00 ++ wsX30 ++ (vx_atM "java/lang/ArrayIndexOutOfBoundsException" ["java/lang/IndexOutOfBoundsException", "java/lang/RuntimeException", "java/lang/Exception"]).filter goodWord ++ (vx_atS RX4 50 "java/lang/IllegalArgumentException" ["java/lang/RuntimeException", "java/lang/Exception"]).filter goodWord ++ (vx_atS RX4 163 "java/lang/IndexOutOfBoundsException" ["java/lang/RuntimeException", "java/lang/Exception"]).filter goodWord)
def wsL_load_r1 : List Cond := [Cond.classLink RL 13 "java/lang/IndexOutOfBoundsException", Cond.methodLink RL 100 yX4_load, Cond.instanceMethod yX4_load, Cond.selects RX4 yX4_load yX4_load, Cond.initialized RX4, Cond.code yX4_load cX4_load 2 (some .long), Cond.methodLink RX4 32 yX4_houseAt, Cond.instanceMethod yX4_houseAt, Cond.selects RX4 yX4_houseAt yX4_houseAt, Cond.code yX4_houseAt cX4_houseAt 2 (some (.object "Bookinghouse$House")), Cond.classLink RX4 159 "java/lang/IndexOutOfBoundsException", Cond.initialized "java/lang/IndexOutOfBoundsException", Cond.fieldLink RX4 18 "Bookinghouse" "houses" "[LBookinghouse$House;", Cond.methodLink RX4 225 yX0_total, Cond.instanceMethod yX0_total, Cond.selects RX0 yX0_total yX0_total, Cond.initialized RX0, Cond.code yX0_total cX0_total 5 (some .long), Cond.fieldLink RX0 14 "Bookinghouse$Crowd" "times" "LBookinghouse$Row;", Cond.fieldLink RX0 20 "Bookinghouse$Crowd" "changes" "LBookinghouse$Row;", Cond.methodLink RX0 26 yX3_size, Cond.instanceMethod yX3_size, Cond.selects RX3 yX3_size yX3_size, Cond.initialized RX3]
def wsL_load_r2 : List Cond := [Cond.code yX3_size cX3_size 1 (some .int), Cond.fieldLink RX3 19 "Bookinghouse$Row" "size" "I", Cond.methodLink RX0 38 yX3_get, Cond.instanceMethod yX3_get, Cond.selects RX3 yX3_get yX3_get, Cond.code yX3_get cX3_get 2 (some .int), Cond.fieldLink RX3 13 "Bookinghouse$Row" "items" "[I", Cond.methodLink RX3 23 yX3_holds, Cond.instanceMethod yX3_holds, Cond.selects RX3 yX3_holds yX3_holds, Cond.code yX3_holds cX3_holds 2 (some .boolean)]
def wsL_load : List Cond := .codeWith yL_load cL_load 4 (some .int) [(0, 8, 11, 13)] :: ((wsL_load_r1 ++ wsL_load_r2) ++ wsX10 ++ wsX40 ++ wsX00 ++ wsX30 ++ (vx_atM "java/lang/ArrayIndexOutOfBoundsException" ["java/lang/IndexOutOfBoundsException", "java/lang/RuntimeException", "java/lang/Exception"]).filter goodWord ++ (vx_atS RX4 163 "java/lang/IndexOutOfBoundsException" ["java/lang/RuntimeException", "java/lang/Exception"]).filter goodWord)
def wsL_mean_r1 : List Cond := [Cond.classLink RL 13 "java/lang/IndexOutOfBoundsException", Cond.classLink RL 108 "java/lang/ArithmeticException", Cond.methodLink RL 104 yX4_mean, Cond.instanceMethod yX4_mean, Cond.selects RX4 yX4_mean yX4_mean, Cond.initialized RX4, Cond.code yX4_mean cX4_mean 4 (some .double), Cond.classLink RX4 232 "java/lang/ArithmeticException", Cond.initialized "java/lang/ArithmeticException", Cond.methodLink RX4 32 yX4_houseAt, Cond.instanceMethod yX4_houseAt, Cond.selects RX4 yX4_houseAt yX4_houseAt, Cond.code yX4_houseAt cX4_houseAt 2 (some (.object "Bookinghouse$House")), Cond.classLink RX4 159 "java/lang/IndexOutOfBoundsException", Cond.initialized "java/lang/IndexOutOfBoundsException", Cond.fieldLink RX4 18 "Bookinghouse" "houses" "[LBookinghouse$House;", Cond.methodLink RX4 229 yX0_allBusyTimes, Cond.instanceMethod yX0_allBusyTimes, Cond.selects RX0 yX0_allBusyTimes yX0_allBusyTimes, Cond.initialized RX0, Cond.code yX0_allBusyTimes cX0_allBusyTimes 1 (some .int), Cond.fieldLink RX0 14 "Bookinghouse$Crowd" "times" "LBookinghouse$Row;", Cond.methodLink RX0 26 yX3_size, Cond.instanceMethod yX3_size]
def wsL_mean_r2 : List Cond := [Cond.selects RX3 yX3_size yX3_size, Cond.initialized RX3, Cond.code yX3_size cX3_size 1 (some .int), Cond.fieldLink RX3 19 "Bookinghouse$Row" "size" "I", Cond.methodLink RX0 38 yX3_get, Cond.instanceMethod yX3_get, Cond.selects RX3 yX3_get yX3_get, Cond.code yX3_get cX3_get 2 (some .int), Cond.fieldLink RX3 13 "Bookinghouse$Row" "items" "[I", Cond.methodLink RX3 23 yX3_holds, Cond.instanceMethod yX3_holds, Cond.selects RX3 yX3_holds yX3_holds, Cond.code yX3_holds cX3_holds 2 (some .boolean), Cond.methodLink RX0 60 yX0_busyTimes, Cond.instanceMethod yX0_busyTimes, Cond.selects RX0 yX0_busyTimes yX0_busyTimes, Cond.code yX0_busyTimes cX0_busyTimes 8 (some .int), Cond.fieldLink RX0 20 "Bookinghouse$Crowd" "changes" "LBookinghouse$Row;", Cond.methodLink RX0 54 Lib.Math.max.name, Cond.static Lib.Math.max.name, Cond.initialized "java/lang/Math", Cond.code Lib.Math.max.name Lib.Math.max.code 2 (some .int), Cond.methodLink RX0 63 Lib.Math.min.name, Cond.static Lib.Math.min.name]
def wsL_mean_r3 : List Cond := [Cond.code Lib.Math.min.name Lib.Math.min.code 2 (some .int), Cond.methodLink RX4 225 yX0_total, Cond.instanceMethod yX0_total, Cond.selects RX0 yX0_total yX0_total, Cond.code yX0_total cX0_total 5 (some .long)]
def wsL_mean : List Cond := .codeWith yL_mean cL_mean 4 (some .int) [(0, 8, 11, 13), (0, 8, 14, 108)] :: ((wsL_mean_r1 ++ (wsL_mean_r2 ++ wsL_mean_r3)) ++ wsX10 ++ wsX40 ++ wsX00 ++ wsX30 ++ (vx_atM "java/lang/ArrayIndexOutOfBoundsException" ["java/lang/IndexOutOfBoundsException", "java/lang/RuntimeException", "java/lang/Exception"]).filter goodWord ++ (vx_atS RX4 234 "java/lang/ArithmeticException" ["java/lang/RuntimeException", "java/lang/Exception"]).filter goodWord ++ (vx_atS RX4 163 "java/lang/IndexOutOfBoundsException" ["java/lang/RuntimeException", "java/lang/Exception"]).filter goodWord)
def wsL_share : List Cond := .codeWith yL_share cL_share 4 (some .int) [(0, 9, 12, 13), (0, 9, 15, 108)] :: ([.classLink RL 13 "java/lang/IndexOutOfBoundsException", .classLink RL 108 "java/lang/ArithmeticException", .methodLink RL 110 yX4_share, .instanceMethod yX4_share, .selects RX4 yX4_share yX4_share, .initialized RX4, .code yX4_share cX4_share 4 (some .float), .classLink RX4 232 "java/lang/ArithmeticException", .initialized "java/lang/ArithmeticException", .methodLink RX4 32 yX4_houseAt, .instanceMethod yX4_houseAt, .selects RX4 yX4_houseAt yX4_houseAt, .code yX4_houseAt cX4_houseAt 2 (some (.object "Bookinghouse$House")), .classLink RX4 159 "java/lang/IndexOutOfBoundsException", .initialized "java/lang/IndexOutOfBoundsException", .fieldLink RX4 18 "Bookinghouse" "houses" "[LBookinghouse$House;", .methodLink RX4 132 yX3_size, .instanceMethod yX3_size, .selects RX3 yX3_size yX3_size, .initialized RX3, .code yX3_size cX3_size 1 (some .int), .fieldLink RX3 19 "Bookinghouse$Row" "size" "I"] ++ wsX10 ++ wsX40 ++ wsX30 ++ (vx_atM "java/lang/ArrayIndexOutOfBoundsException" ["java/lang/IndexOutOfBoundsException", "java/lang/RuntimeException", "java/lang/Exception"]).filter goodWord ++ (vx_atS RX4 234 "java/lang/ArithmeticException" ["java/lang/RuntimeException", "java/lang/Exception"]).filter goodWord ++ (vx_atS RX4 163 "java/lang/IndexOutOfBoundsException" ["java/lang/RuntimeException", "java/lang/Exception"]).filter goodWord)
def wsL_isQuiet_r1 : List Cond := [Cond.classLink RL 13 "java/lang/IndexOutOfBoundsException", Cond.methodLink RL 114 yX4_isQuiet, Cond.instanceMethod yX4_isQuiet, Cond.selects RX4 yX4_isQuiet yX4_isQuiet, Cond.initialized RX4, Cond.code yX4_isQuiet cX4_isQuiet 3 (some .boolean), Cond.methodLink RX4 32 yX4_houseAt, Cond.instanceMethod yX4_houseAt, Cond.selects RX4 yX4_houseAt yX4_houseAt, Cond.code yX4_houseAt cX4_houseAt 2 (some (.object "Bookinghouse$House")), Cond.classLink RX4 159 "java/lang/IndexOutOfBoundsException", Cond.initialized "java/lang/IndexOutOfBoundsException", Cond.fieldLink RX4 18 "Bookinghouse" "houses" "[LBookinghouse$House;", Cond.methodLink RX4 132 yX3_size, Cond.instanceMethod yX3_size, Cond.selects RX3 yX3_size yX3_size, Cond.initialized RX3, Cond.code yX3_size cX3_size 1 (some .int), Cond.fieldLink RX3 19 "Bookinghouse$Row" "size" "I", Cond.methodLink RX4 237 yX0_isOverAt, Cond.instanceMethod yX0_isOverAt, Cond.selects RX0 yX0_isOverAt yX0_isOverAt, Cond.initialized RX0, Cond.code yX0_isOverAt cX0_isOverAt 2 (some .boolean)]
def wsL_isQuiet_r2 : List Cond := [Cond.fieldLink RX0 14 "Bookinghouse$Crowd" "times" "LBookinghouse$Row;", Cond.methodLink RX0 66 yX0_isEmpty, Cond.instanceMethod yX0_isEmpty, Cond.selects RX0 yX0_isEmpty yX0_isEmpty, Cond.code yX0_isEmpty cX0_isEmpty 1 (some .boolean), Cond.methodLink RX0 26 yX3_size, Cond.methodLink RX0 38 yX3_get, Cond.instanceMethod yX3_get, Cond.selects RX3 yX3_get yX3_get, Cond.code yX3_get cX3_get 2 (some .int), Cond.fieldLink RX3 13 "Bookinghouse$Row" "items" "[I", Cond.methodLink RX3 23 yX3_holds, Cond.instanceMethod yX3_holds, Cond.selects RX3 yX3_holds yX3_holds, Cond.code yX3_holds cX3_holds 2 (some .boolean)]
def wsL_isQuiet : List Cond := .codeWith yL_isQuiet cL_isQuiet 4 (some .int) [(0, 16, 19, 13)] :: ((wsL_isQuiet_r1 ++ wsL_isQuiet_r2) ++ wsX10 ++ wsX40 ++ wsX30 ++ wsX00 ++ (vx_atM "java/lang/ArrayIndexOutOfBoundsException" ["java/lang/IndexOutOfBoundsException", "java/lang/RuntimeException", "java/lang/Exception"]).filter goodWord ++ (vx_atS RX4 163 "java/lang/IndexOutOfBoundsException" ["java/lang/RuntimeException", "java/lang/Exception"]).filter goodWord)
def wsL_law0_r1 : List Cond := [Cond.classLink RL 8 RX4, Cond.instantiable RX4 3, Cond.initialized RX4, Cond.classLink RL 119 RX5, Cond.instantiable RX5 11, Cond.initialized RX5, Cond.arrayClass .long, Cond.arrayClass .double, Cond.methodLink RL 118 yX4_init, Cond.instanceMethod yX4_init, Cond.code yX4_init cX4_init 2 none, Cond.methodLink RX4 1 objectInit, Cond.instanceMethod objectInit, Cond.code objectInit ⟨#[0xb1]⟩ 1 none, Cond.classLink RX4 7 RX2, Cond.instantiable RX2 5, Cond.initialized RX2, Cond.fieldLink RX4 10 "Bookinghouse" "ledger" "LBookinghouse$Ledger;", Cond.classLink RX4 16 RX1, Cond.fieldLink RX4 18 "Bookinghouse" "houses" "[LBookinghouse$House;", Cond.classLink RX4 22 RX0, Cond.instantiable RX0 2, Cond.initialized RX0, Cond.fieldLink RX4 25 "Bookinghouse" "rebuilt" "LBookinghouse$Crowd;"]
def wsL_law0_r2 : List Cond := [Cond.instantiable RX1 5, Cond.initialized RX1, Cond.instanceMethod yX2_init, Cond.code yX2_init cX2_init 1 none, Cond.methodLink RX2 3 objectInit, Cond.classLink RX2 9 RX3, Cond.instantiable RX3 2, Cond.initialized RX3, Cond.fieldLink RX2 14 "Bookinghouse$Ledger" "times" "LBookinghouse$Row;", Cond.fieldLink RX2 20 "Bookinghouse$Ledger" "spans" "LBookinghouse$Row;", Cond.fieldLink RX2 23 "Bookinghouse$Ledger" "weights" "LBookinghouse$Row;", Cond.fieldLink RX2 26 "Bookinghouse$Ledger" "homes" "LBookinghouse$Row;", Cond.fieldLink RX2 29 "Bookinghouse$Ledger" "states" "LBookinghouse$Row;", Cond.methodLink RX2 11 yX3_init, Cond.instanceMethod yX3_init, Cond.code yX3_init cX3_init 2 none, Cond.methodLink RX3 1 objectInit, Cond.methodLink RX3 7 Lib.Math.max.name, Cond.static Lib.Math.max.name, Cond.initialized "java/lang/Math", Cond.code Lib.Math.max.name Lib.Math.max.code 2 (some .int), Cond.arrayClass .int, Cond.fieldLink RX3 13 "Bookinghouse$Row" "items" "[I", Cond.instanceMethod yX0_init]
def wsL_law0_r3 : List Cond := [Cond.code yX0_init cX0_init 1 none, Cond.methodLink RX0 3 objectInit, Cond.classLink RX0 9 RX3, Cond.fieldLink RX0 14 "Bookinghouse$Crowd" "times" "LBookinghouse$Row;", Cond.fieldLink RX0 20 "Bookinghouse$Crowd" "changes" "LBookinghouse$Row;", Cond.methodLink RX0 11 yX3_init, Cond.methodLink RX4 29 yX1_init, Cond.instanceMethod yX1_init, Cond.code yX1_init cX1_init 2 none, Cond.methodLink RX1 3 objectInit, Cond.classLink RX1 9 RX3, Cond.fieldLink RX1 14 "Bookinghouse$House" "queue" "LBookinghouse$Row;", Cond.fieldLink RX1 20 "Bookinghouse$House" "past" "LBookinghouse$Row;", Cond.classLink RX1 23 RX0, Cond.fieldLink RX1 26 "Bookinghouse$House" "crowd" "LBookinghouse$Crowd;", Cond.fieldLink RX1 30 "Bookinghouse$House" "number" "I", Cond.methodLink RX1 11 yX3_init, Cond.methodLink RL 121 yX5_init, Cond.instanceMethod yX5_init, Cond.code yX5_init cX5_init 1 none, Cond.methodLink RX5 1 objectInit, Cond.fieldLink RX5 7 "BookinghouseModel" "time" "[I", Cond.fieldLink RX5 13 "BookinghouseModel" "span" "[I", Cond.fieldLink RX5 16 "BookinghouseModel" "weight" "[I"]
def wsL_law0_r4 : List Cond := [Cond.fieldLink RX5 19 "BookinghouseModel" "home" "[I", Cond.fieldLink RX5 22 "BookinghouseModel" "state" "[I", Cond.fieldLink RX5 25 "BookinghouseModel" "came" "[I", Cond.fieldLink RX5 28 "BookinghouseModel" "clock" "[I", Cond.methodLink RL 122 yL_book, Cond.static yL_book, Cond.initialized RL, Cond.codeWith yL_book cL_book 7 (some .int) [(0, 14, 17, 13), (0, 14, 21, 15), (0, 14, 25, 17)], Cond.classLink RL 13 "java/lang/IndexOutOfBoundsException", Cond.classLink RL 15 "java/lang/IllegalArgumentException", Cond.classLink RL 17 "java/lang/IllegalStateException", Cond.methodLink RL 7 yX4_book, Cond.instanceMethod yX4_book, Cond.selects RX4 yX4_book yX4_book, Cond.code yX4_book cX4_book 6 (some .int), Cond.classLink RX4 46 "java/lang/IllegalArgumentException", Cond.initialized "java/lang/IllegalArgumentException", Cond.methodLink RX4 32 yX4_houseAt, Cond.instanceMethod yX4_houseAt, Cond.selects RX4 yX4_houseAt yX4_houseAt, Cond.code yX4_houseAt cX4_houseAt 2 (some (.object "Bookinghouse$House")), Cond.classLink RX4 159 "java/lang/IndexOutOfBoundsException", Cond.initialized "java/lang/IndexOutOfBoundsException", Cond.methodLink RX4 36 yX4_isTime]
def wsL_law0_r5 : List Cond := [Cond.static yX4_isTime, Cond.code yX4_isTime cX4_isTime 1 (some .boolean), Cond.methodLink RX4 61 yX4_isIn, Cond.static yX4_isIn, Cond.code yX4_isIn cX4_isIn 3 (some .boolean), Cond.methodLink RX4 40 yX4_isSpan, Cond.static yX4_isSpan, Cond.code yX4_isSpan cX4_isSpan 1 (some .boolean), Cond.methodLink RX4 43 yX4_isWeight, Cond.static yX4_isWeight, Cond.code yX4_isWeight cX4_isWeight 1 (some .boolean), Cond.methodLink RX4 53 yX4_refuseIfNoRoom, Cond.instanceMethod yX4_refuseIfNoRoom, Cond.selects RX4 yX4_refuseIfNoRoom yX4_refuseIfNoRoom, Cond.code yX4_refuseIfNoRoom cX4_refuseIfNoRoom 4 none, Cond.classLink RX4 105 "java/lang/IllegalStateException", Cond.initialized "java/lang/IllegalStateException", Cond.methodLink RX4 132 yX3_size, Cond.instanceMethod yX3_size, Cond.selects RX3 yX3_size yX3_size, Cond.code yX3_size cX3_size 1 (some .int), Cond.fieldLink RX3 19 "Bookinghouse$Row" "size" "I", Cond.methodLink RX4 67 yX2_size, Cond.instanceMethod yX2_size]
def wsL_law0_r6 : List Cond := [Cond.selects RX2 yX2_size yX2_size, Cond.code yX2_size cX2_size 1 (some .int), Cond.methodLink RX2 32 yX3_size, Cond.methodLink RX4 57 yX4_make, Cond.instanceMethod yX4_make, Cond.selects RX4 yX4_make yX4_make, Cond.code yX4_make cX4_make 6 (some .int), Cond.methodLink RX4 272 yX2_enter, Cond.instanceMethod yX2_enter, Cond.selects RX2 yX2_enter yX2_enter, Cond.code yX2_enter cX2_enter 4 (some .int), Cond.methodLink RX2 36 yX3_add, Cond.instanceMethod yX3_add, Cond.selects RX3 yX3_add yX3_add, Cond.code yX3_add cX3_add 2 none, Cond.methodLink RX3 27 yX3_insert, Cond.instanceMethod yX3_insert, Cond.selects RX3 yX3_insert yX3_insert, Cond.code yX3_insert cX3_insert 3 none, Cond.methodLink RX3 31 arraycopyName, Cond.native arraycopyName, Cond.static arraycopyName, Cond.initialized "java/lang/System", Cond.methodLink RX4 122 yX4_enqueue]
def wsL_law0_r7 : List Cond := [Cond.instanceMethod yX4_enqueue, Cond.selects RX4 yX4_enqueue yX4_enqueue, Cond.code yX4_enqueue cX4_enqueue 4 none, Cond.methodLink RX4 113 yX3_get, Cond.instanceMethod yX3_get, Cond.selects RX3 yX3_get yX3_get, Cond.code yX3_get cX3_get 2 (some .int), Cond.methodLink RX3 23 yX3_holds, Cond.instanceMethod yX3_holds, Cond.selects RX3 yX3_holds yX3_holds, Cond.code yX3_holds cX3_holds 2 (some .boolean), Cond.methodLink RX4 276 yX2_isAhead, Cond.instanceMethod yX2_isAhead, Cond.selects RX2 yX2_isAhead yX2_isAhead, Cond.code yX2_isAhead cX2_isAhead 5 (some .boolean), Cond.methodLink RX2 39 yX3_get, Cond.methodLink RX4 280 yX3_insert, Cond.methodLink RX4 119 yX3_set, Cond.instanceMethod yX3_set, Cond.selects RX3 yX3_set yX3_set, Cond.code yX3_set cX3_set 3 none, Cond.methodLink RL 127 yX5_book, Cond.instanceMethod yX5_book, Cond.selects RX5 yX5_book yX5_book]
def wsL_law0_r8 : List Cond := [Cond.code yX5_book cX5_book 5 (some .int), Cond.fieldLink RX5 35 "BookinghouseModel" "made" "I", Cond.methodLink RX5 46 yX5_isHouse, Cond.static yX5_isHouse, Cond.code yX5_isHouse cX5_isHouse 1 (some .boolean), Cond.methodLink RX5 50 yX5_isThrown, Cond.instanceMethod yX5_isThrown, Cond.selects RX5 yX5_isThrown yX5_isThrown, Cond.code yX5_isThrown cX5_isThrown 3 (some .boolean), Cond.fieldLink RX5 31 "BookinghouseModel" "thrown" "I", Cond.methodLink RX5 54 yX5_isIn, Cond.static yX5_isIn, Cond.code yX5_isIn cX5_isIn 3 (some .boolean), Cond.methodLink RX5 58 yX5_many, Cond.instanceMethod yX5_many, Cond.selects RX5 yX5_many yX5_many, Cond.code yX5_many cX5_many 5 (some .int), Cond.methodLink RX5 61 yX5_makes, Cond.instanceMethod yX5_makes, Cond.selects RX5 yX5_makes yX5_makes, Cond.code yX5_makes cX5_makes 5 (some .int), Cond.methodLink RL 128 yX5_thrown, Cond.instanceMethod yX5_thrown, Cond.selects RX5 yX5_thrown yX5_thrown]
def wsL_law0_r9 : List Cond := [Cond.code yX5_thrown cX5_thrown 1 (some .int), Cond.methodLink RL 132 yL_series, Cond.static yL_series, Cond.codeWith yL_series cL_series 9 (some .int) [(0, 18, 21, 13), (0, 18, 25, 15), (0, 18, 29, 17)], Cond.methodLink RL 19 yX4_series, Cond.instanceMethod yX4_series, Cond.selects RX4 yX4_series yX4_series, Cond.code yX4_series cX4_series 10 (some .int), Cond.methodLink RL 135 yX5_series, Cond.instanceMethod yX5_series, Cond.selects RX5 yX5_series yX5_series, Cond.code yX5_series cX5_series 9 (some .int), Cond.methodLink RL 136 yL_callOff, Cond.static yL_callOff, Cond.codeWith yL_callOff cL_callOff 5 (some .int) [(0, 17, 20, 13)], Cond.methodLink RL 23 yX4_callOff, Cond.instanceMethod yX4_callOff, Cond.selects RX4 yX4_callOff yX4_callOff, Cond.code yX4_callOff cX4_callOff 5 (some .boolean), Cond.methodLink RX4 75 yX3_placeOf, Cond.instanceMethod yX3_placeOf, Cond.selects RX3 yX3_placeOf yX3_placeOf, Cond.code yX3_placeOf cX3_placeOf 3 (some .int), Cond.methodLink RX3 37 yX3_get]
def wsL_law0_r10 : List Cond := [Cond.methodLink RX4 81 yX4_callOffPlace, Cond.instanceMethod yX4_callOffPlace, Cond.selects RX4 yX4_callOffPlace yX4_callOffPlace, Cond.code yX4_callOffPlace cX4_callOffPlace 3 none, Cond.methodLink RX4 116 yX3_remove, Cond.instanceMethod yX3_remove, Cond.selects RX3 yX3_remove yX3_remove, Cond.code yX3_remove cX3_remove 3 (some .int), Cond.methodLink RL 139 yX5_callOff, Cond.instanceMethod yX5_callOff, Cond.selects RX5 yX5_callOff yX5_callOff, Cond.code yX5_callOff cX5_callOff 3 (some .boolean), Cond.methodLink RX5 65 yX5_isWaiting, Cond.instanceMethod yX5_isWaiting, Cond.selects RX5 yX5_isWaiting yX5_isWaiting, Cond.code yX5_isWaiting cX5_isWaiting 3 (some .boolean), Cond.methodLink RL 140 yL_callOffAll, Cond.static yL_callOffAll, Cond.codeWith yL_callOffAll cL_callOffAll 6 (some .int) [(0, 12, 15, 13), (0, 12, 19, 15)], Cond.methodLink RL 27 yX4_callOffAll, Cond.instanceMethod yX4_callOffAll, Cond.selects RX4 yX4_callOffAll yX4_callOffAll, Cond.code yX4_callOffAll cX4_callOffAll 8 (some .int), Cond.methodLink RX4 85 yX4_refuseIfTurned]
def wsL_law0_r11 : List Cond := [Cond.static yX4_refuseIfTurned, Cond.code yX4_refuseIfTurned cX4_refuseIfTurned 2 none, Cond.methodLink RX4 89 yX4_waitingAheadOf, Cond.instanceMethod yX4_waitingAheadOf, Cond.selects RX4 yX4_waitingAheadOf yX4_waitingAheadOf, Cond.code yX4_waitingAheadOf cX4_waitingAheadOf 4 (some .int), Cond.methodLink RL 143 yX5_callOffAll, Cond.instanceMethod yX5_callOffAll, Cond.selects RX5 yX5_callOffAll yX5_callOffAll, Cond.code yX5_callOffAll cX5_callOffAll 6 (some .int), Cond.methodLink RL 144 yL_put, Cond.static yL_put, Cond.codeWith yL_put cL_put 6 (some .int) [(0, 12, 15, 13), (0, 12, 19, 15), (0, 12, 23, 34), (0, 12, 27, 17)], Cond.classLink RL 34 "java/util/NoSuchElementException", Cond.methodLink RL 31 yX4_put, Cond.instanceMethod yX4_put, Cond.selects RX4 yX4_put yX4_put, Cond.code yX4_put cX4_put 7 (some .int), Cond.classLink RX4 96 "java/util/NoSuchElementException", Cond.initialized "java/util/NoSuchElementException", Cond.methodLink RX4 93 yX4_refuseIfNoTime, Cond.static yX4_refuseIfNoTime, Cond.code yX4_refuseIfNoTime cX4_refuseIfNoTime 1 none, Cond.methodLink RL 146 yX5_put]
def wsL_law0_r12 : List Cond := [Cond.instanceMethod yX5_put, Cond.selects RX5 yX5_put yX5_put, Cond.code yX5_put cX5_put 5 (some .int), Cond.methodLink RL 147 yL_join, Cond.static yL_join, Cond.codeWith yL_join cL_join 5 (some .int) [(0, 10, 13, 13), (0, 10, 17, 17)], Cond.methodLink RL 36 yX4_join, Cond.instanceMethod yX4_join, Cond.selects RX4 yX4_join yX4_join, Cond.code yX4_join cX4_join 5 (some .int), Cond.methodLink RX4 125 yX4_refuseIfSame, Cond.static yX4_refuseIfSame, Cond.code yX4_refuseIfSame cX4_refuseIfSame 2 none, Cond.methodLink RX4 128 yX4_move, Cond.instanceMethod yX4_move, Cond.selects RX4 yX4_move yX4_move, Cond.code yX4_move cX4_move 6 (some .int), Cond.methodLink RL 149 yX5_join, Cond.instanceMethod yX5_join, Cond.selects RX5 yX5_join yX5_join, Cond.code yX5_join cX5_join 3 (some .int), Cond.methodLink RX5 73 yX5_goes, Cond.instanceMethod yX5_goes, Cond.selects RX5 yX5_goes yX5_goes]
def wsL_law0_r13 : List Cond := [Cond.code yX5_goes cX5_goes 5 (some .int), Cond.constant RX5 72 (100000), Cond.methodLink RX5 68 yX5_moved, Cond.instanceMethod yX5_moved, Cond.selects RX5 yX5_moved yX5_moved, Cond.code yX5_moved cX5_moved 8 (some .int), Cond.methodLink RL 150 yL_part, Cond.static yL_part, Cond.codeWith yL_part cL_part 6 (some .int) [(0, 12, 15, 13), (0, 12, 19, 17)], Cond.methodLink RL 40 yX4_part, Cond.instanceMethod yX4_part, Cond.selects RX4 yX4_part yX4_part, Cond.code yX4_part cX4_part 6 (some .int), Cond.methodLink RL 152 yX5_part, Cond.instanceMethod yX5_part, Cond.selects RX5 yX5_part yX5_part, Cond.code yX5_part cX5_part 4 (some .int), Cond.methodLink RL 153 yL_next, Cond.static yL_next, Cond.codeWith yL_next cL_next 4 (some .int) [(0, 9, 12, 13), (0, 9, 15, 34)], Cond.methodLink RL 43 yX4_next, Cond.instanceMethod yX4_next, Cond.selects RX4 yX4_next yX4_next, Cond.code yX4_next cX4_next 3 (some .int)]
def wsL_law0_r14 : List Cond := [Cond.methodLink RX4 135 yX4_letFirstCome, Cond.instanceMethod yX4_letFirstCome, Cond.selects RX4 yX4_letFirstCome yX4_letFirstCome, Cond.code yX4_letFirstCome cX4_letFirstCome 3 (some .int), Cond.methodLink RX4 288 yX3_add, Cond.methodLink RX4 291 yX2_end, Cond.instanceMethod yX2_end, Cond.selects RX2 yX2_end yX2_end, Cond.code yX2_end cX2_end 2 (some .int), Cond.methodLink RX4 294 yX0_enter, Cond.instanceMethod yX0_enter, Cond.selects RX0 yX0_enter yX0_enter, Cond.code yX0_enter cX0_enter 4 none, Cond.methodLink RX0 34 yX0_alter, Cond.instanceMethod yX0_alter, Cond.selects RX0 yX0_alter yX0_alter, Cond.code yX0_alter cX0_alter 4 none, Cond.methodLink RX0 26 yX3_size, Cond.methodLink RX0 38 yX3_get, Cond.methodLink RX0 42 yX3_insert, Cond.methodLink RX0 45 yX3_remove, Cond.methodLink RX0 48 yX3_set, Cond.methodLink RL 156 yX5_next, Cond.instanceMethod yX5_next]
def wsL_law0_r15 : List Cond := [Cond.selects RX5 yX5_next yX5_next, Cond.code yX5_next cX5_next 3 (some .int), Cond.methodLink RX5 80 yX5_first, Cond.instanceMethod yX5_first, Cond.selects RX5 yX5_first yX5_first, Cond.code yX5_first cX5_first 2 (some .int), Cond.methodLink RX5 42 yX5_behind, Cond.instanceMethod yX5_behind, Cond.selects RX5 yX5_behind yX5_behind, Cond.code yX5_behind cX5_behind 5 (some .int), Cond.methodLink RX5 38 yX5_isAhead, Cond.instanceMethod yX5_isAhead, Cond.selects RX5 yX5_isAhead yX5_isAhead, Cond.code yX5_isAhead cX5_isAhead 3 (some .boolean), Cond.methodLink RX5 84 yX5_comes, Cond.instanceMethod yX5_comes, Cond.selects RX5 yX5_comes yX5_comes, Cond.code yX5_comes cX5_comes 2 none, Cond.fieldLink RX5 77 "BookinghouseModel" "stamp" "I", Cond.methodLink RL 157 yL_run, Cond.static yL_run, Cond.codeWith yL_run cL_run 5 (some .int) [(0, 10, 13, 13), (0, 10, 17, 15), (0, 10, 21, 17)], Cond.methodLink RL 47 yX4_run, Cond.instanceMethod yX4_run]
def wsL_law0_r16 : List Cond := [Cond.selects RX4 yX4_run yX4_run, Cond.code yX4_run cX4_run 6 (some .int), Cond.methodLink RL 159 yX5_run, Cond.instanceMethod yX5_run, Cond.selects RX5 yX5_run yX5_run, Cond.code yX5_run cX5_run 5 (some .int), Cond.methodLink RL 160 yL_back, Cond.static yL_back, Cond.codeWith yL_back cL_back 5 (some .int) [(0, 10, 13, 13), (0, 10, 17, 15), (0, 10, 21, 17)], Cond.methodLink RL 50 yX4_back, Cond.instanceMethod yX4_back, Cond.selects RX4 yX4_back yX4_back, Cond.code yX4_back cX4_back 6 (some .int), Cond.methodLink RX4 141 yX4_cameBehind, Cond.instanceMethod yX4_cameBehind, Cond.selects RX4 yX4_cameBehind yX4_cameBehind, Cond.code yX4_cameBehind cX4_cameBehind 4 (some .int), Cond.methodLink RX4 146 yX4_bringLastBack, Cond.instanceMethod yX4_bringLastBack, Cond.selects RX4 yX4_bringLastBack yX4_bringLastBack, Cond.code yX4_bringLastBack cX4_bringLastBack 3 none, Cond.methodLink RL 162 yX5_back, Cond.instanceMethod yX5_back, Cond.selects RX5 yX5_back yX5_back]
def wsL_law0_r17 : List Cond := [Cond.code yX5_back cX5_back 5 (some .int), Cond.methodLink RL 163 yL_clock, Cond.static yL_clock, Cond.codeWith yL_clock cL_clock 4 (some .int) [(0, 9, 12, 13)], Cond.methodLink RL 53 yX4_clock, Cond.instanceMethod yX4_clock, Cond.selects RX4 yX4_clock yX4_clock, Cond.code yX4_clock cX4_clock 2 (some .int), Cond.methodLink RL 165 yX5_clock, Cond.instanceMethod yX5_clock, Cond.selects RX5 yX5_clock yX5_clock, Cond.code yX5_clock cX5_clock 2 (some .int), Cond.methodLink RL 166 yL_waiting, Cond.static yL_waiting, Cond.codeWith yL_waiting cL_waiting 4 (some .int) [(0, 9, 12, 13)], Cond.methodLink RL 56 yX4_waiting, Cond.instanceMethod yX4_waiting, Cond.selects RX4 yX4_waiting yX4_waiting, Cond.code yX4_waiting cX4_waiting 2 (some .int), Cond.methodLink RL 168 yX5_waiting, Cond.instanceMethod yX5_waiting, Cond.selects RX5 yX5_waiting yX5_waiting, Cond.code yX5_waiting cX5_waiting 2 (some .int), Cond.methodLink RL 169 yL_came]
def wsL_law0_r18 : List Cond := [Cond.static yL_came, Cond.codeWith yL_came cL_came 4 (some .int) [(0, 9, 12, 13)], Cond.methodLink RL 59 yX4_came, Cond.instanceMethod yX4_came, Cond.selects RX4 yX4_came yX4_came, Cond.code yX4_came cX4_came 2 (some .int), Cond.methodLink RL 171 yX5_came, Cond.instanceMethod yX5_came, Cond.selects RX5 yX5_came yX5_came, Cond.code yX5_came cX5_came 2 (some .int), Cond.methodLink RL 172 yL_waits, Cond.static yL_waits, Cond.codeWith yL_waits cL_waits 5 (some .int) [(0, 10, 13, 13), (0, 10, 17, 34)], Cond.methodLink RL 62 yX4_waits, Cond.instanceMethod yX4_waits, Cond.selects RX4 yX4_waits yX4_waits, Cond.code yX4_waits cX4_waits 3 (some .int), Cond.methodLink RX4 153 yX4_itemAt, Cond.static yX4_itemAt, Cond.code yX4_itemAt cX4_itemAt 2 (some .int), Cond.methodLink RX4 269 yX3_holds, Cond.methodLink RL 174 yX5_waits, Cond.instanceMethod yX5_waits, Cond.selects RX5 yX5_waits yX5_waits]
def wsL_law0_r19 : List Cond := [Cond.code yX5_waits cX5_waits 5 (some .int), Cond.methodLink RL 175 yL_cameAt, Cond.static yL_cameAt, Cond.codeWith yL_cameAt cL_cameAt 5 (some .int) [(0, 10, 13, 13), (0, 10, 17, 34)], Cond.methodLink RL 65 yX4_cameAt, Cond.instanceMethod yX4_cameAt, Cond.selects RX4 yX4_cameAt yX4_cameAt, Cond.code yX4_cameAt cX4_cameAt 3 (some .int), Cond.methodLink RL 177 yX5_cameAt, Cond.instanceMethod yX5_cameAt, Cond.selects RX5 yX5_cameAt yX5_cameAt, Cond.code yX5_cameAt cX5_cameAt 5 (some .int), Cond.methodLink RX5 88 yX5_cameBehind, Cond.instanceMethod yX5_cameBehind, Cond.selects RX5 yX5_cameBehind yX5_cameBehind, Cond.code yX5_cameBehind cX5_cameBehind 5 (some .int), Cond.methodLink RL 178 yL_nextTime, Cond.static yL_nextTime, Cond.codeWith yL_nextTime cL_nextTime 5 (some .int) [(0, 10, 13, 13), (0, 10, 17, 34)], Cond.methodLink RL 68 yX4_nextTime, Cond.instanceMethod yX4_nextTime, Cond.selects RX4 yX4_nextTime yX4_nextTime, Cond.code yX4_nextTime cX4_nextTime 5 (some .int), Cond.methodLink RL 180 yX5_nextTime]
def wsL_law0_r20 : List Cond := [Cond.instanceMethod yX5_nextTime, Cond.selects RX5 yX5_nextTime yX5_nextTime, Cond.code yX5_nextTime cX5_nextTime 5 (some .int), Cond.methodLink RL 181 yL_about, Cond.static yL_about, Cond.codeWith yL_about cL_about 5 (some .int) [(0, 9, 12, 13), (0, 9, 16, 15)], Cond.methodLink RL 71 yX4_about, Cond.instanceMethod yX4_about, Cond.selects RX4 yX4_about yX4_about, Cond.code yX4_about cX4_about 3 (some .long), Cond.methodLink RL 184 yX5_about, Cond.instanceMethod yX5_about, Cond.selects RX5 yX5_about yX5_about, Cond.code yX5_about cX5_about 3 (some .long), Cond.methodLink RL 185 yL_crowd, Cond.static yL_crowd, Cond.codeWith yL_crowd cL_crowd 5 (some .int) [(0, 10, 13, 13)], Cond.methodLink RL 75 yX4_crowd, Cond.instanceMethod yX4_crowd, Cond.selects RX4 yX4_crowd yX4_crowd, Cond.code yX4_crowd cX4_crowd 3 (some .int), Cond.methodLink RX4 181 yX0_at, Cond.instanceMethod yX0_at, Cond.selects RX0 yX0_at yX0_at]
def wsL_law0_r21 : List Cond := [Cond.code yX0_at cX0_at 4 (some .int), Cond.methodLink RL 187 yX5_crowd, Cond.instanceMethod yX5_crowd, Cond.selects RX5 yX5_crowd yX5_crowd, Cond.code yX5_crowd cX5_crowd 3 (some .int), Cond.methodLink RX5 94 yX5_crowdAt, Cond.instanceMethod yX5_crowdAt, Cond.selects RX5 yX5_crowdAt yX5_crowdAt, Cond.code yX5_crowdAt cX5_crowdAt 5 (some .int), Cond.methodLink RX5 91 yX5_isOf, Cond.instanceMethod yX5_isOf, Cond.selects RX5 yX5_isOf yX5_isOf, Cond.code yX5_isOf cX5_isOf 3 (some .boolean), Cond.methodLink RL 188 yL_change, Cond.static yL_change, Cond.codeWith yL_change cL_change 5 (some .int) [(0, 10, 13, 13)], Cond.methodLink RL 78 yX4_change, Cond.instanceMethod yX4_change, Cond.selects RX4 yX4_change yX4_change, Cond.code yX4_change cX4_change 3 (some .int), Cond.methodLink RX4 184 yX0_changeAt, Cond.instanceMethod yX0_changeAt, Cond.selects RX0 yX0_changeAt yX0_changeAt, Cond.code yX0_changeAt cX0_changeAt 3 (some .int)]
def wsL_law0_r22 : List Cond := [Cond.methodLink RX0 51 yX3_placeOf, Cond.methodLink RL 190 yX5_change, Cond.instanceMethod yX5_change, Cond.selects RX5 yX5_change yX5_change, Cond.code yX5_change cX5_change 3 (some .int), Cond.methodLink RX5 97 yX5_changeAt, Cond.instanceMethod yX5_changeAt, Cond.selects RX5 yX5_changeAt yX5_changeAt, Cond.code yX5_changeAt cX5_changeAt 5 (some .int), Cond.methodLink RL 191 yL_greatest, Cond.static yL_greatest, Cond.codeWith yL_greatest cL_greatest 4 (some .int) [(0, 9, 12, 13)], Cond.methodLink RL 81 yX4_greatest, Cond.instanceMethod yX4_greatest, Cond.selects RX4 yX4_greatest yX4_greatest, Cond.code yX4_greatest cX4_greatest 2 (some .int), Cond.methodLink RX4 187 yX0_highest, Cond.instanceMethod yX0_highest, Cond.selects RX0 yX0_highest yX0_highest, Cond.code yX0_highest cX0_highest 4 (some .int), Cond.methodLink RX0 54 Lib.Math.max.name, Cond.methodLink RL 193 yX5_greatest, Cond.instanceMethod yX5_greatest, Cond.selects RX5 yX5_greatest yX5_greatest]
def wsL_law0_r23 : List Cond := [Cond.code yX5_greatest cX5_greatest 2 (some .int), Cond.methodLink RX5 100 yX5_greatestIn, Cond.instanceMethod yX5_greatestIn, Cond.selects RX5 yX5_greatestIn yX5_greatestIn, Cond.code yX5_greatestIn cX5_greatestIn 7 (some .int), Cond.methodLink RL 194 yL_greatestFrom, Cond.static yL_greatestFrom, Cond.codeWith yL_greatestFrom cL_greatestFrom 4 (some .int) [(0, 9, 12, 13), (0, 9, 15, 34)], Cond.methodLink RL 84 yX4_greatestFrom, Cond.instanceMethod yX4_greatestFrom, Cond.selects RX4 yX4_greatestFrom yX4_greatestFrom, Cond.code yX4_greatestFrom cX4_greatestFrom 3 (some .int), Cond.methodLink RX4 190 yX0_isEmpty, Cond.instanceMethod yX0_isEmpty, Cond.selects RX0 yX0_isEmpty yX0_isEmpty, Cond.code yX0_isEmpty cX0_isEmpty 1 (some .boolean), Cond.methodLink RX4 196 yX0_highestFrom, Cond.instanceMethod yX0_highestFrom, Cond.selects RX0 yX0_highestFrom yX0_highestFrom, Cond.code yX0_highestFrom cX0_highestFrom 5 (some .int), Cond.methodLink RL 196 yX5_greatestFrom, Cond.instanceMethod yX5_greatestFrom, Cond.selects RX5 yX5_greatestFrom yX5_greatestFrom, Cond.code yX5_greatestFrom cX5_greatestFrom 5 (some .int)]
def wsL_law0_r24 : List Cond := [Cond.methodLink RL 197 yL_busy, Cond.static yL_busy, Cond.codeWith yL_busy cL_busy 6 (some .int) [(0, 12, 15, 13), (0, 12, 19, 15)], Cond.methodLink RL 87 yX4_busy, Cond.instanceMethod yX4_busy, Cond.selects RX4 yX4_busy yX4_busy, Cond.code yX4_busy cX4_busy 5 (some .int), Cond.methodLink RX4 199 yX0_busyTimes, Cond.instanceMethod yX0_busyTimes, Cond.selects RX0 yX0_busyTimes yX0_busyTimes, Cond.code yX0_busyTimes cX0_busyTimes 8 (some .int), Cond.methodLink RX0 63 Lib.Math.min.name, Cond.static Lib.Math.min.name, Cond.code Lib.Math.min.name Lib.Math.min.code 2 (some .int), Cond.methodLink RL 199 yX5_busy, Cond.instanceMethod yX5_busy, Cond.selects RX5 yX5_busy yX5_busy, Cond.code yX5_busy cX5_busy 4 (some .int), Cond.methodLink RX5 109 yX5_busyIn, Cond.instanceMethod yX5_busyIn, Cond.selects RX5 yX5_busyIn yX5_busyIn, Cond.code yX5_busyIn cX5_busyIn 9 (some .int), Cond.methodLink RX5 103 yX5_busyFrom, Cond.instanceMethod yX5_busyFrom]
def wsL_law0_r25 : List Cond := [Cond.selects RX5 yX5_busyFrom yX5_busyFrom, Cond.code yX5_busyFrom cX5_busyFrom 5 (some .int), Cond.methodLink RX5 106 yX5_idleFrom, Cond.instanceMethod yX5_idleFrom, Cond.selects RX5 yX5_idleFrom yX5_idleFrom, Cond.code yX5_idleFrom cX5_idleFrom 6 (some .int), Cond.methodLink RL 200 yL_spans, Cond.static yL_spans, Cond.codeWith yL_spans cL_spans 4 (some .int) [(0, 9, 12, 13)], Cond.methodLink RL 90 yX4_spans, Cond.instanceMethod yX4_spans, Cond.selects RX4 yX4_spans yX4_spans, Cond.code yX4_spans cX4_spans 2 (some .int), Cond.methodLink RX4 203 yX0_busySpans, Cond.instanceMethod yX0_busySpans, Cond.selects RX0 yX0_busySpans yX0_busySpans, Cond.code yX0_busySpans cX0_busySpans 4 (some .int), Cond.methodLink RL 202 yX5_spans, Cond.instanceMethod yX5_spans, Cond.selects RX5 yX5_spans yX5_spans, Cond.code yX5_spans cX5_spans 4 (some .int), Cond.methodLink RL 203 yL_span, Cond.static yL_span, Cond.codeWith yL_span cL_span 6 (some .int) [(0, 12, 15, 13), (0, 12, 19, 15), (0, 12, 23, 34)]]
def wsL_law0_r26 : List Cond := [Cond.methodLink RL 93 yX4_span, Cond.instanceMethod yX4_span, Cond.selects RX4 yX4_span yX4_span, Cond.code yX4_span cX4_span 6 (some .int), Cond.methodLink RX4 208 yX0_firstChangeOf, Cond.instanceMethod yX0_firstChangeOf, Cond.selects RX0 yX0_firstChangeOf yX0_firstChangeOf, Cond.code yX0_firstChangeOf cX0_firstChangeOf 5 (some .int), Cond.methodLink RX4 214 yX0_endOfSpan, Cond.instanceMethod yX0_endOfSpan, Cond.selects RX0 yX0_endOfSpan yX0_endOfSpan, Cond.code yX0_endOfSpan cX0_endOfSpan 4 (some .int), Cond.methodLink RX4 217 yX0_highestOfSpan, Cond.instanceMethod yX0_highestOfSpan, Cond.selects RX0 yX0_highestOfSpan yX0_highestOfSpan, Cond.code yX0_highestOfSpan cX0_highestOfSpan 5 (some .int), Cond.methodLink RL 206 yX5_span, Cond.instanceMethod yX5_span, Cond.selects RX5 yX5_span yX5_span, Cond.code yX5_span cX5_span 6 (some .int), Cond.methodLink RL 207 yL_free, Cond.static yL_free, Cond.codeWith yL_free cL_free 6 (some .int) [(0, 12, 15, 13), (0, 12, 19, 15)], Cond.methodLink RL 97 yX4_free]
def wsL_law0_r27 : List Cond := [Cond.instanceMethod yX4_free, Cond.selects RX4 yX4_free yX4_free, Cond.code yX4_free cX4_free 5 (some .int), Cond.methodLink RX4 222 yX0_freeFrom, Cond.instanceMethod yX0_freeFrom, Cond.selects RX0 yX0_freeFrom yX0_freeFrom, Cond.code yX0_freeFrom cX0_freeFrom 6 (some .int), Cond.methodLink RL 209 yX5_free, Cond.instanceMethod yX5_free, Cond.selects RX5 yX5_free yX5_free, Cond.code yX5_free cX5_free 6 (some .int), Cond.methodLink RL 210 yL_load, Cond.static yL_load, Cond.codeWith yL_load cL_load 4 (some .int) [(0, 8, 11, 13)], Cond.methodLink RL 100 yX4_load, Cond.instanceMethod yX4_load, Cond.selects RX4 yX4_load yX4_load, Cond.code yX4_load cX4_load 2 (some .long), Cond.methodLink RX4 225 yX0_total, Cond.instanceMethod yX0_total, Cond.selects RX0 yX0_total yX0_total, Cond.code yX0_total cX0_total 5 (some .long), Cond.methodLink RL 212 yX5_load, Cond.instanceMethod yX5_load]
def wsL_law0_r28 : List Cond := [Cond.selects RX5 yX5_load yX5_load, Cond.code yX5_load cX5_load 2 (some .long), Cond.methodLink RX5 112 yX5_loadOf, Cond.instanceMethod yX5_loadOf, Cond.selects RX5 yX5_loadOf yX5_loadOf, Cond.code yX5_loadOf cX5_loadOf 5 (some .long), Cond.methodLink RL 213 yL_mean, Cond.static yL_mean, Cond.codeWith yL_mean cL_mean 4 (some .int) [(0, 8, 11, 13), (0, 8, 14, 108)], Cond.classLink RL 108 "java/lang/ArithmeticException", Cond.methodLink RL 104 yX4_mean, Cond.instanceMethod yX4_mean, Cond.selects RX4 yX4_mean yX4_mean, Cond.code yX4_mean cX4_mean 4 (some .double), Cond.classLink RX4 232 "java/lang/ArithmeticException", Cond.initialized "java/lang/ArithmeticException", Cond.methodLink RX4 229 yX0_allBusyTimes, Cond.instanceMethod yX0_allBusyTimes, Cond.selects RX0 yX0_allBusyTimes yX0_allBusyTimes, Cond.code yX0_allBusyTimes cX0_allBusyTimes 1 (some .int), Cond.methodLink RX0 60 yX0_busyTimes, Cond.methodLink RL 216 yX5_mean, Cond.instanceMethod yX5_mean, Cond.selects RX5 yX5_mean yX5_mean]
def wsL_law0_r29 : List Cond := [Cond.code yX5_mean cX5_mean 3 (some .double), Cond.methodLink RL 217 yL_share, Cond.static yL_share, Cond.codeWith yL_share cL_share 4 (some .int) [(0, 9, 12, 13), (0, 9, 15, 108)], Cond.methodLink RL 110 yX4_share, Cond.instanceMethod yX4_share, Cond.selects RX4 yX4_share yX4_share, Cond.code yX4_share cX4_share 4 (some .float), Cond.methodLink RL 219 yX5_share, Cond.instanceMethod yX5_share, Cond.selects RX5 yX5_share yX5_share, Cond.code yX5_share cX5_share 3 (some .float), Cond.methodLink RL 220 yL_isQuiet, Cond.static yL_isQuiet, Cond.codeWith yL_isQuiet cL_isQuiet 4 (some .int) [(0, 16, 19, 13)], Cond.methodLink RL 114 yX4_isQuiet, Cond.instanceMethod yX4_isQuiet, Cond.selects RX4 yX4_isQuiet yX4_isQuiet, Cond.code yX4_isQuiet cX4_isQuiet 3 (some .boolean), Cond.methodLink RX4 237 yX0_isOverAt, Cond.instanceMethod yX0_isOverAt, Cond.selects RX0 yX0_isOverAt yX0_isOverAt, Cond.code yX0_isOverAt cX0_isOverAt 2 (some .boolean), Cond.methodLink RX0 66 yX0_isEmpty]
def wsL_law0_r30 : List Cond := [Cond.methodLink RL 222 yX5_isQuiet, Cond.instanceMethod yX5_isQuiet, Cond.selects RX5 yX5_isQuiet yX5_isQuiet, Cond.code yX5_isQuiet cX5_isQuiet 2 (some .boolean), Cond.methodLink RL 223 yX4_checksum, Cond.instanceMethod yX4_checksum, Cond.selects RX4 yX4_checksum yX4_checksum, Cond.code yX4_checksum cX4_checksum 7 (some .long), Cond.constantLong RX4 240 (7), Cond.methodLink RX4 242 yX4_withHouse, Cond.static yX4_withHouse, Cond.code yX4_withHouse cX4_withHouse 6 (some .long), Cond.constantLong RX4 297 (31), Cond.methodLink RX4 299 yX4_withRow, Cond.static yX4_withRow, Cond.code yX4_withRow cX4_withRow 6 (some .long), Cond.methodLink RL 227 yX5_checksum, Cond.instanceMethod yX5_checksum, Cond.selects RX5 yX5_checksum yX5_checksum, Cond.code yX5_checksum cX5_checksum 4 (some .long), Cond.constantLong RX5 122 (7), Cond.fieldLink RX5 118 "BookinghouseModel" "sum" "J", Cond.methodLink RX5 124 yX5_adds, Cond.instanceMethod yX5_adds]
def wsL_law0_r31 : List Cond := [Cond.selects RX5 yX5_adds yX5_adds, Cond.code yX5_adds cX5_adds 3 none, Cond.constantLong RX5 116 (31), Cond.methodLink RX5 128 yX5_turnBehind, Cond.instanceMethod yX5_turnBehind, Cond.selects RX5 yX5_turnBehind yX5_turnBehind, Cond.code yX5_turnBehind cX5_turnBehind 5 (some .int), Cond.methodLink RL 228 yX4_isSound, Cond.instanceMethod yX4_isSound, Cond.selects RX4 yX4_isSound yX4_isSound, Cond.code yX4_isSound cX4_isSound 5 (some .boolean), Cond.methodLink RX4 246 yX4_isOneThingOnce, Cond.instanceMethod yX4_isOneThingOnce, Cond.selects RX4 yX4_isOneThingOnce yX4_isOneThingOnce, Cond.code yX4_isOneThingOnce cX4_isOneThingOnce 8 (some .boolean), Cond.methodLink RX4 306 yX3_count, Cond.instanceMethod yX3_count, Cond.selects RX3 yX3_count yX3_count, Cond.code yX3_count cX3_count 4 (some .int), Cond.methodLink RX4 249 yX4_isSplitByClock, Cond.instanceMethod yX4_isSplitByClock, Cond.selects RX4 yX4_isSplitByClock yX4_isSplitByClock, Cond.code yX4_isSplitByClock cX4_isSplitByClock 4 (some .boolean), Cond.methodLink RX4 253 yX4_crowdIsOfThoseThatCame]
def wsL_law0_r32 : List Cond := [Cond.instanceMethod yX4_crowdIsOfThoseThatCame, Cond.selects RX4 yX4_crowdIsOfThoseThatCame yX4_crowdIsOfThoseThatCame, Cond.code yX4_crowdIsOfThoseThatCame cX4_crowdIsOfThoseThatCame 7 (some .boolean), Cond.methodLink RX4 313 yX0_clear, Cond.instanceMethod yX0_clear, Cond.selects RX0 yX0_clear yX0_clear, Cond.code yX0_clear cX0_clear 1 none, Cond.methodLink RX0 23 yX3_clear, Cond.instanceMethod yX3_clear, Cond.selects RX3 yX3_clear yX3_clear, Cond.code yX3_clear cX3_clear 1 none, Cond.methodLink RX4 316 yX0_isLike, Cond.instanceMethod yX0_isLike, Cond.selects RX0 yX0_isLike yX0_isLike, Cond.code yX0_isLike cX0_isLike 2 (some .boolean), Cond.methodLink RX0 30 yX3_isLike, Cond.instanceMethod yX3_isLike, Cond.selects RX3 yX3_isLike yX3_isLike, Cond.code yX3_isLike cX3_isLike 3 (some .boolean), Cond.methodLink RX4 320 yX0_isLevelInTheEnd, Cond.instanceMethod yX0_isLevelInTheEnd, Cond.selects RX0 yX0_isLevelInTheEnd yX0_isLevelInTheEnd, Cond.code yX0_isLevelInTheEnd cX0_isLevelInTheEnd 3 (some .boolean), Cond.methodLink RX4 256 yX4_standsWithAllOthers]
def wsL_law0_r33 : List Cond := [Cond.instanceMethod yX4_standsWithAllOthers, Cond.selects RX4 yX4_standsWithAllOthers yX4_standsWithAllOthers, Cond.code yX4_standsWithAllOthers cX4_standsWithAllOthers 6 (some .boolean), Cond.methodLink RX4 309 yX4_standInSequence, Cond.instanceMethod yX4_standInSequence, Cond.selects RX4 yX4_standInSequence yX4_standInSequence, Cond.code yX4_standInSequence cX4_standInSequence 10 (some .boolean), Cond.methodLink RL 232 yX5_isSound, Cond.instanceMethod yX5_isSound, Cond.selects RX5 yX5_isSound yX5_isSound, Cond.code yX5_isSound cX5_isSound 1 (some .boolean)]
def wsL_law0 : List Cond := (wsL_law0_r1 ++ (wsL_law0_r2 ++ (wsL_law0_r3 ++ (wsL_law0_r4 ++ (wsL_law0_r5 ++ (wsL_law0_r6 ++ (wsL_law0_r7 ++ (wsL_law0_r8 ++ (wsL_law0_r9 ++ (wsL_law0_r10 ++ (wsL_law0_r11 ++ (wsL_law0_r12 ++ (wsL_law0_r13 ++ (wsL_law0_r14 ++ (wsL_law0_r15 ++ (wsL_law0_r16 ++ (wsL_law0_r17 ++ (wsL_law0_r18 ++ (wsL_law0_r19 ++ (wsL_law0_r20 ++ (wsL_law0_r21 ++ (wsL_law0_r22 ++ (wsL_law0_r23 ++ (wsL_law0_r24 ++ (wsL_law0_r25 ++ (wsL_law0_r26 ++ (wsL_law0_r27 ++ (wsL_law0_r28 ++ (wsL_law0_r29 ++ (wsL_law0_r30 ++ (wsL_law0_r31 ++ (wsL_law0_r32 ++ wsL_law0_r33)))))))))))))))))))))))))))))))) ++ wsX40 ++ wsX50 ++ wsX20 ++ wsX00 ++ wsX10 ++ wsX30 ++ ([] : List Cond)
def wsL_law : List Cond := wsL_law0 ++ (vx_atM "java/lang/ArrayIndexOutOfBoundsException" ["java/lang/IndexOutOfBoundsException", "java/lang/RuntimeException", "java/lang/Exception"]).filter goodWord ++ (vx_atS RX4 50 "java/lang/IllegalArgumentException" ["java/lang/RuntimeException", "java/lang/Exception"]).filter goodWord ++ (vx_atS RX4 163 "java/lang/IndexOutOfBoundsException" ["java/lang/RuntimeException", "java/lang/Exception"]).filter goodWord ++ (vx_atS RX4 109 "java/lang/IllegalStateException" ["java/lang/RuntimeException", "java/lang/Exception"]).filter goodWord ++ (ntAt RX4 100 "java/util/NoSuchElementException" 13 prog_20_method_4_code ["java/lang/RuntimeException", "java/lang/Exception"]).filter goodWord ++ (vx_atS RX4 234 "java/lang/ArithmeticException" ["java/lang/RuntimeException", "java/lang/Exception"]).filter goodWord
set_option maxRecDepth 20000 in
theorem ggX0_init_X3_init : GoodIn wsX0_init wsX3_init := goodIn_r _ [11, 12, 2, 3, 13, 14, 15, 16, 17, 18, 19, 20] (by decide +kernel) (by decide +kernel)
set_option maxRecDepth 20000 in
theorem gX0_init_X3_init : GoodIn wsX0_init (wsX3_init) := ggX0_init_X3_init
theorem dX0_init_0 : decode cX0_init 0 = .ok (.aload_n 0, 1) := by decide +kernel
theorem dX0_init_1 : decode cX0_init 1 = .ok (.invokespecial 3, 3) := by decide +kernel
theorem dX0_init_4 : decode cX0_init 4 = .ok (.aload_n 0, 1) := by decide +kernel
theorem dX0_init_5 : decode cX0_init 5 = .ok (.new 9, 3) := by decide +kernel
theorem dX0_init_8 : decode cX0_init 8 = .ok (.dup, 1) := by decide +kernel
theorem dX0_init_9 : decode cX0_init 9 = .ok (.sipush 240, 3) := by decide +kernel
theorem dX0_init_12 : decode cX0_init 12 = .ok (.invokespecial 11, 3) := by decide +kernel
theorem dX0_init_15 : decode cX0_init 15 = .ok (.putfield 14, 3) := by decide +kernel
theorem dX0_init_18 : decode cX0_init 18 = .ok (.aload_n 0, 1) := by decide +kernel
theorem dX0_init_19 : decode cX0_init 19 = .ok (.new 9, 3) := by decide +kernel
theorem dX0_init_22 : decode cX0_init 22 = .ok (.dup, 1) := by decide +kernel
theorem dX0_init_23 : decode cX0_init 23 = .ok (.sipush 240, 3) := by decide +kernel
theorem dX0_init_26 : decode cX0_init 26 = .ok (.invokespecial 11, 3) := by decide +kernel
theorem dX0_init_29 : decode cX0_init 29 = .ok (.putfield 20, 3) := by decide +kernel
theorem dX0_init_32 : decode cX0_init 32 = .ok (.return_, 1) := by decide +kernel
set_option maxRecDepth 20000 in
theorem ggX0_clear_X3_clear : GoodIn wsX0_clear wsX3_clear := goodIn_r _ [7, 8, 11, 12] (by decide +kernel) (by decide +kernel)
set_option maxRecDepth 20000 in
theorem gX0_clear_X3_clear : GoodIn wsX0_clear (wsV RX0 23 RX3 yX3_clear wsX3_clear) := goodIn_app (goodIn_of _ (by decide +kernel)) ggX0_clear_X3_clear
theorem dX0_clear_0 : decode cX0_clear 0 = .ok (.aload_n 0, 1) := by decide +kernel
theorem dX0_clear_1 : decode cX0_clear 1 = .ok (.getfield 14, 3) := by decide +kernel
theorem dX0_clear_4 : decode cX0_clear 4 = .ok (.invokevirtual 23, 3) := by decide +kernel
theorem dX0_clear_7 : decode cX0_clear 7 = .ok (.aload_n 0, 1) := by decide +kernel
theorem dX0_clear_8 : decode cX0_clear 8 = .ok (.getfield 20, 3) := by decide +kernel
theorem dX0_clear_11 : decode cX0_clear 11 = .ok (.invokevirtual 23, 3) := by decide +kernel
theorem dX0_clear_14 : decode cX0_clear 14 = .ok (.return_, 1) := by decide +kernel
set_option maxRecDepth 20000 in
theorem ggX0_isEmpty_X3_size : GoodIn wsX0_isEmpty wsX3_size := goodIn_r _ [6, 7, 10, 11] (by decide +kernel) (by decide +kernel)
set_option maxRecDepth 20000 in
theorem gX0_isEmpty_X3_size : GoodIn wsX0_isEmpty (wsV RX0 26 RX3 yX3_size wsX3_size) := goodIn_app (goodIn_of _ (by decide +kernel)) ggX0_isEmpty_X3_size
theorem dX0_isEmpty_0 : decode cX0_isEmpty 0 = .ok (.aload_n 0, 1) := by decide +kernel
theorem dX0_isEmpty_1 : decode cX0_isEmpty 1 = .ok (.getfield 14, 3) := by decide +kernel
theorem dX0_isEmpty_4 : decode cX0_isEmpty 4 = .ok (.invokevirtual 26, 3) := by decide +kernel
theorem dX0_isEmpty_7 : decode cX0_isEmpty 7 = .ok (.ifCond .ne 7, 3) := by decide +kernel
theorem dX0_isEmpty_10 : decode cX0_isEmpty 10 = .ok (.iconst 1, 1) := by decide +kernel
theorem dX0_isEmpty_11 : decode cX0_isEmpty 11 = .ok (.goto 4, 3) := by decide +kernel
theorem dX0_isEmpty_14 : decode cX0_isEmpty 14 = .ok (.iconst 0, 1) := by decide +kernel
theorem dX0_isEmpty_15 : decode cX0_isEmpty 15 = .ok (.ireturn, 1) := by decide +kernel
set_option maxRecDepth 20000 in
theorem ggX0_isLike_X3_isLike : GoodIn wsX0_isLike wsX3_isLike := goodIn_ca (goodIn_r _ [7, 8, 9, 10, 11, 6, 12, 13, 14, 15, 16, 17, 20, 21] (by decide +kernel) (by decide +kernel)) (goodIn_sub (fun _ h => List.mem_cons_of_mem _ (List.mem_append_right _ h)) (by decide +kernel))
set_option maxRecDepth 20000 in
theorem gX0_isLike_X3_isLike : GoodIn wsX0_isLike (wsV RX0 30 RX3 yX3_isLike wsX3_isLike) := goodIn_app (goodIn_of _ (by decide +kernel)) ggX0_isLike_X3_isLike
theorem dX0_isLike_0 : decode cX0_isLike 0 = .ok (.aload_n 0, 1) := by decide +kernel
theorem dX0_isLike_1 : decode cX0_isLike 1 = .ok (.getfield 14, 3) := by decide +kernel
theorem dX0_isLike_4 : decode cX0_isLike 4 = .ok (.aload_n 1, 1) := by decide +kernel
theorem dX0_isLike_5 : decode cX0_isLike 5 = .ok (.getfield 14, 3) := by decide +kernel
theorem dX0_isLike_8 : decode cX0_isLike 8 = .ok (.invokevirtual 30, 3) := by decide +kernel
theorem dX0_isLike_11 : decode cX0_isLike 11 = .ok (.ifCond .eq 21, 3) := by decide +kernel
theorem dX0_isLike_14 : decode cX0_isLike 14 = .ok (.aload_n 0, 1) := by decide +kernel
theorem dX0_isLike_15 : decode cX0_isLike 15 = .ok (.getfield 20, 3) := by decide +kernel
theorem dX0_isLike_18 : decode cX0_isLike 18 = .ok (.aload_n 1, 1) := by decide +kernel
theorem dX0_isLike_19 : decode cX0_isLike 19 = .ok (.getfield 20, 3) := by decide +kernel
theorem dX0_isLike_22 : decode cX0_isLike 22 = .ok (.invokevirtual 30, 3) := by decide +kernel
theorem dX0_isLike_25 : decode cX0_isLike 25 = .ok (.ifCond .eq 7, 3) := by decide +kernel
theorem dX0_isLike_28 : decode cX0_isLike 28 = .ok (.iconst 1, 1) := by decide +kernel
theorem dX0_isLike_29 : decode cX0_isLike 29 = .ok (.goto 4, 3) := by decide +kernel
theorem dX0_isLike_32 : decode cX0_isLike 32 = .ok (.iconst 0, 1) := by decide +kernel
theorem dX0_isLike_33 : decode cX0_isLike 33 = .ok (.ireturn, 1) := by decide +kernel
set_option maxRecDepth 20000 in
theorem ggX0_enter_X0_alter : GoodIn wsX0_enter wsX0_alter := goodIn_ca (goodIn_r _ [5, 6, 7, 8, 9, 10, 11, 12, 13, 14, 15, 16, 17, 18, 19, 20, 21, 22, 23, 24, 25, 26, 27, 28, 29, 30, 31, 32, 33, 34, 35, 36, 37, 38, 39, 40, 41, 42] (by decide +kernel) (by decide +kernel)) (goodIn_sub (fun _ h => List.mem_cons_of_mem _ (List.mem_append_right _ h)) (by decide +kernel))
set_option maxRecDepth 20000 in
theorem gX0_enter_X0_alter : GoodIn wsX0_enter (wsV RX0 34 RX0 yX0_alter wsX0_alter) := goodIn_app (goodIn_of _ (by decide +kernel)) ggX0_enter_X0_alter
theorem dX0_enter_0 : decode cX0_enter 0 = .ok (.iload_n 1, 1) := by decide +kernel
theorem dX0_enter_1 : decode cX0_enter 1 = .ok (.iload_n 2, 1) := by decide +kernel
theorem dX0_enter_2 : decode cX0_enter 2 = .ok (.if_icmp .ge 16, 3) := by decide +kernel
theorem dX0_enter_5 : decode cX0_enter 5 = .ok (.aload_n 0, 1) := by decide +kernel
theorem dX0_enter_6 : decode cX0_enter 6 = .ok (.iload_n 1, 1) := by decide +kernel
theorem dX0_enter_7 : decode cX0_enter 7 = .ok (.iload_n 3, 1) := by decide +kernel
theorem dX0_enter_8 : decode cX0_enter 8 = .ok (.invokevirtual 34, 3) := by decide +kernel
theorem dX0_enter_11 : decode cX0_enter 11 = .ok (.aload_n 0, 1) := by decide +kernel
theorem dX0_enter_12 : decode cX0_enter 12 = .ok (.iload_n 2, 1) := by decide +kernel
theorem dX0_enter_13 : decode cX0_enter 13 = .ok (.iload_n 3, 1) := by decide +kernel
theorem dX0_enter_14 : decode cX0_enter 14 = .ok (.ineg, 1) := by decide +kernel
theorem dX0_enter_15 : decode cX0_enter 15 = .ok (.invokevirtual 34, 3) := by decide +kernel
theorem dX0_enter_18 : decode cX0_enter 18 = .ok (.return_, 1) := by decide +kernel
set_option maxRecDepth 20000 in
theorem ggX0_alter_X3_size : GoodIn wsX0_alter wsX3_size := goodIn_r _ [7, 8, 36, 37] (by decide +kernel) (by decide +kernel)
set_option maxRecDepth 20000 in
theorem gX0_alter_X3_size : GoodIn wsX0_alter (wsV RX0 26 RX3 yX3_size wsX3_size) := goodIn_app (goodIn_of _ (by decide +kernel)) ggX0_alter_X3_size
set_option maxRecDepth 20000 in
theorem ggX0_alter_X3_get : GoodIn wsX0_alter wsX3_get := goodIn_ca (goodIn_r _ [12, 13, 14, 15, 16, 6, 17, 8, 36, 37] (by decide +kernel) (by decide +kernel)) (goodIn_sub (fun _ h => List.mem_cons_of_mem _ (List.mem_append_right _ h)) (by decide +kernel))
set_option maxRecDepth 20000 in
theorem gX0_alter_X3_get : GoodIn wsX0_alter (wsV RX0 38 RX3 yX3_get wsX3_get) := goodIn_app (goodIn_of _ (by decide +kernel)) ggX0_alter_X3_get
set_option maxRecDepth 20000 in
theorem ggX0_alter_X3_insert : GoodIn wsX0_alter wsX3_insert := goodIn_ca (goodIn_r _ [21, 8, 13, 22, 23, 24, 25, 36, 37] (by decide +kernel) (by decide +kernel)) (goodIn_sub (fun _ h => List.mem_cons_of_mem _ (List.mem_append_right _ h)) (by decide +kernel))
set_option maxRecDepth 20000 in
theorem gX0_alter_X3_insert : GoodIn wsX0_alter (wsV RX0 42 RX3 yX3_insert wsX3_insert) := goodIn_app (goodIn_of _ (by decide +kernel)) ggX0_alter_X3_insert
set_option maxRecDepth 20000 in
theorem ggX0_alter_X3_remove : GoodIn wsX0_alter wsX3_remove := goodIn_ca (goodIn_r _ [29, 13, 8, 22, 23, 24, 25, 14, 15, 16, 6, 17, 36, 37] (by decide +kernel) (by decide +kernel)) (goodIn_sub (fun _ h => List.mem_cons_of_mem _ (List.mem_append_right _ h)) (by decide +kernel))
set_option maxRecDepth 20000 in
theorem gX0_alter_X3_remove : GoodIn wsX0_alter (wsV RX0 45 RX3 yX3_remove wsX3_remove) := goodIn_app (goodIn_of _ (by decide +kernel)) ggX0_alter_X3_remove
set_option maxRecDepth 20000 in
theorem ggX0_alter_X3_set : GoodIn wsX0_alter wsX3_set := goodIn_ca (goodIn_r _ [33, 13, 14, 15, 16, 6, 17, 8, 36, 37] (by decide +kernel) (by decide +kernel)) (goodIn_sub (fun _ h => List.mem_cons_of_mem _ (List.mem_append_right _ h)) (by decide +kernel))
set_option maxRecDepth 20000 in
theorem gX0_alter_X3_set : GoodIn wsX0_alter (wsV RX0 48 RX3 yX3_set wsX3_set) := goodIn_app (goodIn_of _ (by decide +kernel)) ggX0_alter_X3_set
theorem dX0_alter_0 : decode cX0_alter 0 = .ok (.aload_n 0, 1) := by decide +kernel
theorem dX0_alter_1 : decode cX0_alter 1 = .ok (.getfield 14, 3) := by decide +kernel
theorem dX0_alter_4 : decode cX0_alter 4 = .ok (.invokevirtual 26, 3) := by decide +kernel
theorem dX0_alter_7 : decode cX0_alter 7 = .ok (.istore_n 3, 1) := by decide +kernel
theorem dX0_alter_8 : decode cX0_alter 8 = .ok (.iload_n 3, 1) := by decide +kernel
theorem dX0_alter_9 : decode cX0_alter 9 = .ok (.ifCond .le 23, 3) := by decide +kernel
theorem dX0_alter_12 : decode cX0_alter 12 = .ok (.aload_n 0, 1) := by decide +kernel
theorem dX0_alter_13 : decode cX0_alter 13 = .ok (.getfield 14, 3) := by decide +kernel
theorem dX0_alter_16 : decode cX0_alter 16 = .ok (.iload_n 3, 1) := by decide +kernel
theorem dX0_alter_17 : decode cX0_alter 17 = .ok (.iconst 1, 1) := by decide +kernel
theorem dX0_alter_18 : decode cX0_alter 18 = .ok (.isub, 1) := by decide +kernel
theorem dX0_alter_19 : decode cX0_alter 19 = .ok (.invokevirtual 38, 3) := by decide +kernel
theorem dX0_alter_22 : decode cX0_alter 22 = .ok (.iload_n 1, 1) := by decide +kernel
theorem dX0_alter_23 : decode cX0_alter 23 = .ok (.if_icmp .lt 9, 3) := by decide +kernel
theorem dX0_alter_26 : decode cX0_alter 26 = .ok (.iinc 3 (-1), 3) := by decide +kernel
theorem dX0_alter_29 : decode cX0_alter 29 = .ok (.goto (-21), 3) := by decide +kernel
theorem dX0_alter_32 : decode cX0_alter 32 = .ok (.iload_n 3, 1) := by decide +kernel
theorem dX0_alter_33 : decode cX0_alter 33 = .ok (.aload_n 0, 1) := by decide +kernel
theorem dX0_alter_34 : decode cX0_alter 34 = .ok (.getfield 14, 3) := by decide +kernel
theorem dX0_alter_37 : decode cX0_alter 37 = .ok (.invokevirtual 26, 3) := by decide +kernel
theorem dX0_alter_40 : decode cX0_alter 40 = .ok (.if_icmp .ge 15, 3) := by decide +kernel
theorem dX0_alter_43 : decode cX0_alter 43 = .ok (.aload_n 0, 1) := by decide +kernel
theorem dX0_alter_44 : decode cX0_alter 44 = .ok (.getfield 14, 3) := by decide +kernel
theorem dX0_alter_47 : decode cX0_alter 47 = .ok (.iload_n 3, 1) := by decide +kernel
theorem dX0_alter_48 : decode cX0_alter 48 = .ok (.invokevirtual 38, 3) := by decide +kernel
theorem dX0_alter_51 : decode cX0_alter 51 = .ok (.iload_n 1, 1) := by decide +kernel
theorem dX0_alter_52 : decode cX0_alter 52 = .ok (.if_icmp .eq 24, 3) := by decide +kernel
theorem dX0_alter_55 : decode cX0_alter 55 = .ok (.aload_n 0, 1) := by decide +kernel
theorem dX0_alter_56 : decode cX0_alter 56 = .ok (.getfield 14, 3) := by decide +kernel
theorem dX0_alter_59 : decode cX0_alter 59 = .ok (.iload_n 3, 1) := by decide +kernel
theorem dX0_alter_60 : decode cX0_alter 60 = .ok (.iload_n 1, 1) := by decide +kernel
theorem dX0_alter_61 : decode cX0_alter 61 = .ok (.invokevirtual 42, 3) := by decide +kernel
theorem dX0_alter_64 : decode cX0_alter 64 = .ok (.aload_n 0, 1) := by decide +kernel
theorem dX0_alter_65 : decode cX0_alter 65 = .ok (.getfield 20, 3) := by decide +kernel
theorem dX0_alter_68 : decode cX0_alter 68 = .ok (.iload_n 3, 1) := by decide +kernel
theorem dX0_alter_69 : decode cX0_alter 69 = .ok (.iload_n 2, 1) := by decide +kernel
theorem dX0_alter_70 : decode cX0_alter 70 = .ok (.invokevirtual 42, 3) := by decide +kernel
theorem dX0_alter_73 : decode cX0_alter 73 = .ok (.goto 55, 3) := by decide +kernel
theorem dX0_alter_76 : decode cX0_alter 76 = .ok (.aload_n 0, 1) := by decide +kernel
theorem dX0_alter_77 : decode cX0_alter 77 = .ok (.getfield 20, 3) := by decide +kernel
theorem dX0_alter_80 : decode cX0_alter 80 = .ok (.iload_n 3, 1) := by decide +kernel
theorem dX0_alter_81 : decode cX0_alter 81 = .ok (.invokevirtual 38, 3) := by decide +kernel
theorem dX0_alter_84 : decode cX0_alter 84 = .ok (.iload_n 2, 1) := by decide +kernel
theorem dX0_alter_85 : decode cX0_alter 85 = .ok (.iadd, 1) := by decide +kernel
theorem dX0_alter_86 : decode cX0_alter 86 = .ok (.ifCond .ne 24, 3) := by decide +kernel
theorem dX0_alter_89 : decode cX0_alter 89 = .ok (.aload_n 0, 1) := by decide +kernel
theorem dX0_alter_90 : decode cX0_alter 90 = .ok (.getfield 14, 3) := by decide +kernel
theorem dX0_alter_93 : decode cX0_alter 93 = .ok (.iload_n 3, 1) := by decide +kernel
theorem dX0_alter_94 : decode cX0_alter 94 = .ok (.invokevirtual 45, 3) := by decide +kernel
theorem dX0_alter_97 : decode cX0_alter 97 = .ok (.pop, 1) := by decide +kernel
theorem dX0_alter_98 : decode cX0_alter 98 = .ok (.aload_n 0, 1) := by decide +kernel
theorem dX0_alter_99 : decode cX0_alter 99 = .ok (.getfield 20, 3) := by decide +kernel
theorem dX0_alter_102 : decode cX0_alter 102 = .ok (.iload_n 3, 1) := by decide +kernel
theorem dX0_alter_103 : decode cX0_alter 103 = .ok (.invokevirtual 45, 3) := by decide +kernel
theorem dX0_alter_106 : decode cX0_alter 106 = .ok (.pop, 1) := by decide +kernel
theorem dX0_alter_107 : decode cX0_alter 107 = .ok (.goto 21, 3) := by decide +kernel
theorem dX0_alter_110 : decode cX0_alter 110 = .ok (.aload_n 0, 1) := by decide +kernel
theorem dX0_alter_111 : decode cX0_alter 111 = .ok (.getfield 20, 3) := by decide +kernel
theorem dX0_alter_114 : decode cX0_alter 114 = .ok (.iload_n 3, 1) := by decide +kernel
theorem dX0_alter_115 : decode cX0_alter 115 = .ok (.aload_n 0, 1) := by decide +kernel
theorem dX0_alter_116 : decode cX0_alter 116 = .ok (.getfield 20, 3) := by decide +kernel
theorem dX0_alter_119 : decode cX0_alter 119 = .ok (.iload_n 3, 1) := by decide +kernel
theorem dX0_alter_120 : decode cX0_alter 120 = .ok (.invokevirtual 38, 3) := by decide +kernel
theorem dX0_alter_123 : decode cX0_alter 123 = .ok (.iload_n 2, 1) := by decide +kernel
theorem dX0_alter_124 : decode cX0_alter 124 = .ok (.iadd, 1) := by decide +kernel
theorem dX0_alter_125 : decode cX0_alter 125 = .ok (.invokevirtual 48, 3) := by decide +kernel
theorem dX0_alter_128 : decode cX0_alter 128 = .ok (.return_, 1) := by decide +kernel
set_option maxRecDepth 20000 in
theorem ggX0_at_X3_size : GoodIn wsX0_at wsX3_size := goodIn_r _ [7, 8, 20, 21] (by decide +kernel) (by decide +kernel)
set_option maxRecDepth 20000 in
theorem gX0_at_X3_size : GoodIn wsX0_at (wsV RX0 26 RX3 yX3_size wsX3_size) := goodIn_app (goodIn_of _ (by decide +kernel)) ggX0_at_X3_size
set_option maxRecDepth 20000 in
theorem ggX0_at_X3_get : GoodIn wsX0_at wsX3_get := goodIn_ca (goodIn_r _ [12, 13, 14, 15, 16, 6, 17, 8, 20, 21] (by decide +kernel) (by decide +kernel)) (goodIn_sub (fun _ h => List.mem_cons_of_mem _ (List.mem_append_right _ h)) (by decide +kernel))
set_option maxRecDepth 20000 in
theorem gX0_at_X3_get : GoodIn wsX0_at (wsV RX0 38 RX3 yX3_get wsX3_get) := goodIn_app (goodIn_of _ (by decide +kernel)) ggX0_at_X3_get
theorem dX0_at_0 : decode cX0_at 0 = .ok (.iconst 0, 1) := by decide +kernel
theorem dX0_at_1 : decode cX0_at 1 = .ok (.istore_n 2, 1) := by decide +kernel
theorem dX0_at_2 : decode cX0_at 2 = .ok (.iconst 0, 1) := by decide +kernel
theorem dX0_at_3 : decode cX0_at 3 = .ok (.istore_n 3, 1) := by decide +kernel
theorem dX0_at_4 : decode cX0_at 4 = .ok (.iload_n 3, 1) := by decide +kernel
theorem dX0_at_5 : decode cX0_at 5 = .ok (.aload_n 0, 1) := by decide +kernel
theorem dX0_at_6 : decode cX0_at 6 = .ok (.getfield 14, 3) := by decide +kernel
theorem dX0_at_9 : decode cX0_at 9 = .ok (.invokevirtual 26, 3) := by decide +kernel
theorem dX0_at_12 : decode cX0_at 12 = .ok (.if_icmp .ge 32, 3) := by decide +kernel
theorem dX0_at_15 : decode cX0_at 15 = .ok (.aload_n 0, 1) := by decide +kernel
theorem dX0_at_16 : decode cX0_at 16 = .ok (.getfield 14, 3) := by decide +kernel
theorem dX0_at_19 : decode cX0_at 19 = .ok (.iload_n 3, 1) := by decide +kernel
theorem dX0_at_20 : decode cX0_at 20 = .ok (.invokevirtual 38, 3) := by decide +kernel
theorem dX0_at_23 : decode cX0_at 23 = .ok (.iload_n 1, 1) := by decide +kernel
theorem dX0_at_24 : decode cX0_at 24 = .ok (.if_icmp .gt 20, 3) := by decide +kernel
theorem dX0_at_27 : decode cX0_at 27 = .ok (.iload_n 2, 1) := by decide +kernel
theorem dX0_at_28 : decode cX0_at 28 = .ok (.aload_n 0, 1) := by decide +kernel
theorem dX0_at_29 : decode cX0_at 29 = .ok (.getfield 20, 3) := by decide +kernel
theorem dX0_at_32 : decode cX0_at 32 = .ok (.iload_n 3, 1) := by decide +kernel
theorem dX0_at_33 : decode cX0_at 33 = .ok (.invokevirtual 38, 3) := by decide +kernel
theorem dX0_at_36 : decode cX0_at 36 = .ok (.iadd, 1) := by decide +kernel
theorem dX0_at_37 : decode cX0_at 37 = .ok (.istore_n 2, 1) := by decide +kernel
theorem dX0_at_38 : decode cX0_at 38 = .ok (.iinc 3 1, 3) := by decide +kernel
theorem dX0_at_41 : decode cX0_at 41 = .ok (.goto (-37), 3) := by decide +kernel
theorem dX0_at_44 : decode cX0_at 44 = .ok (.iload_n 2, 1) := by decide +kernel
theorem dX0_at_45 : decode cX0_at 45 = .ok (.ireturn, 1) := by decide +kernel
set_option maxRecDepth 20000 in
theorem ggX0_changeAt_X3_placeOf : GoodIn wsX0_changeAt wsX3_placeOf := goodIn_ca (goodIn_r _ [7, 8, 9, 10, 11, 6, 12, 13, 14, 15, 16, 17, 21, 22] (by decide +kernel) (by decide +kernel)) (goodIn_sub (fun _ h => List.mem_cons_of_mem _ (List.mem_append_right _ h)) (by decide +kernel))
set_option maxRecDepth 20000 in
theorem gX0_changeAt_X3_placeOf : GoodIn wsX0_changeAt (wsV RX0 51 RX3 yX3_placeOf wsX3_placeOf) := goodIn_app (goodIn_of _ (by decide +kernel)) ggX0_changeAt_X3_placeOf
set_option maxRecDepth 20000 in
theorem ggX0_changeAt_X3_get : GoodIn wsX0_changeAt wsX3_get := goodIn_ca (goodIn_r _ [12, 13, 14, 15, 16, 6, 17, 8, 21, 22] (by decide +kernel) (by decide +kernel)) (goodIn_sub (fun _ h => List.mem_cons_of_mem _ (List.mem_append_right _ h)) (by decide +kernel))
set_option maxRecDepth 20000 in
theorem gX0_changeAt_X3_get : GoodIn wsX0_changeAt (wsV RX0 38 RX3 yX3_get wsX3_get) := goodIn_app (goodIn_of _ (by decide +kernel)) ggX0_changeAt_X3_get
theorem dX0_changeAt_0 : decode cX0_changeAt 0 = .ok (.aload_n 0, 1) := by decide +kernel
theorem dX0_changeAt_1 : decode cX0_changeAt 1 = .ok (.getfield 14, 3) := by decide +kernel
theorem dX0_changeAt_4 : decode cX0_changeAt 4 = .ok (.iload_n 1, 1) := by decide +kernel
theorem dX0_changeAt_5 : decode cX0_changeAt 5 = .ok (.invokevirtual 51, 3) := by decide +kernel
theorem dX0_changeAt_8 : decode cX0_changeAt 8 = .ok (.istore_n 2, 1) := by decide +kernel
theorem dX0_changeAt_9 : decode cX0_changeAt 9 = .ok (.iload_n 2, 1) := by decide +kernel
theorem dX0_changeAt_10 : decode cX0_changeAt 10 = .ok (.ifCond .ge 7, 3) := by decide +kernel
theorem dX0_changeAt_13 : decode cX0_changeAt 13 = .ok (.iconst 0, 1) := by decide +kernel
theorem dX0_changeAt_14 : decode cX0_changeAt 14 = .ok (.goto 11, 3) := by decide +kernel
theorem dX0_changeAt_17 : decode cX0_changeAt 17 = .ok (.aload_n 0, 1) := by decide +kernel
theorem dX0_changeAt_18 : decode cX0_changeAt 18 = .ok (.getfield 20, 3) := by decide +kernel
theorem dX0_changeAt_21 : decode cX0_changeAt 21 = .ok (.iload_n 2, 1) := by decide +kernel
theorem dX0_changeAt_22 : decode cX0_changeAt 22 = .ok (.invokevirtual 38, 3) := by decide +kernel
theorem dX0_changeAt_25 : decode cX0_changeAt 25 = .ok (.ireturn, 1) := by decide +kernel
set_option maxRecDepth 20000 in
theorem ggX0_highest_X3_size : GoodIn wsX0_highest wsX3_size := goodIn_r _ [11, 12, 24, 25] (by decide +kernel) (by decide +kernel)
set_option maxRecDepth 20000 in
theorem gX0_highest_X3_size : GoodIn wsX0_highest (wsV RX0 26 RX3 yX3_size wsX3_size) := goodIn_app (goodIn_of _ (by decide +kernel)) ggX0_highest_X3_size
set_option maxRecDepth 20000 in
theorem ggX0_highest_X3_get : GoodIn wsX0_highest wsX3_get := goodIn_ca (goodIn_r _ [16, 17, 18, 19, 20, 10, 21, 12, 24, 25] (by decide +kernel) (by decide +kernel)) (goodIn_sub (fun _ h => List.mem_cons_of_mem _ (List.mem_append_right _ h)) (by decide +kernel))
set_option maxRecDepth 20000 in
theorem gX0_highest_X3_get : GoodIn wsX0_highest (wsV RX0 38 RX3 yX3_get wsX3_get) := goodIn_app (goodIn_of _ (by decide +kernel)) ggX0_highest_X3_get
theorem dX0_highest_0 : decode cX0_highest 0 = .ok (.iconst 0, 1) := by decide +kernel
theorem dX0_highest_1 : decode cX0_highest 1 = .ok (.istore_n 1, 1) := by decide +kernel
theorem dX0_highest_2 : decode cX0_highest 2 = .ok (.iconst 0, 1) := by decide +kernel
theorem dX0_highest_3 : decode cX0_highest 3 = .ok (.istore_n 2, 1) := by decide +kernel
theorem dX0_highest_4 : decode cX0_highest 4 = .ok (.iconst 0, 1) := by decide +kernel
theorem dX0_highest_5 : decode cX0_highest 5 = .ok (.istore_n 3, 1) := by decide +kernel
theorem dX0_highest_6 : decode cX0_highest 6 = .ok (.iload_n 3, 1) := by decide +kernel
theorem dX0_highest_7 : decode cX0_highest 7 = .ok (.aload_n 0, 1) := by decide +kernel
theorem dX0_highest_8 : decode cX0_highest 8 = .ok (.getfield 14, 3) := by decide +kernel
theorem dX0_highest_11 : decode cX0_highest 11 = .ok (.invokevirtual 26, 3) := by decide +kernel
theorem dX0_highest_14 : decode cX0_highest 14 = .ok (.if_icmp .ge 26, 3) := by decide +kernel
theorem dX0_highest_17 : decode cX0_highest 17 = .ok (.iload_n 1, 1) := by decide +kernel
theorem dX0_highest_18 : decode cX0_highest 18 = .ok (.aload_n 0, 1) := by decide +kernel
theorem dX0_highest_19 : decode cX0_highest 19 = .ok (.getfield 20, 3) := by decide +kernel
theorem dX0_highest_22 : decode cX0_highest 22 = .ok (.iload_n 3, 1) := by decide +kernel
theorem dX0_highest_23 : decode cX0_highest 23 = .ok (.invokevirtual 38, 3) := by decide +kernel
theorem dX0_highest_26 : decode cX0_highest 26 = .ok (.iadd, 1) := by decide +kernel
theorem dX0_highest_27 : decode cX0_highest 27 = .ok (.istore_n 1, 1) := by decide +kernel
theorem dX0_highest_28 : decode cX0_highest 28 = .ok (.iload_n 2, 1) := by decide +kernel
theorem dX0_highest_29 : decode cX0_highest 29 = .ok (.iload_n 1, 1) := by decide +kernel
theorem dX0_highest_30 : decode cX0_highest 30 = .ok (.invokestatic 54, 3) := by decide +kernel
theorem dX0_highest_33 : decode cX0_highest 33 = .ok (.istore_n 2, 1) := by decide +kernel
theorem dX0_highest_34 : decode cX0_highest 34 = .ok (.iinc 3 1, 3) := by decide +kernel
theorem dX0_highest_37 : decode cX0_highest 37 = .ok (.goto (-31), 3) := by decide +kernel
theorem dX0_highest_40 : decode cX0_highest 40 = .ok (.iload_n 2, 1) := by decide +kernel
theorem dX0_highest_41 : decode cX0_highest 41 = .ok (.ireturn, 1) := by decide +kernel
set_option maxRecDepth 20000 in
theorem ggX0_highestFrom_X3_size : GoodIn wsX0_highestFrom wsX3_size := goodIn_r _ [7, 8, 20, 21] (by decide +kernel) (by decide +kernel)
set_option maxRecDepth 20000 in
theorem gX0_highestFrom_X3_size : GoodIn wsX0_highestFrom (wsV RX0 26 RX3 yX3_size wsX3_size) := goodIn_app (goodIn_of _ (by decide +kernel)) ggX0_highestFrom_X3_size
set_option maxRecDepth 20000 in
theorem ggX0_highestFrom_X3_get : GoodIn wsX0_highestFrom wsX3_get := goodIn_ca (goodIn_r _ [12, 13, 14, 15, 16, 6, 17, 8, 20, 21] (by decide +kernel) (by decide +kernel)) (goodIn_sub (fun _ h => List.mem_cons_of_mem _ (List.mem_append_right _ h)) (by decide +kernel))
set_option maxRecDepth 20000 in
theorem gX0_highestFrom_X3_get : GoodIn wsX0_highestFrom (wsV RX0 38 RX3 yX3_get wsX3_get) := goodIn_app (goodIn_of _ (by decide +kernel)) ggX0_highestFrom_X3_get
theorem dX0_highestFrom_0 : decode cX0_highestFrom 0 = .ok (.iconst 0, 1) := by decide +kernel
theorem dX0_highestFrom_1 : decode cX0_highestFrom 1 = .ok (.istore_n 1, 1) := by decide +kernel
theorem dX0_highestFrom_2 : decode cX0_highestFrom 2 = .ok (.iconst 0, 1) := by decide +kernel
theorem dX0_highestFrom_3 : decode cX0_highestFrom 3 = .ok (.istore_n 2, 1) := by decide +kernel
theorem dX0_highestFrom_4 : decode cX0_highestFrom 4 = .ok (.iconst 0, 1) := by decide +kernel
theorem dX0_highestFrom_5 : decode cX0_highestFrom 5 = .ok (.istore_n 3, 1) := by decide +kernel
theorem dX0_highestFrom_6 : decode cX0_highestFrom 6 = .ok (.iconst 0, 1) := by decide +kernel
theorem dX0_highestFrom_7 : decode cX0_highestFrom 7 = .ok (.istore 4, 2) := by decide +kernel
theorem dX0_highestFrom_9 : decode cX0_highestFrom 9 = .ok (.iload 4, 2) := by decide +kernel
theorem dX0_highestFrom_11 : decode cX0_highestFrom 11 = .ok (.aload_n 0, 1) := by decide +kernel
theorem dX0_highestFrom_12 : decode cX0_highestFrom 12 = .ok (.getfield 14, 3) := by decide +kernel
theorem dX0_highestFrom_15 : decode cX0_highestFrom 15 = .ok (.invokevirtual 26, 3) := by decide +kernel
theorem dX0_highestFrom_18 : decode cX0_highestFrom 18 = .ok (.if_icmp .ge 38, 3) := by decide +kernel
theorem dX0_highestFrom_21 : decode cX0_highestFrom 21 = .ok (.iload_n 1, 1) := by decide +kernel
theorem dX0_highestFrom_22 : decode cX0_highestFrom 22 = .ok (.aload_n 0, 1) := by decide +kernel
theorem dX0_highestFrom_23 : decode cX0_highestFrom 23 = .ok (.getfield 20, 3) := by decide +kernel
theorem dX0_highestFrom_26 : decode cX0_highestFrom 26 = .ok (.iload 4, 2) := by decide +kernel
theorem dX0_highestFrom_28 : decode cX0_highestFrom 28 = .ok (.invokevirtual 38, 3) := by decide +kernel
theorem dX0_highestFrom_31 : decode cX0_highestFrom 31 = .ok (.iadd, 1) := by decide +kernel
theorem dX0_highestFrom_32 : decode cX0_highestFrom 32 = .ok (.istore_n 1, 1) := by decide +kernel
theorem dX0_highestFrom_33 : decode cX0_highestFrom 33 = .ok (.iload_n 1, 1) := by decide +kernel
theorem dX0_highestFrom_34 : decode cX0_highestFrom 34 = .ok (.iload_n 2, 1) := by decide +kernel
theorem dX0_highestFrom_35 : decode cX0_highestFrom 35 = .ok (.if_icmp .le 15, 3) := by decide +kernel
theorem dX0_highestFrom_38 : decode cX0_highestFrom 38 = .ok (.iload_n 1, 1) := by decide +kernel
theorem dX0_highestFrom_39 : decode cX0_highestFrom 39 = .ok (.istore_n 2, 1) := by decide +kernel
theorem dX0_highestFrom_40 : decode cX0_highestFrom 40 = .ok (.aload_n 0, 1) := by decide +kernel
theorem dX0_highestFrom_41 : decode cX0_highestFrom 41 = .ok (.getfield 14, 3) := by decide +kernel
theorem dX0_highestFrom_44 : decode cX0_highestFrom 44 = .ok (.iload 4, 2) := by decide +kernel
theorem dX0_highestFrom_46 : decode cX0_highestFrom 46 = .ok (.invokevirtual 38, 3) := by decide +kernel
theorem dX0_highestFrom_49 : decode cX0_highestFrom 49 = .ok (.istore_n 3, 1) := by decide +kernel
theorem dX0_highestFrom_50 : decode cX0_highestFrom 50 = .ok (.iinc 4 1, 3) := by decide +kernel
theorem dX0_highestFrom_53 : decode cX0_highestFrom 53 = .ok (.goto (-44), 3) := by decide +kernel
theorem dX0_highestFrom_56 : decode cX0_highestFrom 56 = .ok (.iload_n 3, 1) := by decide +kernel
theorem dX0_highestFrom_57 : decode cX0_highestFrom 57 = .ok (.ireturn, 1) := by decide +kernel
set_option maxRecDepth 20000 in
theorem ggX0_allBusyTimes_X3_size : GoodIn wsX0_allBusyTimes wsX3_size := goodIn_r _ [6, 7, 32, 33] (by decide +kernel) (by decide +kernel)
set_option maxRecDepth 20000 in
theorem gX0_allBusyTimes_X3_size : GoodIn wsX0_allBusyTimes (wsV RX0 26 RX3 yX3_size wsX3_size) := goodIn_app (goodIn_of _ (by decide +kernel)) ggX0_allBusyTimes_X3_size
set_option maxRecDepth 20000 in
theorem ggX0_allBusyTimes_X3_get : GoodIn wsX0_allBusyTimes wsX3_get := goodIn_ca (goodIn_r _ [11, 12, 13, 14, 15, 5, 16, 7, 32, 33] (by decide +kernel) (by decide +kernel)) (goodIn_sub (fun _ h => List.mem_cons_of_mem _ (List.mem_append_right _ h)) (by decide +kernel))
set_option maxRecDepth 20000 in
theorem gX0_allBusyTimes_X3_get : GoodIn wsX0_allBusyTimes (wsV RX0 38 RX3 yX3_get wsX3_get) := goodIn_app (goodIn_of _ (by decide +kernel)) ggX0_allBusyTimes_X3_get
set_option maxRecDepth 20000 in
theorem ggX0_allBusyTimes_X0_busyTimes : GoodIn wsX0_allBusyTimes wsX0_busyTimes := goodIn_ca (goodIn_r _ [21, 1, 22, 23, 24, 25, 26, 27, 28, 29, 2, 3, 4, 5, 6, 7, 8, 9, 10, 11, 12, 13, 14, 15, 16, 30, 31, 32, 33] (by decide +kernel) (by decide +kernel)) (goodIn_sub (fun _ h => List.mem_cons_of_mem _ (List.mem_append_right _ h)) (by decide +kernel))
set_option maxRecDepth 20000 in
theorem gX0_allBusyTimes_X0_busyTimes : GoodIn wsX0_allBusyTimes (wsV RX0 60 RX0 yX0_busyTimes wsX0_busyTimes) := goodIn_app (goodIn_of _ (by decide +kernel)) ggX0_allBusyTimes_X0_busyTimes
theorem dX0_allBusyTimes_0 : decode cX0_allBusyTimes 0 = .ok (.aload_n 0, 1) := by decide +kernel
theorem dX0_allBusyTimes_1 : decode cX0_allBusyTimes 1 = .ok (.iconst 0, 1) := by decide +kernel
theorem dX0_allBusyTimes_2 : decode cX0_allBusyTimes 2 = .ok (.aload_n 0, 1) := by decide +kernel
theorem dX0_allBusyTimes_3 : decode cX0_allBusyTimes 3 = .ok (.getfield 14, 3) := by decide +kernel
theorem dX0_allBusyTimes_6 : decode cX0_allBusyTimes 6 = .ok (.aload_n 0, 1) := by decide +kernel
theorem dX0_allBusyTimes_7 : decode cX0_allBusyTimes 7 = .ok (.getfield 14, 3) := by decide +kernel
theorem dX0_allBusyTimes_10 : decode cX0_allBusyTimes 10 = .ok (.invokevirtual 26, 3) := by decide +kernel
theorem dX0_allBusyTimes_13 : decode cX0_allBusyTimes 13 = .ok (.iconst 1, 1) := by decide +kernel
theorem dX0_allBusyTimes_14 : decode cX0_allBusyTimes 14 = .ok (.isub, 1) := by decide +kernel
theorem dX0_allBusyTimes_15 : decode cX0_allBusyTimes 15 = .ok (.invokevirtual 38, 3) := by decide +kernel
theorem dX0_allBusyTimes_18 : decode cX0_allBusyTimes 18 = .ok (.invokevirtual 60, 3) := by decide +kernel
theorem dX0_allBusyTimes_21 : decode cX0_allBusyTimes 21 = .ok (.ireturn, 1) := by decide +kernel
set_option maxRecDepth 20000 in
theorem ggX0_busyTimes_X3_size : GoodIn wsX0_busyTimes wsX3_size := goodIn_r _ [14, 15, 27, 28] (by decide +kernel) (by decide +kernel)
set_option maxRecDepth 20000 in
theorem gX0_busyTimes_X3_size : GoodIn wsX0_busyTimes (wsV RX0 26 RX3 yX3_size wsX3_size) := goodIn_app (goodIn_of _ (by decide +kernel)) ggX0_busyTimes_X3_size
set_option maxRecDepth 20000 in
theorem ggX0_busyTimes_X3_get : GoodIn wsX0_busyTimes wsX3_get := goodIn_ca (goodIn_r _ [19, 20, 21, 22, 23, 13, 24, 15, 27, 28] (by decide +kernel) (by decide +kernel)) (goodIn_sub (fun _ h => List.mem_cons_of_mem _ (List.mem_append_right _ h)) (by decide +kernel))
set_option maxRecDepth 20000 in
theorem gX0_busyTimes_X3_get : GoodIn wsX0_busyTimes (wsV RX0 38 RX3 yX3_get wsX3_get) := goodIn_app (goodIn_of _ (by decide +kernel)) ggX0_busyTimes_X3_get
theorem dX0_busyTimes_0 : decode cX0_busyTimes 0 = .ok (.iconst 0, 1) := by decide +kernel
theorem dX0_busyTimes_1 : decode cX0_busyTimes 1 = .ok (.istore_n 3, 1) := by decide +kernel
theorem dX0_busyTimes_2 : decode cX0_busyTimes 2 = .ok (.iconst 0, 1) := by decide +kernel
theorem dX0_busyTimes_3 : decode cX0_busyTimes 3 = .ok (.istore 4, 2) := by decide +kernel
theorem dX0_busyTimes_5 : decode cX0_busyTimes 5 = .ok (.iconst 0, 1) := by decide +kernel
theorem dX0_busyTimes_6 : decode cX0_busyTimes 6 = .ok (.istore 5, 2) := by decide +kernel
theorem dX0_busyTimes_8 : decode cX0_busyTimes 8 = .ok (.iload 5, 2) := by decide +kernel
theorem dX0_busyTimes_10 : decode cX0_busyTimes 10 = .ok (.aload_n 0, 1) := by decide +kernel
theorem dX0_busyTimes_11 : decode cX0_busyTimes 11 = .ok (.getfield 14, 3) := by decide +kernel
theorem dX0_busyTimes_14 : decode cX0_busyTimes 14 = .ok (.invokevirtual 26, 3) := by decide +kernel
theorem dX0_busyTimes_17 : decode cX0_busyTimes 17 = .ok (.if_icmp .ge 74, 3) := by decide +kernel
theorem dX0_busyTimes_20 : decode cX0_busyTimes 20 = .ok (.iload_n 3, 1) := by decide +kernel
theorem dX0_busyTimes_21 : decode cX0_busyTimes 21 = .ok (.aload_n 0, 1) := by decide +kernel
theorem dX0_busyTimes_22 : decode cX0_busyTimes 22 = .ok (.getfield 20, 3) := by decide +kernel
theorem dX0_busyTimes_25 : decode cX0_busyTimes 25 = .ok (.iload 5, 2) := by decide +kernel
theorem dX0_busyTimes_27 : decode cX0_busyTimes 27 = .ok (.invokevirtual 38, 3) := by decide +kernel
theorem dX0_busyTimes_30 : decode cX0_busyTimes 30 = .ok (.iadd, 1) := by decide +kernel
theorem dX0_busyTimes_31 : decode cX0_busyTimes 31 = .ok (.istore_n 3, 1) := by decide +kernel
theorem dX0_busyTimes_32 : decode cX0_busyTimes 32 = .ok (.iload_n 1, 1) := by decide +kernel
theorem dX0_busyTimes_33 : decode cX0_busyTimes 33 = .ok (.aload_n 0, 1) := by decide +kernel
theorem dX0_busyTimes_34 : decode cX0_busyTimes 34 = .ok (.getfield 14, 3) := by decide +kernel
theorem dX0_busyTimes_37 : decode cX0_busyTimes 37 = .ok (.iload 5, 2) := by decide +kernel
theorem dX0_busyTimes_39 : decode cX0_busyTimes 39 = .ok (.invokevirtual 38, 3) := by decide +kernel
theorem dX0_busyTimes_42 : decode cX0_busyTimes 42 = .ok (.invokestatic 54, 3) := by decide +kernel
theorem dX0_busyTimes_45 : decode cX0_busyTimes 45 = .ok (.istore 6, 2) := by decide +kernel
theorem dX0_busyTimes_47 : decode cX0_busyTimes 47 = .ok (.iload_n 2, 1) := by decide +kernel
theorem dX0_busyTimes_48 : decode cX0_busyTimes 48 = .ok (.aload_n 0, 1) := by decide +kernel
theorem dX0_busyTimes_49 : decode cX0_busyTimes 49 = .ok (.getfield 14, 3) := by decide +kernel
theorem dX0_busyTimes_52 : decode cX0_busyTimes 52 = .ok (.iload 5, 2) := by decide +kernel
theorem dX0_busyTimes_54 : decode cX0_busyTimes 54 = .ok (.iconst 1, 1) := by decide +kernel
theorem dX0_busyTimes_55 : decode cX0_busyTimes 55 = .ok (.iadd, 1) := by decide +kernel
theorem dX0_busyTimes_56 : decode cX0_busyTimes 56 = .ok (.invokevirtual 38, 3) := by decide +kernel
theorem dX0_busyTimes_59 : decode cX0_busyTimes 59 = .ok (.invokestatic 63, 3) := by decide +kernel
theorem dX0_busyTimes_62 : decode cX0_busyTimes 62 = .ok (.istore 7, 2) := by decide +kernel
theorem dX0_busyTimes_64 : decode cX0_busyTimes 64 = .ok (.iload_n 3, 1) := by decide +kernel
theorem dX0_busyTimes_65 : decode cX0_busyTimes 65 = .ok (.ifCond .eq 20, 3) := by decide +kernel
theorem dX0_busyTimes_68 : decode cX0_busyTimes 68 = .ok (.iload 6, 2) := by decide +kernel
theorem dX0_busyTimes_70 : decode cX0_busyTimes 70 = .ok (.iload 7, 2) := by decide +kernel
theorem dX0_busyTimes_72 : decode cX0_busyTimes 72 = .ok (.if_icmp .ge 13, 3) := by decide +kernel
theorem dX0_busyTimes_75 : decode cX0_busyTimes 75 = .ok (.iload 4, 2) := by decide +kernel
theorem dX0_busyTimes_77 : decode cX0_busyTimes 77 = .ok (.iload 7, 2) := by decide +kernel
theorem dX0_busyTimes_79 : decode cX0_busyTimes 79 = .ok (.iload 6, 2) := by decide +kernel
theorem dX0_busyTimes_81 : decode cX0_busyTimes 81 = .ok (.isub, 1) := by decide +kernel
theorem dX0_busyTimes_82 : decode cX0_busyTimes 82 = .ok (.iadd, 1) := by decide +kernel
theorem dX0_busyTimes_83 : decode cX0_busyTimes 83 = .ok (.istore 4, 2) := by decide +kernel
theorem dX0_busyTimes_85 : decode cX0_busyTimes 85 = .ok (.iinc 5 1, 3) := by decide +kernel
theorem dX0_busyTimes_88 : decode cX0_busyTimes 88 = .ok (.goto (-80), 3) := by decide +kernel
theorem dX0_busyTimes_91 : decode cX0_busyTimes 91 = .ok (.iload 4, 2) := by decide +kernel
theorem dX0_busyTimes_93 : decode cX0_busyTimes 93 = .ok (.ireturn, 1) := by decide +kernel
set_option maxRecDepth 20000 in
theorem ggX0_busySpans_X3_size : GoodIn wsX0_busySpans wsX3_size := goodIn_r _ [7, 8, 20, 21] (by decide +kernel) (by decide +kernel)
set_option maxRecDepth 20000 in
theorem gX0_busySpans_X3_size : GoodIn wsX0_busySpans (wsV RX0 26 RX3 yX3_size wsX3_size) := goodIn_app (goodIn_of _ (by decide +kernel)) ggX0_busySpans_X3_size
set_option maxRecDepth 20000 in
theorem ggX0_busySpans_X3_get : GoodIn wsX0_busySpans wsX3_get := goodIn_ca (goodIn_r _ [12, 13, 14, 15, 16, 6, 17, 8, 20, 21] (by decide +kernel) (by decide +kernel)) (goodIn_sub (fun _ h => List.mem_cons_of_mem _ (List.mem_append_right _ h)) (by decide +kernel))
set_option maxRecDepth 20000 in
theorem gX0_busySpans_X3_get : GoodIn wsX0_busySpans (wsV RX0 38 RX3 yX3_get wsX3_get) := goodIn_app (goodIn_of _ (by decide +kernel)) ggX0_busySpans_X3_get
theorem dX0_busySpans_0 : decode cX0_busySpans 0 = .ok (.iconst 0, 1) := by decide +kernel
theorem dX0_busySpans_1 : decode cX0_busySpans 1 = .ok (.istore_n 1, 1) := by decide +kernel
theorem dX0_busySpans_2 : decode cX0_busySpans 2 = .ok (.iconst 0, 1) := by decide +kernel
theorem dX0_busySpans_3 : decode cX0_busySpans 3 = .ok (.istore_n 2, 1) := by decide +kernel
theorem dX0_busySpans_4 : decode cX0_busySpans 4 = .ok (.iconst 0, 1) := by decide +kernel
theorem dX0_busySpans_5 : decode cX0_busySpans 5 = .ok (.istore_n 3, 1) := by decide +kernel
theorem dX0_busySpans_6 : decode cX0_busySpans 6 = .ok (.iload_n 3, 1) := by decide +kernel
theorem dX0_busySpans_7 : decode cX0_busySpans 7 = .ok (.aload_n 0, 1) := by decide +kernel
theorem dX0_busySpans_8 : decode cX0_busySpans 8 = .ok (.getfield 14, 3) := by decide +kernel
theorem dX0_busySpans_11 : decode cX0_busySpans 11 = .ok (.invokevirtual 26, 3) := by decide +kernel
theorem dX0_busySpans_14 : decode cX0_busySpans 14 = .ok (.if_icmp .ge 32, 3) := by decide +kernel
theorem dX0_busySpans_17 : decode cX0_busySpans 17 = .ok (.iload_n 2, 1) := by decide +kernel
theorem dX0_busySpans_18 : decode cX0_busySpans 18 = .ok (.iload_n 1, 1) := by decide +kernel
theorem dX0_busySpans_19 : decode cX0_busySpans 19 = .ok (.ifCond .ne 7, 3) := by decide +kernel
theorem dX0_busySpans_22 : decode cX0_busySpans 22 = .ok (.iconst 1, 1) := by decide +kernel
theorem dX0_busySpans_23 : decode cX0_busySpans 23 = .ok (.goto 4, 3) := by decide +kernel
theorem dX0_busySpans_26 : decode cX0_busySpans 26 = .ok (.iconst 0, 1) := by decide +kernel
theorem dX0_busySpans_27 : decode cX0_busySpans 27 = .ok (.iadd, 1) := by decide +kernel
theorem dX0_busySpans_28 : decode cX0_busySpans 28 = .ok (.istore_n 2, 1) := by decide +kernel
theorem dX0_busySpans_29 : decode cX0_busySpans 29 = .ok (.iload_n 1, 1) := by decide +kernel
theorem dX0_busySpans_30 : decode cX0_busySpans 30 = .ok (.aload_n 0, 1) := by decide +kernel
theorem dX0_busySpans_31 : decode cX0_busySpans 31 = .ok (.getfield 20, 3) := by decide +kernel
theorem dX0_busySpans_34 : decode cX0_busySpans 34 = .ok (.iload_n 3, 1) := by decide +kernel
theorem dX0_busySpans_35 : decode cX0_busySpans 35 = .ok (.invokevirtual 38, 3) := by decide +kernel
theorem dX0_busySpans_38 : decode cX0_busySpans 38 = .ok (.iadd, 1) := by decide +kernel
theorem dX0_busySpans_39 : decode cX0_busySpans 39 = .ok (.istore_n 1, 1) := by decide +kernel
theorem dX0_busySpans_40 : decode cX0_busySpans 40 = .ok (.iinc 3 1, 3) := by decide +kernel
theorem dX0_busySpans_43 : decode cX0_busySpans 43 = .ok (.goto (-37), 3) := by decide +kernel
theorem dX0_busySpans_46 : decode cX0_busySpans 46 = .ok (.iload_n 2, 1) := by decide +kernel
theorem dX0_busySpans_47 : decode cX0_busySpans 47 = .ok (.ireturn, 1) := by decide +kernel
set_option maxRecDepth 20000 in
theorem ggX0_firstChangeOf_X3_size : GoodIn wsX0_firstChangeOf wsX3_size := goodIn_r _ [7, 8, 20, 21] (by decide +kernel) (by decide +kernel)
set_option maxRecDepth 20000 in
theorem gX0_firstChangeOf_X3_size : GoodIn wsX0_firstChangeOf (wsV RX0 26 RX3 yX3_size wsX3_size) := goodIn_app (goodIn_of _ (by decide +kernel)) ggX0_firstChangeOf_X3_size
set_option maxRecDepth 20000 in
theorem ggX0_firstChangeOf_X3_get : GoodIn wsX0_firstChangeOf wsX3_get := goodIn_ca (goodIn_r _ [12, 13, 14, 15, 16, 6, 17, 8, 20, 21] (by decide +kernel) (by decide +kernel)) (goodIn_sub (fun _ h => List.mem_cons_of_mem _ (List.mem_append_right _ h)) (by decide +kernel))
set_option maxRecDepth 20000 in
theorem gX0_firstChangeOf_X3_get : GoodIn wsX0_firstChangeOf (wsV RX0 38 RX3 yX3_get wsX3_get) := goodIn_app (goodIn_of _ (by decide +kernel)) ggX0_firstChangeOf_X3_get
theorem dX0_firstChangeOf_0 : decode cX0_firstChangeOf 0 = .ok (.iconst 0, 1) := by decide +kernel
theorem dX0_firstChangeOf_1 : decode cX0_firstChangeOf 1 = .ok (.istore_n 2, 1) := by decide +kernel
theorem dX0_firstChangeOf_2 : decode cX0_firstChangeOf 2 = .ok (.iconst 0, 1) := by decide +kernel
theorem dX0_firstChangeOf_3 : decode cX0_firstChangeOf 3 = .ok (.istore_n 3, 1) := by decide +kernel
theorem dX0_firstChangeOf_4 : decode cX0_firstChangeOf 4 = .ok (.iconst 0, 1) := by decide +kernel
theorem dX0_firstChangeOf_5 : decode cX0_firstChangeOf 5 = .ok (.istore 4, 2) := by decide +kernel
theorem dX0_firstChangeOf_7 : decode cX0_firstChangeOf 7 = .ok (.iload 4, 2) := by decide +kernel
theorem dX0_firstChangeOf_9 : decode cX0_firstChangeOf 9 = .ok (.aload_n 0, 1) := by decide +kernel
theorem dX0_firstChangeOf_10 : decode cX0_firstChangeOf 10 = .ok (.getfield 14, 3) := by decide +kernel
theorem dX0_firstChangeOf_13 : decode cX0_firstChangeOf 13 = .ok (.invokevirtual 26, 3) := by decide +kernel
theorem dX0_firstChangeOf_16 : decode cX0_firstChangeOf 16 = .ok (.if_icmp .ge 36, 3) := by decide +kernel
theorem dX0_firstChangeOf_19 : decode cX0_firstChangeOf 19 = .ok (.iload_n 2, 1) := by decide +kernel
theorem dX0_firstChangeOf_20 : decode cX0_firstChangeOf 20 = .ok (.ifCond .ne 14, 3) := by decide +kernel
theorem dX0_firstChangeOf_23 : decode cX0_firstChangeOf 23 = .ok (.iload_n 3, 1) := by decide +kernel
theorem dX0_firstChangeOf_24 : decode cX0_firstChangeOf 24 = .ok (.iload_n 1, 1) := by decide +kernel
theorem dX0_firstChangeOf_25 : decode cX0_firstChangeOf 25 = .ok (.if_icmp .ne 6, 3) := by decide +kernel
theorem dX0_firstChangeOf_28 : decode cX0_firstChangeOf 28 = .ok (.iload 4, 2) := by decide +kernel
theorem dX0_firstChangeOf_30 : decode cX0_firstChangeOf 30 = .ok (.ireturn, 1) := by decide +kernel
theorem dX0_firstChangeOf_31 : decode cX0_firstChangeOf 31 = .ok (.iinc 3 1, 3) := by decide +kernel
theorem dX0_firstChangeOf_34 : decode cX0_firstChangeOf 34 = .ok (.iload_n 2, 1) := by decide +kernel
theorem dX0_firstChangeOf_35 : decode cX0_firstChangeOf 35 = .ok (.aload_n 0, 1) := by decide +kernel
theorem dX0_firstChangeOf_36 : decode cX0_firstChangeOf 36 = .ok (.getfield 20, 3) := by decide +kernel
theorem dX0_firstChangeOf_39 : decode cX0_firstChangeOf 39 = .ok (.iload 4, 2) := by decide +kernel
theorem dX0_firstChangeOf_41 : decode cX0_firstChangeOf 41 = .ok (.invokevirtual 38, 3) := by decide +kernel
theorem dX0_firstChangeOf_44 : decode cX0_firstChangeOf 44 = .ok (.iadd, 1) := by decide +kernel
theorem dX0_firstChangeOf_45 : decode cX0_firstChangeOf 45 = .ok (.istore_n 2, 1) := by decide +kernel
theorem dX0_firstChangeOf_46 : decode cX0_firstChangeOf 46 = .ok (.iinc 4 1, 3) := by decide +kernel
theorem dX0_firstChangeOf_49 : decode cX0_firstChangeOf 49 = .ok (.goto (-42), 3) := by decide +kernel
theorem dX0_firstChangeOf_52 : decode cX0_firstChangeOf 52 = .ok (.iconst (-1), 1) := by decide +kernel
theorem dX0_firstChangeOf_53 : decode cX0_firstChangeOf 53 = .ok (.ireturn, 1) := by decide +kernel
set_option maxRecDepth 20000 in
theorem ggX0_endOfSpan_X3_size : GoodIn wsX0_endOfSpan wsX3_size := goodIn_r _ [7, 8, 20, 21] (by decide +kernel) (by decide +kernel)
set_option maxRecDepth 20000 in
theorem gX0_endOfSpan_X3_size : GoodIn wsX0_endOfSpan (wsV RX0 26 RX3 yX3_size wsX3_size) := goodIn_app (goodIn_of _ (by decide +kernel)) ggX0_endOfSpan_X3_size
set_option maxRecDepth 20000 in
theorem ggX0_endOfSpan_X3_get : GoodIn wsX0_endOfSpan wsX3_get := goodIn_ca (goodIn_r _ [12, 13, 14, 15, 16, 6, 17, 8, 20, 21] (by decide +kernel) (by decide +kernel)) (goodIn_sub (fun _ h => List.mem_cons_of_mem _ (List.mem_append_right _ h)) (by decide +kernel))
set_option maxRecDepth 20000 in
theorem gX0_endOfSpan_X3_get : GoodIn wsX0_endOfSpan (wsV RX0 38 RX3 yX3_get wsX3_get) := goodIn_app (goodIn_of _ (by decide +kernel)) ggX0_endOfSpan_X3_get
theorem dX0_endOfSpan_0 : decode cX0_endOfSpan 0 = .ok (.iconst 0, 1) := by decide +kernel
theorem dX0_endOfSpan_1 : decode cX0_endOfSpan 1 = .ok (.istore_n 2, 1) := by decide +kernel
theorem dX0_endOfSpan_2 : decode cX0_endOfSpan 2 = .ok (.iload_n 1, 1) := by decide +kernel
theorem dX0_endOfSpan_3 : decode cX0_endOfSpan 3 = .ok (.istore_n 3, 1) := by decide +kernel
theorem dX0_endOfSpan_4 : decode cX0_endOfSpan 4 = .ok (.iload_n 3, 1) := by decide +kernel
theorem dX0_endOfSpan_5 : decode cX0_endOfSpan 5 = .ok (.aload_n 0, 1) := by decide +kernel
theorem dX0_endOfSpan_6 : decode cX0_endOfSpan 6 = .ok (.getfield 14, 3) := by decide +kernel
theorem dX0_endOfSpan_9 : decode cX0_endOfSpan 9 = .ok (.invokevirtual 26, 3) := by decide +kernel
theorem dX0_endOfSpan_12 : decode cX0_endOfSpan 12 = .ok (.if_icmp .ge 33, 3) := by decide +kernel
theorem dX0_endOfSpan_15 : decode cX0_endOfSpan 15 = .ok (.iload_n 2, 1) := by decide +kernel
theorem dX0_endOfSpan_16 : decode cX0_endOfSpan 16 = .ok (.aload_n 0, 1) := by decide +kernel
theorem dX0_endOfSpan_17 : decode cX0_endOfSpan 17 = .ok (.getfield 20, 3) := by decide +kernel
theorem dX0_endOfSpan_20 : decode cX0_endOfSpan 20 = .ok (.iload_n 3, 1) := by decide +kernel
theorem dX0_endOfSpan_21 : decode cX0_endOfSpan 21 = .ok (.invokevirtual 38, 3) := by decide +kernel
theorem dX0_endOfSpan_24 : decode cX0_endOfSpan 24 = .ok (.iadd, 1) := by decide +kernel
theorem dX0_endOfSpan_25 : decode cX0_endOfSpan 25 = .ok (.istore_n 2, 1) := by decide +kernel
theorem dX0_endOfSpan_26 : decode cX0_endOfSpan 26 = .ok (.iload_n 2, 1) := by decide +kernel
theorem dX0_endOfSpan_27 : decode cX0_endOfSpan 27 = .ok (.ifCond .ne 12, 3) := by decide +kernel
theorem dX0_endOfSpan_30 : decode cX0_endOfSpan 30 = .ok (.aload_n 0, 1) := by decide +kernel
theorem dX0_endOfSpan_31 : decode cX0_endOfSpan 31 = .ok (.getfield 14, 3) := by decide +kernel
theorem dX0_endOfSpan_34 : decode cX0_endOfSpan 34 = .ok (.iload_n 3, 1) := by decide +kernel
theorem dX0_endOfSpan_35 : decode cX0_endOfSpan 35 = .ok (.invokevirtual 38, 3) := by decide +kernel
theorem dX0_endOfSpan_38 : decode cX0_endOfSpan 38 = .ok (.ireturn, 1) := by decide +kernel
theorem dX0_endOfSpan_39 : decode cX0_endOfSpan 39 = .ok (.iinc 3 1, 3) := by decide +kernel
theorem dX0_endOfSpan_42 : decode cX0_endOfSpan 42 = .ok (.goto (-38), 3) := by decide +kernel
theorem dX0_endOfSpan_45 : decode cX0_endOfSpan 45 = .ok (.iconst 0, 1) := by decide +kernel
theorem dX0_endOfSpan_46 : decode cX0_endOfSpan 46 = .ok (.ireturn, 1) := by decide +kernel
set_option maxRecDepth 20000 in
theorem ggX0_highestOfSpan_X3_size : GoodIn wsX0_highestOfSpan wsX3_size := goodIn_r _ [11, 12, 24, 25] (by decide +kernel) (by decide +kernel)
set_option maxRecDepth 20000 in
theorem gX0_highestOfSpan_X3_size : GoodIn wsX0_highestOfSpan (wsV RX0 26 RX3 yX3_size wsX3_size) := goodIn_app (goodIn_of _ (by decide +kernel)) ggX0_highestOfSpan_X3_size
set_option maxRecDepth 20000 in
theorem ggX0_highestOfSpan_X3_get : GoodIn wsX0_highestOfSpan wsX3_get := goodIn_ca (goodIn_r _ [16, 17, 18, 19, 20, 10, 21, 12, 24, 25] (by decide +kernel) (by decide +kernel)) (goodIn_sub (fun _ h => List.mem_cons_of_mem _ (List.mem_append_right _ h)) (by decide +kernel))
set_option maxRecDepth 20000 in
theorem gX0_highestOfSpan_X3_get : GoodIn wsX0_highestOfSpan (wsV RX0 38 RX3 yX3_get wsX3_get) := goodIn_app (goodIn_of _ (by decide +kernel)) ggX0_highestOfSpan_X3_get
theorem dX0_highestOfSpan_0 : decode cX0_highestOfSpan 0 = .ok (.iconst 0, 1) := by decide +kernel
theorem dX0_highestOfSpan_1 : decode cX0_highestOfSpan 1 = .ok (.istore_n 2, 1) := by decide +kernel
theorem dX0_highestOfSpan_2 : decode cX0_highestOfSpan 2 = .ok (.iconst 0, 1) := by decide +kernel
theorem dX0_highestOfSpan_3 : decode cX0_highestOfSpan 3 = .ok (.istore_n 3, 1) := by decide +kernel
theorem dX0_highestOfSpan_4 : decode cX0_highestOfSpan 4 = .ok (.iload_n 1, 1) := by decide +kernel
theorem dX0_highestOfSpan_5 : decode cX0_highestOfSpan 5 = .ok (.istore 4, 2) := by decide +kernel
theorem dX0_highestOfSpan_7 : decode cX0_highestOfSpan 7 = .ok (.iload 4, 2) := by decide +kernel
theorem dX0_highestOfSpan_9 : decode cX0_highestOfSpan 9 = .ok (.aload_n 0, 1) := by decide +kernel
theorem dX0_highestOfSpan_10 : decode cX0_highestOfSpan 10 = .ok (.getfield 14, 3) := by decide +kernel
theorem dX0_highestOfSpan_13 : decode cX0_highestOfSpan 13 = .ok (.invokevirtual 26, 3) := by decide +kernel
theorem dX0_highestOfSpan_16 : decode cX0_highestOfSpan 16 = .ok (.if_icmp .ge 33, 3) := by decide +kernel
theorem dX0_highestOfSpan_19 : decode cX0_highestOfSpan 19 = .ok (.iload_n 2, 1) := by decide +kernel
theorem dX0_highestOfSpan_20 : decode cX0_highestOfSpan 20 = .ok (.aload_n 0, 1) := by decide +kernel
theorem dX0_highestOfSpan_21 : decode cX0_highestOfSpan 21 = .ok (.getfield 20, 3) := by decide +kernel
theorem dX0_highestOfSpan_24 : decode cX0_highestOfSpan 24 = .ok (.iload 4, 2) := by decide +kernel
theorem dX0_highestOfSpan_26 : decode cX0_highestOfSpan 26 = .ok (.invokevirtual 38, 3) := by decide +kernel
theorem dX0_highestOfSpan_29 : decode cX0_highestOfSpan 29 = .ok (.iadd, 1) := by decide +kernel
theorem dX0_highestOfSpan_30 : decode cX0_highestOfSpan 30 = .ok (.istore_n 2, 1) := by decide +kernel
theorem dX0_highestOfSpan_31 : decode cX0_highestOfSpan 31 = .ok (.iload_n 2, 1) := by decide +kernel
theorem dX0_highestOfSpan_32 : decode cX0_highestOfSpan 32 = .ok (.ifCond .ne 5, 3) := by decide +kernel
theorem dX0_highestOfSpan_35 : decode cX0_highestOfSpan 35 = .ok (.iload_n 3, 1) := by decide +kernel
theorem dX0_highestOfSpan_36 : decode cX0_highestOfSpan 36 = .ok (.ireturn, 1) := by decide +kernel
theorem dX0_highestOfSpan_37 : decode cX0_highestOfSpan 37 = .ok (.iload_n 3, 1) := by decide +kernel
theorem dX0_highestOfSpan_38 : decode cX0_highestOfSpan 38 = .ok (.iload_n 2, 1) := by decide +kernel
theorem dX0_highestOfSpan_39 : decode cX0_highestOfSpan 39 = .ok (.invokestatic 54, 3) := by decide +kernel
theorem dX0_highestOfSpan_42 : decode cX0_highestOfSpan 42 = .ok (.istore_n 3, 1) := by decide +kernel
theorem dX0_highestOfSpan_43 : decode cX0_highestOfSpan 43 = .ok (.iinc 4 1, 3) := by decide +kernel
theorem dX0_highestOfSpan_46 : decode cX0_highestOfSpan 46 = .ok (.goto (-39), 3) := by decide +kernel
theorem dX0_highestOfSpan_49 : decode cX0_highestOfSpan 49 = .ok (.iload_n 3, 1) := by decide +kernel
theorem dX0_highestOfSpan_50 : decode cX0_highestOfSpan 50 = .ok (.ireturn, 1) := by decide +kernel
set_option maxRecDepth 20000 in
theorem ggX0_freeFrom_X3_size : GoodIn wsX0_freeFrom wsX3_size := goodIn_r _ [11, 12, 24, 25] (by decide +kernel) (by decide +kernel)
set_option maxRecDepth 20000 in
theorem gX0_freeFrom_X3_size : GoodIn wsX0_freeFrom (wsV RX0 26 RX3 yX3_size wsX3_size) := goodIn_app (goodIn_of _ (by decide +kernel)) ggX0_freeFrom_X3_size
set_option maxRecDepth 20000 in
theorem ggX0_freeFrom_X3_get : GoodIn wsX0_freeFrom wsX3_get := goodIn_ca (goodIn_r _ [16, 17, 18, 19, 20, 10, 21, 12, 24, 25] (by decide +kernel) (by decide +kernel)) (goodIn_sub (fun _ h => List.mem_cons_of_mem _ (List.mem_append_right _ h)) (by decide +kernel))
set_option maxRecDepth 20000 in
theorem gX0_freeFrom_X3_get : GoodIn wsX0_freeFrom (wsV RX0 38 RX3 yX3_get wsX3_get) := goodIn_app (goodIn_of _ (by decide +kernel)) ggX0_freeFrom_X3_get
theorem dX0_freeFrom_0 : decode cX0_freeFrom 0 = .ok (.iconst 0, 1) := by decide +kernel
theorem dX0_freeFrom_1 : decode cX0_freeFrom 1 = .ok (.istore_n 3, 1) := by decide +kernel
theorem dX0_freeFrom_2 : decode cX0_freeFrom 2 = .ok (.iload_n 1, 1) := by decide +kernel
theorem dX0_freeFrom_3 : decode cX0_freeFrom 3 = .ok (.istore 4, 2) := by decide +kernel
theorem dX0_freeFrom_5 : decode cX0_freeFrom 5 = .ok (.iconst 0, 1) := by decide +kernel
theorem dX0_freeFrom_6 : decode cX0_freeFrom 6 = .ok (.istore 5, 2) := by decide +kernel
theorem dX0_freeFrom_8 : decode cX0_freeFrom 8 = .ok (.iload 5, 2) := by decide +kernel
theorem dX0_freeFrom_10 : decode cX0_freeFrom 10 = .ok (.aload_n 0, 1) := by decide +kernel
theorem dX0_freeFrom_11 : decode cX0_freeFrom 11 = .ok (.getfield 14, 3) := by decide +kernel
theorem dX0_freeFrom_14 : decode cX0_freeFrom 14 = .ok (.invokevirtual 26, 3) := by decide +kernel
theorem dX0_freeFrom_17 : decode cX0_freeFrom 17 = .ok (.if_icmp .ge 59, 3) := by decide +kernel
theorem dX0_freeFrom_20 : decode cX0_freeFrom 20 = .ok (.iload_n 3, 1) := by decide +kernel
theorem dX0_freeFrom_21 : decode cX0_freeFrom 21 = .ok (.aload_n 0, 1) := by decide +kernel
theorem dX0_freeFrom_22 : decode cX0_freeFrom 22 = .ok (.getfield 20, 3) := by decide +kernel
theorem dX0_freeFrom_25 : decode cX0_freeFrom 25 = .ok (.iload 5, 2) := by decide +kernel
theorem dX0_freeFrom_27 : decode cX0_freeFrom 27 = .ok (.invokevirtual 38, 3) := by decide +kernel
theorem dX0_freeFrom_30 : decode cX0_freeFrom 30 = .ok (.iadd, 1) := by decide +kernel
theorem dX0_freeFrom_31 : decode cX0_freeFrom 31 = .ok (.istore_n 3, 1) := by decide +kernel
theorem dX0_freeFrom_32 : decode cX0_freeFrom 32 = .ok (.iload_n 3, 1) := by decide +kernel
theorem dX0_freeFrom_33 : decode cX0_freeFrom 33 = .ok (.ifCond .eq 37, 3) := by decide +kernel
theorem dX0_freeFrom_36 : decode cX0_freeFrom 36 = .ok (.aload_n 0, 1) := by decide +kernel
theorem dX0_freeFrom_37 : decode cX0_freeFrom 37 = .ok (.getfield 14, 3) := by decide +kernel
theorem dX0_freeFrom_40 : decode cX0_freeFrom 40 = .ok (.iload 5, 2) := by decide +kernel
theorem dX0_freeFrom_42 : decode cX0_freeFrom 42 = .ok (.invokevirtual 38, 3) := by decide +kernel
theorem dX0_freeFrom_45 : decode cX0_freeFrom 45 = .ok (.iload 4, 2) := by decide +kernel
theorem dX0_freeFrom_47 : decode cX0_freeFrom 47 = .ok (.iload_n 2, 1) := by decide +kernel
theorem dX0_freeFrom_48 : decode cX0_freeFrom 48 = .ok (.iadd, 1) := by decide +kernel
theorem dX0_freeFrom_49 : decode cX0_freeFrom 49 = .ok (.if_icmp .ge 21, 3) := by decide +kernel
theorem dX0_freeFrom_52 : decode cX0_freeFrom 52 = .ok (.iload 4, 2) := by decide +kernel
theorem dX0_freeFrom_54 : decode cX0_freeFrom 54 = .ok (.aload_n 0, 1) := by decide +kernel
theorem dX0_freeFrom_55 : decode cX0_freeFrom 55 = .ok (.getfield 14, 3) := by decide +kernel
theorem dX0_freeFrom_58 : decode cX0_freeFrom 58 = .ok (.iload 5, 2) := by decide +kernel
theorem dX0_freeFrom_60 : decode cX0_freeFrom 60 = .ok (.iconst 1, 1) := by decide +kernel
theorem dX0_freeFrom_61 : decode cX0_freeFrom 61 = .ok (.iadd, 1) := by decide +kernel
theorem dX0_freeFrom_62 : decode cX0_freeFrom 62 = .ok (.invokevirtual 38, 3) := by decide +kernel
theorem dX0_freeFrom_65 : decode cX0_freeFrom 65 = .ok (.invokestatic 54, 3) := by decide +kernel
theorem dX0_freeFrom_68 : decode cX0_freeFrom 68 = .ok (.istore 4, 2) := by decide +kernel
theorem dX0_freeFrom_70 : decode cX0_freeFrom 70 = .ok (.iinc 5 1, 3) := by decide +kernel
theorem dX0_freeFrom_73 : decode cX0_freeFrom 73 = .ok (.goto (-65), 3) := by decide +kernel
theorem dX0_freeFrom_76 : decode cX0_freeFrom 76 = .ok (.iload 4, 2) := by decide +kernel
theorem dX0_freeFrom_78 : decode cX0_freeFrom 78 = .ok (.ireturn, 1) := by decide +kernel
set_option maxRecDepth 20000 in
theorem ggX0_total_X3_size : GoodIn wsX0_total wsX3_size := goodIn_r _ [7, 8, 20, 21] (by decide +kernel) (by decide +kernel)
set_option maxRecDepth 20000 in
theorem gX0_total_X3_size : GoodIn wsX0_total (wsV RX0 26 RX3 yX3_size wsX3_size) := goodIn_app (goodIn_of _ (by decide +kernel)) ggX0_total_X3_size
set_option maxRecDepth 20000 in
theorem ggX0_total_X3_get : GoodIn wsX0_total wsX3_get := goodIn_ca (goodIn_r _ [12, 13, 14, 15, 16, 6, 17, 8, 20, 21] (by decide +kernel) (by decide +kernel)) (goodIn_sub (fun _ h => List.mem_cons_of_mem _ (List.mem_append_right _ h)) (by decide +kernel))
set_option maxRecDepth 20000 in
theorem gX0_total_X3_get : GoodIn wsX0_total (wsV RX0 38 RX3 yX3_get wsX3_get) := goodIn_app (goodIn_of _ (by decide +kernel)) ggX0_total_X3_get
theorem dX0_total_0 : decode cX0_total 0 = .ok (.iconst 0, 1) := by decide +kernel
theorem dX0_total_1 : decode cX0_total 1 = .ok (.istore_n 1, 1) := by decide +kernel
theorem dX0_total_2 : decode cX0_total 2 = .ok (.lconst 0, 1) := by decide +kernel
theorem dX0_total_3 : decode cX0_total 3 = .ok (.lstore_n 2, 1) := by decide +kernel
theorem dX0_total_4 : decode cX0_total 4 = .ok (.iconst 0, 1) := by decide +kernel
theorem dX0_total_5 : decode cX0_total 5 = .ok (.istore 4, 2) := by decide +kernel
theorem dX0_total_7 : decode cX0_total 7 = .ok (.iload 4, 2) := by decide +kernel
theorem dX0_total_9 : decode cX0_total 9 = .ok (.aload_n 0, 1) := by decide +kernel
theorem dX0_total_10 : decode cX0_total 10 = .ok (.getfield 14, 3) := by decide +kernel
theorem dX0_total_13 : decode cX0_total 13 = .ok (.invokevirtual 26, 3) := by decide +kernel
theorem dX0_total_16 : decode cX0_total 16 = .ok (.if_icmp .ge 53, 3) := by decide +kernel
theorem dX0_total_19 : decode cX0_total 19 = .ok (.iload_n 1, 1) := by decide +kernel
theorem dX0_total_20 : decode cX0_total 20 = .ok (.aload_n 0, 1) := by decide +kernel
theorem dX0_total_21 : decode cX0_total 21 = .ok (.getfield 20, 3) := by decide +kernel
theorem dX0_total_24 : decode cX0_total 24 = .ok (.iload 4, 2) := by decide +kernel
theorem dX0_total_26 : decode cX0_total 26 = .ok (.invokevirtual 38, 3) := by decide +kernel
theorem dX0_total_29 : decode cX0_total 29 = .ok (.iadd, 1) := by decide +kernel
theorem dX0_total_30 : decode cX0_total 30 = .ok (.istore_n 1, 1) := by decide +kernel
theorem dX0_total_31 : decode cX0_total 31 = .ok (.iload_n 1, 1) := by decide +kernel
theorem dX0_total_32 : decode cX0_total 32 = .ok (.ifCond .eq 31, 3) := by decide +kernel
theorem dX0_total_35 : decode cX0_total 35 = .ok (.lload_n 2, 1) := by decide +kernel
theorem dX0_total_36 : decode cX0_total 36 = .ok (.iload_n 1, 1) := by decide +kernel
theorem dX0_total_37 : decode cX0_total 37 = .ok (.i2l, 1) := by decide +kernel
theorem dX0_total_38 : decode cX0_total 38 = .ok (.aload_n 0, 1) := by decide +kernel
theorem dX0_total_39 : decode cX0_total 39 = .ok (.getfield 14, 3) := by decide +kernel
theorem dX0_total_42 : decode cX0_total 42 = .ok (.iload 4, 2) := by decide +kernel
theorem dX0_total_44 : decode cX0_total 44 = .ok (.iconst 1, 1) := by decide +kernel
theorem dX0_total_45 : decode cX0_total 45 = .ok (.iadd, 1) := by decide +kernel
theorem dX0_total_46 : decode cX0_total 46 = .ok (.invokevirtual 38, 3) := by decide +kernel
theorem dX0_total_49 : decode cX0_total 49 = .ok (.aload_n 0, 1) := by decide +kernel
theorem dX0_total_50 : decode cX0_total 50 = .ok (.getfield 14, 3) := by decide +kernel
theorem dX0_total_53 : decode cX0_total 53 = .ok (.iload 4, 2) := by decide +kernel
theorem dX0_total_55 : decode cX0_total 55 = .ok (.invokevirtual 38, 3) := by decide +kernel
theorem dX0_total_58 : decode cX0_total 58 = .ok (.isub, 1) := by decide +kernel
theorem dX0_total_59 : decode cX0_total 59 = .ok (.i2l, 1) := by decide +kernel
theorem dX0_total_60 : decode cX0_total 60 = .ok (.lmul, 1) := by decide +kernel
theorem dX0_total_61 : decode cX0_total 61 = .ok (.ladd, 1) := by decide +kernel
theorem dX0_total_62 : decode cX0_total 62 = .ok (.lstore_n 2, 1) := by decide +kernel
theorem dX0_total_63 : decode cX0_total 63 = .ok (.iinc 4 1, 3) := by decide +kernel
theorem dX0_total_66 : decode cX0_total 66 = .ok (.goto (-59), 3) := by decide +kernel
theorem dX0_total_69 : decode cX0_total 69 = .ok (.lload_n 2, 1) := by decide +kernel
theorem dX0_total_70 : decode cX0_total 70 = .ok (.lreturn, 1) := by decide +kernel
set_option maxRecDepth 20000 in
theorem ggX0_isLevelInTheEnd_X3_size : GoodIn wsX0_isLevelInTheEnd wsX3_size := goodIn_r _ [6, 7, 19, 20] (by decide +kernel) (by decide +kernel)
set_option maxRecDepth 20000 in
theorem gX0_isLevelInTheEnd_X3_size : GoodIn wsX0_isLevelInTheEnd (wsV RX0 26 RX3 yX3_size wsX3_size) := goodIn_app (goodIn_of _ (by decide +kernel)) ggX0_isLevelInTheEnd_X3_size
set_option maxRecDepth 20000 in
theorem ggX0_isLevelInTheEnd_X3_get : GoodIn wsX0_isLevelInTheEnd wsX3_get := goodIn_ca (goodIn_r _ [11, 12, 13, 14, 15, 5, 16, 7, 19, 20] (by decide +kernel) (by decide +kernel)) (goodIn_sub (fun _ h => List.mem_cons_of_mem _ (List.mem_append_right _ h)) (by decide +kernel))
set_option maxRecDepth 20000 in
theorem gX0_isLevelInTheEnd_X3_get : GoodIn wsX0_isLevelInTheEnd (wsV RX0 38 RX3 yX3_get wsX3_get) := goodIn_app (goodIn_of _ (by decide +kernel)) ggX0_isLevelInTheEnd_X3_get
theorem dX0_isLevelInTheEnd_0 : decode cX0_isLevelInTheEnd 0 = .ok (.iconst 0, 1) := by decide +kernel
theorem dX0_isLevelInTheEnd_1 : decode cX0_isLevelInTheEnd 1 = .ok (.istore_n 1, 1) := by decide +kernel
theorem dX0_isLevelInTheEnd_2 : decode cX0_isLevelInTheEnd 2 = .ok (.iconst 0, 1) := by decide +kernel
theorem dX0_isLevelInTheEnd_3 : decode cX0_isLevelInTheEnd 3 = .ok (.istore_n 2, 1) := by decide +kernel
theorem dX0_isLevelInTheEnd_4 : decode cX0_isLevelInTheEnd 4 = .ok (.iload_n 2, 1) := by decide +kernel
theorem dX0_isLevelInTheEnd_5 : decode cX0_isLevelInTheEnd 5 = .ok (.aload_n 0, 1) := by decide +kernel
theorem dX0_isLevelInTheEnd_6 : decode cX0_isLevelInTheEnd 6 = .ok (.getfield 20, 3) := by decide +kernel
theorem dX0_isLevelInTheEnd_9 : decode cX0_isLevelInTheEnd 9 = .ok (.invokevirtual 26, 3) := by decide +kernel
theorem dX0_isLevelInTheEnd_12 : decode cX0_isLevelInTheEnd 12 = .ok (.if_icmp .ge 20, 3) := by decide +kernel
theorem dX0_isLevelInTheEnd_15 : decode cX0_isLevelInTheEnd 15 = .ok (.iload_n 1, 1) := by decide +kernel
theorem dX0_isLevelInTheEnd_16 : decode cX0_isLevelInTheEnd 16 = .ok (.aload_n 0, 1) := by decide +kernel
theorem dX0_isLevelInTheEnd_17 : decode cX0_isLevelInTheEnd 17 = .ok (.getfield 20, 3) := by decide +kernel
theorem dX0_isLevelInTheEnd_20 : decode cX0_isLevelInTheEnd 20 = .ok (.iload_n 2, 1) := by decide +kernel
theorem dX0_isLevelInTheEnd_21 : decode cX0_isLevelInTheEnd 21 = .ok (.invokevirtual 38, 3) := by decide +kernel
theorem dX0_isLevelInTheEnd_24 : decode cX0_isLevelInTheEnd 24 = .ok (.iadd, 1) := by decide +kernel
theorem dX0_isLevelInTheEnd_25 : decode cX0_isLevelInTheEnd 25 = .ok (.istore_n 1, 1) := by decide +kernel
theorem dX0_isLevelInTheEnd_26 : decode cX0_isLevelInTheEnd 26 = .ok (.iinc 2 1, 3) := by decide +kernel
theorem dX0_isLevelInTheEnd_29 : decode cX0_isLevelInTheEnd 29 = .ok (.goto (-25), 3) := by decide +kernel
theorem dX0_isLevelInTheEnd_32 : decode cX0_isLevelInTheEnd 32 = .ok (.iload_n 1, 1) := by decide +kernel
theorem dX0_isLevelInTheEnd_33 : decode cX0_isLevelInTheEnd 33 = .ok (.ifCond .ne 7, 3) := by decide +kernel
theorem dX0_isLevelInTheEnd_36 : decode cX0_isLevelInTheEnd 36 = .ok (.iconst 1, 1) := by decide +kernel
theorem dX0_isLevelInTheEnd_37 : decode cX0_isLevelInTheEnd 37 = .ok (.goto 4, 3) := by decide +kernel
theorem dX0_isLevelInTheEnd_40 : decode cX0_isLevelInTheEnd 40 = .ok (.iconst 0, 1) := by decide +kernel
theorem dX0_isLevelInTheEnd_41 : decode cX0_isLevelInTheEnd 41 = .ok (.ireturn, 1) := by decide +kernel
set_option maxRecDepth 20000 in
theorem ggX0_isOverAt_X0_isEmpty : GoodIn wsX0_isOverAt wsX0_isEmpty := goodIn_r _ [6, 1, 7, 8, 9, 10, 11, 12, 22, 23, 24, 25] (by decide +kernel) (by decide +kernel)
set_option maxRecDepth 20000 in
theorem gX0_isOverAt_X0_isEmpty : GoodIn wsX0_isOverAt (wsV RX0 66 RX0 yX0_isEmpty wsX0_isEmpty) := goodIn_app (goodIn_of _ (by decide +kernel)) ggX0_isOverAt_X0_isEmpty
set_option maxRecDepth 20000 in
theorem ggX0_isOverAt_X3_size : GoodIn wsX0_isOverAt wsX3_size := goodIn_r _ [11, 12, 24, 25] (by decide +kernel) (by decide +kernel)
set_option maxRecDepth 20000 in
theorem gX0_isOverAt_X3_size : GoodIn wsX0_isOverAt (wsV RX0 26 RX3 yX3_size wsX3_size) := goodIn_app (goodIn_of _ (by decide +kernel)) ggX0_isOverAt_X3_size
set_option maxRecDepth 20000 in
theorem ggX0_isOverAt_X3_get : GoodIn wsX0_isOverAt wsX3_get := goodIn_ca (goodIn_r _ [16, 17, 18, 19, 20, 10, 21, 12, 24, 25] (by decide +kernel) (by decide +kernel)) (goodIn_sub (fun _ h => List.mem_cons_of_mem _ (List.mem_append_right _ h)) (by decide +kernel))
set_option maxRecDepth 20000 in
theorem gX0_isOverAt_X3_get : GoodIn wsX0_isOverAt (wsV RX0 38 RX3 yX3_get wsX3_get) := goodIn_app (goodIn_of _ (by decide +kernel)) ggX0_isOverAt_X3_get
theorem dX0_isOverAt_0 : decode cX0_isOverAt 0 = .ok (.aload_n 0, 1) := by decide +kernel
theorem dX0_isOverAt_1 : decode cX0_isOverAt 1 = .ok (.invokevirtual 66, 3) := by decide +kernel
theorem dX0_isOverAt_4 : decode cX0_isOverAt 4 = .ok (.ifCond .ne 23, 3) := by decide +kernel
theorem dX0_isOverAt_7 : decode cX0_isOverAt 7 = .ok (.aload_n 0, 1) := by decide +kernel
theorem dX0_isOverAt_8 : decode cX0_isOverAt 8 = .ok (.getfield 14, 3) := by decide +kernel
theorem dX0_isOverAt_11 : decode cX0_isOverAt 11 = .ok (.aload_n 0, 1) := by decide +kernel
theorem dX0_isOverAt_12 : decode cX0_isOverAt 12 = .ok (.getfield 14, 3) := by decide +kernel
theorem dX0_isOverAt_15 : decode cX0_isOverAt 15 = .ok (.invokevirtual 26, 3) := by decide +kernel
theorem dX0_isOverAt_18 : decode cX0_isOverAt 18 = .ok (.iconst 1, 1) := by decide +kernel
theorem dX0_isOverAt_19 : decode cX0_isOverAt 19 = .ok (.isub, 1) := by decide +kernel
theorem dX0_isOverAt_20 : decode cX0_isOverAt 20 = .ok (.invokevirtual 38, 3) := by decide +kernel
theorem dX0_isOverAt_23 : decode cX0_isOverAt 23 = .ok (.iload_n 1, 1) := by decide +kernel
theorem dX0_isOverAt_24 : decode cX0_isOverAt 24 = .ok (.if_icmp .gt 7, 3) := by decide +kernel
theorem dX0_isOverAt_27 : decode cX0_isOverAt 27 = .ok (.iconst 1, 1) := by decide +kernel
theorem dX0_isOverAt_28 : decode cX0_isOverAt 28 = .ok (.goto 4, 3) := by decide +kernel
theorem dX0_isOverAt_31 : decode cX0_isOverAt 31 = .ok (.iconst 0, 1) := by decide +kernel
theorem dX0_isOverAt_32 : decode cX0_isOverAt 32 = .ok (.ireturn, 1) := by decide +kernel
set_option maxRecDepth 20000 in
theorem ggX1_init_X3_init : GoodIn wsX1_init wsX3_init := goodIn_r _ [16, 17, 2, 3, 18, 19, 20, 21, 22, 23, 31, 32] (by decide +kernel) (by decide +kernel)
set_option maxRecDepth 20000 in
theorem gX1_init_X3_init : GoodIn wsX1_init (wsX3_init) := ggX1_init_X3_init
set_option maxRecDepth 20000 in
theorem ggX1_init_X0_init : GoodIn wsX1_init wsX0_init := goodIn_r _ [25, 26, 2, 3, 27, 5, 6, 28, 29, 30, 15, 16, 17, 18, 19, 20, 21, 22, 23, 31, 32, 38, 39] (by decide +kernel) (by decide +kernel)
set_option maxRecDepth 20000 in
theorem gX1_init_X0_init_n25 : GoodIn wsX1_init (wsX0_init) := ggX1_init_X0_init
theorem dX1_init_0 : decode cX1_init 0 = .ok (.aload_n 0, 1) := by decide +kernel
theorem dX1_init_1 : decode cX1_init 1 = .ok (.invokespecial 3, 3) := by decide +kernel
theorem dX1_init_4 : decode cX1_init 4 = .ok (.aload_n 0, 1) := by decide +kernel
theorem dX1_init_5 : decode cX1_init 5 = .ok (.new 9, 3) := by decide +kernel
theorem dX1_init_8 : decode cX1_init 8 = .ok (.dup, 1) := by decide +kernel
theorem dX1_init_9 : decode cX1_init 9 = .ok (.bipush 48, 2) := by decide +kernel
theorem dX1_init_11 : decode cX1_init 11 = .ok (.invokespecial 11, 3) := by decide +kernel
theorem dX1_init_14 : decode cX1_init 14 = .ok (.putfield 14, 3) := by decide +kernel
theorem dX1_init_17 : decode cX1_init 17 = .ok (.aload_n 0, 1) := by decide +kernel
theorem dX1_init_18 : decode cX1_init 18 = .ok (.new 9, 3) := by decide +kernel
theorem dX1_init_21 : decode cX1_init 21 = .ok (.dup, 1) := by decide +kernel
theorem dX1_init_22 : decode cX1_init 22 = .ok (.bipush 120, 2) := by decide +kernel
theorem dX1_init_24 : decode cX1_init 24 = .ok (.invokespecial 11, 3) := by decide +kernel
theorem dX1_init_27 : decode cX1_init 27 = .ok (.putfield 20, 3) := by decide +kernel
theorem dX1_init_30 : decode cX1_init 30 = .ok (.aload_n 0, 1) := by decide +kernel
theorem dX1_init_31 : decode cX1_init 31 = .ok (.new 23, 3) := by decide +kernel
theorem dX1_init_34 : decode cX1_init 34 = .ok (.dup, 1) := by decide +kernel
theorem dX1_init_35 : decode cX1_init 35 = .ok (.invokespecial 25, 3) := by decide +kernel
theorem dX1_init_38 : decode cX1_init 38 = .ok (.putfield 26, 3) := by decide +kernel
theorem dX1_init_41 : decode cX1_init 41 = .ok (.aload_n 0, 1) := by decide +kernel
theorem dX1_init_42 : decode cX1_init 42 = .ok (.iload_n 1, 1) := by decide +kernel
theorem dX1_init_43 : decode cX1_init 43 = .ok (.putfield 30, 3) := by decide +kernel
theorem dX1_init_46 : decode cX1_init 46 = .ok (.return_, 1) := by decide +kernel
set_option maxRecDepth 20000 in
theorem ggX2_init_X3_init : GoodIn wsX2_init wsX3_init := goodIn_r _ [14, 15, 2, 3, 16, 17, 18, 19, 20, 21, 22, 23] (by decide +kernel) (by decide +kernel)
set_option maxRecDepth 20000 in
theorem gX2_init_X3_init : GoodIn wsX2_init (wsX3_init) := ggX2_init_X3_init
theorem dX2_init_0 : decode cX2_init 0 = .ok (.aload_n 0, 1) := by decide +kernel
theorem dX2_init_1 : decode cX2_init 1 = .ok (.invokespecial 3, 3) := by decide +kernel
theorem dX2_init_4 : decode cX2_init 4 = .ok (.aload_n 0, 1) := by decide +kernel
theorem dX2_init_5 : decode cX2_init 5 = .ok (.new 9, 3) := by decide +kernel
theorem dX2_init_8 : decode cX2_init 8 = .ok (.dup, 1) := by decide +kernel
theorem dX2_init_9 : decode cX2_init 9 = .ok (.bipush 120, 2) := by decide +kernel
theorem dX2_init_11 : decode cX2_init 11 = .ok (.invokespecial 11, 3) := by decide +kernel
theorem dX2_init_14 : decode cX2_init 14 = .ok (.putfield 14, 3) := by decide +kernel
theorem dX2_init_17 : decode cX2_init 17 = .ok (.aload_n 0, 1) := by decide +kernel
theorem dX2_init_18 : decode cX2_init 18 = .ok (.new 9, 3) := by decide +kernel
theorem dX2_init_21 : decode cX2_init 21 = .ok (.dup, 1) := by decide +kernel
theorem dX2_init_22 : decode cX2_init 22 = .ok (.bipush 120, 2) := by decide +kernel
theorem dX2_init_24 : decode cX2_init 24 = .ok (.invokespecial 11, 3) := by decide +kernel
theorem dX2_init_27 : decode cX2_init 27 = .ok (.putfield 20, 3) := by decide +kernel
theorem dX2_init_30 : decode cX2_init 30 = .ok (.aload_n 0, 1) := by decide +kernel
theorem dX2_init_31 : decode cX2_init 31 = .ok (.new 9, 3) := by decide +kernel
theorem dX2_init_34 : decode cX2_init 34 = .ok (.dup, 1) := by decide +kernel
theorem dX2_init_35 : decode cX2_init 35 = .ok (.bipush 120, 2) := by decide +kernel
theorem dX2_init_37 : decode cX2_init 37 = .ok (.invokespecial 11, 3) := by decide +kernel
theorem dX2_init_40 : decode cX2_init 40 = .ok (.putfield 23, 3) := by decide +kernel
theorem dX2_init_43 : decode cX2_init 43 = .ok (.aload_n 0, 1) := by decide +kernel
theorem dX2_init_44 : decode cX2_init 44 = .ok (.new 9, 3) := by decide +kernel
theorem dX2_init_47 : decode cX2_init 47 = .ok (.dup, 1) := by decide +kernel
theorem dX2_init_48 : decode cX2_init 48 = .ok (.bipush 120, 2) := by decide +kernel
theorem dX2_init_50 : decode cX2_init 50 = .ok (.invokespecial 11, 3) := by decide +kernel
theorem dX2_init_53 : decode cX2_init 53 = .ok (.putfield 26, 3) := by decide +kernel
theorem dX2_init_56 : decode cX2_init 56 = .ok (.aload_n 0, 1) := by decide +kernel
theorem dX2_init_57 : decode cX2_init 57 = .ok (.new 9, 3) := by decide +kernel
theorem dX2_init_60 : decode cX2_init 60 = .ok (.dup, 1) := by decide +kernel
theorem dX2_init_61 : decode cX2_init 61 = .ok (.bipush 120, 2) := by decide +kernel
theorem dX2_init_63 : decode cX2_init 63 = .ok (.invokespecial 11, 3) := by decide +kernel
theorem dX2_init_66 : decode cX2_init 66 = .ok (.putfield 29, 3) := by decide +kernel
theorem dX2_init_69 : decode cX2_init 69 = .ok (.return_, 1) := by decide +kernel
set_option maxRecDepth 20000 in
theorem ggX2_size_X3_size : GoodIn wsX2_size wsX3_size := goodIn_r _ [6, 7, 13, 14] (by decide +kernel) (by decide +kernel)
set_option maxRecDepth 20000 in
theorem gX2_size_X3_size : GoodIn wsX2_size (wsV RX2 32 RX3 yX3_size wsX3_size) := goodIn_app (goodIn_of _ (by decide +kernel)) ggX2_size_X3_size
theorem dX2_size_0 : decode cX2_size 0 = .ok (.aload_n 0, 1) := by decide +kernel
theorem dX2_size_1 : decode cX2_size 1 = .ok (.getfield 14, 3) := by decide +kernel
theorem dX2_size_4 : decode cX2_size 4 = .ok (.invokevirtual 32, 3) := by decide +kernel
theorem dX2_size_7 : decode cX2_size 7 = .ok (.ireturn, 1) := by decide +kernel
set_option maxRecDepth 20000 in
theorem ggX2_enter_X3_add : GoodIn wsX2_enter wsX3_add := goodIn_ca (goodIn_r _ [10, 11, 12, 13, 14, 9, 15, 16, 17, 18, 19, 20, 30, 31] (by decide +kernel) (by decide +kernel)) (goodIn_sub (fun _ h => List.mem_cons_of_mem _ (List.mem_append_right _ h)) (by decide +kernel))
set_option maxRecDepth 20000 in
theorem gX2_enter_X3_add : GoodIn wsX2_enter (wsV RX2 36 RX3 yX3_add wsX3_add) := goodIn_app (goodIn_of _ (by decide +kernel)) ggX2_enter_X3_add
set_option maxRecDepth 20000 in
theorem ggX2_enter_X3_size : GoodIn wsX2_enter wsX3_size := goodIn_r _ [24, 11, 30, 31] (by decide +kernel) (by decide +kernel)
set_option maxRecDepth 20000 in
theorem gX2_enter_X3_size : GoodIn wsX2_enter (wsV RX2 32 RX3 yX3_size wsX3_size) := goodIn_app (goodIn_of _ (by decide +kernel)) ggX2_enter_X3_size
theorem dX2_enter_0 : decode cX2_enter 0 = .ok (.aload_n 0, 1) := by decide +kernel
theorem dX2_enter_1 : decode cX2_enter 1 = .ok (.getfield 14, 3) := by decide +kernel
theorem dX2_enter_4 : decode cX2_enter 4 = .ok (.iload_n 1, 1) := by decide +kernel
theorem dX2_enter_5 : decode cX2_enter 5 = .ok (.invokevirtual 36, 3) := by decide +kernel
theorem dX2_enter_8 : decode cX2_enter 8 = .ok (.aload_n 0, 1) := by decide +kernel
theorem dX2_enter_9 : decode cX2_enter 9 = .ok (.getfield 20, 3) := by decide +kernel
theorem dX2_enter_12 : decode cX2_enter 12 = .ok (.iload_n 2, 1) := by decide +kernel
theorem dX2_enter_13 : decode cX2_enter 13 = .ok (.invokevirtual 36, 3) := by decide +kernel
theorem dX2_enter_16 : decode cX2_enter 16 = .ok (.aload_n 0, 1) := by decide +kernel
theorem dX2_enter_17 : decode cX2_enter 17 = .ok (.getfield 23, 3) := by decide +kernel
theorem dX2_enter_20 : decode cX2_enter 20 = .ok (.iload_n 3, 1) := by decide +kernel
theorem dX2_enter_21 : decode cX2_enter 21 = .ok (.invokevirtual 36, 3) := by decide +kernel
theorem dX2_enter_24 : decode cX2_enter 24 = .ok (.aload_n 0, 1) := by decide +kernel
theorem dX2_enter_25 : decode cX2_enter 25 = .ok (.getfield 26, 3) := by decide +kernel
theorem dX2_enter_28 : decode cX2_enter 28 = .ok (.iconst 0, 1) := by decide +kernel
theorem dX2_enter_29 : decode cX2_enter 29 = .ok (.invokevirtual 36, 3) := by decide +kernel
theorem dX2_enter_32 : decode cX2_enter 32 = .ok (.aload_n 0, 1) := by decide +kernel
theorem dX2_enter_33 : decode cX2_enter 33 = .ok (.getfield 29, 3) := by decide +kernel
theorem dX2_enter_36 : decode cX2_enter 36 = .ok (.iconst 0, 1) := by decide +kernel
theorem dX2_enter_37 : decode cX2_enter 37 = .ok (.invokevirtual 36, 3) := by decide +kernel
theorem dX2_enter_40 : decode cX2_enter 40 = .ok (.aload_n 0, 1) := by decide +kernel
theorem dX2_enter_41 : decode cX2_enter 41 = .ok (.getfield 14, 3) := by decide +kernel
theorem dX2_enter_44 : decode cX2_enter 44 = .ok (.invokevirtual 32, 3) := by decide +kernel
theorem dX2_enter_47 : decode cX2_enter 47 = .ok (.iconst 1, 1) := by decide +kernel
theorem dX2_enter_48 : decode cX2_enter 48 = .ok (.isub, 1) := by decide +kernel
theorem dX2_enter_49 : decode cX2_enter 49 = .ok (.ireturn, 1) := by decide +kernel
set_option maxRecDepth 20000 in
theorem ggX2_end_X3_get : GoodIn wsX2_end wsX3_get := goodIn_ca (goodIn_r _ [7, 8, 9, 10, 11, 6, 12, 13, 19, 20] (by decide +kernel) (by decide +kernel)) (goodIn_sub (fun _ h => List.mem_cons_of_mem _ (List.mem_append_right _ h)) (by decide +kernel))
set_option maxRecDepth 20000 in
theorem gX2_end_X3_get : GoodIn wsX2_end (wsV RX2 39 RX3 yX3_get wsX3_get) := goodIn_app (goodIn_of _ (by decide +kernel)) ggX2_end_X3_get
theorem dX2_end_0 : decode cX2_end 0 = .ok (.aload_n 0, 1) := by decide +kernel
theorem dX2_end_1 : decode cX2_end 1 = .ok (.getfield 14, 3) := by decide +kernel
theorem dX2_end_4 : decode cX2_end 4 = .ok (.iload_n 1, 1) := by decide +kernel
theorem dX2_end_5 : decode cX2_end 5 = .ok (.invokevirtual 39, 3) := by decide +kernel
theorem dX2_end_8 : decode cX2_end 8 = .ok (.aload_n 0, 1) := by decide +kernel
theorem dX2_end_9 : decode cX2_end 9 = .ok (.getfield 20, 3) := by decide +kernel
theorem dX2_end_12 : decode cX2_end 12 = .ok (.iload_n 1, 1) := by decide +kernel
theorem dX2_end_13 : decode cX2_end 13 = .ok (.invokevirtual 39, 3) := by decide +kernel
theorem dX2_end_16 : decode cX2_end 16 = .ok (.iadd, 1) := by decide +kernel
theorem dX2_end_17 : decode cX2_end 17 = .ok (.ireturn, 1) := by decide +kernel
set_option maxRecDepth 20000 in
theorem ggX2_isAhead_X3_get : GoodIn wsX2_isAhead wsX3_get := goodIn_ca (goodIn_r _ [6, 7, 8, 9, 10, 5, 11, 12, 18, 19] (by decide +kernel) (by decide +kernel)) (goodIn_sub (fun _ h => List.mem_cons_of_mem _ (List.mem_append_right _ h)) (by decide +kernel))
set_option maxRecDepth 20000 in
theorem gX2_isAhead_X3_get : GoodIn wsX2_isAhead (wsV RX2 39 RX3 yX3_get wsX3_get) := goodIn_app (goodIn_of _ (by decide +kernel)) ggX2_isAhead_X3_get
theorem dX2_isAhead_0 : decode cX2_isAhead 0 = .ok (.aload_n 0, 1) := by decide +kernel
theorem dX2_isAhead_1 : decode cX2_isAhead 1 = .ok (.getfield 14, 3) := by decide +kernel
theorem dX2_isAhead_4 : decode cX2_isAhead 4 = .ok (.iload_n 1, 1) := by decide +kernel
theorem dX2_isAhead_5 : decode cX2_isAhead 5 = .ok (.invokevirtual 39, 3) := by decide +kernel
theorem dX2_isAhead_8 : decode cX2_isAhead 8 = .ok (.istore_n 3, 1) := by decide +kernel
theorem dX2_isAhead_9 : decode cX2_isAhead 9 = .ok (.aload_n 0, 1) := by decide +kernel
theorem dX2_isAhead_10 : decode cX2_isAhead 10 = .ok (.getfield 14, 3) := by decide +kernel
theorem dX2_isAhead_13 : decode cX2_isAhead 13 = .ok (.iload_n 2, 1) := by decide +kernel
theorem dX2_isAhead_14 : decode cX2_isAhead 14 = .ok (.invokevirtual 39, 3) := by decide +kernel
theorem dX2_isAhead_17 : decode cX2_isAhead 17 = .ok (.istore 4, 2) := by decide +kernel
theorem dX2_isAhead_19 : decode cX2_isAhead 19 = .ok (.iload_n 3, 1) := by decide +kernel
theorem dX2_isAhead_20 : decode cX2_isAhead 20 = .ok (.iload 4, 2) := by decide +kernel
theorem dX2_isAhead_22 : decode cX2_isAhead 22 = .ok (.if_icmp .lt 14, 3) := by decide +kernel
theorem dX2_isAhead_25 : decode cX2_isAhead 25 = .ok (.iload_n 3, 1) := by decide +kernel
theorem dX2_isAhead_26 : decode cX2_isAhead 26 = .ok (.iload 4, 2) := by decide +kernel
theorem dX2_isAhead_28 : decode cX2_isAhead 28 = .ok (.if_icmp .ne 12, 3) := by decide +kernel
theorem dX2_isAhead_31 : decode cX2_isAhead 31 = .ok (.iload_n 1, 1) := by decide +kernel
theorem dX2_isAhead_32 : decode cX2_isAhead 32 = .ok (.iload_n 2, 1) := by decide +kernel
theorem dX2_isAhead_33 : decode cX2_isAhead 33 = .ok (.if_icmp .ge 7, 3) := by decide +kernel
theorem dX2_isAhead_36 : decode cX2_isAhead 36 = .ok (.iconst 1, 1) := by decide +kernel
theorem dX2_isAhead_37 : decode cX2_isAhead 37 = .ok (.goto 4, 3) := by decide +kernel
theorem dX2_isAhead_40 : decode cX2_isAhead 40 = .ok (.iconst 0, 1) := by decide +kernel
theorem dX2_isAhead_41 : decode cX2_isAhead 41 = .ok (.ireturn, 1) := by decide +kernel
theorem dX3_init_0 : decode cX3_init 0 = .ok (.aload_n 0, 1) := by decide +kernel
theorem dX3_init_1 : decode cX3_init 1 = .ok (.invokespecial 1, 3) := by decide +kernel
theorem dX3_init_4 : decode cX3_init 4 = .ok (.aload_n 0, 1) := by decide +kernel
theorem dX3_init_5 : decode cX3_init 5 = .ok (.iload_n 1, 1) := by decide +kernel
theorem dX3_init_6 : decode cX3_init 6 = .ok (.iconst 0, 1) := by decide +kernel
theorem dX3_init_7 : decode cX3_init 7 = .ok (.invokestatic 7, 3) := by decide +kernel
theorem dX3_init_10 : decode cX3_init 10 = .ok (.newarray .int, 2) := by decide +kernel
theorem dX3_init_12 : decode cX3_init 12 = .ok (.putfield 13, 3) := by decide +kernel
theorem dX3_init_15 : decode cX3_init 15 = .ok (.return_, 1) := by decide +kernel
theorem dX3_size_0 : decode cX3_size 0 = .ok (.aload_n 0, 1) := by decide +kernel
theorem dX3_size_1 : decode cX3_size 1 = .ok (.getfield 19, 3) := by decide +kernel
theorem dX3_size_4 : decode cX3_size 4 = .ok (.ireturn, 1) := by decide +kernel
theorem dX3_holds_0 : decode cX3_holds 0 = .ok (.iload_n 1, 1) := by decide +kernel
theorem dX3_holds_1 : decode cX3_holds 1 = .ok (.ifCond .lt 24, 3) := by decide +kernel
theorem dX3_holds_4 : decode cX3_holds 4 = .ok (.iload_n 1, 1) := by decide +kernel
theorem dX3_holds_5 : decode cX3_holds 5 = .ok (.aload_n 0, 1) := by decide +kernel
theorem dX3_holds_6 : decode cX3_holds 6 = .ok (.getfield 19, 3) := by decide +kernel
theorem dX3_holds_9 : decode cX3_holds 9 = .ok (.if_icmp .ge 16, 3) := by decide +kernel
theorem dX3_holds_12 : decode cX3_holds 12 = .ok (.iload_n 1, 1) := by decide +kernel
theorem dX3_holds_13 : decode cX3_holds 13 = .ok (.aload_n 0, 1) := by decide +kernel
theorem dX3_holds_14 : decode cX3_holds 14 = .ok (.getfield 13, 3) := by decide +kernel
theorem dX3_holds_17 : decode cX3_holds 17 = .ok (.arraylength, 1) := by decide +kernel
theorem dX3_holds_18 : decode cX3_holds 18 = .ok (.if_icmp .ge 7, 3) := by decide +kernel
theorem dX3_holds_21 : decode cX3_holds 21 = .ok (.iconst 1, 1) := by decide +kernel
theorem dX3_holds_22 : decode cX3_holds 22 = .ok (.goto 4, 3) := by decide +kernel
theorem dX3_holds_25 : decode cX3_holds 25 = .ok (.iconst 0, 1) := by decide +kernel
theorem dX3_holds_26 : decode cX3_holds 26 = .ok (.ireturn, 1) := by decide +kernel
set_option maxRecDepth 20000 in
theorem ggX3_get_X3_holds : GoodIn wsX3_get wsX3_holds := goodIn_r _ [6, 7, 1, 8, 9] (by decide +kernel) (by decide +kernel)
set_option maxRecDepth 20000 in
theorem gX3_get_X3_holds : GoodIn wsX3_get (wsV RX3 23 RX3 yX3_holds wsX3_holds) := goodIn_app (goodIn_of _ (by decide +kernel)) ggX3_get_X3_holds
theorem dX3_get_0 : decode cX3_get 0 = .ok (.aload_n 0, 1) := by decide +kernel
theorem dX3_get_1 : decode cX3_get 1 = .ok (.iload_n 1, 1) := by decide +kernel
theorem dX3_get_2 : decode cX3_get 2 = .ok (.invokevirtual 23, 3) := by decide +kernel
theorem dX3_get_5 : decode cX3_get 5 = .ok (.ifCond .eq 12, 3) := by decide +kernel
theorem dX3_get_8 : decode cX3_get 8 = .ok (.aload_n 0, 1) := by decide +kernel
theorem dX3_get_9 : decode cX3_get 9 = .ok (.getfield 13, 3) := by decide +kernel
theorem dX3_get_12 : decode cX3_get 12 = .ok (.iload_n 1, 1) := by decide +kernel
theorem dX3_get_13 : decode cX3_get 13 = .ok (.iaload, 1) := by decide +kernel
theorem dX3_get_14 : decode cX3_get 14 = .ok (.goto 4, 3) := by decide +kernel
theorem dX3_get_17 : decode cX3_get 17 = .ok (.iconst 0, 1) := by decide +kernel
theorem dX3_get_18 : decode cX3_get 18 = .ok (.ireturn, 1) := by decide +kernel
set_option maxRecDepth 20000 in
theorem ggX3_set_X3_holds : GoodIn wsX3_set wsX3_holds := goodIn_r _ [6, 7, 1, 8, 9] (by decide +kernel) (by decide +kernel)
set_option maxRecDepth 20000 in
theorem gX3_set_X3_holds : GoodIn wsX3_set (wsV RX3 23 RX3 yX3_holds wsX3_holds) := goodIn_app (goodIn_of _ (by decide +kernel)) ggX3_set_X3_holds
theorem dX3_set_0 : decode cX3_set 0 = .ok (.aload_n 0, 1) := by decide +kernel
theorem dX3_set_1 : decode cX3_set 1 = .ok (.iload_n 1, 1) := by decide +kernel
theorem dX3_set_2 : decode cX3_set 2 = .ok (.invokevirtual 23, 3) := by decide +kernel
theorem dX3_set_5 : decode cX3_set 5 = .ok (.ifCond .eq 10, 3) := by decide +kernel
theorem dX3_set_8 : decode cX3_set 8 = .ok (.aload_n 0, 1) := by decide +kernel
theorem dX3_set_9 : decode cX3_set 9 = .ok (.getfield 13, 3) := by decide +kernel
theorem dX3_set_12 : decode cX3_set 12 = .ok (.iload_n 1, 1) := by decide +kernel
theorem dX3_set_13 : decode cX3_set 13 = .ok (.iload_n 2, 1) := by decide +kernel
theorem dX3_set_14 : decode cX3_set 14 = .ok (.iastore, 1) := by decide +kernel
theorem dX3_set_15 : decode cX3_set 15 = .ok (.return_, 1) := by decide +kernel
set_option maxRecDepth 20000 in
theorem ggX3_add_X3_insert : GoodIn wsX3_add wsX3_insert := goodIn_ca (goodIn_r _ [6, 1, 7, 8, 9, 10, 11, 12, 13] (by decide +kernel) (by decide +kernel)) (goodIn_sub (fun _ h => List.mem_cons_of_mem _ (List.mem_append_right _ h)) (by decide +kernel))
set_option maxRecDepth 20000 in
theorem gX3_add_X3_insert : GoodIn wsX3_add (wsV RX3 27 RX3 yX3_insert wsX3_insert) := goodIn_app (goodIn_of _ (by decide +kernel)) ggX3_add_X3_insert
theorem dX3_add_0 : decode cX3_add 0 = .ok (.aload_n 0, 1) := by decide +kernel
theorem dX3_add_1 : decode cX3_add 1 = .ok (.aload_n 0, 1) := by decide +kernel
theorem dX3_add_2 : decode cX3_add 2 = .ok (.getfield 19, 3) := by decide +kernel
theorem dX3_add_5 : decode cX3_add 5 = .ok (.iload_n 1, 1) := by decide +kernel
theorem dX3_add_6 : decode cX3_add 6 = .ok (.invokevirtual 27, 3) := by decide +kernel
theorem dX3_add_9 : decode cX3_add 9 = .ok (.return_, 1) := by decide +kernel
theorem dX3_insert_0 : decode cX3_insert 0 = .ok (.iload_n 1, 1) := by decide +kernel
theorem dX3_insert_1 : decode cX3_insert 1 = .ok (.ifCond .lt 23, 3) := by decide +kernel
theorem dX3_insert_4 : decode cX3_insert 4 = .ok (.iload_n 1, 1) := by decide +kernel
theorem dX3_insert_5 : decode cX3_insert 5 = .ok (.aload_n 0, 1) := by decide +kernel
theorem dX3_insert_6 : decode cX3_insert 6 = .ok (.getfield 19, 3) := by decide +kernel
theorem dX3_insert_9 : decode cX3_insert 9 = .ok (.if_icmp .gt 15, 3) := by decide +kernel
theorem dX3_insert_12 : decode cX3_insert 12 = .ok (.aload_n 0, 1) := by decide +kernel
theorem dX3_insert_13 : decode cX3_insert 13 = .ok (.getfield 19, 3) := by decide +kernel
theorem dX3_insert_16 : decode cX3_insert 16 = .ok (.aload_n 0, 1) := by decide +kernel
theorem dX3_insert_17 : decode cX3_insert 17 = .ok (.getfield 13, 3) := by decide +kernel
theorem dX3_insert_20 : decode cX3_insert 20 = .ok (.arraylength, 1) := by decide +kernel
theorem dX3_insert_21 : decode cX3_insert 21 = .ok (.if_icmp .lt 4, 3) := by decide +kernel
theorem dX3_insert_24 : decode cX3_insert 24 = .ok (.return_, 1) := by decide +kernel
theorem dX3_insert_25 : decode cX3_insert 25 = .ok (.aload_n 0, 1) := by decide +kernel
theorem dX3_insert_26 : decode cX3_insert 26 = .ok (.getfield 13, 3) := by decide +kernel
theorem dX3_insert_29 : decode cX3_insert 29 = .ok (.iload_n 1, 1) := by decide +kernel
theorem dX3_insert_30 : decode cX3_insert 30 = .ok (.aload_n 0, 1) := by decide +kernel
theorem dX3_insert_31 : decode cX3_insert 31 = .ok (.getfield 13, 3) := by decide +kernel
theorem dX3_insert_34 : decode cX3_insert 34 = .ok (.iload_n 1, 1) := by decide +kernel
theorem dX3_insert_35 : decode cX3_insert 35 = .ok (.iconst 1, 1) := by decide +kernel
theorem dX3_insert_36 : decode cX3_insert 36 = .ok (.iadd, 1) := by decide +kernel
theorem dX3_insert_37 : decode cX3_insert 37 = .ok (.aload_n 0, 1) := by decide +kernel
theorem dX3_insert_38 : decode cX3_insert 38 = .ok (.getfield 19, 3) := by decide +kernel
theorem dX3_insert_41 : decode cX3_insert 41 = .ok (.iload_n 1, 1) := by decide +kernel
theorem dX3_insert_42 : decode cX3_insert 42 = .ok (.isub, 1) := by decide +kernel
theorem dX3_insert_43 : decode cX3_insert 43 = .ok (.invokestatic 31, 3) := by decide +kernel
theorem dX3_insert_46 : decode cX3_insert 46 = .ok (.aload_n 0, 1) := by decide +kernel
theorem dX3_insert_47 : decode cX3_insert 47 = .ok (.getfield 13, 3) := by decide +kernel
theorem dX3_insert_50 : decode cX3_insert 50 = .ok (.iload_n 1, 1) := by decide +kernel
theorem dX3_insert_51 : decode cX3_insert 51 = .ok (.iload_n 2, 1) := by decide +kernel
theorem dX3_insert_52 : decode cX3_insert 52 = .ok (.iastore, 1) := by decide +kernel
theorem dX3_insert_53 : decode cX3_insert 53 = .ok (.aload_n 0, 1) := by decide +kernel
theorem dX3_insert_54 : decode cX3_insert 54 = .ok (.dup, 1) := by decide +kernel
theorem dX3_insert_55 : decode cX3_insert 55 = .ok (.getfield 19, 3) := by decide +kernel
theorem dX3_insert_58 : decode cX3_insert 58 = .ok (.iconst 1, 1) := by decide +kernel
theorem dX3_insert_59 : decode cX3_insert 59 = .ok (.iadd, 1) := by decide +kernel
theorem dX3_insert_60 : decode cX3_insert 60 = .ok (.putfield 19, 3) := by decide +kernel
theorem dX3_insert_63 : decode cX3_insert 63 = .ok (.return_, 1) := by decide +kernel
set_option maxRecDepth 20000 in
theorem ggX3_remove_X3_holds : GoodIn wsX3_remove wsX3_holds := goodIn_r _ [11, 2, 1, 12, 13] (by decide +kernel) (by decide +kernel)
set_option maxRecDepth 20000 in
theorem gX3_remove_X3_holds : GoodIn wsX3_remove (wsV RX3 23 RX3 yX3_holds wsX3_holds) := goodIn_app (goodIn_of _ (by decide +kernel)) ggX3_remove_X3_holds
theorem dX3_remove_0 : decode cX3_remove 0 = .ok (.aload_n 0, 1) := by decide +kernel
theorem dX3_remove_1 : decode cX3_remove 1 = .ok (.iload_n 1, 1) := by decide +kernel
theorem dX3_remove_2 : decode cX3_remove 2 = .ok (.invokevirtual 23, 3) := by decide +kernel
theorem dX3_remove_5 : decode cX3_remove 5 = .ok (.ifCond .ne 5, 3) := by decide +kernel
theorem dX3_remove_8 : decode cX3_remove 8 = .ok (.iconst 0, 1) := by decide +kernel
theorem dX3_remove_9 : decode cX3_remove 9 = .ok (.ireturn, 1) := by decide +kernel
theorem dX3_remove_10 : decode cX3_remove 10 = .ok (.aload_n 0, 1) := by decide +kernel
theorem dX3_remove_11 : decode cX3_remove 11 = .ok (.getfield 13, 3) := by decide +kernel
theorem dX3_remove_14 : decode cX3_remove 14 = .ok (.iload_n 1, 1) := by decide +kernel
theorem dX3_remove_15 : decode cX3_remove 15 = .ok (.iaload, 1) := by decide +kernel
theorem dX3_remove_16 : decode cX3_remove 16 = .ok (.istore_n 2, 1) := by decide +kernel
theorem dX3_remove_17 : decode cX3_remove 17 = .ok (.aload_n 0, 1) := by decide +kernel
theorem dX3_remove_18 : decode cX3_remove 18 = .ok (.getfield 13, 3) := by decide +kernel
theorem dX3_remove_21 : decode cX3_remove 21 = .ok (.iload_n 1, 1) := by decide +kernel
theorem dX3_remove_22 : decode cX3_remove 22 = .ok (.iconst 1, 1) := by decide +kernel
theorem dX3_remove_23 : decode cX3_remove 23 = .ok (.iadd, 1) := by decide +kernel
theorem dX3_remove_24 : decode cX3_remove 24 = .ok (.aload_n 0, 1) := by decide +kernel
theorem dX3_remove_25 : decode cX3_remove 25 = .ok (.getfield 13, 3) := by decide +kernel
theorem dX3_remove_28 : decode cX3_remove 28 = .ok (.iload_n 1, 1) := by decide +kernel
theorem dX3_remove_29 : decode cX3_remove 29 = .ok (.aload_n 0, 1) := by decide +kernel
theorem dX3_remove_30 : decode cX3_remove 30 = .ok (.getfield 19, 3) := by decide +kernel
theorem dX3_remove_33 : decode cX3_remove 33 = .ok (.iload_n 1, 1) := by decide +kernel
theorem dX3_remove_34 : decode cX3_remove 34 = .ok (.isub, 1) := by decide +kernel
theorem dX3_remove_35 : decode cX3_remove 35 = .ok (.iconst 1, 1) := by decide +kernel
theorem dX3_remove_36 : decode cX3_remove 36 = .ok (.isub, 1) := by decide +kernel
theorem dX3_remove_37 : decode cX3_remove 37 = .ok (.invokestatic 31, 3) := by decide +kernel
theorem dX3_remove_40 : decode cX3_remove 40 = .ok (.aload_n 0, 1) := by decide +kernel
theorem dX3_remove_41 : decode cX3_remove 41 = .ok (.dup, 1) := by decide +kernel
theorem dX3_remove_42 : decode cX3_remove 42 = .ok (.getfield 19, 3) := by decide +kernel
theorem dX3_remove_45 : decode cX3_remove 45 = .ok (.iconst 1, 1) := by decide +kernel
theorem dX3_remove_46 : decode cX3_remove 46 = .ok (.isub, 1) := by decide +kernel
theorem dX3_remove_47 : decode cX3_remove 47 = .ok (.putfield 19, 3) := by decide +kernel
theorem dX3_remove_50 : decode cX3_remove 50 = .ok (.iload_n 2, 1) := by decide +kernel
theorem dX3_remove_51 : decode cX3_remove 51 = .ok (.ireturn, 1) := by decide +kernel
theorem dX3_clear_0 : decode cX3_clear 0 = .ok (.aload_n 0, 1) := by decide +kernel
theorem dX3_clear_1 : decode cX3_clear 1 = .ok (.iconst 0, 1) := by decide +kernel
theorem dX3_clear_2 : decode cX3_clear 2 = .ok (.putfield 19, 3) := by decide +kernel
theorem dX3_clear_5 : decode cX3_clear 5 = .ok (.return_, 1) := by decide +kernel
set_option maxRecDepth 20000 in
theorem ggX3_placeOf_X3_get : GoodIn wsX3_placeOf wsX3_get := goodIn_ca (goodIn_r _ [6, 7, 8, 9, 10, 5, 11, 1, 12, 13] (by decide +kernel) (by decide +kernel)) (goodIn_sub (fun _ h => List.mem_cons_of_mem _ (List.mem_append_right _ h)) (by decide +kernel))
set_option maxRecDepth 20000 in
theorem gX3_placeOf_X3_get : GoodIn wsX3_placeOf (wsV RX3 37 RX3 yX3_get wsX3_get) := goodIn_app (goodIn_of _ (by decide +kernel)) ggX3_placeOf_X3_get
theorem dX3_placeOf_0 : decode cX3_placeOf 0 = .ok (.iconst 0, 1) := by decide +kernel
theorem dX3_placeOf_1 : decode cX3_placeOf 1 = .ok (.istore_n 2, 1) := by decide +kernel
theorem dX3_placeOf_2 : decode cX3_placeOf 2 = .ok (.iload_n 2, 1) := by decide +kernel
theorem dX3_placeOf_3 : decode cX3_placeOf 3 = .ok (.aload_n 0, 1) := by decide +kernel
theorem dX3_placeOf_4 : decode cX3_placeOf 4 = .ok (.getfield 19, 3) := by decide +kernel
theorem dX3_placeOf_7 : decode cX3_placeOf 7 = .ok (.if_icmp .ge 20, 3) := by decide +kernel
theorem dX3_placeOf_10 : decode cX3_placeOf 10 = .ok (.aload_n 0, 1) := by decide +kernel
theorem dX3_placeOf_11 : decode cX3_placeOf 11 = .ok (.iload_n 2, 1) := by decide +kernel
theorem dX3_placeOf_12 : decode cX3_placeOf 12 = .ok (.invokevirtual 37, 3) := by decide +kernel
theorem dX3_placeOf_15 : decode cX3_placeOf 15 = .ok (.iload_n 1, 1) := by decide +kernel
theorem dX3_placeOf_16 : decode cX3_placeOf 16 = .ok (.if_icmp .ne 5, 3) := by decide +kernel
theorem dX3_placeOf_19 : decode cX3_placeOf 19 = .ok (.iload_n 2, 1) := by decide +kernel
theorem dX3_placeOf_20 : decode cX3_placeOf 20 = .ok (.ireturn, 1) := by decide +kernel
theorem dX3_placeOf_21 : decode cX3_placeOf 21 = .ok (.iinc 2 1, 3) := by decide +kernel
theorem dX3_placeOf_24 : decode cX3_placeOf 24 = .ok (.goto (-22), 3) := by decide +kernel
theorem dX3_placeOf_27 : decode cX3_placeOf 27 = .ok (.iconst (-1), 1) := by decide +kernel
theorem dX3_placeOf_28 : decode cX3_placeOf 28 = .ok (.ireturn, 1) := by decide +kernel
set_option maxRecDepth 20000 in
theorem ggX3_count_X3_get : GoodIn wsX3_count wsX3_get := goodIn_ca (goodIn_r _ [6, 7, 8, 9, 10, 5, 11, 1, 12, 13] (by decide +kernel) (by decide +kernel)) (goodIn_sub (fun _ h => List.mem_cons_of_mem _ (List.mem_append_right _ h)) (by decide +kernel))
set_option maxRecDepth 20000 in
theorem gX3_count_X3_get : GoodIn wsX3_count (wsV RX3 37 RX3 yX3_get wsX3_get) := goodIn_app (goodIn_of _ (by decide +kernel)) ggX3_count_X3_get
theorem dX3_count_0 : decode cX3_count 0 = .ok (.iconst 0, 1) := by decide +kernel
theorem dX3_count_1 : decode cX3_count 1 = .ok (.istore_n 2, 1) := by decide +kernel
theorem dX3_count_2 : decode cX3_count 2 = .ok (.iconst 0, 1) := by decide +kernel
theorem dX3_count_3 : decode cX3_count 3 = .ok (.istore_n 3, 1) := by decide +kernel
theorem dX3_count_4 : decode cX3_count 4 = .ok (.iload_n 3, 1) := by decide +kernel
theorem dX3_count_5 : decode cX3_count 5 = .ok (.aload_n 0, 1) := by decide +kernel
theorem dX3_count_6 : decode cX3_count 6 = .ok (.getfield 19, 3) := by decide +kernel
theorem dX3_count_9 : decode cX3_count 9 = .ok (.if_icmp .ge 26, 3) := by decide +kernel
theorem dX3_count_12 : decode cX3_count 12 = .ok (.iload_n 2, 1) := by decide +kernel
theorem dX3_count_13 : decode cX3_count 13 = .ok (.aload_n 0, 1) := by decide +kernel
theorem dX3_count_14 : decode cX3_count 14 = .ok (.iload_n 3, 1) := by decide +kernel
theorem dX3_count_15 : decode cX3_count 15 = .ok (.invokevirtual 37, 3) := by decide +kernel
theorem dX3_count_18 : decode cX3_count 18 = .ok (.iload_n 1, 1) := by decide +kernel
theorem dX3_count_19 : decode cX3_count 19 = .ok (.if_icmp .ne 7, 3) := by decide +kernel
theorem dX3_count_22 : decode cX3_count 22 = .ok (.iconst 1, 1) := by decide +kernel
theorem dX3_count_23 : decode cX3_count 23 = .ok (.goto 4, 3) := by decide +kernel
theorem dX3_count_26 : decode cX3_count 26 = .ok (.iconst 0, 1) := by decide +kernel
theorem dX3_count_27 : decode cX3_count 27 = .ok (.iadd, 1) := by decide +kernel
theorem dX3_count_28 : decode cX3_count 28 = .ok (.istore_n 2, 1) := by decide +kernel
theorem dX3_count_29 : decode cX3_count 29 = .ok (.iinc 3 1, 3) := by decide +kernel
theorem dX3_count_32 : decode cX3_count 32 = .ok (.goto (-28), 3) := by decide +kernel
theorem dX3_count_35 : decode cX3_count 35 = .ok (.iload_n 2, 1) := by decide +kernel
theorem dX3_count_36 : decode cX3_count 36 = .ok (.ireturn, 1) := by decide +kernel
set_option maxRecDepth 20000 in
theorem ggX3_isLike_X3_get : GoodIn wsX3_isLike wsX3_get := goodIn_ca (goodIn_r _ [6, 7, 8, 9, 10, 5, 11, 1, 12, 13] (by decide +kernel) (by decide +kernel)) (goodIn_sub (fun _ h => List.mem_cons_of_mem _ (List.mem_append_right _ h)) (by decide +kernel))
set_option maxRecDepth 20000 in
theorem gX3_isLike_X3_get : GoodIn wsX3_isLike (wsV RX3 37 RX3 yX3_get wsX3_get) := goodIn_app (goodIn_of _ (by decide +kernel)) ggX3_isLike_X3_get
theorem dX3_isLike_0 : decode cX3_isLike 0 = .ok (.iconst 0, 1) := by decide +kernel
theorem dX3_isLike_1 : decode cX3_isLike 1 = .ok (.istore_n 2, 1) := by decide +kernel
theorem dX3_isLike_2 : decode cX3_isLike 2 = .ok (.iload_n 2, 1) := by decide +kernel
theorem dX3_isLike_3 : decode cX3_isLike 3 = .ok (.aload_n 0, 1) := by decide +kernel
theorem dX3_isLike_4 : decode cX3_isLike 4 = .ok (.getfield 19, 3) := by decide +kernel
theorem dX3_isLike_7 : decode cX3_isLike 7 = .ok (.if_icmp .ge 24, 3) := by decide +kernel
theorem dX3_isLike_10 : decode cX3_isLike 10 = .ok (.aload_n 0, 1) := by decide +kernel
theorem dX3_isLike_11 : decode cX3_isLike 11 = .ok (.iload_n 2, 1) := by decide +kernel
theorem dX3_isLike_12 : decode cX3_isLike 12 = .ok (.invokevirtual 37, 3) := by decide +kernel
theorem dX3_isLike_15 : decode cX3_isLike 15 = .ok (.aload_n 1, 1) := by decide +kernel
theorem dX3_isLike_16 : decode cX3_isLike 16 = .ok (.iload_n 2, 1) := by decide +kernel
theorem dX3_isLike_17 : decode cX3_isLike 17 = .ok (.invokevirtual 37, 3) := by decide +kernel
theorem dX3_isLike_20 : decode cX3_isLike 20 = .ok (.if_icmp .eq 5, 3) := by decide +kernel
theorem dX3_isLike_23 : decode cX3_isLike 23 = .ok (.iconst 0, 1) := by decide +kernel
theorem dX3_isLike_24 : decode cX3_isLike 24 = .ok (.ireturn, 1) := by decide +kernel
theorem dX3_isLike_25 : decode cX3_isLike 25 = .ok (.iinc 2 1, 3) := by decide +kernel
theorem dX3_isLike_28 : decode cX3_isLike 28 = .ok (.goto (-26), 3) := by decide +kernel
theorem dX3_isLike_31 : decode cX3_isLike 31 = .ok (.aload_n 0, 1) := by decide +kernel
theorem dX3_isLike_32 : decode cX3_isLike 32 = .ok (.getfield 19, 3) := by decide +kernel
theorem dX3_isLike_35 : decode cX3_isLike 35 = .ok (.aload_n 1, 1) := by decide +kernel
theorem dX3_isLike_36 : decode cX3_isLike 36 = .ok (.getfield 19, 3) := by decide +kernel
theorem dX3_isLike_39 : decode cX3_isLike 39 = .ok (.if_icmp .ne 7, 3) := by decide +kernel
theorem dX3_isLike_42 : decode cX3_isLike 42 = .ok (.iconst 1, 1) := by decide +kernel
theorem dX3_isLike_43 : decode cX3_isLike 43 = .ok (.goto 4, 3) := by decide +kernel
theorem dX3_isLike_46 : decode cX3_isLike 46 = .ok (.iconst 0, 1) := by decide +kernel
theorem dX3_isLike_47 : decode cX3_isLike 47 = .ok (.ireturn, 1) := by decide +kernel
set_option maxRecDepth 20000 in
theorem ggX4_init_X2_init : GoodIn wsX4_init wsX2_init := goodIn_r _ [17, 18, 2, 3, 19, 20, 21, 22, 23, 24, 25, 26, 27, 28, 29, 30, 31, 32, 33, 34, 35, 36, 70, 71, 55, 56, 57, 58, 59] (by decide +kernel) (by decide +kernel)
set_option maxRecDepth 20000 in
theorem gX4_init_X2_init_n9 : GoodIn wsX4_init (wsX2_init) := ggX4_init_X2_init
set_option maxRecDepth 20000 in
theorem ggX4_init_X0_init : GoodIn wsX4_init wsX0_init := goodIn_r _ [38, 39, 2, 3, 40, 20, 21, 41, 42, 43, 28, 29, 30, 31, 32, 33, 34, 35, 36, 70, 71, 63, 64] (by decide +kernel) (by decide +kernel)
set_option maxRecDepth 20000 in
theorem gX4_init_X0_init_n24 : GoodIn wsX4_init (wsX0_init) := ggX4_init_X0_init
set_option maxRecDepth 20000 in
theorem ggX4_init_X1_init : GoodIn wsX4_init wsX1_init := goodIn_r _ [46, 47, 2, 3, 48, 20, 21, 49, 50, 51, 11, 12, 52, 53, 54, 28, 29, 30, 31, 32, 33, 34, 35, 36, 37, 38, 39, 40, 41, 42, 43, 70, 71, 65, 66, 67, 68, 69, 63, 64] (by decide +kernel) (by decide +kernel)
set_option maxRecDepth 20000 in
theorem gX4_init_X1_init : GoodIn wsX4_init (wsX1_init) := ggX4_init_X1_init
theorem dX4_init_0 : decode cX4_init 0 = .ok (.aload_n 0, 1) := by decide +kernel
theorem dX4_init_1 : decode cX4_init 1 = .ok (.invokespecial 1, 3) := by decide +kernel
theorem dX4_init_4 : decode cX4_init 4 = .ok (.aload_n 0, 1) := by decide +kernel
theorem dX4_init_5 : decode cX4_init 5 = .ok (.new 7, 3) := by decide +kernel
theorem dX4_init_8 : decode cX4_init 8 = .ok (.dup, 1) := by decide +kernel
theorem dX4_init_9 : decode cX4_init 9 = .ok (.invokespecial 9, 3) := by decide +kernel
theorem dX4_init_12 : decode cX4_init 12 = .ok (.putfield 10, 3) := by decide +kernel
theorem dX4_init_15 : decode cX4_init 15 = .ok (.aload_n 0, 1) := by decide +kernel
theorem dX4_init_16 : decode cX4_init 16 = .ok (.iconst 4, 1) := by decide +kernel
theorem dX4_init_17 : decode cX4_init 17 = .ok (.anewarray 16, 3) := by decide +kernel
theorem dX4_init_20 : decode cX4_init 20 = .ok (.putfield 18, 3) := by decide +kernel
theorem dX4_init_23 : decode cX4_init 23 = .ok (.aload_n 0, 1) := by decide +kernel
theorem dX4_init_24 : decode cX4_init 24 = .ok (.new 22, 3) := by decide +kernel
theorem dX4_init_27 : decode cX4_init 27 = .ok (.dup, 1) := by decide +kernel
theorem dX4_init_28 : decode cX4_init 28 = .ok (.invokespecial 24, 3) := by decide +kernel
theorem dX4_init_31 : decode cX4_init 31 = .ok (.putfield 25, 3) := by decide +kernel
theorem dX4_init_34 : decode cX4_init 34 = .ok (.iconst 0, 1) := by decide +kernel
theorem dX4_init_35 : decode cX4_init 35 = .ok (.istore_n 1, 1) := by decide +kernel
theorem dX4_init_36 : decode cX4_init 36 = .ok (.iload_n 1, 1) := by decide +kernel
theorem dX4_init_37 : decode cX4_init 37 = .ok (.aload_n 0, 1) := by decide +kernel
theorem dX4_init_38 : decode cX4_init 38 = .ok (.getfield 18, 3) := by decide +kernel
theorem dX4_init_41 : decode cX4_init 41 = .ok (.arraylength, 1) := by decide +kernel
theorem dX4_init_42 : decode cX4_init 42 = .ok (.if_icmp .ge 23, 3) := by decide +kernel
theorem dX4_init_45 : decode cX4_init 45 = .ok (.aload_n 0, 1) := by decide +kernel
theorem dX4_init_46 : decode cX4_init 46 = .ok (.getfield 18, 3) := by decide +kernel
theorem dX4_init_49 : decode cX4_init 49 = .ok (.iload_n 1, 1) := by decide +kernel
theorem dX4_init_50 : decode cX4_init 50 = .ok (.new 16, 3) := by decide +kernel
theorem dX4_init_53 : decode cX4_init 53 = .ok (.dup, 1) := by decide +kernel
theorem dX4_init_54 : decode cX4_init 54 = .ok (.iload_n 1, 1) := by decide +kernel
theorem dX4_init_55 : decode cX4_init 55 = .ok (.invokespecial 29, 3) := by decide +kernel
theorem dX4_init_58 : decode cX4_init 58 = .ok (.aastore, 1) := by decide +kernel
theorem dX4_init_59 : decode cX4_init 59 = .ok (.iinc 1 1, 3) := by decide +kernel
theorem dX4_init_62 : decode cX4_init 62 = .ok (.goto (-26), 3) := by decide +kernel
theorem dX4_init_65 : decode cX4_init 65 = .ok (.return_, 1) := by decide +kernel
set_option maxRecDepth 20000 in
theorem ggX4_book_X4_houseAt : GoodIn wsX4_book wsX4_houseAt := goodIn_ca (goodIn_r _ [7, 8, 9, 10, 90, 91, 92] (by decide +kernel) (by decide +kernel)) (goodIn_sub (fun _ h => List.mem_cons_of_mem _ (List.mem_append_left _ (List.mem_append_left _ (List.mem_append_right _ h)))) (by decide +kernel))
set_option maxRecDepth 20000 in
theorem gX4_book_X4_houseAt : GoodIn wsX4_book (wsV RX4 32 RX4 yX4_houseAt wsX4_houseAt) := goodIn_app (goodIn_of _ (by decide +kernel)) ggX4_book_X4_houseAt
set_option maxRecDepth 20000 in
theorem ggX4_book_X4_isTime : GoodIn wsX4_book wsX4_isTime := goodIn_r _ [13, 14, 15, 6, 16] (by decide +kernel) (by decide +kernel)
set_option maxRecDepth 20000 in
theorem gX4_book_X4_isTime : GoodIn wsX4_book (va_wsS RX4 36 yX4_isTime wsX4_isTime) := goodIn_app (goodIn_of _ (by decide +kernel)) ggX4_book_X4_isTime
set_option maxRecDepth 20000 in
theorem ggX4_book_X4_isSpan : GoodIn wsX4_book wsX4_isSpan := goodIn_r _ [19, 14, 15, 6, 16] (by decide +kernel) (by decide +kernel)
set_option maxRecDepth 20000 in
theorem gX4_book_X4_isSpan : GoodIn wsX4_book (va_wsS RX4 40 yX4_isSpan wsX4_isSpan) := goodIn_app (goodIn_of _ (by decide +kernel)) ggX4_book_X4_isSpan
set_option maxRecDepth 20000 in
theorem ggX4_book_X4_isWeight : GoodIn wsX4_book wsX4_isWeight := goodIn_r _ [22, 14, 15, 6, 16] (by decide +kernel) (by decide +kernel)
set_option maxRecDepth 20000 in
theorem gX4_book_X4_isWeight : GoodIn wsX4_book (va_wsS RX4 43 yX4_isWeight wsX4_isWeight) := goodIn_app (goodIn_of _ (by decide +kernel)) ggX4_book_X4_isWeight
set_option maxRecDepth 20000 in
theorem ggX4_book_X4_refuseIfNoRoom : GoodIn wsX4_book wsX4_refuseIfNoRoom := goodIn_ca (goodIn_r _ [26, 27, 28, 29, 30, 31, 32, 33, 34, 35, 36, 37, 38, 39, 40, 41, 42, 93, 94, 95, 96, 97, 90, 91, 92, 98, 99, 100, 101, 102, 103, 104] (by decide +kernel) (by decide +kernel)) (goodIn_sub (fun _ h => List.mem_cons_of_mem _ (List.mem_append_left _ (List.mem_append_right _ h))) (by decide +kernel))
set_option maxRecDepth 20000 in
theorem gX4_book_X4_refuseIfNoRoom : GoodIn wsX4_book (wsV RX4 53 RX4 yX4_refuseIfNoRoom wsX4_refuseIfNoRoom) := goodIn_app (goodIn_of _ (by decide +kernel)) ggX4_book_X4_refuseIfNoRoom
set_option maxRecDepth 20000 in
theorem ggX4_book_X4_make : GoodIn wsX4_book wsX4_make := goodIn_ca (goodIn_r _ [46, 29, 47, 48, 49, 39, 50, 41, 51, 52, 53, 54, 55, 56, 57, 33, 58, 35, 59, 60, 61, 62, 63, 64, 65, 66, 67, 42, 31, 32, 34, 68, 69, 70, 6, 71, 30, 72, 73, 74, 75, 76, 77, 78, 79, 80, 81, 82, 83, 84, 85, 86, 87, 88, 89, 90, 91, 92, 100, 101, 102, 103, 104, 98, 99, 93, 94, 95, 96, 97] (by decide +kernel) (by decide +kernel)) (goodIn_sub (fun _ h => List.mem_cons_of_mem _ (List.mem_append_right _ h)) (by decide +kernel))
set_option maxRecDepth 20000 in
theorem gX4_book_X4_make : GoodIn wsX4_book (wsV RX4 57 RX4 yX4_make wsX4_make) := goodIn_app (goodIn_of _ (by decide +kernel)) ggX4_book_X4_make
theorem dX4_book_0 : decode cX4_book 0 = .ok (.aload_n 0, 1) := by decide +kernel
theorem dX4_book_1 : decode cX4_book 1 = .ok (.iload_n 1, 1) := by decide +kernel
theorem dX4_book_2 : decode cX4_book 2 = .ok (.invokevirtual 32, 3) := by decide +kernel
theorem dX4_book_5 : decode cX4_book 5 = .ok (.astore 5, 2) := by decide +kernel
theorem dX4_book_7 : decode cX4_book 7 = .ok (.iload_n 2, 1) := by decide +kernel
theorem dX4_book_8 : decode cX4_book 8 = .ok (.invokestatic 36, 3) := by decide +kernel
theorem dX4_book_11 : decode cX4_book 11 = .ok (.ifCond .eq 18, 3) := by decide +kernel
theorem dX4_book_14 : decode cX4_book 14 = .ok (.iload_n 3, 1) := by decide +kernel
theorem dX4_book_15 : decode cX4_book 15 = .ok (.invokestatic 40, 3) := by decide +kernel
theorem dX4_book_18 : decode cX4_book 18 = .ok (.ifCond .eq 11, 3) := by decide +kernel
theorem dX4_book_21 : decode cX4_book 21 = .ok (.iload 4, 2) := by decide +kernel
theorem dX4_book_23 : decode cX4_book 23 = .ok (.invokestatic 43, 3) := by decide +kernel
theorem dX4_book_26 : decode cX4_book 26 = .ok (.ifCond .ne 13, 3) := by decide +kernel
theorem dX4_book_29 : decode cX4_book 29 = .ok (.new 46, 3) := by decide +kernel
theorem dX4_book_32 : decode cX4_book 32 = .ok (.dup, 1) := by decide +kernel
theorem dX4_book_33 : decode cX4_book 33 = .ok (.ldc 48, 2) := by decide +kernel
theorem dX4_book_35 : decode cX4_book 35 = .ok (.invokespecial 50, 3) := by decide +kernel
theorem dX4_book_38 : decode cX4_book 38 = .ok (.athrow, 1) := by decide +kernel
theorem dX4_book_39 : decode cX4_book 39 = .ok (.aload_n 0, 1) := by decide +kernel
theorem dX4_book_40 : decode cX4_book 40 = .ok (.aload 5, 2) := by decide +kernel
theorem dX4_book_42 : decode cX4_book 42 = .ok (.iload_n 2, 1) := by decide +kernel
theorem dX4_book_43 : decode cX4_book 43 = .ok (.iconst 1, 1) := by decide +kernel
theorem dX4_book_44 : decode cX4_book 44 = .ok (.invokevirtual 53, 3) := by decide +kernel
theorem dX4_book_47 : decode cX4_book 47 = .ok (.aload_n 0, 1) := by decide +kernel
theorem dX4_book_48 : decode cX4_book 48 = .ok (.aload 5, 2) := by decide +kernel
theorem dX4_book_50 : decode cX4_book 50 = .ok (.iload_n 2, 1) := by decide +kernel
theorem dX4_book_51 : decode cX4_book 51 = .ok (.iload_n 3, 1) := by decide +kernel
theorem dX4_book_52 : decode cX4_book 52 = .ok (.iload 4, 2) := by decide +kernel
theorem dX4_book_54 : decode cX4_book 54 = .ok (.invokevirtual 57, 3) := by decide +kernel
theorem dX4_book_57 : decode cX4_book 57 = .ok (.ireturn, 1) := by decide +kernel
set_option maxRecDepth 20000 in
theorem ggX4_series_X4_houseAt : GoodIn wsX4_series wsX4_houseAt := goodIn_ca (goodIn_r _ [8, 9, 10, 11, 90, 91, 92] (by decide +kernel) (by decide +kernel)) (goodIn_sub (fun _ h => List.mem_cons_of_mem _ (List.mem_append_left _ (List.mem_append_left _ (List.mem_append_right _ h)))) (by decide +kernel))
set_option maxRecDepth 20000 in
theorem gX4_series_X4_houseAt : GoodIn wsX4_series (wsV RX4 32 RX4 yX4_houseAt wsX4_houseAt) := goodIn_app (goodIn_of _ (by decide +kernel)) ggX4_series_X4_houseAt
set_option maxRecDepth 20000 in
theorem ggX4_series_X4_isTime : GoodIn wsX4_series wsX4_isTime := goodIn_r _ [14, 15, 16, 7, 17] (by decide +kernel) (by decide +kernel)
set_option maxRecDepth 20000 in
theorem gX4_series_X4_isTime : GoodIn wsX4_series (va_wsS RX4 36 yX4_isTime wsX4_isTime) := goodIn_app (goodIn_of _ (by decide +kernel)) ggX4_series_X4_isTime
set_option maxRecDepth 20000 in
theorem ggX4_series_X4_isIn : GoodIn wsX4_series wsX4_isIn := goodIn_r _ [17] (by decide +kernel) (by decide +kernel)
set_option maxRecDepth 20000 in
theorem gX4_series_X4_isIn : GoodIn wsX4_series (va_wsS RX4 61 yX4_isIn wsX4_isIn) := goodIn_app (goodIn_of _ (by decide +kernel)) ggX4_series_X4_isIn
set_option maxRecDepth 20000 in
theorem ggX4_series_X4_isSpan : GoodIn wsX4_series wsX4_isSpan := goodIn_r _ [20, 15, 16, 7, 17] (by decide +kernel) (by decide +kernel)
set_option maxRecDepth 20000 in
theorem gX4_series_X4_isSpan : GoodIn wsX4_series (va_wsS RX4 40 yX4_isSpan wsX4_isSpan) := goodIn_app (goodIn_of _ (by decide +kernel)) ggX4_series_X4_isSpan
set_option maxRecDepth 20000 in
theorem ggX4_series_X4_isWeight : GoodIn wsX4_series wsX4_isWeight := goodIn_r _ [23, 15, 16, 7, 17] (by decide +kernel) (by decide +kernel)
set_option maxRecDepth 20000 in
theorem gX4_series_X4_isWeight : GoodIn wsX4_series (va_wsS RX4 43 yX4_isWeight wsX4_isWeight) := goodIn_app (goodIn_of _ (by decide +kernel)) ggX4_series_X4_isWeight
set_option maxRecDepth 20000 in
theorem ggX4_series_X4_refuseIfNoRoom : GoodIn wsX4_series wsX4_refuseIfNoRoom := goodIn_ca (goodIn_r _ [27, 28, 29, 3, 30, 31, 32, 33, 34, 35, 36, 37, 38, 39, 40, 41, 42, 93, 94, 95, 96, 97, 90, 91, 92, 98, 99, 100, 101, 102, 103, 104] (by decide +kernel) (by decide +kernel)) (goodIn_sub (fun _ h => List.mem_cons_of_mem _ (List.mem_append_left _ (List.mem_append_right _ h))) (by decide +kernel))
set_option maxRecDepth 20000 in
theorem gX4_series_X4_refuseIfNoRoom : GoodIn wsX4_series (wsV RX4 53 RX4 yX4_refuseIfNoRoom wsX4_refuseIfNoRoom) := goodIn_app (goodIn_of _ (by decide +kernel)) ggX4_series_X4_refuseIfNoRoom
set_option maxRecDepth 20000 in
theorem ggX4_series_X2_size : GoodIn wsX4_series wsX2_size := goodIn_r _ [40, 41, 42, 31, 32, 33, 34, 35, 100, 101, 102, 103, 104, 98, 99] (by decide +kernel) (by decide +kernel)
set_option maxRecDepth 20000 in
theorem gX4_series_X2_size : GoodIn wsX4_series (wsV RX4 67 RX2 yX2_size wsX2_size) := goodIn_app (goodIn_of _ (by decide +kernel)) ggX4_series_X2_size
set_option maxRecDepth 20000 in
theorem ggX4_series_X4_make : GoodIn wsX4_series wsX4_make := goodIn_ca (goodIn_r _ [46, 3, 47, 48, 49, 39, 50, 41, 51, 52, 53, 54, 55, 56, 57, 33, 58, 35, 59, 60, 61, 62, 63, 64, 65, 66, 67, 42, 31, 32, 34, 68, 69, 70, 7, 71, 30, 72, 73, 74, 75, 76, 77, 78, 79, 80, 81, 82, 83, 84, 85, 86, 87, 88, 89, 90, 91, 92, 100, 101, 102, 103, 104, 98, 99, 93, 94, 95, 96, 97] (by decide +kernel) (by decide +kernel)) (goodIn_sub (fun _ h => List.mem_cons_of_mem _ (List.mem_append_right _ h)) (by decide +kernel))
set_option maxRecDepth 20000 in
theorem gX4_series_X4_make : GoodIn wsX4_series (wsV RX4 57 RX4 yX4_make wsX4_make) := goodIn_app (goodIn_of _ (by decide +kernel)) ggX4_series_X4_make
theorem dX4_series_0 : decode cX4_series 0 = .ok (.aload_n 0, 1) := by decide +kernel
theorem dX4_series_1 : decode cX4_series 1 = .ok (.iload_n 1, 1) := by decide +kernel
theorem dX4_series_2 : decode cX4_series 2 = .ok (.invokevirtual 32, 3) := by decide +kernel
theorem dX4_series_5 : decode cX4_series 5 = .ok (.astore 7, 2) := by decide +kernel
theorem dX4_series_7 : decode cX4_series 7 = .ok (.iload_n 2, 1) := by decide +kernel
theorem dX4_series_8 : decode cX4_series 8 = .ok (.invokestatic 36, 3) := by decide +kernel
theorem dX4_series_11 : decode cX4_series 11 = .ok (.ifCond .eq 55, 3) := by decide +kernel
theorem dX4_series_14 : decode cX4_series 14 = .ok (.iload_n 3, 1) := by decide +kernel
theorem dX4_series_15 : decode cX4_series 15 = .ok (.iconst 0, 1) := by decide +kernel
theorem dX4_series_16 : decode cX4_series 16 = .ok (.sipush 500, 3) := by decide +kernel
theorem dX4_series_19 : decode cX4_series 19 = .ok (.invokestatic 61, 3) := by decide +kernel
theorem dX4_series_22 : decode cX4_series 22 = .ok (.ifCond .eq 44, 3) := by decide +kernel
theorem dX4_series_25 : decode cX4_series 25 = .ok (.iload 4, 2) := by decide +kernel
theorem dX4_series_27 : decode cX4_series 27 = .ok (.iconst 1, 1) := by decide +kernel
theorem dX4_series_28 : decode cX4_series 28 = .ok (.bipush 12, 2) := by decide +kernel
theorem dX4_series_30 : decode cX4_series 30 = .ok (.invokestatic 61, 3) := by decide +kernel
theorem dX4_series_33 : decode cX4_series 33 = .ok (.ifCond .eq 33, 3) := by decide +kernel
theorem dX4_series_36 : decode cX4_series 36 = .ok (.iload 5, 2) := by decide +kernel
theorem dX4_series_38 : decode cX4_series 38 = .ok (.invokestatic 40, 3) := by decide +kernel
theorem dX4_series_41 : decode cX4_series 41 = .ok (.ifCond .eq 25, 3) := by decide +kernel
theorem dX4_series_44 : decode cX4_series 44 = .ok (.iload 6, 2) := by decide +kernel
theorem dX4_series_46 : decode cX4_series 46 = .ok (.invokestatic 43, 3) := by decide +kernel
theorem dX4_series_49 : decode cX4_series 49 = .ok (.ifCond .eq 17, 3) := by decide +kernel
theorem dX4_series_52 : decode cX4_series 52 = .ok (.iload_n 2, 1) := by decide +kernel
theorem dX4_series_53 : decode cX4_series 53 = .ok (.iload_n 3, 1) := by decide +kernel
theorem dX4_series_54 : decode cX4_series 54 = .ok (.iload 4, 2) := by decide +kernel
theorem dX4_series_56 : decode cX4_series 56 = .ok (.iconst 1, 1) := by decide +kernel
theorem dX4_series_57 : decode cX4_series 57 = .ok (.isub, 1) := by decide +kernel
theorem dX4_series_58 : decode cX4_series 58 = .ok (.imul, 1) := by decide +kernel
theorem dX4_series_59 : decode cX4_series 59 = .ok (.iadd, 1) := by decide +kernel
theorem dX4_series_60 : decode cX4_series 60 = .ok (.invokestatic 36, 3) := by decide +kernel
theorem dX4_series_63 : decode cX4_series 63 = .ok (.ifCond .ne 13, 3) := by decide +kernel
theorem dX4_series_66 : decode cX4_series 66 = .ok (.new 46, 3) := by decide +kernel
theorem dX4_series_69 : decode cX4_series 69 = .ok (.dup, 1) := by decide +kernel
theorem dX4_series_70 : decode cX4_series 70 = .ok (.ldc 65, 2) := by decide +kernel
theorem dX4_series_72 : decode cX4_series 72 = .ok (.invokespecial 50, 3) := by decide +kernel
theorem dX4_series_75 : decode cX4_series 75 = .ok (.athrow, 1) := by decide +kernel
theorem dX4_series_76 : decode cX4_series 76 = .ok (.aload_n 0, 1) := by decide +kernel
theorem dX4_series_77 : decode cX4_series 77 = .ok (.aload 7, 2) := by decide +kernel
theorem dX4_series_79 : decode cX4_series 79 = .ok (.iload_n 2, 1) := by decide +kernel
theorem dX4_series_80 : decode cX4_series 80 = .ok (.iload 4, 2) := by decide +kernel
theorem dX4_series_82 : decode cX4_series 82 = .ok (.invokevirtual 53, 3) := by decide +kernel
theorem dX4_series_85 : decode cX4_series 85 = .ok (.aload_n 0, 1) := by decide +kernel
theorem dX4_series_86 : decode cX4_series 86 = .ok (.getfield 10, 3) := by decide +kernel
theorem dX4_series_89 : decode cX4_series 89 = .ok (.invokevirtual 67, 3) := by decide +kernel
theorem dX4_series_92 : decode cX4_series 92 = .ok (.istore 8, 2) := by decide +kernel
theorem dX4_series_94 : decode cX4_series 94 = .ok (.iconst 0, 1) := by decide +kernel
theorem dX4_series_95 : decode cX4_series 95 = .ok (.istore 9, 2) := by decide +kernel
theorem dX4_series_97 : decode cX4_series 97 = .ok (.iload 9, 2) := by decide +kernel
theorem dX4_series_99 : decode cX4_series 99 = .ok (.iload 4, 2) := by decide +kernel
theorem dX4_series_101 : decode cX4_series 101 = .ok (.if_icmp .ge 26, 3) := by decide +kernel
theorem dX4_series_104 : decode cX4_series 104 = .ok (.aload_n 0, 1) := by decide +kernel
theorem dX4_series_105 : decode cX4_series 105 = .ok (.aload 7, 2) := by decide +kernel
theorem dX4_series_107 : decode cX4_series 107 = .ok (.iload_n 2, 1) := by decide +kernel
theorem dX4_series_108 : decode cX4_series 108 = .ok (.iload 9, 2) := by decide +kernel
theorem dX4_series_110 : decode cX4_series 110 = .ok (.iload_n 3, 1) := by decide +kernel
theorem dX4_series_111 : decode cX4_series 111 = .ok (.imul, 1) := by decide +kernel
theorem dX4_series_112 : decode cX4_series 112 = .ok (.iadd, 1) := by decide +kernel
theorem dX4_series_113 : decode cX4_series 113 = .ok (.iload 5, 2) := by decide +kernel
theorem dX4_series_115 : decode cX4_series 115 = .ok (.iload 6, 2) := by decide +kernel
theorem dX4_series_117 : decode cX4_series 117 = .ok (.invokevirtual 57, 3) := by decide +kernel
theorem dX4_series_120 : decode cX4_series 120 = .ok (.pop, 1) := by decide +kernel
theorem dX4_series_121 : decode cX4_series 121 = .ok (.iinc 9 1, 3) := by decide +kernel
theorem dX4_series_124 : decode cX4_series 124 = .ok (.goto (-27), 3) := by decide +kernel
theorem dX4_series_127 : decode cX4_series 127 = .ok (.iload 8, 2) := by decide +kernel
theorem dX4_series_129 : decode cX4_series 129 = .ok (.ireturn, 1) := by decide +kernel
set_option maxRecDepth 20000 in
theorem ggX4_callOff_X4_houseAt : GoodIn wsX4_callOff wsX4_houseAt := goodIn_ca (goodIn_r _ [5, 6, 7, 8, 46, 47, 48] (by decide +kernel) (by decide +kernel)) (goodIn_sub (fun _ h => List.mem_cons_of_mem _ (List.mem_append_left _ (List.mem_append_right _ h))) (by decide +kernel))
set_option maxRecDepth 20000 in
theorem gX4_callOff_X4_houseAt : GoodIn wsX4_callOff (wsV RX4 32 RX4 yX4_houseAt wsX4_houseAt) := goodIn_app (goodIn_of _ (by decide +kernel)) ggX4_callOff_X4_houseAt
set_option maxRecDepth 20000 in
theorem ggX4_callOff_X3_placeOf : GoodIn wsX4_callOff wsX3_placeOf := goodIn_ca (goodIn_r _ [13, 14, 15, 16, 17, 12, 18, 19, 20, 21, 22, 23, 49, 50] (by decide +kernel) (by decide +kernel)) (goodIn_sub (fun _ h => List.mem_cons_of_mem _ (List.mem_append_right _ h)) (by decide +kernel))
set_option maxRecDepth 20000 in
theorem gX4_callOff_X3_placeOf : GoodIn wsX4_callOff (wsV RX4 75 RX3 yX3_placeOf wsX3_placeOf) := goodIn_app (goodIn_of _ (by decide +kernel)) ggX4_callOff_X3_placeOf
set_option maxRecDepth 20000 in
theorem ggX4_callOff_X4_callOffPlace : GoodIn wsX4_callOff wsX4_callOffPlace := goodIn_ca (goodIn_r _ [27, 28, 29, 30, 31, 12, 32, 19, 14, 33, 34, 35, 36, 20, 21, 22, 23, 37, 38, 39, 40, 46, 47, 48, 51, 52, 53, 54, 55, 41, 42, 43, 44, 45, 49, 50] (by decide +kernel) (by decide +kernel)) (goodIn_sub (fun _ h => List.mem_cons_of_mem _ (List.mem_append_right _ h)) (by decide +kernel))
set_option maxRecDepth 20000 in
theorem gX4_callOff_X4_callOffPlace : GoodIn wsX4_callOff (wsV RX4 81 RX4 yX4_callOffPlace wsX4_callOffPlace) := goodIn_app (goodIn_of _ (by decide +kernel)) ggX4_callOff_X4_callOffPlace
theorem dX4_callOff_0 : decode cX4_callOff 0 = .ok (.aload_n 0, 1) := by decide +kernel
theorem dX4_callOff_1 : decode cX4_callOff 1 = .ok (.iload_n 1, 1) := by decide +kernel
theorem dX4_callOff_2 : decode cX4_callOff 2 = .ok (.invokevirtual 32, 3) := by decide +kernel
theorem dX4_callOff_5 : decode cX4_callOff 5 = .ok (.astore_n 3, 1) := by decide +kernel
theorem dX4_callOff_6 : decode cX4_callOff 6 = .ok (.aload_n 3, 1) := by decide +kernel
theorem dX4_callOff_7 : decode cX4_callOff 7 = .ok (.getfield 71, 3) := by decide +kernel
theorem dX4_callOff_10 : decode cX4_callOff 10 = .ok (.iload_n 2, 1) := by decide +kernel
theorem dX4_callOff_11 : decode cX4_callOff 11 = .ok (.invokevirtual 75, 3) := by decide +kernel
theorem dX4_callOff_14 : decode cX4_callOff 14 = .ok (.istore 4, 2) := by decide +kernel
theorem dX4_callOff_16 : decode cX4_callOff 16 = .ok (.iload 4, 2) := by decide +kernel
theorem dX4_callOff_18 : decode cX4_callOff 18 = .ok (.ifCond .ge 5, 3) := by decide +kernel
theorem dX4_callOff_21 : decode cX4_callOff 21 = .ok (.iconst 0, 1) := by decide +kernel
theorem dX4_callOff_22 : decode cX4_callOff 22 = .ok (.ireturn, 1) := by decide +kernel
theorem dX4_callOff_23 : decode cX4_callOff 23 = .ok (.aload_n 0, 1) := by decide +kernel
theorem dX4_callOff_24 : decode cX4_callOff 24 = .ok (.aload_n 3, 1) := by decide +kernel
theorem dX4_callOff_25 : decode cX4_callOff 25 = .ok (.iload 4, 2) := by decide +kernel
theorem dX4_callOff_27 : decode cX4_callOff 27 = .ok (.invokevirtual 81, 3) := by decide +kernel
theorem dX4_callOff_30 : decode cX4_callOff 30 = .ok (.iconst 1, 1) := by decide +kernel
theorem dX4_callOff_31 : decode cX4_callOff 31 = .ok (.ireturn, 1) := by decide +kernel
set_option maxRecDepth 20000 in
theorem ggX4_callOffAll_X4_houseAt : GoodIn wsX4_callOffAll wsX4_houseAt := goodIn_ca (goodIn_r _ [5, 6, 7, 8, 50, 51, 52] (by decide +kernel) (by decide +kernel)) (goodIn_sub (fun _ h => List.mem_cons_of_mem _ (List.mem_append_left _ (List.mem_append_left _ (List.mem_append_right _ h)))) (by decide +kernel))
set_option maxRecDepth 20000 in
theorem gX4_callOffAll_X4_houseAt : GoodIn wsX4_callOffAll (wsV RX4 32 RX4 yX4_houseAt wsX4_houseAt) := goodIn_app (goodIn_of _ (by decide +kernel)) ggX4_callOffAll_X4_houseAt
set_option maxRecDepth 20000 in
theorem ggX4_callOffAll_X4_refuseIfTurned : GoodIn wsX4_callOffAll wsX4_refuseIfTurned := goodIn_ca (goodIn_r _ [11, 12, 13] (by decide +kernel) (by decide +kernel)) (goodIn_sub (fun _ h => List.mem_cons_of_mem _ (List.mem_append_left _ (List.mem_append_right _ h))) (by decide +kernel))
set_option maxRecDepth 20000 in
theorem gX4_callOffAll_X4_refuseIfTurned : GoodIn wsX4_callOffAll (va_wsS RX4 85 yX4_refuseIfTurned wsX4_refuseIfTurned) := goodIn_app (goodIn_of _ (by decide +kernel)) ggX4_callOffAll_X4_refuseIfTurned
set_option maxRecDepth 20000 in
theorem ggX4_callOffAll_X4_waitingAheadOf : GoodIn wsX4_callOffAll wsX4_waitingAheadOf := goodIn_ca (goodIn_r _ [17, 18, 19, 20, 21, 22, 23, 24, 25, 26, 27, 28, 29, 30, 31, 32, 33, 53, 54, 55, 56, 57, 50, 51, 52, 58, 59, 60, 61, 62, 63, 64] (by decide +kernel) (by decide +kernel)) (goodIn_sub (fun _ h => List.mem_cons_of_mem _ (List.mem_append_right _ h)) (by decide +kernel))
set_option maxRecDepth 20000 in
theorem gX4_callOffAll_X4_waitingAheadOf : GoodIn wsX4_callOffAll (wsV RX4 89 RX4 yX4_waitingAheadOf wsX4_waitingAheadOf) := goodIn_app (goodIn_of _ (by decide +kernel)) ggX4_callOffAll_X4_waitingAheadOf
set_option maxRecDepth 20000 in
theorem ggX4_callOffAll_X4_callOffPlace : GoodIn wsX4_callOffAll wsX4_callOffPlace := goodIn_ca (goodIn_r _ [37, 18, 38, 39, 40, 22, 41, 29, 24, 42, 43, 44, 45, 30, 31, 32, 33, 46, 47, 48, 49, 50, 51, 52, 58, 59, 60, 61, 62, 53, 54, 55, 56, 57, 63, 64] (by decide +kernel) (by decide +kernel)) (goodIn_sub (fun _ h => List.mem_cons_of_mem _ (List.mem_append_right _ h)) (by decide +kernel))
set_option maxRecDepth 20000 in
theorem gX4_callOffAll_X4_callOffPlace : GoodIn wsX4_callOffAll (wsV RX4 81 RX4 yX4_callOffPlace wsX4_callOffPlace) := goodIn_app (goodIn_of _ (by decide +kernel)) ggX4_callOffAll_X4_callOffPlace
theorem dX4_callOffAll_0 : decode cX4_callOffAll 0 = .ok (.aload_n 0, 1) := by decide +kernel
theorem dX4_callOffAll_1 : decode cX4_callOffAll 1 = .ok (.iload_n 1, 1) := by decide +kernel
theorem dX4_callOffAll_2 : decode cX4_callOffAll 2 = .ok (.invokevirtual 32, 3) := by decide +kernel
theorem dX4_callOffAll_5 : decode cX4_callOffAll 5 = .ok (.astore 4, 2) := by decide +kernel
theorem dX4_callOffAll_7 : decode cX4_callOffAll 7 = .ok (.iload_n 2, 1) := by decide +kernel
theorem dX4_callOffAll_8 : decode cX4_callOffAll 8 = .ok (.iload_n 3, 1) := by decide +kernel
theorem dX4_callOffAll_9 : decode cX4_callOffAll 9 = .ok (.invokestatic 85, 3) := by decide +kernel
theorem dX4_callOffAll_12 : decode cX4_callOffAll 12 = .ok (.aload_n 0, 1) := by decide +kernel
theorem dX4_callOffAll_13 : decode cX4_callOffAll 13 = .ok (.aload 4, 2) := by decide +kernel
theorem dX4_callOffAll_15 : decode cX4_callOffAll 15 = .ok (.iload_n 2, 1) := by decide +kernel
theorem dX4_callOffAll_16 : decode cX4_callOffAll 16 = .ok (.invokevirtual 89, 3) := by decide +kernel
theorem dX4_callOffAll_19 : decode cX4_callOffAll 19 = .ok (.istore 5, 2) := by decide +kernel
theorem dX4_callOffAll_21 : decode cX4_callOffAll 21 = .ok (.aload_n 0, 1) := by decide +kernel
theorem dX4_callOffAll_22 : decode cX4_callOffAll 22 = .ok (.aload 4, 2) := by decide +kernel
theorem dX4_callOffAll_24 : decode cX4_callOffAll 24 = .ok (.iload_n 3, 1) := by decide +kernel
theorem dX4_callOffAll_25 : decode cX4_callOffAll 25 = .ok (.invokevirtual 89, 3) := by decide +kernel
theorem dX4_callOffAll_28 : decode cX4_callOffAll 28 = .ok (.iload 5, 2) := by decide +kernel
theorem dX4_callOffAll_30 : decode cX4_callOffAll 30 = .ok (.isub, 1) := by decide +kernel
theorem dX4_callOffAll_31 : decode cX4_callOffAll 31 = .ok (.istore 6, 2) := by decide +kernel
theorem dX4_callOffAll_33 : decode cX4_callOffAll 33 = .ok (.iconst 0, 1) := by decide +kernel
theorem dX4_callOffAll_34 : decode cX4_callOffAll 34 = .ok (.istore 7, 2) := by decide +kernel
theorem dX4_callOffAll_36 : decode cX4_callOffAll 36 = .ok (.iload 7, 2) := by decide +kernel
theorem dX4_callOffAll_38 : decode cX4_callOffAll 38 = .ok (.iload 6, 2) := by decide +kernel
theorem dX4_callOffAll_40 : decode cX4_callOffAll 40 = .ok (.if_icmp .ge 17, 3) := by decide +kernel
theorem dX4_callOffAll_43 : decode cX4_callOffAll 43 = .ok (.aload_n 0, 1) := by decide +kernel
theorem dX4_callOffAll_44 : decode cX4_callOffAll 44 = .ok (.aload 4, 2) := by decide +kernel
theorem dX4_callOffAll_46 : decode cX4_callOffAll 46 = .ok (.iload 5, 2) := by decide +kernel
theorem dX4_callOffAll_48 : decode cX4_callOffAll 48 = .ok (.invokevirtual 81, 3) := by decide +kernel
theorem dX4_callOffAll_51 : decode cX4_callOffAll 51 = .ok (.iinc 7 1, 3) := by decide +kernel
theorem dX4_callOffAll_54 : decode cX4_callOffAll 54 = .ok (.goto (-18), 3) := by decide +kernel
theorem dX4_callOffAll_57 : decode cX4_callOffAll 57 = .ok (.iload 6, 2) := by decide +kernel
theorem dX4_callOffAll_59 : decode cX4_callOffAll 59 = .ok (.ireturn, 1) := by decide +kernel
set_option maxRecDepth 20000 in
theorem ggX4_put_X4_houseAt : GoodIn wsX4_put wsX4_houseAt := goodIn_ca (goodIn_r _ [10, 11, 12, 13, 77, 78, 79] (by decide +kernel) (by decide +kernel)) (goodIn_sub (fun _ h => List.mem_cons_of_mem _ (List.mem_append_left _ (List.mem_append_left _ (List.mem_append_right _ h)))) (by decide +kernel))
set_option maxRecDepth 20000 in
theorem gX4_put_X4_houseAt : GoodIn wsX4_put (wsV RX4 32 RX4 yX4_houseAt wsX4_houseAt) := goodIn_app (goodIn_of _ (by decide +kernel)) ggX4_put_X4_houseAt
set_option maxRecDepth 20000 in
theorem ggX4_put_X4_refuseIfNoTime : GoodIn wsX4_put wsX4_refuseIfNoTime := goodIn_ca (goodIn_r _ [16, 17, 18, 19, 20, 9, 21, 22, 23, 24] (by decide +kernel) (by decide +kernel)) (goodIn_sub (fun _ h => List.mem_cons_of_mem _ (List.mem_append_left _ (List.mem_append_right _ h))) (by decide +kernel))
set_option maxRecDepth 20000 in
theorem gX4_put_X4_refuseIfNoTime : GoodIn wsX4_put (va_wsS RX4 93 yX4_refuseIfNoTime wsX4_refuseIfNoTime) := goodIn_app (goodIn_of _ (by decide +kernel)) ggX4_put_X4_refuseIfNoTime
set_option maxRecDepth 20000 in
theorem ggX4_put_X3_placeOf : GoodIn wsX4_put wsX3_placeOf := goodIn_ca (goodIn_r _ [29, 30, 31, 32, 33, 28, 34, 35, 36, 37, 38, 39, 85, 86] (by decide +kernel) (by decide +kernel)) (goodIn_sub (fun _ h => List.mem_cons_of_mem _ (List.mem_append_right _ h)) (by decide +kernel))
set_option maxRecDepth 20000 in
theorem gX4_put_X3_placeOf : GoodIn wsX4_put (wsV RX4 75 RX3 yX3_placeOf wsX3_placeOf) := goodIn_app (goodIn_of _ (by decide +kernel)) ggX4_put_X3_placeOf
set_option maxRecDepth 20000 in
theorem ggX4_put_X3_get : GoodIn wsX4_put wsX3_get := goodIn_ca (goodIn_r _ [34, 35, 36, 37, 38, 28, 39, 30, 85, 86] (by decide +kernel) (by decide +kernel)) (goodIn_sub (fun _ h => List.mem_cons_of_mem _ (List.mem_append_right _ h)) (by decide +kernel))
set_option maxRecDepth 20000 in
theorem gX4_put_X3_get : GoodIn wsX4_put (wsV RX4 113 RX3 yX3_get wsX3_get) := goodIn_app (goodIn_of _ (by decide +kernel)) ggX4_put_X3_get
set_option maxRecDepth 20000 in
theorem ggX4_put_X3_remove : GoodIn wsX4_put wsX3_remove := goodIn_ca (goodIn_r _ [44, 35, 30, 45, 46, 47, 48, 36, 37, 38, 28, 39, 85, 86] (by decide +kernel) (by decide +kernel)) (goodIn_sub (fun _ h => List.mem_cons_of_mem _ (List.mem_append_right _ h)) (by decide +kernel))
set_option maxRecDepth 20000 in
theorem gX4_put_X3_remove : GoodIn wsX4_put (wsV RX4 116 RX3 yX3_remove wsX3_remove) := goodIn_app (goodIn_of _ (by decide +kernel)) ggX4_put_X3_remove
set_option maxRecDepth 20000 in
theorem ggX4_put_X3_set : GoodIn wsX4_put wsX3_set := goodIn_ca (goodIn_r _ [52, 35, 36, 37, 38, 28, 39, 30, 85, 86] (by decide +kernel) (by decide +kernel)) (goodIn_sub (fun _ h => List.mem_cons_of_mem _ (List.mem_append_right _ h)) (by decide +kernel))
set_option maxRecDepth 20000 in
theorem gX4_put_X3_set : GoodIn wsX4_put (wsV RX4 119 RX3 yX3_set wsX3_set) := goodIn_app (goodIn_of _ (by decide +kernel)) ggX4_put_X3_set
set_option maxRecDepth 20000 in
theorem ggX4_put_X4_enqueue : GoodIn wsX4_put wsX4_enqueue := goodIn_ca (goodIn_r _ [56, 5, 57, 58, 59, 28, 60, 30, 40, 32, 33, 34, 35, 36, 37, 38, 39, 61, 62, 63, 64, 65, 66, 67, 68, 69, 70, 71, 45, 46, 47, 48, 49, 50, 51, 52, 72, 73, 74, 75, 76, 77, 78, 79, 80, 81, 82, 83, 84, 85, 86] (by decide +kernel) (by decide +kernel)) (goodIn_sub (fun _ h => List.mem_cons_of_mem _ (List.mem_append_right _ h)) (by decide +kernel))
set_option maxRecDepth 20000 in
theorem gX4_put_X4_enqueue : GoodIn wsX4_put (wsV RX4 122 RX4 yX4_enqueue wsX4_enqueue) := goodIn_app (goodIn_of _ (by decide +kernel)) ggX4_put_X4_enqueue
theorem dX4_put_0 : decode cX4_put 0 = .ok (.aload_n 0, 1) := by decide +kernel
theorem dX4_put_1 : decode cX4_put 1 = .ok (.iload_n 1, 1) := by decide +kernel
theorem dX4_put_2 : decode cX4_put 2 = .ok (.invokevirtual 32, 3) := by decide +kernel
theorem dX4_put_5 : decode cX4_put 5 = .ok (.astore 4, 2) := by decide +kernel
theorem dX4_put_7 : decode cX4_put 7 = .ok (.iload_n 3, 1) := by decide +kernel
theorem dX4_put_8 : decode cX4_put 8 = .ok (.invokestatic 93, 3) := by decide +kernel
theorem dX4_put_11 : decode cX4_put 11 = .ok (.aload 4, 2) := by decide +kernel
theorem dX4_put_13 : decode cX4_put 13 = .ok (.getfield 71, 3) := by decide +kernel
theorem dX4_put_16 : decode cX4_put 16 = .ok (.iload_n 2, 1) := by decide +kernel
theorem dX4_put_17 : decode cX4_put 17 = .ok (.invokevirtual 75, 3) := by decide +kernel
theorem dX4_put_20 : decode cX4_put 20 = .ok (.istore 5, 2) := by decide +kernel
theorem dX4_put_22 : decode cX4_put 22 = .ok (.iload 5, 2) := by decide +kernel
theorem dX4_put_24 : decode cX4_put 24 = .ok (.ifCond .ge 13, 3) := by decide +kernel
theorem dX4_put_27 : decode cX4_put 27 = .ok (.new 96, 3) := by decide +kernel
theorem dX4_put_30 : decode cX4_put 30 = .ok (.dup, 1) := by decide +kernel
theorem dX4_put_31 : decode cX4_put 31 = .ok (.ldc 98, 2) := by decide +kernel
theorem dX4_put_33 : decode cX4_put 33 = .ok (.invokespecial 100, 3) := by decide +kernel
theorem dX4_put_36 : decode cX4_put 36 = .ok (.athrow, 1) := by decide +kernel
theorem dX4_put_37 : decode cX4_put 37 = .ok (.iload_n 3, 1) := by decide +kernel
theorem dX4_put_38 : decode cX4_put 38 = .ok (.aload 4, 2) := by decide +kernel
theorem dX4_put_40 : decode cX4_put 40 = .ok (.getfield 101, 3) := by decide +kernel
theorem dX4_put_43 : decode cX4_put 43 = .ok (.if_icmp .ge 13, 3) := by decide +kernel
theorem dX4_put_46 : decode cX4_put 46 = .ok (.new 105, 3) := by decide +kernel
theorem dX4_put_49 : decode cX4_put 49 = .ok (.dup, 1) := by decide +kernel
theorem dX4_put_50 : decode cX4_put 50 = .ok (.ldc 107, 2) := by decide +kernel
theorem dX4_put_52 : decode cX4_put 52 = .ok (.invokespecial 109, 3) := by decide +kernel
theorem dX4_put_55 : decode cX4_put 55 = .ok (.athrow, 1) := by decide +kernel
theorem dX4_put_56 : decode cX4_put 56 = .ok (.aload_n 0, 1) := by decide +kernel
theorem dX4_put_57 : decode cX4_put 57 = .ok (.getfield 10, 3) := by decide +kernel
theorem dX4_put_60 : decode cX4_put 60 = .ok (.getfield 110, 3) := by decide +kernel
theorem dX4_put_63 : decode cX4_put 63 = .ok (.iload_n 2, 1) := by decide +kernel
theorem dX4_put_64 : decode cX4_put 64 = .ok (.invokevirtual 113, 3) := by decide +kernel
theorem dX4_put_67 : decode cX4_put 67 = .ok (.istore 6, 2) := by decide +kernel
theorem dX4_put_69 : decode cX4_put 69 = .ok (.aload 4, 2) := by decide +kernel
theorem dX4_put_71 : decode cX4_put 71 = .ok (.getfield 71, 3) := by decide +kernel
theorem dX4_put_74 : decode cX4_put 74 = .ok (.iload 5, 2) := by decide +kernel
theorem dX4_put_76 : decode cX4_put 76 = .ok (.invokevirtual 116, 3) := by decide +kernel
theorem dX4_put_79 : decode cX4_put 79 = .ok (.pop, 1) := by decide +kernel
theorem dX4_put_80 : decode cX4_put 80 = .ok (.aload_n 0, 1) := by decide +kernel
theorem dX4_put_81 : decode cX4_put 81 = .ok (.getfield 10, 3) := by decide +kernel
theorem dX4_put_84 : decode cX4_put 84 = .ok (.getfield 110, 3) := by decide +kernel
theorem dX4_put_87 : decode cX4_put 87 = .ok (.iload_n 2, 1) := by decide +kernel
theorem dX4_put_88 : decode cX4_put 88 = .ok (.iload_n 3, 1) := by decide +kernel
theorem dX4_put_89 : decode cX4_put 89 = .ok (.invokevirtual 119, 3) := by decide +kernel
theorem dX4_put_92 : decode cX4_put 92 = .ok (.aload_n 0, 1) := by decide +kernel
theorem dX4_put_93 : decode cX4_put 93 = .ok (.aload 4, 2) := by decide +kernel
theorem dX4_put_95 : decode cX4_put 95 = .ok (.iload_n 2, 1) := by decide +kernel
theorem dX4_put_96 : decode cX4_put 96 = .ok (.invokevirtual 122, 3) := by decide +kernel
theorem dX4_put_99 : decode cX4_put 99 = .ok (.iload 6, 2) := by decide +kernel
theorem dX4_put_101 : decode cX4_put 101 = .ok (.ireturn, 1) := by decide +kernel
set_option maxRecDepth 20000 in
theorem ggX4_join_X4_houseAt : GoodIn wsX4_join wsX4_houseAt := goodIn_ca (goodIn_r _ [5, 6, 7, 8, 61, 62, 63] (by decide +kernel) (by decide +kernel)) (goodIn_sub (fun _ h => List.mem_cons_of_mem _ (List.mem_append_left _ (List.mem_append_left _ (List.mem_append_right _ h)))) (by decide +kernel))
set_option maxRecDepth 20000 in
theorem gX4_join_X4_houseAt : GoodIn wsX4_join (wsV RX4 32 RX4 yX4_houseAt wsX4_houseAt) := goodIn_app (goodIn_of _ (by decide +kernel)) ggX4_join_X4_houseAt
set_option maxRecDepth 20000 in
theorem ggX4_join_X4_refuseIfSame : GoodIn wsX4_join wsX4_refuseIfSame := goodIn_ca (goodIn_r _ [11, 12, 13] (by decide +kernel) (by decide +kernel)) (goodIn_sub (fun _ h => List.mem_cons_of_mem _ (List.mem_append_left _ (List.mem_append_right _ h))) (by decide +kernel))
set_option maxRecDepth 20000 in
theorem gX4_join_X4_refuseIfSame : GoodIn wsX4_join (va_wsS RX4 125 yX4_refuseIfSame wsX4_refuseIfSame) := goodIn_app (goodIn_of _ (by decide +kernel)) ggX4_join_X4_refuseIfSame
set_option maxRecDepth 20000 in
theorem ggX4_join_X4_move : GoodIn wsX4_join wsX4_move := goodIn_ca (goodIn_ca (goodIn_r _ [17, 12, 13, 18, 19, 20, 21, 22, 23, 24, 25, 26, 27, 28, 29, 30, 31, 32, 33, 34, 35, 36, 37, 38, 39, 40, 41, 42, 43, 44, 4, 45, 46, 47, 48, 49, 50, 51, 52, 53, 54, 55, 56, 57, 58, 59, 60, 64, 65, 66, 67, 68, 61, 62, 63, 69, 70, 71, 72, 73, 74, 75] (by decide +kernel) (by decide +kernel)) (goodIn_sub (fun _ h => List.mem_cons_of_mem _ (List.mem_append_left _ (List.mem_append_right _ h))) (by decide +kernel))) (goodIn_sub (fun _ h => List.mem_cons_of_mem _ (List.mem_append_right _ h)) (by decide +kernel))
set_option maxRecDepth 20000 in
theorem gX4_join_X4_move : GoodIn wsX4_join (wsV RX4 128 RX4 yX4_move wsX4_move) := goodIn_app (goodIn_of _ (by decide +kernel)) ggX4_join_X4_move
theorem dX4_join_0 : decode cX4_join 0 = .ok (.aload_n 0, 1) := by decide +kernel
theorem dX4_join_1 : decode cX4_join 1 = .ok (.iload_n 1, 1) := by decide +kernel
theorem dX4_join_2 : decode cX4_join 2 = .ok (.invokevirtual 32, 3) := by decide +kernel
theorem dX4_join_5 : decode cX4_join 5 = .ok (.astore_n 3, 1) := by decide +kernel
theorem dX4_join_6 : decode cX4_join 6 = .ok (.aload_n 0, 1) := by decide +kernel
theorem dX4_join_7 : decode cX4_join 7 = .ok (.iload_n 2, 1) := by decide +kernel
theorem dX4_join_8 : decode cX4_join 8 = .ok (.invokevirtual 32, 3) := by decide +kernel
theorem dX4_join_11 : decode cX4_join 11 = .ok (.astore 4, 2) := by decide +kernel
theorem dX4_join_13 : decode cX4_join 13 = .ok (.iload_n 1, 1) := by decide +kernel
theorem dX4_join_14 : decode cX4_join 14 = .ok (.iload_n 2, 1) := by decide +kernel
theorem dX4_join_15 : decode cX4_join 15 = .ok (.invokestatic 125, 3) := by decide +kernel
theorem dX4_join_18 : decode cX4_join 18 = .ok (.aload_n 0, 1) := by decide +kernel
theorem dX4_join_19 : decode cX4_join 19 = .ok (.aload 4, 2) := by decide +kernel
theorem dX4_join_21 : decode cX4_join 21 = .ok (.iconst 0, 1) := by decide +kernel
theorem dX4_join_22 : decode cX4_join 22 = .ok (.aload_n 3, 1) := by decide +kernel
theorem dX4_join_23 : decode cX4_join 23 = .ok (.invokevirtual 128, 3) := by decide +kernel
theorem dX4_join_26 : decode cX4_join 26 = .ok (.ireturn, 1) := by decide +kernel
set_option maxRecDepth 20000 in
theorem ggX4_part_X4_houseAt : GoodIn wsX4_part wsX4_houseAt := goodIn_ca (goodIn_r _ [5, 6, 7, 8, 65, 66, 67] (by decide +kernel) (by decide +kernel)) (goodIn_sub (fun _ h => List.mem_cons_of_mem _ (List.mem_append_left _ (List.mem_append_left _ (List.mem_append_right _ h)))) (by decide +kernel))
set_option maxRecDepth 20000 in
theorem gX4_part_X4_houseAt : GoodIn wsX4_part (wsV RX4 32 RX4 yX4_houseAt wsX4_houseAt) := goodIn_app (goodIn_of _ (by decide +kernel)) ggX4_part_X4_houseAt
set_option maxRecDepth 20000 in
theorem ggX4_part_X4_refuseIfSame : GoodIn wsX4_part wsX4_refuseIfSame := goodIn_ca (goodIn_r _ [11, 12, 13] (by decide +kernel) (by decide +kernel)) (goodIn_sub (fun _ h => List.mem_cons_of_mem _ (List.mem_append_left _ (List.mem_append_right _ h))) (by decide +kernel))
set_option maxRecDepth 20000 in
theorem gX4_part_X4_refuseIfSame : GoodIn wsX4_part (va_wsS RX4 125 yX4_refuseIfSame wsX4_refuseIfSame) := goodIn_app (goodIn_of _ (by decide +kernel)) ggX4_part_X4_refuseIfSame
set_option maxRecDepth 20000 in
theorem ggX4_part_X4_waitingAheadOf : GoodIn wsX4_part wsX4_waitingAheadOf := goodIn_ca (goodIn_r _ [17, 18, 19, 20, 21, 22, 23, 24, 25, 26, 27, 28, 29, 30, 31, 32, 33, 68, 69, 70, 71, 72, 65, 66, 67, 73, 74, 75, 76, 77, 78, 79] (by decide +kernel) (by decide +kernel)) (goodIn_sub (fun _ h => List.mem_cons_of_mem _ (List.mem_append_right _ h)) (by decide +kernel))
set_option maxRecDepth 20000 in
theorem gX4_part_X4_waitingAheadOf : GoodIn wsX4_part (wsV RX4 89 RX4 yX4_waitingAheadOf wsX4_waitingAheadOf) := goodIn_app (goodIn_of _ (by decide +kernel)) ggX4_part_X4_waitingAheadOf
set_option maxRecDepth 20000 in
theorem ggX4_part_X4_move : GoodIn wsX4_part wsX4_move := goodIn_ca (goodIn_ca (goodIn_r _ [37, 12, 13, 18, 19, 20, 21, 22, 23, 24, 25, 26, 27, 28, 29, 30, 31, 32, 33, 38, 39, 40, 41, 42, 43, 44, 45, 46, 47, 48, 4, 49, 50, 51, 52, 53, 54, 55, 56, 57, 58, 59, 60, 61, 62, 63, 64, 68, 69, 70, 71, 72, 65, 66, 67, 73, 74, 75, 76, 77, 78, 79] (by decide +kernel) (by decide +kernel)) (goodIn_sub (fun _ h => List.mem_cons_of_mem _ (List.mem_append_left _ (List.mem_append_right _ h))) (by decide +kernel))) (goodIn_sub (fun _ h => List.mem_cons_of_mem _ (List.mem_append_right _ h)) (by decide +kernel))
set_option maxRecDepth 20000 in
theorem gX4_part_X4_move : GoodIn wsX4_part (wsV RX4 128 RX4 yX4_move wsX4_move) := goodIn_app (goodIn_of _ (by decide +kernel)) ggX4_part_X4_move
theorem dX4_part_0 : decode cX4_part 0 = .ok (.aload_n 0, 1) := by decide +kernel
theorem dX4_part_1 : decode cX4_part 1 = .ok (.iload_n 1, 1) := by decide +kernel
theorem dX4_part_2 : decode cX4_part 2 = .ok (.invokevirtual 32, 3) := by decide +kernel
theorem dX4_part_5 : decode cX4_part 5 = .ok (.astore 4, 2) := by decide +kernel
theorem dX4_part_7 : decode cX4_part 7 = .ok (.aload_n 0, 1) := by decide +kernel
theorem dX4_part_8 : decode cX4_part 8 = .ok (.iload_n 2, 1) := by decide +kernel
theorem dX4_part_9 : decode cX4_part 9 = .ok (.invokevirtual 32, 3) := by decide +kernel
theorem dX4_part_12 : decode cX4_part 12 = .ok (.astore 5, 2) := by decide +kernel
theorem dX4_part_14 : decode cX4_part 14 = .ok (.iload_n 1, 1) := by decide +kernel
theorem dX4_part_15 : decode cX4_part 15 = .ok (.iload_n 2, 1) := by decide +kernel
theorem dX4_part_16 : decode cX4_part 16 = .ok (.invokestatic 125, 3) := by decide +kernel
theorem dX4_part_19 : decode cX4_part 19 = .ok (.aload_n 0, 1) := by decide +kernel
theorem dX4_part_20 : decode cX4_part 20 = .ok (.aload 4, 2) := by decide +kernel
theorem dX4_part_22 : decode cX4_part 22 = .ok (.aload_n 0, 1) := by decide +kernel
theorem dX4_part_23 : decode cX4_part 23 = .ok (.aload 4, 2) := by decide +kernel
theorem dX4_part_25 : decode cX4_part 25 = .ok (.iload_n 3, 1) := by decide +kernel
theorem dX4_part_26 : decode cX4_part 26 = .ok (.invokevirtual 89, 3) := by decide +kernel
theorem dX4_part_29 : decode cX4_part 29 = .ok (.aload 5, 2) := by decide +kernel
theorem dX4_part_31 : decode cX4_part 31 = .ok (.invokevirtual 128, 3) := by decide +kernel
theorem dX4_part_34 : decode cX4_part 34 = .ok (.ireturn, 1) := by decide +kernel
set_option maxRecDepth 20000 in
theorem ggX4_next_X4_houseAt : GoodIn wsX4_next wsX4_houseAt := goodIn_ca (goodIn_r _ [7, 8, 9, 10, 80, 81, 82] (by decide +kernel) (by decide +kernel)) (goodIn_sub (fun _ h => List.mem_cons_of_mem _ (List.mem_append_left _ (List.mem_append_right _ h))) (by decide +kernel))
set_option maxRecDepth 20000 in
theorem gX4_next_X4_houseAt : GoodIn wsX4_next (wsV RX4 32 RX4 yX4_houseAt wsX4_houseAt) := goodIn_app (goodIn_of _ (by decide +kernel)) ggX4_next_X4_houseAt
set_option maxRecDepth 20000 in
theorem ggX4_next_X3_size : GoodIn wsX4_next wsX3_size := goodIn_r _ [15, 16, 83, 84] (by decide +kernel) (by decide +kernel)
set_option maxRecDepth 20000 in
theorem gX4_next_X3_size : GoodIn wsX4_next (wsV RX4 132 RX3 yX3_size wsX3_size) := goodIn_app (goodIn_of _ (by decide +kernel)) ggX4_next_X3_size
set_option maxRecDepth 20000 in
theorem ggX4_next_X4_letFirstCome : GoodIn wsX4_next wsX4_letFirstCome := goodIn_ca (goodIn_r _ [20, 21, 22, 23, 24, 14, 25, 26, 16, 27, 28, 29, 30, 31, 32, 33, 34, 35, 36, 37, 38, 39, 40, 41, 42, 43, 44, 45, 46, 47, 48, 49, 50, 51, 52, 53, 54, 55, 56, 57, 58, 59, 60, 61, 62, 63, 64, 65, 66, 12, 13, 15, 67, 68, 69, 70, 71, 72, 73, 74, 75, 76, 77, 78, 79, 80, 81, 82, 85, 86, 87, 88, 89, 83, 84, 90, 91] (by decide +kernel) (by decide +kernel)) (goodIn_sub (fun _ h => List.mem_cons_of_mem _ (List.mem_append_right _ h)) (by decide +kernel))
set_option maxRecDepth 20000 in
theorem gX4_next_X4_letFirstCome : GoodIn wsX4_next (wsV RX4 135 RX4 yX4_letFirstCome wsX4_letFirstCome) := goodIn_app (goodIn_of _ (by decide +kernel)) ggX4_next_X4_letFirstCome
theorem dX4_next_0 : decode cX4_next 0 = .ok (.aload_n 0, 1) := by decide +kernel
theorem dX4_next_1 : decode cX4_next 1 = .ok (.iload_n 1, 1) := by decide +kernel
theorem dX4_next_2 : decode cX4_next 2 = .ok (.invokevirtual 32, 3) := by decide +kernel
theorem dX4_next_5 : decode cX4_next 5 = .ok (.astore_n 2, 1) := by decide +kernel
theorem dX4_next_6 : decode cX4_next 6 = .ok (.aload_n 2, 1) := by decide +kernel
theorem dX4_next_7 : decode cX4_next 7 = .ok (.getfield 71, 3) := by decide +kernel
theorem dX4_next_10 : decode cX4_next 10 = .ok (.invokevirtual 132, 3) := by decide +kernel
theorem dX4_next_13 : decode cX4_next 13 = .ok (.ifCond .ne 13, 3) := by decide +kernel
theorem dX4_next_16 : decode cX4_next 16 = .ok (.new 96, 3) := by decide +kernel
theorem dX4_next_19 : decode cX4_next 19 = .ok (.dup, 1) := by decide +kernel
theorem dX4_next_20 : decode cX4_next 20 = .ok (.ldc 133, 2) := by decide +kernel
theorem dX4_next_22 : decode cX4_next 22 = .ok (.invokespecial 100, 3) := by decide +kernel
theorem dX4_next_25 : decode cX4_next 25 = .ok (.athrow, 1) := by decide +kernel
theorem dX4_next_26 : decode cX4_next 26 = .ok (.aload_n 0, 1) := by decide +kernel
theorem dX4_next_27 : decode cX4_next 27 = .ok (.aload_n 2, 1) := by decide +kernel
theorem dX4_next_28 : decode cX4_next 28 = .ok (.invokevirtual 135, 3) := by decide +kernel
theorem dX4_next_31 : decode cX4_next 31 = .ok (.ireturn, 1) := by decide +kernel
set_option maxRecDepth 20000 in
theorem ggX4_run_X4_houseAt : GoodIn wsX4_run wsX4_houseAt := goodIn_ca (goodIn_r _ [7, 8, 9, 10, 95, 96, 97] (by decide +kernel) (by decide +kernel)) (goodIn_sub (fun _ h => List.mem_cons_of_mem _ (List.mem_append_left _ (List.mem_append_left _ (List.mem_append_right _ h)))) (by decide +kernel))
set_option maxRecDepth 20000 in
theorem gX4_run_X4_houseAt : GoodIn wsX4_run (wsV RX4 32 RX4 yX4_houseAt wsX4_houseAt) := goodIn_app (goodIn_of _ (by decide +kernel)) ggX4_run_X4_houseAt
set_option maxRecDepth 20000 in
theorem ggX4_run_X4_refuseIfNoTime : GoodIn wsX4_run wsX4_refuseIfNoTime := goodIn_ca (goodIn_r _ [13, 14, 15, 16, 17, 6, 18, 19, 20, 21] (by decide +kernel) (by decide +kernel)) (goodIn_sub (fun _ h => List.mem_cons_of_mem _ (List.mem_append_left _ (List.mem_append_right _ h))) (by decide +kernel))
set_option maxRecDepth 20000 in
theorem gX4_run_X4_refuseIfNoTime : GoodIn wsX4_run (va_wsS RX4 93 yX4_refuseIfNoTime wsX4_refuseIfNoTime) := goodIn_app (goodIn_of _ (by decide +kernel)) ggX4_run_X4_refuseIfNoTime
set_option maxRecDepth 20000 in
theorem ggX4_run_X4_waitingAheadOf : GoodIn wsX4_run wsX4_waitingAheadOf := goodIn_ca (goodIn_r _ [25, 26, 27, 28, 29, 30, 31, 32, 33, 34, 35, 36, 37, 38, 39, 40, 41, 90, 91, 92, 93, 94, 95, 96, 97, 98, 99, 100, 101, 102, 103, 104] (by decide +kernel) (by decide +kernel)) (goodIn_sub (fun _ h => List.mem_cons_of_mem _ (List.mem_append_right _ h)) (by decide +kernel))
set_option maxRecDepth 20000 in
theorem gX4_run_X4_waitingAheadOf : GoodIn wsX4_run (wsV RX4 89 RX4 yX4_waitingAheadOf wsX4_waitingAheadOf) := goodIn_app (goodIn_of _ (by decide +kernel)) ggX4_run_X4_waitingAheadOf
set_option maxRecDepth 20000 in
theorem ggX4_run_X4_letFirstCome : GoodIn wsX4_run wsX4_letFirstCome := goodIn_ca (goodIn_r _ [45, 26, 46, 47, 48, 30, 49, 37, 32, 50, 51, 52, 53, 38, 39, 40, 41, 54, 55, 56, 57, 58, 59, 60, 61, 33, 34, 35, 36, 62, 63, 64, 65, 66, 67, 68, 69, 70, 71, 72, 73, 74, 75, 76, 77, 78, 79, 80, 81, 28, 29, 31, 82, 83, 84, 85, 86, 87, 88, 89, 90, 91, 92, 93, 94, 95, 96, 97, 98, 99, 100, 101, 102, 103, 104, 105, 106] (by decide +kernel) (by decide +kernel)) (goodIn_sub (fun _ h => List.mem_cons_of_mem _ (List.mem_append_right _ h)) (by decide +kernel))
set_option maxRecDepth 20000 in
theorem gX4_run_X4_letFirstCome : GoodIn wsX4_run (wsV RX4 135 RX4 yX4_letFirstCome wsX4_letFirstCome) := goodIn_app (goodIn_of _ (by decide +kernel)) ggX4_run_X4_letFirstCome
theorem dX4_run_0 : decode cX4_run 0 = .ok (.aload_n 0, 1) := by decide +kernel
theorem dX4_run_1 : decode cX4_run 1 = .ok (.iload_n 1, 1) := by decide +kernel
theorem dX4_run_2 : decode cX4_run 2 = .ok (.invokevirtual 32, 3) := by decide +kernel
theorem dX4_run_5 : decode cX4_run 5 = .ok (.astore_n 3, 1) := by decide +kernel
theorem dX4_run_6 : decode cX4_run 6 = .ok (.iload_n 2, 1) := by decide +kernel
theorem dX4_run_7 : decode cX4_run 7 = .ok (.invokestatic 93, 3) := by decide +kernel
theorem dX4_run_10 : decode cX4_run 10 = .ok (.iload_n 2, 1) := by decide +kernel
theorem dX4_run_11 : decode cX4_run 11 = .ok (.aload_n 3, 1) := by decide +kernel
theorem dX4_run_12 : decode cX4_run 12 = .ok (.getfield 101, 3) := by decide +kernel
theorem dX4_run_15 : decode cX4_run 15 = .ok (.if_icmp .ge 13, 3) := by decide +kernel
theorem dX4_run_18 : decode cX4_run 18 = .ok (.new 105, 3) := by decide +kernel
theorem dX4_run_21 : decode cX4_run 21 = .ok (.dup, 1) := by decide +kernel
theorem dX4_run_22 : decode cX4_run 22 = .ok (.ldc 107, 2) := by decide +kernel
theorem dX4_run_24 : decode cX4_run 24 = .ok (.invokespecial 109, 3) := by decide +kernel
theorem dX4_run_27 : decode cX4_run 27 = .ok (.athrow, 1) := by decide +kernel
theorem dX4_run_28 : decode cX4_run 28 = .ok (.aload_n 0, 1) := by decide +kernel
theorem dX4_run_29 : decode cX4_run 29 = .ok (.aload_n 3, 1) := by decide +kernel
theorem dX4_run_30 : decode cX4_run 30 = .ok (.iload_n 2, 1) := by decide +kernel
theorem dX4_run_31 : decode cX4_run 31 = .ok (.iconst 1, 1) := by decide +kernel
theorem dX4_run_32 : decode cX4_run 32 = .ok (.iadd, 1) := by decide +kernel
theorem dX4_run_33 : decode cX4_run 33 = .ok (.invokevirtual 89, 3) := by decide +kernel
theorem dX4_run_36 : decode cX4_run 36 = .ok (.istore 4, 2) := by decide +kernel
theorem dX4_run_38 : decode cX4_run 38 = .ok (.iconst 0, 1) := by decide +kernel
theorem dX4_run_39 : decode cX4_run 39 = .ok (.istore 5, 2) := by decide +kernel
theorem dX4_run_41 : decode cX4_run 41 = .ok (.iload 5, 2) := by decide +kernel
theorem dX4_run_43 : decode cX4_run 43 = .ok (.iload 4, 2) := by decide +kernel
theorem dX4_run_45 : decode cX4_run 45 = .ok (.if_icmp .ge 15, 3) := by decide +kernel
theorem dX4_run_48 : decode cX4_run 48 = .ok (.aload_n 0, 1) := by decide +kernel
theorem dX4_run_49 : decode cX4_run 49 = .ok (.aload_n 3, 1) := by decide +kernel
theorem dX4_run_50 : decode cX4_run 50 = .ok (.invokevirtual 135, 3) := by decide +kernel
theorem dX4_run_53 : decode cX4_run 53 = .ok (.pop, 1) := by decide +kernel
theorem dX4_run_54 : decode cX4_run 54 = .ok (.iinc 5 1, 3) := by decide +kernel
theorem dX4_run_57 : decode cX4_run 57 = .ok (.goto (-16), 3) := by decide +kernel
theorem dX4_run_60 : decode cX4_run 60 = .ok (.aload_n 3, 1) := by decide +kernel
theorem dX4_run_61 : decode cX4_run 61 = .ok (.iload_n 2, 1) := by decide +kernel
theorem dX4_run_62 : decode cX4_run 62 = .ok (.putfield 101, 3) := by decide +kernel
theorem dX4_run_65 : decode cX4_run 65 = .ok (.iload 4, 2) := by decide +kernel
theorem dX4_run_67 : decode cX4_run 67 = .ok (.ireturn, 1) := by decide +kernel
set_option maxRecDepth 20000 in
theorem ggX4_back_X4_houseAt : GoodIn wsX4_back wsX4_houseAt := goodIn_ca (goodIn_r _ [7, 8, 9, 10, 99, 100, 101] (by decide +kernel) (by decide +kernel)) (goodIn_sub (fun _ h => List.mem_cons_of_mem _ (List.mem_append_left _ (List.mem_append_left _ (List.mem_append_right _ h)))) (by decide +kernel))
set_option maxRecDepth 20000 in
theorem gX4_back_X4_houseAt : GoodIn wsX4_back (wsV RX4 32 RX4 yX4_houseAt wsX4_houseAt) := goodIn_app (goodIn_of _ (by decide +kernel)) ggX4_back_X4_houseAt
set_option maxRecDepth 20000 in
theorem ggX4_back_X4_refuseIfNoTime : GoodIn wsX4_back wsX4_refuseIfNoTime := goodIn_ca (goodIn_r _ [13, 14, 15, 16, 17, 6, 18, 19, 20, 21] (by decide +kernel) (by decide +kernel)) (goodIn_sub (fun _ h => List.mem_cons_of_mem _ (List.mem_append_left _ (List.mem_append_right _ h))) (by decide +kernel))
set_option maxRecDepth 20000 in
theorem gX4_back_X4_refuseIfNoTime : GoodIn wsX4_back (va_wsS RX4 93 yX4_refuseIfNoTime wsX4_refuseIfNoTime) := goodIn_app (goodIn_of _ (by decide +kernel)) ggX4_back_X4_refuseIfNoTime
set_option maxRecDepth 20000 in
theorem ggX4_back_X4_cameBehind : GoodIn wsX4_back wsX4_cameBehind := goodIn_ca (goodIn_r _ [25, 26, 27, 28, 29, 30, 31, 32, 33, 34, 35, 36, 37, 38, 39, 40, 41, 94, 95, 96, 97, 98, 99, 100, 101, 102, 103, 104, 105, 106, 107, 108] (by decide +kernel) (by decide +kernel)) (goodIn_sub (fun _ h => List.mem_cons_of_mem _ (List.mem_append_right _ h)) (by decide +kernel))
set_option maxRecDepth 20000 in
theorem gX4_back_X4_cameBehind : GoodIn wsX4_back (wsV RX4 141 RX4 yX4_cameBehind wsX4_cameBehind) := goodIn_app (goodIn_of _ (by decide +kernel)) ggX4_back_X4_cameBehind
set_option maxRecDepth 20000 in
theorem ggX4_back_X3_size : GoodIn wsX4_back wsX3_size := goodIn_r _ [31, 32, 107, 108] (by decide +kernel) (by decide +kernel)
set_option maxRecDepth 20000 in
theorem gX4_back_X3_size : GoodIn wsX4_back (wsV RX4 132 RX3 yX3_size wsX3_size) := goodIn_app (goodIn_of _ (by decide +kernel)) ggX4_back_X3_size
set_option maxRecDepth 20000 in
theorem ggX4_back_X4_bringLastBack : GoodIn wsX4_back wsX4_bringLastBack := goodIn_ca (goodIn_r _ [45, 26, 27, 28, 29, 30, 31, 32, 46, 47, 48, 49, 37, 50, 51, 52, 53, 38, 39, 40, 41, 33, 34, 35, 36, 54, 55, 56, 57, 58, 59, 60, 61, 62, 63, 64, 65, 66, 67, 68, 69, 70, 71, 72, 73, 74, 75, 76, 77, 78, 79, 80, 81, 82, 83, 84, 85, 86, 6, 87, 88, 89, 90, 91, 92, 93, 94, 95, 96, 97, 98, 99, 100, 101, 102, 103, 104, 105, 106, 107, 108, 109, 110] (by decide +kernel) (by decide +kernel)) (goodIn_sub (fun _ h => List.mem_cons_of_mem _ (List.mem_append_right _ h)) (by decide +kernel))
set_option maxRecDepth 20000 in
theorem gX4_back_X4_bringLastBack : GoodIn wsX4_back (wsV RX4 146 RX4 yX4_bringLastBack wsX4_bringLastBack) := goodIn_app (goodIn_of _ (by decide +kernel)) ggX4_back_X4_bringLastBack
theorem dX4_back_0 : decode cX4_back 0 = .ok (.aload_n 0, 1) := by decide +kernel
theorem dX4_back_1 : decode cX4_back 1 = .ok (.iload_n 1, 1) := by decide +kernel
theorem dX4_back_2 : decode cX4_back 2 = .ok (.invokevirtual 32, 3) := by decide +kernel
theorem dX4_back_5 : decode cX4_back 5 = .ok (.astore_n 3, 1) := by decide +kernel
theorem dX4_back_6 : decode cX4_back 6 = .ok (.iload_n 2, 1) := by decide +kernel
theorem dX4_back_7 : decode cX4_back 7 = .ok (.invokestatic 93, 3) := by decide +kernel
theorem dX4_back_10 : decode cX4_back 10 = .ok (.iload_n 2, 1) := by decide +kernel
theorem dX4_back_11 : decode cX4_back 11 = .ok (.aload_n 3, 1) := by decide +kernel
theorem dX4_back_12 : decode cX4_back 12 = .ok (.getfield 101, 3) := by decide +kernel
theorem dX4_back_15 : decode cX4_back 15 = .ok (.if_icmp .le 13, 3) := by decide +kernel
theorem dX4_back_18 : decode cX4_back 18 = .ok (.new 105, 3) := by decide +kernel
theorem dX4_back_21 : decode cX4_back 21 = .ok (.dup, 1) := by decide +kernel
theorem dX4_back_22 : decode cX4_back 22 = .ok (.ldc 139, 2) := by decide +kernel
theorem dX4_back_24 : decode cX4_back 24 = .ok (.invokespecial 109, 3) := by decide +kernel
theorem dX4_back_27 : decode cX4_back 27 = .ok (.athrow, 1) := by decide +kernel
theorem dX4_back_28 : decode cX4_back 28 = .ok (.aload_n 0, 1) := by decide +kernel
theorem dX4_back_29 : decode cX4_back 29 = .ok (.aload_n 3, 1) := by decide +kernel
theorem dX4_back_30 : decode cX4_back 30 = .ok (.iload_n 2, 1) := by decide +kernel
theorem dX4_back_31 : decode cX4_back 31 = .ok (.invokevirtual 141, 3) := by decide +kernel
theorem dX4_back_34 : decode cX4_back 34 = .ok (.istore 4, 2) := by decide +kernel
theorem dX4_back_36 : decode cX4_back 36 = .ok (.aload_n 3, 1) := by decide +kernel
theorem dX4_back_37 : decode cX4_back 37 = .ok (.getfield 71, 3) := by decide +kernel
theorem dX4_back_40 : decode cX4_back 40 = .ok (.invokevirtual 132, 3) := by decide +kernel
theorem dX4_back_43 : decode cX4_back 43 = .ok (.iload 4, 2) := by decide +kernel
theorem dX4_back_45 : decode cX4_back 45 = .ok (.iadd, 1) := by decide +kernel
theorem dX4_back_46 : decode cX4_back 46 = .ok (.bipush 48, 2) := by decide +kernel
theorem dX4_back_48 : decode cX4_back 48 = .ok (.if_icmp .le 13, 3) := by decide +kernel
theorem dX4_back_51 : decode cX4_back 51 = .ok (.new 105, 3) := by decide +kernel
theorem dX4_back_54 : decode cX4_back 54 = .ok (.dup, 1) := by decide +kernel
theorem dX4_back_55 : decode cX4_back 55 = .ok (.ldc 144, 2) := by decide +kernel
theorem dX4_back_57 : decode cX4_back 57 = .ok (.invokespecial 109, 3) := by decide +kernel
theorem dX4_back_60 : decode cX4_back 60 = .ok (.athrow, 1) := by decide +kernel
theorem dX4_back_61 : decode cX4_back 61 = .ok (.iconst 0, 1) := by decide +kernel
theorem dX4_back_62 : decode cX4_back 62 = .ok (.istore 5, 2) := by decide +kernel
theorem dX4_back_64 : decode cX4_back 64 = .ok (.iload 5, 2) := by decide +kernel
theorem dX4_back_66 : decode cX4_back 66 = .ok (.iload 4, 2) := by decide +kernel
theorem dX4_back_68 : decode cX4_back 68 = .ok (.if_icmp .ge 14, 3) := by decide +kernel
theorem dX4_back_71 : decode cX4_back 71 = .ok (.aload_n 0, 1) := by decide +kernel
theorem dX4_back_72 : decode cX4_back 72 = .ok (.aload_n 3, 1) := by decide +kernel
theorem dX4_back_73 : decode cX4_back 73 = .ok (.invokevirtual 146, 3) := by decide +kernel
theorem dX4_back_76 : decode cX4_back 76 = .ok (.iinc 5 1, 3) := by decide +kernel
theorem dX4_back_79 : decode cX4_back 79 = .ok (.goto (-15), 3) := by decide +kernel
theorem dX4_back_82 : decode cX4_back 82 = .ok (.aload_n 3, 1) := by decide +kernel
theorem dX4_back_83 : decode cX4_back 83 = .ok (.iload_n 2, 1) := by decide +kernel
theorem dX4_back_84 : decode cX4_back 84 = .ok (.putfield 101, 3) := by decide +kernel
theorem dX4_back_87 : decode cX4_back 87 = .ok (.iload 4, 2) := by decide +kernel
theorem dX4_back_89 : decode cX4_back 89 = .ok (.ireturn, 1) := by decide +kernel
set_option maxRecDepth 20000 in
theorem ggX4_clock_X4_houseAt : GoodIn wsX4_clock wsX4_houseAt := goodIn_ca (goodIn_r _ [5, 6, 7, 8, 14, 15, 16] (by decide +kernel) (by decide +kernel)) (goodIn_sub (fun _ h => List.mem_cons_of_mem _ (List.mem_append_right _ h)) (by decide +kernel))
set_option maxRecDepth 20000 in
theorem gX4_clock_X4_houseAt : GoodIn wsX4_clock (wsV RX4 32 RX4 yX4_houseAt wsX4_houseAt) := goodIn_app (goodIn_of _ (by decide +kernel)) ggX4_clock_X4_houseAt
theorem dX4_clock_0 : decode cX4_clock 0 = .ok (.aload_n 0, 1) := by decide +kernel
theorem dX4_clock_1 : decode cX4_clock 1 = .ok (.iload_n 1, 1) := by decide +kernel
theorem dX4_clock_2 : decode cX4_clock 2 = .ok (.invokevirtual 32, 3) := by decide +kernel
theorem dX4_clock_5 : decode cX4_clock 5 = .ok (.getfield 101, 3) := by decide +kernel
theorem dX4_clock_8 : decode cX4_clock 8 = .ok (.ireturn, 1) := by decide +kernel
set_option maxRecDepth 20000 in
theorem ggX4_waiting_X4_houseAt : GoodIn wsX4_waiting wsX4_houseAt := goodIn_ca (goodIn_r _ [5, 6, 7, 8, 20, 21, 22] (by decide +kernel) (by decide +kernel)) (goodIn_sub (fun _ h => List.mem_cons_of_mem _ (List.mem_append_right _ h)) (by decide +kernel))
set_option maxRecDepth 20000 in
theorem gX4_waiting_X4_houseAt : GoodIn wsX4_waiting (wsV RX4 32 RX4 yX4_houseAt wsX4_houseAt) := goodIn_app (goodIn_of _ (by decide +kernel)) ggX4_waiting_X4_houseAt
set_option maxRecDepth 20000 in
theorem ggX4_waiting_X3_size : GoodIn wsX4_waiting wsX3_size := goodIn_r _ [13, 14, 23, 24] (by decide +kernel) (by decide +kernel)
set_option maxRecDepth 20000 in
theorem gX4_waiting_X3_size : GoodIn wsX4_waiting (wsV RX4 132 RX3 yX3_size wsX3_size) := goodIn_app (goodIn_of _ (by decide +kernel)) ggX4_waiting_X3_size
theorem dX4_waiting_0 : decode cX4_waiting 0 = .ok (.aload_n 0, 1) := by decide +kernel
theorem dX4_waiting_1 : decode cX4_waiting 1 = .ok (.iload_n 1, 1) := by decide +kernel
theorem dX4_waiting_2 : decode cX4_waiting 2 = .ok (.invokevirtual 32, 3) := by decide +kernel
theorem dX4_waiting_5 : decode cX4_waiting 5 = .ok (.getfield 71, 3) := by decide +kernel
theorem dX4_waiting_8 : decode cX4_waiting 8 = .ok (.invokevirtual 132, 3) := by decide +kernel
theorem dX4_waiting_11 : decode cX4_waiting 11 = .ok (.ireturn, 1) := by decide +kernel
set_option maxRecDepth 20000 in
theorem ggX4_came_X4_houseAt : GoodIn wsX4_came wsX4_houseAt := goodIn_ca (goodIn_r _ [5, 6, 7, 8, 20, 21, 22] (by decide +kernel) (by decide +kernel)) (goodIn_sub (fun _ h => List.mem_cons_of_mem _ (List.mem_append_right _ h)) (by decide +kernel))
set_option maxRecDepth 20000 in
theorem gX4_came_X4_houseAt : GoodIn wsX4_came (wsV RX4 32 RX4 yX4_houseAt wsX4_houseAt) := goodIn_app (goodIn_of _ (by decide +kernel)) ggX4_came_X4_houseAt
set_option maxRecDepth 20000 in
theorem ggX4_came_X3_size : GoodIn wsX4_came wsX3_size := goodIn_r _ [13, 14, 23, 24] (by decide +kernel) (by decide +kernel)
set_option maxRecDepth 20000 in
theorem gX4_came_X3_size : GoodIn wsX4_came (wsV RX4 132 RX3 yX3_size wsX3_size) := goodIn_app (goodIn_of _ (by decide +kernel)) ggX4_came_X3_size
theorem dX4_came_0 : decode cX4_came 0 = .ok (.aload_n 0, 1) := by decide +kernel
theorem dX4_came_1 : decode cX4_came 1 = .ok (.iload_n 1, 1) := by decide +kernel
theorem dX4_came_2 : decode cX4_came 2 = .ok (.invokevirtual 32, 3) := by decide +kernel
theorem dX4_came_5 : decode cX4_came 5 = .ok (.getfield 150, 3) := by decide +kernel
theorem dX4_came_8 : decode cX4_came 8 = .ok (.invokevirtual 132, 3) := by decide +kernel
theorem dX4_came_11 : decode cX4_came 11 = .ok (.ireturn, 1) := by decide +kernel
set_option maxRecDepth 20000 in
theorem ggX4_waits_X4_houseAt : GoodIn wsX4_waits wsX4_houseAt := goodIn_ca (goodIn_r _ [5, 6, 7, 8, 31, 32, 33] (by decide +kernel) (by decide +kernel)) (goodIn_sub (fun _ h => List.mem_cons_of_mem _ (List.mem_append_left _ (List.mem_append_left _ (List.mem_append_right _ h)))) (by decide +kernel))
set_option maxRecDepth 20000 in
theorem gX4_waits_X4_houseAt : GoodIn wsX4_waits (wsV RX4 32 RX4 yX4_houseAt wsX4_houseAt) := goodIn_app (goodIn_of _ (by decide +kernel)) ggX4_waits_X4_houseAt
set_option maxRecDepth 20000 in
theorem ggX4_waits_X4_itemAt : GoodIn wsX4_waits wsX4_itemAt := goodIn_ca (goodIn_ca (goodIn_r _ [11, 12, 13, 14, 15, 16, 17, 18, 19, 20, 21, 22, 23, 24, 25, 34, 35] (by decide +kernel) (by decide +kernel)) (goodIn_sub (fun _ h => List.mem_cons_of_mem _ (List.mem_append_left _ (List.mem_append_right _ h))) (by decide +kernel))) (goodIn_sub (fun _ h => List.mem_cons_of_mem _ (List.mem_append_right _ h)) (by decide +kernel))
set_option maxRecDepth 20000 in
theorem gX4_waits_X4_itemAt : GoodIn wsX4_waits (va_wsS RX4 153 yX4_itemAt wsX4_itemAt) := goodIn_app (goodIn_of _ (by decide +kernel)) ggX4_waits_X4_itemAt
theorem dX4_waits_0 : decode cX4_waits 0 = .ok (.aload_n 0, 1) := by decide +kernel
theorem dX4_waits_1 : decode cX4_waits 1 = .ok (.iload_n 1, 1) := by decide +kernel
theorem dX4_waits_2 : decode cX4_waits 2 = .ok (.invokevirtual 32, 3) := by decide +kernel
theorem dX4_waits_5 : decode cX4_waits 5 = .ok (.getfield 71, 3) := by decide +kernel
theorem dX4_waits_8 : decode cX4_waits 8 = .ok (.iload_n 2, 1) := by decide +kernel
theorem dX4_waits_9 : decode cX4_waits 9 = .ok (.invokestatic 153, 3) := by decide +kernel
theorem dX4_waits_12 : decode cX4_waits 12 = .ok (.ireturn, 1) := by decide +kernel
set_option maxRecDepth 20000 in
theorem ggX4_cameAt_X4_houseAt : GoodIn wsX4_cameAt wsX4_houseAt := goodIn_ca (goodIn_r _ [5, 6, 7, 8, 31, 32, 33] (by decide +kernel) (by decide +kernel)) (goodIn_sub (fun _ h => List.mem_cons_of_mem _ (List.mem_append_left _ (List.mem_append_left _ (List.mem_append_right _ h)))) (by decide +kernel))
set_option maxRecDepth 20000 in
theorem gX4_cameAt_X4_houseAt : GoodIn wsX4_cameAt (wsV RX4 32 RX4 yX4_houseAt wsX4_houseAt) := goodIn_app (goodIn_of _ (by decide +kernel)) ggX4_cameAt_X4_houseAt
set_option maxRecDepth 20000 in
theorem ggX4_cameAt_X4_itemAt : GoodIn wsX4_cameAt wsX4_itemAt := goodIn_ca (goodIn_ca (goodIn_r _ [11, 12, 13, 14, 15, 16, 17, 18, 19, 20, 21, 22, 23, 24, 25, 34, 35] (by decide +kernel) (by decide +kernel)) (goodIn_sub (fun _ h => List.mem_cons_of_mem _ (List.mem_append_left _ (List.mem_append_right _ h))) (by decide +kernel))) (goodIn_sub (fun _ h => List.mem_cons_of_mem _ (List.mem_append_right _ h)) (by decide +kernel))
set_option maxRecDepth 20000 in
theorem gX4_cameAt_X4_itemAt : GoodIn wsX4_cameAt (va_wsS RX4 153 yX4_itemAt wsX4_itemAt) := goodIn_app (goodIn_of _ (by decide +kernel)) ggX4_cameAt_X4_itemAt
theorem dX4_cameAt_0 : decode cX4_cameAt 0 = .ok (.aload_n 0, 1) := by decide +kernel
theorem dX4_cameAt_1 : decode cX4_cameAt 1 = .ok (.iload_n 1, 1) := by decide +kernel
theorem dX4_cameAt_2 : decode cX4_cameAt 2 = .ok (.invokevirtual 32, 3) := by decide +kernel
theorem dX4_cameAt_5 : decode cX4_cameAt 5 = .ok (.getfield 150, 3) := by decide +kernel
theorem dX4_cameAt_8 : decode cX4_cameAt 8 = .ok (.iload_n 2, 1) := by decide +kernel
theorem dX4_cameAt_9 : decode cX4_cameAt 9 = .ok (.invokestatic 153, 3) := by decide +kernel
theorem dX4_cameAt_12 : decode cX4_cameAt 12 = .ok (.ireturn, 1) := by decide +kernel
set_option maxRecDepth 20000 in
theorem ggX4_nextTime_X4_houseAt : GoodIn wsX4_nextTime wsX4_houseAt := goodIn_ca (goodIn_r _ [8, 9, 10, 11, 36, 37, 38] (by decide +kernel) (by decide +kernel)) (goodIn_sub (fun _ h => List.mem_cons_of_mem _ (List.mem_append_left _ (List.mem_append_right _ h))) (by decide +kernel))
set_option maxRecDepth 20000 in
theorem gX4_nextTime_X4_houseAt : GoodIn wsX4_nextTime (wsV RX4 32 RX4 yX4_houseAt wsX4_houseAt) := goodIn_app (goodIn_of _ (by decide +kernel)) ggX4_nextTime_X4_houseAt
set_option maxRecDepth 20000 in
theorem ggX4_nextTime_X4_waitingAheadOf : GoodIn wsX4_nextTime wsX4_waitingAheadOf := goodIn_ca (goodIn_r _ [15, 3, 16, 17, 18, 19, 20, 21, 22, 23, 24, 25, 26, 27, 28, 29, 30, 31, 32, 33, 34, 35, 36, 37, 38, 39, 40, 41, 42, 43, 44, 45] (by decide +kernel) (by decide +kernel)) (goodIn_sub (fun _ h => List.mem_cons_of_mem _ (List.mem_append_right _ h)) (by decide +kernel))
set_option maxRecDepth 20000 in
theorem gX4_nextTime_X4_waitingAheadOf : GoodIn wsX4_nextTime (wsV RX4 89 RX4 yX4_waitingAheadOf wsX4_waitingAheadOf) := goodIn_app (goodIn_of _ (by decide +kernel)) ggX4_nextTime_X4_waitingAheadOf
set_option maxRecDepth 20000 in
theorem ggX4_nextTime_X3_size : GoodIn wsX4_nextTime wsX3_size := goodIn_r _ [20, 21, 44, 45] (by decide +kernel) (by decide +kernel)
set_option maxRecDepth 20000 in
theorem gX4_nextTime_X3_size : GoodIn wsX4_nextTime (wsV RX4 132 RX3 yX3_size wsX3_size) := goodIn_app (goodIn_of _ (by decide +kernel)) ggX4_nextTime_X3_size
set_option maxRecDepth 20000 in
theorem ggX4_nextTime_X3_get : GoodIn wsX4_nextTime wsX3_get := goodIn_ca (goodIn_r _ [25, 26, 27, 28, 29, 19, 30, 21, 44, 45] (by decide +kernel) (by decide +kernel)) (goodIn_sub (fun _ h => List.mem_cons_of_mem _ (List.mem_append_right _ h)) (by decide +kernel))
set_option maxRecDepth 20000 in
theorem gX4_nextTime_X3_get : GoodIn wsX4_nextTime (wsV RX4 113 RX3 yX3_get wsX3_get) := goodIn_app (goodIn_of _ (by decide +kernel)) ggX4_nextTime_X3_get
theorem dX4_nextTime_0 : decode cX4_nextTime 0 = .ok (.aload_n 0, 1) := by decide +kernel
theorem dX4_nextTime_1 : decode cX4_nextTime 1 = .ok (.iload_n 1, 1) := by decide +kernel
theorem dX4_nextTime_2 : decode cX4_nextTime 2 = .ok (.invokevirtual 32, 3) := by decide +kernel
theorem dX4_nextTime_5 : decode cX4_nextTime 5 = .ok (.astore_n 3, 1) := by decide +kernel
theorem dX4_nextTime_6 : decode cX4_nextTime 6 = .ok (.aload_n 0, 1) := by decide +kernel
theorem dX4_nextTime_7 : decode cX4_nextTime 7 = .ok (.aload_n 3, 1) := by decide +kernel
theorem dX4_nextTime_8 : decode cX4_nextTime 8 = .ok (.iload_n 2, 1) := by decide +kernel
theorem dX4_nextTime_9 : decode cX4_nextTime 9 = .ok (.invokevirtual 89, 3) := by decide +kernel
theorem dX4_nextTime_12 : decode cX4_nextTime 12 = .ok (.istore 4, 2) := by decide +kernel
theorem dX4_nextTime_14 : decode cX4_nextTime 14 = .ok (.iload 4, 2) := by decide +kernel
theorem dX4_nextTime_16 : decode cX4_nextTime 16 = .ok (.aload_n 3, 1) := by decide +kernel
theorem dX4_nextTime_17 : decode cX4_nextTime 17 = .ok (.getfield 71, 3) := by decide +kernel
theorem dX4_nextTime_20 : decode cX4_nextTime 20 = .ok (.invokevirtual 132, 3) := by decide +kernel
theorem dX4_nextTime_23 : decode cX4_nextTime 23 = .ok (.if_icmp .lt 13, 3) := by decide +kernel
theorem dX4_nextTime_26 : decode cX4_nextTime 26 = .ok (.new 96, 3) := by decide +kernel
theorem dX4_nextTime_29 : decode cX4_nextTime 29 = .ok (.dup, 1) := by decide +kernel
theorem dX4_nextTime_30 : decode cX4_nextTime 30 = .ok (.ldc 157, 2) := by decide +kernel
theorem dX4_nextTime_32 : decode cX4_nextTime 32 = .ok (.invokespecial 100, 3) := by decide +kernel
theorem dX4_nextTime_35 : decode cX4_nextTime 35 = .ok (.athrow, 1) := by decide +kernel
theorem dX4_nextTime_36 : decode cX4_nextTime 36 = .ok (.aload_n 0, 1) := by decide +kernel
theorem dX4_nextTime_37 : decode cX4_nextTime 37 = .ok (.getfield 10, 3) := by decide +kernel
theorem dX4_nextTime_40 : decode cX4_nextTime 40 = .ok (.getfield 110, 3) := by decide +kernel
theorem dX4_nextTime_43 : decode cX4_nextTime 43 = .ok (.aload_n 3, 1) := by decide +kernel
theorem dX4_nextTime_44 : decode cX4_nextTime 44 = .ok (.getfield 71, 3) := by decide +kernel
theorem dX4_nextTime_47 : decode cX4_nextTime 47 = .ok (.iload 4, 2) := by decide +kernel
theorem dX4_nextTime_49 : decode cX4_nextTime 49 = .ok (.invokevirtual 113, 3) := by decide +kernel
theorem dX4_nextTime_52 : decode cX4_nextTime 52 = .ok (.invokevirtual 113, 3) := by decide +kernel
theorem dX4_nextTime_55 : decode cX4_nextTime 55 = .ok (.ireturn, 1) := by decide +kernel
set_option maxRecDepth 20000 in
theorem ggX4_about_X2_size : GoodIn wsX4_about wsX2_size := goodIn_r _ [10, 11, 12, 13, 14, 15, 16, 17, 34, 35, 36, 37, 38, 39, 40] (by decide +kernel) (by decide +kernel)
set_option maxRecDepth 20000 in
theorem gX4_about_X2_size : GoodIn wsX4_about (wsV RX4 67 RX2 yX2_size wsX2_size) := goodIn_app (goodIn_of _ (by decide +kernel)) ggX4_about_X2_size
set_option maxRecDepth 20000 in
theorem ggX4_about_X4_isIn : GoodIn wsX4_about wsX4_isIn := goodIn_r _ [21] (by decide +kernel) (by decide +kernel)
set_option maxRecDepth 20000 in
theorem gX4_about_X4_isIn : GoodIn wsX4_about (va_wsS RX4 61 yX4_isIn wsX4_isIn) := goodIn_app (goodIn_of _ (by decide +kernel)) ggX4_about_X4_isIn
set_option maxRecDepth 20000 in
theorem ggX4_about_X3_get : GoodIn wsX4_about wsX3_get := goodIn_ca (goodIn_r _ [25, 26, 27, 28, 29, 15, 30, 17, 39, 40] (by decide +kernel) (by decide +kernel)) (goodIn_sub (fun _ h => List.mem_cons_of_mem _ (List.mem_append_right _ h)) (by decide +kernel))
set_option maxRecDepth 20000 in
theorem gX4_about_X3_get : GoodIn wsX4_about (wsV RX4 113 RX3 yX3_get wsX3_get) := goodIn_app (goodIn_of _ (by decide +kernel)) ggX4_about_X3_get
theorem dX4_about_0 : decode cX4_about 0 = .ok (.iload_n 1, 1) := by decide +kernel
theorem dX4_about_1 : decode cX4_about 1 = .ok (.iconst 0, 1) := by decide +kernel
theorem dX4_about_2 : decode cX4_about 2 = .ok (.aload_n 0, 1) := by decide +kernel
theorem dX4_about_3 : decode cX4_about 3 = .ok (.getfield 10, 3) := by decide +kernel
theorem dX4_about_6 : decode cX4_about 6 = .ok (.invokevirtual 67, 3) := by decide +kernel
theorem dX4_about_9 : decode cX4_about 9 = .ok (.iconst 1, 1) := by decide +kernel
theorem dX4_about_10 : decode cX4_about 10 = .ok (.isub, 1) := by decide +kernel
theorem dX4_about_11 : decode cX4_about 11 = .ok (.invokestatic 61, 3) := by decide +kernel
theorem dX4_about_14 : decode cX4_about 14 = .ok (.ifCond .ne 13, 3) := by decide +kernel
theorem dX4_about_17 : decode cX4_about 17 = .ok (.new 159, 3) := by decide +kernel
theorem dX4_about_20 : decode cX4_about 20 = .ok (.dup, 1) := by decide +kernel
theorem dX4_about_21 : decode cX4_about 21 = .ok (.ldc 161, 2) := by decide +kernel
theorem dX4_about_23 : decode cX4_about 23 = .ok (.invokespecial 163, 3) := by decide +kernel
theorem dX4_about_26 : decode cX4_about 26 = .ok (.athrow, 1) := by decide +kernel
theorem dX4_about_27 : decode cX4_about 27 = .ok (.iload_n 2, 1) := by decide +kernel
theorem dX4_about_28 : decode cX4_about 28 = .ok (.bipush 116, 2) := by decide +kernel
theorem dX4_about_30 : decode cX4_about 30 = .ok (.if_icmp .ne 16, 3) := by decide +kernel
theorem dX4_about_33 : decode cX4_about 33 = .ok (.aload_n 0, 1) := by decide +kernel
theorem dX4_about_34 : decode cX4_about 34 = .ok (.getfield 10, 3) := by decide +kernel
theorem dX4_about_37 : decode cX4_about 37 = .ok (.getfield 110, 3) := by decide +kernel
theorem dX4_about_40 : decode cX4_about 40 = .ok (.iload_n 1, 1) := by decide +kernel
theorem dX4_about_41 : decode cX4_about 41 = .ok (.invokevirtual 113, 3) := by decide +kernel
theorem dX4_about_44 : decode cX4_about 44 = .ok (.i2l, 1) := by decide +kernel
theorem dX4_about_45 : decode cX4_about 45 = .ok (.lreturn, 1) := by decide +kernel
theorem dX4_about_46 : decode cX4_about 46 = .ok (.iload_n 2, 1) := by decide +kernel
theorem dX4_about_47 : decode cX4_about 47 = .ok (.bipush 115, 2) := by decide +kernel
theorem dX4_about_49 : decode cX4_about 49 = .ok (.if_icmp .ne 16, 3) := by decide +kernel
theorem dX4_about_52 : decode cX4_about 52 = .ok (.aload_n 0, 1) := by decide +kernel
theorem dX4_about_53 : decode cX4_about 53 = .ok (.getfield 10, 3) := by decide +kernel
theorem dX4_about_56 : decode cX4_about 56 = .ok (.getfield 164, 3) := by decide +kernel
theorem dX4_about_59 : decode cX4_about 59 = .ok (.iload_n 1, 1) := by decide +kernel
theorem dX4_about_60 : decode cX4_about 60 = .ok (.invokevirtual 113, 3) := by decide +kernel
theorem dX4_about_63 : decode cX4_about 63 = .ok (.i2l, 1) := by decide +kernel
theorem dX4_about_64 : decode cX4_about 64 = .ok (.lreturn, 1) := by decide +kernel
theorem dX4_about_65 : decode cX4_about 65 = .ok (.iload_n 2, 1) := by decide +kernel
theorem dX4_about_66 : decode cX4_about 66 = .ok (.bipush 119, 2) := by decide +kernel
theorem dX4_about_68 : decode cX4_about 68 = .ok (.if_icmp .ne 16, 3) := by decide +kernel
theorem dX4_about_71 : decode cX4_about 71 = .ok (.aload_n 0, 1) := by decide +kernel
theorem dX4_about_72 : decode cX4_about 72 = .ok (.getfield 10, 3) := by decide +kernel
theorem dX4_about_75 : decode cX4_about 75 = .ok (.getfield 167, 3) := by decide +kernel
theorem dX4_about_78 : decode cX4_about 78 = .ok (.iload_n 1, 1) := by decide +kernel
theorem dX4_about_79 : decode cX4_about 79 = .ok (.invokevirtual 113, 3) := by decide +kernel
theorem dX4_about_82 : decode cX4_about 82 = .ok (.i2l, 1) := by decide +kernel
theorem dX4_about_83 : decode cX4_about 83 = .ok (.lreturn, 1) := by decide +kernel
theorem dX4_about_84 : decode cX4_about 84 = .ok (.iload_n 2, 1) := by decide +kernel
theorem dX4_about_85 : decode cX4_about 85 = .ok (.bipush 104, 2) := by decide +kernel
theorem dX4_about_87 : decode cX4_about 87 = .ok (.if_icmp .ne 16, 3) := by decide +kernel
theorem dX4_about_90 : decode cX4_about 90 = .ok (.aload_n 0, 1) := by decide +kernel
theorem dX4_about_91 : decode cX4_about 91 = .ok (.getfield 10, 3) := by decide +kernel
theorem dX4_about_94 : decode cX4_about 94 = .ok (.getfield 170, 3) := by decide +kernel
theorem dX4_about_97 : decode cX4_about 97 = .ok (.iload_n 1, 1) := by decide +kernel
theorem dX4_about_98 : decode cX4_about 98 = .ok (.invokevirtual 113, 3) := by decide +kernel
theorem dX4_about_101 : decode cX4_about 101 = .ok (.i2l, 1) := by decide +kernel
theorem dX4_about_102 : decode cX4_about 102 = .ok (.lreturn, 1) := by decide +kernel
theorem dX4_about_103 : decode cX4_about 103 = .ok (.iload_n 2, 1) := by decide +kernel
theorem dX4_about_104 : decode cX4_about 104 = .ok (.bipush 120, 2) := by decide +kernel
theorem dX4_about_106 : decode cX4_about 106 = .ok (.if_icmp .ne 16, 3) := by decide +kernel
theorem dX4_about_109 : decode cX4_about 109 = .ok (.aload_n 0, 1) := by decide +kernel
theorem dX4_about_110 : decode cX4_about 110 = .ok (.getfield 10, 3) := by decide +kernel
theorem dX4_about_113 : decode cX4_about 113 = .ok (.getfield 173, 3) := by decide +kernel
theorem dX4_about_116 : decode cX4_about 116 = .ok (.iload_n 1, 1) := by decide +kernel
theorem dX4_about_117 : decode cX4_about 117 = .ok (.invokevirtual 113, 3) := by decide +kernel
theorem dX4_about_120 : decode cX4_about 120 = .ok (.i2l, 1) := by decide +kernel
theorem dX4_about_121 : decode cX4_about 121 = .ok (.lreturn, 1) := by decide +kernel
theorem dX4_about_122 : decode cX4_about 122 = .ok (.new 46, 3) := by decide +kernel
theorem dX4_about_125 : decode cX4_about 125 = .ok (.dup, 1) := by decide +kernel
theorem dX4_about_126 : decode cX4_about 126 = .ok (.ldc 176, 2) := by decide +kernel
theorem dX4_about_128 : decode cX4_about 128 = .ok (.invokespecial 50, 3) := by decide +kernel
theorem dX4_about_131 : decode cX4_about 131 = .ok (.athrow, 1) := by decide +kernel
set_option maxRecDepth 20000 in
theorem ggX4_crowd_X4_houseAt : GoodIn wsX4_crowd wsX4_houseAt := goodIn_ca (goodIn_r _ [5, 6, 7, 8, 36, 37, 38] (by decide +kernel) (by decide +kernel)) (goodIn_sub (fun _ h => List.mem_cons_of_mem _ (List.mem_append_left _ (List.mem_append_right _ h))) (by decide +kernel))
set_option maxRecDepth 20000 in
theorem gX4_crowd_X4_houseAt : GoodIn wsX4_crowd (wsV RX4 32 RX4 yX4_houseAt wsX4_houseAt) := goodIn_app (goodIn_of _ (by decide +kernel)) ggX4_crowd_X4_houseAt
set_option maxRecDepth 20000 in
theorem ggX4_crowd_X0_at : GoodIn wsX4_crowd wsX0_at := goodIn_ca (goodIn_r _ [13, 14, 15, 16, 17, 18, 19, 20, 21, 22, 23, 24, 25, 26, 27, 28, 29, 30, 39, 40, 41, 42] (by decide +kernel) (by decide +kernel)) (goodIn_sub (fun _ h => List.mem_cons_of_mem _ (List.mem_append_right _ h)) (by decide +kernel))
set_option maxRecDepth 20000 in
theorem gX4_crowd_X0_at : GoodIn wsX4_crowd (wsV RX4 181 RX0 yX0_at wsX0_at) := goodIn_app (goodIn_of _ (by decide +kernel)) ggX4_crowd_X0_at
theorem dX4_crowd_0 : decode cX4_crowd 0 = .ok (.aload_n 0, 1) := by decide +kernel
theorem dX4_crowd_1 : decode cX4_crowd 1 = .ok (.iload_n 1, 1) := by decide +kernel
theorem dX4_crowd_2 : decode cX4_crowd 2 = .ok (.invokevirtual 32, 3) := by decide +kernel
theorem dX4_crowd_5 : decode cX4_crowd 5 = .ok (.getfield 178, 3) := by decide +kernel
theorem dX4_crowd_8 : decode cX4_crowd 8 = .ok (.iload_n 2, 1) := by decide +kernel
theorem dX4_crowd_9 : decode cX4_crowd 9 = .ok (.invokevirtual 181, 3) := by decide +kernel
theorem dX4_crowd_12 : decode cX4_crowd 12 = .ok (.ireturn, 1) := by decide +kernel
set_option maxRecDepth 20000 in
theorem ggX4_change_X4_houseAt : GoodIn wsX4_change wsX4_houseAt := goodIn_ca (goodIn_r _ [5, 6, 7, 8, 37, 38, 39] (by decide +kernel) (by decide +kernel)) (goodIn_sub (fun _ h => List.mem_cons_of_mem _ (List.mem_append_left _ (List.mem_append_right _ h))) (by decide +kernel))
set_option maxRecDepth 20000 in
theorem gX4_change_X4_houseAt : GoodIn wsX4_change (wsV RX4 32 RX4 yX4_houseAt wsX4_houseAt) := goodIn_app (goodIn_of _ (by decide +kernel)) ggX4_change_X4_houseAt
set_option maxRecDepth 20000 in
theorem ggX4_change_X0_changeAt : GoodIn wsX4_change wsX0_changeAt := goodIn_ca (goodIn_r _ [13, 14, 15, 16, 17, 18, 19, 20, 21, 22, 23, 24, 25, 26, 27, 28, 29, 30, 31, 40, 41, 42, 43] (by decide +kernel) (by decide +kernel)) (goodIn_sub (fun _ h => List.mem_cons_of_mem _ (List.mem_append_right _ h)) (by decide +kernel))
set_option maxRecDepth 20000 in
theorem gX4_change_X0_changeAt : GoodIn wsX4_change (wsV RX4 184 RX0 yX0_changeAt wsX0_changeAt) := goodIn_app (goodIn_of _ (by decide +kernel)) ggX4_change_X0_changeAt
theorem dX4_change_0 : decode cX4_change 0 = .ok (.aload_n 0, 1) := by decide +kernel
theorem dX4_change_1 : decode cX4_change 1 = .ok (.iload_n 1, 1) := by decide +kernel
theorem dX4_change_2 : decode cX4_change 2 = .ok (.invokevirtual 32, 3) := by decide +kernel
theorem dX4_change_5 : decode cX4_change 5 = .ok (.getfield 178, 3) := by decide +kernel
theorem dX4_change_8 : decode cX4_change 8 = .ok (.iload_n 2, 1) := by decide +kernel
theorem dX4_change_9 : decode cX4_change 9 = .ok (.invokevirtual 184, 3) := by decide +kernel
theorem dX4_change_12 : decode cX4_change 12 = .ok (.ireturn, 1) := by decide +kernel
set_option maxRecDepth 20000 in
theorem ggX4_greatest_X4_houseAt : GoodIn wsX4_greatest wsX4_houseAt := goodIn_ca (goodIn_r _ [5, 6, 7, 8, 40, 41, 42] (by decide +kernel) (by decide +kernel)) (goodIn_sub (fun _ h => List.mem_cons_of_mem _ (List.mem_append_left _ (List.mem_append_right _ h))) (by decide +kernel))
set_option maxRecDepth 20000 in
theorem gX4_greatest_X4_houseAt : GoodIn wsX4_greatest (wsV RX4 32 RX4 yX4_houseAt wsX4_houseAt) := goodIn_app (goodIn_of _ (by decide +kernel)) ggX4_greatest_X4_houseAt
set_option maxRecDepth 20000 in
theorem ggX4_greatest_X0_highest : GoodIn wsX4_greatest wsX0_highest := goodIn_ca (goodIn_r _ [13, 14, 15, 16, 17, 18, 19, 20, 21, 22, 23, 24, 25, 26, 27, 28, 29, 30, 31, 32, 33, 34, 43, 44, 45, 46] (by decide +kernel) (by decide +kernel)) (goodIn_sub (fun _ h => List.mem_cons_of_mem _ (List.mem_append_right _ h)) (by decide +kernel))
set_option maxRecDepth 20000 in
theorem gX4_greatest_X0_highest : GoodIn wsX4_greatest (wsV RX4 187 RX0 yX0_highest wsX0_highest) := goodIn_app (goodIn_of _ (by decide +kernel)) ggX4_greatest_X0_highest
theorem dX4_greatest_0 : decode cX4_greatest 0 = .ok (.aload_n 0, 1) := by decide +kernel
theorem dX4_greatest_1 : decode cX4_greatest 1 = .ok (.iload_n 1, 1) := by decide +kernel
theorem dX4_greatest_2 : decode cX4_greatest 2 = .ok (.invokevirtual 32, 3) := by decide +kernel
theorem dX4_greatest_5 : decode cX4_greatest 5 = .ok (.getfield 178, 3) := by decide +kernel
theorem dX4_greatest_8 : decode cX4_greatest 8 = .ok (.invokevirtual 187, 3) := by decide +kernel
theorem dX4_greatest_11 : decode cX4_greatest 11 = .ok (.ireturn, 1) := by decide +kernel
set_option maxRecDepth 20000 in
theorem ggX4_greatestFrom_X4_houseAt : GoodIn wsX4_greatestFrom wsX4_houseAt := goodIn_ca (goodIn_r _ [7, 8, 9, 10, 42, 43, 44] (by decide +kernel) (by decide +kernel)) (goodIn_sub (fun _ h => List.mem_cons_of_mem _ (List.mem_append_left _ (List.mem_append_right _ h))) (by decide +kernel))
set_option maxRecDepth 20000 in
theorem gX4_greatestFrom_X4_houseAt : GoodIn wsX4_greatestFrom (wsV RX4 32 RX4 yX4_houseAt wsX4_houseAt) := goodIn_app (goodIn_of _ (by decide +kernel)) ggX4_greatestFrom_X4_houseAt
set_option maxRecDepth 20000 in
theorem ggX4_greatestFrom_X0_isEmpty : GoodIn wsX4_greatestFrom wsX0_isEmpty := goodIn_r _ [15, 16, 17, 18, 19, 20, 21, 22, 45, 46, 47, 48] (by decide +kernel) (by decide +kernel)
set_option maxRecDepth 20000 in
theorem gX4_greatestFrom_X0_isEmpty : GoodIn wsX4_greatestFrom (wsV RX4 190 RX0 yX0_isEmpty wsX0_isEmpty) := goodIn_app (goodIn_of _ (by decide +kernel)) ggX4_greatestFrom_X0_isEmpty
set_option maxRecDepth 20000 in
theorem ggX4_greatestFrom_X0_highestFrom : GoodIn wsX4_greatestFrom wsX0_highestFrom := goodIn_ca (goodIn_r _ [26, 16, 27, 17, 18, 19, 20, 21, 22, 28, 29, 30, 31, 32, 33, 34, 35, 36, 45, 46, 47, 48] (by decide +kernel) (by decide +kernel)) (goodIn_sub (fun _ h => List.mem_cons_of_mem _ (List.mem_append_right _ h)) (by decide +kernel))
set_option maxRecDepth 20000 in
theorem gX4_greatestFrom_X0_highestFrom : GoodIn wsX4_greatestFrom (wsV RX4 196 RX0 yX0_highestFrom wsX0_highestFrom) := goodIn_app (goodIn_of _ (by decide +kernel)) ggX4_greatestFrom_X0_highestFrom
theorem dX4_greatestFrom_0 : decode cX4_greatestFrom 0 = .ok (.aload_n 0, 1) := by decide +kernel
theorem dX4_greatestFrom_1 : decode cX4_greatestFrom 1 = .ok (.iload_n 1, 1) := by decide +kernel
theorem dX4_greatestFrom_2 : decode cX4_greatestFrom 2 = .ok (.invokevirtual 32, 3) := by decide +kernel
theorem dX4_greatestFrom_5 : decode cX4_greatestFrom 5 = .ok (.getfield 178, 3) := by decide +kernel
theorem dX4_greatestFrom_8 : decode cX4_greatestFrom 8 = .ok (.astore_n 2, 1) := by decide +kernel
theorem dX4_greatestFrom_9 : decode cX4_greatestFrom 9 = .ok (.aload_n 2, 1) := by decide +kernel
theorem dX4_greatestFrom_10 : decode cX4_greatestFrom 10 = .ok (.invokevirtual 190, 3) := by decide +kernel
theorem dX4_greatestFrom_13 : decode cX4_greatestFrom 13 = .ok (.ifCond .eq 13, 3) := by decide +kernel
theorem dX4_greatestFrom_16 : decode cX4_greatestFrom 16 = .ok (.new 96, 3) := by decide +kernel
theorem dX4_greatestFrom_19 : decode cX4_greatestFrom 19 = .ok (.dup, 1) := by decide +kernel
theorem dX4_greatestFrom_20 : decode cX4_greatestFrom 20 = .ok (.ldc 194, 2) := by decide +kernel
theorem dX4_greatestFrom_22 : decode cX4_greatestFrom 22 = .ok (.invokespecial 100, 3) := by decide +kernel
theorem dX4_greatestFrom_25 : decode cX4_greatestFrom 25 = .ok (.athrow, 1) := by decide +kernel
theorem dX4_greatestFrom_26 : decode cX4_greatestFrom 26 = .ok (.aload_n 2, 1) := by decide +kernel
theorem dX4_greatestFrom_27 : decode cX4_greatestFrom 27 = .ok (.invokevirtual 196, 3) := by decide +kernel
theorem dX4_greatestFrom_30 : decode cX4_greatestFrom 30 = .ok (.ireturn, 1) := by decide +kernel
set_option maxRecDepth 20000 in
theorem ggX4_busy_X4_houseAt : GoodIn wsX4_busy wsX4_houseAt := goodIn_ca (goodIn_r _ [5, 6, 7, 8, 48, 49, 50] (by decide +kernel) (by decide +kernel)) (goodIn_sub (fun _ h => List.mem_cons_of_mem _ (List.mem_append_left _ (List.mem_append_left _ (List.mem_append_right _ h)))) (by decide +kernel))
set_option maxRecDepth 20000 in
theorem gX4_busy_X4_houseAt : GoodIn wsX4_busy (wsV RX4 32 RX4 yX4_houseAt wsX4_houseAt) := goodIn_app (goodIn_of _ (by decide +kernel)) ggX4_busy_X4_houseAt
set_option maxRecDepth 20000 in
theorem ggX4_busy_X4_refuseIfTurned : GoodIn wsX4_busy wsX4_refuseIfTurned := goodIn_ca (goodIn_r _ [11, 12, 13] (by decide +kernel) (by decide +kernel)) (goodIn_sub (fun _ h => List.mem_cons_of_mem _ (List.mem_append_left _ (List.mem_append_right _ h))) (by decide +kernel))
set_option maxRecDepth 20000 in
theorem gX4_busy_X4_refuseIfTurned : GoodIn wsX4_busy (va_wsS RX4 85 yX4_refuseIfTurned wsX4_refuseIfTurned) := goodIn_app (goodIn_of _ (by decide +kernel)) ggX4_busy_X4_refuseIfTurned
set_option maxRecDepth 20000 in
theorem ggX4_busy_X0_busyTimes : GoodIn wsX4_busy wsX0_busyTimes := goodIn_ca (goodIn_r _ [18, 19, 20, 21, 22, 23, 24, 25, 26, 27, 28, 29, 30, 31, 32, 33, 34, 35, 36, 37, 38, 39, 40, 41, 42, 51, 52, 53, 54] (by decide +kernel) (by decide +kernel)) (goodIn_sub (fun _ h => List.mem_cons_of_mem _ (List.mem_append_right _ h)) (by decide +kernel))
set_option maxRecDepth 20000 in
theorem gX4_busy_X0_busyTimes : GoodIn wsX4_busy (wsV RX4 199 RX0 yX0_busyTimes wsX0_busyTimes) := goodIn_app (goodIn_of _ (by decide +kernel)) ggX4_busy_X0_busyTimes
theorem dX4_busy_0 : decode cX4_busy 0 = .ok (.aload_n 0, 1) := by decide +kernel
theorem dX4_busy_1 : decode cX4_busy 1 = .ok (.iload_n 1, 1) := by decide +kernel
theorem dX4_busy_2 : decode cX4_busy 2 = .ok (.invokevirtual 32, 3) := by decide +kernel
theorem dX4_busy_5 : decode cX4_busy 5 = .ok (.getfield 178, 3) := by decide +kernel
theorem dX4_busy_8 : decode cX4_busy 8 = .ok (.astore 4, 2) := by decide +kernel
theorem dX4_busy_10 : decode cX4_busy 10 = .ok (.iload_n 2, 1) := by decide +kernel
theorem dX4_busy_11 : decode cX4_busy 11 = .ok (.iload_n 3, 1) := by decide +kernel
theorem dX4_busy_12 : decode cX4_busy 12 = .ok (.invokestatic 85, 3) := by decide +kernel
theorem dX4_busy_15 : decode cX4_busy 15 = .ok (.aload 4, 2) := by decide +kernel
theorem dX4_busy_17 : decode cX4_busy 17 = .ok (.iload_n 2, 1) := by decide +kernel
theorem dX4_busy_18 : decode cX4_busy 18 = .ok (.iload_n 3, 1) := by decide +kernel
theorem dX4_busy_19 : decode cX4_busy 19 = .ok (.invokevirtual 199, 3) := by decide +kernel
theorem dX4_busy_22 : decode cX4_busy 22 = .ok (.ireturn, 1) := by decide +kernel
set_option maxRecDepth 20000 in
theorem ggX4_spans_X4_houseAt : GoodIn wsX4_spans wsX4_houseAt := goodIn_ca (goodIn_r _ [5, 6, 7, 8, 36, 37, 38] (by decide +kernel) (by decide +kernel)) (goodIn_sub (fun _ h => List.mem_cons_of_mem _ (List.mem_append_left _ (List.mem_append_right _ h))) (by decide +kernel))
set_option maxRecDepth 20000 in
theorem gX4_spans_X4_houseAt : GoodIn wsX4_spans (wsV RX4 32 RX4 yX4_houseAt wsX4_houseAt) := goodIn_app (goodIn_of _ (by decide +kernel)) ggX4_spans_X4_houseAt
set_option maxRecDepth 20000 in
theorem ggX4_spans_X0_busySpans : GoodIn wsX4_spans wsX0_busySpans := goodIn_ca (goodIn_r _ [13, 14, 15, 16, 17, 18, 19, 20, 21, 22, 23, 24, 25, 26, 27, 28, 29, 30, 39, 40, 41, 42] (by decide +kernel) (by decide +kernel)) (goodIn_sub (fun _ h => List.mem_cons_of_mem _ (List.mem_append_right _ h)) (by decide +kernel))
set_option maxRecDepth 20000 in
theorem gX4_spans_X0_busySpans : GoodIn wsX4_spans (wsV RX4 203 RX0 yX0_busySpans wsX0_busySpans) := goodIn_app (goodIn_of _ (by decide +kernel)) ggX4_spans_X0_busySpans
theorem dX4_spans_0 : decode cX4_spans 0 = .ok (.aload_n 0, 1) := by decide +kernel
theorem dX4_spans_1 : decode cX4_spans 1 = .ok (.iload_n 1, 1) := by decide +kernel
theorem dX4_spans_2 : decode cX4_spans 2 = .ok (.invokevirtual 32, 3) := by decide +kernel
theorem dX4_spans_5 : decode cX4_spans 5 = .ok (.getfield 178, 3) := by decide +kernel
theorem dX4_spans_8 : decode cX4_spans 8 = .ok (.invokevirtual 203, 3) := by decide +kernel
theorem dX4_spans_11 : decode cX4_spans 11 = .ok (.ireturn, 1) := by decide +kernel
set_option maxRecDepth 20000 in
theorem ggX4_span_X4_houseAt : GoodIn wsX4_span wsX4_houseAt := goodIn_ca (goodIn_r _ [9, 10, 11, 12, 55, 56, 57] (by decide +kernel) (by decide +kernel)) (goodIn_sub (fun _ h => List.mem_cons_of_mem _ (List.mem_append_left _ (List.mem_append_right _ h))) (by decide +kernel))
set_option maxRecDepth 20000 in
theorem gX4_span_X4_houseAt : GoodIn wsX4_span (wsV RX4 32 RX4 yX4_houseAt wsX4_houseAt) := goodIn_app (goodIn_of _ (by decide +kernel)) ggX4_span_X4_houseAt
set_option maxRecDepth 20000 in
theorem ggX4_span_X0_firstChangeOf : GoodIn wsX4_span wsX0_firstChangeOf := goodIn_ca (goodIn_r _ [17, 18, 19, 20, 21, 22, 23, 24, 25, 26, 27, 28, 29, 30, 31, 32, 33, 34, 53, 54, 58, 59] (by decide +kernel) (by decide +kernel)) (goodIn_sub (fun _ h => List.mem_cons_of_mem _ (List.mem_append_right _ h)) (by decide +kernel))
set_option maxRecDepth 20000 in
theorem gX4_span_X0_firstChangeOf : GoodIn wsX4_span (wsV RX4 208 RX0 yX0_firstChangeOf wsX0_firstChangeOf) := goodIn_app (goodIn_of _ (by decide +kernel)) ggX4_span_X0_firstChangeOf
set_option maxRecDepth 20000 in
theorem ggX4_span_X3_get : GoodIn wsX4_span wsX3_get := goodIn_ca (goodIn_r _ [29, 30, 31, 32, 33, 23, 34, 25, 58, 59] (by decide +kernel) (by decide +kernel)) (goodIn_sub (fun _ h => List.mem_cons_of_mem _ (List.mem_append_right _ h)) (by decide +kernel))
set_option maxRecDepth 20000 in
theorem gX4_span_X3_get : GoodIn wsX4_span (wsV RX4 113 RX3 yX3_get wsX3_get) := goodIn_app (goodIn_of _ (by decide +kernel)) ggX4_span_X3_get
set_option maxRecDepth 20000 in
theorem ggX4_span_X0_endOfSpan : GoodIn wsX4_span wsX0_endOfSpan := goodIn_ca (goodIn_r _ [39, 18, 19, 20, 21, 22, 23, 24, 25, 26, 27, 28, 29, 30, 31, 32, 33, 34, 53, 54, 58, 59] (by decide +kernel) (by decide +kernel)) (goodIn_sub (fun _ h => List.mem_cons_of_mem _ (List.mem_append_right _ h)) (by decide +kernel))
set_option maxRecDepth 20000 in
theorem gX4_span_X0_endOfSpan : GoodIn wsX4_span (wsV RX4 214 RX0 yX0_endOfSpan wsX0_endOfSpan) := goodIn_app (goodIn_of _ (by decide +kernel)) ggX4_span_X0_endOfSpan
set_option maxRecDepth 20000 in
theorem ggX4_span_X0_highestOfSpan : GoodIn wsX4_span wsX0_highestOfSpan := goodIn_ca (goodIn_r _ [43, 18, 19, 44, 45, 46, 47, 20, 21, 22, 23, 24, 25, 26, 27, 28, 29, 30, 31, 32, 33, 34, 53, 54, 58, 59] (by decide +kernel) (by decide +kernel)) (goodIn_sub (fun _ h => List.mem_cons_of_mem _ (List.mem_append_right _ h)) (by decide +kernel))
set_option maxRecDepth 20000 in
theorem gX4_span_X0_highestOfSpan : GoodIn wsX4_span (wsV RX4 217 RX0 yX0_highestOfSpan wsX0_highestOfSpan) := goodIn_app (goodIn_of _ (by decide +kernel)) ggX4_span_X0_highestOfSpan
theorem dX4_span_0 : decode cX4_span 0 = .ok (.aload_n 0, 1) := by decide +kernel
theorem dX4_span_1 : decode cX4_span 1 = .ok (.iload_n 1, 1) := by decide +kernel
theorem dX4_span_2 : decode cX4_span 2 = .ok (.invokevirtual 32, 3) := by decide +kernel
theorem dX4_span_5 : decode cX4_span 5 = .ok (.getfield 178, 3) := by decide +kernel
theorem dX4_span_8 : decode cX4_span 8 = .ok (.astore 4, 2) := by decide +kernel
theorem dX4_span_10 : decode cX4_span 10 = .ok (.iload_n 3, 1) := by decide +kernel
theorem dX4_span_11 : decode cX4_span 11 = .ok (.bipush 98, 2) := by decide +kernel
theorem dX4_span_13 : decode cX4_span 13 = .ok (.if_icmp .eq 25, 3) := by decide +kernel
theorem dX4_span_16 : decode cX4_span 16 = .ok (.iload_n 3, 1) := by decide +kernel
theorem dX4_span_17 : decode cX4_span 17 = .ok (.bipush 101, 2) := by decide +kernel
theorem dX4_span_19 : decode cX4_span 19 = .ok (.if_icmp .eq 19, 3) := by decide +kernel
theorem dX4_span_22 : decode cX4_span 22 = .ok (.iload_n 3, 1) := by decide +kernel
theorem dX4_span_23 : decode cX4_span 23 = .ok (.bipush 103, 2) := by decide +kernel
theorem dX4_span_25 : decode cX4_span 25 = .ok (.if_icmp .eq 13, 3) := by decide +kernel
theorem dX4_span_28 : decode cX4_span 28 = .ok (.new 46, 3) := by decide +kernel
theorem dX4_span_31 : decode cX4_span 31 = .ok (.dup, 1) := by decide +kernel
theorem dX4_span_32 : decode cX4_span 32 = .ok (.ldc 206, 2) := by decide +kernel
theorem dX4_span_34 : decode cX4_span 34 = .ok (.invokespecial 50, 3) := by decide +kernel
theorem dX4_span_37 : decode cX4_span 37 = .ok (.athrow, 1) := by decide +kernel
theorem dX4_span_38 : decode cX4_span 38 = .ok (.aload 4, 2) := by decide +kernel
theorem dX4_span_40 : decode cX4_span 40 = .ok (.iload_n 2, 1) := by decide +kernel
theorem dX4_span_41 : decode cX4_span 41 = .ok (.invokevirtual 208, 3) := by decide +kernel
theorem dX4_span_44 : decode cX4_span 44 = .ok (.istore 5, 2) := by decide +kernel
theorem dX4_span_46 : decode cX4_span 46 = .ok (.iload 5, 2) := by decide +kernel
theorem dX4_span_48 : decode cX4_span 48 = .ok (.ifCond .ge 13, 3) := by decide +kernel
theorem dX4_span_51 : decode cX4_span 51 = .ok (.new 96, 3) := by decide +kernel
theorem dX4_span_54 : decode cX4_span 54 = .ok (.dup, 1) := by decide +kernel
theorem dX4_span_55 : decode cX4_span 55 = .ok (.ldc 211, 2) := by decide +kernel
theorem dX4_span_57 : decode cX4_span 57 = .ok (.invokespecial 100, 3) := by decide +kernel
theorem dX4_span_60 : decode cX4_span 60 = .ok (.athrow, 1) := by decide +kernel
theorem dX4_span_61 : decode cX4_span 61 = .ok (.iload_n 3, 1) := by decide +kernel
theorem dX4_span_62 : decode cX4_span 62 = .ok (.bipush 98, 2) := by decide +kernel
theorem dX4_span_64 : decode cX4_span 64 = .ok (.if_icmp .ne 14, 3) := by decide +kernel
theorem dX4_span_67 : decode cX4_span 67 = .ok (.aload 4, 2) := by decide +kernel
theorem dX4_span_69 : decode cX4_span 69 = .ok (.getfield 213, 3) := by decide +kernel
theorem dX4_span_72 : decode cX4_span 72 = .ok (.iload 5, 2) := by decide +kernel
theorem dX4_span_74 : decode cX4_span 74 = .ok (.invokevirtual 113, 3) := by decide +kernel
theorem dX4_span_77 : decode cX4_span 77 = .ok (.ireturn, 1) := by decide +kernel
theorem dX4_span_78 : decode cX4_span 78 = .ok (.iload_n 3, 1) := by decide +kernel
theorem dX4_span_79 : decode cX4_span 79 = .ok (.bipush 101, 2) := by decide +kernel
theorem dX4_span_81 : decode cX4_span 81 = .ok (.if_icmp .ne 13, 3) := by decide +kernel
theorem dX4_span_84 : decode cX4_span 84 = .ok (.aload 4, 2) := by decide +kernel
theorem dX4_span_86 : decode cX4_span 86 = .ok (.iload 5, 2) := by decide +kernel
theorem dX4_span_88 : decode cX4_span 88 = .ok (.invokevirtual 214, 3) := by decide +kernel
theorem dX4_span_91 : decode cX4_span 91 = .ok (.goto 10, 3) := by decide +kernel
theorem dX4_span_94 : decode cX4_span 94 = .ok (.aload 4, 2) := by decide +kernel
theorem dX4_span_96 : decode cX4_span 96 = .ok (.iload 5, 2) := by decide +kernel
theorem dX4_span_98 : decode cX4_span 98 = .ok (.invokevirtual 217, 3) := by decide +kernel
theorem dX4_span_101 : decode cX4_span 101 = .ok (.ireturn, 1) := by decide +kernel
set_option maxRecDepth 20000 in
theorem ggX4_free_X4_houseAt : GoodIn wsX4_free wsX4_houseAt := goodIn_ca (goodIn_r _ [7, 8, 9, 10, 45, 46, 47] (by decide +kernel) (by decide +kernel)) (goodIn_sub (fun _ h => List.mem_cons_of_mem _ (List.mem_append_left _ (List.mem_append_right _ h))) (by decide +kernel))
set_option maxRecDepth 20000 in
theorem gX4_free_X4_houseAt : GoodIn wsX4_free (wsV RX4 32 RX4 yX4_houseAt wsX4_houseAt) := goodIn_app (goodIn_of _ (by decide +kernel)) ggX4_free_X4_houseAt
set_option maxRecDepth 20000 in
theorem ggX4_free_X4_isIn : GoodIn wsX4_free wsX4_isIn := goodIn_r _ [13] (by decide +kernel) (by decide +kernel)
set_option maxRecDepth 20000 in
theorem gX4_free_X4_isIn : GoodIn wsX4_free (va_wsS RX4 61 yX4_isIn wsX4_isIn) := goodIn_app (goodIn_of _ (by decide +kernel)) ggX4_free_X4_isIn
set_option maxRecDepth 20000 in
theorem ggX4_free_X0_freeFrom : GoodIn wsX4_free wsX0_freeFrom := goodIn_ca (goodIn_r _ [18, 19, 20, 21, 22, 23, 24, 25, 26, 27, 28, 29, 30, 31, 32, 33, 34, 35, 36, 37, 38, 39, 48, 49, 50, 51] (by decide +kernel) (by decide +kernel)) (goodIn_sub (fun _ h => List.mem_cons_of_mem _ (List.mem_append_right _ h)) (by decide +kernel))
set_option maxRecDepth 20000 in
theorem gX4_free_X0_freeFrom : GoodIn wsX4_free (wsV RX4 222 RX0 yX0_freeFrom wsX0_freeFrom) := goodIn_app (goodIn_of _ (by decide +kernel)) ggX4_free_X0_freeFrom
theorem dX4_free_0 : decode cX4_free 0 = .ok (.aload_n 0, 1) := by decide +kernel
theorem dX4_free_1 : decode cX4_free 1 = .ok (.iload_n 1, 1) := by decide +kernel
theorem dX4_free_2 : decode cX4_free 2 = .ok (.invokevirtual 32, 3) := by decide +kernel
theorem dX4_free_5 : decode cX4_free 5 = .ok (.getfield 178, 3) := by decide +kernel
theorem dX4_free_8 : decode cX4_free 8 = .ok (.astore 4, 2) := by decide +kernel
theorem dX4_free_10 : decode cX4_free 10 = .ok (.iload_n 2, 1) := by decide +kernel
theorem dX4_free_11 : decode cX4_free 11 = .ok (.iconst 0, 1) := by decide +kernel
theorem dX4_free_12 : decode cX4_free 12 = .ok (.sipush 20000, 3) := by decide +kernel
theorem dX4_free_15 : decode cX4_free 15 = .ok (.invokestatic 61, 3) := by decide +kernel
theorem dX4_free_18 : decode cX4_free 18 = .ok (.ifCond .eq 14, 3) := by decide +kernel
theorem dX4_free_21 : decode cX4_free 21 = .ok (.iload_n 3, 1) := by decide +kernel
theorem dX4_free_22 : decode cX4_free 22 = .ok (.iconst 1, 1) := by decide +kernel
theorem dX4_free_23 : decode cX4_free 23 = .ok (.sipush 500, 3) := by decide +kernel
theorem dX4_free_26 : decode cX4_free 26 = .ok (.invokestatic 61, 3) := by decide +kernel
theorem dX4_free_29 : decode cX4_free 29 = .ok (.ifCond .ne 13, 3) := by decide +kernel
theorem dX4_free_32 : decode cX4_free 32 = .ok (.new 46, 3) := by decide +kernel
theorem dX4_free_35 : decode cX4_free 35 = .ok (.dup, 1) := by decide +kernel
theorem dX4_free_36 : decode cX4_free 36 = .ok (.ldc 220, 2) := by decide +kernel
theorem dX4_free_38 : decode cX4_free 38 = .ok (.invokespecial 50, 3) := by decide +kernel
theorem dX4_free_41 : decode cX4_free 41 = .ok (.athrow, 1) := by decide +kernel
theorem dX4_free_42 : decode cX4_free 42 = .ok (.aload 4, 2) := by decide +kernel
theorem dX4_free_44 : decode cX4_free 44 = .ok (.iload_n 2, 1) := by decide +kernel
theorem dX4_free_45 : decode cX4_free 45 = .ok (.iload_n 3, 1) := by decide +kernel
theorem dX4_free_46 : decode cX4_free 46 = .ok (.invokevirtual 222, 3) := by decide +kernel
theorem dX4_free_49 : decode cX4_free 49 = .ok (.ireturn, 1) := by decide +kernel
set_option maxRecDepth 20000 in
theorem ggX4_load_X4_houseAt : GoodIn wsX4_load wsX4_houseAt := goodIn_ca (goodIn_r _ [5, 6, 7, 8, 36, 37, 38] (by decide +kernel) (by decide +kernel)) (goodIn_sub (fun _ h => List.mem_cons_of_mem _ (List.mem_append_left _ (List.mem_append_right _ h))) (by decide +kernel))
set_option maxRecDepth 20000 in
theorem gX4_load_X4_houseAt : GoodIn wsX4_load (wsV RX4 32 RX4 yX4_houseAt wsX4_houseAt) := goodIn_app (goodIn_of _ (by decide +kernel)) ggX4_load_X4_houseAt
set_option maxRecDepth 20000 in
theorem ggX4_load_X0_total : GoodIn wsX4_load wsX0_total := goodIn_ca (goodIn_r _ [13, 14, 15, 16, 17, 18, 19, 20, 21, 22, 23, 24, 25, 26, 27, 28, 29, 30, 39, 40, 41, 42] (by decide +kernel) (by decide +kernel)) (goodIn_sub (fun _ h => List.mem_cons_of_mem _ (List.mem_append_right _ h)) (by decide +kernel))
set_option maxRecDepth 20000 in
theorem gX4_load_X0_total : GoodIn wsX4_load (wsV RX4 225 RX0 yX0_total wsX0_total) := goodIn_app (goodIn_of _ (by decide +kernel)) ggX4_load_X0_total
theorem dX4_load_0 : decode cX4_load 0 = .ok (.aload_n 0, 1) := by decide +kernel
theorem dX4_load_1 : decode cX4_load 1 = .ok (.iload_n 1, 1) := by decide +kernel
theorem dX4_load_2 : decode cX4_load 2 = .ok (.invokevirtual 32, 3) := by decide +kernel
theorem dX4_load_5 : decode cX4_load 5 = .ok (.getfield 178, 3) := by decide +kernel
theorem dX4_load_8 : decode cX4_load 8 = .ok (.invokevirtual 225, 3) := by decide +kernel
theorem dX4_load_11 : decode cX4_load 11 = .ok (.lreturn, 1) := by decide +kernel
set_option maxRecDepth 20000 in
theorem ggX4_mean_X4_houseAt : GoodIn wsX4_mean wsX4_houseAt := goodIn_ca (goodIn_r _ [7, 8, 9, 10, 53, 54, 55] (by decide +kernel) (by decide +kernel)) (goodIn_sub (fun _ h => List.mem_cons_of_mem _ (List.mem_append_left _ (List.mem_append_right _ h))) (by decide +kernel))
set_option maxRecDepth 20000 in
theorem gX4_mean_X4_houseAt : GoodIn wsX4_mean (wsV RX4 32 RX4 yX4_houseAt wsX4_houseAt) := goodIn_app (goodIn_of _ (by decide +kernel)) ggX4_mean_X4_houseAt
set_option maxRecDepth 20000 in
theorem ggX4_mean_X0_allBusyTimes : GoodIn wsX4_mean wsX0_allBusyTimes := goodIn_ca (goodIn_r _ [15, 16, 17, 18, 19, 20, 21, 22, 23, 24, 25, 26, 27, 28, 29, 30, 31, 32, 33, 34, 14, 35, 36, 37, 38, 39, 40, 41, 42, 43, 56, 57, 58, 59] (by decide +kernel) (by decide +kernel)) (goodIn_sub (fun _ h => List.mem_cons_of_mem _ (List.mem_append_right _ h)) (by decide +kernel))
set_option maxRecDepth 20000 in
theorem gX4_mean_X0_allBusyTimes : GoodIn wsX4_mean (wsV RX4 229 RX0 yX0_allBusyTimes wsX0_allBusyTimes) := goodIn_app (goodIn_of _ (by decide +kernel)) ggX4_mean_X0_allBusyTimes
set_option maxRecDepth 20000 in
theorem ggX4_mean_X0_total : GoodIn wsX4_mean wsX0_total := goodIn_ca (goodIn_r _ [47, 16, 36, 17, 18, 19, 20, 21, 22, 23, 24, 25, 26, 27, 28, 29, 30, 31, 56, 57, 58, 59] (by decide +kernel) (by decide +kernel)) (goodIn_sub (fun _ h => List.mem_cons_of_mem _ (List.mem_append_right _ h)) (by decide +kernel))
set_option maxRecDepth 20000 in
theorem gX4_mean_X0_total : GoodIn wsX4_mean (wsV RX4 225 RX0 yX0_total wsX0_total) := goodIn_app (goodIn_of _ (by decide +kernel)) ggX4_mean_X0_total
theorem dX4_mean_0 : decode cX4_mean 0 = .ok (.aload_n 0, 1) := by decide +kernel
theorem dX4_mean_1 : decode cX4_mean 1 = .ok (.iload_n 1, 1) := by decide +kernel
theorem dX4_mean_2 : decode cX4_mean 2 = .ok (.invokevirtual 32, 3) := by decide +kernel
theorem dX4_mean_5 : decode cX4_mean 5 = .ok (.getfield 178, 3) := by decide +kernel
theorem dX4_mean_8 : decode cX4_mean 8 = .ok (.astore_n 2, 1) := by decide +kernel
theorem dX4_mean_9 : decode cX4_mean 9 = .ok (.aload_n 2, 1) := by decide +kernel
theorem dX4_mean_10 : decode cX4_mean 10 = .ok (.invokevirtual 229, 3) := by decide +kernel
theorem dX4_mean_13 : decode cX4_mean 13 = .ok (.istore_n 3, 1) := by decide +kernel
theorem dX4_mean_14 : decode cX4_mean 14 = .ok (.iload_n 3, 1) := by decide +kernel
theorem dX4_mean_15 : decode cX4_mean 15 = .ok (.ifCond .ne 13, 3) := by decide +kernel
theorem dX4_mean_18 : decode cX4_mean 18 = .ok (.new 232, 3) := by decide +kernel
theorem dX4_mean_21 : decode cX4_mean 21 = .ok (.dup, 1) := by decide +kernel
theorem dX4_mean_22 : decode cX4_mean 22 = .ok (.ldc 194, 2) := by decide +kernel
theorem dX4_mean_24 : decode cX4_mean 24 = .ok (.invokespecial 234, 3) := by decide +kernel
theorem dX4_mean_27 : decode cX4_mean 27 = .ok (.athrow, 1) := by decide +kernel
theorem dX4_mean_28 : decode cX4_mean 28 = .ok (.aload_n 2, 1) := by decide +kernel
theorem dX4_mean_29 : decode cX4_mean 29 = .ok (.invokevirtual 225, 3) := by decide +kernel
theorem dX4_mean_32 : decode cX4_mean 32 = .ok (.l2d, 1) := by decide +kernel
theorem dX4_mean_33 : decode cX4_mean 33 = .ok (.iload_n 3, 1) := by decide +kernel
theorem dX4_mean_34 : decode cX4_mean 34 = .ok (.i2d, 1) := by decide +kernel
theorem dX4_mean_35 : decode cX4_mean 35 = .ok (.ddiv, 1) := by decide +kernel
theorem dX4_mean_36 : decode cX4_mean 36 = .ok (.dreturn, 1) := by decide +kernel
set_option maxRecDepth 20000 in
theorem ggX4_share_X4_houseAt : GoodIn wsX4_share wsX4_houseAt := goodIn_ca (goodIn_r _ [7, 8, 9, 10, 22, 23, 24] (by decide +kernel) (by decide +kernel)) (goodIn_sub (fun _ h => List.mem_cons_of_mem _ (List.mem_append_right _ h)) (by decide +kernel))
set_option maxRecDepth 20000 in
theorem gX4_share_X4_houseAt : GoodIn wsX4_share (wsV RX4 32 RX4 yX4_houseAt wsX4_houseAt) := goodIn_app (goodIn_of _ (by decide +kernel)) ggX4_share_X4_houseAt
set_option maxRecDepth 20000 in
theorem ggX4_share_X3_size : GoodIn wsX4_share wsX3_size := goodIn_r _ [15, 16, 25, 26] (by decide +kernel) (by decide +kernel)
set_option maxRecDepth 20000 in
theorem gX4_share_X3_size : GoodIn wsX4_share (wsV RX4 132 RX3 yX3_size wsX3_size) := goodIn_app (goodIn_of _ (by decide +kernel)) ggX4_share_X3_size
theorem dX4_share_0 : decode cX4_share 0 = .ok (.aload_n 0, 1) := by decide +kernel
theorem dX4_share_1 : decode cX4_share 1 = .ok (.iload_n 1, 1) := by decide +kernel
theorem dX4_share_2 : decode cX4_share 2 = .ok (.invokevirtual 32, 3) := by decide +kernel
theorem dX4_share_5 : decode cX4_share 5 = .ok (.astore_n 2, 1) := by decide +kernel
theorem dX4_share_6 : decode cX4_share 6 = .ok (.aload_n 2, 1) := by decide +kernel
theorem dX4_share_7 : decode cX4_share 7 = .ok (.getfield 150, 3) := by decide +kernel
theorem dX4_share_10 : decode cX4_share 10 = .ok (.invokevirtual 132, 3) := by decide +kernel
theorem dX4_share_13 : decode cX4_share 13 = .ok (.aload_n 2, 1) := by decide +kernel
theorem dX4_share_14 : decode cX4_share 14 = .ok (.getfield 71, 3) := by decide +kernel
theorem dX4_share_17 : decode cX4_share 17 = .ok (.invokevirtual 132, 3) := by decide +kernel
theorem dX4_share_20 : decode cX4_share 20 = .ok (.iadd, 1) := by decide +kernel
theorem dX4_share_21 : decode cX4_share 21 = .ok (.istore_n 3, 1) := by decide +kernel
theorem dX4_share_22 : decode cX4_share 22 = .ok (.iload_n 3, 1) := by decide +kernel
theorem dX4_share_23 : decode cX4_share 23 = .ok (.ifCond .ne 13, 3) := by decide +kernel
theorem dX4_share_26 : decode cX4_share 26 = .ok (.new 232, 3) := by decide +kernel
theorem dX4_share_29 : decode cX4_share 29 = .ok (.dup, 1) := by decide +kernel
theorem dX4_share_30 : decode cX4_share 30 = .ok (.ldc 235, 2) := by decide +kernel
theorem dX4_share_32 : decode cX4_share 32 = .ok (.invokespecial 234, 3) := by decide +kernel
theorem dX4_share_35 : decode cX4_share 35 = .ok (.athrow, 1) := by decide +kernel
theorem dX4_share_36 : decode cX4_share 36 = .ok (.aload_n 2, 1) := by decide +kernel
theorem dX4_share_37 : decode cX4_share 37 = .ok (.getfield 150, 3) := by decide +kernel
theorem dX4_share_40 : decode cX4_share 40 = .ok (.invokevirtual 132, 3) := by decide +kernel
theorem dX4_share_43 : decode cX4_share 43 = .ok (.i2f, 1) := by decide +kernel
theorem dX4_share_44 : decode cX4_share 44 = .ok (.iload_n 3, 1) := by decide +kernel
theorem dX4_share_45 : decode cX4_share 45 = .ok (.i2f, 1) := by decide +kernel
theorem dX4_share_46 : decode cX4_share 46 = .ok (.fdiv, 1) := by decide +kernel
theorem dX4_share_47 : decode cX4_share 47 = .ok (.freturn, 1) := by decide +kernel
set_option maxRecDepth 20000 in
theorem ggX4_isQuiet_X4_houseAt : GoodIn wsX4_isQuiet wsX4_houseAt := goodIn_ca (goodIn_r _ [5, 6, 7, 8, 40, 41, 42] (by decide +kernel) (by decide +kernel)) (goodIn_sub (fun _ h => List.mem_cons_of_mem _ (List.mem_append_left _ (List.mem_append_right _ h))) (by decide +kernel))
set_option maxRecDepth 20000 in
theorem gX4_isQuiet_X4_houseAt : GoodIn wsX4_isQuiet (wsV RX4 32 RX4 yX4_houseAt wsX4_houseAt) := goodIn_app (goodIn_of _ (by decide +kernel)) ggX4_isQuiet_X4_houseAt
set_option maxRecDepth 20000 in
theorem ggX4_isQuiet_X3_size : GoodIn wsX4_isQuiet wsX3_size := goodIn_r _ [13, 14, 43, 44] (by decide +kernel) (by decide +kernel)
set_option maxRecDepth 20000 in
theorem gX4_isQuiet_X3_size : GoodIn wsX4_isQuiet (wsV RX4 132 RX3 yX3_size wsX3_size) := goodIn_app (goodIn_of _ (by decide +kernel)) ggX4_isQuiet_X3_size
set_option maxRecDepth 20000 in
theorem ggX4_isQuiet_X0_isOverAt : GoodIn wsX4_isQuiet wsX0_isOverAt := goodIn_ca (goodIn_r _ [19, 20, 21, 22, 23, 18, 24, 25, 10, 11, 12, 13, 14, 26, 27, 28, 29, 30, 31, 32, 33, 34, 45, 46, 43, 44] (by decide +kernel) (by decide +kernel)) (goodIn_sub (fun _ h => List.mem_cons_of_mem _ (List.mem_append_right _ h)) (by decide +kernel))
set_option maxRecDepth 20000 in
theorem gX4_isQuiet_X0_isOverAt : GoodIn wsX4_isQuiet (wsV RX4 237 RX0 yX0_isOverAt wsX0_isOverAt) := goodIn_app (goodIn_of _ (by decide +kernel)) ggX4_isQuiet_X0_isOverAt
theorem dX4_isQuiet_0 : decode cX4_isQuiet 0 = .ok (.aload_n 0, 1) := by decide +kernel
theorem dX4_isQuiet_1 : decode cX4_isQuiet 1 = .ok (.iload_n 1, 1) := by decide +kernel
theorem dX4_isQuiet_2 : decode cX4_isQuiet 2 = .ok (.invokevirtual 32, 3) := by decide +kernel
theorem dX4_isQuiet_5 : decode cX4_isQuiet 5 = .ok (.astore_n 2, 1) := by decide +kernel
theorem dX4_isQuiet_6 : decode cX4_isQuiet 6 = .ok (.aload_n 2, 1) := by decide +kernel
theorem dX4_isQuiet_7 : decode cX4_isQuiet 7 = .ok (.getfield 71, 3) := by decide +kernel
theorem dX4_isQuiet_10 : decode cX4_isQuiet 10 = .ok (.invokevirtual 132, 3) := by decide +kernel
theorem dX4_isQuiet_13 : decode cX4_isQuiet 13 = .ok (.ifCond .ne 21, 3) := by decide +kernel
theorem dX4_isQuiet_16 : decode cX4_isQuiet 16 = .ok (.aload_n 2, 1) := by decide +kernel
theorem dX4_isQuiet_17 : decode cX4_isQuiet 17 = .ok (.getfield 178, 3) := by decide +kernel
theorem dX4_isQuiet_20 : decode cX4_isQuiet 20 = .ok (.aload_n 2, 1) := by decide +kernel
theorem dX4_isQuiet_21 : decode cX4_isQuiet 21 = .ok (.getfield 101, 3) := by decide +kernel
theorem dX4_isQuiet_24 : decode cX4_isQuiet 24 = .ok (.invokevirtual 237, 3) := by decide +kernel
theorem dX4_isQuiet_27 : decode cX4_isQuiet 27 = .ok (.ifCond .eq 7, 3) := by decide +kernel
theorem dX4_isQuiet_30 : decode cX4_isQuiet 30 = .ok (.iconst 1, 1) := by decide +kernel
theorem dX4_isQuiet_31 : decode cX4_isQuiet 31 = .ok (.goto 4, 3) := by decide +kernel
theorem dX4_isQuiet_34 : decode cX4_isQuiet 34 = .ok (.iconst 0, 1) := by decide +kernel
theorem dX4_isQuiet_35 : decode cX4_isQuiet 35 = .ok (.ireturn, 1) := by decide +kernel
set_option maxRecDepth 20000 in
theorem ggX4_checksum_X4_withHouse : GoodIn wsX4_checksum wsX4_withHouse := goodIn_ca (goodIn_r _ [6, 7, 8, 9, 5, 10, 11, 12, 13, 14, 15, 16, 17, 18, 19, 20, 21, 22, 23, 24, 25, 29, 30, 31, 32, 33, 34, 35, 36, 37] (by decide +kernel) (by decide +kernel)) (goodIn_sub (fun _ h => List.mem_cons_of_mem _ (List.mem_append_right _ h)) (by decide +kernel))
set_option maxRecDepth 20000 in
theorem gX4_checksum_X4_withHouse : GoodIn wsX4_checksum (va_wsS RX4 242 yX4_withHouse wsX4_withHouse) := goodIn_app (goodIn_of _ (by decide +kernel)) ggX4_checksum_X4_withHouse
theorem dX4_checksum_0 : decode cX4_checksum 0 = .ok (.ldc2_w 240, 3) := by decide +kernel
theorem dX4_checksum_3 : decode cX4_checksum 3 = .ok (.lstore_n 1, 1) := by decide +kernel
theorem dX4_checksum_4 : decode cX4_checksum 4 = .ok (.aload_n 0, 1) := by decide +kernel
theorem dX4_checksum_5 : decode cX4_checksum 5 = .ok (.getfield 18, 3) := by decide +kernel
theorem dX4_checksum_8 : decode cX4_checksum 8 = .ok (.astore_n 3, 1) := by decide +kernel
theorem dX4_checksum_9 : decode cX4_checksum 9 = .ok (.aload_n 3, 1) := by decide +kernel
theorem dX4_checksum_10 : decode cX4_checksum 10 = .ok (.arraylength, 1) := by decide +kernel
theorem dX4_checksum_11 : decode cX4_checksum 11 = .ok (.istore 4, 2) := by decide +kernel
theorem dX4_checksum_13 : decode cX4_checksum 13 = .ok (.iconst 0, 1) := by decide +kernel
theorem dX4_checksum_14 : decode cX4_checksum 14 = .ok (.istore 5, 2) := by decide +kernel
theorem dX4_checksum_16 : decode cX4_checksum 16 = .ok (.iload 5, 2) := by decide +kernel
theorem dX4_checksum_18 : decode cX4_checksum 18 = .ok (.iload 4, 2) := by decide +kernel
theorem dX4_checksum_20 : decode cX4_checksum 20 = .ok (.if_icmp .ge 27, 3) := by decide +kernel
theorem dX4_checksum_23 : decode cX4_checksum 23 = .ok (.aload_n 3, 1) := by decide +kernel
theorem dX4_checksum_24 : decode cX4_checksum 24 = .ok (.iload 5, 2) := by decide +kernel
theorem dX4_checksum_26 : decode cX4_checksum 26 = .ok (.aaload, 1) := by decide +kernel
theorem dX4_checksum_27 : decode cX4_checksum 27 = .ok (.astore 6, 2) := by decide +kernel
theorem dX4_checksum_29 : decode cX4_checksum 29 = .ok (.aload 6, 2) := by decide +kernel
theorem dX4_checksum_31 : decode cX4_checksum 31 = .ok (.ifnull 10, 3) := by decide +kernel
theorem dX4_checksum_34 : decode cX4_checksum 34 = .ok (.lload_n 1, 1) := by decide +kernel
theorem dX4_checksum_35 : decode cX4_checksum 35 = .ok (.aload 6, 2) := by decide +kernel
theorem dX4_checksum_37 : decode cX4_checksum 37 = .ok (.invokestatic 242, 3) := by decide +kernel
theorem dX4_checksum_40 : decode cX4_checksum 40 = .ok (.lstore_n 1, 1) := by decide +kernel
theorem dX4_checksum_41 : decode cX4_checksum 41 = .ok (.iinc 5 1, 3) := by decide +kernel
theorem dX4_checksum_44 : decode cX4_checksum 44 = .ok (.goto (-28), 3) := by decide +kernel
theorem dX4_checksum_47 : decode cX4_checksum 47 = .ok (.lload_n 1, 1) := by decide +kernel
theorem dX4_checksum_48 : decode cX4_checksum 48 = .ok (.lreturn, 1) := by decide +kernel
set_option maxRecDepth 20000 in
theorem ggX4_isSound_X2_size : GoodIn wsX4_isSound wsX2_size := goodIn_r _ [7, 8, 9, 10, 11, 12, 13, 14, 121, 122, 123, 124, 125, 126, 127] (by decide +kernel) (by decide +kernel)
set_option maxRecDepth 20000 in
theorem gX4_isSound_X2_size : GoodIn wsX4_isSound (wsV RX4 67 RX2 yX2_size wsX2_size) := goodIn_app (goodIn_of _ (by decide +kernel)) ggX4_isSound_X2_size
set_option maxRecDepth 20000 in
theorem ggX4_isSound_X4_isOneThingOnce : GoodIn wsX4_isSound wsX4_isOneThingOnce := goodIn_ca (goodIn_r _ [19, 2, 1, 20, 21, 22, 12, 23, 14, 24, 25, 26, 27, 28, 29, 30, 31, 32, 33, 34, 35, 18, 36, 118, 119, 120, 128, 129, 130, 131, 132, 121, 122, 123, 124, 125, 126, 127] (by decide +kernel) (by decide +kernel)) (goodIn_sub (fun _ h => List.mem_cons_of_mem _ (List.mem_append_right _ h)) (by decide +kernel))
set_option maxRecDepth 20000 in
theorem gX4_isSound_X4_isOneThingOnce : GoodIn wsX4_isSound (wsV RX4 246 RX4 yX4_isOneThingOnce wsX4_isOneThingOnce) := goodIn_app (goodIn_of _ (by decide +kernel)) ggX4_isSound_X4_isOneThingOnce
set_option maxRecDepth 20000 in
theorem ggX4_isSound_X4_isSplitByClock : GoodIn wsX4_isSound wsX4_isSplitByClock := goodIn_ca (goodIn_r _ [40, 1, 41, 10, 11, 12, 13, 14, 33, 25, 26, 27, 28, 29, 30, 31, 32, 128, 129, 130, 131, 132, 118, 119, 120, 121, 122, 123, 124, 125, 126, 127] (by decide +kernel) (by decide +kernel)) (goodIn_sub (fun _ h => List.mem_cons_of_mem _ (List.mem_append_right _ h)) (by decide +kernel))
set_option maxRecDepth 20000 in
theorem gX4_isSound_X4_isSplitByClock : GoodIn wsX4_isSound (wsV RX4 249 RX4 yX4_isSplitByClock wsX4_isSplitByClock) := goodIn_app (goodIn_of _ (by decide +kernel)) ggX4_isSound_X4_isSplitByClock
set_option maxRecDepth 20000 in
theorem ggX4_isSound_X4_crowdIsOfThoseThatCame : GoodIn wsX4_isSound wsX4_crowdIsOfThoseThatCame := goodIn_ca (goodIn_r _ [45, 46, 1, 47, 48, 49, 50, 51, 52, 53, 54, 55, 56, 12, 57, 14, 41, 10, 11, 13, 33, 25, 26, 27, 28, 29, 30, 31, 32, 58, 59, 60, 6, 61, 8, 62, 63, 64, 65, 66, 67, 68, 69, 70, 71, 72, 73, 74, 75, 76, 77, 78, 79, 80, 81, 82, 83, 84, 85, 86, 87, 88, 89, 90, 91, 92, 93, 94, 95, 96, 97, 24, 98, 99, 100, 101, 102, 103, 104, 105, 118, 119, 120, 128, 129, 130, 131, 132, 121, 122, 123, 124, 125, 133, 134, 126, 127] (by decide +kernel) (by decide +kernel)) (goodIn_sub (fun _ h => List.mem_cons_of_mem _ (List.mem_append_right _ h)) (by decide +kernel))
set_option maxRecDepth 20000 in
theorem gX4_isSound_X4_crowdIsOfThoseThatCame : GoodIn wsX4_isSound (wsV RX4 253 RX4 yX4_crowdIsOfThoseThatCame wsX4_crowdIsOfThoseThatCame) := goodIn_app (goodIn_of _ (by decide +kernel)) ggX4_isSound_X4_crowdIsOfThoseThatCame
set_option maxRecDepth 20000 in
theorem ggX4_isSound_X4_standsWithAllOthers : GoodIn wsX4_isSound wsX4_standsWithAllOthers := goodIn_ca (goodIn_r _ [109, 2, 110, 111, 112, 18, 113, 1, 41, 10, 11, 12, 13, 14, 33, 25, 26, 27, 28, 29, 30, 31, 32, 114, 115, 116, 6, 117, 8, 63, 118, 119, 120, 128, 129, 130, 131, 132, 126, 127, 121, 122, 123, 124, 125] (by decide +kernel) (by decide +kernel)) (goodIn_sub (fun _ h => List.mem_cons_of_mem _ (List.mem_append_right _ h)) (by decide +kernel))
set_option maxRecDepth 20000 in
theorem gX4_isSound_X4_standsWithAllOthers : GoodIn wsX4_isSound (wsV RX4 256 RX4 yX4_standsWithAllOthers wsX4_standsWithAllOthers) := goodIn_app (goodIn_of _ (by decide +kernel)) ggX4_isSound_X4_standsWithAllOthers
theorem dX4_isSound_0 : decode cX4_isSound 0 = .ok (.iconst 0, 1) := by decide +kernel
theorem dX4_isSound_1 : decode cX4_isSound 1 = .ok (.istore_n 1, 1) := by decide +kernel
theorem dX4_isSound_2 : decode cX4_isSound 2 = .ok (.iload_n 1, 1) := by decide +kernel
theorem dX4_isSound_3 : decode cX4_isSound 3 = .ok (.aload_n 0, 1) := by decide +kernel
theorem dX4_isSound_4 : decode cX4_isSound 4 = .ok (.getfield 10, 3) := by decide +kernel
theorem dX4_isSound_7 : decode cX4_isSound 7 = .ok (.invokevirtual 67, 3) := by decide +kernel
theorem dX4_isSound_10 : decode cX4_isSound 10 = .ok (.if_icmp .ge 19, 3) := by decide +kernel
theorem dX4_isSound_13 : decode cX4_isSound 13 = .ok (.aload_n 0, 1) := by decide +kernel
theorem dX4_isSound_14 : decode cX4_isSound 14 = .ok (.iload_n 1, 1) := by decide +kernel
theorem dX4_isSound_15 : decode cX4_isSound 15 = .ok (.invokevirtual 246, 3) := by decide +kernel
theorem dX4_isSound_18 : decode cX4_isSound 18 = .ok (.ifCond .ne 5, 3) := by decide +kernel
theorem dX4_isSound_21 : decode cX4_isSound 21 = .ok (.iconst 0, 1) := by decide +kernel
theorem dX4_isSound_22 : decode cX4_isSound 22 = .ok (.ireturn, 1) := by decide +kernel
theorem dX4_isSound_23 : decode cX4_isSound 23 = .ok (.iinc 1 1, 3) := by decide +kernel
theorem dX4_isSound_26 : decode cX4_isSound 26 = .ok (.goto (-24), 3) := by decide +kernel
theorem dX4_isSound_29 : decode cX4_isSound 29 = .ok (.aload_n 0, 1) := by decide +kernel
theorem dX4_isSound_30 : decode cX4_isSound 30 = .ok (.getfield 18, 3) := by decide +kernel
theorem dX4_isSound_33 : decode cX4_isSound 33 = .ok (.astore_n 1, 1) := by decide +kernel
theorem dX4_isSound_34 : decode cX4_isSound 34 = .ok (.aload_n 1, 1) := by decide +kernel
theorem dX4_isSound_35 : decode cX4_isSound 35 = .ok (.arraylength, 1) := by decide +kernel
theorem dX4_isSound_36 : decode cX4_isSound 36 = .ok (.istore_n 2, 1) := by decide +kernel
theorem dX4_isSound_37 : decode cX4_isSound 37 = .ok (.iconst 0, 1) := by decide +kernel
theorem dX4_isSound_38 : decode cX4_isSound 38 = .ok (.istore_n 3, 1) := by decide +kernel
theorem dX4_isSound_39 : decode cX4_isSound 39 = .ok (.iload_n 3, 1) := by decide +kernel
theorem dX4_isSound_40 : decode cX4_isSound 40 = .ok (.iload_n 2, 1) := by decide +kernel
theorem dX4_isSound_41 : decode cX4_isSound 41 = .ok (.if_icmp .ge 48, 3) := by decide +kernel
theorem dX4_isSound_44 : decode cX4_isSound 44 = .ok (.aload_n 1, 1) := by decide +kernel
theorem dX4_isSound_45 : decode cX4_isSound 45 = .ok (.iload_n 3, 1) := by decide +kernel
theorem dX4_isSound_46 : decode cX4_isSound 46 = .ok (.aaload, 1) := by decide +kernel
theorem dX4_isSound_47 : decode cX4_isSound 47 = .ok (.astore 4, 2) := by decide +kernel
theorem dX4_isSound_49 : decode cX4_isSound 49 = .ok (.aload 4, 2) := by decide +kernel
theorem dX4_isSound_51 : decode cX4_isSound 51 = .ok (.ifnull 30, 3) := by decide +kernel
theorem dX4_isSound_54 : decode cX4_isSound 54 = .ok (.aload_n 0, 1) := by decide +kernel
theorem dX4_isSound_55 : decode cX4_isSound 55 = .ok (.aload 4, 2) := by decide +kernel
theorem dX4_isSound_57 : decode cX4_isSound 57 = .ok (.invokevirtual 249, 3) := by decide +kernel
theorem dX4_isSound_60 : decode cX4_isSound 60 = .ok (.ifCond .eq 21, 3) := by decide +kernel
theorem dX4_isSound_63 : decode cX4_isSound 63 = .ok (.aload_n 0, 1) := by decide +kernel
theorem dX4_isSound_64 : decode cX4_isSound 64 = .ok (.aload 4, 2) := by decide +kernel
theorem dX4_isSound_66 : decode cX4_isSound 66 = .ok (.invokevirtual 253, 3) := by decide +kernel
theorem dX4_isSound_69 : decode cX4_isSound 69 = .ok (.ifCond .eq 12, 3) := by decide +kernel
theorem dX4_isSound_72 : decode cX4_isSound 72 = .ok (.aload_n 0, 1) := by decide +kernel
theorem dX4_isSound_73 : decode cX4_isSound 73 = .ok (.aload 4, 2) := by decide +kernel
theorem dX4_isSound_75 : decode cX4_isSound 75 = .ok (.invokevirtual 256, 3) := by decide +kernel
theorem dX4_isSound_78 : decode cX4_isSound 78 = .ok (.ifCond .ne 5, 3) := by decide +kernel
theorem dX4_isSound_81 : decode cX4_isSound 81 = .ok (.iconst 0, 1) := by decide +kernel
theorem dX4_isSound_82 : decode cX4_isSound 82 = .ok (.ireturn, 1) := by decide +kernel
theorem dX4_isSound_83 : decode cX4_isSound 83 = .ok (.iinc 3 1, 3) := by decide +kernel
theorem dX4_isSound_86 : decode cX4_isSound 86 = .ok (.goto (-47), 3) := by decide +kernel
theorem dX4_isSound_89 : decode cX4_isSound 89 = .ok (.iconst 1, 1) := by decide +kernel
theorem dX4_isSound_90 : decode cX4_isSound 90 = .ok (.ireturn, 1) := by decide +kernel
theorem dX4_houseAt_0 : decode cX4_houseAt 0 = .ok (.iload_n 1, 1) := by decide +kernel
theorem dX4_houseAt_1 : decode cX4_houseAt 1 = .ok (.ifCond .lt 21, 3) := by decide +kernel
theorem dX4_houseAt_4 : decode cX4_houseAt 4 = .ok (.iload_n 1, 1) := by decide +kernel
theorem dX4_houseAt_5 : decode cX4_houseAt 5 = .ok (.aload_n 0, 1) := by decide +kernel
theorem dX4_houseAt_6 : decode cX4_houseAt 6 = .ok (.getfield 18, 3) := by decide +kernel
theorem dX4_houseAt_9 : decode cX4_houseAt 9 = .ok (.arraylength, 1) := by decide +kernel
theorem dX4_houseAt_10 : decode cX4_houseAt 10 = .ok (.if_icmp .ge 12, 3) := by decide +kernel
theorem dX4_houseAt_13 : decode cX4_houseAt 13 = .ok (.aload_n 0, 1) := by decide +kernel
theorem dX4_houseAt_14 : decode cX4_houseAt 14 = .ok (.getfield 18, 3) := by decide +kernel
theorem dX4_houseAt_17 : decode cX4_houseAt 17 = .ok (.iload_n 1, 1) := by decide +kernel
theorem dX4_houseAt_18 : decode cX4_houseAt 18 = .ok (.aaload, 1) := by decide +kernel
theorem dX4_houseAt_19 : decode cX4_houseAt 19 = .ok (.ifnonnull 14, 3) := by decide +kernel
theorem dX4_houseAt_22 : decode cX4_houseAt 22 = .ok (.new 159, 3) := by decide +kernel
theorem dX4_houseAt_25 : decode cX4_houseAt 25 = .ok (.dup, 1) := by decide +kernel
theorem dX4_houseAt_26 : decode cX4_houseAt 26 = .ok (.ldc_w 259, 3) := by decide +kernel
theorem dX4_houseAt_29 : decode cX4_houseAt 29 = .ok (.invokespecial 163, 3) := by decide +kernel
theorem dX4_houseAt_32 : decode cX4_houseAt 32 = .ok (.athrow, 1) := by decide +kernel
theorem dX4_houseAt_33 : decode cX4_houseAt 33 = .ok (.aload_n 0, 1) := by decide +kernel
theorem dX4_houseAt_34 : decode cX4_houseAt 34 = .ok (.getfield 18, 3) := by decide +kernel
theorem dX4_houseAt_37 : decode cX4_houseAt 37 = .ok (.iload_n 1, 1) := by decide +kernel
theorem dX4_houseAt_38 : decode cX4_houseAt 38 = .ok (.aaload, 1) := by decide +kernel
theorem dX4_houseAt_39 : decode cX4_houseAt 39 = .ok (.areturn, 1) := by decide +kernel
set_option maxRecDepth 20000 in
theorem ggX4_refuseIfNoRoom_X3_size : GoodIn wsX4_refuseIfNoRoom wsX3_size := goodIn_r _ [8, 9, 25, 26] (by decide +kernel) (by decide +kernel)
set_option maxRecDepth 20000 in
theorem gX4_refuseIfNoRoom_X3_size : GoodIn wsX4_refuseIfNoRoom (wsV RX4 132 RX3 yX3_size wsX3_size) := goodIn_app (goodIn_of _ (by decide +kernel)) ggX4_refuseIfNoRoom_X3_size
set_option maxRecDepth 20000 in
theorem ggX4_refuseIfNoRoom_X2_size : GoodIn wsX4_refuseIfNoRoom wsX2_size := goodIn_r _ [14, 15, 16, 5, 6, 7, 8, 9, 27, 28, 29, 30, 31, 25, 26] (by decide +kernel) (by decide +kernel)
set_option maxRecDepth 20000 in
theorem gX4_refuseIfNoRoom_X2_size : GoodIn wsX4_refuseIfNoRoom (wsV RX4 67 RX2 yX2_size wsX2_size) := goodIn_app (goodIn_of _ (by decide +kernel)) ggX4_refuseIfNoRoom_X2_size
theorem dX4_refuseIfNoRoom_0 : decode cX4_refuseIfNoRoom 0 = .ok (.iload_n 2, 1) := by decide +kernel
theorem dX4_refuseIfNoRoom_1 : decode cX4_refuseIfNoRoom 1 = .ok (.aload_n 1, 1) := by decide +kernel
theorem dX4_refuseIfNoRoom_2 : decode cX4_refuseIfNoRoom 2 = .ok (.getfield 101, 3) := by decide +kernel
theorem dX4_refuseIfNoRoom_5 : decode cX4_refuseIfNoRoom 5 = .ok (.if_icmp .ge 13, 3) := by decide +kernel
theorem dX4_refuseIfNoRoom_8 : decode cX4_refuseIfNoRoom 8 = .ok (.new 105, 3) := by decide +kernel
theorem dX4_refuseIfNoRoom_11 : decode cX4_refuseIfNoRoom 11 = .ok (.dup, 1) := by decide +kernel
theorem dX4_refuseIfNoRoom_12 : decode cX4_refuseIfNoRoom 12 = .ok (.ldc 107, 2) := by decide +kernel
theorem dX4_refuseIfNoRoom_14 : decode cX4_refuseIfNoRoom 14 = .ok (.invokespecial 109, 3) := by decide +kernel
theorem dX4_refuseIfNoRoom_17 : decode cX4_refuseIfNoRoom 17 = .ok (.athrow, 1) := by decide +kernel
theorem dX4_refuseIfNoRoom_18 : decode cX4_refuseIfNoRoom 18 = .ok (.aload_n 1, 1) := by decide +kernel
theorem dX4_refuseIfNoRoom_19 : decode cX4_refuseIfNoRoom 19 = .ok (.getfield 71, 3) := by decide +kernel
theorem dX4_refuseIfNoRoom_22 : decode cX4_refuseIfNoRoom 22 = .ok (.invokevirtual 132, 3) := by decide +kernel
theorem dX4_refuseIfNoRoom_25 : decode cX4_refuseIfNoRoom 25 = .ok (.iload_n 3, 1) := by decide +kernel
theorem dX4_refuseIfNoRoom_26 : decode cX4_refuseIfNoRoom 26 = .ok (.iadd, 1) := by decide +kernel
theorem dX4_refuseIfNoRoom_27 : decode cX4_refuseIfNoRoom 27 = .ok (.bipush 48, 2) := by decide +kernel
theorem dX4_refuseIfNoRoom_29 : decode cX4_refuseIfNoRoom 29 = .ok (.if_icmp .le 13, 3) := by decide +kernel
theorem dX4_refuseIfNoRoom_32 : decode cX4_refuseIfNoRoom 32 = .ok (.new 105, 3) := by decide +kernel
theorem dX4_refuseIfNoRoom_35 : decode cX4_refuseIfNoRoom 35 = .ok (.dup, 1) := by decide +kernel
theorem dX4_refuseIfNoRoom_36 : decode cX4_refuseIfNoRoom 36 = .ok (.ldc 144, 2) := by decide +kernel
theorem dX4_refuseIfNoRoom_38 : decode cX4_refuseIfNoRoom 38 = .ok (.invokespecial 109, 3) := by decide +kernel
theorem dX4_refuseIfNoRoom_41 : decode cX4_refuseIfNoRoom 41 = .ok (.athrow, 1) := by decide +kernel
theorem dX4_refuseIfNoRoom_42 : decode cX4_refuseIfNoRoom 42 = .ok (.aload_n 0, 1) := by decide +kernel
theorem dX4_refuseIfNoRoom_43 : decode cX4_refuseIfNoRoom 43 = .ok (.getfield 10, 3) := by decide +kernel
theorem dX4_refuseIfNoRoom_46 : decode cX4_refuseIfNoRoom 46 = .ok (.invokevirtual 67, 3) := by decide +kernel
theorem dX4_refuseIfNoRoom_49 : decode cX4_refuseIfNoRoom 49 = .ok (.iload_n 3, 1) := by decide +kernel
theorem dX4_refuseIfNoRoom_50 : decode cX4_refuseIfNoRoom 50 = .ok (.iadd, 1) := by decide +kernel
theorem dX4_refuseIfNoRoom_51 : decode cX4_refuseIfNoRoom 51 = .ok (.bipush 120, 2) := by decide +kernel
theorem dX4_refuseIfNoRoom_53 : decode cX4_refuseIfNoRoom 53 = .ok (.if_icmp .le 14, 3) := by decide +kernel
theorem dX4_refuseIfNoRoom_56 : decode cX4_refuseIfNoRoom 56 = .ok (.new 105, 3) := by decide +kernel
theorem dX4_refuseIfNoRoom_59 : decode cX4_refuseIfNoRoom 59 = .ok (.dup, 1) := by decide +kernel
theorem dX4_refuseIfNoRoom_60 : decode cX4_refuseIfNoRoom 60 = .ok (.ldc_w 261, 3) := by decide +kernel
theorem dX4_refuseIfNoRoom_63 : decode cX4_refuseIfNoRoom 63 = .ok (.invokespecial 109, 3) := by decide +kernel
theorem dX4_refuseIfNoRoom_66 : decode cX4_refuseIfNoRoom 66 = .ok (.athrow, 1) := by decide +kernel
theorem dX4_refuseIfNoRoom_67 : decode cX4_refuseIfNoRoom 67 = .ok (.return_, 1) := by decide +kernel
set_option maxRecDepth 20000 in
theorem ggX4_refuseIfNoTime_X4_isTime : GoodIn wsX4_refuseIfNoTime wsX4_isTime := goodIn_r _ [6, 7, 8, 5, 9] (by decide +kernel) (by decide +kernel)
set_option maxRecDepth 20000 in
theorem gX4_refuseIfNoTime_X4_isTime : GoodIn wsX4_refuseIfNoTime (va_wsS RX4 36 yX4_isTime wsX4_isTime) := goodIn_app (goodIn_of _ (by decide +kernel)) ggX4_refuseIfNoTime_X4_isTime
theorem dX4_refuseIfNoTime_0 : decode cX4_refuseIfNoTime 0 = .ok (.iload_n 0, 1) := by decide +kernel
theorem dX4_refuseIfNoTime_1 : decode cX4_refuseIfNoTime 1 = .ok (.invokestatic 36, 3) := by decide +kernel
theorem dX4_refuseIfNoTime_4 : decode cX4_refuseIfNoTime 4 = .ok (.ifCond .ne 14, 3) := by decide +kernel
theorem dX4_refuseIfNoTime_7 : decode cX4_refuseIfNoTime 7 = .ok (.new 46, 3) := by decide +kernel
theorem dX4_refuseIfNoTime_10 : decode cX4_refuseIfNoTime 10 = .ok (.dup, 1) := by decide +kernel
theorem dX4_refuseIfNoTime_11 : decode cX4_refuseIfNoTime 11 = .ok (.ldc_w 263, 3) := by decide +kernel
theorem dX4_refuseIfNoTime_14 : decode cX4_refuseIfNoTime 14 = .ok (.invokespecial 50, 3) := by decide +kernel
theorem dX4_refuseIfNoTime_17 : decode cX4_refuseIfNoTime 17 = .ok (.athrow, 1) := by decide +kernel
theorem dX4_refuseIfNoTime_18 : decode cX4_refuseIfNoTime 18 = .ok (.return_, 1) := by decide +kernel
theorem dX4_refuseIfTurned_0 : decode cX4_refuseIfTurned 0 = .ok (.iload_n 0, 1) := by decide +kernel
theorem dX4_refuseIfTurned_1 : decode cX4_refuseIfTurned 1 = .ok (.iload_n 1, 1) := by decide +kernel
theorem dX4_refuseIfTurned_2 : decode cX4_refuseIfTurned 2 = .ok (.if_icmp .le 14, 3) := by decide +kernel
theorem dX4_refuseIfTurned_5 : decode cX4_refuseIfTurned 5 = .ok (.new 46, 3) := by decide +kernel
theorem dX4_refuseIfTurned_8 : decode cX4_refuseIfTurned 8 = .ok (.dup, 1) := by decide +kernel
theorem dX4_refuseIfTurned_9 : decode cX4_refuseIfTurned 9 = .ok (.ldc_w 265, 3) := by decide +kernel
theorem dX4_refuseIfTurned_12 : decode cX4_refuseIfTurned 12 = .ok (.invokespecial 50, 3) := by decide +kernel
theorem dX4_refuseIfTurned_15 : decode cX4_refuseIfTurned 15 = .ok (.athrow, 1) := by decide +kernel
theorem dX4_refuseIfTurned_16 : decode cX4_refuseIfTurned 16 = .ok (.return_, 1) := by decide +kernel
theorem dX4_refuseIfSame_0 : decode cX4_refuseIfSame 0 = .ok (.iload_n 0, 1) := by decide +kernel
theorem dX4_refuseIfSame_1 : decode cX4_refuseIfSame 1 = .ok (.iload_n 1, 1) := by decide +kernel
theorem dX4_refuseIfSame_2 : decode cX4_refuseIfSame 2 = .ok (.if_icmp .ne 14, 3) := by decide +kernel
theorem dX4_refuseIfSame_5 : decode cX4_refuseIfSame 5 = .ok (.new 105, 3) := by decide +kernel
theorem dX4_refuseIfSame_8 : decode cX4_refuseIfSame 8 = .ok (.dup, 1) := by decide +kernel
theorem dX4_refuseIfSame_9 : decode cX4_refuseIfSame 9 = .ok (.ldc_w 267, 3) := by decide +kernel
theorem dX4_refuseIfSame_12 : decode cX4_refuseIfSame 12 = .ok (.invokespecial 109, 3) := by decide +kernel
theorem dX4_refuseIfSame_15 : decode cX4_refuseIfSame 15 = .ok (.athrow, 1) := by decide +kernel
theorem dX4_refuseIfSame_16 : decode cX4_refuseIfSame 16 = .ok (.return_, 1) := by decide +kernel
set_option maxRecDepth 20000 in
theorem ggX4_itemAt_X3_holds : GoodIn wsX4_itemAt wsX3_holds := goodIn_r _ [7, 8, 9, 15, 16] (by decide +kernel) (by decide +kernel)
set_option maxRecDepth 20000 in
theorem gX4_itemAt_X3_holds : GoodIn wsX4_itemAt (wsV RX4 269 RX3 yX3_holds wsX3_holds) := goodIn_app (goodIn_of _ (by decide +kernel)) ggX4_itemAt_X3_holds
set_option maxRecDepth 20000 in
theorem ggX4_itemAt_X3_get : GoodIn wsX4_itemAt wsX3_get := goodIn_ca (goodIn_r _ [13, 9, 14, 4, 5, 6, 7, 8, 15, 16] (by decide +kernel) (by decide +kernel)) (goodIn_sub (fun _ h => List.mem_cons_of_mem _ (List.mem_append_right _ h)) (by decide +kernel))
set_option maxRecDepth 20000 in
theorem gX4_itemAt_X3_get : GoodIn wsX4_itemAt (wsV RX4 113 RX3 yX3_get wsX3_get) := goodIn_app (goodIn_of _ (by decide +kernel)) ggX4_itemAt_X3_get
theorem dX4_itemAt_0 : decode cX4_itemAt 0 = .ok (.aload_n 0, 1) := by decide +kernel
theorem dX4_itemAt_1 : decode cX4_itemAt 1 = .ok (.iload_n 1, 1) := by decide +kernel
theorem dX4_itemAt_2 : decode cX4_itemAt 2 = .ok (.invokevirtual 269, 3) := by decide +kernel
theorem dX4_itemAt_5 : decode cX4_itemAt 5 = .ok (.ifCond .ne 13, 3) := by decide +kernel
theorem dX4_itemAt_8 : decode cX4_itemAt 8 = .ok (.new 96, 3) := by decide +kernel
theorem dX4_itemAt_11 : decode cX4_itemAt 11 = .ok (.dup, 1) := by decide +kernel
theorem dX4_itemAt_12 : decode cX4_itemAt 12 = .ok (.ldc 211, 2) := by decide +kernel
theorem dX4_itemAt_14 : decode cX4_itemAt 14 = .ok (.invokespecial 100, 3) := by decide +kernel
theorem dX4_itemAt_17 : decode cX4_itemAt 17 = .ok (.athrow, 1) := by decide +kernel
theorem dX4_itemAt_18 : decode cX4_itemAt 18 = .ok (.aload_n 0, 1) := by decide +kernel
theorem dX4_itemAt_19 : decode cX4_itemAt 19 = .ok (.iload_n 1, 1) := by decide +kernel
theorem dX4_itemAt_20 : decode cX4_itemAt 20 = .ok (.invokevirtual 113, 3) := by decide +kernel
theorem dX4_itemAt_23 : decode cX4_itemAt 23 = .ok (.ireturn, 1) := by decide +kernel
theorem dX4_isIn_0 : decode cX4_isIn 0 = .ok (.iload_n 0, 1) := by decide +kernel
theorem dX4_isIn_1 : decode cX4_isIn 1 = .ok (.iload_n 1, 1) := by decide +kernel
theorem dX4_isIn_2 : decode cX4_isIn 2 = .ok (.if_icmp .lt 12, 3) := by decide +kernel
theorem dX4_isIn_5 : decode cX4_isIn 5 = .ok (.iload_n 0, 1) := by decide +kernel
theorem dX4_isIn_6 : decode cX4_isIn 6 = .ok (.iload_n 2, 1) := by decide +kernel
theorem dX4_isIn_7 : decode cX4_isIn 7 = .ok (.if_icmp .gt 7, 3) := by decide +kernel
theorem dX4_isIn_10 : decode cX4_isIn 10 = .ok (.iconst 1, 1) := by decide +kernel
theorem dX4_isIn_11 : decode cX4_isIn 11 = .ok (.goto 4, 3) := by decide +kernel
theorem dX4_isIn_14 : decode cX4_isIn 14 = .ok (.iconst 0, 1) := by decide +kernel
theorem dX4_isIn_15 : decode cX4_isIn 15 = .ok (.ireturn, 1) := by decide +kernel
set_option maxRecDepth 20000 in
theorem ggX4_isTime_X4_isIn : GoodIn wsX4_isTime wsX4_isIn := goodIn_r _ [4] (by decide +kernel) (by decide +kernel)
set_option maxRecDepth 20000 in
theorem gX4_isTime_X4_isIn : GoodIn wsX4_isTime (va_wsS RX4 61 yX4_isIn wsX4_isIn) := goodIn_app (goodIn_of _ (by decide +kernel)) ggX4_isTime_X4_isIn
theorem dX4_isTime_0 : decode cX4_isTime 0 = .ok (.iload_n 0, 1) := by decide +kernel
theorem dX4_isTime_1 : decode cX4_isTime 1 = .ok (.iconst 0, 1) := by decide +kernel
theorem dX4_isTime_2 : decode cX4_isTime 2 = .ok (.sipush 9999, 3) := by decide +kernel
theorem dX4_isTime_5 : decode cX4_isTime 5 = .ok (.invokestatic 61, 3) := by decide +kernel
theorem dX4_isTime_8 : decode cX4_isTime 8 = .ok (.ireturn, 1) := by decide +kernel
set_option maxRecDepth 20000 in
theorem ggX4_isSpan_X4_isIn : GoodIn wsX4_isSpan wsX4_isIn := goodIn_r _ [4] (by decide +kernel) (by decide +kernel)
set_option maxRecDepth 20000 in
theorem gX4_isSpan_X4_isIn : GoodIn wsX4_isSpan (va_wsS RX4 61 yX4_isIn wsX4_isIn) := goodIn_app (goodIn_of _ (by decide +kernel)) ggX4_isSpan_X4_isIn
theorem dX4_isSpan_0 : decode cX4_isSpan 0 = .ok (.iload_n 0, 1) := by decide +kernel
theorem dX4_isSpan_1 : decode cX4_isSpan 1 = .ok (.iconst 0, 1) := by decide +kernel
theorem dX4_isSpan_2 : decode cX4_isSpan 2 = .ok (.sipush 500, 3) := by decide +kernel
theorem dX4_isSpan_5 : decode cX4_isSpan 5 = .ok (.invokestatic 61, 3) := by decide +kernel
theorem dX4_isSpan_8 : decode cX4_isSpan 8 = .ok (.ireturn, 1) := by decide +kernel
set_option maxRecDepth 20000 in
theorem ggX4_isWeight_X4_isIn : GoodIn wsX4_isWeight wsX4_isIn := goodIn_r _ [4] (by decide +kernel) (by decide +kernel)
set_option maxRecDepth 20000 in
theorem gX4_isWeight_X4_isIn : GoodIn wsX4_isWeight (va_wsS RX4 61 yX4_isIn wsX4_isIn) := goodIn_app (goodIn_of _ (by decide +kernel)) ggX4_isWeight_X4_isIn
theorem dX4_isWeight_0 : decode cX4_isWeight 0 = .ok (.iload_n 0, 1) := by decide +kernel
theorem dX4_isWeight_1 : decode cX4_isWeight 1 = .ok (.iconst 1, 1) := by decide +kernel
theorem dX4_isWeight_2 : decode cX4_isWeight 2 = .ok (.bipush 9, 2) := by decide +kernel
theorem dX4_isWeight_4 : decode cX4_isWeight 4 = .ok (.invokestatic 61, 3) := by decide +kernel
theorem dX4_isWeight_7 : decode cX4_isWeight 7 = .ok (.ireturn, 1) := by decide +kernel
set_option maxRecDepth 20000 in
theorem ggX4_make_X2_enter : GoodIn wsX4_make wsX2_enter := goodIn_ca (goodIn_r _ [6, 7, 8, 9, 10, 11, 12, 13, 14, 15, 16, 17, 18, 19, 20, 21, 22, 23, 24, 25, 26, 27, 28, 29, 30, 58, 59, 60, 61, 62, 63, 64] (by decide +kernel) (by decide +kernel)) (goodIn_sub (fun _ h => List.mem_cons_of_mem _ (List.mem_append_right _ h)) (by decide +kernel))
set_option maxRecDepth 20000 in
theorem gX4_make_X2_enter : GoodIn wsX4_make (wsV RX4 272 RX2 yX2_enter wsX2_enter) := goodIn_app (goodIn_of _ (by decide +kernel)) ggX4_make_X2_enter
set_option maxRecDepth 20000 in
theorem ggX4_make_X4_enqueue : GoodIn wsX4_make wsX4_enqueue := goodIn_ca (goodIn_r _ [35, 1, 36, 28, 29, 15, 30, 17, 37, 38, 39, 40, 22, 41, 42, 43, 44, 45, 46, 47, 5, 48, 7, 49, 50, 19, 20, 21, 23, 24, 25, 26, 51, 52, 53, 54, 65, 66, 67, 68, 69, 55, 56, 57, 58, 59, 60, 61, 62, 63, 64] (by decide +kernel) (by decide +kernel)) (goodIn_sub (fun _ h => List.mem_cons_of_mem _ (List.mem_append_right _ h)) (by decide +kernel))
set_option maxRecDepth 20000 in
theorem gX4_make_X4_enqueue : GoodIn wsX4_make (wsV RX4 122 RX4 yX4_enqueue wsX4_enqueue) := goodIn_app (goodIn_of _ (by decide +kernel)) ggX4_make_X4_enqueue
theorem dX4_make_0 : decode cX4_make 0 = .ok (.aload_n 0, 1) := by decide +kernel
theorem dX4_make_1 : decode cX4_make 1 = .ok (.getfield 10, 3) := by decide +kernel
theorem dX4_make_4 : decode cX4_make 4 = .ok (.iload_n 2, 1) := by decide +kernel
theorem dX4_make_5 : decode cX4_make 5 = .ok (.iload_n 3, 1) := by decide +kernel
theorem dX4_make_6 : decode cX4_make 6 = .ok (.iload 4, 2) := by decide +kernel
theorem dX4_make_8 : decode cX4_make 8 = .ok (.invokevirtual 272, 3) := by decide +kernel
theorem dX4_make_11 : decode cX4_make 11 = .ok (.istore 5, 2) := by decide +kernel
theorem dX4_make_13 : decode cX4_make 13 = .ok (.aload_n 0, 1) := by decide +kernel
theorem dX4_make_14 : decode cX4_make 14 = .ok (.aload_n 1, 1) := by decide +kernel
theorem dX4_make_15 : decode cX4_make 15 = .ok (.iload 5, 2) := by decide +kernel
theorem dX4_make_17 : decode cX4_make 17 = .ok (.invokevirtual 122, 3) := by decide +kernel
theorem dX4_make_20 : decode cX4_make 20 = .ok (.iload 5, 2) := by decide +kernel
theorem dX4_make_22 : decode cX4_make 22 = .ok (.ireturn, 1) := by decide +kernel
set_option maxRecDepth 20000 in
theorem ggX4_enqueue_X3_size : GoodIn wsX4_enqueue wsX3_size := goodIn_r _ [6, 7, 49, 50] (by decide +kernel) (by decide +kernel)
set_option maxRecDepth 20000 in
theorem gX4_enqueue_X3_size : GoodIn wsX4_enqueue (wsV RX4 132 RX3 yX3_size wsX3_size) := goodIn_app (goodIn_of _ (by decide +kernel)) ggX4_enqueue_X3_size
set_option maxRecDepth 20000 in
theorem ggX4_enqueue_X3_get : GoodIn wsX4_enqueue wsX3_get := goodIn_ca (goodIn_r _ [11, 12, 13, 14, 15, 5, 16, 7, 49, 50] (by decide +kernel) (by decide +kernel)) (goodIn_sub (fun _ h => List.mem_cons_of_mem _ (List.mem_append_right _ h)) (by decide +kernel))
set_option maxRecDepth 20000 in
theorem gX4_enqueue_X3_get : GoodIn wsX4_enqueue (wsV RX4 113 RX3 yX3_get wsX3_get) := goodIn_app (goodIn_of _ (by decide +kernel)) ggX4_enqueue_X3_get
set_option maxRecDepth 20000 in
theorem ggX4_enqueue_X2_isAhead : GoodIn wsX4_enqueue wsX2_isAhead := goodIn_ca (goodIn_r _ [21, 22, 23, 9, 10, 5, 11, 12, 13, 14, 15, 16, 7, 44, 45, 46, 47, 48, 49, 50] (by decide +kernel) (by decide +kernel)) (goodIn_sub (fun _ h => List.mem_cons_of_mem _ (List.mem_append_right _ h)) (by decide +kernel))
set_option maxRecDepth 20000 in
theorem gX4_enqueue_X2_isAhead : GoodIn wsX4_enqueue (wsV RX4 276 RX2 yX2_isAhead wsX2_isAhead) := goodIn_app (goodIn_of _ (by decide +kernel)) ggX4_enqueue_X2_isAhead
set_option maxRecDepth 20000 in
theorem ggX4_enqueue_X3_insert : GoodIn wsX4_enqueue wsX3_insert := goodIn_ca (goodIn_r _ [27, 7, 12, 28, 29, 30, 31, 49, 50] (by decide +kernel) (by decide +kernel)) (goodIn_sub (fun _ h => List.mem_cons_of_mem _ (List.mem_append_right _ h)) (by decide +kernel))
set_option maxRecDepth 20000 in
theorem gX4_enqueue_X3_insert : GoodIn wsX4_enqueue (wsV RX4 280 RX3 yX3_insert wsX3_insert) := goodIn_app (goodIn_of _ (by decide +kernel)) ggX4_enqueue_X3_insert
set_option maxRecDepth 20000 in
theorem ggX4_enqueue_X3_set : GoodIn wsX4_enqueue wsX3_set := goodIn_ca (goodIn_r _ [35, 12, 13, 14, 15, 5, 16, 7, 49, 50] (by decide +kernel) (by decide +kernel)) (goodIn_sub (fun _ h => List.mem_cons_of_mem _ (List.mem_append_right _ h)) (by decide +kernel))
set_option maxRecDepth 20000 in
theorem gX4_enqueue_X3_set : GoodIn wsX4_enqueue (wsV RX4 119 RX3 yX3_set wsX3_set) := goodIn_app (goodIn_of _ (by decide +kernel)) ggX4_enqueue_X3_set
theorem dX4_enqueue_0 : decode cX4_enqueue 0 = .ok (.aload_n 1, 1) := by decide +kernel
theorem dX4_enqueue_1 : decode cX4_enqueue 1 = .ok (.getfield 71, 3) := by decide +kernel
theorem dX4_enqueue_4 : decode cX4_enqueue 4 = .ok (.invokevirtual 132, 3) := by decide +kernel
theorem dX4_enqueue_7 : decode cX4_enqueue 7 = .ok (.istore_n 3, 1) := by decide +kernel
theorem dX4_enqueue_8 : decode cX4_enqueue 8 = .ok (.iload_n 3, 1) := by decide +kernel
theorem dX4_enqueue_9 : decode cX4_enqueue 9 = .ok (.ifCond .le 30, 3) := by decide +kernel
theorem dX4_enqueue_12 : decode cX4_enqueue 12 = .ok (.aload_n 0, 1) := by decide +kernel
theorem dX4_enqueue_13 : decode cX4_enqueue 13 = .ok (.getfield 10, 3) := by decide +kernel
theorem dX4_enqueue_16 : decode cX4_enqueue 16 = .ok (.iload_n 2, 1) := by decide +kernel
theorem dX4_enqueue_17 : decode cX4_enqueue 17 = .ok (.aload_n 1, 1) := by decide +kernel
theorem dX4_enqueue_18 : decode cX4_enqueue 18 = .ok (.getfield 71, 3) := by decide +kernel
theorem dX4_enqueue_21 : decode cX4_enqueue 21 = .ok (.iload_n 3, 1) := by decide +kernel
theorem dX4_enqueue_22 : decode cX4_enqueue 22 = .ok (.iconst 1, 1) := by decide +kernel
theorem dX4_enqueue_23 : decode cX4_enqueue 23 = .ok (.isub, 1) := by decide +kernel
theorem dX4_enqueue_24 : decode cX4_enqueue 24 = .ok (.invokevirtual 113, 3) := by decide +kernel
theorem dX4_enqueue_27 : decode cX4_enqueue 27 = .ok (.invokevirtual 276, 3) := by decide +kernel
theorem dX4_enqueue_30 : decode cX4_enqueue 30 = .ok (.ifCond .eq 9, 3) := by decide +kernel
theorem dX4_enqueue_33 : decode cX4_enqueue 33 = .ok (.iinc 3 (-1), 3) := by decide +kernel
theorem dX4_enqueue_36 : decode cX4_enqueue 36 = .ok (.goto (-28), 3) := by decide +kernel
theorem dX4_enqueue_39 : decode cX4_enqueue 39 = .ok (.aload_n 1, 1) := by decide +kernel
theorem dX4_enqueue_40 : decode cX4_enqueue 40 = .ok (.getfield 71, 3) := by decide +kernel
theorem dX4_enqueue_43 : decode cX4_enqueue 43 = .ok (.iload_n 3, 1) := by decide +kernel
theorem dX4_enqueue_44 : decode cX4_enqueue 44 = .ok (.iload_n 2, 1) := by decide +kernel
theorem dX4_enqueue_45 : decode cX4_enqueue 45 = .ok (.invokevirtual 280, 3) := by decide +kernel
theorem dX4_enqueue_48 : decode cX4_enqueue 48 = .ok (.aload_n 0, 1) := by decide +kernel
theorem dX4_enqueue_49 : decode cX4_enqueue 49 = .ok (.getfield 10, 3) := by decide +kernel
theorem dX4_enqueue_52 : decode cX4_enqueue 52 = .ok (.getfield 170, 3) := by decide +kernel
theorem dX4_enqueue_55 : decode cX4_enqueue 55 = .ok (.iload_n 2, 1) := by decide +kernel
theorem dX4_enqueue_56 : decode cX4_enqueue 56 = .ok (.aload_n 1, 1) := by decide +kernel
theorem dX4_enqueue_57 : decode cX4_enqueue 57 = .ok (.getfield 283, 3) := by decide +kernel
theorem dX4_enqueue_60 : decode cX4_enqueue 60 = .ok (.invokevirtual 119, 3) := by decide +kernel
theorem dX4_enqueue_63 : decode cX4_enqueue 63 = .ok (.aload_n 0, 1) := by decide +kernel
theorem dX4_enqueue_64 : decode cX4_enqueue 64 = .ok (.getfield 10, 3) := by decide +kernel
theorem dX4_enqueue_67 : decode cX4_enqueue 67 = .ok (.getfield 173, 3) := by decide +kernel
theorem dX4_enqueue_70 : decode cX4_enqueue 70 = .ok (.iload_n 2, 1) := by decide +kernel
theorem dX4_enqueue_71 : decode cX4_enqueue 71 = .ok (.iconst 0, 1) := by decide +kernel
theorem dX4_enqueue_72 : decode cX4_enqueue 72 = .ok (.invokevirtual 119, 3) := by decide +kernel
theorem dX4_enqueue_75 : decode cX4_enqueue 75 = .ok (.return_, 1) := by decide +kernel
set_option maxRecDepth 20000 in
theorem ggX4_callOffPlace_X3_remove : GoodIn wsX4_callOffPlace wsX3_remove := goodIn_ca (goodIn_r _ [6, 7, 8, 9, 10, 11, 12, 13, 14, 15, 5, 16, 34, 35] (by decide +kernel) (by decide +kernel)) (goodIn_sub (fun _ h => List.mem_cons_of_mem _ (List.mem_append_right _ h)) (by decide +kernel))
set_option maxRecDepth 20000 in
theorem gX4_callOffPlace_X3_remove : GoodIn wsX4_callOffPlace (wsV RX4 116 RX3 yX3_remove wsX3_remove) := goodIn_app (goodIn_of _ (by decide +kernel)) ggX4_callOffPlace_X3_remove
set_option maxRecDepth 20000 in
theorem ggX4_callOffPlace_X3_set : GoodIn wsX4_callOffPlace wsX3_set := goodIn_ca (goodIn_r _ [20, 7, 13, 14, 15, 5, 16, 8, 34, 35] (by decide +kernel) (by decide +kernel)) (goodIn_sub (fun _ h => List.mem_cons_of_mem _ (List.mem_append_right _ h)) (by decide +kernel))
set_option maxRecDepth 20000 in
theorem gX4_callOffPlace_X3_set : GoodIn wsX4_callOffPlace (wsV RX4 119 RX3 yX3_set wsX3_set) := goodIn_app (goodIn_of _ (by decide +kernel)) ggX4_callOffPlace_X3_set
theorem dX4_callOffPlace_0 : decode cX4_callOffPlace 0 = .ok (.aload_n 0, 1) := by decide +kernel
theorem dX4_callOffPlace_1 : decode cX4_callOffPlace 1 = .ok (.getfield 10, 3) := by decide +kernel
theorem dX4_callOffPlace_4 : decode cX4_callOffPlace 4 = .ok (.getfield 173, 3) := by decide +kernel
theorem dX4_callOffPlace_7 : decode cX4_callOffPlace 7 = .ok (.aload_n 1, 1) := by decide +kernel
theorem dX4_callOffPlace_8 : decode cX4_callOffPlace 8 = .ok (.getfield 71, 3) := by decide +kernel
theorem dX4_callOffPlace_11 : decode cX4_callOffPlace 11 = .ok (.iload_n 2, 1) := by decide +kernel
theorem dX4_callOffPlace_12 : decode cX4_callOffPlace 12 = .ok (.invokevirtual 116, 3) := by decide +kernel
theorem dX4_callOffPlace_15 : decode cX4_callOffPlace 15 = .ok (.iconst 2, 1) := by decide +kernel
theorem dX4_callOffPlace_16 : decode cX4_callOffPlace 16 = .ok (.invokevirtual 119, 3) := by decide +kernel
theorem dX4_callOffPlace_19 : decode cX4_callOffPlace 19 = .ok (.return_, 1) := by decide +kernel
set_option maxRecDepth 20000 in
theorem ggX4_move_X3_size : GoodIn wsX4_move wsX3_size := goodIn_r _ [8, 9, 60, 61] (by decide +kernel) (by decide +kernel)
set_option maxRecDepth 20000 in
theorem gX4_move_X3_size : GoodIn wsX4_move (wsV RX4 132 RX3 yX3_size wsX3_size) := goodIn_app (goodIn_of _ (by decide +kernel)) ggX4_move_X3_size
set_option maxRecDepth 20000 in
theorem ggX4_move_X3_get : GoodIn wsX4_move wsX3_get := goodIn_ca (goodIn_r _ [13, 14, 15, 16, 17, 7, 18, 9, 60, 61] (by decide +kernel) (by decide +kernel)) (goodIn_sub (fun _ h => List.mem_cons_of_mem _ (List.mem_append_right _ h)) (by decide +kernel))
set_option maxRecDepth 20000 in
theorem gX4_move_X3_get : GoodIn wsX4_move (wsV RX4 113 RX3 yX3_get wsX3_get) := goodIn_app (goodIn_of _ (by decide +kernel)) ggX4_move_X3_get
set_option maxRecDepth 20000 in
theorem ggX4_move_X3_remove : GoodIn wsX4_move wsX3_remove := goodIn_ca (goodIn_r _ [22, 14, 9, 23, 24, 25, 26, 15, 16, 17, 7, 18, 60, 61] (by decide +kernel) (by decide +kernel)) (goodIn_sub (fun _ h => List.mem_cons_of_mem _ (List.mem_append_right _ h)) (by decide +kernel))
set_option maxRecDepth 20000 in
theorem gX4_move_X3_remove : GoodIn wsX4_move (wsV RX4 116 RX3 yX3_remove wsX3_remove) := goodIn_app (goodIn_of _ (by decide +kernel)) ggX4_move_X3_remove
set_option maxRecDepth 20000 in
theorem ggX4_move_X4_enqueue : GoodIn wsX4_move wsX4_enqueue := goodIn_ca (goodIn_r _ [31, 3, 4, 5, 6, 7, 8, 9, 10, 11, 12, 13, 14, 15, 16, 17, 18, 32, 33, 34, 35, 36, 37, 38, 39, 40, 41, 42, 23, 24, 25, 26, 43, 44, 45, 46, 47, 48, 49, 50, 51, 52, 53, 54, 55, 56, 57, 58, 59, 60, 61] (by decide +kernel) (by decide +kernel)) (goodIn_sub (fun _ h => List.mem_cons_of_mem _ (List.mem_append_right _ h)) (by decide +kernel))
set_option maxRecDepth 20000 in
theorem gX4_move_X4_enqueue : GoodIn wsX4_move (wsV RX4 122 RX4 yX4_enqueue wsX4_enqueue) := goodIn_app (goodIn_of _ (by decide +kernel)) ggX4_move_X4_enqueue
theorem dX4_move_0 : decode cX4_move 0 = .ok (.aload_n 1, 1) := by decide +kernel
theorem dX4_move_1 : decode cX4_move 1 = .ok (.getfield 71, 3) := by decide +kernel
theorem dX4_move_4 : decode cX4_move 4 = .ok (.invokevirtual 132, 3) := by decide +kernel
theorem dX4_move_7 : decode cX4_move 7 = .ok (.iload_n 2, 1) := by decide +kernel
theorem dX4_move_8 : decode cX4_move 8 = .ok (.isub, 1) := by decide +kernel
theorem dX4_move_9 : decode cX4_move 9 = .ok (.istore 4, 2) := by decide +kernel
theorem dX4_move_11 : decode cX4_move 11 = .ok (.iload 4, 2) := by decide +kernel
theorem dX4_move_13 : decode cX4_move 13 = .ok (.ifCond .le 39, 3) := by decide +kernel
theorem dX4_move_16 : decode cX4_move 16 = .ok (.aload_n 0, 1) := by decide +kernel
theorem dX4_move_17 : decode cX4_move 17 = .ok (.getfield 10, 3) := by decide +kernel
theorem dX4_move_20 : decode cX4_move 20 = .ok (.getfield 110, 3) := by decide +kernel
theorem dX4_move_23 : decode cX4_move 23 = .ok (.aload_n 1, 1) := by decide +kernel
theorem dX4_move_24 : decode cX4_move 24 = .ok (.getfield 71, 3) := by decide +kernel
theorem dX4_move_27 : decode cX4_move 27 = .ok (.iload_n 2, 1) := by decide +kernel
theorem dX4_move_28 : decode cX4_move 28 = .ok (.invokevirtual 113, 3) := by decide +kernel
theorem dX4_move_31 : decode cX4_move 31 = .ok (.invokevirtual 113, 3) := by decide +kernel
theorem dX4_move_34 : decode cX4_move 34 = .ok (.aload_n 3, 1) := by decide +kernel
theorem dX4_move_35 : decode cX4_move 35 = .ok (.getfield 101, 3) := by decide +kernel
theorem dX4_move_38 : decode cX4_move 38 = .ok (.if_icmp .ge 14, 3) := by decide +kernel
theorem dX4_move_41 : decode cX4_move 41 = .ok (.new 105, 3) := by decide +kernel
theorem dX4_move_44 : decode cX4_move 44 = .ok (.dup, 1) := by decide +kernel
theorem dX4_move_45 : decode cX4_move 45 = .ok (.ldc_w 286, 3) := by decide +kernel
theorem dX4_move_48 : decode cX4_move 48 = .ok (.invokespecial 109, 3) := by decide +kernel
theorem dX4_move_51 : decode cX4_move 51 = .ok (.athrow, 1) := by decide +kernel
theorem dX4_move_52 : decode cX4_move 52 = .ok (.aload_n 3, 1) := by decide +kernel
theorem dX4_move_53 : decode cX4_move 53 = .ok (.getfield 71, 3) := by decide +kernel
theorem dX4_move_56 : decode cX4_move 56 = .ok (.invokevirtual 132, 3) := by decide +kernel
theorem dX4_move_59 : decode cX4_move 59 = .ok (.iload 4, 2) := by decide +kernel
theorem dX4_move_61 : decode cX4_move 61 = .ok (.iadd, 1) := by decide +kernel
theorem dX4_move_62 : decode cX4_move 62 = .ok (.bipush 48, 2) := by decide +kernel
theorem dX4_move_64 : decode cX4_move 64 = .ok (.if_icmp .le 13, 3) := by decide +kernel
theorem dX4_move_67 : decode cX4_move 67 = .ok (.new 105, 3) := by decide +kernel
theorem dX4_move_70 : decode cX4_move 70 = .ok (.dup, 1) := by decide +kernel
theorem dX4_move_71 : decode cX4_move 71 = .ok (.ldc 144, 2) := by decide +kernel
theorem dX4_move_73 : decode cX4_move 73 = .ok (.invokespecial 109, 3) := by decide +kernel
theorem dX4_move_76 : decode cX4_move 76 = .ok (.athrow, 1) := by decide +kernel
theorem dX4_move_77 : decode cX4_move 77 = .ok (.iconst 0, 1) := by decide +kernel
theorem dX4_move_78 : decode cX4_move 78 = .ok (.istore 5, 2) := by decide +kernel
theorem dX4_move_80 : decode cX4_move 80 = .ok (.iload 5, 2) := by decide +kernel
theorem dX4_move_82 : decode cX4_move 82 = .ok (.iload 4, 2) := by decide +kernel
theorem dX4_move_84 : decode cX4_move 84 = .ok (.if_icmp .ge 22, 3) := by decide +kernel
theorem dX4_move_87 : decode cX4_move 87 = .ok (.aload_n 0, 1) := by decide +kernel
theorem dX4_move_88 : decode cX4_move 88 = .ok (.aload_n 3, 1) := by decide +kernel
theorem dX4_move_89 : decode cX4_move 89 = .ok (.aload_n 1, 1) := by decide +kernel
theorem dX4_move_90 : decode cX4_move 90 = .ok (.getfield 71, 3) := by decide +kernel
theorem dX4_move_93 : decode cX4_move 93 = .ok (.iload_n 2, 1) := by decide +kernel
theorem dX4_move_94 : decode cX4_move 94 = .ok (.invokevirtual 116, 3) := by decide +kernel
theorem dX4_move_97 : decode cX4_move 97 = .ok (.invokevirtual 122, 3) := by decide +kernel
theorem dX4_move_100 : decode cX4_move 100 = .ok (.iinc 5 1, 3) := by decide +kernel
theorem dX4_move_103 : decode cX4_move 103 = .ok (.goto (-23), 3) := by decide +kernel
theorem dX4_move_106 : decode cX4_move 106 = .ok (.iload 4, 2) := by decide +kernel
theorem dX4_move_108 : decode cX4_move 108 = .ok (.ireturn, 1) := by decide +kernel
set_option maxRecDepth 20000 in
theorem ggX4_letFirstCome_X3_remove : GoodIn wsX4_letFirstCome wsX3_remove := goodIn_ca (goodIn_r _ [6, 7, 8, 9, 10, 11, 12, 13, 14, 15, 5, 16, 73, 74] (by decide +kernel) (by decide +kernel)) (goodIn_sub (fun _ h => List.mem_cons_of_mem _ (List.mem_append_right _ h)) (by decide +kernel))
set_option maxRecDepth 20000 in
theorem gX4_letFirstCome_X3_remove : GoodIn wsX4_letFirstCome (wsV RX4 116 RX3 yX3_remove wsX3_remove) := goodIn_app (goodIn_of _ (by decide +kernel)) ggX4_letFirstCome_X3_remove
set_option maxRecDepth 20000 in
theorem ggX4_letFirstCome_X3_add : GoodIn wsX4_letFirstCome wsX3_add := goodIn_ca (goodIn_r _ [20, 8, 21, 22, 23, 5, 24, 7, 9, 10, 11, 12, 73, 74] (by decide +kernel) (by decide +kernel)) (goodIn_sub (fun _ h => List.mem_cons_of_mem _ (List.mem_append_right _ h)) (by decide +kernel))
set_option maxRecDepth 20000 in
theorem gX4_letFirstCome_X3_add : GoodIn wsX4_letFirstCome (wsV RX4 288 RX3 yX3_add wsX3_add) := goodIn_app (goodIn_of _ (by decide +kernel)) ggX4_letFirstCome_X3_add
set_option maxRecDepth 20000 in
theorem ggX4_letFirstCome_X3_get : GoodIn wsX4_letFirstCome wsX3_get := goodIn_ca (goodIn_r _ [28, 7, 13, 14, 15, 5, 16, 8, 73, 74] (by decide +kernel) (by decide +kernel)) (goodIn_sub (fun _ h => List.mem_cons_of_mem _ (List.mem_append_right _ h)) (by decide +kernel))
set_option maxRecDepth 20000 in
theorem gX4_letFirstCome_X3_get : GoodIn wsX4_letFirstCome (wsV RX4 113 RX3 yX3_get wsX3_get) := goodIn_app (goodIn_of _ (by decide +kernel)) ggX4_letFirstCome_X3_get
set_option maxRecDepth 20000 in
theorem ggX4_letFirstCome_X2_end : GoodIn wsX4_letFirstCome wsX2_end := goodIn_ca (goodIn_r _ [33, 34, 35, 36, 26, 27, 5, 28, 7, 13, 14, 15, 16, 8, 68, 69, 70, 71, 72, 73, 74] (by decide +kernel) (by decide +kernel)) (goodIn_sub (fun _ h => List.mem_cons_of_mem _ (List.mem_append_right _ h)) (by decide +kernel))
set_option maxRecDepth 20000 in
theorem gX4_letFirstCome_X2_end : GoodIn wsX4_letFirstCome (wsV RX4 291 RX2 yX2_end wsX2_end) := goodIn_app (goodIn_of _ (by decide +kernel)) ggX4_letFirstCome_X2_end
set_option maxRecDepth 20000 in
theorem ggX4_letFirstCome_X0_enter : GoodIn wsX4_letFirstCome wsX0_enter := goodIn_ca (goodIn_r _ [41, 42, 43, 44, 40, 45, 46, 47, 48, 49, 50, 5, 51, 8, 52, 26, 27, 28, 7, 13, 14, 15, 16, 53, 22, 23, 24, 9, 10, 11, 12, 54, 3, 4, 6, 55, 56, 57, 58, 75, 76, 73, 74] (by decide +kernel) (by decide +kernel)) (goodIn_sub (fun _ h => List.mem_cons_of_mem _ (List.mem_append_right _ h)) (by decide +kernel))
set_option maxRecDepth 20000 in
theorem gX4_letFirstCome_X0_enter : GoodIn wsX4_letFirstCome (wsV RX4 294 RX0 yX0_enter wsX0_enter) := goodIn_app (goodIn_of _ (by decide +kernel)) ggX4_letFirstCome_X0_enter
set_option maxRecDepth 20000 in
theorem ggX4_letFirstCome_X3_set : GoodIn wsX4_letFirstCome wsX3_set := goodIn_ca (goodIn_r _ [58, 7, 13, 14, 15, 5, 16, 8, 73, 74] (by decide +kernel) (by decide +kernel)) (goodIn_sub (fun _ h => List.mem_cons_of_mem _ (List.mem_append_right _ h)) (by decide +kernel))
set_option maxRecDepth 20000 in
theorem gX4_letFirstCome_X3_set : GoodIn wsX4_letFirstCome (wsV RX4 119 RX3 yX3_set wsX3_set) := goodIn_app (goodIn_of _ (by decide +kernel)) ggX4_letFirstCome_X3_set
theorem dX4_letFirstCome_0 : decode cX4_letFirstCome 0 = .ok (.aload_n 1, 1) := by decide +kernel
theorem dX4_letFirstCome_1 : decode cX4_letFirstCome 1 = .ok (.getfield 71, 3) := by decide +kernel
theorem dX4_letFirstCome_4 : decode cX4_letFirstCome 4 = .ok (.iconst 0, 1) := by decide +kernel
theorem dX4_letFirstCome_5 : decode cX4_letFirstCome 5 = .ok (.invokevirtual 116, 3) := by decide +kernel
theorem dX4_letFirstCome_8 : decode cX4_letFirstCome 8 = .ok (.istore_n 2, 1) := by decide +kernel
theorem dX4_letFirstCome_9 : decode cX4_letFirstCome 9 = .ok (.aload_n 1, 1) := by decide +kernel
theorem dX4_letFirstCome_10 : decode cX4_letFirstCome 10 = .ok (.getfield 150, 3) := by decide +kernel
theorem dX4_letFirstCome_13 : decode cX4_letFirstCome 13 = .ok (.iload_n 2, 1) := by decide +kernel
theorem dX4_letFirstCome_14 : decode cX4_letFirstCome 14 = .ok (.invokevirtual 288, 3) := by decide +kernel
theorem dX4_letFirstCome_17 : decode cX4_letFirstCome 17 = .ok (.aload_n 1, 1) := by decide +kernel
theorem dX4_letFirstCome_18 : decode cX4_letFirstCome 18 = .ok (.aload_n 0, 1) := by decide +kernel
theorem dX4_letFirstCome_19 : decode cX4_letFirstCome 19 = .ok (.getfield 10, 3) := by decide +kernel
theorem dX4_letFirstCome_22 : decode cX4_letFirstCome 22 = .ok (.getfield 110, 3) := by decide +kernel
theorem dX4_letFirstCome_25 : decode cX4_letFirstCome 25 = .ok (.iload_n 2, 1) := by decide +kernel
theorem dX4_letFirstCome_26 : decode cX4_letFirstCome 26 = .ok (.invokevirtual 113, 3) := by decide +kernel
theorem dX4_letFirstCome_29 : decode cX4_letFirstCome 29 = .ok (.putfield 101, 3) := by decide +kernel
theorem dX4_letFirstCome_32 : decode cX4_letFirstCome 32 = .ok (.aload_n 1, 1) := by decide +kernel
theorem dX4_letFirstCome_33 : decode cX4_letFirstCome 33 = .ok (.getfield 178, 3) := by decide +kernel
theorem dX4_letFirstCome_36 : decode cX4_letFirstCome 36 = .ok (.aload_n 1, 1) := by decide +kernel
theorem dX4_letFirstCome_37 : decode cX4_letFirstCome 37 = .ok (.getfield 101, 3) := by decide +kernel
theorem dX4_letFirstCome_40 : decode cX4_letFirstCome 40 = .ok (.aload_n 0, 1) := by decide +kernel
theorem dX4_letFirstCome_41 : decode cX4_letFirstCome 41 = .ok (.getfield 10, 3) := by decide +kernel
theorem dX4_letFirstCome_44 : decode cX4_letFirstCome 44 = .ok (.iload_n 2, 1) := by decide +kernel
theorem dX4_letFirstCome_45 : decode cX4_letFirstCome 45 = .ok (.invokevirtual 291, 3) := by decide +kernel
theorem dX4_letFirstCome_48 : decode cX4_letFirstCome 48 = .ok (.aload_n 0, 1) := by decide +kernel
theorem dX4_letFirstCome_49 : decode cX4_letFirstCome 49 = .ok (.getfield 10, 3) := by decide +kernel
theorem dX4_letFirstCome_52 : decode cX4_letFirstCome 52 = .ok (.getfield 167, 3) := by decide +kernel
theorem dX4_letFirstCome_55 : decode cX4_letFirstCome 55 = .ok (.iload_n 2, 1) := by decide +kernel
theorem dX4_letFirstCome_56 : decode cX4_letFirstCome 56 = .ok (.invokevirtual 113, 3) := by decide +kernel
theorem dX4_letFirstCome_59 : decode cX4_letFirstCome 59 = .ok (.invokevirtual 294, 3) := by decide +kernel
theorem dX4_letFirstCome_62 : decode cX4_letFirstCome 62 = .ok (.aload_n 0, 1) := by decide +kernel
theorem dX4_letFirstCome_63 : decode cX4_letFirstCome 63 = .ok (.getfield 10, 3) := by decide +kernel
theorem dX4_letFirstCome_66 : decode cX4_letFirstCome 66 = .ok (.getfield 173, 3) := by decide +kernel
theorem dX4_letFirstCome_69 : decode cX4_letFirstCome 69 = .ok (.iload_n 2, 1) := by decide +kernel
theorem dX4_letFirstCome_70 : decode cX4_letFirstCome 70 = .ok (.iconst 1, 1) := by decide +kernel
theorem dX4_letFirstCome_71 : decode cX4_letFirstCome 71 = .ok (.invokevirtual 119, 3) := by decide +kernel
theorem dX4_letFirstCome_74 : decode cX4_letFirstCome 74 = .ok (.iload_n 2, 1) := by decide +kernel
theorem dX4_letFirstCome_75 : decode cX4_letFirstCome 75 = .ok (.ireturn, 1) := by decide +kernel
set_option maxRecDepth 20000 in
theorem ggX4_bringLastBack_X3_size : GoodIn wsX4_bringLastBack wsX3_size := goodIn_r _ [6, 7, 79, 80] (by decide +kernel) (by decide +kernel)
set_option maxRecDepth 20000 in
theorem gX4_bringLastBack_X3_size : GoodIn wsX4_bringLastBack (wsV RX4 132 RX3 yX3_size wsX3_size) := goodIn_app (goodIn_of _ (by decide +kernel)) ggX4_bringLastBack_X3_size
set_option maxRecDepth 20000 in
theorem ggX4_bringLastBack_X3_remove : GoodIn wsX4_bringLastBack wsX3_remove := goodIn_ca (goodIn_r _ [11, 12, 7, 13, 14, 15, 16, 17, 18, 19, 5, 20, 79, 80] (by decide +kernel) (by decide +kernel)) (goodIn_sub (fun _ h => List.mem_cons_of_mem _ (List.mem_append_right _ h)) (by decide +kernel))
set_option maxRecDepth 20000 in
theorem gX4_bringLastBack_X3_remove : GoodIn wsX4_bringLastBack (wsV RX4 116 RX3 yX3_remove wsX3_remove) := goodIn_app (goodIn_of _ (by decide +kernel)) ggX4_bringLastBack_X3_remove
set_option maxRecDepth 20000 in
theorem ggX4_bringLastBack_X3_get : GoodIn wsX4_bringLastBack wsX3_get := goodIn_ca (goodIn_r _ [24, 12, 17, 18, 19, 5, 20, 7, 79, 80] (by decide +kernel) (by decide +kernel)) (goodIn_sub (fun _ h => List.mem_cons_of_mem _ (List.mem_append_right _ h)) (by decide +kernel))
set_option maxRecDepth 20000 in
theorem gX4_bringLastBack_X3_get : GoodIn wsX4_bringLastBack (wsV RX4 113 RX3 yX3_get wsX3_get) := goodIn_app (goodIn_of _ (by decide +kernel)) ggX4_bringLastBack_X3_get
set_option maxRecDepth 20000 in
theorem ggX4_bringLastBack_X2_end : GoodIn wsX4_bringLastBack wsX2_end := goodIn_ca (goodIn_r _ [29, 30, 31, 32, 22, 23, 5, 24, 12, 17, 18, 19, 20, 7, 74, 75, 76, 77, 78, 79, 80] (by decide +kernel) (by decide +kernel)) (goodIn_sub (fun _ h => List.mem_cons_of_mem _ (List.mem_append_right _ h)) (by decide +kernel))
set_option maxRecDepth 20000 in
theorem gX4_bringLastBack_X2_end : GoodIn wsX4_bringLastBack (wsV RX4 291 RX2 yX2_end wsX2_end) := goodIn_app (goodIn_of _ (by decide +kernel)) ggX4_bringLastBack_X2_end
set_option maxRecDepth 20000 in
theorem ggX4_bringLastBack_X0_enter : GoodIn wsX4_bringLastBack wsX0_enter := goodIn_ca (goodIn_r _ [37, 38, 39, 40, 36, 41, 42, 43, 44, 3, 4, 5, 6, 7, 45, 22, 23, 24, 12, 17, 18, 19, 20, 46, 47, 48, 49, 13, 14, 15, 16, 50, 9, 10, 11, 51, 52, 53, 54, 81, 82, 79, 80] (by decide +kernel) (by decide +kernel)) (goodIn_sub (fun _ h => List.mem_cons_of_mem _ (List.mem_append_right _ h)) (by decide +kernel))
set_option maxRecDepth 20000 in
theorem gX4_bringLastBack_X0_enter : GoodIn wsX4_bringLastBack (wsV RX4 294 RX0 yX0_enter wsX0_enter) := goodIn_app (goodIn_of _ (by decide +kernel)) ggX4_bringLastBack_X0_enter
set_option maxRecDepth 20000 in
theorem ggX4_bringLastBack_X4_enqueue : GoodIn wsX4_bringLastBack wsX4_enqueue := goodIn_ca (goodIn_r _ [59, 1, 2, 3, 4, 5, 6, 7, 21, 22, 23, 24, 12, 17, 18, 19, 20, 60, 61, 62, 28, 63, 30, 32, 64, 47, 48, 49, 13, 14, 15, 16, 65, 52, 53, 54, 66, 67, 68, 69, 70, 71, 72, 73, 74, 75, 76, 77, 78, 79, 80] (by decide +kernel) (by decide +kernel)) (goodIn_sub (fun _ h => List.mem_cons_of_mem _ (List.mem_append_right _ h)) (by decide +kernel))
set_option maxRecDepth 20000 in
theorem gX4_bringLastBack_X4_enqueue : GoodIn wsX4_bringLastBack (wsV RX4 122 RX4 yX4_enqueue wsX4_enqueue) := goodIn_app (goodIn_of _ (by decide +kernel)) ggX4_bringLastBack_X4_enqueue
theorem dX4_bringLastBack_0 : decode cX4_bringLastBack 0 = .ok (.aload_n 1, 1) := by decide +kernel
theorem dX4_bringLastBack_1 : decode cX4_bringLastBack 1 = .ok (.getfield 150, 3) := by decide +kernel
theorem dX4_bringLastBack_4 : decode cX4_bringLastBack 4 = .ok (.aload_n 1, 1) := by decide +kernel
theorem dX4_bringLastBack_5 : decode cX4_bringLastBack 5 = .ok (.getfield 150, 3) := by decide +kernel
theorem dX4_bringLastBack_8 : decode cX4_bringLastBack 8 = .ok (.invokevirtual 132, 3) := by decide +kernel
theorem dX4_bringLastBack_11 : decode cX4_bringLastBack 11 = .ok (.iconst 1, 1) := by decide +kernel
theorem dX4_bringLastBack_12 : decode cX4_bringLastBack 12 = .ok (.isub, 1) := by decide +kernel
theorem dX4_bringLastBack_13 : decode cX4_bringLastBack 13 = .ok (.invokevirtual 116, 3) := by decide +kernel
theorem dX4_bringLastBack_16 : decode cX4_bringLastBack 16 = .ok (.istore_n 2, 1) := by decide +kernel
theorem dX4_bringLastBack_17 : decode cX4_bringLastBack 17 = .ok (.aload_n 1, 1) := by decide +kernel
theorem dX4_bringLastBack_18 : decode cX4_bringLastBack 18 = .ok (.getfield 178, 3) := by decide +kernel
theorem dX4_bringLastBack_21 : decode cX4_bringLastBack 21 = .ok (.aload_n 0, 1) := by decide +kernel
theorem dX4_bringLastBack_22 : decode cX4_bringLastBack 22 = .ok (.getfield 10, 3) := by decide +kernel
theorem dX4_bringLastBack_25 : decode cX4_bringLastBack 25 = .ok (.getfield 110, 3) := by decide +kernel
theorem dX4_bringLastBack_28 : decode cX4_bringLastBack 28 = .ok (.iload_n 2, 1) := by decide +kernel
theorem dX4_bringLastBack_29 : decode cX4_bringLastBack 29 = .ok (.invokevirtual 113, 3) := by decide +kernel
theorem dX4_bringLastBack_32 : decode cX4_bringLastBack 32 = .ok (.aload_n 0, 1) := by decide +kernel
theorem dX4_bringLastBack_33 : decode cX4_bringLastBack 33 = .ok (.getfield 10, 3) := by decide +kernel
theorem dX4_bringLastBack_36 : decode cX4_bringLastBack 36 = .ok (.iload_n 2, 1) := by decide +kernel
theorem dX4_bringLastBack_37 : decode cX4_bringLastBack 37 = .ok (.invokevirtual 291, 3) := by decide +kernel
theorem dX4_bringLastBack_40 : decode cX4_bringLastBack 40 = .ok (.aload_n 0, 1) := by decide +kernel
theorem dX4_bringLastBack_41 : decode cX4_bringLastBack 41 = .ok (.getfield 10, 3) := by decide +kernel
theorem dX4_bringLastBack_44 : decode cX4_bringLastBack 44 = .ok (.getfield 167, 3) := by decide +kernel
theorem dX4_bringLastBack_47 : decode cX4_bringLastBack 47 = .ok (.iload_n 2, 1) := by decide +kernel
theorem dX4_bringLastBack_48 : decode cX4_bringLastBack 48 = .ok (.invokevirtual 113, 3) := by decide +kernel
theorem dX4_bringLastBack_51 : decode cX4_bringLastBack 51 = .ok (.ineg, 1) := by decide +kernel
theorem dX4_bringLastBack_52 : decode cX4_bringLastBack 52 = .ok (.invokevirtual 294, 3) := by decide +kernel
theorem dX4_bringLastBack_55 : decode cX4_bringLastBack 55 = .ok (.aload_n 0, 1) := by decide +kernel
theorem dX4_bringLastBack_56 : decode cX4_bringLastBack 56 = .ok (.aload_n 1, 1) := by decide +kernel
theorem dX4_bringLastBack_57 : decode cX4_bringLastBack 57 = .ok (.iload_n 2, 1) := by decide +kernel
theorem dX4_bringLastBack_58 : decode cX4_bringLastBack 58 = .ok (.invokevirtual 122, 3) := by decide +kernel
theorem dX4_bringLastBack_61 : decode cX4_bringLastBack 61 = .ok (.return_, 1) := by decide +kernel
set_option maxRecDepth 20000 in
theorem ggX4_waitingAheadOf_X3_size : GoodIn wsX4_waitingAheadOf wsX3_size := goodIn_r _ [6, 7, 30, 31] (by decide +kernel) (by decide +kernel)
set_option maxRecDepth 20000 in
theorem gX4_waitingAheadOf_X3_size : GoodIn wsX4_waitingAheadOf (wsV RX4 132 RX3 yX3_size wsX3_size) := goodIn_app (goodIn_of _ (by decide +kernel)) ggX4_waitingAheadOf_X3_size
set_option maxRecDepth 20000 in
theorem ggX4_waitingAheadOf_X3_get : GoodIn wsX4_waitingAheadOf wsX3_get := goodIn_ca (goodIn_r _ [11, 12, 13, 14, 15, 5, 16, 7, 30, 31] (by decide +kernel) (by decide +kernel)) (goodIn_sub (fun _ h => List.mem_cons_of_mem _ (List.mem_append_right _ h)) (by decide +kernel))
set_option maxRecDepth 20000 in
theorem gX4_waitingAheadOf_X3_get : GoodIn wsX4_waitingAheadOf (wsV RX4 113 RX3 yX3_get wsX3_get) := goodIn_app (goodIn_of _ (by decide +kernel)) ggX4_waitingAheadOf_X3_get
theorem dX4_waitingAheadOf_0 : decode cX4_waitingAheadOf 0 = .ok (.iconst 0, 1) := by decide +kernel
theorem dX4_waitingAheadOf_1 : decode cX4_waitingAheadOf 1 = .ok (.istore_n 3, 1) := by decide +kernel
theorem dX4_waitingAheadOf_2 : decode cX4_waitingAheadOf 2 = .ok (.iload_n 3, 1) := by decide +kernel
theorem dX4_waitingAheadOf_3 : decode cX4_waitingAheadOf 3 = .ok (.aload_n 1, 1) := by decide +kernel
theorem dX4_waitingAheadOf_4 : decode cX4_waitingAheadOf 4 = .ok (.getfield 71, 3) := by decide +kernel
theorem dX4_waitingAheadOf_7 : decode cX4_waitingAheadOf 7 = .ok (.invokevirtual 132, 3) := by decide +kernel
theorem dX4_waitingAheadOf_10 : decode cX4_waitingAheadOf 10 = .ok (.if_icmp .ge 31, 3) := by decide +kernel
theorem dX4_waitingAheadOf_13 : decode cX4_waitingAheadOf 13 = .ok (.aload_n 0, 1) := by decide +kernel
theorem dX4_waitingAheadOf_14 : decode cX4_waitingAheadOf 14 = .ok (.getfield 10, 3) := by decide +kernel
theorem dX4_waitingAheadOf_17 : decode cX4_waitingAheadOf 17 = .ok (.getfield 110, 3) := by decide +kernel
theorem dX4_waitingAheadOf_20 : decode cX4_waitingAheadOf 20 = .ok (.aload_n 1, 1) := by decide +kernel
theorem dX4_waitingAheadOf_21 : decode cX4_waitingAheadOf 21 = .ok (.getfield 71, 3) := by decide +kernel
theorem dX4_waitingAheadOf_24 : decode cX4_waitingAheadOf 24 = .ok (.iload_n 3, 1) := by decide +kernel
theorem dX4_waitingAheadOf_25 : decode cX4_waitingAheadOf 25 = .ok (.invokevirtual 113, 3) := by decide +kernel
theorem dX4_waitingAheadOf_28 : decode cX4_waitingAheadOf 28 = .ok (.invokevirtual 113, 3) := by decide +kernel
theorem dX4_waitingAheadOf_31 : decode cX4_waitingAheadOf 31 = .ok (.iload_n 2, 1) := by decide +kernel
theorem dX4_waitingAheadOf_32 : decode cX4_waitingAheadOf 32 = .ok (.if_icmp .ge 9, 3) := by decide +kernel
theorem dX4_waitingAheadOf_35 : decode cX4_waitingAheadOf 35 = .ok (.iinc 3 1, 3) := by decide +kernel
theorem dX4_waitingAheadOf_38 : decode cX4_waitingAheadOf 38 = .ok (.goto (-36), 3) := by decide +kernel
theorem dX4_waitingAheadOf_41 : decode cX4_waitingAheadOf 41 = .ok (.iload_n 3, 1) := by decide +kernel
theorem dX4_waitingAheadOf_42 : decode cX4_waitingAheadOf 42 = .ok (.ireturn, 1) := by decide +kernel
set_option maxRecDepth 20000 in
theorem ggX4_cameBehind_X3_size : GoodIn wsX4_cameBehind wsX3_size := goodIn_r _ [6, 7, 30, 31] (by decide +kernel) (by decide +kernel)
set_option maxRecDepth 20000 in
theorem gX4_cameBehind_X3_size : GoodIn wsX4_cameBehind (wsV RX4 132 RX3 yX3_size wsX3_size) := goodIn_app (goodIn_of _ (by decide +kernel)) ggX4_cameBehind_X3_size
set_option maxRecDepth 20000 in
theorem ggX4_cameBehind_X3_get : GoodIn wsX4_cameBehind wsX3_get := goodIn_ca (goodIn_r _ [11, 12, 13, 14, 15, 5, 16, 7, 30, 31] (by decide +kernel) (by decide +kernel)) (goodIn_sub (fun _ h => List.mem_cons_of_mem _ (List.mem_append_right _ h)) (by decide +kernel))
set_option maxRecDepth 20000 in
theorem gX4_cameBehind_X3_get : GoodIn wsX4_cameBehind (wsV RX4 113 RX3 yX3_get wsX3_get) := goodIn_app (goodIn_of _ (by decide +kernel)) ggX4_cameBehind_X3_get
theorem dX4_cameBehind_0 : decode cX4_cameBehind 0 = .ok (.aload_n 1, 1) := by decide +kernel
theorem dX4_cameBehind_1 : decode cX4_cameBehind 1 = .ok (.getfield 150, 3) := by decide +kernel
theorem dX4_cameBehind_4 : decode cX4_cameBehind 4 = .ok (.invokevirtual 132, 3) := by decide +kernel
theorem dX4_cameBehind_7 : decode cX4_cameBehind 7 = .ok (.istore_n 3, 1) := by decide +kernel
theorem dX4_cameBehind_8 : decode cX4_cameBehind 8 = .ok (.iload_n 3, 1) := by decide +kernel
theorem dX4_cameBehind_9 : decode cX4_cameBehind 9 = .ok (.ifCond .le 33, 3) := by decide +kernel
theorem dX4_cameBehind_12 : decode cX4_cameBehind 12 = .ok (.aload_n 0, 1) := by decide +kernel
theorem dX4_cameBehind_13 : decode cX4_cameBehind 13 = .ok (.getfield 10, 3) := by decide +kernel
theorem dX4_cameBehind_16 : decode cX4_cameBehind 16 = .ok (.getfield 110, 3) := by decide +kernel
theorem dX4_cameBehind_19 : decode cX4_cameBehind 19 = .ok (.aload_n 1, 1) := by decide +kernel
theorem dX4_cameBehind_20 : decode cX4_cameBehind 20 = .ok (.getfield 150, 3) := by decide +kernel
theorem dX4_cameBehind_23 : decode cX4_cameBehind 23 = .ok (.iload_n 3, 1) := by decide +kernel
theorem dX4_cameBehind_24 : decode cX4_cameBehind 24 = .ok (.iconst 1, 1) := by decide +kernel
theorem dX4_cameBehind_25 : decode cX4_cameBehind 25 = .ok (.isub, 1) := by decide +kernel
theorem dX4_cameBehind_26 : decode cX4_cameBehind 26 = .ok (.invokevirtual 113, 3) := by decide +kernel
theorem dX4_cameBehind_29 : decode cX4_cameBehind 29 = .ok (.invokevirtual 113, 3) := by decide +kernel
theorem dX4_cameBehind_32 : decode cX4_cameBehind 32 = .ok (.iload_n 2, 1) := by decide +kernel
theorem dX4_cameBehind_33 : decode cX4_cameBehind 33 = .ok (.if_icmp .le 9, 3) := by decide +kernel
theorem dX4_cameBehind_36 : decode cX4_cameBehind 36 = .ok (.iinc 3 (-1), 3) := by decide +kernel
theorem dX4_cameBehind_39 : decode cX4_cameBehind 39 = .ok (.goto (-31), 3) := by decide +kernel
theorem dX4_cameBehind_42 : decode cX4_cameBehind 42 = .ok (.aload_n 1, 1) := by decide +kernel
theorem dX4_cameBehind_43 : decode cX4_cameBehind 43 = .ok (.getfield 150, 3) := by decide +kernel
theorem dX4_cameBehind_46 : decode cX4_cameBehind 46 = .ok (.invokevirtual 132, 3) := by decide +kernel
theorem dX4_cameBehind_49 : decode cX4_cameBehind 49 = .ok (.iload_n 3, 1) := by decide +kernel
theorem dX4_cameBehind_50 : decode cX4_cameBehind 50 = .ok (.isub, 1) := by decide +kernel
theorem dX4_cameBehind_51 : decode cX4_cameBehind 51 = .ok (.ireturn, 1) := by decide +kernel
set_option maxRecDepth 20000 in
theorem ggX4_withHouse_X4_withRow : GoodIn wsX4_withHouse wsX4_withRow := goodIn_ca (goodIn_r _ [5, 1, 6, 7, 8, 9, 10, 11, 12, 13, 14, 15, 16, 17, 18, 19, 20, 28, 29] (by decide +kernel) (by decide +kernel)) (goodIn_sub (fun _ h => List.mem_cons_of_mem _ (List.mem_append_right _ h)) (by decide +kernel))
set_option maxRecDepth 20000 in
theorem gX4_withHouse_X4_withRow : GoodIn wsX4_withHouse (va_wsS RX4 299 yX4_withRow wsX4_withRow) := goodIn_app (goodIn_of _ (by decide +kernel)) ggX4_withHouse_X4_withRow
set_option maxRecDepth 20000 in
theorem ggX4_withHouse_X3_size : GoodIn wsX4_withHouse wsX3_size := goodIn_r _ [10, 11, 28, 29] (by decide +kernel) (by decide +kernel)
set_option maxRecDepth 20000 in
theorem gX4_withHouse_X3_size : GoodIn wsX4_withHouse (wsV RX4 132 RX3 yX3_size wsX3_size) := goodIn_app (goodIn_of _ (by decide +kernel)) ggX4_withHouse_X3_size
set_option maxRecDepth 20000 in
theorem ggX4_withHouse_X3_get : GoodIn wsX4_withHouse wsX3_get := goodIn_ca (goodIn_r _ [15, 16, 17, 18, 19, 9, 20, 11, 28, 29] (by decide +kernel) (by decide +kernel)) (goodIn_sub (fun _ h => List.mem_cons_of_mem _ (List.mem_append_right _ h)) (by decide +kernel))
set_option maxRecDepth 20000 in
theorem gX4_withHouse_X3_get : GoodIn wsX4_withHouse (wsV RX4 113 RX3 yX3_get wsX3_get) := goodIn_app (goodIn_of _ (by decide +kernel)) ggX4_withHouse_X3_get
theorem dX4_withHouse_0 : decode cX4_withHouse 0 = .ok (.ldc2_w 297, 3) := by decide +kernel
theorem dX4_withHouse_3 : decode cX4_withHouse 3 = .ok (.lload_n 0, 1) := by decide +kernel
theorem dX4_withHouse_4 : decode cX4_withHouse 4 = .ok (.lmul, 1) := by decide +kernel
theorem dX4_withHouse_5 : decode cX4_withHouse 5 = .ok (.aload_n 2, 1) := by decide +kernel
theorem dX4_withHouse_6 : decode cX4_withHouse 6 = .ok (.getfield 101, 3) := by decide +kernel
theorem dX4_withHouse_9 : decode cX4_withHouse 9 = .ok (.i2l, 1) := by decide +kernel
theorem dX4_withHouse_10 : decode cX4_withHouse 10 = .ok (.ladd, 1) := by decide +kernel
theorem dX4_withHouse_11 : decode cX4_withHouse 11 = .ok (.lstore_n 3, 1) := by decide +kernel
theorem dX4_withHouse_12 : decode cX4_withHouse 12 = .ok (.lload_n 3, 1) := by decide +kernel
theorem dX4_withHouse_13 : decode cX4_withHouse 13 = .ok (.aload_n 2, 1) := by decide +kernel
theorem dX4_withHouse_14 : decode cX4_withHouse 14 = .ok (.getfield 71, 3) := by decide +kernel
theorem dX4_withHouse_17 : decode cX4_withHouse 17 = .ok (.invokestatic 299, 3) := by decide +kernel
theorem dX4_withHouse_20 : decode cX4_withHouse 20 = .ok (.lstore_n 3, 1) := by decide +kernel
theorem dX4_withHouse_21 : decode cX4_withHouse 21 = .ok (.lload_n 3, 1) := by decide +kernel
theorem dX4_withHouse_22 : decode cX4_withHouse 22 = .ok (.aload_n 2, 1) := by decide +kernel
theorem dX4_withHouse_23 : decode cX4_withHouse 23 = .ok (.getfield 150, 3) := by decide +kernel
theorem dX4_withHouse_26 : decode cX4_withHouse 26 = .ok (.invokestatic 299, 3) := by decide +kernel
theorem dX4_withHouse_29 : decode cX4_withHouse 29 = .ok (.lstore_n 3, 1) := by decide +kernel
theorem dX4_withHouse_30 : decode cX4_withHouse 30 = .ok (.iconst 0, 1) := by decide +kernel
theorem dX4_withHouse_31 : decode cX4_withHouse 31 = .ok (.istore 5, 2) := by decide +kernel
theorem dX4_withHouse_33 : decode cX4_withHouse 33 = .ok (.iload 5, 2) := by decide +kernel
theorem dX4_withHouse_35 : decode cX4_withHouse 35 = .ok (.aload_n 2, 1) := by decide +kernel
theorem dX4_withHouse_36 : decode cX4_withHouse 36 = .ok (.getfield 178, 3) := by decide +kernel
theorem dX4_withHouse_39 : decode cX4_withHouse 39 = .ok (.getfield 213, 3) := by decide +kernel
theorem dX4_withHouse_42 : decode cX4_withHouse 42 = .ok (.invokevirtual 132, 3) := by decide +kernel
theorem dX4_withHouse_45 : decode cX4_withHouse 45 = .ok (.if_icmp .ge 49, 3) := by decide +kernel
theorem dX4_withHouse_48 : decode cX4_withHouse 48 = .ok (.ldc2_w 297, 3) := by decide +kernel
theorem dX4_withHouse_51 : decode cX4_withHouse 51 = .ok (.lload_n 3, 1) := by decide +kernel
theorem dX4_withHouse_52 : decode cX4_withHouse 52 = .ok (.lmul, 1) := by decide +kernel
theorem dX4_withHouse_53 : decode cX4_withHouse 53 = .ok (.aload_n 2, 1) := by decide +kernel
theorem dX4_withHouse_54 : decode cX4_withHouse 54 = .ok (.getfield 178, 3) := by decide +kernel
theorem dX4_withHouse_57 : decode cX4_withHouse 57 = .ok (.getfield 213, 3) := by decide +kernel
theorem dX4_withHouse_60 : decode cX4_withHouse 60 = .ok (.iload 5, 2) := by decide +kernel
theorem dX4_withHouse_62 : decode cX4_withHouse 62 = .ok (.invokevirtual 113, 3) := by decide +kernel
theorem dX4_withHouse_65 : decode cX4_withHouse 65 = .ok (.i2l, 1) := by decide +kernel
theorem dX4_withHouse_66 : decode cX4_withHouse 66 = .ok (.ladd, 1) := by decide +kernel
theorem dX4_withHouse_67 : decode cX4_withHouse 67 = .ok (.lstore_n 3, 1) := by decide +kernel
theorem dX4_withHouse_68 : decode cX4_withHouse 68 = .ok (.ldc2_w 297, 3) := by decide +kernel
theorem dX4_withHouse_71 : decode cX4_withHouse 71 = .ok (.lload_n 3, 1) := by decide +kernel
theorem dX4_withHouse_72 : decode cX4_withHouse 72 = .ok (.lmul, 1) := by decide +kernel
theorem dX4_withHouse_73 : decode cX4_withHouse 73 = .ok (.aload_n 2, 1) := by decide +kernel
theorem dX4_withHouse_74 : decode cX4_withHouse 74 = .ok (.getfield 178, 3) := by decide +kernel
theorem dX4_withHouse_77 : decode cX4_withHouse 77 = .ok (.getfield 303, 3) := by decide +kernel
theorem dX4_withHouse_80 : decode cX4_withHouse 80 = .ok (.iload 5, 2) := by decide +kernel
theorem dX4_withHouse_82 : decode cX4_withHouse 82 = .ok (.invokevirtual 113, 3) := by decide +kernel
theorem dX4_withHouse_85 : decode cX4_withHouse 85 = .ok (.i2l, 1) := by decide +kernel
theorem dX4_withHouse_86 : decode cX4_withHouse 86 = .ok (.ladd, 1) := by decide +kernel
theorem dX4_withHouse_87 : decode cX4_withHouse 87 = .ok (.lstore_n 3, 1) := by decide +kernel
theorem dX4_withHouse_88 : decode cX4_withHouse 88 = .ok (.iinc 5 1, 3) := by decide +kernel
theorem dX4_withHouse_91 : decode cX4_withHouse 91 = .ok (.goto (-58), 3) := by decide +kernel
theorem dX4_withHouse_94 : decode cX4_withHouse 94 = .ok (.lload_n 3, 1) := by decide +kernel
theorem dX4_withHouse_95 : decode cX4_withHouse 95 = .ok (.lreturn, 1) := by decide +kernel
set_option maxRecDepth 20000 in
theorem ggX4_withRow_X3_size : GoodIn wsX4_withRow wsX3_size := goodIn_r _ [6, 7, 17, 18] (by decide +kernel) (by decide +kernel)
set_option maxRecDepth 20000 in
theorem gX4_withRow_X3_size : GoodIn wsX4_withRow (wsV RX4 132 RX3 yX3_size wsX3_size) := goodIn_app (goodIn_of _ (by decide +kernel)) ggX4_withRow_X3_size
set_option maxRecDepth 20000 in
theorem ggX4_withRow_X3_get : GoodIn wsX4_withRow wsX3_get := goodIn_ca (goodIn_r _ [11, 12, 13, 14, 15, 5, 16, 7, 17, 18] (by decide +kernel) (by decide +kernel)) (goodIn_sub (fun _ h => List.mem_cons_of_mem _ (List.mem_append_right _ h)) (by decide +kernel))
set_option maxRecDepth 20000 in
theorem gX4_withRow_X3_get : GoodIn wsX4_withRow (wsV RX4 113 RX3 yX3_get wsX3_get) := goodIn_app (goodIn_of _ (by decide +kernel)) ggX4_withRow_X3_get
theorem dX4_withRow_0 : decode cX4_withRow 0 = .ok (.ldc2_w 297, 3) := by decide +kernel
theorem dX4_withRow_3 : decode cX4_withRow 3 = .ok (.lload_n 0, 1) := by decide +kernel
theorem dX4_withRow_4 : decode cX4_withRow 4 = .ok (.lmul, 1) := by decide +kernel
theorem dX4_withRow_5 : decode cX4_withRow 5 = .ok (.aload_n 2, 1) := by decide +kernel
theorem dX4_withRow_6 : decode cX4_withRow 6 = .ok (.invokevirtual 132, 3) := by decide +kernel
theorem dX4_withRow_9 : decode cX4_withRow 9 = .ok (.i2l, 1) := by decide +kernel
theorem dX4_withRow_10 : decode cX4_withRow 10 = .ok (.ladd, 1) := by decide +kernel
theorem dX4_withRow_11 : decode cX4_withRow 11 = .ok (.lstore_n 3, 1) := by decide +kernel
theorem dX4_withRow_12 : decode cX4_withRow 12 = .ok (.iconst 0, 1) := by decide +kernel
theorem dX4_withRow_13 : decode cX4_withRow 13 = .ok (.istore 5, 2) := by decide +kernel
theorem dX4_withRow_15 : decode cX4_withRow 15 = .ok (.iload 5, 2) := by decide +kernel
theorem dX4_withRow_17 : decode cX4_withRow 17 = .ok (.aload_n 2, 1) := by decide +kernel
theorem dX4_withRow_18 : decode cX4_withRow 18 = .ok (.invokevirtual 132, 3) := by decide +kernel
theorem dX4_withRow_21 : decode cX4_withRow 21 = .ok (.if_icmp .ge 23, 3) := by decide +kernel
theorem dX4_withRow_24 : decode cX4_withRow 24 = .ok (.ldc2_w 297, 3) := by decide +kernel
theorem dX4_withRow_27 : decode cX4_withRow 27 = .ok (.lload_n 3, 1) := by decide +kernel
theorem dX4_withRow_28 : decode cX4_withRow 28 = .ok (.lmul, 1) := by decide +kernel
theorem dX4_withRow_29 : decode cX4_withRow 29 = .ok (.aload_n 2, 1) := by decide +kernel
theorem dX4_withRow_30 : decode cX4_withRow 30 = .ok (.iload 5, 2) := by decide +kernel
theorem dX4_withRow_32 : decode cX4_withRow 32 = .ok (.invokevirtual 113, 3) := by decide +kernel
theorem dX4_withRow_35 : decode cX4_withRow 35 = .ok (.i2l, 1) := by decide +kernel
theorem dX4_withRow_36 : decode cX4_withRow 36 = .ok (.ladd, 1) := by decide +kernel
theorem dX4_withRow_37 : decode cX4_withRow 37 = .ok (.lstore_n 3, 1) := by decide +kernel
theorem dX4_withRow_38 : decode cX4_withRow 38 = .ok (.iinc 5 1, 3) := by decide +kernel
theorem dX4_withRow_41 : decode cX4_withRow 41 = .ok (.goto (-26), 3) := by decide +kernel
theorem dX4_withRow_44 : decode cX4_withRow 44 = .ok (.lload_n 3, 1) := by decide +kernel
theorem dX4_withRow_45 : decode cX4_withRow 45 = .ok (.lreturn, 1) := by decide +kernel
set_option maxRecDepth 20000 in
theorem ggX4_isOneThingOnce_X3_count : GoodIn wsX4_isOneThingOnce wsX3_count := goodIn_ca (goodIn_r _ [7, 8, 9, 10, 11, 6, 12, 13, 14, 15, 16, 17, 36, 37] (by decide +kernel) (by decide +kernel)) (goodIn_sub (fun _ h => List.mem_cons_of_mem _ (List.mem_append_right _ h)) (by decide +kernel))
set_option maxRecDepth 20000 in
theorem gX4_isOneThingOnce_X3_count : GoodIn wsX4_isOneThingOnce (wsV RX4 306 RX3 yX3_count wsX3_count) := goodIn_app (goodIn_of _ (by decide +kernel)) ggX4_isOneThingOnce_X3_count
set_option maxRecDepth 20000 in
theorem ggX4_isOneThingOnce_X3_get : GoodIn wsX4_isOneThingOnce wsX3_get := goodIn_ca (goodIn_r _ [12, 13, 14, 15, 16, 6, 17, 8, 36, 37] (by decide +kernel) (by decide +kernel)) (goodIn_sub (fun _ h => List.mem_cons_of_mem _ (List.mem_append_right _ h)) (by decide +kernel))
set_option maxRecDepth 20000 in
theorem gX4_isOneThingOnce_X3_get : GoodIn wsX4_isOneThingOnce (wsV RX4 113 RX3 yX3_get wsX3_get) := goodIn_app (goodIn_of _ (by decide +kernel)) ggX4_isOneThingOnce_X3_get
set_option maxRecDepth 20000 in
theorem ggX4_isOneThingOnce_X4_isIn : GoodIn wsX4_isOneThingOnce wsX4_isIn := goodIn_r _ [22] (by decide +kernel) (by decide +kernel)
set_option maxRecDepth 20000 in
theorem gX4_isOneThingOnce_X4_isIn : GoodIn wsX4_isOneThingOnce (va_wsS RX4 61 yX4_isIn wsX4_isIn) := goodIn_app (goodIn_of _ (by decide +kernel)) ggX4_isOneThingOnce_X4_isIn
theorem dX4_isOneThingOnce_0 : decode cX4_isOneThingOnce 0 = .ok (.iconst 0, 1) := by decide +kernel
theorem dX4_isOneThingOnce_1 : decode cX4_isOneThingOnce 1 = .ok (.istore_n 2, 1) := by decide +kernel
theorem dX4_isOneThingOnce_2 : decode cX4_isOneThingOnce 2 = .ok (.iconst 0, 1) := by decide +kernel
theorem dX4_isOneThingOnce_3 : decode cX4_isOneThingOnce 3 = .ok (.istore_n 3, 1) := by decide +kernel
theorem dX4_isOneThingOnce_4 : decode cX4_isOneThingOnce 4 = .ok (.aload_n 0, 1) := by decide +kernel
theorem dX4_isOneThingOnce_5 : decode cX4_isOneThingOnce 5 = .ok (.getfield 18, 3) := by decide +kernel
theorem dX4_isOneThingOnce_8 : decode cX4_isOneThingOnce 8 = .ok (.astore 4, 2) := by decide +kernel
theorem dX4_isOneThingOnce_10 : decode cX4_isOneThingOnce 10 = .ok (.aload 4, 2) := by decide +kernel
theorem dX4_isOneThingOnce_12 : decode cX4_isOneThingOnce 12 = .ok (.arraylength, 1) := by decide +kernel
theorem dX4_isOneThingOnce_13 : decode cX4_isOneThingOnce 13 = .ok (.istore 5, 2) := by decide +kernel
theorem dX4_isOneThingOnce_15 : decode cX4_isOneThingOnce 15 = .ok (.iconst 0, 1) := by decide +kernel
theorem dX4_isOneThingOnce_16 : decode cX4_isOneThingOnce 16 = .ok (.istore 6, 2) := by decide +kernel
theorem dX4_isOneThingOnce_18 : decode cX4_isOneThingOnce 18 = .ok (.iload 6, 2) := by decide +kernel
theorem dX4_isOneThingOnce_20 : decode cX4_isOneThingOnce 20 = .ok (.iload 5, 2) := by decide +kernel
theorem dX4_isOneThingOnce_22 : decode cX4_isOneThingOnce 22 = .ok (.if_icmp .ge 45, 3) := by decide +kernel
theorem dX4_isOneThingOnce_25 : decode cX4_isOneThingOnce 25 = .ok (.aload 4, 2) := by decide +kernel
theorem dX4_isOneThingOnce_27 : decode cX4_isOneThingOnce 27 = .ok (.iload 6, 2) := by decide +kernel
theorem dX4_isOneThingOnce_29 : decode cX4_isOneThingOnce 29 = .ok (.aaload, 1) := by decide +kernel
theorem dX4_isOneThingOnce_30 : decode cX4_isOneThingOnce 30 = .ok (.astore 7, 2) := by decide +kernel
theorem dX4_isOneThingOnce_32 : decode cX4_isOneThingOnce 32 = .ok (.aload 7, 2) := by decide +kernel
theorem dX4_isOneThingOnce_34 : decode cX4_isOneThingOnce 34 = .ok (.ifnull 27, 3) := by decide +kernel
theorem dX4_isOneThingOnce_37 : decode cX4_isOneThingOnce 37 = .ok (.iload_n 2, 1) := by decide +kernel
theorem dX4_isOneThingOnce_38 : decode cX4_isOneThingOnce 38 = .ok (.aload 7, 2) := by decide +kernel
theorem dX4_isOneThingOnce_40 : decode cX4_isOneThingOnce 40 = .ok (.getfield 71, 3) := by decide +kernel
theorem dX4_isOneThingOnce_43 : decode cX4_isOneThingOnce 43 = .ok (.iload_n 1, 1) := by decide +kernel
theorem dX4_isOneThingOnce_44 : decode cX4_isOneThingOnce 44 = .ok (.invokevirtual 306, 3) := by decide +kernel
theorem dX4_isOneThingOnce_47 : decode cX4_isOneThingOnce 47 = .ok (.iadd, 1) := by decide +kernel
theorem dX4_isOneThingOnce_48 : decode cX4_isOneThingOnce 48 = .ok (.istore_n 2, 1) := by decide +kernel
theorem dX4_isOneThingOnce_49 : decode cX4_isOneThingOnce 49 = .ok (.iload_n 3, 1) := by decide +kernel
theorem dX4_isOneThingOnce_50 : decode cX4_isOneThingOnce 50 = .ok (.aload 7, 2) := by decide +kernel
theorem dX4_isOneThingOnce_52 : decode cX4_isOneThingOnce 52 = .ok (.getfield 150, 3) := by decide +kernel
theorem dX4_isOneThingOnce_55 : decode cX4_isOneThingOnce 55 = .ok (.iload_n 1, 1) := by decide +kernel
theorem dX4_isOneThingOnce_56 : decode cX4_isOneThingOnce 56 = .ok (.invokevirtual 306, 3) := by decide +kernel
theorem dX4_isOneThingOnce_59 : decode cX4_isOneThingOnce 59 = .ok (.iadd, 1) := by decide +kernel
theorem dX4_isOneThingOnce_60 : decode cX4_isOneThingOnce 60 = .ok (.istore_n 3, 1) := by decide +kernel
theorem dX4_isOneThingOnce_61 : decode cX4_isOneThingOnce 61 = .ok (.iinc 6 1, 3) := by decide +kernel
theorem dX4_isOneThingOnce_64 : decode cX4_isOneThingOnce 64 = .ok (.goto (-46), 3) := by decide +kernel
theorem dX4_isOneThingOnce_67 : decode cX4_isOneThingOnce 67 = .ok (.aload_n 0, 1) := by decide +kernel
theorem dX4_isOneThingOnce_68 : decode cX4_isOneThingOnce 68 = .ok (.getfield 10, 3) := by decide +kernel
theorem dX4_isOneThingOnce_71 : decode cX4_isOneThingOnce 71 = .ok (.getfield 173, 3) := by decide +kernel
theorem dX4_isOneThingOnce_74 : decode cX4_isOneThingOnce 74 = .ok (.iload_n 1, 1) := by decide +kernel
theorem dX4_isOneThingOnce_75 : decode cX4_isOneThingOnce 75 = .ok (.invokevirtual 113, 3) := by decide +kernel
theorem dX4_isOneThingOnce_78 : decode cX4_isOneThingOnce 78 = .ok (.istore 4, 2) := by decide +kernel
theorem dX4_isOneThingOnce_80 : decode cX4_isOneThingOnce 80 = .ok (.iload 4, 2) := by decide +kernel
theorem dX4_isOneThingOnce_82 : decode cX4_isOneThingOnce 82 = .ok (.iconst 0, 1) := by decide +kernel
theorem dX4_isOneThingOnce_83 : decode cX4_isOneThingOnce 83 = .ok (.iconst 2, 1) := by decide +kernel
theorem dX4_isOneThingOnce_84 : decode cX4_isOneThingOnce 84 = .ok (.invokestatic 61, 3) := by decide +kernel
theorem dX4_isOneThingOnce_87 : decode cX4_isOneThingOnce 87 = .ok (.ifCond .eq 36, 3) := by decide +kernel
theorem dX4_isOneThingOnce_90 : decode cX4_isOneThingOnce 90 = .ok (.iload_n 2, 1) := by decide +kernel
theorem dX4_isOneThingOnce_91 : decode cX4_isOneThingOnce 91 = .ok (.iload 4, 2) := by decide +kernel
theorem dX4_isOneThingOnce_93 : decode cX4_isOneThingOnce 93 = .ok (.ifCond .ne 7, 3) := by decide +kernel
theorem dX4_isOneThingOnce_96 : decode cX4_isOneThingOnce 96 = .ok (.iconst 1, 1) := by decide +kernel
theorem dX4_isOneThingOnce_97 : decode cX4_isOneThingOnce 97 = .ok (.goto 4, 3) := by decide +kernel
theorem dX4_isOneThingOnce_100 : decode cX4_isOneThingOnce 100 = .ok (.iconst 0, 1) := by decide +kernel
theorem dX4_isOneThingOnce_101 : decode cX4_isOneThingOnce 101 = .ok (.if_icmp .ne 22, 3) := by decide +kernel
theorem dX4_isOneThingOnce_104 : decode cX4_isOneThingOnce 104 = .ok (.iload_n 3, 1) := by decide +kernel
theorem dX4_isOneThingOnce_105 : decode cX4_isOneThingOnce 105 = .ok (.iload 4, 2) := by decide +kernel
theorem dX4_isOneThingOnce_107 : decode cX4_isOneThingOnce 107 = .ok (.iconst 1, 1) := by decide +kernel
theorem dX4_isOneThingOnce_108 : decode cX4_isOneThingOnce 108 = .ok (.if_icmp .ne 7, 3) := by decide +kernel
theorem dX4_isOneThingOnce_111 : decode cX4_isOneThingOnce 111 = .ok (.iconst 1, 1) := by decide +kernel
theorem dX4_isOneThingOnce_112 : decode cX4_isOneThingOnce 112 = .ok (.goto 4, 3) := by decide +kernel
theorem dX4_isOneThingOnce_115 : decode cX4_isOneThingOnce 115 = .ok (.iconst 0, 1) := by decide +kernel
theorem dX4_isOneThingOnce_116 : decode cX4_isOneThingOnce 116 = .ok (.if_icmp .ne 7, 3) := by decide +kernel
theorem dX4_isOneThingOnce_119 : decode cX4_isOneThingOnce 119 = .ok (.iconst 1, 1) := by decide +kernel
theorem dX4_isOneThingOnce_120 : decode cX4_isOneThingOnce 120 = .ok (.goto 4, 3) := by decide +kernel
theorem dX4_isOneThingOnce_123 : decode cX4_isOneThingOnce 123 = .ok (.iconst 0, 1) := by decide +kernel
theorem dX4_isOneThingOnce_124 : decode cX4_isOneThingOnce 124 = .ok (.ireturn, 1) := by decide +kernel
set_option maxRecDepth 20000 in
theorem ggX4_isSplitByClock_X3_size : GoodIn wsX4_isSplitByClock wsX3_size := goodIn_r _ [6, 7, 30, 31] (by decide +kernel) (by decide +kernel)
set_option maxRecDepth 20000 in
theorem gX4_isSplitByClock_X3_size : GoodIn wsX4_isSplitByClock (wsV RX4 132 RX3 yX3_size wsX3_size) := goodIn_app (goodIn_of _ (by decide +kernel)) ggX4_isSplitByClock_X3_size
set_option maxRecDepth 20000 in
theorem ggX4_isSplitByClock_X3_get : GoodIn wsX4_isSplitByClock wsX3_get := goodIn_ca (goodIn_r _ [11, 12, 13, 14, 15, 5, 16, 7, 30, 31] (by decide +kernel) (by decide +kernel)) (goodIn_sub (fun _ h => List.mem_cons_of_mem _ (List.mem_append_right _ h)) (by decide +kernel))
set_option maxRecDepth 20000 in
theorem gX4_isSplitByClock_X3_get : GoodIn wsX4_isSplitByClock (wsV RX4 113 RX3 yX3_get wsX3_get) := goodIn_app (goodIn_of _ (by decide +kernel)) ggX4_isSplitByClock_X3_get
theorem dX4_isSplitByClock_0 : decode cX4_isSplitByClock 0 = .ok (.iconst 0, 1) := by decide +kernel
theorem dX4_isSplitByClock_1 : decode cX4_isSplitByClock 1 = .ok (.istore_n 2, 1) := by decide +kernel
theorem dX4_isSplitByClock_2 : decode cX4_isSplitByClock 2 = .ok (.iload_n 2, 1) := by decide +kernel
theorem dX4_isSplitByClock_3 : decode cX4_isSplitByClock 3 = .ok (.aload_n 1, 1) := by decide +kernel
theorem dX4_isSplitByClock_4 : decode cX4_isSplitByClock 4 = .ok (.getfield 71, 3) := by decide +kernel
theorem dX4_isSplitByClock_7 : decode cX4_isSplitByClock 7 = .ok (.invokevirtual 132, 3) := by decide +kernel
theorem dX4_isSplitByClock_10 : decode cX4_isSplitByClock 10 = .ok (.if_icmp .ge 56, 3) := by decide +kernel
theorem dX4_isSplitByClock_13 : decode cX4_isSplitByClock 13 = .ok (.aload_n 1, 1) := by decide +kernel
theorem dX4_isSplitByClock_14 : decode cX4_isSplitByClock 14 = .ok (.getfield 71, 3) := by decide +kernel
theorem dX4_isSplitByClock_17 : decode cX4_isSplitByClock 17 = .ok (.iload_n 2, 1) := by decide +kernel
theorem dX4_isSplitByClock_18 : decode cX4_isSplitByClock 18 = .ok (.invokevirtual 113, 3) := by decide +kernel
theorem dX4_isSplitByClock_21 : decode cX4_isSplitByClock 21 = .ok (.istore_n 3, 1) := by decide +kernel
theorem dX4_isSplitByClock_22 : decode cX4_isSplitByClock 22 = .ok (.aload_n 0, 1) := by decide +kernel
theorem dX4_isSplitByClock_23 : decode cX4_isSplitByClock 23 = .ok (.getfield 10, 3) := by decide +kernel
theorem dX4_isSplitByClock_26 : decode cX4_isSplitByClock 26 = .ok (.getfield 110, 3) := by decide +kernel
theorem dX4_isSplitByClock_29 : decode cX4_isSplitByClock 29 = .ok (.iload_n 3, 1) := by decide +kernel
theorem dX4_isSplitByClock_30 : decode cX4_isSplitByClock 30 = .ok (.invokevirtual 113, 3) := by decide +kernel
theorem dX4_isSplitByClock_33 : decode cX4_isSplitByClock 33 = .ok (.aload_n 1, 1) := by decide +kernel
theorem dX4_isSplitByClock_34 : decode cX4_isSplitByClock 34 = .ok (.getfield 101, 3) := by decide +kernel
theorem dX4_isSplitByClock_37 : decode cX4_isSplitByClock 37 = .ok (.if_icmp .lt 21, 3) := by decide +kernel
theorem dX4_isSplitByClock_40 : decode cX4_isSplitByClock 40 = .ok (.aload_n 0, 1) := by decide +kernel
theorem dX4_isSplitByClock_41 : decode cX4_isSplitByClock 41 = .ok (.getfield 10, 3) := by decide +kernel
theorem dX4_isSplitByClock_44 : decode cX4_isSplitByClock 44 = .ok (.getfield 170, 3) := by decide +kernel
theorem dX4_isSplitByClock_47 : decode cX4_isSplitByClock 47 = .ok (.iload_n 3, 1) := by decide +kernel
theorem dX4_isSplitByClock_48 : decode cX4_isSplitByClock 48 = .ok (.invokevirtual 113, 3) := by decide +kernel
theorem dX4_isSplitByClock_51 : decode cX4_isSplitByClock 51 = .ok (.aload_n 1, 1) := by decide +kernel
theorem dX4_isSplitByClock_52 : decode cX4_isSplitByClock 52 = .ok (.getfield 283, 3) := by decide +kernel
theorem dX4_isSplitByClock_55 : decode cX4_isSplitByClock 55 = .ok (.if_icmp .eq 5, 3) := by decide +kernel
theorem dX4_isSplitByClock_58 : decode cX4_isSplitByClock 58 = .ok (.iconst 0, 1) := by decide +kernel
theorem dX4_isSplitByClock_59 : decode cX4_isSplitByClock 59 = .ok (.ireturn, 1) := by decide +kernel
theorem dX4_isSplitByClock_60 : decode cX4_isSplitByClock 60 = .ok (.iinc 2 1, 3) := by decide +kernel
theorem dX4_isSplitByClock_63 : decode cX4_isSplitByClock 63 = .ok (.goto (-61), 3) := by decide +kernel
theorem dX4_isSplitByClock_66 : decode cX4_isSplitByClock 66 = .ok (.iconst 0, 1) := by decide +kernel
theorem dX4_isSplitByClock_67 : decode cX4_isSplitByClock 67 = .ok (.istore_n 2, 1) := by decide +kernel
theorem dX4_isSplitByClock_68 : decode cX4_isSplitByClock 68 = .ok (.iload_n 2, 1) := by decide +kernel
theorem dX4_isSplitByClock_69 : decode cX4_isSplitByClock 69 = .ok (.aload_n 1, 1) := by decide +kernel
theorem dX4_isSplitByClock_70 : decode cX4_isSplitByClock 70 = .ok (.getfield 150, 3) := by decide +kernel
theorem dX4_isSplitByClock_73 : decode cX4_isSplitByClock 73 = .ok (.invokevirtual 132, 3) := by decide +kernel
theorem dX4_isSplitByClock_76 : decode cX4_isSplitByClock 76 = .ok (.if_icmp .ge 56, 3) := by decide +kernel
theorem dX4_isSplitByClock_79 : decode cX4_isSplitByClock 79 = .ok (.aload_n 1, 1) := by decide +kernel
theorem dX4_isSplitByClock_80 : decode cX4_isSplitByClock 80 = .ok (.getfield 150, 3) := by decide +kernel
theorem dX4_isSplitByClock_83 : decode cX4_isSplitByClock 83 = .ok (.iload_n 2, 1) := by decide +kernel
theorem dX4_isSplitByClock_84 : decode cX4_isSplitByClock 84 = .ok (.invokevirtual 113, 3) := by decide +kernel
theorem dX4_isSplitByClock_87 : decode cX4_isSplitByClock 87 = .ok (.istore_n 3, 1) := by decide +kernel
theorem dX4_isSplitByClock_88 : decode cX4_isSplitByClock 88 = .ok (.aload_n 0, 1) := by decide +kernel
theorem dX4_isSplitByClock_89 : decode cX4_isSplitByClock 89 = .ok (.getfield 10, 3) := by decide +kernel
theorem dX4_isSplitByClock_92 : decode cX4_isSplitByClock 92 = .ok (.getfield 110, 3) := by decide +kernel
theorem dX4_isSplitByClock_95 : decode cX4_isSplitByClock 95 = .ok (.iload_n 3, 1) := by decide +kernel
theorem dX4_isSplitByClock_96 : decode cX4_isSplitByClock 96 = .ok (.invokevirtual 113, 3) := by decide +kernel
theorem dX4_isSplitByClock_99 : decode cX4_isSplitByClock 99 = .ok (.aload_n 1, 1) := by decide +kernel
theorem dX4_isSplitByClock_100 : decode cX4_isSplitByClock 100 = .ok (.getfield 101, 3) := by decide +kernel
theorem dX4_isSplitByClock_103 : decode cX4_isSplitByClock 103 = .ok (.if_icmp .gt 21, 3) := by decide +kernel
theorem dX4_isSplitByClock_106 : decode cX4_isSplitByClock 106 = .ok (.aload_n 0, 1) := by decide +kernel
theorem dX4_isSplitByClock_107 : decode cX4_isSplitByClock 107 = .ok (.getfield 10, 3) := by decide +kernel
theorem dX4_isSplitByClock_110 : decode cX4_isSplitByClock 110 = .ok (.getfield 170, 3) := by decide +kernel
theorem dX4_isSplitByClock_113 : decode cX4_isSplitByClock 113 = .ok (.iload_n 3, 1) := by decide +kernel
theorem dX4_isSplitByClock_114 : decode cX4_isSplitByClock 114 = .ok (.invokevirtual 113, 3) := by decide +kernel
theorem dX4_isSplitByClock_117 : decode cX4_isSplitByClock 117 = .ok (.aload_n 1, 1) := by decide +kernel
theorem dX4_isSplitByClock_118 : decode cX4_isSplitByClock 118 = .ok (.getfield 283, 3) := by decide +kernel
theorem dX4_isSplitByClock_121 : decode cX4_isSplitByClock 121 = .ok (.if_icmp .eq 5, 3) := by decide +kernel
theorem dX4_isSplitByClock_124 : decode cX4_isSplitByClock 124 = .ok (.iconst 0, 1) := by decide +kernel
theorem dX4_isSplitByClock_125 : decode cX4_isSplitByClock 125 = .ok (.ireturn, 1) := by decide +kernel
theorem dX4_isSplitByClock_126 : decode cX4_isSplitByClock 126 = .ok (.iinc 2 1, 3) := by decide +kernel
theorem dX4_isSplitByClock_129 : decode cX4_isSplitByClock 129 = .ok (.goto (-61), 3) := by decide +kernel
theorem dX4_isSplitByClock_132 : decode cX4_isSplitByClock 132 = .ok (.aload_n 1, 1) := by decide +kernel
theorem dX4_isSplitByClock_133 : decode cX4_isSplitByClock 133 = .ok (.getfield 71, 3) := by decide +kernel
theorem dX4_isSplitByClock_136 : decode cX4_isSplitByClock 136 = .ok (.invokevirtual 132, 3) := by decide +kernel
theorem dX4_isSplitByClock_139 : decode cX4_isSplitByClock 139 = .ok (.bipush 48, 2) := by decide +kernel
theorem dX4_isSplitByClock_141 : decode cX4_isSplitByClock 141 = .ok (.if_icmp .gt 7, 3) := by decide +kernel
theorem dX4_isSplitByClock_144 : decode cX4_isSplitByClock 144 = .ok (.iconst 1, 1) := by decide +kernel
theorem dX4_isSplitByClock_145 : decode cX4_isSplitByClock 145 = .ok (.goto 4, 3) := by decide +kernel
theorem dX4_isSplitByClock_148 : decode cX4_isSplitByClock 148 = .ok (.iconst 0, 1) := by decide +kernel
theorem dX4_isSplitByClock_149 : decode cX4_isSplitByClock 149 = .ok (.ireturn, 1) := by decide +kernel
set_option maxRecDepth 20000 in
theorem ggX4_standsWithAllOthers_X4_standInSequence : GoodIn wsX4_standsWithAllOthers wsX4_standInSequence := goodIn_ca (goodIn_r _ [6, 7, 8, 9, 10, 11, 12, 13, 14, 15, 16, 17, 18, 19, 20, 21, 22, 23, 24, 25, 26, 27, 28, 29, 30, 31, 32, 38, 39, 40, 41, 42, 43, 44] (by decide +kernel) (by decide +kernel)) (goodIn_sub (fun _ h => List.mem_cons_of_mem _ (List.mem_append_right _ h)) (by decide +kernel))
set_option maxRecDepth 20000 in
theorem gX4_standsWithAllOthers_X4_standInSequence : GoodIn wsX4_standsWithAllOthers (wsV RX4 309 RX4 yX4_standInSequence wsX4_standInSequence) := goodIn_app (goodIn_of _ (by decide +kernel)) ggX4_standsWithAllOthers_X4_standInSequence
theorem dX4_standsWithAllOthers_0 : decode cX4_standsWithAllOthers 0 = .ok (.aload_n 0, 1) := by decide +kernel
theorem dX4_standsWithAllOthers_1 : decode cX4_standsWithAllOthers 1 = .ok (.getfield 18, 3) := by decide +kernel
theorem dX4_standsWithAllOthers_4 : decode cX4_standsWithAllOthers 4 = .ok (.astore_n 2, 1) := by decide +kernel
theorem dX4_standsWithAllOthers_5 : decode cX4_standsWithAllOthers 5 = .ok (.aload_n 2, 1) := by decide +kernel
theorem dX4_standsWithAllOthers_6 : decode cX4_standsWithAllOthers 6 = .ok (.arraylength, 1) := by decide +kernel
theorem dX4_standsWithAllOthers_7 : decode cX4_standsWithAllOthers 7 = .ok (.istore_n 3, 1) := by decide +kernel
theorem dX4_standsWithAllOthers_8 : decode cX4_standsWithAllOthers 8 = .ok (.iconst 0, 1) := by decide +kernel
theorem dX4_standsWithAllOthers_9 : decode cX4_standsWithAllOthers 9 = .ok (.istore 4, 2) := by decide +kernel
theorem dX4_standsWithAllOthers_11 : decode cX4_standsWithAllOthers 11 = .ok (.iload 4, 2) := by decide +kernel
theorem dX4_standsWithAllOthers_13 : decode cX4_standsWithAllOthers 13 = .ok (.iload_n 3, 1) := by decide +kernel
theorem dX4_standsWithAllOthers_14 : decode cX4_standsWithAllOthers 14 = .ok (.if_icmp .ge 50, 3) := by decide +kernel
theorem dX4_standsWithAllOthers_17 : decode cX4_standsWithAllOthers 17 = .ok (.aload_n 2, 1) := by decide +kernel
theorem dX4_standsWithAllOthers_18 : decode cX4_standsWithAllOthers 18 = .ok (.iload 4, 2) := by decide +kernel
theorem dX4_standsWithAllOthers_20 : decode cX4_standsWithAllOthers 20 = .ok (.aaload, 1) := by decide +kernel
theorem dX4_standsWithAllOthers_21 : decode cX4_standsWithAllOthers 21 = .ok (.astore 5, 2) := by decide +kernel
theorem dX4_standsWithAllOthers_23 : decode cX4_standsWithAllOthers 23 = .ok (.aload 5, 2) := by decide +kernel
theorem dX4_standsWithAllOthers_25 : decode cX4_standsWithAllOthers 25 = .ok (.ifnull 33, 3) := by decide +kernel
theorem dX4_standsWithAllOthers_28 : decode cX4_standsWithAllOthers 28 = .ok (.aload 5, 2) := by decide +kernel
theorem dX4_standsWithAllOthers_30 : decode cX4_standsWithAllOthers 30 = .ok (.getfield 283, 3) := by decide +kernel
theorem dX4_standsWithAllOthers_33 : decode cX4_standsWithAllOthers 33 = .ok (.aload_n 1, 1) := by decide +kernel
theorem dX4_standsWithAllOthers_34 : decode cX4_standsWithAllOthers 34 = .ok (.getfield 283, 3) := by decide +kernel
theorem dX4_standsWithAllOthers_37 : decode cX4_standsWithAllOthers 37 = .ok (.if_icmp .le 21, 3) := by decide +kernel
theorem dX4_standsWithAllOthers_40 : decode cX4_standsWithAllOthers 40 = .ok (.aload_n 0, 1) := by decide +kernel
theorem dX4_standsWithAllOthers_41 : decode cX4_standsWithAllOthers 41 = .ok (.aload_n 1, 1) := by decide +kernel
theorem dX4_standsWithAllOthers_42 : decode cX4_standsWithAllOthers 42 = .ok (.getfield 71, 3) := by decide +kernel
theorem dX4_standsWithAllOthers_45 : decode cX4_standsWithAllOthers 45 = .ok (.aload 5, 2) := by decide +kernel
theorem dX4_standsWithAllOthers_47 : decode cX4_standsWithAllOthers 47 = .ok (.getfield 71, 3) := by decide +kernel
theorem dX4_standsWithAllOthers_50 : decode cX4_standsWithAllOthers 50 = .ok (.invokevirtual 309, 3) := by decide +kernel
theorem dX4_standsWithAllOthers_53 : decode cX4_standsWithAllOthers 53 = .ok (.ifCond .ne 5, 3) := by decide +kernel
theorem dX4_standsWithAllOthers_56 : decode cX4_standsWithAllOthers 56 = .ok (.iconst 0, 1) := by decide +kernel
theorem dX4_standsWithAllOthers_57 : decode cX4_standsWithAllOthers 57 = .ok (.ireturn, 1) := by decide +kernel
theorem dX4_standsWithAllOthers_58 : decode cX4_standsWithAllOthers 58 = .ok (.iinc 4 1, 3) := by decide +kernel
theorem dX4_standsWithAllOthers_61 : decode cX4_standsWithAllOthers 61 = .ok (.goto (-50), 3) := by decide +kernel
theorem dX4_standsWithAllOthers_64 : decode cX4_standsWithAllOthers 64 = .ok (.iconst 1, 1) := by decide +kernel
theorem dX4_standsWithAllOthers_65 : decode cX4_standsWithAllOthers 65 = .ok (.ireturn, 1) := by decide +kernel
set_option maxRecDepth 20000 in
theorem ggX4_standInSequence_X3_size : GoodIn wsX4_standInSequence wsX3_size := goodIn_r _ [6, 7, 27, 28] (by decide +kernel) (by decide +kernel)
set_option maxRecDepth 20000 in
theorem gX4_standInSequence_X3_size : GoodIn wsX4_standInSequence (wsV RX4 132 RX3 yX3_size wsX3_size) := goodIn_app (goodIn_of _ (by decide +kernel)) ggX4_standInSequence_X3_size
set_option maxRecDepth 20000 in
theorem ggX4_standInSequence_X3_get : GoodIn wsX4_standInSequence wsX3_get := goodIn_ca (goodIn_r _ [11, 12, 13, 14, 15, 5, 16, 7, 27, 28] (by decide +kernel) (by decide +kernel)) (goodIn_sub (fun _ h => List.mem_cons_of_mem _ (List.mem_append_right _ h)) (by decide +kernel))
set_option maxRecDepth 20000 in
theorem gX4_standInSequence_X3_get : GoodIn wsX4_standInSequence (wsV RX4 113 RX3 yX3_get wsX3_get) := goodIn_app (goodIn_of _ (by decide +kernel)) ggX4_standInSequence_X3_get
set_option maxRecDepth 20000 in
theorem ggX4_standInSequence_X2_isAhead : GoodIn wsX4_standInSequence wsX2_isAhead := goodIn_ca (goodIn_r _ [21, 22, 23, 9, 10, 5, 11, 12, 13, 14, 15, 16, 7, 29, 30, 31, 32, 33, 27, 28] (by decide +kernel) (by decide +kernel)) (goodIn_sub (fun _ h => List.mem_cons_of_mem _ (List.mem_append_right _ h)) (by decide +kernel))
set_option maxRecDepth 20000 in
theorem gX4_standInSequence_X2_isAhead : GoodIn wsX4_standInSequence (wsV RX4 276 RX2 yX2_isAhead wsX2_isAhead) := goodIn_app (goodIn_of _ (by decide +kernel)) ggX4_standInSequence_X2_isAhead
theorem dX4_standInSequence_0 : decode cX4_standInSequence 0 = .ok (.aload_n 1, 1) := by decide +kernel
theorem dX4_standInSequence_1 : decode cX4_standInSequence 1 = .ok (.invokevirtual 132, 3) := by decide +kernel
theorem dX4_standInSequence_4 : decode cX4_standInSequence 4 = .ok (.aload_n 2, 1) := by decide +kernel
theorem dX4_standInSequence_5 : decode cX4_standInSequence 5 = .ok (.invokevirtual 132, 3) := by decide +kernel
theorem dX4_standInSequence_8 : decode cX4_standInSequence 8 = .ok (.iadd, 1) := by decide +kernel
theorem dX4_standInSequence_9 : decode cX4_standInSequence 9 = .ok (.istore_n 3, 1) := by decide +kernel
theorem dX4_standInSequence_10 : decode cX4_standInSequence 10 = .ok (.iconst 0, 1) := by decide +kernel
theorem dX4_standInSequence_11 : decode cX4_standInSequence 11 = .ok (.istore 4, 2) := by decide +kernel
theorem dX4_standInSequence_13 : decode cX4_standInSequence 13 = .ok (.iconst (-1), 1) := by decide +kernel
theorem dX4_standInSequence_14 : decode cX4_standInSequence 14 = .ok (.istore 5, 2) := by decide +kernel
theorem dX4_standInSequence_16 : decode cX4_standInSequence 16 = .ok (.iconst 0, 1) := by decide +kernel
theorem dX4_standInSequence_17 : decode cX4_standInSequence 17 = .ok (.istore 6, 2) := by decide +kernel
theorem dX4_standInSequence_19 : decode cX4_standInSequence 19 = .ok (.iload 6, 2) := by decide +kernel
theorem dX4_standInSequence_21 : decode cX4_standInSequence 21 = .ok (.iload_n 3, 1) := by decide +kernel
theorem dX4_standInSequence_22 : decode cX4_standInSequence 22 = .ok (.if_icmp .ge 125, 3) := by decide +kernel
theorem dX4_standInSequence_25 : decode cX4_standInSequence 25 = .ok (.iload 6, 2) := by decide +kernel
theorem dX4_standInSequence_27 : decode cX4_standInSequence 27 = .ok (.iload 4, 2) := by decide +kernel
theorem dX4_standInSequence_29 : decode cX4_standInSequence 29 = .ok (.isub, 1) := by decide +kernel
theorem dX4_standInSequence_30 : decode cX4_standInSequence 30 = .ok (.istore 7, 2) := by decide +kernel
theorem dX4_standInSequence_32 : decode cX4_standInSequence 32 = .ok (.iload 7, 2) := by decide +kernel
theorem dX4_standInSequence_34 : decode cX4_standInSequence 34 = .ok (.aload_n 2, 1) := by decide +kernel
theorem dX4_standInSequence_35 : decode cX4_standInSequence 35 = .ok (.invokevirtual 132, 3) := by decide +kernel
theorem dX4_standInSequence_38 : decode cX4_standInSequence 38 = .ok (.if_icmp .ge 34, 3) := by decide +kernel
theorem dX4_standInSequence_41 : decode cX4_standInSequence 41 = .ok (.iload 4, 2) := by decide +kernel
theorem dX4_standInSequence_43 : decode cX4_standInSequence 43 = .ok (.aload_n 1, 1) := by decide +kernel
theorem dX4_standInSequence_44 : decode cX4_standInSequence 44 = .ok (.invokevirtual 132, 3) := by decide +kernel
theorem dX4_standInSequence_47 : decode cX4_standInSequence 47 = .ok (.if_icmp .ge 29, 3) := by decide +kernel
theorem dX4_standInSequence_50 : decode cX4_standInSequence 50 = .ok (.aload_n 0, 1) := by decide +kernel
theorem dX4_standInSequence_51 : decode cX4_standInSequence 51 = .ok (.getfield 10, 3) := by decide +kernel
theorem dX4_standInSequence_54 : decode cX4_standInSequence 54 = .ok (.aload_n 1, 1) := by decide +kernel
theorem dX4_standInSequence_55 : decode cX4_standInSequence 55 = .ok (.iload 4, 2) := by decide +kernel
theorem dX4_standInSequence_57 : decode cX4_standInSequence 57 = .ok (.invokevirtual 113, 3) := by decide +kernel
theorem dX4_standInSequence_60 : decode cX4_standInSequence 60 = .ok (.aload_n 2, 1) := by decide +kernel
theorem dX4_standInSequence_61 : decode cX4_standInSequence 61 = .ok (.iload 7, 2) := by decide +kernel
theorem dX4_standInSequence_63 : decode cX4_standInSequence 63 = .ok (.invokevirtual 113, 3) := by decide +kernel
theorem dX4_standInSequence_66 : decode cX4_standInSequence 66 = .ok (.invokevirtual 276, 3) := by decide +kernel
theorem dX4_standInSequence_69 : decode cX4_standInSequence 69 = .ok (.ifCond .eq 7, 3) := by decide +kernel
theorem dX4_standInSequence_72 : decode cX4_standInSequence 72 = .ok (.iconst 1, 1) := by decide +kernel
theorem dX4_standInSequence_73 : decode cX4_standInSequence 73 = .ok (.goto 4, 3) := by decide +kernel
theorem dX4_standInSequence_76 : decode cX4_standInSequence 76 = .ok (.iconst 0, 1) := by decide +kernel
theorem dX4_standInSequence_77 : decode cX4_standInSequence 77 = .ok (.istore 8, 2) := by decide +kernel
theorem dX4_standInSequence_79 : decode cX4_standInSequence 79 = .ok (.iload 8, 2) := by decide +kernel
theorem dX4_standInSequence_81 : decode cX4_standInSequence 81 = .ok (.ifCond .eq 12, 3) := by decide +kernel
theorem dX4_standInSequence_84 : decode cX4_standInSequence 84 = .ok (.aload_n 1, 1) := by decide +kernel
theorem dX4_standInSequence_85 : decode cX4_standInSequence 85 = .ok (.iload 4, 2) := by decide +kernel
theorem dX4_standInSequence_87 : decode cX4_standInSequence 87 = .ok (.invokevirtual 113, 3) := by decide +kernel
theorem dX4_standInSequence_90 : decode cX4_standInSequence 90 = .ok (.goto 9, 3) := by decide +kernel
theorem dX4_standInSequence_93 : decode cX4_standInSequence 93 = .ok (.aload_n 2, 1) := by decide +kernel
theorem dX4_standInSequence_94 : decode cX4_standInSequence 94 = .ok (.iload 7, 2) := by decide +kernel
theorem dX4_standInSequence_96 : decode cX4_standInSequence 96 = .ok (.invokevirtual 113, 3) := by decide +kernel
theorem dX4_standInSequence_99 : decode cX4_standInSequence 99 = .ok (.istore 9, 2) := by decide +kernel
theorem dX4_standInSequence_101 : decode cX4_standInSequence 101 = .ok (.iload 5, 2) := by decide +kernel
theorem dX4_standInSequence_103 : decode cX4_standInSequence 103 = .ok (.ifCond .lt 19, 3) := by decide +kernel
theorem dX4_standInSequence_106 : decode cX4_standInSequence 106 = .ok (.aload_n 0, 1) := by decide +kernel
theorem dX4_standInSequence_107 : decode cX4_standInSequence 107 = .ok (.getfield 10, 3) := by decide +kernel
theorem dX4_standInSequence_110 : decode cX4_standInSequence 110 = .ok (.iload 5, 2) := by decide +kernel
theorem dX4_standInSequence_112 : decode cX4_standInSequence 112 = .ok (.iload 9, 2) := by decide +kernel
theorem dX4_standInSequence_114 : decode cX4_standInSequence 114 = .ok (.invokevirtual 276, 3) := by decide +kernel
theorem dX4_standInSequence_117 : decode cX4_standInSequence 117 = .ok (.ifCond .ne 5, 3) := by decide +kernel
theorem dX4_standInSequence_120 : decode cX4_standInSequence 120 = .ok (.iconst 0, 1) := by decide +kernel
theorem dX4_standInSequence_121 : decode cX4_standInSequence 121 = .ok (.ireturn, 1) := by decide +kernel
theorem dX4_standInSequence_122 : decode cX4_standInSequence 122 = .ok (.iload 9, 2) := by decide +kernel
theorem dX4_standInSequence_124 : decode cX4_standInSequence 124 = .ok (.istore 5, 2) := by decide +kernel
theorem dX4_standInSequence_126 : decode cX4_standInSequence 126 = .ok (.iload 4, 2) := by decide +kernel
theorem dX4_standInSequence_128 : decode cX4_standInSequence 128 = .ok (.iload 8, 2) := by decide +kernel
theorem dX4_standInSequence_130 : decode cX4_standInSequence 130 = .ok (.ifCond .eq 7, 3) := by decide +kernel
theorem dX4_standInSequence_133 : decode cX4_standInSequence 133 = .ok (.iconst 1, 1) := by decide +kernel
theorem dX4_standInSequence_134 : decode cX4_standInSequence 134 = .ok (.goto 4, 3) := by decide +kernel
theorem dX4_standInSequence_137 : decode cX4_standInSequence 137 = .ok (.iconst 0, 1) := by decide +kernel
theorem dX4_standInSequence_138 : decode cX4_standInSequence 138 = .ok (.iadd, 1) := by decide +kernel
theorem dX4_standInSequence_139 : decode cX4_standInSequence 139 = .ok (.istore 4, 2) := by decide +kernel
theorem dX4_standInSequence_141 : decode cX4_standInSequence 141 = .ok (.iinc 6 1, 3) := by decide +kernel
theorem dX4_standInSequence_144 : decode cX4_standInSequence 144 = .ok (.goto (-125), 3) := by decide +kernel
theorem dX4_standInSequence_147 : decode cX4_standInSequence 147 = .ok (.iconst 1, 1) := by decide +kernel
theorem dX4_standInSequence_148 : decode cX4_standInSequence 148 = .ok (.ireturn, 1) := by decide +kernel
set_option maxRecDepth 20000 in
theorem ggX4_crowdIsOfThoseThatCame_X0_clear : GoodIn wsX4_crowdIsOfThoseThatCame wsX0_clear := goodIn_r _ [7, 8, 9, 10, 11, 12, 13, 14, 15, 93, 94, 95, 96] (by decide +kernel) (by decide +kernel)
set_option maxRecDepth 20000 in
theorem gX4_crowdIsOfThoseThatCame_X0_clear : GoodIn wsX4_crowdIsOfThoseThatCame (wsV RX4 313 RX0 yX0_clear wsX0_clear) := goodIn_app (goodIn_of _ (by decide +kernel)) ggX4_crowdIsOfThoseThatCame_X0_clear
set_option maxRecDepth 20000 in
theorem ggX4_crowdIsOfThoseThatCame_X3_size : GoodIn wsX4_crowdIsOfThoseThatCame wsX3_size := goodIn_r _ [19, 15, 95, 96] (by decide +kernel) (by decide +kernel)
set_option maxRecDepth 20000 in
theorem gX4_crowdIsOfThoseThatCame_X3_size : GoodIn wsX4_crowdIsOfThoseThatCame (wsV RX4 132 RX3 yX3_size wsX3_size) := goodIn_app (goodIn_of _ (by decide +kernel)) ggX4_crowdIsOfThoseThatCame_X3_size
set_option maxRecDepth 20000 in
theorem ggX4_crowdIsOfThoseThatCame_X3_get : GoodIn wsX4_crowdIsOfThoseThatCame wsX3_get := goodIn_ca (goodIn_r _ [23, 24, 25, 26, 27, 13, 28, 15, 95, 96] (by decide +kernel) (by decide +kernel)) (goodIn_sub (fun _ h => List.mem_cons_of_mem _ (List.mem_append_right _ h)) (by decide +kernel))
set_option maxRecDepth 20000 in
theorem gX4_crowdIsOfThoseThatCame_X3_get : GoodIn wsX4_crowdIsOfThoseThatCame (wsV RX4 113 RX3 yX3_get wsX3_get) := goodIn_app (goodIn_of _ (by decide +kernel)) ggX4_crowdIsOfThoseThatCame_X3_get
set_option maxRecDepth 20000 in
theorem ggX4_crowdIsOfThoseThatCame_X2_end : GoodIn wsX4_crowdIsOfThoseThatCame wsX2_end := goodIn_ca (goodIn_r _ [33, 34, 35, 36, 21, 22, 13, 23, 24, 25, 26, 27, 28, 15, 88, 89, 90, 91, 92, 95, 96] (by decide +kernel) (by decide +kernel)) (goodIn_sub (fun _ h => List.mem_cons_of_mem _ (List.mem_append_right _ h)) (by decide +kernel))
set_option maxRecDepth 20000 in
theorem gX4_crowdIsOfThoseThatCame_X2_end : GoodIn wsX4_crowdIsOfThoseThatCame (wsV RX4 291 RX2 yX2_end wsX2_end) := goodIn_app (goodIn_of _ (by decide +kernel)) ggX4_crowdIsOfThoseThatCame_X2_end
set_option maxRecDepth 20000 in
theorem ggX4_crowdIsOfThoseThatCame_X0_enter : GoodIn wsX4_crowdIsOfThoseThatCame wsX0_enter := goodIn_ca (goodIn_r _ [40, 41, 42, 43, 6, 44, 8, 9, 45, 17, 18, 13, 19, 15, 46, 21, 22, 23, 24, 25, 26, 27, 28, 47, 48, 49, 50, 51, 52, 53, 54, 55, 56, 57, 58, 59, 60, 61, 62, 93, 94, 95, 96] (by decide +kernel) (by decide +kernel)) (goodIn_sub (fun _ h => List.mem_cons_of_mem _ (List.mem_append_right _ h)) (by decide +kernel))
set_option maxRecDepth 20000 in
theorem gX4_crowdIsOfThoseThatCame_X0_enter : GoodIn wsX4_crowdIsOfThoseThatCame (wsV RX4 294 RX0 yX0_enter wsX0_enter) := goodIn_app (goodIn_of _ (by decide +kernel)) ggX4_crowdIsOfThoseThatCame_X0_enter
set_option maxRecDepth 20000 in
theorem ggX4_crowdIsOfThoseThatCame_X0_isLike : GoodIn wsX4_crowdIsOfThoseThatCame wsX0_isLike := goodIn_ca (goodIn_r _ [66, 8, 9, 67, 68, 69, 13, 70, 15, 71, 21, 22, 23, 24, 25, 26, 27, 28, 93, 94, 95, 96] (by decide +kernel) (by decide +kernel)) (goodIn_sub (fun _ h => List.mem_cons_of_mem _ (List.mem_append_right _ h)) (by decide +kernel))
set_option maxRecDepth 20000 in
theorem gX4_crowdIsOfThoseThatCame_X0_isLike : GoodIn wsX4_crowdIsOfThoseThatCame (wsV RX4 316 RX0 yX0_isLike wsX0_isLike) := goodIn_app (goodIn_of _ (by decide +kernel)) ggX4_crowdIsOfThoseThatCame_X0_isLike
set_option maxRecDepth 20000 in
theorem ggX4_crowdIsOfThoseThatCame_X0_isLevelInTheEnd : GoodIn wsX4_crowdIsOfThoseThatCame wsX0_isLevelInTheEnd := goodIn_ca (goodIn_r _ [75, 9, 45, 17, 18, 13, 19, 15, 46, 21, 22, 23, 24, 25, 26, 27, 28, 93, 94, 95, 96] (by decide +kernel) (by decide +kernel)) (goodIn_sub (fun _ h => List.mem_cons_of_mem _ (List.mem_append_right _ h)) (by decide +kernel))
set_option maxRecDepth 20000 in
theorem gX4_crowdIsOfThoseThatCame_X0_isLevelInTheEnd : GoodIn wsX4_crowdIsOfThoseThatCame (wsV RX4 320 RX0 yX0_isLevelInTheEnd wsX0_isLevelInTheEnd) := goodIn_app (goodIn_of _ (by decide +kernel)) ggX4_crowdIsOfThoseThatCame_X0_isLevelInTheEnd
set_option maxRecDepth 20000 in
theorem ggX4_crowdIsOfThoseThatCame_X0_total : GoodIn wsX4_crowdIsOfThoseThatCame wsX0_total := goodIn_ca (goodIn_r _ [79, 8, 9, 45, 17, 18, 13, 19, 15, 46, 21, 22, 23, 24, 25, 26, 27, 28, 93, 94, 95, 96] (by decide +kernel) (by decide +kernel)) (goodIn_sub (fun _ h => List.mem_cons_of_mem _ (List.mem_append_right _ h)) (by decide +kernel))
set_option maxRecDepth 20000 in
theorem gX4_crowdIsOfThoseThatCame_X0_total : GoodIn wsX4_crowdIsOfThoseThatCame (wsV RX4 225 RX0 yX0_total wsX0_total) := goodIn_app (goodIn_of _ (by decide +kernel)) ggX4_crowdIsOfThoseThatCame_X0_total
theorem dX4_crowdIsOfThoseThatCame_0 : decode cX4_crowdIsOfThoseThatCame 0 = .ok (.aload_n 0, 1) := by decide +kernel
theorem dX4_crowdIsOfThoseThatCame_1 : decode cX4_crowdIsOfThoseThatCame 1 = .ok (.getfield 25, 3) := by decide +kernel
theorem dX4_crowdIsOfThoseThatCame_4 : decode cX4_crowdIsOfThoseThatCame 4 = .ok (.invokevirtual 313, 3) := by decide +kernel
theorem dX4_crowdIsOfThoseThatCame_7 : decode cX4_crowdIsOfThoseThatCame 7 = .ok (.lconst 0, 1) := by decide +kernel
theorem dX4_crowdIsOfThoseThatCame_8 : decode cX4_crowdIsOfThoseThatCame 8 = .ok (.lstore_n 2, 1) := by decide +kernel
theorem dX4_crowdIsOfThoseThatCame_9 : decode cX4_crowdIsOfThoseThatCame 9 = .ok (.iconst 0, 1) := by decide +kernel
theorem dX4_crowdIsOfThoseThatCame_10 : decode cX4_crowdIsOfThoseThatCame 10 = .ok (.istore 4, 2) := by decide +kernel
theorem dX4_crowdIsOfThoseThatCame_12 : decode cX4_crowdIsOfThoseThatCame 12 = .ok (.iload 4, 2) := by decide +kernel
theorem dX4_crowdIsOfThoseThatCame_14 : decode cX4_crowdIsOfThoseThatCame 14 = .ok (.aload_n 1, 1) := by decide +kernel
theorem dX4_crowdIsOfThoseThatCame_15 : decode cX4_crowdIsOfThoseThatCame 15 = .ok (.getfield 150, 3) := by decide +kernel
theorem dX4_crowdIsOfThoseThatCame_18 : decode cX4_crowdIsOfThoseThatCame 18 = .ok (.invokevirtual 132, 3) := by decide +kernel
theorem dX4_crowdIsOfThoseThatCame_21 : decode cX4_crowdIsOfThoseThatCame 21 = .ok (.if_icmp .ge 83, 3) := by decide +kernel
theorem dX4_crowdIsOfThoseThatCame_24 : decode cX4_crowdIsOfThoseThatCame 24 = .ok (.aload_n 1, 1) := by decide +kernel
theorem dX4_crowdIsOfThoseThatCame_25 : decode cX4_crowdIsOfThoseThatCame 25 = .ok (.getfield 150, 3) := by decide +kernel
theorem dX4_crowdIsOfThoseThatCame_28 : decode cX4_crowdIsOfThoseThatCame 28 = .ok (.iload 4, 2) := by decide +kernel
theorem dX4_crowdIsOfThoseThatCame_30 : decode cX4_crowdIsOfThoseThatCame 30 = .ok (.invokevirtual 113, 3) := by decide +kernel
theorem dX4_crowdIsOfThoseThatCame_33 : decode cX4_crowdIsOfThoseThatCame 33 = .ok (.istore 5, 2) := by decide +kernel
theorem dX4_crowdIsOfThoseThatCame_35 : decode cX4_crowdIsOfThoseThatCame 35 = .ok (.aload_n 0, 1) := by decide +kernel
theorem dX4_crowdIsOfThoseThatCame_36 : decode cX4_crowdIsOfThoseThatCame 36 = .ok (.getfield 10, 3) := by decide +kernel
theorem dX4_crowdIsOfThoseThatCame_39 : decode cX4_crowdIsOfThoseThatCame 39 = .ok (.getfield 167, 3) := by decide +kernel
theorem dX4_crowdIsOfThoseThatCame_42 : decode cX4_crowdIsOfThoseThatCame 42 = .ok (.iload 5, 2) := by decide +kernel
theorem dX4_crowdIsOfThoseThatCame_44 : decode cX4_crowdIsOfThoseThatCame 44 = .ok (.invokevirtual 113, 3) := by decide +kernel
theorem dX4_crowdIsOfThoseThatCame_47 : decode cX4_crowdIsOfThoseThatCame 47 = .ok (.istore 6, 2) := by decide +kernel
theorem dX4_crowdIsOfThoseThatCame_49 : decode cX4_crowdIsOfThoseThatCame 49 = .ok (.aload_n 0, 1) := by decide +kernel
theorem dX4_crowdIsOfThoseThatCame_50 : decode cX4_crowdIsOfThoseThatCame 50 = .ok (.getfield 25, 3) := by decide +kernel
theorem dX4_crowdIsOfThoseThatCame_53 : decode cX4_crowdIsOfThoseThatCame 53 = .ok (.aload_n 0, 1) := by decide +kernel
theorem dX4_crowdIsOfThoseThatCame_54 : decode cX4_crowdIsOfThoseThatCame 54 = .ok (.getfield 10, 3) := by decide +kernel
theorem dX4_crowdIsOfThoseThatCame_57 : decode cX4_crowdIsOfThoseThatCame 57 = .ok (.getfield 110, 3) := by decide +kernel
theorem dX4_crowdIsOfThoseThatCame_60 : decode cX4_crowdIsOfThoseThatCame 60 = .ok (.iload 5, 2) := by decide +kernel
theorem dX4_crowdIsOfThoseThatCame_62 : decode cX4_crowdIsOfThoseThatCame 62 = .ok (.invokevirtual 113, 3) := by decide +kernel
theorem dX4_crowdIsOfThoseThatCame_65 : decode cX4_crowdIsOfThoseThatCame 65 = .ok (.aload_n 0, 1) := by decide +kernel
theorem dX4_crowdIsOfThoseThatCame_66 : decode cX4_crowdIsOfThoseThatCame 66 = .ok (.getfield 10, 3) := by decide +kernel
theorem dX4_crowdIsOfThoseThatCame_69 : decode cX4_crowdIsOfThoseThatCame 69 = .ok (.iload 5, 2) := by decide +kernel
theorem dX4_crowdIsOfThoseThatCame_71 : decode cX4_crowdIsOfThoseThatCame 71 = .ok (.invokevirtual 291, 3) := by decide +kernel
theorem dX4_crowdIsOfThoseThatCame_74 : decode cX4_crowdIsOfThoseThatCame 74 = .ok (.iload 6, 2) := by decide +kernel
theorem dX4_crowdIsOfThoseThatCame_76 : decode cX4_crowdIsOfThoseThatCame 76 = .ok (.invokevirtual 294, 3) := by decide +kernel
theorem dX4_crowdIsOfThoseThatCame_79 : decode cX4_crowdIsOfThoseThatCame 79 = .ok (.lload_n 2, 1) := by decide +kernel
theorem dX4_crowdIsOfThoseThatCame_80 : decode cX4_crowdIsOfThoseThatCame 80 = .ok (.iload 6, 2) := by decide +kernel
theorem dX4_crowdIsOfThoseThatCame_82 : decode cX4_crowdIsOfThoseThatCame 82 = .ok (.aload_n 0, 1) := by decide +kernel
theorem dX4_crowdIsOfThoseThatCame_83 : decode cX4_crowdIsOfThoseThatCame 83 = .ok (.getfield 10, 3) := by decide +kernel
theorem dX4_crowdIsOfThoseThatCame_86 : decode cX4_crowdIsOfThoseThatCame 86 = .ok (.getfield 164, 3) := by decide +kernel
theorem dX4_crowdIsOfThoseThatCame_89 : decode cX4_crowdIsOfThoseThatCame 89 = .ok (.iload 5, 2) := by decide +kernel
theorem dX4_crowdIsOfThoseThatCame_91 : decode cX4_crowdIsOfThoseThatCame 91 = .ok (.invokevirtual 113, 3) := by decide +kernel
theorem dX4_crowdIsOfThoseThatCame_94 : decode cX4_crowdIsOfThoseThatCame 94 = .ok (.imul, 1) := by decide +kernel
theorem dX4_crowdIsOfThoseThatCame_95 : decode cX4_crowdIsOfThoseThatCame 95 = .ok (.i2l, 1) := by decide +kernel
theorem dX4_crowdIsOfThoseThatCame_96 : decode cX4_crowdIsOfThoseThatCame 96 = .ok (.ladd, 1) := by decide +kernel
theorem dX4_crowdIsOfThoseThatCame_97 : decode cX4_crowdIsOfThoseThatCame 97 = .ok (.lstore_n 2, 1) := by decide +kernel
theorem dX4_crowdIsOfThoseThatCame_98 : decode cX4_crowdIsOfThoseThatCame 98 = .ok (.iinc 4 1, 3) := by decide +kernel
theorem dX4_crowdIsOfThoseThatCame_101 : decode cX4_crowdIsOfThoseThatCame 101 = .ok (.goto (-89), 3) := by decide +kernel
theorem dX4_crowdIsOfThoseThatCame_104 : decode cX4_crowdIsOfThoseThatCame 104 = .ok (.aload_n 0, 1) := by decide +kernel
theorem dX4_crowdIsOfThoseThatCame_105 : decode cX4_crowdIsOfThoseThatCame 105 = .ok (.getfield 25, 3) := by decide +kernel
theorem dX4_crowdIsOfThoseThatCame_108 : decode cX4_crowdIsOfThoseThatCame 108 = .ok (.aload_n 1, 1) := by decide +kernel
theorem dX4_crowdIsOfThoseThatCame_109 : decode cX4_crowdIsOfThoseThatCame 109 = .ok (.getfield 178, 3) := by decide +kernel
theorem dX4_crowdIsOfThoseThatCame_112 : decode cX4_crowdIsOfThoseThatCame 112 = .ok (.invokevirtual 316, 3) := by decide +kernel
theorem dX4_crowdIsOfThoseThatCame_115 : decode cX4_crowdIsOfThoseThatCame 115 = .ok (.ifCond .eq 29, 3) := by decide +kernel
theorem dX4_crowdIsOfThoseThatCame_118 : decode cX4_crowdIsOfThoseThatCame 118 = .ok (.aload_n 1, 1) := by decide +kernel
theorem dX4_crowdIsOfThoseThatCame_119 : decode cX4_crowdIsOfThoseThatCame 119 = .ok (.getfield 178, 3) := by decide +kernel
theorem dX4_crowdIsOfThoseThatCame_122 : decode cX4_crowdIsOfThoseThatCame 122 = .ok (.invokevirtual 320, 3) := by decide +kernel
theorem dX4_crowdIsOfThoseThatCame_125 : decode cX4_crowdIsOfThoseThatCame 125 = .ok (.ifCond .eq 19, 3) := by decide +kernel
theorem dX4_crowdIsOfThoseThatCame_128 : decode cX4_crowdIsOfThoseThatCame 128 = .ok (.lload_n 2, 1) := by decide +kernel
theorem dX4_crowdIsOfThoseThatCame_129 : decode cX4_crowdIsOfThoseThatCame 129 = .ok (.aload_n 1, 1) := by decide +kernel
theorem dX4_crowdIsOfThoseThatCame_130 : decode cX4_crowdIsOfThoseThatCame 130 = .ok (.getfield 178, 3) := by decide +kernel
theorem dX4_crowdIsOfThoseThatCame_133 : decode cX4_crowdIsOfThoseThatCame 133 = .ok (.invokevirtual 225, 3) := by decide +kernel
theorem dX4_crowdIsOfThoseThatCame_136 : decode cX4_crowdIsOfThoseThatCame 136 = .ok (.lcmp, 1) := by decide +kernel
theorem dX4_crowdIsOfThoseThatCame_137 : decode cX4_crowdIsOfThoseThatCame 137 = .ok (.ifCond .ne 7, 3) := by decide +kernel
theorem dX4_crowdIsOfThoseThatCame_140 : decode cX4_crowdIsOfThoseThatCame 140 = .ok (.iconst 1, 1) := by decide +kernel
theorem dX4_crowdIsOfThoseThatCame_141 : decode cX4_crowdIsOfThoseThatCame 141 = .ok (.goto 4, 3) := by decide +kernel
theorem dX4_crowdIsOfThoseThatCame_144 : decode cX4_crowdIsOfThoseThatCame 144 = .ok (.iconst 0, 1) := by decide +kernel
theorem dX4_crowdIsOfThoseThatCame_145 : decode cX4_crowdIsOfThoseThatCame 145 = .ok (.ireturn, 1) := by decide +kernel
