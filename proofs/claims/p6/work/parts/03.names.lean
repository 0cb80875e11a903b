def RX0 : String := "Periodcard$Day"
def TX0 : u_T := fun k => match k with
  | 0 => ("Periodcard$Day", "year", "I", false)
  | 1 => ("Periodcard$Day", "month", "I", false)
  | _ => ("Periodcard$Day", "day", "I", false)
def tyX0 : Nat → FieldType := fun k => match k with
  | 0 => .int
  | 1 => .int
  | _ => .int
abbrev wsX00 : List Cond := u_ws RX0 TX0 3
theorem nmX0 : ∀ a, a < 3 → ∀ b, b < 3 → a ≠ b → (TX0 a).2.1 ≠ (TX0 b).2.1 := by decide +kernel
theorem tyX0_ok : ∀ k, k < 3 → parseFieldDescriptor (TX0 k).2.2.1 = some (tyX0 k) := by decide +kernel
abbrev cX0_init : ByteArray := prog_2_method_1_code
def yX0_init : MethodName := ⟨RX0, "<init>", "()V"⟩
abbrev cX0_put : ByteArray := prog_2_method_2_code
def yX0_put : MethodName := ⟨RX0, "put", "(III)V"⟩
abbrev cX0_putDay : ByteArray := prog_2_method_3_code
def yX0_putDay : MethodName := ⟨RX0, "putDay", "(LPeriodcard$Day;)V"⟩
abbrev cX0_putMoved : ByteArray := prog_2_method_4_code
def yX0_putMoved : MethodName := ⟨RX0, "putMoved", "(LPeriodcard$Day;JJ)Z"⟩
abbrev cX0_putDayNumber : ByteArray := prog_2_method_5_code
def yX0_putDayNumber : MethodName := ⟨RX0, "putDayNumber", "(I)V"⟩
abbrev cX0_monthPlace : ByteArray := prog_2_method_6_code
def yX0_monthPlace : MethodName := ⟨RX0, "monthPlace", "()I"⟩
abbrev cX0_dayNumber : ByteArray := prog_2_method_7_code
def yX0_dayNumber : MethodName := ⟨RX0, "dayNumber", "()I"⟩
abbrev cX0_dayNumberMonthsOn : ByteArray := prog_2_method_8_code
def yX0_dayNumberMonthsOn : MethodName := ⟨RX0, "dayNumberMonthsOn", "(I)I"⟩
abbrev cX0_number : ByteArray := prog_2_method_9_code
def yX0_number : MethodName := ⟨RX0, "number", "(I)I"⟩
abbrev cX0_orderTo : ByteArray := prog_2_method_10_code
def yX0_orderTo : MethodName := ⟨RX0, "orderTo", "(LPeriodcard$Day;)I"⟩
abbrev cX0_inSigns : ByteArray := prog_2_method_11_code
def yX0_inSigns : MethodName := ⟨RX0, "inSigns", "()Ljava/lang/String;"⟩
abbrev cX0_signs : ByteArray := prog_2_method_12_code
def yX0_signs : MethodName := ⟨RX0, "signs", "()I"⟩
def RX1 : String := "Periodcard$Span"
def TX1 : u_T := fun k => match k with
  | 0 => ("Periodcard$Span", "years", "I", false)
  | 1 => ("Periodcard$Span", "months", "I", false)
  | _ => ("Periodcard$Span", "days", "I", false)
def tyX1 : Nat → FieldType := fun k => match k with
  | 0 => .int
  | 1 => .int
  | _ => .int
abbrev wsX10 : List Cond := u_ws RX1 TX1 3
theorem nmX1 : ∀ a, a < 3 → ∀ b, b < 3 → a ≠ b → (TX1 a).2.1 ≠ (TX1 b).2.1 := by decide +kernel
theorem tyX1_ok : ∀ k, k < 3 → parseFieldDescriptor (TX1 k).2.2.1 = some (tyX1 k) := by decide +kernel
abbrev cX1_init : ByteArray := prog_3_method_1_code
def yX1_init : MethodName := ⟨RX1, "<init>", "()V"⟩
abbrev cX1_put : ByteArray := prog_3_method_2_code
def yX1_put : MethodName := ⟨RX1, "put", "(JJJ)Z"⟩
abbrev cX1_putSpan : ByteArray := prog_3_method_3_code
def yX1_putSpan : MethodName := ⟨RX1, "putSpan", "(LPeriodcard$Span;)V"⟩
abbrev cX1_putSum : ByteArray := prog_3_method_4_code
def yX1_putSum : MethodName := ⟨RX1, "putSum", "(LPeriodcard$Span;LPeriodcard$Span;)Z"⟩
abbrev cX1_putDifference : ByteArray := prog_3_method_5_code
def yX1_putDifference : MethodName := ⟨RX1, "putDifference", "(LPeriodcard$Span;LPeriodcard$Span;)Z"⟩
abbrev cX1_putTimes : ByteArray := prog_3_method_6_code
def yX1_putTimes : MethodName := ⟨RX1, "putTimes", "(LPeriodcard$Span;J)Z"⟩
abbrev cX1_putOpposite : ByteArray := prog_3_method_7_code
def yX1_putOpposite : MethodName := ⟨RX1, "putOpposite", "(LPeriodcard$Span;)Z"⟩
abbrev cX1_putTidy : ByteArray := prog_3_method_8_code
def yX1_putTidy : MethodName := ⟨RX1, "putTidy", "(LPeriodcard$Span;)Z"⟩
abbrev cX1_putBetween : ByteArray := prog_3_method_9_code
def yX1_putBetween : MethodName := ⟨RX1, "putBetween", "(LPeriodcard$Day;LPeriodcard$Day;)Z"⟩
abbrev cX1_number : ByteArray := prog_3_method_10_code
def yX1_number : MethodName := ⟨RX1, "number", "(I)I"⟩
abbrev cX1_allMonths : ByteArray := prog_3_method_11_code
def yX1_allMonths : MethodName := ⟨RX1, "allMonths", "()J"⟩
abbrev cX1_isNothing : ByteArray := prog_3_method_12_code
def yX1_isNothing : MethodName := ⟨RX1, "isNothing", "()Z"⟩
abbrev cX1_isBelowZero : ByteArray := prog_3_method_13_code
def yX1_isBelowZero : MethodName := ⟨RX1, "isBelowZero", "()Z"⟩
abbrev cX1_isSameAs : ByteArray := prog_3_method_14_code
def yX1_isSameAs : MethodName := ⟨RX1, "isSameAs", "(LPeriodcard$Span;)Z"⟩
abbrev cX1_isAlikeTo : ByteArray := prog_3_method_15_code
def yX1_isAlikeTo : MethodName := ⟨RX1, "isAlikeTo", "(LPeriodcard$Span;)Z"⟩
abbrev cX1_inSigns : ByteArray := prog_3_method_16_code
def yX1_inSigns : MethodName := ⟨RX1, "inSigns", "()Ljava/lang/String;"⟩
abbrev cX1_signs : ByteArray := prog_3_method_17_code
def yX1_signs : MethodName := ⟨RX1, "signs", "()I"⟩
def RX2 : String := "Periodcard"
def TX2 : u_T := fun k => match k with
  | 0 => ("Periodcard", "cards", "[LPeriodcard$Span;", true)
  | 1 => ("Periodcard", "pile", "[LPeriodcard$Span;", true)
  | 2 => ("Periodcard", "dates", "[LPeriodcard$Day;", true)
  | 3 => ("Periodcard", "laid", "I", false)
  | 4 => ("Periodcard", "knocks", "I", false)
  | 5 => ("Periodcard", "refusals", "I", false)
  | 6 => ("Periodcard", "result", "LPeriodcard$Span;", true)
  | 7 => ("Periodcard", "proof", "LPeriodcard$Span;", true)
  | _ => ("Periodcard", "reached", "LPeriodcard$Day;", true)
def tyX2 : Nat → FieldType := fun k => match k with
  | 0 => .array (.object "Periodcard$Span")
  | 1 => .array (.object "Periodcard$Span")
  | 2 => .array (.object "Periodcard$Day")
  | 3 => .int
  | 4 => .int
  | 5 => .int
  | 6 => .object "Periodcard$Span"
  | 7 => .object "Periodcard$Span"
  | _ => .object "Periodcard$Day"
abbrev wsX20 : List Cond := u_ws RX2 TX2 9
theorem nmX2 : ∀ a, a < 9 → ∀ b, b < 9 → a ≠ b → (TX2 a).2.1 ≠ (TX2 b).2.1 := by decide +kernel
theorem tyX2_ok : ∀ k, k < 9 → parseFieldDescriptor (TX2 k).2.2.1 = some (tyX2 k) := by decide +kernel
abbrev cX2_init : ByteArray := prog_1_method_1_code
def yX2_init : MethodName := ⟨RX2, "<init>", "()V"⟩
abbrev cX2_write : ByteArray := prog_1_method_2_code
def yX2_write : MethodName := ⟨RX2, "write", "(IIII)I"⟩
abbrev cX2_ofYears : ByteArray := prog_1_method_3_code
def yX2_ofYears : MethodName := ⟨RX2, "ofYears", "(II)I"⟩
abbrev cX2_ofMonths : ByteArray := prog_1_method_4_code
def yX2_ofMonths : MethodName := ⟨RX2, "ofMonths", "(II)I"⟩
abbrev cX2_ofWeeks : ByteArray := prog_1_method_5_code
def yX2_ofWeeks : MethodName := ⟨RX2, "ofWeeks", "(II)I"⟩
abbrev cX2_ofDays : ByteArray := prog_1_method_6_code
def yX2_ofDays : MethodName := ⟨RX2, "ofDays", "(II)I"⟩
abbrev cX2_change : ByteArray := prog_1_method_7_code
def yX2_change : MethodName := ⟨RX2, "change", "(III)I"⟩
abbrev cX2_copy : ByteArray := prog_1_method_8_code
def yX2_copy : MethodName := ⟨RX2, "copy", "(II)I"⟩
abbrev cX2_swap : ByteArray := prog_1_method_9_code
def yX2_swap : MethodName := ⟨RX2, "swap", "(II)I"⟩
abbrev cX2_plusYears : ByteArray := prog_1_method_10_code
def yX2_plusYears : MethodName := ⟨RX2, "plusYears", "(IIZ)I"⟩
abbrev cX2_plusMonths : ByteArray := prog_1_method_11_code
def yX2_plusMonths : MethodName := ⟨RX2, "plusMonths", "(IIZ)I"⟩
abbrev cX2_plusDays : ByteArray := prog_1_method_12_code
def yX2_plusDays : MethodName := ⟨RX2, "plusDays", "(IIZ)I"⟩
abbrev cX2_minusYears : ByteArray := prog_1_method_13_code
def yX2_minusYears : MethodName := ⟨RX2, "minusYears", "(IIZ)I"⟩
abbrev cX2_minusMonths : ByteArray := prog_1_method_14_code
def yX2_minusMonths : MethodName := ⟨RX2, "minusMonths", "(IIZ)I"⟩
abbrev cX2_minusDays : ByteArray := prog_1_method_15_code
def yX2_minusDays : MethodName := ⟨RX2, "minusDays", "(IIZ)I"⟩
abbrev cX2_plus : ByteArray := prog_1_method_16_code
def yX2_plus : MethodName := ⟨RX2, "plus", "(II)I"⟩
abbrev cX2_minus : ByteArray := prog_1_method_17_code
def yX2_minus : MethodName := ⟨RX2, "minus", "(II)I"⟩
abbrev cX2_multipliedBy : ByteArray := prog_1_method_18_code
def yX2_multipliedBy : MethodName := ⟨RX2, "multipliedBy", "(II)I"⟩
abbrev cX2_negated : ByteArray := prog_1_method_19_code
def yX2_negated : MethodName := ⟨RX2, "negated", "(I)I"⟩
abbrev cX2_normalized : ByteArray := prog_1_method_20_code
def yX2_normalized : MethodName := ⟨RX2, "normalized", "(I)I"⟩
abbrev cX2_lay : ByteArray := prog_1_method_21_code
def yX2_lay : MethodName := ⟨RX2, "lay", "(I)I"⟩
abbrev cX2_take : ByteArray := prog_1_method_22_code
def yX2_take : MethodName := ⟨RX2, "take", "(I)I"⟩
abbrev cX2_sum : ByteArray := prog_1_method_23_code
def yX2_sum : MethodName := ⟨RX2, "sum", "(I)I"⟩
abbrev cX2_piled : ByteArray := prog_1_method_24_code
def yX2_piled : MethodName := ⟨RX2, "piled", "(I)Ljava/lang/String;"⟩
abbrev cX2_part : ByteArray := prog_1_method_25_code
def yX2_part : MethodName := ⟨RX2, "part", "(II)I"⟩
abbrev cX2_total : ByteArray := prog_1_method_26_code
def yX2_total : MethodName := ⟨RX2, "total", "(I)Ljava/lang/String;"⟩
abbrev cX2_isZero : ByteArray := prog_1_method_27_code
def yX2_isZero : MethodName := ⟨RX2, "isZero", "(I)Z"⟩
abbrev cX2_isNegative : ByteArray := prog_1_method_28_code
def yX2_isNegative : MethodName := ⟨RX2, "isNegative", "(I)Z"⟩
abbrev cX2_areSame : ByteArray := prog_1_method_29_code
def yX2_areSame : MethodName := ⟨RX2, "areSame", "(II)Z"⟩
abbrev cX2_areAlike : ByteArray := prog_1_method_30_code
def yX2_areAlike : MethodName := ⟨RX2, "areAlike", "(II)Z"⟩
abbrev cX2_text : ByteArray := prog_1_method_31_code
def yX2_text : MethodName := ⟨RX2, "text", "(I)Ljava/lang/String;"⟩
abbrev cX2_times : ByteArray := prog_1_method_32_code
def yX2_times : MethodName := ⟨RX2, "times", "(II)Ljava/lang/String;"⟩
abbrev cX2_added : ByteArray := prog_1_method_33_code
def yX2_added : MethodName := ⟨RX2, "added", "(II)Ljava/lang/String;"⟩
abbrev cX2_with : ByteArray := prog_1_method_34_code
def yX2_with : MethodName := ⟨RX2, "with", "(IIZ)Ljava/lang/String;"⟩
abbrev cX2_tidy : ByteArray := prog_1_method_35_code
def yX2_tidy : MethodName := ⟨RX2, "tidy", "(I)Ljava/lang/String;"⟩
abbrev cX2_opposite : ByteArray := prog_1_method_36_code
def yX2_opposite : MethodName := ⟨RX2, "opposite", "(I)Ljava/lang/String;"⟩
abbrev cX2_date : ByteArray := prog_1_method_37_code
def yX2_date : MethodName := ⟨RX2, "date", "(IIII)I"⟩
abbrev cX2_copyDate : ByteArray := prog_1_method_38_code
def yX2_copyDate : MethodName := ⟨RX2, "copyDate", "(II)I"⟩
abbrev cX2_move : ByteArray := prog_1_method_39_code
def yX2_move : MethodName := ⟨RX2, "move", "(II)I"⟩
abbrev cX2_back : ByteArray := prog_1_method_40_code
def yX2_back : MethodName := ⟨RX2, "back", "(II)I"⟩
abbrev cX2_walk : ByteArray := prog_1_method_41_code
def yX2_walk : MethodName := ⟨RX2, "walk", "(III)I"⟩
abbrev cX2_between : ByteArray := prog_1_method_42_code
def yX2_between : MethodName := ⟨RX2, "between", "(III)I"⟩
abbrev cX2_until : ByteArray := prog_1_method_43_code
def yX2_until : MethodName := ⟨RX2, "until", "(III)I"⟩
abbrev cX2_ofDate : ByteArray := prog_1_method_44_code
def yX2_ofDate : MethodName := ⟨RX2, "ofDate", "(II)I"⟩
abbrev cX2_dateText : ByteArray := prog_1_method_45_code
def yX2_dateText : MethodName := ⟨RX2, "dateText", "(I)Ljava/lang/String;"⟩
abbrev cX2_moved : ByteArray := prog_1_method_46_code
def yX2_moved : MethodName := ⟨RX2, "moved", "(IIZ)Ljava/lang/String;"⟩
abbrev cX2_apart : ByteArray := prog_1_method_47_code
def yX2_apart : MethodName := ⟨RX2, "apart", "(II)Ljava/lang/String;"⟩
abbrev cX2_isToldBack : ByteArray := prog_1_method_48_code
def yX2_isToldBack : MethodName := ⟨RX2, "isToldBack", "(II)Z"⟩
abbrev cX2_order : ByteArray := prog_1_method_49_code
def yX2_order : MethodName := ⟨RX2, "order", "(II)I"⟩
abbrev cX2_knock : ByteArray := prog_1_method_50_code
def yX2_knock : MethodName := ⟨RX2, "knock", "()I"⟩
abbrev cX2_house : ByteArray := prog_1_method_51_code
def yX2_house : MethodName := ⟨RX2, "house", "(I)I"⟩
abbrev cX2_isSound : ByteArray := prog_1_method_52_code
def yX2_isSound : MethodName := ⟨RX2, "isSound", "()Z"⟩
abbrev cX2_digest : ByteArray := prog_1_method_53_code
def yX2_digest : MethodName := ⟨RX2, "digest", "()J"⟩
abbrev cX2_cardAt : ByteArray := prog_1_method_54_code
def yX2_cardAt : MethodName := ⟨RX2, "cardAt", "(I)LPeriodcard$Span;"⟩
abbrev cX2_dateAt : ByteArray := prog_1_method_55_code
def yX2_dateAt : MethodName := ⟨RX2, "dateAt", "(I)LPeriodcard$Day;"⟩
abbrev cX2_checkWhat : ByteArray := prog_1_method_56_code
def yX2_checkWhat : MethodName := ⟨RX2, "checkWhat", "(II)V"⟩
abbrev cX2_refuse : ByteArray := prog_1_method_57_code
def yX2_refuse : MethodName := ⟨RX2, "refuse", "()I"⟩
abbrev cX2_actOnCard : ByteArray := prog_1_method_58_code
def yX2_actOnCard : MethodName := ⟨RX2, "actOnCard", "(LPeriodcard$Span;Z)I"⟩
abbrev cX2_actOnDate : ByteArray := prog_1_method_59_code
def yX2_actOnDate : MethodName := ⟨RX2, "actOnDate", "(LPeriodcard$Day;Z)I"⟩
abbrev cX2_actByBetween : ByteArray := prog_1_method_60_code
def yX2_actByBetween : MethodName := ⟨RX2, "actByBetween", "(III)I"⟩
abbrev cX2_resultInSigns : ByteArray := prog_1_method_61_code
def yX2_resultInSigns : MethodName := ⟨RX2, "resultInSigns", "(Z)Ljava/lang/String;"⟩
abbrev cX2_reach : ByteArray := prog_1_method_62_code
def yX2_reach : MethodName := ⟨RX2, "reach", "(LPeriodcard$Day;LPeriodcard$Span;Z)Z"⟩
abbrev cX2_leads : ByteArray := prog_1_method_63_code
def yX2_leads : MethodName := ⟨RX2, "leads", "(LPeriodcard$Day;LPeriodcard$Span;LPeriodcard$Day;)Z"⟩
abbrev cX2_ofHouse : ByteArray := prog_1_method_64_code
def yX2_ofHouse : MethodName := ⟨RX2, "ofHouse", "(I)I"⟩
abbrev cX2_zeroCards : ByteArray := prog_1_method_65_code
def yX2_zeroCards : MethodName := ⟨RX2, "zeroCards", "()I"⟩
abbrev cX2_negativeCards : ByteArray := prog_1_method_66_code
def yX2_negativeCards : MethodName := ⟨RX2, "negativeCards", "()I"⟩
abbrev cX2_isSpanSound : ByteArray := prog_1_method_67_code
def yX2_isSpanSound : MethodName := ⟨RX2, "isSpanSound", "(LPeriodcard$Span;)Z"⟩
abbrev cX2_isSumSound : ByteArray := prog_1_method_68_code
def yX2_isSumSound : MethodName := ⟨RX2, "isSumSound", "(LPeriodcard$Span;LPeriodcard$Span;)Z"⟩
abbrev cX2_isAlikenessSound : ByteArray := prog_1_method_69_code
def yX2_isAlikenessSound : MethodName := ⟨RX2, "isAlikenessSound", "(LPeriodcard$Span;LPeriodcard$Span;)Z"⟩
abbrev cX2_digestNext : ByteArray := prog_1_method_70_code
def yX2_digestNext : MethodName := ⟨RX2, "digestNext", "(JJ)J"⟩
abbrev cX2_digestCard : ByteArray := prog_1_method_71_code
def yX2_digestCard : MethodName := ⟨RX2, "digestCard", "(JLPeriodcard$Span;)J"⟩
abbrev cX2_digestPairsOfCards : ByteArray := prog_1_method_72_code
def yX2_digestPairsOfCards : MethodName := ⟨RX2, "digestPairsOfCards", "(J)J"⟩
abbrev cX2_digestDate : ByteArray := prog_1_method_73_code
def yX2_digestDate : MethodName := ⟨RX2, "digestDate", "(JLPeriodcard$Day;)J"⟩
abbrev cX2_digestPairsOfDates : ByteArray := prog_1_method_74_code
def yX2_digestPairsOfDates : MethodName := ⟨RX2, "digestPairsOfDates", "(J)J"⟩
abbrev cX2_resultSigns : ByteArray := prog_1_method_75_code
def yX2_resultSigns : MethodName := ⟨RX2, "resultSigns", "(Z)I"⟩
abbrev cX2_howMany : ByteArray := prog_1_method_76_code
def yX2_howMany : MethodName := ⟨RX2, "howMany", "(IZ)J"⟩
abbrev cX2_canBeTold : ByteArray := prog_1_method_77_code
def yX2_canBeTold : MethodName := ⟨RX2, "canBeTold", "(J)Z"⟩
abbrev cX2_numberInSigns : ByteArray := prog_1_method_78_code
def yX2_numberInSigns : MethodName := ⟨RX2, "numberInSigns", "(J)Ljava/lang/String;"⟩
abbrev cX2_signsOf : ByteArray := prog_1_method_79_code
def yX2_signsOf : MethodName := ⟨RX2, "signsOf", "(I)I"⟩
abbrev cX2_isInCalendar : ByteArray := prog_1_method_80_code
def yX2_isInCalendar : MethodName := ⟨RX2, "isInCalendar", "(III)Z"⟩
abbrev cX2_daysOfMonth : ByteArray := prog_1_method_81_code
def yX2_daysOfMonth : MethodName := ⟨RX2, "daysOfMonth", "(II)I"⟩
abbrev cX2_daysToYear : ByteArray := prog_1_method_82_code
def yX2_daysToYear : MethodName := ⟨RX2, "daysToYear", "(I)I"⟩
abbrev cX2_numberOf : ByteArray := prog_1_method_83_code
def yX2_numberOf : MethodName := ⟨RX2, "numberOf", "(III)I"⟩
abbrev cX2_dayKept : ByteArray := prog_1_method_84_code
def yX2_dayKept : MethodName := ⟨RX2, "dayKept", "(III)I"⟩
def RX3 : String := "PeriodcardLaw$Out"
def TX3 : u_T := fun k => match k with
  | 0 => ("PeriodcardLaw$Out", "n", "J", false)
  | _ => ("PeriodcardLaw$Out", "s", "Ljava/lang/String;", false)
def tyX3 : Nat → FieldType := fun k => match k with
  | 0 => .long
  | _ => .object "java/lang/String"
abbrev wsX30 : List Cond := u_ws RX3 TX3 2
theorem nmX3 : ∀ a, a < 2 → ∀ b, b < 2 → a ≠ b → (TX3 a).2.1 ≠ (TX3 b).2.1 := by decide +kernel
theorem tyX3_ok : ∀ k, k < 2 → parseFieldDescriptor (TX3 k).2.2.1 = some (tyX3 k) := by decide +kernel
abbrev cX3_init : ByteArray := prog_5_method_1_code
def yX3_init : MethodName := ⟨RX3, "<init>", "()V"⟩
def RX4 : String := "PeriodcardModel"
def TX4 : u_T := fun k => match k with
  | 0 => ("PeriodcardModel", "thrown", "I", false)
  | 1 => ("PeriodcardModel", "cards", "[[I", true)
  | 2 => ("PeriodcardModel", "pile", "Ljava/util/ArrayList;", true)
  | 3 => ("PeriodcardModel", "dates", "[[I", true)
  | 4 => ("PeriodcardModel", "knocks", "I", false)
  | _ => ("PeriodcardModel", "refused", "I", false)
def tyX4 : Nat → FieldType := fun k => match k with
  | 0 => .int
  | 1 => .array (.array .int)
  | 2 => .object "java/util/ArrayList"
  | 3 => .array (.array .int)
  | 4 => .int
  | _ => .int
abbrev wsX40 : List Cond := u_ws RX4 TX4 6
theorem nmX4 : ∀ a, a < 6 → ∀ b, b < 6 → a ≠ b → (TX4 a).2.1 ≠ (TX4 b).2.1 := by decide +kernel
theorem tyX4_ok : ∀ k, k < 6 → parseFieldDescriptor (TX4 k).2.2.1 = some (tyX4 k) := by decide +kernel
abbrev cX4_init : ByteArray := prog_6_method_1_code
def yX4_init : MethodName := ⟨RX4, "<init>", "()V"⟩
abbrev cX4_thrown : ByteArray := prog_6_method_2_code
def yX4_thrown : MethodName := ⟨RX4, "thrown", "()I"⟩
abbrev cX4_one : ByteArray := prog_6_method_3_code
def yX4_one : MethodName := ⟨RX4, "one", "(Z)I"⟩
abbrev cX4_isIn : ByteArray := prog_6_method_4_code
def yX4_isIn : MethodName := ⟨RX4, "isIn", "(JJJ)Z"⟩
abbrev cX4_isNone : ByteArray := prog_6_method_5_code
def yX4_isNone : MethodName := ⟨RX4, "isNone", "(I)Z"⟩
abbrev cX4_stops : ByteArray := prog_6_method_6_code
def yX4_stops : MethodName := ⟨RX4, "stops", "(ZZ)Z"⟩
abbrev cX4_refuse : ByteArray := prog_6_method_7_code
def yX4_refuse : MethodName := ⟨RX4, "refuse", "()I"⟩
abbrev cX4_span : ByteArray := prog_6_method_8_code
def yX4_span : MethodName := ⟨RX4, "span", "(JJJ)[I"⟩
abbrev cX4_isSame : ByteArray := prog_6_method_9_code
def yX4_isSame : MethodName := ⟨RX4, "isSame", "([I[I)Z"⟩
abbrev cX4_total : ByteArray := prog_6_method_10_code
def yX4_total : MethodName := ⟨RX4, "total", "([I)J"⟩
abbrev cX4_isAlike : ByteArray := prog_6_method_11_code
def yX4_isAlike : MethodName := ⟨RX4, "isAlike", "([I[I)Z"⟩
abbrev cX4_sum : ByteArray := prog_6_method_12_code
def yX4_sum : MethodName := ⟨RX4, "sum", "([IJ[I)[I"⟩
abbrev cX4_tidied : ByteArray := prog_6_method_13_code
def yX4_tidied : MethodName := ⟨RX4, "tidied", "([I)[I"⟩
abbrev cX4_nothing : ByteArray := prog_6_method_14_code
def yX4_nothing : MethodName := ⟨RX4, "nothing", "()[I"⟩
abbrev cX4_opposed : ByteArray := prog_6_method_15_code
def yX4_opposed : MethodName := ⟨RX4, "opposed", "([I)[I"⟩
abbrev cX4_told : ByteArray := prog_6_method_16_code
def yX4_told : MethodName := ⟨RX4, "told", "([I)Ljava/lang/String;"⟩
abbrev cX4_addedUp : ByteArray := prog_6_method_17_code
def yX4_addedUp : MethodName := ⟨RX4, "addedUp", "([II)[I"⟩
abbrev cX4_get : ByteArray := prog_6_method_18_code
def yX4_get : MethodName := ⟨RX4, "get", "(I[I)I"⟩
abbrev cX4_written : ByteArray := prog_6_method_19_code
def yX4_written : MethodName := ⟨RX4, "written", "(IJJJ)I"⟩
abbrev cX4_write : ByteArray := prog_6_method_20_code
def yX4_write : MethodName := ⟨RX4, "write", "(IIII)I"⟩
abbrev cX4_ofYears : ByteArray := prog_6_method_21_code
def yX4_ofYears : MethodName := ⟨RX4, "ofYears", "(II)I"⟩
abbrev cX4_ofMonths : ByteArray := prog_6_method_22_code
def yX4_ofMonths : MethodName := ⟨RX4, "ofMonths", "(II)I"⟩
abbrev cX4_ofWeeks : ByteArray := prog_6_method_23_code
def yX4_ofWeeks : MethodName := ⟨RX4, "ofWeeks", "(II)I"⟩
abbrev cX4_ofDays : ByteArray := prog_6_method_24_code
def yX4_ofDays : MethodName := ⟨RX4, "ofDays", "(II)I"⟩
abbrev cX4_change : ByteArray := prog_6_method_25_code
def yX4_change : MethodName := ⟨RX4, "change", "(III)I"⟩
abbrev cX4_copy : ByteArray := prog_6_method_26_code
def yX4_copy : MethodName := ⟨RX4, "copy", "(II)I"⟩
abbrev cX4_swap : ByteArray := prog_6_method_27_code
def yX4_swap : MethodName := ⟨RX4, "swap", "(II)I"⟩
abbrev cX4_moreOf : ByteArray := prog_6_method_28_code
def yX4_moreOf : MethodName := ⟨RX4, "moreOf", "(IIIZI)I"⟩
abbrev cX4_plusYears : ByteArray := prog_6_method_29_code
def yX4_plusYears : MethodName := ⟨RX4, "plusYears", "(IIZ)I"⟩
abbrev cX4_plusMonths : ByteArray := prog_6_method_30_code
def yX4_plusMonths : MethodName := ⟨RX4, "plusMonths", "(IIZ)I"⟩
abbrev cX4_plusDays : ByteArray := prog_6_method_31_code
def yX4_plusDays : MethodName := ⟨RX4, "plusDays", "(IIZ)I"⟩
abbrev cX4_minusYears : ByteArray := prog_6_method_32_code
def yX4_minusYears : MethodName := ⟨RX4, "minusYears", "(IIZ)I"⟩
abbrev cX4_minusMonths : ByteArray := prog_6_method_33_code
def yX4_minusMonths : MethodName := ⟨RX4, "minusMonths", "(IIZ)I"⟩
abbrev cX4_minusDays : ByteArray := prog_6_method_34_code
def yX4_minusDays : MethodName := ⟨RX4, "minusDays", "(IIZ)I"⟩
abbrev cX4_plus : ByteArray := prog_6_method_35_code
def yX4_plus : MethodName := ⟨RX4, "plus", "(II)I"⟩
abbrev cX4_minus : ByteArray := prog_6_method_36_code
def yX4_minus : MethodName := ⟨RX4, "minus", "(II)I"⟩
abbrev cX4_multipliedBy : ByteArray := prog_6_method_37_code
def yX4_multipliedBy : MethodName := ⟨RX4, "multipliedBy", "(II)I"⟩
abbrev cX4_negated : ByteArray := prog_6_method_38_code
def yX4_negated : MethodName := ⟨RX4, "negated", "(I)I"⟩
abbrev cX4_normalized : ByteArray := prog_6_method_39_code
def yX4_normalized : MethodName := ⟨RX4, "normalized", "(I)I"⟩
abbrev cX4_lay : ByteArray := prog_6_method_40_code
def yX4_lay : MethodName := ⟨RX4, "lay", "(I)I"⟩
abbrev cX4_take : ByteArray := prog_6_method_41_code
def yX4_take : MethodName := ⟨RX4, "take", "(I)I"⟩
abbrev cX4_sum_ : ByteArray := prog_6_method_42_code
def yX4_sum_ : MethodName := ⟨RX4, "sum", "(I)I"⟩
abbrev cX4_piledNow : ByteArray := prog_6_method_43_code
def yX4_piledNow : MethodName := ⟨RX4, "piledNow", "(I)Ljava/lang/String;"⟩
abbrev cX4_piled : ByteArray := prog_6_method_44_code
def yX4_piled : MethodName := ⟨RX4, "piled", "(I)Ljava/lang/String;"⟩
abbrev cX4_part : ByteArray := prog_6_method_45_code
def yX4_part : MethodName := ⟨RX4, "part", "(II)I"⟩
abbrev cX4_total_ : ByteArray := prog_6_method_46_code
def yX4_total_ : MethodName := ⟨RX4, "total", "(I)Ljava/lang/String;"⟩
abbrev cX4_isZeroNow : ByteArray := prog_6_method_47_code
def yX4_isZeroNow : MethodName := ⟨RX4, "isZeroNow", "(I)Z"⟩
abbrev cX4_isNegativeNow : ByteArray := prog_6_method_48_code
def yX4_isNegativeNow : MethodName := ⟨RX4, "isNegativeNow", "(I)Z"⟩
abbrev cX4_isZero : ByteArray := prog_6_method_49_code
def yX4_isZero : MethodName := ⟨RX4, "isZero", "(I)Z"⟩
abbrev cX4_isNegative : ByteArray := prog_6_method_50_code
def yX4_isNegative : MethodName := ⟨RX4, "isNegative", "(I)Z"⟩
abbrev cX4_areSame : ByteArray := prog_6_method_51_code
def yX4_areSame : MethodName := ⟨RX4, "areSame", "(II)Z"⟩
abbrev cX4_areAlike : ByteArray := prog_6_method_52_code
def yX4_areAlike : MethodName := ⟨RX4, "areAlike", "(II)Z"⟩
abbrev cX4_text : ByteArray := prog_6_method_53_code
def yX4_text : MethodName := ⟨RX4, "text", "(I)Ljava/lang/String;"⟩
abbrev cX4_times : ByteArray := prog_6_method_54_code
def yX4_times : MethodName := ⟨RX4, "times", "(II)Ljava/lang/String;"⟩
abbrev cX4_added : ByteArray := prog_6_method_55_code
def yX4_added : MethodName := ⟨RX4, "added", "(II)Ljava/lang/String;"⟩
abbrev cX4_with : ByteArray := prog_6_method_56_code
def yX4_with : MethodName := ⟨RX4, "with", "(IIZ)Ljava/lang/String;"⟩
abbrev cX4_tidy : ByteArray := prog_6_method_57_code
def yX4_tidy : MethodName := ⟨RX4, "tidy", "(I)Ljava/lang/String;"⟩
abbrev cX4_opposite : ByteArray := prog_6_method_58_code
def yX4_opposite : MethodName := ⟨RX4, "opposite", "(I)Ljava/lang/String;"⟩
abbrev cX4_isLong : ByteArray := prog_6_method_59_code
def yX4_isLong : MethodName := ⟨RX4, "isLong", "(I)Z"⟩
abbrev cX4_length : ByteArray := prog_6_method_60_code
def yX4_length : MethodName := ⟨RX4, "length", "(II)I"⟩
abbrev cX4_daysTo : ByteArray := prog_6_method_61_code
def yX4_daysTo : MethodName := ⟨RX4, "daysTo", "(I)I"⟩
abbrev cX4_number : ByteArray := prog_6_method_62_code
def yX4_number : MethodName := ⟨RX4, "number", "([I)I"⟩
abbrev cX4_dateOf : ByteArray := prog_6_method_63_code
def yX4_dateOf : MethodName := ⟨RX4, "dateOf", "(J)[I"⟩
abbrev cX4_onByMonths : ByteArray := prog_6_method_64_code
def yX4_onByMonths : MethodName := ⟨RX4, "onByMonths", "([IJ)[I"⟩
abbrev cX4_onBy : ByteArray := prog_6_method_65_code
def yX4_onBy : MethodName := ⟨RX4, "onBy", "([I[II)[I"⟩
abbrev cX4_apart : ByteArray := prog_6_method_66_code
def yX4_apart : MethodName := ⟨RX4, "apart", "([I[I)[I"⟩
abbrev cX4_dateTold : ByteArray := prog_6_method_67_code
def yX4_dateTold : MethodName := ⟨RX4, "dateTold", "([I)Ljava/lang/String;"⟩
abbrev cX4_become : ByteArray := prog_6_method_68_code
def yX4_become : MethodName := ⟨RX4, "become", "(I[I)I"⟩
abbrev cX4_date : ByteArray := prog_6_method_69_code
def yX4_date : MethodName := ⟨RX4, "date", "(IIII)I"⟩
abbrev cX4_copyDate : ByteArray := prog_6_method_70_code
def yX4_copyDate : MethodName := ⟨RX4, "copyDate", "(II)I"⟩
abbrev cX4_move : ByteArray := prog_6_method_71_code
def yX4_move : MethodName := ⟨RX4, "move", "(II)I"⟩
abbrev cX4_back : ByteArray := prog_6_method_72_code
def yX4_back : MethodName := ⟨RX4, "back", "(II)I"⟩
abbrev cX4_walk : ByteArray := prog_6_method_73_code
def yX4_walk : MethodName := ⟨RX4, "walk", "(III)I"⟩
abbrev cX4_between : ByteArray := prog_6_method_74_code
def yX4_between : MethodName := ⟨RX4, "between", "(III)I"⟩
abbrev cX4_until : ByteArray := prog_6_method_75_code
def yX4_until : MethodName := ⟨RX4, "until", "(III)I"⟩
abbrev cX4_ofDateNow : ByteArray := prog_6_method_76_code
def yX4_ofDateNow : MethodName := ⟨RX4, "ofDateNow", "(II)I"⟩
abbrev cX4_ofDate : ByteArray := prog_6_method_77_code
def yX4_ofDate : MethodName := ⟨RX4, "ofDate", "(II)I"⟩
abbrev cX4_dateText : ByteArray := prog_6_method_78_code
def yX4_dateText : MethodName := ⟨RX4, "dateText", "(I)Ljava/lang/String;"⟩
abbrev cX4_movedNow : ByteArray := prog_6_method_79_code
def yX4_movedNow : MethodName := ⟨RX4, "movedNow", "(IIZ)Ljava/lang/String;"⟩
abbrev cX4_moved : ByteArray := prog_6_method_80_code
def yX4_moved : MethodName := ⟨RX4, "moved", "(IIZ)Ljava/lang/String;"⟩
abbrev cX4_apart_ : ByteArray := prog_6_method_81_code
def yX4_apart_ : MethodName := ⟨RX4, "apart", "(II)Ljava/lang/String;"⟩
abbrev cX4_leadsBack : ByteArray := prog_6_method_82_code
def yX4_leadsBack : MethodName := ⟨RX4, "leadsBack", "(II)Z"⟩
abbrev cX4_isToldBack : ByteArray := prog_6_method_83_code
def yX4_isToldBack : MethodName := ⟨RX4, "isToldBack", "(II)Z"⟩
abbrev cX4_orderNow : ByteArray := prog_6_method_84_code
def yX4_orderNow : MethodName := ⟨RX4, "orderNow", "(II)I"⟩
abbrev cX4_order : ByteArray := prog_6_method_85_code
def yX4_order : MethodName := ⟨RX4, "order", "(II)I"⟩
abbrev cX4_knock : ByteArray := prog_6_method_86_code
def yX4_knock : MethodName := ⟨RX4, "knock", "()I"⟩
abbrev cX4_houseNow : ByteArray := prog_6_method_87_code
def yX4_houseNow : MethodName := ⟨RX4, "houseNow", "(I)I"⟩
abbrev cX4_house : ByteArray := prog_6_method_88_code
def yX4_house : MethodName := ⟨RX4, "house", "(I)I"⟩
abbrev cX4_isSpanSound : ByteArray := prog_6_method_89_code
def yX4_isSpanSound : MethodName := ⟨RX4, "isSpanSound", "([I)Z"⟩
abbrev cX4_areSound : ByteArray := prog_6_method_90_code
def yX4_areSound : MethodName := ⟨RX4, "areSound", "([I[I)Z"⟩
abbrev cX4_isSoundNow : ByteArray := prog_6_method_91_code
def yX4_isSoundNow : MethodName := ⟨RX4, "isSoundNow", "()Z"⟩
abbrev cX4_isSound : ByteArray := prog_6_method_92_code
def yX4_isSound : MethodName := ⟨RX4, "isSound", "()Z"⟩
abbrev cX4_add : ByteArray := prog_6_method_93_code
def yX4_add : MethodName := ⟨RX4, "add", "(JJ)J"⟩
abbrev cX4_ofCards : ByteArray := prog_6_method_94_code
def yX4_ofCards : MethodName := ⟨RX4, "ofCards", "(J)J"⟩
abbrev cX4_ofDates : ByteArray := prog_6_method_95_code
def yX4_ofDates : MethodName := ⟨RX4, "ofDates", "(J)J"⟩
abbrev cX4_digest : ByteArray := prog_6_method_96_code
def yX4_digest : MethodName := ⟨RX4, "digest", "()J"⟩
def RJx145de : String := "java/io/Serializable"
def TJx145de : u_T := fun k => match k with
  | _ => ("", "", "", false)
def tyJx145de : Nat → FieldType := fun k => match k with
  | _ => .int
abbrev wsJx145de0 : List Cond := u_ws RJx145de TJx145de 0
theorem nmJx145de : ∀ a, a < 0 → ∀ b, b < 0 → a ≠ b → (TJx145de a).2.1 ≠ (TJx145de b).2.1 := by decide +kernel
theorem tyJx145de_ok : ∀ k, k < 0 → parseFieldDescriptor (TJx145de k).2.2.1 = some (tyJx145de k) := by decide +kernel
def RJ5 : String := "java/lang/AbstractStringBuilder"
def TJ5 : u_T := fun k => match k with
  | _ => ("", "", "", false)
def tyJ5 : Nat → FieldType := fun k => match k with
  | _ => .int
abbrev wsJ50 : List Cond := u_ws RJ5 TJ5 0
theorem nmJ5 : ∀ a, a < 0 → ∀ b, b < 0 → a ≠ b → (TJ5 a).2.1 ≠ (TJ5 b).2.1 := by decide +kernel
theorem tyJ5_ok : ∀ k, k < 0 → parseFieldDescriptor (TJ5 k).2.2.1 = some (tyJ5 k) := by decide +kernel
abbrev cJ5_init_d00df : ByteArray := prog_8_method_2_code
def yJ5_init_d00df : MethodName := ⟨RJ5, "<init>", "(I)V"⟩
abbrev cJ5_length_8abf5 : ByteArray := prog_8_method_6_code
def yJ5_length_8abf5 : MethodName := ⟨RJ5, "length", "()I"⟩
abbrev cJ5_ensureCapacityInternal_d00df : ByteArray := prog_8_method_9_code
def yJ5_ensureCapacityInternal_d00df : MethodName := ⟨RJ5, "ensureCapacityInternal", "(I)V"⟩
abbrev cJ5_newCapacity_0f7a4 : ByteArray := prog_8_method_10_code
def yJ5_newCapacity_0f7a4 : MethodName := ⟨RJ5, "newCapacity", "(I)I"⟩
abbrev cJ5_inflate_da8c8 : ByteArray := prog_8_method_11_code
def yJ5_inflate_da8c8 : MethodName := ⟨RJ5, "inflate", "()V"⟩
abbrev cJ5_append_cf1ce : ByteArray := prog_8_method_22_code
def yJ5_append_cf1ce : MethodName := ⟨RJ5, "append", "(Ljava/lang/String;)Ljava/lang/AbstractStringBuilder;"⟩
abbrev cJ5_appendNull_278bc : ByteArray := prog_8_method_26_code
def yJ5_appendNull_278bc : MethodName := ⟨RJ5, "appendNull", "()Ljava/lang/AbstractStringBuilder;"⟩
abbrev cJ5_append_3fe6f : ByteArray := prog_8_method_31_code
def yJ5_append_3fe6f : MethodName := ⟨RJ5, "append", "(C)Ljava/lang/AbstractStringBuilder;"⟩
abbrev cJ5_append_c97b9 : ByteArray := prog_8_method_32_code
def yJ5_append_c97b9 : MethodName := ⟨RJ5, "append", "(I)Ljava/lang/AbstractStringBuilder;"⟩
abbrev cJ5_append_66267 : ByteArray := prog_8_method_33_code
def yJ5_append_66267 : MethodName := ⟨RJ5, "append", "(J)Ljava/lang/AbstractStringBuilder;"⟩
abbrev cJ5_reverse_278bc : ByteArray := prog_8_method_60_code
def yJ5_reverse_278bc : MethodName := ⟨RJ5, "reverse", "()Ljava/lang/AbstractStringBuilder;"⟩
abbrev cJ5_getValue_6d5f1 : ByteArray := prog_8_method_64_code
def yJ5_getValue_6d5f1 : MethodName := ⟨RJ5, "getValue", "()[B"⟩
abbrev cJ5_isLatin1_aae02 : ByteArray := prog_8_method_68_code
def yJ5_isLatin1_aae02 : MethodName := ⟨RJ5, "isLatin1", "()Z"⟩
abbrev cJ5_inflateIfNeededFor_a7421 : ByteArray := prog_8_method_71_code
def yJ5_inflateIfNeededFor_a7421 : MethodName := ⟨RJ5, "inflateIfNeededFor", "(Ljava/lang/String;)V"⟩
abbrev cJ5_putStringAt_47b60 : ByteArray := prog_8_method_73_code
def yJ5_putStringAt_47b60 : MethodName := ⟨RJ5, "putStringAt", "(ILjava/lang/String;)V"⟩
def RJx2cfe8 : String := "java/lang/Appendable"
def TJx2cfe8 : u_T := fun k => match k with
  | _ => ("", "", "", false)
def tyJx2cfe8 : Nat → FieldType := fun k => match k with
  | _ => .int
abbrev wsJx2cfe80 : List Cond := u_ws RJx2cfe8 TJx2cfe8 0
theorem nmJx2cfe8 : ∀ a, a < 0 → ∀ b, b < 0 → a ≠ b → (TJx2cfe8 a).2.1 ≠ (TJx2cfe8 b).2.1 := by decide +kernel
theorem tyJx2cfe8_ok : ∀ k, k < 0 → parseFieldDescriptor (TJx2cfe8 k).2.2.1 = some (tyJx2cfe8 k) := by decide +kernel
def RJx9f9b0 : String := "java/lang/CharSequence"
def TJx9f9b0 : u_T := fun k => match k with
  | _ => ("", "", "", false)
def tyJx9f9b0 : Nat → FieldType := fun k => match k with
  | _ => .int
abbrev wsJx9f9b00 : List Cond := u_ws RJx9f9b0 TJx9f9b0 0
theorem nmJx9f9b0 : ∀ a, a < 0 → ∀ b, b < 0 → a ≠ b → (TJx9f9b0 a).2.1 ≠ (TJx9f9b0 b).2.1 := by decide +kernel
theorem tyJx9f9b0_ok : ∀ k, k < 0 → parseFieldDescriptor (TJx9f9b0 k).2.2.1 = some (tyJx9f9b0 k) := by decide +kernel
def RJ11 : String := "java/lang/Character"
def TJ11 : u_T := fun k => match k with
  | _ => ("", "", "", false)
def tyJ11 : Nat → FieldType := fun k => match k with
  | _ => .int
abbrev wsJ110 : List Cond := u_ws RJ11 TJ11 0
theorem nmJ11 : ∀ a, a < 0 → ∀ b, b < 0 → a ≠ b → (TJ11 a).2.1 ≠ (TJ11 b).2.1 := by decide +kernel
theorem tyJ11_ok : ∀ k, k < 0 → parseFieldDescriptor (TJ11 k).2.2.1 = some (tyJ11 k) := by decide +kernel
abbrev cJ11_isHighSurrogate_fc78d : ByteArray := prog_11_method_14_code
def yJ11_isHighSurrogate_fc78d : MethodName := ⟨RJ11, "isHighSurrogate", "(C)Z"⟩
abbrev cJ11_isLowSurrogate_fc78d : ByteArray := prog_11_method_15_code
def yJ11_isLowSurrogate_fc78d : MethodName := ⟨RJ11, "isLowSurrogate", "(C)Z"⟩
abbrev cJ11_isSurrogate_fc78d : ByteArray := prog_11_method_16_code
def yJ11_isSurrogate_fc78d : MethodName := ⟨RJ11, "isSurrogate", "(C)Z"⟩
def RJx8e188 : String := "java/lang/Cloneable"
def TJx8e188 : u_T := fun k => match k with
  | _ => ("", "", "", false)
def tyJx8e188 : Nat → FieldType := fun k => match k with
  | _ => .int
abbrev wsJx8e1880 : List Cond := u_ws RJx8e188 TJx8e188 0
theorem nmJx8e188 : ∀ a, a < 0 → ∀ b, b < 0 → a ≠ b → (TJx8e188 a).2.1 ≠ (TJx8e188 b).2.1 := by decide +kernel
theorem tyJx8e188_ok : ∀ k, k < 0 → parseFieldDescriptor (TJx8e188 k).2.2.1 = some (tyJx8e188 k) := by decide +kernel
def RJxb160c : String := "java/lang/Comparable"
def TJxb160c : u_T := fun k => match k with
  | _ => ("", "", "", false)
def tyJxb160c : Nat → FieldType := fun k => match k with
  | _ => .int
abbrev wsJxb160c0 : List Cond := u_ws RJxb160c TJxb160c 0
theorem nmJxb160c : ∀ a, a < 0 → ∀ b, b < 0 → a ≠ b → (TJxb160c a).2.1 ≠ (TJxb160c b).2.1 := by decide +kernel
theorem tyJxb160c_ok : ∀ k, k < 0 → parseFieldDescriptor (TJxb160c k).2.2.1 = some (tyJxb160c k) := by decide +kernel
def RJ6 : String := "java/lang/Integer"
def TJ6 : u_T := fun k => match k with
  | _ => ("", "", "", false)
def tyJ6 : Nat → FieldType := fun k => match k with
  | _ => .int
abbrev wsJ60 : List Cond := u_ws RJ6 TJ6 0
theorem nmJ6 : ∀ a, a < 0 → ∀ b, b < 0 → a ≠ b → (TJ6 a).2.1 ≠ (TJ6 b).2.1 := by decide +kernel
theorem tyJ6_ok : ∀ k, k < 0 → parseFieldDescriptor (TJ6 k).2.2.1 = some (tyJ6 k) := by decide +kernel
abbrev cJ6_getChars_ba4f3 : ByteArray := prog_17_method_12_code
def yJ6_getChars_ba4f3 : MethodName := ⟨RJ6, "getChars", "(II[B)I"⟩
abbrev cJ6_stringSize_0f7a4 : ByteArray := prog_17_method_13_code
def yJ6_stringSize_0f7a4 : MethodName := ⟨RJ6, "stringSize", "(I)I"⟩
def RJxab1ab : String := "java/lang/Iterable"
def TJxab1ab : u_T := fun k => match k with
  | _ => ("", "", "", false)
def tyJxab1ab : Nat → FieldType := fun k => match k with
  | _ => .int
abbrev wsJxab1ab0 : List Cond := u_ws RJxab1ab TJxab1ab 0
theorem nmJxab1ab : ∀ a, a < 0 → ∀ b, b < 0 → a ≠ b → (TJxab1ab a).2.1 ≠ (TJxab1ab b).2.1 := by decide +kernel
theorem tyJxab1ab_ok : ∀ k, k < 0 → parseFieldDescriptor (TJxab1ab k).2.2.1 = some (tyJxab1ab k) := by decide +kernel
def RJ13 : String := "java/lang/Long"
def TJ13 : u_T := fun k => match k with
  | _ => ("", "", "", false)
def tyJ13 : Nat → FieldType := fun k => match k with
  | _ => .int
abbrev wsJ130 : List Cond := u_ws RJ13 TJ13 0
theorem nmJ13 : ∀ a, a < 0 → ∀ b, b < 0 → a ≠ b → (TJ13 a).2.1 ≠ (TJ13 b).2.1 := by decide +kernel
theorem tyJ13_ok : ∀ k, k < 0 → parseFieldDescriptor (TJ13 k).2.2.1 = some (tyJ13 k) := by decide +kernel
abbrev cJ13_getChars_11360 : ByteArray := prog_19_method_14_code
def yJ13_getChars_11360 : MethodName := ⟨RJ13, "getChars", "(JI[B)I"⟩
abbrev cJ13_stringSize_95d88 : ByteArray := prog_19_method_15_code
def yJ13_stringSize_95d88 : MethodName := ⟨RJ13, "stringSize", "(J)I"⟩
def RJ9 : String := "java/lang/Math"
def TJ9 : u_T := fun k => match k with
  | _ => ("", "", "", false)
def tyJ9 : Nat → FieldType := fun k => match k with
  | _ => .int
abbrev wsJ90 : List Cond := u_ws RJ9 TJ9 0
theorem nmJ9 : ∀ a, a < 0 → ∀ b, b < 0 → a ≠ b → (TJ9 a).2.1 ≠ (TJ9 b).2.1 := by decide +kernel
theorem tyJ9_ok : ∀ k, k < 0 → parseFieldDescriptor (TJ9 k).2.2.1 = some (tyJ9 k) := by decide +kernel
abbrev cJ9_max_7cf53 : ByteArray := prog_20_method_65_code
def yJ9_max_7cf53 : MethodName := ⟨RJ9, "max", "(II)I"⟩
abbrev cJ9_min_7cf53 : ByteArray := prog_20_method_69_code
def yJ9_min_7cf53 : MethodName := ⟨RJ9, "min", "(II)I"⟩
def RJxd2413 : String := "java/lang/Number"
def TJxd2413 : u_T := fun k => match k with
  | _ => ("", "", "", false)
def tyJxd2413 : Nat → FieldType := fun k => match k with
  | _ => .int
abbrev wsJxd24130 : List Cond := u_ws RJxd2413 TJxd2413 0
theorem nmJxd2413 : ∀ a, a < 0 → ∀ b, b < 0 → a ≠ b → (TJxd2413 a).2.1 ≠ (TJxd2413 b).2.1 := by decide +kernel
theorem tyJxd2413_ok : ∀ k, k < 0 → parseFieldDescriptor (TJxd2413 k).2.2.1 = some (tyJxd2413 k) := by decide +kernel
def RJ0 : String := "java/lang/String"
def TJ0 : u_T := fun k => match k with
  | 0 => ("java/lang/String", "value", "[B", true)
  | 1 => ("java/lang/String", "coder", "B", true)
  | 2 => ("java/lang/String", "hash", "I", false)
  | _ => ("java/lang/String", "hashIsZero", "Z", false)
def tyJ0 : Nat → FieldType := fun k => match k with
  | 0 => .array .byte
  | 1 => .byte
  | 2 => .int
  | _ => .boolean
abbrev wsJ00 : List Cond := u_ws RJ0 TJ0 4
theorem nmJ0 : ∀ a, a < 4 → ∀ b, b < 4 → a ≠ b → (TJ0 a).2.1 ≠ (TJ0 b).2.1 := by decide +kernel
theorem tyJ0_ok : ∀ k, k < 4 → parseFieldDescriptor (TJ0 k).2.2.1 = some (tyJ0 k) := by decide +kernel
abbrev cJ0_init_81219 : ByteArray := prog_23_method_53_code
def yJ0_init_81219 : MethodName := ⟨RJ0, "<init>", "(Ljava/lang/StringBuilder;)V"⟩
abbrev cJ0_length_8abf5 : ByteArray := prog_23_method_54_code
def yJ0_length_8abf5 : MethodName := ⟨RJ0, "length", "()I"⟩
abbrev cJ0_getBytes_840e7 : ByteArray := prog_23_method_147_code
def yJ0_getBytes_840e7 : MethodName := ⟨RJ0, "getBytes", "([BIB)V"⟩
abbrev cJ0_init_db425 : ByteArray := prog_23_method_150_code
def yJ0_init_db425 : MethodName := ⟨RJ0, "<init>", "(Ljava/lang/AbstractStringBuilder;Ljava/lang/Void;)V"⟩
abbrev cJ0_coder_7d493 : ByteArray := prog_23_method_152_code
def yJ0_coder_7d493 : MethodName := ⟨RJ0, "coder", "()B"⟩
abbrev cJ0_checkIndex_df160 : ByteArray := prog_23_method_155_code
def yJ0_checkIndex_df160 : MethodName := ⟨RJ0, "checkIndex", "(II)V"⟩
abbrev cJ0_checkOffset_df160 : ByteArray := prog_23_method_156_code
def yJ0_checkOffset_df160 : MethodName := ⟨RJ0, "checkOffset", "(II)V"⟩
abbrev cJ0_checkBoundsOffCount_cabcc : ByteArray := prog_23_method_157_code
def yJ0_checkBoundsOffCount_cabcc : MethodName := ⟨RJ0, "checkBoundsOffCount", "(III)I"⟩
abbrev cJ0_checkBoundsBeginEnd_23922 : ByteArray := prog_23_method_158_code
def yJ0_checkBoundsBeginEnd_23922 : MethodName := ⟨RJ0, "checkBoundsBeginEnd", "(III)V"⟩
def RJ4 : String := "java/lang/StringBuilder"
def TJ4 : u_T := fun k => match k with
  | 0 => ("java/lang/AbstractStringBuilder", "value", "[B", false)
  | 1 => ("java/lang/AbstractStringBuilder", "coder", "B", false)
  | 2 => ("java/lang/AbstractStringBuilder", "maybeLatin1", "Z", false)
  | _ => ("java/lang/AbstractStringBuilder", "count", "I", false)
def tyJ4 : Nat → FieldType := fun k => match k with
  | 0 => .array .byte
  | 1 => .byte
  | 2 => .boolean
  | _ => .int
abbrev wsJ40 : List Cond := u_ws RJ4 TJ4 4
theorem nmJ4 : ∀ a, a < 4 → ∀ b, b < 4 → a ≠ b → (TJ4 a).2.1 ≠ (TJ4 b).2.1 := by decide +kernel
theorem tyJ4_ok : ∀ k, k < 4 → parseFieldDescriptor (TJ4 k).2.2.1 = some (tyJ4 k) := by decide +kernel
abbrev cJ4_init_da8c8 : ByteArray := prog_24_method_1_code
def yJ4_init_da8c8 : MethodName := ⟨RJ4, "<init>", "()V"⟩
abbrev cJ4_append_15ec4 : ByteArray := prog_24_method_7_code
def yJ4_append_15ec4 : MethodName := ⟨RJ4, "append", "(Ljava/lang/String;)Ljava/lang/StringBuilder;"⟩
abbrev cJ4_append_cf468 : ByteArray := prog_24_method_14_code
def yJ4_append_cf468 : MethodName := ⟨RJ4, "append", "(C)Ljava/lang/StringBuilder;"⟩
abbrev cJ4_append_bf812 : ByteArray := prog_24_method_15_code
def yJ4_append_bf812 : MethodName := ⟨RJ4, "append", "(I)Ljava/lang/StringBuilder;"⟩
abbrev cJ4_append_f7089 : ByteArray := prog_24_method_16_code
def yJ4_append_f7089 : MethodName := ⟨RJ4, "append", "(J)Ljava/lang/StringBuilder;"⟩
abbrev cJ4_reverse_43fcb : ByteArray := prog_24_method_39_code
def yJ4_reverse_43fcb : MethodName := ⟨RJ4, "reverse", "()Ljava/lang/StringBuilder;"⟩
abbrev cJ4_toString_0e30d : ByteArray := prog_24_method_42_code
def yJ4_toString_0e30d : MethodName := ⟨RJ4, "toString", "()Ljava/lang/String;"⟩
abbrev cJ4_length_8abf5 : ByteArray := prog_24_method_93_code
def yJ4_length_8abf5 : MethodName := ⟨RJ4, "length", "()I"⟩
def RJ1 : String := "java/lang/StringLatin1"
def TJ1 : u_T := fun k => match k with
  | _ => ("", "", "", false)
def tyJ1 : Nat → FieldType := fun k => match k with
  | _ => .int
abbrev wsJ10 : List Cond := u_ws RJ1 TJ1 0
theorem nmJ1 : ∀ a, a < 0 → ∀ b, b < 0 → a ≠ b → (TJ1 a).2.1 ≠ (TJ1 b).2.1 := by decide +kernel
theorem tyJ1_ok : ∀ k, k < 0 → parseFieldDescriptor (TJ1 k).2.2.1 = some (tyJ1 k) := by decide +kernel
abbrev cJ1_canEncode_fc78d : ByteArray := prog_25_method_3_code
def yJ1_canEncode_fc78d : MethodName := ⟨RJ1, "canEncode", "(C)Z"⟩
abbrev cJ1_inflate_0e8fd : ByteArray := prog_25_method_50_code
def yJ1_inflate_0e8fd : MethodName := ⟨RJ1, "inflate", "([BI[BII)V"⟩
def RJ2 : String := "java/lang/StringUTF16"
def TJ2 : u_T := fun k => match k with
  | _ => ("", "", "", false)
def tyJ2 : Nat → FieldType := fun k => match k with
  | _ => .int
abbrev wsJ20 : List Cond := u_ws RJ2 TJ2 0
theorem nmJ2 : ∀ a, a < 0 → ∀ b, b < 0 → a ≠ b → (TJ2 a).2.1 ≠ (TJ2 b).2.1 := by decide +kernel
theorem tyJ2_ok : ∀ k, k < 0 → parseFieldDescriptor (TJ2 k).2.2.1 = some (tyJ2 k) := by decide +kernel
abbrev cJ2_newBytesFor_77867 : ByteArray := prog_26_method_2_code
def yJ2_newBytesFor_77867 : MethodName := ⟨RJ2, "newBytesFor", "(I)[B"⟩
abbrev cJ2_newBytesLength_0f7a4 : ByteArray := prog_26_method_3_code
def yJ2_newBytesLength_0f7a4 : MethodName := ⟨RJ2, "newBytesLength", "(I)I"⟩
abbrev cJ2_putChar_b72d1 : ByteArray := prog_26_method_4_code
def yJ2_putChar_b72d1 : MethodName := ⟨RJ2, "putChar", "([BII)V"⟩
abbrev cJ2_getChar_3b067 : ByteArray := prog_26_method_5_code
def yJ2_getChar_3b067 : MethodName := ⟨RJ2, "getChar", "([BI)C"⟩
abbrev cJ2_length_9d52b : ByteArray := prog_26_method_6_code
def yJ2_length_9d52b : MethodName := ⟨RJ2, "length", "([B)I"⟩
abbrev cJ2_coderFromArrayLen_85cad : ByteArray := prog_26_method_15_code
def yJ2_coderFromArrayLen_85cad : MethodName := ⟨RJ2, "coderFromArrayLen", "([BI)B"⟩
abbrev cJ2_compress_39247 : ByteArray := prog_26_method_17_code
def yJ2_compress_39247 : MethodName := ⟨RJ2, "compress", "([BII)[B"⟩
abbrev cJ2_compress_5af95 : ByteArray := prog_26_method_22_code
def yJ2_compress_5af95 : MethodName := ⟨RJ2, "compress", "([BI[BII)I"⟩
abbrev cJ2_putCharSB_b72d1 : ByteArray := prog_26_method_71_code
def yJ2_putCharSB_b72d1 : MethodName := ⟨RJ2, "putCharSB", "([BII)V"⟩
abbrev cJ2_getChars_46870 : ByteArray := prog_26_method_77_code
def yJ2_getChars_46870 : MethodName := ⟨RJ2, "getChars", "(III[B)I"⟩
abbrev cJ2_getChars_1ba55 : ByteArray := prog_26_method_78_code
def yJ2_getChars_1ba55 : MethodName := ⟨RJ2, "getChars", "(JII[B)I"⟩
abbrev cJ2_putCharsAt_cd4e5 : ByteArray := prog_26_method_81_code
def yJ2_putCharsAt_cd4e5 : MethodName := ⟨RJ2, "putCharsAt", "([BICCCC)I"⟩
abbrev cJ2_reverse_db04f : ByteArray := prog_26_method_84_code
def yJ2_reverse_db04f : MethodName := ⟨RJ2, "reverse", "([BI)V"⟩
abbrev cJ2_reverseAllValidSurrogatePairs_db04f : ByteArray := prog_26_method_85_code
def yJ2_reverseAllValidSurrogatePairs_db04f : MethodName := ⟨RJ2, "reverseAllValidSurrogatePairs", "([BI)V"⟩
abbrev cJ2_inflate_0e8fd : ByteArray := prog_26_method_86_code
def yJ2_inflate_0e8fd : MethodName := ⟨RJ2, "inflate", "([BI[BII)V"⟩
abbrev cJ2_getChars_ba4f3 : ByteArray := prog_26_method_89_code
def yJ2_getChars_ba4f3 : MethodName := ⟨RJ2, "getChars", "(II[B)I"⟩
abbrev cJ2_getChars_11360 : ByteArray := prog_26_method_90_code
def yJ2_getChars_11360 : MethodName := ⟨RJ2, "getChars", "(JI[B)I"⟩
abbrev cJ2_checkIndex_2214a : ByteArray := prog_26_method_91_code
def yJ2_checkIndex_2214a : MethodName := ⟨RJ2, "checkIndex", "(I[B)V"⟩
abbrev cJ2_checkOffset_2214a : ByteArray := prog_26_method_92_code
def yJ2_checkOffset_2214a : MethodName := ⟨RJ2, "checkOffset", "(I[B)V"⟩
abbrev cJ2_checkBoundsBeginEnd_d044e : ByteArray := prog_26_method_93_code
def yJ2_checkBoundsBeginEnd_d044e : MethodName := ⟨RJ2, "checkBoundsBeginEnd", "(II[B)V"⟩
abbrev cJ2_checkBoundsOffCount_d044e : ByteArray := prog_26_method_94_code
def yJ2_checkBoundsOffCount_d044e : MethodName := ⟨RJ2, "checkBoundsOffCount", "(II[B)V"⟩
def RJ10 : String := "java/lang/System"
def TJ10 : u_T := fun k => match k with
  | _ => ("", "", "", false)
def tyJ10 : Nat → FieldType := fun k => match k with
  | _ => .int
abbrev wsJ100 : List Cond := u_ws RJ10 TJ10 0
theorem nmJ10 : ∀ a, a < 0 → ∀ b, b < 0 → a ≠ b → (TJ10 a).2.1 ≠ (TJ10 b).2.1 := by decide +kernel
theorem tyJ10_ok : ∀ k, k < 0 → parseFieldDescriptor (TJ10 k).2.2.1 = some (tyJ10 k) := by decide +kernel
def RJxfd54e : String := "java/lang/constant/Constable"
def TJxfd54e : u_T := fun k => match k with
  | _ => ("", "", "", false)
def tyJxfd54e : Nat → FieldType := fun k => match k with
  | _ => .int
abbrev wsJxfd54e0 : List Cond := u_ws RJxfd54e TJxfd54e 0
theorem nmJxfd54e : ∀ a, a < 0 → ∀ b, b < 0 → a ≠ b → (TJxfd54e a).2.1 ≠ (TJxfd54e b).2.1 := by decide +kernel
theorem tyJxfd54e_ok : ∀ k, k < 0 → parseFieldDescriptor (TJxfd54e k).2.2.1 = some (tyJxfd54e k) := by decide +kernel
def RJx3cf43 : String := "java/lang/constant/ConstantDesc"
def TJx3cf43 : u_T := fun k => match k with
  | _ => ("", "", "", false)
def tyJx3cf43 : Nat → FieldType := fun k => match k with
  | _ => .int
abbrev wsJx3cf430 : List Cond := u_ws RJx3cf43 TJx3cf43 0
theorem nmJx3cf43 : ∀ a, a < 0 → ∀ b, b < 0 → a ≠ b → (TJx3cf43 a).2.1 ≠ (TJx3cf43 b).2.1 := by decide +kernel
theorem tyJx3cf43_ok : ∀ k, k < 0 → parseFieldDescriptor (TJx3cf43 k).2.2.1 = some (tyJx3cf43 k) := by decide +kernel
def RJxa1e45 : String := "java/util/AbstractCollection"
def TJxa1e45 : u_T := fun k => match k with
  | _ => ("", "", "", false)
def tyJxa1e45 : Nat → FieldType := fun k => match k with
  | _ => .int
abbrev wsJxa1e450 : List Cond := u_ws RJxa1e45 TJxa1e45 0
theorem nmJxa1e45 : ∀ a, a < 0 → ∀ b, b < 0 → a ≠ b → (TJxa1e45 a).2.1 ≠ (TJxa1e45 b).2.1 := by decide +kernel
theorem tyJxa1e45_ok : ∀ k, k < 0 → parseFieldDescriptor (TJxa1e45 k).2.2.1 = some (tyJxa1e45 k) := by decide +kernel
abbrev cJxa1e45_init_da8c8 : ByteArray := prog_31_method_1_code
def yJxa1e45_init_da8c8 : MethodName := ⟨RJxa1e45, "<init>", "()V"⟩
def RJxc12de : String := "java/util/AbstractList"
def TJxc12de : u_T := fun k => match k with
  | _ => ("", "", "", false)
def tyJxc12de : Nat → FieldType := fun k => match k with
  | _ => .int
abbrev wsJxc12de0 : List Cond := u_ws RJxc12de TJxc12de 0
theorem nmJxc12de : ∀ a, a < 0 → ∀ b, b < 0 → a ≠ b → (TJxc12de a).2.1 ≠ (TJxc12de b).2.1 := by decide +kernel
theorem tyJxc12de_ok : ∀ k, k < 0 → parseFieldDescriptor (TJxc12de k).2.2.1 = some (tyJxc12de k) := by decide +kernel
abbrev cJxc12de_init_da8c8 : ByteArray := prog_32_method_1_code
def yJxc12de_init_da8c8 : MethodName := ⟨RJxc12de, "<init>", "()V"⟩
def RJx4a65c : String := "java/util/ArrayList"
def TJx4a65c : u_T := fun k => match k with
  | 0 => ("java/util/AbstractList", "modCount", "I", false)
  | 1 => ("java/util/ArrayList", "elementData", "[Ljava/lang/Object;", false)
  | _ => ("java/util/ArrayList", "size", "I", false)
def tyJx4a65c : Nat → FieldType := fun k => match k with
  | 0 => .int
  | 1 => .array (.object "java/lang/Object")
  | _ => .int
abbrev wsJx4a65c0 : List Cond := u_ws RJx4a65c TJx4a65c 3
theorem nmJx4a65c : ∀ a, a < 3 → ∀ b, b < 3 → a ≠ b → (TJx4a65c a).2.1 ≠ (TJx4a65c b).2.1 := by decide +kernel
theorem tyJx4a65c_ok : ∀ k, k < 3 → parseFieldDescriptor (TJx4a65c k).2.2.1 = some (tyJx4a65c k) := by decide +kernel
abbrev cJx4a65c_init_da8c8 : ByteArray := prog_33_method_2_code
def yJx4a65c_init_da8c8 : MethodName := ⟨RJx4a65c, "<init>", "()V"⟩
abbrev cJx4a65c_grow_92f84 : ByteArray := prog_33_method_6_code
def yJx4a65c_grow_92f84 : MethodName := ⟨RJx4a65c, "grow", "(I)[Ljava/lang/Object;"⟩
abbrev cJx4a65c_grow_d5877 : ByteArray := prog_33_method_7_code
def yJx4a65c_grow_d5877 : MethodName := ⟨RJx4a65c, "grow", "()[Ljava/lang/Object;"⟩
abbrev cJx4a65c_size_8abf5 : ByteArray := prog_33_method_8_code
def yJx4a65c_size_8abf5 : MethodName := ⟨RJx4a65c, "size", "()I"⟩
abbrev cJx4a65c_isEmpty_aae02 : ByteArray := prog_33_method_9_code
def yJx4a65c_isEmpty_aae02 : MethodName := ⟨RJx4a65c, "isEmpty", "()Z"⟩
abbrev cJx4a65c_elementData_915e3 : ByteArray := prog_33_method_18_code
def yJx4a65c_elementData_915e3 : MethodName := ⟨RJx4a65c, "elementData", "(I)Ljava/lang/Object;"⟩
abbrev cJx4a65c_get_915e3 : ByteArray := prog_33_method_20_code
def yJx4a65c_get_915e3 : MethodName := ⟨RJx4a65c, "get", "(I)Ljava/lang/Object;"⟩
abbrev cJx4a65c_add_72be8 : ByteArray := prog_33_method_24_code
def yJx4a65c_add_72be8 : MethodName := ⟨RJx4a65c, "add", "(Ljava/lang/Object;[Ljava/lang/Object;I)V"⟩
abbrev cJx4a65c_add_9ea2d : ByteArray := prog_33_method_25_code
def yJx4a65c_add_9ea2d : MethodName := ⟨RJx4a65c, "add", "(Ljava/lang/Object;)Z"⟩
abbrev cJx4a65c_remove_915e3 : ByteArray := prog_33_method_29_code
def yJx4a65c_remove_915e3 : MethodName := ⟨RJx4a65c, "remove", "(I)Ljava/lang/Object;"⟩
abbrev cJx4a65c_fastRemove_b59b0 : ByteArray := prog_33_method_39_code
def yJx4a65c_fastRemove_b59b0 : MethodName := ⟨RJx4a65c, "fastRemove", "([Ljava/lang/Object;I)V"⟩
def RJ7 : String := "java/util/Arrays"
def TJ7 : u_T := fun k => match k with
  | _ => ("", "", "", false)
def tyJ7 : Nat → FieldType := fun k => match k with
  | _ => .int
abbrev wsJ70 : List Cond := u_ws RJ7 TJ7 0
theorem nmJ7 : ∀ a, a < 0 → ∀ b, b < 0 → a ≠ b → (TJ7 a).2.1 ≠ (TJ7 b).2.1 := by decide +kernel
theorem tyJ7_ok : ∀ k, k < 0 → parseFieldDescriptor (TJ7 k).2.2.1 = some (tyJ7 k) := by decide +kernel
abbrev cJ7_copyOf_1904c : ByteArray := prog_34_method_119_code
def yJ7_copyOf_1904c : MethodName := ⟨RJ7, "copyOf", "([Ljava/lang/Object;I)[Ljava/lang/Object;"⟩
abbrev cJ7_copyOf_6403c : ByteArray := prog_34_method_120_code
def yJ7_copyOf_6403c : MethodName := ⟨RJ7, "copyOf", "([Ljava/lang/Object;ILjava/lang/Class;)[Ljava/lang/Object;"⟩
abbrev cJ7_copyOf_9075b : ByteArray := prog_34_method_121_code
def yJ7_copyOf_9075b : MethodName := ⟨RJ7, "copyOf", "([BI)[B"⟩
abbrev cJ7_checkLength_df160 : ByteArray := prog_34_method_131_code
def yJ7_checkLength_df160 : MethodName := ⟨RJ7, "checkLength", "(II)V"⟩
abbrev cJ7_copyOfRange_39247 : ByteArray := prog_34_method_132_code
def yJ7_copyOfRange_39247 : MethodName := ⟨RJ7, "copyOfRange", "([BII)[B"⟩
abbrev cJ7_copyOfRangeByte_39247 : ByteArray := prog_34_method_133_code
def yJ7_copyOfRangeByte_39247 : MethodName := ⟨RJ7, "copyOfRangeByte", "([BII)[B"⟩
def RJx5ef63 : String := "java/util/Collection"
def TJx5ef63 : u_T := fun k => match k with
  | _ => ("", "", "", false)
def tyJx5ef63 : Nat → FieldType := fun k => match k with
  | _ => .int
abbrev wsJx5ef630 : List Cond := u_ws RJx5ef63 TJx5ef63 0
theorem nmJx5ef63 : ∀ a, a < 0 → ∀ b, b < 0 → a ≠ b → (TJx5ef63 a).2.1 ≠ (TJx5ef63 b).2.1 := by decide +kernel
theorem tyJx5ef63_ok : ∀ k, k < 0 → parseFieldDescriptor (TJx5ef63 k).2.2.1 = some (tyJx5ef63 k) := by decide +kernel
def RJxbd725 : String := "java/util/List"
def TJxbd725 : u_T := fun k => match k with
  | _ => ("", "", "", false)
def tyJxbd725 : Nat → FieldType := fun k => match k with
  | _ => .int
abbrev wsJxbd7250 : List Cond := u_ws RJxbd725 TJxbd725 0
theorem nmJxbd725 : ∀ a, a < 0 → ∀ b, b < 0 → a ≠ b → (TJxbd725 a).2.1 ≠ (TJxbd725 b).2.1 := by decide +kernel
theorem tyJxbd725_ok : ∀ k, k < 0 → parseFieldDescriptor (TJxbd725 k).2.2.1 = some (tyJxbd725 k) := by decide +kernel
def RJ15 : String := "java/util/Objects"
def TJ15 : u_T := fun k => match k with
  | _ => ("", "", "", false)
def tyJ15 : Nat → FieldType := fun k => match k with
  | _ => .int
abbrev wsJ150 : List Cond := u_ws RJ15 TJ15 0
theorem nmJ15 : ∀ a, a < 0 → ∀ b, b < 0 → a ≠ b → (TJ15 a).2.1 ≠ (TJ15 b).2.1 := by decide +kernel
theorem tyJ15_ok : ∀ k, k < 0 → parseFieldDescriptor (TJ15 k).2.2.1 = some (tyJ15 k) := by decide +kernel
abbrev cJ15_checkIndex_7cf53 : ByteArray := prog_37_method_17_code
def yJ15_checkIndex_7cf53 : MethodName := ⟨RJ15, "checkIndex", "(II)I"⟩
def RJxf0a74 : String := "java/util/RandomAccess"
def TJxf0a74 : u_T := fun k => match k with
  | _ => ("", "", "", false)
def tyJxf0a74 : Nat → FieldType := fun k => match k with
  | _ => .int
abbrev wsJxf0a740 : List Cond := u_ws RJxf0a74 TJxf0a74 0
theorem nmJxf0a74 : ∀ a, a < 0 → ∀ b, b < 0 → a ≠ b → (TJxf0a74 a).2.1 ≠ (TJxf0a74 b).2.1 := by decide +kernel
theorem tyJxf0a74_ok : ∀ k, k < 0 → parseFieldDescriptor (TJxf0a74 k).2.2.1 = some (tyJxf0a74 k) := by decide +kernel
def RJxa66e6 : String := "java/util/SequencedCollection"
def TJxa66e6 : u_T := fun k => match k with
  | _ => ("", "", "", false)
def tyJxa66e6 : Nat → FieldType := fun k => match k with
  | _ => .int
abbrev wsJxa66e60 : List Cond := u_ws RJxa66e6 TJxa66e6 0
theorem nmJxa66e6 : ∀ a, a < 0 → ∀ b, b < 0 → a ≠ b → (TJxa66e6 a).2.1 ≠ (TJxa66e6 b).2.1 := by decide +kernel
theorem tyJxa66e6_ok : ∀ k, k < 0 → parseFieldDescriptor (TJxa66e6 k).2.2.1 = some (tyJxa66e6 k) := by decide +kernel
def RJ8 : String := "jdk/internal/util/ArraysSupport"
def TJ8 : u_T := fun k => match k with
  | _ => ("", "", "", false)
def tyJ8 : Nat → FieldType := fun k => match k with
  | _ => .int
abbrev wsJ80 : List Cond := u_ws RJ8 TJ8 0
theorem nmJ8 : ∀ a, a < 0 → ∀ b, b < 0 → a ≠ b → (TJ8 a).2.1 ≠ (TJ8 b).2.1 := by decide +kernel
theorem tyJ8_ok : ∀ k, k < 0 → parseFieldDescriptor (TJ8 k).2.2.1 = some (tyJ8 k) := by decide +kernel
abbrev cJ8_newLength_cabcc : ByteArray := prog_40_method_27_code
def yJ8_newLength_cabcc : MethodName := ⟨RJ8, "newLength", "(III)I"⟩
abbrev cJ8_hugeLength_7cf53 : ByteArray := prog_40_method_28_code
def yJ8_hugeLength_7cf53 : MethodName := ⟨RJ8, "hugeLength", "(II)I"⟩
def RJ3 : String := "jdk/internal/util/Preconditions"
def TJ3 : u_T := fun k => match k with
  | _ => ("", "", "", false)
def tyJ3 : Nat → FieldType := fun k => match k with
  | _ => .int
abbrev wsJ30 : List Cond := u_ws RJ3 TJ3 0
theorem nmJ3 : ∀ a, a < 0 → ∀ b, b < 0 → a ≠ b → (TJ3 a).2.1 ≠ (TJ3 b).2.1 := by decide +kernel
theorem tyJ3_ok : ∀ k, k < 0 → parseFieldDescriptor (TJ3 k).2.2.1 = some (tyJ3 k) := by decide +kernel
abbrev cJ3_checkIndex_8e157 : ByteArray := prog_41_method_11_code
def yJ3_checkIndex_8e157 : MethodName := ⟨RJ3, "checkIndex", "(IILjava/util/function/BiFunction;)I"⟩
abbrev cJ3_checkFromToIndex_8c36e : ByteArray := prog_41_method_12_code
def yJ3_checkFromToIndex_8c36e : MethodName := ⟨RJ3, "checkFromToIndex", "(IIILjava/util/function/BiFunction;)I"⟩
abbrev cJ3_checkFromIndexSize_8c36e : ByteArray := prog_41_method_13_code
def yJ3_checkFromIndexSize_8c36e : MethodName := ⟨RJ3, "checkFromIndexSize", "(IIILjava/util/function/BiFunction;)I"⟩
def RL : String := "PeriodcardLaw"
abbrev cL_write : ByteArray := method_2_code
def yL_write : MethodName := ⟨RL, "write", "(LPeriodcard;IIIILPeriodcardLaw$Out;)I"⟩
abbrev cL_ofYears : ByteArray := method_3_code
def yL_ofYears : MethodName := ⟨RL, "ofYears", "(LPeriodcard;IILPeriodcardLaw$Out;)I"⟩
abbrev cL_ofMonths : ByteArray := method_4_code
def yL_ofMonths : MethodName := ⟨RL, "ofMonths", "(LPeriodcard;IILPeriodcardLaw$Out;)I"⟩
abbrev cL_ofWeeks : ByteArray := method_5_code
def yL_ofWeeks : MethodName := ⟨RL, "ofWeeks", "(LPeriodcard;IILPeriodcardLaw$Out;)I"⟩
abbrev cL_ofDays : ByteArray := method_6_code
def yL_ofDays : MethodName := ⟨RL, "ofDays", "(LPeriodcard;IILPeriodcardLaw$Out;)I"⟩
abbrev cL_change : ByteArray := method_7_code
def yL_change : MethodName := ⟨RL, "change", "(LPeriodcard;IIILPeriodcardLaw$Out;)I"⟩
abbrev cL_copy : ByteArray := method_8_code
def yL_copy : MethodName := ⟨RL, "copy", "(LPeriodcard;IILPeriodcardLaw$Out;)I"⟩
abbrev cL_swap : ByteArray := method_9_code
def yL_swap : MethodName := ⟨RL, "swap", "(LPeriodcard;IILPeriodcardLaw$Out;)I"⟩
abbrev cL_plusYears : ByteArray := method_10_code
def yL_plusYears : MethodName := ⟨RL, "plusYears", "(LPeriodcard;IIZLPeriodcardLaw$Out;)I"⟩
abbrev cL_plusMonths : ByteArray := method_11_code
def yL_plusMonths : MethodName := ⟨RL, "plusMonths", "(LPeriodcard;IIZLPeriodcardLaw$Out;)I"⟩
abbrev cL_plusDays : ByteArray := method_12_code
def yL_plusDays : MethodName := ⟨RL, "plusDays", "(LPeriodcard;IIZLPeriodcardLaw$Out;)I"⟩
abbrev cL_minusYears : ByteArray := method_13_code
def yL_minusYears : MethodName := ⟨RL, "minusYears", "(LPeriodcard;IIZLPeriodcardLaw$Out;)I"⟩
abbrev cL_minusMonths : ByteArray := method_14_code
def yL_minusMonths : MethodName := ⟨RL, "minusMonths", "(LPeriodcard;IIZLPeriodcardLaw$Out;)I"⟩
abbrev cL_minusDays : ByteArray := method_15_code
def yL_minusDays : MethodName := ⟨RL, "minusDays", "(LPeriodcard;IIZLPeriodcardLaw$Out;)I"⟩
abbrev cL_plus : ByteArray := method_16_code
def yL_plus : MethodName := ⟨RL, "plus", "(LPeriodcard;IILPeriodcardLaw$Out;)I"⟩
abbrev cL_minus : ByteArray := method_17_code
def yL_minus : MethodName := ⟨RL, "minus", "(LPeriodcard;IILPeriodcardLaw$Out;)I"⟩
abbrev cL_multipliedBy : ByteArray := method_18_code
def yL_multipliedBy : MethodName := ⟨RL, "multipliedBy", "(LPeriodcard;IILPeriodcardLaw$Out;)I"⟩
abbrev cL_negated : ByteArray := method_19_code
def yL_negated : MethodName := ⟨RL, "negated", "(LPeriodcard;ILPeriodcardLaw$Out;)I"⟩
abbrev cL_normalized : ByteArray := method_20_code
def yL_normalized : MethodName := ⟨RL, "normalized", "(LPeriodcard;ILPeriodcardLaw$Out;)I"⟩
abbrev cL_lay : ByteArray := method_21_code
def yL_lay : MethodName := ⟨RL, "lay", "(LPeriodcard;ILPeriodcardLaw$Out;)I"⟩
abbrev cL_take : ByteArray := method_22_code
def yL_take : MethodName := ⟨RL, "take", "(LPeriodcard;ILPeriodcardLaw$Out;)I"⟩
abbrev cL_sum : ByteArray := method_23_code
def yL_sum : MethodName := ⟨RL, "sum", "(LPeriodcard;ILPeriodcardLaw$Out;)I"⟩
abbrev cL_part : ByteArray := method_24_code
def yL_part : MethodName := ⟨RL, "part", "(LPeriodcard;IILPeriodcardLaw$Out;)I"⟩
abbrev cL_total : ByteArray := method_25_code
def yL_total : MethodName := ⟨RL, "total", "(LPeriodcard;ILPeriodcardLaw$Out;)I"⟩
abbrev cL_isZero : ByteArray := method_26_code
def yL_isZero : MethodName := ⟨RL, "isZero", "(LPeriodcard;ILPeriodcardLaw$Out;)I"⟩
abbrev cL_isNegative : ByteArray := method_27_code
def yL_isNegative : MethodName := ⟨RL, "isNegative", "(LPeriodcard;ILPeriodcardLaw$Out;)I"⟩
abbrev cL_areSame : ByteArray := method_28_code
def yL_areSame : MethodName := ⟨RL, "areSame", "(LPeriodcard;IILPeriodcardLaw$Out;)I"⟩
abbrev cL_areAlike : ByteArray := method_29_code
def yL_areAlike : MethodName := ⟨RL, "areAlike", "(LPeriodcard;IILPeriodcardLaw$Out;)I"⟩
abbrev cL_text : ByteArray := method_30_code
def yL_text : MethodName := ⟨RL, "text", "(LPeriodcard;ILPeriodcardLaw$Out;)I"⟩
abbrev cL_times : ByteArray := method_31_code
def yL_times : MethodName := ⟨RL, "times", "(LPeriodcard;IILPeriodcardLaw$Out;)I"⟩
abbrev cL_added : ByteArray := method_32_code
def yL_added : MethodName := ⟨RL, "added", "(LPeriodcard;IILPeriodcardLaw$Out;)I"⟩
abbrev cL_with : ByteArray := method_33_code
def yL_with : MethodName := ⟨RL, "with", "(LPeriodcard;IIZLPeriodcardLaw$Out;)I"⟩
abbrev cL_tidy : ByteArray := method_34_code
def yL_tidy : MethodName := ⟨RL, "tidy", "(LPeriodcard;ILPeriodcardLaw$Out;)I"⟩
abbrev cL_opposite : ByteArray := method_35_code
def yL_opposite : MethodName := ⟨RL, "opposite", "(LPeriodcard;ILPeriodcardLaw$Out;)I"⟩
abbrev cL_date : ByteArray := method_36_code
def yL_date : MethodName := ⟨RL, "date", "(LPeriodcard;IIIILPeriodcardLaw$Out;)I"⟩
abbrev cL_copyDate : ByteArray := method_37_code
def yL_copyDate : MethodName := ⟨RL, "copyDate", "(LPeriodcard;IILPeriodcardLaw$Out;)I"⟩
abbrev cL_move : ByteArray := method_38_code
def yL_move : MethodName := ⟨RL, "move", "(LPeriodcard;IILPeriodcardLaw$Out;)I"⟩
abbrev cL_back : ByteArray := method_39_code
def yL_back : MethodName := ⟨RL, "back", "(LPeriodcard;IILPeriodcardLaw$Out;)I"⟩
abbrev cL_walk : ByteArray := method_40_code
def yL_walk : MethodName := ⟨RL, "walk", "(LPeriodcard;IIILPeriodcardLaw$Out;)I"⟩
abbrev cL_between : ByteArray := method_41_code
def yL_between : MethodName := ⟨RL, "between", "(LPeriodcard;IIILPeriodcardLaw$Out;)I"⟩
abbrev cL_until : ByteArray := method_42_code
def yL_until : MethodName := ⟨RL, "until", "(LPeriodcard;IIILPeriodcardLaw$Out;)I"⟩
abbrev cL_ofDate : ByteArray := method_43_code
def yL_ofDate : MethodName := ⟨RL, "ofDate", "(LPeriodcard;IILPeriodcardLaw$Out;)I"⟩
abbrev cL_dateText : ByteArray := method_44_code
def yL_dateText : MethodName := ⟨RL, "dateText", "(LPeriodcard;ILPeriodcardLaw$Out;)I"⟩
abbrev cL_moved : ByteArray := method_45_code
def yL_moved : MethodName := ⟨RL, "moved", "(LPeriodcard;IIZLPeriodcardLaw$Out;)I"⟩
abbrev cL_apart : ByteArray := method_46_code
def yL_apart : MethodName := ⟨RL, "apart", "(LPeriodcard;IILPeriodcardLaw$Out;)I"⟩
abbrev cL_isToldBack : ByteArray := method_47_code
def yL_isToldBack : MethodName := ⟨RL, "isToldBack", "(LPeriodcard;IILPeriodcardLaw$Out;)I"⟩
abbrev cL_order : ByteArray := method_48_code
def yL_order : MethodName := ⟨RL, "order", "(LPeriodcard;IILPeriodcardLaw$Out;)I"⟩
abbrev cL_house : ByteArray := method_49_code
def yL_house : MethodName := ⟨RL, "house", "(LPeriodcard;ILPeriodcardLaw$Out;)I"⟩
abbrev cL_law : ByteArray := code
def yL_law : MethodName := ⟨RL, "law", "([I)Z"⟩
abbrev vwCl : List vw_C := [(RJ0, TJ0, 4), (RJ4, TJ4, 4), (RJx4a65c, TJx4a65c, 3), (RX0, TX0, 3), (RX1, TX1, 3), (RX2, TX2, 9), (RX3, TX3, 2), (RX4, TX4, 6)]
