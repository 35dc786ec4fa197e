-- ===== PART A: goes FIRST, ahead of the names: the tables' words, and 'selects' of the private methods out of them =====
/-- a private method of a class that the tables say can be made, by its rows of tables_1 -/
def lw_okq (q : MethodName × Nat) : Prop := (q.1.cls ≠ "java/lang/invoke/MethodHandle" ∧ q.1.cls ≠ "java/lang/invoke/VarHandle") ∧ Cond.instantiable q.1.cls q.2 ∈ tables_1 ∧ Cond.privateMethod q.1 ∈ tables_1 ∧ Cond.instanceMethod q.1 ∈ tables_1
theorem lw_p0 : lw_okq (⟨"CaptainTides", "record", "()V"⟩, 9) := ⟨⟨by decide +kernel, by decide +kernel⟩, List.mem_of_getElem? (i := 12) (by decide +kernel), List.mem_of_getElem? (i := 287) (by decide +kernel), List.mem_of_getElem? (i := 288) (by decide +kernel)⟩
theorem lw_p1 : lw_okq (⟨"CaptainTides$SailedDay", "givePier", "(II)V"⟩, 3) := ⟨⟨by decide +kernel, by decide +kernel⟩, List.mem_of_getElem? (i := 171) (by decide +kernel), List.mem_of_getElem? (i := 339) (by decide +kernel), List.mem_of_getElem? (i := 340) (by decide +kernel)⟩
theorem lw_p2 : lw_okq (⟨"CaptainTides$SailedDay", "drawLot", "(I)I"⟩, 3) := ⟨⟨by decide +kernel, by decide +kernel⟩, List.mem_of_getElem? (i := 171) (by decide +kernel), List.mem_of_getElem? (i := 351) (by decide +kernel), List.mem_of_getElem? (i := 352) (by decide +kernel)⟩
theorem lw_p3 : lw_okq (⟨"CaptainTides", "timetableOf", "(I)LCaptainTides$Timetable;"⟩, 9) := ⟨⟨by decide +kernel, by decide +kernel⟩, List.mem_of_getElem? (i := 12) (by decide +kernel), List.mem_of_getElem? (i := 401) (by decide +kernel), List.mem_of_getElem? (i := 402) (by decide +kernel)⟩
theorem lw_p4 : lw_okq (⟨"CaptainTides$Board", "noteUses", "(LCaptainTides$Timetable;I)V"⟩, 2) := ⟨⟨by decide +kernel, by decide +kernel⟩, List.mem_of_getElem? (i := 136) (by decide +kernel), List.mem_of_getElem? (i := 410) (by decide +kernel), List.mem_of_getElem? (i := 411) (by decide +kernel)⟩
theorem lw_p5 : lw_okq (⟨"CaptainTides$Board", "noteUse", "(II)V"⟩, 2) := ⟨⟨by decide +kernel, by decide +kernel⟩, List.mem_of_getElem? (i := 136) (by decide +kernel), List.mem_of_getElem? (i := 422) (by decide +kernel), List.mem_of_getElem? (i := 423) (by decide +kernel)⟩
theorem lw_p6 : lw_okq (⟨"CaptainTides$Board", "isClash", "(I)Z"⟩, 2) := ⟨⟨by decide +kernel, by decide +kernel⟩, List.mem_of_getElem? (i := 136) (by decide +kernel), List.mem_of_getElem? (i := 443) (by decide +kernel), List.mem_of_getElem? (i := 444) (by decide +kernel)⟩
def lw_privs_1 : List (MethodName × Nat) := [(⟨"CaptainTides", "record", "()V"⟩, 9), (⟨"CaptainTides$SailedDay", "givePier", "(II)V"⟩, 3), (⟨"CaptainTides$SailedDay", "drawLot", "(I)I"⟩, 3), (⟨"CaptainTides", "timetableOf", "(I)LCaptainTides$Timetable;"⟩, 9), (⟨"CaptainTides$Board", "noteUses", "(LCaptainTides$Timetable;I)V"⟩, 2), (⟨"CaptainTides$Board", "noteUse", "(II)V"⟩, 2), (⟨"CaptainTides$Board", "isClash", "(I)Z"⟩, 2)]
theorem lw_r1 : ∀ q ∈ lw_privs_1, lw_okq q := List.forall_mem_cons.mpr ⟨lw_p0, List.forall_mem_cons.mpr ⟨lw_p1, List.forall_mem_cons.mpr ⟨lw_p2, List.forall_mem_cons.mpr ⟨lw_p3, List.forall_mem_cons.mpr ⟨lw_p4, List.forall_mem_cons.mpr ⟨lw_p5, List.forall_mem_cons.mpr ⟨lw_p6, fun _ h => absurd h List.not_mem_nil⟩⟩⟩⟩⟩⟩⟩
def lw_privs : List (MethodName × Nat) := lw_privs_1
def lw_tbl : List Cond := k2_sels lw_privs ++ tables_1
theorem lw_privs_ok : ∀ q ∈ lw_privs, lw_okq q := lw_r1

def RX0 : String := "CaptainTides$BeliefText"
def TX0 : u_T := fun k => match k with
  | 0 => ("CaptainTides$BeliefText", "signs", "[C", true)
  | 1 => ("CaptainTides$BeliefText", "length", "I", false)
  | 2 => ("CaptainTides$BeliefText", "parts", "I", false)
  | 3 => ("CaptainTides$BeliefText", "place", "I", false)
  | 4 => ("CaptainTides$BeliefText", "captain", "I", false)
  | 5 => ("CaptainTides$BeliefText", "what", "I", false)
  | _ => ("CaptainTides$BeliefText", "number", "I", false)
def tyX0 : Nat → FieldType := fun k => match k with
  | 0 => .array .char
  | 1 => .int
  | 2 => .int
  | 3 => .int
  | 4 => .int
  | 5 => .int
  | _ => .int
theorem nmX0 : ∀ a, a < 7 → ∀ b, b < 7 → a ≠ b → (TX0 a).2.1 ≠ (TX0 b).2.1 := by decide +kernel
theorem tyX0_ok : ∀ k, k < 7 → parseFieldDescriptor (TX0 k).2.2.1 = some (tyX0 k) := by decide +kernel
abbrev cX0_init : ByteArray := prog_2_method_1_code
def yX0_init : MethodName := ⟨RX0, "<init>", "()V"⟩
def RX1 : String := "CaptainTides$Board"
def TX1 : u_T := fun k => match k with
  | 0 => ("CaptainTides$Board", "timetables", "[LCaptainTides$Timetable;", true)
  | _ => ("CaptainTides$Board", "users", "[I", true)
def tyX1 : Nat → FieldType := fun k => match k with
  | 0 => .array (.object "CaptainTides$Timetable")
  | _ => .array .int
theorem nmX1 : ∀ a, a < 2 → ∀ b, b < 2 → a ≠ b → (TX1 a).2.1 ≠ (TX1 b).2.1 := by decide +kernel
theorem tyX1_ok : ∀ k, k < 2 → parseFieldDescriptor (TX1 k).2.2.1 = some (tyX1 k) := by decide +kernel
abbrev cX1_init : ByteArray := prog_3_method_1_code
def yX1_init : MethodName := ⟨RX1, "<init>", "()V"⟩
abbrev cX1_placeOf : ByteArray := prog_3_method_2_code
def yX1_placeOf : MethodName := ⟨RX1, "placeOf", "(II)I"⟩
abbrev cX1_print : ByteArray := prog_3_method_3_code
def yX1_print : MethodName := ⟨RX1, "print", "(LCaptainTides$State;)V"⟩
abbrev cX1_noteUses : ByteArray := prog_3_method_4_code
def yX1_noteUses : MethodName := ⟨RX1, "noteUses", "(LCaptainTides$Timetable;I)V"⟩
abbrev cX1_noteUse : ByteArray := prog_3_method_5_code
def yX1_noteUse : MethodName := ⟨RX1, "noteUse", "(II)V"⟩
abbrev cX1_usersAt : ByteArray := prog_3_method_6_code
def yX1_usersAt : MethodName := ⟨RX1, "usersAt", "(I)I"⟩
abbrev cX1_isClash : ByteArray := prog_3_method_7_code
def yX1_isClash : MethodName := ⟨RX1, "isClash", "(I)Z"⟩
abbrev cX1_clashes : ByteArray := prog_3_method_8_code
def yX1_clashes : MethodName := ⟨RX1, "clashes", "()I"⟩
abbrev cX1_crossings : ByteArray := prog_3_method_10_code
def yX1_crossings : MethodName := ⟨RX1, "crossings", "()I"⟩
def RX2 : String := "CaptainTides$Captain"
def TX2 : u_T := fun k => match k with
  | 0 => ("CaptainTides$Captain", "belief", "I", false)
  | 1 => ("CaptainTides$Captain", "draft", "I", false)
  | 2 => ("CaptainTides$Captain", "firstHour", "I", false)
  | 3 => ("CaptainTides$Captain", "home", "I", false)
  | 4 => ("CaptainTides$Captain", "crossingsMade", "I", false)
  | 5 => ("CaptainTides$Captain", "hoursAground", "I", false)
  | 6 => ("CaptainTides$Captain", "hoursLate", "I", false)
  | 7 => ("CaptainTides$Captain", "pardons", "I", false)
  | 8 => ("CaptainTides$Captain", "crossingsCancelled", "I", false)
  | _ => ("CaptainTides$Captain", "lessons", "I", false)
def tyX2 : Nat → FieldType := fun k => match k with
  | 0 => .int
  | 1 => .int
  | 2 => .int
  | 3 => .int
  | 4 => .int
  | 5 => .int
  | 6 => .int
  | 7 => .int
  | 8 => .int
  | _ => .int
theorem nmX2 : ∀ a, a < 10 → ∀ b, b < 10 → a ≠ b → (TX2 a).2.1 ≠ (TX2 b).2.1 := by decide +kernel
theorem tyX2_ok : ∀ k, k < 10 → parseFieldDescriptor (TX2 k).2.2.1 = some (tyX2 k) := by decide +kernel
abbrev cX2_init : ByteArray := prog_4_method_1_code
def yX2_init : MethodName := ⟨RX2, "<init>", "(I)V"⟩
abbrev cX2_tell : ByteArray := prog_4_method_2_code
def yX2_tell : MethodName := ⟨RX2, "tell", "(I)I"⟩
abbrev cX2_change : ByteArray := prog_4_method_3_code
def yX2_change : MethodName := ⟨RX2, "change", "(II)V"⟩
abbrev cX2_endDay : ByteArray := prog_4_method_4_code
def yX2_endDay : MethodName := ⟨RX2, "endDay", "(LCaptainTides$Ferry;)V"⟩
abbrev cX2_learn : ByteArray := prog_4_method_5_code
def yX2_learn : MethodName := ⟨RX2, "learn", "(I)V"⟩
abbrev cX2_copyFrom : ByteArray := prog_4_method_6_code
def yX2_copyFrom : MethodName := ⟨RX2, "copyFrom", "(LCaptainTides$Captain;)V"⟩
def RX3 : String := "CaptainTides$Ferry"
def TX3 : u_T := fun k => match k with
  | 0 => ("CaptainTides$Ferry", "timetable", "LCaptainTides$Timetable;", true)
  | 1 => ("CaptainTides$Ferry", "draft", "I", false)
  | 2 => ("CaptainTides$Ferry", "pier", "I", false)
  | 3 => ("CaptainTides$Ferry", "atSea", "Z", false)
  | 4 => ("CaptainTides$Ferry", "departure", "I", false)
  | 5 => ("CaptainTides$Ferry", "arrivedNow", "Z", false)
  | 6 => ("CaptainTides$Ferry", "wantsNow", "Z", false)
  | 7 => ("CaptainTides$Ferry", "crossingsMade", "I", false)
  | 8 => ("CaptainTides$Ferry", "hoursAground", "I", false)
  | 9 => ("CaptainTides$Ferry", "hoursLate", "I", false)
  | _ => ("CaptainTides$Ferry", "pardons", "I", false)
def tyX3 : Nat → FieldType := fun k => match k with
  | 0 => .object "CaptainTides$Timetable"
  | 1 => .int
  | 2 => .int
  | 3 => .boolean
  | 4 => .int
  | 5 => .boolean
  | 6 => .boolean
  | 7 => .int
  | 8 => .int
  | 9 => .int
  | _ => .int
theorem nmX3 : ∀ a, a < 11 → ∀ b, b < 11 → a ≠ b → (TX3 a).2.1 ≠ (TX3 b).2.1 := by decide +kernel
theorem tyX3_ok : ∀ k, k < 11 → parseFieldDescriptor (TX3 k).2.2.1 = some (tyX3 k) := by decide +kernel
abbrev cX3_init : ByteArray := prog_5_method_1_code
def yX3_init : MethodName := ⟨RX3, "<init>", "()V"⟩
abbrev cX3_beginDay : ByteArray := prog_5_method_2_code
def yX3_beginDay : MethodName := ⟨RX3, "beginDay", "(LCaptainTides$Captain;)V"⟩
abbrev cX3_beginHour : ByteArray := prog_5_method_3_code
def yX3_beginHour : MethodName := ⟨RX3, "beginHour", "(II)V"⟩
abbrev cX3_wantsFrom : ByteArray := prog_5_method_4_code
def yX3_wantsFrom : MethodName := ⟨RX3, "wantsFrom", "(I)Z"⟩
abbrev cX3_arrivedAt : ByteArray := prog_5_method_5_code
def yX3_arrivedAt : MethodName := ⟨RX3, "arrivedAt", "(I)Z"⟩
abbrev cX3_depart : ByteArray := prog_5_method_6_code
def yX3_depart : MethodName := ⟨RX3, "depart", "(I)V"⟩
abbrev cX3_stay : ByteArray := prog_5_method_7_code
def yX3_stay : MethodName := ⟨RX3, "stay", "(Z)V"⟩
abbrev cX3_crossingsLeft : ByteArray := prog_5_method_8_code
def yX3_crossingsLeft : MethodName := ⟨RX3, "crossingsLeft", "()I"⟩
abbrev cX3_isLesson : ByteArray := prog_5_method_9_code
def yX3_isLesson : MethodName := ⟨RX3, "isLesson", "(I)Z"⟩
abbrev cX3_tell : ByteArray := prog_5_method_10_code
def yX3_tell : MethodName := ⟨RX3, "tell", "(I)I"⟩
def RX4 : String := "CaptainTides$SailedDay"
def TX4 : u_T := fun k => match k with
  | 0 => ("CaptainTides$SailedDay", "ferries", "[LCaptainTides$Ferry;", true)
  | 1 => ("CaptainTides$SailedDay", "lot", "I", false)
  | _ => ("CaptainTides$SailedDay", "lotsDrawn", "I", false)
def tyX4 : Nat → FieldType := fun k => match k with
  | 0 => .array (.object "CaptainTides$Ferry")
  | 1 => .int
  | _ => .int
theorem nmX4 : ∀ a, a < 3 → ∀ b, b < 3 → a ≠ b → (TX4 a).2.1 ≠ (TX4 b).2.1 := by decide +kernel
theorem tyX4_ok : ∀ k, k < 3 → parseFieldDescriptor (TX4 k).2.2.1 = some (tyX4 k) := by decide +kernel
abbrev cX4_init : ByteArray := prog_6_method_1_code
def yX4_init : MethodName := ⟨RX4, "<init>", "()V"⟩
abbrev cX4_run : ByteArray := prog_6_method_2_code
def yX4_run : MethodName := ⟨RX4, "run", "(LCaptainTides$State;)V"⟩
abbrev cX4_givePier : ByteArray := prog_6_method_3_code
def yX4_givePier : MethodName := ⟨RX4, "givePier", "(II)V"⟩
abbrev cX4_drawLot : ByteArray := prog_6_method_4_code
def yX4_drawLot : MethodName := ⟨RX4, "drawLot", "(I)I"⟩
abbrev cX4_sumOf : ByteArray := prog_6_method_5_code
def yX4_sumOf : MethodName := ⟨RX4, "sumOf", "(I)I"⟩
abbrev cX4_learners : ByteArray := prog_6_method_6_code
def yX4_learners : MethodName := ⟨RX4, "learners", "(I)I"⟩
def RX5 : String := "CaptainTides$State"
def TX5 : u_T := fun k => match k with
  | 0 => ("CaptainTides$State", "captains", "[LCaptainTides$Captain;", true)
  | 1 => ("CaptainTides$State", "drift", "I", false)
  | 2 => ("CaptainTides$State", "hoursToLearn", "I", false)
  | 3 => ("CaptainTides$State", "phase", "I", false)
  | 4 => ("CaptainTides$State", "lot", "I", false)
  | 5 => ("CaptainTides$State", "lotsDrawn", "I", false)
  | _ => ("CaptainTides$State", "day", "I", false)
def tyX5 : Nat → FieldType := fun k => match k with
  | 0 => .array (.object "CaptainTides$Captain")
  | 1 => .int
  | 2 => .int
  | 3 => .int
  | 4 => .int
  | 5 => .int
  | _ => .int
theorem nmX5 : ∀ a, a < 7 → ∀ b, b < 7 → a ≠ b → (TX5 a).2.1 ≠ (TX5 b).2.1 := by decide +kernel
theorem tyX5_ok : ∀ k, k < 7 → parseFieldDescriptor (TX5 k).2.2.1 = some (tyX5 k) := by decide +kernel
abbrev cX5_init : ByteArray := prog_7_method_1_code
def yX5_init : MethodName := ⟨RX5, "<init>", "()V"⟩
abbrev cX5_sumOf : ByteArray := prog_7_method_2_code
def yX5_sumOf : MethodName := ⟨RX5, "sumOf", "(I)I"⟩
abbrev cX5_endDay : ByteArray := prog_7_method_3_code
def yX5_endDay : MethodName := ⟨RX5, "endDay", "(LCaptainTides$SailedDay;)V"⟩
abbrev cX5_tellSetting : ByteArray := prog_7_method_4_code
def yX5_tellSetting : MethodName := ⟨RX5, "tellSetting", "(I)I"⟩
abbrev cX5_changeSetting : ByteArray := prog_7_method_5_code
def yX5_changeSetting : MethodName := ⟨RX5, "changeSetting", "(II)V"⟩
abbrev cX5_copyFrom : ByteArray := prog_7_method_6_code
def yX5_copyFrom : MethodName := ⟨RX5, "copyFrom", "(LCaptainTides$State;)V"⟩
def RX6 : String := "CaptainTides$Timetable"
def TX6 : u_T := fun k => match k with
  | 0 => ("CaptainTides$Timetable", "hours", "[I", true)
  | 1 => ("CaptainTides$Timetable", "crossings", "I", false)
  | _ => ("CaptainTides$Timetable", "home", "I", false)
def tyX6 : Nat → FieldType := fun k => match k with
  | 0 => .array .int
  | 1 => .int
  | _ => .int
theorem nmX6 : ∀ a, a < 3 → ∀ b, b < 3 → a ≠ b → (TX6 a).2.1 ≠ (TX6 b).2.1 := by decide +kernel
theorem tyX6_ok : ∀ k, k < 3 → parseFieldDescriptor (TX6 k).2.2.1 = some (tyX6 k) := by decide +kernel
abbrev cX6_init : ByteArray := prog_8_method_1_code
def yX6_init : MethodName := ⟨RX6, "<init>", "()V"⟩
abbrev cX6_print : ByteArray := prog_8_method_2_code
def yX6_print : MethodName := ⟨RX6, "print", "(LCaptainTides$Captain;)V"⟩
abbrev cX6_has : ByteArray := prog_8_method_3_code
def yX6_has : MethodName := ⟨RX6, "has", "(I)Z"⟩
abbrev cX6_hourOf : ByteArray := prog_8_method_4_code
def yX6_hourOf : MethodName := ⟨RX6, "hourOf", "(I)I"⟩
abbrev cX6_pierOf : ByteArray := prog_8_method_5_code
def yX6_pierOf : MethodName := ⟨RX6, "pierOf", "(I)I"⟩
def RX7 : String := "CaptainTides"
def TX7 : u_T := fun k => match k with
  | 0 => ("CaptainTides", "now", "LCaptainTides$State;", true)
  | 1 => ("CaptainTides", "snapshot", "LCaptainTides$State;", true)
  | 2 => ("CaptainTides", "hasSnapshot", "Z", false)
  | 3 => ("CaptainTides", "history", "[LCaptainTides$State;", true)
  | 4 => ("CaptainTides", "recorded", "I", false)
  | 5 => ("CaptainTides", "text", "LCaptainTides$BeliefText;", true)
  | 6 => ("CaptainTides", "trial", "LCaptainTides$State;", true)
  | 7 => ("CaptainTides", "board", "LCaptainTides$Board;", true)
  | _ => ("CaptainTides", "sailed", "LCaptainTides$SailedDay;", true)
def tyX7 : Nat → FieldType := fun k => match k with
  | 0 => .object "CaptainTides$State"
  | 1 => .object "CaptainTides$State"
  | 2 => .boolean
  | 3 => .array (.object "CaptainTides$State")
  | 4 => .int
  | 5 => .object "CaptainTides$BeliefText"
  | 6 => .object "CaptainTides$State"
  | 7 => .object "CaptainTides$Board"
  | _ => .object "CaptainTides$SailedDay"
theorem nmX7 : ∀ a, a < 9 → ∀ b, b < 9 → a ≠ b → (TX7 a).2.1 ≠ (TX7 b).2.1 := by decide +kernel
theorem tyX7_ok : ∀ k, k < 9 → parseFieldDescriptor (TX7 k).2.2.1 = some (tyX7 k) := by decide +kernel
abbrev cX7_init : ByteArray := prog_1_method_1_code
def yX7_init : MethodName := ⟨RX7, "<init>", "()V"⟩
abbrev cX7_captain : ByteArray := prog_1_method_2_code
def yX7_captain : MethodName := ⟨RX7, "captain", "(III)I"⟩
abbrev cX7_truth : ByteArray := prog_1_method_4_code
def yX7_truth : MethodName := ⟨RX7, "truth", "(I)I"⟩
abbrev cX7_set : ByteArray := prog_1_method_5_code
def yX7_set : MethodName := ⟨RX7, "set", "(II)I"⟩
abbrev cX7_lot : ByteArray := prog_1_method_6_code
def yX7_lot : MethodName := ⟨RX7, "lot", "(I)I"⟩
abbrev cX7_sail : ByteArray := prog_1_method_7_code
def yX7_sail : MethodName := ⟨RX7, "sail", "(I)I"⟩
abbrev cX7_undo : ByteArray := prog_1_method_11_code
def yX7_undo : MethodName := ⟨RX7, "undo", "()I"⟩
abbrev cX7_captainOf : ByteArray := prog_1_method_14_code
def yX7_captainOf : MethodName := ⟨RX7, "captainOf", "(II)I"⟩
abbrev cX7_printed : ByteArray := prog_1_method_15_code
def yX7_printed : MethodName := ⟨RX7, "printed", "(III)I"⟩
abbrev cX7_level : ByteArray := prog_1_method_16_code
def yX7_level : MethodName := ⟨RX7, "level", "(III)I"⟩
abbrev cX7_uses : ByteArray := prog_1_method_17_code
def yX7_uses : MethodName := ⟨RX7, "uses", "(II)I"⟩
abbrev cX7_hours : ByteArray := prog_1_method_19_code
def yX7_hours : MethodName := ⟨RX7, "hours", "(II)I"⟩
abbrev cX7_count : ByteArray := prog_1_method_20_code
def yX7_count : MethodName := ⟨RX7, "count", "(I)I"⟩
abbrev cX7_ifSailed : ByteArray := prog_1_method_22_code
def yX7_ifSailed : MethodName := ⟨RX7, "ifSailed", "(I)I"⟩
abbrev cX7_bestHour : ByteArray := prog_1_method_23_code
def yX7_bestHour : MethodName := ⟨RX7, "bestHour", "(I)I"⟩
abbrev cX7_isCaptain : ByteArray := prog_1_method_25_code
def yX7_isCaptain : MethodName := ⟨RX7, "isCaptain", "(I)Z"⟩
abbrev cX7_isValueOfCaptain : ByteArray := prog_1_method_26_code
def yX7_isValueOfCaptain : MethodName := ⟨RX7, "isValueOfCaptain", "(II)Z"⟩
abbrev cX7_isValueOfSetting : ByteArray := prog_1_method_27_code
def yX7_isValueOfSetting : MethodName := ⟨RX7, "isValueOfSetting", "(II)Z"⟩
abbrev cX7_isWithin : ByteArray := prog_1_method_28_code
def yX7_isWithin : MethodName := ⟨RX7, "isWithin", "([I[III)Z"⟩
abbrev cX7_levelAt : ByteArray := prog_1_method_29_code
def yX7_levelAt : MethodName := ⟨RX7, "levelAt", "(II)I"⟩
abbrev cX7_levelReached : ByteArray := prog_1_method_30_code
def yX7_levelReached : MethodName := ⟨RX7, "levelReached", "(II)I"⟩
abbrev cX7_hoursWithWater : ByteArray := prog_1_method_31_code
def yX7_hoursWithWater : MethodName := ⟨RX7, "hoursWithWater", "(II)I"⟩
abbrev cX7_timetableOf : ByteArray := prog_1_method_32_code
def yX7_timetableOf : MethodName := ⟨RX7, "timetableOf", "(I)LCaptainTides$Timetable;"⟩
abbrev cX7_record : ByteArray := prog_1_method_33_code
def yX7_record : MethodName := ⟨RX7, "record", "()V"⟩
def RX8 : String := "CaptainTidesModel"
def TX8 : u_T := fun k => match k with
  | _ => ("", "", "", false)
def tyX8 : Nat → FieldType := fun k => match k with
  | _ => .int
theorem nmX8 : ∀ a, a < 0 → ∀ b, b < 0 → a ≠ b → (TX8 a).2.1 ≠ (TX8 b).2.1 := by decide +kernel
theorem tyX8_ok : ∀ k, k < 0 → parseFieldDescriptor (TX8 k).2.2.1 = some (tyX8 k) := by decide +kernel
def RJ6 : String := "java/lang/Integer"
def TJ6 : u_T := fun k => match k with
  | _ => ("", "", "", false)
def tyJ6 : Nat → FieldType := fun k => match k with
  | _ => .int
theorem nmJ6 : ∀ a, a < 0 → ∀ b, b < 0 → a ≠ b → (TJ6 a).2.1 ≠ (TJ6 b).2.1 := by decide +kernel
theorem tyJ6_ok : ∀ k, k < 0 → parseFieldDescriptor (TJ6 k).2.2.1 = some (tyJ6 k) := by decide +kernel
abbrev cJ6_bitCount_0f7a4 : ByteArray := prog_11_method_49_code
def yJ6_bitCount_0f7a4 : MethodName := ⟨RJ6, "bitCount", "(I)I"⟩
def RJ9 : String := "java/lang/Math"
def TJ9 : u_T := fun k => match k with
  | _ => ("", "", "", false)
def tyJ9 : Nat → FieldType := fun k => match k with
  | _ => .int
theorem nmJ9 : ∀ a, a < 0 → ∀ b, b < 0 → a ≠ b → (TJ9 a).2.1 ≠ (TJ9 b).2.1 := by decide +kernel
theorem tyJ9_ok : ∀ k, k < 0 → parseFieldDescriptor (TJ9 k).2.2.1 = some (tyJ9 k) := by decide +kernel
abbrev cJ9_abs_0f7a4 : ByteArray := prog_12_method_59_code
def yJ9_abs_0f7a4 : MethodName := ⟨RJ9, "abs", "(I)I"⟩
def RL : String := "CaptainTidesLaw"
abbrev cL_cell : ByteArray := method_2_code
def yL_cell : MethodName := ⟨RL, "cell", "([II)I"⟩
abbrev cL_low : ByteArray := method_3_code
def yL_low : MethodName := ⟨RL, "low", "(II)I"⟩
abbrev cL_tell : ByteArray := method_4_code
def yL_tell : MethodName := ⟨RL, "tell", "(LCaptainTides;)[I"⟩
abbrev cL_same : ByteArray := method_5_code
def yL_same : MethodName := ⟨RL, "same", "([I[I)Z"⟩
abbrev cL_tides : ByteArray := method_6_code
def yL_tides : MethodName := ⟨RL, "tides", "(LCaptainTides;)Z"⟩
abbrev cL_printed : ByteArray := method_7_code
def yL_printed : MethodName := ⟨RL, "printed", "(LCaptainTides;)Z"⟩
abbrev cL_accounts : ByteArray := method_8_code
def yL_accounts : MethodName := ⟨RL, "accounts", "(LCaptainTides;)Z"⟩
abbrev cL_act : ByteArray := method_9_code
def yL_act : MethodName := ⟨RL, "act", "(LCaptainTides;II)I"⟩
abbrev cL_law : ByteArray := code
def yL_law : MethodName := ⟨RL, "law", "([I)Z"⟩
abbrev vwCl : List vw_C := [(RX0, TX0, 7), (RX1, TX1, 2), (RX2, TX2, 10), (RX3, TX3, 11), (RX4, TX4, 3), (RX5, TX5, 7), (RX6, TX6, 3), (RX7, TX7, 9)]
