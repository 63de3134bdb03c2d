def RX0 : String := "HermitsSpoon$Council"
def TX0 : u_T := fun k => match k with
  | 0 => ("HermitsSpoon$Council", "sitting", "LHermitsSpoon$Sitting;", true)
  | 1 => ("HermitsSpoon$Council", "trial", "LHermitsSpoon$Table;", true)
  | _ => ("HermitsSpoon$Council", "mealsOfRound", "[[I", true)
def tyX0 : Nat → FieldType := fun k => match k with
  | 0 => .object "HermitsSpoon$Sitting"
  | 1 => .object "HermitsSpoon$Table"
  | _ => .array (.array .int)
theorem nmX0 : ∀ a, a < 3 → ∀ b, b < 3 → a ≠ b → (TX0 a).2.1 ≠ (TX0 b).2.1 := by decide +kernel
theorem tyX0_ok : ∀ k, k < 3 → parseFieldDescriptor (TX0 k).2.2.1 = some (tyX0 k) := by decide +kernel
abbrev cX0_init : ByteArray := prog_2_method_1_code
def yX0_init : MethodName := ⟨RX0, "<init>", "(LHermitsSpoon$Sitting;LHermitsSpoon$Table;)V"⟩
abbrev cX0_startAdvised : ByteArray := prog_2_method_2_code
def yX0_startAdvised : MethodName := ⟨RX0, "startAdvised", "(LHermitsSpoon$Table;LHermitsSpoon$Vow;)I"⟩
abbrev cX0_swapAdvised : ByteArray := prog_2_method_3_code
def yX0_swapAdvised : MethodName := ⟨RX0, "swapAdvised", "(LHermitsSpoon$Table;LHermitsSpoon$Vow;I)I"⟩
abbrev cX0_stirAdvised : ByteArray := prog_2_method_4_code
def yX0_stirAdvised : MethodName := ⟨RX0, "stirAdvised", "(LHermitsSpoon$Table;LHermitsSpoon$Vow;I)I"⟩
abbrev cX0_dayOfLoss : ByteArray := prog_2_method_5_code
def yX0_dayOfLoss : MethodName := ⟨RX0, "dayOfLoss", "(LHermitsSpoon$Table;LHermitsSpoon$Vow;IIII)I"⟩
abbrev cX0_fastersOf : ByteArray := prog_2_method_6_code
def yX0_fastersOf : MethodName := ⟨RX0, "fastersOf", "(II)I"⟩
def RX1 : String := "HermitsSpoon$Deaf"
def TX1 : u_T := fun k => match k with
  | 0 => ("HermitsSpoon$Hermit", "n", "I", true)
  | 1 => ("HermitsSpoon$Hermit", "need", "I", true)
  | 2 => ("HermitsSpoon$Hermit", "teeth", "I", true)
  | _ => ("HermitsSpoon$Hermit", "biteSize", "I", true)
def tyX1 : Nat → FieldType := fun k => match k with
  | 0 => .int
  | 1 => .int
  | 2 => .int
  | _ => .int
theorem nmX1 : ∀ a, a < 4 → ∀ b, b < 4 → a ≠ b → (TX1 a).2.1 ≠ (TX1 b).2.1 := by decide +kernel
theorem tyX1_ok : ∀ k, k < 4 → parseFieldDescriptor (TX1 k).2.2.1 = some (tyX1 k) := by decide +kernel
abbrev cX1_init : ByteArray := prog_3_method_1_code
def yX1_init : MethodName := ⟨RX1, "<init>", "(III)V"⟩
abbrev cX1_kindNumber : ByteArray := prog_3_method_2_code
def yX1_kindNumber : MethodName := ⟨RX1, "kindNumber", "()I"⟩
def RX2 : String := "HermitsSpoon$Feeder"
def TX2 : u_T := fun k => match k with
  | 0 => ("HermitsSpoon$Hermit", "n", "I", true)
  | 1 => ("HermitsSpoon$Hermit", "need", "I", true)
  | 2 => ("HermitsSpoon$Hermit", "teeth", "I", true)
  | _ => ("HermitsSpoon$Hermit", "biteSize", "I", true)
def tyX2 : Nat → FieldType := fun k => match k with
  | 0 => .int
  | 1 => .int
  | 2 => .int
  | _ => .int
theorem nmX2 : ∀ a, a < 4 → ∀ b, b < 4 → a ≠ b → (TX2 a).2.1 ≠ (TX2 b).2.1 := by decide +kernel
theorem tyX2_ok : ∀ k, k < 4 → parseFieldDescriptor (TX2 k).2.2.1 = some (tyX2 k) := by decide +kernel
abbrev cX2_init : ByteArray := prog_4_method_1_code
def yX2_init : MethodName := ⟨RX2, "<init>", "(IIII)V"⟩
abbrev cX2_kindNumber : ByteArray := prog_4_method_2_code
def yX2_kindNumber : MethodName := ⟨RX2, "kindNumber", "()I"⟩
abbrev cX2_givesAway : ByteArray := prog_4_method_3_code
def yX2_givesAway : MethodName := ⟨RX2, "givesAway", "(I)Z"⟩
def RX3 : String := "HermitsSpoon$Greedy"
def TX3 : u_T := fun k => match k with
  | 0 => ("HermitsSpoon$Hermit", "n", "I", true)
  | 1 => ("HermitsSpoon$Hermit", "need", "I", true)
  | 2 => ("HermitsSpoon$Hermit", "teeth", "I", true)
  | _ => ("HermitsSpoon$Hermit", "biteSize", "I", true)
def tyX3 : Nat → FieldType := fun k => match k with
  | 0 => .int
  | 1 => .int
  | 2 => .int
  | _ => .int
theorem nmX3 : ∀ a, a < 4 → ∀ b, b < 4 → a ≠ b → (TX3 a).2.1 ≠ (TX3 b).2.1 := by decide +kernel
theorem tyX3_ok : ∀ k, k < 4 → parseFieldDescriptor (TX3 k).2.2.1 = some (tyX3 k) := by decide +kernel
abbrev cX3_init : ByteArray := prog_5_method_1_code
def yX3_init : MethodName := ⟨RX3, "<init>", "(IIII)V"⟩
abbrev cX3_kindNumber : ByteArray := prog_5_method_2_code
def yX3_kindNumber : MethodName := ⟨RX3, "kindNumber", "()I"⟩
abbrev cX3_bitesInTurn : ByteArray := prog_5_method_3_code
def yX3_bitesInTurn : MethodName := ⟨RX3, "bitesInTurn", "(I)I"⟩
def RX4 : String := "HermitsSpoon$Hermit"
def TX4 : u_T := fun k => match k with
  | 0 => ("HermitsSpoon$Hermit", "n", "I", true)
  | 1 => ("HermitsSpoon$Hermit", "need", "I", true)
  | 2 => ("HermitsSpoon$Hermit", "teeth", "I", true)
  | _ => ("HermitsSpoon$Hermit", "biteSize", "I", true)
def tyX4 : Nat → FieldType := fun k => match k with
  | 0 => .int
  | 1 => .int
  | 2 => .int
  | _ => .int
theorem nmX4 : ∀ a, a < 4 → ∀ b, b < 4 → a ≠ b → (TX4 a).2.1 ≠ (TX4 b).2.1 := by decide +kernel
theorem tyX4_ok : ∀ k, k < 4 → parseFieldDescriptor (TX4 k).2.2.1 = some (tyX4 k) := by decide +kernel
abbrev cX4_init : ByteArray := prog_6_method_1_code
def yX4_init : MethodName := ⟨RX4, "<init>", "(IIII)V"⟩
abbrev cX4_kindNumber : ByteArray := prog_6_method_2_code
def yX4_kindNumber : MethodName := ⟨RX4, "kindNumber", "()I"⟩
abbrev cX4_isOfKind : ByteArray := prog_6_method_3_code
def yX4_isOfKind : MethodName := ⟨RX4, "isOfKind", "(I)Z"⟩
abbrev cX4_beatsOfTurn : ByteArray := prog_6_method_4_code
def yX4_beatsOfTurn : MethodName := ⟨RX4, "beatsOfTurn", "()I"⟩
abbrev cX4_bitesInTurn : ByteArray := prog_6_method_5_code
def yX4_bitesInTurn : MethodName := ⟨RX4, "bitesInTurn", "(I)I"⟩
abbrev cX4_givesAway : ByteArray := prog_6_method_6_code
def yX4_givesAway : MethodName := ⟨RX4, "givesAway", "(I)Z"⟩
abbrev cX4_isNth : ByteArray := prog_6_method_7_code
def yX4_isNth : MethodName := ⟨RX4, "isNth", "(I)Z"⟩
def RX5 : String := "HermitsSpoon$Page"
def TX5 : u_T := fun k => match k with
  | 0 => ("HermitsSpoon$Page", "signs", "[I", true)
  | 1 => ("HermitsSpoon$Page", "length", "I", false)
  | 2 => ("HermitsSpoon$Page", "place", "I", false)
  | 3 => ("HermitsSpoon$Page", "isVow", "Z", false)
  | 4 => ("HermitsSpoon$Page", "goesToNext", "Z", false)
  | 5 => ("HermitsSpoon$Page", "turns", "I", false)
  | 6 => ("HermitsSpoon$Page", "skipsDeaf", "Z", false)
  | _ => ("HermitsSpoon$Page", "most", "I", false)
def tyX5 : Nat → FieldType := fun k => match k with
  | 0 => .array .int
  | 1 => .int
  | 2 => .int
  | 3 => .boolean
  | 4 => .boolean
  | 5 => .int
  | 6 => .boolean
  | _ => .int
theorem nmX5 : ∀ a, a < 8 → ∀ b, b < 8 → a ≠ b → (TX5 a).2.1 ≠ (TX5 b).2.1 := by decide +kernel
theorem tyX5_ok : ∀ k, k < 8 → parseFieldDescriptor (TX5 k).2.2.1 = some (tyX5 k) := by decide +kernel
abbrev cX5_init : ByteArray := prog_7_method_1_code
def yX5_init : MethodName := ⟨RX5, "<init>", "()V"⟩
abbrev cX5_lettersIn : ByteArray := prog_7_method_2_code
def yX5_lettersIn : MethodName := ⟨RX5, "lettersIn", "(J)I"⟩
abbrev cX5_write : ByteArray := prog_7_method_3_code
def yX5_write : MethodName := ⟨RX5, "write", "(JI)V"⟩
abbrev cX5_read : ByteArray := prog_7_method_4_code
def yX5_read : MethodName := ⟨RX5, "read", "()V"⟩
abbrev cX5_comes : ByteArray := prog_7_method_5_code
def yX5_comes : MethodName := ⟨RX5, "comes", "(C)Z"⟩
abbrev cX5_digit : ByteArray := prog_7_method_6_code
def yX5_digit : MethodName := ⟨RX5, "digit", "()I"⟩
def RX6 : String := "HermitsSpoon$Sitting"
def TX6 : u_T := fun k => match k with
  | 0 => ("HermitsSpoon$Sitting", "table", "LHermitsSpoon$Table;", false)
  | 1 => ("HermitsSpoon$Sitting", "layers", "[I", true)
  | 2 => ("HermitsSpoon$Sitting", "heat", "I", false)
  | 3 => ("HermitsSpoon$Sitting", "left", "I", false)
  | 4 => ("HermitsSpoon$Sitting", "turns", "I", false)
  | 5 => ("HermitsSpoon$Sitting", "beats", "I", false)
  | 6 => ("HermitsSpoon$Sitting", "bites", "I", false)
  | 7 => ("HermitsSpoon$Sitting", "worth", "I", false)
  | 8 => ("HermitsSpoon$Sitting", "meals", "[I", true)
  | 9 => ("HermitsSpoon$Sitting", "bitesBy", "[I", true)
  | 10 => ("HermitsSpoon$Sitting", "bitingTurns", "[I", true)
  | 11 => ("HermitsSpoon$Sitting", "twiceTaker", "I", false)
  | 12 => ("HermitsSpoon$Sitting", "watched", "I", false)
  | _ => ("HermitsSpoon$Sitting", "seen", "[I", true)
def tyX6 : Nat → FieldType := fun k => match k with
  | 0 => .object "HermitsSpoon$Table"
  | 1 => .array .int
  | 2 => .int
  | 3 => .int
  | 4 => .int
  | 5 => .int
  | 6 => .int
  | 7 => .int
  | 8 => .array .int
  | 9 => .array .int
  | 10 => .array .int
  | 11 => .int
  | 12 => .int
  | _ => .array .int
theorem nmX6 : ∀ a, a < 14 → ∀ b, b < 14 → a ≠ b → (TX6 a).2.1 ≠ (TX6 b).2.1 := by decide +kernel
theorem tyX6_ok : ∀ k, k < 14 → parseFieldDescriptor (TX6 k).2.2.1 = some (tyX6 k) := by decide +kernel
abbrev cX6_init : ByteArray := prog_8_method_1_code
def yX6_init : MethodName := ⟨RX6, "<init>", "(LHermitsSpoon$Table;)V"⟩
abbrev cX6_begin : ByteArray := prog_8_method_2_code
def yX6_begin : MethodName := ⟨RX6, "begin", "(LHermitsSpoon$Table;)V"⟩
abbrev cX6_wholeDay : ByteArray := prog_8_method_3_code
def yX6_wholeDay : MethodName := ⟨RX6, "wholeDay", "(LHermitsSpoon$Table;LHermitsSpoon$Vow;II)V"⟩
abbrev cX6_leastOf : ByteArray := prog_8_method_4_code
def yX6_leastOf : MethodName := ⟨RX6, "leastOf", "(LHermitsSpoon$Table;LHermitsSpoon$Vow;II)I"⟩
abbrev cX6_goRound : ByteArray := prog_8_method_5_code
def yX6_goRound : MethodName := ⟨RX6, "goRound", "(LHermitsSpoon$Vow;IIII)V"⟩
abbrev cX6_goBothWays : ByteArray := prog_8_method_6_code
def yX6_goBothWays : MethodName := ⟨RX6, "goBothWays", "(I)V"⟩
abbrev cX6_told : ByteArray := prog_8_method_7_code
def yX6_told : MethodName := ⟨RX6, "told", "(I)I"⟩
abbrev cX6_leastSurplus : ByteArray := prog_8_method_8_code
def yX6_leastSurplus : MethodName := ⟨RX6, "leastSurplus", "()I"⟩
abbrev cX6_isOver : ByteArray := prog_8_method_9_code
def yX6_isOver : MethodName := ⟨RX6, "isOver", "()Z"⟩
abbrev cX6_seatServed : ByteArray := prog_8_method_10_code
def yX6_seatServed : MethodName := ⟨RX6, "seatServed", "(LHermitsSpoon$Vow;II)I"⟩
abbrev cX6_isSkipped : ByteArray := prog_8_method_11_code
def yX6_isSkipped : MethodName := ⟨RX6, "isSkipped", "(LHermitsSpoon$Vow;II)Z"⟩
abbrev cX6_seatAlive : ByteArray := prog_8_method_12_code
def yX6_seatAlive : MethodName := ⟨RX6, "seatAlive", "(IZ)I"⟩
abbrev cX6_stir : ByteArray := prog_8_method_13_code
def yX6_stir : MethodName := ⟨RX6, "stir", "()V"⟩
abbrev cX6_passTime : ByteArray := prog_8_method_14_code
def yX6_passTime : MethodName := ⟨RX6, "passTime", "(I)V"⟩
abbrev cX6_eat : ByteArray := prog_8_method_15_code
def yX6_eat : MethodName := ⟨RX6, "eat", "(I)V"⟩
abbrev cX6_takeBite : ByteArray := prog_8_method_16_code
def yX6_takeBite : MethodName := ⟨RX6, "takeBite", "(II)V"⟩
abbrev cX6_firstLayer : ByteArray := prog_8_method_17_code
def yX6_firstLayer : MethodName := ⟨RX6, "firstLayer", "()I"⟩
abbrev cX6_worthOf : ByteArray := prog_8_method_18_code
def yX6_worthOf : MethodName := ⟨RX6, "worthOf", "(III)I"⟩
abbrev cX6_look : ByteArray := prog_8_method_19_code
def yX6_look : MethodName := ⟨RX6, "look", "(IIIII)V"⟩
def RX7 : String := "HermitsSpoon$Slow"
def TX7 : u_T := fun k => match k with
  | 0 => ("HermitsSpoon$Hermit", "n", "I", true)
  | 1 => ("HermitsSpoon$Hermit", "need", "I", true)
  | 2 => ("HermitsSpoon$Hermit", "teeth", "I", true)
  | _ => ("HermitsSpoon$Hermit", "biteSize", "I", true)
def tyX7 : Nat → FieldType := fun k => match k with
  | 0 => .int
  | 1 => .int
  | 2 => .int
  | _ => .int
theorem nmX7 : ∀ a, a < 4 → ∀ b, b < 4 → a ≠ b → (TX7 a).2.1 ≠ (TX7 b).2.1 := by decide +kernel
theorem tyX7_ok : ∀ k, k < 4 → parseFieldDescriptor (TX7 k).2.2.1 = some (tyX7 k) := by decide +kernel
abbrev cX7_init : ByteArray := prog_9_method_1_code
def yX7_init : MethodName := ⟨RX7, "<init>", "(IIII)V"⟩
abbrev cX7_kindNumber : ByteArray := prog_9_method_2_code
def yX7_kindNumber : MethodName := ⟨RX7, "kindNumber", "()I"⟩
abbrev cX7_beatsOfTurn : ByteArray := prog_9_method_3_code
def yX7_beatsOfTurn : MethodName := ⟨RX7, "beatsOfTurn", "()I"⟩
def RX8 : String := "HermitsSpoon$Table"
def TX8 : u_T := fun k => match k with
  | 0 => ("HermitsSpoon$Table", "hermits", "Ljava/util/ArrayList;", true)
  | 1 => ("HermitsSpoon$Table", "stores", "[I", true)
  | 2 => ("HermitsSpoon$Table", "sitters", "[I", true)
  | 3 => ("HermitsSpoon$Table", "layers", "[I", true)
  | 4 => ("HermitsSpoon$Table", "heat", "I", false)
  | _ => ("HermitsSpoon$Table", "isFeast", "Z", false)
def tyX8 : Nat → FieldType := fun k => match k with
  | 0 => .object "java/util/ArrayList"
  | 1 => .array .int
  | 2 => .array .int
  | 3 => .array .int
  | 4 => .int
  | _ => .boolean
theorem nmX8 : ∀ a, a < 6 → ∀ b, b < 6 → a ≠ b → (TX8 a).2.1 ≠ (TX8 b).2.1 := by decide +kernel
theorem tyX8_ok : ∀ k, k < 6 → parseFieldDescriptor (TX8 k).2.2.1 = some (tyX8 k) := by decide +kernel
abbrev cX8_init : ByteArray := prog_10_method_1_code
def yX8_init : MethodName := ⟨RX8, "<init>", "(Ljava/util/ArrayList;)V"⟩
abbrev cX8_becomeLike : ByteArray := prog_10_method_2_code
def yX8_becomeLike : MethodName := ⟨RX8, "becomeLike", "(LHermitsSpoon$Table;I)V"⟩
abbrev cX8_exchange : ByteArray := prog_10_method_3_code
def yX8_exchange : MethodName := ⟨RX8, "exchange", "(II)V"⟩
abbrev cX8_seatOf : ByteArray := prog_10_method_4_code
def yX8_seatOf : MethodName := ⟨RX8, "seatOf", "(I)I"⟩
abbrev cX8_hermitIn : ByteArray := prog_10_method_5_code
def yX8_hermitIn : MethodName := ⟨RX8, "hermitIn", "(I)LHermitsSpoon$Hermit;"⟩
abbrev cX8_seatNext : ByteArray := prog_10_method_6_code
def yX8_seatNext : MethodName := ⟨RX8, "seatNext", "(I)I"⟩
abbrev cX8_seatBeside : ByteArray := prog_10_method_7_code
def yX8_seatBeside : MethodName := ⟨RX8, "seatBeside", "(IZ)I"⟩
abbrev cX8_isStarved : ByteArray := prog_10_method_8_code
def yX8_isStarved : MethodName := ⟨RX8, "isStarved", "(I)Z"⟩
abbrev cX8_soupInAll : ByteArray := prog_10_method_9_code
def yX8_soupInAll : MethodName := ⟨RX8, "soupInAll", "()I"⟩
abbrev cX8_starvedInAll : ByteArray := prog_10_method_10_code
def yX8_starvedInAll : MethodName := ⟨RX8, "starvedInAll", "()I"⟩
abbrev cX8_endDay : ByteArray := prog_10_method_11_code
def yX8_endDay : MethodName := ⟨RX8, "endDay", "([I)I"⟩
def RX9 : String := "HermitsSpoon$Vow"
def TX9 : u_T := fun k => match k with
  | 0 => ("HermitsSpoon$Vow", "goesToNext", "Z", true)
  | 1 => ("HermitsSpoon$Vow", "turns", "I", true)
  | 2 => ("HermitsSpoon$Vow", "skipsDeaf", "Z", true)
  | _ => ("HermitsSpoon$Vow", "most", "I", true)
def tyX9 : Nat → FieldType := fun k => match k with
  | 0 => .boolean
  | 1 => .int
  | 2 => .boolean
  | _ => .int
theorem nmX9 : ∀ a, a < 4 → ∀ b, b < 4 → a ≠ b → (TX9 a).2.1 ≠ (TX9 b).2.1 := by decide +kernel
theorem tyX9_ok : ∀ k, k < 4 → parseFieldDescriptor (TX9 k).2.2.1 = some (tyX9 k) := by decide +kernel
abbrev cX9_init : ByteArray := prog_11_method_1_code
def yX9_init : MethodName := ⟨RX9, "<init>", "(LHermitsSpoon$Page;)V"⟩
abbrev cX9_told : ByteArray := prog_11_method_2_code
def yX9_told : MethodName := ⟨RX9, "told", "(I)I"⟩
def RX10 : String := "HermitsSpoon"
def TX10 : u_T := fun k => match k with
  | 0 => ("HermitsSpoon", "hermits", "Ljava/util/ArrayList;", true)
  | 1 => ("HermitsSpoon", "vows", "Ljava/util/ArrayList;", true)
  | 2 => ("HermitsSpoon", "page", "LHermitsSpoon$Page;", true)
  | 3 => ("HermitsSpoon", "table", "LHermitsSpoon$Table;", true)
  | 4 => ("HermitsSpoon", "kept", "LHermitsSpoon$Table;", true)
  | 5 => ("HermitsSpoon", "keptSeats", "I", false)
  | 6 => ("HermitsSpoon", "sitting", "LHermitsSpoon$Sitting;", true)
  | _ => ("HermitsSpoon", "council", "LHermitsSpoon$Council;", true)
def tyX10 : Nat → FieldType := fun k => match k with
  | 0 => .object "java/util/ArrayList"
  | 1 => .object "java/util/ArrayList"
  | 2 => .object "HermitsSpoon$Page"
  | 3 => .object "HermitsSpoon$Table"
  | 4 => .object "HermitsSpoon$Table"
  | 5 => .int
  | 6 => .object "HermitsSpoon$Sitting"
  | _ => .object "HermitsSpoon$Council"
theorem nmX10 : ∀ a, a < 8 → ∀ b, b < 8 → a ≠ b → (TX10 a).2.1 ≠ (TX10 b).2.1 := by decide +kernel
theorem tyX10_ok : ∀ k, k < 8 → parseFieldDescriptor (TX10 k).2.2.1 = some (tyX10 k) := by decide +kernel
abbrev cX10_init : ByteArray := prog_1_method_1_code
def yX10_init : MethodName := ⟨RX10, "<init>", "()V"⟩
abbrev cX10_letters : ByteArray := prog_1_method_2_code
def yX10_letters : MethodName := ⟨RX10, "letters", "(J)I"⟩
abbrev cX10_blank : ByteArray := prog_1_method_3_code
def yX10_blank : MethodName := ⟨RX10, "blank", "()I"⟩
abbrev cX10_fault : ByteArray := prog_1_method_4_code
def yX10_fault : MethodName := ⟨RX10, "fault", "()I"⟩
abbrev cX10_vow : ByteArray := prog_1_method_5_code
def yX10_vow : MethodName := ⟨RX10, "vow", "()I"⟩
abbrev cX10_vowTold : ByteArray := prog_1_method_6_code
def yX10_vowTold : MethodName := ⟨RX10, "vowTold", "(II)I"⟩
abbrev cX10_hermit : ByteArray := prog_1_method_7_code
def yX10_hermit : MethodName := ⟨RX10, "hermit", "(IIIIII)I"⟩
abbrev cX10_as : ByteArray := prog_1_method_8_code
def yX10_as : MethodName := ⟨RX10, "as", "(II)I"⟩
abbrev cX10_about : ByteArray := prog_1_method_9_code
def yX10_about : MethodName := ⟨RX10, "about", "(II)I"⟩
abbrev cX10_store : ByteArray := prog_1_method_10_code
def yX10_store : MethodName := ⟨RX10, "store", "(II)I"⟩
abbrev cX10_change : ByteArray := prog_1_method_11_code
def yX10_change : MethodName := ⟨RX10, "change", "(II)I"⟩
abbrev cX10_soup : ByteArray := prog_1_method_12_code
def yX10_soup : MethodName := ⟨RX10, "soup", "(II)I"⟩
abbrev cX10_heat : ByteArray := prog_1_method_13_code
def yX10_heat : MethodName := ⟨RX10, "heat", "(I)I"⟩
abbrev cX10_feast : ByteArray := prog_1_method_14_code
def yX10_feast : MethodName := ⟨RX10, "feast", "(Z)I"⟩
abbrev cX10_day : ByteArray := prog_1_method_15_code
def yX10_day : MethodName := ⟨RX10, "day", "(IIII)I"⟩
abbrev cX10_meal : ByteArray := prog_1_method_16_code
def yX10_meal : MethodName := ⟨RX10, "meal", "(IIII)I"⟩
abbrev cX10_bite : ByteArray := prog_1_method_17_code
def yX10_bite : MethodName := ⟨RX10, "bite", "(IIIII)I"⟩
abbrev cX10_least : ByteArray := prog_1_method_18_code
def yX10_least : MethodName := ⟨RX10, "least", "(II)I"⟩
abbrev cX10_bestStart : ByteArray := prog_1_method_19_code
def yX10_bestStart : MethodName := ⟨RX10, "bestStart", "(I)I"⟩
abbrev cX10_bestSwap : ByteArray := prog_1_method_20_code
def yX10_bestSwap : MethodName := ⟨RX10, "bestSwap", "(II)I"⟩
abbrev cX10_bestStir : ByteArray := prog_1_method_21_code
def yX10_bestStir : MethodName := ⟨RX10, "bestStir", "(II)I"⟩
abbrev cX10_live : ByteArray := prog_1_method_22_code
def yX10_live : MethodName := ⟨RX10, "live", "(III)I"⟩
abbrev cX10_starves : ByteArray := prog_1_method_23_code
def yX10_starves : MethodName := ⟨RX10, "starves", "(III)I"⟩
abbrev cX10_fasting : ByteArray := prog_1_method_24_code
def yX10_fasting : MethodName := ⟨RX10, "fasting", "(III)I"⟩
abbrev cX10_schism : ByteArray := prog_1_method_25_code
def yX10_schism : MethodName := ⟨RX10, "schism", "(II)I"⟩
abbrev cX10_twice : ByteArray := prog_1_method_26_code
def yX10_twice : MethodName := ⟨RX10, "twice", "(IIII)I"⟩
abbrev cX10_image : ByteArray := prog_1_method_27_code
def yX10_image : MethodName := ⟨RX10, "image", "()I"⟩
abbrev cX10_restore : ByteArray := prog_1_method_28_code
def yX10_restore : MethodName := ⟨RX10, "restore", "()I"⟩
abbrev cX10_count : ByteArray := prog_1_method_29_code
def yX10_count : MethodName := ⟨RX10, "count", "(I)I"⟩
abbrev cX10_digest : ByteArray := prog_1_method_30_code
def yX10_digest : MethodName := ⟨RX10, "digest", "()J"⟩
abbrev cX10_isWithin : ByteArray := prog_1_method_31_code
def yX10_isWithin : MethodName := ⟨RX10, "isWithin", "(III)Z"⟩
abbrev cX10_asNumber : ByteArray := prog_1_method_32_code
def yX10_asNumber : MethodName := ⟨RX10, "asNumber", "(Z)I"⟩
abbrev cX10_leastNumber : ByteArray := prog_1_method_33_code
def yX10_leastNumber : MethodName := ⟨RX10, "leastNumber", "(I)I"⟩
abbrev cX10_mostNumber : ByteArray := prog_1_method_34_code
def yX10_mostNumber : MethodName := ⟨RX10, "mostNumber", "(I)I"⟩
abbrev cX10_newcomer : ByteArray := prog_1_method_35_code
def yX10_newcomer : MethodName := ⟨RX10, "newcomer", "(IIIII)LHermitsSpoon$Hermit;"⟩
abbrev cX10_isHermit : ByteArray := prog_1_method_36_code
def yX10_isHermit : MethodName := ⟨RX10, "isHermit", "(I)Z"⟩
abbrev cX10_isSeat : ByteArray := prog_1_method_37_code
def yX10_isSeat : MethodName := ⟨RX10, "isSeat", "(I)Z"⟩
abbrev cX10_areFasts : ByteArray := prog_1_method_38_code
def yX10_areFasts : MethodName := ⟨RX10, "areFasts", "(I)Z"⟩
abbrev cX10_vowNumbered : ByteArray := prog_1_method_39_code
def yX10_vowNumbered : MethodName := ⟨RX10, "vowNumbered", "(I)LHermitsSpoon$Vow;"⟩
abbrev cX10_toldOf : ByteArray := prog_1_method_40_code
def yX10_toldOf : MethodName := ⟨RX10, "toldOf", "(II)I"⟩
abbrev cX10_counted : ByteArray := prog_1_method_41_code
def yX10_counted : MethodName := ⟨RX10, "counted", "(I)I"⟩
abbrev cX10_leftIf : ByteArray := prog_1_method_42_code
def yX10_leftIf : MethodName := ⟨RX10, "leftIf", "(ILHermitsSpoon$Vow;II)I"⟩
abbrev cX10_vowDigested : ByteArray := prog_1_method_43_code
def yX10_vowDigested : MethodName := ⟨RX10, "vowDigested", "(JLHermitsSpoon$Vow;)J"⟩
def RX11 : String := "HermitsSpoonModel"
def TX11 : u_T := fun k => match k with
  | 0 => ("HermitsSpoonModel", "hermits", "I", false)
  | 1 => ("HermitsSpoonModel", "kindOf", "[I", true)
  | 2 => ("HermitsSpoonModel", "numberOf", "[I", true)
  | 3 => ("HermitsSpoonModel", "needOf", "[I", true)
  | 4 => ("HermitsSpoonModel", "teethOf", "[I", true)
  | 5 => ("HermitsSpoonModel", "biteOf", "[I", true)
  | 6 => ("HermitsSpoonModel", "storeOf", "[I", true)
  | 7 => ("HermitsSpoonModel", "seatOf", "[I", true)
  | 8 => ("HermitsSpoonModel", "sitter", "[I", true)
  | 9 => ("HermitsSpoonModel", "layer", "[I", true)
  | 10 => ("HermitsSpoonModel", "heatNow", "I", false)
  | 11 => ("HermitsSpoonModel", "isFeast", "Z", false)
  | 12 => ("HermitsSpoonModel", "vows", "I", false)
  | 13 => ("HermitsSpoonModel", "isNext", "[Z", true)
  | 14 => ("HermitsSpoonModel", "stirOf", "[I", true)
  | 15 => ("HermitsSpoonModel", "skipsDeaf", "[Z", true)
  | 16 => ("HermitsSpoonModel", "mostOf", "[I", true)
  | 17 => ("HermitsSpoonModel", "pageLength", "I", false)
  | 18 => ("HermitsSpoonModel", "page", "[B", true)
  | 19 => ("HermitsSpoonModel", "isKept", "Z", false)
  | 20 => ("HermitsSpoonModel", "keptHermits", "I", false)
  | 21 => ("HermitsSpoonModel", "keptHeat", "I", false)
  | 22 => ("HermitsSpoonModel", "keptFeast", "Z", false)
  | 23 => ("HermitsSpoonModel", "keptStore", "[I", true)
  | 24 => ("HermitsSpoonModel", "keptSeat", "[I", true)
  | 25 => ("HermitsSpoonModel", "keptLayer", "[I", true)
  | 26 => ("HermitsSpoonModel", "faultAt", "I", false)
  | 27 => ("HermitsSpoonModel", "isWhole", "Z", false)
  | 28 => ("HermitsSpoonModel", "newNext", "Z", false)
  | 29 => ("HermitsSpoonModel", "newStir", "I", false)
  | 30 => ("HermitsSpoonModel", "newDeaf", "Z", false)
  | 31 => ("HermitsSpoonModel", "newMost", "I", false)
  | 32 => ("HermitsSpoonModel", "goesNext", "Z", false)
  | 33 => ("HermitsSpoonModel", "stirs", "I", false)
  | 34 => ("HermitsSpoonModel", "deafOut", "Z", false)
  | 35 => ("HermitsSpoonModel", "mostBites", "I", false)
  | 36 => ("HermitsSpoonModel", "fasting", "I", false)
  | 37 => ("HermitsSpoonModel", "thief", "I", false)
  | 38 => ("HermitsSpoonModel", "stores", "[I", true)
  | 39 => ("HermitsSpoonModel", "soupNow", "[I", true)
  | 40 => ("HermitsSpoonModel", "heatThen", "I", false)
  | 41 => ("HermitsSpoonModel", "turnsNow", "I", false)
  | 42 => ("HermitsSpoonModel", "beatsNow", "I", false)
  | 43 => ("HermitsSpoonModel", "bitesNow", "I", false)
  | 44 => ("HermitsSpoonModel", "worthNow", "I", false)
  | 45 => ("HermitsSpoonModel", "meals", "[I", true)
  | 46 => ("HermitsSpoonModel", "bitten", "[I", true)
  | 47 => ("HermitsSpoonModel", "bitingTurns", "[I", true)
  | 48 => ("HermitsSpoonModel", "biteLog", "[I", true)
  | _ => ("HermitsSpoonModel", "h", "J", false)
def tyX11 : Nat → FieldType := fun k => match k with
  | 0 => .int
  | 1 => .array .int
  | 2 => .array .int
  | 3 => .array .int
  | 4 => .array .int
  | 5 => .array .int
  | 6 => .array .int
  | 7 => .array .int
  | 8 => .array .int
  | 9 => .array .int
  | 10 => .int
  | 11 => .boolean
  | 12 => .int
  | 13 => .array .boolean
  | 14 => .array .int
  | 15 => .array .boolean
  | 16 => .array .int
  | 17 => .int
  | 18 => .array .byte
  | 19 => .boolean
  | 20 => .int
  | 21 => .int
  | 22 => .boolean
  | 23 => .array .int
  | 24 => .array .int
  | 25 => .array .int
  | 26 => .int
  | 27 => .boolean
  | 28 => .boolean
  | 29 => .int
  | 30 => .boolean
  | 31 => .int
  | 32 => .boolean
  | 33 => .int
  | 34 => .boolean
  | 35 => .int
  | 36 => .int
  | 37 => .int
  | 38 => .array .int
  | 39 => .array .int
  | 40 => .int
  | 41 => .int
  | 42 => .int
  | 43 => .int
  | 44 => .int
  | 45 => .array .int
  | 46 => .array .int
  | 47 => .array .int
  | 48 => .array .int
  | _ => .long
theorem nmX11 : ∀ a, a < 50 → ∀ b, b < 50 → a ≠ b → (TX11 a).2.1 ≠ (TX11 b).2.1 := by decide +kernel
theorem tyX11_ok : ∀ k, k < 50 → parseFieldDescriptor (TX11 k).2.2.1 = some (tyX11 k) := by decide +kernel
abbrev cX11_init : ByteArray := prog_13_method_1_code
def yX11_init : MethodName := ⟨RX11, "<init>", "()V"⟩
abbrev cX11_within : ByteArray := prog_13_method_3_code
def yX11_within : MethodName := ⟨RX11, "within", "(III)Z"⟩
abbrev cX11_has : ByteArray := prog_13_method_4_code
def yX11_has : MethodName := ⟨RX11, "has", "(II)Z"⟩
abbrev cX11_letters : ByteArray := prog_13_method_5_code
def yX11_letters : MethodName := ⟨RX11, "letters", "(J)I"⟩
abbrev cX11_blank : ByteArray := prog_13_method_6_code
def yX11_blank : MethodName := ⟨RX11, "blank", "()I"⟩
abbrev cX11_nextState : ByteArray := prog_13_method_7_code
def yX11_nextState : MethodName := ⟨RX11, "nextState", "(II)I"⟩
abbrev cX11_afterTurns : ByteArray := prog_13_method_8_code
def yX11_afterTurns : MethodName := ⟨RX11, "afterTurns", "(I)I"⟩
abbrev cX11_readVow : ByteArray := prog_13_method_9_code
def yX11_readVow : MethodName := ⟨RX11, "readVow", "()V"⟩
abbrev cX11_fault : ByteArray := prog_13_method_10_code
def yX11_fault : MethodName := ⟨RX11, "fault", "()I"⟩
abbrev cX11_vow : ByteArray := prog_13_method_11_code
def yX11_vow : MethodName := ⟨RX11, "vow", "()I"⟩
abbrev cX11_isVow : ByteArray := prog_13_method_12_code
def yX11_isVow : MethodName := ⟨RX11, "isVow", "(I)Z"⟩
abbrev cX11_vowNow : ByteArray := prog_13_method_13_code
def yX11_vowNow : MethodName := ⟨RX11, "vowNow", "(II)I"⟩
abbrev cX11_vowTold : ByteArray := prog_13_method_14_code
def yX11_vowTold : MethodName := ⟨RX11, "vowTold", "(II)I"⟩
abbrev cX11_isHermit : ByteArray := prog_13_method_15_code
def yX11_isHermit : MethodName := ⟨RX11, "isHermit", "(I)Z"⟩
abbrev cX11_isNumber : ByteArray := prog_13_method_16_code
def yX11_isNumber : MethodName := ⟨RX11, "isNumber", "(II)Z"⟩
abbrev cX11_hermit : ByteArray := prog_13_method_17_code
def yX11_hermit : MethodName := ⟨RX11, "hermit", "(IIIIII)I"⟩
abbrev cX11_as : ByteArray := prog_13_method_18_code
def yX11_as : MethodName := ⟨RX11, "as", "(II)I"⟩
abbrev cX11_hermitNow : ByteArray := prog_13_method_19_code
def yX11_hermitNow : MethodName := ⟨RX11, "hermitNow", "(II)I"⟩
abbrev cX11_about : ByteArray := prog_13_method_20_code
def yX11_about : MethodName := ⟨RX11, "about", "(II)I"⟩
abbrev cX11_store : ByteArray := prog_13_method_21_code
def yX11_store : MethodName := ⟨RX11, "store", "(II)I"⟩
abbrev cX11_isSeat : ByteArray := prog_13_method_22_code
def yX11_isSeat : MethodName := ⟨RX11, "isSeat", "(I)Z"⟩
abbrev cX11_exchange : ByteArray := prog_13_method_23_code
def yX11_exchange : MethodName := ⟨RX11, "exchange", "(II)V"⟩
abbrev cX11_change : ByteArray := prog_13_method_24_code
def yX11_change : MethodName := ⟨RX11, "change", "(II)I"⟩
abbrev cX11_soup : ByteArray := prog_13_method_25_code
def yX11_soup : MethodName := ⟨RX11, "soup", "(II)I"⟩
abbrev cX11_heat : ByteArray := prog_13_method_26_code
def yX11_heat : MethodName := ⟨RX11, "heat", "(I)I"⟩
abbrev cX11_feast : ByteArray := prog_13_method_27_code
def yX11_feast : MethodName := ⟨RX11, "feast", "(Z)I"⟩
abbrev cX11_useVow : ByteArray := prog_13_method_28_code
def yX11_useVow : MethodName := ⟨RX11, "useVow", "(I)V"⟩
abbrev cX11_useStores : ByteArray := prog_13_method_29_code
def yX11_useStores : MethodName := ⟨RX11, "useStores", "()V"⟩
abbrev cX11_beginDay : ByteArray := prog_13_method_30_code
def yX11_beginDay : MethodName := ⟨RX11, "beginDay", "()V"⟩
abbrev cX11_isSkipped : ByteArray := prog_13_method_31_code
def yX11_isSkipped : MethodName := ⟨RX11, "isSkipped", "(I)Z"⟩
abbrev cX11_soupLeft : ByteArray := prog_13_method_32_code
def yX11_soupLeft : MethodName := ⟨RX11, "soupLeft", "()I"⟩
abbrev cX11_areAllSkipped : ByteArray := prog_13_method_33_code
def yX11_areAllSkipped : MethodName := ⟨RX11, "areAllSkipped", "()Z"⟩
abbrev cX11_isOver : ByteArray := prog_13_method_34_code
def yX11_isOver : MethodName := ⟨RX11, "isOver", "()Z"⟩
abbrev cX11_onward : ByteArray := prog_13_method_35_code
def yX11_onward : MethodName := ⟨RX11, "onward", "(IZ)I"⟩
abbrev cX11_stir : ByteArray := prog_13_method_36_code
def yX11_stir : MethodName := ⟨RX11, "stir", "()V"⟩
abbrev cX11_biteOnce : ByteArray := prog_13_method_37_code
def yX11_biteOnce : MethodName := ⟨RX11, "biteOnce", "(I)V"⟩
abbrev cX11_biteTurn : ByteArray := prog_13_method_38_code
def yX11_biteTurn : MethodName := ⟨RX11, "biteTurn", "(I)V"⟩
abbrev cX11_takeBeats : ByteArray := prog_13_method_39_code
def yX11_takeBeats : MethodName := ⟨RX11, "takeBeats", "(I)V"⟩
abbrev cX11_beatsOf : ByteArray := prog_13_method_40_code
def yX11_beatsOf : MethodName := ⟨RX11, "beatsOf", "(I)I"⟩
abbrev cX11_goDay : ByteArray := prog_13_method_41_code
def yX11_goDay : MethodName := ⟨RX11, "goDay", "(II)V"⟩
abbrev cX11_isDay : ByteArray := prog_13_method_42_code
def yX11_isDay : MethodName := ⟨RX11, "isDay", "(II)Z"⟩
abbrev cX11_areFasts : ByteArray := prog_13_method_43_code
def yX11_areFasts : MethodName := ⟨RX11, "areFasts", "(I)Z"⟩
abbrev cX11_layDay : ByteArray := prog_13_method_44_code
def yX11_layDay : MethodName := ⟨RX11, "layDay", "(III)V"⟩
abbrev cX11_dayNow : ByteArray := prog_13_method_45_code
def yX11_dayNow : MethodName := ⟨RX11, "dayNow", "(I)I"⟩
abbrev cX11_day : ByteArray := prog_13_method_46_code
def yX11_day : MethodName := ⟨RX11, "day", "(IIII)I"⟩
abbrev cX11_meal : ByteArray := prog_13_method_47_code
def yX11_meal : MethodName := ⟨RX11, "meal", "(IIII)I"⟩
abbrev cX11_bite : ByteArray := prog_13_method_48_code
def yX11_bite : MethodName := ⟨RX11, "bite", "(IIIII)I"⟩
abbrev cX11_leastNow : ByteArray := prog_13_method_49_code
def yX11_leastNow : MethodName := ⟨RX11, "leastNow", "()I"⟩
abbrev cX11_leastOf : ByteArray := prog_13_method_50_code
def yX11_leastOf : MethodName := ⟨RX11, "leastOf", "(II)I"⟩
abbrev cX11_least : ByteArray := prog_13_method_51_code
def yX11_least : MethodName := ⟨RX11, "least", "(II)I"⟩
abbrev cX11_bestStart : ByteArray := prog_13_method_52_code
def yX11_bestStart : MethodName := ⟨RX11, "bestStart", "(I)I"⟩
abbrev cX11_bestSwap : ByteArray := prog_13_method_53_code
def yX11_bestSwap : MethodName := ⟨RX11, "bestSwap", "(II)I"⟩
abbrev cX11_bestStir : ByteArray := prog_13_method_54_code
def yX11_bestStir : MethodName := ⟨RX11, "bestStir", "(II)I"⟩
abbrev cX11_digestDay : ByteArray := prog_13_method_55_code
def yX11_digestDay : MethodName := ⟨RX11, "digestDay", "()I"⟩
abbrev cX11_live : ByteArray := prog_13_method_56_code
def yX11_live : MethodName := ⟨RX11, "live", "(III)I"⟩
abbrev cX11_starves : ByteArray := prog_13_method_57_code
def yX11_starves : MethodName := ⟨RX11, "starves", "(III)I"⟩
abbrev cX11_sittersFrom : ByteArray := prog_13_method_58_code
def yX11_sittersFrom : MethodName := ⟨RX11, "sittersFrom", "(II)I"⟩
abbrev cX11_areFed : ByteArray := prog_13_method_59_code
def yX11_areFed : MethodName := ⟨RX11, "areFed", "(IIII)Z"⟩
abbrev cX11_fasting : ByteArray := prog_13_method_60_code
def yX11_fasting : MethodName := ⟨RX11, "fasting", "(III)I"⟩
abbrev cX11_passSkipped : ByteArray := prog_13_method_61_code
def yX11_passSkipped : MethodName := ⟨RX11, "passSkipped", "(IZ)I"⟩
abbrev cX11_goSchism : ByteArray := prog_13_method_62_code
def yX11_goSchism : MethodName := ⟨RX11, "goSchism", "(I)V"⟩
abbrev cX11_schism : ByteArray := prog_13_method_63_code
def yX11_schism : MethodName := ⟨RX11, "schism", "(II)I"⟩
abbrev cX11_explains : ByteArray := prog_13_method_64_code
def yX11_explains : MethodName := ⟨RX11, "explains", "(IIIII)Z"⟩
abbrev cX11_twice : ByteArray := prog_13_method_65_code
def yX11_twice : MethodName := ⟨RX11, "twice", "(IIII)I"⟩
abbrev cX11_image : ByteArray := prog_13_method_66_code
def yX11_image : MethodName := ⟨RX11, "image", "()I"⟩
abbrev cX11_restore : ByteArray := prog_13_method_67_code
def yX11_restore : MethodName := ⟨RX11, "restore", "()I"⟩
abbrev cX11_soupAll : ByteArray := prog_13_method_68_code
def yX11_soupAll : MethodName := ⟨RX11, "soupAll", "()I"⟩
abbrev cX11_starvedMany : ByteArray := prog_13_method_69_code
def yX11_starvedMany : MethodName := ⟨RX11, "starvedMany", "()I"⟩
abbrev cX11_howMany : ByteArray := prog_13_method_70_code
def yX11_howMany : MethodName := ⟨RX11, "howMany", "(I)I"⟩
abbrev cX11_count : ByteArray := prog_13_method_71_code
def yX11_count : MethodName := ⟨RX11, "count", "(I)I"⟩
abbrev cX11_mix : ByteArray := prog_13_method_72_code
def yX11_mix : MethodName := ⟨RX11, "mix", "(J)V"⟩
abbrev cX11_mixVow : ByteArray := prog_13_method_73_code
def yX11_mixVow : MethodName := ⟨RX11, "mixVow", "(I)V"⟩
abbrev cX11_digest : ByteArray := prog_13_method_74_code
def yX11_digest : MethodName := ⟨RX11, "digest", "()J"⟩
def RJx145de : String := "java/io/Serializable"
def TJx145de : u_T := fun k => match k with
  | _ => ("", "", "", false)
def tyJx145de : Nat → FieldType := fun k => match k with
  | _ => .int
theorem nmJx145de : ∀ a, a < 0 → ∀ b, b < 0 → a ≠ b → (TJx145de a).2.1 ≠ (TJx145de b).2.1 := by decide +kernel
theorem tyJx145de_ok : ∀ k, k < 0 → parseFieldDescriptor (TJx145de k).2.2.1 = some (tyJx145de k) := by decide +kernel
def RJx8e188 : String := "java/lang/Cloneable"
def TJx8e188 : u_T := fun k => match k with
  | _ => ("", "", "", false)
def tyJx8e188 : Nat → FieldType := fun k => match k with
  | _ => .int
theorem nmJx8e188 : ∀ a, a < 0 → ∀ b, b < 0 → a ≠ b → (TJx8e188 a).2.1 ≠ (TJx8e188 b).2.1 := by decide +kernel
theorem tyJx8e188_ok : ∀ k, k < 0 → parseFieldDescriptor (TJx8e188 k).2.2.1 = some (tyJx8e188 k) := by decide +kernel
def RJxab1ab : String := "java/lang/Iterable"
def TJxab1ab : u_T := fun k => match k with
  | _ => ("", "", "", false)
def tyJxab1ab : Nat → FieldType := fun k => match k with
  | _ => .int
theorem nmJxab1ab : ∀ a, a < 0 → ∀ b, b < 0 → a ≠ b → (TJxab1ab a).2.1 ≠ (TJxab1ab b).2.1 := by decide +kernel
theorem tyJxab1ab_ok : ∀ k, k < 0 → parseFieldDescriptor (TJxab1ab k).2.2.1 = some (tyJxab1ab k) := by decide +kernel
def RJ9 : String := "java/lang/Math"
def TJ9 : u_T := fun k => match k with
  | _ => ("", "", "", false)
def tyJ9 : Nat → FieldType := fun k => match k with
  | _ => .int
theorem nmJ9 : ∀ a, a < 0 → ∀ b, b < 0 → a ≠ b → (TJ9 a).2.1 ≠ (TJ9 b).2.1 := by decide +kernel
theorem tyJ9_ok : ∀ k, k < 0 → parseFieldDescriptor (TJ9 k).2.2.1 = some (tyJ9 k) := by decide +kernel
abbrev cJ9_max_7cf53 : ByteArray := prog_17_method_65_code
def yJ9_max_7cf53 : MethodName := ⟨RJ9, "max", "(II)I"⟩
abbrev cJ9_min_7cf53 : ByteArray := prog_17_method_69_code
def yJ9_min_7cf53 : MethodName := ⟨RJ9, "min", "(II)I"⟩
def RJ10 : String := "java/lang/System"
def TJ10 : u_T := fun k => match k with
  | _ => ("", "", "", false)
def tyJ10 : Nat → FieldType := fun k => match k with
  | _ => .int
theorem nmJ10 : ∀ a, a < 0 → ∀ b, b < 0 → a ≠ b → (TJ10 a).2.1 ≠ (TJ10 b).2.1 := by decide +kernel
theorem tyJ10_ok : ∀ k, k < 0 → parseFieldDescriptor (TJ10 k).2.2.1 = some (tyJ10 k) := by decide +kernel
def RJxa1e45 : String := "java/util/AbstractCollection"
def TJxa1e45 : u_T := fun k => match k with
  | _ => ("", "", "", false)
def tyJxa1e45 : Nat → FieldType := fun k => match k with
  | _ => .int
theorem nmJxa1e45 : ∀ a, a < 0 → ∀ b, b < 0 → a ≠ b → (TJxa1e45 a).2.1 ≠ (TJxa1e45 b).2.1 := by decide +kernel
theorem tyJxa1e45_ok : ∀ k, k < 0 → parseFieldDescriptor (TJxa1e45 k).2.2.1 = some (tyJxa1e45 k) := by decide +kernel
abbrev cJxa1e45_init_da8c8 : ByteArray := prog_19_method_1_code
def yJxa1e45_init_da8c8 : MethodName := ⟨RJxa1e45, "<init>", "()V"⟩
def RJxc12de : String := "java/util/AbstractList"
def TJxc12de : u_T := fun k => match k with
  | _ => ("", "", "", false)
def tyJxc12de : Nat → FieldType := fun k => match k with
  | _ => .int
theorem nmJxc12de : ∀ a, a < 0 → ∀ b, b < 0 → a ≠ b → (TJxc12de a).2.1 ≠ (TJxc12de b).2.1 := by decide +kernel
theorem tyJxc12de_ok : ∀ k, k < 0 → parseFieldDescriptor (TJxc12de k).2.2.1 = some (tyJxc12de k) := by decide +kernel
abbrev cJxc12de_init_da8c8 : ByteArray := prog_20_method_1_code
def yJxc12de_init_da8c8 : MethodName := ⟨RJxc12de, "<init>", "()V"⟩
def RJx4a65c : String := "java/util/ArrayList"
def TJx4a65c : u_T := fun k => match k with
  | 0 => ("java/util/AbstractList", "modCount", "I", false)
  | 1 => ("java/util/ArrayList", "elementData", "[Ljava/lang/Object;", false)
  | _ => ("java/util/ArrayList", "size", "I", false)
def tyJx4a65c : Nat → FieldType := fun k => match k with
  | 0 => .int
  | 1 => .array (.object "java/lang/Object")
  | _ => .int
theorem nmJx4a65c : ∀ a, a < 3 → ∀ b, b < 3 → a ≠ b → (TJx4a65c a).2.1 ≠ (TJx4a65c b).2.1 := by decide +kernel
theorem tyJx4a65c_ok : ∀ k, k < 3 → parseFieldDescriptor (TJx4a65c k).2.2.1 = some (tyJx4a65c k) := by decide +kernel
abbrev cJx4a65c_init_da8c8 : ByteArray := prog_21_method_2_code
def yJx4a65c_init_da8c8 : MethodName := ⟨RJx4a65c, "<init>", "()V"⟩
abbrev cJx4a65c_grow_92f84 : ByteArray := prog_21_method_6_code
def yJx4a65c_grow_92f84 : MethodName := ⟨RJx4a65c, "grow", "(I)[Ljava/lang/Object;"⟩
abbrev cJx4a65c_grow_d5877 : ByteArray := prog_21_method_7_code
def yJx4a65c_grow_d5877 : MethodName := ⟨RJx4a65c, "grow", "()[Ljava/lang/Object;"⟩
abbrev cJx4a65c_size_8abf5 : ByteArray := prog_21_method_8_code
def yJx4a65c_size_8abf5 : MethodName := ⟨RJx4a65c, "size", "()I"⟩
abbrev cJx4a65c_isEmpty_aae02 : ByteArray := prog_21_method_9_code
def yJx4a65c_isEmpty_aae02 : MethodName := ⟨RJx4a65c, "isEmpty", "()Z"⟩
abbrev cJx4a65c_elementData_915e3 : ByteArray := prog_21_method_18_code
def yJx4a65c_elementData_915e3 : MethodName := ⟨RJx4a65c, "elementData", "(I)Ljava/lang/Object;"⟩
abbrev cJx4a65c_get_915e3 : ByteArray := prog_21_method_20_code
def yJx4a65c_get_915e3 : MethodName := ⟨RJx4a65c, "get", "(I)Ljava/lang/Object;"⟩
abbrev cJx4a65c_add_72be8 : ByteArray := prog_21_method_24_code
def yJx4a65c_add_72be8 : MethodName := ⟨RJx4a65c, "add", "(Ljava/lang/Object;[Ljava/lang/Object;I)V"⟩
abbrev cJx4a65c_add_9ea2d : ByteArray := prog_21_method_25_code
def yJx4a65c_add_9ea2d : MethodName := ⟨RJx4a65c, "add", "(Ljava/lang/Object;)Z"⟩
def RJ7 : String := "java/util/Arrays"
def TJ7 : u_T := fun k => match k with
  | _ => ("", "", "", false)
def tyJ7 : Nat → FieldType := fun k => match k with
  | _ => .int
theorem nmJ7 : ∀ a, a < 0 → ∀ b, b < 0 → a ≠ b → (TJ7 a).2.1 ≠ (TJ7 b).2.1 := by decide +kernel
theorem tyJ7_ok : ∀ k, k < 0 → parseFieldDescriptor (TJ7 k).2.2.1 = some (tyJ7 k) := by decide +kernel
abbrev cJ7_copyOf_1904c : ByteArray := prog_22_method_119_code
def yJ7_copyOf_1904c : MethodName := ⟨RJ7, "copyOf", "([Ljava/lang/Object;I)[Ljava/lang/Object;"⟩
abbrev cJ7_copyOf_6403c : ByteArray := prog_22_method_120_code
def yJ7_copyOf_6403c : MethodName := ⟨RJ7, "copyOf", "([Ljava/lang/Object;ILjava/lang/Class;)[Ljava/lang/Object;"⟩
def RJx5ef63 : String := "java/util/Collection"
def TJx5ef63 : u_T := fun k => match k with
  | _ => ("", "", "", false)
def tyJx5ef63 : Nat → FieldType := fun k => match k with
  | _ => .int
theorem nmJx5ef63 : ∀ a, a < 0 → ∀ b, b < 0 → a ≠ b → (TJx5ef63 a).2.1 ≠ (TJx5ef63 b).2.1 := by decide +kernel
theorem tyJx5ef63_ok : ∀ k, k < 0 → parseFieldDescriptor (TJx5ef63 k).2.2.1 = some (tyJx5ef63 k) := by decide +kernel
def RJxbd725 : String := "java/util/List"
def TJxbd725 : u_T := fun k => match k with
  | _ => ("", "", "", false)
def tyJxbd725 : Nat → FieldType := fun k => match k with
  | _ => .int
theorem nmJxbd725 : ∀ a, a < 0 → ∀ b, b < 0 → a ≠ b → (TJxbd725 a).2.1 ≠ (TJxbd725 b).2.1 := by decide +kernel
theorem tyJxbd725_ok : ∀ k, k < 0 → parseFieldDescriptor (TJxbd725 k).2.2.1 = some (tyJxbd725 k) := by decide +kernel
def RJ15 : String := "java/util/Objects"
def TJ15 : u_T := fun k => match k with
  | _ => ("", "", "", false)
def tyJ15 : Nat → FieldType := fun k => match k with
  | _ => .int
theorem nmJ15 : ∀ a, a < 0 → ∀ b, b < 0 → a ≠ b → (TJ15 a).2.1 ≠ (TJ15 b).2.1 := by decide +kernel
theorem tyJ15_ok : ∀ k, k < 0 → parseFieldDescriptor (TJ15 k).2.2.1 = some (tyJ15 k) := by decide +kernel
abbrev cJ15_checkIndex_7cf53 : ByteArray := prog_25_method_17_code
def yJ15_checkIndex_7cf53 : MethodName := ⟨RJ15, "checkIndex", "(II)I"⟩
def RJxf0a74 : String := "java/util/RandomAccess"
def TJxf0a74 : u_T := fun k => match k with
  | _ => ("", "", "", false)
def tyJxf0a74 : Nat → FieldType := fun k => match k with
  | _ => .int
theorem nmJxf0a74 : ∀ a, a < 0 → ∀ b, b < 0 → a ≠ b → (TJxf0a74 a).2.1 ≠ (TJxf0a74 b).2.1 := by decide +kernel
theorem tyJxf0a74_ok : ∀ k, k < 0 → parseFieldDescriptor (TJxf0a74 k).2.2.1 = some (tyJxf0a74 k) := by decide +kernel
def RJxa66e6 : String := "java/util/SequencedCollection"
def TJxa66e6 : u_T := fun k => match k with
  | _ => ("", "", "", false)
def tyJxa66e6 : Nat → FieldType := fun k => match k with
  | _ => .int
theorem nmJxa66e6 : ∀ a, a < 0 → ∀ b, b < 0 → a ≠ b → (TJxa66e6 a).2.1 ≠ (TJxa66e6 b).2.1 := by decide +kernel
theorem tyJxa66e6_ok : ∀ k, k < 0 → parseFieldDescriptor (TJxa66e6 k).2.2.1 = some (tyJxa66e6 k) := by decide +kernel
def RJ8 : String := "jdk/internal/util/ArraysSupport"
def TJ8 : u_T := fun k => match k with
  | _ => ("", "", "", false)
def tyJ8 : Nat → FieldType := fun k => match k with
  | _ => .int
theorem nmJ8 : ∀ a, a < 0 → ∀ b, b < 0 → a ≠ b → (TJ8 a).2.1 ≠ (TJ8 b).2.1 := by decide +kernel
theorem tyJ8_ok : ∀ k, k < 0 → parseFieldDescriptor (TJ8 k).2.2.1 = some (tyJ8 k) := by decide +kernel
abbrev cJ8_newLength_cabcc : ByteArray := prog_28_method_27_code
def yJ8_newLength_cabcc : MethodName := ⟨RJ8, "newLength", "(III)I"⟩
abbrev cJ8_hugeLength_7cf53 : ByteArray := prog_28_method_28_code
def yJ8_hugeLength_7cf53 : MethodName := ⟨RJ8, "hugeLength", "(II)I"⟩
def RJ3 : String := "jdk/internal/util/Preconditions"
def TJ3 : u_T := fun k => match k with
  | _ => ("", "", "", false)
def tyJ3 : Nat → FieldType := fun k => match k with
  | _ => .int
theorem nmJ3 : ∀ a, a < 0 → ∀ b, b < 0 → a ≠ b → (TJ3 a).2.1 ≠ (TJ3 b).2.1 := by decide +kernel
theorem tyJ3_ok : ∀ k, k < 0 → parseFieldDescriptor (TJ3 k).2.2.1 = some (tyJ3 k) := by decide +kernel
abbrev cJ3_checkIndex_8e157 : ByteArray := prog_29_method_11_code
def yJ3_checkIndex_8e157 : MethodName := ⟨RJ3, "checkIndex", "(IILjava/util/function/BiFunction;)I"⟩
def RL : String := "HermitsSpoonLaw"
abbrev cL_law : ByteArray := code
def yL_law : MethodName := ⟨RL, "law", "([I)Z"⟩
abbrev vwCl : List vw_C := [(RJx4a65c, TJx4a65c, 3), (RX0, TX0, 3), (RX1, TX1, 4), (RX2, TX2, 4), (RX3, TX3, 4), (RX4, TX4, 4), (RX5, TX5, 8), (RX6, TX6, 14), (RX7, TX7, 4), (RX8, TX8, 6), (RX9, TX9, 4), (RX10, TX10, 8), (RX11, TX11, 50)]
