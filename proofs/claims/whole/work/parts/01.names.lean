def RX0 : String := "HomeNeedles$Lazy"
def TX0 : u_T := fun k => match k with
  | _ => ("", "", "", false)
def tyX0 : Nat → FieldType := fun k => match k with
  | _ => .int
theorem nmX0 : ∀ a, a < 0 → ∀ b, b < 0 → a ≠ b → (TX0 a).2.1 ≠ (TX0 b).2.1 := by decide +kernel
theorem tyX0_ok : ∀ k, k < 0 → parseFieldDescriptor (TX0 k).2.2.1 = some (tyX0 k) := by decide +kernel
abbrev cX0_init : ByteArray := prog_2_method_1_code
def yX0_init : MethodName := ⟨RX0, "<init>", "()V"⟩
abbrev cX0_kind : ByteArray := prog_2_method_2_code
def yX0_kind : MethodName := ⟨RX0, "kind", "()I"⟩
abbrev cX0_turn : ByteArray := prog_2_method_3_code
def yX0_turn : MethodName := ⟨RX0, "turn", "(II)I"⟩
def RX1 : String := "HomeNeedles$Needle"
def TX1 : u_T := fun k => match k with
  | _ => ("", "", "", false)
def tyX1 : Nat → FieldType := fun k => match k with
  | _ => .int
theorem nmX1 : ∀ a, a < 0 → ∀ b, b < 0 → a ≠ b → (TX1 a).2.1 ≠ (TX1 b).2.1 := by decide +kernel
theorem tyX1_ok : ∀ k, k < 0 → parseFieldDescriptor (TX1 k).2.2.1 = some (tyX1 k) := by decide +kernel
abbrev cX1_init : ByteArray := prog_3_method_1_code
def yX1_init : MethodName := ⟨RX1, "<init>", "()V"⟩
abbrev cX1_kind : ByteArray := prog_3_method_2_code
def yX1_kind : MethodName := ⟨RX1, "kind", "()I"⟩
abbrev cX1_turn : ByteArray := prog_3_method_3_code
def yX1_turn : MethodName := ⟨RX1, "turn", "(II)I"⟩
def RX2 : String := "HomeNeedles$Page"
def TX2 : u_T := fun k => match k with
  | 0 => ("HomeNeedles$Page", "letters", "[C", true)
  | _ => ("HomeNeedles$Page", "size", "I", false)
def tyX2 : Nat → FieldType := fun k => match k with
  | 0 => .array .char
  | _ => .int
theorem nmX2 : ∀ a, a < 2 → ∀ b, b < 2 → a ≠ b → (TX2 a).2.1 ≠ (TX2 b).2.1 := by decide +kernel
theorem tyX2_ok : ∀ k, k < 2 → parseFieldDescriptor (TX2 k).2.2.1 = some (tyX2 k) := by decide +kernel
abbrev cX2_init : ByteArray := prog_4_method_1_code
def yX2_init : MethodName := ⟨RX2, "<init>", "()V"⟩
abbrev cX2_write : ByteArray := prog_4_method_2_code
def yX2_write : MethodName := ⟨RX2, "write", "(C)V"⟩
abbrev cX2_headEnd : ByteArray := prog_4_method_3_code
def yX2_headEnd : MethodName := ⟨RX2, "headEnd", "()I"⟩
abbrev cX2_firstWrong : ByteArray := prog_4_method_4_code
def yX2_firstWrong : MethodName := ⟨RX2, "firstWrong", "()I"⟩
abbrev cX2_isWhole : ByteArray := prog_4_method_5_code
def yX2_isWhole : MethodName := ⟨RX2, "isWhole", "()Z"⟩
abbrev cX2_fitsHead : ByteArray := prog_4_method_6_code
def yX2_fitsHead : MethodName := ⟨RX2, "fitsHead", "(I)Z"⟩
abbrev cX2_fitsTail : ByteArray := prog_4_method_7_code
def yX2_fitsTail : MethodName := ⟨RX2, "fitsTail", "(II)Z"⟩
abbrev cX2_isDigit : ByteArray := prog_4_method_8_code
def yX2_isDigit : MethodName := ⟨RX2, "isDigit", "(C)Z"⟩
abbrev cX2_kindAt : ByteArray := prog_4_method_9_code
def yX2_kindAt : MethodName := ⟨RX2, "kindAt", "(I)I"⟩
abbrev cX2_placeAt : ByteArray := prog_4_method_10_code
def yX2_placeAt : MethodName := ⟨RX2, "placeAt", "(I)I"⟩
def RX3 : String := "HomeNeedles$Shy"
def TX3 : u_T := fun k => match k with
  | _ => ("", "", "", false)
def tyX3 : Nat → FieldType := fun k => match k with
  | _ => .int
theorem nmX3 : ∀ a, a < 0 → ∀ b, b < 0 → a ≠ b → (TX3 a).2.1 ≠ (TX3 b).2.1 := by decide +kernel
theorem tyX3_ok : ∀ k, k < 0 → parseFieldDescriptor (TX3 k).2.2.1 = some (tyX3 k) := by decide +kernel
abbrev cX3_init : ByteArray := prog_5_method_1_code
def yX3_init : MethodName := ⟨RX3, "<init>", "()V"⟩
abbrev cX3_kind : ByteArray := prog_5_method_2_code
def yX3_kind : MethodName := ⟨RX3, "kind", "()I"⟩
abbrev cX3_turn : ByteArray := prog_5_method_3_code
def yX3_turn : MethodName := ⟨RX3, "turn", "(II)I"⟩
def RX4 : String := "HomeNeedles$Slow"
def TX4 : u_T := fun k => match k with
  | _ => ("", "", "", false)
def tyX4 : Nat → FieldType := fun k => match k with
  | _ => .int
theorem nmX4 : ∀ a, a < 0 → ∀ b, b < 0 → a ≠ b → (TX4 a).2.1 ≠ (TX4 b).2.1 := by decide +kernel
theorem tyX4_ok : ∀ k, k < 0 → parseFieldDescriptor (TX4 k).2.2.1 = some (tyX4 k) := by decide +kernel
abbrev cX4_init : ByteArray := prog_6_method_1_code
def yX4_init : MethodName := ⟨RX4, "<init>", "()V"⟩
abbrev cX4_kind : ByteArray := prog_6_method_2_code
def yX4_kind : MethodName := ⟨RX4, "kind", "()I"⟩
abbrev cX4_turn : ByteArray := prog_6_method_3_code
def yX4_turn : MethodName := ⟨RX4, "turn", "(II)I"⟩
def RX5 : String := "HomeNeedles$Trail"
def TX5 : u_T := fun k => match k with
  | 0 => ("HomeNeedles$Trail", "steps", "I", false)
  | _ => ("HomeNeedles$Trail", "place", "I", false)
def tyX5 : Nat → FieldType := fun k => match k with
  | 0 => .int
  | _ => .int
theorem nmX5 : ∀ a, a < 2 → ∀ b, b < 2 → a ≠ b → (TX5 a).2.1 ≠ (TX5 b).2.1 := by decide +kernel
theorem tyX5_ok : ∀ k, k < 2 → parseFieldDescriptor (TX5 k).2.2.1 = some (tyX5 k) := by decide +kernel
abbrev cX5_init : ByteArray := prog_7_method_1_code
def yX5_init : MethodName := ⟨RX5, "<init>", "()V"⟩
def RX6 : String := "HomeNeedles$Turned"
def TX6 : u_T := fun k => match k with
  | _ => ("", "", "", false)
def tyX6 : Nat → FieldType := fun k => match k with
  | _ => .int
theorem nmX6 : ∀ a, a < 0 → ∀ b, b < 0 → a ≠ b → (TX6 a).2.1 ≠ (TX6 b).2.1 := by decide +kernel
theorem tyX6_ok : ∀ k, k < 0 → parseFieldDescriptor (TX6 k).2.2.1 = some (tyX6 k) := by decide +kernel
abbrev cX6_init : ByteArray := prog_8_method_1_code
def yX6_init : MethodName := ⟨RX6, "<init>", "()V"⟩
abbrev cX6_kind : ByteArray := prog_8_method_2_code
def yX6_kind : MethodName := ⟨RX6, "kind", "()I"⟩
abbrev cX6_turn : ByteArray := prog_8_method_3_code
def yX6_turn : MethodName := ⟨RX6, "turn", "(II)I"⟩
def RX7 : String := "HomeNeedles$Voyage"
def TX7 : u_T := fun k => match k with
  | 0 => ("HomeNeedles$Voyage", "homes", "[I", true)
  | 1 => ("HomeNeedles$Voyage", "seenNeedles", "[I", true)
  | 2 => ("HomeNeedles$Voyage", "seenPlaces", "[I", true)
  | 3 => ("HomeNeedles$Voyage", "seenDirections", "[I", true)
  | 4 => ("HomeNeedles$Voyage", "islands", "J", false)
  | 5 => ("HomeNeedles$Voyage", "bearer", "I", false)
  | 6 => ("HomeNeedles$Voyage", "steps", "I", false)
  | 7 => ("HomeNeedles$Voyage", "stepsOn", "I", false)
  | _ => ("HomeNeedles$Voyage", "seen", "I", false)
def tyX7 : Nat → FieldType := fun k => match k with
  | 0 => .array .int
  | 1 => .array .int
  | 2 => .array .int
  | 3 => .array .int
  | 4 => .long
  | 5 => .int
  | 6 => .int
  | 7 => .int
  | _ => .int
theorem nmX7 : ∀ a, a < 9 → ∀ b, b < 9 → a ≠ b → (TX7 a).2.1 ≠ (TX7 b).2.1 := by decide +kernel
theorem tyX7_ok : ∀ k, k < 9 → parseFieldDescriptor (TX7 k).2.2.1 = some (tyX7 k) := by decide +kernel
abbrev cX7_init : ByteArray := prog_9_method_1_code
def yX7_init : MethodName := ⟨RX7, "<init>", "()V"⟩
abbrev cX7_clear : ByteArray := prog_9_method_2_code
def yX7_clear : MethodName := ⟨RX7, "clear", "()V"⟩
abbrev cX7_copyFrom : ByteArray := prog_9_method_3_code
def yX7_copyFrom : MethodName := ⟨RX7, "copyFrom", "(LHomeNeedles$Voyage;)V"⟩
abbrev cX7_isIsland : ByteArray := prog_9_method_4_code
def yX7_isIsland : MethodName := ⟨RX7, "isIsland", "(I)Z"⟩
abbrev cX7_setIsland : ByteArray := prog_9_method_5_code
def yX7_setIsland : MethodName := ⟨RX7, "setIsland", "(IZ)V"⟩
abbrev cX7_placeBehind : ByteArray := prog_9_method_6_code
def yX7_placeBehind : MethodName := ⟨RX7, "placeBehind", "(II)I"⟩
abbrev cX7_move : ByteArray := prog_9_method_7_code
def yX7_move : MethodName := ⟨RX7, "move", "(I)I"⟩
abbrev cX7_addSeen : ByteArray := prog_9_method_8_code
def yX7_addSeen : MethodName := ⟨RX7, "addSeen", "(III)V"⟩
def RX8 : String := "HomeNeedles"
def TX8 : u_T := fun k => match k with
  | 0 => ("HomeNeedles", "page", "LHomeNeedles$Page;", true)
  | 1 => ("HomeNeedles", "needles", "[LHomeNeedles$Needle;", true)
  | 2 => ("HomeNeedles", "now", "LHomeNeedles$Voyage;", true)
  | 3 => ("HomeNeedles", "kept", "LHomeNeedles$Voyage;", true)
  | 4 => ("HomeNeedles", "trail", "LHomeNeedles$Trail;", true)
  | 5 => ("HomeNeedles", "stepsAway", "[I", true)
  | 6 => ("HomeNeedles", "waiting", "[I", true)
  | 7 => ("HomeNeedles", "leftByDirection", "[I", true)
  | 8 => ("HomeNeedles", "needleCount", "I", false)
  | 9 => ("HomeNeedles", "seasRead", "I", false)
  | _ => ("HomeNeedles", "imageKept", "Z", false)
def tyX8 : Nat → FieldType := fun k => match k with
  | 0 => .object "HomeNeedles$Page"
  | 1 => .array (.object "HomeNeedles$Needle")
  | 2 => .object "HomeNeedles$Voyage"
  | 3 => .object "HomeNeedles$Voyage"
  | 4 => .object "HomeNeedles$Trail"
  | 5 => .array .int
  | 6 => .array .int
  | 7 => .array .int
  | 8 => .int
  | 9 => .int
  | _ => .boolean
theorem nmX8 : ∀ a, a < 11 → ∀ b, b < 11 → a ≠ b → (TX8 a).2.1 ≠ (TX8 b).2.1 := by decide +kernel
theorem tyX8_ok : ∀ k, k < 11 → parseFieldDescriptor (TX8 k).2.2.1 = some (tyX8 k) := by decide +kernel
abbrev cX8_init : ByteArray := prog_1_method_1_code
def yX8_init : MethodName := ⟨RX8, "<init>", "()V"⟩
abbrev cX8_letter : ByteArray := prog_1_method_2_code
def yX8_letter : MethodName := ⟨RX8, "letter", "(I)I"⟩
abbrev cX8_blank : ByteArray := prog_1_method_3_code
def yX8_blank : MethodName := ⟨RX8, "blank", "()I"⟩
abbrev cX8_fault : ByteArray := prog_1_method_4_code
def yX8_fault : MethodName := ⟨RX8, "fault", "()I"⟩
abbrev cX8_sea : ByteArray := prog_1_method_5_code
def yX8_sea : MethodName := ⟨RX8, "sea", "()I"⟩
abbrev cX8_needle : ByteArray := prog_1_method_6_code
def yX8_needle : MethodName := ⟨RX8, "needle", "(II)I"⟩
abbrev cX8_as : ByteArray := prog_1_method_7_code
def yX8_as : MethodName := ⟨RX8, "as", "(II)I"⟩
abbrev cX8_points : ByteArray := prog_1_method_8_code
def yX8_points : MethodName := ⟨RX8, "points", "(II)I"⟩
abbrev cX8_swing : ByteArray := prog_1_method_9_code
def yX8_swing : MethodName := ⟨RX8, "swing", "(II)I"⟩
abbrev cX8_island : ByteArray := prog_1_method_10_code
def yX8_island : MethodName := ⟨RX8, "island", "(I)I"⟩
abbrev cX8_raise : ByteArray := prog_1_method_11_code
def yX8_raise : MethodName := ⟨RX8, "raise", "(IZ)I"⟩
abbrev cX8_step : ByteArray := prog_1_method_12_code
def yX8_step : MethodName := ⟨RX8, "step", "(I)I"⟩
abbrev cX8_follow : ByteArray := prog_1_method_13_code
def yX8_follow : MethodName := ⟨RX8, "follow", "(I)I"⟩
abbrev cX8_homing : ByteArray := prog_1_method_14_code
def yX8_homing : MethodName := ⟨RX8, "homing", "()I"⟩
abbrev cX8_see : ByteArray := prog_1_method_15_code
def yX8_see : MethodName := ⟨RX8, "see", "(III)I"⟩
abbrev cX8_forget : ByteArray := prog_1_method_16_code
def yX8_forget : MethodName := ⟨RX8, "forget", "()I"⟩
abbrev cX8_storms : ByteArray := prog_1_method_17_code
def yX8_storms : MethodName := ⟨RX8, "storms", "(III)I"⟩
abbrev cX8_image : ByteArray := prog_1_method_18_code
def yX8_image : MethodName := ⟨RX8, "image", "()I"⟩
abbrev cX8_restore : ByteArray := prog_1_method_19_code
def yX8_restore : MethodName := ⟨RX8, "restore", "()I"⟩
abbrev cX8_count : ByteArray := prog_1_method_20_code
def yX8_count : MethodName := ⟨RX8, "count", "(I)I"⟩
abbrev cX8_digest : ByteArray := prog_1_method_21_code
def yX8_digest : MethodName := ⟨RX8, "digest", "()J"⟩
abbrev cX8_with : ByteArray := prog_1_method_22_code
def yX8_with : MethodName := ⟨RX8, "with", "(JJ)J"⟩
abbrev cX8_withNeedle : ByteArray := prog_1_method_23_code
def yX8_withNeedle : MethodName := ⟨RX8, "withNeedle", "(JI)J"⟩
abbrev cX8_withSea : ByteArray := prog_1_method_24_code
def yX8_withSea : MethodName := ⟨RX8, "withSea", "(J)J"⟩
abbrev cX8_hasSea : ByteArray := prog_1_method_25_code
def yX8_hasSea : MethodName := ⟨RX8, "hasSea", "()Z"⟩
abbrev cX8_isNeedle : ByteArray := prog_1_method_26_code
def yX8_isNeedle : MethodName := ⟨RX8, "isNeedle", "(I)Z"⟩
abbrev cX8_isPlace : ByteArray := prog_1_method_27_code
def yX8_isPlace : MethodName := ⟨RX8, "isPlace", "(I)Z"⟩
abbrev cX8_isDirection : ByteArray := prog_1_method_28_code
def yX8_isDirection : MethodName := ⟨RX8, "isDirection", "(I)Z"⟩
abbrev cX8_pointing : ByteArray := prog_1_method_29_code
def yX8_pointing : MethodName := ⟨RX8, "pointing", "(II)I"⟩
abbrev cX8_pointingHome : ByteArray := prog_1_method_30_code
def yX8_pointingHome : MethodName := ⟨RX8, "pointingHome", "(LHomeNeedles$Needle;II)I"⟩
abbrev cX8_nearer : ByteArray := prog_1_method_31_code
def yX8_nearer : MethodName := ⟨RX8, "nearer", "(II)I"⟩
abbrev cX8_needlesDownAt : ByteArray := prog_1_method_32_code
def yX8_needlesDownAt : MethodName := ⟨RX8, "needlesDownAt", "(I)I"⟩
abbrev cX8_trailOf : ByteArray := prog_1_method_33_code
def yX8_trailOf : MethodName := ⟨RX8, "trailOf", "(I)LHomeNeedles$Trail;"⟩
abbrev cX8_homingBits : ByteArray := prog_1_method_34_code
def yX8_homingBits : MethodName := ⟨RX8, "homingBits", "()I"⟩
abbrev cX8_fewestSteps : ByteArray := prog_1_method_35_code
def yX8_fewestSteps : MethodName := ⟨RX8, "fewestSteps", "(I)I"⟩
abbrev cX8_possibleHomes : ByteArray := prog_1_method_36_code
def yX8_possibleHomes : MethodName := ⟨RX8, "possibleHomes", "(I)J"⟩
abbrev cX8_canBeHome : ByteArray := prog_1_method_37_code
def yX8_canBeHome : MethodName := ⟨RX8, "canBeHome", "(II)Z"⟩
abbrev cX8_leastPlace : ByteArray := prog_1_method_38_code
def yX8_leastPlace : MethodName := ⟨RX8, "leastPlace", "(J)I"⟩
abbrev cX8_bestLook : ByteArray := prog_1_method_39_code
def yX8_bestLook : MethodName := ⟨RX8, "bestLook", "(IJ)I"⟩
abbrev cX8_leftAtWorst : ByteArray := prog_1_method_40_code
def yX8_leftAtWorst : MethodName := ⟨RX8, "leftAtWorst", "(LHomeNeedles$Needle;JI)I"⟩
abbrev cX8_seedBehind : ByteArray := prog_1_method_41_code
def yX8_seedBehind : MethodName := ⟨RX8, "seedBehind", "(I)I"⟩
abbrev cX8_newNeedle : ByteArray := prog_1_method_42_code
def yX8_newNeedle : MethodName := ⟨RX8, "newNeedle", "(I)LHomeNeedles$Needle;"⟩
abbrev cX8_isOfKind : ByteArray := prog_1_method_43_code
def yX8_isOfKind : MethodName := ⟨RX8, "isOfKind", "(LHomeNeedles$Needle;I)Z"⟩
def RX9 : String := "HomeNeedlesModel"
def TX9 : u_T := fun k => match k with
  | 0 => ("HomeNeedlesModel", "page", "[I", true)
  | 1 => ("HomeNeedlesModel", "pageMany", "I", false)
  | 2 => ("HomeNeedlesModel", "endAt", "I", false)
  | 3 => ("HomeNeedlesModel", "needles", "I", false)
  | 4 => ("HomeNeedlesModel", "place", "I", false)
  | 5 => ("HomeNeedlesModel", "stepsNow", "I", false)
  | 6 => ("HomeNeedlesModel", "ledOn", "I", false)
  | 7 => ("HomeNeedlesModel", "seasRead", "I", false)
  | 8 => ("HomeNeedlesModel", "rows", "[I", true)
  | 9 => ("HomeNeedlesModel", "islands", "[I", true)
  | 10 => ("HomeNeedlesModel", "followEnd", "I", false)
  | 11 => ("HomeNeedlesModel", "followSteps", "I", false)
  | 12 => ("HomeNeedlesModel", "far", "[I", true)
  | 13 => ("HomeNeedlesModel", "seenMany", "I", false)
  | 14 => ("HomeNeedlesModel", "sights", "[I", true)
  | 15 => ("HomeNeedlesModel", "parts", "[I", true)
  | 16 => ("HomeNeedlesModel", "seedNow", "I", false)
  | 17 => ("HomeNeedlesModel", "keptSea", "I", false)
  | 18 => ("HomeNeedlesModel", "keptPlace", "I", false)
  | 19 => ("HomeNeedlesModel", "keptSteps", "I", false)
  | 20 => ("HomeNeedlesModel", "keptLed", "I", false)
  | 21 => ("HomeNeedlesModel", "keptSeen", "I", false)
  | 22 => ("HomeNeedlesModel", "keptRows", "[I", true)
  | 23 => ("HomeNeedlesModel", "keptIslands", "[I", true)
  | 24 => ("HomeNeedlesModel", "keptSights", "[I", true)
  | _ => ("HomeNeedlesModel", "hash", "J", false)
def tyX9 : Nat → FieldType := fun k => match k with
  | 0 => .array .int
  | 1 => .int
  | 2 => .int
  | 3 => .int
  | 4 => .int
  | 5 => .int
  | 6 => .int
  | 7 => .int
  | 8 => .array .int
  | 9 => .array .int
  | 10 => .int
  | 11 => .int
  | 12 => .array .int
  | 13 => .int
  | 14 => .array .int
  | 15 => .array .int
  | 16 => .int
  | 17 => .int
  | 18 => .int
  | 19 => .int
  | 20 => .int
  | 21 => .int
  | 22 => .array .int
  | 23 => .array .int
  | 24 => .array .int
  | _ => .long
theorem nmX9 : ∀ a, a < 26 → ∀ b, b < 26 → a ≠ b → (TX9 a).2.1 ≠ (TX9 b).2.1 := by decide +kernel
theorem tyX9_ok : ∀ k, k < 26 → parseFieldDescriptor (TX9 k).2.2.1 = some (tyX9 k) := by decide +kernel
abbrev cX9_init : ByteArray := prog_11_method_1_code
def yX9_init : MethodName := ⟨RX9, "<init>", "()V"⟩
abbrev cX9_in : ByteArray := prog_11_method_2_code
def yX9_in : MethodName := ⟨RX9, "in", "(JJJ)Z"⟩
abbrev cX9_copy : ByteArray := prog_11_method_3_code
def yX9_copy : MethodName := ⟨RX9, "copy", "([I[I)V"⟩
abbrev cX9_letter : ByteArray := prog_11_method_4_code
def yX9_letter : MethodName := ⟨RX9, "letter", "(I)I"⟩
abbrev cX9_blank : ByteArray := prog_11_method_5_code
def yX9_blank : MethodName := ⟨RX9, "blank", "()I"⟩
abbrev cX9_kindBy : ByteArray := prog_11_method_6_code
def yX9_kindBy : MethodName := ⟨RX9, "kindBy", "(I)I"⟩
abbrev cX9_isDigit : ByteArray := prog_11_method_7_code
def yX9_isDigit : MethodName := ⟨RX9, "isDigit", "(I)Z"⟩
abbrev cX9_isGood : ByteArray := prog_11_method_8_code
def yX9_isGood : MethodName := ⟨RX9, "isGood", "(I)Z"⟩
abbrev cX9_faultOf : ByteArray := prog_11_method_9_code
def yX9_faultOf : MethodName := ⟨RX9, "faultOf", "()I"⟩
abbrev cX9_fault : ByteArray := prog_11_method_10_code
def yX9_fault : MethodName := ⟨RX9, "fault", "()I"⟩
abbrev cX9_placeAt : ByteArray := prog_11_method_11_code
def yX9_placeAt : MethodName := ⟨RX9, "placeAt", "(I)I"⟩
abbrev cX9_sea : ByteArray := prog_11_method_12_code
def yX9_sea : MethodName := ⟨RX9, "sea", "()I"⟩
abbrev cX9_lacks : ByteArray := prog_11_method_13_code
def yX9_lacks : MethodName := ⟨RX9, "lacks", "()Z"⟩
abbrev cX9_isNeedle : ByteArray := prog_11_method_14_code
def yX9_isNeedle : MethodName := ⟨RX9, "isNeedle", "(I)Z"⟩
abbrev cX9_isPlace : ByteArray := prog_11_method_15_code
def yX9_isPlace : MethodName := ⟨RX9, "isPlace", "(I)Z"⟩
abbrev cX9_signOf : ByteArray := prog_11_method_16_code
def yX9_signOf : MethodName := ⟨RX9, "signOf", "(I)I"⟩
abbrev cX9_directionBy : ByteArray := prog_11_method_17_code
def yX9_directionBy : MethodName := ⟨RX9, "directionBy", "(II)I"⟩
abbrev cX9_pointsBy : ByteArray := prog_11_method_18_code
def yX9_pointsBy : MethodName := ⟨RX9, "pointsBy", "(III)I"⟩
abbrev cX9_pointsOf : ByteArray := prog_11_method_19_code
def yX9_pointsOf : MethodName := ⟨RX9, "pointsOf", "(II)I"⟩
abbrev cX9_stepped : ByteArray := prog_11_method_20_code
def yX9_stepped : MethodName := ⟨RX9, "stepped", "(II)I"⟩
abbrev cX9_layFollow : ByteArray := prog_11_method_21_code
def yX9_layFollow : MethodName := ⟨RX9, "layFollow", "(I)V"⟩
abbrev cX9_followOf : ByteArray := prog_11_method_22_code
def yX9_followOf : MethodName := ⟨RX9, "followOf", "(II)I"⟩
abbrev cX9_fewOf : ByteArray := prog_11_method_23_code
def yX9_fewOf : MethodName := ⟨RX9, "fewOf", "(I)I"⟩
abbrev cX9_tell : ByteArray := prog_11_method_24_code
def yX9_tell : MethodName := ⟨RX9, "tell", "(II)I"⟩
abbrev cX9_needle : ByteArray := prog_11_method_25_code
def yX9_needle : MethodName := ⟨RX9, "needle", "(II)I"⟩
abbrev cX9_as : ByteArray := prog_11_method_26_code
def yX9_as : MethodName := ⟨RX9, "as", "(II)I"⟩
abbrev cX9_points : ByteArray := prog_11_method_27_code
def yX9_points : MethodName := ⟨RX9, "points", "(II)I"⟩
abbrev cX9_swing : ByteArray := prog_11_method_28_code
def yX9_swing : MethodName := ⟨RX9, "swing", "(II)I"⟩
abbrev cX9_island : ByteArray := prog_11_method_29_code
def yX9_island : MethodName := ⟨RX9, "island", "(I)I"⟩
abbrev cX9_raise : ByteArray := prog_11_method_30_code
def yX9_raise : MethodName := ⟨RX9, "raise", "(IZ)I"⟩
abbrev cX9_go : ByteArray := prog_11_method_31_code
def yX9_go : MethodName := ⟨RX9, "go", "(I)I"⟩
abbrev cX9_step : ByteArray := prog_11_method_32_code
def yX9_step : MethodName := ⟨RX9, "step", "(I)I"⟩
abbrev cX9_follow : ByteArray := prog_11_method_33_code
def yX9_follow : MethodName := ⟨RX9, "follow", "(I)I"⟩
abbrev cX9_homingOf : ByteArray := prog_11_method_34_code
def yX9_homingOf : MethodName := ⟨RX9, "homingOf", "()I"⟩
abbrev cX9_homing : ByteArray := prog_11_method_35_code
def yX9_homing : MethodName := ⟨RX9, "homing", "()I"⟩
abbrev cX9_see : ByteArray := prog_11_method_36_code
def yX9_see : MethodName := ⟨RX9, "see", "(III)I"⟩
abbrev cX9_forget : ByteArray := prog_11_method_37_code
def yX9_forget : MethodName := ⟨RX9, "forget", "()I"⟩
abbrev cX9_isHome : ByteArray := prog_11_method_38_code
def yX9_isHome : MethodName := ⟨RX9, "isHome", "(II)Z"⟩
abbrev cX9_homesOf : ByteArray := prog_11_method_39_code
def yX9_homesOf : MethodName := ⟨RX9, "homesOf", "(II)I"⟩
abbrev cX9_lookOf : ByteArray := prog_11_method_40_code
def yX9_lookOf : MethodName := ⟨RX9, "lookOf", "(I)I"⟩
abbrev cX9_draw : ByteArray := prog_11_method_41_code
def yX9_draw : MethodName := ⟨RX9, "draw", "(I)I"⟩
abbrev cX9_downsAt : ByteArray := prog_11_method_42_code
def yX9_downsAt : MethodName := ⟨RX9, "downsAt", "(I)I"⟩
abbrev cX9_storms : ByteArray := prog_11_method_43_code
def yX9_storms : MethodName := ⟨RX9, "storms", "(III)I"⟩
abbrev cX9_image : ByteArray := prog_11_method_44_code
def yX9_image : MethodName := ⟨RX9, "image", "()I"⟩
abbrev cX9_restore : ByteArray := prog_11_method_45_code
def yX9_restore : MethodName := ⟨RX9, "restore", "()I"⟩
abbrev cX9_islandsAll : ByteArray := prog_11_method_46_code
def yX9_islandsAll : MethodName := ⟨RX9, "islandsAll", "()I"⟩
abbrev cX9_countOf : ByteArray := prog_11_method_47_code
def yX9_countOf : MethodName := ⟨RX9, "countOf", "(I)I"⟩
abbrev cX9_count : ByteArray := prog_11_method_48_code
def yX9_count : MethodName := ⟨RX9, "count", "(I)I"⟩
abbrev cX9_say : ByteArray := prog_11_method_49_code
def yX9_say : MethodName := ⟨RX9, "say", "(J)V"⟩
abbrev cX9_digest : ByteArray := prog_11_method_50_code
def yX9_digest : MethodName := ⟨RX9, "digest", "()J"⟩
def RJx145de : String := "java/io/Serializable"
def TJx145de : u_T := fun k => match k with
  | _ => ("", "", "", false)
def tyJx145de : Nat → FieldType := fun k => match k with
  | _ => .int
theorem nmJx145de : ∀ a, a < 0 → ∀ b, b < 0 → a ≠ b → (TJx145de a).2.1 ≠ (TJx145de b).2.1 := by decide +kernel
theorem tyJx145de_ok : ∀ k, k < 0 → parseFieldDescriptor (TJx145de k).2.2.1 = some (tyJx145de k) := by decide +kernel
def RJx9f9b0 : String := "java/lang/CharSequence"
def TJx9f9b0 : u_T := fun k => match k with
  | _ => ("", "", "", false)
def tyJx9f9b0 : Nat → FieldType := fun k => match k with
  | _ => .int
theorem nmJx9f9b0 : ∀ a, a < 0 → ∀ b, b < 0 → a ≠ b → (TJx9f9b0 a).2.1 ≠ (TJx9f9b0 b).2.1 := by decide +kernel
theorem tyJx9f9b0_ok : ∀ k, k < 0 → parseFieldDescriptor (TJx9f9b0 k).2.2.1 = some (tyJx9f9b0 k) := by decide +kernel
def RJ11 : String := "java/lang/Character"
def TJ11 : u_T := fun k => match k with
  | _ => ("", "", "", false)
def tyJ11 : Nat → FieldType := fun k => match k with
  | _ => .int
theorem nmJ11 : ∀ a, a < 0 → ∀ b, b < 0 → a ≠ b → (TJ11 a).2.1 ≠ (TJ11 b).2.1 := by decide +kernel
theorem tyJ11_ok : ∀ k, k < 0 → parseFieldDescriptor (TJ11 k).2.2.1 = some (tyJ11 k) := by decide +kernel
abbrev cJ11_isValidCodePoint_9a6ad : ByteArray := prog_12_method_11_code
def yJ11_isValidCodePoint_9a6ad : MethodName := ⟨RJ11, "isValidCodePoint", "(I)Z"⟩
abbrev cJ11_highSurrogate_5068e : ByteArray := prog_12_method_28_code
def yJ11_highSurrogate_5068e : MethodName := ⟨RJ11, "highSurrogate", "(I)C"⟩
abbrev cJ11_lowSurrogate_5068e : ByteArray := prog_12_method_29_code
def yJ11_lowSurrogate_5068e : MethodName := ⟨RJ11, "lowSurrogate", "(I)C"⟩
def RJxb160c : String := "java/lang/Comparable"
def TJxb160c : u_T := fun k => match k with
  | _ => ("", "", "", false)
def tyJxb160c : Nat → FieldType := fun k => match k with
  | _ => .int
theorem nmJxb160c : ∀ a, a < 0 → ∀ b, b < 0 → a ≠ b → (TJxb160c a).2.1 ≠ (TJxb160c b).2.1 := by decide +kernel
theorem tyJxb160c_ok : ∀ k, k < 0 → parseFieldDescriptor (TJxb160c k).2.2.1 = some (tyJxb160c k) := by decide +kernel
def RJ13 : String := "java/lang/Long"
def TJ13 : u_T := fun k => match k with
  | _ => ("", "", "", false)
def tyJ13 : Nat → FieldType := fun k => match k with
  | _ => .int
theorem nmJ13 : ∀ a, a < 0 → ∀ b, b < 0 → a ≠ b → (TJ13 a).2.1 ≠ (TJ13 b).2.1 := by decide +kernel
theorem tyJ13_ok : ∀ k, k < 0 → parseFieldDescriptor (TJ13 k).2.2.1 = some (tyJ13 k) := by decide +kernel
abbrev cJ13_bitCount_95d88 : ByteArray := prog_13_method_50_code
def yJ13_bitCount_95d88 : MethodName := ⟨RJ13, "bitCount", "(J)I"⟩
def RJ9 : String := "java/lang/Math"
def TJ9 : u_T := fun k => match k with
  | _ => ("", "", "", false)
def tyJ9 : Nat → FieldType := fun k => match k with
  | _ => .int
theorem nmJ9 : ∀ a, a < 0 → ∀ b, b < 0 → a ≠ b → (TJ9 a).2.1 ≠ (TJ9 b).2.1 := by decide +kernel
theorem tyJ9_ok : ∀ k, k < 0 → parseFieldDescriptor (TJ9 k).2.2.1 = some (tyJ9 k) := by decide +kernel
abbrev cJ9_max_7cf53 : ByteArray := prog_14_method_65_code
def yJ9_max_7cf53 : MethodName := ⟨RJ9, "max", "(II)I"⟩
abbrev cJ9_min_7cf53 : ByteArray := prog_14_method_69_code
def yJ9_min_7cf53 : MethodName := ⟨RJ9, "min", "(II)I"⟩
def RJ0 : String := "java/lang/String"
def TJ0 : u_T := fun k => match k with
  | _ => ("", "", "", false)
def tyJ0 : Nat → FieldType := fun k => match k with
  | _ => .int
theorem nmJ0 : ∀ a, a < 0 → ∀ b, b < 0 → a ≠ b → (TJ0 a).2.1 ≠ (TJ0 b).2.1 := by decide +kernel
theorem tyJ0_ok : ∀ k, k < 0 → parseFieldDescriptor (TJ0 k).2.2.1 = some (tyJ0 k) := by decide +kernel
abbrev cJ0_length_8abf5 : ByteArray := prog_15_method_54_code
def yJ0_length_8abf5 : MethodName := ⟨RJ0, "length", "()I"⟩
abbrev cJ0_indexOf_0f7a4 : ByteArray := prog_15_method_79_code
def yJ0_indexOf_0f7a4 : MethodName := ⟨RJ0, "indexOf", "(I)I"⟩
abbrev cJ0_indexOf_7cf53 : ByteArray := prog_15_method_80_code
def yJ0_indexOf_7cf53 : MethodName := ⟨RJ0, "indexOf", "(II)I"⟩
abbrev cJ0_coder_7d493 : ByteArray := prog_15_method_152_code
def yJ0_coder_7d493 : MethodName := ⟨RJ0, "coder", "()B"⟩
abbrev cJ0_isLatin1_aae02 : ByteArray := prog_15_method_154_code
def yJ0_isLatin1_aae02 : MethodName := ⟨RJ0, "isLatin1", "()Z"⟩
abbrev cJ0_checkBoundsBeginEnd_23922 : ByteArray := prog_15_method_158_code
def yJ0_checkBoundsBeginEnd_23922 : MethodName := ⟨RJ0, "checkBoundsBeginEnd", "(III)V"⟩
def RJ1 : String := "java/lang/StringLatin1"
def TJ1 : u_T := fun k => match k with
  | _ => ("", "", "", false)
def tyJ1 : Nat → FieldType := fun k => match k with
  | _ => .int
theorem nmJ1 : ∀ a, a < 0 → ∀ b, b < 0 → a ≠ b → (TJ1 a).2.1 ≠ (TJ1 b).2.1 := by decide +kernel
theorem tyJ1_ok : ∀ k, k < 0 → parseFieldDescriptor (TJ1 k).2.2.1 = some (tyJ1 k) := by decide +kernel
abbrev cJ1_canEncode_9a6ad : ByteArray := prog_16_method_4_code
def yJ1_canEncode_9a6ad : MethodName := ⟨RJ1, "canEncode", "(I)Z"⟩
abbrev cJ1_indexOf_4cfef : ByteArray := prog_16_method_22_code
def yJ1_indexOf_4cfef : MethodName := ⟨RJ1, "indexOf", "([BIII)I"⟩
abbrev cJ1_indexOfChar_4cfef : ByteArray := prog_16_method_23_code
def yJ1_indexOfChar_4cfef : MethodName := ⟨RJ1, "indexOfChar", "([BIII)I"⟩
def RJ2 : String := "java/lang/StringUTF16"
def TJ2 : u_T := fun k => match k with
  | _ => ("", "", "", false)
def tyJ2 : Nat → FieldType := fun k => match k with
  | _ => .int
theorem nmJ2 : ∀ a, a < 0 → ∀ b, b < 0 → a ≠ b → (TJ2 a).2.1 ≠ (TJ2 b).2.1 := by decide +kernel
theorem tyJ2_ok : ∀ k, k < 0 → parseFieldDescriptor (TJ2 k).2.2.1 = some (tyJ2 k) := by decide +kernel
abbrev cJ2_getChar_3b067 : ByteArray := prog_17_method_5_code
def yJ2_getChar_3b067 : MethodName := ⟨RJ2, "getChar", "([BI)C"⟩
abbrev cJ2_length_9d52b : ByteArray := prog_17_method_6_code
def yJ2_length_9d52b : MethodName := ⟨RJ2, "length", "([B)I"⟩
abbrev cJ2_indexOf_4cfef : ByteArray := prog_17_method_40_code
def yJ2_indexOf_4cfef : MethodName := ⟨RJ2, "indexOf", "([BIII)I"⟩
abbrev cJ2_indexOfChar_4cfef : ByteArray := prog_17_method_47_code
def yJ2_indexOfChar_4cfef : MethodName := ⟨RJ2, "indexOfChar", "([BIII)I"⟩
abbrev cJ2_indexOfCharUnsafe_4cfef : ByteArray := prog_17_method_48_code
def yJ2_indexOfCharUnsafe_4cfef : MethodName := ⟨RJ2, "indexOfCharUnsafe", "([BIII)I"⟩
abbrev cJ2_indexOfSupplementary_4cfef : ByteArray := prog_17_method_49_code
def yJ2_indexOfSupplementary_4cfef : MethodName := ⟨RJ2, "indexOfSupplementary", "([BIII)I"⟩
abbrev cJ2_checkBoundsBeginEnd_d044e : ByteArray := prog_17_method_93_code
def yJ2_checkBoundsBeginEnd_d044e : MethodName := ⟨RJ2, "checkBoundsBeginEnd", "(II[B)V"⟩
def RJ10 : String := "java/lang/System"
def TJ10 : u_T := fun k => match k with
  | _ => ("", "", "", false)
def tyJ10 : Nat → FieldType := fun k => match k with
  | _ => .int
theorem nmJ10 : ∀ a, a < 0 → ∀ b, b < 0 → a ≠ b → (TJ10 a).2.1 ≠ (TJ10 b).2.1 := by decide +kernel
theorem tyJ10_ok : ∀ k, k < 0 → parseFieldDescriptor (TJ10 k).2.2.1 = some (tyJ10 k) := by decide +kernel
def RJxfd54e : String := "java/lang/constant/Constable"
def TJxfd54e : u_T := fun k => match k with
  | _ => ("", "", "", false)
def tyJxfd54e : Nat → FieldType := fun k => match k with
  | _ => .int
theorem nmJxfd54e : ∀ a, a < 0 → ∀ b, b < 0 → a ≠ b → (TJxfd54e a).2.1 ≠ (TJxfd54e b).2.1 := by decide +kernel
theorem tyJxfd54e_ok : ∀ k, k < 0 → parseFieldDescriptor (TJxfd54e k).2.2.1 = some (tyJxfd54e k) := by decide +kernel
def RJx3cf43 : String := "java/lang/constant/ConstantDesc"
def TJx3cf43 : u_T := fun k => match k with
  | _ => ("", "", "", false)
def tyJx3cf43 : Nat → FieldType := fun k => match k with
  | _ => .int
theorem nmJx3cf43 : ∀ a, a < 0 → ∀ b, b < 0 → a ≠ b → (TJx3cf43 a).2.1 ≠ (TJx3cf43 b).2.1 := by decide +kernel
theorem tyJx3cf43_ok : ∀ k, k < 0 → parseFieldDescriptor (TJx3cf43 k).2.2.1 = some (tyJx3cf43 k) := by decide +kernel
def RJ7 : String := "java/util/Arrays"
def TJ7 : u_T := fun k => match k with
  | _ => ("", "", "", false)
def tyJ7 : Nat → FieldType := fun k => match k with
  | _ => .int
theorem nmJ7 : ∀ a, a < 0 → ∀ b, b < 0 → a ≠ b → (TJ7 a).2.1 ≠ (TJ7 b).2.1 := by decide +kernel
theorem tyJ7_ok : ∀ k, k < 0 → parseFieldDescriptor (TJ7 k).2.2.1 = some (tyJ7 k) := by decide +kernel
abbrev cJ7_fill_53178 : ByteArray := prog_19_method_103_code
def yJ7_fill_53178 : MethodName := ⟨RJ7, "fill", "([II)V"⟩
def RJ3 : String := "jdk/internal/util/Preconditions"
def TJ3 : u_T := fun k => match k with
  | _ => ("", "", "", false)
def tyJ3 : Nat → FieldType := fun k => match k with
  | _ => .int
theorem nmJ3 : ∀ a, a < 0 → ∀ b, b < 0 → a ≠ b → (TJ3 a).2.1 ≠ (TJ3 b).2.1 := by decide +kernel
theorem tyJ3_ok : ∀ k, k < 0 → parseFieldDescriptor (TJ3 k).2.2.1 = some (tyJ3 k) := by decide +kernel
abbrev cJ3_checkFromToIndex_8c36e : ByteArray := prog_20_method_12_code
def yJ3_checkFromToIndex_8c36e : MethodName := ⟨RJ3, "checkFromToIndex", "(IIILjava/util/function/BiFunction;)I"⟩
def RL : String := "HomeNeedlesLaw"
abbrev cL_law : ByteArray := code
def yL_law : MethodName := ⟨RL, "law", "([I)Z"⟩
abbrev vwCl : List vw_C := [(RX0, TX0, 0), (RX1, TX1, 0), (RX2, TX2, 2), (RX3, TX3, 0), (RX4, TX4, 0), (RX5, TX5, 2), (RX6, TX6, 0), (RX7, TX7, 9), (RX8, TX8, 11), (RX9, TX9, 26)]
