def RX0 : String := "SneezeKing$Council"
def RX1 : String := "SneezeKing$Page"
def RX2 : String := "SneezeKing$Prospect"
def RX3 : String := "SneezeKing$Statutes"
def RX4 : String := "SneezeKing$Years"
def RX5 : String := "SneezeKing"
def RX6 : String := "SneezeKingModel"
def RL : String := "SneezeKingLaw"
def RJ0 : String := "java/lang/String"
def RJ1 : String := "java/lang/StringLatin1"
def RJ7 : String := "java/util/Arrays"
def RJ6 : String := "java/lang/Integer"
def TX0 : u_T := fun k => match k with
  | 0 => ("SneezeKing$Council", "kinds", "[I", true)
  | 1 => ("SneezeKing$Council", "noses", "[I", true)
  | 2 => ("SneezeKing$Council", "sayings", "[I", true)
  | 3 => ("SneezeKing$Council", "reigns", "[I", true)
  | 4 => ("SneezeKing$Council", "kings", "[I", true)
  | 5 => ("SneezeKing$Council", "told", "[I", true)
  | 6 => ("SneezeKing$Council", "seats", "I", false)
  | 7 => ("SneezeKing$Council", "draughtAt", "I", false)
  | 8 => ("SneezeKing$Council", "peppered", "Z", false)
  | 9 => ("SneezeKing$Council", "held", "I", false)
  | 10 => ("SneezeKing$Council", "hourNumber", "I", false)
  | _ => ("SneezeKing$Council", "toldHours", "I", false)
def tyX0 : Nat → FieldType := fun k => match k with
  | 0 => .array .int
  | 1 => .array .int
  | 2 => .array .int
  | 3 => .array .int
  | 4 => .array .int
  | 5 => .array .int
  | 6 => .int
  | 7 => .int
  | 8 => .boolean
  | 9 => .int
  | 10 => .int
  | _ => .int
theorem nmX0 : ∀ a, a < 12 → ∀ b, b < 12 → a ≠ b → (TX0 a).2.1 ≠ (TX0 b).2.1 := by decide +kernel
theorem tyX0_ok : ∀ k, k < 12 → parseFieldDescriptor (TX0 k).2.2.1 = some (tyX0 k) := by decide +kernel
def TX1 : u_T := fun k => match k with
  | 0 => ("SneezeKing$Page", "codes", "[I", true)
  | _ => ("SneezeKing$Page", "size", "I", false)
def tyX1 : Nat → FieldType := fun k => match k with
  | 0 => .array .int
  | _ => .int
theorem nmX1 : ∀ a, a < 2 → ∀ b, b < 2 → a ≠ b → (TX1 a).2.1 ≠ (TX1 b).2.1 := by decide +kernel
theorem tyX1_ok : ∀ k, k < 2 → parseFieldDescriptor (TX1 k).2.2.1 = some (tyX1 k) := by decide +kernel
def TX2 : u_T := fun k => match k with
  | 0 => ("SneezeKing$Prospect", "council", "LSneezeKing$Council;", true)
  | 1 => ("SneezeKing$Prospect", "sneezing", "[J", true)
  | 2 => ("SneezeKing$Prospect", "silent", "[J", true)
  | 3 => ("SneezeKing$Prospect", "bySet", "[J", true)
  | 4 => ("SneezeKing$Prospect", "kingsFree", "[J", true)
  | 5 => ("SneezeKing$Prospect", "kingsBanned", "[J", true)
  | 6 => ("SneezeKing$Prospect", "worth", "[J", false)
  | _ => ("SneezeKing$Prospect", "spare", "[J", false)
def tyX2 : Nat → FieldType := fun k => match k with
  | 0 => .object "SneezeKing$Council"
  | 1 => .array .long
  | 2 => .array .long
  | 3 => .array .long
  | 4 => .array .long
  | 5 => .array .long
  | 6 => .array .long
  | _ => .array .long
theorem nmX2 : ∀ a, a < 8 → ∀ b, b < 8 → a ≠ b → (TX2 a).2.1 ≠ (TX2 b).2.1 := by decide +kernel
theorem tyX2_ok : ∀ k, k < 8 → parseFieldDescriptor (TX2 k).2.2.1 = some (tyX2 k) := by decide +kernel
def TX4 : u_T := fun k => match k with
  | 0 => ("SneezeKing$Years", "council", "LSneezeKing$Council;", true)
  | 1 => ("SneezeKing$Years", "reigns", "[I", true)
  | 2 => ("SneezeKing$Years", "held", "I", false)
  | _ => ("SneezeKing$Years", "seed", "J", false)
def tyX4 : Nat → FieldType := fun k => match k with
  | 0 => .object "SneezeKing$Council"
  | 1 => .array .int
  | 2 => .int
  | _ => .long
theorem nmX4 : ∀ a, a < 4 → ∀ b, b < 4 → a ≠ b → (TX4 a).2.1 ≠ (TX4 b).2.1 := by decide +kernel
theorem tyX4_ok : ∀ k, k < 4 → parseFieldDescriptor (TX4 k).2.2.1 = some (tyX4 k) := by decide +kernel
def TX5 : u_T := fun k => match k with
  | 0 => ("SneezeKing", "page", "LSneezeKing$Page;", true)
  | 1 => ("SneezeKing", "now", "LSneezeKing$Council;", true)
  | 2 => ("SneezeKing", "kept", "LSneezeKing$Council;", true)
  | 3 => ("SneezeKing", "prospect", "LSneezeKing$Prospect;", true)
  | 4 => ("SneezeKing", "lived", "LSneezeKing$Years;", true)
  | 5 => ("SneezeKing", "hasImage", "Z", false)
  | _ => ("SneezeKing", "councilsRead", "I", false)
def tyX5 : Nat → FieldType := fun k => match k with
  | 0 => .object "SneezeKing$Page"
  | 1 => .object "SneezeKing$Council"
  | 2 => .object "SneezeKing$Council"
  | 3 => .object "SneezeKing$Prospect"
  | 4 => .object "SneezeKing$Years"
  | 5 => .boolean
  | _ => .int
theorem nmX5 : ∀ a, a < 7 → ∀ b, b < 7 → a ≠ b → (TX5 a).2.1 ≠ (TX5 b).2.1 := by decide +kernel
theorem tyX5_ok : ∀ k, k < 7 → parseFieldDescriptor (TX5 k).2.2.1 = some (tyX5 k) := by decide +kernel
def TX6 : u_T := fun k => match k with
  | 0 => ("SneezeKingModel", "page", "[I", true)
  | 1 => ("SneezeKingModel", "pageMany", "I", false)
  | 2 => ("SneezeKingModel", "many", "I", false)
  | 3 => ("SneezeKingModel", "draughtNow", "I", false)
  | 4 => ("SneezeKingModel", "pepperNow", "I", false)
  | 5 => ("SneezeKingModel", "lawsNow", "I", false)
  | 6 => ("SneezeKingModel", "hourNow", "I", false)
  | 7 => ("SneezeKingModel", "councilsRead", "I", false)
  | 8 => ("SneezeKingModel", "rows", "[I", true)
  | 9 => ("SneezeKingModel", "now", "[J", true)
  | 10 => ("SneezeKingModel", "then", "[J", true)
  | 11 => ("SneezeKingModel", "far", "[I", true)
  | 12 => ("SneezeKingModel", "firsts", "[I", true)
  | 13 => ("SneezeKingModel", "bookMany", "I", false)
  | 14 => ("SneezeKingModel", "books", "[I", true)
  | 15 => ("SneezeKingModel", "seedNow", "I", false)
  | 16 => ("SneezeKingModel", "often", "[I", true)
  | 17 => ("SneezeKingModel", "keptCouncil", "I", false)
  | 18 => ("SneezeKingModel", "keptDraught", "I", false)
  | 19 => ("SneezeKingModel", "keptPepper", "I", false)
  | 20 => ("SneezeKingModel", "keptLaws", "I", false)
  | 21 => ("SneezeKingModel", "keptHour", "I", false)
  | 22 => ("SneezeKingModel", "keptBookMany", "I", false)
  | 23 => ("SneezeKingModel", "keptRows", "[I", true)
  | 24 => ("SneezeKingModel", "keptBooks", "[I", true)
  | _ => ("SneezeKingModel", "hash", "J", false)
def tyX6 : Nat → FieldType := fun k => match k with
  | 0 => .array .int
  | 1 => .int
  | 2 => .int
  | 3 => .int
  | 4 => .int
  | 5 => .int
  | 6 => .int
  | 7 => .int
  | 8 => .array .int
  | 9 => .array .long
  | 10 => .array .long
  | 11 => .array .int
  | 12 => .array .int
  | 13 => .int
  | 14 => .array .int
  | 15 => .int
  | 16 => .array .int
  | 17 => .int
  | 18 => .int
  | 19 => .int
  | 20 => .int
  | 21 => .int
  | 22 => .int
  | 23 => .array .int
  | 24 => .array .int
  | _ => .long
theorem nmX6 : ∀ a, a < 26 → ∀ b, b < 26 → a ≠ b → (TX6 a).2.1 ≠ (TX6 b).2.1 := by decide +kernel
theorem tyX6_ok : ∀ k, k < 26 → parseFieldDescriptor (TX6 k).2.2.1 = some (tyX6 k) := by decide +kernel
abbrev vwCl : List vw_C := [(RX0, TX0, 12), (RX1, TX1, 2), (RX2, TX2, 8), (RX4, TX4, 4), (RX5, TX5, 7), (RX6, TX6, 26)]
/-- names of the classes that own methods -/
def kcn : List String := [RX0, RX1, RX2, RX3, RX4, RX5, RX6, RL, RJ0, RJ1, RJ7, RJ6]
def cow (c : Nat) : String := kcn.getD c ""
/-- bytes, name, locals, answer, owner, parameters, frames, words, place of the code word, place of the owner's initialized -/
def kmt : List (ByteArray × MethodName × Nat × Option FieldType × Nat × Nat × Nat × Nat × Nat × Nat) := [
  (prog_2_method_2_code, ⟨RX0, "readFrom", "(LSneezeKing$Page;I)V"⟩, 4, none, 0, 2, 5, 112, 326, 35),
  (prog_2_method_3_code, ⟨RX0, "takeOver", "(LSneezeKing$Council;)V"⟩, 2, none, 0, 1, 2, 61, 670, 35),
  (prog_2_method_4_code, ⟨RX0, "seats", "()I"⟩, 1, (some .int), 0, 0, 0, 0, 425, 35),
  (prog_2_method_5_code, ⟨RX0, "seated", "(I)Z"⟩, 2, (some .boolean), 0, 1, 0, 0, 369, 35),
  (prog_2_method_6_code, ⟨RX0, "kindOf", "(I)I"⟩, 2, (some .int), 0, 1, 1, 21, 373, 35),
  (prog_2_method_7_code, ⟨RX0, "isKind", "(II)Z"⟩, 3, (some .boolean), 0, 2, 1, 21, 353, 35),
  (prog_2_method_8_code, ⟨RX0, "noseOf", "(I)I"⟩, 2, (some .int), 0, 1, 1, 21, 377, 35),
  (prog_2_method_9_code, ⟨RX0, "changeNose", "(II)I"⟩, 3, (some .int), 0, 2, 1, 23, 406, 35),
  (prog_2_method_10_code, ⟨RX0, "sayingOf", "(I)I"⟩, 2, (some .int), 0, 1, 1, 21, 381, 35),
  (prog_2_method_11_code, ⟨RX0, "changeSaying", "(II)I"⟩, 3, (some .int), 0, 2, 1, 23, 417, 35),
  (prog_2_method_12_code, ⟨RX0, "reignsOf", "(I)I"⟩, 2, (some .int), 0, 1, 1, 21, 393, 35),
  (prog_2_method_13_code, ⟨RX0, "reignsOfAll", "()I"⟩, 1, (some .int), 0, 0, 2, 44, 700, 35),
  (prog_2_method_14_code, ⟨RX0, "draughtAt", "()I"⟩, 1, (some .int), 0, 0, 0, 0, 478, 35),
  (prog_2_method_15_code, ⟨RX0, "moveDraught", "(I)I"⟩, 3, (some .int), 0, 1, 0, 0, 429, 35),
  (prog_2_method_16_code, ⟨RX0, "peppered", "()Z"⟩, 1, (some .boolean), 0, 0, 0, 0, 690, 35),
  (prog_2_method_17_code, ⟨RX0, "changePepper", "(Z)Z"⟩, 3, (some .boolean), 0, 1, 0, 0, 437, 35),
  (prog_2_method_18_code, ⟨RX0, "held", "()I"⟩, 1, (some .int), 0, 0, 0, 0, 467, 35),
  (prog_2_method_19_code, ⟨RX0, "hourNumber", "()I"⟩, 1, (some .int), 0, 0, 0, 0, 486, 35),
  (prog_2_method_20_code, ⟨RX0, "toldHours", "()I"⟩, 1, (some .int), 0, 0, 0, 0, 581, 35),
  (prog_2_method_21_code, ⟨RX0, "toldAt", "(I)I"⟩, 2, (some .int), 0, 1, 1, 21, 602, 35),
  (prog_2_method_22_code, ⟨RX0, "tell", "(I)Z"⟩, 2, (some .boolean), 0, 1, 0, 0, 577, 35),
  (prog_2_method_23_code, ⟨RX0, "forgetTold", "()I"⟩, 2, (some .int), 0, 0, 0, 0, 589, 35),
  (prog_2_method_24_code, ⟨RX0, "tenthsNow", "(I)I"⟩, 2, (some .int), 0, 1, 3, 69, 385, 35),
  (prog_2_method_25_code, ⟨RX0, "tenthsIn", "(IIII)I"⟩, 7, (some .int), 0, 4, 2, 43, 389, 35),
  (prog_2_method_26_code, ⟨RX0, "canSneeze", "(I)Z"⟩, 4, (some .boolean), 0, 1, 4, 90, 445, 35),
  (prog_2_method_27_code, ⟨RX0, "kingOf", "(I)I"⟩, 2, (some .int), 0, 1, 0, 0, 454, 35),
  (prog_2_method_28_code, ⟨RX0, "passHour", "(I)I"⟩, 3, (some .int), 0, 1, 2, 42, 450, 35),
  (prog_2_method_29_code, ⟨RX0, "findKing", "(I)I"⟩, 7, (some .int), 0, 1, 2, 43, 346, 35),
  (prog_2_method_30_code, ⟨RX0, "nextOf", "(I)I"⟩, 2, (some .int), 0, 1, 0, 0, 358, 35),
  (prog_3_method_2_code, ⟨RX1, "size", "()I"⟩, 1, (some .int), 1, 0, 0, 0, 199, 36),
  (prog_3_method_3_code, ⟨RX1, "codeAt", "(I)I"⟩, 2, (some .int), 1, 1, 1, 21, 219, 36),
  (prog_3_method_4_code, ⟨RX1, "add", "(I)Z"⟩, 2, (some .boolean), 1, 1, 0, 0, 195, 36),
  (prog_3_method_5_code, ⟨RX1, "empty", "()I"⟩, 2, (some .int), 1, 0, 0, 0, 207, 36),
  (prog_3_method_6_code, ⟨RX1, "firstWrong", "()I"⟩, 2, (some .int), 1, 0, 5, 112, 215, 36),
  (prog_3_method_7_code, ⟨RX1, "councilSeats", "()I"⟩, 3, (some .int), 1, 0, 6, 133, 321, 36),
  (prog_3_method_8_code, ⟨RX1, "kindAt", "(I)I"⟩, 2, (some .int), 1, 1, 4, 91, 331, 36),
  (prog_3_method_9_code, ⟨RX1, "noseAt", "(I)I"⟩, 2, (some .int), 1, 1, 2, 42, 338, 36),
  (prog_3_method_10_code, ⟨RX1, "sayingAt", "(I)I"⟩, 2, (some .int), 1, 1, 2, 42, 342, 36),
  (prog_3_method_11_code, ⟨RX1, "belongs", "(II)Z"⟩, 2, (some .boolean), 1, 2, 4, 91, 225, 36),
  (prog_4_method_2_code, ⟨RX2, "kingWeight", "(II)J"⟩, 3, (some .long), 2, 2, 4, 94, 482, 37),
  (prog_4_method_3_code, ⟨RX2, "worthFrom", "(I)J"⟩, 2, (some .long), 2, 1, 1, 21, 542, 37),
  (prog_4_method_4_code, ⟨RX2, "lookForLaw", "(II)V"⟩, 5, none, 2, 2, 4, 94, 526, 37),
  (prog_4_method_5_code, ⟨RX2, "lookForBook", "(II)V"⟩, 6, none, 2, 2, 4, 94, 597, 37),
  (prog_4_method_6_code, ⟨RX2, "keepJust", "(I)V"⟩, 3, none, 2, 1, 0, 0, 606, 37),
  (prog_4_method_7_code, ⟨RX2, "weighTenths", "(III)V"⟩, 6, none, 2, 3, 3, 69, 491, 37),
  (prog_4_method_8_code, ⟨RX2, "weighWays", "(III)V"⟩, 6, none, 2, 3, 3, 69, 610, 37),
  (prog_4_method_9_code, ⟨RX2, "crown", "([J)V"⟩, 5, none, 2, 1, 2, 43, 497, 37),
  (prog_4_method_10_code, ⟨RX2, "weighSets", "()I"⟩, 4, (some .int), 2, 0, 1, 20, 501, 37),
  (prog_4_method_11_code, ⟨RX2, "stepBack", "()V"⟩, 2, none, 2, 0, 3, 69, 532, 37),
  (prog_4_method_12_code, ⟨RX2, "worthAhead", "(I)J"⟩, 8, (some .long), 2, 1, 2, 42, 536, 37),
  (prog_5_method_2_code, ⟨RX3, "said", "(II)I"⟩, 2, (some .int), 3, 2, 0, 0, 459, 47),
  (prog_5_method_3_code, ⟨RX3, "fewest", "(III)I"⟩, 6, (some .int), 3, 3, 2, 46, 561, 47),
  (prog_5_method_4_code, ⟨RX3, "firstSaid", "(III)I"⟩, 4, (some .int), 3, 3, 3, 71, 568, 47),
  (prog_5_method_5_code, ⟨RX3, "afterOneMore", "(J)J"⟩, 6, (some .long), 3, 1, 1, 21, 564, 47),
  (prog_6_method_2_code, ⟨RX4, "tells", "(I)Z"⟩, 1, (some .boolean), 4, 1, 0, 0, 621, 38),
  (prog_6_method_3_code, ⟨RX4, "live", "(II)V"⟩, 4, none, 4, 2, 5, 114, 625, 38),
  (prog_6_method_4_code, ⟨RX4, "answer", "(I)I"⟩, 2, (some .int), 4, 1, 2, 44, 658, 38),
  (prog_6_method_5_code, ⟨RX4, "liveHour", "(I)V"⟩, 3, none, 4, 1, 4, 92, 632, 38),
  (prog_6_method_6_code, ⟨RX4, "drawSneezers", "(I)I"⟩, 4, (some .int), 4, 1, 3, 69, 636, 38),
  (prog_6_method_7_code, ⟨RX4, "drawOfTen", "()I"⟩, 1, (some .int), 4, 0, 0, 0, 641, 38),
  (prog_1_method_2_code, ⟨RX5, "letter", "(I)I"⟩, 2, (some .int), 5, 1, 1, 21, 191, 34),
  (prog_1_method_3_code, ⟨RX5, "blank", "()I"⟩, 1, (some .int), 5, 0, 1, 21, 203, 34),
  (prog_1_method_4_code, ⟨RX5, "fault", "()I"⟩, 1, (some .int), 5, 0, 6, 133, 211, 34),
  (prog_1_method_5_code, ⟨RX5, "council", "()I"⟩, 2, (some .int), 5, 0, 7, 155, 317, 34),
  (prog_1_method_6_code, ⟨RX5, "about", "(II)I"⟩, 3, (some .int), 5, 2, 4, 90, 365, 34),
  (prog_1_method_7_code, ⟨RX5, "as", "(II)I"⟩, 3, (some .int), 5, 2, 2, 43, 397, 34),
  (prog_1_method_8_code, ⟨RX5, "nose", "(II)I"⟩, 3, (some .int), 5, 2, 2, 45, 402, 34),
  (prog_1_method_9_code, ⟨RX5, "bribe", "(II)I"⟩, 3, (some .int), 5, 2, 2, 45, 410, 34),
  (prog_1_method_10_code, ⟨RX5, "draught", "(I)I"⟩, 2, (some .int), 5, 1, 1, 22, 421, 34),
  (prog_1_method_11_code, ⟨RX5, "pepper", "(Z)I"⟩, 2, (some .int), 5, 1, 1, 22, 433, 34),
  (prog_1_method_12_code, ⟨RX5, "hour", "(I)I"⟩, 2, (some .int), 5, 1, 5, 113, 441, 34),
  (prog_1_method_13_code, ⟨RX5, "laws", "()I"⟩, 1, (some .int), 5, 0, 1, 20, 463, 34),
  (prog_1_method_14_code, ⟨RX5, "king", "(II)J"⟩, 5, (some .long), 5, 2, 5, 116, 471, 34),
  (prog_1_method_15_code, ⟨RX5, "holds", "(III)J"⟩, 4, (some .long), 5, 3, 5, 118, 522, 34),
  (prog_1_method_16_code, ⟨RX5, "window", "(I)I"⟩, 8, (some .int), 5, 1, 5, 116, 546, 34),
  (prog_1_method_17_code, ⟨RX5, "saying", "(II)I"⟩, 9, (some .int), 5, 2, 5, 118, 550, 34),
  (prog_1_method_18_code, ⟨RX5, "statutes", "(II)I"⟩, 4, (some .int), 5, 2, 4, 94, 555, 34),
  (prog_1_method_19_code, ⟨RX5, "book", "(I)I"⟩, 2, (some .int), 5, 1, 1, 21, 573, 34),
  (prog_1_method_20_code, ⟨RX5, "forget", "()I"⟩, 1, (some .int), 5, 0, 1, 21, 585, 34),
  (prog_1_method_21_code, ⟨RX5, "fits", "()J"⟩, 1, (some .long), 5, 0, 5, 119, 593, 34),
  (prog_1_method_22_code, ⟨RX5, "sneezed", "(II)J"⟩, 3, (some .long), 5, 2, 5, 119, 614, 34),
  (prog_1_method_23_code, ⟨RX5, "years", "(III)I"⟩, 4, (some .int), 5, 3, 6, 137, 618, 34),
  (prog_1_method_24_code, ⟨RX5, "image", "()I"⟩, 1, (some .int), 5, 0, 3, 82, 666, 34),
  (prog_1_method_25_code, ⟨RX5, "restore", "()I"⟩, 1, (some .int), 5, 0, 3, 82, 682, 34),
  (prog_1_method_26_code, ⟨RX5, "count", "(I)I"⟩, 2, (some .int), 5, 1, 3, 64, 686, 34),
  (prog_1_method_27_code, ⟨RX5, "digest", "()J"⟩, 5, (some .long), 5, 0, 6, 146, 705, 34),
  (prog_1_method_28_code, ⟨RX5, "isLaw", "(I)Z"⟩, 1, (some .boolean), 5, 1, 0, 0, 413, 34),
  (prog_1_method_29_code, ⟨RX5, "isLawSet", "(I)Z"⟩, 1, (some .boolean), 5, 1, 0, 0, 558, 34),
  (prog_1_method_30_code, ⟨RX5, "isIn", "(II)Z"⟩, 2, (some .boolean), 5, 2, 0, 0, 349, 34),
  (prog_1_method_31_code, ⟨RX5, "at", "([II)I"⟩, 2, (some .int), 5, 2, 0, 0, 222, 34),
  (prog_1_method_32_code, ⟨RX5, "at", "([JI)J"⟩, 2, (some .long), 5, 2, 0, 0, 508, 34),
  (prog_1_method_33_code, ⟨RX5, "exchange", "([III)I"⟩, 4, (some .int), 5, 3, 0, 0, 334, 34),
  (prog_1_method_34_code, ⟨RX5, "copy", "([I[I)V"⟩, 2, none, 5, 2, 1, 40, 673, 34),
  (prog_1_method_35_code, ⟨RX5, "sum", "([II)I"⟩, 4, (some .int), 5, 2, 1, 21, 661, 34),
  (prog_1_method_36_code, ⟨RX5, "tenTo", "(I)J"⟩, 4, (some .long), 5, 1, 0, 0, 511, 34),
  (prog_1_method_37_code, ⟨RX5, "lowestTerm", "(JJI)J"⟩, 9, (some .long), 5, 3, 1, 30, 515, 34),
  (prog_1_method_38_code, ⟨RX5, "commonDivisor", "(JJ)J"⟩, 11, (some .long), 5, 2, 0, 0, 518, 34),
  (prog_8_method_2_code, ⟨RX6, "in", "(JJJ)Z"⟩, 6, (some .boolean), 6, 3, 0, 0, 809, 39),
  (prog_8_method_3_code, ⟨RX6, "letter", "(I)I"⟩, 2, (some .int), 6, 1, 1, 25, 805, 39),
  (prog_8_method_4_code, ⟨RX6, "blank", "()I"⟩, 2, (some .int), 6, 0, 0, 0, 813, 39),
  (prog_8_method_5_code, ⟨RX6, "kindBy", "(I)I"⟩, 1, (some .int), 6, 1, 0, 0, 827, 39),
  (prog_8_method_6_code, ⟨RX6, "isGood", "(II)Z"⟩, 3, (some .boolean), 6, 2, 1, 25, 824, 39),
  (prog_8_method_7_code, ⟨RX6, "faultOf", "()I"⟩, 2, (some .int), 6, 0, 2, 47, 821, 39),
  (prog_8_method_8_code, ⟨RX6, "fault", "()I"⟩, 1, (some .int), 6, 0, 3, 68, 817, 39),
  (prog_8_method_9_code, ⟨RX6, "council", "()I"⟩, 2, (some .int), 6, 0, 3, 68, 833, 39),
  (prog_8_method_10_code, ⟨RX6, "lacks", "()Z"⟩, 1, (some .boolean), 6, 0, 0, 0, 873, 39),
  (prog_8_method_11_code, ⟨RX6, "isOne", "(I)Z"⟩, 2, (some .boolean), 6, 1, 1, 25, 841, 39),
  (prog_8_method_12_code, ⟨RX6, "isLaw", "(I)Z"⟩, 1, (some .boolean), 6, 1, 1, 25, 865, 39),
  (prog_8_method_13_code, ⟨RX6, "tenthsOf", "(IIII)I"⟩, 7, (some .int), 6, 4, 0, 0, 849, 39),
  (prog_8_method_14_code, ⟨RX6, "tell", "(II)I"⟩, 3, (some .int), 6, 2, 1, 26, 845, 39),
  (prog_8_method_15_code, ⟨RX6, "about", "(II)I"⟩, 3, (some .int), 6, 2, 2, 48, 837, 39),
  (prog_8_method_16_code, ⟨RX6, "as", "(II)I"⟩, 5, (some .int), 6, 2, 2, 46, 853, 39),
  (prog_8_method_17_code, ⟨RX6, "nose", "(II)I"⟩, 4, (some .int), 6, 2, 2, 46, 858, 39),
  (prog_8_method_18_code, ⟨RX6, "bribe", "(II)I"⟩, 4, (some .int), 6, 2, 2, 46, 862, 39),
  (prog_8_method_19_code, ⟨RX6, "draught", "(I)I"⟩, 3, (some .int), 6, 1, 2, 46, 869, 39),
  (prog_8_method_20_code, ⟨RX6, "pepper", "(Z)I"⟩, 3, (some .int), 6, 1, 1, 20, 877, 39),
  (prog_8_method_21_code, ⟨RX6, "kingOf", "(I)I"⟩, 7, (some .int), 6, 1, 0, 0, 889, 39),
  (prog_8_method_22_code, ⟨RX6, "said", "(II)I"⟩, 2, (some .int), 6, 2, 0, 0, 896, 39),
  (prog_8_method_23_code, ⟨RX6, "lawsBehind", "(II)I"⟩, 4, (some .int), 6, 2, 1, 26, 893, 39),
  (prog_8_method_24_code, ⟨RX6, "maySneeze", "(III)Z"⟩, 6, (some .boolean), 6, 3, 1, 26, 885, 39),
  (prog_8_method_25_code, ⟨RX6, "hour", "(I)I"⟩, 3, (some .int), 6, 1, 2, 51, 881, 39),
  (prog_8_method_26_code, ⟨RX6, "laws", "()I"⟩, 1, (some .int), 6, 0, 0, 0, 900, 39),
  (prog_8_method_27_code, ⟨RX6, "term", "(JJI)J"⟩, 11, (some .long), 6, 3, 0, 0, 927, 39),
  (prog_8_method_28_code, ⟨RX6, "oddsOf", "(IIII)J"⟩, 9, (some .long), 6, 4, 1, 26, 919, 39),
  (prog_8_method_29_code, ⟨RX6, "kingBy", "(II)J"⟩, 6, (some .long), 6, 2, 2, 54, 915, 39),
  (prog_8_method_30_code, ⟨RX6, "tens", "(I)J"⟩, 5, (some .long), 6, 1, 0, 0, 923, 39),
  (prog_8_method_31_code, ⟨RX6, "kingTerm", "(II)J"⟩, 3, (some .long), 6, 2, 3, 79, 911, 39),
  (prog_8_method_32_code, ⟨RX6, "king", "(II)J"⟩, 3, (some .long), 6, 2, 4, 101, 904, 39),
  (prog_8_method_33_code, ⟨RX6, "holdsFrom", "(III)J"⟩, 7, (some .long), 6, 3, 2, 54, 940, 39),
  (prog_8_method_34_code, ⟨RX6, "holdsTerm", "(III)J"⟩, 4, (some .long), 6, 3, 3, 80, 936, 39),
  (prog_8_method_35_code, ⟨RX6, "holds", "(III)J"⟩, 4, (some .long), 6, 3, 4, 103, 931, 39),
  (prog_8_method_36_code, ⟨RX6, "windowOf", "(I)I"⟩, 8, (some .int), 6, 1, 3, 79, 948, 39),
  (prog_8_method_37_code, ⟨RX6, "window", "(I)I"⟩, 2, (some .int), 6, 1, 4, 106, 944, 39),
  (prog_8_method_38_code, ⟨RX6, "sayingOf", "(II)I"⟩, 9, (some .int), 6, 2, 3, 80, 957, 39),
  (prog_8_method_39_code, ⟨RX6, "saying", "(II)I"⟩, 3, (some .int), 6, 2, 4, 108, 952, 39),
  (prog_8_method_40_code, ⟨RX6, "statutesOf", "(II)I"⟩, 9, (some .int), 6, 2, 1, 21, 967, 39),
  (prog_8_method_41_code, ⟨RX6, "statutes", "(II)I"⟩, 3, (some .int), 6, 2, 2, 49, 962, 39),
  (prog_8_method_42_code, ⟨RX6, "book", "(I)I"⟩, 2, (some .int), 6, 1, 1, 25, 971, 39),
  (prog_8_method_43_code, ⟨RX6, "forget", "()I"⟩, 2, (some .int), 6, 0, 0, 0, 975, 39),
  (prog_8_method_44_code, ⟨RX6, "waysBy", "(II)J"⟩, 8, (some .long), 6, 2, 2, 51, 983, 39),
  (prog_8_method_45_code, ⟨RX6, "fits", "()J"⟩, 1, (some .long), 6, 0, 3, 78, 979, 39),
  (prog_8_method_46_code, ⟨RX6, "sneezed", "(II)J"⟩, 3, (some .long), 6, 2, 3, 78, 987, 39),
  (prog_8_method_47_code, ⟨RX6, "draw", "(I)I"⟩, 2, (some .int), 6, 1, 0, 0, 997, 39),
  (prog_8_method_48_code, ⟨RX6, "years", "(III)I"⟩, 9, (some .int), 6, 3, 2, 49, 991, 39),
  (prog_8_method_49_code, ⟨RX6, "copy", "([I[I)V"⟩, 3, none, 6, 2, 0, 0, 1008, 39),
  (prog_8_method_50_code, ⟨RX6, "image", "()I"⟩, 1, (some .int), 6, 0, 1, 22, 1005, 39),
  (prog_8_method_51_code, ⟨RX6, "restore", "()I"⟩, 1, (some .int), 6, 0, 1, 22, 1012, 39),
  (prog_8_method_52_code, ⟨RX6, "countOf", "(I)I"⟩, 5, (some .int), 6, 1, 0, 0, 1020, 39),
  (prog_8_method_53_code, ⟨RX6, "count", "(I)I"⟩, 2, (some .int), 6, 1, 1, 24, 1016, 39),
  (prog_8_method_54_code, ⟨RX6, "say", "(J)V"⟩, 3, none, 6, 1, 0, 0, 1029, 39),
  (prog_8_method_55_code, ⟨RX6, "digest", "()J"⟩, 3, (some .long), 6, 0, 4, 108, 1024, 39),
  (code, ⟨RL, "law", "([I)Z"⟩, 4, (some .boolean), 7, 1, 8, 176, 0, 33),
  (prog_10_method_49_code, ⟨RJ6, "bitCount", "(I)I"⟩, 1, (some .int), 11, 1, 0, 0, 693, 49),
  (prog_12_method_54_code, ⟨RJ0, "length", "()I"⟩, 1, (some .int), 8, 0, 1, 20, 244, 40),
  (prog_12_method_79_code, ⟨RJ0, "indexOf", "(I)I"⟩, 2, (some .int), 8, 1, 3, 70, 230, 40),
  (prog_12_method_80_code, ⟨RJ0, "indexOf", "(II)I"⟩, 3, (some .int), 8, 2, 2, 48, 234, 40),
  (prog_12_method_152_code, ⟨RJ0, "coder", "()B"⟩, 1, (some .byte), 8, 0, 0, 0, 248, 40),
  (prog_12_method_154_code, ⟨RJ0, "isLatin1", "()Z"⟩, 1, (some .boolean), 8, 0, 0, 0, 238, 40),
  (prog_13_method_4_code, ⟨RJ1, "canEncode", "(I)Z"⟩, 1, (some .boolean), 9, 1, 0, 0, 254, 41),
  (prog_13_method_22_code, ⟨RJ1, "indexOf", "([BIII)I"⟩, 4, (some .int), 9, 4, 1, 25, 251, 41),
  (prog_13_method_23_code, ⟨RJ1, "indexOfChar", "([BIII)I"⟩, 6, (some .int), 9, 4, 0, 0, 263, 41),
  (prog_16_method_101_code, ⟨RJ7, "fill", "([JJ)V"⟩, 5, none, 10, 2, 0, 0, 504, 46),
  (prog_16_method_103_code, ⟨RJ7, "fill", "([II)V"⟩, 4, none, 10, 2, 0, 0, 361, 46)]
def kmr (m : Nat) : ByteArray × MethodName × Nat × Option FieldType × Nat × Nat × Nat × Nat × Nat × Nat := kmt.getD m (⟨#[]⟩, ⟨"", "", ""⟩, 0, none, 0, 0, 0, 0, 0, 0)
def mbyt (m : Nat) : ByteArray := (kmr m).1
def my (m : Nat) : MethodName := (kmr m).2.1
def mnL (m : Nat) : Nat := (kmr m).2.2.1
def mrt (m : Nat) : Option FieldType := (kmr m).2.2.2.1
def mow (m : Nat) : Nat := (kmr m).2.2.2.2.1
def mna (m : Nat) : Nat := (kmr m).2.2.2.2.2.1
def mfr (m : Nat) : Nat := (kmr m).2.2.2.2.2.2.1
def mlo (m : Nat) : Nat := (kmr m).2.2.2.2.2.2.2.1
def mpc (m : Nat) : Nat := (kmr m).2.2.2.2.2.2.2.2.1
def mpi (m : Nat) : Nat := (kmr m).2.2.2.2.2.2.2.2.2
def kNM : Nat := 163
/-- own, index, kind of object, field, place of the word -/
def kfT : List (Nat × Nat × Nat × Nat × Nat) := [(0, 9, 0, 0, 64), (0, 15, 0, 1, 65), (0, 18, 0, 2, 66), (0, 21, 0, 3, 67), (0, 24, 0, 4, 68), (0, 27, 0, 5, 69), (0, 40, 0, 6, 70), (0, 30, 0, 7, 71), (0, 68, 0, 8, 72), (0, 72, 0, 9, 73), (0, 75, 0, 10, 74), (0, 78, 0, 11, 75), (1, 11, 1, 0, 108), (1, 15, 1, 1, 109), (2, 33, 2, 0, 121), (2, 9, 2, 1, 122), (2, 15, 2, 2, 123), (2, 18, 2, 3, 124), (2, 21, 2, 4, 125), (2, 24, 2, 5, 126), (2, 27, 2, 6, 127), (2, 30, 2, 7, 128), (4, 15, 3, 0, 153), (4, 9, 3, 1, 154), (4, 31, 3, 2, 155), (4, 34, 3, 3, 156), (5, 13, 4, 0, 166), (5, 19, 4, 1, 167), (5, 23, 4, 2, 168), (5, 31, 4, 3, 169), (5, 38, 4, 4, 170), (5, 63, 4, 5, 171), (5, 67, 4, 6, 172), (6, 7, 5, 0, 723), (6, 54, 5, 1, 724), (6, 73, 5, 2, 725), (6, 45, 5, 3, 726), (6, 76, 5, 4, 727), (6, 79, 5, 5, 728), (6, 82, 5, 6, 729), (6, 88, 5, 7, 730), (6, 13, 5, 8, 731), (6, 16, 5, 9, 732), (6, 20, 5, 10, 733), (6, 23, 5, 11, 734), (6, 26, 5, 12, 735), (6, 85, 5, 13, 736), (6, 29, 5, 14, 737), (6, 181, 5, 15, 738), (6, 32, 5, 16, 739), (6, 41, 5, 17, 740), (6, 200, 5, 18, 741), (6, 203, 5, 19, 742), (6, 206, 5, 20, 743), (6, 209, 5, 21, 744), (6, 212, 5, 22, 745), (6, 35, 5, 23, 746), (6, 38, 5, 24, 747), (6, 220, 5, 25, 748), (8, 15, 9, 1, 1031), (8, 9, 9, 0, 1032)]
/-- own, index, kind (0 virtual, 1 static, 2 static of a nest mate), method, places of the words -/
def kcT : List (Nat × Nat × Nat × Nat × Nat × Nat × Nat) := [(7, 13, 0, 60, 188, 189, 190), (5, 42, 0, 31, 192, 193, 194), (5, 46, 0, 29, 196, 197, 198), (7, 18, 0, 61, 200, 201, 202), (5, 50, 0, 32, 204, 205, 206), (7, 23, 0, 62, 208, 209, 210), (5, 53, 0, 33, 212, 213, 214), (1, 23, 0, 30, 216, 217, 218), (1, 19, 2, 89, 220, 221, 0), (1, 27, 1, 38, 223, 224, 0), (1, 37, 0, 154, 227, 228, 229), (8, 633, 0, 155, 231, 232, 233), (8, 492, 0, 157, 235, 236, 237), (8, 505, 0, 153, 241, 242, 243), (8, 335, 0, 156, 245, 246, 247), (8, 637, 1, 159, 249, 250, 0), (9, 88, 1, 158, 252, 253, 0), (9, 95, 1, 160, 261, 262, 0), (7, 27, 0, 63, 314, 315, 316), (5, 56, 0, 34, 318, 319, 320), (1, 31, 0, 33, 322, 213, 214), (5, 59, 0, 0, 323, 324, 325), (0, 43, 0, 35, 328, 329, 330), (0, 49, 2, 91, 332, 333, 0), (0, 53, 0, 36, 335, 336, 337), (0, 56, 0, 37, 339, 340, 341), (0, 59, 0, 27, 343, 345, 0), (0, 100, 2, 88, 347, 348, 0), (0, 96, 0, 5, 350, 351, 352), (0, 85, 2, 89, 354, 221, 0), (0, 121, 0, 28, 355, 357, 1), (0, 62, 1, 162, 359, 360, 0), (7, 31, 0, 64, 362, 363, 364), (5, 71, 0, 3, 366, 367, 368), (5, 74, 0, 4, 370, 371, 372), (5, 78, 0, 6, 374, 375, 376), (5, 81, 0, 8, 378, 379, 380), (5, 84, 0, 22, 382, 383, 384), (0, 92, 0, 23, 386, 387, 388), (5, 87, 0, 10, 390, 391, 392), (7, 36, 0, 65, 394, 395, 396), (5, 90, 0, 5, 398, 351, 352), (7, 40, 0, 66, 399, 400, 401), (5, 94, 0, 7, 403, 404, 405), (7, 44, 0, 67, 407, 408, 409), (5, 98, 1, 86, 411, 412, 0), (5, 101, 0, 9, 414, 415, 416), (7, 48, 0, 68, 418, 419, 420), (5, 104, 0, 2, 422, 423, 424), (5, 107, 0, 13, 426, 427, 428), (7, 52, 0, 69, 430, 431, 432), (5, 110, 0, 15, 434, 435, 436), (7, 57, 0, 70, 438, 439, 440), (5, 114, 0, 24, 442, 443, 444), (0, 103, 0, 22, 446, 383, 384), (5, 117, 0, 26, 447, 448, 449), (0, 106, 0, 25, 451, 452, 453), (0, 109, 0, 3, 455, 367, 368), (0, 113, 0, 8, 456, 379, 380), (0, 116, 1, 50, 457, 458, 0), (7, 61, 0, 71, 460, 461, 462), (5, 120, 0, 16, 464, 465, 466), (7, 65, 0, 72, 468, 469, 470), (5, 129, 0, 12, 475, 476, 477), (5, 132, 0, 39, 479, 480, 481), (2, 37, 0, 17, 483, 484, 485), (2, 43, 0, 16, 487, 465, 466), (2, 46, 0, 44, 488, 490, 2), (2, 88, 0, 2, 492, 423, 424), (2, 91, 0, 23, 493, 387, 388), (2, 50, 0, 46, 494, 496, 3), (2, 95, 0, 47, 498, 500, 4), (2, 68, 1, 161, 502, 503, 0), (2, 98, 0, 25, 505, 452, 453), (2, 54, 2, 90, 506, 507, 0), (5, 136, 1, 94, 509, 510, 0), (5, 140, 1, 95, 513, 514, 0), (5, 255, 1, 96, 516, 517, 0), (7, 70, 0, 73, 519, 520, 521), (5, 144, 0, 41, 523, 524, 525), (2, 58, 2, 88, 527, 348, 0), (2, 62, 0, 12, 528, 476, 477), (2, 65, 0, 48, 529, 531, 5), (2, 101, 0, 49, 533, 535, 6), (2, 105, 0, 8, 537, 379, 380), (2, 108, 1, 50, 538, 458, 0), (5, 148, 0, 40, 539, 540, 541), (7, 75, 0, 74, 543, 544, 545), (7, 79, 0, 75, 547, 548, 549), (5, 151, 1, 50, 551, 458, 0), (7, 83, 0, 76, 552, 553, 554), (5, 156, 1, 87, 556, 557, 0), (5, 159, 1, 51, 559, 560, 0), (3, 9, 1, 53, 562, 563, 0), (3, 15, 1, 50, 565, 458, 0), (5, 163, 1, 52, 566, 567, 0), (3, 19, 1, 51, 569, 560, 0), (7, 87, 0, 77, 570, 571, 572), (5, 166, 0, 20, 574, 575, 576), (5, 169, 0, 18, 578, 579, 580), (7, 91, 0, 78, 582, 583, 584), (5, 172, 0, 21, 586, 587, 588), (7, 95, 0, 79, 590, 591, 592), (5, 175, 0, 42, 594, 595, 596), (2, 74, 0, 18, 598, 579, 580), (2, 77, 0, 19, 599, 600, 601), (2, 81, 0, 43, 603, 605, 7), (2, 85, 0, 45, 607, 609, 8), (7, 100, 0, 80, 611, 612, 613), (7, 104, 0, 81, 615, 616, 617), (5, 178, 1, 54, 619, 620, 0), (5, 181, 0, 55, 622, 623, 624), (4, 19, 1, 162, 626, 360, 0), (4, 25, 0, 16, 627, 465, 466), (4, 38, 0, 17, 628, 484, 485), (4, 41, 0, 57, 629, 631, 9), (4, 52, 0, 58, 633, 635, 10), (4, 76, 0, 2, 637, 423, 424), (4, 79, 0, 59, 638, 640, 11), (4, 82, 0, 12, 647, 476, 477), (4, 85, 0, 23, 648, 387, 388), (4, 56, 0, 25, 649, 452, 453), (4, 59, 0, 3, 650, 367, 368), (4, 49, 2, 89, 651, 221, 0), (4, 63, 2, 91, 652, 333, 0), (4, 67, 0, 8, 653, 379, 380), (4, 70, 1, 50, 654, 458, 0), (5, 184, 0, 56, 655, 656, 657), (4, 45, 2, 93, 659, 660, 0), (5, 249, 1, 89, 662, 221, 0), (7, 109, 0, 82, 663, 664, 665), (5, 187, 0, 1, 667, 668, 669), (0, 81, 2, 92, 671, 672, 0), (5, 190, 0, 17, 678, 484, 485), (7, 113, 0, 83, 679, 680, 681), (7, 117, 0, 84, 683, 684, 685), (5, 193, 0, 14, 687, 688, 689), (5, 197, 1, 152, 691, 692, 0), (5, 202, 0, 11, 697, 698, 699), (0, 89, 2, 93, 701, 660, 0), (7, 121, 0, 85, 702, 703, 704), (5, 209, 0, 64, 708, 363, 364), (5, 212, 0, 72, 709, 469, 470), (5, 215, 0, 74, 710, 544, 545), (5, 218, 0, 71, 711, 461, 462), (5, 221, 0, 73, 712, 520, 521), (5, 225, 0, 75, 713, 548, 549), (5, 228, 0, 79, 714, 591, 592), (5, 232, 0, 30, 715, 217, 218), (5, 235, 0, 84, 716, 684, 685), (7, 17, 0, 98, 802, 803, 804), (6, 50, 1, 97, 807, 808, 0), (7, 22, 0, 99, 810, 811, 812), (7, 26, 0, 103, 814, 815, 816), (6, 69, 0, 102, 818, 820, 12), (6, 65, 1, 101, 822, 823, 0), (6, 57, 1, 100, 825, 826, 0), (7, 30, 0, 104, 830, 831, 832), (7, 35, 0, 110, 834, 835, 836), (6, 95, 0, 106, 838, 840, 13), (6, 99, 0, 109, 842, 844, 14), (6, 91, 0, 108, 846, 848, 15), (7, 39, 0, 111, 850, 851, 852), (7, 43, 0, 112, 855, 856, 857), (7, 47, 0, 113, 859, 860, 861), (6, 105, 1, 107, 863, 864, 0), (7, 51, 0, 114, 866, 867, 868), (6, 108, 0, 105, 870, 872, 16), (7, 56, 0, 115, 874, 875, 876), (7, 60, 0, 120, 878, 879, 880), (6, 118, 0, 119, 882, 884, 17), (6, 112, 0, 116, 886, 888, 18), (6, 122, 0, 118, 890, 892, 19), (6, 115, 1, 117, 894, 895, 0), (7, 64, 0, 121, 897, 898, 899), (7, 69, 0, 127, 901, 902, 903), (6, 149, 0, 126, 908, 910, 20), (6, 131, 0, 124, 912, 914, 21), (6, 125, 0, 123, 916, 918, 22), (6, 135, 0, 125, 920, 922, 23), (6, 139, 1, 122, 925, 926, 0), (7, 74, 0, 130, 928, 929, 930), (6, 158, 0, 129, 933, 935, 24), (6, 152, 0, 128, 937, 939, 25), (7, 78, 0, 132, 941, 942, 943), (6, 161, 0, 131, 945, 947, 26), (7, 82, 0, 134, 949, 950, 951), (6, 168, 0, 133, 954, 956, 27), (7, 86, 0, 136, 959, 960, 961), (6, 173, 0, 135, 964, 966, 28), (7, 90, 0, 137, 968, 969, 970), (7, 94, 0, 138, 972, 973, 974), (7, 99, 0, 140, 976, 977, 978), (6, 176, 0, 139, 980, 982, 29), (7, 103, 0, 141, 984, 985, 986), (7, 108, 0, 143, 988, 989, 990), (6, 193, 0, 142, 994, 996, 30), (7, 112, 0, 145, 1002, 1003, 1004), (6, 196, 1, 144, 1006, 1007, 0), (7, 116, 0, 146, 1009, 1010, 1011), (7, 120, 0, 148, 1013, 1014, 1015), (6, 215, 0, 147, 1017, 1019, 31), (7, 124, 0, 150, 1021, 1022, 1023), (6, 226, 0, 149, 1026, 1028, 32)]
def kiT : List (Nat × Nat × Int32 × Nat) := [(11, 265, 1431655765, 694), (11, 266, 858993459, 695), (11, 267, 252645135, 696), (6, 188, 65536, 1001)]
def klT : List (Nat × Nat × Int64 × Nat) := [(5, 123, -101, 472), (5, 125, -102, 473), (5, 127, -103, 474), (5, 253, 10, 512), (4, 89, 1103515245, 642), (4, 91, 12345, 643), (4, 93, 2147483648, 644), (4, 95, 65536, 645), (4, 97, 10, 646), (5, 205, 809, 706), (5, 207, 31, 707), (6, 48, 126, 806), (6, 61, 9, 828), (6, 63, 5, 829), (6, 103, 4, 854), (6, 143, -101, 905), (6, 145, -102, 906), (6, 147, -103, 907), (6, 129, 10, 924), (6, 156, 3, 932), (6, 166, 2, 953), (6, 164, -1, 958), (6, 171, 63, 963), (6, 189, 60, 992), (6, 191, 14, 993), (6, 179, 1103515245, 998), (6, 184, 12345, 999), (6, 186, 2147483647, 1000), (6, 224, 809, 1025), (6, 218, 31, 1030)]
/-- own, index, 0 max 1 min, places of link, static, code -/
def kmT : List (Nat × Nat × Nat × Nat × Nat × Nat) := [(9, 92, 0, 255, 256, 257), (9, 38, 1, 258, 259, 260), (0, 34, 1, 327, 259, 260), (5, 238, 1, 674, 259, 260)]
def kmi : Nat := 42
/-- the places of COMPACT_STRINGS, arraycopy, the text -/
def kgs : Nat × Nat × Nat := (8, 38, 239)
def kac : Nat × Nat × Nat := (5, 243, 675)
def kacn : Nat := 677
def kacs : Nat := 676
def kaci : Nat := 48
def kst : Nat × Nat := (1, 35)
