def RX0 : String := "SneezeKing$Council"
def RX1 : String := "SneezeKing$Page"
def RX2 : String := "SneezeKing$Prospect"
def RX3 : String := "SneezeKing$Statutes"
def RX4 : String := "SneezeKing$Years"
def RX5 : String := "SneezeKing"
def RX6 : String := "SneezeKingModel"
def RL : String := "SneezeKingLaw"
def RJ0 : String := "java/lang/String"
def RJ1 : String := "java/lang/StringLatin1"
def RJ7 : String := "java/util/Arrays"
def RJ6 : String := "java/lang/Integer"
def TX0 : u_T := fun k => match k with
  | 0 => ("SneezeKing$Council", "kinds", "[I", true)
  | 1 => ("SneezeKing$Council", "noses", "[I", true)
  | 2 => ("SneezeKing$Council", "sayings", "[I", true)
  | 3 => ("SneezeKing$Council", "reigns", "[I", true)
  | 4 => ("SneezeKing$Council", "kings", "[I", true)
  | 5 => ("SneezeKing$Council", "told", "[I", true)
  | 6 => ("SneezeKing$Council", "seats", "I", false)
  | 7 => ("SneezeKing$Council", "draughtAt", "I", false)
  | 8 => ("SneezeKing$Council", "peppered", "Z", false)
  | 9 => ("SneezeKing$Council", "held", "I", false)
  | 10 => ("SneezeKing$Council", "hourNumber", "I", false)
  | _ => ("SneezeKing$Council", "toldHours", "I", false)
def tyX0 : Nat → FieldType := fun k => match k with
  | 0 => .array .int
  | 1 => .array .int
  | 2 => .array .int
  | 3 => .array .int
  | 4 => .array .int
  | 5 => .array .int
  | 6 => .int
  | 7 => .int
  | 8 => .boolean
  | 9 => .int
  | 10 => .int
  | _ => .int
theorem nmX0 : ∀ a, a < 12 → ∀ b, b < 12 → a ≠ b → (TX0 a).2.1 ≠ (TX0 b).2.1 := by decide +kernel
theorem tyX0_ok : ∀ k, k < 12 → parseFieldDescriptor (TX0 k).2.2.1 = some (tyX0 k) := by decide +kernel
def TX1 : u_T := fun k => match k with
  | 0 => ("SneezeKing$Page", "codes", "[I", true)
  | _ => ("SneezeKing$Page", "size", "I", false)
def tyX1 : Nat → FieldType := fun k => match k with
  | 0 => .array .int
  | _ => .int
theorem nmX1 : ∀ a, a < 2 → ∀ b, b < 2 → a ≠ b → (TX1 a).2.1 ≠ (TX1 b).2.1 := by decide +kernel
theorem tyX1_ok : ∀ k, k < 2 → parseFieldDescriptor (TX1 k).2.2.1 = some (tyX1 k) := by decide +kernel
def TX2 : u_T := fun k => match k with
  | 0 => ("SneezeKing$Prospect", "council", "LSneezeKing$Council;", true)
  | 1 => ("SneezeKing$Prospect", "sneezing", "[J", true)
  | 2 => ("SneezeKing$Prospect", "silent", "[J", true)
  | 3 => ("SneezeKing$Prospect", "bySet", "[J", true)
  | 4 => ("SneezeKing$Prospect", "kingsFree", "[J", true)
  | 5 => ("SneezeKing$Prospect", "kingsBanned", "[J", true)
  | 6 => ("SneezeKing$Prospect", "worth", "[J", false)
  | _ => ("SneezeKing$Prospect", "spare", "[J", false)
def tyX2 : Nat → FieldType := fun k => match k with
  | 0 => .object "SneezeKing$Council"
  | 1 => .array .long
  | 2 => .array .long
  | 3 => .array .long
  | 4 => .array .long
  | 5 => .array .long
  | 6 => .array .long
  | _ => .array .long
theorem nmX2 : ∀ a, a < 8 → ∀ b, b < 8 → a ≠ b → (TX2 a).2.1 ≠ (TX2 b).2.1 := by decide +kernel
theorem tyX2_ok : ∀ k, k < 8 → parseFieldDescriptor (TX2 k).2.2.1 = some (tyX2 k) := by decide +kernel
def TX4 : u_T := fun k => match k with
  | 0 => ("SneezeKing$Years", "council", "LSneezeKing$Council;", true)
  | 1 => ("SneezeKing$Years", "reigns", "[I", true)
  | 2 => ("SneezeKing$Years", "held", "I", false)
  | _ => ("SneezeKing$Years", "seed", "J", false)
def tyX4 : Nat → FieldType := fun k => match k with
  | 0 => .object "SneezeKing$Council"
  | 1 => .array .int
  | 2 => .int
  | _ => .long
theorem nmX4 : ∀ a, a < 4 → ∀ b, b < 4 → a ≠ b → (TX4 a).2.1 ≠ (TX4 b).2.1 := by decide +kernel
theorem tyX4_ok : ∀ k, k < 4 → parseFieldDescriptor (TX4 k).2.2.1 = some (tyX4 k) := by decide +kernel
def TX5 : u_T := fun k => match k with
  | 0 => ("SneezeKing", "page", "LSneezeKing$Page;", true)
  | 1 => ("SneezeKing", "now", "LSneezeKing$Council;", true)
  | 2 => ("SneezeKing", "kept", "LSneezeKing$Council;", true)
  | 3 => ("SneezeKing", "prospect", "LSneezeKing$Prospect;", true)
  | 4 => ("SneezeKing", "lived", "LSneezeKing$Years;", true)
  | 5 => ("SneezeKing", "hasImage", "Z", false)
  | _ => ("SneezeKing", "councilsRead", "I", false)
def tyX5 : Nat → FieldType := fun k => match k with
  | 0 => .object "SneezeKing$Page"
  | 1 => .object "SneezeKing$Council"
  | 2 => .object "SneezeKing$Council"
  | 3 => .object "SneezeKing$Prospect"
  | 4 => .object "SneezeKing$Years"
  | 5 => .boolean
  | _ => .int
theorem nmX5 : ∀ a, a < 7 → ∀ b, b < 7 → a ≠ b → (TX5 a).2.1 ≠ (TX5 b).2.1 := by decide +kernel
theorem tyX5_ok : ∀ k, k < 7 → parseFieldDescriptor (TX5 k).2.2.1 = some (tyX5 k) := by decide +kernel
abbrev vwCl : List vw_C := [(RX0, TX0, 12), (RX1, TX1, 2), (RX2, TX2, 8), (RX4, TX4, 4), (RX5, TX5, 7)]
/-- names of the classes that own methods -/
def kcn : List String := [RX0, RX1, RX2, RX3, RX4, RX5, RX6, RL, RJ0, RJ1, RJ7, RJ6]
def cow (c : Nat) : String := kcn.getD c ""
/-- bytes, name, locals, answer, owner, parameters, frames, words, place of the code word, place of the owner's initialized -/
def kmt : List (ByteArray × MethodName × Nat × Option FieldType × Nat × Nat × Nat × Nat × Nat × Nat) := [
  (prog_2_method_2_code, ⟨RX0, "readFrom", "(LSneezeKing$Page;I)V"⟩, 4, none, 0, 2, 5, 112, 279, 10),
  (prog_2_method_4_code, ⟨RX0, "seats", "()I"⟩, 1, (some .int), 0, 0, 0, 0, 382, 10),
  (prog_2_method_5_code, ⟨RX0, "seated", "(I)Z"⟩, 2, (some .boolean), 0, 1, 0, 0, 326, 10),
  (prog_2_method_6_code, ⟨RX0, "kindOf", "(I)I"⟩, 2, (some .int), 0, 1, 1, 21, 330, 10),
  (prog_2_method_7_code, ⟨RX0, "isKind", "(II)Z"⟩, 3, (some .boolean), 0, 2, 1, 21, 306, 10),
  (prog_2_method_8_code, ⟨RX0, "noseOf", "(I)I"⟩, 2, (some .int), 0, 1, 1, 21, 334, 10),
  (prog_2_method_9_code, ⟨RX0, "changeNose", "(II)I"⟩, 3, (some .int), 0, 2, 1, 23, 363, 10),
  (prog_2_method_10_code, ⟨RX0, "sayingOf", "(I)I"⟩, 2, (some .int), 0, 1, 1, 21, 338, 10),
  (prog_2_method_11_code, ⟨RX0, "changeSaying", "(II)I"⟩, 3, (some .int), 0, 2, 1, 23, 374, 10),
  (prog_2_method_12_code, ⟨RX0, "reignsOf", "(I)I"⟩, 2, (some .int), 0, 1, 1, 21, 350, 10),
  (prog_2_method_13_code, ⟨RX0, "reignsOfAll", "()I"⟩, 1, (some .int), 0, 0, 2, 44, 569, 10),
  (prog_2_method_14_code, ⟨RX0, "draughtAt", "()I"⟩, 1, (some .int), 0, 0, 0, 0, 419, 10),
  (prog_2_method_15_code, ⟨RX0, "moveDraught", "(I)I"⟩, 3, (some .int), 0, 1, 0, 0, 386, 10),
  (prog_2_method_16_code, ⟨RX0, "peppered", "()Z"⟩, 1, (some .boolean), 0, 0, 0, 0, 558, 10),
  (prog_2_method_17_code, ⟨RX0, "changePepper", "(Z)Z"⟩, 3, (some .boolean), 0, 1, 0, 0, 600, 10),
  (prog_2_method_18_code, ⟨RX0, "held", "()I"⟩, 1, (some .int), 0, 0, 0, 0, 431, 10),
  (prog_2_method_19_code, ⟨RX0, "hourNumber", "()I"⟩, 1, (some .int), 0, 0, 0, 0, 427, 10),
  (prog_2_method_20_code, ⟨RX0, "toldHours", "()I"⟩, 1, (some .int), 0, 0, 0, 0, 574, 10),
  (prog_2_method_24_code, ⟨RX0, "tenthsNow", "(I)I"⟩, 2, (some .int), 0, 1, 3, 69, 342, 10),
  (prog_2_method_25_code, ⟨RX0, "tenthsIn", "(IIII)I"⟩, 7, (some .int), 0, 4, 2, 43, 346, 10),
  (prog_2_method_26_code, ⟨RX0, "canSneeze", "(I)Z"⟩, 4, (some .boolean), 0, 1, 4, 90, 394, 10),
  (prog_2_method_27_code, ⟨RX0, "kingOf", "(I)I"⟩, 2, (some .int), 0, 1, 0, 0, 403, 10),
  (prog_2_method_28_code, ⟨RX0, "passHour", "(I)I"⟩, 3, (some .int), 0, 1, 2, 42, 399, 10),
  (prog_2_method_29_code, ⟨RX0, "findKing", "(I)I"⟩, 7, (some .int), 0, 1, 2, 43, 299, 10),
  (prog_2_method_30_code, ⟨RX0, "nextOf", "(I)I"⟩, 2, (some .int), 0, 1, 0, 0, 311, 10),
  (prog_3_method_2_code, ⟨RX1, "size", "()I"⟩, 1, (some .int), 1, 0, 0, 0, 539, 11),
  (prog_3_method_3_code, ⟨RX1, "codeAt", "(I)I"⟩, 2, (some .int), 1, 1, 1, 21, 172, 11),
  (prog_3_method_4_code, ⟨RX1, "add", "(I)Z"⟩, 2, (some .boolean), 1, 1, 0, 0, 535, 11),
  (prog_3_method_5_code, ⟨RX1, "empty", "()I"⟩, 2, (some .int), 1, 0, 0, 0, 318, 11),
  (prog_3_method_6_code, ⟨RX1, "firstWrong", "()I"⟩, 2, (some .int), 1, 0, 5, 112, 168, 11),
  (prog_3_method_7_code, ⟨RX1, "councilSeats", "()I"⟩, 3, (some .int), 1, 0, 6, 133, 274, 11),
  (prog_3_method_8_code, ⟨RX1, "kindAt", "(I)I"⟩, 2, (some .int), 1, 1, 4, 91, 284, 11),
  (prog_3_method_9_code, ⟨RX1, "noseAt", "(I)I"⟩, 2, (some .int), 1, 1, 2, 42, 291, 11),
  (prog_3_method_10_code, ⟨RX1, "sayingAt", "(I)I"⟩, 2, (some .int), 1, 1, 2, 42, 295, 11),
  (prog_3_method_11_code, ⟨RX1, "belongs", "(II)Z"⟩, 2, (some .boolean), 1, 2, 4, 91, 178, 11),
  (prog_4_method_2_code, ⟨RX2, "kingWeight", "(II)J"⟩, 3, (some .long), 2, 2, 4, 94, 423, 12),
  (prog_4_method_7_code, ⟨RX2, "weighTenths", "(III)V"⟩, 6, none, 2, 3, 3, 69, 435, 12),
  (prog_4_method_9_code, ⟨RX2, "crown", "([J)V"⟩, 5, none, 2, 1, 2, 43, 441, 12),
  (prog_4_method_10_code, ⟨RX2, "weighSets", "()I"⟩, 4, (some .int), 2, 0, 1, 20, 445, 12),
  (prog_5_method_2_code, ⟨RX3, "said", "(II)I"⟩, 2, (some .int), 3, 2, 0, 0, 408, 22),
  (prog_6_method_2_code, ⟨RX4, "tells", "(I)Z"⟩, 1, (some .boolean), 4, 1, 0, 0, 473, 13),
  (prog_6_method_3_code, ⟨RX4, "live", "(II)V"⟩, 4, none, 4, 2, 5, 114, 477, 13),
  (prog_6_method_4_code, ⟨RX4, "answer", "(I)I"⟩, 2, (some .int), 4, 1, 2, 44, 510, 13),
  (prog_6_method_5_code, ⟨RX4, "liveHour", "(I)V"⟩, 3, none, 4, 1, 4, 92, 484, 13),
  (prog_6_method_6_code, ⟨RX4, "drawSneezers", "(I)I"⟩, 4, (some .int), 4, 1, 3, 69, 488, 13),
  (prog_6_method_7_code, ⟨RX4, "drawOfTen", "()I"⟩, 1, (some .int), 4, 0, 0, 0, 493, 13),
  (prog_1_method_2_code, ⟨RX5, "letter", "(I)I"⟩, 2, (some .int), 5, 1, 1, 21, 531, 9),
  (prog_1_method_4_code, ⟨RX5, "fault", "()I"⟩, 1, (some .int), 5, 0, 6, 133, 164, 9),
  (prog_1_method_5_code, ⟨RX5, "council", "()I"⟩, 2, (some .int), 5, 0, 7, 155, 270, 9),
  (prog_1_method_6_code, ⟨RX5, "about", "(II)I"⟩, 3, (some .int), 5, 2, 4, 90, 322, 9),
  (prog_1_method_7_code, ⟨RX5, "as", "(II)I"⟩, 3, (some .int), 5, 2, 2, 43, 354, 9),
  (prog_1_method_8_code, ⟨RX5, "nose", "(II)I"⟩, 3, (some .int), 5, 2, 2, 45, 359, 9),
  (prog_1_method_9_code, ⟨RX5, "bribe", "(II)I"⟩, 3, (some .int), 5, 2, 2, 45, 367, 9),
  (prog_1_method_10_code, ⟨RX5, "draught", "(I)I"⟩, 2, (some .int), 5, 1, 1, 22, 378, 9),
  (prog_1_method_11_code, ⟨RX5, "pepper", "(Z)I"⟩, 2, (some .int), 5, 1, 1, 22, 596, 9),
  (prog_1_method_12_code, ⟨RX5, "hour", "(I)I"⟩, 2, (some .int), 5, 1, 5, 113, 390, 9),
  (prog_1_method_13_code, ⟨RX5, "laws", "()I"⟩, 1, (some .int), 5, 0, 1, 20, 549, 9),
  (prog_1_method_14_code, ⟨RX5, "king", "(II)J"⟩, 5, (some .long), 5, 2, 5, 116, 412, 9),
  (prog_1_method_16_code, ⟨RX5, "window", "(I)I"⟩, 8, (some .int), 5, 1, 5, 116, 466, 9),
  (prog_1_method_23_code, ⟨RX5, "years", "(III)I"⟩, 4, (some .int), 5, 3, 6, 137, 470, 9),
  (prog_1_method_26_code, ⟨RX5, "count", "(I)I"⟩, 2, (some .int), 5, 1, 3, 64, 554, 9),
  (prog_1_method_28_code, ⟨RX5, "isLaw", "(I)Z"⟩, 1, (some .boolean), 5, 1, 0, 0, 370, 9),
  (prog_1_method_30_code, ⟨RX5, "isIn", "(II)Z"⟩, 2, (some .boolean), 5, 2, 0, 0, 302, 9),
  (prog_1_method_31_code, ⟨RX5, "at", "([II)I"⟩, 2, (some .int), 5, 2, 0, 0, 175, 9),
  (prog_1_method_32_code, ⟨RX5, "at", "([JI)J"⟩, 2, (some .long), 5, 2, 0, 0, 452, 9),
  (prog_1_method_33_code, ⟨RX5, "exchange", "([III)I"⟩, 4, (some .int), 5, 3, 0, 0, 287, 9),
  (prog_1_method_35_code, ⟨RX5, "sum", "([II)I"⟩, 4, (some .int), 5, 2, 1, 21, 513, 9),
  (prog_1_method_36_code, ⟨RX5, "tenTo", "(I)J"⟩, 4, (some .long), 5, 1, 0, 0, 455, 9),
  (prog_1_method_37_code, ⟨RX5, "lowestTerm", "(JJI)J"⟩, 9, (some .long), 5, 3, 1, 30, 459, 9),
  (prog_1_method_38_code, ⟨RX5, "commonDivisor", "(JJ)J"⟩, 11, (some .long), 5, 2, 0, 0, 462, 9),
  (method_2_code, ⟨RL, "cell", "([II)I"⟩, 2, (some .int), 7, 2, 0, 0, 517, 8),
  (method_3_code, ⟨RL, "at", "(II)I"⟩, 2, (some .int), 7, 2, 0, 0, 521, 8),
  (method_4_code, ⟨RL, "councilText", "([III[I[I[I)I"⟩, 9, (some .int), 7, 6, 1, 21, 524, 8),
  (method_5_code, ⟨RL, "write", "(LSneezeKing;[II)Z"⟩, 4, (some .boolean), 7, 3, 2, 42, 527, 8),
  (method_6_code, ⟨RL, "tenths", "([I[II)I"⟩, 4, (some .int), 7, 3, 0, 0, 545, 8),
  (method_7_code, ⟨RL, "king", "([II)I"⟩, 7, (some .int), 7, 2, 0, 0, 589, 8),
  (method_8_code, ⟨RL, "say", "(II)I"⟩, 3, (some .int), 7, 2, 0, 0, 592, 8),
  (method_9_code, ⟨RL, "go", "([I[II)I"⟩, 4, (some .int), 7, 3, 1, 26, 586, 8),
  (method_10_code, ⟨RL, "may", "([I[II)Z"⟩, 4, (some .boolean), 7, 3, 1, 23, 583, 8),
  (method_11_code, ⟨RL, "share", "([I[II)J"⟩, 6, (some .long), 7, 3, 1, 23, 611, 8),
  (method_12_code, ⟨RL, "parts", "(JJJJ)Z"⟩, 14, (some .boolean), 7, 4, 0, 0, 614, 8),
  (method_13_code, ⟨RL, "size", "(I)I"⟩, 3, (some .int), 7, 1, 0, 0, 577, 8),
  (method_14_code, ⟨RL, "over", "([I[I)V"⟩, 3, none, 7, 2, 0, 0, 608, 8),
  (method_15_code, ⟨RL, "stands", "(LSneezeKing;[I[I)Z"⟩, 5, (some .boolean), 7, 3, 5, 112, 542, 8),
  (method_16_code, ⟨RL, "does", "(LSneezeKing;[I[II)Z"⟩, 8, (some .boolean), 7, 4, 6, 134, 580, 8),
  (code, ⟨RL, "law", "([I)Z"⟩, 9, (some .boolean), 7, 1, 8, 191, 0, 8),
  (method_18_code, ⟨RL, "kings", "(LSneezeKing;[I[I)Z"⟩, 14, (some .boolean), 7, 3, 6, 143, 603, 8),
  (method_19_code, ⟨RL, "years", "(LSneezeKing;[I[III)Z"⟩, 12, (some .boolean), 7, 5, 7, 160, 617, 8),
  (method_20_code, ⟨RL, "after", "(J)J"⟩, 2, (some .long), 7, 1, 0, 0, 620, 8),
  (prog_10_method_49_code, ⟨RJ6, "bitCount", "(I)I"⟩, 1, (some .int), 11, 1, 0, 0, 561, 21),
  (prog_12_method_54_code, ⟨RJ0, "length", "()I"⟩, 1, (some .int), 8, 0, 1, 20, 197, 14),
  (prog_12_method_79_code, ⟨RJ0, "indexOf", "(I)I"⟩, 2, (some .int), 8, 1, 3, 70, 183, 14),
  (prog_12_method_80_code, ⟨RJ0, "indexOf", "(II)I"⟩, 3, (some .int), 8, 2, 2, 48, 187, 14),
  (prog_12_method_152_code, ⟨RJ0, "coder", "()B"⟩, 1, (some .byte), 8, 0, 0, 0, 201, 14),
  (prog_12_method_154_code, ⟨RJ0, "isLatin1", "()Z"⟩, 1, (some .boolean), 8, 0, 0, 0, 191, 14),
  (prog_13_method_4_code, ⟨RJ1, "canEncode", "(I)Z"⟩, 1, (some .boolean), 9, 1, 0, 0, 207, 15),
  (prog_13_method_22_code, ⟨RJ1, "indexOf", "([BIII)I"⟩, 4, (some .int), 9, 4, 1, 25, 204, 15),
  (prog_13_method_23_code, ⟨RJ1, "indexOfChar", "([BIII)I"⟩, 6, (some .int), 9, 4, 0, 0, 216, 15),
  (prog_15_method_101_code, ⟨RJ7, "fill", "([JJ)V"⟩, 5, none, 10, 2, 0, 0, 448, 20),
  (prog_15_method_103_code, ⟨RJ7, "fill", "([II)V"⟩, 4, none, 10, 2, 0, 0, 314, 20)]
def kmr (m : Nat) : ByteArray × MethodName × Nat × Option FieldType × Nat × Nat × Nat × Nat × Nat × Nat := kmt.getD m (⟨#[]⟩, ⟨"", "", ""⟩, 0, none, 0, 0, 0, 0, 0, 0)
def mbyt (m : Nat) : ByteArray := (kmr m).1
def my (m : Nat) : MethodName := (kmr m).2.1
def mnL (m : Nat) : Nat := (kmr m).2.2.1
def mrt (m : Nat) : Option FieldType := (kmr m).2.2.2.1
def mow (m : Nat) : Nat := (kmr m).2.2.2.2.1
def mna (m : Nat) : Nat := (kmr m).2.2.2.2.2.1
def mfr (m : Nat) : Nat := (kmr m).2.2.2.2.2.2.1
def mlo (m : Nat) : Nat := (kmr m).2.2.2.2.2.2.2.1
def mpc (m : Nat) : Nat := (kmr m).2.2.2.2.2.2.2.2.1
def mpi (m : Nat) : Nat := (kmr m).2.2.2.2.2.2.2.2.2
def kNM : Nat := 100
def kLaw : Nat := 85
def kMk : Nat := 86
def kMy : Nat := 87
/-- own, index, kind of object, field, place of the word -/
def kfT : List (Nat × Nat × Nat × Nat × Nat) := [(0, 9, 0, 0, 37), (0, 15, 0, 1, 38), (0, 18, 0, 2, 39), (0, 21, 0, 3, 40), (0, 24, 0, 4, 41), (0, 27, 0, 5, 42), (0, 40, 0, 6, 43), (0, 30, 0, 7, 44), (0, 68, 0, 8, 45), (0, 72, 0, 9, 46), (0, 75, 0, 10, 47), (0, 78, 0, 11, 48), (1, 11, 1, 0, 81), (1, 15, 1, 1, 82), (2, 33, 2, 0, 94), (2, 9, 2, 1, 95), (2, 15, 2, 2, 96), (2, 18, 2, 3, 97), (2, 21, 2, 4, 98), (2, 24, 2, 5, 99), (2, 27, 2, 6, 100), (2, 30, 2, 7, 101), (4, 15, 3, 0, 126), (4, 9, 3, 1, 127), (4, 31, 3, 2, 128), (4, 34, 3, 3, 129), (5, 13, 4, 0, 139), (5, 19, 4, 1, 140), (5, 23, 4, 2, 141), (5, 31, 4, 3, 142), (5, 38, 4, 4, 143), (5, 63, 4, 5, 144), (5, 67, 4, 6, 145), (8, 15, 9, 1, 628), (8, 9, 9, 0, 629)]
/-- own, index, kind (0 virtual, 1 static, 2 static of a nest mate), method, places of the words -/
def kcT : List (Nat × Nat × Nat × Nat × Nat × Nat × Nat) := [(7, 79, 0, 47, 161, 162, 163), (5, 53, 0, 29, 165, 166, 167), (1, 23, 0, 26, 169, 170, 171), (1, 19, 2, 63, 173, 174, 0), (1, 27, 1, 34, 176, 177, 0), (1, 37, 0, 91, 180, 181, 182), (8, 633, 0, 92, 184, 185, 186), (8, 492, 0, 94, 188, 189, 190), (8, 505, 0, 90, 194, 195, 196), (8, 335, 0, 93, 198, 199, 200), (8, 637, 1, 96, 202, 203, 0), (9, 88, 1, 95, 205, 206, 0), (9, 95, 1, 97, 214, 215, 0), (7, 82, 0, 48, 267, 268, 269), (5, 56, 0, 30, 271, 272, 273), (1, 31, 0, 29, 275, 166, 167), (5, 59, 0, 0, 276, 277, 278), (0, 43, 0, 31, 281, 282, 283), (0, 49, 2, 65, 285, 286, 0), (0, 53, 0, 32, 288, 289, 290), (0, 56, 0, 33, 292, 293, 294), (0, 59, 0, 23, 296, 298, 0), (0, 100, 2, 62, 300, 301, 0), (0, 96, 0, 4, 303, 304, 305), (0, 85, 2, 63, 307, 174, 0), (0, 121, 0, 24, 308, 310, 1), (0, 62, 1, 99, 312, 313, 0), (5, 50, 0, 28, 315, 316, 317), (7, 34, 0, 49, 319, 320, 321), (5, 71, 0, 2, 323, 324, 325), (5, 74, 0, 3, 327, 328, 329), (5, 78, 0, 5, 331, 332, 333), (5, 81, 0, 7, 335, 336, 337), (5, 84, 0, 18, 339, 340, 341), (0, 92, 0, 19, 343, 344, 345), (5, 87, 0, 9, 347, 348, 349), (7, 89, 0, 50, 351, 352, 353), (5, 90, 0, 4, 355, 304, 305), (7, 57, 0, 51, 356, 357, 358), (5, 94, 0, 6, 360, 361, 362), (7, 60, 0, 52, 364, 365, 366), (5, 98, 1, 61, 368, 369, 0), (5, 101, 0, 8, 371, 372, 373), (7, 67, 0, 53, 375, 376, 377), (5, 104, 0, 1, 379, 380, 381), (5, 107, 0, 12, 383, 384, 385), (7, 51, 0, 55, 387, 388, 389), (5, 114, 0, 20, 391, 392, 393), (0, 103, 0, 18, 395, 340, 341), (5, 117, 0, 22, 396, 397, 398), (0, 106, 0, 21, 400, 401, 402), (0, 109, 0, 2, 404, 324, 325), (0, 113, 0, 7, 405, 336, 337), (0, 116, 1, 39, 406, 407, 0), (7, 104, 0, 57, 409, 410, 411), (5, 129, 0, 11, 416, 417, 418), (5, 132, 0, 35, 420, 421, 422), (2, 37, 0, 16, 424, 425, 426), (2, 43, 0, 15, 428, 429, 430), (2, 46, 0, 36, 432, 434, 2), (2, 88, 0, 1, 436, 380, 381), (2, 91, 0, 19, 437, 344, 345), (2, 50, 0, 37, 438, 440, 3), (2, 95, 0, 38, 442, 444, 4), (2, 68, 1, 98, 446, 447, 0), (2, 98, 0, 21, 449, 401, 402), (2, 54, 2, 64, 450, 451, 0), (5, 136, 1, 67, 453, 454, 0), (5, 140, 1, 68, 457, 458, 0), (5, 255, 1, 69, 460, 461, 0), (7, 111, 0, 58, 463, 464, 465), (7, 114, 0, 59, 467, 468, 469), (5, 178, 1, 40, 471, 472, 0), (5, 181, 0, 41, 474, 475, 476), (4, 19, 1, 99, 478, 313, 0), (4, 25, 0, 15, 479, 429, 430), (4, 38, 0, 16, 480, 425, 426), (4, 41, 0, 43, 481, 483, 5), (4, 52, 0, 44, 485, 487, 6), (4, 76, 0, 1, 489, 380, 381), (4, 79, 0, 45, 490, 492, 7), (4, 82, 0, 11, 499, 417, 418), (4, 85, 0, 19, 500, 344, 345), (4, 56, 0, 21, 501, 401, 402), (4, 59, 0, 2, 502, 324, 325), (4, 49, 2, 63, 503, 174, 0), (4, 63, 2, 65, 504, 286, 0), (4, 67, 0, 7, 505, 336, 337), (4, 70, 1, 39, 506, 407, 0), (5, 184, 0, 42, 507, 508, 509), (4, 45, 2, 66, 511, 512, 0), (5, 249, 1, 63, 514, 174, 0), (7, 8, 1, 70, 515, 516, 0), (7, 14, 1, 71, 519, 520, 0), (7, 71, 1, 72, 522, 523, 0), (7, 75, 1, 73, 525, 526, 0), (7, 18, 0, 46, 528, 529, 530), (5, 42, 0, 27, 532, 533, 534), (5, 46, 0, 25, 536, 537, 538), (7, 85, 1, 83, 540, 541, 0), (7, 30, 1, 74, 543, 544, 0), (7, 37, 0, 56, 546, 547, 548), (5, 120, 0, 15, 550, 429, 430), (7, 41, 0, 60, 551, 552, 553), (5, 193, 0, 13, 555, 556, 557), (5, 197, 1, 89, 559, 560, 0), (5, 190, 0, 16, 565, 425, 426), (5, 202, 0, 10, 566, 567, 568), (0, 89, 2, 66, 570, 512, 0), (5, 169, 0, 17, 571, 572, 573), (7, 44, 1, 81, 575, 576, 0), (7, 92, 1, 84, 578, 579, 0), (7, 47, 1, 78, 581, 582, 0), (7, 54, 1, 77, 584, 585, 0), (7, 24, 1, 75, 587, 588, 0), (7, 27, 1, 76, 590, 591, 0), (7, 63, 0, 54, 593, 594, 595), (5, 110, 0, 14, 597, 598, 599), (7, 96, 1, 86, 601, 602, 0), (7, 121, 1, 82, 606, 607, 0), (7, 125, 1, 79, 609, 610, 0), (7, 129, 1, 80, 612, 613, 0), (7, 100, 1, 87, 615, 616, 0), (7, 133, 1, 88, 618, 619, 0)]
def kiT : List (Nat × Nat × Int32 × Nat) := [(7, 7, 747796405, 518), (11, 265, 1431655765, 562), (11, 266, 858993459, 563), (11, 267, 252645135, 564), (7, 99, 2147483647, 625)]
def klT : List (Nat × Nat × Int64 × Nat) := [(5, 123, -101, 413), (5, 125, -102, 414), (5, 127, -103, 415), (5, 253, 10, 456), (4, 89, 1103515245, 494), (4, 91, 12345, 495), (4, 93, 2147483648, 496), (4, 95, 65536, 497), (4, 97, 10, 498), (7, 117, 10, 604), (7, 119, -1, 605), (7, 139, 1103515245, 621), (7, 141, 12345, 622), (7, 143, 2147483648, 623), (7, 137, 65536, 624), (7, 107, -101, 626), (7, 109, -102, 627)]
/-- own, index, 0 max 1 min, places of link, static, code -/
def kmT : List (Nat × Nat × Nat × Nat × Nat × Nat) := [(9, 92, 0, 208, 209, 210), (9, 38, 1, 211, 212, 213), (0, 34, 1, 280, 212, 213)]
def kmi : Nat := 16
/-- the places of COMPACT_STRINGS, the text -/
def kgs : Nat × Nat × Nat := (8, 38, 192)
def kst : Nat × Nat := (1, 35)
