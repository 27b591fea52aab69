section
-- ===== PART A: goes FIRST, ahead of the names: the tables' words, and 'selects' of the private methods out of them =====
/-- a private method of a class that the tables say can be made, by its rows of tables_1 -/
def lw_okq (q : MethodName × Nat) : Prop := (q.1.cls ≠ "java/lang/invoke/MethodHandle" ∧ q.1.cls ≠ "java/lang/invoke/VarHandle") ∧ Cond.instantiable q.1.cls q.2 ∈ tables_1 ∧ Cond.privateMethod q.1 ∈ tables_1 ∧ Cond.instanceMethod q.1 ∈ tables_1
theorem lw_p0 : lw_okq (⟨"SneezeKing$Council", "findKing", "(I)I"⟩, 12) := ⟨⟨by decide +kernel, by decide +kernel⟩, List.mem_of_getElem? (i := 24) (by decide +kernel), List.mem_of_getElem? (i := 289) (by decide +kernel), List.mem_of_getElem? (i := 290) (by decide +kernel)⟩
theorem lw_p1 : lw_okq (⟨"SneezeKing$Council", "nextOf", "(I)I"⟩, 12) := ⟨⟨by decide +kernel, by decide +kernel⟩, List.mem_of_getElem? (i := 24) (by decide +kernel), List.mem_of_getElem? (i := 301) (by decide +kernel), List.mem_of_getElem? (i := 302) (by decide +kernel)⟩
theorem lw_p2 : lw_okq (⟨"SneezeKing$Prospect", "weighTenths", "(III)V"⟩, 8) := ⟨⟨by decide +kernel, by decide +kernel⟩, List.mem_of_getElem? (i := 81) (by decide +kernel), List.mem_of_getElem? (i := 425) (by decide +kernel), List.mem_of_getElem? (i := 426) (by decide +kernel)⟩
theorem lw_p3 : lw_okq (⟨"SneezeKing$Prospect", "crown", "([J)V"⟩, 8) := ⟨⟨by decide +kernel, by decide +kernel⟩, List.mem_of_getElem? (i := 81) (by decide +kernel), List.mem_of_getElem? (i := 431) (by decide +kernel), List.mem_of_getElem? (i := 432) (by decide +kernel)⟩
theorem lw_p4 : lw_okq (⟨"SneezeKing$Prospect", "weighSets", "()I"⟩, 8) := ⟨⟨by decide +kernel, by decide +kernel⟩, List.mem_of_getElem? (i := 81) (by decide +kernel), List.mem_of_getElem? (i := 435) (by decide +kernel), List.mem_of_getElem? (i := 436) (by decide +kernel)⟩
theorem lw_p5 : lw_okq (⟨"SneezeKing$Years", "liveHour", "(I)V"⟩, 4) := ⟨⟨by decide +kernel, by decide +kernel⟩, List.mem_of_getElem? (i := 113) (by decide +kernel), List.mem_of_getElem? (i := 474) (by decide +kernel), List.mem_of_getElem? (i := 475) (by decide +kernel)⟩
theorem lw_p6 : lw_okq (⟨"SneezeKing$Years", "drawSneezers", "(I)I"⟩, 4) := ⟨⟨by decide +kernel, by decide +kernel⟩, List.mem_of_getElem? (i := 113) (by decide +kernel), List.mem_of_getElem? (i := 478) (by decide +kernel), List.mem_of_getElem? (i := 479) (by decide +kernel)⟩
theorem lw_p7 : lw_okq (⟨"SneezeKing$Years", "drawOfTen", "()I"⟩, 4) := ⟨⟨by decide +kernel, by decide +kernel⟩, List.mem_of_getElem? (i := 113) (by decide +kernel), List.mem_of_getElem? (i := 483) (by decide +kernel), List.mem_of_getElem? (i := 484) (by decide +kernel)⟩
def lw_privs_1 : List (MethodName × Nat) := [(⟨"SneezeKing$Council", "findKing", "(I)I"⟩, 12), (⟨"SneezeKing$Council", "nextOf", "(I)I"⟩, 12), (⟨"SneezeKing$Prospect", "weighTenths", "(III)V"⟩, 8), (⟨"SneezeKing$Prospect", "crown", "([J)V"⟩, 8), (⟨"SneezeKing$Prospect", "weighSets", "()I"⟩, 8), (⟨"SneezeKing$Years", "liveHour", "(I)V"⟩, 4), (⟨"SneezeKing$Years", "drawSneezers", "(I)I"⟩, 4), (⟨"SneezeKing$Years", "drawOfTen", "()I"⟩, 4)]
theorem lw_r1 : ∀ q ∈ lw_privs_1, lw_okq q := List.forall_mem_cons.mpr ⟨lw_p0, List.forall_mem_cons.mpr ⟨lw_p1, List.forall_mem_cons.mpr ⟨lw_p2, List.forall_mem_cons.mpr ⟨lw_p3, List.forall_mem_cons.mpr ⟨lw_p4, List.forall_mem_cons.mpr ⟨lw_p5, List.forall_mem_cons.mpr ⟨lw_p6, List.forall_mem_cons.mpr ⟨lw_p7, fun _ h => absurd h List.not_mem_nil⟩⟩⟩⟩⟩⟩⟩⟩
def lw_privs : List (MethodName × Nat) := lw_privs_1
def lw_tbl : List Cond := k2_sels lw_privs ++ tables_1
theorem lw_privs_ok : ∀ q ∈ lw_privs, lw_okq q := lw_r1
-- ===== end of PART A
end
section
def RX0 : String := "SneezeKing$Council"
def RX1 : String := "SneezeKing$Page"
def RX2 : String := "SneezeKing$Prospect"
def RX3 : String := "SneezeKing$Statutes"
def RX4 : String := "SneezeKing$Years"
def RX5 : String := "SneezeKing"
def RX6 : String := "SneezeKingModel"
def RL : String := "SneezeKingLaw"
def RJ0 : String := "java/lang/String"
def RJ1 : String := "java/lang/StringLatin1"
def RJ7 : String := "java/util/Arrays"
def RJ6 : String := "java/lang/Integer"
def TX0 : u_T := fun k => match k with
  | 0 => ("SneezeKing$Council", "kinds", "[I", true)
  | 1 => ("SneezeKing$Council", "noses", "[I", true)
  | 2 => ("SneezeKing$Council", "sayings", "[I", true)
  | 3 => ("SneezeKing$Council", "reigns", "[I", true)
  | 4 => ("SneezeKing$Council", "kings", "[I", true)
  | 5 => ("SneezeKing$Council", "told", "[I", true)
  | 6 => ("SneezeKing$Council", "seats", "I", false)
  | 7 => ("SneezeKing$Council", "draughtAt", "I", false)
  | 8 => ("SneezeKing$Council", "peppered", "Z", false)
  | 9 => ("SneezeKing$Council", "held", "I", false)
  | 10 => ("SneezeKing$Council", "hourNumber", "I", false)
  | _ => ("SneezeKing$Council", "toldHours", "I", false)
def tyX0 : Nat → FieldType := fun k => match k with
  | 0 => .array .int
  | 1 => .array .int
  | 2 => .array .int
  | 3 => .array .int
  | 4 => .array .int
  | 5 => .array .int
  | 6 => .int
  | 7 => .int
  | 8 => .boolean
  | 9 => .int
  | 10 => .int
  | _ => .int
theorem nmX0 : ∀ a, a < 12 → ∀ b, b < 12 → a ≠ b → (TX0 a).2.1 ≠ (TX0 b).2.1 := by decide +kernel
theorem tyX0_ok : ∀ k, k < 12 → parseFieldDescriptor (TX0 k).2.2.1 = some (tyX0 k) := by decide +kernel
def TX1 : u_T := fun k => match k with
  | 0 => ("SneezeKing$Page", "codes", "[I", true)
  | _ => ("SneezeKing$Page", "size", "I", false)
def tyX1 : Nat → FieldType := fun k => match k with
  | 0 => .array .int
  | _ => .int
theorem nmX1 : ∀ a, a < 2 → ∀ b, b < 2 → a ≠ b → (TX1 a).2.1 ≠ (TX1 b).2.1 := by decide +kernel
theorem tyX1_ok : ∀ k, k < 2 → parseFieldDescriptor (TX1 k).2.2.1 = some (tyX1 k) := by decide +kernel
def TX2 : u_T := fun k => match k with
  | 0 => ("SneezeKing$Prospect", "council", "LSneezeKing$Council;", true)
  | 1 => ("SneezeKing$Prospect", "sneezing", "[J", true)
  | 2 => ("SneezeKing$Prospect", "silent", "[J", true)
  | 3 => ("SneezeKing$Prospect", "bySet", "[J", true)
  | 4 => ("SneezeKing$Prospect", "kingsFree", "[J", true)
  | 5 => ("SneezeKing$Prospect", "kingsBanned", "[J", true)
  | 6 => ("SneezeKing$Prospect", "worth", "[J", false)
  | _ => ("SneezeKing$Prospect", "spare", "[J", false)
def tyX2 : Nat → FieldType := fun k => match k with
  | 0 => .object "SneezeKing$Council"
  | 1 => .array .long
  | 2 => .array .long
  | 3 => .array .long
  | 4 => .array .long
  | 5 => .array .long
  | 6 => .array .long
  | _ => .array .long
theorem nmX2 : ∀ a, a < 8 → ∀ b, b < 8 → a ≠ b → (TX2 a).2.1 ≠ (TX2 b).2.1 := by decide +kernel
theorem tyX2_ok : ∀ k, k < 8 → parseFieldDescriptor (TX2 k).2.2.1 = some (tyX2 k) := by decide +kernel
def TX4 : u_T := fun k => match k with
  | 0 => ("SneezeKing$Years", "council", "LSneezeKing$Council;", true)
  | 1 => ("SneezeKing$Years", "reigns", "[I", true)
  | 2 => ("SneezeKing$Years", "held", "I", false)
  | _ => ("SneezeKing$Years", "seed", "J", false)
def tyX4 : Nat → FieldType := fun k => match k with
  | 0 => .object "SneezeKing$Council"
  | 1 => .array .int
  | 2 => .int
  | _ => .long
theorem nmX4 : ∀ a, a < 4 → ∀ b, b < 4 → a ≠ b → (TX4 a).2.1 ≠ (TX4 b).2.1 := by decide +kernel
theorem tyX4_ok : ∀ k, k < 4 → parseFieldDescriptor (TX4 k).2.2.1 = some (tyX4 k) := by decide +kernel
def TX5 : u_T := fun k => match k with
  | 0 => ("SneezeKing", "page", "LSneezeKing$Page;", true)
  | 1 => ("SneezeKing", "now", "LSneezeKing$Council;", true)
  | 2 => ("SneezeKing", "kept", "LSneezeKing$Council;", true)
  | 3 => ("SneezeKing", "prospect", "LSneezeKing$Prospect;", true)
  | 4 => ("SneezeKing", "lived", "LSneezeKing$Years;", true)
  | 5 => ("SneezeKing", "hasImage", "Z", false)
  | _ => ("SneezeKing", "councilsRead", "I", false)
def tyX5 : Nat → FieldType := fun k => match k with
  | 0 => .object "SneezeKing$Page"
  | 1 => .object "SneezeKing$Council"
  | 2 => .object "SneezeKing$Council"
  | 3 => .object "SneezeKing$Prospect"
  | 4 => .object "SneezeKing$Years"
  | 5 => .boolean
  | _ => .int
theorem nmX5 : ∀ a, a < 7 → ∀ b, b < 7 → a ≠ b → (TX5 a).2.1 ≠ (TX5 b).2.1 := by decide +kernel
theorem tyX5_ok : ∀ k, k < 7 → parseFieldDescriptor (TX5 k).2.2.1 = some (tyX5 k) := by decide +kernel
abbrev vwCl : List vw_C := [(RX0, TX0, 12), (RX1, TX1, 2), (RX2, TX2, 8), (RX4, TX4, 4), (RX5, TX5, 7)]
/-- names of the classes that own methods -/
def kcn : List String := [RX0, RX1, RX2, RX3, RX4, RX5, RX6, RL, RJ0, RJ1, RJ7, RJ6]
def cow (c : Nat) : String := kcn.getD c ""
/-- bytes, name, locals, answer, owner, parameters, frames, words, place of the code word, place of the owner's initialized -/
def kmt : List (ByteArray × MethodName × Nat × Option FieldType × Nat × Nat × Nat × Nat × Nat × Nat) := [
  (prog_2_method_2_code, ⟨RX0, "readFrom", "(LSneezeKing$Page;I)V"⟩, 4, none, 0, 2, 5, 112, 279, 10),
  (prog_2_method_4_code, ⟨RX0, "seats", "()I"⟩, 1, (some .int), 0, 0, 0, 0, 382, 10),
  (prog_2_method_5_code, ⟨RX0, "seated", "(I)Z"⟩, 2, (some .boolean), 0, 1, 0, 0, 326, 10),
  (prog_2_method_6_code, ⟨RX0, "kindOf", "(I)I"⟩, 2, (some .int), 0, 1, 1, 21, 330, 10),
  (prog_2_method_7_code, ⟨RX0, "isKind", "(II)Z"⟩, 3, (some .boolean), 0, 2, 1, 21, 306, 10),
  (prog_2_method_8_code, ⟨RX0, "noseOf", "(I)I"⟩, 2, (some .int), 0, 1, 1, 21, 334, 10),
  (prog_2_method_9_code, ⟨RX0, "changeNose", "(II)I"⟩, 3, (some .int), 0, 2, 1, 23, 363, 10),
  (prog_2_method_10_code, ⟨RX0, "sayingOf", "(I)I"⟩, 2, (some .int), 0, 1, 1, 21, 338, 10),
  (prog_2_method_11_code, ⟨RX0, "changeSaying", "(II)I"⟩, 3, (some .int), 0, 2, 1, 23, 374, 10),
  (prog_2_method_12_code, ⟨RX0, "reignsOf", "(I)I"⟩, 2, (some .int), 0, 1, 1, 21, 350, 10),
  (prog_2_method_13_code, ⟨RX0, "reignsOfAll", "()I"⟩, 1, (some .int), 0, 0, 2, 44, 569, 10),
  (prog_2_method_14_code, ⟨RX0, "draughtAt", "()I"⟩, 1, (some .int), 0, 0, 0, 0, 419, 10),
  (prog_2_method_15_code, ⟨RX0, "moveDraught", "(I)I"⟩, 3, (some .int), 0, 1, 0, 0, 386, 10),
  (prog_2_method_16_code, ⟨RX0, "peppered", "()Z"⟩, 1, (some .boolean), 0, 0, 0, 0, 558, 10),
  (prog_2_method_17_code, ⟨RX0, "changePepper", "(Z)Z"⟩, 3, (some .boolean), 0, 1, 0, 0, 600, 10),
  (prog_2_method_18_code, ⟨RX0, "held", "()I"⟩, 1, (some .int), 0, 0, 0, 0, 431, 10),
  (prog_2_method_19_code, ⟨RX0, "hourNumber", "()I"⟩, 1, (some .int), 0, 0, 0, 0, 427, 10),
  (prog_2_method_20_code, ⟨RX0, "toldHours", "()I"⟩, 1, (some .int), 0, 0, 0, 0, 574, 10),
  (prog_2_method_24_code, ⟨RX0, "tenthsNow", "(I)I"⟩, 2, (some .int), 0, 1, 3, 69, 342, 10),
  (prog_2_method_25_code, ⟨RX0, "tenthsIn", "(IIII)I"⟩, 7, (some .int), 0, 4, 2, 43, 346, 10),
  (prog_2_method_26_code, ⟨RX0, "canSneeze", "(I)Z"⟩, 4, (some .boolean), 0, 1, 4, 90, 394, 10),
  (prog_2_method_27_code, ⟨RX0, "kingOf", "(I)I"⟩, 2, (some .int), 0, 1, 0, 0, 403, 10),
  (prog_2_method_28_code, ⟨RX0, "passHour", "(I)I"⟩, 3, (some .int), 0, 1, 2, 42, 399, 10),
  (prog_2_method_29_code, ⟨RX0, "findKing", "(I)I"⟩, 7, (some .int), 0, 1, 2, 43, 299, 10),
  (prog_2_method_30_code, ⟨RX0, "nextOf", "(I)I"⟩, 2, (some .int), 0, 1, 0, 0, 311, 10),
  (prog_3_method_2_code, ⟨RX1, "size", "()I"⟩, 1, (some .int), 1, 0, 0, 0, 539, 11),
  (prog_3_method_3_code, ⟨RX1, "codeAt", "(I)I"⟩, 2, (some .int), 1, 1, 1, 21, 172, 11),
  (prog_3_method_4_code, ⟨RX1, "add", "(I)Z"⟩, 2, (some .boolean), 1, 1, 0, 0, 535, 11),
  (prog_3_method_5_code, ⟨RX1, "empty", "()I"⟩, 2, (some .int), 1, 0, 0, 0, 318, 11),
  (prog_3_method_6_code, ⟨RX1, "firstWrong", "()I"⟩, 2, (some .int), 1, 0, 5, 112, 168, 11),
  (prog_3_method_7_code, ⟨RX1, "councilSeats", "()I"⟩, 3, (some .int), 1, 0, 6, 133, 274, 11),
  (prog_3_method_8_code, ⟨RX1, "kindAt", "(I)I"⟩, 2, (some .int), 1, 1, 4, 91, 284, 11),
  (prog_3_method_9_code, ⟨RX1, "noseAt", "(I)I"⟩, 2, (some .int), 1, 1, 2, 42, 291, 11),
  (prog_3_method_10_code, ⟨RX1, "sayingAt", "(I)I"⟩, 2, (some .int), 1, 1, 2, 42, 295, 11),
  (prog_3_method_11_code, ⟨RX1, "belongs", "(II)Z"⟩, 2, (some .boolean), 1, 2, 4, 91, 178, 11),
  (prog_4_method_2_code, ⟨RX2, "kingWeight", "(II)J"⟩, 3, (some .long), 2, 2, 4, 94, 423, 12),
  (prog_4_method_7_code, ⟨RX2, "weighTenths", "(III)V"⟩, 6, none, 2, 3, 3, 69, 435, 12),
  (prog_4_method_9_code, ⟨RX2, "crown", "([J)V"⟩, 5, none, 2, 1, 2, 43, 441, 12),
  (prog_4_method_10_code, ⟨RX2, "weighSets", "()I"⟩, 4, (some .int), 2, 0, 1, 20, 445, 12),
  (prog_5_method_2_code, ⟨RX3, "said", "(II)I"⟩, 2, (some .int), 3, 2, 0, 0, 408, 22),
  (prog_6_method_2_code, ⟨RX4, "tells", "(I)Z"⟩, 1, (some .boolean), 4, 1, 0, 0, 473, 13),
  (prog_6_method_3_code, ⟨RX4, "live", "(II)V"⟩, 4, none, 4, 2, 5, 114, 477, 13),
  (prog_6_method_4_code, ⟨RX4, "answer", "(I)I"⟩, 2, (some .int), 4, 1, 2, 44, 510, 13),
  (prog_6_method_5_code, ⟨RX4, "liveHour", "(I)V"⟩, 3, none, 4, 1, 4, 92, 484, 13),
  (prog_6_method_6_code, ⟨RX4, "drawSneezers", "(I)I"⟩, 4, (some .int), 4, 1, 3, 69, 488, 13),
  (prog_6_method_7_code, ⟨RX4, "drawOfTen", "()I"⟩, 1, (some .int), 4, 0, 0, 0, 493, 13),
  (prog_1_method_2_code, ⟨RX5, "letter", "(I)I"⟩, 2, (some .int), 5, 1, 1, 21, 531, 9),
  (prog_1_method_4_code, ⟨RX5, "fault", "()I"⟩, 1, (some .int), 5, 0, 6, 133, 164, 9),
  (prog_1_method_5_code, ⟨RX5, "council", "()I"⟩, 2, (some .int), 5, 0, 7, 155, 270, 9),
  (prog_1_method_6_code, ⟨RX5, "about", "(II)I"⟩, 3, (some .int), 5, 2, 4, 90, 322, 9),
  (prog_1_method_7_code, ⟨RX5, "as", "(II)I"⟩, 3, (some .int), 5, 2, 2, 43, 354, 9),
  (prog_1_method_8_code, ⟨RX5, "nose", "(II)I"⟩, 3, (some .int), 5, 2, 2, 45, 359, 9),
  (prog_1_method_9_code, ⟨RX5, "bribe", "(II)I"⟩, 3, (some .int), 5, 2, 2, 45, 367, 9),
  (prog_1_method_10_code, ⟨RX5, "draught", "(I)I"⟩, 2, (some .int), 5, 1, 1, 22, 378, 9),
  (prog_1_method_11_code, ⟨RX5, "pepper", "(Z)I"⟩, 2, (some .int), 5, 1, 1, 22, 596, 9),
  (prog_1_method_12_code, ⟨RX5, "hour", "(I)I"⟩, 2, (some .int), 5, 1, 5, 113, 390, 9),
  (prog_1_method_13_code, ⟨RX5, "laws", "()I"⟩, 1, (some .int), 5, 0, 1, 20, 549, 9),
  (prog_1_method_14_code, ⟨RX5, "king", "(II)J"⟩, 5, (some .long), 5, 2, 5, 116, 412, 9),
  (prog_1_method_16_code, ⟨RX5, "window", "(I)I"⟩, 8, (some .int), 5, 1, 5, 116, 466, 9),
  (prog_1_method_23_code, ⟨RX5, "years", "(III)I"⟩, 4, (some .int), 5, 3, 6, 137, 470, 9),
  (prog_1_method_26_code, ⟨RX5, "count", "(I)I"⟩, 2, (some .int), 5, 1, 3, 64, 554, 9),
  (prog_1_method_28_code, ⟨RX5, "isLaw", "(I)Z"⟩, 1, (some .boolean), 5, 1, 0, 0, 370, 9),
  (prog_1_method_30_code, ⟨RX5, "isIn", "(II)Z"⟩, 2, (some .boolean), 5, 2, 0, 0, 302, 9),
  (prog_1_method_31_code, ⟨RX5, "at", "([II)I"⟩, 2, (some .int), 5, 2, 0, 0, 175, 9),
  (prog_1_method_32_code, ⟨RX5, "at", "([JI)J"⟩, 2, (some .long), 5, 2, 0, 0, 452, 9),
  (prog_1_method_33_code, ⟨RX5, "exchange", "([III)I"⟩, 4, (some .int), 5, 3, 0, 0, 287, 9),
  (prog_1_method_35_code, ⟨RX5, "sum", "([II)I"⟩, 4, (some .int), 5, 2, 1, 21, 513, 9),
  (prog_1_method_36_code, ⟨RX5, "tenTo", "(I)J"⟩, 4, (some .long), 5, 1, 0, 0, 455, 9),
  (prog_1_method_37_code, ⟨RX5, "lowestTerm", "(JJI)J"⟩, 9, (some .long), 5, 3, 1, 30, 459, 9),
  (prog_1_method_38_code, ⟨RX5, "commonDivisor", "(JJ)J"⟩, 11, (some .long), 5, 2, 0, 0, 462, 9),
  (method_2_code, ⟨RL, "cell", "([II)I"⟩, 2, (some .int), 7, 2, 0, 0, 517, 8),
  (method_3_code, ⟨RL, "at", "(II)I"⟩, 2, (some .int), 7, 2, 0, 0, 521, 8),
  (method_4_code, ⟨RL, "councilText", "([III[I[I[I)I"⟩, 9, (some .int), 7, 6, 1, 21, 524, 8),
  (method_5_code, ⟨RL, "write", "(LSneezeKing;[II)Z"⟩, 4, (some .boolean), 7, 3, 2, 42, 527, 8),
  (method_6_code, ⟨RL, "tenths", "([I[II)I"⟩, 4, (some .int), 7, 3, 0, 0, 545, 8),
  (method_7_code, ⟨RL, "king", "([II)I"⟩, 7, (some .int), 7, 2, 0, 0, 589, 8),
  (method_8_code, ⟨RL, "say", "(II)I"⟩, 3, (some .int), 7, 2, 0, 0, 592, 8),
  (method_9_code, ⟨RL, "go", "([I[II)I"⟩, 4, (some .int), 7, 3, 1, 26, 586, 8),
  (method_10_code, ⟨RL, "may", "([I[II)Z"⟩, 4, (some .boolean), 7, 3, 1, 23, 583, 8),
  (method_11_code, ⟨RL, "share", "([I[II)J"⟩, 6, (some .long), 7, 3, 1, 23, 611, 8),
  (method_12_code, ⟨RL, "parts", "(JJJJ)Z"⟩, 14, (some .boolean), 7, 4, 0, 0, 614, 8),
  (method_13_code, ⟨RL, "size", "(I)I"⟩, 3, (some .int), 7, 1, 0, 0, 577, 8),
  (method_14_code, ⟨RL, "over", "([I[I)V"⟩, 3, none, 7, 2, 0, 0, 608, 8),
  (method_15_code, ⟨RL, "stands", "(LSneezeKing;[I[I)Z"⟩, 5, (some .boolean), 7, 3, 5, 112, 542, 8),
  (method_16_code, ⟨RL, "does", "(LSneezeKing;[I[II)Z"⟩, 8, (some .boolean), 7, 4, 6, 134, 580, 8),
  (code, ⟨RL, "law", "([I)Z"⟩, 9, (some .boolean), 7, 1, 8, 191, 0, 8),
  (method_18_code, ⟨RL, "kings", "(LSneezeKing;[I[I)Z"⟩, 14, (some .boolean), 7, 3, 6, 143, 603, 8),
  (method_19_code, ⟨RL, "years", "(LSneezeKing;[I[III)Z"⟩, 12, (some .boolean), 7, 5, 7, 160, 617, 8),
  (method_20_code, ⟨RL, "after", "(J)J"⟩, 2, (some .long), 7, 1, 0, 0, 620, 8),
  (prog_10_method_49_code, ⟨RJ6, "bitCount", "(I)I"⟩, 1, (some .int), 11, 1, 0, 0, 561, 21),
  (prog_12_method_54_code, ⟨RJ0, "length", "()I"⟩, 1, (some .int), 8, 0, 1, 20, 197, 14),
  (prog_12_method_79_code, ⟨RJ0, "indexOf", "(I)I"⟩, 2, (some .int), 8, 1, 3, 70, 183, 14),
  (prog_12_method_80_code, ⟨RJ0, "indexOf", "(II)I"⟩, 3, (some .int), 8, 2, 2, 48, 187, 14),
  (prog_12_method_152_code, ⟨RJ0, "coder", "()B"⟩, 1, (some .byte), 8, 0, 0, 0, 201, 14),
  (prog_12_method_154_code, ⟨RJ0, "isLatin1", "()Z"⟩, 1, (some .boolean), 8, 0, 0, 0, 191, 14),
  (prog_13_method_4_code, ⟨RJ1, "canEncode", "(I)Z"⟩, 1, (some .boolean), 9, 1, 0, 0, 207, 15),
  (prog_13_method_22_code, ⟨RJ1, "indexOf", "([BIII)I"⟩, 4, (some .int), 9, 4, 1, 25, 204, 15),
  (prog_13_method_23_code, ⟨RJ1, "indexOfChar", "([BIII)I"⟩, 6, (some .int), 9, 4, 0, 0, 216, 15),
  (prog_15_method_101_code, ⟨RJ7, "fill", "([JJ)V"⟩, 5, none, 10, 2, 0, 0, 448, 20),
  (prog_15_method_103_code, ⟨RJ7, "fill", "([II)V"⟩, 4, none, 10, 2, 0, 0, 314, 20)]
def kmr (m : Nat) : ByteArray × MethodName × Nat × Option FieldType × Nat × Nat × Nat × Nat × Nat × Nat := kmt.getD m (⟨#[]⟩, ⟨"", "", ""⟩, 0, none, 0, 0, 0, 0, 0, 0)
def mbyt (m : Nat) : ByteArray := (kmr m).1
def my (m : Nat) : MethodName := (kmr m).2.1
def mnL (m : Nat) : Nat := (kmr m).2.2.1
def mrt (m : Nat) : Option FieldType := (kmr m).2.2.2.1
def mow (m : Nat) : Nat := (kmr m).2.2.2.2.1
def mna (m : Nat) : Nat := (kmr m).2.2.2.2.2.1
def mfr (m : Nat) : Nat := (kmr m).2.2.2.2.2.2.1
def mlo (m : Nat) : Nat := (kmr m).2.2.2.2.2.2.2.1
def mpc (m : Nat) : Nat := (kmr m).2.2.2.2.2.2.2.2.1
def mpi (m : Nat) : Nat := (kmr m).2.2.2.2.2.2.2.2.2
def kNM : Nat := 100
def kLaw : Nat := 85
def kMk : Nat := 86
def kMy : Nat := 87
/-- own, index, kind of object, field, place of the word -/
def kfT : List (Nat × Nat × Nat × Nat × Nat) := [(0, 9, 0, 0, 37), (0, 15, 0, 1, 38), (0, 18, 0, 2, 39), (0, 21, 0, 3, 40), (0, 24, 0, 4, 41), (0, 27, 0, 5, 42), (0, 40, 0, 6, 43), (0, 30, 0, 7, 44), (0, 68, 0, 8, 45), (0, 72, 0, 9, 46), (0, 75, 0, 10, 47), (0, 78, 0, 11, 48), (1, 11, 1, 0, 81), (1, 15, 1, 1, 82), (2, 33, 2, 0, 94), (2, 9, 2, 1, 95), (2, 15, 2, 2, 96), (2, 18, 2, 3, 97), (2, 21, 2, 4, 98), (2, 24, 2, 5, 99), (2, 27, 2, 6, 100), (2, 30, 2, 7, 101), (4, 15, 3, 0, 126), (4, 9, 3, 1, 127), (4, 31, 3, 2, 128), (4, 34, 3, 3, 129), (5, 13, 4, 0, 139), (5, 19, 4, 1, 140), (5, 23, 4, 2, 141), (5, 31, 4, 3, 142), (5, 38, 4, 4, 143), (5, 63, 4, 5, 144), (5, 67, 4, 6, 145), (8, 15, 9, 1, 628), (8, 9, 9, 0, 629)]
/-- own, index, kind (0 virtual, 1 static, 2 static of a nest mate), method, places of the words -/
def kcT : List (Nat × Nat × Nat × Nat × Nat × Nat × Nat) := [(7, 79, 0, 47, 161, 162, 163), (5, 53, 0, 29, 165, 166, 167), (1, 23, 0, 26, 169, 170, 171), (1, 19, 2, 63, 173, 174, 0), (1, 27, 1, 34, 176, 177, 0), (1, 37, 0, 91, 180, 181, 182), (8, 633, 0, 92, 184, 185, 186), (8, 492, 0, 94, 188, 189, 190), (8, 505, 0, 90, 194, 195, 196), (8, 335, 0, 93, 198, 199, 200), (8, 637, 1, 96, 202, 203, 0), (9, 88, 1, 95, 205, 206, 0), (9, 95, 1, 97, 214, 215, 0), (7, 82, 0, 48, 267, 268, 269), (5, 56, 0, 30, 271, 272, 273), (1, 31, 0, 29, 275, 166, 167), (5, 59, 0, 0, 276, 277, 278), (0, 43, 0, 31, 281, 282, 283), (0, 49, 2, 65, 285, 286, 0), (0, 53, 0, 32, 288, 289, 290), (0, 56, 0, 33, 292, 293, 294), (0, 59, 0, 23, 296, 298, 0), (0, 100, 2, 62, 300, 301, 0), (0, 96, 0, 4, 303, 304, 305), (0, 85, 2, 63, 307, 174, 0), (0, 121, 0, 24, 308, 310, 1), (0, 62, 1, 99, 312, 313, 0), (5, 50, 0, 28, 315, 316, 317), (7, 34, 0, 49, 319, 320, 321), (5, 71, 0, 2, 323, 324, 325), (5, 74, 0, 3, 327, 328, 329), (5, 78, 0, 5, 331, 332, 333), (5, 81, 0, 7, 335, 336, 337), (5, 84, 0, 18, 339, 340, 341), (0, 92, 0, 19, 343, 344, 345), (5, 87, 0, 9, 347, 348, 349), (7, 89, 0, 50, 351, 352, 353), (5, 90, 0, 4, 355, 304, 305), (7, 57, 0, 51, 356, 357, 358), (5, 94, 0, 6, 360, 361, 362), (7, 60, 0, 52, 364, 365, 366), (5, 98, 1, 61, 368, 369, 0), (5, 101, 0, 8, 371, 372, 373), (7, 67, 0, 53, 375, 376, 377), (5, 104, 0, 1, 379, 380, 381), (5, 107, 0, 12, 383, 384, 385), (7, 51, 0, 55, 387, 388, 389), (5, 114, 0, 20, 391, 392, 393), (0, 103, 0, 18, 395, 340, 341), (5, 117, 0, 22, 396, 397, 398), (0, 106, 0, 21, 400, 401, 402), (0, 109, 0, 2, 404, 324, 325), (0, 113, 0, 7, 405, 336, 337), (0, 116, 1, 39, 406, 407, 0), (7, 104, 0, 57, 409, 410, 411), (5, 129, 0, 11, 416, 417, 418), (5, 132, 0, 35, 420, 421, 422), (2, 37, 0, 16, 424, 425, 426), (2, 43, 0, 15, 428, 429, 430), (2, 46, 0, 36, 432, 434, 2), (2, 88, 0, 1, 436, 380, 381), (2, 91, 0, 19, 437, 344, 345), (2, 50, 0, 37, 438, 440, 3), (2, 95, 0, 38, 442, 444, 4), (2, 68, 1, 98, 446, 447, 0), (2, 98, 0, 21, 449, 401, 402), (2, 54, 2, 64, 450, 451, 0), (5, 136, 1, 67, 453, 454, 0), (5, 140, 1, 68, 457, 458, 0), (5, 255, 1, 69, 460, 461, 0), (7, 111, 0, 58, 463, 464, 465), (7, 114, 0, 59, 467, 468, 469), (5, 178, 1, 40, 471, 472, 0), (5, 181, 0, 41, 474, 475, 476), (4, 19, 1, 99, 478, 313, 0), (4, 25, 0, 15, 479, 429, 430), (4, 38, 0, 16, 480, 425, 426), (4, 41, 0, 43, 481, 483, 5), (4, 52, 0, 44, 485, 487, 6), (4, 76, 0, 1, 489, 380, 381), (4, 79, 0, 45, 490, 492, 7), (4, 82, 0, 11, 499, 417, 418), (4, 85, 0, 19, 500, 344, 345), (4, 56, 0, 21, 501, 401, 402), (4, 59, 0, 2, 502, 324, 325), (4, 49, 2, 63, 503, 174, 0), (4, 63, 2, 65, 504, 286, 0), (4, 67, 0, 7, 505, 336, 337), (4, 70, 1, 39, 506, 407, 0), (5, 184, 0, 42, 507, 508, 509), (4, 45, 2, 66, 511, 512, 0), (5, 249, 1, 63, 514, 174, 0), (7, 8, 1, 70, 515, 516, 0), (7, 14, 1, 71, 519, 520, 0), (7, 71, 1, 72, 522, 523, 0), (7, 75, 1, 73, 525, 526, 0), (7, 18, 0, 46, 528, 529, 530), (5, 42, 0, 27, 532, 533, 534), (5, 46, 0, 25, 536, 537, 538), (7, 85, 1, 83, 540, 541, 0), (7, 30, 1, 74, 543, 544, 0), (7, 37, 0, 56, 546, 547, 548), (5, 120, 0, 15, 550, 429, 430), (7, 41, 0, 60, 551, 552, 553), (5, 193, 0, 13, 555, 556, 557), (5, 197, 1, 89, 559, 560, 0), (5, 190, 0, 16, 565, 425, 426), (5, 202, 0, 10, 566, 567, 568), (0, 89, 2, 66, 570, 512, 0), (5, 169, 0, 17, 571, 572, 573), (7, 44, 1, 81, 575, 576, 0), (7, 92, 1, 84, 578, 579, 0), (7, 47, 1, 78, 581, 582, 0), (7, 54, 1, 77, 584, 585, 0), (7, 24, 1, 75, 587, 588, 0), (7, 27, 1, 76, 590, 591, 0), (7, 63, 0, 54, 593, 594, 595), (5, 110, 0, 14, 597, 598, 599), (7, 96, 1, 86, 601, 602, 0), (7, 121, 1, 82, 606, 607, 0), (7, 125, 1, 79, 609, 610, 0), (7, 129, 1, 80, 612, 613, 0), (7, 100, 1, 87, 615, 616, 0), (7, 133, 1, 88, 618, 619, 0)]
def kiT : List (Nat × Nat × Int32 × Nat) := [(7, 7, 747796405, 518), (11, 265, 1431655765, 562), (11, 266, 858993459, 563), (11, 267, 252645135, 564), (7, 99, 2147483647, 625)]
def klT : List (Nat × Nat × Int64 × Nat) := [(5, 123, -101, 413), (5, 125, -102, 414), (5, 127, -103, 415), (5, 253, 10, 456), (4, 89, 1103515245, 494), (4, 91, 12345, 495), (4, 93, 2147483648, 496), (4, 95, 65536, 497), (4, 97, 10, 498), (7, 117, 10, 604), (7, 119, -1, 605), (7, 139, 1103515245, 621), (7, 141, 12345, 622), (7, 143, 2147483648, 623), (7, 137, 65536, 624), (7, 107, -101, 626), (7, 109, -102, 627)]
/-- own, index, 0 max 1 min, places of link, static, code -/
def kmT : List (Nat × Nat × Nat × Nat × Nat × Nat) := [(9, 92, 0, 208, 209, 210), (9, 38, 1, 211, 212, 213), (0, 34, 1, 280, 212, 213)]
def kmi : Nat := 16
/-- the places of COMPACT_STRINGS, the text -/
def kgs : Nat × Nat × Nat := (8, 38, 192)
def kst : Nat × Nat := (1, 35)
end
section
/-! what the tables say of the names: every word by its place -/
def kAW : List Cond := lw_tbl.filter goodWord
theorem kAW_of {w : Cond} {i : Nat} (h : lw_tbl[i]? = some w) (hg : goodWord w = true) : w ∈ kAW := List.mem_filter.mpr ⟨List.mem_of_getElem? h, hg⟩
theorem kAW_good : GoodIn kAW kAW := fun w h => ⟨h, good_of_word (List.mem_filter.mp h).2⟩
theorem kc_0 : lw_tbl[mpc 0]? = some (.code (my 0) (mbyt 0) (mnL 0) (mrt 0)) := by decide +kernel
theorem kc_1 : lw_tbl[mpc 1]? = some (.code (my 1) (mbyt 1) (mnL 1) (mrt 1)) := by decide +kernel
theorem kc_2 : lw_tbl[mpc 2]? = some (.code (my 2) (mbyt 2) (mnL 2) (mrt 2)) := by decide +kernel
theorem kc_3 : lw_tbl[mpc 3]? = some (.code (my 3) (mbyt 3) (mnL 3) (mrt 3)) := by decide +kernel
theorem kc_4 : lw_tbl[mpc 4]? = some (.code (my 4) (mbyt 4) (mnL 4) (mrt 4)) := by decide +kernel
theorem kc_5 : lw_tbl[mpc 5]? = some (.code (my 5) (mbyt 5) (mnL 5) (mrt 5)) := by decide +kernel
theorem kc_6 : lw_tbl[mpc 6]? = some (.code (my 6) (mbyt 6) (mnL 6) (mrt 6)) := by decide +kernel
theorem kc_7 : lw_tbl[mpc 7]? = some (.code (my 7) (mbyt 7) (mnL 7) (mrt 7)) := by decide +kernel
theorem kc_8 : lw_tbl[mpc 8]? = some (.code (my 8) (mbyt 8) (mnL 8) (mrt 8)) := by decide +kernel
theorem kc_9 : lw_tbl[mpc 9]? = some (.code (my 9) (mbyt 9) (mnL 9) (mrt 9)) := by decide +kernel
theorem kc_10 : lw_tbl[mpc 10]? = some (.code (my 10) (mbyt 10) (mnL 10) (mrt 10)) := by decide +kernel
theorem kc_11 : lw_tbl[mpc 11]? = some (.code (my 11) (mbyt 11) (mnL 11) (mrt 11)) := by decide +kernel
theorem kc_12 : lw_tbl[mpc 12]? = some (.code (my 12) (mbyt 12) (mnL 12) (mrt 12)) := by decide +kernel
theorem kc_13 : lw_tbl[mpc 13]? = some (.code (my 13) (mbyt 13) (mnL 13) (mrt 13)) := by decide +kernel
theorem kc_14 : lw_tbl[mpc 14]? = some (.code (my 14) (mbyt 14) (mnL 14) (mrt 14)) := by decide +kernel
theorem kc_15 : lw_tbl[mpc 15]? = some (.code (my 15) (mbyt 15) (mnL 15) (mrt 15)) := by decide +kernel
theorem kc_16 : lw_tbl[mpc 16]? = some (.code (my 16) (mbyt 16) (mnL 16) (mrt 16)) := by decide +kernel
theorem kc_17 : lw_tbl[mpc 17]? = some (.code (my 17) (mbyt 17) (mnL 17) (mrt 17)) := by decide +kernel
theorem kc_18 : lw_tbl[mpc 18]? = some (.code (my 18) (mbyt 18) (mnL 18) (mrt 18)) := by decide +kernel
theorem kc_19 : lw_tbl[mpc 19]? = some (.code (my 19) (mbyt 19) (mnL 19) (mrt 19)) := by decide +kernel
theorem kc_20 : lw_tbl[mpc 20]? = some (.code (my 20) (mbyt 20) (mnL 20) (mrt 20)) := by decide +kernel
theorem kc_21 : lw_tbl[mpc 21]? = some (.code (my 21) (mbyt 21) (mnL 21) (mrt 21)) := by decide +kernel
theorem kc_22 : lw_tbl[mpc 22]? = some (.code (my 22) (mbyt 22) (mnL 22) (mrt 22)) := by decide +kernel
theorem kc_23 : lw_tbl[mpc 23]? = some (.code (my 23) (mbyt 23) (mnL 23) (mrt 23)) := by decide +kernel
theorem kc_24 : lw_tbl[mpc 24]? = some (.code (my 24) (mbyt 24) (mnL 24) (mrt 24)) := by decide +kernel
theorem kc_25 : lw_tbl[mpc 25]? = some (.code (my 25) (mbyt 25) (mnL 25) (mrt 25)) := by decide +kernel
theorem kc_26 : lw_tbl[mpc 26]? = some (.code (my 26) (mbyt 26) (mnL 26) (mrt 26)) := by decide +kernel
theorem kc_27 : lw_tbl[mpc 27]? = some (.code (my 27) (mbyt 27) (mnL 27) (mrt 27)) := by decide +kernel
theorem kc_28 : lw_tbl[mpc 28]? = some (.code (my 28) (mbyt 28) (mnL 28) (mrt 28)) := by decide +kernel
theorem kc_29 : lw_tbl[mpc 29]? = some (.code (my 29) (mbyt 29) (mnL 29) (mrt 29)) := by decide +kernel
theorem kc_30 : lw_tbl[mpc 30]? = some (.code (my 30) (mbyt 30) (mnL 30) (mrt 30)) := by decide +kernel
theorem kc_31 : lw_tbl[mpc 31]? = some (.code (my 31) (mbyt 31) (mnL 31) (mrt 31)) := by decide +kernel
theorem kc_32 : lw_tbl[mpc 32]? = some (.code (my 32) (mbyt 32) (mnL 32) (mrt 32)) := by decide +kernel
theorem kc_33 : lw_tbl[mpc 33]? = some (.code (my 33) (mbyt 33) (mnL 33) (mrt 33)) := by decide +kernel
theorem kc_34 : lw_tbl[mpc 34]? = some (.code (my 34) (mbyt 34) (mnL 34) (mrt 34)) := by decide +kernel
theorem kc_35 : lw_tbl[mpc 35]? = some (.code (my 35) (mbyt 35) (mnL 35) (mrt 35)) := by decide +kernel
theorem kc_36 : lw_tbl[mpc 36]? = some (.code (my 36) (mbyt 36) (mnL 36) (mrt 36)) := by decide +kernel
theorem kc_37 : lw_tbl[mpc 37]? = some (.code (my 37) (mbyt 37) (mnL 37) (mrt 37)) := by decide +kernel
theorem kc_38 : lw_tbl[mpc 38]? = some (.code (my 38) (mbyt 38) (mnL 38) (mrt 38)) := by decide +kernel
theorem kc_39 : lw_tbl[mpc 39]? = some (.code (my 39) (mbyt 39) (mnL 39) (mrt 39)) := by decide +kernel
theorem kc_40 : lw_tbl[mpc 40]? = some (.code (my 40) (mbyt 40) (mnL 40) (mrt 40)) := by decide +kernel
theorem kc_41 : lw_tbl[mpc 41]? = some (.code (my 41) (mbyt 41) (mnL 41) (mrt 41)) := by decide +kernel
theorem kc_42 : lw_tbl[mpc 42]? = some (.code (my 42) (mbyt 42) (mnL 42) (mrt 42)) := by decide +kernel
theorem kc_43 : lw_tbl[mpc 43]? = some (.code (my 43) (mbyt 43) (mnL 43) (mrt 43)) := by decide +kernel
theorem kc_44 : lw_tbl[mpc 44]? = some (.code (my 44) (mbyt 44) (mnL 44) (mrt 44)) := by decide +kernel
theorem kc_45 : lw_tbl[mpc 45]? = some (.code (my 45) (mbyt 45) (mnL 45) (mrt 45)) := by decide +kernel
theorem kc_46 : lw_tbl[mpc 46]? = some (.code (my 46) (mbyt 46) (mnL 46) (mrt 46)) := by decide +kernel
theorem kc_47 : lw_tbl[mpc 47]? = some (.code (my 47) (mbyt 47) (mnL 47) (mrt 47)) := by decide +kernel
theorem kc_48 : lw_tbl[mpc 48]? = some (.code (my 48) (mbyt 48) (mnL 48) (mrt 48)) := by decide +kernel
theorem kc_49 : lw_tbl[mpc 49]? = some (.code (my 49) (mbyt 49) (mnL 49) (mrt 49)) := by decide +kernel
theorem kc_50 : lw_tbl[mpc 50]? = some (.code (my 50) (mbyt 50) (mnL 50) (mrt 50)) := by decide +kernel
theorem kc_51 : lw_tbl[mpc 51]? = some (.code (my 51) (mbyt 51) (mnL 51) (mrt 51)) := by decide +kernel
theorem kc_52 : lw_tbl[mpc 52]? = some (.code (my 52) (mbyt 52) (mnL 52) (mrt 52)) := by decide +kernel
theorem kc_53 : lw_tbl[mpc 53]? = some (.code (my 53) (mbyt 53) (mnL 53) (mrt 53)) := by decide +kernel
theorem kc_54 : lw_tbl[mpc 54]? = some (.code (my 54) (mbyt 54) (mnL 54) (mrt 54)) := by decide +kernel
theorem kc_55 : lw_tbl[mpc 55]? = some (.code (my 55) (mbyt 55) (mnL 55) (mrt 55)) := by decide +kernel
theorem kc_56 : lw_tbl[mpc 56]? = some (.code (my 56) (mbyt 56) (mnL 56) (mrt 56)) := by decide +kernel
theorem kc_57 : lw_tbl[mpc 57]? = some (.code (my 57) (mbyt 57) (mnL 57) (mrt 57)) := by decide +kernel
theorem kc_58 : lw_tbl[mpc 58]? = some (.code (my 58) (mbyt 58) (mnL 58) (mrt 58)) := by decide +kernel
theorem kc_59 : lw_tbl[mpc 59]? = some (.code (my 59) (mbyt 59) (mnL 59) (mrt 59)) := by decide +kernel
theorem kc_60 : lw_tbl[mpc 60]? = some (.code (my 60) (mbyt 60) (mnL 60) (mrt 60)) := by decide +kernel
theorem kc_61 : lw_tbl[mpc 61]? = some (.code (my 61) (mbyt 61) (mnL 61) (mrt 61)) := by decide +kernel
theorem kc_62 : lw_tbl[mpc 62]? = some (.code (my 62) (mbyt 62) (mnL 62) (mrt 62)) := by decide +kernel
theorem kc_63 : lw_tbl[mpc 63]? = some (.code (my 63) (mbyt 63) (mnL 63) (mrt 63)) := by decide +kernel
theorem kc_64 : lw_tbl[mpc 64]? = some (.code (my 64) (mbyt 64) (mnL 64) (mrt 64)) := by decide +kernel
theorem kc_65 : lw_tbl[mpc 65]? = some (.code (my 65) (mbyt 65) (mnL 65) (mrt 65)) := by decide +kernel
theorem kc_66 : lw_tbl[mpc 66]? = some (.code (my 66) (mbyt 66) (mnL 66) (mrt 66)) := by decide +kernel
theorem kc_67 : lw_tbl[mpc 67]? = some (.code (my 67) (mbyt 67) (mnL 67) (mrt 67)) := by decide +kernel
theorem kc_68 : lw_tbl[mpc 68]? = some (.code (my 68) (mbyt 68) (mnL 68) (mrt 68)) := by decide +kernel
theorem kc_69 : lw_tbl[mpc 69]? = some (.code (my 69) (mbyt 69) (mnL 69) (mrt 69)) := by decide +kernel
theorem kc_70 : lw_tbl[mpc 70]? = some (.code (my 70) (mbyt 70) (mnL 70) (mrt 70)) := by decide +kernel
theorem kc_71 : lw_tbl[mpc 71]? = some (.code (my 71) (mbyt 71) (mnL 71) (mrt 71)) := by decide +kernel
theorem kc_72 : lw_tbl[mpc 72]? = some (.code (my 72) (mbyt 72) (mnL 72) (mrt 72)) := by decide +kernel
theorem kc_73 : lw_tbl[mpc 73]? = some (.code (my 73) (mbyt 73) (mnL 73) (mrt 73)) := by decide +kernel
theorem kc_74 : lw_tbl[mpc 74]? = some (.code (my 74) (mbyt 74) (mnL 74) (mrt 74)) := by decide +kernel
theorem kc_75 : lw_tbl[mpc 75]? = some (.code (my 75) (mbyt 75) (mnL 75) (mrt 75)) := by decide +kernel
theorem kc_76 : lw_tbl[mpc 76]? = some (.code (my 76) (mbyt 76) (mnL 76) (mrt 76)) := by decide +kernel
theorem kc_77 : lw_tbl[mpc 77]? = some (.code (my 77) (mbyt 77) (mnL 77) (mrt 77)) := by decide +kernel
theorem kc_78 : lw_tbl[mpc 78]? = some (.code (my 78) (mbyt 78) (mnL 78) (mrt 78)) := by decide +kernel
theorem kc_79 : lw_tbl[mpc 79]? = some (.code (my 79) (mbyt 79) (mnL 79) (mrt 79)) := by decide +kernel
theorem kc_80 : lw_tbl[mpc 80]? = some (.code (my 80) (mbyt 80) (mnL 80) (mrt 80)) := by decide +kernel
theorem kc_81 : lw_tbl[mpc 81]? = some (.code (my 81) (mbyt 81) (mnL 81) (mrt 81)) := by decide +kernel
theorem kc_82 : lw_tbl[mpc 82]? = some (.code (my 82) (mbyt 82) (mnL 82) (mrt 82)) := by decide +kernel
theorem kc_83 : lw_tbl[mpc 83]? = some (.code (my 83) (mbyt 83) (mnL 83) (mrt 83)) := by decide +kernel
theorem kc_84 : lw_tbl[mpc 84]? = some (.code (my 84) (mbyt 84) (mnL 84) (mrt 84)) := by decide +kernel
theorem kc_86 : lw_tbl[mpc 86]? = some (.code (my 86) (mbyt 86) (mnL 86) (mrt 86)) := by decide +kernel
theorem kc_87 : lw_tbl[mpc 87]? = some (.code (my 87) (mbyt 87) (mnL 87) (mrt 87)) := by decide +kernel
theorem kc_88 : lw_tbl[mpc 88]? = some (.code (my 88) (mbyt 88) (mnL 88) (mrt 88)) := by decide +kernel
theorem kc_89 : lw_tbl[mpc 89]? = some (.code (my 89) (mbyt 89) (mnL 89) (mrt 89)) := by decide +kernel
theorem kc_90 : lw_tbl[mpc 90]? = some (.code (my 90) (mbyt 90) (mnL 90) (mrt 90)) := by decide +kernel
theorem kc_91 : lw_tbl[mpc 91]? = some (.code (my 91) (mbyt 91) (mnL 91) (mrt 91)) := by decide +kernel
theorem kc_92 : lw_tbl[mpc 92]? = some (.code (my 92) (mbyt 92) (mnL 92) (mrt 92)) := by decide +kernel
theorem kc_93 : lw_tbl[mpc 93]? = some (.code (my 93) (mbyt 93) (mnL 93) (mrt 93)) := by decide +kernel
theorem kc_94 : lw_tbl[mpc 94]? = some (.code (my 94) (mbyt 94) (mnL 94) (mrt 94)) := by decide +kernel
theorem kc_95 : lw_tbl[mpc 95]? = some (.code (my 95) (mbyt 95) (mnL 95) (mrt 95)) := by decide +kernel
theorem kc_96 : lw_tbl[mpc 96]? = some (.code (my 96) (mbyt 96) (mnL 96) (mrt 96)) := by decide +kernel
theorem kc_97 : lw_tbl[mpc 97]? = some (.code (my 97) (mbyt 97) (mnL 97) (mrt 97)) := by decide +kernel
theorem kc_98 : lw_tbl[mpc 98]? = some (.code (my 98) (mbyt 98) (mnL 98) (mrt 98)) := by decide +kernel
theorem kc_99 : lw_tbl[mpc 99]? = some (.code (my 99) (mbyt 99) (mnL 99) (mrt 99)) := by decide +kernel
theorem kT_code : ∀ m, m < 100 → m ≠ 85 → lw_tbl[mpc m]? = some (.code (my m) (mbyt m) (mnL m) (mrt m)) :=
  lt_s (lt_s (lt_s (lt_s (lt_s (lt_s (lt_s (lt_s (lt_s (lt_s (lt_s (lt_s (lt_s (lt_s (lt_s (lt_s (lt_s (lt_s (lt_s (lt_s (lt_s (lt_s (lt_s (lt_s (lt_s (lt_s (lt_s (lt_s (lt_s (lt_s (lt_s (lt_s (lt_s (lt_s (lt_s (lt_s (lt_s (lt_s (lt_s (lt_s (lt_s (lt_s (lt_s (lt_s (lt_s (lt_s (lt_s (lt_s (lt_s (lt_s (lt_s (lt_s (lt_s (lt_s (lt_s (lt_s (lt_s (lt_s (lt_s (lt_s (lt_s (lt_s (lt_s (lt_s (lt_s (lt_s (lt_s (lt_s (lt_s (lt_s (lt_s (lt_s (lt_s (lt_s (lt_s (lt_s (lt_s (lt_s (lt_s (lt_s (lt_s (lt_s (lt_s (lt_s (lt_s (lt_s (lt_s (lt_s (lt_s (lt_s (lt_s (lt_s (lt_s (lt_s (lt_s (lt_s (lt_s (lt_s (lt_s (lt_s (lt_0) (fun _ => kc_0)) (fun _ => kc_1)) (fun _ => kc_2)) (fun _ => kc_3)) (fun _ => kc_4)) (fun _ => kc_5)) (fun _ => kc_6)) (fun _ => kc_7)) (fun _ => kc_8)) (fun _ => kc_9)) (fun _ => kc_10)) (fun _ => kc_11)) (fun _ => kc_12)) (fun _ => kc_13)) (fun _ => kc_14)) (fun _ => kc_15)) (fun _ => kc_16)) (fun _ => kc_17)) (fun _ => kc_18)) (fun _ => kc_19)) (fun _ => kc_20)) (fun _ => kc_21)) (fun _ => kc_22)) (fun _ => kc_23)) (fun _ => kc_24)) (fun _ => kc_25)) (fun _ => kc_26)) (fun _ => kc_27)) (fun _ => kc_28)) (fun _ => kc_29)) (fun _ => kc_30)) (fun _ => kc_31)) (fun _ => kc_32)) (fun _ => kc_33)) (fun _ => kc_34)) (fun _ => kc_35)) (fun _ => kc_36)) (fun _ => kc_37)) (fun _ => kc_38)) (fun _ => kc_39)) (fun _ => kc_40)) (fun _ => kc_41)) (fun _ => kc_42)) (fun _ => kc_43)) (fun _ => kc_44)) (fun _ => kc_45)) (fun _ => kc_46)) (fun _ => kc_47)) (fun _ => kc_48)) (fun _ => kc_49)) (fun _ => kc_50)) (fun _ => kc_51)) (fun _ => kc_52)) (fun _ => kc_53)) (fun _ => kc_54)) (fun _ => kc_55)) (fun _ => kc_56)) (fun _ => kc_57)) (fun _ => kc_58)) (fun _ => kc_59)) (fun _ => kc_60)) (fun _ => kc_61)) (fun _ => kc_62)) (fun _ => kc_63)) (fun _ => kc_64)) (fun _ => kc_65)) (fun _ => kc_66)) (fun _ => kc_67)) (fun _ => kc_68)) (fun _ => kc_69)) (fun _ => kc_70)) (fun _ => kc_71)) (fun _ => kc_72)) (fun _ => kc_73)) (fun _ => kc_74)) (fun _ => kc_75)) (fun _ => kc_76)) (fun _ => kc_77)) (fun _ => kc_78)) (fun _ => kc_79)) (fun _ => kc_80)) (fun _ => kc_81)) (fun _ => kc_82)) (fun _ => kc_83)) (fun _ => kc_84)) (fun h => absurd rfl h)) (fun _ => kc_86)) (fun _ => kc_87)) (fun _ => kc_88)) (fun _ => kc_89)) (fun _ => kc_90)) (fun _ => kc_91)) (fun _ => kc_92)) (fun _ => kc_93)) (fun _ => kc_94)) (fun _ => kc_95)) (fun _ => kc_96)) (fun _ => kc_97)) (fun _ => kc_98)) (fun _ => kc_99)
theorem kT_init : ∀ m, m < 100 → lw_tbl[mpi m]? = some (.initialized (my m).cls) := by decide +kernel
theorem kT_own1 : ∀ m, m < 100 → (my m).cls = cow (mow m) := by decide +kernel
theorem kT_own2 : ∀ m, m < 100 → plainName (my m).cls = true := by decide +kernel
theorem kT_own3 : ∀ m, m < 100 → (my m).cls ≠ "java/lang/invoke/MethodHandle" ∧ (my m).cls ≠ "java/lang/invoke/VarHandle" := by decide +kernel
theorem kT_own4 : ∀ m, m < 100 → (parseMethodDescriptor (my m).desc).map (fun d => d.parameters.length) = some (mna m) := by decide +kernel
theorem kT_fld : ∀ q ∈ kfT, q.2.2.1 < 5 → ∀ r, vwCl[q.2.2.1]? = some r → lw_tbl[q.2.2.2.2]? = some (.fieldLink (cow q.1) q.2.1 r.1 (r.2.1 q.2.2.2.1).2.1 (r.2.1 q.2.2.2.1).2.2.1) ∧ q.2.2.2.1 < r.2.2 ∧ (r.2.1 q.2.2.2.1).1 = r.1 := by
  intro q hq
  have h : ∀ q ∈ kfT, q.2.2.1 < 5 → (vwCl[q.2.2.1]?).elim true (fun r => decide (lw_tbl[q.2.2.2.2]? = some (.fieldLink (cow q.1) q.2.1 r.1 (r.2.1 q.2.2.2.1).2.1 (r.2.1 q.2.2.2.1).2.2.1) ∧ q.2.2.2.1 < r.2.2 ∧ (r.2.1 q.2.2.2.1).1 = r.1)) = true := by decide +kernel
  intro h6 r hr
  have h1 := h q hq h6
  rw [hr] at h1
  exact of_decide_eq_true h1
theorem kT_fldS : ∀ q ∈ kfT, ¬ q.2.2.1 < 5 → (q.2.2.2.1 = 0 ∧ lw_tbl[q.2.2.2.2]? = some (.fieldLink (cow q.1) q.2.1 "java/lang/String" "value" "[B")) ∨ (q.2.2.2.1 = 1 ∧ lw_tbl[q.2.2.2.2]? = some (.fieldLink (cow q.1) q.2.1 "java/lang/String" "coder" "B")) := by decide +kernel
theorem kT_cal : ∀ q ∈ kcT, q.2.2.2.1 < 100 ∧ q.2.2.2.1 ≠ 85 ∧
    ((q.2.2.1 = 0 ∧ lw_tbl[q.2.2.2.2.1]? = some (.methodLink (cow q.1) q.2.1 (my q.2.2.2.1)) ∧ lw_tbl[q.2.2.2.2.2.1]? = some (.instanceMethod (my q.2.2.2.1)) ∧ lw_tbl[q.2.2.2.2.2.2]? = some (.selects (my q.2.2.2.1).cls (my q.2.2.2.1) (my q.2.2.2.1)))
    ∨ (q.2.2.1 = 1 ∧ lw_tbl[q.2.2.2.2.1]? = some (.methodLink (cow q.1) q.2.1 (my q.2.2.2.1)) ∧ lw_tbl[q.2.2.2.2.2.1]? = some (.static (my q.2.2.2.1)))
    ∨ (q.2.2.1 = 2 ∧ lw_tbl[q.2.2.2.2.1]? = some (.methodLinkNest (cow q.1) q.2.1 (my q.2.2.2.1) "SneezeKing") ∧ lw_tbl[q.2.2.2.2.2.1]? = some (.static (my q.2.2.2.1)))) := by decide +kernel
theorem kT_int : ∀ q ∈ kiT, lw_tbl[q.2.2.2]? = some (.constant (cow q.1) q.2.1 q.2.2.1) := by decide +kernel
theorem kT_lng : ∀ q ∈ klT, lw_tbl[q.2.2.2]? = some (.constantLong (cow q.1) q.2.1 q.2.2.1) := by decide +kernel
theorem kT_gst : lw_tbl[kgs.2.2]? = some (.fieldLink (cow kgs.1) kgs.2.1 "java/lang/String" "COMPACT_STRINGS" "Z") := by decide +kernel
theorem kT_mmx : ∀ q ∈ kmT, (q.2.2.1 = 0 ∧ lw_tbl[q.2.2.2.1]? = some (.methodLink (cow q.1) q.2.1 Lib.Math.max.name) ∧ lw_tbl[q.2.2.2.2.1]? = some (.static Lib.Math.max.name) ∧ lw_tbl[q.2.2.2.2.2]? = some (.code Lib.Math.max.name Lib.Math.max.code 2 (some .int))) ∨ (q.2.2.1 = 1 ∧ lw_tbl[q.2.2.2.1]? = some (.methodLink (cow q.1) q.2.1 Lib.Math.min.name) ∧ lw_tbl[q.2.2.2.2.1]? = some (.static Lib.Math.min.name) ∧ lw_tbl[q.2.2.2.2.2]? = some (.code Lib.Math.min.name Lib.Math.min.code 2 (some .int))) := by decide +kernel
theorem kT_mini : lw_tbl[kmi]? = some (.initialized "java/lang/Math") := by decide +kernel
end
section
/-! the abstract machine: cells by number (0 to 26 the object and all of its; 27 to 29 the law's rows; 30 the row that kings() and years() make; 38 the script, 39 the text, 40 its bytes), ints, longs, numbers -/
abbrev kH : Type := (Nat → Nat → Int32) × (Nat → Nat → Int64) × (Nat → Nat → Nat)
def hI (H : kH) (k j : Nat) : Int32 := H.1 k j
def hL (H : kH) (k j : Nat) : Int64 := H.2.1 k j
def hR (H : kH) (k j : Nat) : Nat := H.2.2 k j
def uI (H : kH) (k j : Nat) (v : Int32) : kH := (fun a b => if a = k ∧ b = j then v else H.1 a b, H.2.1, H.2.2)
def uL (H : kH) (k j : Nat) (v : Int64) : kH := (H.1, fun a b => if a = k ∧ b = j then v else H.2.1 a b, H.2.2)
def uR (H : kH) (k j : Nat) (v : Nat) : kH := (H.1, H.2.1, fun a b => if a = k ∧ b = j then v else H.2.2 a b)
/-- a whole row of ints -/
def uC (H : kH) (k : Nat) (f : Nat → Int32) : kH := (fun a b => if a = k then f b else H.1 a b, H.2.1, H.2.2)
/-- kinds of cell: (0, kind of object), (1, length) ints, (2, length) longs, 4 script, 5 text, 6 bytes -/
def kshp : List (Nat × Nat) := [(0, 4), (0, 0), (0, 0), (0, 1), (0, 2), (0, 3), (1, 5), (1, 5), (1, 5), (1, 5), (1, 32), (1, 5), (1, 5), (1, 5), (1, 5), (1, 5), (1, 32), (1, 5), (1, 20), (2, 5), (2, 5), (2, 32), (2, 6), (2, 6), (2, 64), (2, 64), (1, 5), (1, 6), (1, 19), (1, 20), (9, 0), (9, 0), (9, 0), (9, 0), (9, 0), (9, 0), (9, 0), (9, 0), (4, 0), (5, 0), (6, 5)]
def shp (k : Nat) : Nat × Nat := kshp.getD k (9, 0)
/-- whether the row 30 is there; how many were made -/
def fl (H : kH) : Nat := H.2.2 41 1
def na (H : kH) : Nat := H.2.2 41 0
def nW (H : kH) : Nat := if fl H = 0 then 30 else 31
def shq (H : kH) (k : Nat) : Nat × Nat := if k = 30 then (if fl H = 0 then (9, 0) else (1, 19)) else shp k
/-- the row 30 comes, goes -/
def mkS (H : kH) : kH := (fun a b => if a = 30 then 0 else H.1 a b, H.2.1, fun a b => if a = 41 ∧ b = 1 then 1 else H.2.2 a b)
def clS (H r : kH) : kH := (r.1, r.2.1, fun a b => if a = 41 ∧ b = 1 then 0 else if a = 41 ∧ b = 0 then na H + 1 else H.2.2 a b)
/-- kinds of field: 0 int, 1 boolean, 2 long, 3 a link -/
def kfk : List (List Nat) := [[3, 3, 3, 3, 3, 3, 0, 0, 1, 0, 0, 0], [3, 0], [3, 3, 3, 3, 3, 3, 3, 3], [3, 3, 0, 2], [3, 3, 3, 3, 3, 1, 0]]
def fki (c f : Nat) : Nat := (kfk.getD c []).getD f 9
def ksr : List (Nat × Nat × Nat) := [(0, 0, 3), (0, 1, 1), (0, 2, 2), (0, 3, 4), (0, 4, 5), (1, 0, 6), (1, 1, 7), (1, 2, 8), (1, 3, 9), (1, 4, 10), (1, 5, 11), (2, 0, 12), (2, 1, 13), (2, 2, 14), (2, 3, 15), (2, 4, 16), (2, 5, 17), (3, 0, 18), (4, 0, 1), (4, 1, 19), (4, 2, 20), (4, 3, 21), (4, 4, 22), (4, 5, 23), (4, 6, 24), (4, 7, 25), (5, 0, 1), (5, 1, 26)]
def sref (k f : Nat) : Nat := ((ksr.find? (fun q => q.1 == k && q.2.1 == f)).map (fun q => q.2.2)).getD 0
def cpF (o i : Nat) : Option (Nat × Nat) := (kfT.find? (fun q => q.1 == o && q.2.1 == i)).map (fun q => (q.2.2.1, q.2.2.2.1))
def cpM (o i : Nat) : Option (Nat × Nat) := (kcT.find? (fun q => q.1 == o && q.2.1 == i)).map (fun q => (q.2.2.1, q.2.2.2.1))
def cpX (o i : Nat) : Option Nat := (kmT.find? (fun q => q.1 == o && q.2.1 == i)).map (fun q => q.2.2.1)
def cpI (o i : Nat) : Option Int32 := (kiT.find? (fun q => q.1 == o && q.2.1 == i)).map (fun q => q.2.2.1)
def cpL (o i : Nat) : Option Int64 := (klT.find? (fun q => q.1 == o && q.2.1 == i)).map (fun q => q.2.2.1)
abbrev kN : Type := Nat × List Value × List Value × kH
/-- goes on, calls (method, arguments, the rest of the stack), returns -/
abbrev kO : Type := kN ⊕ ((Nat × List Value × List Value) ⊕ Option Value)
def kNx (pc : Nat) (ls st : List Value) (H : kH) : Option kN := some (pc, ls, st, H)
/-- a field's value -/
def gf (H : kH) (k c f : Nat) : Option Value :=
  if c = 9 then (if k = 39 then (if f = 0 then some (.ref 40) else some (.int 0)) else none) else
  if shp k = (0, c) then
    (match fki c f with
    | 0 => some (.int (hI H k f))
    | 1 => some (.int (hI H k f))
    | 2 => some (.long (hL H k f))
    | 3 => some (.ref (sref k f))
    | _ => none)
  else none
def pf (H : kH) (k c f : Nat) (v : Value) : Option kH :=
  if shp k = (0, c) ∧ k < 30 then
    (match fki c f, v with
    | 0, .int x => some (uI H k f x)
    | 1, .int x => if x = 0 ∨ x = 1 then some (uI H k f x) else none
    | 2, .long x => some (uL H k f x)
    | _, _ => none)
  else none
def alen (H : kH) (k : Nat) : Option Int32 :=
  match shq H k with
  | (1, n) => some (Int32.ofNat n)
  | (2, n) => some (Int32.ofNat n)
  | (4, _) => some (hI H 41 0)
  | (6, n) => some (Int32.ofNat n)
  | _ => none
def aI (H : kH) (k : Nat) (i : Int32) : Option Int32 :=
  match shq H k with
  | (1, n) => if i < 0 ∨ n ≤ i.toNatClampNeg then none else some (hI H k i.toNatClampNeg)
  | (4, _) => if i < 0 ∨ (hI H 41 0).toNatClampNeg ≤ i.toNatClampNeg then none else some (hI H 38 i.toNatClampNeg)
  | _ => none
def aL (H : kH) (k : Nat) (i : Int32) : Option Int64 :=
  match shp k with
  | (2, n) => if i < 0 ∨ n ≤ i.toNatClampNeg then none else some (hL H k i.toNatClampNeg)
  | _ => none
def kbs : List Int32 := [112, 115, 102, 100, 99]
def aB (k : Nat) (i : Int32) : Option Int32 := if k = 40 then (if i < 0 ∨ 5 ≤ i.toNatClampNeg then none else some (kbs.getD i.toNatClampNeg 0)) else none
def sI (H : kH) (k : Nat) (i v : Int32) : Option kH :=
  match shq H k with
  | (1, n) => if i < 0 ∨ n ≤ i.toNatClampNeg then none else some (uI H k i.toNatClampNeg v)
  | _ => none
def sL (H : kH) (k : Nat) (i : Int32) (v : Int64) : Option kH :=
  match shp k with
  | (2, n) => if i < 0 ∨ n ≤ i.toNatClampNeg then none else some (uL H k i.toNatClampNeg v)
  | _ => none
/-- how many words a stack has -/
def kCat (r : List Value) : Nat := (r.map (fun v => v.category)).sum
/-- the locals -/
def kClr (ls : List Value) (i : Nat) : List Value :=
  match i with
  | 0 => ls
  | k + 1 => (match ls[k]? with
    | some (.long _) => ls.set k .null
    | some (.double _) => ls.set k .null
    | _ => ls)
def kSt1 (ls : List Value) (i : Nat) (v : Value) : List Value := (kClr ls i).set i v
def kSt2 (ls : List Value) (i : Nat) (v : Value) : List Value := ((kClr ls i).set i v).set (i + 1) .null
def kEnA : List Value → List Value
  | [] => []
  | .long x :: vs => .long x :: .null :: kEnA vs
  | .double x :: vs => .double x :: .null :: kEnA vs
  | v :: vs => v :: kEnA vs
def kEnt (y : Nat) (vs : List Value) : List Value := kEnA vs ++ List.replicate (mnL y - (kEnA vs).length) .null
def kRcv (y k : Nat) : Bool := if mow y = 8 then k == 39 else (match shp k with
  | (0, c) => decide (k < 30) && (match c, mow y with
    | 0, 0 => true
    | 1, 1 => true
    | 2, 2 => true
    | 3, 4 => true
    | 4, 5 => true
    | _, _ => false)
  | _ => false)
def kRm (m y : Nat) : Bool := decide (mfr y + 1 ≤ mfr m) && decide (8 + (mnL y + 11) + mlo y ≤ mlo m)
/-- an int pushed -/
def kP (pc : Nat) (ls st : List Value) (H : kH) (x : Int32) : Option kN := kNx pc ls (.int x :: st) H
def kLdI (ls : List Value) (i pc : Nat) (st : List Value) (H : kH) : Option kN :=
  match ls[i]? with
  | some (.int x) => kNx pc ls (.int x :: st) H
  | _ => none
def kLdL (ls : List Value) (i pc : Nat) (st : List Value) (H : kH) : Option kN :=
  match ls[i]? with
  | some (.long x) => kNx pc ls (.long x :: st) H
  | _ => none
def kLdR (ls : List Value) (i pc : Nat) (st : List Value) (H : kH) : Option kN :=
  match ls[i]? with
  | some (.ref x) => kNx pc ls (.ref x :: st) H
  | _ => none
def kSoI (m : Nat) (ls : List Value) (i pc : Nat) (st : List Value) (H : kH) : Option kN :=
  match st with
  | .int x :: r => if i < mnL m then kNx pc (kSt1 ls i (.int x)) r H else none
  | _ => none
def kSoR (m : Nat) (ls : List Value) (i pc : Nat) (st : List Value) (H : kH) : Option kN :=
  match st with
  | .ref x :: r => if i < mnL m then kNx pc (kSt1 ls i (.ref x)) r H else none
  | _ => none
def kSoL (m : Nat) (ls : List Value) (i pc : Nat) (st : List Value) (H : kH) : Option kN :=
  match st with
  | .long x :: r => if i + 1 < mnL m then kNx pc (kSt2 ls i (.long x)) r H else none
  | _ => none
def kB2 (f : Int32 → Int32 → Int32) (pc : Nat) (ls st : List Value) (H : kH) : Option kN :=
  match st with
  | .int y :: .int x :: r => kNx (pc + 1) ls (.int (f x y) :: r) H
  | _ => none
def kL2 (f : Int64 → Int64 → Int64) (pc : Nat) (ls st : List Value) (H : kH) : Option kN :=
  match st with
  | .long y :: .long x :: r => kNx (pc + 1) ls (.long (f x y) :: r) H
  | _ => none
def kLS (f : Int64 → Int32 → Int64) (pc : Nat) (ls st : List Value) (H : kH) : Option kN :=
  match st with
  | .int y :: .long x :: r => kNx (pc + 1) ls (.long (f x y) :: r) H
  | _ => none
def kU1 (f : Int32 → Int32) (pc : Nat) (ls st : List Value) (H : kH) : Option kN :=
  match st with
  | .int x :: r => kNx (pc + 1) ls (.int (f x) :: r) H
  | _ => none
def kBr (c : Prop) [Decidable c] (pc : Nat) (off : Int) (ls st : List Value) (H : kH) : Option kN :=
  if 0 ≤ (pc : Int) + off then (if c then kNx (((pc : Int) + off).toNat) ls st H else kNx (pc + 3) ls st H) else none
def kGo (pc : Nat) (off : Int) (ls st : List Value) (H : kH) : Option kN :=
  if 0 ≤ (pc : Int) + off then kNx (((pc : Int) + off).toNat) ls st H else none
def kC2 (d : ClassFile.Cond) (pc : Nat) (off : Int) (ls st : List Value) (H : kH) : Option kN :=
  match st with
  | .int y :: .int x :: r => (match d with
    | .eq => kBr (x = y) pc off ls r H
    | .ne => kBr (¬ x = y) pc off ls r H
    | .lt => kBr (x < y) pc off ls r H
    | .ge => kBr (y ≤ x) pc off ls r H
    | .gt => kBr (y < x) pc off ls r H
    | .le => kBr (x ≤ y) pc off ls r H)
  | _ => none
def kC1 (d : ClassFile.Cond) (pc : Nat) (off : Int) (ls st : List Value) (H : kH) : Option kN :=
  match st with
  | .int x :: r => (match d with
    | .eq => kBr (x = 0) pc off ls r H
    | .ne => kBr (¬ x = 0) pc off ls r H
    | .lt => kBr (x < 0) pc off ls r H
    | .ge => kBr (0 ≤ x) pc off ls r H
    | .gt => kBr (0 < x) pc off ls r H
    | .le => kBr (x ≤ 0) pc off ls r H)
  | _ => none
def kSpc (m idx pc : Nat) (ls st : List Value) (H : kH) : Option kN :=
  match cpX (mow m) idx with
  | some kd => (match st with
    | .int y :: .int x :: r => if 1 ≤ mfr m ∧ 21 ≤ mlo m ∧ kCat r ≤ 8 then kNx (pc + 3) ls (.int (if kd = 0 then (if x < y then y else x) else (if y < x then y else x)) :: r) H else none
    | _ => none)
  | none => none
def kInvS (m y kd : Nat) (st : List Value) : Option kO :=
  if kd ≠ 0 ∧ mna y ≤ st.length ∧ kRm m y = true ∧ kCat (st.drop (mna y)) ≤ 8 ∧ (kEnA (st.take (mna y)).reverse).length ≤ mnL y then some (.inr (.inl (y, (st.take (mna y)).reverse, st.drop (mna y)))) else none
def kInvV (m idx : Nat) (st : List Value) : Option kO :=
  match cpM (mow m) idx with
  | some (kd, y) => if kd = 0 ∧ mna y ≤ st.length ∧ kRm m y = true then (match st.drop (mna y) with
    | .ref k :: r => if kRcv y k = true ∧ kCat r ≤ 8 ∧ (kEnA (.ref k :: (st.take (mna y)).reverse)).length ≤ mnL y then some (.inr (.inl (y, .ref k :: (st.take (mna y)).reverse, r))) else none
    | _ => none) else none
  | none => none
def kRet (m : Nat) (st : List Value) : Option kO :=
  match st with
  | [.int x] => (match mrt m with
    | some .int => some (.inr (.inr (some (.int x))))
    | some .boolean => if x = 0 ∨ x = 1 then some (.inr (.inr (some (.int x)))) else none
    | some .byte => if x = 0 then some (.inr (.inr (some (.int x)))) else none
    | _ => none)
  | _ => none
/-- one instruction -/
def kIns (m : Nat) (i : Instr) (pc : Nat) (ls st : List Value) (H : kH) : Option kN :=
  match i with
  | .iconst n => kP (pc + 1) ls st H (Int32.ofInt n)
  | .bipush n => kP (pc + 2) ls st H (Int8.ofInt n).toInt32
  | .sipush n => kP (pc + 3) ls st H (Int16.ofInt n).toInt32
  | .lconst n => kNx (pc + 1) ls (.long (Int64.ofNat (n : Nat)) :: st) H
  | .ldc ix => (match cpI (mow m) ix with
    | some v => kP (pc + 2) ls st H v
    | none => if (mow m, ix) = kst then kNx (pc + 2) ls (.ref 39 :: st) H else none)
  | .ldc_w ix => (match cpI (mow m) ix with
    | some v => kP (pc + 3) ls st H v
    | none => none)
  | .ldc2_w ix => (match cpL (mow m) ix with
    | some v => kNx (pc + 3) ls (.long v :: st) H
    | none => none)
  | .iload_n k => kLdI ls k (pc + 1) st H
  | .iload k => kLdI ls k (pc + 2) st H
  | .lload_n k => kLdL ls k (pc + 1) st H
  | .lload k => kLdL ls k (pc + 2) st H
  | .aload_n k => kLdR ls k (pc + 1) st H
  | .aload k => kLdR ls k (pc + 2) st H
  | .istore_n k => kSoI m ls k (pc + 1) st H
  | .istore k => kSoI m ls k (pc + 2) st H
  | .lstore_n k => kSoL m ls k (pc + 1) st H
  | .lstore k => kSoL m ls k (pc + 2) st H
  | .astore_n k => kSoR m ls k (pc + 1) st H
  | .astore k => kSoR m ls k (pc + 2) st H
  | .iinc k n => (match ls[k]? with
    | some (.int x) => if k < mnL m then kNx (pc + 3) (kSt1 ls k (.int (x + Int32.ofInt n))) st H else none
    | _ => none)
  | .iadd => kB2 (fun x y => x + y) pc ls st H
  | .isub => kB2 (fun x y => x - y) pc ls st H
  | .imul => kB2 (fun x y => x * y) pc ls st H
  | .iand => kB2 (fun x y => x &&& y) pc ls st H
  | .ior => kB2 (fun x y => x ||| y) pc ls st H
  | .ixor => kB2 (fun x y => x ^^^ y) pc ls st H
  | .ishl => kB2 (fun x y => x <<< (y &&& 31)) pc ls st H
  | .ishr => kB2 (fun x y => x >>> (y &&& 31)) pc ls st H
  | .iushr => kB2 (fun x y => (x.toUInt32 >>> (y.toUInt32 &&& Int32.toUInt32 31)).toInt32) pc ls st H
  | .idiv => (match st with
    | .int y :: .int x :: r => if y = 0 then none else kNx (pc + 1) ls (.int (x / y) :: r) H
    | _ => none)
  | .irem => (match st with
    | .int y :: .int x :: r => if y = 0 then none else kNx (pc + 1) ls (.int (x - x / y * y) :: r) H
    | _ => none)
  | .ldiv => (match st with
    | .long y :: .long x :: r => if y = 0 then none else kNx (pc + 1) ls (.long (x / y) :: r) H
    | _ => none)
  | .lrem => (match st with
    | .long y :: .long x :: r => if y = 0 then none else kNx (pc + 1) ls (.long (x - x / y * y) :: r) H
    | _ => none)
  | .ladd => kL2 (fun x y => x + y) pc ls st H
  | .lmul => kL2 (fun x y => x * y) pc ls st H
  | .land => kL2 (fun x y => x &&& y) pc ls st H
  | .lor => kL2 (fun x y => x ||| y) pc ls st H
  | .lshl => kLS (fun x y => x <<< (y.toInt64 &&& 63)) pc ls st H
  | .lshr => kLS (fun x y => x >>> (y.toInt64 &&& 63)) pc ls st H
  | .lcmp => (match st with
    | .long y :: .long x :: r => kNx (pc + 1) ls (.int (lg_cmp x y) :: r) H
    | _ => none)
  | .i2l => (match st with
    | .int x :: r => kNx (pc + 1) ls (.long x.toInt64 :: r) H
    | _ => none)
  | .l2i => (match st with
    | .long x :: r => kNx (pc + 1) ls (.int x.toInt32 :: r) H
    | _ => none)
  | .i2c => kU1 (fun x => (x.toUInt32 % 65536).toInt32) pc ls st H
  | .i2b => kU1 (fun x => x.toInt8.toInt32) pc ls st H
  | .dup => (match st with
    | .ref x :: r => kNx (pc + 1) ls (.ref x :: .ref x :: r) H
    | .int x :: r => kNx (pc + 1) ls (.int x :: .int x :: r) H
    | _ => none)
  | .dup2 => (match st with
    | .int x :: .ref y :: r => kNx (pc + 1) ls (.int x :: .ref y :: .int x :: .ref y :: r) H
    | _ => none)
  | .pop => (match st with
    | .int _ :: r => kNx (pc + 1) ls r H
    | _ => none)
  | .goto off => kGo pc off ls st H
  | .if_icmp d off => kC2 d pc off ls st H
  | .ifCond d off => kC1 d pc off ls st H
  | .tableswitch dflt lo hi offs => (match st with
    | .int x :: r => if x.toInt < lo ∨ hi < x.toInt then kGo pc dflt ls r H else (match offs[(x.toInt - lo).toNat]? with
      | some off => kGo pc off ls r H
      | none => none)
    | _ => none)
  | .getfield ix => (match cpF (mow m) ix, st with
    | some (c, f), .ref k :: r => (match gf H k c f with
      | some v => kNx (pc + 3) ls (v :: r) H
      | none => none)
    | _, _ => none)
  | .putfield ix => (match cpF (mow m) ix, st with
    | some (c, f), v :: .ref k :: r => (match pf H k c f v with
      | some H' => kNx (pc + 3) ls r H'
      | none => none)
    | _, _ => none)
  | .getstatic ix => if (mow m, ix) = (kgs.1, kgs.2.1) then kP (pc + 3) ls st H 1 else none
  | .arraylength => (match st with
    | .ref k :: r => (match alen H k with
      | some v => kP (pc + 1) ls r H v
      | none => none)
    | _ => none)
  | .iaload => (match st with
    | .int i :: .ref k :: r => (match aI H k i with
      | some v => kP (pc + 1) ls r H v
      | none => none)
    | _ => none)
  | .laload => (match st with
    | .int i :: .ref k :: r => (match aL H k i with
      | some v => kNx (pc + 1) ls (.long v :: r) H
      | none => none)
    | _ => none)
  | .baload => (match st with
    | .int i :: .ref k :: r => (match aB k i with
      | some v => kP (pc + 1) ls r H v
      | none => none)
    | _ => none)
  | .iastore => (match st with
    | .int v :: .int i :: .ref k :: r => (match sI H k i v with
      | some H' => kNx (pc + 1) ls r H'
      | none => none)
    | _ => none)
  | .lastore => (match st with
    | .long v :: .int i :: .ref k :: r => (match sL H k i v with
      | some H' => kNx (pc + 1) ls r H'
      | none => none)
    | _ => none)
  | .invokestatic ix => kSpc m ix pc ls st H
  | _ => none
def kLen (i : Instr) (len : Nat) : Nat :=
  match i with
  | .bipush _ | .iload _ | .istore _ | .lload _ | .lstore _ | .aload _ | .astore _ | .ldc _ => 2
  | .sipush _ | .getfield _ | .putfield _ | .getstatic _ | .goto _ | .if_icmp _ _ | .ifCond _ _ | .iinc _ _ | .ldc_w _ | .ldc2_w _ | .invokevirtual _ | .invokestatic _ => 3
  | .tableswitch _ _ _ _ => len
  | _ => 1
/-- calls, returns, all else -/
def kIns2 (m : Nat) (i : Instr) (pc : Nat) (ls st : List Value) (H : kH) : Option kO :=
  match i with
  | .invokevirtual ix => kInvV m ix st
  | .invokestatic ix => (match cpM (mow m) ix with
    | some (kd, y) => kInvS m y kd st
    | none => (kIns m (.invokestatic ix) pc ls st H).map .inl)
  | .ireturn => kRet m st
  | .lreturn => (match st, mrt m with
    | [.long x], some .long => some (.inr (.inr (some (.long x))))
    | _, _ => none)
  | .return_ => (match st, mrt m with
    | [], none => some (.inr (.inr none))
    | _, _ => none)
  | i => (kIns m i pc ls st H).map .inl
def kStp (m pc : Nat) (ls st : List Value) (H : kH) : Option kO :=
  match decode (mbyt m) pc with
  | .ok (i, len) => if len = kLen i len then kIns2 m i pc ls st H else none
  | .error _ => none
/-- kings(), years(): where they go on behind their row's making, its place among the locals -/
def kAl (y : Nat) : Bool := y == kMk || y == kMy
def kApc (y : Nat) : Nat := if y = kMk then 5 else 6
def kAix (y : Nat) : Nat := if y = kMk then 3 else 5
def kEnB (y : Nat) (vs : List Value) : List Value := kSt1 (kEnt y vs) (kAix y) (.ref 30)
/-- none of these is the row 30 -/
def kNo (vs : List Value) : Bool := vs.all (fun v => match v with
  | .ref k => k != 30
  | _ => true)
def kRun : Nat → Nat → Nat → List Value → List Value → kH → Option (Option Value × kH)
  | 0, _, _, _, _, _ => none
  | n + 1, m, pc, ls, st, H => match kStp m pc ls st H with
    | none => none
    | some (.inl a) => kRun n m a.1 a.2.1 a.2.2.1 a.2.2.2
    | some (.inr (.inl a)) =>
      if kAl a.1 = true then (if m = kLaw ∧ fl H = 0 ∧ na H < 1000 ∧ kNo a.2.1 = true then (match kRun n a.1 (kApc a.1) (kEnB a.1 a.2.1) [] (mkS H) with
        | none => none
        | some r => kRun n m (pc + 3) ls (r.1.toList ++ a.2.2) (clS H r.2)) else none)
      else (match kRun n a.1 0 (kEnt a.1 a.2.1) [] H with
        | none => none
        | some r => kRun n m (pc + 3) ls (r.1.toList ++ a.2.2) r.2)
    | some (.inr (.inr v)) => some (v, H)
theorem kRun_mono : ∀ (n m pc : Nat) (ls st : List Value) (H : kH) (r : Option Value × kH), kRun n m pc ls st H = some r → kRun (n + 1) m pc ls st H = some r
  | 0, _, _, _, _, _, _, h => by simp [kRun] at h
  | n + 1, m, pc, ls, st, H, r, h => by
    rw [kRun] at h ⊢
    split at h
    · cases h
    · rename_i a e
      try rw [e]
      exact kRun_mono n _ _ _ _ _ _ h
    · rename_i a e
      try rw [e]
      try dsimp only
      split at h
      · rename_i ha
        rw [if_pos ha]
        split at h
        · rename_i hc
          rw [if_pos hc]
          split at h
          · cases h
          · rename_i q eq
            rw [kRun_mono n _ _ _ _ _ _ eq]
            exact kRun_mono n _ _ _ _ _ _ h
        · cases h
      · rename_i ha
        rw [if_neg ha]
        split at h
        · cases h
        · rename_i q eq
          rw [kRun_mono n _ _ _ _ _ _ eq]
          exact kRun_mono n _ _ _ _ _ _ h
    · rename_i v e
      try rw [e]
      exact h
theorem kRun_le {n k m pc : Nat} {ls st : List Value} {H : kH} {r : Option Value × kH} (h : kRun n m pc ls st H = some r) (hk : n ≤ k) : kRun k m pc ls st H = some r := by
  induction k with
  | zero =>
    have : n = 0 := by omega
    subst this
    exact h
  | succ k ih =>
    by_cases e : n = k + 1
    · subst e
      exact h
    · exact kRun_mono _ _ _ _ _ _ _ (ih (by omega))
/-- the answer, if there is one -/
def kPk (P : Option Value × kH → Prop) : Prop := ∃ o, P o
noncomputable def ev (m pc : Nat) (ls st : List Value) (H : kH) : Option (Option Value × kH) :=
  @dite _ (∃ o, ∃ n, kRun n m pc ls st H = some o) (Classical.propDecidable _) (fun h => some h.choose) (fun _ => none)
theorem ev_iff {m pc : Nat} {ls st : List Value} {H : kH} {o : Option Value × kH} : ev m pc ls st H = some o ↔ ∃ n, kRun n m pc ls st H = some o := by
  constructor
  · intro h
    unfold ev at h
    split at h
    · rename_i hh
      have h1 := hh.choose_spec
      cases h
      exact h1
    · cases h
  · rintro ⟨n, h⟩
    have hh : ∃ o, ∃ n, kRun n m pc ls st H = some o := ⟨o, n, h⟩
    have e : ev m pc ls st H = some hh.choose := by
      unfold ev
      rw [dif_pos hh]
    obtain ⟨k, hk⟩ := hh.choose_spec
    have h1 := kRun_le h (Nat.le_max_left n k)
    have h2 := kRun_le hk (Nat.le_max_right n k)
    rw [e]
    exact h2.symm.trans h1
theorem ev_ext {m pc m' pc' : Nat} {ls st ls' st' : List Value} {H H' : kH} (h : ∀ o, (∃ n, kRun n m pc ls st H = some o) ↔ (∃ n, kRun n m' pc' ls' st' H' = some o)) : ev m pc ls st H = ev m' pc' ls' st' H' := by
  apply Option.ext
  intro o
  rw [ev_iff, ev_iff]
  exact h o
theorem ev_next {m pc pc' : Nat} {ls st ls' st' : List Value} {H H' : kH} (h : kStp m pc ls st H = some (.inl (pc', ls', st', H'))) : ev m pc ls st H = ev m pc' ls' st' H' := by
  refine ev_ext fun o => ⟨?_, ?_⟩
  · rintro ⟨n, hn⟩
    cases n with
    | zero => simp [kRun] at hn
    | succ n =>
      rw [kRun, h] at hn
      exact ⟨n, hn⟩
  · rintro ⟨n, hn⟩
    exact ⟨n + 1, by rw [kRun, h]; exact hn⟩
theorem ev_call {m pc y : Nat} {ls st as r : List Value} {H : kH} (hy : kAl y = false) (h : kStp m pc ls st H = some (.inr (.inl (y, as, r)))) : ev m pc ls st H = (ev y 0 (kEnt y as) [] H).bind (fun q => ev m (pc + 3) ls (q.1.toList ++ r) q.2) := by
  have hy' : ¬ kAl y = true := by rw [hy]; exact Bool.false_ne_true
  apply Option.ext
  intro o
  rw [ev_iff, Option.bind_eq_some_iff]
  constructor
  · rintro ⟨n, hn⟩
    cases n with
    | zero => simp [kRun] at hn
    | succ n =>
      rw [kRun, h] at hn
      dsimp only at hn
      rw [if_neg hy'] at hn
      split at hn
      · cases hn
      · rename_i q eq
        exact ⟨q, ev_iff.mpr ⟨n, eq⟩, ev_iff.mpr ⟨n, hn⟩⟩
  · rintro ⟨q, h1, h2⟩
    obtain ⟨n1, h1⟩ := ev_iff.mp h1
    obtain ⟨n2, h2⟩ := ev_iff.mp h2
    refine ⟨max n1 n2 + 1, ?_⟩
    rw [kRun, h]
    dsimp only
    rw [if_neg hy', kRun_le h1 (Nat.le_max_left n1 n2)]
    exact kRun_le h2 (Nat.le_max_right n1 n2)
theorem ev_callA {pc y : Nat} {ls st as r : List Value} {H : kH} (hy : kAl y = true) (hf : fl H = 0) (hn : na H < 1000) (hno : kNo as = true) (h : kStp kLaw pc ls st H = some (.inr (.inl (y, as, r)))) : ev kLaw pc ls st H = (ev y (kApc y) (kEnB y as) [] (mkS H)).bind (fun q => ev kLaw (pc + 3) ls (q.1.toList ++ r) (clS H q.2)) := by
  apply Option.ext
  intro o
  rw [ev_iff, Option.bind_eq_some_iff]
  constructor
  · rintro ⟨n, hn2⟩
    cases n with
    | zero => simp [kRun] at hn2
    | succ n =>
      rw [kRun, h] at hn2
      dsimp only at hn2
      rw [if_pos hy, if_pos ⟨rfl, hf, hn, hno⟩] at hn2
      split at hn2
      · cases hn2
      · rename_i q eq
        exact ⟨q, ev_iff.mpr ⟨n, eq⟩, ev_iff.mpr ⟨n, hn2⟩⟩
  · rintro ⟨q, h1, h2⟩
    obtain ⟨n1, h1⟩ := ev_iff.mp h1
    obtain ⟨n2, h2⟩ := ev_iff.mp h2
    refine ⟨max n1 n2 + 1, ?_⟩
    rw [kRun, h]
    dsimp only
    rw [if_pos hy, if_pos ⟨rfl, hf, hn, hno⟩, kRun_le h1 (Nat.le_max_left n1 n2)]
    exact kRun_le h2 (Nat.le_max_right n1 n2)
theorem ev_ret {m pc : Nat} {ls st : List Value} {H : kH} {v : Option Value} (h : kStp m pc ls st H = some (.inr (.inr v))) : ev m pc ls st H = some (v, H) := ev_iff.mpr ⟨1, by rw [kRun, h]⟩
theorem ev_none {m pc : Nat} {ls st : List Value} {H : kH} (h : kStp m pc ls st H = none) : ev m pc ls st H = none := by
  cases he : ev m pc ls st H with
  | none => rfl
  | some o =>
    obtain ⟨n, hn⟩ := ev_iff.mp he
    cases n with
    | zero => simp [kRun] at hn
    | succ n => rw [kRun, h] at hn; cases hn
theorem kStp_of {m pc len : Nat} {i : Instr} {ls st : List Value} {H : kH} (hd : decode (mbyt m) pc = .ok (i, len)) (hl : len = kLen i len) : kStp m pc ls st H = kIns2 m i pc ls st H := by
  unfold kStp
  rw [hd]
  exact if_pos hl
end
section
/-! the abstract machine is the machine: the picture of a state -/
def vR (ad : Nat → Nat) : Value → Value
  | .ref k => .ref (ad k)
  | v => v
theorem vR_cat (ad : Nat → Nat) (v : Value) : (vR ad v).category = v.category := by cases v <;> rfl
def kfv (ad : Nat → Nat) (H : kH) (k c f : Nat) : Value :=
  match fki c f with
  | 0 => .int (hI H k f)
  | 1 => .int (hI H k f)
  | 2 => .long (hL H k f)
  | 3 => .ref (ad (sref k f))
  | _ => .null
def knf (c : Nat) : Nat := (kfk.getD c []).length
def shz (k : Nat) : Nat × Nat := if k = 30 then (1, 19) else shp k
def kcell (ad : Nat → Nat) (cI cL : ClassId) (H : kH) (k : Nat) : va_E :=
  match shz k with
  | (0, c) => .inr (c, (List.range (knf c)).map (fun f => kfv ad H k c f))
  | (1, n) => .inl (cI, n, .inl (hI H k))
  | (2, n) => .inl (cL, n, .inr (.inl (hL H k)))
  | _ => .inr (0, [])
def kW (ad : Nat → Nat) (cI cL : ClassId) (H : kH) : va_W := (List.range (nW H)).map (fun k => (ad k, kcell ad cI cL H k))
theorem kW_get {ad : Nat → Nat} {cI cL : ClassId} {H : kH} {k : Nat} (hk : k < nW H) : (kW ad cI cL H)[k]? = some (ad k, kcell ad cI cL H k) := by
  unfold kW
  rw [List.getElem?_map, List.getElem?_range hk]
  rfl
theorem kW_len (ad : Nat → Nat) (cI cL : ClassId) (H : kH) : (kW ad cI cL H).length = nW H := by simp [kW]
theorem kW_lt {ad : Nat → Nat} {cI cL : ClassId} {H : kH} {k : Nat} {q : Nat × va_E} (h : (kW ad cI cL H)[k]? = some q) : k < nW H ∧ q = (ad k, kcell ad cI cL H k) := by
  have h1 : k < nW H := by
    have := (List.getElem?_eq_some_iff.mp h).1
    rwa [kW_len] at this
  rw [kW_get h1] at h
  exact ⟨h1, (Option.some.inj h).symm⟩
theorem nW_ge (H : kH) : 30 ≤ nW H := by
  unfold nW
  split <;> omega
theorem nW_le (H : kH) : nW H ≤ 31 := by
  unfold nW
  split <;> omega
theorem nW_of {H H' : kH} (h : H'.2.2 = H.2.2) : nW H' = nW H := by
  unfold nW fl
  rw [h]
/-- what may be written: all that was made since the law began -/
def kA (B : Nat) : Nat → Prop := fun q => B ≤ q
def kInj (B N : Nat) (ad : Nat → Nat) : Prop := (∀ i j, i < N → j < N → ad i = ad j → i = j) ∧ ∀ k, k < N → B ≤ ad k
theorem kD {B : Nat} {ad : Nat → Nat} {cI cL : ClassId} {H : kH} (hi : kInj B (nW H) ad) : va_D (kA B) (kW ad cI cL H) := by
  refine ⟨fun i j p q hp hq e => ?_, fun k q hq => ?_⟩
  · obtain ⟨h1, rfl⟩ := kW_lt hp
    obtain ⟨h2, rfl⟩ := kW_lt hq
    exact hi.1 i j h1 h2 e
  · obtain ⟨h1, rfl⟩ := kW_lt hq
    exact hi.2 k h1
theorem kW_set {ad : Nat → Nat} {cI cL : ClassId} {H H' : kH} {k : Nat} {e : va_E} (hk : k < nW H) (hn : H'.2.2 = H.2.2) (he : e = kcell ad cI cL H' k) (h : ∀ j, j ≠ k → kcell ad cI cL H' j = kcell ad cI cL H j) : (kW ad cI cL H).set k (ad k, e) = kW ad cI cL H' := by
  subst he
  have hn := nW_of hn
  apply List.ext_getElem?
  intro j
  by_cases hj : j = k
  · subst hj
    rw [List.getElem?_set_self (by rw [kW_len]; exact hk), kW_get (by rw [hn]; exact hk)]
  · rw [List.getElem?_set_ne (Ne.symm hj)]
    by_cases hw : j < nW H
    · rw [kW_get hw, kW_get (by rw [hn]; exact hw), h j hj]
    · rw [List.getElem?_eq_none (by rw [kW_len]; omega), List.getElem?_eq_none (by rw [kW_len, hn]; omega)]
theorem hI_uI (H : kH) (k j : Nat) (v : Int32) (a b : Nat) : hI (uI H k j v) a b = if a = k ∧ b = j then v else hI H a b := rfl
theorem hL_uI (H : kH) (k j : Nat) (v : Int32) (a b : Nat) : hL (uI H k j v) a b = hL H a b := rfl
theorem hR_uI (H : kH) (k j : Nat) (v : Int32) (a b : Nat) : hR (uI H k j v) a b = hR H a b := rfl
theorem hI_uL (H : kH) (k j : Nat) (v : Int64) (a b : Nat) : hI (uL H k j v) a b = hI H a b := rfl
theorem hL_uL (H : kH) (k j : Nat) (v : Int64) (a b : Nat) : hL (uL H k j v) a b = if a = k ∧ b = j then v else hL H a b := rfl
theorem hR_uL (H : kH) (k j : Nat) (v : Int64) (a b : Nat) : hR (uL H k j v) a b = hR H a b := rfl
theorem hI_uR (H : kH) (k j : Nat) (v : Nat) (a b : Nat) : hI (uR H k j v) a b = hI H a b := rfl
theorem hL_uR (H : kH) (k j : Nat) (v : Nat) (a b : Nat) : hL (uR H k j v) a b = hL H a b := rfl
theorem hR_uR (H : kH) (k j : Nat) (v : Nat) (a b : Nat) : hR (uR H k j v) a b = if a = k ∧ b = j then v else hR H a b := rfl
theorem hI_uC (H : kH) (k : Nat) (f : Nat → Int32) (a b : Nat) : hI (uC H k f) a b = if a = k then f b else hI H a b := rfl
theorem hL_uC (H : kH) (k : Nat) (f : Nat → Int32) (a b : Nat) : hL (uC H k f) a b = hL H a b := rfl
theorem hR_uC (H : kH) (k : Nat) (f : Nat → Int32) (a b : Nat) : hR (uC H k f) a b = hR H a b := rfl
theorem kfv_congr {ad : Nat → Nat} {H H' : kH} {k c f : Nat} (h1 : hI H' k f = hI H k f) (h2 : hL H' k f = hL H k f) (h3 : hR H' k f = hR H k f) : kfv ad H' k c f = kfv ad H k c f := by
  unfold kfv
  rw [h1, h2]
theorem kcell_congr {ad : Nat → Nat} {cI cL : ClassId} {H H' : kH} {k : Nat} (h1 : ∀ f, hI H' k f = hI H k f) (h2 : ∀ f, hL H' k f = hL H k f) (h3 : ∀ f, hR H' k f = hR H k f) : kcell ad cI cL H' k = kcell ad cI cL H k := by
  have e1 : hI H' k = hI H k := funext h1
  have e2 : hL H' k = hL H k := funext h2
  have e3 : (fun f c => kfv ad H' k c f) = (fun f c => kfv ad H k c f) := by
    funext f c
    exact kfv_congr (h1 f) (h2 f) (h3 f)
  unfold kcell
  rw [e1, e2]
  have e4 : ∀ c, (fun f => kfv ad H' k c f) = (fun f => kfv ad H k c f) := fun c => funext fun f => kfv_congr (h1 f) (h2 f) (h3 f)
  split <;> first | rfl | (rw [e4])
/-- a field is written -/
theorem kcell_put {ad : Nat → Nat} {cI cL : ClassId} {H H' : kH} {k c f : Nat} {v : Value} (hs : shz k = (0, c)) (hv : kfv ad H' k c f = v) (ho : ∀ g, g ≠ f → kfv ad H' k c g = kfv ad H k c g) : (Sum.inr (c, ((List.range (knf c)).map (fun f => kfv ad H k c f)).set f v) : va_E) = kcell ad cI cL H' k := by
  unfold kcell
  rw [hs]
  show (Sum.inr (c, _) : va_E) = Sum.inr (c, _)
  congr 2
  apply List.ext_getElem?
  intro j
  by_cases hj : j = f
  · subst hj
    by_cases hl : j < knf c
    · rw [List.getElem?_set_self (by simpa using hl), List.getElem?_map, List.getElem?_range hl]
      exact congrArg some hv.symm
    · rw [List.getElem?_eq_none (by simp; omega), List.getElem?_eq_none (by simp; omega)]
  · rw [List.getElem?_set_ne (Ne.symm hj)]
    by_cases hl : j < knf c
    · rw [List.getElem?_map, List.getElem?_map, List.getElem?_range hl]
      exact congrArg some (ho j hj).symm
    · rw [List.getElem?_eq_none (by simp; omega), List.getElem?_eq_none (by simp; omega)]
/-- the locals -/
def kLR (ad : Nat → Nat) (arr : Array Slot) (n : Nat) (ls : List Value) : Prop := arr.size = n ∧ ls.length = n ∧ lv_wf arr ∧ ∀ (i : Nat) (v : Value), ls[i]? = some v → v ≠ .null → arr[i]? = some (.val (vR ad v))
def kpo (ad : Nat → Nat) (i : Nat) (o : Option Value) : Option (Nat × Value) :=
  match o with
  | some Value.null => none
  | some v => some (i, vR ad v)
  | none => none
def kpr (ad : Nat → Nat) (ls : List Value) : List (Nat × Value) := (List.range ls.length).filterMap (fun i => kpo ad i ls[i]?)
theorem kpr_mem {ad : Nat → Nat} {ls : List Value} {q : Nat × Value} (h : q ∈ kpr ad ls) : ∃ v, ls[q.1]? = some v ∧ v ≠ .null ∧ q.2 = vR ad v := by
  obtain ⟨i, -, h2⟩ := List.mem_filterMap.mp h
  cases hv : ls[i]? with
  | none => rw [hv] at h2; cases h2
  | some v =>
    rw [hv] at h2
    cases v <;> first | (cases h2; done) | (cases h2; exact ⟨_, hv, (fun z => (by cases z)), rfl⟩)
theorem kpr_in {ad : Nat → Nat} {ls : List Value} {i : Nat} {v : Value} (h : ls[i]? = some v) (hn : v ≠ .null) : (i, vR ad v) ∈ kpr ad ls := by
  refine List.mem_filterMap.mpr ⟨i, List.mem_range.mpr (List.getElem?_eq_some_iff.mp h).1, ?_⟩
  rw [h]
  cases v with
  | null => exact absurd rfl hn
  | _ => rfl
theorem kLR_has {ad : Nat → Nat} {arr : Array Slot} {n : Nat} {ls : List Value} (h : kLR ad arr n ls) : lv_has arr n (kpr ad ls) := by
  obtain ⟨h1, h2, h3, h4⟩ := h
  refine ⟨h1, h3, fun q hq => ?_⟩
  obtain ⟨v, e1, e2, e3⟩ := kpr_mem hq
  rw [e3]
  exact h4 _ _ e1 e2
theorem kClr_len (ls : List Value) (i : Nat) : (kClr ls i).length = ls.length := by
  unfold kClr
  split
  · rfl
  · split <;> simp
theorem kClr_get {ls : List Value} {i j : Nat} {v : Value} (h : (kClr ls i)[j]? = some v) (hn : v ≠ .null) : ls[j]? = some v ∧ ¬ (j + 1 = i ∧ v.category = 2) := by
  unfold kClr at h
  split at h
  · exact ⟨h, by omega⟩
  · rename_i k
    have key : ∀ w : Value, ls[k]? = some w → (ls.set k .null)[j]? = some v → ls[j]? = some v ∧ ¬ (j + 1 = k + 1 ∧ v.category = 2) := by
      intro w e h
      by_cases hj : j = k
      · subst hj
        rw [List.getElem?_set_self (List.getElem?_eq_some_iff.mp e).1] at h
        cases h
        exact absurd rfl hn
      · rw [List.getElem?_set_ne (Ne.symm hj)] at h
        exact ⟨h, by omega⟩
    split at h
    · rename_i x e
      exact key _ e h
    · rename_i x e
      exact key _ e h
    · rename_i h1 h2
      refine ⟨h, ?_⟩
      rintro ⟨e1, e2⟩
      have : j = k := by omega
      subst this
      cases v <;> first | exact h1 _ h | exact h2 _ h | cases e2
theorem kLR_st1 {ad : Nat → Nat} {arr arr' : Array Slot} {n i : Nat} {ls : List Value} {v : Value} (h : kLR ad arr n ls)
    (hh : lv_has arr' n ((i, vR ad v) :: (kpr ad ls).filter (fun q => !(q.1 == i) && !(q.1 + 1 == i && q.2.category == 2)))) : kLR ad arr' n (kSt1 ls i v) := by
  obtain ⟨g1, g2, g3⟩ := hh
  refine ⟨g1, by unfold kSt1; rw [List.length_set, kClr_len]; exact h.2.1, g2, fun j w hj hw => ?_⟩
  unfold kSt1 at hj
  by_cases e : j = i
  · subst e
    by_cases hl : j < (kClr ls j).length
    · rw [List.getElem?_set_self hl] at hj
      cases hj
      exact g3 _ List.mem_cons_self
    · rw [List.getElem?_eq_none (by rw [List.length_set]; omega)] at hj
      cases hj
  · rw [List.getElem?_set_ne (Ne.symm e)] at hj
    obtain ⟨e1, e2⟩ := kClr_get hj hw
    refine g3 (j, vR ad w) (List.mem_cons_of_mem _ (List.mem_filter.mpr ⟨kpr_in e1 hw, ?_⟩))
    have c1 : (j == i) = false := by simp [e]
    simp only [c1, Bool.not_false, Bool.true_and, Bool.not_eq_true', Bool.and_eq_false_iff]
    by_cases e3 : j + 1 = i
    · right
      rw [vR_cat]
      exact beq_false_of_ne (fun z => e2 ⟨e3, z⟩)
    · left
      simp [e3]
theorem kLR_st2 {ad : Nat → Nat} {arr arr' : Array Slot} {n i : Nat} {ls : List Value} {v : Value} (h : kLR ad arr n ls)
    (hh : lv_has arr' n ((i, vR ad v) :: (kpr ad ls).filter (fun q => !(q.1 == i) && (!(q.1 == i + 1) && !(q.1 + 1 == i && q.2.category == 2))))) : kLR ad arr' n (kSt2 ls i v) := by
  obtain ⟨g1, g2, g3⟩ := hh
  refine ⟨g1, by unfold kSt2; rw [List.length_set, List.length_set, kClr_len]; exact h.2.1, g2, fun j w hj hw => ?_⟩
  unfold kSt2 at hj
  by_cases e0 : j = i + 1
  · subst e0
    by_cases hl : i + 1 < ((kClr ls i).set i v).length
    · rw [List.getElem?_set_self hl] at hj
      cases hj
      exact absurd rfl hw
    · rw [List.getElem?_eq_none (by rw [List.length_set]; omega)] at hj
      cases hj
  rw [List.getElem?_set_ne (Ne.symm e0)] at hj
  by_cases e : j = i
  · subst e
    by_cases hl : j < (kClr ls j).length
    · rw [List.getElem?_set_self hl] at hj
      cases hj
      exact g3 _ List.mem_cons_self
    · rw [List.getElem?_eq_none (by rw [List.length_set]; omega)] at hj
      cases hj
  · rw [List.getElem?_set_ne (Ne.symm e)] at hj
    obtain ⟨e1, e2⟩ := kClr_get hj hw
    refine g3 (j, vR ad w) (List.mem_cons_of_mem _ (List.mem_filter.mpr ⟨kpr_in e1 hw, ?_⟩))
    have c1 : (j == i) = false := by simp [e]
    have c2 : (j == i + 1) = false := by simp [e0]
    simp only [c1, c2, Bool.not_false, Bool.true_and, Bool.not_eq_true', Bool.and_eq_false_iff]
    by_cases e3 : j + 1 = i
    · right
      rw [vR_cat]
      exact beq_false_of_ne (fun z => e2 ⟨e3, z⟩)
    · left
      simp [e3]
end
section
/-! one instruction: the abstract step is the machine's -/
theorem kfind {α : Type} {l : List α} {p : α → Bool} {β : Type} {f : α → β} {b : β} (h : (l.find? p).map f = some b) : ∃ q, q ∈ l ∧ p q = true ∧ f q = b := by
  rw [Option.map_eq_some_iff] at h
  obtain ⟨q, h1, h2⟩ := h
  exact ⟨q, List.mem_of_find?_eq_some h1, List.find?_some h1, h2⟩
/-- the links of nest mates -/
def kNs (s : State) : Prop := ∀ q ∈ kcT, q.2.2.1 = 2 → va_Nw (.methodLinkNest (cow q.1) q.2.1 (my q.2.2.2.1) "SneezeKing") s
/-- what stands of the launch at a method's start: the text, COMPACT_STRINGS, the script -/
def kCF (B : Nat) (ad : Nat → Nat) (L : Nat) (xs : Nat → Int32) (s : State) (Hp : Heap) : Prop :=
  vk_S 1 [5] [kbs] (fun _ => ad 39) (fun _ => ad 40) (kA B) s Hp ∧ vk_R "SneezeKing$Page" 35 "psfdc" (ad 39) s ∧ va_Z "java/lang/String" "COMPACT_STRINGS" "Z" (.int 1) (kA B) s Hp ∧ va_X (ad 38) L xs s Hp ∧ ad 38 < Hp.size ∧ ¬ kA B (ad 38) ∧ kNs s ∧ B ≤ Hp.size
def kSc (L : Nat) (xs : Nat → Int32) (H : kH) : Prop := (∀ j, hI H 38 j = xs j) ∧ hI H 41 0 = nI L ∧ L ≤ 260
def kFC (p : Program) (s : State) (mi : MethodId) (c : Code) (args : Array Value) (R : Room) (m cells slots : Nat) : Prop :=
  p.tables.exec = Jvm.exec ∧ c.code = mbyt m ∧ c.maxLocals = mnL m ∧ s.vm.findClass (cow (mow m)) = some mi.cls ∧ (∀ w ∈ kAW, w.before args s = true) ∧ mfr m ≤ R.frames ∧ mlo m ≤ R.locals ∧ cells ≤ R.cells ∧ slots ≤ R.slots
theorem kSc_upd {L : Nat} {xs : Nat → Int32} {H H' : kH} (h : kSc L xs H) (h1 : ∀ k j, 38 ≤ k → hI H' k j = hI H k j) : kSc L xs H' := ⟨fun j => (h1 38 j (by omega)).trans (h.1 j), (h1 41 0 (by omega)).trans h.2.1, h.2.2⟩
theorem kws_0 : u_ws RX0 TX0 12 = ([49, 51, 53, 55, 57, 59, 61, 63, 65, 67, 69, 71] : List Nat).filterMap (fun i => lw_tbl[i]?) := by decide +kernel
theorem kwg_0 : (u_ws RX0 TX0 12).all goodWord = true := by decide +kernel
theorem kws_1 : u_ws RX1 TX1 2 = ([83, 85] : List Nat).filterMap (fun i => lw_tbl[i]?) := by decide +kernel
theorem kwg_1 : (u_ws RX1 TX1 2).all goodWord = true := by decide +kernel
theorem kws_2 : u_ws RX2 TX2 8 = ([102, 104, 106, 108, 110, 112, 114, 116] : List Nat).filterMap (fun i => lw_tbl[i]?) := by decide +kernel
theorem kwg_2 : (u_ws RX2 TX2 8).all goodWord = true := by decide +kernel
theorem kws_3 : u_ws RX4 TX4 4 = ([130, 132, 134, 136] : List Nat).filterMap (fun i => lw_tbl[i]?) := by decide +kernel
theorem kwg_3 : (u_ws RX4 TX4 4).all goodWord = true := by decide +kernel
theorem kws_4 : u_ws RX5 TX5 7 = ([146, 148, 150, 152, 154, 156, 158] : List Nat).filterMap (fun i => lw_tbl[i]?) := by decide +kernel
theorem kwg_4 : (u_ws RX5 TX5 7).all goodWord = true := by decide +kernel
theorem kws_in {ws : List Cond} {ps : List Nat} (h : ws = ps.filterMap (fun i => lw_tbl[i]?)) (hg : ws.all goodWord = true) : ∀ w ∈ ws, w ∈ kAW := by
  intro w hw
  have h1 := List.all_eq_true.mp hg w hw
  rw [h] at hw
  obtain ⟨i, -, hi⟩ := List.mem_filterMap.mp hw
  exact kAW_of hi h1
def kty (c : Nat) : Nat → FieldType := match c with
  | 0 => tyX0
  | 1 => tyX1
  | 2 => tyX2
  | 3 => tyX4
  | _ => tyX5
theorem kvw : ∀ c, c < 5 → ∃ C T N, vwCl[c]? = some (C, T, N) ∧ N = knf c ∧ (∀ w ∈ u_ws C T N, w ∈ kAW) ∧ (∀ k, k < N → parseFieldDescriptor (T k).2.2.1 = some (kty c k)) ∧ (∀ a, a < N → ∀ b, b < N → a ≠ b → (T a).2.1 ≠ (T b).2.1) ∧ (∀ k, k < N → ((T k).2.2.2 = true → fki c k = 3) ∧ (fki c k = 0 → kty c k = .int) ∧ (fki c k = 1 → kty c k = .boolean) ∧ (fki c k = 2 → kty c k = .long)) := by
  intro c hc
  match c, hc with
  | 0, _ => exact ⟨RX0, TX0, 12, rfl, by decide +kernel, kws_in kws_0 kwg_0, tyX0_ok, nmX0, by decide +kernel⟩
  | 1, _ => exact ⟨RX1, TX1, 2, rfl, by decide +kernel, kws_in kws_1 kwg_1, tyX1_ok, nmX1, by decide +kernel⟩
  | 2, _ => exact ⟨RX2, TX2, 8, rfl, by decide +kernel, kws_in kws_2 kwg_2, tyX2_ok, nmX2, by decide +kernel⟩
  | 3, _ => exact ⟨RX4, TX4, 4, rfl, by decide +kernel, kws_in kws_3 kwg_3, tyX4_ok, nmX4, by decide +kernel⟩
  | 4, _ => exact ⟨RX5, TX5, 7, rfl, by decide +kernel, kws_in kws_4 kwg_4, tyX5_ok, nmX5, by decide +kernel⟩
  | n + 5, h => exact absurd h (by omega)

section KST
variable {p : Program} {l : Launch} {e : Env} {R : Room} {s : State} {mi : MethodId} {args : Array Value} {below : List Frame} {meth : Method} {c : Code} {cells slots : Nat} {Q : State → Prop}
variable {B : Nat} {ad : Nat → Nat} {D : va_G} {cI cL : ClassId} {L : Nat} {xs : Nat → Int32}
def kWt (p : Program) (l : Launch) (e : Env) (R : Room) (s : State) (mi : MethodId) (args : Array Value) (below : List Frame) (meth : Method) (c : Code) (cells slots : Nat) (Q : State → Prop) (B : Nat) (ad : Nat → Nat) (D : va_G) (cI cL : ClassId) (L : Nat) (xs : Nat → Int32) (m : Nat) (a : Nat × List Value × List Value × kH) : Prop :=
  ∀ (Hp : Heap) (locs : List Loc) (arr : Array Slot), va_P D vwCl (kW ad cI cL a.2.2.2) Hp → va_S (kA B) s.heap Hp locs → kLR ad arr (mnL m) a.2.1 → kSc L xs a.2.2.2 → W p l e R s mi args below meth c Hp locs cells slots Q (F0 mi a.1 arr (a.2.2.1.map (vR ad)))
theorem kNx_inv {pc : Nat} {ls st : List Value} {H : kH} {a : Nat × List Value × List Value × kH} (h : kNx pc ls st H = some a) : a = (pc, ls, st, H) := by
  unfold kNx at h
  cases h
  rfl
theorem kcell_arr {H : kH} {k n : Nat} (h : shz k = (1, n)) : kcell ad cI cL H k = .inl (cI, n, .inl (hI H k)) := by
  unfold kcell
  rw [h]
  rfl
theorem kcell_arL {H : kH} {k n : Nat} (h : shz k = (2, n)) : kcell ad cI cL H k = .inl (cL, n, .inr (.inl (hL H k))) := by
  unfold kcell
  rw [h]
  rfl
theorem kcell_ob {H : kH} {k n : Nat} (h : shz k = (0, n)) : kcell ad cI cL H k = .inr (n, (List.range (knf n)).map (fun f => kfv ad H k n f)) := by
  unfold kcell
  rw [h]
  rfl
theorem shp_lt : ∀ k, k < 41 → ¬ k < 30 → (shp k).1 ≠ 0 ∧ (shp k).1 ≠ 1 ∧ (shp k).1 ≠ 2 ∧ ((shp k).1 = 4 → k = 38) ∧ (shp k = (6, 5) ∧ k = 40 ∨ (shp k).1 ≠ 6) := by decide +kernel
theorem shp_lo : ∀ k, k < 30 → (shp k).1 ≠ 4 ∧ (shp k).1 ≠ 6 ∧ ((shp k).1 = 0 → (shp k).2 < 5) := by decide +kernel
theorem shp_big {k : Nat} (h : ¬ k < 41) : shp k = (9, 0) := by
  unfold shp
  rw [List.getD_eq_getElem?_getD, List.getElem?_eq_none (by show 41 ≤ k; omega)]
  rfl
theorem shp_in {k a n : Nat} (h : shp k = (a, n)) (ha : a = 0 ∨ a = 1 ∨ a = 2) : k < 30 := by
  rcases Nat.lt_or_ge k 30 with q | q
  · exact q
  · by_cases h41 : k < 41
    · obtain ⟨h1, h2, h3, -⟩ := shp_lt k h41 (by omega)
      rw [h] at h1 h2 h3
      dsimp only at h1 h2 h3
      omega
    · rw [shp_big h41] at h
      cases h
      omega
theorem shp_4 {k n : Nat} (h : shp k = (4, n)) : k = 38 := by
  rcases Nat.lt_or_ge k 30 with q | q
  · exact absurd (by rw [h]) (shp_lo k q).1
  · by_cases h41 : k < 41
    · exact (shp_lt k h41 (by omega)).2.2.2.1 (by rw [h])
    · rw [shp_big h41] at h
      cases h
theorem shp_6 {k n : Nat} (h : shp k = (6, n)) : k = 40 ∧ n = 5 := by
  rcases Nat.lt_or_ge k 30 with q | q
  · exact absurd (by rw [h]) (shp_lo k q).2.1
  · by_cases h41 : k < 41
    · rcases (shp_lt k h41 (by omega)).2.2.2.2 with ⟨h1, h2⟩ | h1
      · rw [h] at h1
        cases h1
        exact ⟨h2, rfl⟩
      · exact absurd (by rw [h]) h1
    · rw [shp_big h41] at h
      cases h
theorem shp_ob {k c : Nat} (h : shp k = (0, c)) : k < 30 ∧ c < 5 := by
  have h1 := shp_in h (Or.inl rfl)
  have h2 := (shp_lo k h1).2.2 (by rw [h])
  rw [h] at h2
  exact ⟨h1, h2⟩
theorem shp_30 : shp 30 = (9, 0) := rfl
theorem shz_of {k a n : Nat} (h : shp k = (a, n)) (ha : a ≠ 9) : shz k = (a, n) := by
  unfold shz
  rw [if_neg]
  · exact h
  · rintro rfl
    rw [shp_30] at h
    cases h
    exact ha rfl
theorem shq_of {H : kH} {k a n : Nat} (h : shp k = (a, n)) (ha : a ≠ 9) : shq H k = (a, n) := by
  unfold shq
  rw [if_neg]
  · exact h
  · rintro rfl
    rw [shp_30] at h
    cases h
    exact ha rfl
theorem shq_in {H : kH} {k a n : Nat} (h : shq H k = (a, n)) (ha : a = 0 ∨ a = 1 ∨ a = 2) : k < nW H ∧ shz k = (a, n) := by
  unfold shq at h
  split at h
  · rename_i hk
    subst hk
    split at h
    · cases h
      omega
    · rename_i hf
      cases h
      refine ⟨?_, rfl⟩
      unfold nW
      rw [if_neg hf]
      omega
  · exact ⟨Nat.lt_of_lt_of_le (shp_in h ha) (nW_ge H), shz_of h (by omega)⟩
theorem shq_4 {H : kH} {k n : Nat} (h : shq H k = (4, n)) : k = 38 := by
  unfold shq at h
  split at h
  · split at h <;> cases h
  · exact shp_4 h
theorem shq_6 {H : kH} {k n : Nat} (h : shq H k = (6, n)) : k = 40 ∧ n = 5 := by
  unfold shq at h
  split at h
  · split at h <;> cases h
  · exact shp_6 h
theorem shq_38 {H : kH} {k n : Nat} (h : shq H k = (1, n)) : k < 38 := by
  have h1 := (shq_in h (by omega)).1
  have h2 := nW_le H
  omega
theorem lt_nW {H : kH} {k : Nat} (h : k < 30) : k < nW H := Nat.lt_of_lt_of_le h (nW_ge H)
theorem kcells_uI {H : kH} {k f : Nat} {x : Int32} : ∀ j, j ≠ k → kcell ad cI cL (uI H k f x) j = kcell ad cI cL H j := fun j hj => kcell_congr (fun g => by rw [hI_uI, if_neg (fun z => hj z.1)]) (fun _ => rfl) (fun _ => rfl)
theorem kcells_uL {H : kH} {k f : Nat} {x : Int64} : ∀ j, j ≠ k → kcell ad cI cL (uL H k f x) j = kcell ad cI cL H j := fun j hj => kcell_congr (fun _ => rfl) (fun g => by rw [hL_uL, if_neg (fun z => hj z.1)]) (fun _ => rfl)
theorem kSc_uI {H : kH} {k f : Nat} {x : Int32} (h : kSc L xs H) (hk : k < 38) : kSc L xs (uI H k f x) := kSc_upd h (fun a b ha => by rw [hI_uI, if_neg (by omega)])
theorem kLdI_inv {ls st : List Value} {i pc : Nat} {H : kH} {a : Nat × List Value × List Value × kH} (h : kLdI ls i pc st H = some a) : ∃ x, ls[i]? = some (.int x) ∧ a = (pc, ls, .int x :: st, H) := by
  unfold kLdI at h
  split at h
  · rename_i x ex
    exact ⟨x, ex, kNx_inv h⟩
  · cases h
theorem kLdL_inv {ls st : List Value} {i pc : Nat} {H : kH} {a : Nat × List Value × List Value × kH} (h : kLdL ls i pc st H = some a) : ∃ x, ls[i]? = some (.long x) ∧ a = (pc, ls, .long x :: st, H) := by
  unfold kLdL at h
  split at h
  · rename_i x ex
    exact ⟨x, ex, kNx_inv h⟩
  · cases h
theorem kLdR_inv {ls st : List Value} {i pc : Nat} {H : kH} {a : Nat × List Value × List Value × kH} (h : kLdR ls i pc st H = some a) : ∃ x, ls[i]? = some (.ref x) ∧ a = (pc, ls, .ref x :: st, H) := by
  unfold kLdR at h
  split at h
  · rename_i x ex
    exact ⟨x, ex, kNx_inv h⟩
  · cases h
theorem kSoI_inv {m : Nat} {ls st : List Value} {i pc : Nat} {H : kH} {a : Nat × List Value × List Value × kH} (h : kSoI m ls i pc st H = some a) : ∃ x r, st = .int x :: r ∧ i < mnL m ∧ a = (pc, kSt1 ls i (.int x), r, H) := by
  unfold kSoI at h
  split at h
  · split at h
    · rename_i hi
      exact ⟨_, _, rfl, hi, kNx_inv h⟩
    · cases h
  · cases h
theorem kSoR_inv {m : Nat} {ls st : List Value} {i pc : Nat} {H : kH} {a : Nat × List Value × List Value × kH} (h : kSoR m ls i pc st H = some a) : ∃ x r, st = .ref x :: r ∧ i < mnL m ∧ a = (pc, kSt1 ls i (.ref x), r, H) := by
  unfold kSoR at h
  split at h
  · split at h
    · rename_i hi
      exact ⟨_, _, rfl, hi, kNx_inv h⟩
    · cases h
  · cases h
theorem kSoL_inv {m : Nat} {ls st : List Value} {i pc : Nat} {H : kH} {a : Nat × List Value × List Value × kH} (h : kSoL m ls i pc st H = some a) : ∃ x r, st = .long x :: r ∧ i + 1 < mnL m ∧ a = (pc, kSt2 ls i (.long x), r, H) := by
  unfold kSoL at h
  split at h
  · split at h
    · rename_i hi
      exact ⟨_, _, rfl, hi, kNx_inv h⟩
    · cases h
  · cases h
theorem kB2_inv {f : Int32 → Int32 → Int32} {pc : Nat} {ls st : List Value} {H : kH} {a : Nat × List Value × List Value × kH} (h : kB2 f pc ls st H = some a) : ∃ x y r, st = .int y :: .int x :: r ∧ a = (pc + 1, ls, .int (f x y) :: r, H) := by
  unfold kB2 at h
  split at h
  · exact ⟨_, _, _, rfl, kNx_inv h⟩
  · cases h
theorem kL2_inv {f : Int64 → Int64 → Int64} {pc : Nat} {ls st : List Value} {H : kH} {a : Nat × List Value × List Value × kH} (h : kL2 f pc ls st H = some a) : ∃ x y r, st = .long y :: .long x :: r ∧ a = (pc + 1, ls, .long (f x y) :: r, H) := by
  unfold kL2 at h
  split at h
  · exact ⟨_, _, _, rfl, kNx_inv h⟩
  · cases h
theorem kLS_inv {f : Int64 → Int32 → Int64} {pc : Nat} {ls st : List Value} {H : kH} {a : Nat × List Value × List Value × kH} (h : kLS f pc ls st H = some a) : ∃ x y r, st = .int y :: .long x :: r ∧ a = (pc + 1, ls, .long (f x y) :: r, H) := by
  unfold kLS at h
  split at h
  · exact ⟨_, _, _, rfl, kNx_inv h⟩
  · cases h
theorem kU1_inv {f : Int32 → Int32} {pc : Nat} {ls st : List Value} {H : kH} {a : Nat × List Value × List Value × kH} (h : kU1 f pc ls st H = some a) : ∃ x r, st = .int x :: r ∧ a = (pc + 1, ls, .int (f x) :: r, H) := by
  unfold kU1 at h
  split at h
  · exact ⟨_, _, rfl, kNx_inv h⟩
  · cases h
theorem kBr_inv {q : Prop} [Decidable q] {pc : Nat} {off : Int} {ls st : List Value} {H : kH} {a : Nat × List Value × List Value × kH} (h : kBr q pc off ls st H = some a) : 0 ≤ (pc : Int) + off ∧ ((q ∧ a = (((pc : Int) + off).toNat, ls, st, H)) ∨ (¬ q ∧ a = (pc + 3, ls, st, H))) := by
  unfold kBr at h
  split at h
  · rename_i h0
    refine ⟨h0, ?_⟩
    split at h
    · rename_i hq
      exact Or.inl ⟨hq, kNx_inv h⟩
    · rename_i hq
      exact Or.inr ⟨hq, kNx_inv h⟩
  · cases h
theorem kGo_inv {pc : Nat} {off : Int} {ls st : List Value} {H : kH} {a : Nat × List Value × List Value × kH} (h : kGo pc off ls st H = some a) : 0 ≤ (pc : Int) + off ∧ a = (((pc : Int) + off).toNat, ls, st, H) := by
  unfold kGo at h
  split at h
  · rename_i h0
    exact ⟨h0, kNx_inv h⟩
  · cases h
variable {m pc : Nat} {ls st : List Value} {H : kH} {a : Nat × List Value × List Value × kH}
theorem kget_W {ix : Nat} (hF : kFC p s mi c args R m cells slots) (hK : va_K D vwCl [(cI, .int), (cL, .long)] s) (hC : kCF B ad L xs s s.heap) (hd : decode (mbyt m) pc = .ok (.getfield ix, 3)) (h : kIns m (.getfield ix) pc ls st H = some a)
    (kk : kWt p l e R s mi args below meth c cells slots Q B ad D cI cL L xs m a) : kWt p l e R s mi args below meth c cells slots Q B ad D cI cL L xs m (pc, ls, st, H) := by
  intro Hp locs arr hP hS hl hX
  obtain ⟨hx, hb, hml, hown, hts, -⟩ := hF
  unfold kIns at h
  dsimp only at h
  split at h
  · rename_i cc f k r hcp
    split at h
    · rename_i v hv
      obtain rfl := kNx_inv h
      obtain ⟨q, q1, q2, q3⟩ := kfind hcp
      simp only [Bool.and_eq_true, beq_iff_eq] at q2
      obtain ⟨q2, rfl⟩ := q2
      cases q3
      unfold gf at hv
      split at hv
      · rename_i h9
        split at hv
        · rename_i hk
          subst hk
          rcases kT_fldS q q1 (by omega) with ⟨f0, hw⟩ | ⟨f0, hw⟩
          · rw [if_pos f0] at hv
            cases hv
            rw [q2] at hw
            exact vk_getf hx hb (hC.1.1 0 (by omega)).2.2.1 hS hown (hts _ (kAW_of hw rfl)) (fun _ z => z) hd (kk _ _ _ hP hS hl hX)
          · rw [if_neg (by omega)] at hv
            cases hv
            rw [q2] at hw
            exact vk_getf hx hb (hC.1.1 0 (by omega)).2.1 hS hown (hts _ (kAW_of hw rfl)) (fun _ z => z) hd (kk _ _ _ hP hS hl hX)
        · cases hv
      · split at hv
        · rename_i hs
          obtain ⟨hk, hc6⟩ := shp_ob hs
          obtain ⟨C, T, N, e1, e2, e3, -⟩ := kvw _ hc6
          obtain ⟨g1, g2, g3⟩ := kT_fld q q1 hc6 _ e1
          dsimp only at g1 g2 g3
          rw [q2] at g1
          have hv' : kfv ad H k q.2.2.1 q.2.2.2.1 = vR ad v := by
            unfold kfv
            split at hv <;> first | (cases hv; rename_i ef; rw [ef]; rfl) | cases hv
          refine va_get (C := C) (T := T) (N := N) (ci := q.2.2.1) hx hb hts e3 hown hK hP k ((kW_get (lt_nW hk)).trans (by rw [kcell_ob (shz_of hs (by decide))])) e1 q.2.2.2.1 g2 (hts _ (kAW_of g1 rfl)) (fun x z => by rw [g3] at z; exact z) (v := vR ad v) ?_ hd (kk _ _ _ hP hS hl hX)
          rw [List.getElem?_map, List.getElem?_range (by rw [← e2]; exact g2)]
          exact congrArg some hv'
        · cases hv
    · cases h
  · cases h
theorem kput_W {ix : Nat} (hF : kFC p s mi c args R m cells slots) (hK : va_K D vwCl [(cI, .int), (cL, .long)] s) (hi : kInj B (nW H) ad) (hd : decode (mbyt m) pc = .ok (.putfield ix, 3)) (h : kIns m (.putfield ix) pc ls st H = some a)
    (kk : kWt p l e R s mi args below meth c cells slots Q B ad D cI cL L xs m a) : kWt p l e R s mi args below meth c cells slots Q B ad D cI cL L xs m (pc, ls, st, H) := by
  intro Hp locs arr hP hS hl hX
  obtain ⟨hx, hb, hml, hown, hts, -⟩ := hF
  unfold kIns at h
  dsimp only at h
  split at h
  · rename_i cc f v k r hcp
    split at h
    · rename_i H' hv
      obtain rfl := kNx_inv h
      obtain ⟨q, q1, q2, q3⟩ := kfind hcp
      simp only [Bool.and_eq_true, beq_iff_eq] at q2
      obtain ⟨q2, rfl⟩ := q2
      cases q3
      unfold pf at hv
      split at hv
      · rename_i hs
        obtain ⟨hs, -⟩ := hs
        obtain ⟨hk, hc6⟩ := shp_ob hs
        obtain ⟨C, T, N, e1, e2, e3, e4, e5, e6⟩ := kvw _ hc6
        obtain ⟨g1, g2, g3⟩ := kT_fld q q1 hc6 _ e1
        dsimp only at g1 g2 g3
        rw [q2] at g1
        obtain ⟨k1, k2, k3, k4⟩ := e6 _ g2
        have key : ∀ (ty : FieldType) (v' : Value), v' = vR ad v → kty q.2.2.1 q.2.2.2.1 = ty → fki q.2.2.1 q.2.2.2.1 ≠ 3 → narrow ty v' = v' → fits ty v' = true → kfv ad H' k q.2.2.1 q.2.2.2.1 = v' →
            (∀ g, g ≠ q.2.2.2.1 → kfv ad H' k q.2.2.1 g = kfv ad H k q.2.2.1 g) → (∀ j, j ≠ k → kcell ad cI cL H' j = kcell ad cI cL H j) → H'.2.2 = H.2.2 → kSc L xs H' →
            W p l e R s mi args below meth c Hp locs cells slots Q (F0 mi pc arr ((v :: .ref k :: r).map (vR ad))) := by
          intro ty v' ev' ht h3 hn hfit hkv ho hoj hR2 hX'
          refine W.eq (g2 := F0 mi pc arr (v' :: .ref (ad k) :: r.map (vR ad))) (by rw [ev']; rfl) ?_
          refine va_put (C := C) (T := T) (N := N) (ci := q.2.2.1) hx hb hts e3 (kty q.2.2.1) e4 e5 hown hK hP (kD hi) hS k ((kW_get (lt_nW hk)).trans (by rw [kcell_ob (shz_of hs (by decide))])) e1 q.2.2.2.1 g2 (hts _ (kAW_of g1 rfl)) (fun x z => by rw [g3] at z; exact z) ?_ (ty := ty) (by rw [e4 _ g2, ht]) hn hfit ?_ hd (fun H1 locs1 hP1 hD1 hS1 => ?_)
          · cases hq : (T q.2.2.2.1).2.2.2 with
            | false => rfl
            | true => exact absurd (k1 hq) h3
          · rw [List.length_map, List.length_range, ← e2]; exact g2
          · rw [kW_set (lt_nW hk) hR2 (kcell_put (shz_of hs (by decide)) hkv ho) hoj] at hP1
            exact kk _ _ _ hP1 hS1 hl hX'
        split at hv
        · rename_i x ef
          cases hv
          exact key .int (.int x) rfl (k2 ef) (by omega) rfl rfl (by unfold kfv; rw [ef, hI_uI, if_pos ⟨rfl, rfl⟩]; rfl) (fun g hg => kfv_congr (by rw [hI_uI, if_neg (fun z => hg z.2)]) rfl rfl) kcells_uI rfl (kSc_uI hX (by omega))
        · rename_i x ef
          split at hv
          · rename_i h01
            cases hv
            refine key .boolean (.int x) rfl (k3 ef) (by omega) ?_ ?_ (by unfold kfv; rw [ef, hI_uI, if_pos ⟨rfl, rfl⟩]; rfl) (fun g hg => kfv_congr (by rw [hI_uI, if_neg (fun z => hg z.2)]) rfl rfl) kcells_uI rfl (kSc_uI hX (by omega))
            · rcases h01 with rfl | rfl <;> rfl
            · rcases h01 with rfl | rfl <;> rfl
          · cases hv
        · rename_i x ef
          cases hv
          exact key .long (.long x) rfl (k4 ef) (by omega) rfl rfl (by unfold kfv; rw [ef, hL_uL, if_pos ⟨rfl, rfl⟩]; rfl) (fun g hg => kfv_congr rfl (by rw [hL_uL, if_neg (fun z => hg z.2)]) rfl) kcells_uL rfl (kSc_upd hX (fun _ _ _ => rfl))
        · cases hv
      · cases hv
    · cases h
  · cases h
theorem klen_W (hF : kFC p s mi c args R m cells slots) (hK : va_K D vwCl [(cI, .int), (cL, .long)] s) (hC : kCF B ad L xs s s.heap) (hd : decode (mbyt m) pc = .ok (.arraylength, 1)) (h : kIns m .arraylength pc ls st H = some a)
    (kk : kWt p l e R s mi args below meth c cells slots Q B ad D cI cL L xs m a) : kWt p l e R s mi args below meth c cells slots Q B ad D cI cL L xs m (pc, ls, st, H) := by
  intro Hp locs arr hP hS hl hX
  obtain ⟨hx, hb, hml, hown, hts, -⟩ := hF
  unfold kIns at h
  dsimp only at h
  split at h
  · rename_i k r
    split at h
    · rename_i v hv
      obtain rfl := kNx_inv h
      unfold alen at hv
      split at hv
      · rename_i n hs
        cases hv
        exact va_alen (x := (n, .inl (hI H k))) hx hb hK hP k 0 ((kW_get (shq_in hs (by omega)).1).trans (by rw [kcell_arr (shq_in hs (by omega)).2])) rfl rfl hd (kk _ _ _ hP hS hl hX)
      · rename_i n hs
        cases hv
        exact va_alen (x := (n, .inr (.inl (hL H k)))) hx hb hK hP k 1 ((kW_get (shq_in hs (by omega)).1).trans (by rw [kcell_arL (shq_in hs (by omega)).2])) rfl rfl hd (kk _ _ _ hP hS hl hX)
      · rename_i n hs
        cases hv
        obtain rfl := shq_4 hs
        refine va_slen hx hb hC.2.2.2.1 hC.2.2.2.2.1 hC.2.2.2.2.2.1 hS hd ?_
        have h1 := kk _ _ _ hP hS hl hX
        dsimp only at h1
        rw [hX.2.1] at h1
        exact h1
      · rename_i n hs
        cases hv
        obtain ⟨rfl, rfl⟩ := shq_6 hs
        obtain ⟨cell, t1, t2, t3, t4, t5, t6, t7⟩ := (hC.1.1 0 (by omega)).2.2.2
        exact W.alen (n := Int32.ofNat 5) hx hb (by rw [hS.2.1 _ (Array.getElem?_eq_some_iff.mp t1).1 t7]; exact t1) t2 t5 rfl rfl hd (kk _ _ _ hP hS hl hX)
      · cases hv
    · cases h
  · cases h
theorem kial_W (hF : kFC p s mi c args R m cells slots) (hK : va_K D vwCl [(cI, .int), (cL, .long)] s) (hC : kCF B ad L xs s s.heap) (hd : decode (mbyt m) pc = .ok (.iaload, 1)) (h : kIns m .iaload pc ls st H = some a)
    (kk : kWt p l e R s mi args below meth c cells slots Q B ad D cI cL L xs m a) : kWt p l e R s mi args below meth c cells slots Q B ad D cI cL L xs m (pc, ls, st, H) := by
  intro Hp locs arr hP hS hl hX
  obtain ⟨hx, hb, hml, hown, hts, -⟩ := hF
  unfold kIns at h
  dsimp only at h
  split at h
  · rename_i i k r
    split at h
    · rename_i v hv
      obtain rfl := kNx_inv h
      unfold aI at hv
      split at hv
      · rename_i n hs
        split at hv
        · cases hv
        · rename_i hin
          cases hv
          exact va_iald hx hb hK hP k 0 ((kW_get (shq_in hs (by omega)).1).trans (by rw [kcell_arr (shq_in hs (by omega)).2])) rfl hin hd (kk _ _ _ hP hS hl hX)
      · rename_i n hs
        split at hv
        · cases hv
        · rename_i hin
          cases hv
          obtain rfl := shq_4 hs
          have h1 := kk _ _ _ hP hS hl hX
          dsimp only at h1
          rw [hX.1] at h1
          rw [hX.2.1, nI_clamp (by have := hX.2.2; omega)] at hin
          exact va_sld hx hb hC.2.2.2.1 hC.2.2.2.2.1 hC.2.2.2.2.2.1 hS hin hd h1
      · cases hv
    · cases h
  · cases h
theorem klal_W (hF : kFC p s mi c args R m cells slots) (hK : va_K D vwCl [(cI, .int), (cL, .long)] s) (hd : decode (mbyt m) pc = .ok (.laload, 1)) (h : kIns m .laload pc ls st H = some a)
    (kk : kWt p l e R s mi args below meth c cells slots Q B ad D cI cL L xs m a) : kWt p l e R s mi args below meth c cells slots Q B ad D cI cL L xs m (pc, ls, st, H) := by
  intro Hp locs arr hP hS hl hX
  obtain ⟨hx, hb, hml, hown, hts, -⟩ := hF
  unfold kIns at h
  dsimp only at h
  split at h
  · rename_i i k r
    split at h
    · rename_i v hv
      obtain rfl := kNx_inv h
      unfold aL at hv
      split at hv
      · rename_i n hs
        split at hv
        · cases hv
        · rename_i hin
          cases hv
          exact va_lald hx hb hK hP k 1 ((kW_get (lt_nW (shp_in hs (by omega)))).trans (by rw [kcell_arL (shz_of hs (by decide))])) rfl hin hd (kk _ _ _ hP hS hl hX)
      · cases hv
    · cases h
  · cases h
theorem kbal_W (hF : kFC p s mi c args R m cells slots) (hC : kCF B ad L xs s s.heap) (hd : decode (mbyt m) pc = .ok (.baload, 1)) (h : kIns m .baload pc ls st H = some a)
    (kk : kWt p l e R s mi args below meth c cells slots Q B ad D cI cL L xs m a) : kWt p l e R s mi args below meth c cells slots Q B ad D cI cL L xs m (pc, ls, st, H) := by
  intro Hp locs arr hP hS hl hX
  obtain ⟨hx, hb, hml, hown, hts, -⟩ := hF
  unfold kIns at h
  dsimp only at h
  split at h
  · rename_i i k r
    split at h
    · rename_i v hv
      obtain rfl := kNx_inv h
      unfold aB at hv
      split at hv
      · rename_i hk
        subst hk
        split at hv
        · cases hv
        · rename_i hin
          cases hv
          obtain ⟨cell, t1, t2, t3, t4, t5, t6, t7⟩ := (hC.1.1 0 (by omega)).2.2.2
          have hlt : i.toNatClampNeg < 5 := Nat.not_le.mp fun q => hin (Or.inr q)
          have t4' : 5 ≤ cell.slots.size := t4
          exact W.bald (v := .int (kbs.getD i.toNatClampNeg 0)) hx hb (by rw [hS.2.1 _ (Array.getElem?_eq_some_iff.mp t1).1 t7]; exact t1) t2 t3 (fun z => hin (z.imp id (fun z => by omega))) (t6 _ hlt) rfl rfl hd (kk _ _ _ hP hS hl hX)
      · cases hv
    · cases h
  · cases h
theorem kias_W (hF : kFC p s mi c args R m cells slots) (hK : va_K D vwCl [(cI, .int), (cL, .long)] s) (hi : kInj B (nW H) ad) (hd : decode (mbyt m) pc = .ok (.iastore, 1)) (h : kIns m .iastore pc ls st H = some a)
    (kk : kWt p l e R s mi args below meth c cells slots Q B ad D cI cL L xs m a) : kWt p l e R s mi args below meth c cells slots Q B ad D cI cL L xs m (pc, ls, st, H) := by
  intro Hp locs arr hP hS hl hX
  obtain ⟨hx, hb, hml, hown, hts, -⟩ := hF
  unfold kIns at h
  dsimp only at h
  split at h
  · rename_i v i k r
    split at h
    · rename_i H' hv
      obtain rfl := kNx_inv h
      unfold sI at hv
      split at hv
      · rename_i n hs
        split at hv
        · cases hv
        · rename_i hin
          cases hv
          obtain ⟨hk, hz⟩ := shq_in hs (by omega)
          refine va_iast hx hb hK hP (kD hi) hS k 0 ((kW_get hk).trans (by rw [kcell_arr hz])) rfl hin hd (fun H1 locs1 hP1 hD1 hS1 => ?_)
          rw [kW_set (H' := uI H k i.toNatClampNeg v) hk rfl ?_ kcells_uI] at hP1
          · exact kk _ _ _ hP1 hS1 hl (kSc_uI hX (shq_38 hs))
          · rw [kcell_arr hz]
            congr 4
            funext j
            rw [hI_uI]
            simp [upd]
      · cases hv
    · cases h
  · cases h
theorem klas_W (hF : kFC p s mi c args R m cells slots) (hK : va_K D vwCl [(cI, .int), (cL, .long)] s) (hi : kInj B (nW H) ad) (hd : decode (mbyt m) pc = .ok (.lastore, 1)) (h : kIns m .lastore pc ls st H = some a)
    (kk : kWt p l e R s mi args below meth c cells slots Q B ad D cI cL L xs m a) : kWt p l e R s mi args below meth c cells slots Q B ad D cI cL L xs m (pc, ls, st, H) := by
  intro Hp locs arr hP hS hl hX
  obtain ⟨hx, hb, hml, hown, hts, -⟩ := hF
  unfold kIns at h
  dsimp only at h
  split at h
  · rename_i v i k r
    split at h
    · rename_i H' hv
      obtain rfl := kNx_inv h
      unfold sL at hv
      split at hv
      · rename_i n hs
        split at hv
        · cases hv
        · rename_i hin
          cases hv
          have hk := lt_nW (H := H) (shp_in hs (by omega))
          have hz := shz_of hs (by decide)
          refine va_last hx hb hK hP (kD hi) hS k 1 ((kW_get hk).trans (by rw [kcell_arL hz])) rfl hin hd (fun H1 locs1 hP1 hD1 hS1 => ?_)
          rw [kW_set (H' := uL H k i.toNatClampNeg v) hk rfl ?_ kcells_uL] at hP1
          · exact kk _ _ _ hP1 hS1 hl (kSc_upd hX (fun _ _ _ => rfl))
          · rw [kcell_arL hz]
            congr 5
            funext j
            rw [hL_uL]
            simp [vp_updL]
      · cases hv
    · cases h
  · cases h
theorem kCat_vR (r : List Value) : ((r.map (vR ad)).map fun v => v.category).sum = kCat r := by
  unfold kCat
  rw [List.map_map]
  congr 1
  exact List.map_congr_left (fun v _ => vR_cat ad v)
set_option maxRecDepth 100000 in
theorem kinv_W {ix : Nat} (hF : kFC p s mi c args R m cells slots) (hK : va_K D vwCl [(cI, .int), (cL, .long)] s) (hC : kCF B ad L xs s s.heap) (hi : kInj B (nW H) ad) (hd : decode (mbyt m) pc = .ok (.invokestatic ix, 3)) (h : kIns m (.invokestatic ix) pc ls st H = some a)
    (kk : kWt p l e R s mi args below meth c cells slots Q B ad D cI cL L xs m a) : kWt p l e R s mi args below meth c cells slots Q B ad D cI cL L xs m (pc, ls, st, H) := by
  intro Hp locs arr hP hS hl hX
  obtain ⟨hx, hb, hml, hown, hts, hfr, hlo, hce, hsl⟩ := hF
  change kSpc m ix pc ls st H = some a at h
  · unfold kSpc at h
    split at h
    · rename_i kd hkd
      obtain ⟨q, q1, q2, q3⟩ := kfind hkd
      simp only [Bool.and_eq_true, beq_iff_eq] at q2
      obtain ⟨q2, rfl⟩ := q2
      split at h
      · rename_i y x r
        split at h
        · rename_i hc
          obtain ⟨c1, c2, c3⟩ := hc
          obtain rfl := kNx_inv h
          have hsum : ((r.map (vR ad)).map fun v => v.category).sum ≤ 8 := by rw [kCat_vR]; exact c3
          rcases kT_mmx q q1 with ⟨z0, z1, z2, z3⟩ | ⟨z0, z1, z2, z3⟩
          · rw [q2] at z1
            have e0 : kd = 0 := q3.symm.trans z0
            subst e0
            refine va_mmax hx hb (by rw [hml, hl.1]) hown (hts _ (kAW_of z1 rfl)) (hts _ (kAW_of z2 rfl)) (hts _ (kAW_of kT_mini rfl)) (hts _ (kAW_of z3 rfl)) (by omega) (by omega) hce hsl hd ?_
            exact kk _ _ _ hP hS hl hX
          · rw [q2] at z1
            have e0 : kd = 1 := q3.symm.trans z0
            subst e0
            refine va_mmin hx hb (by rw [hml, hl.1]) hown (hts _ (kAW_of z1 rfl)) (hts _ (kAW_of z2 rfl)) (hts _ (kAW_of kT_mini rfl)) (hts _ (kAW_of z3 rfl)) (by omega) (by omega) hce hsl hd ?_
            exact kk _ _ _ hP hS hl hX
        · cases h
      · cases h
    · cases h
theorem kIns_W {i : Instr} (hF : kFC p s mi c args R m cells slots) (hK : va_K D vwCl [(cI, .int), (cL, .long)] s) (hC : kCF B ad L xs s s.heap) (hi : kInj B (nW H) ad) {len : Nat} (hd0 : decode (mbyt m) pc = .ok (i, len)) (hlen : len = kLen i len) (h : kIns m i pc ls st H = some a)
    (kk : kWt p l e R s mi args below meth c cells slots Q B ad D cI cL L xs m a) : kWt p l e R s mi args below meth c cells slots Q B ad D cI cL L xs m (pc, ls, st, H) := by
  intro Hp locs arr hP hS hl hX
  have hF0 := hF
  obtain ⟨hx, hb, hml, hown, hts, hfr, hlo, hce, hsl⟩ := hF0
  have hd : decode (mbyt m) pc = .ok (i, kLen i len) := hd0.trans (by rw [← hlen])
  show W p l e R s mi args below meth c Hp locs cells slots Q (F0 mi pc arr (st.map (vR ad)))
  cases i with
  | iconst n =>
    obtain rfl := kNx_inv h
    exact lv_iconst hx hb hd rfl (kk _ _ _ hP hS hl hX)
  | bipush n =>
    obtain rfl := kNx_inv h
    exact lv_bipush hx hb hd rfl (kk _ _ _ hP hS hl hX)
  | sipush n =>
    obtain rfl := kNx_inv h
    exact lv_sipush hx hb hd rfl (kk _ _ _ hP hS hl hX)
  | lconst n =>
    obtain rfl := kNx_inv h
    exact lv_lconst hx hb hd rfl (kk _ _ _ hP hS hl hX)
  | ldc ix =>
    unfold kIns at h
    dsimp only at h
    split at h
    · rename_i v hv
      obtain rfl := kNx_inv h
      obtain ⟨q, q1, q2, rfl⟩ := kfind hv
      simp only [Bool.and_eq_true, beq_iff_eq] at q2
      obtain ⟨q2, rfl⟩ := q2
      exact lv_ldc hx hb hown (hts _ (kAW_of (by rw [← q2]; exact kT_int q q1) rfl)) hd (kk _ _ _ hP hS hl hX)
    · split at h
      · rename_i hk
        obtain rfl := kNx_inv h
        have e1 : mow m = 1 := (Prod.mk.inj hk).1
        have e2 : ix = 35 := (Prod.mk.inj hk).2
        subst e2
        refine va_ldcS hx hb (own := "SneezeKing$Page") (tx := "psfdc") (by rw [e1] at hown; exact hown) hC.2.1 hd ?_
        exact kk _ _ _ hP hS hl hX
      · cases h
  | ldc_w ix =>
    unfold kIns at h
    dsimp only at h
    split at h
    · rename_i v hv
      obtain rfl := kNx_inv h
      obtain ⟨q, q1, q2, rfl⟩ := kfind hv
      simp only [Bool.and_eq_true, beq_iff_eq] at q2
      obtain ⟨q2, rfl⟩ := q2
      exact lv_ldcw hx hb hown (hts _ (kAW_of (by rw [← q2]; exact kT_int q q1) rfl)) hd (kk _ _ _ hP hS hl hX)
    · cases h
  | ldc2_w ix =>
    unfold kIns at h
    dsimp only at h
    split at h
    · rename_i v hv
      obtain rfl := kNx_inv h
      obtain ⟨q, q1, q2, rfl⟩ := kfind hv
      simp only [Bool.and_eq_true, beq_iff_eq] at q2
      obtain ⟨q2, rfl⟩ := q2
      exact lv_ldc2 hx hb hown (hts _ (kAW_of (by rw [← q2]; exact kT_lng q q1) rfl)) hd (kk _ _ _ hP hS hl hX)
    · cases h
  | iload_n k =>
    obtain ⟨x, e, rfl⟩ := kLdI_inv h
    exact lv_iload_n hx hb hd rfl (hl.2.2.2 _ _ e (fun z => (by cases z))) (kk _ _ _ hP hS hl hX)
  | iload k =>
    obtain ⟨x, e, rfl⟩ := kLdI_inv h
    exact lv_iload hx hb hd (hl.2.2.2 _ _ e (fun z => (by cases z))) (kk _ _ _ hP hS hl hX)
  | lload_n k =>
    obtain ⟨x, e, rfl⟩ := kLdL_inv h
    exact lv_lload_n hx hb hd rfl (hl.2.2.2 _ _ e (fun z => (by cases z))) (kk _ _ _ hP hS hl hX)
  | lload k =>
    obtain ⟨x, e, rfl⟩ := kLdL_inv h
    exact lv_lload hx hb hd (hl.2.2.2 _ _ e (fun z => (by cases z))) (kk _ _ _ hP hS hl hX)
  | aload_n k =>
    obtain ⟨x, e, rfl⟩ := kLdR_inv h
    exact lv_aload_n hx hb hd rfl (hl.2.2.2 _ _ e (fun z => (by cases z))) (kk _ _ _ hP hS hl hX)
  | aload k =>
    obtain ⟨x, e, rfl⟩ := kLdR_inv h
    exact lv_aload hx hb hd (hl.2.2.2 _ _ e (fun z => (by cases z))) (kk _ _ _ hP hS hl hX)
  | istore_n k =>
    obtain ⟨x, r, rfl, hlt, rfl⟩ := kSoI_inv h
    refine lv_istore_n hx hb hd rfl (kLR_has hl) hlt rfl (fun arr1 hl1 => ?_)
    exact kk _ _ _ hP hS (kLR_st1 hl hl1) hX
  | istore k =>
    obtain ⟨x, r, rfl, hlt, rfl⟩ := kSoI_inv h
    refine lv_istore hx hb hd (kLR_has hl) hlt rfl (fun arr1 hl1 => ?_)
    exact kk _ _ _ hP hS (kLR_st1 hl hl1) hX
  | lstore_n k =>
    obtain ⟨x, r, rfl, hlt, rfl⟩ := kSoL_inv h
    refine lv_lstore_n hx hb hd rfl (kLR_has hl) hlt rfl (fun arr1 hl1 => ?_)
    exact kk _ _ _ hP hS (kLR_st2 hl hl1) hX
  | lstore k =>
    obtain ⟨x, r, rfl, hlt, rfl⟩ := kSoL_inv h
    refine lv_lstore hx hb hd (kLR_has hl) hlt rfl (fun arr1 hl1 => ?_)
    exact kk _ _ _ hP hS (kLR_st2 hl hl1) hX
  | astore_n k =>
    obtain ⟨x, r, rfl, hlt, rfl⟩ := kSoR_inv h
    refine lv_astore_n hx hb hd rfl (kLR_has hl) hlt rfl (fun arr1 hl1 => ?_)
    exact kk _ _ _ hP hS (kLR_st1 hl hl1) hX
  | astore k =>
    obtain ⟨x, r, rfl, hlt, rfl⟩ := kSoR_inv h
    refine lv_astore hx hb hd (kLR_has hl) hlt rfl (fun arr1 hl1 => ?_)
    exact kk _ _ _ hP hS (kLR_st1 hl hl1) hX
  | iinc k n =>
    unfold kIns at h
    dsimp only at h
    split at h
    · rename_i x ex
      split at h
      · rename_i hlt
        obtain rfl := kNx_inv h
        obtain ⟨q, hq⟩ := List.getElem?_of_mem (kpr_in (ad := ad) ex (fun z => (by cases z)))
        refine lv_iinc hx hb hd (kLR_has hl) hq rfl hlt rfl (fun arr1 hl1 => ?_)
        exact kk _ _ _ hP hS (kLR_st1 hl hl1) hX
      · cases h
    · cases h
  | iadd =>
    obtain ⟨x, y, r, rfl, rfl⟩ := kB2_inv h
    exact lv_iadd hx hb hd (kk _ _ _ hP hS hl hX)
  | isub =>
    obtain ⟨x, y, r, rfl, rfl⟩ := kB2_inv h
    exact lv_isub hx hb hd (kk _ _ _ hP hS hl hX)
  | imul =>
    obtain ⟨x, y, r, rfl, rfl⟩ := kB2_inv h
    exact lv_imul hx hb hd (kk _ _ _ hP hS hl hX)
  | iand =>
    obtain ⟨x, y, r, rfl, rfl⟩ := kB2_inv h
    exact lv_iand hx hb hd (kk _ _ _ hP hS hl hX)
  | ior =>
    obtain ⟨x, y, r, rfl, rfl⟩ := kB2_inv h
    exact lv_ior hx hb hd (kk _ _ _ hP hS hl hX)
  | ixor =>
    obtain ⟨x, y, r, rfl, rfl⟩ := kB2_inv h
    exact lv_ixor hx hb hd (kk _ _ _ hP hS hl hX)
  | ishl =>
    obtain ⟨x, y, r, rfl, rfl⟩ := kB2_inv h
    exact lv_ishl hx hb hd (kk _ _ _ hP hS hl hX)
  | ishr =>
    obtain ⟨x, y, r, rfl, rfl⟩ := kB2_inv h
    exact lv_ishr hx hb hd (kk _ _ _ hP hS hl hX)
  | iushr =>
    obtain ⟨x, y, r, rfl, rfl⟩ := kB2_inv h
    exact lv_iushr hx hb hd rfl (kk _ _ _ hP hS hl hX)
  | ladd =>
    obtain ⟨x, y, r, rfl, rfl⟩ := kL2_inv h
    exact lv_ladd hx hb hd (kk _ _ _ hP hS hl hX)
  | lmul =>
    obtain ⟨x, y, r, rfl, rfl⟩ := kL2_inv h
    exact lv_lmul hx hb hd (kk _ _ _ hP hS hl hX)
  | land =>
    obtain ⟨x, y, r, rfl, rfl⟩ := kL2_inv h
    exact lv_land hx hb hd (kk _ _ _ hP hS hl hX)
  | lor =>
    obtain ⟨x, y, r, rfl, rfl⟩ := kL2_inv h
    exact lv_lor hx hb hd (kk _ _ _ hP hS hl hX)
  | lshl =>
    obtain ⟨x, y, r, rfl, rfl⟩ := kLS_inv h
    exact lv_lshl hx hb hd rfl (kk _ _ _ hP hS hl hX)
  | lshr =>
    obtain ⟨x, y, r, rfl, rfl⟩ := kLS_inv h
    exact lv_lshr hx hb hd rfl (kk _ _ _ hP hS hl hX)
  | idiv =>
    unfold kIns at h
    dsimp only at h
    split at h
    · split at h
      · cases h
      · rename_i h0
        obtain rfl := kNx_inv h
        exact lv_idiv hx hb hd h0 (kk _ _ _ hP hS hl hX)
    · cases h
  | irem =>
    unfold kIns at h
    dsimp only at h
    split at h
    · split at h
      · cases h
      · rename_i h0
        obtain rfl := kNx_inv h
        exact lv_irem hx hb hd h0 (kk _ _ _ hP hS hl hX)
    · cases h
  | ldiv =>
    unfold kIns at h
    dsimp only at h
    split at h
    · split at h
      · cases h
      · rename_i h0
        obtain rfl := kNx_inv h
        exact lv_ldiv hx hb hd h0 (kk _ _ _ hP hS hl hX)
    · cases h
  | lrem =>
    unfold kIns at h
    dsimp only at h
    split at h
    · split at h
      · cases h
      · rename_i h0
        obtain rfl := kNx_inv h
        exact lv_lrem hx hb hd h0 (kk _ _ _ hP hS hl hX)
    · cases h
  | lcmp =>
    unfold kIns at h
    dsimp only at h
    split at h
    · obtain rfl := kNx_inv h
      exact W.lcmp hx hb hd (kk _ _ _ hP hS hl hX)
    · cases h
  | i2l =>
    unfold kIns at h
    dsimp only at h
    split at h
    · obtain rfl := kNx_inv h
      exact lv_i2l hx hb hd rfl (kk _ _ _ hP hS hl hX)
    · cases h
  | l2i =>
    unfold kIns at h
    dsimp only at h
    split at h
    · obtain rfl := kNx_inv h
      exact lv_l2i hx hb hd rfl (kk _ _ _ hP hS hl hX)
    · cases h
  | i2c =>
    obtain ⟨x, r, rfl, rfl⟩ := kU1_inv h
    exact lv_i2c hx hb hd rfl (kk _ _ _ hP hS hl hX)
  | i2b =>
    obtain ⟨x, r, rfl, rfl⟩ := kU1_inv h
    exact lv_i2b hx hb hd rfl (kk _ _ _ hP hS hl hX)
  | dup =>
    unfold kIns at h
    dsimp only at h
    split at h
    · obtain rfl := kNx_inv h
      exact lv_dup hx hb hd rfl (kk _ _ _ hP hS hl hX)
    · obtain rfl := kNx_inv h
      exact lv_dup hx hb hd rfl (kk _ _ _ hP hS hl hX)
    · cases h
  | dup2 =>
    unfold kIns at h
    dsimp only at h
    split at h
    · obtain rfl := kNx_inv h
      exact lv_dup2_11 hx hb hd rfl rfl (kk _ _ _ hP hS hl hX)
    · cases h
  | pop =>
    unfold kIns at h
    dsimp only at h
    split at h
    · obtain rfl := kNx_inv h
      exact lv_pop hx hb hd rfl (kk _ _ _ hP hS hl hX)
    · cases h
  | goto off =>
    obtain ⟨h0, rfl⟩ := kGo_inv h
    exact lv_goto hx hb hd (Int.toNat_of_nonneg h0).symm (kk _ _ _ hP hS hl hX)
  | if_icmp d off =>
    unfold kIns kC2 at h
    dsimp only at h
    split at h
    · cases d
      all_goals dsimp only at h
      · rcases kBr_inv h with ⟨h0, ⟨hc, rfl⟩ | ⟨hc, rfl⟩⟩
        · exact lv_icmp_eq hx hb hd (Int.toNat_of_nonneg h0).symm (fun _ => kk _ _ _ hP hS hl hX) (fun z => absurd hc z)
        · exact lv_icmp_eq hx hb hd (Int.toNat_of_nonneg h0).symm (fun z => absurd z hc) (fun _ => kk _ _ _ hP hS hl hX)
      · rcases kBr_inv h with ⟨h0, ⟨hc, rfl⟩ | ⟨hc, rfl⟩⟩
        · exact lv_icmp_ne hx hb hd (Int.toNat_of_nonneg h0).symm (fun _ => kk _ _ _ hP hS hl hX) (fun z => absurd z hc)
        · exact lv_icmp_ne hx hb hd (Int.toNat_of_nonneg h0).symm (fun z => absurd z hc) (fun _ => kk _ _ _ hP hS hl hX)
      · rcases kBr_inv h with ⟨h0, ⟨hc, rfl⟩ | ⟨hc, rfl⟩⟩
        · exact lv_icmp_lt hx hb hd (Int.toNat_of_nonneg h0).symm (fun _ => kk _ _ _ hP hS hl hX) (fun z => absurd hc z)
        · exact lv_icmp_lt hx hb hd (Int.toNat_of_nonneg h0).symm (fun z => absurd z hc) (fun _ => kk _ _ _ hP hS hl hX)
      · rcases kBr_inv h with ⟨h0, ⟨hc, rfl⟩ | ⟨hc, rfl⟩⟩
        · exact lv_icmp_ge hx hb hd (Int.toNat_of_nonneg h0).symm (fun _ => kk _ _ _ hP hS hl hX) (fun z => absurd hc z)
        · exact lv_icmp_ge hx hb hd (Int.toNat_of_nonneg h0).symm (fun z => absurd z hc) (fun _ => kk _ _ _ hP hS hl hX)
      · rcases kBr_inv h with ⟨h0, ⟨hc, rfl⟩ | ⟨hc, rfl⟩⟩
        · exact lv_icmp_gt hx hb hd (Int.toNat_of_nonneg h0).symm (fun _ => kk _ _ _ hP hS hl hX) (fun z => absurd hc z)
        · exact lv_icmp_gt hx hb hd (Int.toNat_of_nonneg h0).symm (fun z => absurd z hc) (fun _ => kk _ _ _ hP hS hl hX)
      · rcases kBr_inv h with ⟨h0, ⟨hc, rfl⟩ | ⟨hc, rfl⟩⟩
        · exact lv_icmp_le hx hb hd (Int.toNat_of_nonneg h0).symm (fun _ => kk _ _ _ hP hS hl hX) (fun z => absurd hc z)
        · exact lv_icmp_le hx hb hd (Int.toNat_of_nonneg h0).symm (fun z => absurd z hc) (fun _ => kk _ _ _ hP hS hl hX)
    · cases h
  | ifCond d off =>
    unfold kIns kC1 at h
    dsimp only at h
    split at h
    · cases d
      all_goals dsimp only at h
      · rcases kBr_inv h with ⟨h0, ⟨hc, rfl⟩ | ⟨hc, rfl⟩⟩
        · exact lv_if_eq hx hb hd (Int.toNat_of_nonneg h0).symm (fun _ => kk _ _ _ hP hS hl hX) (fun z => absurd hc z)
        · exact lv_if_eq hx hb hd (Int.toNat_of_nonneg h0).symm (fun z => absurd z hc) (fun _ => kk _ _ _ hP hS hl hX)
      · rcases kBr_inv h with ⟨h0, ⟨hc, rfl⟩ | ⟨hc, rfl⟩⟩
        · exact lv_if_ne hx hb hd (Int.toNat_of_nonneg h0).symm (fun _ => kk _ _ _ hP hS hl hX) (fun z => absurd z hc)
        · exact lv_if_ne hx hb hd (Int.toNat_of_nonneg h0).symm (fun z => absurd z hc) (fun _ => kk _ _ _ hP hS hl hX)
      · rcases kBr_inv h with ⟨h0, ⟨hc, rfl⟩ | ⟨hc, rfl⟩⟩
        · exact lv_if_lt hx hb hd (Int.toNat_of_nonneg h0).symm (fun _ => kk _ _ _ hP hS hl hX) (fun z => absurd hc z)
        · exact lv_if_lt hx hb hd (Int.toNat_of_nonneg h0).symm (fun z => absurd z hc) (fun _ => kk _ _ _ hP hS hl hX)
      · rcases kBr_inv h with ⟨h0, ⟨hc, rfl⟩ | ⟨hc, rfl⟩⟩
        · exact lv_if_ge hx hb hd (Int.toNat_of_nonneg h0).symm (fun _ => kk _ _ _ hP hS hl hX) (fun z => absurd hc z)
        · exact lv_if_ge hx hb hd (Int.toNat_of_nonneg h0).symm (fun z => absurd z hc) (fun _ => kk _ _ _ hP hS hl hX)
      · rcases kBr_inv h with ⟨h0, ⟨hc, rfl⟩ | ⟨hc, rfl⟩⟩
        · exact lv_if_gt hx hb hd (Int.toNat_of_nonneg h0).symm (fun _ => kk _ _ _ hP hS hl hX) (fun z => absurd hc z)
        · exact lv_if_gt hx hb hd (Int.toNat_of_nonneg h0).symm (fun z => absurd z hc) (fun _ => kk _ _ _ hP hS hl hX)
      · rcases kBr_inv h with ⟨h0, ⟨hc, rfl⟩ | ⟨hc, rfl⟩⟩
        · exact lv_if_le hx hb hd (Int.toNat_of_nonneg h0).symm (fun _ => kk _ _ _ hP hS hl hX) (fun z => absurd hc z)
        · exact lv_if_le hx hb hd (Int.toNat_of_nonneg h0).symm (fun z => absurd z hc) (fun _ => kk _ _ _ hP hS hl hX)
    · cases h
  | tableswitch dflt lo hi offs =>
    unfold kIns at h
    dsimp only at h
    split at h
    · split at h
      · rename_i ho
        obtain ⟨h0, rfl⟩ := kGo_inv h
        exact lv_tableOut hx hb hd ho (Int.toNat_of_nonneg h0).symm (kk _ _ _ hP hS hl hX)
      · rename_i ho
        split at h
        · rename_i off eo
          obtain ⟨h0, rfl⟩ := kGo_inv h
          exact lv_tableIn hx hb hd (fun z => ho (Or.inl z)) (fun z => ho (Or.inr z)) eo (Int.toNat_of_nonneg h0).symm (kk _ _ _ hP hS hl hX)
        · cases h
    · cases h
  | getfield ix =>
    exact kget_W hF hK hC hd h kk _ _ _ hP hS hl hX
  | putfield ix =>
    exact kput_W hF hK hi hd h kk _ _ _ hP hS hl hX
  | getstatic ix =>
    unfold kIns at h
    dsimp only at h
    split at h
    · rename_i hk
      obtain rfl := kNx_inv h
      have e1 : mow m = kgs.1 := (Prod.mk.inj hk).1
      have e2 : ix = kgs.2.1 := (Prod.mk.inj hk).2
      subst e2
      rw [e1] at hown
      exact va_gets hx hb hC.2.2.1 hS hown (hts _ (kAW_of kT_gst rfl)) (fun _ z => z) hd (kk _ _ _ hP hS hl hX)
    · cases h
  | arraylength =>
    exact klen_W hF hK hC hd h kk _ _ _ hP hS hl hX
  | iaload =>
    exact kial_W hF hK hC hd h kk _ _ _ hP hS hl hX
  | laload =>
    exact klal_W hF hK hd h kk _ _ _ hP hS hl hX
  | baload =>
    exact kbal_W hF hC hd h kk _ _ _ hP hS hl hX
  | iastore =>
    exact kias_W hF hK hi hd h kk _ _ _ hP hS hl hX
  | lastore =>
    exact klas_W hF hK hi hd h kk _ _ _ hP hS hl hX
  | invokestatic ix =>
    exact kinv_W hF hK hC hi hd h kk _ _ _ hP hS hl hX
  | _ =>
    exact absurd h (fun z => (by cases z))
theorem kIns_R {i : Instr} (h : kIns m i pc ls st H = some a) : a.2.2.2.2.2 = H.2.2 := by
  cases i with
  | iconst n =>
    obtain rfl := kNx_inv h
    rfl
  | bipush n =>
    obtain rfl := kNx_inv h
    rfl
  | sipush n =>
    obtain rfl := kNx_inv h
    rfl
  | lconst n =>
    obtain rfl := kNx_inv h
    rfl
  | ldc ix =>
    unfold kIns at h
    dsimp only at h
    split at h
    · obtain rfl := kNx_inv h
      rfl
    · split at h
      · obtain rfl := kNx_inv h
        rfl
      · cases h
  | ldc_w ix =>
    unfold kIns at h
    dsimp only at h
    split at h
    · obtain rfl := kNx_inv h
      rfl
    · cases h
  | ldc2_w ix =>
    unfold kIns at h
    dsimp only at h
    split at h
    · obtain rfl := kNx_inv h
      rfl
    · cases h
  | iload_n k =>
    obtain ⟨x, e, rfl⟩ := kLdI_inv h
    rfl
  | iload k =>
    obtain ⟨x, e, rfl⟩ := kLdI_inv h
    rfl
  | lload_n k =>
    obtain ⟨x, e, rfl⟩ := kLdL_inv h
    rfl
  | lload k =>
    obtain ⟨x, e, rfl⟩ := kLdL_inv h
    rfl
  | aload_n k =>
    obtain ⟨x, e, rfl⟩ := kLdR_inv h
    rfl
  | aload k =>
    obtain ⟨x, e, rfl⟩ := kLdR_inv h
    rfl
  | istore_n k =>
    obtain ⟨x, r, rfl, hlt, rfl⟩ := kSoI_inv h
    rfl
  | istore k =>
    obtain ⟨x, r, rfl, hlt, rfl⟩ := kSoI_inv h
    rfl
  | lstore_n k =>
    obtain ⟨x, r, rfl, hlt, rfl⟩ := kSoL_inv h
    rfl
  | lstore k =>
    obtain ⟨x, r, rfl, hlt, rfl⟩ := kSoL_inv h
    rfl
  | astore_n k =>
    obtain ⟨x, r, rfl, hlt, rfl⟩ := kSoR_inv h
    rfl
  | astore k =>
    obtain ⟨x, r, rfl, hlt, rfl⟩ := kSoR_inv h
    rfl
  | iinc k n =>
    unfold kIns at h
    dsimp only at h
    split at h
    · split at h
      · obtain rfl := kNx_inv h
        rfl
      · cases h
    · cases h
  | iadd =>
    obtain ⟨x, y, r, rfl, rfl⟩ := kB2_inv h
    rfl
  | isub =>
    obtain ⟨x, y, r, rfl, rfl⟩ := kB2_inv h
    rfl
  | imul =>
    obtain ⟨x, y, r, rfl, rfl⟩ := kB2_inv h
    rfl
  | iand =>
    obtain ⟨x, y, r, rfl, rfl⟩ := kB2_inv h
    rfl
  | ior =>
    obtain ⟨x, y, r, rfl, rfl⟩ := kB2_inv h
    rfl
  | ixor =>
    obtain ⟨x, y, r, rfl, rfl⟩ := kB2_inv h
    rfl
  | ishl =>
    obtain ⟨x, y, r, rfl, rfl⟩ := kB2_inv h
    rfl
  | ishr =>
    obtain ⟨x, y, r, rfl, rfl⟩ := kB2_inv h
    rfl
  | iushr =>
    obtain ⟨x, y, r, rfl, rfl⟩ := kB2_inv h
    rfl
  | ladd =>
    obtain ⟨x, y, r, rfl, rfl⟩ := kL2_inv h
    rfl
  | lmul =>
    obtain ⟨x, y, r, rfl, rfl⟩ := kL2_inv h
    rfl
  | land =>
    obtain ⟨x, y, r, rfl, rfl⟩ := kL2_inv h
    rfl
  | lor =>
    obtain ⟨x, y, r, rfl, rfl⟩ := kL2_inv h
    rfl
  | lshl =>
    obtain ⟨x, y, r, rfl, rfl⟩ := kLS_inv h
    rfl
  | lshr =>
    obtain ⟨x, y, r, rfl, rfl⟩ := kLS_inv h
    rfl
  | idiv =>
    unfold kIns at h
    dsimp only at h
    split at h
    · split at h
      · cases h
      · obtain rfl := kNx_inv h
        rfl
    · cases h
  | irem =>
    unfold kIns at h
    dsimp only at h
    split at h
    · split at h
      · cases h
      · obtain rfl := kNx_inv h
        rfl
    · cases h
  | ldiv =>
    unfold kIns at h
    dsimp only at h
    split at h
    · split at h
      · cases h
      · obtain rfl := kNx_inv h
        rfl
    · cases h
  | lrem =>
    unfold kIns at h
    dsimp only at h
    split at h
    · split at h
      · cases h
      · obtain rfl := kNx_inv h
        rfl
    · cases h
  | lcmp =>
    unfold kIns at h
    dsimp only at h
    split at h
    · obtain rfl := kNx_inv h
      rfl
    · cases h
  | i2l =>
    unfold kIns at h
    dsimp only at h
    split at h
    · obtain rfl := kNx_inv h
      rfl
    · cases h
  | l2i =>
    unfold kIns at h
    dsimp only at h
    split at h
    · obtain rfl := kNx_inv h
      rfl
    · cases h
  | i2c =>
    obtain ⟨x, r, rfl, rfl⟩ := kU1_inv h
    rfl
  | i2b =>
    obtain ⟨x, r, rfl, rfl⟩ := kU1_inv h
    rfl
  | dup =>
    unfold kIns at h
    dsimp only at h
    split at h
    · obtain rfl := kNx_inv h
      rfl
    · obtain rfl := kNx_inv h
      rfl
    · cases h
  | dup2 =>
    unfold kIns at h
    dsimp only at h
    split at h
    · obtain rfl := kNx_inv h
      rfl
    · cases h
  | pop =>
    unfold kIns at h
    dsimp only at h
    split at h
    · obtain rfl := kNx_inv h
      rfl
    · cases h
  | goto off =>
    obtain ⟨h0, rfl⟩ := kGo_inv h
    rfl
  | if_icmp d off =>
    unfold kIns kC2 at h
    dsimp only at h
    split at h
    · cases d
      all_goals
        dsimp only at h
        rcases kBr_inv h with ⟨h0, ⟨hc, rfl⟩ | ⟨hc, rfl⟩⟩ <;> rfl
    · cases h
  | ifCond d off =>
    unfold kIns kC1 at h
    dsimp only at h
    split at h
    · cases d
      all_goals
        dsimp only at h
        rcases kBr_inv h with ⟨h0, ⟨hc, rfl⟩ | ⟨hc, rfl⟩⟩ <;> rfl
    · cases h
  | tableswitch dflt lo hi offs =>
    unfold kIns at h
    dsimp only at h
    split at h
    · split at h
      · obtain ⟨h0, rfl⟩ := kGo_inv h
        rfl
      · split at h
        · obtain ⟨h0, rfl⟩ := kGo_inv h
          rfl
        · cases h
    · cases h
  | getfield ix =>
    unfold kIns at h
    dsimp only at h
    split at h
    · split at h
      · obtain rfl := kNx_inv h
        rfl
      · cases h
    · cases h
  | putfield ix =>
    unfold kIns at h
    dsimp only at h
    split at h
    · split at h
      · rename_i H1 hv
        obtain rfl := kNx_inv h
        unfold pf at hv
        split at hv
        · split at hv
          · cases hv
            rfl
          · split at hv
            · cases hv
              rfl
            · cases hv
          · cases hv
            rfl
          · cases hv
        · cases hv
      · cases h
    · cases h
  | getstatic ix =>
    unfold kIns at h
    dsimp only at h
    split at h
    · obtain rfl := kNx_inv h
      rfl
    · cases h
  | arraylength =>
    unfold kIns at h
    dsimp only at h
    split at h
    · split at h
      · obtain rfl := kNx_inv h
        rfl
      · cases h
    · cases h
  | iaload =>
    unfold kIns at h
    dsimp only at h
    split at h
    · split at h
      · obtain rfl := kNx_inv h
        rfl
      · cases h
    · cases h
  | laload =>
    unfold kIns at h
    dsimp only at h
    split at h
    · split at h
      · obtain rfl := kNx_inv h
        rfl
      · cases h
    · cases h
  | baload =>
    unfold kIns at h
    dsimp only at h
    split at h
    · split at h
      · obtain rfl := kNx_inv h
        rfl
      · cases h
    · cases h
  | iastore =>
    unfold kIns at h
    dsimp only at h
    split at h
    · split at h
      · rename_i H1 hv
        obtain rfl := kNx_inv h
        unfold sI at hv
        split at hv
        · split at hv
          · cases hv
          · cases hv
            rfl
        · cases hv
      · cases h
    · cases h
  | lastore =>
    unfold kIns at h
    dsimp only at h
    split at h
    · split at h
      · rename_i H1 hv
        obtain rfl := kNx_inv h
        unfold sL at hv
        split at hv
        · split at hv
          · cases hv
          · cases hv
            rfl
        · cases hv
      · cases h
    · cases h
  | invokestatic ix =>
    unfold kIns at h
    dsimp only at h
    unfold kSpc at h
    split at h
    · split at h
      · split at h
        · obtain rfl := kNx_inv h
          rfl
        · cases h
      · cases h
    · cases h
  | _ =>
    exact absurd h (fun z => (by cases z))

end KST
end
section
/-! whole runs: a run of the abstract machine is a run of the machine -/
def kRok (m : Nat) (i : Instr) (v : Option Value) : Prop :=
  (i = .ireturn ∧ ∃ x, v = some (.int x) ∧ (mrt m = some .int ∨ (mrt m = some .boolean ∧ (x = 0 ∨ x = 1)) ∨ (mrt m = some .byte ∧ x = 0))) ∨ (i = .lreturn ∧ ∃ x, v = some (.long x) ∧ mrt m = some .long) ∨ (i = .return_ ∧ v = none ∧ mrt m = none)
theorem kIns2_cases {m pc : Nat} {i : Instr} {ls st : List Value} {H : kH} {o : kO} (h : kIns2 m i pc ls st H = some o) :
    (∃ a, o = .inl a ∧ kIns m i pc ls st H = some a) ∨ (∃ ix, i = .invokevirtual ix ∧ kInvV m ix st = some o) ∨
    (∃ ix kd y, i = .invokestatic ix ∧ cpM (mow m) ix = some (kd, y) ∧ kInvS m y kd st = some o) ∨ (∃ v, o = .inr (.inr v) ∧ kRok m i v ∧ st = v.toList) := by
  have hm : ∀ q : Option kN, q.map .inl = some o → ∃ a, o = .inl a ∧ q = some a := by
    intro q hq
    cases q with
    | none => cases hq
    | some a => cases hq; exact ⟨a, rfl, rfl⟩
  cases i with
  | invokevirtual ix => exact Or.inr (Or.inl ⟨ix, rfl, h⟩)
  | invokestatic ix =>
    unfold kIns2 at h
    dsimp only at h
    split at h
    · rename_i kd y e
      exact Or.inr (Or.inr (Or.inl ⟨ix, kd, y, rfl, e, h⟩))
    · exact Or.inl (hm _ h)
  | ireturn =>
    unfold kIns2 kRet at h
    dsimp only at h
    split at h
    · rename_i x
      split at h
      · rename_i e
        cases h
        exact Or.inr (Or.inr (Or.inr ⟨_, rfl, Or.inl ⟨rfl, x, rfl, Or.inl e⟩, rfl⟩))
      · rename_i e
        split at h
        · rename_i hx
          cases h
          exact Or.inr (Or.inr (Or.inr ⟨_, rfl, Or.inl ⟨rfl, x, rfl, Or.inr (Or.inl ⟨e, hx⟩)⟩, rfl⟩))
        · cases h
      · rename_i e
        split at h
        · rename_i hx
          cases h
          exact Or.inr (Or.inr (Or.inr ⟨_, rfl, Or.inl ⟨rfl, x, rfl, Or.inr (Or.inr ⟨e, hx⟩)⟩, rfl⟩))
        · cases h
      · cases h
    · cases h
  | lreturn =>
    unfold kIns2 at h
    dsimp only at h
    split at h
    · rename_i x e
      cases h
      exact Or.inr (Or.inr (Or.inr ⟨_, rfl, Or.inr (Or.inl ⟨rfl, x, rfl, e⟩), rfl⟩))
    · cases h
  | return_ =>
    unfold kIns2 at h
    dsimp only at h
    split at h
    · rename_i e
      cases h
      exact Or.inr (Or.inr (Or.inr ⟨_, rfl, Or.inr (Or.inr ⟨rfl, rfl, e⟩), rfl⟩))
    · cases h
  | _ => exact Or.inl (hm _ h)
theorem kEnA_len (ad : Nat → Nat) : ∀ as : List Value, (lg_sl (as.map (vR ad))).length = (kEnA as).length
  | [] => rfl
  | v :: vs => by
    have ih := kEnA_len ad vs
    cases v <;> simp_all [lg_sl, kEnA, vR, Value.category]
theorem kEnA_arg (ad : Nat → Nat) : ∀ (as : List Value) (i0 j : Nat) (v : Value), (kEnA as)[j]? = some v → v ≠ .null → (i0 + j, vR ad v) ∈ lv_args i0 (as.map (vR ad))
  | [], _, _, _, h, _ => by simp [kEnA] at h
  | w :: vs, i0, j, v, h, hn => by
    have one : w.category = 1 → kEnA (w :: vs) = w :: kEnA vs → (i0 + j, vR ad v) ∈ lv_args i0 ((w :: vs).map (vR ad)) := by
      intro hc he
      rw [he] at h
      simp only [List.map_cons, lv_args]
      rw [if_neg (by rw [vR_cat, hc]; decide)]
      cases j with
      | zero => cases h; exact List.mem_cons_self
      | succ j =>
        refine List.mem_cons_of_mem _ ?_
        have := kEnA_arg ad vs (i0 + 1) j v h hn
        rwa [show i0 + (j + 1) = i0 + 1 + j by omega]
    have two : w.category = 2 → kEnA (w :: vs) = w :: .null :: kEnA vs → (i0 + j, vR ad v) ∈ lv_args i0 ((w :: vs).map (vR ad)) := by
      intro hc he
      rw [he] at h
      simp only [List.map_cons, lv_args]
      rw [if_pos (by rw [vR_cat, hc])]
      cases j with
      | zero => cases h; exact List.mem_cons_self
      | succ j =>
        cases j with
        | zero => cases h; exact absurd rfl hn
        | succ j =>
          refine List.mem_cons_of_mem _ ?_
          have := kEnA_arg ad vs (i0 + 2) j v h hn
          rwa [show i0 + (j + 1 + 1) = i0 + 2 + j by omega]
    cases w with
    | long x => exact two rfl rfl
    | double x => exact two rfl rfl
    | int x => exact one rfl rfl
    | float x => exact one rfl rfl
    | null => exact one rfl rfl
    | ref x => exact one rfl rfl
    | retAddr x => exact one rfl rfl
theorem kLR_ent {ad : Nat → Nat} {y : Nat} {as : List Value} (h : (kEnA as).length ≤ mnL y) : kLR ad ((lg_sl (as.map (vR ad)) ++ List.replicate (mnL y - (lg_sl (as.map (vR ad))).length) Slot.unset).toArray) (mnL y) (kEnt y as) := by
  have hl := lv_entry (as.map (vR ad)) (n := mnL y) (by rw [kEnA_len]; exact h)
  refine ⟨hl.1, ?_, hl.2.1, fun i v hv hn => ?_⟩
  · unfold kEnt
    rw [List.length_append, List.length_replicate]
    omega
  · unfold kEnt at hv
    by_cases hi : i < (kEnA as).length
    · rw [List.getElem?_append_left hi] at hv
      have h1 := kEnA_arg ad as 0 i v hv hn
      rw [Nat.zero_add] at h1
      exact hl.2.2 _ h1
    · rw [List.getElem?_append_right (by omega)] at hv
      have := List.eq_of_mem_replicate (List.mem_of_getElem? hv)
      exact absurd this hn
abbrev zAI (cI : ClassId) (n : Nat) : va_E := .inl (cI, n, .inl (fun _ => 0))
abbrev zAL (cL : ClassId) (n : Nat) : va_E := .inl (cL, n, .inr (.inl (fun _ => 0)))
theorem kGI {t w : Cond} (h : w ∈ kAW) : GoodIn (t :: kAW) (w :: kAW) := by
  intro x hx
  rcases List.mem_cons.mp hx with rfl | h1
  · exact ⟨List.mem_cons_of_mem _ (kAW_good _ h).1, (kAW_good _ h).2⟩
  · exact ⟨List.mem_cons_of_mem _ (kAW_good _ h1).1, (kAW_good _ h1).2⟩
theorem kGL {w : Cond} (h : w ∈ kAW) : GoodIn lw_tbl (w :: kAW) := by
  intro x hx
  rcases List.mem_cons.mp hx with rfl | h1
  · exact ⟨(List.mem_filter.mp h).1, (kAW_good _ h).2⟩
  · exact ⟨(List.mem_filter.mp h1).1, (kAW_good _ h1).2⟩
section KNI
variable {p : Program} {l : Launch} {e : Env} {R : Room} {s : State} {m : MethodId} {args : Array Value} {below : List Frame} {meth : Method} {c : Code} {H : Heap} {locs : List Loc} {cells slots : Nat} {Q : State → Prop}
variable {cc : ByteArray} {pc : Nat} {ls : Array Slot} {rest : List Value} {D : va_G} {A : Nat → Prop} {ws : va_W} {H0 : Heap} {cI cL : ClassId}
theorem kn_ai (hexec : p.tables.exec = Jvm.exec) (hb : c.code = cc) (harr : (Cond.arrayClass .int).before args s = true) (hK : va_K D vwCl [(cI, .int), (cL, .long)] s) (hP : va_P D vwCl ws H) (hD : va_D A ws) (hS : va_S A H0 H locs) (hA : ∀ q, H0.size ≤ q → A q) {n : Int32} (N : Nat) (hn : ¬ n < 0) (hN : n.toNatClampNeg = N) (hbytes : N * componentBytes .int ≤ 536870912) (hcells : cells + 1 ≤ R.cells) (hslots : slots + N ≤ R.slots) (hdg : decode cc pc = .ok (.newarray .int, 2))
    (kk : ∀ (q : Nat) (H1 : Heap), va_P D vwCl (ws ++ [(q, zAI cI N)]) H1 → va_D A (ws ++ [(q, zAI cI N)]) → va_S A H0 H1 locs → W p l e R s m args below meth c H1 locs (cells + 1) (slots + N) Q (F0 m (pc + 2) ls (.ref q :: rest))) : W p l e R s m args below meth c H locs cells slots Q (F0 m pc ls (.int n :: rest)) := by
  refine va_newa (atype := .int) hexec hb harr rfl hK hP hD hS hA (a0 := (N, .inl (fun _ => 0))) (fun _ => rfl) hn hN hbytes hcells hslots hdg (fun q cA H1 hK1 hP1 hD1 hS1 => ?_)
  have e1 : s.vm.findClass ("[" ++ FieldType.int.toString) = some cA := (hK1.2 2 (cA, .int) rfl).2
  have e2 : s.vm.findClass ("[" ++ FieldType.int.toString) = some cI := (hK.2 0 (cI, .int) rfl).2
  obtain rfl : cI = cA := Option.some.inj (e2.symm.trans e1)
  exact kk q H1 hP1 hD1 hS1
theorem kn_al (hexec : p.tables.exec = Jvm.exec) (hb : c.code = cc) (harr : (Cond.arrayClass .long).before args s = true) (hK : va_K D vwCl [(cI, .int), (cL, .long)] s) (hP : va_P D vwCl ws H) (hD : va_D A ws) (hS : va_S A H0 H locs) (hA : ∀ q, H0.size ≤ q → A q) {n : Int32} (N : Nat) (hn : ¬ n < 0) (hN : n.toNatClampNeg = N) (hbytes : N * componentBytes .long ≤ 536870912) (hcells : cells + 1 ≤ R.cells) (hslots : slots + N ≤ R.slots) (hdg : decode cc pc = .ok (.newarray .long, 2))
    (kk : ∀ (q : Nat) (H1 : Heap), va_P D vwCl (ws ++ [(q, zAL cL N)]) H1 → va_D A (ws ++ [(q, zAL cL N)]) → va_S A H0 H1 locs → W p l e R s m args below meth c H1 locs (cells + 1) (slots + N) Q (F0 m (pc + 2) ls (.ref q :: rest))) : W p l e R s m args below meth c H locs cells slots Q (F0 m pc ls (.int n :: rest)) := by
  refine va_newa (atype := .long) hexec hb harr rfl hK hP hD hS hA (a0 := (N, .inr (.inl (fun _ => 0)))) (fun _ => rfl) hn hN hbytes hcells hslots hdg (fun q cA H1 hK1 hP1 hD1 hS1 => ?_)
  have e1 : s.vm.findClass ("[" ++ FieldType.long.toString) = some cA := (hK1.2 2 (cA, .long) rfl).2
  have e2 : s.vm.findClass ("[" ++ FieldType.long.toString) = some cL := (hK.2 1 (cL, .long) rfl).2
  obtain rfl : cL = cA := Option.some.inj (e2.symm.trans e1)
  exact kk q H1 hP1 hD1 hS1
end KNI
def kws (y : Nat) : List Cond := .code (my y) (mbyt y) (mnL y) (mrt y) :: kAW
def krm (y mc : Nat) : Room := { frames := mfr y, cells := mc, slots := 19 * mc, locals := mlo y }
def kWo (D : va_G) (cI cL : ClassId) (B : Nat) (ad : Nat → Nat) (L : Nat) (xs : Nat → Int32) (H : kH) (U : State) : Prop := va_P D vwCl (kW ad cI cL H) U.heap ∧ va_K D vwCl [(cI, .int), (cL, .long)] U ∧ kCF B ad L xs U U.heap
def kQc (D : va_G) (cI cL : ClassId) (B : Nat) (ad : Nat → Nat) (L : Nat) (xs : Nat → Int32) (v : Option Value) (H' : kH) : Array Value → State → Outcome → State → Prop := fun _ st oc t => oc = .returned (v.map (vR ad)) ∧ va_P D vwCl (kW ad cI cL H') t.heap ∧ kSc L xs H' ∧ va_F (kA B) st t
theorem kCF_blind {B : Nat} {ad : Nat → Nat} {L : Nat} {xs : Nat → Int32} {U U' : State} (hv : U'.vm = U.vm) (hh : U'.heap = U.heap) (h : kCF B ad L xs U U.heap) : kCF B ad L xs U' U'.heap := by
  obtain ⟨h1, h2, h3, h4, h5, h6, h7, h8⟩ := h
  have ha : U.vm.Alike U'.vm := by rw [hv]; exact Vm.Alike.refl U.vm
  rw [hh]
  exact ⟨h1.moved ha, vk_R.same hv h2, va_Z.moved ha h3, h4.moved ha, h5, h6, fun q hq h2 => va_Nw.same rfl hv.symm (h7 q hq h2), h8⟩
theorem kCF_call {B : Nat} {ad : Nat → Nat} {L : Nat} {xs : Nat → Int32} {s U : State} {Hp : Heap} {locs : List Loc} (hW : s.WarmedH U.vm) (hS : va_S (kA B) s.heap Hp locs) (hh : U.heap = Hp) (h : kCF B ad L xs s s.heap) : kCF B ad L xs U U.heap := by
  obtain ⟨h1, h2, h3, h4, h5, h6, h7, h8⟩ := h
  rw [hh]
  exact ⟨(h1.moved hW.alike).kept hS.2.1, h2.warm hW, (va_Z.moved hW.alike h3).kept hS.2.1, (h4.moved hW.alike).kept (hS.2.1 _ h5 h6), Nat.lt_of_lt_of_le h5 hS.1, h6, fun q hq h2 => va_Nw.warmM hW (h7 q hq h2), Nat.le_trans h8 hS.1⟩
theorem kBlind {D : va_G} {cI cL : ClassId} {B : Nat} {ad : Nat → Nat} {L : Nat} {xs : Nat → Int32} {H : kH} {av : List Value} : FrameBlind (va_Pc av (kWo D cI cL B ad L xs H)) := by
  intro a U g mk q
  obtain ⟨q0, qP, qK, qC⟩ := q
  exact ⟨q0, qP, va_K.moved (u := U) (U := U.calling g mk a) (Vm.Alike.refl U.vm) qK, kCF_blind (U := U) rfl rfl qC⟩
theorem kGood (y : Nat) (hy : y < 100) (hy2 : y ≠ 85) : GoodIn kAW (kws y) := by
  intro w hw
  rcases List.mem_cons.mp hw with rfl | h
  · exact kAW_good _ (kAW_of (kT_code y hy hy2) rfl)
  · exact kAW_good _ h
/-- what no run but the law's changes -/
theorem kCal_ne {m pc y : Nat} {ls st as r : List Value} {H : kH} (h : kStp m pc ls st H = some (.inr (.inl (y, as, r)))) : y < 100 ∧ y ≠ 85 := by
  have key : ∀ {o i kd y0 : Nat}, cpM o i = some (kd, y0) → y0 < 100 ∧ y0 ≠ 85 := by
    intro o i kd y0 hcp
    obtain ⟨q, q1, q2, q3⟩ := kfind hcp
    obtain ⟨rfl, rfl⟩ := Prod.mk.inj q3
    obtain ⟨y1, y2, -⟩ := kT_cal q q1
    exact ⟨y1, y2⟩
  unfold kStp at h
  split at h
  · rename_i i len hd
    split at h
    · rcases kIns2_cases h with ⟨a', ha, -⟩ | ⟨ix, rfl, hI⟩ | ⟨ix, kd, y', rfl, hcp, hI⟩ | ⟨v', ha, -⟩
      · cases ha
      · unfold kInvV at hI
        split at hI
        · rename_i kd y0 hcp
          split at hI
          · split at hI
            · split at hI
              · cases hI
                exact key hcp
              · cases hI
            · cases hI
          · cases hI
        · cases hI
      · unfold kInvS at hI
        split at hI
        · cases hI
          exact key hcp
        · cases hI
      · cases ha
    · cases h
  · cases h
theorem kRun_R : ∀ (n m pc : Nat) (ls st : List Value) (H H' : kH) (v : Option Value), m ≠ 85 → kRun n m pc ls st H = some (v, H') → H'.2.2 = H.2.2
  | 0, _, _, _, _, _, _, _, _, h => by simp [kRun] at h
  | n + 1, m, pc, ls, st, H, H', v, hm, h => by
    rw [kRun] at h
    split at h
    · cases h
    · rename_i a hst
      refine (kRun_R n _ _ _ _ _ _ _ hm h).trans ?_
      unfold kStp at hst
      split at hst
      · split at hst
        · rcases kIns2_cases hst with ⟨a', ha, hI⟩ | ⟨ix, -, hI⟩ | ⟨ix, kd, y, -, -, hI⟩ | ⟨v', ha, -⟩
          · cases ha
            exact kIns_R hI
          · unfold kInvV at hI
            split at hI
            · split at hI
              · split at hI
                · split at hI <;> cases hI
                · cases hI
              · cases hI
            · cases hI
          · unfold kInvS at hI
            split at hI <;> cases hI
          · cases ha
        · cases hst
      · cases hst
    · rename_i a hst
      split at h
      · split at h
        · rename_i hc
          exact absurd hc.1 hm
        · cases h
      · split at h
        · cases h
        · rename_i q hq
          obtain ⟨y, as, r⟩ := a
          obtain ⟨v1, H1⟩ := q
          exact (kRun_R n _ _ _ _ _ _ _ hm h).trans (kRun_R n _ _ _ _ _ _ _ (kCal_ne hst).2 hq)
    · cases h
      rfl
/-- what a frame needs; cells and slots by how many rows were made -/
def kFD (p : Program) (s : State) (mi : MethodId) (c : Code) (args : Array Value) (R : Room) (m : Nat) (cz sz : Nat → Nat) : Prop :=
  p.tables.exec = Jvm.exec ∧ c.code = mbyt m ∧ c.maxLocals = mnL m ∧ s.vm.findClass (cow (mow m)) = some mi.cls ∧ (∀ w ∈ kAW, w.before args s = true) ∧ mfr m ≤ R.frames ∧ mlo m ≤ R.locals ∧ (∀ k, k ≤ 1000 → cz k ≤ R.cells ∧ sz k ≤ R.slots) ∧ (m = 85 → ∀ k, cz (k + 1) = cz k + 1 ∧ sz (k + 1) = sz k + 19)
theorem kFD.fc {p : Program} {s : State} {mi : MethodId} {c : Code} {args : Array Value} {R : Room} {m : Nat} {cz sz : Nat → Nat} (h : kFD p s mi c args R m cz sz) {k : Nat} (hk : k ≤ 1000) : kFC p s mi c args R m (cz k) (sz k) := by
  obtain ⟨h1, h2, h3, h4, h5, h6, h7, h8, -⟩ := h
  exact ⟨h1, h2, h3, h4, h5, h6, h7, (h8 k hk).1, (h8 k hk).2⟩
def kStm (n : Nat) : Prop := ∀ (m pc : Nat) (ls st : List Value) (H H' : kH) (v : Option Value), kRun n m pc ls st H = some (v, H') →
  ∀ {p : Program} {l : Launch} {e : Env} {R : Room} {s : State} {mi : MethodId} {args : Array Value} {below : List Frame} {meth : Method} {c : Code} {cz sz : Nat → Nat} {Q : State → Prop} {B : Nat} {ad : Nat → Nat} {D : va_G} {cI cL : ClassId} {L : Nat} {xs : Nat → Int32},
  kFD p s mi c args R m cz sz → va_K D vwCl [(cI, .int), (cL, .long)] s → kCF B ad L xs s s.heap → kInj B (nW H) ad → na H ≤ 1000 →
  (∀ (pc' : Nat) (i : Instr) (Hp : Heap) (locs : List Loc) (arr : Array Slot), decode (mbyt m) pc' = .ok (i, 1) → kRok m i v → va_P D vwCl (kW ad cI cL H') Hp → va_S (kA B) s.heap Hp locs → kSc L xs H' → W p l e R s mi args below meth c Hp locs (cz (na H')) (sz (na H')) Q (F0 mi pc' arr ((v.map (vR ad)).toList))) →
  kWt p l e R s mi args below meth c (cz (na H)) (sz (na H)) Q B ad D cI cL L xs m (pc, ls, st, H)
theorem na_of {H H' : kH} (h : H'.2.2 = H.2.2) : na H' = na H := by
  unfold na
  rw [h]
theorem kMet {n : Nat} (ih : kStm n) {l : Launch} {y : Nat} {as : List Value} {H H' : kH} {v : Option Value} {B : Nat} {ad : Nat → Nat} {D : va_G} {cI cL : ClassId} {L : Nat} {xs : Nat → Int32} (hy : y < 100) (hy2 : y ≠ 85) (hrun : kRun n y 0 (kEnt y as) [] H = some (v, H')) (hfit : (kEnA as).length ≤ mnL y) (hi : kInj B (nW H) ad) (hna : na H ≤ 1000) (hX : kSc L xs H) :
    Met l (my y) (kws y) (krm y 0) (va_Pc (as.map (vR ad)) (kWo D cI cL B ad L xs H)) (kQc D cI cL B ad L xs v H') 0 0 (kA B) := by
  refine Met.ofW (cc := mbyt y) (maxL := mnL y) (ret := mrt y) (kT_own2 y hy) rfl ?_
  intro p e s m args below meth c s₁ B1 hml hv
  obtain ⟨rfl, hP, hK, hC⟩ := hv
  have hts := atoms_spec (ws := kws y) B1.pre
  have hown : s.vm.findClass (cow (mow y)) = some m.cls := by
    have := findClass_of_methodNamed B1.named
    rwa [kT_own1 y hy] at this
  rw [lg_entry_eq]
  refine ih _ _ _ _ _ _ _ hrun (cz := fun _ => 0) (sz := fun _ => 0) ⟨B1.exec, B1.bytes, hml, hown, fun w hw => hts w (List.mem_cons_of_mem _ hw), Nat.le_refl _, Nat.le_refl _, fun _ _ => ⟨Nat.zero_le _, Nat.zero_le _⟩, fun z => absurd z hy2⟩ hK hC hi hna ?_ s.heap [] _ hP va_S.rf (kLR_ent hfit) hX
  intro pc' i Hp locs arr hd hr hP' hS' hX'
  have hr0 := B1.returns
  have hlocks := B1.notSynchronized
  have hq : ∀ t : State, t.heap = Hp → s.WarmedH t.vm → kQc D cI cL B ad L xs v H' (as.map (vR ad)).toArray s (.returned (v.map (vR ad))) t := fun t ht _ => ⟨rfl, by rw [ht]; exact hP', hX', hS'.F ht⟩
  rcases hr with ⟨rfl, x, rfl, hr⟩ | ⟨rfl, x, rfl, hr⟩ | ⟨rfl, rfl, hr⟩
  · rcases hr with hr | ⟨hr, hx⟩ | ⟨hr, hx⟩
    · exact W.iret B1.exec B1.bytes (hr0.trans hr) hq hS'.2.2 hd
    · exact W.zret B1.exec B1.bytes (hr0.trans hr) (by rcases hx with rfl | rfl <;> rfl) hq hS'.2.2 hd
    · exact W.zret B1.exec B1.bytes (hr0.trans hr) (by subst hx; rfl) hq hS'.2.2 hd
  · exact W.lret B1.exec B1.bytes (hr0.trans hr) hq hS'.2.2 hd
  · exact W.vret B1.exec B1.bytes (hr0.trans hr) hq hS'.2.2 hd
/-! the row 30 -/
theorem sref_ne (k f : Nat) : sref k f ≠ 30 := by
  have h : ∀ q ∈ ksr, q.2.2 ≠ 30 := by decide
  unfold sref
  cases e : ksr.find? (fun q => q.1 == k && q.2.1 == f) with
  | none => exact fun z => by cases z
  | some q => exact h q (List.mem_of_find?_eq_some e)
theorem kcell_ad {ad ad' : Nat → Nat} {cI cL : ClassId} {H H' : kH} {k : Nat} (ha : ∀ j, j ≠ 30 → ad' j = ad j) (h1 : ∀ f, hI H' k f = hI H k f) (h2 : ∀ f, hL H' k f = hL H k f) : kcell ad' cI cL H' k = kcell ad cI cL H k := by
  have e1 : hI H' k = hI H k := funext h1
  have e2 : hL H' k = hL H k := funext h2
  have e4 : ∀ c, (fun f => kfv ad' H' k c f) = (fun f => kfv ad H k c f) := fun c => funext fun f => by
    unfold kfv
    rw [h1, h2, ha _ (sref_ne k f)]
  unfold kcell
  rw [e1, e2]
  split <;> first | rfl | (rw [e4])
theorem kCF_ad {B : Nat} {ad ad' : Nat → Nat} {L : Nat} {xs : Nat → Int32} {s : State} {Hp : Heap} (ha : ∀ j, j ≠ 30 → ad' j = ad j) (h : kCF B ad L xs s Hp) : kCF B ad' L xs s Hp := by
  unfold kCF at h ⊢
  rw [ha 38 (by decide), ha 39 (by decide), ha 40 (by decide)]
  exact h
theorem vR_ad {ad ad' : Nat → Nat} (ha : ∀ j, j ≠ 30 → ad' j = ad j) {v : Value} (hv : v ≠ .ref 30) : vR ad' v = vR ad v := by
  cases v with
  | ref k =>
    show Value.ref (ad' k) = Value.ref (ad k)
    rw [ha k (fun z => hv (by rw [z]))]
  | _ => rfl
theorem kNo_ne {vs : List Value} (h : kNo vs = true) : ∀ v ∈ vs, v ≠ .ref 30 := by
  intro v hv z
  subst z
  have h1 := List.all_eq_true.mp h _ hv
  exact absurd h1 (by decide)
theorem kEnA_no {vs : List Value} (h : ∀ v ∈ vs, v ≠ .ref 30) : ∀ v ∈ kEnA vs, v ≠ .ref 30 := by
  induction vs with
  | nil => intro v hv; cases hv
  | cons w vs ih =>
    have ih := ih (fun v hv => h v (List.mem_cons_of_mem _ hv))
    have hw := h w List.mem_cons_self
    intro v hv
    have two : v ∈ w :: .null :: kEnA vs → v ≠ .ref 30 := by
      intro hv
      rcases List.mem_cons.mp hv with rfl | hv
      · exact hw
      · rcases List.mem_cons.mp hv with rfl | hv
        · exact fun z => by cases z
        · exact ih v hv
    have one : v ∈ w :: kEnA vs → v ≠ .ref 30 := by
      intro hv
      rcases List.mem_cons.mp hv with rfl | hv
      · exact hw
      · exact ih v hv
    cases w with
    | long x => exact two hv
    | double x => exact two hv
    | int x => exact one hv
    | float x => exact one hv
    | null => exact one hv
    | ref x => exact one hv
    | retAddr x => exact one hv
theorem kEnt_no {y : Nat} {vs : List Value} (h : kNo vs = true) : ∀ v ∈ kEnt y vs, v ≠ .ref 30 := by
  intro v hv
  unfold kEnt at hv
  rcases List.mem_append.mp hv with hv | hv
  · exact kEnA_no (kNo_ne h) v hv
  · rw [List.eq_of_mem_replicate hv]
    exact fun z => by cases z
theorem kLR_ad {ad ad' : Nat → Nat} {arr : Array Slot} {n : Nat} {ls : List Value} (ha : ∀ j, j ≠ 30 → ad' j = ad j) (hno : ∀ v ∈ ls, v ≠ .ref 30) (h : kLR ad arr n ls) : kLR ad' arr n ls := by
  obtain ⟨h1, h2, h3, h4⟩ := h
  refine ⟨h1, h2, h3, fun i v hv hn => ?_⟩
  rw [vR_ad ha (hno v (List.mem_of_getElem? hv))]
  exact h4 i v hv hn
theorem fl_mkS (H : kH) : fl (mkS H) = 1 := rfl
theorem nW_mkS (H : kH) : nW (mkS H) = 31 := rfl
theorem fl_clS (H r : kH) : fl (clS H r) = 0 := rfl
theorem nW_clS (H r : kH) : nW (clS H r) = 30 := rfl
theorem na_mkS (H : kH) : na (mkS H) = na H := rfl
theorem na_clS (H r : kH) : na (clS H r) = na H + 1 := rfl
theorem hI_mkS (H : kH) (k j : Nat) : hI (mkS H) k j = if k = 30 then 0 else hI H k j := rfl
theorem hI_clS (H r : kH) (k j : Nat) : hI (clS H r) k j = hI r k j := rfl
theorem hL_clS (H r : kH) (k j : Nat) : hL (clS H r) k j = hL r k j := rfl
theorem hL_mkS (H : kH) (k j : Nat) : hL (mkS H) k j = hL H k j := rfl
theorem kSc_mkS {L : Nat} {xs : Nat → Int32} {H : kH} (h : kSc L xs H) : kSc L xs (mkS H) := ⟨fun j => (by rw [hI_mkS, if_neg (by decide)]; exact h.1 j), (by rw [hI_mkS, if_neg (by decide)]; exact h.2.1), h.2.2⟩
theorem kSc_clS {L : Nat} {xs : Nat → Int32} {H r : kH} (h : kSc L xs r) : kSc L xs (clS H r) := h
theorem kW_mkS {ad ad' : Nat → Nat} {cI cL : ClassId} {H : kH} {q : Nat} (hf : fl H = 0) (ha : ∀ j, j ≠ 30 → ad' j = ad j) (hq : ad' 30 = q) : kW ad cI cL H ++ [(q, zAI cI 19)] = kW ad' cI cL (mkS H) := by
  unfold kW
  have e31 : List.range 31 = List.range 30 ++ [30] := List.range_succ
  rw [nW_mkS, show nW H = 30 from if_pos hf, e31, List.map_append]
  congr 1
  · refine List.map_congr_left (fun k hk => ?_)
    have hk := List.mem_range.mp hk
    rw [ha k (by omega), show kcell ad' cI cL (mkS H) k = kcell ad cI cL H k from kcell_ad ha (fun f => by rw [hI_mkS, if_neg (by omega)]) (fun f => rfl)]
  · show [(q, _)] = [(ad' 30, kcell ad' cI cL (mkS H) 30)]
    rw [hq]
    rfl
theorem va_P_clS {D : va_G} {ad ad' : Nat → Nat} {cI cL : ClassId} {H r : kH} {Hp : Heap} (ha : ∀ j, j ≠ 30 → ad' j = ad j) (h : va_P D vwCl (kW ad' cI cL r) Hp) : va_P D vwCl (kW ad cI cL (clS H r)) Hp := by
  intro k q hq
  obtain ⟨hk, rfl⟩ := kW_lt hq
  rw [nW_clS] at hk
  have h1 := h k _ (kW_get (lt_nW hk))
  rw [ha k (by omega), show kcell ad' cI cL r k = kcell ad cI cL (clS H r) k from kcell_ad ha (fun f => rfl) (fun f => rfl)] at h1
  exact h1
theorem kMetA {n : Nat} (ih : kStm n) {l : Launch} {y : Nat} {as : List Value} {H H' : kH} {v : Option Value} {B : Nat} {ad : Nat → Nat} {D : va_G} {cI cL : ClassId} {L : Nat} {xs : Nat → Int32} (hal : kAl y = true) (hrun : kRun n y (kApc y) (kEnB y as) [] (mkS H) = some (v, H')) (hf : fl H = 0) (hno : kNo as = true) (hfit : (kEnA as).length ≤ mnL y) (hi : kInj B (nW H) ad) (hna : na H ≤ 1000) (hX : kSc L xs H) :
    Met l (my y) (kws y) (krm y 1) (va_Pc (as.map (vR ad)) (kWo D cI cL B ad L xs H)) (kQc D cI cL B ad L xs v (clS H H')) 1 19 (kA B) := by
  have hy0 : y = 86 ∨ y = 87 := by
    unfold kAl at hal
    simp only [Bool.or_eq_true, beq_iff_eq] at hal
    exact hal
  have hy : y < 100 := by omega
  have hy2 : y ≠ 85 := by omega
  have hd0 : decode (mbyt y) 0 = .ok (.bipush 19, 2) ∧ decode (mbyt y) 2 = .ok (.newarray .int, 2) := by
    rcases hy0 with rfl | rfl <;> exact ⟨by decide +kernel, by decide +kernel⟩
  refine Met.ofW (cc := mbyt y) (maxL := mnL y) (ret := mrt y) (kT_own2 y hy) rfl ?_
  intro p e s m args below meth c s₁ B1 hml hv
  obtain ⟨rfl, hP, hK, hC⟩ := hv
  have hts := atoms_spec (ws := kws y) B1.pre
  have hq : ∀ w ∈ kAW, w.before (as.map (vR ad)).toArray s = true := fun w hw => hts w (List.mem_cons_of_mem _ hw)
  have hown : s.vm.findClass (cow (mow y)) = some m.cls := by
    have := findClass_of_methodNamed B1.named
    rwa [kT_own1 y hy] at this
  rw [lg_entry_eq]
  have hl0 := kLR_ent (ad := ad) hfit
  generalize (lg_sl (as.map (vR ad)) ++ List.replicate (mnL y - (lg_sl (as.map (vR ad))).length) Slot.unset).toArray = arr at hl0 ⊢
  refine lv_bipush (v := 19) B1.exec B1.bytes hd0.1 rfl ?_
  refine kn_ai B1.exec B1.bytes (hq _ (kAW_of (i := 74) (by decide +kernel) rfl)) hK hP (kD hi) va_S.rf (fun q h => Nat.le_trans hC.2.2.2.2.2.2.2 h) 19 (by decide) rfl (Nat.le_of_ble_eq_true rfl) (Nat.le_refl 1) (Nat.le_refl 19) hd0.2 (fun q H1 hP1 hD1 hS1 => ?_)
  obtain ⟨ad', ha0, ha⟩ : ∃ ad' : Nat → Nat, ad' 30 = q ∧ ∀ j, j ≠ 30 → ad' j = ad j := ⟨fun j => if j = 30 then q else ad j, if_pos rfl, fun j hj => if_neg hj⟩
  rw [kW_mkS hf ha ha0] at hP1 hD1
  rw [← ha0]
  have hi' : kInj B (nW (mkS H)) ad' := ⟨fun i j h1 h2 h => hD1.1 i j _ _ (kW_get h1) (kW_get h2) h, fun k h => hD1.2 k _ (kW_get h)⟩
  have hl1 := kLR_ad ha (kEnt_no hno) hl0
  have go : ∀ (pc : Nat) (arr1 : Array Slot), pc = kApc y → kLR ad' arr1 (mnL y) (kEnB y as) → W p l e (headSpec (kws y) (krm y 1)).room s m (as.map (vR ad)).toArray below meth c H1 [] (0 + 1) (0 + 19) (MQ below (kQc D cI cL B ad L xs v (clS H H')) (as.map (vR ad)).toArray s 1 19 (kA B)) (F0 m pc arr1 []) := by
    rintro pc arr1 rfl hl2
    refine ih _ _ _ _ _ _ _ hrun (cz := fun _ => 1) (sz := fun _ => 19) ⟨B1.exec, B1.bytes, hml, hown, hq, Nat.le_refl _, Nat.le_refl _, fun _ _ => ⟨Nat.le_refl _, Nat.le_refl _⟩, fun z => absurd z hy2⟩ hK (kCF_ad ha hC) hi' hna ?_ H1 [] arr1 hP1 hS1 hl2 (kSc_mkS hX)
    intro pc' i Hp locs arr hd hr hP' hS' hX'
    have hr0 := B1.returns
    have hlocks := B1.notSynchronized
    have hvr : v.map (vR ad') = v.map (vR ad) := by
      rcases hr with ⟨-, x, rfl, -⟩ | ⟨-, x, rfl, -⟩ | ⟨-, rfl, -⟩ <;> rfl
    have hq2 : ∀ t : State, t.heap = Hp → s.WarmedH t.vm → kQc D cI cL B ad L xs v (clS H H') (as.map (vR ad)).toArray s (.returned (v.map (vR ad'))) t := fun t ht _ => ⟨by rw [hvr], by rw [ht]; exact va_P_clS ha hP', kSc_clS hX', hS'.F ht⟩
    rcases hr with ⟨rfl, x, rfl, hr⟩ | ⟨rfl, x, rfl, hr⟩ | ⟨rfl, rfl, hr⟩
    · rcases hr with hr | ⟨hr, hx⟩ | ⟨hr, hx⟩
      · exact W.iret B1.exec B1.bytes (hr0.trans hr) hq2 hS'.2.2 hd
      · exact W.zret B1.exec B1.bytes (hr0.trans hr) (by rcases hx with rfl | rfl <;> rfl) hq2 hS'.2.2 hd
      · exact W.zret B1.exec B1.bytes (hr0.trans hr) (by subst hx; rfl) hq2 hS'.2.2 hd
    · exact W.lret B1.exec B1.bytes (hr0.trans hr) hq2 hS'.2.2 hd
    · exact W.vret B1.exec B1.bytes (hr0.trans hr) hq2 hS'.2.2 hd
  rcases hy0 with rfl | rfl
  · exact lv_astore_n (x := ad' 30) B1.exec B1.bytes (show decode (mbyt 86) 4 = .ok (.astore_n 3, 1) by decide +kernel) rfl (kLR_has hl1) (by decide +kernel) rfl (fun arr1 h1 => go 5 arr1 rfl (kLR_st1 hl1 h1))
  · exact lv_astore (x := ad' 30) B1.exec B1.bytes (show decode (mbyt 87) 4 = .ok (.astore 5, 2) by decide +kernel) (kLR_has hl1) (by decide +kernel) rfl (fun arr1 h1 => go 6 arr1 rfl (kLR_st1 hl1 h1))
/-- behind a call -/
theorem kBack {p : Program} {l : Launch} {e : Env} {R : Room} {s : State} {mi : MethodId} {args : Array Value} {below : List Frame} {meth : Method} {c : Code} {cells slots mc ms : Nat} {Q : State → Prop} {B : Nat} {ad : Nat → Nat} {D : va_G} {cI cL : ClassId} {L : Nat} {xs : Nat → Int32}
    {m pc : Nat} {ls r st : List Value} {H' : kH} {v : Option Value} {Hp : Heap} {locs : List Loc} {arr : Array Slot} {av : Array Value}
    (hr : va_Run p l e R s mi args below meth c Hp locs cells slots mc ms (F0 mi pc arr st) (r.map (vR ad)) (kQc D cI cL B ad L xs v H' av) (kA B)) (hS : va_S (kA B) s.heap Hp locs) (hl : kLR ad arr (mnL m) ls)
    (kk : kWt p l e R s mi args below meth c (cells + mc) (slots + ms) Q B ad D cI cL L xs m (pc + 3, ls, v.toList ++ r, H')) : W p l e R s mi args below meth c Hp locs cells slots Q (F0 mi pc arr st) := by
  intro T hT X
  obtain ⟨v0, st₀, t, T', L0, h0, X', hL, e1, e2, ⟨hv, hP', hX', hz, hk⟩, stp⟩ := hr T hT X
  cases hv
  rw [h0] at hz hk
  have hS' : va_S (kA B) s.heap T'.heap (locs ++ L0) := by
    refine ⟨Nat.le_trans hS.1 (by rw [e1]; exact hz), fun q h1 h2 => by rw [e1, hk q (Nat.lt_of_lt_of_le h1 hS.1) h2]; exact hS.2.1 q h1 h2, fun q hq => ?_⟩
    rcases List.mem_append.mp hq with h | h
    · exact hS.2.2 q h
    · exact hL q h
  obtain ⟨t2, a1, b1⟩ := kk T'.heap (locs ++ L0) arr (by rw [e1]; exact hP') hS' hl hX' T' rfl X'
  refine ⟨t2, stp t2 ?_, b1⟩
  have e4 : (v.map (vR ad)).toList ++ r.map (vR ad) = (v.toList ++ r).map (vR ad) := by
    cases v <;> rfl
  rw [e4]
  exact a1
theorem kRcv_ok {s : State} {B : Nat} {ad : Nat → Nat} {D : va_G} {cI cL : ClassId} {L : Nat} {xs : Nat → Int32} {H : kH} {Hp : Heap} {locs : List Loc} {y k : Nat} (hy : y < 100) (h : kRcv y k = true) (hK : va_K D vwCl [(cI, .int), (cL, .long)] s) (hC : kCF B ad L xs s s.heap) (hP : va_P D vwCl (kW ad cI cL H) Hp) (hS : va_S (kA B) s.heap Hp locs) :
    ∃ cellB : Cell, Hp[ad k]? = some cellB ∧ cellB.vm.isStatics = false ∧ s.vm.findClass (my y).cls = some cellB.cls := by
  rw [kT_own1 y hy]
  unfold kRcv at h
  split at h
  · rename_i h8
    have hk : k = 39 := by simpa using h
    subst hk
    rw [h8]
    exact vk_recv hC.1 (i := 0) (by omega) hS
  · split at h
    · rename_i c hs
      simp only [Bool.and_eq_true, decide_eq_true_eq] at h
      obtain ⟨hk, h⟩ := h
      have he := (kW_get (ad := ad) (cI := cI) (cL := cL) (H := H) (lt_nW hk)).trans (by rw [kcell_ob (shz_of hs (by decide))])
      split at h
      all_goals first
        | (rename_i hm; rw [hm]; exact va_recv hK hP rfl he)
        | cases h
    · cases h
/-- a static call, whatever it makes -/
theorem kSta {p : Program} {l : Launch} {e : Env} {R : Room} {s : State} {mi : MethodId} {args : Array Value} {below : List Frame} {meth : Method} {c : Code} {cells slots : Nat} {B : Nat} {ad : Nat → Nat} {D : va_G} {cI cL : ClassId} {L : Nat} {xs : Nat → Int32}
    {m pc y kd ix mc : Nat} {ls st : List Value} {H H' : kH} {v : Option Value} {Hp : Heap} {locs : List Loc} {arr : Array Slot}
    (hF : kFC p s mi c args R m cells slots) (hK : va_K D vwCl [(cI, .int), (cL, .long)] s) (hC : kCF B ad L xs s s.heap) (hcp : cpM (mow m) ix = some (kd, y)) (hkd : kd ≠ 0) (c2 : mna y ≤ st.length) (c3 : kRm m y = true) (c4 : kCat (st.drop (mna y)) ≤ 8) (hd : decode (mbyt m) pc = .ok (.invokestatic ix, 3)) (hce : cells + mc ≤ R.cells) (hsl : slots + 19 * mc ≤ R.slots)
    (hM : Met l (my y) (kws y) (krm y mc) (va_Pc ((st.take (mna y)).reverse.map (vR ad)) (kWo D cI cL B ad L xs H)) (kQc D cI cL B ad L xs v H') mc (19 * mc) (kA B))
    (hP : va_P D vwCl (kW ad cI cL H) Hp) (hS : va_S (kA B) s.heap Hp locs) (hl : kLR ad arr (mnL m) ls) :
    va_Run p l e R s mi args below meth c Hp locs cells slots mc (19 * mc) (F0 mi pc arr (st.map (vR ad))) ((st.drop (mna y)).map (vR ad)) (kQc D cI cL B ad L xs v H' ((st.take (mna y)).reverse.map (vR ad)).toArray) (kA B) := by
  obtain ⟨hx, hb, hml, hown, hts, hfr, hlo, -, -⟩ := hF
  obtain ⟨q, q1, q2, q3⟩ := kfind hcp
  simp only [Bool.and_eq_true, beq_iff_eq] at q2
  obtain ⟨q2, rfl⟩ := q2
  obtain ⟨rfl, rfl⟩ := Prod.mk.inj q3
  obtain ⟨y1, y2, hw⟩ := kT_cal q q1
  unfold kRm at c3
  simp only [Bool.and_eq_true, decide_eq_true_eq] at c3
  have hst' : st.map (vR ad) = ((st.take (mna q.2.2.2.1)).reverse.map (vR ad)).reverse ++ (st.drop (mna q.2.2.2.1)).map (vR ad) := by
    conv => lhs; rw [← List.take_append_drop (mna q.2.2.2.1) st]
    rw [List.map_append, List.map_reverse, List.reverse_reverse]
  obtain ⟨o1, o2⟩ := kT_own3 _ y1
  have hsum : (((st.drop (mna q.2.2.2.1)).map (vR ad)).map fun v => v.category).sum ≤ 8 := by rw [kCat_vR]; exact c4
  rcases hw with ⟨z0, z1, z2, z3⟩ | ⟨z0, z1, z2⟩ | ⟨z0, z1, z2⟩
  · omega
  · rw [q2] at z1
    have hG : GoodIn kAW (va_wsS (cow (mow m)) q.2.1 (my q.2.2.2.1) (kws q.2.2.2.1)) := by
      intro w hw
      unfold va_wsS at hw
      simp only [List.cons_append, List.nil_append, List.mem_cons] at hw
      rcases hw with rfl | rfl | rfl | hw
      · exact kAW_good _ (kAW_of z1 rfl)
      · exact kAW_good _ (kAW_of z2 rfl)
      · exact kAW_good _ (kAW_of (kT_init _ y1) rfl)
      · exact kGood _ y1 y2 _ hw
    exact va_runS (p := p) (l := l) (e := e) (R := R) (s := s) (m := mi) (args := args) (below := below) (meth := meth) (c := c) (H := Hp) (locs := locs) (cells := cells) (slots := slots) (As := (st.take (mna q.2.2.2.1)).reverse.map (vR ad)) (rest := (st.drop (mna q.2.2.2.1)).map (vR ad)) (g := F0 mi pc arr (st.map (vR ad)))
      ⟨hx, hb, hml, hown, hts⟩ hM (va_cwS (mna q.2.2.2.1) hts hG rfl rfl rfl ⟨o1, o2, kT_own4 _ y1⟩ ⟨by show mfr _ + 1 ≤ _; omega, by show _ + mlo _ ≤ _; omega⟩)
      ⟨kBlind, fun U hU hW => ⟨rfl, by rw [hU]; exact hP, va_K.moved hW.alike hK, kCF_call hW hS hU hC⟩⟩ rfl (by simp [Nat.min_eq_left c2]) hl.1 hst' (lv_room (by omega)) hd ⟨by omega, by omega⟩
  · exact va_runSN (p := p) (l := l) (e := e) (R := R) (s := s) (m := mi) (args := args) (below := below) (meth := meth) (c := c) (H := Hp) (locs := locs) (cells := cells) (slots := slots) (As := (st.take (mna q.2.2.2.1)).reverse.map (vR ad)) (rest := (st.drop (mna q.2.2.2.1)).map (vR ad)) (g := F0 mi pc arr (st.map (vR ad))) (host := "SneezeKing")
      ⟨hx, hb, hml, hown, hts⟩ hM ⟨va_cnB (mna q.2.2.2.1) hts (kGood _ y1 y2) rfl rfl rfl (by have := hC.2.2.2.2.2.2.1 q q1 z0; rw [q2] at this; exact this) (hts _ (kAW_of (kT_init _ y1) rfl)) ⟨o1, o2, kT_own4 _ y1⟩ ⟨by show mfr _ + 1 ≤ _; omega, by show _ + mlo _ ≤ _; omega⟩, hts _ (kAW_of z2 rfl), trivial⟩
      ⟨kBlind, fun U hU hW => ⟨rfl, by rw [hU]; exact hP, va_K.moved hW.alike hK, kCF_call hW hS hU hC⟩⟩ rfl (by simp [Nat.min_eq_left c2]) hl.1 hst' (lv_room (by omega)) hd ⟨by omega, by omega⟩
theorem kT_alk : ∀ q ∈ kcT, kAl q.2.2.2.1 = true → q.2.2.1 = 1 := by decide +kernel
theorem kRun_W : ∀ n : Nat, kStm n
  | 0 => fun _ _ _ _ _ _ _ h => by simp [kRun] at h
  | n + 1 => by
    intro m pc ls st H H' v h p l e R s mi args below meth c cz sz Q B ad D cI cL L xs hF hK hC hi hna K
    have ih := kRun_W n
    have hF0 := hF.fc hna
    have hF1 := hF0
    obtain ⟨hx, hb, hml, hown, hts, hfr, hlo, hce, hsl⟩ := hF1
    rw [kRun] at h
    split at h
    · cases h
    · rename_i a hst
      unfold kStp at hst
      split at hst
      · rename_i i len hd
        split at hst
        · rename_i hlen
          rcases kIns2_cases hst with ⟨a', ha, hI⟩ | ⟨ix, -, hI⟩ | ⟨ix, kd, y, -, -, hI⟩ | ⟨v', ha, -⟩
          · cases ha
            have hr := kIns_R hI
            have hk := ih _ _ _ _ _ _ _ h hF hK hC (by rw [nW_of hr]; exact hi) (by rw [na_of hr]; exact hna) K
            rw [na_of hr] at hk
            exact kIns_W hF0 hK hC hi hd hlen hI hk
          · unfold kInvV at hI
            split at hI
            · split at hI
              · split at hI
                · split at hI <;> cases hI
                · cases hI
              · cases hI
            · cases hI
          · unfold kInvS at hI
            split at hI <;> cases hI
          · cases ha
        · cases hst
      · cases hst
    · rename_i a hst
      split at h
      · rename_i hal
        split at h
        · rename_i hc
          obtain ⟨hlaw, hf0, hn1, hno⟩ := hc
          split at h
          · cases h
          · rename_i q hq
            obtain ⟨y, as, r⟩ := a
            obtain ⟨v1, H1⟩ := q
            dsimp only at h hq hal hno
            obtain ⟨z1, z2⟩ := hF.2.2.2.2.2.2.2.2 hlaw (na H)
            have hnw : nW H = 30 := if_pos hf0
            have hkk := ih _ _ _ _ _ _ _ h hF hK hC (by rw [nW_clS, ← hnw]; exact hi) (by rw [na_clS]; omega) K
            rw [na_clS, z1, z2] at hkk
            obtain ⟨k1, k2⟩ := hF.2.2.2.2.2.2.2.1 (na H + 1) (by omega)
            rw [z1] at k1
            rw [z2] at k2
            unfold kStp at hst
            split at hst
            · rename_i i len hd
              split at hst
              · rename_i hlen
                intro Hp locs arr hP hS hl hX
                dsimp only at hP hl hX
                rcases kIns2_cases hst with ⟨a', ha, hI⟩ | ⟨ix, rfl, hI⟩ | ⟨ix, kd, y', rfl, hcp, hI⟩ | ⟨v', ha, -⟩
                · cases ha
                · exfalso
                  unfold kInvV at hI
                  split at hI
                  · rename_i kd y0 hcp
                    split at hI
                    · rename_i hc0
                      split at hI
                      · split at hI
                        · cases hI
                          obtain ⟨q, q1, q2, q3⟩ := kfind hcp
                          obtain ⟨rfl, rfl⟩ := Prod.mk.inj q3
                          have := kT_alk q q1 hal
                          omega
                        · cases hI
                      · cases hI
                    · cases hI
                  · cases hI
                · have hl3 : len = 3 := hlen
                  subst hl3
                  unfold kInvS at hI
                  split at hI
                  · rename_i hc
                    obtain ⟨c1, c2, c3, c4, c5⟩ := hc
                    cases hI
                    exact kBack (kSta (mc := 1) hF0 hK hC hcp c1 c2 c3 c4 hd k1 k2 (kMetA (l := l) (D := D) (cI := cI) (cL := cL) ih hal hq hf0 hno c5 hi hna hX) hP hS hl) hS hl hkk
                  · cases hI
                · cases ha
              · cases hst
            · cases hst
        · cases h
      · split at h
        · cases h
        · rename_i q hq
          obtain ⟨y, as, r⟩ := a
          obtain ⟨v1, H1⟩ := q
          dsimp only at h hq
          obtain ⟨hyl, hyn⟩ := kCal_ne hst
          have hr := kRun_R n _ _ _ _ _ _ _ hyn hq
          have hkk := ih _ _ _ _ _ _ _ h hF hK hC (by rw [nW_of hr]; exact hi) (by rw [na_of hr]; exact hna) K
          rw [na_of hr] at hkk
          unfold kStp at hst
          split at hst
          · rename_i i len hd
            split at hst
            · rename_i hlen
              intro Hp locs arr hP hS hl hX
              dsimp only at hP hl hX
              rcases kIns2_cases hst with ⟨a', ha, hI⟩ | ⟨ix, rfl, hI⟩ | ⟨ix, kd, y', rfl, hcp, hI⟩ | ⟨v', ha, -⟩
              · cases ha
              · have hl3 : len = 3 := hlen
                subst hl3
                unfold kInvV at hI
                split at hI
                · rename_i kd y0 hcp
                  split at hI
                  · rename_i hc
                    obtain ⟨c1, c2, c3⟩ := hc
                    split at hI
                    · rename_i k r0 hdr
                      split at hI
                      · rename_i hc2
                        obtain ⟨d1, d2, d3⟩ := hc2
                        cases hI
                        obtain ⟨q, q1, q2, q3⟩ := kfind hcp
                        simp only [Bool.and_eq_true, beq_iff_eq] at q2
                        obtain ⟨q2, rfl⟩ := q2
                        obtain ⟨rfl, rfl⟩ := Prod.mk.inj q3
                        obtain ⟨y1, y2, hw⟩ := kT_cal q q1
                        rcases hw with ⟨z0, z1, z2, z3⟩ | ⟨z0, z1, z2⟩ | ⟨z0, z1, z2⟩
                        · rw [q2] at z1
                          unfold kRm at c3
                          simp only [Bool.and_eq_true, decide_eq_true_eq] at c3
                          have hM := kMet (l := l) (D := D) (cI := cI) (cL := cL) ih y1 y2 hq d3 hi hna hX
                          have hst' : st.map (vR ad) = ((st.take (mna q.2.2.2.1)).reverse.map (vR ad)).reverse ++ .ref (ad k) :: r.map (vR ad) := by
                            have e0 : st = st.take (mna q.2.2.2.1) ++ .ref k :: r := by
                              have := List.take_append_drop (mna q.2.2.2.1) st
                              rw [hdr] at this
                              exact this.symm
                            conv => lhs; rw [e0]
                            rw [List.map_append, List.map_reverse, List.reverse_reverse]
                            rfl
                          have hG : GoodIn kAW (wsV (cow (mow m)) q.2.1 (my q.2.2.2.1).cls (my q.2.2.2.1) (kws q.2.2.2.1)) := by
                            intro w hw
                            unfold wsV at hw
                            simp only [List.cons_append, List.nil_append, List.mem_cons] at hw
                            rcases hw with rfl | rfl | rfl | rfl | hw
                            · exact kAW_good _ (kAW_of z1 rfl)
                            · exact kAW_good _ (kAW_of z2 rfl)
                            · exact kAW_good _ (kAW_of z3 rfl)
                            · exact kAW_good _ (kAW_of (kT_init _ y1) rfl)
                            · exact kGood _ y1 y2 _ hw
                          obtain ⟨o1, o2⟩ := kT_own3 _ y1
                          have hsum : ((r.map (vR ad)).map fun v => v.category).sum ≤ 8 := by rw [kCat_vR]; exact d2
                          have hrun := va_runV (p := p) (l := l) (e := e) (R := R) (s := s) (m := mi) (args := args) (below := below) (meth := meth) (c := c) (H := Hp) (locs := locs) (cells := cz (na H)) (slots := sz (na H)) (b := ad k) (As := (st.take (mna q.2.2.2.1)).reverse.map (vR ad)) (rest := r.map (vR ad)) (g := F0 mi pc arr (st.map (vR ad))) (C := (my q.2.2.2.1).cls)
                            ⟨hx, hb, hml, hown, hts⟩ hM (cwV (mna q.2.2.2.1) hts hG rfl rfl rfl ⟨rfl, o1, o2, kT_own4 _ y1⟩ ⟨by show mfr _ + 1 ≤ _; omega, by show _ + mlo _ ≤ _; omega⟩)
                            ⟨kBlind, kRcv_ok y1 d1 hK hC hP hS, fun U hU hW => ⟨rfl, by rw [hU]; exact hP, va_K.moved hW.alike hK, kCF_call hW hS hU hC⟩⟩ rfl (by simp [Nat.min_eq_left c2]) hl.1 hst' (lv_room (by omega)) hd ⟨by omega, by omega⟩
                          exact kBack hrun hS hl hkk
                        · omega
                        · omega
                      · cases hI
                    · cases hI
                  · cases hI
                · cases hI
              · have hl3 : len = 3 := hlen
                subst hl3
                unfold kInvS at hI
                split at hI
                · rename_i hc
                  obtain ⟨c1, c2, c3, c4, c5⟩ := hc
                  cases hI
                  exact kBack (kSta (mc := 0) hF0 hK hC hcp c1 c2 c3 c4 hd (by omega) (by omega) (kMet (l := l) (D := D) (cI := cI) (cL := cL) ih hyl hyn hq c5 hi hna hX) hP hS hl) hS hl hkk
                · cases hI
              · cases ha
            · cases hst
          · cases hst
    · rename_i v0 hst
      cases h
      unfold kStp at hst
      split at hst
      · rename_i i len hd
        split at hst
        · rename_i hlen
          intro Hp locs arr hP hS hl hX
          dsimp only at hP hl hX
          rcases kIns2_cases hst with ⟨a', ha, hI⟩ | ⟨ix, -, hI⟩ | ⟨ix, kd, y, -, -, hI⟩ | ⟨v', ha, hR, hs⟩
          · cases ha
          · unfold kInvV at hI
            split at hI
            · split at hI
              · split at hI
                · split at hI <;> cases hI
                · cases hI
              · cases hI
            · cases hI
          · unfold kInvS at hI
            split at hI <;> cases hI
          · cases ha
            have hlen1 : len = 1 := by
              rcases hR with ⟨rfl, -⟩ | ⟨rfl, -⟩ | ⟨rfl, -⟩ <;> exact hlen
            subst hlen1
            have e4 : st.map (vR ad) = (v.map (vR ad)).toList := by
              rw [hs]
              cases v <;> rfl
            refine W.eq (congrArg (F0 mi pc arr) e4) (K pc i Hp locs arr hd hR hP hS hX)
        · cases hst
      · cases hst
end
