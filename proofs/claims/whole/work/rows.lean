section
-- ===== PART A: goes FIRST, ahead of the names: the tables' words, and 'selects' of the private methods out of them =====
/-- a private method of a class that the tables say can be made, by its rows of tables_1 -/
def lw_okq (q : MethodName × Nat) : Prop := (q.1.cls ≠ "java/lang/invoke/MethodHandle" ∧ q.1.cls ≠ "java/lang/invoke/VarHandle") ∧ Cond.instantiable q.1.cls q.2 ∈ tables_1 ∧ Cond.privateMethod q.1 ∈ tables_1 ∧ Cond.instanceMethod q.1 ∈ tables_1
theorem lw_p0 : lw_okq (⟨"SneezeKing$Council", "findKing", "(I)I"⟩, 12) := ⟨⟨by decide +kernel, by decide +kernel⟩, List.mem_of_getElem? (i := 26) (by decide +kernel), List.mem_of_getElem? (i := 311) (by decide +kernel), List.mem_of_getElem? (i := 312) (by decide +kernel)⟩
theorem lw_p1 : lw_okq (⟨"SneezeKing$Council", "nextOf", "(I)I"⟩, 12) := ⟨⟨by decide +kernel, by decide +kernel⟩, List.mem_of_getElem? (i := 26) (by decide +kernel), List.mem_of_getElem? (i := 323) (by decide +kernel), List.mem_of_getElem? (i := 324) (by decide +kernel)⟩
theorem lw_p2 : lw_okq (⟨"SneezeKing$Prospect", "weighTenths", "(III)V"⟩, 8) := ⟨⟨by decide +kernel, by decide +kernel⟩, List.mem_of_getElem? (i := 83) (by decide +kernel), List.mem_of_getElem? (i := 456) (by decide +kernel), List.mem_of_getElem? (i := 457) (by decide +kernel)⟩
theorem lw_p3 : lw_okq (⟨"SneezeKing$Prospect", "crown", "([J)V"⟩, 8) := ⟨⟨by decide +kernel, by decide +kernel⟩, List.mem_of_getElem? (i := 83) (by decide +kernel), List.mem_of_getElem? (i := 462) (by decide +kernel), List.mem_of_getElem? (i := 463) (by decide +kernel)⟩
theorem lw_p4 : lw_okq (⟨"SneezeKing$Prospect", "weighSets", "()I"⟩, 8) := ⟨⟨by decide +kernel, by decide +kernel⟩, List.mem_of_getElem? (i := 83) (by decide +kernel), List.mem_of_getElem? (i := 466) (by decide +kernel), List.mem_of_getElem? (i := 467) (by decide +kernel)⟩
theorem lw_p5 : lw_okq (⟨"SneezeKing$Prospect", "stepBack", "()V"⟩, 8) := ⟨⟨by decide +kernel, by decide +kernel⟩, List.mem_of_getElem? (i := 83) (by decide +kernel), List.mem_of_getElem? (i := 497) (by decide +kernel), List.mem_of_getElem? (i := 498) (by decide +kernel)⟩
theorem lw_p6 : lw_okq (⟨"SneezeKing$Prospect", "worthAhead", "(I)J"⟩, 8) := ⟨⟨by decide +kernel, by decide +kernel⟩, List.mem_of_getElem? (i := 83) (by decide +kernel), List.mem_of_getElem? (i := 501) (by decide +kernel), List.mem_of_getElem? (i := 502) (by decide +kernel)⟩
theorem lw_p7 : lw_okq (⟨"SneezeKing$Prospect", "keepJust", "(I)V"⟩, 8) := ⟨⟨by decide +kernel, by decide +kernel⟩, List.mem_of_getElem? (i := 83) (by decide +kernel), List.mem_of_getElem? (i := 571) (by decide +kernel), List.mem_of_getElem? (i := 572) (by decide +kernel)⟩
theorem lw_p8 : lw_okq (⟨"SneezeKing$Prospect", "weighWays", "(III)V"⟩, 8) := ⟨⟨by decide +kernel, by decide +kernel⟩, List.mem_of_getElem? (i := 83) (by decide +kernel), List.mem_of_getElem? (i := 575) (by decide +kernel), List.mem_of_getElem? (i := 576) (by decide +kernel)⟩
theorem lw_p9 : lw_okq (⟨"SneezeKing$Years", "liveHour", "(I)V"⟩, 4) := ⟨⟨by decide +kernel, by decide +kernel⟩, List.mem_of_getElem? (i := 115) (by decide +kernel), List.mem_of_getElem? (i := 597) (by decide +kernel), List.mem_of_getElem? (i := 598) (by decide +kernel)⟩
theorem lw_p10 : lw_okq (⟨"SneezeKing$Years", "drawSneezers", "(I)I"⟩, 4) := ⟨⟨by decide +kernel, by decide +kernel⟩, List.mem_of_getElem? (i := 115) (by decide +kernel), List.mem_of_getElem? (i := 601) (by decide +kernel), List.mem_of_getElem? (i := 602) (by decide +kernel)⟩
theorem lw_p11 : lw_okq (⟨"SneezeKing$Years", "drawOfTen", "()I"⟩, 4) := ⟨⟨by decide +kernel, by decide +kernel⟩, List.mem_of_getElem? (i := 115) (by decide +kernel), List.mem_of_getElem? (i := 606) (by decide +kernel), List.mem_of_getElem? (i := 607) (by decide +kernel)⟩
theorem lw_p12 : lw_okq (⟨"SneezeKingModel", "faultOf", "()I"⟩, 26) := ⟨⟨by decide +kernel, by decide +kernel⟩, List.mem_of_getElem? (i := 685) (by decide +kernel), List.mem_of_getElem? (i := 786) (by decide +kernel), List.mem_of_getElem? (i := 787) (by decide +kernel)⟩
theorem lw_p13 : lw_okq (⟨"SneezeKingModel", "isOne", "(I)Z"⟩, 26) := ⟨⟨by decide +kernel, by decide +kernel⟩, List.mem_of_getElem? (i := 685) (by decide +kernel), List.mem_of_getElem? (i := 806) (by decide +kernel), List.mem_of_getElem? (i := 807) (by decide +kernel)⟩
theorem lw_p14 : lw_okq (⟨"SneezeKingModel", "tell", "(II)I"⟩, 26) := ⟨⟨by decide +kernel, by decide +kernel⟩, List.mem_of_getElem? (i := 685) (by decide +kernel), List.mem_of_getElem? (i := 810) (by decide +kernel), List.mem_of_getElem? (i := 811) (by decide +kernel)⟩
theorem lw_p15 : lw_okq (⟨"SneezeKingModel", "tenthsOf", "(IIII)I"⟩, 26) := ⟨⟨by decide +kernel, by decide +kernel⟩, List.mem_of_getElem? (i := 685) (by decide +kernel), List.mem_of_getElem? (i := 814) (by decide +kernel), List.mem_of_getElem? (i := 815) (by decide +kernel)⟩
def lw_privs_1 : List (MethodName × Nat) := [(⟨"SneezeKing$Council", "findKing", "(I)I"⟩, 12), (⟨"SneezeKing$Council", "nextOf", "(I)I"⟩, 12), (⟨"SneezeKing$Prospect", "weighTenths", "(III)V"⟩, 8), (⟨"SneezeKing$Prospect", "crown", "([J)V"⟩, 8), (⟨"SneezeKing$Prospect", "weighSets", "()I"⟩, 8), (⟨"SneezeKing$Prospect", "stepBack", "()V"⟩, 8), (⟨"SneezeKing$Prospect", "worthAhead", "(I)J"⟩, 8), (⟨"SneezeKing$Prospect", "keepJust", "(I)V"⟩, 8), (⟨"SneezeKing$Prospect", "weighWays", "(III)V"⟩, 8), (⟨"SneezeKing$Years", "liveHour", "(I)V"⟩, 4), (⟨"SneezeKing$Years", "drawSneezers", "(I)I"⟩, 4), (⟨"SneezeKing$Years", "drawOfTen", "()I"⟩, 4), (⟨"SneezeKingModel", "faultOf", "()I"⟩, 26), (⟨"SneezeKingModel", "isOne", "(I)Z"⟩, 26), (⟨"SneezeKingModel", "tell", "(II)I"⟩, 26), (⟨"SneezeKingModel", "tenthsOf", "(IIII)I"⟩, 26)]
theorem lw_r1 : ∀ q ∈ lw_privs_1, lw_okq q := List.forall_mem_cons.mpr ⟨lw_p0, List.forall_mem_cons.mpr ⟨lw_p1, List.forall_mem_cons.mpr ⟨lw_p2, List.forall_mem_cons.mpr ⟨lw_p3, List.forall_mem_cons.mpr ⟨lw_p4, List.forall_mem_cons.mpr ⟨lw_p5, List.forall_mem_cons.mpr ⟨lw_p6, List.forall_mem_cons.mpr ⟨lw_p7, List.forall_mem_cons.mpr ⟨lw_p8, List.forall_mem_cons.mpr ⟨lw_p9, List.forall_mem_cons.mpr ⟨lw_p10, List.forall_mem_cons.mpr ⟨lw_p11, List.forall_mem_cons.mpr ⟨lw_p12, List.forall_mem_cons.mpr ⟨lw_p13, List.forall_mem_cons.mpr ⟨lw_p14, List.forall_mem_cons.mpr ⟨lw_p15, fun _ h => absurd h List.not_mem_nil⟩⟩⟩⟩⟩⟩⟩⟩⟩⟩⟩⟩⟩⟩⟩⟩
theorem lw_p16 : lw_okq (⟨"SneezeKingModel", "lacks", "()Z"⟩, 26) := ⟨⟨by decide +kernel, by decide +kernel⟩, List.mem_of_getElem? (i := 685) (by decide +kernel), List.mem_of_getElem? (i := 838) (by decide +kernel), List.mem_of_getElem? (i := 839) (by decide +kernel)⟩
theorem lw_p17 : lw_okq (⟨"SneezeKingModel", "maySneeze", "(III)Z"⟩, 26) := ⟨⟨by decide +kernel, by decide +kernel⟩, List.mem_of_getElem? (i := 685) (by decide +kernel), List.mem_of_getElem? (i := 850) (by decide +kernel), List.mem_of_getElem? (i := 851) (by decide +kernel)⟩
theorem lw_p18 : lw_okq (⟨"SneezeKingModel", "kingOf", "(I)I"⟩, 26) := ⟨⟨by decide +kernel, by decide +kernel⟩, List.mem_of_getElem? (i := 685) (by decide +kernel), List.mem_of_getElem? (i := 854) (by decide +kernel), List.mem_of_getElem? (i := 855) (by decide +kernel)⟩
theorem lw_p19 : lw_okq (⟨"SneezeKingModel", "lawsBehind", "(II)I"⟩, 26) := ⟨⟨by decide +kernel, by decide +kernel⟩, List.mem_of_getElem? (i := 685) (by decide +kernel), List.mem_of_getElem? (i := 858) (by decide +kernel), List.mem_of_getElem? (i := 859) (by decide +kernel)⟩
theorem lw_p20 : lw_okq (⟨"SneezeKingModel", "kingTerm", "(II)J"⟩, 26) := ⟨⟨by decide +kernel, by decide +kernel⟩, List.mem_of_getElem? (i := 685) (by decide +kernel), List.mem_of_getElem? (i := 876) (by decide +kernel), List.mem_of_getElem? (i := 877) (by decide +kernel)⟩
theorem lw_p21 : lw_okq (⟨"SneezeKingModel", "kingBy", "(II)J"⟩, 26) := ⟨⟨by decide +kernel, by decide +kernel⟩, List.mem_of_getElem? (i := 685) (by decide +kernel), List.mem_of_getElem? (i := 880) (by decide +kernel), List.mem_of_getElem? (i := 881) (by decide +kernel)⟩
theorem lw_p22 : lw_okq (⟨"SneezeKingModel", "oddsOf", "(IIII)J"⟩, 26) := ⟨⟨by decide +kernel, by decide +kernel⟩, List.mem_of_getElem? (i := 685) (by decide +kernel), List.mem_of_getElem? (i := 884) (by decide +kernel), List.mem_of_getElem? (i := 885) (by decide +kernel)⟩
theorem lw_p23 : lw_okq (⟨"SneezeKingModel", "tens", "(I)J"⟩, 26) := ⟨⟨by decide +kernel, by decide +kernel⟩, List.mem_of_getElem? (i := 685) (by decide +kernel), List.mem_of_getElem? (i := 888) (by decide +kernel), List.mem_of_getElem? (i := 889) (by decide +kernel)⟩
theorem lw_p24 : lw_okq (⟨"SneezeKingModel", "holdsTerm", "(III)J"⟩, 26) := ⟨⟨by decide +kernel, by decide +kernel⟩, List.mem_of_getElem? (i := 685) (by decide +kernel), List.mem_of_getElem? (i := 901) (by decide +kernel), List.mem_of_getElem? (i := 902) (by decide +kernel)⟩
theorem lw_p25 : lw_okq (⟨"SneezeKingModel", "holdsFrom", "(III)J"⟩, 26) := ⟨⟨by decide +kernel, by decide +kernel⟩, List.mem_of_getElem? (i := 685) (by decide +kernel), List.mem_of_getElem? (i := 905) (by decide +kernel), List.mem_of_getElem? (i := 906) (by decide +kernel)⟩
theorem lw_p26 : lw_okq (⟨"SneezeKingModel", "windowOf", "(I)I"⟩, 26) := ⟨⟨by decide +kernel, by decide +kernel⟩, List.mem_of_getElem? (i := 685) (by decide +kernel), List.mem_of_getElem? (i := 913) (by decide +kernel), List.mem_of_getElem? (i := 914) (by decide +kernel)⟩
theorem lw_p27 : lw_okq (⟨"SneezeKingModel", "sayingOf", "(II)I"⟩, 26) := ⟨⟨by decide +kernel, by decide +kernel⟩, List.mem_of_getElem? (i := 685) (by decide +kernel), List.mem_of_getElem? (i := 922) (by decide +kernel), List.mem_of_getElem? (i := 923) (by decide +kernel)⟩
theorem lw_p28 : lw_okq (⟨"SneezeKingModel", "statutesOf", "(II)I"⟩, 26) := ⟨⟨by decide +kernel, by decide +kernel⟩, List.mem_of_getElem? (i := 685) (by decide +kernel), List.mem_of_getElem? (i := 932) (by decide +kernel), List.mem_of_getElem? (i := 933) (by decide +kernel)⟩
theorem lw_p29 : lw_okq (⟨"SneezeKingModel", "waysBy", "(II)J"⟩, 26) := ⟨⟨by decide +kernel, by decide +kernel⟩, List.mem_of_getElem? (i := 685) (by decide +kernel), List.mem_of_getElem? (i := 948) (by decide +kernel), List.mem_of_getElem? (i := 949) (by decide +kernel)⟩
theorem lw_p30 : lw_okq (⟨"SneezeKingModel", "draw", "(I)I"⟩, 26) := ⟨⟨by decide +kernel, by decide +kernel⟩, List.mem_of_getElem? (i := 685) (by decide +kernel), List.mem_of_getElem? (i := 962) (by decide +kernel), List.mem_of_getElem? (i := 963) (by decide +kernel)⟩
theorem lw_p31 : lw_okq (⟨"SneezeKingModel", "countOf", "(I)I"⟩, 26) := ⟨⟨by decide +kernel, by decide +kernel⟩, List.mem_of_getElem? (i := 685) (by decide +kernel), List.mem_of_getElem? (i := 985) (by decide +kernel), List.mem_of_getElem? (i := 986) (by decide +kernel)⟩
def lw_privs_2 : List (MethodName × Nat) := [(⟨"SneezeKingModel", "lacks", "()Z"⟩, 26), (⟨"SneezeKingModel", "maySneeze", "(III)Z"⟩, 26), (⟨"SneezeKingModel", "kingOf", "(I)I"⟩, 26), (⟨"SneezeKingModel", "lawsBehind", "(II)I"⟩, 26), (⟨"SneezeKingModel", "kingTerm", "(II)J"⟩, 26), (⟨"SneezeKingModel", "kingBy", "(II)J"⟩, 26), (⟨"SneezeKingModel", "oddsOf", "(IIII)J"⟩, 26), (⟨"SneezeKingModel", "tens", "(I)J"⟩, 26), (⟨"SneezeKingModel", "holdsTerm", "(III)J"⟩, 26), (⟨"SneezeKingModel", "holdsFrom", "(III)J"⟩, 26), (⟨"SneezeKingModel", "windowOf", "(I)I"⟩, 26), (⟨"SneezeKingModel", "sayingOf", "(II)I"⟩, 26), (⟨"SneezeKingModel", "statutesOf", "(II)I"⟩, 26), (⟨"SneezeKingModel", "waysBy", "(II)J"⟩, 26), (⟨"SneezeKingModel", "draw", "(I)I"⟩, 26), (⟨"SneezeKingModel", "countOf", "(I)I"⟩, 26)]
theorem lw_r2 : ∀ q ∈ lw_privs_2, lw_okq q := List.forall_mem_cons.mpr ⟨lw_p16, List.forall_mem_cons.mpr ⟨lw_p17, List.forall_mem_cons.mpr ⟨lw_p18, List.forall_mem_cons.mpr ⟨lw_p19, List.forall_mem_cons.mpr ⟨lw_p20, List.forall_mem_cons.mpr ⟨lw_p21, List.forall_mem_cons.mpr ⟨lw_p22, List.forall_mem_cons.mpr ⟨lw_p23, List.forall_mem_cons.mpr ⟨lw_p24, List.forall_mem_cons.mpr ⟨lw_p25, List.forall_mem_cons.mpr ⟨lw_p26, List.forall_mem_cons.mpr ⟨lw_p27, List.forall_mem_cons.mpr ⟨lw_p28, List.forall_mem_cons.mpr ⟨lw_p29, List.forall_mem_cons.mpr ⟨lw_p30, List.forall_mem_cons.mpr ⟨lw_p31, fun _ h => absurd h List.not_mem_nil⟩⟩⟩⟩⟩⟩⟩⟩⟩⟩⟩⟩⟩⟩⟩⟩
theorem lw_p32 : lw_okq (⟨"SneezeKingModel", "say", "(J)V"⟩, 26) := ⟨⟨by decide +kernel, by decide +kernel⟩, List.mem_of_getElem? (i := 685) (by decide +kernel), List.mem_of_getElem? (i := 994) (by decide +kernel), List.mem_of_getElem? (i := 995) (by decide +kernel)⟩
def lw_privs_3 : List (MethodName × Nat) := [(⟨"SneezeKingModel", "say", "(J)V"⟩, 26)]
theorem lw_r3 : ∀ q ∈ lw_privs_3, lw_okq q := List.forall_mem_cons.mpr ⟨lw_p32, fun _ h => absurd h List.not_mem_nil⟩
def lw_privs : List (MethodName × Nat) := lw_privs_1 ++ (lw_privs_2 ++ (lw_privs_3))
def lw_tbl : List Cond := k2_sels lw_privs ++ tables_1
theorem lw_privs_ok : ∀ q ∈ lw_privs, lw_okq q := by
  show ∀ q ∈ lw_privs_1 ++ (lw_privs_2 ++ (lw_privs_3)), lw_okq q
  exact List.forall_mem_append.mpr ⟨lw_r1, List.forall_mem_append.mpr ⟨lw_r2, lw_r3⟩⟩
-- ===== end of PART A
end
section
def RX0 : String := "SneezeKing$Council"
def RX1 : String := "SneezeKing$Page"
def RX2 : String := "SneezeKing$Prospect"
def RX3 : String := "SneezeKing$Statutes"
def RX4 : String := "SneezeKing$Years"
def RX5 : String := "SneezeKing"
def RX6 : String := "SneezeKingModel"
def RL : String := "SneezeKingLaw"
def RJ0 : String := "java/lang/String"
def RJ1 : String := "java/lang/StringLatin1"
def RJ7 : String := "java/util/Arrays"
def RJ6 : String := "java/lang/Integer"
def TX0 : u_T := fun k => match k with
  | 0 => ("SneezeKing$Council", "kinds", "[I", true)
  | 1 => ("SneezeKing$Council", "noses", "[I", true)
  | 2 => ("SneezeKing$Council", "sayings", "[I", true)
  | 3 => ("SneezeKing$Council", "reigns", "[I", true)
  | 4 => ("SneezeKing$Council", "kings", "[I", true)
  | 5 => ("SneezeKing$Council", "told", "[I", true)
  | 6 => ("SneezeKing$Council", "seats", "I", false)
  | 7 => ("SneezeKing$Council", "draughtAt", "I", false)
  | 8 => ("SneezeKing$Council", "peppered", "Z", false)
  | 9 => ("SneezeKing$Council", "held", "I", false)
  | 10 => ("SneezeKing$Council", "hourNumber", "I", false)
  | _ => ("SneezeKing$Council", "toldHours", "I", false)
def tyX0 : Nat → FieldType := fun k => match k with
  | 0 => .array .int
  | 1 => .array .int
  | 2 => .array .int
  | 3 => .array .int
  | 4 => .array .int
  | 5 => .array .int
  | 6 => .int
  | 7 => .int
  | 8 => .boolean
  | 9 => .int
  | 10 => .int
  | _ => .int
theorem nmX0 : ∀ a, a < 12 → ∀ b, b < 12 → a ≠ b → (TX0 a).2.1 ≠ (TX0 b).2.1 := by decide +kernel
theorem tyX0_ok : ∀ k, k < 12 → parseFieldDescriptor (TX0 k).2.2.1 = some (tyX0 k) := by decide +kernel
def TX1 : u_T := fun k => match k with
  | 0 => ("SneezeKing$Page", "codes", "[I", true)
  | _ => ("SneezeKing$Page", "size", "I", false)
def tyX1 : Nat → FieldType := fun k => match k with
  | 0 => .array .int
  | _ => .int
theorem nmX1 : ∀ a, a < 2 → ∀ b, b < 2 → a ≠ b → (TX1 a).2.1 ≠ (TX1 b).2.1 := by decide +kernel
theorem tyX1_ok : ∀ k, k < 2 → parseFieldDescriptor (TX1 k).2.2.1 = some (tyX1 k) := by decide +kernel
def TX2 : u_T := fun k => match k with
  | 0 => ("SneezeKing$Prospect", "council", "LSneezeKing$Council;", true)
  | 1 => ("SneezeKing$Prospect", "sneezing", "[J", true)
  | 2 => ("SneezeKing$Prospect", "silent", "[J", true)
  | 3 => ("SneezeKing$Prospect", "bySet", "[J", true)
  | 4 => ("SneezeKing$Prospect", "kingsFree", "[J", true)
  | 5 => ("SneezeKing$Prospect", "kingsBanned", "[J", true)
  | 6 => ("SneezeKing$Prospect", "worth", "[J", false)
  | _ => ("SneezeKing$Prospect", "spare", "[J", false)
def tyX2 : Nat → FieldType := fun k => match k with
  | 0 => .object "SneezeKing$Council"
  | 1 => .array .long
  | 2 => .array .long
  | 3 => .array .long
  | 4 => .array .long
  | 5 => .array .long
  | 6 => .array .long
  | _ => .array .long
theorem nmX2 : ∀ a, a < 8 → ∀ b, b < 8 → a ≠ b → (TX2 a).2.1 ≠ (TX2 b).2.1 := by decide +kernel
theorem tyX2_ok : ∀ k, k < 8 → parseFieldDescriptor (TX2 k).2.2.1 = some (tyX2 k) := by decide +kernel
def TX4 : u_T := fun k => match k with
  | 0 => ("SneezeKing$Years", "council", "LSneezeKing$Council;", true)
  | 1 => ("SneezeKing$Years", "reigns", "[I", true)
  | 2 => ("SneezeKing$Years", "held", "I", false)
  | _ => ("SneezeKing$Years", "seed", "J", false)
def tyX4 : Nat → FieldType := fun k => match k with
  | 0 => .object "SneezeKing$Council"
  | 1 => .array .int
  | 2 => .int
  | _ => .long
theorem nmX4 : ∀ a, a < 4 → ∀ b, b < 4 → a ≠ b → (TX4 a).2.1 ≠ (TX4 b).2.1 := by decide +kernel
theorem tyX4_ok : ∀ k, k < 4 → parseFieldDescriptor (TX4 k).2.2.1 = some (tyX4 k) := by decide +kernel
def TX5 : u_T := fun k => match k with
  | 0 => ("SneezeKing", "page", "LSneezeKing$Page;", true)
  | 1 => ("SneezeKing", "now", "LSneezeKing$Council;", true)
  | 2 => ("SneezeKing", "kept", "LSneezeKing$Council;", true)
  | 3 => ("SneezeKing", "prospect", "LSneezeKing$Prospect;", true)
  | 4 => ("SneezeKing", "lived", "LSneezeKing$Years;", true)
  | 5 => ("SneezeKing", "hasImage", "Z", false)
  | _ => ("SneezeKing", "councilsRead", "I", false)
def tyX5 : Nat → FieldType := fun k => match k with
  | 0 => .object "SneezeKing$Page"
  | 1 => .object "SneezeKing$Council"
  | 2 => .object "SneezeKing$Council"
  | 3 => .object "SneezeKing$Prospect"
  | 4 => .object "SneezeKing$Years"
  | 5 => .boolean
  | _ => .int
theorem nmX5 : ∀ a, a < 7 → ∀ b, b < 7 → a ≠ b → (TX5 a).2.1 ≠ (TX5 b).2.1 := by decide +kernel
theorem tyX5_ok : ∀ k, k < 7 → parseFieldDescriptor (TX5 k).2.2.1 = some (tyX5 k) := by decide +kernel
def TX6 : u_T := fun k => match k with
  | 0 => ("SneezeKingModel", "page", "[I", true)
  | 1 => ("SneezeKingModel", "pageMany", "I", false)
  | 2 => ("SneezeKingModel", "many", "I", false)
  | 3 => ("SneezeKingModel", "draughtNow", "I", false)
  | 4 => ("SneezeKingModel", "pepperNow", "I", false)
  | 5 => ("SneezeKingModel", "lawsNow", "I", false)
  | 6 => ("SneezeKingModel", "hourNow", "I", false)
  | 7 => ("SneezeKingModel", "councilsRead", "I", false)
  | 8 => ("SneezeKingModel", "rows", "[I", true)
  | 9 => ("SneezeKingModel", "now", "[J", true)
  | 10 => ("SneezeKingModel", "then", "[J", true)
  | 11 => ("SneezeKingModel", "far", "[I", true)
  | 12 => ("SneezeKingModel", "firsts", "[I", true)
  | 13 => ("SneezeKingModel", "bookMany", "I", false)
  | 14 => ("SneezeKingModel", "books", "[I", true)
  | 15 => ("SneezeKingModel", "seedNow", "I", false)
  | 16 => ("SneezeKingModel", "often", "[I", true)
  | 17 => ("SneezeKingModel", "keptCouncil", "I", false)
  | 18 => ("SneezeKingModel", "keptDraught", "I", false)
  | 19 => ("SneezeKingModel", "keptPepper", "I", false)
  | 20 => ("SneezeKingModel", "keptLaws", "I", false)
  | 21 => ("SneezeKingModel", "keptHour", "I", false)
  | 22 => ("SneezeKingModel", "keptBookMany", "I", false)
  | 23 => ("SneezeKingModel", "keptRows", "[I", true)
  | 24 => ("SneezeKingModel", "keptBooks", "[I", true)
  | _ => ("SneezeKingModel", "hash", "J", false)
def tyX6 : Nat → FieldType := fun k => match k with
  | 0 => .array .int
  | 1 => .int
  | 2 => .int
  | 3 => .int
  | 4 => .int
  | 5 => .int
  | 6 => .int
  | 7 => .int
  | 8 => .array .int
  | 9 => .array .long
  | 10 => .array .long
  | 11 => .array .int
  | 12 => .array .int
  | 13 => .int
  | 14 => .array .int
  | 15 => .int
  | 16 => .array .int
  | 17 => .int
  | 18 => .int
  | 19 => .int
  | 20 => .int
  | 21 => .int
  | 22 => .int
  | 23 => .array .int
  | 24 => .array .int
  | _ => .long
theorem nmX6 : ∀ a, a < 26 → ∀ b, b < 26 → a ≠ b → (TX6 a).2.1 ≠ (TX6 b).2.1 := by decide +kernel
theorem tyX6_ok : ∀ k, k < 26 → parseFieldDescriptor (TX6 k).2.2.1 = some (tyX6 k) := by decide +kernel
abbrev vwCl : List vw_C := [(RX0, TX0, 12), (RX1, TX1, 2), (RX2, TX2, 8), (RX4, TX4, 4), (RX5, TX5, 7), (RX6, TX6, 26)]
/-- names of the classes that own methods -/
def kcn : List String := [RX0, RX1, RX2, RX3, RX4, RX5, RX6, RL, RJ0, RJ1, RJ7, RJ6]
def cow (c : Nat) : String := kcn.getD c ""
/-- bytes, name, locals, answer, owner, parameters, frames, words, place of the code word, place of the owner's initialized -/
def kmt : List (ByteArray × MethodName × Nat × Option FieldType × Nat × Nat × Nat × Nat × Nat × Nat) := [
  (prog_2_method_2_code, ⟨RX0, "readFrom", "(LSneezeKing$Page;I)V"⟩, 4, none, 0, 2, 5, 112, 326, 35),
  (prog_2_method_3_code, ⟨RX0, "takeOver", "(LSneezeKing$Council;)V"⟩, 2, none, 0, 1, 2, 61, 670, 35),
  (prog_2_method_4_code, ⟨RX0, "seats", "()I"⟩, 1, (some .int), 0, 0, 0, 0, 425, 35),
  (prog_2_method_5_code, ⟨RX0, "seated", "(I)Z"⟩, 2, (some .boolean), 0, 1, 0, 0, 369, 35),
  (prog_2_method_6_code, ⟨RX0, "kindOf", "(I)I"⟩, 2, (some .int), 0, 1, 1, 21, 373, 35),
  (prog_2_method_7_code, ⟨RX0, "isKind", "(II)Z"⟩, 3, (some .boolean), 0, 2, 1, 21, 353, 35),
  (prog_2_method_8_code, ⟨RX0, "noseOf", "(I)I"⟩, 2, (some .int), 0, 1, 1, 21, 377, 35),
  (prog_2_method_9_code, ⟨RX0, "changeNose", "(II)I"⟩, 3, (some .int), 0, 2, 1, 23, 406, 35),
  (prog_2_method_10_code, ⟨RX0, "sayingOf", "(I)I"⟩, 2, (some .int), 0, 1, 1, 21, 381, 35),
  (prog_2_method_11_code, ⟨RX0, "changeSaying", "(II)I"⟩, 3, (some .int), 0, 2, 1, 23, 417, 35),
  (prog_2_method_12_code, ⟨RX0, "reignsOf", "(I)I"⟩, 2, (some .int), 0, 1, 1, 21, 393, 35),
  (prog_2_method_13_code, ⟨RX0, "reignsOfAll", "()I"⟩, 1, (some .int), 0, 0, 2, 44, 700, 35),
  (prog_2_method_14_code, ⟨RX0, "draughtAt", "()I"⟩, 1, (some .int), 0, 0, 0, 0, 478, 35),
  (prog_2_method_15_code, ⟨RX0, "moveDraught", "(I)I"⟩, 3, (some .int), 0, 1, 0, 0, 429, 35),
  (prog_2_method_16_code, ⟨RX0, "peppered", "()Z"⟩, 1, (some .boolean), 0, 0, 0, 0, 690, 35),
  (prog_2_method_17_code, ⟨RX0, "changePepper", "(Z)Z"⟩, 3, (some .boolean), 0, 1, 0, 0, 437, 35),
  (prog_2_method_18_code, ⟨RX0, "held", "()I"⟩, 1, (some .int), 0, 0, 0, 0, 467, 35),
  (prog_2_method_19_code, ⟨RX0, "hourNumber", "()I"⟩, 1, (some .int), 0, 0, 0, 0, 486, 35),
  (prog_2_method_20_code, ⟨RX0, "toldHours", "()I"⟩, 1, (some .int), 0, 0, 0, 0, 581, 35),
  (prog_2_method_21_code, ⟨RX0, "toldAt", "(I)I"⟩, 2, (some .int), 0, 1, 1, 21, 602, 35),
  (prog_2_method_22_code, ⟨RX0, "tell", "(I)Z"⟩, 2, (some .boolean), 0, 1, 0, 0, 577, 35),
  (prog_2_method_23_code, ⟨RX0, "forgetTold", "()I"⟩, 2, (some .int), 0, 0, 0, 0, 589, 35),
  (prog_2_method_24_code, ⟨RX0, "tenthsNow", "(I)I"⟩, 2, (some .int), 0, 1, 3, 69, 385, 35),
  (prog_2_method_25_code, ⟨RX0, "tenthsIn", "(IIII)I"⟩, 7, (some .int), 0, 4, 2, 43, 389, 35),
  (prog_2_method_26_code, ⟨RX0, "canSneeze", "(I)Z"⟩, 4, (some .boolean), 0, 1, 4, 90, 445, 35),
  (prog_2_method_27_code, ⟨RX0, "kingOf", "(I)I"⟩, 2, (some .int), 0, 1, 0, 0, 454, 35),
  (prog_2_method_28_code, ⟨RX0, "passHour", "(I)I"⟩, 3, (some .int), 0, 1, 2, 42, 450, 35),
  (prog_2_method_29_code, ⟨RX0, "findKing", "(I)I"⟩, 7, (some .int), 0, 1, 2, 43, 346, 35),
  (prog_2_method_30_code, ⟨RX0, "nextOf", "(I)I"⟩, 2, (some .int), 0, 1, 0, 0, 358, 35),
  (prog_3_method_2_code, ⟨RX1, "size", "()I"⟩, 1, (some .int), 1, 0, 0, 0, 199, 36),
  (prog_3_method_3_code, ⟨RX1, "codeAt", "(I)I"⟩, 2, (some .int), 1, 1, 1, 21, 219, 36),
  (prog_3_method_4_code, ⟨RX1, "add", "(I)Z"⟩, 2, (some .boolean), 1, 1, 0, 0, 195, 36),
  (prog_3_method_5_code, ⟨RX1, "empty", "()I"⟩, 2, (some .int), 1, 0, 0, 0, 207, 36),
  (prog_3_method_6_code, ⟨RX1, "firstWrong", "()I"⟩, 2, (some .int), 1, 0, 5, 112, 215, 36),
  (prog_3_method_7_code, ⟨RX1, "councilSeats", "()I"⟩, 3, (some .int), 1, 0, 6, 133, 321, 36),
  (prog_3_method_8_code, ⟨RX1, "kindAt", "(I)I"⟩, 2, (some .int), 1, 1, 4, 91, 331, 36),
  (prog_3_method_9_code, ⟨RX1, "noseAt", "(I)I"⟩, 2, (some .int), 1, 1, 2, 42, 338, 36),
  (prog_3_method_10_code, ⟨RX1, "sayingAt", "(I)I"⟩, 2, (some .int), 1, 1, 2, 42, 342, 36),
  (prog_3_method_11_code, ⟨RX1, "belongs", "(II)Z"⟩, 2, (some .boolean), 1, 2, 4, 91, 225, 36),
  (prog_4_method_2_code, ⟨RX2, "kingWeight", "(II)J"⟩, 3, (some .long), 2, 2, 4, 94, 482, 37),
  (prog_4_method_3_code, ⟨RX2, "worthFrom", "(I)J"⟩, 2, (some .long), 2, 1, 1, 21, 542, 37),
  (prog_4_method_4_code, ⟨RX2, "lookForLaw", "(II)V"⟩, 5, none, 2, 2, 4, 94, 526, 37),
  (prog_4_method_5_code, ⟨RX2, "lookForBook", "(II)V"⟩, 6, none, 2, 2, 4, 94, 597, 37),
  (prog_4_method_6_code, ⟨RX2, "keepJust", "(I)V"⟩, 3, none, 2, 1, 0, 0, 606, 37),
  (prog_4_method_7_code, ⟨RX2, "weighTenths", "(III)V"⟩, 6, none, 2, 3, 3, 69, 491, 37),
  (prog_4_method_8_code, ⟨RX2, "weighWays", "(III)V"⟩, 6, none, 2, 3, 3, 69, 610, 37),
  (prog_4_method_9_code, ⟨RX2, "crown", "([J)V"⟩, 5, none, 2, 1, 2, 43, 497, 37),
  (prog_4_method_10_code, ⟨RX2, "weighSets", "()I"⟩, 4, (some .int), 2, 0, 1, 20, 501, 37),
  (prog_4_method_11_code, ⟨RX2, "stepBack", "()V"⟩, 2, none, 2, 0, 3, 69, 532, 37),
  (prog_4_method_12_code, ⟨RX2, "worthAhead", "(I)J"⟩, 8, (some .long), 2, 1, 2, 42, 536, 37),
  (prog_5_method_2_code, ⟨RX3, "said", "(II)I"⟩, 2, (some .int), 3, 2, 0, 0, 459, 47),
  (prog_5_method_3_code, ⟨RX3, "fewest", "(III)I"⟩, 6, (some .int), 3, 3, 2, 46, 561, 47),
  (prog_5_method_4_code, ⟨RX3, "firstSaid", "(III)I"⟩, 4, (some .int), 3, 3, 3, 71, 568, 47),
  (prog_5_method_5_code, ⟨RX3, "afterOneMore", "(J)J"⟩, 6, (some .long), 3, 1, 1, 21, 564, 47),
  (prog_6_method_2_code, ⟨RX4, "tells", "(I)Z"⟩, 1, (some .boolean), 4, 1, 0, 0, 621, 38),
  (prog_6_method_3_code, ⟨RX4, "live", "(II)V"⟩, 4, none, 4, 2, 5, 114, 625, 38),
  (prog_6_method_4_code, ⟨RX4, "answer", "(I)I"⟩, 2, (some .int), 4, 1, 2, 44, 658, 38),
  (prog_6_method_5_code, ⟨RX4, "liveHour", "(I)V"⟩, 3, none, 4, 1, 4, 92, 632, 38),
  (prog_6_method_6_code, ⟨RX4, "drawSneezers", "(I)I"⟩, 4, (some .int), 4, 1, 3, 69, 636, 38),
  (prog_6_method_7_code, ⟨RX4, "drawOfTen", "()I"⟩, 1, (some .int), 4, 0, 0, 0, 641, 38),
  (prog_1_method_2_code, ⟨RX5, "letter", "(I)I"⟩, 2, (some .int), 5, 1, 1, 21, 191, 34),
  (prog_1_method_3_code, ⟨RX5, "blank", "()I"⟩, 1, (some .int), 5, 0, 1, 21, 203, 34),
  (prog_1_method_4_code, ⟨RX5, "fault", "()I"⟩, 1, (some .int), 5, 0, 6, 133, 211, 34),
  (prog_1_method_5_code, ⟨RX5, "council", "()I"⟩, 2, (some .int), 5, 0, 7, 155, 317, 34),
  (prog_1_method_6_code, ⟨RX5, "about", "(II)I"⟩, 3, (some .int), 5, 2, 4, 90, 365, 34),
  (prog_1_method_7_code, ⟨RX5, "as", "(II)I"⟩, 3, (some .int), 5, 2, 2, 43, 397, 34),
  (prog_1_method_8_code, ⟨RX5, "nose", "(II)I"⟩, 3, (some .int), 5, 2, 2, 45, 402, 34),
  (prog_1_method_9_code, ⟨RX5, "bribe", "(II)I"⟩, 3, (some .int), 5, 2, 2, 45, 410, 34),
  (prog_1_method_10_code, ⟨RX5, "draught", "(I)I"⟩, 2, (some .int), 5, 1, 1, 22, 421, 34),
  (prog_1_method_11_code, ⟨RX5, "pepper", "(Z)I"⟩, 2, (some .int), 5, 1, 1, 22, 433, 34),
  (prog_1_method_12_code, ⟨RX5, "hour", "(I)I"⟩, 2, (some .int), 5, 1, 5, 113, 441, 34),
  (prog_1_method_13_code, ⟨RX5, "laws", "()I"⟩, 1, (some .int), 5, 0, 1, 20, 463, 34),
  (prog_1_method_14_code, ⟨RX5, "king", "(II)J"⟩, 5, (some .long), 5, 2, 5, 116, 471, 34),
  (prog_1_method_15_code, ⟨RX5, "holds", "(III)J"⟩, 4, (some .long), 5, 3, 5, 118, 522, 34),
  (prog_1_method_16_code, ⟨RX5, "window", "(I)I"⟩, 8, (some .int), 5, 1, 5, 116, 546, 34),
  (prog_1_method_17_code, ⟨RX5, "saying", "(II)I"⟩, 9, (some .int), 5, 2, 5, 118, 550, 34),
  (prog_1_method_18_code, ⟨RX5, "statutes", "(II)I"⟩, 4, (some .int), 5, 2, 4, 94, 555, 34),
  (prog_1_method_19_code, ⟨RX5, "book", "(I)I"⟩, 2, (some .int), 5, 1, 1, 21, 573, 34),
  (prog_1_method_20_code, ⟨RX5, "forget", "()I"⟩, 1, (some .int), 5, 0, 1, 21, 585, 34),
  (prog_1_method_21_code, ⟨RX5, "fits", "()J"⟩, 1, (some .long), 5, 0, 5, 119, 593, 34),
  (prog_1_method_22_code, ⟨RX5, "sneezed", "(II)J"⟩, 3, (some .long), 5, 2, 5, 119, 614, 34),
  (prog_1_method_23_code, ⟨RX5, "years", "(III)I"⟩, 4, (some .int), 5, 3, 6, 137, 618, 34),
  (prog_1_method_24_code, ⟨RX5, "image", "()I"⟩, 1, (some .int), 5, 0, 3, 82, 666, 34),
  (prog_1_method_25_code, ⟨RX5, "restore", "()I"⟩, 1, (some .int), 5, 0, 3, 82, 682, 34),
  (prog_1_method_26_code, ⟨RX5, "count", "(I)I"⟩, 2, (some .int), 5, 1, 3, 64, 686, 34),
  (prog_1_method_27_code, ⟨RX5, "digest", "()J"⟩, 5, (some .long), 5, 0, 6, 146, 705, 34),
  (prog_1_method_28_code, ⟨RX5, "isLaw", "(I)Z"⟩, 1, (some .boolean), 5, 1, 0, 0, 413, 34),
  (prog_1_method_29_code, ⟨RX5, "isLawSet", "(I)Z"⟩, 1, (some .boolean), 5, 1, 0, 0, 558, 34),
  (prog_1_method_30_code, ⟨RX5, "isIn", "(II)Z"⟩, 2, (some .boolean), 5, 2, 0, 0, 349, 34),
  (prog_1_method_31_code, ⟨RX5, "at", "([II)I"⟩, 2, (some .int), 5, 2, 0, 0, 222, 34),
  (prog_1_method_32_code, ⟨RX5, "at", "([JI)J"⟩, 2, (some .long), 5, 2, 0, 0, 508, 34),
  (prog_1_method_33_code, ⟨RX5, "exchange", "([III)I"⟩, 4, (some .int), 5, 3, 0, 0, 334, 34),
  (prog_1_method_34_code, ⟨RX5, "copy", "([I[I)V"⟩, 2, none, 5, 2, 1, 40, 673, 34),
  (prog_1_method_35_code, ⟨RX5, "sum", "([II)I"⟩, 4, (some .int), 5, 2, 1, 21, 661, 34),
  (prog_1_method_36_code, ⟨RX5, "tenTo", "(I)J"⟩, 4, (some .long), 5, 1, 0, 0, 511, 34),
  (prog_1_method_37_code, ⟨RX5, "lowestTerm", "(JJI)J"⟩, 9, (some .long), 5, 3, 1, 30, 515, 34),
  (prog_1_method_38_code, ⟨RX5, "commonDivisor", "(JJ)J"⟩, 11, (some .long), 5, 2, 0, 0, 518, 34),
  (prog_8_method_2_code, ⟨RX6, "in", "(JJJ)Z"⟩, 6, (some .boolean), 6, 3, 0, 0, 809, 39),
  (prog_8_method_3_code, ⟨RX6, "letter", "(I)I"⟩, 2, (some .int), 6, 1, 1, 25, 805, 39),
  (prog_8_method_4_code, ⟨RX6, "blank", "()I"⟩, 2, (some .int), 6, 0, 0, 0, 813, 39),
  (prog_8_method_5_code, ⟨RX6, "kindBy", "(I)I"⟩, 1, (some .int), 6, 1, 0, 0, 827, 39),
  (prog_8_method_6_code, ⟨RX6, "isGood", "(II)Z"⟩, 3, (some .boolean), 6, 2, 1, 25, 824, 39),
  (prog_8_method_7_code, ⟨RX6, "faultOf", "()I"⟩, 2, (some .int), 6, 0, 2, 47, 821, 39),
  (prog_8_method_8_code, ⟨RX6, "fault", "()I"⟩, 1, (some .int), 6, 0, 3, 68, 817, 39),
  (prog_8_method_9_code, ⟨RX6, "council", "()I"⟩, 2, (some .int), 6, 0, 3, 68, 833, 39),
  (prog_8_method_10_code, ⟨RX6, "lacks", "()Z"⟩, 1, (some .boolean), 6, 0, 0, 0, 873, 39),
  (prog_8_method_11_code, ⟨RX6, "isOne", "(I)Z"⟩, 2, (some .boolean), 6, 1, 1, 25, 841, 39),
  (prog_8_method_12_code, ⟨RX6, "isLaw", "(I)Z"⟩, 1, (some .boolean), 6, 1, 1, 25, 865, 39),
  (prog_8_method_13_code, ⟨RX6, "tenthsOf", "(IIII)I"⟩, 7, (some .int), 6, 4, 0, 0, 849, 39),
  (prog_8_method_14_code, ⟨RX6, "tell", "(II)I"⟩, 3, (some .int), 6, 2, 1, 26, 845, 39),
  (prog_8_method_15_code, ⟨RX6, "about", "(II)I"⟩, 3, (some .int), 6, 2, 2, 48, 837, 39),
  (prog_8_method_16_code, ⟨RX6, "as", "(II)I"⟩, 5, (some .int), 6, 2, 2, 46, 853, 39),
  (prog_8_method_17_code, ⟨RX6, "nose", "(II)I"⟩, 4, (some .int), 6, 2, 2, 46, 858, 39),
  (prog_8_method_18_code, ⟨RX6, "bribe", "(II)I"⟩, 4, (some .int), 6, 2, 2, 46, 862, 39),
  (prog_8_method_19_code, ⟨RX6, "draught", "(I)I"⟩, 3, (some .int), 6, 1, 2, 46, 869, 39),
  (prog_8_method_20_code, ⟨RX6, "pepper", "(Z)I"⟩, 3, (some .int), 6, 1, 1, 20, 877, 39),
  (prog_8_method_21_code, ⟨RX6, "kingOf", "(I)I"⟩, 7, (some .int), 6, 1, 0, 0, 889, 39),
  (prog_8_method_22_code, ⟨RX6, "said", "(II)I"⟩, 2, (some .int), 6, 2, 0, 0, 896, 39),
  (prog_8_method_23_code, ⟨RX6, "lawsBehind", "(II)I"⟩, 4, (some .int), 6, 2, 1, 26, 893, 39),
  (prog_8_method_24_code, ⟨RX6, "maySneeze", "(III)Z"⟩, 6, (some .boolean), 6, 3, 1, 26, 885, 39),
  (prog_8_method_25_code, ⟨RX6, "hour", "(I)I"⟩, 3, (some .int), 6, 1, 2, 51, 881, 39),
  (prog_8_method_26_code, ⟨RX6, "laws", "()I"⟩, 1, (some .int), 6, 0, 0, 0, 900, 39),
  (prog_8_method_27_code, ⟨RX6, "term", "(JJI)J"⟩, 11, (some .long), 6, 3, 0, 0, 927, 39),
  (prog_8_method_28_code, ⟨RX6, "oddsOf", "(IIII)J"⟩, 9, (some .long), 6, 4, 1, 26, 919, 39),
  (prog_8_method_29_code, ⟨RX6, "kingBy", "(II)J"⟩, 6, (some .long), 6, 2, 2, 54, 915, 39),
  (prog_8_method_30_code, ⟨RX6, "tens", "(I)J"⟩, 5, (some .long), 6, 1, 0, 0, 923, 39),
  (prog_8_method_31_code, ⟨RX6, "kingTerm", "(II)J"⟩, 3, (some .long), 6, 2, 3, 79, 911, 39),
  (prog_8_method_32_code, ⟨RX6, "king", "(II)J"⟩, 3, (some .long), 6, 2, 4, 101, 904, 39),
  (prog_8_method_33_code, ⟨RX6, "holdsFrom", "(III)J"⟩, 7, (some .long), 6, 3, 2, 54, 940, 39),
  (prog_8_method_34_code, ⟨RX6, "holdsTerm", "(III)J"⟩, 4, (some .long), 6, 3, 3, 80, 936, 39),
  (prog_8_method_35_code, ⟨RX6, "holds", "(III)J"⟩, 4, (some .long), 6, 3, 4, 103, 931, 39),
  (prog_8_method_36_code, ⟨RX6, "windowOf", "(I)I"⟩, 8, (some .int), 6, 1, 3, 79, 948, 39),
  (prog_8_method_37_code, ⟨RX6, "window", "(I)I"⟩, 2, (some .int), 6, 1, 4, 106, 944, 39),
  (prog_8_method_38_code, ⟨RX6, "sayingOf", "(II)I"⟩, 9, (some .int), 6, 2, 3, 80, 957, 39),
  (prog_8_method_39_code, ⟨RX6, "saying", "(II)I"⟩, 3, (some .int), 6, 2, 4, 108, 952, 39),
  (prog_8_method_40_code, ⟨RX6, "statutesOf", "(II)I"⟩, 9, (some .int), 6, 2, 1, 21, 967, 39),
  (prog_8_method_41_code, ⟨RX6, "statutes", "(II)I"⟩, 3, (some .int), 6, 2, 2, 49, 962, 39),
  (prog_8_method_42_code, ⟨RX6, "book", "(I)I"⟩, 2, (some .int), 6, 1, 1, 25, 971, 39),
  (prog_8_method_43_code, ⟨RX6, "forget", "()I"⟩, 2, (some .int), 6, 0, 0, 0, 975, 39),
  (prog_8_method_44_code, ⟨RX6, "waysBy", "(II)J"⟩, 8, (some .long), 6, 2, 2, 51, 983, 39),
  (prog_8_method_45_code, ⟨RX6, "fits", "()J"⟩, 1, (some .long), 6, 0, 3, 78, 979, 39),
  (prog_8_method_46_code, ⟨RX6, "sneezed", "(II)J"⟩, 3, (some .long), 6, 2, 3, 78, 987, 39),
  (prog_8_method_47_code, ⟨RX6, "draw", "(I)I"⟩, 2, (some .int), 6, 1, 0, 0, 997, 39),
  (prog_8_method_48_code, ⟨RX6, "years", "(III)I"⟩, 9, (some .int), 6, 3, 2, 49, 991, 39),
  (prog_8_method_49_code, ⟨RX6, "copy", "([I[I)V"⟩, 3, none, 6, 2, 0, 0, 1008, 39),
  (prog_8_method_50_code, ⟨RX6, "image", "()I"⟩, 1, (some .int), 6, 0, 1, 22, 1005, 39),
  (prog_8_method_51_code, ⟨RX6, "restore", "()I"⟩, 1, (some .int), 6, 0, 1, 22, 1012, 39),
  (prog_8_method_52_code, ⟨RX6, "countOf", "(I)I"⟩, 5, (some .int), 6, 1, 0, 0, 1020, 39),
  (prog_8_method_53_code, ⟨RX6, "count", "(I)I"⟩, 2, (some .int), 6, 1, 1, 24, 1016, 39),
  (prog_8_method_54_code, ⟨RX6, "say", "(J)V"⟩, 3, none, 6, 1, 0, 0, 1029, 39),
  (prog_8_method_55_code, ⟨RX6, "digest", "()J"⟩, 3, (some .long), 6, 0, 4, 108, 1024, 39),
  (code, ⟨RL, "law", "([I)Z"⟩, 4, (some .boolean), 7, 1, 8, 176, 0, 33),
  (prog_10_method_49_code, ⟨RJ6, "bitCount", "(I)I"⟩, 1, (some .int), 11, 1, 0, 0, 693, 49),
  (prog_12_method_54_code, ⟨RJ0, "length", "()I"⟩, 1, (some .int), 8, 0, 1, 20, 244, 40),
  (prog_12_method_79_code, ⟨RJ0, "indexOf", "(I)I"⟩, 2, (some .int), 8, 1, 3, 70, 230, 40),
  (prog_12_method_80_code, ⟨RJ0, "indexOf", "(II)I"⟩, 3, (some .int), 8, 2, 2, 48, 234, 40),
  (prog_12_method_152_code, ⟨RJ0, "coder", "()B"⟩, 1, (some .byte), 8, 0, 0, 0, 248, 40),
  (prog_12_method_154_code, ⟨RJ0, "isLatin1", "()Z"⟩, 1, (some .boolean), 8, 0, 0, 0, 238, 40),
  (prog_13_method_4_code, ⟨RJ1, "canEncode", "(I)Z"⟩, 1, (some .boolean), 9, 1, 0, 0, 254, 41),
  (prog_13_method_22_code, ⟨RJ1, "indexOf", "([BIII)I"⟩, 4, (some .int), 9, 4, 1, 25, 251, 41),
  (prog_13_method_23_code, ⟨RJ1, "indexOfChar", "([BIII)I"⟩, 6, (some .int), 9, 4, 0, 0, 263, 41),
  (prog_16_method_101_code, ⟨RJ7, "fill", "([JJ)V"⟩, 5, none, 10, 2, 0, 0, 504, 46),
  (prog_16_method_103_code, ⟨RJ7, "fill", "([II)V"⟩, 4, none, 10, 2, 0, 0, 361, 46)]
def kmr (m : Nat) : ByteArray × MethodName × Nat × Option FieldType × Nat × Nat × Nat × Nat × Nat × Nat := kmt.getD m (⟨#[]⟩, ⟨"", "", ""⟩, 0, none, 0, 0, 0, 0, 0, 0)
def mbyt (m : Nat) : ByteArray := (kmr m).1
def my (m : Nat) : MethodName := (kmr m).2.1
def mnL (m : Nat) : Nat := (kmr m).2.2.1
def mrt (m : Nat) : Option FieldType := (kmr m).2.2.2.1
def mow (m : Nat) : Nat := (kmr m).2.2.2.2.1
def mna (m : Nat) : Nat := (kmr m).2.2.2.2.2.1
def mfr (m : Nat) : Nat := (kmr m).2.2.2.2.2.2.1
def mlo (m : Nat) : Nat := (kmr m).2.2.2.2.2.2.2.1
def mpc (m : Nat) : Nat := (kmr m).2.2.2.2.2.2.2.2.1
def mpi (m : Nat) : Nat := (kmr m).2.2.2.2.2.2.2.2.2
def kNM : Nat := 163
/-- own, index, kind of object, field, place of the word -/
def kfT : List (Nat × Nat × Nat × Nat × Nat) := [(0, 9, 0, 0, 64), (0, 15, 0, 1, 65), (0, 18, 0, 2, 66), (0, 21, 0, 3, 67), (0, 24, 0, 4, 68), (0, 27, 0, 5, 69), (0, 40, 0, 6, 70), (0, 30, 0, 7, 71), (0, 68, 0, 8, 72), (0, 72, 0, 9, 73), (0, 75, 0, 10, 74), (0, 78, 0, 11, 75), (1, 11, 1, 0, 108), (1, 15, 1, 1, 109), (2, 33, 2, 0, 121), (2, 9, 2, 1, 122), (2, 15, 2, 2, 123), (2, 18, 2, 3, 124), (2, 21, 2, 4, 125), (2, 24, 2, 5, 126), (2, 27, 2, 6, 127), (2, 30, 2, 7, 128), (4, 15, 3, 0, 153), (4, 9, 3, 1, 154), (4, 31, 3, 2, 155), (4, 34, 3, 3, 156), (5, 13, 4, 0, 166), (5, 19, 4, 1, 167), (5, 23, 4, 2, 168), (5, 31, 4, 3, 169), (5, 38, 4, 4, 170), (5, 63, 4, 5, 171), (5, 67, 4, 6, 172), (6, 7, 5, 0, 723), (6, 54, 5, 1, 724), (6, 73, 5, 2, 725), (6, 45, 5, 3, 726), (6, 76, 5, 4, 727), (6, 79, 5, 5, 728), (6, 82, 5, 6, 729), (6, 88, 5, 7, 730), (6, 13, 5, 8, 731), (6, 16, 5, 9, 732), (6, 20, 5, 10, 733), (6, 23, 5, 11, 734), (6, 26, 5, 12, 735), (6, 85, 5, 13, 736), (6, 29, 5, 14, 737), (6, 181, 5, 15, 738), (6, 32, 5, 16, 739), (6, 41, 5, 17, 740), (6, 200, 5, 18, 741), (6, 203, 5, 19, 742), (6, 206, 5, 20, 743), (6, 209, 5, 21, 744), (6, 212, 5, 22, 745), (6, 35, 5, 23, 746), (6, 38, 5, 24, 747), (6, 220, 5, 25, 748), (8, 15, 9, 1, 1031), (8, 9, 9, 0, 1032)]
/-- own, index, kind (0 virtual, 1 static, 2 static of a nest mate), method, places of the words -/
def kcT : List (Nat × Nat × Nat × Nat × Nat × Nat × Nat) := [(7, 13, 0, 60, 188, 189, 190), (5, 42, 0, 31, 192, 193, 194), (5, 46, 0, 29, 196, 197, 198), (7, 18, 0, 61, 200, 201, 202), (5, 50, 0, 32, 204, 205, 206), (7, 23, 0, 62, 208, 209, 210), (5, 53, 0, 33, 212, 213, 214), (1, 23, 0, 30, 216, 217, 218), (1, 19, 2, 89, 220, 221, 0), (1, 27, 1, 38, 223, 224, 0), (1, 37, 0, 154, 227, 228, 229), (8, 633, 0, 155, 231, 232, 233), (8, 492, 0, 157, 235, 236, 237), (8, 505, 0, 153, 241, 242, 243), (8, 335, 0, 156, 245, 246, 247), (8, 637, 1, 159, 249, 250, 0), (9, 88, 1, 158, 252, 253, 0), (9, 95, 1, 160, 261, 262, 0), (7, 27, 0, 63, 314, 315, 316), (5, 56, 0, 34, 318, 319, 320), (1, 31, 0, 33, 322, 213, 214), (5, 59, 0, 0, 323, 324, 325), (0, 43, 0, 35, 328, 329, 330), (0, 49, 2, 91, 332, 333, 0), (0, 53, 0, 36, 335, 336, 337), (0, 56, 0, 37, 339, 340, 341), (0, 59, 0, 27, 343, 345, 0), (0, 100, 2, 88, 347, 348, 0), (0, 96, 0, 5, 350, 351, 352), (0, 85, 2, 89, 354, 221, 0), (0, 121, 0, 28, 355, 357, 1), (0, 62, 1, 162, 359, 360, 0), (7, 31, 0, 64, 362, 363, 364), (5, 71, 0, 3, 366, 367, 368), (5, 74, 0, 4, 370, 371, 372), (5, 78, 0, 6, 374, 375, 376), (5, 81, 0, 8, 378, 379, 380), (5, 84, 0, 22, 382, 383, 384), (0, 92, 0, 23, 386, 387, 388), (5, 87, 0, 10, 390, 391, 392), (7, 36, 0, 65, 394, 395, 396), (5, 90, 0, 5, 398, 351, 352), (7, 40, 0, 66, 399, 400, 401), (5, 94, 0, 7, 403, 404, 405), (7, 44, 0, 67, 407, 408, 409), (5, 98, 1, 86, 411, 412, 0), (5, 101, 0, 9, 414, 415, 416), (7, 48, 0, 68, 418, 419, 420), (5, 104, 0, 2, 422, 423, 424), (5, 107, 0, 13, 426, 427, 428), (7, 52, 0, 69, 430, 431, 432), (5, 110, 0, 15, 434, 435, 436), (7, 57, 0, 70, 438, 439, 440), (5, 114, 0, 24, 442, 443, 444), (0, 103, 0, 22, 446, 383, 384), (5, 117, 0, 26, 447, 448, 449), (0, 106, 0, 25, 451, 452, 453), (0, 109, 0, 3, 455, 367, 368), (0, 113, 0, 8, 456, 379, 380), (0, 116, 1, 50, 457, 458, 0), (7, 61, 0, 71, 460, 461, 462), (5, 120, 0, 16, 464, 465, 466), (7, 65, 0, 72, 468, 469, 470), (5, 129, 0, 12, 475, 476, 477), (5, 132, 0, 39, 479, 480, 481), (2, 37, 0, 17, 483, 484, 485), (2, 43, 0, 16, 487, 465, 466), (2, 46, 0, 44, 488, 490, 2), (2, 88, 0, 2, 492, 423, 424), (2, 91, 0, 23, 493, 387, 388), (2, 50, 0, 46, 494, 496, 3), (2, 95, 0, 47, 498, 500, 4), (2, 68, 1, 161, 502, 503, 0), (2, 98, 0, 25, 505, 452, 453), (2, 54, 2, 90, 506, 507, 0), (5, 136, 1, 94, 509, 510, 0), (5, 140, 1, 95, 513, 514, 0), (5, 255, 1, 96, 516, 517, 0), (7, 70, 0, 73, 519, 520, 521), (5, 144, 0, 41, 523, 524, 525), (2, 58, 2, 88, 527, 348, 0), (2, 62, 0, 12, 528, 476, 477), (2, 65, 0, 48, 529, 531, 5), (2, 101, 0, 49, 533, 535, 6), (2, 105, 0, 8, 537, 379, 380), (2, 108, 1, 50, 538, 458, 0), (5, 148, 0, 40, 539, 540, 541), (7, 75, 0, 74, 543, 544, 545), (7, 79, 0, 75, 547, 548, 549), (5, 151, 1, 50, 551, 458, 0), (7, 83, 0, 76, 552, 553, 554), (5, 156, 1, 87, 556, 557, 0), (5, 159, 1, 51, 559, 560, 0), (3, 9, 1, 53, 562, 563, 0), (3, 15, 1, 50, 565, 458, 0), (5, 163, 1, 52, 566, 567, 0), (3, 19, 1, 51, 569, 560, 0), (7, 87, 0, 77, 570, 571, 572), (5, 166, 0, 20, 574, 575, 576), (5, 169, 0, 18, 578, 579, 580), (7, 91, 0, 78, 582, 583, 584), (5, 172, 0, 21, 586, 587, 588), (7, 95, 0, 79, 590, 591, 592), (5, 175, 0, 42, 594, 595, 596), (2, 74, 0, 18, 598, 579, 580), (2, 77, 0, 19, 599, 600, 601), (2, 81, 0, 43, 603, 605, 7), (2, 85, 0, 45, 607, 609, 8), (7, 100, 0, 80, 611, 612, 613), (7, 104, 0, 81, 615, 616, 617), (5, 178, 1, 54, 619, 620, 0), (5, 181, 0, 55, 622, 623, 624), (4, 19, 1, 162, 626, 360, 0), (4, 25, 0, 16, 627, 465, 466), (4, 38, 0, 17, 628, 484, 485), (4, 41, 0, 57, 629, 631, 9), (4, 52, 0, 58, 633, 635, 10), (4, 76, 0, 2, 637, 423, 424), (4, 79, 0, 59, 638, 640, 11), (4, 82, 0, 12, 647, 476, 477), (4, 85, 0, 23, 648, 387, 388), (4, 56, 0, 25, 649, 452, 453), (4, 59, 0, 3, 650, 367, 368), (4, 49, 2, 89, 651, 221, 0), (4, 63, 2, 91, 652, 333, 0), (4, 67, 0, 8, 653, 379, 380), (4, 70, 1, 50, 654, 458, 0), (5, 184, 0, 56, 655, 656, 657), (4, 45, 2, 93, 659, 660, 0), (5, 249, 1, 89, 662, 221, 0), (7, 109, 0, 82, 663, 664, 665), (5, 187, 0, 1, 667, 668, 669), (0, 81, 2, 92, 671, 672, 0), (5, 190, 0, 17, 678, 484, 485), (7, 113, 0, 83, 679, 680, 681), (7, 117, 0, 84, 683, 684, 685), (5, 193, 0, 14, 687, 688, 689), (5, 197, 1, 152, 691, 692, 0), (5, 202, 0, 11, 697, 698, 699), (0, 89, 2, 93, 701, 660, 0), (7, 121, 0, 85, 702, 703, 704), (5, 209, 0, 64, 708, 363, 364), (5, 212, 0, 72, 709, 469, 470), (5, 215, 0, 74, 710, 544, 545), (5, 218, 0, 71, 711, 461, 462), (5, 221, 0, 73, 712, 520, 521), (5, 225, 0, 75, 713, 548, 549), (5, 228, 0, 79, 714, 591, 592), (5, 232, 0, 30, 715, 217, 218), (5, 235, 0, 84, 716, 684, 685), (7, 17, 0, 98, 802, 803, 804), (6, 50, 1, 97, 807, 808, 0), (7, 22, 0, 99, 810, 811, 812), (7, 26, 0, 103, 814, 815, 816), (6, 69, 0, 102, 818, 820, 12), (6, 65, 1, 101, 822, 823, 0), (6, 57, 1, 100, 825, 826, 0), (7, 30, 0, 104, 830, 831, 832), (7, 35, 0, 110, 834, 835, 836), (6, 95, 0, 106, 838, 840, 13), (6, 99, 0, 109, 842, 844, 14), (6, 91, 0, 108, 846, 848, 15), (7, 39, 0, 111, 850, 851, 852), (7, 43, 0, 112, 855, 856, 857), (7, 47, 0, 113, 859, 860, 861), (6, 105, 1, 107, 863, 864, 0), (7, 51, 0, 114, 866, 867, 868), (6, 108, 0, 105, 870, 872, 16), (7, 56, 0, 115, 874, 875, 876), (7, 60, 0, 120, 878, 879, 880), (6, 118, 0, 119, 882, 884, 17), (6, 112, 0, 116, 886, 888, 18), (6, 122, 0, 118, 890, 892, 19), (6, 115, 1, 117, 894, 895, 0), (7, 64, 0, 121, 897, 898, 899), (7, 69, 0, 127, 901, 902, 903), (6, 149, 0, 126, 908, 910, 20), (6, 131, 0, 124, 912, 914, 21), (6, 125, 0, 123, 916, 918, 22), (6, 135, 0, 125, 920, 922, 23), (6, 139, 1, 122, 925, 926, 0), (7, 74, 0, 130, 928, 929, 930), (6, 158, 0, 129, 933, 935, 24), (6, 152, 0, 128, 937, 939, 25), (7, 78, 0, 132, 941, 942, 943), (6, 161, 0, 131, 945, 947, 26), (7, 82, 0, 134, 949, 950, 951), (6, 168, 0, 133, 954, 956, 27), (7, 86, 0, 136, 959, 960, 961), (6, 173, 0, 135, 964, 966, 28), (7, 90, 0, 137, 968, 969, 970), (7, 94, 0, 138, 972, 973, 974), (7, 99, 0, 140, 976, 977, 978), (6, 176, 0, 139, 980, 982, 29), (7, 103, 0, 141, 984, 985, 986), (7, 108, 0, 143, 988, 989, 990), (6, 193, 0, 142, 994, 996, 30), (7, 112, 0, 145, 1002, 1003, 1004), (6, 196, 1, 144, 1006, 1007, 0), (7, 116, 0, 146, 1009, 1010, 1011), (7, 120, 0, 148, 1013, 1014, 1015), (6, 215, 0, 147, 1017, 1019, 31), (7, 124, 0, 150, 1021, 1022, 1023), (6, 226, 0, 149, 1026, 1028, 32)]
def kiT : List (Nat × Nat × Int32 × Nat) := [(11, 265, 1431655765, 694), (11, 266, 858993459, 695), (11, 267, 252645135, 696), (6, 188, 65536, 1001)]
def klT : List (Nat × Nat × Int64 × Nat) := [(5, 123, -101, 472), (5, 125, -102, 473), (5, 127, -103, 474), (5, 253, 10, 512), (4, 89, 1103515245, 642), (4, 91, 12345, 643), (4, 93, 2147483648, 644), (4, 95, 65536, 645), (4, 97, 10, 646), (5, 205, 809, 706), (5, 207, 31, 707), (6, 48, 126, 806), (6, 61, 9, 828), (6, 63, 5, 829), (6, 103, 4, 854), (6, 143, -101, 905), (6, 145, -102, 906), (6, 147, -103, 907), (6, 129, 10, 924), (6, 156, 3, 932), (6, 166, 2, 953), (6, 164, -1, 958), (6, 171, 63, 963), (6, 189, 60, 992), (6, 191, 14, 993), (6, 179, 1103515245, 998), (6, 184, 12345, 999), (6, 186, 2147483647, 1000), (6, 224, 809, 1025), (6, 218, 31, 1030)]
/-- own, index, 0 max 1 min, places of link, static, code -/
def kmT : List (Nat × Nat × Nat × Nat × Nat × Nat) := [(9, 92, 0, 255, 256, 257), (9, 38, 1, 258, 259, 260), (0, 34, 1, 327, 259, 260), (5, 238, 1, 674, 259, 260)]
def kmi : Nat := 42
/-- the places of COMPACT_STRINGS, arraycopy, the text -/
def kgs : Nat × Nat × Nat := (8, 38, 239)
def kac : Nat × Nat × Nat := (5, 243, 675)
def kacn : Nat := 677
def kacs : Nat := 676
def kaci : Nat := 48
def kst : Nat × Nat := (1, 35)
end
section
/-! what the tables say of the names: every word by its place -/
def kAW : List Cond := lw_tbl.filter goodWord
theorem kAW_of {w : Cond} {i : Nat} (h : lw_tbl[i]? = some w) (hg : goodWord w = true) : w ∈ kAW := List.mem_filter.mpr ⟨List.mem_of_getElem? h, hg⟩
theorem kAW_good : GoodIn kAW kAW := fun w h => ⟨h, good_of_word (List.mem_filter.mp h).2⟩
theorem kc_0 : lw_tbl[mpc 0]? = some (.code (my 0) (mbyt 0) (mnL 0) (mrt 0)) := by decide +kernel
theorem kc_1 : lw_tbl[mpc 1]? = some (.code (my 1) (mbyt 1) (mnL 1) (mrt 1)) := by decide +kernel
theorem kc_2 : lw_tbl[mpc 2]? = some (.code (my 2) (mbyt 2) (mnL 2) (mrt 2)) := by decide +kernel
theorem kc_3 : lw_tbl[mpc 3]? = some (.code (my 3) (mbyt 3) (mnL 3) (mrt 3)) := by decide +kernel
theorem kc_4 : lw_tbl[mpc 4]? = some (.code (my 4) (mbyt 4) (mnL 4) (mrt 4)) := by decide +kernel
theorem kc_5 : lw_tbl[mpc 5]? = some (.code (my 5) (mbyt 5) (mnL 5) (mrt 5)) := by decide +kernel
theorem kc_6 : lw_tbl[mpc 6]? = some (.code (my 6) (mbyt 6) (mnL 6) (mrt 6)) := by decide +kernel
theorem kc_7 : lw_tbl[mpc 7]? = some (.code (my 7) (mbyt 7) (mnL 7) (mrt 7)) := by decide +kernel
theorem kc_8 : lw_tbl[mpc 8]? = some (.code (my 8) (mbyt 8) (mnL 8) (mrt 8)) := by decide +kernel
theorem kc_9 : lw_tbl[mpc 9]? = some (.code (my 9) (mbyt 9) (mnL 9) (mrt 9)) := by decide +kernel
theorem kc_10 : lw_tbl[mpc 10]? = some (.code (my 10) (mbyt 10) (mnL 10) (mrt 10)) := by decide +kernel
theorem kc_11 : lw_tbl[mpc 11]? = some (.code (my 11) (mbyt 11) (mnL 11) (mrt 11)) := by decide +kernel
theorem kc_12 : lw_tbl[mpc 12]? = some (.code (my 12) (mbyt 12) (mnL 12) (mrt 12)) := by decide +kernel
theorem kc_13 : lw_tbl[mpc 13]? = some (.code (my 13) (mbyt 13) (mnL 13) (mrt 13)) := by decide +kernel
theorem kc_14 : lw_tbl[mpc 14]? = some (.code (my 14) (mbyt 14) (mnL 14) (mrt 14)) := by decide +kernel
theorem kc_15 : lw_tbl[mpc 15]? = some (.code (my 15) (mbyt 15) (mnL 15) (mrt 15)) := by decide +kernel
theorem kc_16 : lw_tbl[mpc 16]? = some (.code (my 16) (mbyt 16) (mnL 16) (mrt 16)) := by decide +kernel
theorem kc_17 : lw_tbl[mpc 17]? = some (.code (my 17) (mbyt 17) (mnL 17) (mrt 17)) := by decide +kernel
theorem kc_18 : lw_tbl[mpc 18]? = some (.code (my 18) (mbyt 18) (mnL 18) (mrt 18)) := by decide +kernel
theorem kc_19 : lw_tbl[mpc 19]? = some (.code (my 19) (mbyt 19) (mnL 19) (mrt 19)) := by decide +kernel
theorem kc_20 : lw_tbl[mpc 20]? = some (.code (my 20) (mbyt 20) (mnL 20) (mrt 20)) := by decide +kernel
theorem kc_21 : lw_tbl[mpc 21]? = some (.code (my 21) (mbyt 21) (mnL 21) (mrt 21)) := by decide +kernel
theorem kc_22 : lw_tbl[mpc 22]? = some (.code (my 22) (mbyt 22) (mnL 22) (mrt 22)) := by decide +kernel
theorem kc_23 : lw_tbl[mpc 23]? = some (.code (my 23) (mbyt 23) (mnL 23) (mrt 23)) := by decide +kernel
theorem kc_24 : lw_tbl[mpc 24]? = some (.code (my 24) (mbyt 24) (mnL 24) (mrt 24)) := by decide +kernel
theorem kc_25 : lw_tbl[mpc 25]? = some (.code (my 25) (mbyt 25) (mnL 25) (mrt 25)) := by decide +kernel
theorem kc_26 : lw_tbl[mpc 26]? = some (.code (my 26) (mbyt 26) (mnL 26) (mrt 26)) := by decide +kernel
theorem kc_27 : lw_tbl[mpc 27]? = some (.code (my 27) (mbyt 27) (mnL 27) (mrt 27)) := by decide +kernel
theorem kc_28 : lw_tbl[mpc 28]? = some (.code (my 28) (mbyt 28) (mnL 28) (mrt 28)) := by decide +kernel
theorem kc_29 : lw_tbl[mpc 29]? = some (.code (my 29) (mbyt 29) (mnL 29) (mrt 29)) := by decide +kernel
theorem kc_30 : lw_tbl[mpc 30]? = some (.code (my 30) (mbyt 30) (mnL 30) (mrt 30)) := by decide +kernel
theorem kc_31 : lw_tbl[mpc 31]? = some (.code (my 31) (mbyt 31) (mnL 31) (mrt 31)) := by decide +kernel
theorem kc_32 : lw_tbl[mpc 32]? = some (.code (my 32) (mbyt 32) (mnL 32) (mrt 32)) := by decide +kernel
theorem kc_33 : lw_tbl[mpc 33]? = some (.code (my 33) (mbyt 33) (mnL 33) (mrt 33)) := by decide +kernel
theorem kc_34 : lw_tbl[mpc 34]? = some (.code (my 34) (mbyt 34) (mnL 34) (mrt 34)) := by decide +kernel
theorem kc_35 : lw_tbl[mpc 35]? = some (.code (my 35) (mbyt 35) (mnL 35) (mrt 35)) := by decide +kernel
theorem kc_36 : lw_tbl[mpc 36]? = some (.code (my 36) (mbyt 36) (mnL 36) (mrt 36)) := by decide +kernel
theorem kc_37 : lw_tbl[mpc 37]? = some (.code (my 37) (mbyt 37) (mnL 37) (mrt 37)) := by decide +kernel
theorem kc_38 : lw_tbl[mpc 38]? = some (.code (my 38) (mbyt 38) (mnL 38) (mrt 38)) := by decide +kernel
theorem kc_39 : lw_tbl[mpc 39]? = some (.code (my 39) (mbyt 39) (mnL 39) (mrt 39)) := by decide +kernel
theorem kc_40 : lw_tbl[mpc 40]? = some (.code (my 40) (mbyt 40) (mnL 40) (mrt 40)) := by decide +kernel
theorem kc_41 : lw_tbl[mpc 41]? = some (.code (my 41) (mbyt 41) (mnL 41) (mrt 41)) := by decide +kernel
theorem kc_42 : lw_tbl[mpc 42]? = some (.code (my 42) (mbyt 42) (mnL 42) (mrt 42)) := by decide +kernel
theorem kc_43 : lw_tbl[mpc 43]? = some (.code (my 43) (mbyt 43) (mnL 43) (mrt 43)) := by decide +kernel
theorem kc_44 : lw_tbl[mpc 44]? = some (.code (my 44) (mbyt 44) (mnL 44) (mrt 44)) := by decide +kernel
theorem kc_45 : lw_tbl[mpc 45]? = some (.code (my 45) (mbyt 45) (mnL 45) (mrt 45)) := by decide +kernel
theorem kc_46 : lw_tbl[mpc 46]? = some (.code (my 46) (mbyt 46) (mnL 46) (mrt 46)) := by decide +kernel
theorem kc_47 : lw_tbl[mpc 47]? = some (.code (my 47) (mbyt 47) (mnL 47) (mrt 47)) := by decide +kernel
theorem kc_48 : lw_tbl[mpc 48]? = some (.code (my 48) (mbyt 48) (mnL 48) (mrt 48)) := by decide +kernel
theorem kc_49 : lw_tbl[mpc 49]? = some (.code (my 49) (mbyt 49) (mnL 49) (mrt 49)) := by decide +kernel
theorem kc_50 : lw_tbl[mpc 50]? = some (.code (my 50) (mbyt 50) (mnL 50) (mrt 50)) := by decide +kernel
theorem kc_51 : lw_tbl[mpc 51]? = some (.code (my 51) (mbyt 51) (mnL 51) (mrt 51)) := by decide +kernel
theorem kc_52 : lw_tbl[mpc 52]? = some (.code (my 52) (mbyt 52) (mnL 52) (mrt 52)) := by decide +kernel
theorem kc_53 : lw_tbl[mpc 53]? = some (.code (my 53) (mbyt 53) (mnL 53) (mrt 53)) := by decide +kernel
theorem kc_54 : lw_tbl[mpc 54]? = some (.code (my 54) (mbyt 54) (mnL 54) (mrt 54)) := by decide +kernel
theorem kc_55 : lw_tbl[mpc 55]? = some (.code (my 55) (mbyt 55) (mnL 55) (mrt 55)) := by decide +kernel
theorem kc_56 : lw_tbl[mpc 56]? = some (.code (my 56) (mbyt 56) (mnL 56) (mrt 56)) := by decide +kernel
theorem kc_57 : lw_tbl[mpc 57]? = some (.code (my 57) (mbyt 57) (mnL 57) (mrt 57)) := by decide +kernel
theorem kc_58 : lw_tbl[mpc 58]? = some (.code (my 58) (mbyt 58) (mnL 58) (mrt 58)) := by decide +kernel
theorem kc_59 : lw_tbl[mpc 59]? = some (.code (my 59) (mbyt 59) (mnL 59) (mrt 59)) := by decide +kernel
theorem kc_60 : lw_tbl[mpc 60]? = some (.code (my 60) (mbyt 60) (mnL 60) (mrt 60)) := by decide +kernel
theorem kc_61 : lw_tbl[mpc 61]? = some (.code (my 61) (mbyt 61) (mnL 61) (mrt 61)) := by decide +kernel
theorem kc_62 : lw_tbl[mpc 62]? = some (.code (my 62) (mbyt 62) (mnL 62) (mrt 62)) := by decide +kernel
theorem kc_63 : lw_tbl[mpc 63]? = some (.code (my 63) (mbyt 63) (mnL 63) (mrt 63)) := by decide +kernel
theorem kc_64 : lw_tbl[mpc 64]? = some (.code (my 64) (mbyt 64) (mnL 64) (mrt 64)) := by decide +kernel
theorem kc_65 : lw_tbl[mpc 65]? = some (.code (my 65) (mbyt 65) (mnL 65) (mrt 65)) := by decide +kernel
theorem kc_66 : lw_tbl[mpc 66]? = some (.code (my 66) (mbyt 66) (mnL 66) (mrt 66)) := by decide +kernel
theorem kc_67 : lw_tbl[mpc 67]? = some (.code (my 67) (mbyt 67) (mnL 67) (mrt 67)) := by decide +kernel
theorem kc_68 : lw_tbl[mpc 68]? = some (.code (my 68) (mbyt 68) (mnL 68) (mrt 68)) := by decide +kernel
theorem kc_69 : lw_tbl[mpc 69]? = some (.code (my 69) (mbyt 69) (mnL 69) (mrt 69)) := by decide +kernel
theorem kc_70 : lw_tbl[mpc 70]? = some (.code (my 70) (mbyt 70) (mnL 70) (mrt 70)) := by decide +kernel
theorem kc_71 : lw_tbl[mpc 71]? = some (.code (my 71) (mbyt 71) (mnL 71) (mrt 71)) := by decide +kernel
theorem kc_72 : lw_tbl[mpc 72]? = some (.code (my 72) (mbyt 72) (mnL 72) (mrt 72)) := by decide +kernel
theorem kc_73 : lw_tbl[mpc 73]? = some (.code (my 73) (mbyt 73) (mnL 73) (mrt 73)) := by decide +kernel
theorem kc_74 : lw_tbl[mpc 74]? = some (.code (my 74) (mbyt 74) (mnL 74) (mrt 74)) := by decide +kernel
theorem kc_75 : lw_tbl[mpc 75]? = some (.code (my 75) (mbyt 75) (mnL 75) (mrt 75)) := by decide +kernel
theorem kc_76 : lw_tbl[mpc 76]? = some (.code (my 76) (mbyt 76) (mnL 76) (mrt 76)) := by decide +kernel
theorem kc_77 : lw_tbl[mpc 77]? = some (.code (my 77) (mbyt 77) (mnL 77) (mrt 77)) := by decide +kernel
theorem kc_78 : lw_tbl[mpc 78]? = some (.code (my 78) (mbyt 78) (mnL 78) (mrt 78)) := by decide +kernel
theorem kc_79 : lw_tbl[mpc 79]? = some (.code (my 79) (mbyt 79) (mnL 79) (mrt 79)) := by decide +kernel
theorem kc_80 : lw_tbl[mpc 80]? = some (.code (my 80) (mbyt 80) (mnL 80) (mrt 80)) := by decide +kernel
theorem kc_81 : lw_tbl[mpc 81]? = some (.code (my 81) (mbyt 81) (mnL 81) (mrt 81)) := by decide +kernel
theorem kc_82 : lw_tbl[mpc 82]? = some (.code (my 82) (mbyt 82) (mnL 82) (mrt 82)) := by decide +kernel
theorem kc_83 : lw_tbl[mpc 83]? = some (.code (my 83) (mbyt 83) (mnL 83) (mrt 83)) := by decide +kernel
theorem kc_84 : lw_tbl[mpc 84]? = some (.code (my 84) (mbyt 84) (mnL 84) (mrt 84)) := by decide +kernel
theorem kc_85 : lw_tbl[mpc 85]? = some (.code (my 85) (mbyt 85) (mnL 85) (mrt 85)) := by decide +kernel
theorem kc_86 : lw_tbl[mpc 86]? = some (.code (my 86) (mbyt 86) (mnL 86) (mrt 86)) := by decide +kernel
theorem kc_87 : lw_tbl[mpc 87]? = some (.code (my 87) (mbyt 87) (mnL 87) (mrt 87)) := by decide +kernel
theorem kc_88 : lw_tbl[mpc 88]? = some (.code (my 88) (mbyt 88) (mnL 88) (mrt 88)) := by decide +kernel
theorem kc_89 : lw_tbl[mpc 89]? = some (.code (my 89) (mbyt 89) (mnL 89) (mrt 89)) := by decide +kernel
theorem kc_90 : lw_tbl[mpc 90]? = some (.code (my 90) (mbyt 90) (mnL 90) (mrt 90)) := by decide +kernel
theorem kc_91 : lw_tbl[mpc 91]? = some (.code (my 91) (mbyt 91) (mnL 91) (mrt 91)) := by decide +kernel
theorem kc_92 : lw_tbl[mpc 92]? = some (.code (my 92) (mbyt 92) (mnL 92) (mrt 92)) := by decide +kernel
theorem kc_93 : lw_tbl[mpc 93]? = some (.code (my 93) (mbyt 93) (mnL 93) (mrt 93)) := by decide +kernel
theorem kc_94 : lw_tbl[mpc 94]? = some (.code (my 94) (mbyt 94) (mnL 94) (mrt 94)) := by decide +kernel
theorem kc_95 : lw_tbl[mpc 95]? = some (.code (my 95) (mbyt 95) (mnL 95) (mrt 95)) := by decide +kernel
theorem kc_96 : lw_tbl[mpc 96]? = some (.code (my 96) (mbyt 96) (mnL 96) (mrt 96)) := by decide +kernel
theorem kc_97 : lw_tbl[mpc 97]? = some (.code (my 97) (mbyt 97) (mnL 97) (mrt 97)) := by decide +kernel
theorem kc_98 : lw_tbl[mpc 98]? = some (.code (my 98) (mbyt 98) (mnL 98) (mrt 98)) := by decide +kernel
theorem kc_99 : lw_tbl[mpc 99]? = some (.code (my 99) (mbyt 99) (mnL 99) (mrt 99)) := by decide +kernel
theorem kc_100 : lw_tbl[mpc 100]? = some (.code (my 100) (mbyt 100) (mnL 100) (mrt 100)) := by decide +kernel
theorem kc_101 : lw_tbl[mpc 101]? = some (.code (my 101) (mbyt 101) (mnL 101) (mrt 101)) := by decide +kernel
theorem kc_102 : lw_tbl[mpc 102]? = some (.code (my 102) (mbyt 102) (mnL 102) (mrt 102)) := by decide +kernel
theorem kc_103 : lw_tbl[mpc 103]? = some (.code (my 103) (mbyt 103) (mnL 103) (mrt 103)) := by decide +kernel
theorem kc_104 : lw_tbl[mpc 104]? = some (.code (my 104) (mbyt 104) (mnL 104) (mrt 104)) := by decide +kernel
theorem kc_105 : lw_tbl[mpc 105]? = some (.code (my 105) (mbyt 105) (mnL 105) (mrt 105)) := by decide +kernel
theorem kc_106 : lw_tbl[mpc 106]? = some (.code (my 106) (mbyt 106) (mnL 106) (mrt 106)) := by decide +kernel
theorem kc_107 : lw_tbl[mpc 107]? = some (.code (my 107) (mbyt 107) (mnL 107) (mrt 107)) := by decide +kernel
theorem kc_108 : lw_tbl[mpc 108]? = some (.code (my 108) (mbyt 108) (mnL 108) (mrt 108)) := by decide +kernel
theorem kc_109 : lw_tbl[mpc 109]? = some (.code (my 109) (mbyt 109) (mnL 109) (mrt 109)) := by decide +kernel
theorem kc_110 : lw_tbl[mpc 110]? = some (.code (my 110) (mbyt 110) (mnL 110) (mrt 110)) := by decide +kernel
theorem kc_111 : lw_tbl[mpc 111]? = some (.code (my 111) (mbyt 111) (mnL 111) (mrt 111)) := by decide +kernel
theorem kc_112 : lw_tbl[mpc 112]? = some (.code (my 112) (mbyt 112) (mnL 112) (mrt 112)) := by decide +kernel
theorem kc_113 : lw_tbl[mpc 113]? = some (.code (my 113) (mbyt 113) (mnL 113) (mrt 113)) := by decide +kernel
theorem kc_114 : lw_tbl[mpc 114]? = some (.code (my 114) (mbyt 114) (mnL 114) (mrt 114)) := by decide +kernel
theorem kc_115 : lw_tbl[mpc 115]? = some (.code (my 115) (mbyt 115) (mnL 115) (mrt 115)) := by decide +kernel
theorem kc_116 : lw_tbl[mpc 116]? = some (.code (my 116) (mbyt 116) (mnL 116) (mrt 116)) := by decide +kernel
theorem kc_117 : lw_tbl[mpc 117]? = some (.code (my 117) (mbyt 117) (mnL 117) (mrt 117)) := by decide +kernel
theorem kc_118 : lw_tbl[mpc 118]? = some (.code (my 118) (mbyt 118) (mnL 118) (mrt 118)) := by decide +kernel
theorem kc_119 : lw_tbl[mpc 119]? = some (.code (my 119) (mbyt 119) (mnL 119) (mrt 119)) := by decide +kernel
theorem kc_120 : lw_tbl[mpc 120]? = some (.code (my 120) (mbyt 120) (mnL 120) (mrt 120)) := by decide +kernel
theorem kc_121 : lw_tbl[mpc 121]? = some (.code (my 121) (mbyt 121) (mnL 121) (mrt 121)) := by decide +kernel
theorem kc_122 : lw_tbl[mpc 122]? = some (.code (my 122) (mbyt 122) (mnL 122) (mrt 122)) := by decide +kernel
theorem kc_123 : lw_tbl[mpc 123]? = some (.code (my 123) (mbyt 123) (mnL 123) (mrt 123)) := by decide +kernel
theorem kc_124 : lw_tbl[mpc 124]? = some (.code (my 124) (mbyt 124) (mnL 124) (mrt 124)) := by decide +kernel
theorem kc_125 : lw_tbl[mpc 125]? = some (.code (my 125) (mbyt 125) (mnL 125) (mrt 125)) := by decide +kernel
theorem kc_126 : lw_tbl[mpc 126]? = some (.code (my 126) (mbyt 126) (mnL 126) (mrt 126)) := by decide +kernel
theorem kc_127 : lw_tbl[mpc 127]? = some (.code (my 127) (mbyt 127) (mnL 127) (mrt 127)) := by decide +kernel
theorem kc_128 : lw_tbl[mpc 128]? = some (.code (my 128) (mbyt 128) (mnL 128) (mrt 128)) := by decide +kernel
theorem kc_129 : lw_tbl[mpc 129]? = some (.code (my 129) (mbyt 129) (mnL 129) (mrt 129)) := by decide +kernel
theorem kc_130 : lw_tbl[mpc 130]? = some (.code (my 130) (mbyt 130) (mnL 130) (mrt 130)) := by decide +kernel
theorem kc_131 : lw_tbl[mpc 131]? = some (.code (my 131) (mbyt 131) (mnL 131) (mrt 131)) := by decide +kernel
theorem kc_132 : lw_tbl[mpc 132]? = some (.code (my 132) (mbyt 132) (mnL 132) (mrt 132)) := by decide +kernel
theorem kc_133 : lw_tbl[mpc 133]? = some (.code (my 133) (mbyt 133) (mnL 133) (mrt 133)) := by decide +kernel
theorem kc_134 : lw_tbl[mpc 134]? = some (.code (my 134) (mbyt 134) (mnL 134) (mrt 134)) := by decide +kernel
theorem kc_135 : lw_tbl[mpc 135]? = some (.code (my 135) (mbyt 135) (mnL 135) (mrt 135)) := by decide +kernel
theorem kc_136 : lw_tbl[mpc 136]? = some (.code (my 136) (mbyt 136) (mnL 136) (mrt 136)) := by decide +kernel
theorem kc_137 : lw_tbl[mpc 137]? = some (.code (my 137) (mbyt 137) (mnL 137) (mrt 137)) := by decide +kernel
theorem kc_138 : lw_tbl[mpc 138]? = some (.code (my 138) (mbyt 138) (mnL 138) (mrt 138)) := by decide +kernel
theorem kc_139 : lw_tbl[mpc 139]? = some (.code (my 139) (mbyt 139) (mnL 139) (mrt 139)) := by decide +kernel
theorem kc_140 : lw_tbl[mpc 140]? = some (.code (my 140) (mbyt 140) (mnL 140) (mrt 140)) := by decide +kernel
theorem kc_141 : lw_tbl[mpc 141]? = some (.code (my 141) (mbyt 141) (mnL 141) (mrt 141)) := by decide +kernel
theorem kc_142 : lw_tbl[mpc 142]? = some (.code (my 142) (mbyt 142) (mnL 142) (mrt 142)) := by decide +kernel
theorem kc_143 : lw_tbl[mpc 143]? = some (.code (my 143) (mbyt 143) (mnL 143) (mrt 143)) := by decide +kernel
theorem kc_144 : lw_tbl[mpc 144]? = some (.code (my 144) (mbyt 144) (mnL 144) (mrt 144)) := by decide +kernel
theorem kc_145 : lw_tbl[mpc 145]? = some (.code (my 145) (mbyt 145) (mnL 145) (mrt 145)) := by decide +kernel
theorem kc_146 : lw_tbl[mpc 146]? = some (.code (my 146) (mbyt 146) (mnL 146) (mrt 146)) := by decide +kernel
theorem kc_147 : lw_tbl[mpc 147]? = some (.code (my 147) (mbyt 147) (mnL 147) (mrt 147)) := by decide +kernel
theorem kc_148 : lw_tbl[mpc 148]? = some (.code (my 148) (mbyt 148) (mnL 148) (mrt 148)) := by decide +kernel
theorem kc_149 : lw_tbl[mpc 149]? = some (.code (my 149) (mbyt 149) (mnL 149) (mrt 149)) := by decide +kernel
theorem kc_150 : lw_tbl[mpc 150]? = some (.code (my 150) (mbyt 150) (mnL 150) (mrt 150)) := by decide +kernel
theorem kc_152 : lw_tbl[mpc 152]? = some (.code (my 152) (mbyt 152) (mnL 152) (mrt 152)) := by decide +kernel
theorem kc_153 : lw_tbl[mpc 153]? = some (.code (my 153) (mbyt 153) (mnL 153) (mrt 153)) := by decide +kernel
theorem kc_154 : lw_tbl[mpc 154]? = some (.code (my 154) (mbyt 154) (mnL 154) (mrt 154)) := by decide +kernel
theorem kc_155 : lw_tbl[mpc 155]? = some (.code (my 155) (mbyt 155) (mnL 155) (mrt 155)) := by decide +kernel
theorem kc_156 : lw_tbl[mpc 156]? = some (.code (my 156) (mbyt 156) (mnL 156) (mrt 156)) := by decide +kernel
theorem kc_157 : lw_tbl[mpc 157]? = some (.code (my 157) (mbyt 157) (mnL 157) (mrt 157)) := by decide +kernel
theorem kc_158 : lw_tbl[mpc 158]? = some (.code (my 158) (mbyt 158) (mnL 158) (mrt 158)) := by decide +kernel
theorem kc_159 : lw_tbl[mpc 159]? = some (.code (my 159) (mbyt 159) (mnL 159) (mrt 159)) := by decide +kernel
theorem kc_160 : lw_tbl[mpc 160]? = some (.code (my 160) (mbyt 160) (mnL 160) (mrt 160)) := by decide +kernel
theorem kc_161 : lw_tbl[mpc 161]? = some (.code (my 161) (mbyt 161) (mnL 161) (mrt 161)) := by decide +kernel
theorem kc_162 : lw_tbl[mpc 162]? = some (.code (my 162) (mbyt 162) (mnL 162) (mrt 162)) := by decide +kernel
theorem kT_code : ∀ m, m < 163 → m ≠ 151 → lw_tbl[mpc m]? = some (.code (my m) (mbyt m) (mnL m) (mrt m)) :=
  lt_s (lt_s (lt_s (lt_s (lt_s (lt_s (lt_s (lt_s (lt_s (lt_s (lt_s (lt_s (lt_s (lt_s (lt_s (lt_s (lt_s (lt_s (lt_s (lt_s (lt_s (lt_s (lt_s (lt_s (lt_s (lt_s (lt_s (lt_s (lt_s (lt_s (lt_s (lt_s (lt_s (lt_s (lt_s (lt_s (lt_s (lt_s (lt_s (lt_s (lt_s (lt_s (lt_s (lt_s (lt_s (lt_s (lt_s (lt_s (lt_s (lt_s (lt_s (lt_s (lt_s (lt_s (lt_s (lt_s (lt_s (lt_s (lt_s (lt_s (lt_s (lt_s (lt_s (lt_s (lt_s (lt_s (lt_s (lt_s (lt_s (lt_s (lt_s (lt_s (lt_s (lt_s (lt_s (lt_s (lt_s (lt_s (lt_s (lt_s (lt_s (lt_s (lt_s (lt_s (lt_s (lt_s (lt_s (lt_s (lt_s (lt_s (lt_s (lt_s (lt_s (lt_s (lt_s (lt_s (lt_s (lt_s (lt_s (lt_s (lt_s (lt_s (lt_s (lt_s (lt_s (lt_s (lt_s (lt_s (lt_s (lt_s (lt_s (lt_s (lt_s (lt_s (lt_s (lt_s (lt_s (lt_s (lt_s (lt_s (lt_s (lt_s (lt_s (lt_s (lt_s (lt_s (lt_s (lt_s (lt_s (lt_s (lt_s (lt_s (lt_s (lt_s (lt_s (lt_s (lt_s (lt_s (lt_s (lt_s (lt_s (lt_s (lt_s (lt_s (lt_s (lt_s (lt_s (lt_s (lt_s (lt_s (lt_s (lt_s (lt_s (lt_s (lt_s (lt_s (lt_s (lt_s (lt_s (lt_s (lt_s (lt_s (lt_s (lt_0) (fun _ => kc_0)) (fun _ => kc_1)) (fun _ => kc_2)) (fun _ => kc_3)) (fun _ => kc_4)) (fun _ => kc_5)) (fun _ => kc_6)) (fun _ => kc_7)) (fun _ => kc_8)) (fun _ => kc_9)) (fun _ => kc_10)) (fun _ => kc_11)) (fun _ => kc_12)) (fun _ => kc_13)) (fun _ => kc_14)) (fun _ => kc_15)) (fun _ => kc_16)) (fun _ => kc_17)) (fun _ => kc_18)) (fun _ => kc_19)) (fun _ => kc_20)) (fun _ => kc_21)) (fun _ => kc_22)) (fun _ => kc_23)) (fun _ => kc_24)) (fun _ => kc_25)) (fun _ => kc_26)) (fun _ => kc_27)) (fun _ => kc_28)) (fun _ => kc_29)) (fun _ => kc_30)) (fun _ => kc_31)) (fun _ => kc_32)) (fun _ => kc_33)) (fun _ => kc_34)) (fun _ => kc_35)) (fun _ => kc_36)) (fun _ => kc_37)) (fun _ => kc_38)) (fun _ => kc_39)) (fun _ => kc_40)) (fun _ => kc_41)) (fun _ => kc_42)) (fun _ => kc_43)) (fun _ => kc_44)) (fun _ => kc_45)) (fun _ => kc_46)) (fun _ => kc_47)) (fun _ => kc_48)) (fun _ => kc_49)) (fun _ => kc_50)) (fun _ => kc_51)) (fun _ => kc_52)) (fun _ => kc_53)) (fun _ => kc_54)) (fun _ => kc_55)) (fun _ => kc_56)) (fun _ => kc_57)) (fun _ => kc_58)) (fun _ => kc_59)) (fun _ => kc_60)) (fun _ => kc_61)) (fun _ => kc_62)) (fun _ => kc_63)) (fun _ => kc_64)) (fun _ => kc_65)) (fun _ => kc_66)) (fun _ => kc_67)) (fun _ => kc_68)) (fun _ => kc_69)) (fun _ => kc_70)) (fun _ => kc_71)) (fun _ => kc_72)) (fun _ => kc_73)) (fun _ => kc_74)) (fun _ => kc_75)) (fun _ => kc_76)) (fun _ => kc_77)) (fun _ => kc_78)) (fun _ => kc_79)) (fun _ => kc_80)) (fun _ => kc_81)) (fun _ => kc_82)) (fun _ => kc_83)) (fun _ => kc_84)) (fun _ => kc_85)) (fun _ => kc_86)) (fun _ => kc_87)) (fun _ => kc_88)) (fun _ => kc_89)) (fun _ => kc_90)) (fun _ => kc_91)) (fun _ => kc_92)) (fun _ => kc_93)) (fun _ => kc_94)) (fun _ => kc_95)) (fun _ => kc_96)) (fun _ => kc_97)) (fun _ => kc_98)) (fun _ => kc_99)) (fun _ => kc_100)) (fun _ => kc_101)) (fun _ => kc_102)) (fun _ => kc_103)) (fun _ => kc_104)) (fun _ => kc_105)) (fun _ => kc_106)) (fun _ => kc_107)) (fun _ => kc_108)) (fun _ => kc_109)) (fun _ => kc_110)) (fun _ => kc_111)) (fun _ => kc_112)) (fun _ => kc_113)) (fun _ => kc_114)) (fun _ => kc_115)) (fun _ => kc_116)) (fun _ => kc_117)) (fun _ => kc_118)) (fun _ => kc_119)) (fun _ => kc_120)) (fun _ => kc_121)) (fun _ => kc_122)) (fun _ => kc_123)) (fun _ => kc_124)) (fun _ => kc_125)) (fun _ => kc_126)) (fun _ => kc_127)) (fun _ => kc_128)) (fun _ => kc_129)) (fun _ => kc_130)) (fun _ => kc_131)) (fun _ => kc_132)) (fun _ => kc_133)) (fun _ => kc_134)) (fun _ => kc_135)) (fun _ => kc_136)) (fun _ => kc_137)) (fun _ => kc_138)) (fun _ => kc_139)) (fun _ => kc_140)) (fun _ => kc_141)) (fun _ => kc_142)) (fun _ => kc_143)) (fun _ => kc_144)) (fun _ => kc_145)) (fun _ => kc_146)) (fun _ => kc_147)) (fun _ => kc_148)) (fun _ => kc_149)) (fun _ => kc_150)) (fun h => absurd rfl h)) (fun _ => kc_152)) (fun _ => kc_153)) (fun _ => kc_154)) (fun _ => kc_155)) (fun _ => kc_156)) (fun _ => kc_157)) (fun _ => kc_158)) (fun _ => kc_159)) (fun _ => kc_160)) (fun _ => kc_161)) (fun _ => kc_162)
theorem kT_init : ∀ m, m < 163 → lw_tbl[mpi m]? = some (.initialized (my m).cls) := by decide +kernel
theorem kT_own1 : ∀ m, m < 163 → (my m).cls = cow (mow m) := by decide +kernel
theorem kT_own2 : ∀ m, m < 163 → plainName (my m).cls = true := by decide +kernel
theorem kT_own3 : ∀ m, m < 163 → (my m).cls ≠ "java/lang/invoke/MethodHandle" ∧ (my m).cls ≠ "java/lang/invoke/VarHandle" := by decide +kernel
theorem kT_own4 : ∀ m, m < 163 → (parseMethodDescriptor (my m).desc).map (fun d => d.parameters.length) = some (mna m) := by decide +kernel
theorem kT_fld : ∀ q ∈ kfT, q.2.2.1 < 6 → ∀ r, vwCl[q.2.2.1]? = some r → lw_tbl[q.2.2.2.2]? = some (.fieldLink (cow q.1) q.2.1 r.1 (r.2.1 q.2.2.2.1).2.1 (r.2.1 q.2.2.2.1).2.2.1) ∧ q.2.2.2.1 < r.2.2 ∧ (r.2.1 q.2.2.2.1).1 = r.1 := by
  intro q hq
  have h : ∀ q ∈ kfT, q.2.2.1 < 6 → (vwCl[q.2.2.1]?).elim true (fun r => decide (lw_tbl[q.2.2.2.2]? = some (.fieldLink (cow q.1) q.2.1 r.1 (r.2.1 q.2.2.2.1).2.1 (r.2.1 q.2.2.2.1).2.2.1) ∧ q.2.2.2.1 < r.2.2 ∧ (r.2.1 q.2.2.2.1).1 = r.1)) = true := by decide +kernel
  intro h6 r hr
  have h1 := h q hq h6
  rw [hr] at h1
  exact of_decide_eq_true h1
theorem kT_fldS : ∀ q ∈ kfT, ¬ q.2.2.1 < 6 → (q.2.2.2.1 = 0 ∧ lw_tbl[q.2.2.2.2]? = some (.fieldLink (cow q.1) q.2.1 "java/lang/String" "value" "[B")) ∨ (q.2.2.2.1 = 1 ∧ lw_tbl[q.2.2.2.2]? = some (.fieldLink (cow q.1) q.2.1 "java/lang/String" "coder" "B")) := by decide +kernel
theorem kT_cal : ∀ q ∈ kcT, q.2.2.2.1 < 163 ∧ q.2.2.2.1 ≠ 151 ∧
    ((q.2.2.1 = 0 ∧ lw_tbl[q.2.2.2.2.1]? = some (.methodLink (cow q.1) q.2.1 (my q.2.2.2.1)) ∧ lw_tbl[q.2.2.2.2.2.1]? = some (.instanceMethod (my q.2.2.2.1)) ∧ lw_tbl[q.2.2.2.2.2.2]? = some (.selects (my q.2.2.2.1).cls (my q.2.2.2.1) (my q.2.2.2.1)))
    ∨ (q.2.2.1 = 1 ∧ lw_tbl[q.2.2.2.2.1]? = some (.methodLink (cow q.1) q.2.1 (my q.2.2.2.1)) ∧ lw_tbl[q.2.2.2.2.2.1]? = some (.static (my q.2.2.2.1)))
    ∨ (q.2.2.1 = 2 ∧ lw_tbl[q.2.2.2.2.1]? = some (.methodLinkNest (cow q.1) q.2.1 (my q.2.2.2.1) "SneezeKing") ∧ lw_tbl[q.2.2.2.2.2.1]? = some (.static (my q.2.2.2.1)))) := by decide +kernel
theorem kT_int : ∀ q ∈ kiT, lw_tbl[q.2.2.2]? = some (.constant (cow q.1) q.2.1 q.2.2.1) := by decide +kernel
theorem kT_lng : ∀ q ∈ klT, lw_tbl[q.2.2.2]? = some (.constantLong (cow q.1) q.2.1 q.2.2.1) := by decide +kernel
theorem kT_gst : lw_tbl[kgs.2.2]? = some (.fieldLink (cow kgs.1) kgs.2.1 "java/lang/String" "COMPACT_STRINGS" "Z") := by decide +kernel
theorem kT_acp : lw_tbl[kac.2.2]? = some (.methodLink (cow kac.1) kac.2.1 arraycopyName) ∧ lw_tbl[kacn]? = some (.native arraycopyName) ∧ lw_tbl[kacs]? = some (.static arraycopyName) ∧ lw_tbl[kaci]? = some (.initialized "java/lang/System") := by decide +kernel
theorem kT_mmx : ∀ q ∈ kmT, (q.2.2.1 = 0 ∧ lw_tbl[q.2.2.2.1]? = some (.methodLink (cow q.1) q.2.1 Lib.Math.max.name) ∧ lw_tbl[q.2.2.2.2.1]? = some (.static Lib.Math.max.name) ∧ lw_tbl[q.2.2.2.2.2]? = some (.code Lib.Math.max.name Lib.Math.max.code 2 (some .int))) ∨ (q.2.2.1 = 1 ∧ lw_tbl[q.2.2.2.1]? = some (.methodLink (cow q.1) q.2.1 Lib.Math.min.name) ∧ lw_tbl[q.2.2.2.2.1]? = some (.static Lib.Math.min.name) ∧ lw_tbl[q.2.2.2.2.2]? = some (.code Lib.Math.min.name Lib.Math.min.code 2 (some .int))) := by decide +kernel
theorem kT_mini : lw_tbl[kmi]? = some (.initialized "java/lang/Math") := by decide +kernel
end
section
/-! the abstract machine: cells by number (0 to 37 the two objects and all of theirs; 38 the script, 39 the text, 40 its bytes), ints, longs, links that change -/
abbrev kH : Type := (Nat → Nat → Int32) × (Nat → Nat → Int64) × (Nat → Nat → Nat)
def hI (H : kH) (k j : Nat) : Int32 := H.1 k j
def hL (H : kH) (k j : Nat) : Int64 := H.2.1 k j
def hR (H : kH) (k j : Nat) : Nat := H.2.2 k j
def uI (H : kH) (k j : Nat) (v : Int32) : kH := (fun a b => if a = k ∧ b = j then v else H.1 a b, H.2.1, H.2.2)
def uL (H : kH) (k j : Nat) (v : Int64) : kH := (H.1, fun a b => if a = k ∧ b = j then v else H.2.1 a b, H.2.2)
def uR (H : kH) (k j : Nat) (v : Nat) : kH := (H.1, H.2.1, fun a b => if a = k ∧ b = j then v else H.2.2 a b)
/-- a whole row of ints -/
def uC (H : kH) (k : Nat) (f : Nat → Int32) : kH := (fun a b => if a = k then f b else H.1 a b, H.2.1, H.2.2)
/-- kinds of cell: (0, kind of object), (1, length) ints, (2, length) longs, 4 script, 5 text, 6 bytes -/
def kshp : List (Nat × Nat) := [(0, 4), (0, 0), (0, 0), (0, 1), (0, 2), (0, 3), (1, 5), (1, 5), (1, 5), (1, 5), (1, 32), (1, 5), (1, 5), (1, 5), (1, 5), (1, 5), (1, 32), (1, 5), (1, 20), (2, 5), (2, 5), (2, 32), (2, 6), (2, 6), (2, 64), (2, 64), (1, 5), (0, 5), (1, 20), (1, 20), (2, 64), (2, 64), (1, 64), (1, 64), (1, 5), (1, 5), (1, 20), (1, 5), (4, 0), (5, 0), (6, 5)]
def shp (k : Nat) : Nat × Nat := kshp.getD k (9, 0)
/-- kinds of field: 0 int, 1 boolean, 2 long, 3 a link that stays, 4 a link that changes -/
def kfk : List (List Nat) := [[3, 3, 3, 3, 3, 3, 0, 0, 1, 0, 0, 0], [3, 0], [3, 3, 3, 3, 3, 3, 4, 4], [3, 3, 0, 2], [3, 3, 3, 3, 3, 1, 0], [3, 0, 0, 0, 0, 0, 0, 0, 3, 3, 3, 3, 3, 0, 3, 0, 3, 0, 0, 0, 0, 0, 0, 3, 3, 2]]
def fki (c f : Nat) : Nat := (kfk.getD c []).getD f 9
def ksr : List (Nat × Nat × Nat) := [(0, 0, 3), (0, 1, 1), (0, 2, 2), (0, 3, 4), (0, 4, 5), (1, 0, 6), (1, 1, 7), (1, 2, 8), (1, 3, 9), (1, 4, 10), (1, 5, 11), (2, 0, 12), (2, 1, 13), (2, 2, 14), (2, 3, 15), (2, 4, 16), (2, 5, 17), (3, 0, 18), (4, 0, 1), (4, 1, 19), (4, 2, 20), (4, 3, 21), (4, 4, 22), (4, 5, 23), (5, 0, 1), (5, 1, 26), (27, 0, 28), (27, 8, 29), (27, 9, 30), (27, 10, 31), (27, 11, 32), (27, 12, 33), (27, 14, 34), (27, 16, 35), (27, 23, 36), (27, 24, 37)]
def sref (k f : Nat) : Nat := ((ksr.find? (fun q => q.1 == k && q.2.1 == f)).map (fun q => q.2.2)).getD 0
def cpF (o i : Nat) : Option (Nat × Nat) := (kfT.find? (fun q => q.1 == o && q.2.1 == i)).map (fun q => (q.2.2.1, q.2.2.2.1))
def cpM (o i : Nat) : Option (Nat × Nat) := (kcT.find? (fun q => q.1 == o && q.2.1 == i)).map (fun q => (q.2.2.1, q.2.2.2.1))
def cpX (o i : Nat) : Option Nat := (kmT.find? (fun q => q.1 == o && q.2.1 == i)).map (fun q => q.2.2.1)
def cpI (o i : Nat) : Option Int32 := (kiT.find? (fun q => q.1 == o && q.2.1 == i)).map (fun q => q.2.2.1)
def cpL (o i : Nat) : Option Int64 := (klT.find? (fun q => q.1 == o && q.2.1 == i)).map (fun q => q.2.2.1)
abbrev kN : Type := Nat × List Value × List Value × kH
/-- goes on, calls (method, arguments, the rest of the stack), returns -/
abbrev kO : Type := kN ⊕ ((Nat × List Value × List Value) ⊕ Option Value)
def kNx (pc : Nat) (ls st : List Value) (H : kH) : Option kN := some (pc, ls, st, H)
/-- a field's value -/
def gf (H : kH) (k c f : Nat) : Option Value :=
  if c = 9 then (if k = 39 then (if f = 0 then some (.ref 40) else some (.int 0)) else none) else
  if shp k = (0, c) then
    (match fki c f with
    | 0 => some (.int (hI H k f))
    | 1 => some (.int (hI H k f))
    | 2 => some (.long (hL H k f))
    | 3 => some (.ref (sref k f))
    | 4 => some (.ref (hR H k f))
    | _ => none)
  else none
def pf (H : kH) (k c f : Nat) (v : Value) : Option kH :=
  if shp k = (0, c) ∧ k < 38 then
    (match fki c f, v with
    | 0, .int x => some (uI H k f x)
    | 1, .int x => if x = 0 ∨ x = 1 then some (uI H k f x) else none
    | 2, .long x => some (uL H k f x)
    | 4, .ref r => if r < 38 then some (uR H k f r) else none
    | _, _ => none)
  else none
def alen (H : kH) (k : Nat) : Option Int32 :=
  match shp k with
  | (1, n) => some (Int32.ofNat n)
  | (2, n) => some (Int32.ofNat n)
  | (4, _) => some (hI H 41 0)
  | (6, n) => some (Int32.ofNat n)
  | _ => none
def aI (H : kH) (k : Nat) (i : Int32) : Option Int32 :=
  match shp k with
  | (1, n) => if i < 0 ∨ n ≤ i.toNatClampNeg then none else some (hI H k i.toNatClampNeg)
  | (4, _) => if i < 0 ∨ (hI H 41 0).toNatClampNeg ≤ i.toNatClampNeg then none else some (hI H 38 i.toNatClampNeg)
  | _ => none
def aL (H : kH) (k : Nat) (i : Int32) : Option Int64 :=
  match shp k with
  | (2, n) => if i < 0 ∨ n ≤ i.toNatClampNeg then none else some (hL H k i.toNatClampNeg)
  | _ => none
def kbs : List Int32 := [112, 115, 102, 100, 99]
def aB (k : Nat) (i : Int32) : Option Int32 := if k = 40 then (if i < 0 ∨ 5 ≤ i.toNatClampNeg then none else some (kbs.getD i.toNatClampNeg 0)) else none
def sI (H : kH) (k : Nat) (i v : Int32) : Option kH :=
  match shp k with
  | (1, n) => if i < 0 ∨ n ≤ i.toNatClampNeg then none else some (uI H k i.toNatClampNeg v)
  | _ => none
def sL (H : kH) (k : Nat) (i : Int32) (v : Int64) : Option kH :=
  match shp k with
  | (2, n) => if i < 0 ∨ n ≤ i.toNatClampNeg then none else some (uL H k i.toNatClampNeg v)
  | _ => none
/-- arraycopy of ints -/
def kCp (H : kH) (a : Nat) (sp : Int32) (b : Nat) (dp n : Int32) : Option kH :=
  match shp a, shp b with
  | (1, n0), (1, n1) => if n < 0 ∨ sp < 0 ∨ dp < 0 ∨ n0 < sp.toNatClampNeg + n.toNatClampNeg ∨ n1 < dp.toNatClampNeg + n.toNatClampNeg then none
      else some (uC H b (va_cpy (hI H a) (hI H b) sp.toNatClampNeg dp.toNatClampNeg n.toNatClampNeg))
  | _, _ => none
/-- the locals -/
def kClr (ls : List Value) (i : Nat) : List Value :=
  match i with
  | 0 => ls
  | k + 1 => (match ls[k]? with
    | some (.long _) => ls.set k .null
    | some (.double _) => ls.set k .null
    | _ => ls)
def kSt1 (ls : List Value) (i : Nat) (v : Value) : List Value := (kClr ls i).set i v
def kSt2 (ls : List Value) (i : Nat) (v : Value) : List Value := ((kClr ls i).set i v).set (i + 1) .null
def kEnA : List Value → List Value
  | [] => []
  | .long x :: vs => .long x :: .null :: kEnA vs
  | .double x :: vs => .double x :: .null :: kEnA vs
  | v :: vs => v :: kEnA vs
def kEnt (y : Nat) (vs : List Value) : List Value := kEnA vs ++ List.replicate (mnL y - (kEnA vs).length) .null
def kRcv (y k : Nat) : Bool := if mow y = 8 then k == 39 else (match shp k with
  | (0, c) => decide (k < 38) && (match c, mow y with
    | 0, 0 => true
    | 1, 1 => true
    | 2, 2 => true
    | 3, 4 => true
    | 4, 5 => true
    | 5, 6 => true
    | _, _ => false)
  | _ => false)
def kRm (m y : Nat) : Bool := decide (mfr y + 1 ≤ mfr m) && decide (8 + (mnL y + 11) + mlo y ≤ mlo m)
/-- an int pushed -/
def kP (pc : Nat) (ls st : List Value) (H : kH) (x : Int32) : Option kN := kNx pc ls (.int x :: st) H
def kLdI (ls : List Value) (i pc : Nat) (st : List Value) (H : kH) : Option kN :=
  match ls[i]? with
  | some (.int x) => kNx pc ls (.int x :: st) H
  | _ => none
def kLdL (ls : List Value) (i pc : Nat) (st : List Value) (H : kH) : Option kN :=
  match ls[i]? with
  | some (.long x) => kNx pc ls (.long x :: st) H
  | _ => none
def kLdR (ls : List Value) (i pc : Nat) (st : List Value) (H : kH) : Option kN :=
  match ls[i]? with
  | some (.ref x) => kNx pc ls (.ref x :: st) H
  | _ => none
def kSoI (m : Nat) (ls : List Value) (i pc : Nat) (st : List Value) (H : kH) : Option kN :=
  match st with
  | .int x :: r => if i < mnL m then kNx pc (kSt1 ls i (.int x)) r H else none
  | _ => none
def kSoR (m : Nat) (ls : List Value) (i pc : Nat) (st : List Value) (H : kH) : Option kN :=
  match st with
  | .ref x :: r => if i < mnL m then kNx pc (kSt1 ls i (.ref x)) r H else none
  | _ => none
def kSoL (m : Nat) (ls : List Value) (i pc : Nat) (st : List Value) (H : kH) : Option kN :=
  match st with
  | .long x :: r => if i + 1 < mnL m then kNx pc (kSt2 ls i (.long x)) r H else none
  | _ => none
def kB2 (f : Int32 → Int32 → Int32) (pc : Nat) (ls st : List Value) (H : kH) : Option kN :=
  match st with
  | .int y :: .int x :: r => kNx (pc + 1) ls (.int (f x y) :: r) H
  | _ => none
def kL2 (f : Int64 → Int64 → Int64) (pc : Nat) (ls st : List Value) (H : kH) : Option kN :=
  match st with
  | .long y :: .long x :: r => kNx (pc + 1) ls (.long (f x y) :: r) H
  | _ => none
def kLS (f : Int64 → Int32 → Int64) (pc : Nat) (ls st : List Value) (H : kH) : Option kN :=
  match st with
  | .int y :: .long x :: r => kNx (pc + 1) ls (.long (f x y) :: r) H
  | _ => none
def kU1 (f : Int32 → Int32) (pc : Nat) (ls st : List Value) (H : kH) : Option kN :=
  match st with
  | .int x :: r => kNx (pc + 1) ls (.int (f x) :: r) H
  | _ => none
def kBr (c : Prop) [Decidable c] (pc : Nat) (off : Int) (ls st : List Value) (H : kH) : Option kN :=
  if 0 ≤ (pc : Int) + off then (if c then kNx (((pc : Int) + off).toNat) ls st H else kNx (pc + 3) ls st H) else none
def kGo (pc : Nat) (off : Int) (ls st : List Value) (H : kH) : Option kN :=
  if 0 ≤ (pc : Int) + off then kNx (((pc : Int) + off).toNat) ls st H else none
def kC2 (d : ClassFile.Cond) (pc : Nat) (off : Int) (ls st : List Value) (H : kH) : Option kN :=
  match st with
  | .int y :: .int x :: r => (match d with
    | .eq => kBr (x = y) pc off ls r H
    | .ne => kBr (¬ x = y) pc off ls r H
    | .lt => kBr (x < y) pc off ls r H
    | .ge => kBr (y ≤ x) pc off ls r H
    | .gt => kBr (y < x) pc off ls r H
    | .le => kBr (x ≤ y) pc off ls r H)
  | _ => none
def kC1 (d : ClassFile.Cond) (pc : Nat) (off : Int) (ls st : List Value) (H : kH) : Option kN :=
  match st with
  | .int x :: r => (match d with
    | .eq => kBr (x = 0) pc off ls r H
    | .ne => kBr (¬ x = 0) pc off ls r H
    | .lt => kBr (x < 0) pc off ls r H
    | .ge => kBr (0 ≤ x) pc off ls r H
    | .gt => kBr (0 < x) pc off ls r H
    | .le => kBr (x ≤ 0) pc off ls r H)
  | _ => none
def kSpc (m idx pc : Nat) (ls st : List Value) (H : kH) : Option kN :=
  match cpX (mow m) idx with
  | some kd => (match st with
    | .int y :: .int x :: r => if 1 ≤ mfr m ∧ 21 ≤ mlo m ∧ r.length ≤ 4 then kNx (pc + 3) ls (.int (if kd = 0 then (if x < y then y else x) else (if y < x then y else x)) :: r) H else none
    | _ => none)
  | none => if (mow m, idx) = (kac.1, kac.2.1) then (match st with
    | [.int n, .int dp, .ref b, .int sp, .ref a] => if 1 ≤ mfr m ∧ nativeFrameWords "java/lang/System" "arraycopy" 5 + 11 ≤ mlo m then (match kCp H a sp b dp n with
      | some H' => kNx (pc + 3) ls [] H'
      | none => none) else none
    | _ => none) else none
def kInvS (m y kd : Nat) (st : List Value) : Option kO :=
  if kd ≠ 0 ∧ mna y ≤ st.length ∧ kRm m y = true ∧ (st.drop (mna y)).length ≤ 4 ∧ (kEnA (st.take (mna y)).reverse).length ≤ mnL y then some (.inr (.inl (y, (st.take (mna y)).reverse, st.drop (mna y)))) else none
def kInvV (m idx : Nat) (st : List Value) : Option kO :=
  match cpM (mow m) idx with
  | some (kd, y) => if kd = 0 ∧ mna y ≤ st.length ∧ kRm m y = true then (match st.drop (mna y) with
    | .ref k :: r => if kRcv y k = true ∧ r.length ≤ 4 ∧ (kEnA (.ref k :: (st.take (mna y)).reverse)).length ≤ mnL y then some (.inr (.inl (y, .ref k :: (st.take (mna y)).reverse, r))) else none
    | _ => none) else none
  | none => none
def kRet (m : Nat) (st : List Value) : Option kO :=
  match st with
  | [.int x] => (match mrt m with
    | some .int => some (.inr (.inr (some (.int x))))
    | some .boolean => if x = 0 ∨ x = 1 then some (.inr (.inr (some (.int x)))) else none
    | some .byte => if x = 0 then some (.inr (.inr (some (.int x)))) else none
    | _ => none)
  | _ => none
/-- one instruction -/
def kIns (m : Nat) (i : Instr) (pc : Nat) (ls st : List Value) (H : kH) : Option kN :=
  match i with
  | .iconst n => kP (pc + 1) ls st H (Int32.ofInt n)
  | .bipush n => kP (pc + 2) ls st H (Int8.ofInt n).toInt32
  | .sipush n => kP (pc + 3) ls st H (Int16.ofInt n).toInt32
  | .lconst n => kNx (pc + 1) ls (.long (Int64.ofNat (n : Nat)) :: st) H
  | .ldc ix => (match cpI (mow m) ix with
    | some v => kP (pc + 2) ls st H v
    | none => if (mow m, ix) = kst then kNx (pc + 2) ls (.ref 39 :: st) H else none)
  | .ldc_w ix => (match cpI (mow m) ix with
    | some v => kP (pc + 3) ls st H v
    | none => none)
  | .ldc2_w ix => (match cpL (mow m) ix with
    | some v => kNx (pc + 3) ls (.long v :: st) H
    | none => none)
  | .iload_n k => kLdI ls k (pc + 1) st H
  | .iload k => kLdI ls k (pc + 2) st H
  | .lload_n k => kLdL ls k (pc + 1) st H
  | .lload k => kLdL ls k (pc + 2) st H
  | .aload_n k => kLdR ls k (pc + 1) st H
  | .aload k => kLdR ls k (pc + 2) st H
  | .istore_n k => kSoI m ls k (pc + 1) st H
  | .istore k => kSoI m ls k (pc + 2) st H
  | .lstore_n k => kSoL m ls k (pc + 1) st H
  | .lstore k => kSoL m ls k (pc + 2) st H
  | .astore_n k => kSoR m ls k (pc + 1) st H
  | .astore k => kSoR m ls k (pc + 2) st H
  | .iinc k n => (match ls[k]? with
    | some (.int x) => if k < mnL m then kNx (pc + 3) (kSt1 ls k (.int (x + Int32.ofInt n))) st H else none
    | _ => none)
  | .iadd => kB2 (fun x y => x + y) pc ls st H
  | .isub => kB2 (fun x y => x - y) pc ls st H
  | .imul => kB2 (fun x y => x * y) pc ls st H
  | .iand => kB2 (fun x y => x &&& y) pc ls st H
  | .ior => kB2 (fun x y => x ||| y) pc ls st H
  | .ixor => kB2 (fun x y => x ^^^ y) pc ls st H
  | .ishl => kB2 (fun x y => x <<< (y &&& 31)) pc ls st H
  | .ishr => kB2 (fun x y => x >>> (y &&& 31)) pc ls st H
  | .iushr => kB2 (fun x y => (x.toUInt32 >>> (y.toUInt32 &&& Int32.toUInt32 31)).toInt32) pc ls st H
  | .idiv => (match st with
    | .int y :: .int x :: r => if y = 0 then none else kNx (pc + 1) ls (.int (x / y) :: r) H
    | _ => none)
  | .irem => (match st with
    | .int y :: .int x :: r => if y = 0 then none else kNx (pc + 1) ls (.int (x - x / y * y) :: r) H
    | _ => none)
  | .ldiv => (match st with
    | .long y :: .long x :: r => if y = 0 then none else kNx (pc + 1) ls (.long (x / y) :: r) H
    | _ => none)
  | .lrem => (match st with
    | .long y :: .long x :: r => if y = 0 then none else kNx (pc + 1) ls (.long (x - x / y * y) :: r) H
    | _ => none)
  | .ladd => kL2 (fun x y => x + y) pc ls st H
  | .lmul => kL2 (fun x y => x * y) pc ls st H
  | .land => kL2 (fun x y => x &&& y) pc ls st H
  | .lor => kL2 (fun x y => x ||| y) pc ls st H
  | .lshl => kLS (fun x y => x <<< (y.toInt64 &&& 63)) pc ls st H
  | .lshr => kLS (fun x y => x >>> (y.toInt64 &&& 63)) pc ls st H
  | .lcmp => (match st with
    | .long y :: .long x :: r => kNx (pc + 1) ls (.int (lg_cmp x y) :: r) H
    | _ => none)
  | .i2l => (match st with
    | .int x :: r => kNx (pc + 1) ls (.long x.toInt64 :: r) H
    | _ => none)
  | .l2i => (match st with
    | .long x :: r => kNx (pc + 1) ls (.int x.toInt32 :: r) H
    | _ => none)
  | .i2c => kU1 (fun x => (x.toUInt32 % 65536).toInt32) pc ls st H
  | .i2b => kU1 (fun x => x.toInt8.toInt32) pc ls st H
  | .dup => (match st with
    | .ref x :: r => kNx (pc + 1) ls (.ref x :: .ref x :: r) H
    | .int x :: r => kNx (pc + 1) ls (.int x :: .int x :: r) H
    | _ => none)
  | .dup2 => (match st with
    | .int x :: .ref y :: r => kNx (pc + 1) ls (.int x :: .ref y :: .int x :: .ref y :: r) H
    | _ => none)
  | .pop => (match st with
    | .int _ :: r => kNx (pc + 1) ls r H
    | _ => none)
  | .goto off => kGo pc off ls st H
  | .if_icmp d off => kC2 d pc off ls st H
  | .ifCond d off => kC1 d pc off ls st H
  | .tableswitch dflt lo hi offs => (match st with
    | .int x :: r => if x.toInt < lo ∨ hi < x.toInt then kGo pc dflt ls r H else (match offs[(x.toInt - lo).toNat]? with
      | some off => kGo pc off ls r H
      | none => none)
    | _ => none)
  | .getfield ix => (match cpF (mow m) ix, st with
    | some (c, f), .ref k :: r => (match gf H k c f with
      | some v => kNx (pc + 3) ls (v :: r) H
      | none => none)
    | _, _ => none)
  | .putfield ix => (match cpF (mow m) ix, st with
    | some (c, f), v :: .ref k :: r => (match pf H k c f v with
      | some H' => kNx (pc + 3) ls r H'
      | none => none)
    | _, _ => none)
  | .getstatic ix => if (mow m, ix) = (kgs.1, kgs.2.1) then kP (pc + 3) ls st H 1 else none
  | .arraylength => (match st with
    | .ref k :: r => (match alen H k with
      | some v => kP (pc + 1) ls r H v
      | none => none)
    | _ => none)
  | .iaload => (match st with
    | .int i :: .ref k :: r => (match aI H k i with
      | some v => kP (pc + 1) ls r H v
      | none => none)
    | _ => none)
  | .laload => (match st with
    | .int i :: .ref k :: r => (match aL H k i with
      | some v => kNx (pc + 1) ls (.long v :: r) H
      | none => none)
    | _ => none)
  | .baload => (match st with
    | .int i :: .ref k :: r => (match aB k i with
      | some v => kP (pc + 1) ls r H v
      | none => none)
    | _ => none)
  | .iastore => (match st with
    | .int v :: .int i :: .ref k :: r => (match sI H k i v with
      | some H' => kNx (pc + 1) ls r H'
      | none => none)
    | _ => none)
  | .lastore => (match st with
    | .long v :: .int i :: .ref k :: r => (match sL H k i v with
      | some H' => kNx (pc + 1) ls r H'
      | none => none)
    | _ => none)
  | .invokestatic ix => kSpc m ix pc ls st H
  | _ => none
def kLen (i : Instr) (len : Nat) : Nat :=
  match i with
  | .bipush _ | .iload _ | .istore _ | .lload _ | .lstore _ | .aload _ | .astore _ | .ldc _ => 2
  | .sipush _ | .getfield _ | .putfield _ | .getstatic _ | .goto _ | .if_icmp _ _ | .ifCond _ _ | .iinc _ _ | .ldc_w _ | .ldc2_w _ | .invokevirtual _ | .invokestatic _ => 3
  | .tableswitch _ _ _ _ => len
  | _ => 1
/-- calls, returns, all else -/
def kIns2 (m : Nat) (i : Instr) (pc : Nat) (ls st : List Value) (H : kH) : Option kO :=
  match i with
  | .invokevirtual ix => kInvV m ix st
  | .invokestatic ix => (match cpM (mow m) ix with
    | some (kd, y) => kInvS m y kd st
    | none => (kIns m (.invokestatic ix) pc ls st H).map .inl)
  | .ireturn => kRet m st
  | .lreturn => (match st, mrt m with
    | [.long x], some .long => some (.inr (.inr (some (.long x))))
    | _, _ => none)
  | .return_ => (match st, mrt m with
    | [], none => some (.inr (.inr none))
    | _, _ => none)
  | i => (kIns m i pc ls st H).map .inl
def kStp (m pc : Nat) (ls st : List Value) (H : kH) : Option kO :=
  match decode (mbyt m) pc with
  | .ok (i, len) => if len = kLen i len then kIns2 m i pc ls st H else none
  | .error _ => none
def kRun : Nat → Nat → Nat → List Value → List Value → kH → Option (Option Value × kH)
  | 0, _, _, _, _, _ => none
  | n + 1, m, pc, ls, st, H => match kStp m pc ls st H with
    | none => none
    | some (.inl a) => kRun n m a.1 a.2.1 a.2.2.1 a.2.2.2
    | some (.inr (.inl a)) => (match kRun n a.1 0 (kEnt a.1 a.2.1) [] H with
      | none => none
      | some r => kRun n m (pc + 3) ls (r.1.toList ++ a.2.2) r.2)
    | some (.inr (.inr v)) => some (v, H)
theorem kRun_mono : ∀ (n m pc : Nat) (ls st : List Value) (H : kH) (r : Option Value × kH), kRun n m pc ls st H = some r → kRun (n + 1) m pc ls st H = some r
  | 0, _, _, _, _, _, _, h => by simp [kRun] at h
  | n + 1, m, pc, ls, st, H, r, h => by
    rw [kRun] at h ⊢
    split at h
    · cases h
    · rename_i a e
      try rw [e]
      exact kRun_mono n _ _ _ _ _ _ h
    · rename_i a e
      try rw [e]
      try dsimp only
      split at h
      · cases h
      · rename_i q eq
        rw [kRun_mono n _ _ _ _ _ _ eq]
        exact kRun_mono n _ _ _ _ _ _ h
    · rename_i v e
      try rw [e]
      exact h
theorem kRun_le {n k m pc : Nat} {ls st : List Value} {H : kH} {r : Option Value × kH} (h : kRun n m pc ls st H = some r) (hk : n ≤ k) : kRun k m pc ls st H = some r := by
  induction k with
  | zero =>
    have : n = 0 := by omega
    subst this
    exact h
  | succ k ih =>
    by_cases e : n = k + 1
    · subst e
      exact h
    · exact kRun_mono _ _ _ _ _ _ _ (ih (by omega))
/-- the answer, if there is one -/
def kPk (P : Option Value × kH → Prop) : Prop := ∃ o, P o
noncomputable def ev (m pc : Nat) (ls st : List Value) (H : kH) : Option (Option Value × kH) :=
  @dite _ (∃ o, ∃ n, kRun n m pc ls st H = some o) (Classical.propDecidable _) (fun h => some h.choose) (fun _ => none)
theorem ev_iff {m pc : Nat} {ls st : List Value} {H : kH} {o : Option Value × kH} : ev m pc ls st H = some o ↔ ∃ n, kRun n m pc ls st H = some o := by
  constructor
  · intro h
    unfold ev at h
    split at h
    · rename_i hh
      have h1 := hh.choose_spec
      cases h
      exact h1
    · cases h
  · rintro ⟨n, h⟩
    have hh : ∃ o, ∃ n, kRun n m pc ls st H = some o := ⟨o, n, h⟩
    have e : ev m pc ls st H = some hh.choose := by
      unfold ev
      rw [dif_pos hh]
    obtain ⟨k, hk⟩ := hh.choose_spec
    have h1 := kRun_le h (Nat.le_max_left n k)
    have h2 := kRun_le hk (Nat.le_max_right n k)
    rw [e]
    exact h2.symm.trans h1
theorem ev_ext {m pc m' pc' : Nat} {ls st ls' st' : List Value} {H H' : kH} (h : ∀ o, (∃ n, kRun n m pc ls st H = some o) ↔ (∃ n, kRun n m' pc' ls' st' H' = some o)) : ev m pc ls st H = ev m' pc' ls' st' H' := by
  apply Option.ext
  intro o
  rw [ev_iff, ev_iff]
  exact h o
theorem ev_next {m pc pc' : Nat} {ls st ls' st' : List Value} {H H' : kH} (h : kStp m pc ls st H = some (.inl (pc', ls', st', H'))) : ev m pc ls st H = ev m pc' ls' st' H' := by
  refine ev_ext fun o => ⟨?_, ?_⟩
  · rintro ⟨n, hn⟩
    cases n with
    | zero => simp [kRun] at hn
    | succ n =>
      rw [kRun, h] at hn
      exact ⟨n, hn⟩
  · rintro ⟨n, hn⟩
    exact ⟨n + 1, by rw [kRun, h]; exact hn⟩
theorem ev_call {m pc y : Nat} {ls st as r : List Value} {H : kH} (h : kStp m pc ls st H = some (.inr (.inl (y, as, r)))) : ev m pc ls st H = (ev y 0 (kEnt y as) [] H).bind (fun q => ev m (pc + 3) ls (q.1.toList ++ r) q.2) := by
  apply Option.ext
  intro o
  rw [ev_iff, Option.bind_eq_some_iff]
  constructor
  · rintro ⟨n, hn⟩
    cases n with
    | zero => simp [kRun] at hn
    | succ n =>
      rw [kRun, h] at hn
      dsimp only at hn
      split at hn
      · cases hn
      · rename_i q eq
        exact ⟨q, ev_iff.mpr ⟨n, eq⟩, ev_iff.mpr ⟨n, hn⟩⟩
  · rintro ⟨q, h1, h2⟩
    obtain ⟨n1, h1⟩ := ev_iff.mp h1
    obtain ⟨n2, h2⟩ := ev_iff.mp h2
    refine ⟨max n1 n2 + 1, ?_⟩
    rw [kRun, h]
    dsimp only
    rw [kRun_le h1 (Nat.le_max_left n1 n2)]
    exact kRun_le h2 (Nat.le_max_right n1 n2)
theorem ev_ret {m pc : Nat} {ls st : List Value} {H : kH} {v : Option Value} (h : kStp m pc ls st H = some (.inr (.inr v))) : ev m pc ls st H = some (v, H) := ev_iff.mpr ⟨1, by rw [kRun, h]⟩
theorem ev_none {m pc : Nat} {ls st : List Value} {H : kH} (h : kStp m pc ls st H = none) : ev m pc ls st H = none := by
  cases he : ev m pc ls st H with
  | none => rfl
  | some o =>
    obtain ⟨n, hn⟩ := ev_iff.mp he
    cases n with
    | zero => simp [kRun] at hn
    | succ n => rw [kRun, h] at hn; cases hn
theorem kStp_of {m pc len : Nat} {i : Instr} {ls st : List Value} {H : kH} (hd : decode (mbyt m) pc = .ok (i, len)) (hl : len = kLen i len) : kStp m pc ls st H = kIns2 m i pc ls st H := by
  unfold kStp
  rw [hd]
  exact if_pos hl
end
section
/-! the abstract machine is the machine: the picture of a state -/
def vR (ad : Nat → Nat) : Value → Value
  | .ref k => .ref (ad k)
  | v => v
theorem vR_cat (ad : Nat → Nat) (v : Value) : (vR ad v).category = v.category := by cases v <;> rfl
def kfv (ad : Nat → Nat) (H : kH) (k c f : Nat) : Value :=
  match fki c f with
  | 0 => .int (hI H k f)
  | 1 => .int (hI H k f)
  | 2 => .long (hL H k f)
  | 3 => .ref (ad (sref k f))
  | 4 => .ref (ad (hR H k f))
  | _ => .null
def knf (c : Nat) : Nat := (kfk.getD c []).length
def kcell (ad : Nat → Nat) (cI cL : ClassId) (H : kH) (k : Nat) : va_E :=
  match shp k with
  | (0, c) => .inr (c, (List.range (knf c)).map (fun f => kfv ad H k c f))
  | (1, n) => .inl (cI, n, .inl (hI H k))
  | (2, n) => .inl (cL, n, .inr (.inl (hL H k)))
  | _ => .inr (0, [])
def kW (ad : Nat → Nat) (cI cL : ClassId) (H : kH) : va_W := (List.range 38).map (fun k => (ad k, kcell ad cI cL H k))
theorem kW_get {ad : Nat → Nat} {cI cL : ClassId} {H : kH} {k : Nat} (hk : k < 38) : (kW ad cI cL H)[k]? = some (ad k, kcell ad cI cL H k) := by
  unfold kW
  rw [List.getElem?_map, List.getElem?_range hk]
  rfl
theorem kW_len (ad : Nat → Nat) (cI cL : ClassId) (H : kH) : (kW ad cI cL H).length = 38 := by simp [kW]
theorem kW_lt {ad : Nat → Nat} {cI cL : ClassId} {H : kH} {k : Nat} {q : Nat × va_E} (h : (kW ad cI cL H)[k]? = some q) : k < 38 ∧ q = (ad k, kcell ad cI cL H k) := by
  have h1 : k < 38 := by
    have := (List.getElem?_eq_some_iff.mp h).1
    rwa [kW_len] at this
  rw [kW_get h1] at h
  exact ⟨h1, (Option.some.inj h).symm⟩
def kA (ad : Nat → Nat) : Nat → Prop := fun q => ∃ k, k < 38 ∧ q = ad k
def kInj (ad : Nat → Nat) : Prop := ∀ i j, i < 38 → j < 38 → ad i = ad j → i = j
theorem kD {ad : Nat → Nat} (hi : kInj ad) (cI cL : ClassId) (H : kH) : va_D (kA ad) (kW ad cI cL H) := by
  refine ⟨fun i j p q hp hq e => ?_, fun k q hq => ?_⟩
  · obtain ⟨h1, rfl⟩ := kW_lt hp
    obtain ⟨h2, rfl⟩ := kW_lt hq
    exact hi i j h1 h2 e
  · obtain ⟨h1, rfl⟩ := kW_lt hq
    exact ⟨k, h1, rfl⟩
theorem kW_set {ad : Nat → Nat} {cI cL : ClassId} {H H' : kH} {k : Nat} {e : va_E} (hk : k < 38) (he : e = kcell ad cI cL H' k) (h : ∀ j, j ≠ k → kcell ad cI cL H' j = kcell ad cI cL H j) : (kW ad cI cL H).set k (ad k, e) = kW ad cI cL H' := by
  subst he
  apply List.ext_getElem?
  intro j
  by_cases hj : j = k
  · subst hj
    rw [List.getElem?_set_self (by rw [kW_len]; exact hk), kW_get hk]
  · rw [List.getElem?_set_ne (Ne.symm hj)]
    by_cases h38 : j < 38
    · rw [kW_get h38, kW_get h38, h j hj]
    · rw [List.getElem?_eq_none (by rw [kW_len]; omega), List.getElem?_eq_none (by rw [kW_len]; omega)]
theorem hI_uI (H : kH) (k j : Nat) (v : Int32) (a b : Nat) : hI (uI H k j v) a b = if a = k ∧ b = j then v else hI H a b := rfl
theorem hL_uI (H : kH) (k j : Nat) (v : Int32) (a b : Nat) : hL (uI H k j v) a b = hL H a b := rfl
theorem hR_uI (H : kH) (k j : Nat) (v : Int32) (a b : Nat) : hR (uI H k j v) a b = hR H a b := rfl
theorem hI_uL (H : kH) (k j : Nat) (v : Int64) (a b : Nat) : hI (uL H k j v) a b = hI H a b := rfl
theorem hL_uL (H : kH) (k j : Nat) (v : Int64) (a b : Nat) : hL (uL H k j v) a b = if a = k ∧ b = j then v else hL H a b := rfl
theorem hR_uL (H : kH) (k j : Nat) (v : Int64) (a b : Nat) : hR (uL H k j v) a b = hR H a b := rfl
theorem hI_uR (H : kH) (k j : Nat) (v : Nat) (a b : Nat) : hI (uR H k j v) a b = hI H a b := rfl
theorem hL_uR (H : kH) (k j : Nat) (v : Nat) (a b : Nat) : hL (uR H k j v) a b = hL H a b := rfl
theorem hR_uR (H : kH) (k j : Nat) (v : Nat) (a b : Nat) : hR (uR H k j v) a b = if a = k ∧ b = j then v else hR H a b := rfl
theorem hI_uC (H : kH) (k : Nat) (f : Nat → Int32) (a b : Nat) : hI (uC H k f) a b = if a = k then f b else hI H a b := rfl
theorem hL_uC (H : kH) (k : Nat) (f : Nat → Int32) (a b : Nat) : hL (uC H k f) a b = hL H a b := rfl
theorem hR_uC (H : kH) (k : Nat) (f : Nat → Int32) (a b : Nat) : hR (uC H k f) a b = hR H a b := rfl
theorem kfv_congr {ad : Nat → Nat} {H H' : kH} {k c f : Nat} (h1 : hI H' k f = hI H k f) (h2 : hL H' k f = hL H k f) (h3 : hR H' k f = hR H k f) : kfv ad H' k c f = kfv ad H k c f := by
  unfold kfv
  rw [h1, h2, h3]
theorem kcell_congr {ad : Nat → Nat} {cI cL : ClassId} {H H' : kH} {k : Nat} (h1 : ∀ f, hI H' k f = hI H k f) (h2 : ∀ f, hL H' k f = hL H k f) (h3 : ∀ f, hR H' k f = hR H k f) : kcell ad cI cL H' k = kcell ad cI cL H k := by
  have e1 : hI H' k = hI H k := funext h1
  have e2 : hL H' k = hL H k := funext h2
  have e3 : (fun f c => kfv ad H' k c f) = (fun f c => kfv ad H k c f) := by
    funext f c
    exact kfv_congr (h1 f) (h2 f) (h3 f)
  unfold kcell
  rw [e1, e2]
  have e4 : ∀ c, (fun f => kfv ad H' k c f) = (fun f => kfv ad H k c f) := fun c => funext fun f => kfv_congr (h1 f) (h2 f) (h3 f)
  split <;> first | rfl | (rw [e4])
/-- a field is written -/
theorem kcell_put {ad : Nat → Nat} {cI cL : ClassId} {H H' : kH} {k c f : Nat} {v : Value} (hs : shp k = (0, c)) (hv : kfv ad H' k c f = v) (ho : ∀ g, g ≠ f → kfv ad H' k c g = kfv ad H k c g) : (Sum.inr (c, ((List.range (knf c)).map (fun f => kfv ad H k c f)).set f v) : va_E) = kcell ad cI cL H' k := by
  unfold kcell
  rw [hs]
  show (Sum.inr (c, _) : va_E) = Sum.inr (c, _)
  congr 2
  apply List.ext_getElem?
  intro j
  by_cases hj : j = f
  · subst hj
    by_cases hl : j < knf c
    · rw [List.getElem?_set_self (by simpa using hl), List.getElem?_map, List.getElem?_range hl]
      exact congrArg some hv.symm
    · rw [List.getElem?_eq_none (by simp; omega), List.getElem?_eq_none (by simp; omega)]
  · rw [List.getElem?_set_ne (Ne.symm hj)]
    by_cases hl : j < knf c
    · rw [List.getElem?_map, List.getElem?_map, List.getElem?_range hl]
      exact congrArg some (ho j hj).symm
    · rw [List.getElem?_eq_none (by simp; omega), List.getElem?_eq_none (by simp; omega)]
/-- the locals -/
def kLR (ad : Nat → Nat) (arr : Array Slot) (n : Nat) (ls : List Value) : Prop := arr.size = n ∧ ls.length = n ∧ lv_wf arr ∧ ∀ (i : Nat) (v : Value), ls[i]? = some v → v ≠ .null → arr[i]? = some (.val (vR ad v))
def kpo (ad : Nat → Nat) (i : Nat) (o : Option Value) : Option (Nat × Value) :=
  match o with
  | some Value.null => none
  | some v => some (i, vR ad v)
  | none => none
def kpr (ad : Nat → Nat) (ls : List Value) : List (Nat × Value) := (List.range ls.length).filterMap (fun i => kpo ad i ls[i]?)
theorem kpr_mem {ad : Nat → Nat} {ls : List Value} {q : Nat × Value} (h : q ∈ kpr ad ls) : ∃ v, ls[q.1]? = some v ∧ v ≠ .null ∧ q.2 = vR ad v := by
  obtain ⟨i, -, h2⟩ := List.mem_filterMap.mp h
  cases hv : ls[i]? with
  | none => rw [hv] at h2; cases h2
  | some v =>
    rw [hv] at h2
    cases v <;> first | (cases h2; done) | (cases h2; exact ⟨_, hv, (fun z => (by cases z)), rfl⟩)
theorem kpr_in {ad : Nat → Nat} {ls : List Value} {i : Nat} {v : Value} (h : ls[i]? = some v) (hn : v ≠ .null) : (i, vR ad v) ∈ kpr ad ls := by
  refine List.mem_filterMap.mpr ⟨i, List.mem_range.mpr (List.getElem?_eq_some_iff.mp h).1, ?_⟩
  rw [h]
  cases v with
  | null => exact absurd rfl hn
  | _ => rfl
theorem kLR_has {ad : Nat → Nat} {arr : Array Slot} {n : Nat} {ls : List Value} (h : kLR ad arr n ls) : lv_has arr n (kpr ad ls) := by
  obtain ⟨h1, h2, h3, h4⟩ := h
  refine ⟨h1, h3, fun q hq => ?_⟩
  obtain ⟨v, e1, e2, e3⟩ := kpr_mem hq
  rw [e3]
  exact h4 _ _ e1 e2
theorem kClr_len (ls : List Value) (i : Nat) : (kClr ls i).length = ls.length := by
  unfold kClr
  split
  · rfl
  · split <;> simp
theorem kClr_get {ls : List Value} {i j : Nat} {v : Value} (h : (kClr ls i)[j]? = some v) (hn : v ≠ .null) : ls[j]? = some v ∧ ¬ (j + 1 = i ∧ v.category = 2) := by
  unfold kClr at h
  split at h
  · exact ⟨h, by omega⟩
  · rename_i k
    have key : ∀ w : Value, ls[k]? = some w → (ls.set k .null)[j]? = some v → ls[j]? = some v ∧ ¬ (j + 1 = k + 1 ∧ v.category = 2) := by
      intro w e h
      by_cases hj : j = k
      · subst hj
        rw [List.getElem?_set_self (List.getElem?_eq_some_iff.mp e).1] at h
        cases h
        exact absurd rfl hn
      · rw [List.getElem?_set_ne (Ne.symm hj)] at h
        exact ⟨h, by omega⟩
    split at h
    · rename_i x e
      exact key _ e h
    · rename_i x e
      exact key _ e h
    · rename_i h1 h2
      refine ⟨h, ?_⟩
      rintro ⟨e1, e2⟩
      have : j = k := by omega
      subst this
      cases v <;> first | exact h1 _ h | exact h2 _ h | cases e2
theorem kLR_st1 {ad : Nat → Nat} {arr arr' : Array Slot} {n i : Nat} {ls : List Value} {v : Value} (h : kLR ad arr n ls)
    (hh : lv_has arr' n ((i, vR ad v) :: (kpr ad ls).filter (fun q => !(q.1 == i) && !(q.1 + 1 == i && q.2.category == 2)))) : kLR ad arr' n (kSt1 ls i v) := by
  obtain ⟨g1, g2, g3⟩ := hh
  refine ⟨g1, by unfold kSt1; rw [List.length_set, kClr_len]; exact h.2.1, g2, fun j w hj hw => ?_⟩
  unfold kSt1 at hj
  by_cases e : j = i
  · subst e
    by_cases hl : j < (kClr ls j).length
    · rw [List.getElem?_set_self hl] at hj
      cases hj
      exact g3 _ List.mem_cons_self
    · rw [List.getElem?_eq_none (by rw [List.length_set]; omega)] at hj
      cases hj
  · rw [List.getElem?_set_ne (Ne.symm e)] at hj
    obtain ⟨e1, e2⟩ := kClr_get hj hw
    refine g3 (j, vR ad w) (List.mem_cons_of_mem _ (List.mem_filter.mpr ⟨kpr_in e1 hw, ?_⟩))
    have c1 : (j == i) = false := by simp [e]
    simp only [c1, Bool.not_false, Bool.true_and, Bool.not_eq_true', Bool.and_eq_false_iff]
    by_cases e3 : j + 1 = i
    · right
      rw [vR_cat]
      exact beq_false_of_ne (fun z => e2 ⟨e3, z⟩)
    · left
      simp [e3]
theorem kLR_st2 {ad : Nat → Nat} {arr arr' : Array Slot} {n i : Nat} {ls : List Value} {v : Value} (h : kLR ad arr n ls)
    (hh : lv_has arr' n ((i, vR ad v) :: (kpr ad ls).filter (fun q => !(q.1 == i) && (!(q.1 == i + 1) && !(q.1 + 1 == i && q.2.category == 2))))) : kLR ad arr' n (kSt2 ls i v) := by
  obtain ⟨g1, g2, g3⟩ := hh
  refine ⟨g1, by unfold kSt2; rw [List.length_set, List.length_set, kClr_len]; exact h.2.1, g2, fun j w hj hw => ?_⟩
  unfold kSt2 at hj
  by_cases e0 : j = i + 1
  · subst e0
    by_cases hl : i + 1 < ((kClr ls i).set i v).length
    · rw [List.getElem?_set_self hl] at hj
      cases hj
      exact absurd rfl hw
    · rw [List.getElem?_eq_none (by rw [List.length_set]; omega)] at hj
      cases hj
  rw [List.getElem?_set_ne (Ne.symm e0)] at hj
  by_cases e : j = i
  · subst e
    by_cases hl : j < (kClr ls j).length
    · rw [List.getElem?_set_self hl] at hj
      cases hj
      exact g3 _ List.mem_cons_self
    · rw [List.getElem?_eq_none (by rw [List.length_set]; omega)] at hj
      cases hj
  · rw [List.getElem?_set_ne (Ne.symm e)] at hj
    obtain ⟨e1, e2⟩ := kClr_get hj hw
    refine g3 (j, vR ad w) (List.mem_cons_of_mem _ (List.mem_filter.mpr ⟨kpr_in e1 hw, ?_⟩))
    have c1 : (j == i) = false := by simp [e]
    have c2 : (j == i + 1) = false := by simp [e0]
    simp only [c1, c2, Bool.not_false, Bool.true_and, Bool.not_eq_true', Bool.and_eq_false_iff]
    by_cases e3 : j + 1 = i
    · right
      rw [vR_cat]
      exact beq_false_of_ne (fun z => e2 ⟨e3, z⟩)
    · left
      simp [e3]
end
section
/-! one instruction: the abstract step is the machine's -/
theorem kfind {α : Type} {l : List α} {p : α → Bool} {β : Type} {f : α → β} {b : β} (h : (l.find? p).map f = some b) : ∃ q, q ∈ l ∧ p q = true ∧ f q = b := by
  rw [Option.map_eq_some_iff] at h
  obtain ⟨q, h1, h2⟩ := h
  exact ⟨q, List.mem_of_find?_eq_some h1, List.find?_some h1, h2⟩
/-- the links of nest mates -/
def kNs (s : State) : Prop := ∀ q ∈ kcT, q.2.2.1 = 2 → va_Nw (.methodLinkNest (cow q.1) q.2.1 (my q.2.2.2.1) "SneezeKing") s
/-- what stands of the launch at a method's start: the text, COMPACT_STRINGS, the script -/
def kCF (ad : Nat → Nat) (L : Nat) (xs : Nat → Int32) (s : State) (Hp : Heap) : Prop :=
  vk_S 1 [5] [kbs] (fun _ => ad 39) (fun _ => ad 40) (kA ad) s Hp ∧ vk_R "SneezeKing$Page" 35 "psfdc" (ad 39) s ∧ va_Z "java/lang/String" "COMPACT_STRINGS" "Z" (.int 1) (kA ad) s Hp ∧ va_X (ad 38) L xs s Hp ∧ ad 38 < Hp.size ∧ ¬ kA ad (ad 38) ∧ kNs s
def kSc (L : Nat) (xs : Nat → Int32) (H : kH) : Prop := (∀ j, hI H 38 j = xs j) ∧ hI H 41 0 = nI L ∧ L ≤ 2048
def kFC (p : Program) (s : State) (mi : MethodId) (c : Code) (args : Array Value) (R : Room) (m cells slots : Nat) : Prop :=
  p.tables.exec = Jvm.exec ∧ c.code = mbyt m ∧ c.maxLocals = mnL m ∧ s.vm.findClass (cow (mow m)) = some mi.cls ∧ (∀ w ∈ kAW, w.before args s = true) ∧ mfr m ≤ R.frames ∧ mlo m ≤ R.locals ∧ cells ≤ R.cells ∧ slots ≤ R.slots
theorem kSc_upd {L : Nat} {xs : Nat → Int32} {H H' : kH} (h : kSc L xs H) (h1 : ∀ k j, 38 ≤ k → hI H' k j = hI H k j) : kSc L xs H' := ⟨fun j => (h1 38 j (by omega)).trans (h.1 j), (h1 41 0 (by omega)).trans h.2.1, h.2.2⟩
theorem kws_0 : u_ws RX0 TX0 12 = ([76, 78, 80, 82, 84, 86, 88, 90, 92, 94, 96, 98] : List Nat).filterMap (fun i => lw_tbl[i]?) := by decide +kernel
theorem kwg_0 : (u_ws RX0 TX0 12).all goodWord = true := by decide +kernel
theorem kws_1 : u_ws RX1 TX1 2 = ([110, 112] : List Nat).filterMap (fun i => lw_tbl[i]?) := by decide +kernel
theorem kwg_1 : (u_ws RX1 TX1 2).all goodWord = true := by decide +kernel
theorem kws_2 : u_ws RX2 TX2 8 = ([129, 131, 133, 135, 137, 139, 141, 143] : List Nat).filterMap (fun i => lw_tbl[i]?) := by decide +kernel
theorem kwg_2 : (u_ws RX2 TX2 8).all goodWord = true := by decide +kernel
theorem kws_3 : u_ws RX4 TX4 4 = ([157, 159, 161, 163] : List Nat).filterMap (fun i => lw_tbl[i]?) := by decide +kernel
theorem kwg_3 : (u_ws RX4 TX4 4).all goodWord = true := by decide +kernel
theorem kws_4 : u_ws RX5 TX5 7 = ([173, 175, 177, 179, 181, 183, 185] : List Nat).filterMap (fun i => lw_tbl[i]?) := by decide +kernel
theorem kwg_4 : (u_ws RX5 TX5 7).all goodWord = true := by decide +kernel
theorem kws_5 : u_ws RX6 TX6 26 = ([749, 751, 753, 755, 757, 759, 761, 763, 765, 767, 769, 771, 773, 775, 777, 779, 781, 783, 785, 787, 789, 791, 793, 795, 797, 799] : List Nat).filterMap (fun i => lw_tbl[i]?) := by decide +kernel
theorem kwg_5 : (u_ws RX6 TX6 26).all goodWord = true := by decide +kernel
theorem kws_in {ws : List Cond} {ps : List Nat} (h : ws = ps.filterMap (fun i => lw_tbl[i]?)) (hg : ws.all goodWord = true) : ∀ w ∈ ws, w ∈ kAW := by
  intro w hw
  have h1 := List.all_eq_true.mp hg w hw
  rw [h] at hw
  obtain ⟨i, -, hi⟩ := List.mem_filterMap.mp hw
  exact kAW_of hi h1
def kty (c : Nat) : Nat → FieldType := match c with
  | 0 => tyX0
  | 1 => tyX1
  | 2 => tyX2
  | 3 => tyX4
  | 4 => tyX5
  | _ => tyX6
theorem kvw : ∀ c, c < 6 → ∃ C T N, vwCl[c]? = some (C, T, N) ∧ N = knf c ∧ (∀ w ∈ u_ws C T N, w ∈ kAW) ∧ (∀ k, k < N → parseFieldDescriptor (T k).2.2.1 = some (kty c k)) ∧ (∀ a, a < N → ∀ b, b < N → a ≠ b → (T a).2.1 ≠ (T b).2.1) ∧ (∀ k, k < N → ((T k).2.2.2 = true ↔ fki c k = 3) ∧ (fki c k = 0 → kty c k = .int) ∧ (fki c k = 1 → kty c k = .boolean) ∧ (fki c k = 2 → kty c k = .long) ∧ (fki c k = 4 → kty c k = .array .long)) := by
  intro c hc
  match c, hc with
  | 0, _ => exact ⟨RX0, TX0, 12, rfl, by decide +kernel, kws_in kws_0 kwg_0, tyX0_ok, nmX0, by decide +kernel⟩
  | 1, _ => exact ⟨RX1, TX1, 2, rfl, by decide +kernel, kws_in kws_1 kwg_1, tyX1_ok, nmX1, by decide +kernel⟩
  | 2, _ => exact ⟨RX2, TX2, 8, rfl, by decide +kernel, kws_in kws_2 kwg_2, tyX2_ok, nmX2, by decide +kernel⟩
  | 3, _ => exact ⟨RX4, TX4, 4, rfl, by decide +kernel, kws_in kws_3 kwg_3, tyX4_ok, nmX4, by decide +kernel⟩
  | 4, _ => exact ⟨RX5, TX5, 7, rfl, by decide +kernel, kws_in kws_4 kwg_4, tyX5_ok, nmX5, by decide +kernel⟩
  | 5, _ => exact ⟨RX6, TX6, 26, rfl, by decide +kernel, kws_in kws_5 kwg_5, tyX6_ok, nmX6, by decide +kernel⟩
  | n + 6, h => exact absurd h (by omega)

section KST
variable {p : Program} {l : Launch} {e : Env} {R : Room} {s : State} {mi : MethodId} {args : Array Value} {below : List Frame} {meth : Method} {c : Code} {cells slots : Nat} {Q : State → Prop}
variable {ad : Nat → Nat} {D : va_G} {cI cL : ClassId} {L : Nat} {xs : Nat → Int32}
def kWt (p : Program) (l : Launch) (e : Env) (R : Room) (s : State) (mi : MethodId) (args : Array Value) (below : List Frame) (meth : Method) (c : Code) (cells slots : Nat) (Q : State → Prop) (ad : Nat → Nat) (D : va_G) (cI cL : ClassId) (L : Nat) (xs : Nat → Int32) (m : Nat) (a : Nat × List Value × List Value × kH) : Prop :=
  ∀ (Hp : Heap) (locs : List Loc) (arr : Array Slot), va_P D vwCl (kW ad cI cL a.2.2.2) Hp → va_S (kA ad) s.heap Hp locs → kLR ad arr (mnL m) a.2.1 → kSc L xs a.2.2.2 → W p l e R s mi args below meth c Hp locs cells slots Q (F0 mi a.1 arr (a.2.2.1.map (vR ad)))
theorem kNx_inv {pc : Nat} {ls st : List Value} {H : kH} {a : Nat × List Value × List Value × kH} (h : kNx pc ls st H = some a) : a = (pc, ls, st, H) := by
  unfold kNx at h
  cases h
  rfl
theorem kcell_arr {H : kH} {k n : Nat} (h : shp k = (1, n)) : kcell ad cI cL H k = .inl (cI, n, .inl (hI H k)) := by
  unfold kcell
  rw [h]
  rfl
theorem kcell_arL {H : kH} {k n : Nat} (h : shp k = (2, n)) : kcell ad cI cL H k = .inl (cL, n, .inr (.inl (hL H k))) := by
  unfold kcell
  rw [h]
  rfl
theorem kcell_ob {H : kH} {k n : Nat} (h : shp k = (0, n)) : kcell ad cI cL H k = .inr (n, (List.range (knf n)).map (fun f => kfv ad H k n f)) := by
  unfold kcell
  rw [h]
  rfl
theorem shp_lt : ∀ k, k < 41 → ¬ k < 38 → (shp k).1 ≠ 0 ∧ (shp k).1 ≠ 1 ∧ (shp k).1 ≠ 2 ∧ ((shp k).1 = 4 → k = 38) ∧ (shp k = (6, 5) ∧ k = 40 ∨ (shp k).1 ≠ 6) := by decide +kernel
theorem shp_lo : ∀ k, k < 38 → (shp k).1 ≠ 4 ∧ (shp k).1 ≠ 6 ∧ ((shp k).1 = 0 → (shp k).2 < 6) := by decide +kernel
theorem shp_big {k : Nat} (h : ¬ k < 41) : shp k = (9, 0) := by
  unfold shp
  rw [List.getD_eq_getElem?_getD, List.getElem?_eq_none (by show 41 ≤ k; omega)]
  rfl
theorem shp_in {k a n : Nat} (h : shp k = (a, n)) (ha : a = 0 ∨ a = 1 ∨ a = 2) : k < 38 := by
  rcases Nat.lt_or_ge k 38 with q | q
  · exact q
  · by_cases h41 : k < 41
    · obtain ⟨h1, h2, h3, -⟩ := shp_lt k h41 (by omega)
      rw [h] at h1 h2 h3
      dsimp only at h1 h2 h3
      omega
    · rw [shp_big h41] at h
      cases h
      omega
theorem shp_4 {k n : Nat} (h : shp k = (4, n)) : k = 38 := by
  rcases Nat.lt_or_ge k 38 with q | q
  · exact absurd (by rw [h]) (shp_lo k q).1
  · by_cases h41 : k < 41
    · exact (shp_lt k h41 (by omega)).2.2.2.1 (by rw [h])
    · rw [shp_big h41] at h
      cases h
theorem shp_6 {k n : Nat} (h : shp k = (6, n)) : k = 40 ∧ n = 5 := by
  rcases Nat.lt_or_ge k 38 with q | q
  · exact absurd (by rw [h]) (shp_lo k q).2.1
  · by_cases h41 : k < 41
    · rcases (shp_lt k h41 (by omega)).2.2.2.2 with ⟨h1, h2⟩ | h1
      · rw [h] at h1
        cases h1
        exact ⟨h2, rfl⟩
      · exact absurd (by rw [h]) h1
    · rw [shp_big h41] at h
      cases h
theorem shp_ob {k c : Nat} (h : shp k = (0, c)) : k < 38 ∧ c < 6 := by
  have h1 := shp_in h (Or.inl rfl)
  have h2 := (shp_lo k h1).2.2 (by rw [h])
  rw [h] at h2
  exact ⟨h1, h2⟩
theorem kcells_uI {H : kH} {k f : Nat} {x : Int32} : ∀ j, j ≠ k → kcell ad cI cL (uI H k f x) j = kcell ad cI cL H j := fun j hj => kcell_congr (fun g => by rw [hI_uI, if_neg (fun z => hj z.1)]) (fun _ => rfl) (fun _ => rfl)
theorem kcells_uL {H : kH} {k f : Nat} {x : Int64} : ∀ j, j ≠ k → kcell ad cI cL (uL H k f x) j = kcell ad cI cL H j := fun j hj => kcell_congr (fun _ => rfl) (fun g => by rw [hL_uL, if_neg (fun z => hj z.1)]) (fun _ => rfl)
theorem kcells_uR {H : kH} {k f : Nat} {x : Nat} : ∀ j, j ≠ k → kcell ad cI cL (uR H k f x) j = kcell ad cI cL H j := fun j hj => kcell_congr (fun _ => rfl) (fun _ => rfl) (fun g => by rw [hR_uR, if_neg (fun z => hj z.1)])
theorem kcells_uC {H : kH} {k : Nat} {f : Nat → Int32} : ∀ j, j ≠ k → kcell ad cI cL (uC H k f) j = kcell ad cI cL H j := fun j hj => kcell_congr (fun g => by rw [hI_uC, if_neg hj]) (fun _ => rfl) (fun _ => rfl)
theorem kSc_uI {H : kH} {k f : Nat} {x : Int32} (h : kSc L xs H) (hk : k < 38) : kSc L xs (uI H k f x) := kSc_upd h (fun a b ha => by rw [hI_uI, if_neg (by omega)])
theorem kSc_uC {H : kH} {k : Nat} {f : Nat → Int32} (h : kSc L xs H) (hk : k < 38) : kSc L xs (uC H k f) := kSc_upd h (fun a b ha => by rw [hI_uC, if_neg (by omega)])
theorem kLdI_inv {ls st : List Value} {i pc : Nat} {H : kH} {a : Nat × List Value × List Value × kH} (h : kLdI ls i pc st H = some a) : ∃ x, ls[i]? = some (.int x) ∧ a = (pc, ls, .int x :: st, H) := by
  unfold kLdI at h
  split at h
  · rename_i x ex
    exact ⟨x, ex, kNx_inv h⟩
  · cases h
theorem kLdL_inv {ls st : List Value} {i pc : Nat} {H : kH} {a : Nat × List Value × List Value × kH} (h : kLdL ls i pc st H = some a) : ∃ x, ls[i]? = some (.long x) ∧ a = (pc, ls, .long x :: st, H) := by
  unfold kLdL at h
  split at h
  · rename_i x ex
    exact ⟨x, ex, kNx_inv h⟩
  · cases h
theorem kLdR_inv {ls st : List Value} {i pc : Nat} {H : kH} {a : Nat × List Value × List Value × kH} (h : kLdR ls i pc st H = some a) : ∃ x, ls[i]? = some (.ref x) ∧ a = (pc, ls, .ref x :: st, H) := by
  unfold kLdR at h
  split at h
  · rename_i x ex
    exact ⟨x, ex, kNx_inv h⟩
  · cases h
theorem kSoI_inv {m : Nat} {ls st : List Value} {i pc : Nat} {H : kH} {a : Nat × List Value × List Value × kH} (h : kSoI m ls i pc st H = some a) : ∃ x r, st = .int x :: r ∧ i < mnL m ∧ a = (pc, kSt1 ls i (.int x), r, H) := by
  unfold kSoI at h
  split at h
  · split at h
    · rename_i hi
      exact ⟨_, _, rfl, hi, kNx_inv h⟩
    · cases h
  · cases h
theorem kSoR_inv {m : Nat} {ls st : List Value} {i pc : Nat} {H : kH} {a : Nat × List Value × List Value × kH} (h : kSoR m ls i pc st H = some a) : ∃ x r, st = .ref x :: r ∧ i < mnL m ∧ a = (pc, kSt1 ls i (.ref x), r, H) := by
  unfold kSoR at h
  split at h
  · split at h
    · rename_i hi
      exact ⟨_, _, rfl, hi, kNx_inv h⟩
    · cases h
  · cases h
theorem kSoL_inv {m : Nat} {ls st : List Value} {i pc : Nat} {H : kH} {a : Nat × List Value × List Value × kH} (h : kSoL m ls i pc st H = some a) : ∃ x r, st = .long x :: r ∧ i + 1 < mnL m ∧ a = (pc, kSt2 ls i (.long x), r, H) := by
  unfold kSoL at h
  split at h
  · split at h
    · rename_i hi
      exact ⟨_, _, rfl, hi, kNx_inv h⟩
    · cases h
  · cases h
theorem kB2_inv {f : Int32 → Int32 → Int32} {pc : Nat} {ls st : List Value} {H : kH} {a : Nat × List Value × List Value × kH} (h : kB2 f pc ls st H = some a) : ∃ x y r, st = .int y :: .int x :: r ∧ a = (pc + 1, ls, .int (f x y) :: r, H) := by
  unfold kB2 at h
  split at h
  · exact ⟨_, _, _, rfl, kNx_inv h⟩
  · cases h
theorem kL2_inv {f : Int64 → Int64 → Int64} {pc : Nat} {ls st : List Value} {H : kH} {a : Nat × List Value × List Value × kH} (h : kL2 f pc ls st H = some a) : ∃ x y r, st = .long y :: .long x :: r ∧ a = (pc + 1, ls, .long (f x y) :: r, H) := by
  unfold kL2 at h
  split at h
  · exact ⟨_, _, _, rfl, kNx_inv h⟩
  · cases h
theorem kLS_inv {f : Int64 → Int32 → Int64} {pc : Nat} {ls st : List Value} {H : kH} {a : Nat × List Value × List Value × kH} (h : kLS f pc ls st H = some a) : ∃ x y r, st = .int y :: .long x :: r ∧ a = (pc + 1, ls, .long (f x y) :: r, H) := by
  unfold kLS at h
  split at h
  · exact ⟨_, _, _, rfl, kNx_inv h⟩
  · cases h
theorem kU1_inv {f : Int32 → Int32} {pc : Nat} {ls st : List Value} {H : kH} {a : Nat × List Value × List Value × kH} (h : kU1 f pc ls st H = some a) : ∃ x r, st = .int x :: r ∧ a = (pc + 1, ls, .int (f x) :: r, H) := by
  unfold kU1 at h
  split at h
  · exact ⟨_, _, rfl, kNx_inv h⟩
  · cases h
theorem kBr_inv {q : Prop} [Decidable q] {pc : Nat} {off : Int} {ls st : List Value} {H : kH} {a : Nat × List Value × List Value × kH} (h : kBr q pc off ls st H = some a) : 0 ≤ (pc : Int) + off ∧ ((q ∧ a = (((pc : Int) + off).toNat, ls, st, H)) ∨ (¬ q ∧ a = (pc + 3, ls, st, H))) := by
  unfold kBr at h
  split at h
  · rename_i h0
    refine ⟨h0, ?_⟩
    split at h
    · rename_i hq
      exact Or.inl ⟨hq, kNx_inv h⟩
    · rename_i hq
      exact Or.inr ⟨hq, kNx_inv h⟩
  · cases h
theorem kGo_inv {pc : Nat} {off : Int} {ls st : List Value} {H : kH} {a : Nat × List Value × List Value × kH} (h : kGo pc off ls st H = some a) : 0 ≤ (pc : Int) + off ∧ a = (((pc : Int) + off).toNat, ls, st, H) := by
  unfold kGo at h
  split at h
  · rename_i h0
    exact ⟨h0, kNx_inv h⟩
  · cases h
variable {m pc : Nat} {ls st : List Value} {H : kH} {a : Nat × List Value × List Value × kH}
theorem kget_W {ix : Nat} (hF : kFC p s mi c args R m cells slots) (hK : va_K D vwCl [(cI, .int), (cL, .long)] s) (hC : kCF ad L xs s s.heap) (hd : decode (mbyt m) pc = .ok (.getfield ix, 3)) (h : kIns m (.getfield ix) pc ls st H = some a)
    (kk : kWt p l e R s mi args below meth c cells slots Q ad D cI cL L xs m a) : kWt p l e R s mi args below meth c cells slots Q ad D cI cL L xs m (pc, ls, st, H) := by
  intro Hp locs arr hP hS hl hX
  obtain ⟨hx, hb, hml, hown, hts, -⟩ := hF
  unfold kIns at h
  dsimp only at h
  split at h
  · rename_i cc f k r hcp
    split at h
    · rename_i v hv
      obtain rfl := kNx_inv h
      obtain ⟨q, q1, q2, q3⟩ := kfind hcp
      simp only [Bool.and_eq_true, beq_iff_eq] at q2
      obtain ⟨q2, rfl⟩ := q2
      cases q3
      unfold gf at hv
      split at hv
      · rename_i h9
        split at hv
        · rename_i hk
          subst hk
          rcases kT_fldS q q1 (by omega) with ⟨f0, hw⟩ | ⟨f0, hw⟩
          · rw [if_pos f0] at hv
            cases hv
            rw [q2] at hw
            exact vk_getf hx hb (hC.1.1 0 (by omega)).2.2.1 hS hown (hts _ (kAW_of hw rfl)) (fun _ z => z) hd (kk _ _ _ hP hS hl hX)
          · rw [if_neg (by omega)] at hv
            cases hv
            rw [q2] at hw
            exact vk_getf hx hb (hC.1.1 0 (by omega)).2.1 hS hown (hts _ (kAW_of hw rfl)) (fun _ z => z) hd (kk _ _ _ hP hS hl hX)
        · cases hv
      · split at hv
        · rename_i hs
          obtain ⟨hk, hc6⟩ := shp_ob hs
          obtain ⟨C, T, N, e1, e2, e3, -⟩ := kvw _ hc6
          obtain ⟨g1, g2, g3⟩ := kT_fld q q1 hc6 _ e1
          dsimp only at g1 g2 g3
          rw [q2] at g1
          have hv' : kfv ad H k q.2.2.1 q.2.2.2.1 = vR ad v := by
            unfold kfv
            split at hv <;> first | (cases hv; rename_i ef; rw [ef]; rfl) | cases hv
          refine va_get (C := C) (T := T) (N := N) (ci := q.2.2.1) hx hb hts e3 hown hK hP k ((kW_get hk).trans (by rw [kcell_ob hs])) e1 q.2.2.2.1 g2 (hts _ (kAW_of g1 rfl)) (fun x z => by rw [g3] at z; exact z) (v := vR ad v) ?_ hd (kk _ _ _ hP hS hl hX)
          rw [List.getElem?_map, List.getElem?_range (by rw [← e2]; exact g2)]
          exact congrArg some hv'
        · cases hv
    · cases h
  · cases h
theorem kput_W {ix : Nat} (hF : kFC p s mi c args R m cells slots) (hK : va_K D vwCl [(cI, .int), (cL, .long)] s) (hi : kInj ad) (hd : decode (mbyt m) pc = .ok (.putfield ix, 3)) (h : kIns m (.putfield ix) pc ls st H = some a)
    (kk : kWt p l e R s mi args below meth c cells slots Q ad D cI cL L xs m a) : kWt p l e R s mi args below meth c cells slots Q ad D cI cL L xs m (pc, ls, st, H) := by
  intro Hp locs arr hP hS hl hX
  obtain ⟨hx, hb, hml, hown, hts, -⟩ := hF
  unfold kIns at h
  dsimp only at h
  split at h
  · rename_i cc f v k r hcp
    split at h
    · rename_i H' hv
      obtain rfl := kNx_inv h
      obtain ⟨q, q1, q2, q3⟩ := kfind hcp
      simp only [Bool.and_eq_true, beq_iff_eq] at q2
      obtain ⟨q2, rfl⟩ := q2
      cases q3
      unfold pf at hv
      split at hv
      · rename_i hs
        obtain ⟨hs, -⟩ := hs
        obtain ⟨hk, hc6⟩ := shp_ob hs
        obtain ⟨C, T, N, e1, e2, e3, e4, e5, e6⟩ := kvw _ hc6
        obtain ⟨g1, g2, g3⟩ := kT_fld q q1 hc6 _ e1
        dsimp only at g1 g2 g3
        rw [q2] at g1
        obtain ⟨k1, k2, k3, k4, k5⟩ := e6 _ g2
        have key : ∀ (ty : FieldType) (v' : Value), v' = vR ad v → kty q.2.2.1 q.2.2.2.1 = ty → fki q.2.2.1 q.2.2.2.1 ≠ 3 → narrow ty v' = v' → fits ty v' = true → kfv ad H' k q.2.2.1 q.2.2.2.1 = v' →
            (∀ g, g ≠ q.2.2.2.1 → kfv ad H' k q.2.2.1 g = kfv ad H k q.2.2.1 g) → (∀ j, j ≠ k → kcell ad cI cL H' j = kcell ad cI cL H j) → kSc L xs H' →
            W p l e R s mi args below meth c Hp locs cells slots Q (F0 mi pc arr ((v :: .ref k :: r).map (vR ad))) := by
          intro ty v' ev' ht h3 hn hfit hkv ho hoj hX'
          refine W.eq (g2 := F0 mi pc arr (v' :: .ref (ad k) :: r.map (vR ad))) (by rw [ev']; rfl) ?_
          refine va_put (C := C) (T := T) (N := N) (ci := q.2.2.1) hx hb hts e3 (kty q.2.2.1) e4 e5 hown hK hP (kD hi _ _ _) hS k ((kW_get hk).trans (by rw [kcell_ob hs])) e1 q.2.2.2.1 g2 (hts _ (kAW_of g1 rfl)) (fun x z => by rw [g3] at z; exact z) ?_ (ty := ty) (by rw [e4 _ g2, ht]) hn hfit ?_ hd (fun H1 locs1 hP1 hD1 hS1 => ?_)
          · cases hq : (T q.2.2.2.1).2.2.2 with
            | false => rfl
            | true => exact absurd (k1.mp hq) h3
          · rw [List.length_map, List.length_range, ← e2]; exact g2
          · rw [kW_set hk (kcell_put hs hkv ho) hoj] at hP1
            exact kk _ _ _ hP1 hS1 hl hX'
        split at hv
        · rename_i x ef
          cases hv
          exact key .int (.int x) rfl (k2 ef) (by omega) rfl rfl (by unfold kfv; rw [ef, hI_uI, if_pos ⟨rfl, rfl⟩]; rfl) (fun g hg => kfv_congr (by rw [hI_uI, if_neg (fun z => hg z.2)]) rfl rfl) kcells_uI (kSc_uI hX hk)
        · rename_i x ef
          split at hv
          · rename_i h01
            cases hv
            refine key .boolean (.int x) rfl (k3 ef) (by omega) ?_ ?_ (by unfold kfv; rw [ef, hI_uI, if_pos ⟨rfl, rfl⟩]; rfl) (fun g hg => kfv_congr (by rw [hI_uI, if_neg (fun z => hg z.2)]) rfl rfl) kcells_uI (kSc_uI hX hk)
            · rcases h01 with rfl | rfl <;> rfl
            · rcases h01 with rfl | rfl <;> rfl
          · cases hv
        · rename_i x ef
          cases hv
          exact key .long (.long x) rfl (k4 ef) (by omega) rfl rfl (by unfold kfv; rw [ef, hL_uL, if_pos ⟨rfl, rfl⟩]; rfl) (fun g hg => kfv_congr rfl (by rw [hL_uL, if_neg (fun z => hg z.2)]) rfl) kcells_uL (kSc_upd hX (fun _ _ _ => rfl))
        · rename_i x ef
          split at hv
          · cases hv
            exact key (.array .long) (.ref (ad x)) rfl (k5 ef) (by omega) rfl rfl (by unfold kfv; rw [ef, hR_uR, if_pos ⟨rfl, rfl⟩]; rfl) (fun g hg => kfv_congr rfl rfl (by rw [hR_uR, if_neg (fun z => hg z.2)])) kcells_uR (kSc_upd hX (fun _ _ _ => rfl))
          · cases hv
        · cases hv
      · cases hv
    · cases h
  · cases h
theorem klen_W (hF : kFC p s mi c args R m cells slots) (hK : va_K D vwCl [(cI, .int), (cL, .long)] s) (hC : kCF ad L xs s s.heap) (hd : decode (mbyt m) pc = .ok (.arraylength, 1)) (h : kIns m .arraylength pc ls st H = some a)
    (kk : kWt p l e R s mi args below meth c cells slots Q ad D cI cL L xs m a) : kWt p l e R s mi args below meth c cells slots Q ad D cI cL L xs m (pc, ls, st, H) := by
  intro Hp locs arr hP hS hl hX
  obtain ⟨hx, hb, hml, hown, hts, -⟩ := hF
  unfold kIns at h
  dsimp only at h
  split at h
  · rename_i k r
    split at h
    · rename_i v hv
      obtain rfl := kNx_inv h
      unfold alen at hv
      split at hv
      · rename_i n hs
        cases hv
        exact va_alen (x := (n, .inl (hI H k))) hx hb hK hP k 0 ((kW_get (shp_in hs (by omega))).trans (by rw [kcell_arr hs])) rfl rfl hd (kk _ _ _ hP hS hl hX)
      · rename_i n hs
        cases hv
        exact va_alen (x := (n, .inr (.inl (hL H k)))) hx hb hK hP k 1 ((kW_get (shp_in hs (by omega))).trans (by rw [kcell_arL hs])) rfl rfl hd (kk _ _ _ hP hS hl hX)
      · rename_i n hs
        cases hv
        obtain rfl := shp_4 hs
        refine va_slen hx hb hC.2.2.2.1 hC.2.2.2.2.1 hC.2.2.2.2.2.1 hS hd ?_
        have h1 := kk _ _ _ hP hS hl hX
        dsimp only at h1
        rw [hX.2.1] at h1
        exact h1
      · rename_i n hs
        cases hv
        obtain ⟨rfl, rfl⟩ := shp_6 hs
        obtain ⟨cell, t1, t2, t3, t4, t5, t6, t7⟩ := (hC.1.1 0 (by omega)).2.2.2
        exact W.alen (n := Int32.ofNat 5) hx hb (by rw [hS.2.1 _ (Array.getElem?_eq_some_iff.mp t1).1 t7]; exact t1) t2 t5 rfl rfl hd (kk _ _ _ hP hS hl hX)
      · cases hv
    · cases h
  · cases h
theorem kial_W (hF : kFC p s mi c args R m cells slots) (hK : va_K D vwCl [(cI, .int), (cL, .long)] s) (hC : kCF ad L xs s s.heap) (hd : decode (mbyt m) pc = .ok (.iaload, 1)) (h : kIns m .iaload pc ls st H = some a)
    (kk : kWt p l e R s mi args below meth c cells slots Q ad D cI cL L xs m a) : kWt p l e R s mi args below meth c cells slots Q ad D cI cL L xs m (pc, ls, st, H) := by
  intro Hp locs arr hP hS hl hX
  obtain ⟨hx, hb, hml, hown, hts, -⟩ := hF
  unfold kIns at h
  dsimp only at h
  split at h
  · rename_i i k r
    split at h
    · rename_i v hv
      obtain rfl := kNx_inv h
      unfold aI at hv
      split at hv
      · rename_i n hs
        split at hv
        · cases hv
        · rename_i hin
          cases hv
          exact va_iald hx hb hK hP k 0 ((kW_get (shp_in hs (by omega))).trans (by rw [kcell_arr hs])) rfl hin hd (kk _ _ _ hP hS hl hX)
      · rename_i n hs
        split at hv
        · cases hv
        · rename_i hin
          cases hv
          obtain rfl := shp_4 hs
          have h1 := kk _ _ _ hP hS hl hX
          dsimp only at h1
          rw [hX.1] at h1
          rw [hX.2.1, nI_clamp (by have := hX.2.2; omega)] at hin
          exact va_sld hx hb hC.2.2.2.1 hC.2.2.2.2.1 hC.2.2.2.2.2.1 hS hin hd h1
      · cases hv
    · cases h
  · cases h
theorem klal_W (hF : kFC p s mi c args R m cells slots) (hK : va_K D vwCl [(cI, .int), (cL, .long)] s) (hd : decode (mbyt m) pc = .ok (.laload, 1)) (h : kIns m .laload pc ls st H = some a)
    (kk : kWt p l e R s mi args below meth c cells slots Q ad D cI cL L xs m a) : kWt p l e R s mi args below meth c cells slots Q ad D cI cL L xs m (pc, ls, st, H) := by
  intro Hp locs arr hP hS hl hX
  obtain ⟨hx, hb, hml, hown, hts, -⟩ := hF
  unfold kIns at h
  dsimp only at h
  split at h
  · rename_i i k r
    split at h
    · rename_i v hv
      obtain rfl := kNx_inv h
      unfold aL at hv
      split at hv
      · rename_i n hs
        split at hv
        · cases hv
        · rename_i hin
          cases hv
          exact va_lald hx hb hK hP k 1 ((kW_get (shp_in hs (by omega))).trans (by rw [kcell_arL hs])) rfl hin hd (kk _ _ _ hP hS hl hX)
      · cases hv
    · cases h
  · cases h
theorem kbal_W (hF : kFC p s mi c args R m cells slots) (hC : kCF ad L xs s s.heap) (hd : decode (mbyt m) pc = .ok (.baload, 1)) (h : kIns m .baload pc ls st H = some a)
    (kk : kWt p l e R s mi args below meth c cells slots Q ad D cI cL L xs m a) : kWt p l e R s mi args below meth c cells slots Q ad D cI cL L xs m (pc, ls, st, H) := by
  intro Hp locs arr hP hS hl hX
  obtain ⟨hx, hb, hml, hown, hts, -⟩ := hF
  unfold kIns at h
  dsimp only at h
  split at h
  · rename_i i k r
    split at h
    · rename_i v hv
      obtain rfl := kNx_inv h
      unfold aB at hv
      split at hv
      · rename_i hk
        subst hk
        split at hv
        · cases hv
        · rename_i hin
          cases hv
          obtain ⟨cell, t1, t2, t3, t4, t5, t6, t7⟩ := (hC.1.1 0 (by omega)).2.2.2
          have hlt : i.toNatClampNeg < 5 := Nat.not_le.mp fun q => hin (Or.inr q)
          have t4' : 5 ≤ cell.slots.size := t4
          exact W.bald (v := .int (kbs.getD i.toNatClampNeg 0)) hx hb (by rw [hS.2.1 _ (Array.getElem?_eq_some_iff.mp t1).1 t7]; exact t1) t2 t3 (fun z => hin (z.imp id (fun z => by omega))) (t6 _ hlt) rfl rfl hd (kk _ _ _ hP hS hl hX)
      · cases hv
    · cases h
  · cases h
theorem kias_W (hF : kFC p s mi c args R m cells slots) (hK : va_K D vwCl [(cI, .int), (cL, .long)] s) (hi : kInj ad) (hd : decode (mbyt m) pc = .ok (.iastore, 1)) (h : kIns m .iastore pc ls st H = some a)
    (kk : kWt p l e R s mi args below meth c cells slots Q ad D cI cL L xs m a) : kWt p l e R s mi args below meth c cells slots Q ad D cI cL L xs m (pc, ls, st, H) := by
  intro Hp locs arr hP hS hl hX
  obtain ⟨hx, hb, hml, hown, hts, -⟩ := hF
  unfold kIns at h
  dsimp only at h
  split at h
  · rename_i v i k r
    split at h
    · rename_i H' hv
      obtain rfl := kNx_inv h
      unfold sI at hv
      split at hv
      · rename_i n hs
        split at hv
        · cases hv
        · rename_i hin
          cases hv
          have hk := shp_in hs (by omega)
          refine va_iast hx hb hK hP (kD hi _ _ _) hS k 0 ((kW_get hk).trans (by rw [kcell_arr hs])) rfl hin hd (fun H1 locs1 hP1 hD1 hS1 => ?_)
          rw [kW_set (H' := uI H k i.toNatClampNeg v) hk ?_ kcells_uI] at hP1
          · exact kk _ _ _ hP1 hS1 hl (kSc_uI hX hk)
          · rw [kcell_arr hs]
            congr 4
            funext j
            rw [hI_uI]
            simp [upd]
      · cases hv
    · cases h
  · cases h
theorem klas_W (hF : kFC p s mi c args R m cells slots) (hK : va_K D vwCl [(cI, .int), (cL, .long)] s) (hi : kInj ad) (hd : decode (mbyt m) pc = .ok (.lastore, 1)) (h : kIns m .lastore pc ls st H = some a)
    (kk : kWt p l e R s mi args below meth c cells slots Q ad D cI cL L xs m a) : kWt p l e R s mi args below meth c cells slots Q ad D cI cL L xs m (pc, ls, st, H) := by
  intro Hp locs arr hP hS hl hX
  obtain ⟨hx, hb, hml, hown, hts, -⟩ := hF
  unfold kIns at h
  dsimp only at h
  split at h
  · rename_i v i k r
    split at h
    · rename_i H' hv
      obtain rfl := kNx_inv h
      unfold sL at hv
      split at hv
      · rename_i n hs
        split at hv
        · cases hv
        · rename_i hin
          cases hv
          have hk := shp_in hs (by omega)
          refine va_last hx hb hK hP (kD hi _ _ _) hS k 1 ((kW_get hk).trans (by rw [kcell_arL hs])) rfl hin hd (fun H1 locs1 hP1 hD1 hS1 => ?_)
          rw [kW_set (H' := uL H k i.toNatClampNeg v) hk ?_ kcells_uL] at hP1
          · exact kk _ _ _ hP1 hS1 hl (kSc_upd hX (fun _ _ _ => rfl))
          · rw [kcell_arL hs]
            congr 5
            funext j
            rw [hL_uL]
            simp [vp_updL]
      · cases hv
    · cases h
  · cases h
set_option maxRecDepth 100000 in
theorem kinv_W {ix : Nat} (hF : kFC p s mi c args R m cells slots) (hK : va_K D vwCl [(cI, .int), (cL, .long)] s) (hC : kCF ad L xs s s.heap) (hi : kInj ad) (hd : decode (mbyt m) pc = .ok (.invokestatic ix, 3)) (h : kIns m (.invokestatic ix) pc ls st H = some a)
    (kk : kWt p l e R s mi args below meth c cells slots Q ad D cI cL L xs m a) : kWt p l e R s mi args below meth c cells slots Q ad D cI cL L xs m (pc, ls, st, H) := by
  intro Hp locs arr hP hS hl hX
  obtain ⟨hx, hb, hml, hown, hts, hfr, hlo, hce, hsl⟩ := hF
  change kSpc m ix pc ls st H = some a at h
  · unfold kSpc at h
    split at h
    · rename_i kd hkd
      obtain ⟨q, q1, q2, q3⟩ := kfind hkd
      simp only [Bool.and_eq_true, beq_iff_eq] at q2
      obtain ⟨q2, rfl⟩ := q2
      split at h
      · rename_i y x r
        split at h
        · rename_i hc
          obtain ⟨c1, c2, c3⟩ := hc
          obtain rfl := kNx_inv h
          have hsum : ((r.map (vR ad)).map fun v => v.category).sum ≤ 8 := by
            have h0 : ∀ r : List Value, ((r.map (vR ad)).map fun v => v.category).sum ≤ 2 * r.length := by
              intro r
              induction r with
              | nil => exact Nat.le_refl _
              | cons v r ih =>
                simp only [List.map_cons, List.sum_cons, List.length_cons]
                have : (vR ad v).category ≤ 2 := by cases v <;> simp [vR, Value.category]
                omega
            have := h0 r
            omega
          rcases kT_mmx q q1 with ⟨z0, z1, z2, z3⟩ | ⟨z0, z1, z2, z3⟩
          · rw [q2] at z1
            have e0 : kd = 0 := q3.symm.trans z0
            subst e0
            refine va_mmax hx hb (by rw [hml, hl.1]) hown (hts _ (kAW_of z1 rfl)) (hts _ (kAW_of z2 rfl)) (hts _ (kAW_of kT_mini rfl)) (hts _ (kAW_of z3 rfl)) (by omega) (by omega) hce hsl hd ?_
            exact kk _ _ _ hP hS hl hX
          · rw [q2] at z1
            have e0 : kd = 1 := q3.symm.trans z0
            subst e0
            refine va_mmin hx hb (by rw [hml, hl.1]) hown (hts _ (kAW_of z1 rfl)) (hts _ (kAW_of z2 rfl)) (hts _ (kAW_of kT_mini rfl)) (hts _ (kAW_of z3 rfl)) (by omega) (by omega) hce hsl hd ?_
            exact kk _ _ _ hP hS hl hX
        · cases h
      · cases h
    · split at h
      · rename_i hk
        have e1 : mow m = kac.1 := (Prod.mk.inj hk).1
        have e2 : ix = kac.2.1 := (Prod.mk.inj hk).2
        subst e2
        rw [e1] at hown
        split at h
        · rename_i n dp b sp a0
          split at h
          · rename_i hc
            obtain ⟨c1, c2⟩ := hc
            split at h
            · rename_i H' hv
              obtain rfl := kNx_inv h
              unfold kCp at hv
              split at hv
              · rename_i n0 n1 hs0 hs1
                split at hv
                · cases hv
                · rename_i hin
                  cases hv
                  have hk0 := shp_in hs0 (by omega)
                  have hk1 := shp_in hs1 (by omega)
                  obtain ⟨z1, z2, z3, z4⟩ := kT_acp
                  refine va_copyi hx hb (by rw [hml, hl.1]) hown (hts _ (kAW_of z1 rfl)) (hts _ (kAW_of z2 rfl)) (hts _ (kAW_of z3 rfl)) (hts _ (kAW_of z4 rfl)) hK hP (kD hi _ _ _) hS a0 b 0 0 ((kW_get hk0).trans (by rw [kcell_arr hs0])) ((kW_get hk1).trans (by rw [kcell_arr hs1])) rfl rfl rfl (fun z => hin (Or.inr (Or.inl z))) (fun z => hin (Or.inr (Or.inr (Or.inl z)))) (fun z => hin (Or.inl z)) (Nat.not_lt.mp (fun z => hin (Or.inr (Or.inr (Or.inr (Or.inl z)))))) (Nat.not_lt.mp (fun z => hin (Or.inr (Or.inr (Or.inr (Or.inr z)))))) (fun _ _ => rfl) (by omega) (by show 0 + _ ≤ _; omega) hd (fun H1 locs1 hP1 hD1 hS1 => ?_)
                  rw [kW_set (H' := uC H b (va_cpy (hI H a0) (hI H b) sp.toNatClampNeg dp.toNatClampNeg n.toNatClampNeg)) hk1 ?_ kcells_uC] at hP1
                  · exact kk _ _ _ hP1 hS1 hl (kSc_uC hX hk1)
                  · rw [kcell_arr hs1]
                    congr 4
                    funext j
                    rw [hI_uC, if_pos rfl]
              · cases hv
            · cases h
          · cases h
        · cases h
      · cases h
theorem kIns_W {i : Instr} (hF : kFC p s mi c args R m cells slots) (hK : va_K D vwCl [(cI, .int), (cL, .long)] s) (hC : kCF ad L xs s s.heap) (hi : kInj ad) {len : Nat} (hd0 : decode (mbyt m) pc = .ok (i, len)) (hlen : len = kLen i len) (h : kIns m i pc ls st H = some a)
    (kk : kWt p l e R s mi args below meth c cells slots Q ad D cI cL L xs m a) : kWt p l e R s mi args below meth c cells slots Q ad D cI cL L xs m (pc, ls, st, H) := by
  intro Hp locs arr hP hS hl hX
  have hF0 := hF
  obtain ⟨hx, hb, hml, hown, hts, hfr, hlo, hce, hsl⟩ := hF0
  have hd : decode (mbyt m) pc = .ok (i, kLen i len) := hd0.trans (by rw [← hlen])
  show W p l e R s mi args below meth c Hp locs cells slots Q (F0 mi pc arr (st.map (vR ad)))
  cases i with
  | iconst n =>
    obtain rfl := kNx_inv h
    exact lv_iconst hx hb hd rfl (kk _ _ _ hP hS hl hX)
  | bipush n =>
    obtain rfl := kNx_inv h
    exact lv_bipush hx hb hd rfl (kk _ _ _ hP hS hl hX)
  | sipush n =>
    obtain rfl := kNx_inv h
    exact lv_sipush hx hb hd rfl (kk _ _ _ hP hS hl hX)
  | lconst n =>
    obtain rfl := kNx_inv h
    exact lv_lconst hx hb hd rfl (kk _ _ _ hP hS hl hX)
  | ldc ix =>
    unfold kIns at h
    dsimp only at h
    split at h
    · rename_i v hv
      obtain rfl := kNx_inv h
      obtain ⟨q, q1, q2, rfl⟩ := kfind hv
      simp only [Bool.and_eq_true, beq_iff_eq] at q2
      obtain ⟨q2, rfl⟩ := q2
      exact lv_ldc hx hb hown (hts _ (kAW_of (by rw [← q2]; exact kT_int q q1) rfl)) hd (kk _ _ _ hP hS hl hX)
    · split at h
      · rename_i hk
        obtain rfl := kNx_inv h
        have e1 : mow m = 1 := (Prod.mk.inj hk).1
        have e2 : ix = 35 := (Prod.mk.inj hk).2
        subst e2
        refine va_ldcS hx hb (own := "SneezeKing$Page") (tx := "psfdc") (by rw [e1] at hown; exact hown) hC.2.1 hd ?_
        exact kk _ _ _ hP hS hl hX
      · cases h
  | ldc_w ix =>
    unfold kIns at h
    dsimp only at h
    split at h
    · rename_i v hv
      obtain rfl := kNx_inv h
      obtain ⟨q, q1, q2, rfl⟩ := kfind hv
      simp only [Bool.and_eq_true, beq_iff_eq] at q2
      obtain ⟨q2, rfl⟩ := q2
      exact lv_ldcw hx hb hown (hts _ (kAW_of (by rw [← q2]; exact kT_int q q1) rfl)) hd (kk _ _ _ hP hS hl hX)
    · cases h
  | ldc2_w ix =>
    unfold kIns at h
    dsimp only at h
    split at h
    · rename_i v hv
      obtain rfl := kNx_inv h
      obtain ⟨q, q1, q2, rfl⟩ := kfind hv
      simp only [Bool.and_eq_true, beq_iff_eq] at q2
      obtain ⟨q2, rfl⟩ := q2
      exact lv_ldc2 hx hb hown (hts _ (kAW_of (by rw [← q2]; exact kT_lng q q1) rfl)) hd (kk _ _ _ hP hS hl hX)
    · cases h
  | iload_n k =>
    obtain ⟨x, e, rfl⟩ := kLdI_inv h
    exact lv_iload_n hx hb hd rfl (hl.2.2.2 _ _ e (fun z => (by cases z))) (kk _ _ _ hP hS hl hX)
  | iload k =>
    obtain ⟨x, e, rfl⟩ := kLdI_inv h
    exact lv_iload hx hb hd (hl.2.2.2 _ _ e (fun z => (by cases z))) (kk _ _ _ hP hS hl hX)
  | lload_n k =>
    obtain ⟨x, e, rfl⟩ := kLdL_inv h
    exact lv_lload_n hx hb hd rfl (hl.2.2.2 _ _ e (fun z => (by cases z))) (kk _ _ _ hP hS hl hX)
  | lload k =>
    obtain ⟨x, e, rfl⟩ := kLdL_inv h
    exact lv_lload hx hb hd (hl.2.2.2 _ _ e (fun z => (by cases z))) (kk _ _ _ hP hS hl hX)
  | aload_n k =>
    obtain ⟨x, e, rfl⟩ := kLdR_inv h
    exact lv_aload_n hx hb hd rfl (hl.2.2.2 _ _ e (fun z => (by cases z))) (kk _ _ _ hP hS hl hX)
  | aload k =>
    obtain ⟨x, e, rfl⟩ := kLdR_inv h
    exact lv_aload hx hb hd (hl.2.2.2 _ _ e (fun z => (by cases z))) (kk _ _ _ hP hS hl hX)
  | istore_n k =>
    obtain ⟨x, r, rfl, hlt, rfl⟩ := kSoI_inv h
    refine lv_istore_n hx hb hd rfl (kLR_has hl) hlt rfl (fun arr1 hl1 => ?_)
    exact kk _ _ _ hP hS (kLR_st1 hl hl1) hX
  | istore k =>
    obtain ⟨x, r, rfl, hlt, rfl⟩ := kSoI_inv h
    refine lv_istore hx hb hd (kLR_has hl) hlt rfl (fun arr1 hl1 => ?_)
    exact kk _ _ _ hP hS (kLR_st1 hl hl1) hX
  | lstore_n k =>
    obtain ⟨x, r, rfl, hlt, rfl⟩ := kSoL_inv h
    refine lv_lstore_n hx hb hd rfl (kLR_has hl) hlt rfl (fun arr1 hl1 => ?_)
    exact kk _ _ _ hP hS (kLR_st2 hl hl1) hX
  | lstore k =>
    obtain ⟨x, r, rfl, hlt, rfl⟩ := kSoL_inv h
    refine lv_lstore hx hb hd (kLR_has hl) hlt rfl (fun arr1 hl1 => ?_)
    exact kk _ _ _ hP hS (kLR_st2 hl hl1) hX
  | astore_n k =>
    obtain ⟨x, r, rfl, hlt, rfl⟩ := kSoR_inv h
    refine lv_astore_n hx hb hd rfl (kLR_has hl) hlt rfl (fun arr1 hl1 => ?_)
    exact kk _ _ _ hP hS (kLR_st1 hl hl1) hX
  | astore k =>
    obtain ⟨x, r, rfl, hlt, rfl⟩ := kSoR_inv h
    refine lv_astore hx hb hd (kLR_has hl) hlt rfl (fun arr1 hl1 => ?_)
    exact kk _ _ _ hP hS (kLR_st1 hl hl1) hX
  | iinc k n =>
    unfold kIns at h
    dsimp only at h
    split at h
    · rename_i x ex
      split at h
      · rename_i hlt
        obtain rfl := kNx_inv h
        obtain ⟨q, hq⟩ := List.getElem?_of_mem (kpr_in (ad := ad) ex (fun z => (by cases z)))
        refine lv_iinc hx hb hd (kLR_has hl) hq rfl hlt rfl (fun arr1 hl1 => ?_)
        exact kk _ _ _ hP hS (kLR_st1 hl hl1) hX
      · cases h
    · cases h
  | iadd =>
    obtain ⟨x, y, r, rfl, rfl⟩ := kB2_inv h
    exact lv_iadd hx hb hd (kk _ _ _ hP hS hl hX)
  | isub =>
    obtain ⟨x, y, r, rfl, rfl⟩ := kB2_inv h
    exact lv_isub hx hb hd (kk _ _ _ hP hS hl hX)
  | imul =>
    obtain ⟨x, y, r, rfl, rfl⟩ := kB2_inv h
    exact lv_imul hx hb hd (kk _ _ _ hP hS hl hX)
  | iand =>
    obtain ⟨x, y, r, rfl, rfl⟩ := kB2_inv h
    exact lv_iand hx hb hd (kk _ _ _ hP hS hl hX)
  | ior =>
    obtain ⟨x, y, r, rfl, rfl⟩ := kB2_inv h
    exact lv_ior hx hb hd (kk _ _ _ hP hS hl hX)
  | ixor =>
    obtain ⟨x, y, r, rfl, rfl⟩ := kB2_inv h
    exact lv_ixor hx hb hd (kk _ _ _ hP hS hl hX)
  | ishl =>
    obtain ⟨x, y, r, rfl, rfl⟩ := kB2_inv h
    exact lv_ishl hx hb hd (kk _ _ _ hP hS hl hX)
  | ishr =>
    obtain ⟨x, y, r, rfl, rfl⟩ := kB2_inv h
    exact lv_ishr hx hb hd (kk _ _ _ hP hS hl hX)
  | iushr =>
    obtain ⟨x, y, r, rfl, rfl⟩ := kB2_inv h
    exact lv_iushr hx hb hd rfl (kk _ _ _ hP hS hl hX)
  | ladd =>
    obtain ⟨x, y, r, rfl, rfl⟩ := kL2_inv h
    exact lv_ladd hx hb hd (kk _ _ _ hP hS hl hX)
  | lmul =>
    obtain ⟨x, y, r, rfl, rfl⟩ := kL2_inv h
    exact lv_lmul hx hb hd (kk _ _ _ hP hS hl hX)
  | land =>
    obtain ⟨x, y, r, rfl, rfl⟩ := kL2_inv h
    exact lv_land hx hb hd (kk _ _ _ hP hS hl hX)
  | lor =>
    obtain ⟨x, y, r, rfl, rfl⟩ := kL2_inv h
    exact lv_lor hx hb hd (kk _ _ _ hP hS hl hX)
  | lshl =>
    obtain ⟨x, y, r, rfl, rfl⟩ := kLS_inv h
    exact lv_lshl hx hb hd rfl (kk _ _ _ hP hS hl hX)
  | lshr =>
    obtain ⟨x, y, r, rfl, rfl⟩ := kLS_inv h
    exact lv_lshr hx hb hd rfl (kk _ _ _ hP hS hl hX)
  | idiv =>
    unfold kIns at h
    dsimp only at h
    split at h
    · split at h
      · cases h
      · rename_i h0
        obtain rfl := kNx_inv h
        exact lv_idiv hx hb hd h0 (kk _ _ _ hP hS hl hX)
    · cases h
  | irem =>
    unfold kIns at h
    dsimp only at h
    split at h
    · split at h
      · cases h
      · rename_i h0
        obtain rfl := kNx_inv h
        exact lv_irem hx hb hd h0 (kk _ _ _ hP hS hl hX)
    · cases h
  | ldiv =>
    unfold kIns at h
    dsimp only at h
    split at h
    · split at h
      · cases h
      · rename_i h0
        obtain rfl := kNx_inv h
        exact lv_ldiv hx hb hd h0 (kk _ _ _ hP hS hl hX)
    · cases h
  | lrem =>
    unfold kIns at h
    dsimp only at h
    split at h
    · split at h
      · cases h
      · rename_i h0
        obtain rfl := kNx_inv h
        exact lv_lrem hx hb hd h0 (kk _ _ _ hP hS hl hX)
    · cases h
  | lcmp =>
    unfold kIns at h
    dsimp only at h
    split at h
    · obtain rfl := kNx_inv h
      exact W.lcmp hx hb hd (kk _ _ _ hP hS hl hX)
    · cases h
  | i2l =>
    unfold kIns at h
    dsimp only at h
    split at h
    · obtain rfl := kNx_inv h
      exact lv_i2l hx hb hd rfl (kk _ _ _ hP hS hl hX)
    · cases h
  | l2i =>
    unfold kIns at h
    dsimp only at h
    split at h
    · obtain rfl := kNx_inv h
      exact lv_l2i hx hb hd rfl (kk _ _ _ hP hS hl hX)
    · cases h
  | i2c =>
    obtain ⟨x, r, rfl, rfl⟩ := kU1_inv h
    exact lv_i2c hx hb hd rfl (kk _ _ _ hP hS hl hX)
  | i2b =>
    obtain ⟨x, r, rfl, rfl⟩ := kU1_inv h
    exact lv_i2b hx hb hd rfl (kk _ _ _ hP hS hl hX)
  | dup =>
    unfold kIns at h
    dsimp only at h
    split at h
    · obtain rfl := kNx_inv h
      exact lv_dup hx hb hd rfl (kk _ _ _ hP hS hl hX)
    · obtain rfl := kNx_inv h
      exact lv_dup hx hb hd rfl (kk _ _ _ hP hS hl hX)
    · cases h
  | dup2 =>
    unfold kIns at h
    dsimp only at h
    split at h
    · obtain rfl := kNx_inv h
      exact lv_dup2_11 hx hb hd rfl rfl (kk _ _ _ hP hS hl hX)
    · cases h
  | pop =>
    unfold kIns at h
    dsimp only at h
    split at h
    · obtain rfl := kNx_inv h
      exact lv_pop hx hb hd rfl (kk _ _ _ hP hS hl hX)
    · cases h
  | goto off =>
    obtain ⟨h0, rfl⟩ := kGo_inv h
    exact lv_goto hx hb hd (Int.toNat_of_nonneg h0).symm (kk _ _ _ hP hS hl hX)
  | if_icmp d off =>
    unfold kIns kC2 at h
    dsimp only at h
    split at h
    · cases d
      all_goals dsimp only at h
      · rcases kBr_inv h with ⟨h0, ⟨hc, rfl⟩ | ⟨hc, rfl⟩⟩
        · exact lv_icmp_eq hx hb hd (Int.toNat_of_nonneg h0).symm (fun _ => kk _ _ _ hP hS hl hX) (fun z => absurd hc z)
        · exact lv_icmp_eq hx hb hd (Int.toNat_of_nonneg h0).symm (fun z => absurd z hc) (fun _ => kk _ _ _ hP hS hl hX)
      · rcases kBr_inv h with ⟨h0, ⟨hc, rfl⟩ | ⟨hc, rfl⟩⟩
        · exact lv_icmp_ne hx hb hd (Int.toNat_of_nonneg h0).symm (fun _ => kk _ _ _ hP hS hl hX) (fun z => absurd z hc)
        · exact lv_icmp_ne hx hb hd (Int.toNat_of_nonneg h0).symm (fun z => absurd z hc) (fun _ => kk _ _ _ hP hS hl hX)
      · rcases kBr_inv h with ⟨h0, ⟨hc, rfl⟩ | ⟨hc, rfl⟩⟩
        · exact lv_icmp_lt hx hb hd (Int.toNat_of_nonneg h0).symm (fun _ => kk _ _ _ hP hS hl hX) (fun z => absurd hc z)
        · exact lv_icmp_lt hx hb hd (Int.toNat_of_nonneg h0).symm (fun z => absurd z hc) (fun _ => kk _ _ _ hP hS hl hX)
      · rcases kBr_inv h with ⟨h0, ⟨hc, rfl⟩ | ⟨hc, rfl⟩⟩
        · exact lv_icmp_ge hx hb hd (Int.toNat_of_nonneg h0).symm (fun _ => kk _ _ _ hP hS hl hX) (fun z => absurd hc z)
        · exact lv_icmp_ge hx hb hd (Int.toNat_of_nonneg h0).symm (fun z => absurd z hc) (fun _ => kk _ _ _ hP hS hl hX)
      · rcases kBr_inv h with ⟨h0, ⟨hc, rfl⟩ | ⟨hc, rfl⟩⟩
        · exact lv_icmp_gt hx hb hd (Int.toNat_of_nonneg h0).symm (fun _ => kk _ _ _ hP hS hl hX) (fun z => absurd hc z)
        · exact lv_icmp_gt hx hb hd (Int.toNat_of_nonneg h0).symm (fun z => absurd z hc) (fun _ => kk _ _ _ hP hS hl hX)
      · rcases kBr_inv h with ⟨h0, ⟨hc, rfl⟩ | ⟨hc, rfl⟩⟩
        · exact lv_icmp_le hx hb hd (Int.toNat_of_nonneg h0).symm (fun _ => kk _ _ _ hP hS hl hX) (fun z => absurd hc z)
        · exact lv_icmp_le hx hb hd (Int.toNat_of_nonneg h0).symm (fun z => absurd z hc) (fun _ => kk _ _ _ hP hS hl hX)
    · cases h
  | ifCond d off =>
    unfold kIns kC1 at h
    dsimp only at h
    split at h
    · cases d
      all_goals dsimp only at h
      · rcases kBr_inv h with ⟨h0, ⟨hc, rfl⟩ | ⟨hc, rfl⟩⟩
        · exact lv_if_eq hx hb hd (Int.toNat_of_nonneg h0).symm (fun _ => kk _ _ _ hP hS hl hX) (fun z => absurd hc z)
        · exact lv_if_eq hx hb hd (Int.toNat_of_nonneg h0).symm (fun z => absurd z hc) (fun _ => kk _ _ _ hP hS hl hX)
      · rcases kBr_inv h with ⟨h0, ⟨hc, rfl⟩ | ⟨hc, rfl⟩⟩
        · exact lv_if_ne hx hb hd (Int.toNat_of_nonneg h0).symm (fun _ => kk _ _ _ hP hS hl hX) (fun z => absurd z hc)
        · exact lv_if_ne hx hb hd (Int.toNat_of_nonneg h0).symm (fun z => absurd z hc) (fun _ => kk _ _ _ hP hS hl hX)
      · rcases kBr_inv h with ⟨h0, ⟨hc, rfl⟩ | ⟨hc, rfl⟩⟩
        · exact lv_if_lt hx hb hd (Int.toNat_of_nonneg h0).symm (fun _ => kk _ _ _ hP hS hl hX) (fun z => absurd hc z)
        · exact lv_if_lt hx hb hd (Int.toNat_of_nonneg h0).symm (fun z => absurd z hc) (fun _ => kk _ _ _ hP hS hl hX)
      · rcases kBr_inv h with ⟨h0, ⟨hc, rfl⟩ | ⟨hc, rfl⟩⟩
        · exact lv_if_ge hx hb hd (Int.toNat_of_nonneg h0).symm (fun _ => kk _ _ _ hP hS hl hX) (fun z => absurd hc z)
        · exact lv_if_ge hx hb hd (Int.toNat_of_nonneg h0).symm (fun z => absurd z hc) (fun _ => kk _ _ _ hP hS hl hX)
      · rcases kBr_inv h with ⟨h0, ⟨hc, rfl⟩ | ⟨hc, rfl⟩⟩
        · exact lv_if_gt hx hb hd (Int.toNat_of_nonneg h0).symm (fun _ => kk _ _ _ hP hS hl hX) (fun z => absurd hc z)
        · exact lv_if_gt hx hb hd (Int.toNat_of_nonneg h0).symm (fun z => absurd z hc) (fun _ => kk _ _ _ hP hS hl hX)
      · rcases kBr_inv h with ⟨h0, ⟨hc, rfl⟩ | ⟨hc, rfl⟩⟩
        · exact lv_if_le hx hb hd (Int.toNat_of_nonneg h0).symm (fun _ => kk _ _ _ hP hS hl hX) (fun z => absurd hc z)
        · exact lv_if_le hx hb hd (Int.toNat_of_nonneg h0).symm (fun z => absurd z hc) (fun _ => kk _ _ _ hP hS hl hX)
    · cases h
  | tableswitch dflt lo hi offs =>
    unfold kIns at h
    dsimp only at h
    split at h
    · split at h
      · rename_i ho
        obtain ⟨h0, rfl⟩ := kGo_inv h
        exact lv_tableOut hx hb hd ho (Int.toNat_of_nonneg h0).symm (kk _ _ _ hP hS hl hX)
      · rename_i ho
        split at h
        · rename_i off eo
          obtain ⟨h0, rfl⟩ := kGo_inv h
          exact lv_tableIn hx hb hd (fun z => ho (Or.inl z)) (fun z => ho (Or.inr z)) eo (Int.toNat_of_nonneg h0).symm (kk _ _ _ hP hS hl hX)
        · cases h
    · cases h
  | getfield ix =>
    exact kget_W hF hK hC hd h kk _ _ _ hP hS hl hX
  | putfield ix =>
    exact kput_W hF hK hi hd h kk _ _ _ hP hS hl hX
  | getstatic ix =>
    unfold kIns at h
    dsimp only at h
    split at h
    · rename_i hk
      obtain rfl := kNx_inv h
      have e1 : mow m = kgs.1 := (Prod.mk.inj hk).1
      have e2 : ix = kgs.2.1 := (Prod.mk.inj hk).2
      subst e2
      rw [e1] at hown
      exact va_gets hx hb hC.2.2.1 hS hown (hts _ (kAW_of kT_gst rfl)) (fun _ z => z) hd (kk _ _ _ hP hS hl hX)
    · cases h
  | arraylength =>
    exact klen_W hF hK hC hd h kk _ _ _ hP hS hl hX
  | iaload =>
    exact kial_W hF hK hC hd h kk _ _ _ hP hS hl hX
  | laload =>
    exact klal_W hF hK hd h kk _ _ _ hP hS hl hX
  | baload =>
    exact kbal_W hF hC hd h kk _ _ _ hP hS hl hX
  | iastore =>
    exact kias_W hF hK hi hd h kk _ _ _ hP hS hl hX
  | lastore =>
    exact klas_W hF hK hi hd h kk _ _ _ hP hS hl hX
  | invokestatic ix =>
    exact kinv_W hF hK hC hi hd h kk _ _ _ hP hS hl hX
  | _ =>
    exact absurd h (fun z => (by cases z))
end KST
end
section
/-! whole runs: a run of the abstract machine is a run of the machine -/
def kRok (m : Nat) (i : Instr) (v : Option Value) : Prop :=
  (i = .ireturn ∧ ∃ x, v = some (.int x) ∧ (mrt m = some .int ∨ (mrt m = some .boolean ∧ (x = 0 ∨ x = 1)) ∨ (mrt m = some .byte ∧ x = 0))) ∨ (i = .lreturn ∧ ∃ x, v = some (.long x) ∧ mrt m = some .long) ∨ (i = .return_ ∧ v = none ∧ mrt m = none)
theorem kIns2_cases {m pc : Nat} {i : Instr} {ls st : List Value} {H : kH} {o : kO} (h : kIns2 m i pc ls st H = some o) :
    (∃ a, o = .inl a ∧ kIns m i pc ls st H = some a) ∨ (∃ ix, i = .invokevirtual ix ∧ kInvV m ix st = some o) ∨
    (∃ ix kd y, i = .invokestatic ix ∧ cpM (mow m) ix = some (kd, y) ∧ kInvS m y kd st = some o) ∨ (∃ v, o = .inr (.inr v) ∧ kRok m i v ∧ st = v.toList) := by
  have hm : ∀ q : Option kN, q.map .inl = some o → ∃ a, o = .inl a ∧ q = some a := by
    intro q hq
    cases q with
    | none => cases hq
    | some a => cases hq; exact ⟨a, rfl, rfl⟩
  cases i with
  | invokevirtual ix => exact Or.inr (Or.inl ⟨ix, rfl, h⟩)
  | invokestatic ix =>
    unfold kIns2 at h
    dsimp only at h
    split at h
    · rename_i kd y e
      exact Or.inr (Or.inr (Or.inl ⟨ix, kd, y, rfl, e, h⟩))
    · exact Or.inl (hm _ h)
  | ireturn =>
    unfold kIns2 kRet at h
    dsimp only at h
    split at h
    · rename_i x
      split at h
      · rename_i e
        cases h
        exact Or.inr (Or.inr (Or.inr ⟨_, rfl, Or.inl ⟨rfl, x, rfl, Or.inl e⟩, rfl⟩))
      · rename_i e
        split at h
        · rename_i hx
          cases h
          exact Or.inr (Or.inr (Or.inr ⟨_, rfl, Or.inl ⟨rfl, x, rfl, Or.inr (Or.inl ⟨e, hx⟩)⟩, rfl⟩))
        · cases h
      · rename_i e
        split at h
        · rename_i hx
          cases h
          exact Or.inr (Or.inr (Or.inr ⟨_, rfl, Or.inl ⟨rfl, x, rfl, Or.inr (Or.inr ⟨e, hx⟩)⟩, rfl⟩))
        · cases h
      · cases h
    · cases h
  | lreturn =>
    unfold kIns2 at h
    dsimp only at h
    split at h
    · rename_i x e
      cases h
      exact Or.inr (Or.inr (Or.inr ⟨_, rfl, Or.inr (Or.inl ⟨rfl, x, rfl, e⟩), rfl⟩))
    · cases h
  | return_ =>
    unfold kIns2 at h
    dsimp only at h
    split at h
    · rename_i e
      cases h
      exact Or.inr (Or.inr (Or.inr ⟨_, rfl, Or.inr (Or.inr ⟨rfl, rfl, e⟩), rfl⟩))
    · cases h
  | _ => exact Or.inl (hm _ h)
theorem kEnA_len (ad : Nat → Nat) : ∀ as : List Value, (lg_sl (as.map (vR ad))).length = (kEnA as).length
  | [] => rfl
  | v :: vs => by
    have ih := kEnA_len ad vs
    cases v <;> simp_all [lg_sl, kEnA, vR, Value.category]
theorem kEnA_arg (ad : Nat → Nat) : ∀ (as : List Value) (i0 j : Nat) (v : Value), (kEnA as)[j]? = some v → v ≠ .null → (i0 + j, vR ad v) ∈ lv_args i0 (as.map (vR ad))
  | [], _, _, _, h, _ => by simp [kEnA] at h
  | w :: vs, i0, j, v, h, hn => by
    have one : w.category = 1 → kEnA (w :: vs) = w :: kEnA vs → (i0 + j, vR ad v) ∈ lv_args i0 ((w :: vs).map (vR ad)) := by
      intro hc he
      rw [he] at h
      simp only [List.map_cons, lv_args]
      rw [if_neg (by rw [vR_cat, hc]; decide)]
      cases j with
      | zero => cases h; exact List.mem_cons_self
      | succ j =>
        refine List.mem_cons_of_mem _ ?_
        have := kEnA_arg ad vs (i0 + 1) j v h hn
        rwa [show i0 + (j + 1) = i0 + 1 + j by omega]
    have two : w.category = 2 → kEnA (w :: vs) = w :: .null :: kEnA vs → (i0 + j, vR ad v) ∈ lv_args i0 ((w :: vs).map (vR ad)) := by
      intro hc he
      rw [he] at h
      simp only [List.map_cons, lv_args]
      rw [if_pos (by rw [vR_cat, hc])]
      cases j with
      | zero => cases h; exact List.mem_cons_self
      | succ j =>
        cases j with
        | zero => cases h; exact absurd rfl hn
        | succ j =>
          refine List.mem_cons_of_mem _ ?_
          have := kEnA_arg ad vs (i0 + 2) j v h hn
          rwa [show i0 + (j + 1 + 1) = i0 + 2 + j by omega]
    cases w with
    | long x => exact two rfl rfl
    | double x => exact two rfl rfl
    | int x => exact one rfl rfl
    | float x => exact one rfl rfl
    | null => exact one rfl rfl
    | ref x => exact one rfl rfl
    | retAddr x => exact one rfl rfl
theorem kLR_ent {ad : Nat → Nat} {y : Nat} {as : List Value} (h : (kEnA as).length ≤ mnL y) : kLR ad ((lg_sl (as.map (vR ad)) ++ List.replicate (mnL y - (lg_sl (as.map (vR ad))).length) Slot.unset).toArray) (mnL y) (kEnt y as) := by
  have hl := lv_entry (as.map (vR ad)) (n := mnL y) (by rw [kEnA_len]; exact h)
  refine ⟨hl.1, ?_, hl.2.1, fun i v hv hn => ?_⟩
  · unfold kEnt
    rw [List.length_append, List.length_replicate]
    omega
  · unfold kEnt at hv
    by_cases hi : i < (kEnA as).length
    · rw [List.getElem?_append_left hi] at hv
      have h1 := kEnA_arg ad as 0 i v hv hn
      rw [Nat.zero_add] at h1
      exact hl.2.2 _ h1
    · rw [List.getElem?_append_right (by omega)] at hv
      have := List.eq_of_mem_replicate (List.mem_of_getElem? hv)
      exact absurd this hn
def kws (y : Nat) : List Cond := .code (my y) (mbyt y) (mnL y) (mrt y) :: kAW
def krm (y : Nat) : Room := { frames := mfr y, cells := 0, slots := 0, locals := mlo y }
def kWo (D : va_G) (cI cL : ClassId) (ad : Nat → Nat) (L : Nat) (xs : Nat → Int32) (H : kH) (U : State) : Prop := va_P D vwCl (kW ad cI cL H) U.heap ∧ va_K D vwCl [(cI, .int), (cL, .long)] U ∧ kCF ad L xs U U.heap
def kQc (D : va_G) (cI cL : ClassId) (ad : Nat → Nat) (L : Nat) (xs : Nat → Int32) (v : Option Value) (H' : kH) : Array Value → State → Outcome → State → Prop := fun _ st oc t => oc = .returned (v.map (vR ad)) ∧ va_P D vwCl (kW ad cI cL H') t.heap ∧ kSc L xs H' ∧ va_F (kA ad) st t
theorem kCF_blind {ad : Nat → Nat} {L : Nat} {xs : Nat → Int32} {U U' : State} (hv : U'.vm = U.vm) (hh : U'.heap = U.heap) (h : kCF ad L xs U U.heap) : kCF ad L xs U' U'.heap := by
  obtain ⟨h1, h2, h3, h4, h5, h6, h7⟩ := h
  have ha : U.vm.Alike U'.vm := by rw [hv]; exact Vm.Alike.refl U.vm
  rw [hh]
  exact ⟨h1.moved ha, vk_R.same hv h2, va_Z.moved ha h3, h4.moved ha, h5, h6, fun q hq h2 => va_Nw.same rfl hv.symm (h7 q hq h2)⟩
theorem kCF_call {ad : Nat → Nat} {L : Nat} {xs : Nat → Int32} {s U : State} {Hp : Heap} {locs : List Loc} (hW : s.WarmedH U.vm) (hS : va_S (kA ad) s.heap Hp locs) (hh : U.heap = Hp) (h : kCF ad L xs s s.heap) : kCF ad L xs U U.heap := by
  obtain ⟨h1, h2, h3, h4, h5, h6, h7⟩ := h
  rw [hh]
  exact ⟨(h1.moved hW.alike).kept hS.2.1, h2.warm hW, (va_Z.moved hW.alike h3).kept hS.2.1, (h4.moved hW.alike).kept (hS.2.1 _ h5 h6), Nat.lt_of_lt_of_le h5 hS.1, h6, fun q hq h2 => va_Nw.warmM hW (h7 q hq h2)⟩
theorem kBlind {D : va_G} {cI cL : ClassId} {ad : Nat → Nat} {L : Nat} {xs : Nat → Int32} {H : kH} {av : List Value} : FrameBlind (va_Pc av (kWo D cI cL ad L xs H)) := by
  intro a U g mk q
  obtain ⟨q0, qP, qK, qC⟩ := q
  exact ⟨q0, qP, va_K.moved (u := U) (U := U.calling g mk a) (Vm.Alike.refl U.vm) qK, kCF_blind (U := U) rfl rfl qC⟩
theorem kcat_sum (ad : Nat → Nat) : ∀ r : List Value, ((r.map (vR ad)).map fun v => v.category).sum ≤ 2 * r.length
  | [] => Nat.le_refl _
  | v :: r => by
    have ih := kcat_sum ad r
    simp only [List.map_cons, List.sum_cons, List.length_cons]
    have : (vR ad v).category ≤ 2 := by cases v <;> simp [vR, Value.category]
    omega
theorem kGood (y : Nat) (hy : y < 163) (hy2 : y ≠ 151) : GoodIn kAW (kws y) := by
  intro w hw
  rcases List.mem_cons.mp hw with rfl | h
  · exact kAW_good _ (kAW_of (kT_code y hy hy2) rfl)
  · exact kAW_good _ h
def kStm (n : Nat) : Prop := ∀ (m pc : Nat) (ls st : List Value) (H H' : kH) (v : Option Value), kRun n m pc ls st H = some (v, H') →
  ∀ {p : Program} {l : Launch} {e : Env} {R : Room} {s : State} {mi : MethodId} {args : Array Value} {below : List Frame} {meth : Method} {c : Code} {cells slots : Nat} {Q : State → Prop} {ad : Nat → Nat} {D : va_G} {cI cL : ClassId} {L : Nat} {xs : Nat → Int32},
  kFC p s mi c args R m cells slots → va_K D vwCl [(cI, .int), (cL, .long)] s → kCF ad L xs s s.heap → kInj ad →
  (∀ (pc' : Nat) (i : Instr) (Hp : Heap) (locs : List Loc) (arr : Array Slot), decode (mbyt m) pc' = .ok (i, 1) → kRok m i v → va_P D vwCl (kW ad cI cL H') Hp → va_S (kA ad) s.heap Hp locs → kSc L xs H' → W p l e R s mi args below meth c Hp locs cells slots Q (F0 mi pc' arr ((v.map (vR ad)).toList))) →
  kWt p l e R s mi args below meth c cells slots Q ad D cI cL L xs m (pc, ls, st, H)
theorem kMet {n : Nat} (ih : kStm n) {l : Launch} {y : Nat} {as : List Value} {H H' : kH} {v : Option Value} {ad : Nat → Nat} {D : va_G} {cI cL : ClassId} {L : Nat} {xs : Nat → Int32} (hy : y < 163) (hrun : kRun n y 0 (kEnt y as) [] H = some (v, H')) (hfit : (kEnA as).length ≤ mnL y) (hi : kInj ad) (hX : kSc L xs H) :
    Met l (my y) (kws y) (krm y) (va_Pc (as.map (vR ad)) (kWo D cI cL ad L xs H)) (kQc D cI cL ad L xs v H') 0 0 (kA ad) := by
  refine Met.ofW (cc := mbyt y) (maxL := mnL y) (ret := mrt y) (kT_own2 y hy) rfl ?_
  intro p e s m args below meth c s₁ B hml hv
  obtain ⟨rfl, hP, hK, hC⟩ := hv
  have hts := atoms_spec (ws := kws y) B.pre
  have hown : s.vm.findClass (cow (mow y)) = some m.cls := by
    have := findClass_of_methodNamed B.named
    rwa [kT_own1 y hy] at this
  rw [lg_entry_eq]
  refine ih _ _ _ _ _ _ _ hrun ⟨B.exec, B.bytes, hml, hown, fun w hw => hts w (List.mem_cons_of_mem _ hw), Nat.le_refl _, Nat.le_refl _, Nat.le_refl _, Nat.le_refl _⟩ hK hC hi ?_ s.heap [] _ hP va_S.rf (kLR_ent hfit) hX
  intro pc' i Hp locs arr hd hr hP' hS' hX'
  have hr0 := B.returns
  have hlocks := B.notSynchronized
  have hq : ∀ t : State, t.heap = Hp → s.WarmedH t.vm → kQc D cI cL ad L xs v H' (as.map (vR ad)).toArray s (.returned (v.map (vR ad))) t := fun t ht _ => ⟨rfl, by rw [ht]; exact hP', hX', hS'.F ht⟩
  rcases hr with ⟨rfl, x, rfl, hr⟩ | ⟨rfl, x, rfl, hr⟩ | ⟨rfl, rfl, hr⟩
  · rcases hr with hr | ⟨hr, hx⟩ | ⟨hr, hx⟩
    · exact W.iret B.exec B.bytes (hr0.trans hr) hq hS'.2.2 hd
    · exact W.zret B.exec B.bytes (hr0.trans hr) (by rcases hx with rfl | rfl <;> rfl) hq hS'.2.2 hd
    · exact W.zret B.exec B.bytes (hr0.trans hr) (by subst hx; rfl) hq hS'.2.2 hd
  · exact W.lret B.exec B.bytes (hr0.trans hr) hq hS'.2.2 hd
  · exact W.vret B.exec B.bytes (hr0.trans hr) hq hS'.2.2 hd
/-- behind a call -/
theorem kBack {p : Program} {l : Launch} {e : Env} {R : Room} {s : State} {mi : MethodId} {args : Array Value} {below : List Frame} {meth : Method} {c : Code} {cells slots : Nat} {Q : State → Prop} {ad : Nat → Nat} {D : va_G} {cI cL : ClassId} {L : Nat} {xs : Nat → Int32}
    {m pc : Nat} {ls r st : List Value} {H' : kH} {v : Option Value} {Hp : Heap} {locs : List Loc} {arr : Array Slot} {av : Array Value}
    (hr : va_Run p l e R s mi args below meth c Hp locs cells slots 0 0 (F0 mi pc arr st) (r.map (vR ad)) (kQc D cI cL ad L xs v H' av) (kA ad)) (hS : va_S (kA ad) s.heap Hp locs) (hl : kLR ad arr (mnL m) ls)
    (kk : kWt p l e R s mi args below meth c cells slots Q ad D cI cL L xs m (pc + 3, ls, v.toList ++ r, H')) : W p l e R s mi args below meth c Hp locs cells slots Q (F0 mi pc arr st) := by
  intro T hT X
  obtain ⟨v0, st₀, t, T', L0, h0, X', hL, e1, e2, ⟨hv, hP', hX', hz, hk⟩, stp⟩ := hr T hT X
  cases hv
  rw [h0] at hz hk
  have hS' : va_S (kA ad) s.heap T'.heap (locs ++ L0) := by
    refine ⟨Nat.le_trans hS.1 (by rw [e1]; exact hz), fun q h1 h2 => by rw [e1, hk q (Nat.lt_of_lt_of_le h1 hS.1) h2]; exact hS.2.1 q h1 h2, fun q hq => ?_⟩
    rcases List.mem_append.mp hq with h | h
    · exact hS.2.2 q h
    · exact hL q h
  obtain ⟨t2, a1, b1⟩ := kk T'.heap (locs ++ L0) arr (by rw [e1]; exact hP') hS' hl hX' T' rfl X'
  refine ⟨t2, stp t2 ?_, b1⟩
  have e4 : (v.map (vR ad)).toList ++ r.map (vR ad) = (v.toList ++ r).map (vR ad) := by
    cases v <;> rfl
  rw [e4]
  exact a1
theorem kRcv_ok {p : Program} {s : State} {ad : Nat → Nat} {D : va_G} {cI cL : ClassId} {L : Nat} {xs : Nat → Int32} {H : kH} {Hp : Heap} {locs : List Loc} {y k : Nat} (hy : y < 163) (h : kRcv y k = true) (hK : va_K D vwCl [(cI, .int), (cL, .long)] s) (hC : kCF ad L xs s s.heap) (hP : va_P D vwCl (kW ad cI cL H) Hp) (hS : va_S (kA ad) s.heap Hp locs) :
    ∃ cellB : Cell, Hp[ad k]? = some cellB ∧ cellB.vm.isStatics = false ∧ s.vm.findClass (my y).cls = some cellB.cls := by
  rw [kT_own1 y hy]
  unfold kRcv at h
  split at h
  · rename_i h8
    have hk : k = 39 := by simpa using h
    subst hk
    rw [h8]
    exact vk_recv hC.1 (i := 0) (by omega) hS
  · split at h
    · rename_i c hs
      simp only [Bool.and_eq_true, decide_eq_true_eq] at h
      obtain ⟨hk, h⟩ := h
      have he := (kW_get (ad := ad) (cI := cI) (cL := cL) (H := H) hk).trans (by rw [kcell_ob hs])
      split at h
      all_goals first
        | (rename_i hm; rw [hm]; exact va_recv hK hP rfl he)
        | cases h
    · cases h
theorem kRun_W : ∀ n : Nat, kStm n
  | 0 => fun _ _ _ _ _ _ _ h => by simp [kRun] at h
  | n + 1 => by
    intro m pc ls st H H' v h p l e R s mi args below meth c cells slots Q ad D cI cL L xs hF hK hC hi K
    have ih := kRun_W n
    have hF0 := hF
    obtain ⟨hx, hb, hml, hown, hts, hfr, hlo, hce, hsl⟩ := hF0
    rw [kRun] at h
    split at h
    · cases h
    · rename_i a hst
      unfold kStp at hst
      split at hst
      · rename_i i len hd
        split at hst
        · rename_i hlen
          rcases kIns2_cases hst with ⟨a', ha, hI⟩ | ⟨ix, -, hI⟩ | ⟨ix, kd, y, -, -, hI⟩ | ⟨v', ha, -⟩
          · cases ha
            exact kIns_W hF hK hC hi hd hlen hI (ih _ _ _ _ _ _ _ h hF hK hC hi K)
          · unfold kInvV at hI
            split at hI
            · split at hI
              · split at hI
                · split at hI <;> cases hI
                · cases hI
              · cases hI
            · cases hI
          · unfold kInvS at hI
            split at hI <;> cases hI
          · cases ha
        · cases hst
      · cases hst
    · rename_i a hst
      split at h
      · cases h
      · rename_i q hq
        obtain ⟨y, as, r⟩ := a
        obtain ⟨v1, H1⟩ := q
        dsimp only at h hq
        unfold kStp at hst
        split at hst
        · rename_i i len hd
          split at hst
          · rename_i hlen
            intro Hp locs arr hP hS hl hX
            dsimp only at hP hl hX
            rcases kIns2_cases hst with ⟨a', ha, hI⟩ | ⟨ix, rfl, hI⟩ | ⟨ix, kd, y', rfl, hcp, hI⟩ | ⟨v', ha, -⟩
            · cases ha
            · have hl3 : len = 3 := hlen
              subst hl3
              unfold kInvV at hI
              split at hI
              · rename_i kd y0 hcp
                split at hI
                · rename_i hc
                  obtain ⟨c1, c2, c3⟩ := hc
                  split at hI
                  · rename_i k r0 hdr
                    split at hI
                    · rename_i hc2
                      obtain ⟨d1, d2, d3⟩ := hc2
                      cases hI
                      obtain ⟨q, q1, q2, q3⟩ := kfind hcp
                      simp only [Bool.and_eq_true, beq_iff_eq] at q2
                      obtain ⟨q2, rfl⟩ := q2
                      obtain ⟨rfl, rfl⟩ := Prod.mk.inj q3
                      obtain ⟨y1, y2, hw⟩ := kT_cal q q1
                      rcases hw with ⟨z0, z1, z2, z3⟩ | ⟨z0, z1, z2⟩ | ⟨z0, z1, z2⟩
                      · rw [q2] at z1
                        unfold kRm at c3
                        simp only [Bool.and_eq_true, decide_eq_true_eq] at c3
                        have hM := kMet (l := l) (D := D) (cI := cI) (cL := cL) ih y1 hq d3 hi hX
                        have hst' : st.map (vR ad) = ((st.take (mna q.2.2.2.1)).reverse.map (vR ad)).reverse ++ .ref (ad k) :: r.map (vR ad) := by
                          have e0 : st = st.take (mna q.2.2.2.1) ++ .ref k :: r := by
                            have := List.take_append_drop (mna q.2.2.2.1) st
                            rw [hdr] at this
                            exact this.symm
                          conv => lhs; rw [e0]
                          rw [List.map_append, List.map_reverse, List.reverse_reverse]
                          rfl
                        have hG : GoodIn kAW (wsV (cow (mow m)) q.2.1 (my q.2.2.2.1).cls (my q.2.2.2.1) (kws q.2.2.2.1)) := by
                          intro w hw
                          unfold wsV at hw
                          simp only [List.cons_append, List.nil_append, List.mem_cons] at hw
                          rcases hw with rfl | rfl | rfl | rfl | hw
                          · exact kAW_good _ (kAW_of z1 rfl)
                          · exact kAW_good _ (kAW_of z2 rfl)
                          · exact kAW_good _ (kAW_of z3 rfl)
                          · exact kAW_good _ (kAW_of (kT_init _ y1) rfl)
                          · exact kGood _ y1 y2 _ hw
                        obtain ⟨o1, o2⟩ := kT_own3 _ y1
                        have hsum := kcat_sum ad r
                        have hrun := va_runV (p := p) (l := l) (e := e) (R := R) (s := s) (m := mi) (args := args) (below := below) (meth := meth) (c := c) (H := Hp) (locs := locs) (cells := cells) (slots := slots) (b := ad k) (As := (st.take (mna q.2.2.2.1)).reverse.map (vR ad)) (rest := r.map (vR ad)) (g := F0 mi pc arr (st.map (vR ad))) (C := (my q.2.2.2.1).cls)
                          ⟨hx, hb, hml, hown, hts⟩ hM (cwV (mna q.2.2.2.1) hts hG rfl rfl rfl ⟨rfl, o1, o2, kT_own4 _ y1⟩ ⟨by show mfr _ + 1 ≤ _; omega, by show _ + mlo _ ≤ _; omega⟩)
                          ⟨kBlind, kRcv_ok (p := p) y1 d1 hK hC hP hS, fun U hU hW => ⟨rfl, by rw [hU]; exact hP, va_K.moved hW.alike hK, kCF_call hW hS hU hC⟩⟩ rfl (by simp [Nat.min_eq_left c2]) hl.1 hst' (lv_room (by omega)) hd ⟨by omega, by omega⟩
                        exact kBack hrun hS hl (ih _ _ _ _ _ _ _ h hF hK hC hi K)
                      · omega
                      · omega
                    · cases hI
                  · cases hI
                · cases hI
              · cases hI
            · have hl3 : len = 3 := hlen
              subst hl3
              unfold kInvS at hI
              split at hI
              · rename_i hc
                obtain ⟨c1, c2, c3, c4, c5⟩ := hc
                cases hI
                obtain ⟨q, q1, q2, q3⟩ := kfind hcp
                simp only [Bool.and_eq_true, beq_iff_eq] at q2
                obtain ⟨q2, rfl⟩ := q2
                obtain ⟨rfl, rfl⟩ := Prod.mk.inj q3
                obtain ⟨y1, y2, hw⟩ := kT_cal q q1
                unfold kRm at c3
                simp only [Bool.and_eq_true, decide_eq_true_eq] at c3
                have hM := kMet (l := l) (D := D) (cI := cI) (cL := cL) ih y1 hq c5 hi hX
                have hst' : st.map (vR ad) = ((st.take (mna q.2.2.2.1)).reverse.map (vR ad)).reverse ++ (st.drop (mna q.2.2.2.1)).map (vR ad) := by
                  conv => lhs; rw [← List.take_append_drop (mna q.2.2.2.1) st]
                  rw [List.map_append, List.map_reverse, List.reverse_reverse]
                obtain ⟨o1, o2⟩ := kT_own3 _ y1
                have hsum := kcat_sum ad (st.drop (mna q.2.2.2.1))
                rcases hw with ⟨z0, z1, z2, z3⟩ | ⟨z0, z1, z2⟩ | ⟨z0, z1, z2⟩
                · omega
                · rw [q2] at z1
                  have hG : GoodIn kAW (va_wsS (cow (mow m)) q.2.1 (my q.2.2.2.1) (kws q.2.2.2.1)) := by
                    intro w hw
                    unfold va_wsS at hw
                    simp only [List.cons_append, List.nil_append, List.mem_cons] at hw
                    rcases hw with rfl | rfl | rfl | hw
                    · exact kAW_good _ (kAW_of z1 rfl)
                    · exact kAW_good _ (kAW_of z2 rfl)
                    · exact kAW_good _ (kAW_of (kT_init _ y1) rfl)
                    · exact kGood _ y1 y2 _ hw
                  have hrun := va_runS (p := p) (l := l) (e := e) (R := R) (s := s) (m := mi) (args := args) (below := below) (meth := meth) (c := c) (H := Hp) (locs := locs) (cells := cells) (slots := slots) (As := (st.take (mna q.2.2.2.1)).reverse.map (vR ad)) (rest := (st.drop (mna q.2.2.2.1)).map (vR ad)) (g := F0 mi pc arr (st.map (vR ad)))
                    ⟨hx, hb, hml, hown, hts⟩ hM (va_cwS (mna q.2.2.2.1) hts hG rfl rfl rfl ⟨o1, o2, kT_own4 _ y1⟩ ⟨by show mfr _ + 1 ≤ _; omega, by show _ + mlo _ ≤ _; omega⟩)
                    ⟨kBlind, fun U hU hW => ⟨rfl, by rw [hU]; exact hP, va_K.moved hW.alike hK, kCF_call hW hS hU hC⟩⟩ rfl (by simp [Nat.min_eq_left c2]) hl.1 hst' (lv_room (by omega)) hd ⟨by omega, by omega⟩
                  exact kBack hrun hS hl (ih _ _ _ _ _ _ _ h hF hK hC hi K)
                · have hrun := va_runSN (p := p) (l := l) (e := e) (R := R) (s := s) (m := mi) (args := args) (below := below) (meth := meth) (c := c) (H := Hp) (locs := locs) (cells := cells) (slots := slots) (As := (st.take (mna q.2.2.2.1)).reverse.map (vR ad)) (rest := (st.drop (mna q.2.2.2.1)).map (vR ad)) (g := F0 mi pc arr (st.map (vR ad))) (host := "SneezeKing")
                    ⟨hx, hb, hml, hown, hts⟩ hM ⟨va_cnB (mna q.2.2.2.1) hts (kGood _ y1 y2) rfl rfl rfl (by have := hC.2.2.2.2.2.2 q q1 z0; rw [q2] at this; exact this) (hts _ (kAW_of (kT_init _ y1) rfl)) ⟨o1, o2, kT_own4 _ y1⟩ ⟨by show mfr _ + 1 ≤ _; omega, by show _ + mlo _ ≤ _; omega⟩, hts _ (kAW_of z2 rfl), trivial⟩
                    ⟨kBlind, fun U hU hW => ⟨rfl, by rw [hU]; exact hP, va_K.moved hW.alike hK, kCF_call hW hS hU hC⟩⟩ rfl (by simp [Nat.min_eq_left c2]) hl.1 hst' (lv_room (by omega)) hd ⟨by omega, by omega⟩
                  exact kBack hrun hS hl (ih _ _ _ _ _ _ _ h hF hK hC hi K)
              · cases hI
            · cases ha
          · cases hst
        · cases hst
    · rename_i v0 hst
      cases h
      unfold kStp at hst
      split at hst
      · rename_i i len hd
        split at hst
        · rename_i hlen
          intro Hp locs arr hP hS hl hX
          dsimp only at hP hl hX
          rcases kIns2_cases hst with ⟨a', ha, hI⟩ | ⟨ix, -, hI⟩ | ⟨ix, kd, y, -, -, hI⟩ | ⟨v', ha, hR, hs⟩
          · cases ha
          · unfold kInvV at hI
            split at hI
            · split at hI
              · split at hI
                · split at hI <;> cases hI
                · cases hI
              · cases hI
            · cases hI
          · unfold kInvS at hI
            split at hI <;> cases hI
          · cases ha
            have hlen1 : len = 1 := by
              rcases hR with ⟨rfl, -⟩ | ⟨rfl, -⟩ | ⟨rfl, -⟩ <;> exact hlen
            subst hlen1
            have e4 : st.map (vR ad) = (v.map (vR ad)).toList := by
              rw [hs]
              cases v <;> rfl
            refine W.eq (congrArg (F0 mi pc arr) e4) (K pc i Hp locs arr hd hR hP hS hX)
        · cases hst
      · cases hst
end
section
/-! steps of the abstract machine, a row an instruction -/
section KGL
variable {m pc : Nat} {ls st : List Value} {H : kH}
theorem g_nx {len pc' : Nat} {i : Instr} {ls' st' : List Value} {H' : kH} (hd : decode (mbyt m) pc = .ok (i, len)) (hl : len = kLen i len) (h : kIns2 m i pc ls st H = some (.inl (pc', ls', st', H'))) : ev m pc ls st H = ev m pc' ls' st' H' := ev_next ((kStp_of hd hl).trans h)
theorem g_no {len : Nat} {i : Instr} (hd : decode (mbyt m) pc = .ok (i, len)) (hl : len = kLen i len) (h : kIns2 m i pc ls st H = none) : ev m pc ls st H = none := ev_none ((kStp_of hd hl).trans h)
theorem g_istore_n {k : Fin 4} {x : Int32} {ls' : List Value} (hd : decode (mbyt m) pc = .ok (.istore_n k, 1)) (hi : (k : Nat) < mnL m) (e : kSt1 ls k (.int x) = ls') : ev m pc ls (.int x :: st) H = ev m (pc + 1) ls' st H := by
  refine g_nx hd rfl ?_
  show ((kSoI m ls k (pc + 1) (.int x :: st) H).map Sum.inl : Option kO) = _
  unfold kSoI
  dsimp only
  rw [if_pos hi, e]
  rfl
theorem g_istore {k : Nat} {x : Int32} {ls' : List Value} (hd : decode (mbyt m) pc = .ok (.istore k, 2)) (hi : k < mnL m) (e : kSt1 ls k (.int x) = ls') : ev m pc ls (.int x :: st) H = ev m (pc + 2) ls' st H := by
  refine g_nx hd rfl ?_
  show ((kSoI m ls k (pc + 2) (.int x :: st) H).map Sum.inl : Option kO) = _
  unfold kSoI
  dsimp only
  rw [if_pos hi, e]
  rfl
theorem g_astore_n {k : Fin 4} {x : Nat} {ls' : List Value} (hd : decode (mbyt m) pc = .ok (.astore_n k, 1)) (hi : (k : Nat) < mnL m) (e : kSt1 ls k (.ref x) = ls') : ev m pc ls (.ref x :: st) H = ev m (pc + 1) ls' st H := by
  refine g_nx hd rfl ?_
  show ((kSoR m ls k (pc + 1) (.ref x :: st) H).map Sum.inl : Option kO) = _
  unfold kSoR
  dsimp only
  rw [if_pos hi, e]
  rfl
theorem g_lstore_n {k : Fin 4} {x : Int64} {ls' : List Value} (hd : decode (mbyt m) pc = .ok (.lstore_n k, 1)) (hi : (k : Nat) + 1 < mnL m) (e : kSt2 ls k (.long x) = ls') : ev m pc ls (.long x :: st) H = ev m (pc + 1) ls' st H := by
  refine g_nx hd rfl ?_
  show ((kSoL m ls k (pc + 1) (.long x :: st) H).map Sum.inl : Option kO) = _
  unfold kSoL
  dsimp only
  rw [if_pos hi, e]
  rfl
theorem g_lstore {k : Nat} {x : Int64} {ls' : List Value} (hd : decode (mbyt m) pc = .ok (.lstore k, 2)) (hi : k + 1 < mnL m) (e : kSt2 ls k (.long x) = ls') : ev m pc ls (.long x :: st) H = ev m (pc + 2) ls' st H := by
  refine g_nx hd rfl ?_
  show ((kSoL m ls k (pc + 2) (.long x :: st) H).map Sum.inl : Option kO) = _
  unfold kSoL
  dsimp only
  rw [if_pos hi, e]
  rfl
theorem g_iinc {k : Nat} {n : Int} {x y : Int32} {ls' : List Value} (hd : decode (mbyt m) pc = .ok (.iinc k n, 3)) (hi : k < mnL m) (hx : ls[k]? = some (.int x)) (hy : x + Int32.ofInt n = y) (e : kSt1 ls k (.int y) = ls') : ev m pc ls st H = ev m (pc + 3) ls' st H := by
  refine g_nx hd rfl ?_
  show ((match ls[k]? with | some (.int x) => if k < mnL m then kNx (pc + 3) (kSt1 ls k (.int (x + Int32.ofInt n))) st H else none | _ => none).map Sum.inl : Option kO) = _
  rw [hx]
  dsimp only
  rw [if_pos hi, hy, e]
  rfl
theorem g_ldc {ix : Nat} {v : Int32} (hd : decode (mbyt m) pc = .ok (.ldc ix, 2)) (h : cpI (mow m) ix = some v) : ev m pc ls st H = ev m (pc + 2) ls (.int v :: st) H := by
  refine g_nx hd rfl ?_
  show ((match cpI (mow m) ix with | some v => kP (pc + 2) ls st H v | none => if (mow m, ix) = kst then kNx (pc + 2) ls (.ref 39 :: st) H else none).map Sum.inl : Option kO) = _
  rw [h]
  rfl
theorem g_ldcS {ix : Nat} (hd : decode (mbyt m) pc = .ok (.ldc ix, 2)) (h : cpI (mow m) ix = none) (h2 : (mow m, ix) = kst) : ev m pc ls st H = ev m (pc + 2) ls (.ref 39 :: st) H := by
  refine g_nx hd rfl ?_
  show ((match cpI (mow m) ix with | some v => kP (pc + 2) ls st H v | none => if (mow m, ix) = kst then kNx (pc + 2) ls (.ref 39 :: st) H else none).map Sum.inl : Option kO) = _
  rw [h]
  dsimp only
  rw [if_pos h2]
  rfl
theorem g_ldcw {ix : Nat} {v : Int32} (hd : decode (mbyt m) pc = .ok (.ldc_w ix, 3)) (h : cpI (mow m) ix = some v) : ev m pc ls st H = ev m (pc + 3) ls (.int v :: st) H := by
  refine g_nx hd rfl ?_
  show ((match cpI (mow m) ix with | some v => kP (pc + 3) ls st H v | none => none).map Sum.inl : Option kO) = _
  rw [h]
  rfl
theorem g_ldc2 {ix : Nat} {v : Int64} (hd : decode (mbyt m) pc = .ok (.ldc2_w ix, 3)) (h : cpL (mow m) ix = some v) : ev m pc ls st H = ev m (pc + 3) ls (.long v :: st) H := by
  refine g_nx hd rfl ?_
  show ((match cpL (mow m) ix with | some v => kNx (pc + 3) ls (.long v :: st) H | none => none).map Sum.inl : Option kO) = _
  rw [h]
  rfl
theorem g_gets {ix : Nat} (hd : decode (mbyt m) pc = .ok (.getstatic ix, 3)) (h : (mow m, ix) = (kgs.1, kgs.2.1)) : ev m pc ls st H = ev m (pc + 3) ls (.int 1 :: st) H := by
  refine g_nx hd rfl ?_
  show ((if (mow m, ix) = (kgs.1, kgs.2.1) then kP (pc + 3) ls st H 1 else none).map Sum.inl : Option kO) = _
  rw [if_pos h]
  rfl
theorem g_get {ix k c f : Nat} {v : Value} (hd : decode (mbyt m) pc = .ok (.getfield ix, 3)) (h : cpF (mow m) ix = some (c, f)) (hv : gf H k c f = some v) : ev m pc ls (.ref k :: st) H = ev m (pc + 3) ls (v :: st) H := by
  refine g_nx hd rfl ?_
  unfold kIns2 kIns
  dsimp only
  rw [h]
  dsimp only
  rw [hv]
  rfl
theorem g_put {ix k c f : Nat} {v : Value} {H' : kH} (hd : decode (mbyt m) pc = .ok (.putfield ix, 3)) (h : cpF (mow m) ix = some (c, f)) (hv : pf H k c f v = some H') : ev m pc ls (v :: .ref k :: st) H = ev m (pc + 3) ls st H' := by
  refine g_nx hd rfl ?_
  unfold kIns2 kIns
  dsimp only
  rw [h]
  dsimp only
  rw [hv]
  rfl
theorem g_putZ {ix k c f : Nat} {x : Int32} {H' : kH} (hd : decode (mbyt m) pc = .ok (.putfield ix, 3)) (h : cpF (mow m) ix = some (c, f)) (hv : pf H k c f (.int x) = if x = 0 ∨ x = 1 then some H' else none) : ev m pc ls (.int x :: .ref k :: st) H = if x = 0 ∨ x = 1 then ev m (pc + 3) ls st H' else none := by
  by_cases hx : x = 0 ∨ x = 1
  · rw [if_pos hx] at hv ⊢
    exact g_put hd h hv
  · rw [if_neg hx] at hv ⊢
    refine g_no hd rfl ?_
    unfold kIns2 kIns
    dsimp only
    rw [h]
    dsimp only
    rw [hv]
    rfl
theorem gf_i {k c f : Nat} (hs : shp k = (0, c)) (h9 : c ≠ 9) (hf : fki c f = 0) : gf H k c f = some (.int (hI H k f)) := by
  unfold gf
  rw [if_neg h9, if_pos hs, hf]
  rfl
theorem gf_z {k c f : Nat} (hs : shp k = (0, c)) (h9 : c ≠ 9) (hf : fki c f = 1) : gf H k c f = some (.int (hI H k f)) := by
  unfold gf
  rw [if_neg h9, if_pos hs, hf]
  rfl
theorem gf_l {k c f : Nat} (hs : shp k = (0, c)) (h9 : c ≠ 9) (hf : fki c f = 2) : gf H k c f = some (.long (hL H k f)) := by
  unfold gf
  rw [if_neg h9, if_pos hs, hf]
  rfl
theorem gf_s {k c f t : Nat} (hs : shp k = (0, c)) (h9 : c ≠ 9) (hf : fki c f = 3) (ht : sref k f = t) : gf H k c f = some (.ref t) := by
  unfold gf
  rw [if_neg h9, if_pos hs, hf, ← ht]
  rfl
theorem gf_d {k c f : Nat} (hs : shp k = (0, c)) (h9 : c ≠ 9) (hf : fki c f = 4) : gf H k c f = some (.ref (hR H k f)) := by
  unfold gf
  rw [if_neg h9, if_pos hs, hf]
  rfl
theorem pf_i {k c f : Nat} {x : Int32} (hs : shp k = (0, c)) (hk : k < 38) (hf : fki c f = 0) : pf H k c f (.int x) = some (uI H k f x) := by
  unfold pf
  rw [if_pos ⟨hs, hk⟩, hf]
  rfl
theorem pf_z {k c f : Nat} {x : Int32} (hs : shp k = (0, c)) (hk : k < 38) (hf : fki c f = 1) : pf H k c f (.int x) = if x = 0 ∨ x = 1 then some (uI H k f x) else none := by
  unfold pf
  rw [if_pos ⟨hs, hk⟩, hf]
  rfl
theorem pf_l {k c f : Nat} {x : Int64} (hs : shp k = (0, c)) (hk : k < 38) (hf : fki c f = 2) : pf H k c f (.long x) = some (uL H k f x) := by
  unfold pf
  rw [if_pos ⟨hs, hk⟩, hf]
  rfl
theorem pf_d {k c f r : Nat} (hs : shp k = (0, c)) (hk : k < 38) (hf : fki c f = 4) (hr : r < 38) : pf H k c f (.ref r) = some (uR H k f r) := by
  unfold pf
  rw [if_pos ⟨hs, hk⟩, hf]
  exact if_pos hr
theorem g_len {k : Nat} {v : Int32} (hd : decode (mbyt m) pc = .ok (.arraylength, 1)) (hv : alen H k = some v) : ev m pc ls (.ref k :: st) H = ev m (pc + 1) ls (.int v :: st) H := by
  refine g_nx hd rfl ?_
  unfold kIns2 kIns
  dsimp only
  rw [hv]
  rfl
theorem alen_1 {k n : Nat} (hs : shp k = (1, n)) : alen H k = some (Int32.ofNat n) := by
  unfold alen
  rw [hs]
  rfl
theorem alen_2 {k n : Nat} (hs : shp k = (2, n)) : alen H k = some (Int32.ofNat n) := by
  unfold alen
  rw [hs]
  rfl
theorem g_iald {k n : Nat} {i : Int32} (hd : decode (mbyt m) pc = .ok (.iaload, 1)) (hs : shp k = (1, n)) : ev m pc ls (.int i :: .ref k :: st) H = if i < 0 ∨ n ≤ i.toNatClampNeg then none else ev m (pc + 1) ls (.int (hI H k i.toNatClampNeg) :: st) H := by
  have e : aI H k i = if i < 0 ∨ n ≤ i.toNatClampNeg then none else some (hI H k i.toNatClampNeg) := by
    unfold aI
    rw [hs]
    rfl
  by_cases hc : i < 0 ∨ n ≤ i.toNatClampNeg
  · rw [if_pos hc] at e ⊢
    refine g_no hd rfl ?_
    unfold kIns2 kIns
    dsimp only
    rw [e]
    rfl
  · rw [if_neg hc] at e ⊢
    refine g_nx hd rfl ?_
    unfold kIns2 kIns
    dsimp only
    rw [e]
    rfl
theorem g_iasc {i : Int32} (hd : decode (mbyt m) pc = .ok (.iaload, 1)) : ev m pc ls (.int i :: .ref 38 :: st) H = if i < 0 ∨ (hI H 41 0).toNatClampNeg ≤ i.toNatClampNeg then none else ev m (pc + 1) ls (.int (hI H 38 i.toNatClampNeg) :: st) H := by
  have e : aI H 38 i = if i < 0 ∨ (hI H 41 0).toNatClampNeg ≤ i.toNatClampNeg then none else some (hI H 38 i.toNatClampNeg) := rfl
  by_cases hc : i < 0 ∨ (hI H 41 0).toNatClampNeg ≤ i.toNatClampNeg
  · rw [if_pos hc] at e ⊢
    refine g_no hd rfl ?_
    unfold kIns2 kIns
    dsimp only
    rw [e]
    rfl
  · rw [if_neg hc] at e ⊢
    refine g_nx hd rfl ?_
    unfold kIns2 kIns
    dsimp only
    rw [e]
    rfl
theorem g_lald {k n : Nat} {i : Int32} (hd : decode (mbyt m) pc = .ok (.laload, 1)) (hs : shp k = (2, n)) : ev m pc ls (.int i :: .ref k :: st) H = if i < 0 ∨ n ≤ i.toNatClampNeg then none else ev m (pc + 1) ls (.long (hL H k i.toNatClampNeg) :: st) H := by
  have e : aL H k i = if i < 0 ∨ n ≤ i.toNatClampNeg then none else some (hL H k i.toNatClampNeg) := by
    unfold aL
    rw [hs]
    rfl
  by_cases hc : i < 0 ∨ n ≤ i.toNatClampNeg
  · rw [if_pos hc] at e ⊢
    refine g_no hd rfl ?_
    unfold kIns2 kIns
    dsimp only
    rw [e]
    rfl
  · rw [if_neg hc] at e ⊢
    refine g_nx hd rfl ?_
    unfold kIns2 kIns
    dsimp only
    rw [e]
    rfl
theorem g_bald {i : Int32} (hd : decode (mbyt m) pc = .ok (.baload, 1)) : ev m pc ls (.int i :: .ref 40 :: st) H = if i < 0 ∨ 5 ≤ i.toNatClampNeg then none else ev m (pc + 1) ls (.int (kbs.getD i.toNatClampNeg 0) :: st) H := by
  have e : aB 40 i = if i < 0 ∨ 5 ≤ i.toNatClampNeg then none else some (kbs.getD i.toNatClampNeg 0) := rfl
  by_cases hc : i < 0 ∨ 5 ≤ i.toNatClampNeg
  · rw [if_pos hc] at e ⊢
    refine g_no hd rfl ?_
    unfold kIns2 kIns
    dsimp only
    rw [e]
    rfl
  · rw [if_neg hc] at e ⊢
    refine g_nx hd rfl ?_
    unfold kIns2 kIns
    dsimp only
    rw [e]
    rfl
theorem g_iast {k n : Nat} {i v : Int32} (hd : decode (mbyt m) pc = .ok (.iastore, 1)) (hs : shp k = (1, n)) : ev m pc ls (.int v :: .int i :: .ref k :: st) H = if i < 0 ∨ n ≤ i.toNatClampNeg then none else ev m (pc + 1) ls st (uI H k i.toNatClampNeg v) := by
  have e : sI H k i v = if i < 0 ∨ n ≤ i.toNatClampNeg then none else some (uI H k i.toNatClampNeg v) := by
    unfold sI
    rw [hs]
    rfl
  by_cases hc : i < 0 ∨ n ≤ i.toNatClampNeg
  · rw [if_pos hc] at e ⊢
    refine g_no hd rfl ?_
    unfold kIns2 kIns
    dsimp only
    rw [e]
    rfl
  · rw [if_neg hc] at e ⊢
    refine g_nx hd rfl ?_
    unfold kIns2 kIns
    dsimp only
    rw [e]
    rfl
theorem g_last {k n : Nat} {i : Int32} {v : Int64} (hd : decode (mbyt m) pc = .ok (.lastore, 1)) (hs : shp k = (2, n)) : ev m pc ls (.long v :: .int i :: .ref k :: st) H = if i < 0 ∨ n ≤ i.toNatClampNeg then none else ev m (pc + 1) ls st (uL H k i.toNatClampNeg v) := by
  have e : sL H k i v = if i < 0 ∨ n ≤ i.toNatClampNeg then none else some (uL H k i.toNatClampNeg v) := by
    unfold sL
    rw [hs]
    rfl
  by_cases hc : i < 0 ∨ n ≤ i.toNatClampNeg
  · rw [if_pos hc] at e ⊢
    refine g_no hd rfl ?_
    unfold kIns2 kIns
    dsimp only
    rw [e]
    rfl
  · rw [if_neg hc] at e ⊢
    refine g_nx hd rfl ?_
    unfold kIns2 kIns
    dsimp only
    rw [e]
    rfl
theorem g_br {len tgt : Nat} {i : Instr} {off : Int} {q : Prop} [Decidable q] (hd : decode (mbyt m) pc = .ok (i, len)) (hl : len = kLen i len) {st' : List Value} (hI : kIns2 m i pc ls st H = (kBr q pc off ls st' H).map Sum.inl) (ht : (pc : Int) + off = (tgt : Int)) : ev m pc ls st H = if q then ev m tgt ls st' H else ev m (pc + 3) ls st' H := by
  have e : kBr q pc off ls st' H = if q then kNx tgt ls st' H else kNx (pc + 3) ls st' H := by
    unfold kBr
    rw [if_pos (by omega), ht]
    rfl
  rw [e] at hI
  by_cases hq : q
  · rw [if_pos hq] at hI ⊢
    exact g_nx hd hl hI
  · rw [if_neg hq] at hI ⊢
    exact g_nx hd hl hI
theorem g_go {tgt : Nat} {off : Int} (hd : decode (mbyt m) pc = .ok (.goto off, 3)) (ht : (pc : Int) + off = (tgt : Int)) : ev m pc ls st H = ev m tgt ls st H := by
  refine g_nx hd rfl ?_
  show ((kGo pc off ls st H).map Sum.inl : Option kO) = _
  unfold kGo
  rw [if_pos (by omega), ht]
  rfl
theorem g_tabO {len tgt : Nat} {dflt lo hi : Int} {offs : Array Int} {x : Int32} (hd : decode (mbyt m) pc = .ok (.tableswitch dflt lo hi offs, len)) (h : x.toInt < lo ∨ hi < x.toInt) (ht : (pc : Int) + dflt = (tgt : Int)) : ev m pc ls (.int x :: st) H = ev m tgt ls st H := by
  refine g_nx hd rfl ?_
  unfold kIns2 kIns
  dsimp only
  rw [if_pos h]
  unfold kGo
  rw [if_pos (by omega), ht]
  rfl
theorem g_tabI {len tgt : Nat} {dflt lo hi off : Int} {offs : Array Int} {x : Int32} (hd : decode (mbyt m) pc = .ok (.tableswitch dflt lo hi offs, len)) (h : ¬ (x.toInt < lo ∨ hi < x.toInt)) (ho : offs[(x.toInt - lo).toNat]? = some off) (ht : (pc : Int) + off = (tgt : Int)) : ev m pc ls (.int x :: st) H = ev m tgt ls st H := by
  refine g_nx hd rfl ?_
  unfold kIns2 kIns
  dsimp only
  rw [if_neg h, ho]
  dsimp only
  unfold kGo
  rw [if_pos (by omega), ht]
  rfl
theorem g_idiv {x y : Int32} (hd : decode (mbyt m) pc = .ok (.idiv, 1)) : ev m pc ls (.int y :: .int x :: st) H = if y = 0 then none else ev m (pc + 1) ls (.int (x / y) :: st) H := by
  by_cases hy : y = 0
  · rw [if_pos hy]
    exact g_no hd rfl (by unfold kIns2 kIns; dsimp only; rw [if_pos hy]; rfl)
  · rw [if_neg hy]
    exact g_nx hd rfl (by unfold kIns2 kIns; dsimp only; rw [if_neg hy]; rfl)
theorem g_irem {x y : Int32} (hd : decode (mbyt m) pc = .ok (.irem, 1)) : ev m pc ls (.int y :: .int x :: st) H = if y = 0 then none else ev m (pc + 1) ls (.int (x - x / y * y) :: st) H := by
  by_cases hy : y = 0
  · rw [if_pos hy]
    exact g_no hd rfl (by unfold kIns2 kIns; dsimp only; rw [if_pos hy]; rfl)
  · rw [if_neg hy]
    exact g_nx hd rfl (by unfold kIns2 kIns; dsimp only; rw [if_neg hy]; rfl)
theorem g_ldiv {x y : Int64} (hd : decode (mbyt m) pc = .ok (.ldiv, 1)) : ev m pc ls (.long y :: .long x :: st) H = if y = 0 then none else ev m (pc + 1) ls (.long (x / y) :: st) H := by
  by_cases hy : y = 0
  · rw [if_pos hy]
    exact g_no hd rfl (by unfold kIns2 kIns; dsimp only; rw [if_pos hy]; rfl)
  · rw [if_neg hy]
    exact g_nx hd rfl (by unfold kIns2 kIns; dsimp only; rw [if_neg hy]; rfl)
theorem g_lrem {x y : Int64} (hd : decode (mbyt m) pc = .ok (.lrem, 1)) : ev m pc ls (.long y :: .long x :: st) H = if y = 0 then none else ev m (pc + 1) ls (.long (x - x / y * y) :: st) H := by
  by_cases hy : y = 0
  · rw [if_pos hy]
    exact g_no hd rfl (by unfold kIns2 kIns; dsimp only; rw [if_pos hy]; rfl)
  · rw [if_neg hy]
    exact g_nx hd rfl (by unfold kIns2 kIns; dsimp only; rw [if_neg hy]; rfl)
theorem g_callV {ix y k : Nat} {as r : List Value} {el : List Value} (hd : decode (mbyt m) pc = .ok (.invokevirtual ix, 3)) (h : cpM (mow m) ix = some (0, y)) (hrm : kRm m y = true) (hn : as.length = mna y) (hr : kRcv y k = true) (hl : r.length ≤ 4) (hf : (kEnA (.ref k :: as)).length ≤ mnL y) (he : kEnt y (.ref k :: as) = el) (hs : st = as.reverse ++ .ref k :: r) : ev m pc ls st H = (ev y 0 el [] H).bind (fun q => ev m (pc + 3) ls (q.1.toList ++ r) q.2) := by
  subst he
  refine ev_call ((kStp_of hd rfl).trans ?_)
  show kInvV m ix st = _
  unfold kInvV
  rw [h]
  dsimp only
  have e1 : st.drop (mna y) = .ref k :: r := by
    rw [hs, ← hn, ← List.length_reverse, List.drop_left]
  have e2 : (st.take (mna y)).reverse = as := by
    rw [hs, ← hn, ← List.length_reverse, List.take_left, List.reverse_reverse]
  rw [if_pos ⟨rfl, by rw [hs, ← hn]; simp, hrm⟩, e1, e2]
  dsimp only
  rw [if_pos ⟨hr, hl, hf⟩]
theorem g_callS {ix y kd : Nat} {as r : List Value} {el : List Value} (hd : decode (mbyt m) pc = .ok (.invokestatic ix, 3)) (h : cpM (mow m) ix = some (kd, y)) (hk : kd ≠ 0) (hrm : kRm m y = true) (hn : as.length = mna y) (hl : r.length ≤ 4) (hf : (kEnA as).length ≤ mnL y) (he : kEnt y as = el) (hs : st = as.reverse ++ r) : ev m pc ls st H = (ev y 0 el [] H).bind (fun q => ev m (pc + 3) ls (q.1.toList ++ r) q.2) := by
  subst he
  refine ev_call ((kStp_of hd rfl).trans ?_)
  show (match cpM (mow m) ix with | some (kd, y) => kInvS m y kd st | none => (kIns m (.invokestatic ix) pc ls st H).map Sum.inl) = _
  rw [h]
  dsimp only
  unfold kInvS
  have e1 : st.drop (mna y) = r := by
    rw [hs, ← hn, ← List.length_reverse, List.drop_left]
  have e2 : (st.take (mna y)).reverse = as := by
    rw [hs, ← hn, ← List.length_reverse, List.take_left, List.reverse_reverse]
  rw [if_pos ⟨hk, by rw [hs, ← hn]; simp, hrm, by rw [e1]; exact hl, by rw [e2]; exact hf⟩, e1, e2]
theorem g_max {ix : Nat} {x y : Int32} (hd : decode (mbyt m) pc = .ok (.invokestatic ix, 3)) (h0 : cpM (mow m) ix = none) (h : cpX (mow m) ix = some 0) (hf : 1 ≤ mfr m ∧ 21 ≤ mlo m) (hl : st.length ≤ 4) : ev m pc ls (.int y :: .int x :: st) H = ev m (pc + 3) ls (.int (if x < y then y else x) :: st) H := by
  refine g_nx hd rfl ?_
  show (match cpM (mow m) ix with | some (kd, y0) => kInvS m y0 kd (.int y :: .int x :: st) | none => (kSpc m ix pc ls (.int y :: .int x :: st) H).map Sum.inl) = _
  rw [h0]
  dsimp only
  unfold kSpc
  rw [h]
  dsimp only
  rw [if_pos ⟨hf.1, hf.2, hl⟩]
  rfl
theorem g_min {ix : Nat} {x y : Int32} (hd : decode (mbyt m) pc = .ok (.invokestatic ix, 3)) (h0 : cpM (mow m) ix = none) (h : cpX (mow m) ix = some 1) (hf : 1 ≤ mfr m ∧ 21 ≤ mlo m) (hl : st.length ≤ 4) : ev m pc ls (.int y :: .int x :: st) H = ev m (pc + 3) ls (.int (if y < x then y else x) :: st) H := by
  refine g_nx hd rfl ?_
  show (match cpM (mow m) ix with | some (kd, y0) => kInvS m y0 kd (.int y :: .int x :: st) | none => (kSpc m ix pc ls (.int y :: .int x :: st) H).map Sum.inl) = _
  rw [h0]
  dsimp only
  unfold kSpc
  rw [h]
  dsimp only
  rw [if_pos ⟨hf.1, hf.2, hl⟩]
  rfl
theorem g_acp {ix a b : Nat} {sp dp n : Int32} {H' : kH} (hd : decode (mbyt m) pc = .ok (.invokestatic ix, 3)) (h0 : cpM (mow m) ix = none) (h : cpX (mow m) ix = none) (h1 : (mow m, ix) = (kac.1, kac.2.1)) (hf : 1 ≤ mfr m ∧ nativeFrameWords "java/lang/System" "arraycopy" 5 + 11 ≤ mlo m) (hc : kCp H a sp b dp n = some H') : ev m pc ls [.int n, .int dp, .ref b, .int sp, .ref a] H = ev m (pc + 3) ls [] H' := by
  refine g_nx hd rfl ?_
  show (match cpM (mow m) ix with | some (kd, y0) => kInvS m y0 kd [.int n, .int dp, .ref b, .int sp, .ref a] | none => (kSpc m ix pc ls [.int n, .int dp, .ref b, .int sp, .ref a] H).map Sum.inl) = _
  rw [h0]
  dsimp only
  unfold kSpc
  rw [h]
  dsimp only
  rw [if_pos h1, if_pos hf, hc]
  rfl
theorem g_reti {x : Int32} (hd : decode (mbyt m) pc = .ok (.ireturn, 1)) (h : mrt m = some .int) : ev m pc ls [.int x] H = some (some (.int x), H) := by
  refine ev_ret ((kStp_of hd rfl).trans ?_)
  show kRet m [.int x] = _
  unfold kRet
  dsimp only
  rw [h]
theorem g_retz {x : Int32} (hd : decode (mbyt m) pc = .ok (.ireturn, 1)) (h : mrt m = some .boolean) : ev m pc ls [.int x] H = if x = 0 ∨ x = 1 then some (some (.int x), H) else none := by
  by_cases hx : x = 0 ∨ x = 1
  · rw [if_pos hx]
    refine ev_ret ((kStp_of hd rfl).trans ?_)
    show kRet m [.int x] = _
    unfold kRet
    dsimp only
    rw [h]
    exact if_pos hx
  · rw [if_neg hx]
    refine g_no hd rfl ?_
    show kRet m [.int x] = _
    unfold kRet
    dsimp only
    rw [h]
    exact if_neg hx
theorem g_retb {x : Int32} (hd : decode (mbyt m) pc = .ok (.ireturn, 1)) (h : mrt m = some .byte) : ev m pc ls [.int x] H = if x = 0 then some (some (.int x), H) else none := by
  by_cases hx : x = 0
  · rw [if_pos hx]
    refine ev_ret ((kStp_of hd rfl).trans ?_)
    show kRet m [.int x] = _
    unfold kRet
    dsimp only
    rw [h]
    exact if_pos hx
  · rw [if_neg hx]
    refine g_no hd rfl ?_
    show kRet m [.int x] = _
    unfold kRet
    dsimp only
    rw [h]
    exact if_neg hx
theorem g_retl {x : Int64} (hd : decode (mbyt m) pc = .ok (.lreturn, 1)) (h : mrt m = some .long) : ev m pc ls [.long x] H = some (some (.long x), H) := by
  refine ev_ret ((kStp_of hd rfl).trans ?_)
  unfold kIns2
  dsimp only
  rw [h]
theorem g_retv (hd : decode (mbyt m) pc = .ok (.return_, 1)) (h : mrt m = none) : ev m pc ls [] H = some (none, H) := by
  refine ev_ret ((kStp_of hd rfl).trans ?_)
  unfold kIns2
  dsimp only
  rw [h]
end KGL
end
