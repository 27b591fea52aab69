/-! the constructors, by the machine -/
abbrev bI0 : ByteArray := prog_2_method_1_code
def yI0 : MethodName := ⟨RX0, "<init>", "()V"⟩
abbrev bI1 : ByteArray := prog_3_method_1_code
def yI1 : MethodName := ⟨RX1, "<init>", "()V"⟩
abbrev bI2 : ByteArray := prog_4_method_1_code
def yI2 : MethodName := ⟨RX2, "<init>", "(LSneezeKing$Council;)V"⟩
abbrev bI3 : ByteArray := prog_6_method_1_code
def yI3 : MethodName := ⟨RX4, "<init>", "(LSneezeKing$Council;)V"⟩
abbrev bI4 : ByteArray := prog_1_method_1_code
def yI4 : MethodName := ⟨RX5, "<init>", "()V"⟩
theorem kq_10 : (.initialized RX0 : Cond) ∈ kAW := kAW_of (i := 10) (by decide +kernel) rfl
theorem kq_11 : (.initialized RX1 : Cond) ∈ kAW := kAW_of (i := 11) (by decide +kernel) rfl
theorem kq_12 : (.initialized RX2 : Cond) ∈ kAW := kAW_of (i := 12) (by decide +kernel) rfl
theorem kq_13 : (.initialized RX4 : Cond) ∈ kAW := kAW_of (i := 13) (by decide +kernel) rfl
theorem kq_27 : (.code yI4 bI4 2 none : Cond) ∈ kAW := kAW_of (i := 27) (by decide +kernel) rfl
theorem kq_28 : (.methodLink RX5 1 objectInit : Cond) ∈ kAW := kAW_of (i := 28) (by decide +kernel) rfl
theorem kq_29 : (.instanceMethod objectInit : Cond) ∈ kAW := kAW_of (i := 29) (by decide +kernel) rfl
theorem kq_30 : (.code objectInit ⟨#[0xb1]⟩ 1 none : Cond) ∈ kAW := kAW_of (i := 30) (by decide +kernel) rfl
theorem kq_31 : (.classLink RX5 7 RX0 : Cond) ∈ kAW := kAW_of (i := 31) (by decide +kernel) rfl
theorem kq_32 : (.instantiable RX0 12 : Cond) ∈ kAW := kAW_of (i := 32) (by decide +kernel) rfl
theorem kq_34 : (.instanceMethod yI0 : Cond) ∈ kAW := kAW_of (i := 34) (by decide +kernel) rfl
theorem kq_35 : (.code yI0 bI0 1 none : Cond) ∈ kAW := kAW_of (i := 35) (by decide +kernel) rfl
theorem kq_36 : (.methodLink RX0 3 objectInit : Cond) ∈ kAW := kAW_of (i := 36) (by decide +kernel) rfl
theorem kq_37 : (.fieldLink RX0 9 RX0 (TX0 0).2.1 (TX0 0).2.2.1 : Cond) ∈ kAW := kAW_of (i := 37) (by decide +kernel) rfl
theorem kq_38 : (.fieldLink RX0 15 RX0 (TX0 1).2.1 (TX0 1).2.2.1 : Cond) ∈ kAW := kAW_of (i := 38) (by decide +kernel) rfl
theorem kq_39 : (.fieldLink RX0 18 RX0 (TX0 2).2.1 (TX0 2).2.2.1 : Cond) ∈ kAW := kAW_of (i := 39) (by decide +kernel) rfl
theorem kq_40 : (.fieldLink RX0 21 RX0 (TX0 3).2.1 (TX0 3).2.2.1 : Cond) ∈ kAW := kAW_of (i := 40) (by decide +kernel) rfl
theorem kq_41 : (.fieldLink RX0 24 RX0 (TX0 4).2.1 (TX0 4).2.2.1 : Cond) ∈ kAW := kAW_of (i := 41) (by decide +kernel) rfl
theorem kq_42 : (.fieldLink RX0 27 RX0 (TX0 5).2.1 (TX0 5).2.2.1 : Cond) ∈ kAW := kAW_of (i := 42) (by decide +kernel) rfl
theorem kq_44 : (.fieldLink RX0 30 RX0 (TX0 7).2.1 (TX0 7).2.2.1 : Cond) ∈ kAW := kAW_of (i := 44) (by decide +kernel) rfl
theorem kq_74 : (.arrayClass .int : Cond) ∈ kAW := kAW_of (i := 74) (by decide +kernel) rfl
theorem kq_75 : (.classLink RX5 10 RX1 : Cond) ∈ kAW := kAW_of (i := 75) (by decide +kernel) rfl
theorem kq_76 : (.instantiable RX1 2 : Cond) ∈ kAW := kAW_of (i := 76) (by decide +kernel) rfl
theorem kq_78 : (.instanceMethod yI1 : Cond) ∈ kAW := kAW_of (i := 78) (by decide +kernel) rfl
theorem kq_79 : (.code yI1 bI1 1 none : Cond) ∈ kAW := kAW_of (i := 79) (by decide +kernel) rfl
theorem kq_80 : (.methodLink RX1 3 objectInit : Cond) ∈ kAW := kAW_of (i := 80) (by decide +kernel) rfl
theorem kq_81 : (.fieldLink RX1 11 RX1 (TX1 0).2.1 (TX1 0).2.2.1 : Cond) ∈ kAW := kAW_of (i := 81) (by decide +kernel) rfl
theorem kq_88 : (.classLink RX5 26 RX2 : Cond) ∈ kAW := kAW_of (i := 88) (by decide +kernel) rfl
theorem kq_89 : (.instantiable RX2 8 : Cond) ∈ kAW := kAW_of (i := 89) (by decide +kernel) rfl
theorem kq_90 : (.methodLink RX5 28 yI2 : Cond) ∈ kAW := kAW_of (i := 90) (by decide +kernel) rfl
theorem kq_91 : (.instanceMethod yI2 : Cond) ∈ kAW := kAW_of (i := 91) (by decide +kernel) rfl
theorem kq_92 : (.code yI2 bI2 2 none : Cond) ∈ kAW := kAW_of (i := 92) (by decide +kernel) rfl
theorem kq_93 : (.methodLink RX2 3 objectInit : Cond) ∈ kAW := kAW_of (i := 93) (by decide +kernel) rfl
theorem kq_94 : (.fieldLink RX2 33 RX2 (TX2 0).2.1 (TX2 0).2.2.1 : Cond) ∈ kAW := kAW_of (i := 94) (by decide +kernel) rfl
theorem kq_95 : (.fieldLink RX2 9 RX2 (TX2 1).2.1 (TX2 1).2.2.1 : Cond) ∈ kAW := kAW_of (i := 95) (by decide +kernel) rfl
theorem kq_96 : (.fieldLink RX2 15 RX2 (TX2 2).2.1 (TX2 2).2.2.1 : Cond) ∈ kAW := kAW_of (i := 96) (by decide +kernel) rfl
theorem kq_97 : (.fieldLink RX2 18 RX2 (TX2 3).2.1 (TX2 3).2.2.1 : Cond) ∈ kAW := kAW_of (i := 97) (by decide +kernel) rfl
theorem kq_98 : (.fieldLink RX2 21 RX2 (TX2 4).2.1 (TX2 4).2.2.1 : Cond) ∈ kAW := kAW_of (i := 98) (by decide +kernel) rfl
theorem kq_99 : (.fieldLink RX2 24 RX2 (TX2 5).2.1 (TX2 5).2.2.1 : Cond) ∈ kAW := kAW_of (i := 99) (by decide +kernel) rfl
theorem kq_100 : (.fieldLink RX2 27 RX2 (TX2 6).2.1 (TX2 6).2.2.1 : Cond) ∈ kAW := kAW_of (i := 100) (by decide +kernel) rfl
theorem kq_101 : (.fieldLink RX2 30 RX2 (TX2 7).2.1 (TX2 7).2.2.1 : Cond) ∈ kAW := kAW_of (i := 101) (by decide +kernel) rfl
theorem kq_119 : (.arrayClass .long : Cond) ∈ kAW := kAW_of (i := 119) (by decide +kernel) rfl
theorem kq_120 : (.classLink RX5 35 RX4 : Cond) ∈ kAW := kAW_of (i := 120) (by decide +kernel) rfl
theorem kq_121 : (.instantiable RX4 4 : Cond) ∈ kAW := kAW_of (i := 121) (by decide +kernel) rfl
theorem kq_122 : (.methodLink RX5 37 yI3 : Cond) ∈ kAW := kAW_of (i := 122) (by decide +kernel) rfl
theorem kq_123 : (.instanceMethod yI3 : Cond) ∈ kAW := kAW_of (i := 123) (by decide +kernel) rfl
theorem kq_124 : (.code yI3 bI3 2 none : Cond) ∈ kAW := kAW_of (i := 124) (by decide +kernel) rfl
theorem kq_125 : (.methodLink RX4 3 objectInit : Cond) ∈ kAW := kAW_of (i := 125) (by decide +kernel) rfl
theorem kq_126 : (.fieldLink RX4 15 RX4 (TX4 0).2.1 (TX4 0).2.2.1 : Cond) ∈ kAW := kAW_of (i := 126) (by decide +kernel) rfl
theorem kq_127 : (.fieldLink RX4 9 RX4 (TX4 1).2.1 (TX4 1).2.2.1 : Cond) ∈ kAW := kAW_of (i := 127) (by decide +kernel) rfl
theorem kq_139 : (.fieldLink RX5 13 RX5 (TX5 0).2.1 (TX5 0).2.2.1 : Cond) ∈ kAW := kAW_of (i := 139) (by decide +kernel) rfl
theorem kq_140 : (.fieldLink RX5 19 RX5 (TX5 1).2.1 (TX5 1).2.2.1 : Cond) ∈ kAW := kAW_of (i := 140) (by decide +kernel) rfl
theorem kq_141 : (.fieldLink RX5 23 RX5 (TX5 2).2.1 (TX5 2).2.2.1 : Cond) ∈ kAW := kAW_of (i := 141) (by decide +kernel) rfl
theorem kq_142 : (.fieldLink RX5 31 RX5 (TX5 3).2.1 (TX5 3).2.2.1 : Cond) ∈ kAW := kAW_of (i := 142) (by decide +kernel) rfl
theorem kq_143 : (.fieldLink RX5 38 RX5 (TX5 4).2.1 (TX5 4).2.2.1 : Cond) ∈ kAW := kAW_of (i := 143) (by decide +kernel) rfl
def kwi0 : List Cond := .code yI0 bI0 1 none :: kAW
def kwi1 : List Cond := .code yI1 bI1 1 none :: kAW
def kwi2 : List Cond := .code yI2 bI2 2 none :: kAW
def kwi3 : List Cond := .code yI3 bI3 2 none :: kAW
def kwi4 : List Cond := .code yI4 bI4 2 none :: kAW
theorem dI0_0 : decode bI0 0 = .ok (.aload_n 0, 1) := by decide +kernel
theorem dI0_1 : decode bI0 1 = .ok (.invokespecial 3, 3) := by decide +kernel
theorem dI0_4 : decode bI0 4 = .ok (.aload_n 0, 1) := by decide +kernel
theorem dI0_5 : decode bI0 5 = .ok (.iconst 5, 1) := by decide +kernel
theorem dI0_6 : decode bI0 6 = .ok (.newarray .int, 2) := by decide +kernel
theorem dI0_8 : decode bI0 8 = .ok (.putfield 9, 3) := by decide +kernel
theorem dI0_11 : decode bI0 11 = .ok (.aload_n 0, 1) := by decide +kernel
theorem dI0_12 : decode bI0 12 = .ok (.iconst 5, 1) := by decide +kernel
theorem dI0_13 : decode bI0 13 = .ok (.newarray .int, 2) := by decide +kernel
theorem dI0_15 : decode bI0 15 = .ok (.putfield 15, 3) := by decide +kernel
theorem dI0_18 : decode bI0 18 = .ok (.aload_n 0, 1) := by decide +kernel
theorem dI0_19 : decode bI0 19 = .ok (.iconst 5, 1) := by decide +kernel
theorem dI0_20 : decode bI0 20 = .ok (.newarray .int, 2) := by decide +kernel
theorem dI0_22 : decode bI0 22 = .ok (.putfield 18, 3) := by decide +kernel
theorem dI0_25 : decode bI0 25 = .ok (.aload_n 0, 1) := by decide +kernel
theorem dI0_26 : decode bI0 26 = .ok (.iconst 5, 1) := by decide +kernel
theorem dI0_27 : decode bI0 27 = .ok (.newarray .int, 2) := by decide +kernel
theorem dI0_29 : decode bI0 29 = .ok (.putfield 21, 3) := by decide +kernel
theorem dI0_32 : decode bI0 32 = .ok (.aload_n 0, 1) := by decide +kernel
theorem dI0_33 : decode bI0 33 = .ok (.bipush 32, 2) := by decide +kernel
theorem dI0_35 : decode bI0 35 = .ok (.newarray .int, 2) := by decide +kernel
theorem dI0_37 : decode bI0 37 = .ok (.putfield 24, 3) := by decide +kernel
theorem dI0_40 : decode bI0 40 = .ok (.aload_n 0, 1) := by decide +kernel
theorem dI0_41 : decode bI0 41 = .ok (.iconst 5, 1) := by decide +kernel
theorem dI0_42 : decode bI0 42 = .ok (.newarray .int, 2) := by decide +kernel
theorem dI0_44 : decode bI0 44 = .ok (.putfield 27, 3) := by decide +kernel
theorem dI0_47 : decode bI0 47 = .ok (.aload_n 0, 1) := by decide +kernel
theorem dI0_48 : decode bI0 48 = .ok (.iconst (-1), 1) := by decide +kernel
theorem dI0_49 : decode bI0 49 = .ok (.putfield 30, 3) := by decide +kernel
theorem dI0_52 : decode bI0 52 = .ok (.return_, 1) := by decide +kernel
theorem dI1_0 : decode bI1 0 = .ok (.aload_n 0, 1) := by decide +kernel
theorem dI1_1 : decode bI1 1 = .ok (.invokespecial 3, 3) := by decide +kernel
theorem dI1_4 : decode bI1 4 = .ok (.aload_n 0, 1) := by decide +kernel
theorem dI1_5 : decode bI1 5 = .ok (.bipush 20, 2) := by decide +kernel
theorem dI1_7 : decode bI1 7 = .ok (.newarray .int, 2) := by decide +kernel
theorem dI1_9 : decode bI1 9 = .ok (.putfield 11, 3) := by decide +kernel
theorem dI1_12 : decode bI1 12 = .ok (.return_, 1) := by decide +kernel
theorem dI2_0 : decode bI2 0 = .ok (.aload_n 0, 1) := by decide +kernel
theorem dI2_1 : decode bI2 1 = .ok (.invokespecial 3, 3) := by decide +kernel
theorem dI2_4 : decode bI2 4 = .ok (.aload_n 0, 1) := by decide +kernel
theorem dI2_5 : decode bI2 5 = .ok (.iconst 5, 1) := by decide +kernel
theorem dI2_6 : decode bI2 6 = .ok (.newarray .long, 2) := by decide +kernel
theorem dI2_8 : decode bI2 8 = .ok (.putfield 9, 3) := by decide +kernel
theorem dI2_11 : decode bI2 11 = .ok (.aload_n 0, 1) := by decide +kernel
theorem dI2_12 : decode bI2 12 = .ok (.iconst 5, 1) := by decide +kernel
theorem dI2_13 : decode bI2 13 = .ok (.newarray .long, 2) := by decide +kernel
theorem dI2_15 : decode bI2 15 = .ok (.putfield 15, 3) := by decide +kernel
theorem dI2_18 : decode bI2 18 = .ok (.aload_n 0, 1) := by decide +kernel
theorem dI2_19 : decode bI2 19 = .ok (.bipush 32, 2) := by decide +kernel
theorem dI2_21 : decode bI2 21 = .ok (.newarray .long, 2) := by decide +kernel
theorem dI2_23 : decode bI2 23 = .ok (.putfield 18, 3) := by decide +kernel
theorem dI2_26 : decode bI2 26 = .ok (.aload_n 0, 1) := by decide +kernel
theorem dI2_27 : decode bI2 27 = .ok (.bipush 6, 2) := by decide +kernel
theorem dI2_29 : decode bI2 29 = .ok (.newarray .long, 2) := by decide +kernel
theorem dI2_31 : decode bI2 31 = .ok (.putfield 21, 3) := by decide +kernel
theorem dI2_34 : decode bI2 34 = .ok (.aload_n 0, 1) := by decide +kernel
theorem dI2_35 : decode bI2 35 = .ok (.bipush 6, 2) := by decide +kernel
theorem dI2_37 : decode bI2 37 = .ok (.newarray .long, 2) := by decide +kernel
theorem dI2_39 : decode bI2 39 = .ok (.putfield 24, 3) := by decide +kernel
theorem dI2_42 : decode bI2 42 = .ok (.aload_n 0, 1) := by decide +kernel
theorem dI2_43 : decode bI2 43 = .ok (.bipush 64, 2) := by decide +kernel
theorem dI2_45 : decode bI2 45 = .ok (.newarray .long, 2) := by decide +kernel
theorem dI2_47 : decode bI2 47 = .ok (.putfield 27, 3) := by decide +kernel
theorem dI2_50 : decode bI2 50 = .ok (.aload_n 0, 1) := by decide +kernel
theorem dI2_51 : decode bI2 51 = .ok (.bipush 64, 2) := by decide +kernel
theorem dI2_53 : decode bI2 53 = .ok (.newarray .long, 2) := by decide +kernel
theorem dI2_55 : decode bI2 55 = .ok (.putfield 30, 3) := by decide +kernel
theorem dI2_58 : decode bI2 58 = .ok (.aload_n 0, 1) := by decide +kernel
theorem dI2_59 : decode bI2 59 = .ok (.aload_n 1, 1) := by decide +kernel
theorem dI2_60 : decode bI2 60 = .ok (.putfield 33, 3) := by decide +kernel
theorem dI2_63 : decode bI2 63 = .ok (.return_, 1) := by decide +kernel
theorem dI3_0 : decode bI3 0 = .ok (.aload_n 0, 1) := by decide +kernel
theorem dI3_1 : decode bI3 1 = .ok (.invokespecial 3, 3) := by decide +kernel
theorem dI3_4 : decode bI3 4 = .ok (.aload_n 0, 1) := by decide +kernel
theorem dI3_5 : decode bI3 5 = .ok (.iconst 5, 1) := by decide +kernel
theorem dI3_6 : decode bI3 6 = .ok (.newarray .int, 2) := by decide +kernel
theorem dI3_8 : decode bI3 8 = .ok (.putfield 9, 3) := by decide +kernel
theorem dI3_11 : decode bI3 11 = .ok (.aload_n 0, 1) := by decide +kernel
theorem dI3_12 : decode bI3 12 = .ok (.aload_n 1, 1) := by decide +kernel
theorem dI3_13 : decode bI3 13 = .ok (.putfield 15, 3) := by decide +kernel
theorem dI3_16 : decode bI3 16 = .ok (.return_, 1) := by decide +kernel
theorem dI4_0 : decode bI4 0 = .ok (.aload_n 0, 1) := by decide +kernel
theorem dI4_1 : decode bI4 1 = .ok (.invokespecial 1, 3) := by decide +kernel
theorem dI4_4 : decode bI4 4 = .ok (.new 7, 3) := by decide +kernel
theorem dI4_7 : decode bI4 7 = .ok (.dup, 1) := by decide +kernel
theorem dI4_8 : decode bI4 8 = .ok (.invokespecial 9, 3) := by decide +kernel
theorem dI4_11 : decode bI4 11 = .ok (.astore_n 1, 1) := by decide +kernel
theorem dI4_12 : decode bI4 12 = .ok (.aload_n 0, 1) := by decide +kernel
theorem dI4_13 : decode bI4 13 = .ok (.new 10, 3) := by decide +kernel
theorem dI4_16 : decode bI4 16 = .ok (.dup, 1) := by decide +kernel
theorem dI4_17 : decode bI4 17 = .ok (.invokespecial 12, 3) := by decide +kernel
theorem dI4_20 : decode bI4 20 = .ok (.putfield 13, 3) := by decide +kernel
theorem dI4_23 : decode bI4 23 = .ok (.aload_n 0, 1) := by decide +kernel
theorem dI4_24 : decode bI4 24 = .ok (.aload_n 1, 1) := by decide +kernel
theorem dI4_25 : decode bI4 25 = .ok (.putfield 19, 3) := by decide +kernel
theorem dI4_28 : decode bI4 28 = .ok (.aload_n 0, 1) := by decide +kernel
theorem dI4_29 : decode bI4 29 = .ok (.new 7, 3) := by decide +kernel
theorem dI4_32 : decode bI4 32 = .ok (.dup, 1) := by decide +kernel
theorem dI4_33 : decode bI4 33 = .ok (.invokespecial 9, 3) := by decide +kernel
theorem dI4_36 : decode bI4 36 = .ok (.putfield 23, 3) := by decide +kernel
theorem dI4_39 : decode bI4 39 = .ok (.aload_n 0, 1) := by decide +kernel
theorem dI4_40 : decode bI4 40 = .ok (.new 26, 3) := by decide +kernel
theorem dI4_43 : decode bI4 43 = .ok (.dup, 1) := by decide +kernel
theorem dI4_44 : decode bI4 44 = .ok (.aload_n 1, 1) := by decide +kernel
theorem dI4_45 : decode bI4 45 = .ok (.invokespecial 28, 3) := by decide +kernel
theorem dI4_48 : decode bI4 48 = .ok (.putfield 31, 3) := by decide +kernel
theorem dI4_51 : decode bI4 51 = .ok (.aload_n 0, 1) := by decide +kernel
theorem dI4_52 : decode bI4 52 = .ok (.new 35, 3) := by decide +kernel
theorem dI4_55 : decode bI4 55 = .ok (.dup, 1) := by decide +kernel
theorem dI4_56 : decode bI4 56 = .ok (.aload_n 1, 1) := by decide +kernel
theorem dI4_57 : decode bI4 57 = .ok (.invokespecial 37, 3) := by decide +kernel
theorem dI4_60 : decode bI4 60 = .ok (.putfield 38, 3) := by decide +kernel
theorem dI4_63 : decode bI4 63 = .ok (.return_, 1) := by decide +kernel
/-- what stands behind RX0 -/
abbrev kwl0 (cI cL : ClassId) (h0 q1 q2 q3 q4 q5 q6 : Nat) : va_W := [(h0, .inr (0, [.ref q1, .ref q2, .ref q3, .ref q4, .ref q5, .ref q6, .int 0, .int (-1), .int 0, .int 0, .int 0, .int 0])), (q1, zAI cI 5), (q2, zAI cI 5), (q3, zAI cI 5), (q4, zAI cI 5), (q5, zAI cI 32), (q6, zAI cI 5)]
def kBh0 (D : va_G) (cI cL : ClassId) (A : Nat → Prop) (h0 : Nat) (t : State) : Prop := ∃ (q1 q2 q3 q4 q5 q6 : Nat), va_P D vwCl (kwl0 cI cL h0 q1 q2 q3 q4 q5 q6) t.heap ∧ va_D A (kwl0 cI cL h0 q1 q2 q3 q4 q5 q6)
set_option maxHeartbeats 4000000 in
set_option maxRecDepth 100000 in
theorem kI0 (l : Launch) (D : va_G) (cI cL : ClassId) (h0 : Nat) (sz : Nat) : Met l yI0 kwi0 ({ frames := 1, cells := 6, slots := 57, locals := 12 }) (va_Pc [.ref h0] (fun U => U.heap.size = sz ∧ va_P D vwCl [(h0, .inr (0, [.null, .null, .null, .null, .null, .null, .int 0, .int 0, .int 0, .int 0, .int 0, .int 0]))] U.heap ∧ va_K D vwCl [(cI, .int), (cL, .long)] U ∧ va_D (fun _ => True) [(h0, .inr (0, [.null, .null, .null, .null, .null, .null, .int 0, .int 0, .int 0, .int 0, .int 0, .int 0]))])) (va_Qv (fun _ : Unit => True) (fun _ t => kBh0 D cI cL (va_A [(h0, .inr (0, [.null, .null, .null, .null, .null, .null, .int 0, .int 0, .int 0, .int 0, .int 0, .int 0]))] sz) h0 t) (va_A [(h0, .inr (0, [.null, .null, .null, .null, .null, .null, .int 0, .int 0, .int 0, .int 0, .int 0, .int 0]))] sz)) 6 57 (va_A [(h0, .inr (0, [.null, .null, .null, .null, .null, .null, .int 0, .int 0, .int 0, .int 0, .int 0, .int 0]))] sz) := by
  refine Met.ofW (cc := bI0) (maxL := 1) (ret := none) (by decide) rfl ?_
  intro p e s m args below meth c s₁ B hml hv
  obtain ⟨rfl, hsz, hP, hK, hD0⟩ := hv
  have hx := B.exec
  have hb := B.bytes
  have hr := B.returns
  have hts := atoms_spec (ws := kwi0) B.pre
  have hq : ∀ w ∈ kAW, w.before [.ref h0].toArray s = true := fun w hw => hts w (List.mem_cons_of_mem _ hw)
  have hown : s.vm.findClass RX0 = some m.cls := findClass_of_methodNamed B.named
  have hlocks := B.notSynchronized
  have hin : meth.name = "<init>" := (name_of_methodNamed B.named B.method).1
  subst hsz
  have hD := hD0.self (sz := s.heap.size)
  unfold kBh0
  generalize hAe : va_A [(h0, .inr (0, [.null, .null, .null, .null, .null, .null, .int 0, .int 0, .int 0, .int 0, .int 0, .int 0]))] s.heap.size = A at hD ⊢
  have hA : ∀ q : Nat, s.heap.size ≤ q → A q := fun q h => by rw [← hAe]; exact Or.inr h
  have hS : va_S A s.heap s.heap [] := va_S.rf
  have hP : va_P D vwCl [(h0, .inr (0, [.null, .null, .null, .null, .null, .null, .int 0, .int 0, .int 0, .int 0, .int 0, .int 0]))] s.heap := hP
  have hl := lv_entry ([.ref h0]) (n := 1) (Nat.le_of_ble_eq_true rfl)
  rw [lg_entry_eq]
  generalize (lg_sl ([.ref h0]) ++ List.replicate (1 - (lg_sl ([.ref h0])).length) Slot.unset).toArray = ls at hl ⊢
  have hl : lv_has ls 1 [(0, .ref h0)] := hl
  refine lv_aload_n hx hb dI0_0 rfl (lv_at hl 0 rfl) ?_
  refine W.objInit hx hb hown (hq _ kq_36) (hq _ kq_29) (hq _ kq_30) rfl (by rw [hml]; exact hl.1) rfl dI0_1 (Nat.le_of_ble_eq_true rfl) (Nat.le_of_ble_eq_true rfl) ?_
  refine W.eq (g2 := F0 m 4 ls []) rfl ?_
  refine lv_aload_n hx hb dI0_4 rfl (lv_at hl 0 rfl) ?_
  refine lv_iconst (v := 5) hx hb dI0_5 (by decide) ?_
  refine kn_ai hx hb (hq _ kq_74) hK hP hD hS hA 5 (by decide) (by decide +kernel) (Nat.le_of_ble_eq_true rfl) (Nat.le_of_ble_eq_true rfl) (Nat.le_of_ble_eq_true rfl) dI0_6 (fun q1 H hP hD hS => ?_)
  have hP : va_P D vwCl [(h0, .inr (0, [.null, .null, .null, .null, .null, .null, .int 0, .int 0, .int 0, .int 0, .int 0, .int 0])), (q1, zAI cI 5)] H := hP
  have hD : va_D A [(h0, .inr (0, [.null, .null, .null, .null, .null, .null, .int 0, .int 0, .int 0, .int 0, .int 0, .int 0])), (q1, zAI cI 5)] := hD
  refine va_putF (D := D) (ci := 0) (v := .ref q1) (ty := .array .int) (C := RX0) (T := TX0) (N := 12) hx hb hq (kws_in kws_0 kwg_0) tyX0 tyX0_ok nmX0 hown hK hP hD hS 0 rfl rfl 0 (by decide) (hq _ kq_37) (fun _ h9 => h9) rfl hin rfl (by decide +kernel) rfl rfl (Nat.le_of_ble_eq_true rfl) dI0_8 (fun H locs hP hD hS => ?_)
  have hP : va_P D vwCl [(h0, .inr (0, [.ref q1, .null, .null, .null, .null, .null, .int 0, .int 0, .int 0, .int 0, .int 0, .int 0])), (q1, zAI cI 5)] H := hP
  have hD : va_D A [(h0, .inr (0, [.ref q1, .null, .null, .null, .null, .null, .int 0, .int 0, .int 0, .int 0, .int 0, .int 0])), (q1, zAI cI 5)] := hD
  refine lv_aload_n hx hb dI0_11 rfl (lv_at hl 0 rfl) ?_
  refine lv_iconst (v := 5) hx hb dI0_12 (by decide) ?_
  refine kn_ai hx hb (hq _ kq_74) hK hP hD hS hA 5 (by decide) (by decide +kernel) (Nat.le_of_ble_eq_true rfl) (Nat.le_of_ble_eq_true rfl) (Nat.le_of_ble_eq_true rfl) dI0_13 (fun q2 H hP hD hS => ?_)
  have hP : va_P D vwCl [(h0, .inr (0, [.ref q1, .null, .null, .null, .null, .null, .int 0, .int 0, .int 0, .int 0, .int 0, .int 0])), (q1, zAI cI 5), (q2, zAI cI 5)] H := hP
  have hD : va_D A [(h0, .inr (0, [.ref q1, .null, .null, .null, .null, .null, .int 0, .int 0, .int 0, .int 0, .int 0, .int 0])), (q1, zAI cI 5), (q2, zAI cI 5)] := hD
  refine va_putF (D := D) (ci := 0) (v := .ref q2) (ty := .array .int) (C := RX0) (T := TX0) (N := 12) hx hb hq (kws_in kws_0 kwg_0) tyX0 tyX0_ok nmX0 hown hK hP hD hS 0 rfl rfl 1 (by decide) (hq _ kq_38) (fun _ h9 => h9) rfl hin rfl (by decide +kernel) rfl rfl (Nat.le_of_ble_eq_true rfl) dI0_15 (fun H locs hP hD hS => ?_)
  have hP : va_P D vwCl [(h0, .inr (0, [.ref q1, .ref q2, .null, .null, .null, .null, .int 0, .int 0, .int 0, .int 0, .int 0, .int 0])), (q1, zAI cI 5), (q2, zAI cI 5)] H := hP
  have hD : va_D A [(h0, .inr (0, [.ref q1, .ref q2, .null, .null, .null, .null, .int 0, .int 0, .int 0, .int 0, .int 0, .int 0])), (q1, zAI cI 5), (q2, zAI cI 5)] := hD
  refine lv_aload_n hx hb dI0_18 rfl (lv_at hl 0 rfl) ?_
  refine lv_iconst (v := 5) hx hb dI0_19 (by decide) ?_
  refine kn_ai hx hb (hq _ kq_74) hK hP hD hS hA 5 (by decide) (by decide +kernel) (Nat.le_of_ble_eq_true rfl) (Nat.le_of_ble_eq_true rfl) (Nat.le_of_ble_eq_true rfl) dI0_20 (fun q3 H hP hD hS => ?_)
  have hP : va_P D vwCl [(h0, .inr (0, [.ref q1, .ref q2, .null, .null, .null, .null, .int 0, .int 0, .int 0, .int 0, .int 0, .int 0])), (q1, zAI cI 5), (q2, zAI cI 5), (q3, zAI cI 5)] H := hP
  have hD : va_D A [(h0, .inr (0, [.ref q1, .ref q2, .null, .null, .null, .null, .int 0, .int 0, .int 0, .int 0, .int 0, .int 0])), (q1, zAI cI 5), (q2, zAI cI 5), (q3, zAI cI 5)] := hD
  refine va_putF (D := D) (ci := 0) (v := .ref q3) (ty := .array .int) (C := RX0) (T := TX0) (N := 12) hx hb hq (kws_in kws_0 kwg_0) tyX0 tyX0_ok nmX0 hown hK hP hD hS 0 rfl rfl 2 (by decide) (hq _ kq_39) (fun _ h9 => h9) rfl hin rfl (by decide +kernel) rfl rfl (Nat.le_of_ble_eq_true rfl) dI0_22 (fun H locs hP hD hS => ?_)
  have hP : va_P D vwCl [(h0, .inr (0, [.ref q1, .ref q2, .ref q3, .null, .null, .null, .int 0, .int 0, .int 0, .int 0, .int 0, .int 0])), (q1, zAI cI 5), (q2, zAI cI 5), (q3, zAI cI 5)] H := hP
  have hD : va_D A [(h0, .inr (0, [.ref q1, .ref q2, .ref q3, .null, .null, .null, .int 0, .int 0, .int 0, .int 0, .int 0, .int 0])), (q1, zAI cI 5), (q2, zAI cI 5), (q3, zAI cI 5)] := hD
  refine lv_aload_n hx hb dI0_25 rfl (lv_at hl 0 rfl) ?_
  refine lv_iconst (v := 5) hx hb dI0_26 (by decide) ?_
  refine kn_ai hx hb (hq _ kq_74) hK hP hD hS hA 5 (by decide) (by decide +kernel) (Nat.le_of_ble_eq_true rfl) (Nat.le_of_ble_eq_true rfl) (Nat.le_of_ble_eq_true rfl) dI0_27 (fun q4 H hP hD hS => ?_)
  have hP : va_P D vwCl [(h0, .inr (0, [.ref q1, .ref q2, .ref q3, .null, .null, .null, .int 0, .int 0, .int 0, .int 0, .int 0, .int 0])), (q1, zAI cI 5), (q2, zAI cI 5), (q3, zAI cI 5), (q4, zAI cI 5)] H := hP
  have hD : va_D A [(h0, .inr (0, [.ref q1, .ref q2, .ref q3, .null, .null, .null, .int 0, .int 0, .int 0, .int 0, .int 0, .int 0])), (q1, zAI cI 5), (q2, zAI cI 5), (q3, zAI cI 5), (q4, zAI cI 5)] := hD
  refine va_putF (D := D) (ci := 0) (v := .ref q4) (ty := .array .int) (C := RX0) (T := TX0) (N := 12) hx hb hq (kws_in kws_0 kwg_0) tyX0 tyX0_ok nmX0 hown hK hP hD hS 0 rfl rfl 3 (by decide) (hq _ kq_40) (fun _ h9 => h9) rfl hin rfl (by decide +kernel) rfl rfl (Nat.le_of_ble_eq_true rfl) dI0_29 (fun H locs hP hD hS => ?_)
  have hP : va_P D vwCl [(h0, .inr (0, [.ref q1, .ref q2, .ref q3, .ref q4, .null, .null, .int 0, .int 0, .int 0, .int 0, .int 0, .int 0])), (q1, zAI cI 5), (q2, zAI cI 5), (q3, zAI cI 5), (q4, zAI cI 5)] H := hP
  have hD : va_D A [(h0, .inr (0, [.ref q1, .ref q2, .ref q3, .ref q4, .null, .null, .int 0, .int 0, .int 0, .int 0, .int 0, .int 0])), (q1, zAI cI 5), (q2, zAI cI 5), (q3, zAI cI 5), (q4, zAI cI 5)] := hD
  refine lv_aload_n hx hb dI0_32 rfl (lv_at hl 0 rfl) ?_
  refine lv_bipush (v := 32) hx hb dI0_33 (by decide) ?_
  refine kn_ai hx hb (hq _ kq_74) hK hP hD hS hA 32 (by decide) (by decide +kernel) (Nat.le_of_ble_eq_true rfl) (Nat.le_of_ble_eq_true rfl) (Nat.le_of_ble_eq_true rfl) dI0_35 (fun q5 H hP hD hS => ?_)
  have hP : va_P D vwCl [(h0, .inr (0, [.ref q1, .ref q2, .ref q3, .ref q4, .null, .null, .int 0, .int 0, .int 0, .int 0, .int 0, .int 0])), (q1, zAI cI 5), (q2, zAI cI 5), (q3, zAI cI 5), (q4, zAI cI 5), (q5, zAI cI 32)] H := hP
  have hD : va_D A [(h0, .inr (0, [.ref q1, .ref q2, .ref q3, .ref q4, .null, .null, .int 0, .int 0, .int 0, .int 0, .int 0, .int 0])), (q1, zAI cI 5), (q2, zAI cI 5), (q3, zAI cI 5), (q4, zAI cI 5), (q5, zAI cI 32)] := hD
  refine va_putF (D := D) (ci := 0) (v := .ref q5) (ty := .array .int) (C := RX0) (T := TX0) (N := 12) hx hb hq (kws_in kws_0 kwg_0) tyX0 tyX0_ok nmX0 hown hK hP hD hS 0 rfl rfl 4 (by decide) (hq _ kq_41) (fun _ h9 => h9) rfl hin rfl (by decide +kernel) rfl rfl (Nat.le_of_ble_eq_true rfl) dI0_37 (fun H locs hP hD hS => ?_)
  have hP : va_P D vwCl [(h0, .inr (0, [.ref q1, .ref q2, .ref q3, .ref q4, .ref q5, .null, .int 0, .int 0, .int 0, .int 0, .int 0, .int 0])), (q1, zAI cI 5), (q2, zAI cI 5), (q3, zAI cI 5), (q4, zAI cI 5), (q5, zAI cI 32)] H := hP
  have hD : va_D A [(h0, .inr (0, [.ref q1, .ref q2, .ref q3, .ref q4, .ref q5, .null, .int 0, .int 0, .int 0, .int 0, .int 0, .int 0])), (q1, zAI cI 5), (q2, zAI cI 5), (q3, zAI cI 5), (q4, zAI cI 5), (q5, zAI cI 32)] := hD
  refine lv_aload_n hx hb dI0_40 rfl (lv_at hl 0 rfl) ?_
  refine lv_iconst (v := 5) hx hb dI0_41 (by decide) ?_
  refine kn_ai hx hb (hq _ kq_74) hK hP hD hS hA 5 (by decide) (by decide +kernel) (Nat.le_of_ble_eq_true rfl) (Nat.le_of_ble_eq_true rfl) (Nat.le_of_ble_eq_true rfl) dI0_42 (fun q6 H hP hD hS => ?_)
  have hP : va_P D vwCl [(h0, .inr (0, [.ref q1, .ref q2, .ref q3, .ref q4, .ref q5, .null, .int 0, .int 0, .int 0, .int 0, .int 0, .int 0])), (q1, zAI cI 5), (q2, zAI cI 5), (q3, zAI cI 5), (q4, zAI cI 5), (q5, zAI cI 32), (q6, zAI cI 5)] H := hP
  have hD : va_D A [(h0, .inr (0, [.ref q1, .ref q2, .ref q3, .ref q4, .ref q5, .null, .int 0, .int 0, .int 0, .int 0, .int 0, .int 0])), (q1, zAI cI 5), (q2, zAI cI 5), (q3, zAI cI 5), (q4, zAI cI 5), (q5, zAI cI 32), (q6, zAI cI 5)] := hD
  refine va_putF (D := D) (ci := 0) (v := .ref q6) (ty := .array .int) (C := RX0) (T := TX0) (N := 12) hx hb hq (kws_in kws_0 kwg_0) tyX0 tyX0_ok nmX0 hown hK hP hD hS 0 rfl rfl 5 (by decide) (hq _ kq_42) (fun _ h9 => h9) rfl hin rfl (by decide +kernel) rfl rfl (Nat.le_of_ble_eq_true rfl) dI0_44 (fun H locs hP hD hS => ?_)
  have hP : va_P D vwCl [(h0, .inr (0, [.ref q1, .ref q2, .ref q3, .ref q4, .ref q5, .ref q6, .int 0, .int 0, .int 0, .int 0, .int 0, .int 0])), (q1, zAI cI 5), (q2, zAI cI 5), (q3, zAI cI 5), (q4, zAI cI 5), (q5, zAI cI 32), (q6, zAI cI 5)] H := hP
  have hD : va_D A [(h0, .inr (0, [.ref q1, .ref q2, .ref q3, .ref q4, .ref q5, .ref q6, .int 0, .int 0, .int 0, .int 0, .int 0, .int 0])), (q1, zAI cI 5), (q2, zAI cI 5), (q3, zAI cI 5), (q4, zAI cI 5), (q5, zAI cI 32), (q6, zAI cI 5)] := hD
  refine lv_aload_n hx hb dI0_47 rfl (lv_at hl 0 rfl) ?_
  refine lv_iconst (v := (-1)) hx hb dI0_48 (by decide) ?_
  refine va_put (D := D) (ci := 0) (v := .int (-1)) (ty := .int) (C := RX0) (T := TX0) (N := 12) hx hb hq (kws_in kws_0 kwg_0) tyX0 tyX0_ok nmX0 hown hK hP hD hS 0 rfl rfl 7 (by decide) (hq _ kq_44) (fun _ h9 => h9) rfl (by decide +kernel) rfl rfl (Nat.le_of_ble_eq_true rfl) dI0_49 (fun H locs hP hD hS => ?_)
  have hP : va_P D vwCl [(h0, .inr (0, [.ref q1, .ref q2, .ref q3, .ref q4, .ref q5, .ref q6, .int 0, .int (-1), .int 0, .int 0, .int 0, .int 0])), (q1, zAI cI 5), (q2, zAI cI 5), (q3, zAI cI 5), (q4, zAI cI 5), (q5, zAI cI 32), (q6, zAI cI 5)] H := hP
  have hD : va_D A [(h0, .inr (0, [.ref q1, .ref q2, .ref q3, .ref q4, .ref q5, .ref q6, .int 0, .int (-1), .int 0, .int 0, .int 0, .int 0])), (q1, zAI cI 5), (q2, zAI cI 5), (q3, zAI cI 5), (q4, zAI cI 5), (q5, zAI cI 32), (q6, zAI cI 5)] := hD
  refine W.widen (k := 6) (n := 57) (Nat.le_of_ble_eq_true rfl) (Nat.le_of_ble_eq_true rfl) ?_
  exact W.vret hx hb hr (fun t ht hW => ⟨⟨(), rfl, trivial, q1, q2, q3, q4, q5, q6, by rw [ht]; exact hP, hD⟩, hS.F ht⟩) hS.2.2 dI0_52
/-- what stands behind RX1 -/
abbrev kwl1 (cI cL : ClassId) (h0 q1 : Nat) : va_W := [(h0, .inr (1, [.ref q1, .int 0])), (q1, zAI cI 20)]
def kBh1 (D : va_G) (cI cL : ClassId) (A : Nat → Prop) (h0 : Nat) (t : State) : Prop := ∃ (q1 : Nat), va_P D vwCl (kwl1 cI cL h0 q1) t.heap ∧ va_D A (kwl1 cI cL h0 q1)
set_option maxHeartbeats 4000000 in
set_option maxRecDepth 100000 in
theorem kI1 (l : Launch) (D : va_G) (cI cL : ClassId) (h0 : Nat) (sz : Nat) : Met l yI1 kwi1 ({ frames := 1, cells := 1, slots := 20, locals := 12 }) (va_Pc [.ref h0] (fun U => U.heap.size = sz ∧ va_P D vwCl [(h0, .inr (1, [.null, .int 0]))] U.heap ∧ va_K D vwCl [(cI, .int), (cL, .long)] U ∧ va_D (fun _ => True) [(h0, .inr (1, [.null, .int 0]))])) (va_Qv (fun _ : Unit => True) (fun _ t => kBh1 D cI cL (va_A [(h0, .inr (1, [.null, .int 0]))] sz) h0 t) (va_A [(h0, .inr (1, [.null, .int 0]))] sz)) 1 20 (va_A [(h0, .inr (1, [.null, .int 0]))] sz) := by
  refine Met.ofW (cc := bI1) (maxL := 1) (ret := none) (by decide) rfl ?_
  intro p e s m args below meth c s₁ B hml hv
  obtain ⟨rfl, hsz, hP, hK, hD0⟩ := hv
  have hx := B.exec
  have hb := B.bytes
  have hr := B.returns
  have hts := atoms_spec (ws := kwi1) B.pre
  have hq : ∀ w ∈ kAW, w.before [.ref h0].toArray s = true := fun w hw => hts w (List.mem_cons_of_mem _ hw)
  have hown : s.vm.findClass RX1 = some m.cls := findClass_of_methodNamed B.named
  have hlocks := B.notSynchronized
  have hin : meth.name = "<init>" := (name_of_methodNamed B.named B.method).1
  subst hsz
  have hD := hD0.self (sz := s.heap.size)
  unfold kBh1
  generalize hAe : va_A [(h0, .inr (1, [.null, .int 0]))] s.heap.size = A at hD ⊢
  have hA : ∀ q : Nat, s.heap.size ≤ q → A q := fun q h => by rw [← hAe]; exact Or.inr h
  have hS : va_S A s.heap s.heap [] := va_S.rf
  have hP : va_P D vwCl [(h0, .inr (1, [.null, .int 0]))] s.heap := hP
  have hl := lv_entry ([.ref h0]) (n := 1) (Nat.le_of_ble_eq_true rfl)
  rw [lg_entry_eq]
  generalize (lg_sl ([.ref h0]) ++ List.replicate (1 - (lg_sl ([.ref h0])).length) Slot.unset).toArray = ls at hl ⊢
  have hl : lv_has ls 1 [(0, .ref h0)] := hl
  refine lv_aload_n hx hb dI1_0 rfl (lv_at hl 0 rfl) ?_
  refine W.objInit hx hb hown (hq _ kq_80) (hq _ kq_29) (hq _ kq_30) rfl (by rw [hml]; exact hl.1) rfl dI1_1 (Nat.le_of_ble_eq_true rfl) (Nat.le_of_ble_eq_true rfl) ?_
  refine W.eq (g2 := F0 m 4 ls []) rfl ?_
  refine lv_aload_n hx hb dI1_4 rfl (lv_at hl 0 rfl) ?_
  refine lv_bipush (v := 20) hx hb dI1_5 (by decide) ?_
  refine kn_ai hx hb (hq _ kq_74) hK hP hD hS hA 20 (by decide) (by decide +kernel) (Nat.le_of_ble_eq_true rfl) (Nat.le_of_ble_eq_true rfl) (Nat.le_of_ble_eq_true rfl) dI1_7 (fun q1 H hP hD hS => ?_)
  have hP : va_P D vwCl [(h0, .inr (1, [.null, .int 0])), (q1, zAI cI 20)] H := hP
  have hD : va_D A [(h0, .inr (1, [.null, .int 0])), (q1, zAI cI 20)] := hD
  refine va_putF (D := D) (ci := 1) (v := .ref q1) (ty := .array .int) (C := RX1) (T := TX1) (N := 2) hx hb hq (kws_in kws_1 kwg_1) tyX1 tyX1_ok nmX1 hown hK hP hD hS 0 rfl rfl 0 (by decide) (hq _ kq_81) (fun _ h9 => h9) rfl hin rfl (by decide +kernel) rfl rfl (Nat.le_of_ble_eq_true rfl) dI1_9 (fun H locs hP hD hS => ?_)
  have hP : va_P D vwCl [(h0, .inr (1, [.ref q1, .int 0])), (q1, zAI cI 20)] H := hP
  have hD : va_D A [(h0, .inr (1, [.ref q1, .int 0])), (q1, zAI cI 20)] := hD
  refine W.widen (k := 1) (n := 20) (Nat.le_of_ble_eq_true rfl) (Nat.le_of_ble_eq_true rfl) ?_
  exact W.vret hx hb hr (fun t ht hW => ⟨⟨(), rfl, trivial, q1, by rw [ht]; exact hP, hD⟩, hS.F ht⟩) hS.2.2 dI1_12
/-- what stands behind RX2 -/
abbrev kwl2 (cI cL : ClassId) (h0 h1 q1 q2 q3 q4 q5 q6 q7 : Nat) : va_W := [(h0, .inr (2, [.ref h1, .ref q1, .ref q2, .ref q3, .ref q4, .ref q5, .ref q6, .ref q7])), (q1, zAL cL 5), (q2, zAL cL 5), (q3, zAL cL 32), (q4, zAL cL 6), (q5, zAL cL 6), (q6, zAL cL 64), (q7, zAL cL 64)]
def kBh2 (D : va_G) (cI cL : ClassId) (A : Nat → Prop) (h0 h1 : Nat) (t : State) : Prop := ∃ (q1 q2 q3 q4 q5 q6 q7 : Nat), va_P D vwCl (kwl2 cI cL h0 h1 q1 q2 q3 q4 q5 q6 q7) t.heap ∧ va_D A (kwl2 cI cL h0 h1 q1 q2 q3 q4 q5 q6 q7)
set_option maxHeartbeats 4000000 in
set_option maxRecDepth 100000 in
theorem kI2 (l : Launch) (D : va_G) (cI cL : ClassId) (h0 h1 : Nat) (sz : Nat) : Met l yI2 kwi2 ({ frames := 1, cells := 7, slots := 182, locals := 12 }) (va_Pc [.ref h0, .ref h1] (fun U => U.heap.size = sz ∧ va_P D vwCl [(h0, .inr (2, [.null, .null, .null, .null, .null, .null, .null, .null]))] U.heap ∧ va_K D vwCl [(cI, .int), (cL, .long)] U ∧ va_D (fun _ => True) [(h0, .inr (2, [.null, .null, .null, .null, .null, .null, .null, .null]))])) (va_Qv (fun _ : Unit => True) (fun _ t => kBh2 D cI cL (va_A [(h0, .inr (2, [.null, .null, .null, .null, .null, .null, .null, .null]))] sz) h0 h1 t) (va_A [(h0, .inr (2, [.null, .null, .null, .null, .null, .null, .null, .null]))] sz)) 7 182 (va_A [(h0, .inr (2, [.null, .null, .null, .null, .null, .null, .null, .null]))] sz) := by
  refine Met.ofW (cc := bI2) (maxL := 2) (ret := none) (by decide) rfl ?_
  intro p e s m args below meth c s₁ B hml hv
  obtain ⟨rfl, hsz, hP, hK, hD0⟩ := hv
  have hx := B.exec
  have hb := B.bytes
  have hr := B.returns
  have hts := atoms_spec (ws := kwi2) B.pre
  have hq : ∀ w ∈ kAW, w.before [.ref h0, .ref h1].toArray s = true := fun w hw => hts w (List.mem_cons_of_mem _ hw)
  have hown : s.vm.findClass RX2 = some m.cls := findClass_of_methodNamed B.named
  have hlocks := B.notSynchronized
  have hin : meth.name = "<init>" := (name_of_methodNamed B.named B.method).1
  subst hsz
  have hD := hD0.self (sz := s.heap.size)
  unfold kBh2
  generalize hAe : va_A [(h0, .inr (2, [.null, .null, .null, .null, .null, .null, .null, .null]))] s.heap.size = A at hD ⊢
  have hA : ∀ q : Nat, s.heap.size ≤ q → A q := fun q h => by rw [← hAe]; exact Or.inr h
  have hS : va_S A s.heap s.heap [] := va_S.rf
  have hP : va_P D vwCl [(h0, .inr (2, [.null, .null, .null, .null, .null, .null, .null, .null]))] s.heap := hP
  have hl := lv_entry ([.ref h0, .ref h1]) (n := 2) (Nat.le_of_ble_eq_true rfl)
  rw [lg_entry_eq]
  generalize (lg_sl ([.ref h0, .ref h1]) ++ List.replicate (2 - (lg_sl ([.ref h0, .ref h1])).length) Slot.unset).toArray = ls at hl ⊢
  have hl : lv_has ls 2 [(0, .ref h0), (1, .ref h1)] := hl
  refine lv_aload_n hx hb dI2_0 rfl (lv_at hl 0 rfl) ?_
  refine W.objInit hx hb hown (hq _ kq_93) (hq _ kq_29) (hq _ kq_30) rfl (by rw [hml]; exact hl.1) rfl dI2_1 (Nat.le_of_ble_eq_true rfl) (Nat.le_of_ble_eq_true rfl) ?_
  refine W.eq (g2 := F0 m 4 ls []) rfl ?_
  refine lv_aload_n hx hb dI2_4 rfl (lv_at hl 0 rfl) ?_
  refine lv_iconst (v := 5) hx hb dI2_5 (by decide) ?_
  refine kn_al hx hb (hq _ kq_119) hK hP hD hS hA 5 (by decide) (by decide +kernel) (Nat.le_of_ble_eq_true rfl) (Nat.le_of_ble_eq_true rfl) (Nat.le_of_ble_eq_true rfl) dI2_6 (fun q1 H hP hD hS => ?_)
  have hP : va_P D vwCl [(h0, .inr (2, [.null, .null, .null, .null, .null, .null, .null, .null])), (q1, zAL cL 5)] H := hP
  have hD : va_D A [(h0, .inr (2, [.null, .null, .null, .null, .null, .null, .null, .null])), (q1, zAL cL 5)] := hD
  refine va_putF (D := D) (ci := 2) (v := .ref q1) (ty := .array .long) (C := RX2) (T := TX2) (N := 8) hx hb hq (kws_in kws_2 kwg_2) tyX2 tyX2_ok nmX2 hown hK hP hD hS 0 rfl rfl 1 (by decide) (hq _ kq_95) (fun _ h9 => h9) rfl hin rfl (by decide +kernel) rfl rfl (Nat.le_of_ble_eq_true rfl) dI2_8 (fun H locs hP hD hS => ?_)
  have hP : va_P D vwCl [(h0, .inr (2, [.null, .ref q1, .null, .null, .null, .null, .null, .null])), (q1, zAL cL 5)] H := hP
  have hD : va_D A [(h0, .inr (2, [.null, .ref q1, .null, .null, .null, .null, .null, .null])), (q1, zAL cL 5)] := hD
  refine lv_aload_n hx hb dI2_11 rfl (lv_at hl 0 rfl) ?_
  refine lv_iconst (v := 5) hx hb dI2_12 (by decide) ?_
  refine kn_al hx hb (hq _ kq_119) hK hP hD hS hA 5 (by decide) (by decide +kernel) (Nat.le_of_ble_eq_true rfl) (Nat.le_of_ble_eq_true rfl) (Nat.le_of_ble_eq_true rfl) dI2_13 (fun q2 H hP hD hS => ?_)
  have hP : va_P D vwCl [(h0, .inr (2, [.null, .ref q1, .null, .null, .null, .null, .null, .null])), (q1, zAL cL 5), (q2, zAL cL 5)] H := hP
  have hD : va_D A [(h0, .inr (2, [.null, .ref q1, .null, .null, .null, .null, .null, .null])), (q1, zAL cL 5), (q2, zAL cL 5)] := hD
  refine va_putF (D := D) (ci := 2) (v := .ref q2) (ty := .array .long) (C := RX2) (T := TX2) (N := 8) hx hb hq (kws_in kws_2 kwg_2) tyX2 tyX2_ok nmX2 hown hK hP hD hS 0 rfl rfl 2 (by decide) (hq _ kq_96) (fun _ h9 => h9) rfl hin rfl (by decide +kernel) rfl rfl (Nat.le_of_ble_eq_true rfl) dI2_15 (fun H locs hP hD hS => ?_)
  have hP : va_P D vwCl [(h0, .inr (2, [.null, .ref q1, .ref q2, .null, .null, .null, .null, .null])), (q1, zAL cL 5), (q2, zAL cL 5)] H := hP
  have hD : va_D A [(h0, .inr (2, [.null, .ref q1, .ref q2, .null, .null, .null, .null, .null])), (q1, zAL cL 5), (q2, zAL cL 5)] := hD
  refine lv_aload_n hx hb dI2_18 rfl (lv_at hl 0 rfl) ?_
  refine lv_bipush (v := 32) hx hb dI2_19 (by decide) ?_
  refine kn_al hx hb (hq _ kq_119) hK hP hD hS hA 32 (by decide) (by decide +kernel) (Nat.le_of_ble_eq_true rfl) (Nat.le_of_ble_eq_true rfl) (Nat.le_of_ble_eq_true rfl) dI2_21 (fun q3 H hP hD hS => ?_)
  have hP : va_P D vwCl [(h0, .inr (2, [.null, .ref q1, .ref q2, .null, .null, .null, .null, .null])), (q1, zAL cL 5), (q2, zAL cL 5), (q3, zAL cL 32)] H := hP
  have hD : va_D A [(h0, .inr (2, [.null, .ref q1, .ref q2, .null, .null, .null, .null, .null])), (q1, zAL cL 5), (q2, zAL cL 5), (q3, zAL cL 32)] := hD
  refine va_putF (D := D) (ci := 2) (v := .ref q3) (ty := .array .long) (C := RX2) (T := TX2) (N := 8) hx hb hq (kws_in kws_2 kwg_2) tyX2 tyX2_ok nmX2 hown hK hP hD hS 0 rfl rfl 3 (by decide) (hq _ kq_97) (fun _ h9 => h9) rfl hin rfl (by decide +kernel) rfl rfl (Nat.le_of_ble_eq_true rfl) dI2_23 (fun H locs hP hD hS => ?_)
  have hP : va_P D vwCl [(h0, .inr (2, [.null, .ref q1, .ref q2, .ref q3, .null, .null, .null, .null])), (q1, zAL cL 5), (q2, zAL cL 5), (q3, zAL cL 32)] H := hP
  have hD : va_D A [(h0, .inr (2, [.null, .ref q1, .ref q2, .ref q3, .null, .null, .null, .null])), (q1, zAL cL 5), (q2, zAL cL 5), (q3, zAL cL 32)] := hD
  refine lv_aload_n hx hb dI2_26 rfl (lv_at hl 0 rfl) ?_
  refine lv_bipush (v := 6) hx hb dI2_27 (by decide) ?_
  refine kn_al hx hb (hq _ kq_119) hK hP hD hS hA 6 (by decide) (by decide +kernel) (Nat.le_of_ble_eq_true rfl) (Nat.le_of_ble_eq_true rfl) (Nat.le_of_ble_eq_true rfl) dI2_29 (fun q4 H hP hD hS => ?_)
  have hP : va_P D vwCl [(h0, .inr (2, [.null, .ref q1, .ref q2, .ref q3, .null, .null, .null, .null])), (q1, zAL cL 5), (q2, zAL cL 5), (q3, zAL cL 32), (q4, zAL cL 6)] H := hP
  have hD : va_D A [(h0, .inr (2, [.null, .ref q1, .ref q2, .ref q3, .null, .null, .null, .null])), (q1, zAL cL 5), (q2, zAL cL 5), (q3, zAL cL 32), (q4, zAL cL 6)] := hD
  refine va_putF (D := D) (ci := 2) (v := .ref q4) (ty := .array .long) (C := RX2) (T := TX2) (N := 8) hx hb hq (kws_in kws_2 kwg_2) tyX2 tyX2_ok nmX2 hown hK hP hD hS 0 rfl rfl 4 (by decide) (hq _ kq_98) (fun _ h9 => h9) rfl hin rfl (by decide +kernel) rfl rfl (Nat.le_of_ble_eq_true rfl) dI2_31 (fun H locs hP hD hS => ?_)
  have hP : va_P D vwCl [(h0, .inr (2, [.null, .ref q1, .ref q2, .ref q3, .ref q4, .null, .null, .null])), (q1, zAL cL 5), (q2, zAL cL 5), (q3, zAL cL 32), (q4, zAL cL 6)] H := hP
  have hD : va_D A [(h0, .inr (2, [.null, .ref q1, .ref q2, .ref q3, .ref q4, .null, .null, .null])), (q1, zAL cL 5), (q2, zAL cL 5), (q3, zAL cL 32), (q4, zAL cL 6)] := hD
  refine lv_aload_n hx hb dI2_34 rfl (lv_at hl 0 rfl) ?_
  refine lv_bipush (v := 6) hx hb dI2_35 (by decide) ?_
  refine kn_al hx hb (hq _ kq_119) hK hP hD hS hA 6 (by decide) (by decide +kernel) (Nat.le_of_ble_eq_true rfl) (Nat.le_of_ble_eq_true rfl) (Nat.le_of_ble_eq_true rfl) dI2_37 (fun q5 H hP hD hS => ?_)
  have hP : va_P D vwCl [(h0, .inr (2, [.null, .ref q1, .ref q2, .ref q3, .ref q4, .null, .null, .null])), (q1, zAL cL 5), (q2, zAL cL 5), (q3, zAL cL 32), (q4, zAL cL 6), (q5, zAL cL 6)] H := hP
  have hD : va_D A [(h0, .inr (2, [.null, .ref q1, .ref q2, .ref q3, .ref q4, .null, .null, .null])), (q1, zAL cL 5), (q2, zAL cL 5), (q3, zAL cL 32), (q4, zAL cL 6), (q5, zAL cL 6)] := hD
  refine va_putF (D := D) (ci := 2) (v := .ref q5) (ty := .array .long) (C := RX2) (T := TX2) (N := 8) hx hb hq (kws_in kws_2 kwg_2) tyX2 tyX2_ok nmX2 hown hK hP hD hS 0 rfl rfl 5 (by decide) (hq _ kq_99) (fun _ h9 => h9) rfl hin rfl (by decide +kernel) rfl rfl (Nat.le_of_ble_eq_true rfl) dI2_39 (fun H locs hP hD hS => ?_)
  have hP : va_P D vwCl [(h0, .inr (2, [.null, .ref q1, .ref q2, .ref q3, .ref q4, .ref q5, .null, .null])), (q1, zAL cL 5), (q2, zAL cL 5), (q3, zAL cL 32), (q4, zAL cL 6), (q5, zAL cL 6)] H := hP
  have hD : va_D A [(h0, .inr (2, [.null, .ref q1, .ref q2, .ref q3, .ref q4, .ref q5, .null, .null])), (q1, zAL cL 5), (q2, zAL cL 5), (q3, zAL cL 32), (q4, zAL cL 6), (q5, zAL cL 6)] := hD
  refine lv_aload_n hx hb dI2_42 rfl (lv_at hl 0 rfl) ?_
  refine lv_bipush (v := 64) hx hb dI2_43 (by decide) ?_
  refine kn_al hx hb (hq _ kq_119) hK hP hD hS hA 64 (by decide) (by decide +kernel) (Nat.le_of_ble_eq_true rfl) (Nat.le_of_ble_eq_true rfl) (Nat.le_of_ble_eq_true rfl) dI2_45 (fun q6 H hP hD hS => ?_)
  have hP : va_P D vwCl [(h0, .inr (2, [.null, .ref q1, .ref q2, .ref q3, .ref q4, .ref q5, .null, .null])), (q1, zAL cL 5), (q2, zAL cL 5), (q3, zAL cL 32), (q4, zAL cL 6), (q5, zAL cL 6), (q6, zAL cL 64)] H := hP
  have hD : va_D A [(h0, .inr (2, [.null, .ref q1, .ref q2, .ref q3, .ref q4, .ref q5, .null, .null])), (q1, zAL cL 5), (q2, zAL cL 5), (q3, zAL cL 32), (q4, zAL cL 6), (q5, zAL cL 6), (q6, zAL cL 64)] := hD
  refine va_put (D := D) (ci := 2) (v := .ref q6) (ty := .array .long) (C := RX2) (T := TX2) (N := 8) hx hb hq (kws_in kws_2 kwg_2) tyX2 tyX2_ok nmX2 hown hK hP hD hS 0 rfl rfl 6 (by decide) (hq _ kq_100) (fun _ h9 => h9) rfl (by decide +kernel) rfl rfl (Nat.le_of_ble_eq_true rfl) dI2_47 (fun H locs hP hD hS => ?_)
  have hP : va_P D vwCl [(h0, .inr (2, [.null, .ref q1, .ref q2, .ref q3, .ref q4, .ref q5, .ref q6, .null])), (q1, zAL cL 5), (q2, zAL cL 5), (q3, zAL cL 32), (q4, zAL cL 6), (q5, zAL cL 6), (q6, zAL cL 64)] H := hP
  have hD : va_D A [(h0, .inr (2, [.null, .ref q1, .ref q2, .ref q3, .ref q4, .ref q5, .ref q6, .null])), (q1, zAL cL 5), (q2, zAL cL 5), (q3, zAL cL 32), (q4, zAL cL 6), (q5, zAL cL 6), (q6, zAL cL 64)] := hD
  refine lv_aload_n hx hb dI2_50 rfl (lv_at hl 0 rfl) ?_
  refine lv_bipush (v := 64) hx hb dI2_51 (by decide) ?_
  refine kn_al hx hb (hq _ kq_119) hK hP hD hS hA 64 (by decide) (by decide +kernel) (Nat.le_of_ble_eq_true rfl) (Nat.le_of_ble_eq_true rfl) (Nat.le_of_ble_eq_true rfl) dI2_53 (fun q7 H hP hD hS => ?_)
  have hP : va_P D vwCl [(h0, .inr (2, [.null, .ref q1, .ref q2, .ref q3, .ref q4, .ref q5, .ref q6, .null])), (q1, zAL cL 5), (q2, zAL cL 5), (q3, zAL cL 32), (q4, zAL cL 6), (q5, zAL cL 6), (q6, zAL cL 64), (q7, zAL cL 64)] H := hP
  have hD : va_D A [(h0, .inr (2, [.null, .ref q1, .ref q2, .ref q3, .ref q4, .ref q5, .ref q6, .null])), (q1, zAL cL 5), (q2, zAL cL 5), (q3, zAL cL 32), (q4, zAL cL 6), (q5, zAL cL 6), (q6, zAL cL 64), (q7, zAL cL 64)] := hD
  refine va_put (D := D) (ci := 2) (v := .ref q7) (ty := .array .long) (C := RX2) (T := TX2) (N := 8) hx hb hq (kws_in kws_2 kwg_2) tyX2 tyX2_ok nmX2 hown hK hP hD hS 0 rfl rfl 7 (by decide) (hq _ kq_101) (fun _ h9 => h9) rfl (by decide +kernel) rfl rfl (Nat.le_of_ble_eq_true rfl) dI2_55 (fun H locs hP hD hS => ?_)
  have hP : va_P D vwCl [(h0, .inr (2, [.null, .ref q1, .ref q2, .ref q3, .ref q4, .ref q5, .ref q6, .ref q7])), (q1, zAL cL 5), (q2, zAL cL 5), (q3, zAL cL 32), (q4, zAL cL 6), (q5, zAL cL 6), (q6, zAL cL 64), (q7, zAL cL 64)] H := hP
  have hD : va_D A [(h0, .inr (2, [.null, .ref q1, .ref q2, .ref q3, .ref q4, .ref q5, .ref q6, .ref q7])), (q1, zAL cL 5), (q2, zAL cL 5), (q3, zAL cL 32), (q4, zAL cL 6), (q5, zAL cL 6), (q6, zAL cL 64), (q7, zAL cL 64)] := hD
  refine lv_aload_n hx hb dI2_58 rfl (lv_at hl 0 rfl) ?_
  refine lv_aload_n hx hb dI2_59 rfl (lv_at hl 1 rfl) ?_
  refine va_putF (D := D) (ci := 2) (v := .ref h1) (ty := .object "SneezeKing$Council") (C := RX2) (T := TX2) (N := 8) hx hb hq (kws_in kws_2 kwg_2) tyX2 tyX2_ok nmX2 hown hK hP hD hS 0 rfl rfl 0 (by decide) (hq _ kq_94) (fun _ h9 => h9) rfl hin rfl (by decide +kernel) rfl rfl (Nat.le_of_ble_eq_true rfl) dI2_60 (fun H locs hP hD hS => ?_)
  have hP : va_P D vwCl [(h0, .inr (2, [.ref h1, .ref q1, .ref q2, .ref q3, .ref q4, .ref q5, .ref q6, .ref q7])), (q1, zAL cL 5), (q2, zAL cL 5), (q3, zAL cL 32), (q4, zAL cL 6), (q5, zAL cL 6), (q6, zAL cL 64), (q7, zAL cL 64)] H := hP
  have hD : va_D A [(h0, .inr (2, [.ref h1, .ref q1, .ref q2, .ref q3, .ref q4, .ref q5, .ref q6, .ref q7])), (q1, zAL cL 5), (q2, zAL cL 5), (q3, zAL cL 32), (q4, zAL cL 6), (q5, zAL cL 6), (q6, zAL cL 64), (q7, zAL cL 64)] := hD
  refine W.widen (k := 7) (n := 182) (Nat.le_of_ble_eq_true rfl) (Nat.le_of_ble_eq_true rfl) ?_
  exact W.vret hx hb hr (fun t ht hW => ⟨⟨(), rfl, trivial, q1, q2, q3, q4, q5, q6, q7, by rw [ht]; exact hP, hD⟩, hS.F ht⟩) hS.2.2 dI2_63
/-- what stands behind RX4 -/
abbrev kwl3 (cI cL : ClassId) (h0 h1 q1 : Nat) : va_W := [(h0, .inr (3, [.ref h1, .ref q1, .int 0, .long 0])), (q1, zAI cI 5)]
def kBh3 (D : va_G) (cI cL : ClassId) (A : Nat → Prop) (h0 h1 : Nat) (t : State) : Prop := ∃ (q1 : Nat), va_P D vwCl (kwl3 cI cL h0 h1 q1) t.heap ∧ va_D A (kwl3 cI cL h0 h1 q1)
set_option maxHeartbeats 4000000 in
set_option maxRecDepth 100000 in
theorem kI3 (l : Launch) (D : va_G) (cI cL : ClassId) (h0 h1 : Nat) (sz : Nat) : Met l yI3 kwi3 ({ frames := 1, cells := 1, slots := 5, locals := 12 }) (va_Pc [.ref h0, .ref h1] (fun U => U.heap.size = sz ∧ va_P D vwCl [(h0, .inr (3, [.null, .null, .int 0, .long 0]))] U.heap ∧ va_K D vwCl [(cI, .int), (cL, .long)] U ∧ va_D (fun _ => True) [(h0, .inr (3, [.null, .null, .int 0, .long 0]))])) (va_Qv (fun _ : Unit => True) (fun _ t => kBh3 D cI cL (va_A [(h0, .inr (3, [.null, .null, .int 0, .long 0]))] sz) h0 h1 t) (va_A [(h0, .inr (3, [.null, .null, .int 0, .long 0]))] sz)) 1 5 (va_A [(h0, .inr (3, [.null, .null, .int 0, .long 0]))] sz) := by
  refine Met.ofW (cc := bI3) (maxL := 2) (ret := none) (by decide) rfl ?_
  intro p e s m args below meth c s₁ B hml hv
  obtain ⟨rfl, hsz, hP, hK, hD0⟩ := hv
  have hx := B.exec
  have hb := B.bytes
  have hr := B.returns
  have hts := atoms_spec (ws := kwi3) B.pre
  have hq : ∀ w ∈ kAW, w.before [.ref h0, .ref h1].toArray s = true := fun w hw => hts w (List.mem_cons_of_mem _ hw)
  have hown : s.vm.findClass RX4 = some m.cls := findClass_of_methodNamed B.named
  have hlocks := B.notSynchronized
  have hin : meth.name = "<init>" := (name_of_methodNamed B.named B.method).1
  subst hsz
  have hD := hD0.self (sz := s.heap.size)
  unfold kBh3
  generalize hAe : va_A [(h0, .inr (3, [.null, .null, .int 0, .long 0]))] s.heap.size = A at hD ⊢
  have hA : ∀ q : Nat, s.heap.size ≤ q → A q := fun q h => by rw [← hAe]; exact Or.inr h
  have hS : va_S A s.heap s.heap [] := va_S.rf
  have hP : va_P D vwCl [(h0, .inr (3, [.null, .null, .int 0, .long 0]))] s.heap := hP
  have hl := lv_entry ([.ref h0, .ref h1]) (n := 2) (Nat.le_of_ble_eq_true rfl)
  rw [lg_entry_eq]
  generalize (lg_sl ([.ref h0, .ref h1]) ++ List.replicate (2 - (lg_sl ([.ref h0, .ref h1])).length) Slot.unset).toArray = ls at hl ⊢
  have hl : lv_has ls 2 [(0, .ref h0), (1, .ref h1)] := hl
  refine lv_aload_n hx hb dI3_0 rfl (lv_at hl 0 rfl) ?_
  refine W.objInit hx hb hown (hq _ kq_125) (hq _ kq_29) (hq _ kq_30) rfl (by rw [hml]; exact hl.1) rfl dI3_1 (Nat.le_of_ble_eq_true rfl) (Nat.le_of_ble_eq_true rfl) ?_
  refine W.eq (g2 := F0 m 4 ls []) rfl ?_
  refine lv_aload_n hx hb dI3_4 rfl (lv_at hl 0 rfl) ?_
  refine lv_iconst (v := 5) hx hb dI3_5 (by decide) ?_
  refine kn_ai hx hb (hq _ kq_74) hK hP hD hS hA 5 (by decide) (by decide +kernel) (Nat.le_of_ble_eq_true rfl) (Nat.le_of_ble_eq_true rfl) (Nat.le_of_ble_eq_true rfl) dI3_6 (fun q1 H hP hD hS => ?_)
  have hP : va_P D vwCl [(h0, .inr (3, [.null, .null, .int 0, .long 0])), (q1, zAI cI 5)] H := hP
  have hD : va_D A [(h0, .inr (3, [.null, .null, .int 0, .long 0])), (q1, zAI cI 5)] := hD
  refine va_putF (D := D) (ci := 3) (v := .ref q1) (ty := .array .int) (C := RX4) (T := TX4) (N := 4) hx hb hq (kws_in kws_3 kwg_3) tyX4 tyX4_ok nmX4 hown hK hP hD hS 0 rfl rfl 1 (by decide) (hq _ kq_127) (fun _ h9 => h9) rfl hin rfl (by decide +kernel) rfl rfl (Nat.le_of_ble_eq_true rfl) dI3_8 (fun H locs hP hD hS => ?_)
  have hP : va_P D vwCl [(h0, .inr (3, [.null, .ref q1, .int 0, .long 0])), (q1, zAI cI 5)] H := hP
  have hD : va_D A [(h0, .inr (3, [.null, .ref q1, .int 0, .long 0])), (q1, zAI cI 5)] := hD
  refine lv_aload_n hx hb dI3_11 rfl (lv_at hl 0 rfl) ?_
  refine lv_aload_n hx hb dI3_12 rfl (lv_at hl 1 rfl) ?_
  refine va_putF (D := D) (ci := 3) (v := .ref h1) (ty := .object "SneezeKing$Council") (C := RX4) (T := TX4) (N := 4) hx hb hq (kws_in kws_3 kwg_3) tyX4 tyX4_ok nmX4 hown hK hP hD hS 0 rfl rfl 0 (by decide) (hq _ kq_126) (fun _ h9 => h9) rfl hin rfl (by decide +kernel) rfl rfl (Nat.le_of_ble_eq_true rfl) dI3_13 (fun H locs hP hD hS => ?_)
  have hP : va_P D vwCl [(h0, .inr (3, [.ref h1, .ref q1, .int 0, .long 0])), (q1, zAI cI 5)] H := hP
  have hD : va_D A [(h0, .inr (3, [.ref h1, .ref q1, .int 0, .long 0])), (q1, zAI cI 5)] := hD
  refine W.widen (k := 1) (n := 5) (Nat.le_of_ble_eq_true rfl) (Nat.le_of_ble_eq_true rfl) ?_
  exact W.vret hx hb hr (fun t ht hW => ⟨⟨(), rfl, trivial, q1, by rw [ht]; exact hP, hD⟩, hS.F ht⟩) hS.2.2 dI3_16
/-- what stands behind RX5 -/
abbrev kwl4 (cI cL : ClassId) (h0 q1 q2 q3 q4 q5 q6 q7 q8 q9 q10 q11 q12 q13 q14 q15 q16 q17 q18 q19 q20 q21 q22 q23 q24 q25 q26 : Nat) : va_W := [(h0, .inr (4, [.ref q8, .ref q1, .ref q10, .ref q17, .ref q25, .int 0, .int 0])), (q1, .inr (0, [.ref q2, .ref q3, .ref q4, .ref q5, .ref q6, .ref q7, .int 0, .int (-1), .int 0, .int 0, .int 0, .int 0])), (q2, zAI cI 5), (q3, zAI cI 5), (q4, zAI cI 5), (q5, zAI cI 5), (q6, zAI cI 32), (q7, zAI cI 5), (q8, .inr (1, [.ref q9, .int 0])), (q9, zAI cI 20), (q10, .inr (0, [.ref q11, .ref q12, .ref q13, .ref q14, .ref q15, .ref q16, .int 0, .int (-1), .int 0, .int 0, .int 0, .int 0])), (q11, zAI cI 5), (q12, zAI cI 5), (q13, zAI cI 5), (q14, zAI cI 5), (q15, zAI cI 32), (q16, zAI cI 5), (q17, .inr (2, [.ref q1, .ref q18, .ref q19, .ref q20, .ref q21, .ref q22, .ref q23, .ref q24])), (q18, zAL cL 5), (q19, zAL cL 5), (q20, zAL cL 32), (q21, zAL cL 6), (q22, zAL cL 6), (q23, zAL cL 64), (q24, zAL cL 64), (q25, .inr (3, [.ref q1, .ref q26, .int 0, .long 0])), (q26, zAI cI 5)]
def kBh4 (D : va_G) (cI cL : ClassId) (A : Nat → Prop) (h0 : Nat) (t : State) : Prop := ∃ (q1 q2 q3 q4 q5 q6 q7 q8 q9 q10 q11 q12 q13 q14 q15 q16 q17 q18 q19 q20 q21 q22 q23 q24 q25 q26 : Nat), va_P D vwCl (kwl4 cI cL h0 q1 q2 q3 q4 q5 q6 q7 q8 q9 q10 q11 q12 q13 q14 q15 q16 q17 q18 q19 q20 q21 q22 q23 q24 q25 q26) t.heap ∧ va_D A (kwl4 cI cL h0 q1 q2 q3 q4 q5 q6 q7 q8 q9 q10 q11 q12 q13 q14 q15 q16 q17 q18 q19 q20 q21 q22 q23 q24 q25 q26)
set_option maxHeartbeats 4000000 in
set_option maxRecDepth 100000 in
theorem kI4 (l : Launch) (D : va_G) (cI cL : ClassId) (h0 : Nat) (sz : Nat) : Met l yI4 kwi4 ({ frames := 2, cells := 26, slots := 359, locals := 33 }) (va_Pc [.ref h0] (fun U => U.heap.size = sz ∧ va_P D vwCl [(h0, .inr (4, [.null, .null, .null, .null, .null, .int 0, .int 0]))] U.heap ∧ va_K D vwCl [(cI, .int), (cL, .long)] U ∧ va_D (fun _ => True) [(h0, .inr (4, [.null, .null, .null, .null, .null, .int 0, .int 0]))] ∧ va_Nw (.methodLinkNest RX5 9 yI0 "SneezeKing") U ∧ va_Nw (.methodLinkNest RX5 12 yI1 "SneezeKing") U)) (va_Qv (fun _ : Unit => True) (fun _ t => kBh4 D cI cL (va_A [(h0, .inr (4, [.null, .null, .null, .null, .null, .int 0, .int 0]))] sz) h0 t) (va_A [(h0, .inr (4, [.null, .null, .null, .null, .null, .int 0, .int 0]))] sz)) 26 359 (va_A [(h0, .inr (4, [.null, .null, .null, .null, .null, .int 0, .int 0]))] sz) := by
  refine Met.ofW (cc := bI4) (maxL := 2) (ret := none) (by decide) rfl ?_
  intro p e s m args below meth c s₁ B hml hv
  obtain ⟨rfl, hsz, hP, hK, hD0, hNw9, hNw12⟩ := hv
  have hx := B.exec
  have hb := B.bytes
  have hr := B.returns
  have hts := atoms_spec (ws := kwi4) B.pre
  have hq : ∀ w ∈ kAW, w.before [.ref h0].toArray s = true := fun w hw => hts w (List.mem_cons_of_mem _ hw)
  have hown : s.vm.findClass RX5 = some m.cls := findClass_of_methodNamed B.named
  have hlocks := B.notSynchronized
  have hin : meth.name = "<init>" := (name_of_methodNamed B.named B.method).1
  subst hsz
  have hD := hD0.self (sz := s.heap.size)
  unfold kBh4
  generalize hAe : va_A [(h0, .inr (4, [.null, .null, .null, .null, .null, .int 0, .int 0]))] s.heap.size = A at hD ⊢
  have hA : ∀ q : Nat, s.heap.size ≤ q → A q := fun q h => by rw [← hAe]; exact Or.inr h
  have hS : va_S A s.heap s.heap [] := va_S.rf
  have hP : va_P D vwCl [(h0, .inr (4, [.null, .null, .null, .null, .null, .int 0, .int 0]))] s.heap := hP
  have hl := lv_entry ([.ref h0]) (n := 2) (Nat.le_of_ble_eq_true rfl)
  rw [lg_entry_eq]
  generalize (lg_sl ([.ref h0]) ++ List.replicate (2 - (lg_sl ([.ref h0])).length) Slot.unset).toArray = ls at hl ⊢
  have hl : lv_has ls 2 [(0, .ref h0)] := hl
  refine lv_aload_n hx hb dI4_0 rfl (lv_at hl 0 rfl) ?_
  refine W.objInit hx hb hown (hq _ kq_28) (hq _ kq_29) (hq _ kq_30) rfl (by rw [hml]; exact hl.1) rfl dI4_1 (Nat.le_of_ble_eq_true rfl) (Nat.le_of_ble_eq_true rfl) ?_
  refine W.eq (g2 := F0 m 4 ls []) rfl ?_
  refine va_new (ci := 0) (fs := [.null, .null, .null, .null, .null, .null, .int 0, .int 0, .int 0, .int 0, .int 0, .int 0]) (C := RX0) (T := TX0) (N := 12) hx hb hq (kws_in kws_0 kwg_0) tyX0 tyX0_ok hown (hq _ kq_31) (hq _ kq_32) (hq _ kq_10) hK hP hD hS hA rfl (by decide +kernel) (Nat.le_of_ble_eq_true rfl) (Nat.le_of_ble_eq_true rfl) dI4_4 (fun q1 H hP hD hS => ?_)
  have hP : va_P D vwCl [(h0, .inr (4, [.null, .null, .null, .null, .null, .int 0, .int 0])), (q1, .inr (0, [.null, .null, .null, .null, .null, .null, .int 0, .int 0, .int 0, .int 0, .int 0, .int 0]))] H := hP
  have hD : va_D A [(h0, .inr (4, [.null, .null, .null, .null, .null, .int 0, .int 0])), (q1, .inr (0, [.null, .null, .null, .null, .null, .null, .int 0, .int 0, .int 0, .int 0, .int 0, .int 0]))] := hD
  refine lv_dup hx hb dI4_7 rfl ?_
  have hPc := hP.sub (ws' := [(q1, .inr (0, [.null, .null, .null, .null, .null, .null, .int 0, .int 0, .int 0, .int 0, .int 0, .int 0]))]) [1] rfl
  have hDc := hD.sub (ws' := [(q1, .inr (0, [.null, .null, .null, .null, .null, .null, .int 0, .int 0, .int 0, .int 0, .int 0, .int 0]))]) [1] (by decide) rfl
  have hFc := va_free (wc := [(q1, .inr (0, [.null, .null, .null, .null, .null, .null, .int 0, .int 0, .int 0, .int 0, .int 0, .int 0]))]) hD hS hA [1] rfl
  refine va_callv (va_runIN (As := []) (rest := [.ref q1]) ⟨hx, hb, hml, hown, hts⟩ (kI0 l D cI cL q1 H.size) ⟨va_cnB 0 hts (kGI kq_35) rfl rfl rfl hNw9 (hq _ kq_10) (by decide +kernel) ⟨(Nat.le_of_ble_eq_true rfl), (Nat.le_of_ble_eq_true rfl)⟩, rfl, hq _ kq_34⟩ ⟨fun a U g mk q => by obtain ⟨q0, q1, qP, qK, qD⟩ := q; exact ⟨q0, q1, qP, va_K.moved (u := U) (U := U.calling g mk a) (Vm.Alike.refl U.vm) qK, qD⟩, fun U hU hW => ⟨rfl, by rw [hU], by rw [hU]; exact hPc, va_K.moved hW.alike hK, hDc.weaken (fun _ _ _ _ => trivial)⟩⟩ rfl rfl hl.1 rfl (lv_room (Nat.le_of_ble_eq_true rfl)) dI4_8 ⟨(Nat.le_of_ble_eq_true rfl), (Nat.le_of_ble_eq_true rfl)⟩) hS (fun q _ h => hFc q h) hFc (fun u t H1 locs ht hvm hw hB hz1 hk1 hS => ?_)
  obtain ⟨q2, q3, q4, q5, q6, q7, hP1, hD1⟩ := hB
  rw [ht] at hP1
  obtain ⟨hP, hD⟩ := va_join (wr := [(h0, .inr (4, [.null, .null, .null, .null, .null, .int 0, .int 0]))]) (w1 := [(q1, .inr (0, [.ref q2, .ref q3, .ref q4, .ref q5, .ref q6, .ref q7, .int 0, .int (-1), .int 0, .int 0, .int 0, .int 0])), (q2, zAI cI 5), (q3, zAI cI 5), (q4, zAI cI 5), (q5, zAI cI 5), (q6, zAI cI 32), (q7, zAI cI 5)]) hP hD [1] [0] rfl rfl (by decide) (by decide) hk1 hFc hP1 hD1
  clear hk1 hFc hP1 hD1 hPc hDc hw hz1 hvm ht
  generalize H1 = H at hP hS ⊢
  have hP : va_P D vwCl [(h0, .inr (4, [.null, .null, .null, .null, .null, .int 0, .int 0])), (q1, .inr (0, [.ref q2, .ref q3, .ref q4, .ref q5, .ref q6, .ref q7, .int 0, .int (-1), .int 0, .int 0, .int 0, .int 0])), (q2, zAI cI 5), (q3, zAI cI 5), (q4, zAI cI 5), (q5, zAI cI 5), (q6, zAI cI 32), (q7, zAI cI 5)] H := hP
  have hD : va_D A [(h0, .inr (4, [.null, .null, .null, .null, .null, .int 0, .int 0])), (q1, .inr (0, [.ref q2, .ref q3, .ref q4, .ref q5, .ref q6, .ref q7, .int 0, .int (-1), .int 0, .int 0, .int 0, .int 0])), (q2, zAI cI 5), (q3, zAI cI 5), (q4, zAI cI 5), (q5, zAI cI 5), (q6, zAI cI 32), (q7, zAI cI 5)] := hD
  refine lv_astore_n (lv' := [(1, .ref q1), (0, .ref h0)]) hx hb dI4_11 rfl hl (by decide) rfl (fun ls hl => ?_)
  refine lv_aload_n hx hb dI4_12 rfl (lv_at hl 1 rfl) ?_
  refine va_new (ci := 1) (fs := [.null, .int 0]) (C := RX1) (T := TX1) (N := 2) hx hb hq (kws_in kws_1 kwg_1) tyX1 tyX1_ok hown (hq _ kq_75) (hq _ kq_76) (hq _ kq_11) hK hP hD hS hA rfl (by decide +kernel) (Nat.le_of_ble_eq_true rfl) (Nat.le_of_ble_eq_true rfl) dI4_13 (fun q8 H hP hD hS => ?_)
  have hP : va_P D vwCl [(h0, .inr (4, [.null, .null, .null, .null, .null, .int 0, .int 0])), (q1, .inr (0, [.ref q2, .ref q3, .ref q4, .ref q5, .ref q6, .ref q7, .int 0, .int (-1), .int 0, .int 0, .int 0, .int 0])), (q2, zAI cI 5), (q3, zAI cI 5), (q4, zAI cI 5), (q5, zAI cI 5), (q6, zAI cI 32), (q7, zAI cI 5), (q8, .inr (1, [.null, .int 0]))] H := hP
  have hD : va_D A [(h0, .inr (4, [.null, .null, .null, .null, .null, .int 0, .int 0])), (q1, .inr (0, [.ref q2, .ref q3, .ref q4, .ref q5, .ref q6, .ref q7, .int 0, .int (-1), .int 0, .int 0, .int 0, .int 0])), (q2, zAI cI 5), (q3, zAI cI 5), (q4, zAI cI 5), (q5, zAI cI 5), (q6, zAI cI 32), (q7, zAI cI 5), (q8, .inr (1, [.null, .int 0]))] := hD
  refine lv_dup hx hb dI4_16 rfl ?_
  have hPc := hP.sub (ws' := [(q8, .inr (1, [.null, .int 0]))]) [8] rfl
  have hDc := hD.sub (ws' := [(q8, .inr (1, [.null, .int 0]))]) [8] (by decide) rfl
  have hFc := va_free (wc := [(q8, .inr (1, [.null, .int 0]))]) hD hS hA [8] rfl
  refine va_callv (va_runIN (As := []) (rest := [.ref q8, .ref h0]) ⟨hx, hb, hml, hown, hts⟩ (kI1 l D cI cL q8 H.size) ⟨va_cnB 0 hts (kGI kq_79) rfl rfl rfl hNw12 (hq _ kq_11) (by decide +kernel) ⟨(Nat.le_of_ble_eq_true rfl), (Nat.le_of_ble_eq_true rfl)⟩, rfl, hq _ kq_78⟩ ⟨fun a U g mk q => by obtain ⟨q0, q1, qP, qK, qD⟩ := q; exact ⟨q0, q1, qP, va_K.moved (u := U) (U := U.calling g mk a) (Vm.Alike.refl U.vm) qK, qD⟩, fun U hU hW => ⟨rfl, by rw [hU], by rw [hU]; exact hPc, va_K.moved hW.alike hK, hDc.weaken (fun _ _ _ _ => trivial)⟩⟩ rfl rfl hl.1 rfl (lv_room (Nat.le_of_ble_eq_true rfl)) dI4_17 ⟨(Nat.le_of_ble_eq_true rfl), (Nat.le_of_ble_eq_true rfl)⟩) hS (fun q _ h => hFc q h) hFc (fun u t H1 locs ht hvm hw hB hz1 hk1 hS => ?_)
  obtain ⟨q9, hP1, hD1⟩ := hB
  rw [ht] at hP1
  obtain ⟨hP, hD⟩ := va_join (wr := [(h0, .inr (4, [.null, .null, .null, .null, .null, .int 0, .int 0])), (q1, .inr (0, [.ref q2, .ref q3, .ref q4, .ref q5, .ref q6, .ref q7, .int 0, .int (-1), .int 0, .int 0, .int 0, .int 0])), (q2, zAI cI 5), (q3, zAI cI 5), (q4, zAI cI 5), (q5, zAI cI 5), (q6, zAI cI 32), (q7, zAI cI 5)]) (w1 := [(q8, .inr (1, [.ref q9, .int 0])), (q9, zAI cI 20)]) hP hD [8] [0, 1, 2, 3, 4, 5, 6, 7] rfl rfl (by decide) (by decide) hk1 hFc hP1 hD1
  clear hk1 hFc hP1 hD1 hPc hDc hw hz1 hvm ht
  generalize H1 = H at hP hS ⊢
  have hP : va_P D vwCl [(h0, .inr (4, [.null, .null, .null, .null, .null, .int 0, .int 0])), (q1, .inr (0, [.ref q2, .ref q3, .ref q4, .ref q5, .ref q6, .ref q7, .int 0, .int (-1), .int 0, .int 0, .int 0, .int 0])), (q2, zAI cI 5), (q3, zAI cI 5), (q4, zAI cI 5), (q5, zAI cI 5), (q6, zAI cI 32), (q7, zAI cI 5), (q8, .inr (1, [.ref q9, .int 0])), (q9, zAI cI 20)] H := hP
  have hD : va_D A [(h0, .inr (4, [.null, .null, .null, .null, .null, .int 0, .int 0])), (q1, .inr (0, [.ref q2, .ref q3, .ref q4, .ref q5, .ref q6, .ref q7, .int 0, .int (-1), .int 0, .int 0, .int 0, .int 0])), (q2, zAI cI 5), (q3, zAI cI 5), (q4, zAI cI 5), (q5, zAI cI 5), (q6, zAI cI 32), (q7, zAI cI 5), (q8, .inr (1, [.ref q9, .int 0])), (q9, zAI cI 20)] := hD
  refine va_putF (D := D) (ci := 4) (v := .ref q8) (ty := .object "SneezeKing$Page") (C := RX5) (T := TX5) (N := 7) hx hb hq (kws_in kws_4 kwg_4) tyX5 tyX5_ok nmX5 hown hK hP hD hS 0 rfl rfl 0 (by decide) (hq _ kq_139) (fun _ h9 => h9) rfl hin rfl (by decide +kernel) rfl rfl (Nat.le_of_ble_eq_true rfl) dI4_20 (fun H locs hP hD hS => ?_)
  have hP : va_P D vwCl [(h0, .inr (4, [.ref q8, .null, .null, .null, .null, .int 0, .int 0])), (q1, .inr (0, [.ref q2, .ref q3, .ref q4, .ref q5, .ref q6, .ref q7, .int 0, .int (-1), .int 0, .int 0, .int 0, .int 0])), (q2, zAI cI 5), (q3, zAI cI 5), (q4, zAI cI 5), (q5, zAI cI 5), (q6, zAI cI 32), (q7, zAI cI 5), (q8, .inr (1, [.ref q9, .int 0])), (q9, zAI cI 20)] H := hP
  have hD : va_D A [(h0, .inr (4, [.ref q8, .null, .null, .null, .null, .int 0, .int 0])), (q1, .inr (0, [.ref q2, .ref q3, .ref q4, .ref q5, .ref q6, .ref q7, .int 0, .int (-1), .int 0, .int 0, .int 0, .int 0])), (q2, zAI cI 5), (q3, zAI cI 5), (q4, zAI cI 5), (q5, zAI cI 5), (q6, zAI cI 32), (q7, zAI cI 5), (q8, .inr (1, [.ref q9, .int 0])), (q9, zAI cI 20)] := hD
  refine lv_aload_n hx hb dI4_23 rfl (lv_at hl 1 rfl) ?_
  refine lv_aload_n hx hb dI4_24 rfl (lv_at hl 0 rfl) ?_
  refine va_putF (D := D) (ci := 4) (v := .ref q1) (ty := .object "SneezeKing$Council") (C := RX5) (T := TX5) (N := 7) hx hb hq (kws_in kws_4 kwg_4) tyX5 tyX5_ok nmX5 hown hK hP hD hS 0 rfl rfl 1 (by decide) (hq _ kq_140) (fun _ h9 => h9) rfl hin rfl (by decide +kernel) rfl rfl (Nat.le_of_ble_eq_true rfl) dI4_25 (fun H locs hP hD hS => ?_)
  have hP : va_P D vwCl [(h0, .inr (4, [.ref q8, .ref q1, .null, .null, .null, .int 0, .int 0])), (q1, .inr (0, [.ref q2, .ref q3, .ref q4, .ref q5, .ref q6, .ref q7, .int 0, .int (-1), .int 0, .int 0, .int 0, .int 0])), (q2, zAI cI 5), (q3, zAI cI 5), (q4, zAI cI 5), (q5, zAI cI 5), (q6, zAI cI 32), (q7, zAI cI 5), (q8, .inr (1, [.ref q9, .int 0])), (q9, zAI cI 20)] H := hP
  have hD : va_D A [(h0, .inr (4, [.ref q8, .ref q1, .null, .null, .null, .int 0, .int 0])), (q1, .inr (0, [.ref q2, .ref q3, .ref q4, .ref q5, .ref q6, .ref q7, .int 0, .int (-1), .int 0, .int 0, .int 0, .int 0])), (q2, zAI cI 5), (q3, zAI cI 5), (q4, zAI cI 5), (q5, zAI cI 5), (q6, zAI cI 32), (q7, zAI cI 5), (q8, .inr (1, [.ref q9, .int 0])), (q9, zAI cI 20)] := hD
  refine lv_aload_n hx hb dI4_28 rfl (lv_at hl 1 rfl) ?_
  refine va_new (ci := 0) (fs := [.null, .null, .null, .null, .null, .null, .int 0, .int 0, .int 0, .int 0, .int 0, .int 0]) (C := RX0) (T := TX0) (N := 12) hx hb hq (kws_in kws_0 kwg_0) tyX0 tyX0_ok hown (hq _ kq_31) (hq _ kq_32) (hq _ kq_10) hK hP hD hS hA rfl (by decide +kernel) (Nat.le_of_ble_eq_true rfl) (Nat.le_of_ble_eq_true rfl) dI4_29 (fun q10 H hP hD hS => ?_)
  have hP : va_P D vwCl [(h0, .inr (4, [.ref q8, .ref q1, .null, .null, .null, .int 0, .int 0])), (q1, .inr (0, [.ref q2, .ref q3, .ref q4, .ref q5, .ref q6, .ref q7, .int 0, .int (-1), .int 0, .int 0, .int 0, .int 0])), (q2, zAI cI 5), (q3, zAI cI 5), (q4, zAI cI 5), (q5, zAI cI 5), (q6, zAI cI 32), (q7, zAI cI 5), (q8, .inr (1, [.ref q9, .int 0])), (q9, zAI cI 20), (q10, .inr (0, [.null, .null, .null, .null, .null, .null, .int 0, .int 0, .int 0, .int 0, .int 0, .int 0]))] H := hP
  have hD : va_D A [(h0, .inr (4, [.ref q8, .ref q1, .null, .null, .null, .int 0, .int 0])), (q1, .inr (0, [.ref q2, .ref q3, .ref q4, .ref q5, .ref q6, .ref q7, .int 0, .int (-1), .int 0, .int 0, .int 0, .int 0])), (q2, zAI cI 5), (q3, zAI cI 5), (q4, zAI cI 5), (q5, zAI cI 5), (q6, zAI cI 32), (q7, zAI cI 5), (q8, .inr (1, [.ref q9, .int 0])), (q9, zAI cI 20), (q10, .inr (0, [.null, .null, .null, .null, .null, .null, .int 0, .int 0, .int 0, .int 0, .int 0, .int 0]))] := hD
  refine lv_dup hx hb dI4_32 rfl ?_
  have hPc := hP.sub (ws' := [(q10, .inr (0, [.null, .null, .null, .null, .null, .null, .int 0, .int 0, .int 0, .int 0, .int 0, .int 0]))]) [10] rfl
  have hDc := hD.sub (ws' := [(q10, .inr (0, [.null, .null, .null, .null, .null, .null, .int 0, .int 0, .int 0, .int 0, .int 0, .int 0]))]) [10] (by decide) rfl
  have hFc := va_free (wc := [(q10, .inr (0, [.null, .null, .null, .null, .null, .null, .int 0, .int 0, .int 0, .int 0, .int 0, .int 0]))]) hD hS hA [10] rfl
  refine va_callv (va_runIN (As := []) (rest := [.ref q10, .ref h0]) ⟨hx, hb, hml, hown, hts⟩ (kI0 l D cI cL q10 H.size) ⟨va_cnB 0 hts (kGI kq_35) rfl rfl rfl hNw9 (hq _ kq_10) (by decide +kernel) ⟨(Nat.le_of_ble_eq_true rfl), (Nat.le_of_ble_eq_true rfl)⟩, rfl, hq _ kq_34⟩ ⟨fun a U g mk q => by obtain ⟨q0, q1, qP, qK, qD⟩ := q; exact ⟨q0, q1, qP, va_K.moved (u := U) (U := U.calling g mk a) (Vm.Alike.refl U.vm) qK, qD⟩, fun U hU hW => ⟨rfl, by rw [hU], by rw [hU]; exact hPc, va_K.moved hW.alike hK, hDc.weaken (fun _ _ _ _ => trivial)⟩⟩ rfl rfl hl.1 rfl (lv_room (Nat.le_of_ble_eq_true rfl)) dI4_33 ⟨(Nat.le_of_ble_eq_true rfl), (Nat.le_of_ble_eq_true rfl)⟩) hS (fun q _ h => hFc q h) hFc (fun u t H1 locs ht hvm hw hB hz1 hk1 hS => ?_)
  obtain ⟨q11, q12, q13, q14, q15, q16, hP1, hD1⟩ := hB
  rw [ht] at hP1
  obtain ⟨hP, hD⟩ := va_join (wr := [(h0, .inr (4, [.ref q8, .ref q1, .null, .null, .null, .int 0, .int 0])), (q1, .inr (0, [.ref q2, .ref q3, .ref q4, .ref q5, .ref q6, .ref q7, .int 0, .int (-1), .int 0, .int 0, .int 0, .int 0])), (q2, zAI cI 5), (q3, zAI cI 5), (q4, zAI cI 5), (q5, zAI cI 5), (q6, zAI cI 32), (q7, zAI cI 5), (q8, .inr (1, [.ref q9, .int 0])), (q9, zAI cI 20)]) (w1 := [(q10, .inr (0, [.ref q11, .ref q12, .ref q13, .ref q14, .ref q15, .ref q16, .int 0, .int (-1), .int 0, .int 0, .int 0, .int 0])), (q11, zAI cI 5), (q12, zAI cI 5), (q13, zAI cI 5), (q14, zAI cI 5), (q15, zAI cI 32), (q16, zAI cI 5)]) hP hD [10] [0, 1, 2, 3, 4, 5, 6, 7, 8, 9] rfl rfl (by decide) (by decide) hk1 hFc hP1 hD1
  clear hk1 hFc hP1 hD1 hPc hDc hw hz1 hvm ht
  generalize H1 = H at hP hS ⊢
  have hP : va_P D vwCl [(h0, .inr (4, [.ref q8, .ref q1, .null, .null, .null, .int 0, .int 0])), (q1, .inr (0, [.ref q2, .ref q3, .ref q4, .ref q5, .ref q6, .ref q7, .int 0, .int (-1), .int 0, .int 0, .int 0, .int 0])), (q2, zAI cI 5), (q3, zAI cI 5), (q4, zAI cI 5), (q5, zAI cI 5), (q6, zAI cI 32), (q7, zAI cI 5), (q8, .inr (1, [.ref q9, .int 0])), (q9, zAI cI 20), (q10, .inr (0, [.ref q11, .ref q12, .ref q13, .ref q14, .ref q15, .ref q16, .int 0, .int (-1), .int 0, .int 0, .int 0, .int 0])), (q11, zAI cI 5), (q12, zAI cI 5), (q13, zAI cI 5), (q14, zAI cI 5), (q15, zAI cI 32), (q16, zAI cI 5)] H := hP
  have hD : va_D A [(h0, .inr (4, [.ref q8, .ref q1, .null, .null, .null, .int 0, .int 0])), (q1, .inr (0, [.ref q2, .ref q3, .ref q4, .ref q5, .ref q6, .ref q7, .int 0, .int (-1), .int 0, .int 0, .int 0, .int 0])), (q2, zAI cI 5), (q3, zAI cI 5), (q4, zAI cI 5), (q5, zAI cI 5), (q6, zAI cI 32), (q7, zAI cI 5), (q8, .inr (1, [.ref q9, .int 0])), (q9, zAI cI 20), (q10, .inr (0, [.ref q11, .ref q12, .ref q13, .ref q14, .ref q15, .ref q16, .int 0, .int (-1), .int 0, .int 0, .int 0, .int 0])), (q11, zAI cI 5), (q12, zAI cI 5), (q13, zAI cI 5), (q14, zAI cI 5), (q15, zAI cI 32), (q16, zAI cI 5)] := hD
  refine va_putF (D := D) (ci := 4) (v := .ref q10) (ty := .object "SneezeKing$Council") (C := RX5) (T := TX5) (N := 7) hx hb hq (kws_in kws_4 kwg_4) tyX5 tyX5_ok nmX5 hown hK hP hD hS 0 rfl rfl 2 (by decide) (hq _ kq_141) (fun _ h9 => h9) rfl hin rfl (by decide +kernel) rfl rfl (Nat.le_of_ble_eq_true rfl) dI4_36 (fun H locs hP hD hS => ?_)
  have hP : va_P D vwCl [(h0, .inr (4, [.ref q8, .ref q1, .ref q10, .null, .null, .int 0, .int 0])), (q1, .inr (0, [.ref q2, .ref q3, .ref q4, .ref q5, .ref q6, .ref q7, .int 0, .int (-1), .int 0, .int 0, .int 0, .int 0])), (q2, zAI cI 5), (q3, zAI cI 5), (q4, zAI cI 5), (q5, zAI cI 5), (q6, zAI cI 32), (q7, zAI cI 5), (q8, .inr (1, [.ref q9, .int 0])), (q9, zAI cI 20), (q10, .inr (0, [.ref q11, .ref q12, .ref q13, .ref q14, .ref q15, .ref q16, .int 0, .int (-1), .int 0, .int 0, .int 0, .int 0])), (q11, zAI cI 5), (q12, zAI cI 5), (q13, zAI cI 5), (q14, zAI cI 5), (q15, zAI cI 32), (q16, zAI cI 5)] H := hP
  have hD : va_D A [(h0, .inr (4, [.ref q8, .ref q1, .ref q10, .null, .null, .int 0, .int 0])), (q1, .inr (0, [.ref q2, .ref q3, .ref q4, .ref q5, .ref q6, .ref q7, .int 0, .int (-1), .int 0, .int 0, .int 0, .int 0])), (q2, zAI cI 5), (q3, zAI cI 5), (q4, zAI cI 5), (q5, zAI cI 5), (q6, zAI cI 32), (q7, zAI cI 5), (q8, .inr (1, [.ref q9, .int 0])), (q9, zAI cI 20), (q10, .inr (0, [.ref q11, .ref q12, .ref q13, .ref q14, .ref q15, .ref q16, .int 0, .int (-1), .int 0, .int 0, .int 0, .int 0])), (q11, zAI cI 5), (q12, zAI cI 5), (q13, zAI cI 5), (q14, zAI cI 5), (q15, zAI cI 32), (q16, zAI cI 5)] := hD
  refine lv_aload_n hx hb dI4_39 rfl (lv_at hl 1 rfl) ?_
  refine va_new (ci := 2) (fs := [.null, .null, .null, .null, .null, .null, .null, .null]) (C := RX2) (T := TX2) (N := 8) hx hb hq (kws_in kws_2 kwg_2) tyX2 tyX2_ok hown (hq _ kq_88) (hq _ kq_89) (hq _ kq_12) hK hP hD hS hA rfl (by decide +kernel) (Nat.le_of_ble_eq_true rfl) (Nat.le_of_ble_eq_true rfl) dI4_40 (fun q17 H hP hD hS => ?_)
  have hP : va_P D vwCl [(h0, .inr (4, [.ref q8, .ref q1, .ref q10, .null, .null, .int 0, .int 0])), (q1, .inr (0, [.ref q2, .ref q3, .ref q4, .ref q5, .ref q6, .ref q7, .int 0, .int (-1), .int 0, .int 0, .int 0, .int 0])), (q2, zAI cI 5), (q3, zAI cI 5), (q4, zAI cI 5), (q5, zAI cI 5), (q6, zAI cI 32), (q7, zAI cI 5), (q8, .inr (1, [.ref q9, .int 0])), (q9, zAI cI 20), (q10, .inr (0, [.ref q11, .ref q12, .ref q13, .ref q14, .ref q15, .ref q16, .int 0, .int (-1), .int 0, .int 0, .int 0, .int 0])), (q11, zAI cI 5), (q12, zAI cI 5), (q13, zAI cI 5), (q14, zAI cI 5), (q15, zAI cI 32), (q16, zAI cI 5), (q17, .inr (2, [.null, .null, .null, .null, .null, .null, .null, .null]))] H := hP
  have hD : va_D A [(h0, .inr (4, [.ref q8, .ref q1, .ref q10, .null, .null, .int 0, .int 0])), (q1, .inr (0, [.ref q2, .ref q3, .ref q4, .ref q5, .ref q6, .ref q7, .int 0, .int (-1), .int 0, .int 0, .int 0, .int 0])), (q2, zAI cI 5), (q3, zAI cI 5), (q4, zAI cI 5), (q5, zAI cI 5), (q6, zAI cI 32), (q7, zAI cI 5), (q8, .inr (1, [.ref q9, .int 0])), (q9, zAI cI 20), (q10, .inr (0, [.ref q11, .ref q12, .ref q13, .ref q14, .ref q15, .ref q16, .int 0, .int (-1), .int 0, .int 0, .int 0, .int 0])), (q11, zAI cI 5), (q12, zAI cI 5), (q13, zAI cI 5), (q14, zAI cI 5), (q15, zAI cI 32), (q16, zAI cI 5), (q17, .inr (2, [.null, .null, .null, .null, .null, .null, .null, .null]))] := hD
  refine lv_dup hx hb dI4_43 rfl ?_
  refine lv_aload_n hx hb dI4_44 rfl (lv_at hl 0 rfl) ?_
  have hPc := hP.sub (ws' := [(q17, .inr (2, [.null, .null, .null, .null, .null, .null, .null, .null]))]) [17] rfl
  have hDc := hD.sub (ws' := [(q17, .inr (2, [.null, .null, .null, .null, .null, .null, .null, .null]))]) [17] (by decide) rfl
  have hFc := va_free (wc := [(q17, .inr (2, [.null, .null, .null, .null, .null, .null, .null, .null]))]) hD hS hA [17] rfl
  refine va_callv (va_runI (As := [.ref q1]) (rest := [.ref q17, .ref h0]) ⟨hx, hb, hml, hown, hts⟩ (kI2 l D cI cL q17 q1 H.size) (cwI 1 hts (kGI kq_92) rfl rfl rfl (hq _ kq_12) (hq _ kq_90) (hq _ kq_91) rfl (by decide +kernel) ⟨(Nat.le_of_ble_eq_true rfl), (Nat.le_of_ble_eq_true rfl)⟩) ⟨fun a U g mk q => by obtain ⟨q0, q1, qP, qK, qD⟩ := q; exact ⟨q0, q1, qP, va_K.moved (u := U) (U := U.calling g mk a) (Vm.Alike.refl U.vm) qK, qD⟩, fun U hU hW => ⟨rfl, by rw [hU], by rw [hU]; exact hPc, va_K.moved hW.alike hK, hDc.weaken (fun _ _ _ _ => trivial)⟩⟩ rfl rfl hl.1 rfl (lv_room (Nat.le_of_ble_eq_true rfl)) dI4_45 ⟨(Nat.le_of_ble_eq_true rfl), (Nat.le_of_ble_eq_true rfl)⟩) hS (fun q _ h => hFc q h) hFc (fun u t H1 locs ht hvm hw hB hz1 hk1 hS => ?_)
  obtain ⟨q18, q19, q20, q21, q22, q23, q24, hP1, hD1⟩ := hB
  rw [ht] at hP1
  obtain ⟨hP, hD⟩ := va_join (wr := [(h0, .inr (4, [.ref q8, .ref q1, .ref q10, .null, .null, .int 0, .int 0])), (q1, .inr (0, [.ref q2, .ref q3, .ref q4, .ref q5, .ref q6, .ref q7, .int 0, .int (-1), .int 0, .int 0, .int 0, .int 0])), (q2, zAI cI 5), (q3, zAI cI 5), (q4, zAI cI 5), (q5, zAI cI 5), (q6, zAI cI 32), (q7, zAI cI 5), (q8, .inr (1, [.ref q9, .int 0])), (q9, zAI cI 20), (q10, .inr (0, [.ref q11, .ref q12, .ref q13, .ref q14, .ref q15, .ref q16, .int 0, .int (-1), .int 0, .int 0, .int 0, .int 0])), (q11, zAI cI 5), (q12, zAI cI 5), (q13, zAI cI 5), (q14, zAI cI 5), (q15, zAI cI 32), (q16, zAI cI 5)]) (w1 := [(q17, .inr (2, [.ref q1, .ref q18, .ref q19, .ref q20, .ref q21, .ref q22, .ref q23, .ref q24])), (q18, zAL cL 5), (q19, zAL cL 5), (q20, zAL cL 32), (q21, zAL cL 6), (q22, zAL cL 6), (q23, zAL cL 64), (q24, zAL cL 64)]) hP hD [17] [0, 1, 2, 3, 4, 5, 6, 7, 8, 9, 10, 11, 12, 13, 14, 15, 16] rfl rfl (by decide) (by decide) hk1 hFc hP1 hD1
  clear hk1 hFc hP1 hD1 hPc hDc hw hz1 hvm ht
  generalize H1 = H at hP hS ⊢
  have hP : va_P D vwCl [(h0, .inr (4, [.ref q8, .ref q1, .ref q10, .null, .null, .int 0, .int 0])), (q1, .inr (0, [.ref q2, .ref q3, .ref q4, .ref q5, .ref q6, .ref q7, .int 0, .int (-1), .int 0, .int 0, .int 0, .int 0])), (q2, zAI cI 5), (q3, zAI cI 5), (q4, zAI cI 5), (q5, zAI cI 5), (q6, zAI cI 32), (q7, zAI cI 5), (q8, .inr (1, [.ref q9, .int 0])), (q9, zAI cI 20), (q10, .inr (0, [.ref q11, .ref q12, .ref q13, .ref q14, .ref q15, .ref q16, .int 0, .int (-1), .int 0, .int 0, .int 0, .int 0])), (q11, zAI cI 5), (q12, zAI cI 5), (q13, zAI cI 5), (q14, zAI cI 5), (q15, zAI cI 32), (q16, zAI cI 5), (q17, .inr (2, [.ref q1, .ref q18, .ref q19, .ref q20, .ref q21, .ref q22, .ref q23, .ref q24])), (q18, zAL cL 5), (q19, zAL cL 5), (q20, zAL cL 32), (q21, zAL cL 6), (q22, zAL cL 6), (q23, zAL cL 64), (q24, zAL cL 64)] H := hP
  have hD : va_D A [(h0, .inr (4, [.ref q8, .ref q1, .ref q10, .null, .null, .int 0, .int 0])), (q1, .inr (0, [.ref q2, .ref q3, .ref q4, .ref q5, .ref q6, .ref q7, .int 0, .int (-1), .int 0, .int 0, .int 0, .int 0])), (q2, zAI cI 5), (q3, zAI cI 5), (q4, zAI cI 5), (q5, zAI cI 5), (q6, zAI cI 32), (q7, zAI cI 5), (q8, .inr (1, [.ref q9, .int 0])), (q9, zAI cI 20), (q10, .inr (0, [.ref q11, .ref q12, .ref q13, .ref q14, .ref q15, .ref q16, .int 0, .int (-1), .int 0, .int 0, .int 0, .int 0])), (q11, zAI cI 5), (q12, zAI cI 5), (q13, zAI cI 5), (q14, zAI cI 5), (q15, zAI cI 32), (q16, zAI cI 5), (q17, .inr (2, [.ref q1, .ref q18, .ref q19, .ref q20, .ref q21, .ref q22, .ref q23, .ref q24])), (q18, zAL cL 5), (q19, zAL cL 5), (q20, zAL cL 32), (q21, zAL cL 6), (q22, zAL cL 6), (q23, zAL cL 64), (q24, zAL cL 64)] := hD
  refine va_putF (D := D) (ci := 4) (v := .ref q17) (ty := .object "SneezeKing$Prospect") (C := RX5) (T := TX5) (N := 7) hx hb hq (kws_in kws_4 kwg_4) tyX5 tyX5_ok nmX5 hown hK hP hD hS 0 rfl rfl 3 (by decide) (hq _ kq_142) (fun _ h9 => h9) rfl hin rfl (by decide +kernel) rfl rfl (Nat.le_of_ble_eq_true rfl) dI4_48 (fun H locs hP hD hS => ?_)
  have hP : va_P D vwCl [(h0, .inr (4, [.ref q8, .ref q1, .ref q10, .ref q17, .null, .int 0, .int 0])), (q1, .inr (0, [.ref q2, .ref q3, .ref q4, .ref q5, .ref q6, .ref q7, .int 0, .int (-1), .int 0, .int 0, .int 0, .int 0])), (q2, zAI cI 5), (q3, zAI cI 5), (q4, zAI cI 5), (q5, zAI cI 5), (q6, zAI cI 32), (q7, zAI cI 5), (q8, .inr (1, [.ref q9, .int 0])), (q9, zAI cI 20), (q10, .inr (0, [.ref q11, .ref q12, .ref q13, .ref q14, .ref q15, .ref q16, .int 0, .int (-1), .int 0, .int 0, .int 0, .int 0])), (q11, zAI cI 5), (q12, zAI cI 5), (q13, zAI cI 5), (q14, zAI cI 5), (q15, zAI cI 32), (q16, zAI cI 5), (q17, .inr (2, [.ref q1, .ref q18, .ref q19, .ref q20, .ref q21, .ref q22, .ref q23, .ref q24])), (q18, zAL cL 5), (q19, zAL cL 5), (q20, zAL cL 32), (q21, zAL cL 6), (q22, zAL cL 6), (q23, zAL cL 64), (q24, zAL cL 64)] H := hP
  have hD : va_D A [(h0, .inr (4, [.ref q8, .ref q1, .ref q10, .ref q17, .null, .int 0, .int 0])), (q1, .inr (0, [.ref q2, .ref q3, .ref q4, .ref q5, .ref q6, .ref q7, .int 0, .int (-1), .int 0, .int 0, .int 0, .int 0])), (q2, zAI cI 5), (q3, zAI cI 5), (q4, zAI cI 5), (q5, zAI cI 5), (q6, zAI cI 32), (q7, zAI cI 5), (q8, .inr (1, [.ref q9, .int 0])), (q9, zAI cI 20), (q10, .inr (0, [.ref q11, .ref q12, .ref q13, .ref q14, .ref q15, .ref q16, .int 0, .int (-1), .int 0, .int 0, .int 0, .int 0])), (q11, zAI cI 5), (q12, zAI cI 5), (q13, zAI cI 5), (q14, zAI cI 5), (q15, zAI cI 32), (q16, zAI cI 5), (q17, .inr (2, [.ref q1, .ref q18, .ref q19, .ref q20, .ref q21, .ref q22, .ref q23, .ref q24])), (q18, zAL cL 5), (q19, zAL cL 5), (q20, zAL cL 32), (q21, zAL cL 6), (q22, zAL cL 6), (q23, zAL cL 64), (q24, zAL cL 64)] := hD
  refine lv_aload_n hx hb dI4_51 rfl (lv_at hl 1 rfl) ?_
  refine va_new (ci := 3) (fs := [.null, .null, .int 0, .long 0]) (C := RX4) (T := TX4) (N := 4) hx hb hq (kws_in kws_3 kwg_3) tyX4 tyX4_ok hown (hq _ kq_120) (hq _ kq_121) (hq _ kq_13) hK hP hD hS hA rfl (by decide +kernel) (Nat.le_of_ble_eq_true rfl) (Nat.le_of_ble_eq_true rfl) dI4_52 (fun q25 H hP hD hS => ?_)
  have hP : va_P D vwCl [(h0, .inr (4, [.ref q8, .ref q1, .ref q10, .ref q17, .null, .int 0, .int 0])), (q1, .inr (0, [.ref q2, .ref q3, .ref q4, .ref q5, .ref q6, .ref q7, .int 0, .int (-1), .int 0, .int 0, .int 0, .int 0])), (q2, zAI cI 5), (q3, zAI cI 5), (q4, zAI cI 5), (q5, zAI cI 5), (q6, zAI cI 32), (q7, zAI cI 5), (q8, .inr (1, [.ref q9, .int 0])), (q9, zAI cI 20), (q10, .inr (0, [.ref q11, .ref q12, .ref q13, .ref q14, .ref q15, .ref q16, .int 0, .int (-1), .int 0, .int 0, .int 0, .int 0])), (q11, zAI cI 5), (q12, zAI cI 5), (q13, zAI cI 5), (q14, zAI cI 5), (q15, zAI cI 32), (q16, zAI cI 5), (q17, .inr (2, [.ref q1, .ref q18, .ref q19, .ref q20, .ref q21, .ref q22, .ref q23, .ref q24])), (q18, zAL cL 5), (q19, zAL cL 5), (q20, zAL cL 32), (q21, zAL cL 6), (q22, zAL cL 6), (q23, zAL cL 64), (q24, zAL cL 64), (q25, .inr (3, [.null, .null, .int 0, .long 0]))] H := hP
  have hD : va_D A [(h0, .inr (4, [.ref q8, .ref q1, .ref q10, .ref q17, .null, .int 0, .int 0])), (q1, .inr (0, [.ref q2, .ref q3, .ref q4, .ref q5, .ref q6, .ref q7, .int 0, .int (-1), .int 0, .int 0, .int 0, .int 0])), (q2, zAI cI 5), (q3, zAI cI 5), (q4, zAI cI 5), (q5, zAI cI 5), (q6, zAI cI 32), (q7, zAI cI 5), (q8, .inr (1, [.ref q9, .int 0])), (q9, zAI cI 20), (q10, .inr (0, [.ref q11, .ref q12, .ref q13, .ref q14, .ref q15, .ref q16, .int 0, .int (-1), .int 0, .int 0, .int 0, .int 0])), (q11, zAI cI 5), (q12, zAI cI 5), (q13, zAI cI 5), (q14, zAI cI 5), (q15, zAI cI 32), (q16, zAI cI 5), (q17, .inr (2, [.ref q1, .ref q18, .ref q19, .ref q20, .ref q21, .ref q22, .ref q23, .ref q24])), (q18, zAL cL 5), (q19, zAL cL 5), (q20, zAL cL 32), (q21, zAL cL 6), (q22, zAL cL 6), (q23, zAL cL 64), (q24, zAL cL 64), (q25, .inr (3, [.null, .null, .int 0, .long 0]))] := hD
  refine lv_dup hx hb dI4_55 rfl ?_
  refine lv_aload_n hx hb dI4_56 rfl (lv_at hl 0 rfl) ?_
  have hPc := hP.sub (ws' := [(q25, .inr (3, [.null, .null, .int 0, .long 0]))]) [25] rfl
  have hDc := hD.sub (ws' := [(q25, .inr (3, [.null, .null, .int 0, .long 0]))]) [25] (by decide) rfl
  have hFc := va_free (wc := [(q25, .inr (3, [.null, .null, .int 0, .long 0]))]) hD hS hA [25] rfl
  refine va_callv (va_runI (As := [.ref q1]) (rest := [.ref q25, .ref h0]) ⟨hx, hb, hml, hown, hts⟩ (kI3 l D cI cL q25 q1 H.size) (cwI 1 hts (kGI kq_124) rfl rfl rfl (hq _ kq_13) (hq _ kq_122) (hq _ kq_123) rfl (by decide +kernel) ⟨(Nat.le_of_ble_eq_true rfl), (Nat.le_of_ble_eq_true rfl)⟩) ⟨fun a U g mk q => by obtain ⟨q0, q1, qP, qK, qD⟩ := q; exact ⟨q0, q1, qP, va_K.moved (u := U) (U := U.calling g mk a) (Vm.Alike.refl U.vm) qK, qD⟩, fun U hU hW => ⟨rfl, by rw [hU], by rw [hU]; exact hPc, va_K.moved hW.alike hK, hDc.weaken (fun _ _ _ _ => trivial)⟩⟩ rfl rfl hl.1 rfl (lv_room (Nat.le_of_ble_eq_true rfl)) dI4_57 ⟨(Nat.le_of_ble_eq_true rfl), (Nat.le_of_ble_eq_true rfl)⟩) hS (fun q _ h => hFc q h) hFc (fun u t H1 locs ht hvm hw hB hz1 hk1 hS => ?_)
  obtain ⟨q26, hP1, hD1⟩ := hB
  rw [ht] at hP1
  obtain ⟨hP, hD⟩ := va_join (wr := [(h0, .inr (4, [.ref q8, .ref q1, .ref q10, .ref q17, .null, .int 0, .int 0])), (q1, .inr (0, [.ref q2, .ref q3, .ref q4, .ref q5, .ref q6, .ref q7, .int 0, .int (-1), .int 0, .int 0, .int 0, .int 0])), (q2, zAI cI 5), (q3, zAI cI 5), (q4, zAI cI 5), (q5, zAI cI 5), (q6, zAI cI 32), (q7, zAI cI 5), (q8, .inr (1, [.ref q9, .int 0])), (q9, zAI cI 20), (q10, .inr (0, [.ref q11, .ref q12, .ref q13, .ref q14, .ref q15, .ref q16, .int 0, .int (-1), .int 0, .int 0, .int 0, .int 0])), (q11, zAI cI 5), (q12, zAI cI 5), (q13, zAI cI 5), (q14, zAI cI 5), (q15, zAI cI 32), (q16, zAI cI 5), (q17, .inr (2, [.ref q1, .ref q18, .ref q19, .ref q20, .ref q21, .ref q22, .ref q23, .ref q24])), (q18, zAL cL 5), (q19, zAL cL 5), (q20, zAL cL 32), (q21, zAL cL 6), (q22, zAL cL 6), (q23, zAL cL 64), (q24, zAL cL 64)]) (w1 := [(q25, .inr (3, [.ref q1, .ref q26, .int 0, .long 0])), (q26, zAI cI 5)]) hP hD [25] [0, 1, 2, 3, 4, 5, 6, 7, 8, 9, 10, 11, 12, 13, 14, 15, 16, 17, 18, 19, 20, 21, 22, 23, 24] rfl rfl (by decide) (by decide) hk1 hFc hP1 hD1
  clear hk1 hFc hP1 hD1 hPc hDc hw hz1 hvm ht
  generalize H1 = H at hP hS ⊢
  have hP : va_P D vwCl [(h0, .inr (4, [.ref q8, .ref q1, .ref q10, .ref q17, .null, .int 0, .int 0])), (q1, .inr (0, [.ref q2, .ref q3, .ref q4, .ref q5, .ref q6, .ref q7, .int 0, .int (-1), .int 0, .int 0, .int 0, .int 0])), (q2, zAI cI 5), (q3, zAI cI 5), (q4, zAI cI 5), (q5, zAI cI 5), (q6, zAI cI 32), (q7, zAI cI 5), (q8, .inr (1, [.ref q9, .int 0])), (q9, zAI cI 20), (q10, .inr (0, [.ref q11, .ref q12, .ref q13, .ref q14, .ref q15, .ref q16, .int 0, .int (-1), .int 0, .int 0, .int 0, .int 0])), (q11, zAI cI 5), (q12, zAI cI 5), (q13, zAI cI 5), (q14, zAI cI 5), (q15, zAI cI 32), (q16, zAI cI 5), (q17, .inr (2, [.ref q1, .ref q18, .ref q19, .ref q20, .ref q21, .ref q22, .ref q23, .ref q24])), (q18, zAL cL 5), (q19, zAL cL 5), (q20, zAL cL 32), (q21, zAL cL 6), (q22, zAL cL 6), (q23, zAL cL 64), (q24, zAL cL 64), (q25, .inr (3, [.ref q1, .ref q26, .int 0, .long 0])), (q26, zAI cI 5)] H := hP
  have hD : va_D A [(h0, .inr (4, [.ref q8, .ref q1, .ref q10, .ref q17, .null, .int 0, .int 0])), (q1, .inr (0, [.ref q2, .ref q3, .ref q4, .ref q5, .ref q6, .ref q7, .int 0, .int (-1), .int 0, .int 0, .int 0, .int 0])), (q2, zAI cI 5), (q3, zAI cI 5), (q4, zAI cI 5), (q5, zAI cI 5), (q6, zAI cI 32), (q7, zAI cI 5), (q8, .inr (1, [.ref q9, .int 0])), (q9, zAI cI 20), (q10, .inr (0, [.ref q11, .ref q12, .ref q13, .ref q14, .ref q15, .ref q16, .int 0, .int (-1), .int 0, .int 0, .int 0, .int 0])), (q11, zAI cI 5), (q12, zAI cI 5), (q13, zAI cI 5), (q14, zAI cI 5), (q15, zAI cI 32), (q16, zAI cI 5), (q17, .inr (2, [.ref q1, .ref q18, .ref q19, .ref q20, .ref q21, .ref q22, .ref q23, .ref q24])), (q18, zAL cL 5), (q19, zAL cL 5), (q20, zAL cL 32), (q21, zAL cL 6), (q22, zAL cL 6), (q23, zAL cL 64), (q24, zAL cL 64), (q25, .inr (3, [.ref q1, .ref q26, .int 0, .long 0])), (q26, zAI cI 5)] := hD
  refine va_putF (D := D) (ci := 4) (v := .ref q25) (ty := .object "SneezeKing$Years") (C := RX5) (T := TX5) (N := 7) hx hb hq (kws_in kws_4 kwg_4) tyX5 tyX5_ok nmX5 hown hK hP hD hS 0 rfl rfl 4 (by decide) (hq _ kq_143) (fun _ h9 => h9) rfl hin rfl (by decide +kernel) rfl rfl (Nat.le_of_ble_eq_true rfl) dI4_60 (fun H locs hP hD hS => ?_)
  have hP : va_P D vwCl [(h0, .inr (4, [.ref q8, .ref q1, .ref q10, .ref q17, .ref q25, .int 0, .int 0])), (q1, .inr (0, [.ref q2, .ref q3, .ref q4, .ref q5, .ref q6, .ref q7, .int 0, .int (-1), .int 0, .int 0, .int 0, .int 0])), (q2, zAI cI 5), (q3, zAI cI 5), (q4, zAI cI 5), (q5, zAI cI 5), (q6, zAI cI 32), (q7, zAI cI 5), (q8, .inr (1, [.ref q9, .int 0])), (q9, zAI cI 20), (q10, .inr (0, [.ref q11, .ref q12, .ref q13, .ref q14, .ref q15, .ref q16, .int 0, .int (-1), .int 0, .int 0, .int 0, .int 0])), (q11, zAI cI 5), (q12, zAI cI 5), (q13, zAI cI 5), (q14, zAI cI 5), (q15, zAI cI 32), (q16, zAI cI 5), (q17, .inr (2, [.ref q1, .ref q18, .ref q19, .ref q20, .ref q21, .ref q22, .ref q23, .ref q24])), (q18, zAL cL 5), (q19, zAL cL 5), (q20, zAL cL 32), (q21, zAL cL 6), (q22, zAL cL 6), (q23, zAL cL 64), (q24, zAL cL 64), (q25, .inr (3, [.ref q1, .ref q26, .int 0, .long 0])), (q26, zAI cI 5)] H := hP
  have hD : va_D A [(h0, .inr (4, [.ref q8, .ref q1, .ref q10, .ref q17, .ref q25, .int 0, .int 0])), (q1, .inr (0, [.ref q2, .ref q3, .ref q4, .ref q5, .ref q6, .ref q7, .int 0, .int (-1), .int 0, .int 0, .int 0, .int 0])), (q2, zAI cI 5), (q3, zAI cI 5), (q4, zAI cI 5), (q5, zAI cI 5), (q6, zAI cI 32), (q7, zAI cI 5), (q8, .inr (1, [.ref q9, .int 0])), (q9, zAI cI 20), (q10, .inr (0, [.ref q11, .ref q12, .ref q13, .ref q14, .ref q15, .ref q16, .int 0, .int (-1), .int 0, .int 0, .int 0, .int 0])), (q11, zAI cI 5), (q12, zAI cI 5), (q13, zAI cI 5), (q14, zAI cI 5), (q15, zAI cI 32), (q16, zAI cI 5), (q17, .inr (2, [.ref q1, .ref q18, .ref q19, .ref q20, .ref q21, .ref q22, .ref q23, .ref q24])), (q18, zAL cL 5), (q19, zAL cL 5), (q20, zAL cL 32), (q21, zAL cL 6), (q22, zAL cL 6), (q23, zAL cL 64), (q24, zAL cL 64), (q25, .inr (3, [.ref q1, .ref q26, .int 0, .long 0])), (q26, zAI cI 5)] := hD
  refine W.widen (k := 26) (n := 359) (Nat.le_of_ble_eq_true rfl) (Nat.le_of_ble_eq_true rfl) ?_
  exact W.vret hx hb hr (fun t ht hW => ⟨⟨(), rfl, trivial, q1, q2, q3, q4, q5, q6, q7, q8, q9, q10, q11, q12, q13, q14, q15, q16, q17, q18, q19, q20, q21, q22, q23, q24, q25, q26, by rw [ht]; exact hP, hD⟩, hS.F ht⟩) hS.2.2 dI4_63
