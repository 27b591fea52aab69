/-! the model: small things -/
theorem q_ile (x y : Int32) : (x.toInt64 ≤ y.toInt64) = (x ≤ y) := by
  rw [Int64.le_iff_toInt_le, Int32.le_iff_toInt_le, Int32.toInt_toInt64, Int32.toInt_toInt64]
theorem q_cmplt (x y : Int64) : (lg_cmp x y < 0) = ¬ (y ≤ x) := by
  unfold lg_cmp
  apply propext
  by_cases h : x > y
  · rw [if_pos h]
    exact ⟨fun z => absurd z (by decide), fun z => absurd (Int64.le_of_lt h) z⟩
  · by_cases h2 : x = y
    · subst h2
      rw [if_neg h, if_pos rfl]
      exact ⟨fun z => absurd z (by decide), fun z => absurd (Int64.le_refl x) z⟩
    · rw [if_neg h, if_neg h2]
      exact ⟨fun _ z => h2 (Int64.le_antisymm (Int64.not_lt.1 h) z), fun _ => by decide⟩
theorem q_cmpgt (x y : Int64) : (0 < lg_cmp x y) = (y < x) := by
  unfold lg_cmp
  apply propext
  by_cases h : x > y
  · rw [if_pos h]
    exact ⟨fun _ => h, fun _ => by decide⟩
  · by_cases h2 : x = y
    · subst h2
      rw [if_neg h, if_pos rfl]
      exact ⟨fun z => absurd z (by decide), fun z => absurd z h⟩
    · rw [if_neg h, if_neg h2]
      exact ⟨fun z => absurd z (by decide), fun z => absurd z h⟩
theorem z01 {p : Prop} [Decidable p] : ((if p then (1 : Int32) else 0) = 0 ∨ (if p then (1 : Int32) else 0) = 1) = True := eq_true (by split; exact Or.inr rfl; exact Or.inl rfl)
section KM1
variable {H : kH}
theorem c_in (a b c : Int64) : ev 97 0 [.long a, .null, .long b, .null, .long c, .null] [] H = some (some (.int (if b ≤ a ∧ a ≤ c then 1 else 0)), H) := by
  by_cases h1 : b ≤ a
  · by_cases h2 : a ≤ c
    · have h3 : ¬ c < a := by rw [Int64.not_lt]; exact h2
      simp only [e97_0, e97_1, e97_2, e97_3, e97_6, e97_7, e97_9, e97_10, e97_13, e97_14, e97_17, e97_18, q_cmplt, q_cmpgt, h1, h2, h3, not_true_eq_false, if_false, or_true, if_true, and_self]
    · have h3 : c < a := by rw [← Int64.not_le]; exact h2
      simp only [e97_0, e97_1, e97_2, e97_3, e97_6, e97_7, e97_9, e97_10, e97_13, e97_14, e97_17, e97_18, q_cmplt, q_cmpgt, h1, h2, h3, not_true_eq_false, if_false, true_or, if_true, and_false]
  · simp only [e97_0, e97_1, e97_2, e97_3, e97_6, e97_7, e97_9, e97_10, e97_13, e97_14, e97_17, e97_18, q_cmplt, h1, not_false_eq_true, if_true, true_or, false_and, if_false]
theorem m_in (x : Int32) {a b : Nat} (ha : a < 2147483648) (hb : b < 2147483648) : ev 97 0 [.long x.toInt64, .null, .long (lN a), .null, .long (lN b), .null] [] H = some (some (.int (if nI a ≤ x ∧ x ≤ nI b then 1 else 0)), H) := by
  rw [c_in, ← q_i2l ha, ← q_i2l hb]
  simp only [q_ile]
theorem m_lo {x : Int32} {a b : Nat} (h : x < 0) (ha : a < 2147483648) (hb : b < 2147483648) : ev 97 0 [.long x.toInt64, .null, .long (lN a), .null, .long (lN b), .null] [] H = some (some (.int 0), H) := by
  rw [m_in x ha hb, if_neg]
  rw [q_lo_hi ha h]
  exact fun z => z.1
theorem m_hi {x : Int32} {a b n : Nat} (h : nI n ≤ x) (hn : n < 2147483648) (hb : b < n) (ha : a < 2147483648) : ev 97 0 [.long x.toInt64, .null, .long (lN a), .null, .long (lN b), .null] [] H = some (some (.int 0), H) := by
  rw [m_in x ha (by omega), if_neg]
  rw [q_hi_le hn h hb]
  exact fun z => z.2
theorem m_ok {j a b : Nat} (h1 : a ≤ j) (h2 : j ≤ b) (hb : b < 2147483648) : ev 97 0 [.long (nI j).toInt64, .null, .long (lN a), .null, .long (lN b), .null] [] H = some (some (.int 1), H) := by
  rw [m_in _ (by omega) hb, if_pos]
  rw [q_le (by omega) (by omega), q_le (by omega) hb]
  exact ⟨h1, h2⟩
theorem m_no {j a b : Nat} (h1 : j < a) (ha : a < 2147483648) (hb : b < 2147483648) : ev 97 0 [.long (nI j).toInt64, .null, .long (lN a), .null, .long (lN b), .null] [] H = some (some (.int 0), H) := by
  rw [m_in _ ha hb, if_neg]
  rw [q_le ha (by omega)]
  omega
theorem m_kindBy {c : Nat} (hc : c < 127) : ev 100 0 [.int (nI c)] [] H = some (some (.int (kIx c)), H) := by
  have e : ∀ a, a < 2147483648 → ((nI c : Int32) = nI a) = (c = a) := fun a ha => q_eq (by omega) ha
  unfold kIx
  by_cases h1 : c = 112
  · simp only [e100_0, e100_1, e100_3, e100_6, e100_7, e100_10, e100_11, e100_13, e100_16, e100_17, e100_20, e100_21, e100_23, e100_26, e100_27, e100_30, e100_31, e100_33, e100_36, e100_37, e100_40, e100_41, e100_43, e100_46, e100_47, e100_50, e100_51, show (112 : Int32) = nI 112 from rfl, e 112 (by decide), h1, not_true_eq_false, if_false, if_true]
  by_cases h2 : c = 115
  · simp only [e100_0, e100_1, e100_3, e100_6, e100_7, e100_10, e100_11, e100_13, e100_16, e100_17, e100_20, e100_21, e100_23, e100_26, e100_27, e100_30, e100_31, e100_33, e100_36, e100_37, e100_40, e100_41, e100_43, e100_46, e100_47, e100_50, e100_51, show (112 : Int32) = nI 112 from rfl, e 112 (by decide), show (115 : Int32) = nI 115 from rfl, e 115 (by decide), h1, h2, not_true_eq_false, not_false_eq_true, if_false, if_true]
    rfl
  by_cases h3 : c = 102
  · simp only [e100_0, e100_1, e100_3, e100_6, e100_7, e100_10, e100_11, e100_13, e100_16, e100_17, e100_20, e100_21, e100_23, e100_26, e100_27, e100_30, e100_31, e100_33, e100_36, e100_37, e100_40, e100_41, e100_43, e100_46, e100_47, e100_50, e100_51, show (112 : Int32) = nI 112 from rfl, e 112 (by decide), show (115 : Int32) = nI 115 from rfl, e 115 (by decide), show (102 : Int32) = nI 102 from rfl, e 102 (by decide), h1, h2, h3, not_true_eq_false, not_false_eq_true, if_false, if_true]
    rfl
  by_cases h4 : c = 100
  · simp only [e100_0, e100_1, e100_3, e100_6, e100_7, e100_10, e100_11, e100_13, e100_16, e100_17, e100_20, e100_21, e100_23, e100_26, e100_27, e100_30, e100_31, e100_33, e100_36, e100_37, e100_40, e100_41, e100_43, e100_46, e100_47, e100_50, e100_51, show (112 : Int32) = nI 112 from rfl, e 112 (by decide), show (115 : Int32) = nI 115 from rfl, e 115 (by decide), show (102 : Int32) = nI 102 from rfl, e 102 (by decide), show (100 : Int32) = nI 100 from rfl, e 100 (by decide), h1, h2, h3, h4, not_true_eq_false, not_false_eq_true, if_false, if_true]
    rfl
  by_cases h5 : c = 99
  · simp only [e100_0, e100_1, e100_3, e100_6, e100_7, e100_10, e100_11, e100_13, e100_16, e100_17, e100_20, e100_21, e100_23, e100_26, e100_27, e100_30, e100_31, e100_33, e100_36, e100_37, e100_40, e100_41, e100_43, e100_46, e100_47, e100_50, e100_51, show (112 : Int32) = nI 112 from rfl, e 112 (by decide), show (115 : Int32) = nI 115 from rfl, e 115 (by decide), show (102 : Int32) = nI 102 from rfl, e 102 (by decide), show (100 : Int32) = nI 100 from rfl, e 100 (by decide), show (99 : Int32) = nI 99 from rfl, e 99 (by decide), h1, h2, h3, h4, h5, not_true_eq_false, not_false_eq_true, if_false, if_true]
    rfl
  · simp only [e100_0, e100_1, e100_3, e100_6, e100_7, e100_10, e100_11, e100_13, e100_16, e100_17, e100_20, e100_21, e100_23, e100_26, e100_27, e100_30, e100_31, e100_33, e100_36, e100_37, e100_40, e100_41, e100_43, e100_46, e100_47, e100_50, e100_51, show (112 : Int32) = nI 112 from rfl, e 112 (by decide), show (115 : Int32) = nI 115 from rfl, e 115 (by decide), show (102 : Int32) = nI 102 from rfl, e 102 (by decide), show (100 : Int32) = nI 100 from rfl, e 100 (by decide), show (99 : Int32) = nI 99 from rfl, e 99 (by decide), h1, h2, h3, h4, h5, not_true_eq_false, not_false_eq_true, if_false, if_true]
theorem kIx_m1 (c : Nat) : (kIx c = -1) = ¬ (c = 112 ∨ c = 115 ∨ c = 102 ∨ c = 100 ∨ c = 99) := by
  unfold kIx
  by_cases h1 : c = 112
  · simp [h1]
  by_cases h2 : c = 115
  · simp [h2]
  by_cases h3 : c = 102
  · simp [h3]
  by_cases h4 : c = 100
  · simp [h4]
  by_cases h5 : c = 99
  · simp [h5]
  · simp [h1, h2, h3, h4, h5]
theorem m_dig {c : Nat} (hc : c < 127) {b : Nat} (hb : b < 1000) : ev 97 0 [.long (nI c - 48).toInt64, .null, .long (lN 0), .null, .long (lN b), .null] [] H = some (some (.int (if 48 ≤ c ∧ c ≤ 48 + b then 1 else 0)), H) := by
  by_cases h : 48 ≤ c
  · rw [show (48 : Int32) = nI 48 from rfl, q_sub h]
    by_cases h2 : c ≤ 48 + b
    · rw [m_ok (by omega) (by omega) (by omega), if_pos ⟨h, h2⟩]
    · rw [m_hi (n := b + 1) (show nI (b + 1) ≤ nI (c - 48) by rw [q_le (by omega) (by omega)]; omega) (by omega) (by omega) (by decide), if_neg (fun z => h2 z.2)]
  · rw [m_lo (show nI c - 48 < 0 by
      rw [Int32.lt_iff_toInt_lt]
      have := pk_sub_toInt (a := c) (b := 48) (by omega) (by decide)
      rw [show (48 : Int32) = nI 48 from rfl, this]
      have e : (0 : Int32).toInt = 0 := rfl
      omega) (by decide) (by omega), if_neg (fun z => h z.1)]
theorem m_isGood {j c : Nat} (hj : j < 20) (hc : c < 127) : ev 101 0 [.int (nI j), .int (nI c), .null] [] H = some (some (.int (if qB j c = true then 1 else 0)), H) := by
  have z4 : ((4 : Int32) = 0) = False := eq_false (by decide)
  unfold qB
  rcases (show j % 4 = 0 ∨ j % 4 = 1 ∨ j % 4 = 2 ∨ j % 4 = 3 by omega) with h4 | h4 | h4 | h4
  · have h19 : j < 19 := by omega
    by_cases h : c = 112 ∨ c = 115 ∨ c = 102 ∨ c = 100 ∨ c = 99
    · simp only [e101_0, e101_1, e101_2, e101_3, e101_4, e101_5, e101_8, e101_9, e101_12, e101_13, e101_16, e101_17, e101_20, e101_21, e101_24, e101_25, e101_26, e101_29, e101_30, e101_32, e101_33, e101_34, e101_35, e101_38, e101_41, e101_44, e101_45, e101_46, e101_49, e101_50, e101_52, e101_53, e101_54, e101_55, e101_58, e101_61, e101_64, e101_65, e101_67, e101_70, e101_71, e101_73, e101_76, e101_77, e101_80, e101_81, z4, if_false, q_rem4 (show j < 2147483648 by omega), h4, n00, not_true_eq_false, m_kindBy hc, q_bs, q_tl, q_cn, kIx_m1, h, or_true, if_true, h19, decide_true, Bool.and_self]
    · simp only [e101_0, e101_1, e101_2, e101_3, e101_4, e101_5, e101_8, e101_9, e101_12, e101_13, e101_16, e101_17, e101_20, e101_21, e101_24, e101_25, e101_26, e101_29, e101_30, e101_32, e101_33, e101_34, e101_35, e101_38, e101_41, e101_44, e101_45, e101_46, e101_49, e101_50, e101_52, e101_53, e101_54, e101_55, e101_58, e101_61, e101_64, e101_65, e101_67, e101_70, e101_71, e101_73, e101_76, e101_77, e101_80, e101_81, z4, if_false, q_rem4 (show j < 2147483648 by omega), h4, n00, not_true_eq_false, m_kindBy hc, q_bs, q_tl, q_cn, kIx_m1, h, not_false_eq_true, true_or, if_true, h19, decide_true, decide_false, Bool.and_false, Bool.false_eq_true]
  · have h19 : j < 19 := by omega
    have hn0 : ((1 : Int32) = 0) = False := t10
    simp only [e101_0, e101_1, e101_2, e101_3, e101_4, e101_5, e101_8, e101_9, e101_12, e101_13, e101_16, e101_17, e101_20, e101_21, e101_24, e101_25, e101_26, e101_29, e101_30, e101_32, e101_33, e101_34, e101_35, e101_38, e101_41, e101_44, e101_45, e101_46, e101_49, e101_50, e101_52, e101_53, e101_54, e101_55, e101_58, e101_61, e101_64, e101_65, e101_67, e101_70, e101_71, e101_73, e101_76, e101_77, e101_80, e101_81, z4, if_false, q_rem4 (show j < 2147483648 by omega), h4, show nI 1 = (1 : Int32) from rfl, hn0, not_false_eq_true, not_true_eq_false, if_true, show (0 : Int64) = lN 0 from rfl, show (9 : Int64) = lN 9 from rfl, m_dig hc (show 9 < 1000 by decide), q_bs, q_tl, q_cn, z01, h19, decide_true, Bool.true_and, Nat.one_ne_zero, decide_eq_true_eq]
  · have h19 : j < 19 := by omega
    simp only [e101_0, e101_1, e101_2, e101_3, e101_4, e101_5, e101_8, e101_9, e101_12, e101_13, e101_16, e101_17, e101_20, e101_21, e101_24, e101_25, e101_26, e101_29, e101_30, e101_32, e101_33, e101_34, e101_35, e101_38, e101_41, e101_44, e101_45, e101_46, e101_49, e101_50, e101_52, e101_53, e101_54, e101_55, e101_58, e101_61, e101_64, e101_65, e101_67, e101_70, e101_71, e101_73, e101_76, e101_77, e101_80, e101_81, z4, if_false, q_rem4 (show j < 2147483648 by omega), h4, show nI 2 = (2 : Int32) from rfl, show ((2 : Int32) = 0) = False from eq_false (by decide), show ((2 : Int32) = 1) = False from eq_false (by decide), not_false_eq_true, not_true_eq_false, if_true, show (0 : Int64) = lN 0 from rfl, show (5 : Int64) = lN 5 from rfl, m_dig hc (show 5 < 1000 by decide), q_bs, q_tl, q_cn, z01, h19, decide_true, Bool.true_and, show ¬ (2 : Nat) = 0 by decide, show ¬ (2 : Nat) = 1 by decide, decide_eq_true_eq]
    refine congrArg (fun z => some (some (Value.int z), H)) ?_
    by_cases a : 48 ≤ c ∧ c ≤ 48 + 5
    · rw [if_pos a, if_pos (by omega)]
    · rw [if_neg a, if_neg (by omega)]
  · by_cases h44 : c = 44
    · by_cases h19 : j < 19
      · simp only [e101_0, e101_1, e101_2, e101_3, e101_4, e101_5, e101_8, e101_9, e101_12, e101_13, e101_16, e101_17, e101_20, e101_21, e101_24, e101_25, e101_26, e101_29, e101_30, e101_32, e101_33, e101_34, e101_35, e101_38, e101_41, e101_44, e101_45, e101_46, e101_49, e101_50, e101_52, e101_53, e101_54, e101_55, e101_58, e101_61, e101_64, e101_65, e101_67, e101_70, e101_71, e101_73, e101_76, e101_77, e101_80, e101_81, z4, if_false, q_rem4 (show j < 2147483648 by omega), h4, show nI 3 = (3 : Int32) from rfl, show ((3 : Int32) = 0) = False from eq_false (by decide), show ((3 : Int32) = 1) = False from eq_false (by decide), show ((3 : Int32) = 2) = False from eq_false (by decide), not_false_eq_true, not_true_eq_false, if_true, h44, show (44 : Int32) = nI 44 from rfl, show (19 : Int32) = nI 19 from rfl, q_le (show 19 < 2147483648 by decide) (show j < 2147483648 by omega), show ¬ 19 ≤ j by omega, or_true, h19, decide_true, Bool.true_and, show ¬ (3 : Nat) = 0 by decide, show ¬ (3 : Nat) = 1 by decide, show ¬ (3 : Nat) = 2 by decide]
      · simp only [e101_0, e101_1, e101_2, e101_3, e101_4, e101_5, e101_8, e101_9, e101_12, e101_13, e101_16, e101_17, e101_20, e101_21, e101_24, e101_25, e101_26, e101_29, e101_30, e101_32, e101_33, e101_34, e101_35, e101_38, e101_41, e101_44, e101_45, e101_46, e101_49, e101_50, e101_52, e101_53, e101_54, e101_55, e101_58, e101_61, e101_64, e101_65, e101_67, e101_70, e101_71, e101_73, e101_76, e101_77, e101_80, e101_81, z4, if_false, q_rem4 (show j < 2147483648 by omega), h4, show nI 3 = (3 : Int32) from rfl, show ((3 : Int32) = 0) = False from eq_false (by decide), show ((3 : Int32) = 1) = False from eq_false (by decide), show ((3 : Int32) = 2) = False from eq_false (by decide), not_false_eq_true, not_true_eq_false, if_true, h44, show (44 : Int32) = nI 44 from rfl, show (19 : Int32) = nI 19 from rfl, q_le (show 19 < 2147483648 by decide) (show j < 2147483648 by omega), show 19 ≤ j by omega, true_or, h19, decide_false, Bool.false_and, Bool.false_eq_true]
    · have hne : (nI c = nI 44) = False := by rw [q_eq (by omega) (by decide)]; exact eq_false h44
      simp only [e101_0, e101_1, e101_2, e101_3, e101_4, e101_5, e101_8, e101_9, e101_12, e101_13, e101_16, e101_17, e101_20, e101_21, e101_24, e101_25, e101_26, e101_29, e101_30, e101_32, e101_33, e101_34, e101_35, e101_38, e101_41, e101_44, e101_45, e101_46, e101_49, e101_50, e101_52, e101_53, e101_54, e101_55, e101_58, e101_61, e101_64, e101_65, e101_67, e101_70, e101_71, e101_73, e101_76, e101_77, e101_80, e101_81, z4, if_false, q_rem4 (show j < 2147483648 by omega), h4, show nI 3 = (3 : Int32) from rfl, show ((3 : Int32) = 0) = False from eq_false (by decide), show ((3 : Int32) = 1) = False from eq_false (by decide), show ((3 : Int32) = 2) = False from eq_false (by decide), not_false_eq_true, if_true, h44, show (44 : Int32) = nI 44 from rfl, hne, true_or, decide_false, Bool.and_false, show ¬ (3 : Nat) = 0 by decide, show ¬ (3 : Nat) = 1 by decide, show ¬ (3 : Nat) = 2 by decide, Bool.false_eq_true]
/-- the model's page -/
def mP (H : kH) (n : Nat) (g : Nat → Nat) : Prop := hI H 27 1 = nI n ∧ n ≤ 20 ∧ ∀ j, j < n → hI H 28 j = nI (g j) ∧ g j < 127
variable {n : Nat} {g : Nat → Nat}
theorem lm_fault (hP : mP H n g) : ∀ i j, j + i = n → ev 102 2 [.ref 27, .int (nI j)] [] H = some (some (.int (nI (qW g i j))), H) := by
  have h20 := hP.2.1
  intro i
  induction i with
  | zero =>
    intro j hj
    have : j = n := by omega
    subst this
    rw [e102_2]
    simp only [e102_3, e102_4, e102_7, e102_29, e102_30, hP.1, Std.le_refl, if_true, qW]
  | succ i ih =>
    intro j hj
    obtain ⟨e1, e2⟩ := hP.2.2 j (by omega)
    rw [e102_2]
    unfold qW
    cases hb : qB j (g j) with
    | true =>
      rw [if_pos rfl, ← ih (j + 1) (by omega)]
      simp only [e102_3, e102_4, e102_7, e102_10, e102_11, e102_12, e102_15, e102_16, e102_17, e102_20, e102_23, e102_26, hP.1, q_le (show n < 2147483648 by omega) (show j < 2147483648 by omega), show ¬ n ≤ j by omega, if_false, q_lt0 (show j < 2147483648 by omega), q_cl (show j < 2147483648 by omega), false_or, show ¬ 20 ≤ j by omega, e1, m_isGood (show j < 20 by omega) e2, hb, q_bs, q_tl, q_cn, if_true, t10, nI_1]
    | false =>
      simp only [e102_3, e102_4, e102_7, e102_10, e102_11, e102_12, e102_15, e102_16, e102_17, e102_20, e102_23, e102_26, e102_29, e102_30, hP.1, q_le (show n < 2147483648 by omega) (show j < 2147483648 by omega), show ¬ n ≤ j by omega, if_false, q_lt0 (show j < 2147483648 by omega), q_cl (show j < 2147483648 by omega), false_or, show ¬ 20 ≤ j by omega, e1, m_isGood (show j < 20 by omega) e2, hb, q_bs, q_tl, q_cn, if_true, Bool.false_eq_true]
theorem m_faultOf (hP : mP H n g) : ev 102 0 [.ref 27, .null] [] H = some (some (.int (nI (qW g n 0))), H) := by
  rw [← lm_fault hP n 0 (by omega)]
  simp only [e102_0, e102_1]
  rfl
theorem m_fault (hP : mP H n g) : ev 103 0 [.ref 27] [] H = some (some (.int (nI (qW g n 0))), H) := by
  simp only [e103_0, e103_1, e103_4, m_faultOf hP, q_bs, q_tl, q_cn]
end KM1
