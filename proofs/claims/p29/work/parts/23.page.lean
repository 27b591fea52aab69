/-! the text, the page -/
def kIx (c : Nat) : Int32 := if c = 112 then 0 else if c = 115 then 1 else if c = 102 then 2 else if c = 100 then 3 else if c = 99 then 4 else -1
theorem q_chr : ∀ c, c < 127 → ((nI c).toUInt32 % 65536).toInt32 = nI c ∧ (nI c).toInt8.toInt32 = nI c := by decide +kernel
theorem q_rem4 {a : Nat} (h : a < 2147483648) : nI a - nI a / 4 * 4 = nI (a % 4) := pk_rem (a := a) (d := 4) h (by decide) (by decide)
section KPG
variable {H : kH}
theorem i160 {c j : Nat} (hj : j < 5) : ev 97 7 [.ref 40, .int (nI c), .int 0, .int 5, .int (nI c), .int (nI j)] [] H = if kbs.getD j 0 = nI c then some (some (.int (nI j)), H) else ev 97 7 [.ref 40, .int (nI c), .int 0, .int 5, .int (nI c), .int (nI (j + 1))] [] H := by
  rw [e97_7]
  simp only [e97_0, e97_1, e97_2, e97_4, e97_5, e97_9, e97_10, e97_13, e97_14, e97_16, e97_17, e97_19, e97_22, e97_24, e97_25, e97_28, e97_31, e97_32, show (5 : Int32) = nI 5 from rfl, q_le (show 5 < 2147483648 by decide) (show j < 2147483648 by omega), show ¬ 5 ≤ j by omega, if_false, q_lt0 (show j < 2147483648 by omega), q_cl (show j < 2147483648 by omega), or_false, nI_1]
  by_cases h : kbs.getD j 0 = nI c
  · simp only [h, not_true_eq_false, if_false, if_true]
  · simp only [h, not_false_eq_true, if_false, if_true]
theorem c_ixChar {c : Nat} (hc : c < 127) : ev 97 0 [.ref 40, .int (nI c), .int 0, .int 5, .null, .null] [] H = some (some (.int (kIx c)), H) := by
  simp only [e97_0, e97_1, e97_2, e97_4, e97_5, (q_chr c hc).2]
  rw [show ev 97 7 [.ref 40, .int (nI c), .int 0, .int 5, .int (nI c), .int 0] [] H = ev 97 7 [.ref 40, .int (nI c), .int 0, .int 5, .int (nI c), .int (nI 0)] [] H from rfl, i160 (by decide), i160 (by decide), i160 (by decide), i160 (by decide), i160 (by decide), e97_7]
  simp only [e97_0, e97_1, e97_2, e97_4, e97_5, e97_9, e97_10, e97_13, e97_14, e97_16, e97_17, e97_19, e97_22, e97_24, e97_25, e97_28, e97_31, e97_32, show (5 : Int32) = nI 5 from rfl, Std.le_refl, if_true]
  unfold kIx
  have e : ∀ a, a < 2147483648 → ((nI a : Int32) = nI c) = (c = a) := fun a ha => by rw [q_eq ha (by omega)]; exact propext eq_comm
  simp only [show kbs.getD 0 0 = nI 112 from rfl, show kbs.getD (0 + 1) 0 = nI 115 from rfl, show kbs.getD (0 + 1 + 1) 0 = nI 102 from rfl, show kbs.getD (0 + 1 + 1 + 1) 0 = nI 100 from rfl, show kbs.getD (0 + 1 + 1 + 1 + 1) 0 = nI 99 from rfl, e 112 (by decide), e 115 (by decide), e 102 (by decide), e 100 (by decide), e 99 (by decide)]
  by_cases h1 : c = 112
  · simp only [h1, if_true]; rfl
  by_cases h2 : c = 115
  · simp only [h1, h2, if_true, if_false]; rfl
  by_cases h3 : c = 102
  · simp only [h1, h2, h3, if_true, if_false]; rfl
  by_cases h4 : c = 100
  · simp only [h1, h2, h3, h4, if_true, if_false]; rfl
  by_cases h5 : c = 99
  · simp only [h1, h2, h3, h4, h5, if_true, if_false]; rfl
  · simp only [h1, h2, h3, h4, h5, if_false]
theorem c_canEnc {c : Nat} (hc : c < 127) : ev 95 0 [.int (nI c)] [] H = some (some (.int 1), H) := by
  simp only [e95_0, e95_1, e95_4, e95_5, e95_8, e95_11, e95_12, e95_15, e95_16, q_lt0 (show c < 2147483648 by omega), if_false, show (255 : Int32) = nI 255 from rfl, q_lt (show 255 < 2147483648 by decide) (show c < 2147483648 by omega), show ¬ 255 < c by omega, or_true, if_true]
theorem c_ixL {c : Nat} (hc : c < 127) : ev 96 0 [.ref 40, .int (nI c), .int 0, .int 5] [] H = some (some (.int (kIx c)), H) := by
  simp only [e96_0, e96_1, e96_4, e96_7, e96_8, e96_9, e96_10, e96_11, e96_14, e96_15, e96_16, e96_17, e96_18, e96_21, e96_22, e96_23, e96_24, e96_27, e96_28, e96_29, e96_30, e96_31, e96_32, e96_33, e96_36, c_canEnc hc, q_bs, q_tl, q_cn, show ((1 : Int32) = 0) = False from eq_false (by decide), not_false_eq_true, if_true, show ((0 : Int32) < 0) = False from eq_false (by decide), show ((5 : Int32) < 5) = False from eq_false (by decide), show ((0 : Int32) < 5) = True from eq_true (by decide), if_false, c_ixChar hc]
theorem c_isLat : ev 94 0 [.ref 39] [] H = some (some (.int 1), H) := by
  simp only [e94_0, e94_3, e94_6, e94_7, e94_10, e94_13, e94_14, e94_17, e94_18, show ((1 : Int32) = 0) = False from eq_false (by decide), if_false, not_true_eq_false, or_true, if_true]
theorem c_coder : ev 93 0 [.ref 39] [] H = some (some (.int 0), H) := by
  simp only [e93_0, e93_3, e93_6, e93_7, e93_10, e93_13, e93_14, show ((1 : Int32) = 0) = False from eq_false (by decide), if_false, if_true]
theorem c_slen : ev 90 0 [.ref 39] [] H = some (some (.int 5), H) := by
  simp only [e90_0, e90_1, e90_4, e90_5, e90_6, e90_9, e90_10, c_coder, q_bs, q_tl, q_cn]
  rfl
theorem c_indexOf {c : Nat} (hc : c < 127) : ev 91 0 [.ref 39, .int (nI c)] [] H = some (some (.int (kIx c)), H) := by
  have h2 : ev 92 0 [.ref 39, .int (nI c), .int 0] [] H = some (some (.int (kIx c)), H) := by
    simp only [e92_0, e92_1, e92_4, e92_7, e92_8, e92_11, e92_12, e92_13, e92_14, e92_17, e92_20, e92_23, e92_24, e92_27, e92_28, e92_29, e92_30, e92_36, c_isLat, c_slen, q_bs, q_tl, q_cn, show ((1 : Int32) = 0) = False from eq_false (by decide), if_false, c_ixL hc]
  simp only [e91_0, e91_1, e91_2, e91_3, e91_6, h2, q_bs, q_tl, q_cn]
/-- what may stand at a place -/
def qB (j c : Nat) : Bool := decide (j < 19) && (if j % 4 = 0 then decide (c = 112 ∨ c = 115 ∨ c = 102 ∨ c = 100 ∨ c = 99) else if j % 4 = 1 then decide (48 ≤ c ∧ c ≤ 57) else if j % 4 = 2 then decide (48 ≤ c ∧ c < 54) else decide (c = 44))
theorem kIx_lt (c : Nat) : (kIx c < 0) = ¬ (c = 112 ∨ c = 115 ∨ c = 102 ∨ c = 100 ∨ c = 99) := by
  unfold kIx
  by_cases h1 : c = 112
  · simp [h1]
  by_cases h2 : c = 115
  · simp [h2]
  by_cases h3 : c = 102
  · simp [h3]
  by_cases h4 : c = 100
  · simp [h4]
  by_cases h5 : c = 99
  · simp [h5]
  · simp [h1, h2, h3, h4, h5]
theorem c_belongs {j c : Nat} (hj : j < 20) (hc : c < 127) : ev 34 0 [.int (nI j), .int (nI c)] [] H = some (some (.int (if qB j c = true then 1 else 0)), H) := by
  have z1 : ((1 : Int32) = 0 ∨ (1 : Int32) = 1) = True := eq_true (Or.inr rfl)
  have z0 : ((0 : Int32) = 0 ∨ (0 : Int32) = 1) = True := eq_true (Or.inl rfl)
  have z4 : ((4 : Int32) = 0) = False := eq_false (by decide)
  have hl : ∀ a, a < 2147483648 → (nI c < nI a) = (c < a) := fun a ha => q_lt (by omega) ha
  have hg : ∀ a, a < 2147483648 → (nI a < nI c) = (a < c) := fun a ha => q_lt ha (by omega)
  have hge : ∀ a, a < 2147483648 → (nI a ≤ nI c) = (a ≤ c) := fun a ha => q_le ha (by omega)
  have he : ∀ a, a < 2147483648 → (nI c = nI a) = (c = a) := fun a ha => q_eq (by omega) ha
  unfold qB
  by_cases h19 : j < 19
  · rcases (show j % 4 = 0 ∨ j % 4 = 1 ∨ j % 4 = 2 ∨ j % 4 = 3 by omega) with h4 | h4 | h4 | h4
    · simp only [e34_0, e34_1, e34_3, e34_6, e34_7, e34_8, e34_9, e34_10, e34_11_0, e34_11_1, e34_11_2, e34_11_d, e34_36, e34_38, e34_39, e34_40, e34_43, e34_46, e34_47, e34_50, e34_51, e34_52, e34_53, e34_55, e34_58, e34_59, e34_61, e34_64, e34_65, e34_68, e34_69, e34_70, e34_71, e34_73, e34_76, e34_77, e34_79, e34_82, e34_83, e34_86, e34_87, e34_88, e34_89, e34_91, e34_94, e34_95, e34_98, e34_99, show (19 : Int32) = nI 19 from rfl, q_lt (show j < 2147483648 by omega) (show 19 < 2147483648 by decide), h19, if_true, z4, if_false, q_rem4 (show j < 2147483648 by omega), h4, show nI 0 = (0 : Int32) from rfl, (q_chr c hc).1, c_indexOf hc, q_bs, q_tl, q_cn, kIx_lt]
      by_cases h : c = 112 ∨ c = 115 ∨ c = 102 ∨ c = 100 ∨ c = 99
      · simp only [h, not_true_eq_false, if_false, or_true, if_true, decide_true, Bool.and_self]
      · simp only [h, not_false_eq_true, if_false, true_or, if_true, decide_true, decide_false, Bool.and_false, Bool.false_eq_true]
    · simp only [e34_0, e34_1, e34_3, e34_6, e34_7, e34_8, e34_9, e34_10, e34_11_0, e34_11_1, e34_11_2, e34_11_d, e34_36, e34_38, e34_39, e34_40, e34_43, e34_46, e34_47, e34_50, e34_51, e34_52, e34_53, e34_55, e34_58, e34_59, e34_61, e34_64, e34_65, e34_68, e34_69, e34_70, e34_71, e34_73, e34_76, e34_77, e34_79, e34_82, e34_83, e34_86, e34_87, e34_88, e34_89, e34_91, e34_94, e34_95, e34_98, e34_99, show (19 : Int32) = nI 19 from rfl, q_lt (show j < 2147483648 by omega) (show 19 < 2147483648 by decide), h19, if_true, z4, if_false, q_rem4 (show j < 2147483648 by omega), h4, show nI 1 = (1 : Int32) from rfl, show (48 : Int32) = nI 48 from rfl, show (57 : Int32) = nI 57 from rfl, hl 48 (by decide), hg 57 (by decide), z0, z1, Nat.one_ne_zero]
      by_cases h1 : c < 48
      · simp [h1, show ¬ 48 ≤ c by omega]
      · by_cases h2 : 57 < c
        · simp [h1, h2, show ¬ c ≤ 57 by omega]
        · simp [h1, h2, show 48 ≤ c by omega, show c ≤ 57 by omega]
    · simp only [e34_0, e34_1, e34_3, e34_6, e34_7, e34_8, e34_9, e34_10, e34_11_0, e34_11_1, e34_11_2, e34_11_d, e34_36, e34_38, e34_39, e34_40, e34_43, e34_46, e34_47, e34_50, e34_51, e34_52, e34_53, e34_55, e34_58, e34_59, e34_61, e34_64, e34_65, e34_68, e34_69, e34_70, e34_71, e34_73, e34_76, e34_77, e34_79, e34_82, e34_83, e34_86, e34_87, e34_88, e34_89, e34_91, e34_94, e34_95, e34_98, e34_99, show (19 : Int32) = nI 19 from rfl, q_lt (show j < 2147483648 by omega) (show 19 < 2147483648 by decide), h19, if_true, z4, if_false, q_rem4 (show j < 2147483648 by omega), h4, show nI 2 = (2 : Int32) from rfl, show (48 : Int32) = nI 48 from rfl, show (54 : Int32) = nI 54 from rfl, hl 48 (by decide), hge 54 (by decide), z0, z1]
      by_cases h1 : c < 48
      · simp [h1, show ¬ 48 ≤ c by omega]
      · by_cases h2 : 54 ≤ c
        · simp [h1, h2, show ¬ c < 54 by omega]
        · simp [h1, h2, show 48 ≤ c by omega, show c < 54 by omega]
    · simp only [e34_0, e34_1, e34_3, show (19 : Int32) = nI 19 from rfl, q_lt (show j < 2147483648 by omega) (show 19 < 2147483648 by decide), h19, if_true]
      simp only [e34_8, e34_9, e34_10, z4, if_false, q_rem4 (show j < 2147483648 by omega), h4]
      rw [e34_11_d _ _ _ _ (Or.inr (by decide))]
      simp only [e34_88, e34_89, e34_91, e34_94, e34_95, e34_98, e34_99, show (44 : Int32) = nI 44 from rfl, he 44 (by decide), z0, z1, if_true]
      by_cases h1 : c = 44
      · simp [h1]
      · simp [h1]
  · simp only [e34_0, e34_1, e34_3, e34_6, e34_7, show (19 : Int32) = nI 19 from rfl, q_lt (show j < 2147483648 by omega) (show 19 < 2147483648 by decide), h19, if_false, true_or, if_true, decide_false, Bool.false_and, Bool.false_eq_true]
/-- a page of n letters -/
def pR (H : kH) (n : Nat) (g : Nat → Nat) : Prop := hI H 3 1 = nI n ∧ n ≤ 20 ∧ ∀ j, j < n → hI H 18 j = nI (g j) ∧ g j < 127
/-- the first wrong place from j on, i more places to look at -/
def qW (g : Nat → Nat) : Nat → Nat → Nat
  | 0, j => j
  | i + 1, j => if qB j (g j) = true then qW g i (j + 1) else j
theorem qW_le (g : Nat → Nat) : ∀ i j, j ≤ qW g i j ∧ qW g i j ≤ j + i
  | 0, j => ⟨Nat.le_refl _, Nat.le_refl _⟩
  | i + 1, j => by
    obtain ⟨h1, h2⟩ := qW_le g i (j + 1)
    unfold qW
    split <;> omega
variable {n : Nat} {g : Nat → Nat}
theorem c_codeAt (hP : pR H n g) {j : Nat} (hj : j < n) : ev 26 0 [.ref 3, .int (nI j)] [] H = some (some (.int (nI (g j))), H) := by
  have := hP.2.1
  simp only [e26_0, e26_1, e26_4, e26_5, e26_8, c_at (show shp 18 = (1, 20) from rfl) (by decide), q_bs, q_tl, q_cn, pAt_in (show j < 20 by omega) (show 20 < 2147483648 by decide), (hP.2.2 j hj).1]
theorem l_firstWrong (hP : pR H n g) : ∀ i j, j + i = n → ev 29 2 [.ref 3, .int (nI j)] [] H = some (some (.int (nI (qW g i j))), H) := by
  have h20 := hP.2.1
  intro i
  induction i with
  | zero =>
    intro j hj
    have : j = n := by omega
    subst this
    rw [e29_2]
    simp only [e29_0, e29_1, e29_3, e29_4, e29_7, e29_10, e29_11, e29_12, e29_13, e29_16, e29_19, e29_22, e29_25, e29_28, e29_29, hP.1, Std.le_refl, if_true, qW]
  | succ i ih =>
    intro j hj
    rw [e29_2]
    unfold qW
    cases hb : qB j (g j) with
    | true =>
      simp only [e29_0, e29_1, e29_3, e29_4, e29_7, e29_10, e29_11, e29_12, e29_13, e29_16, e29_19, e29_22, e29_25, e29_28, e29_29, hP.1, q_le (show n < 2147483648 by omega) (show j < 2147483648 by omega), show ¬ n ≤ j by omega, if_false, c_codeAt hP (show j < n by omega), c_belongs (show j < 20 by omega) (hP.2.2 j (by omega)).2, hb, q_bs, q_tl, q_cn, if_true, show ¬ (1 : Int32) = 0 by decide, nI_1, ih (j + 1) (by omega)]
    | false =>
      simp only [e29_0, e29_1, e29_3, e29_4, e29_7, e29_10, e29_11, e29_12, e29_13, e29_16, e29_19, e29_22, e29_25, e29_28, e29_29, hP.1, q_le (show n < 2147483648 by omega) (show j < 2147483648 by omega), show ¬ n ≤ j by omega, if_false, c_codeAt hP (show j < n by omega), c_belongs (show j < 20 by omega) (hP.2.2 j (by omega)).2, hb, q_bs, q_tl, q_cn, if_true, Bool.false_eq_true]
theorem c_firstWrong (hP : pR H n g) : ev 29 0 [.ref 3, .null] [] H = some (some (.int (nI (qW g n 0))), H) := by
  simp only [e29_0, e29_1]
  exact l_firstWrong hP n 0 (by omega)
/-- how many councillors a page tells -/
def qCS (n : Nat) (g : Nat → Nat) : Nat := if n % 4 = 3 ∧ qW g n 0 = n ∧ 11 ≤ n then n / 4 + 1 else 0
theorem c_cSeats (hP : pR H n g) : ev 30 0 [.ref 3, .null, .null] [] H = some (some (.int (nI (qCS n g))), H) := by
  have h20 := hP.2.1
  obtain ⟨-, hw⟩ := qW_le g n 0
  have z4 : (nI 4 = 0) = False := eq_false (by decide)
  have hd : nI (n + 1) / nI 4 = nI ((n + 1) / 4) := pk_div (d := 4) (by omega) (by decide) (by decide)
  simp only [e30_0, e30_1, e30_4, e30_5, e30_6, e30_7, e30_8, e30_9, e30_10, e30_13, e30_14, e30_15, e30_16, e30_17, e30_18, e30_21, e30_22, e30_25, e30_26, e30_29, e30_32, e30_33, e30_36, e30_37, e30_38, e30_39, e30_42, e30_43, e30_44, e30_47, e30_48, e30_51, e30_52, hP.1, nI_1, z4, if_false, hd, show (4 : Int32) = nI 4 from rfl, q_mul, c_firstWrong hP, q_bs, q_tl, q_cn, q_eq (show qW g n 0 < 2147483648 by omega) (show n < 2147483648 by omega), show (3 : Int32) = nI 3 from rfl, q_lt (show (n + 1) / 4 < 2147483648 by omega) (show 3 < 2147483648 by decide)]
  have hm : (nI n = nI ((n + 1) / 4 * 4) - 1) = (n % 4 = 3) := by
    apply propext
    constructor
    · intro h
      have h1 : nI (n + 1) = nI ((n + 1) / 4 * 4) := by
        rw [nI_succ, h]
        exact Int32.sub_add_cancel _ _
      rw [q_eq (by omega) (by omega)] at h1
      omega
    · intro h
      have h1 : (n + 1) / 4 * 4 = n + 1 := by omega
      rw [h1, nI_succ]
      exact (Int32.add_sub_cancel _ _).symm
  simp only [hm]
  unfold qCS
  have z1 : ((1 : Int32) = 0) = False := eq_false (by decide)
  by_cases a1 : n % 4 = 3
  · by_cases a2 : qW g n 0 = n
    · by_cases a3 : 11 ≤ n
      · simp only [a1, a2, a3, not_true_eq_false, if_false, z1, show (n + 1) / 4 = n / 4 + 1 by omega, show ¬ n / 4 + 1 < 3 by omega, and_self, if_true]
      · simp only [a1, a2, a3, not_true_eq_false, if_false, z1, show (n + 1) / 4 < 3 by omega, and_false, if_true]
        rfl
    · simp only [a1, a2, not_true_eq_false, not_false_eq_true, if_false, and_false, false_and, if_true]
      rfl
  · simp only [a1, not_false_eq_true, if_false, false_and, if_true]
    rfl
end KPG
