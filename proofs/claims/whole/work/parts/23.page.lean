/-! the text, the page -/
def kIx (c : Nat) : Int32 := if c = 112 then 0 else if c = 115 then 1 else if c = 102 then 2 else if c = 100 then 3 else if c = 99 then 4 else -1
theorem q_chr : ∀ c, c < 127 → ((nI c).toUInt32 % 65536).toInt32 = nI c ∧ (nI c).toInt8.toInt32 = nI c := by decide +kernel
theorem q_rem4 {a : Nat} (h : a < 2147483648) : nI a - nI a / 4 * 4 = nI (a % 4) := pk_rem (a := a) (d := 4) h (by decide) (by decide)
section KPG
variable {H : kH}
theorem i160 {c j : Nat} (hj : j < 5) : ev 160 7 [.ref 40, .int (nI c), .int 0, .int 5, .int (nI c), .int (nI j)] [] H = if kbs.getD j 0 = nI c then some (some (.int (nI j)), H) else ev 160 7 [.ref 40, .int (nI c), .int 0, .int 5, .int (nI c), .int (nI (j + 1))] [] H := by
  rw [e160_7]
  simp only [e160_0, e160_1, e160_2, e160_4, e160_5, e160_9, e160_10, e160_13, e160_14, e160_16, e160_17, e160_19, e160_22, e160_24, e160_25, e160_28, e160_31, e160_32, show (5 : Int32) = nI 5 from rfl, q_le (show 5 < 2147483648 by decide) (show j < 2147483648 by omega), show ¬ 5 ≤ j by omega, if_false, q_lt0 (show j < 2147483648 by omega), q_cl (show j < 2147483648 by omega), or_false, nI_1]
  by_cases h : kbs.getD j 0 = nI c
  · simp only [h, not_true_eq_false, if_false, if_true]
  · simp only [h, not_false_eq_true, if_false, if_true]
theorem c_ixChar {c : Nat} (hc : c < 127) : ev 160 0 [.ref 40, .int (nI c), .int 0, .int 5, .null, .null] [] H = some (some (.int (kIx c)), H) := by
  simp only [e160_0, e160_1, e160_2, e160_4, e160_5, (q_chr c hc).2]
  rw [show ev 160 7 [.ref 40, .int (nI c), .int 0, .int 5, .int (nI c), .int 0] [] H = ev 160 7 [.ref 40, .int (nI c), .int 0, .int 5, .int (nI c), .int (nI 0)] [] H from rfl, i160 (by decide), i160 (by decide), i160 (by decide), i160 (by decide), i160 (by decide), e160_7]
  simp only [e160_0, e160_1, e160_2, e160_4, e160_5, e160_9, e160_10, e160_13, e160_14, e160_16, e160_17, e160_19, e160_22, e160_24, e160_25, e160_28, e160_31, e160_32, show (5 : Int32) = nI 5 from rfl, Std.le_refl, if_true]
  unfold kIx
  have e : ∀ a, a < 2147483648 → ((nI a : Int32) = nI c) = (c = a) := fun a ha => by rw [q_eq ha (by omega)]; exact propext eq_comm
  simp only [show kbs.getD 0 0 = nI 112 from rfl, show kbs.getD (0 + 1) 0 = nI 115 from rfl, show kbs.getD (0 + 1 + 1) 0 = nI 102 from rfl, show kbs.getD (0 + 1 + 1 + 1) 0 = nI 100 from rfl, show kbs.getD (0 + 1 + 1 + 1 + 1) 0 = nI 99 from rfl, e 112 (by decide), e 115 (by decide), e 102 (by decide), e 100 (by decide), e 99 (by decide)]
  by_cases h1 : c = 112
  · simp only [h1, if_true]; rfl
  by_cases h2 : c = 115
  · simp only [h1, h2, if_true, if_false]; rfl
  by_cases h3 : c = 102
  · simp only [h1, h2, h3, if_true, if_false]; rfl
  by_cases h4 : c = 100
  · simp only [h1, h2, h3, h4, if_true, if_false]; rfl
  by_cases h5 : c = 99
  · simp only [h1, h2, h3, h4, h5, if_true, if_false]; rfl
  · simp only [h1, h2, h3, h4, h5, if_false]
theorem c_canEnc {c : Nat} (hc : c < 127) : ev 158 0 [.int (nI c)] [] H = some (some (.int 1), H) := by
  simp only [e158_0, e158_1, e158_4, e158_5, e158_8, e158_11, e158_12, e158_15, e158_16, q_lt0 (show c < 2147483648 by omega), if_false, show (255 : Int32) = nI 255 from rfl, q_lt (show 255 < 2147483648 by decide) (show c < 2147483648 by omega), show ¬ 255 < c by omega, or_true, if_true]
theorem c_ixL {c : Nat} (hc : c < 127) : ev 159 0 [.ref 40, .int (nI c), .int 0, .int 5] [] H = some (some (.int (kIx c)), H) := by
  simp only [e159_0, e159_1, e159_4, e159_7, e159_8, e159_9, e159_10, e159_11, e159_14, e159_15, e159_16, e159_17, e159_18, e159_21, e159_22, e159_23, e159_24, e159_27, e159_28, e159_29, e159_30, e159_31, e159_32, e159_33, e159_36, c_canEnc hc, q_bs, q_tl, q_cn, show ((1 : Int32) = 0) = False from eq_false (by decide), not_false_eq_true, if_true, show ((0 : Int32) < 0) = False from eq_false (by decide), show ((5 : Int32) < 5) = False from eq_false (by decide), show ((0 : Int32) < 5) = True from eq_true (by decide), if_false, c_ixChar hc]
theorem c_isLat : ev 157 0 [.ref 39] [] H = some (some (.int 1), H) := by
  simp only [e157_0, e157_3, e157_6, e157_7, e157_10, e157_13, e157_14, e157_17, e157_18, show ((1 : Int32) = 0) = False from eq_false (by decide), if_false, not_true_eq_false, or_true, if_true]
theorem c_coder : ev 156 0 [.ref 39] [] H = some (some (.int 0), H) := by
  simp only [e156_0, e156_3, e156_6, e156_7, e156_10, e156_13, e156_14, show ((1 : Int32) = 0) = False from eq_false (by decide), if_false, if_true]
theorem c_slen : ev 153 0 [.ref 39] [] H = some (some (.int 5), H) := by
  simp only [e153_0, e153_1, e153_4, e153_5, e153_6, e153_9, e153_10, c_coder, q_bs, q_tl, q_cn]
  rfl
theorem c_indexOf {c : Nat} (hc : c < 127) : ev 154 0 [.ref 39, .int (nI c)] [] H = some (some (.int (kIx c)), H) := by
  have h2 : ev 155 0 [.ref 39, .int (nI c), .int 0] [] H = some (some (.int (kIx c)), H) := by
    simp only [e155_0, e155_1, e155_4, e155_7, e155_8, e155_11, e155_12, e155_13, e155_14, e155_17, e155_20, e155_23, e155_24, e155_27, e155_28, e155_29, e155_30, e155_36, c_isLat, c_slen, q_bs, q_tl, q_cn, show ((1 : Int32) = 0) = False from eq_false (by decide), if_false, c_ixL hc]
  simp only [e154_0, e154_1, e154_2, e154_3, e154_6, h2, q_bs, q_tl, q_cn]
/-- what may stand at a place -/
def qB (j c : Nat) : Bool := decide (j < 19) && (if j % 4 = 0 then decide (c = 112 ∨ c = 115 ∨ c = 102 ∨ c = 100 ∨ c = 99) else if j % 4 = 1 then decide (48 ≤ c ∧ c ≤ 57) else if j % 4 = 2 then decide (48 ≤ c ∧ c < 54) else decide (c = 44))
theorem kIx_lt (c : Nat) : (kIx c < 0) = ¬ (c = 112 ∨ c = 115 ∨ c = 102 ∨ c = 100 ∨ c = 99) := by
  unfold kIx
  by_cases h1 : c = 112
  · simp [h1]
  by_cases h2 : c = 115
  · simp [h2]
  by_cases h3 : c = 102
  · simp [h3]
  by_cases h4 : c = 100
  · simp [h4]
  by_cases h5 : c = 99
  · simp [h5]
  · simp [h1, h2, h3, h4, h5]
theorem c_belongs {j c : Nat} (hj : j < 20) (hc : c < 127) : ev 38 0 [.int (nI j), .int (nI c)] [] H = some (some (.int (if qB j c = true then 1 else 0)), H) := by
  have z1 : ((1 : Int32) = 0 ∨ (1 : Int32) = 1) = True := eq_true (Or.inr rfl)
  have z0 : ((0 : Int32) = 0 ∨ (0 : Int32) = 1) = True := eq_true (Or.inl rfl)
  have z4 : ((4 : Int32) = 0) = False := eq_false (by decide)
  have hl : ∀ a, a < 2147483648 → (nI c < nI a) = (c < a) := fun a ha => q_lt (by omega) ha
  have hg : ∀ a, a < 2147483648 → (nI a < nI c) = (a < c) := fun a ha => q_lt ha (by omega)
  have hge : ∀ a, a < 2147483648 → (nI a ≤ nI c) = (a ≤ c) := fun a ha => q_le ha (by omega)
  have he : ∀ a, a < 2147483648 → (nI c = nI a) = (c = a) := fun a ha => q_eq (by omega) ha
  unfold qB
  by_cases h19 : j < 19
  · rcases (show j % 4 = 0 ∨ j % 4 = 1 ∨ j % 4 = 2 ∨ j % 4 = 3 by omega) with h4 | h4 | h4 | h4
    · simp only [e38_0, e38_1, e38_3, e38_6, e38_7, e38_8, e38_9, e38_10, e38_11_0, e38_11_1, e38_11_2, e38_11_d, e38_36, e38_38, e38_39, e38_40, e38_43, e38_46, e38_47, e38_50, e38_51, e38_52, e38_53, e38_55, e38_58, e38_59, e38_61, e38_64, e38_65, e38_68, e38_69, e38_70, e38_71, e38_73, e38_76, e38_77, e38_79, e38_82, e38_83, e38_86, e38_87, e38_88, e38_89, e38_91, e38_94, e38_95, e38_98, e38_99, show (19 : Int32) = nI 19 from rfl, q_lt (show j < 2147483648 by omega) (show 19 < 2147483648 by decide), h19, if_true, z4, if_false, q_rem4 (show j < 2147483648 by omega), h4, show nI 0 = (0 : Int32) from rfl, (q_chr c hc).1, c_indexOf hc, q_bs, q_tl, q_cn, kIx_lt]
      by_cases h : c = 112 ∨ c = 115 ∨ c = 102 ∨ c = 100 ∨ c = 99
      · simp only [h, not_true_eq_false, if_false, or_true, if_true, decide_true, Bool.and_self]
      · simp only [h, not_false_eq_true, if_false, true_or, if_true, decide_true, decide_false, Bool.and_false, Bool.false_eq_true]
    · simp only [e38_0, e38_1, e38_3, e38_6, e38_7, e38_8, e38_9, e38_10, e38_11_0, e38_11_1, e38_11_2, e38_11_d, e38_36, e38_38, e38_39, e38_40, e38_43, e38_46, e38_47, e38_50, e38_51, e38_52, e38_53, e38_55, e38_58, e38_59, e38_61, e38_64, e38_65, e38_68, e38_69, e38_70, e38_71, e38_73, e38_76, e38_77, e38_79, e38_82, e38_83, e38_86, e38_87, e38_88, e38_89, e38_91, e38_94, e38_95, e38_98, e38_99, show (19 : Int32) = nI 19 from rfl, q_lt (show j < 2147483648 by omega) (show 19 < 2147483648 by decide), h19, if_true, z4, if_false, q_rem4 (show j < 2147483648 by omega), h4, show nI 1 = (1 : Int32) from rfl, show (48 : Int32) = nI 48 from rfl, show (57 : Int32) = nI 57 from rfl, hl 48 (by decide), hg 57 (by decide), z0, z1, Nat.one_ne_zero]
      by_cases h1 : c < 48
      · simp [h1, show ¬ 48 ≤ c by omega]
      · by_cases h2 : 57 < c
        · simp [h1, h2, show ¬ c ≤ 57 by omega]
        · simp [h1, h2, show 48 ≤ c by omega, show c ≤ 57 by omega]
    · simp only [e38_0, e38_1, e38_3, e38_6, e38_7, e38_8, e38_9, e38_10, e38_11_0, e38_11_1, e38_11_2, e38_11_d, e38_36, e38_38, e38_39, e38_40, e38_43, e38_46, e38_47, e38_50, e38_51, e38_52, e38_53, e38_55, e38_58, e38_59, e38_61, e38_64, e38_65, e38_68, e38_69, e38_70, e38_71, e38_73, e38_76, e38_77, e38_79, e38_82, e38_83, e38_86, e38_87, e38_88, e38_89, e38_91, e38_94, e38_95, e38_98, e38_99, show (19 : Int32) = nI 19 from rfl, q_lt (show j < 2147483648 by omega) (show 19 < 2147483648 by decide), h19, if_true, z4, if_false, q_rem4 (show j < 2147483648 by omega), h4, show nI 2 = (2 : Int32) from rfl, show (48 : Int32) = nI 48 from rfl, show (54 : Int32) = nI 54 from rfl, hl 48 (by decide), hge 54 (by decide), z0, z1]
      by_cases h1 : c < 48
      · simp [h1, show ¬ 48 ≤ c by omega]
      · by_cases h2 : 54 ≤ c
        · simp [h1, h2, show ¬ c < 54 by omega]
        · simp [h1, h2, show 48 ≤ c by omega, show c < 54 by omega]
    · simp only [e38_0, e38_1, e38_3, show (19 : Int32) = nI 19 from rfl, q_lt (show j < 2147483648 by omega) (show 19 < 2147483648 by decide), h19, if_true]
      simp only [e38_8, e38_9, e38_10, z4, if_false, q_rem4 (show j < 2147483648 by omega), h4]
      rw [e38_11_d _ _ _ _ (Or.inr (by decide))]
      simp only [e38_88, e38_89, e38_91, e38_94, e38_95, e38_98, e38_99, show (44 : Int32) = nI 44 from rfl, he 44 (by decide), z0, z1, if_true]
      by_cases h1 : c = 44
      · simp [h1]
      · simp [h1]
  · simp only [e38_0, e38_1, e38_3, e38_6, e38_7, show (19 : Int32) = nI 19 from rfl, q_lt (show j < 2147483648 by omega) (show 19 < 2147483648 by decide), h19, if_false, true_or, if_true, decide_false, Bool.false_and, Bool.false_eq_true]
/-- a page of n letters -/
def pR (H : kH) (n : Nat) (g : Nat → Nat) : Prop := hI H 3 1 = nI n ∧ n ≤ 20 ∧ ∀ j, j < n → hI H 18 j = nI (g j) ∧ g j < 127
/-- the first wrong place from j on, i more places to look at -/
def qW (g : Nat → Nat) : Nat → Nat → Nat
  | 0, j => j
  | i + 1, j => if qB j (g j) = true then qW g i (j + 1) else j
theorem qW_le (g : Nat → Nat) : ∀ i j, j ≤ qW g i j ∧ qW g i j ≤ j + i
  | 0, j => ⟨Nat.le_refl _, Nat.le_refl _⟩
  | i + 1, j => by
    obtain ⟨h1, h2⟩ := qW_le g i (j + 1)
    unfold qW
    split <;> omega
variable {n : Nat} {g : Nat → Nat}
theorem c_codeAt (hP : pR H n g) {j : Nat} (hj : j < n) : ev 30 0 [.ref 3, .int (nI j)] [] H = some (some (.int (nI (g j))), H) := by
  have := hP.2.1
  simp only [e30_0, e30_1, e30_4, e30_5, e30_8, c_at (show shp 18 = (1, 20) from rfl) (by decide), q_bs, q_tl, q_cn, pAt_in (show j < 20 by omega) (show 20 < 2147483648 by decide), (hP.2.2 j hj).1]
theorem l_firstWrong (hP : pR H n g) : ∀ i j, j + i = n → ev 33 2 [.ref 3, .int (nI j)] [] H = some (some (.int (nI (qW g i j))), H) := by
  have h20 := hP.2.1
  intro i
  induction i with
  | zero =>
    intro j hj
    have : j = n := by omega
    subst this
    rw [e33_2]
    simp only [e33_0, e33_1, e33_3, e33_4, e33_7, e33_10, e33_11, e33_12, e33_13, e33_16, e33_19, e33_22, e33_25, e33_28, e33_29, hP.1, Std.le_refl, if_true, qW]
  | succ i ih =>
    intro j hj
    rw [e33_2]
    unfold qW
    cases hb : qB j (g j) with
    | true =>
      simp only [e33_0, e33_1, e33_3, e33_4, e33_7, e33_10, e33_11, e33_12, e33_13, e33_16, e33_19, e33_22, e33_25, e33_28, e33_29, hP.1, q_le (show n < 2147483648 by omega) (show j < 2147483648 by omega), show ¬ n ≤ j by omega, if_false, c_codeAt hP (show j < n by omega), c_belongs (show j < 20 by omega) (hP.2.2 j (by omega)).2, hb, q_bs, q_tl, q_cn, if_true, show ¬ (1 : Int32) = 0 by decide, nI_1, ih (j + 1) (by omega)]
    | false =>
      simp only [e33_0, e33_1, e33_3, e33_4, e33_7, e33_10, e33_11, e33_12, e33_13, e33_16, e33_19, e33_22, e33_25, e33_28, e33_29, hP.1, q_le (show n < 2147483648 by omega) (show j < 2147483648 by omega), show ¬ n ≤ j by omega, if_false, c_codeAt hP (show j < n by omega), c_belongs (show j < 20 by omega) (hP.2.2 j (by omega)).2, hb, q_bs, q_tl, q_cn, if_true, Bool.false_eq_true]
theorem c_firstWrong (hP : pR H n g) : ev 33 0 [.ref 3, .null] [] H = some (some (.int (nI (qW g n 0))), H) := by
  simp only [e33_0, e33_1]
  exact l_firstWrong hP n 0 (by omega)
/-- how many councillors a page tells -/
def qCS (n : Nat) (g : Nat → Nat) : Nat := if n % 4 = 3 ∧ qW g n 0 = n ∧ 11 ≤ n then n / 4 + 1 else 0
theorem c_cSeats (hP : pR H n g) : ev 34 0 [.ref 3, .null, .null] [] H = some (some (.int (nI (qCS n g))), H) := by
  have h20 := hP.2.1
  obtain ⟨-, hw⟩ := qW_le g n 0
  have z4 : (nI 4 = 0) = False := eq_false (by decide)
  have hd : nI (n + 1) / nI 4 = nI ((n + 1) / 4) := pk_div (d := 4) (by omega) (by decide) (by decide)
  simp only [e34_0, e34_1, e34_4, e34_5, e34_6, e34_7, e34_8, e34_9, e34_10, e34_13, e34_14, e34_15, e34_16, e34_17, e34_18, e34_21, e34_22, e34_25, e34_26, e34_29, e34_32, e34_33, e34_36, e34_37, e34_38, e34_39, e34_42, e34_43, e34_44, e34_47, e34_48, e34_51, e34_52, hP.1, nI_1, z4, if_false, hd, show (4 : Int32) = nI 4 from rfl, q_mul, c_firstWrong hP, q_bs, q_tl, q_cn, q_eq (show qW g n 0 < 2147483648 by omega) (show n < 2147483648 by omega), show (3 : Int32) = nI 3 from rfl, q_lt (show (n + 1) / 4 < 2147483648 by omega) (show 3 < 2147483648 by decide)]
  have hm : (nI n = nI ((n + 1) / 4 * 4) - 1) = (n % 4 = 3) := by
    apply propext
    constructor
    · intro h
      have h1 : nI (n + 1) = nI ((n + 1) / 4 * 4) := by
        rw [nI_succ, h]
        exact Int32.sub_add_cancel _ _
      rw [q_eq (by omega) (by omega)] at h1
      omega
    · intro h
      have h1 : (n + 1) / 4 * 4 = n + 1 := by omega
      rw [h1, nI_succ]
      exact (Int32.add_sub_cancel _ _).symm
  simp only [hm]
  unfold qCS
  have z1 : ((1 : Int32) = 0) = False := eq_false (by decide)
  by_cases a1 : n % 4 = 3
  · by_cases a2 : qW g n 0 = n
    · by_cases a3 : 11 ≤ n
      · simp only [a1, a2, a3, not_true_eq_false, if_false, z1, show (n + 1) / 4 = n / 4 + 1 by omega, show ¬ n / 4 + 1 < 3 by omega, and_self, if_true]
      · simp only [a1, a2, a3, not_true_eq_false, if_false, z1, show (n + 1) / 4 < 3 by omega, and_false, if_true]
        rfl
    · simp only [a1, a2, not_true_eq_false, not_false_eq_true, if_false, and_false, false_and, if_true]
      rfl
  · simp only [a1, not_false_eq_true, if_false, false_and, if_true]
    rfl
end KPG
