/-! a council, as numbers: seats, kinds, noses, laws, reigns, draught, pepper, laws that hold, hour, the book -/
abbrev kV : Type := Nat × (Nat → Nat) × (Nat → Nat) × (Nat → Nat) × (Nat → Int32) × Int32 × Int32 × Nat × Int32 × Nat × (Nat → Int32)
def vn (V : kV) : Nat := V.1
def vk (V : kV) : Nat → Nat := V.2.1
def vo (V : kV) : Nat → Nat := V.2.2.1
def vl (V : kV) : Nat → Nat := V.2.2.2.1
def vr (V : kV) : Nat → Int32 := V.2.2.2.2.1
def vd (V : kV) : Int32 := V.2.2.2.2.2.1
def vp (V : kV) : Int32 := V.2.2.2.2.2.2.1
def vh (V : kV) : Nat := V.2.2.2.2.2.2.2.1
def vt (V : kV) : Int32 := V.2.2.2.2.2.2.2.2.1
def vb (V : kV) : Nat := V.2.2.2.2.2.2.2.2.2.1
def vB (V : kV) : Nat → Int32 := V.2.2.2.2.2.2.2.2.2.2
def vOK (V : kV) : Prop := (vn V = 0 ∨ 3 ≤ vn V) ∧ vn V ≤ 5 ∧ (∀ j, j < vn V → vk V j < 5 ∧ vo V j ≤ 9 ∧ vl V j < 6) ∧ (vd V = -1 ∨ ∃ j, j < vn V ∧ vd V = nI j) ∧ (vp V = 0 ∨ vp V = 1) ∧ vh V < 64 ∧ vb V ≤ 5 ∧ ∀ j, j < vb V → vB V j = -1 ∨ ∃ t, t < 64 ∧ vB V j = nI t
/-- tenths, of a kind, a nose, with pepper, where the draught is, in an even hour, while sneezing is forbidden -/
def qT (kd no : Nat) (pp : Int32) (isD evn ban : Prop) [Decidable isD] [Decidable evn] [Decidable ban] : Nat :=
  if ban ∧ kd ≠ 4 then 0 else min 9 (no + (if isD then 2 else 0) + (if evn ∧ (kd = 2 ∨ kd = 4) then 1 else 0) + (if kd = 4 ∧ pp = 1 then 3 else 0))
def qEv (x : Int32) : Prop := x - x / 2 * 2 = 0
theorem qEv_dec (x : Int32) : qEv x ∨ ¬ qEv x := Classical.em _
def qEvb (x : Int32) : Bool := decide (x - x / 2 * 2 = 0)
def qtn (V : kV) (j : Nat) (num : Int32) (h : Nat) (dr : Int32) : Nat := qT (vk V j) (vo V j) (vp V) (nI j = dr) (qEvb num = true) (h.testBit 3 = true)
theorem qT_le (kd no : Nat) (pp : Int32) (isD evn ban : Prop) [Decidable isD] [Decidable evn] [Decidable ban] : qT kd no pp isD evn ban ≤ 9 := by
  unfold qT
  split
  · omega
  · omega
/-- the fold over the councillors that sneeze: how many, the last, how many deans, the last dean -/
def qF (kd : Nat → Nat) (s : Nat) : Nat → Nat × Int32 × Nat × Int32
  | 0 => (0, -1, 0, -1)
  | j + 1 => if s.testBit j = true then ((qF kd s j).1 + 1, nI j, (if kd j = 3 then (qF kd s j).2.2.1 + 1 else (qF kd s j).2.2.1), (if kd j = 3 then nI j else (qF kd s j).2.2.2)) else qF kd s j
theorem qF_le (kd : Nat → Nat) (s : Nat) : ∀ j, (qF kd s j).1 ≤ j ∧ (qF kd s j).2.2.1 ≤ (qF kd s j).1
  | 0 => ⟨Nat.le_refl _, Nat.le_refl _⟩
  | j + 1 => by
    obtain ⟨h1, h2⟩ := qF_le kd s j
    unfold qF
    split
    · refine ⟨by omega, ?_⟩
      dsimp only
      split <;> omega
    · exact ⟨by omega, h2⟩
theorem qF_one (kd : Nat → Nat) (s : Nat) : ∀ j, ((qF kd s j).1 = 0 → (qF kd s j).2.1 = -1) ∧ (0 < (qF kd s j).1 → ∃ c, c < j ∧ (qF kd s j).2.1 = nI c) ∧ ((qF kd s j).2.2.1 = 0 → (qF kd s j).2.2.2 = -1) ∧ (0 < (qF kd s j).2.2.1 → ∃ c, c < j ∧ (qF kd s j).2.2.2 = nI c)
  | 0 => ⟨fun _ => rfl, fun h => absurd h (Nat.lt_irrefl 0), fun _ => rfl, fun h => absurd h (Nat.lt_irrefl 0)⟩
  | j + 1 => by
    obtain ⟨h1, h2, h3, h4⟩ := qF_one kd s j
    unfold qF
    split
    · refine ⟨fun z => by dsimp only at z; omega, fun _ => ⟨j, by omega, rfl⟩, fun z => ?_, fun z => ?_⟩
      · dsimp only at z ⊢
        split at z
        · omega
        · rename_i hk
          rw [if_neg hk]
          exact h3 z
      · dsimp only at z ⊢
        split
        · exact ⟨j, by omega, rfl⟩
        · rename_i hk
          rw [if_neg hk] at z
          obtain ⟨c, hc, e⟩ := h4 z
          exact ⟨c, by omega, e⟩
    · refine ⟨h1, fun z => ?_, h3, fun z => ?_⟩
      · obtain ⟨c, hc, e⟩ := h2 z
        exact ⟨c, by omega, e⟩
      · obtain ⟨c, hc, e⟩ := h4 z
        exact ⟨c, by omega, e⟩
/-- the king of a set -/
def qK (kd : Nat → Nat) (n s : Nat) : Int32 :=
  if (qF kd s n).1 = 1 then (if kd (qF kd s n).2.1.toNatClampNeg = 1 then (if (qF kd s n).2.1.toNatClampNeg + 1 < n then nI ((qF kd s n).2.1.toNatClampNeg + 1) else nI 0) else (qF kd s n).2.1)
  else if (qF kd s n).2.2.1 = 1 then (qF kd s n).2.2.2 else -1
theorem qK_in (kd : Nat → Nat) (n s : Nat) (hn : n < 2147483648) : qK kd n s = -1 ∨ ∃ c, c < n ∧ qK kd n s = nI c := by
  obtain ⟨h1, h2, h3, h4⟩ := qF_one kd s n
  unfold qK
  split
  · rename_i e
    obtain ⟨c, hc, ec⟩ := h2 (by omega)
    right
    split
    · split
      · rename_i h
        exact ⟨_, h, rfl⟩
      · exact ⟨0, by omega, rfl⟩
    · exact ⟨c, hc, ec⟩
  · split
    · right
      exact h4 (by omega)
    · exact Or.inl rfl
/-- a law that is said -/
def qS (h l : Nat) : Nat := if l = 1 then (h / 4 * 4) + 2 else if l = 2 then (if h % 4 = 0 then h else h ||| 4) else if l = 4 then 16 else if l = 5 then (h &&& 23) ||| 32 else h ||| (1 <<< l)
theorem qS_lt : ∀ h, h < 64 → ∀ l, l < 6 → qS h l < 64 := by decide +kernel
/-- laws behind an hour in which a set sneezes -/
def qD (V : kV) (h s : Nat) : Nat := if qK (vk V) (vn V) s = -1 then h else qS h (vl V (qK (vk V) (vn V) s).toNatClampNeg)
/-! the class's council holds V -/
def cR (H : kH) (V : kV) : Prop := hI H 1 6 = nI (vn V) ∧ (∀ j, j < vn V → hI H 6 j = nI (vk V j)) ∧ (∀ j, j < vn V → hI H 7 j = nI (vo V j)) ∧ (∀ j, j < vn V → hI H 8 j = nI (vl V j)) ∧ (∀ j, j < vn V → hI H 9 j = vr V j) ∧ hI H 1 7 = vd V ∧ hI H 1 8 = vp V ∧ hI H 1 9 = nI (vh V) ∧ hI H 1 10 = vt V ∧ hI H 1 11 = nI (vb V) ∧ (∀ j, j < vb V → hI H 11 j = vB V j) ∧ (0 < vn V → ∀ s, s < 32 → hI H 10 s = qK (vk V) (vn V) s)
/-! small methods -/
theorem q_bit : ∀ s, s < 64 → ∀ j, j < 6 → ((nI s >>> (nI j &&& 31)) &&& 1 = 0) = (s.testBit j = false) ∧ ((nI s >>> (nI j &&& 31)) &&& 1 = 1) = (s.testBit j = true) := by
  have h : ∀ s, s < 64 → ∀ j, j < 6 → ((nI s >>> (nI j &&& 31)) &&& 1 = 0 ↔ s.testBit j = false) ∧ ((nI s >>> (nI j &&& 31)) &&& 1 = 1 ↔ s.testBit j = true) := by decide +kernel
  intro s hs j hj
  exact ⟨propext (h s hs j hj).1, propext (h s hs j hj).2⟩
theorem c_isIn {s j : Nat} (hs : s < 64) (hj : j < 6) (H : kH) : ev 62 0 [.int (nI s), .int (nI j)] [] H = some (some (.int (if s.testBit j = true then 1 else 0)), H) := by
  simp only [e62_0, e62_1, e62_2, e62_3, e62_4, e62_5, e62_8, e62_9, e62_12, e62_13]
  simp only [(q_bit s hs j hj).1]
  cases s.testBit j <;> rfl
section KCO
variable {H : kH} {V : kV}
theorem c_seats (hR : cR H V) : ev 1 0 [.ref 1] [] H = some (some (.int (nI (vn V))), H) := by
  simp only [e1_0, e1_1, e1_4, hR.1]
theorem c_seated (hR : cR H V) (i : Int32) : ev 2 0 [.ref 1, .int i] [] H = some (some (.int (if i < 0 ∨ nI (vn V) ≤ i then 0 else 1)), H) := by
  simp only [e2_0, e2_1, e2_4, e2_5, e2_6, e2_9, e2_12, e2_13, e2_16, e2_17, hR.1]
  by_cases h1 : i < 0
  · simp [h1]
  · by_cases h2 : nI (vn V) ≤ i
    · simp [h1, h2]
    · simp [h1, h2]
theorem c_seated_in (hR : cR H V) (hV : vOK V) {j : Nat} (hj : j < vn V) : ev 2 0 [.ref 1, .int (nI j)] [] H = some (some (.int 1), H) := by
  have := hV.2.1
  rw [c_seated hR, if_neg (q_in1 hj (by omega))]
theorem cR_k (hR : cR H V) {j : Nat} (hj : j < vn V) : hI H 6 j = nI (vk V j) := hR.2.1 j hj
theorem cR_o (hR : cR H V) {j : Nat} (hj : j < vn V) : hI H 7 j = nI (vo V j) := hR.2.2.1 j hj
theorem cR_l (hR : cR H V) {j : Nat} (hj : j < vn V) : hI H 8 j = nI (vl V j) := hR.2.2.2.1 j hj
theorem cR_r (hR : cR H V) {j : Nat} (hj : j < vn V) : hI H 9 j = vr V j := hR.2.2.2.2.1 j hj
theorem cR_d (hR : cR H V) : hI H 1 7 = vd V := hR.2.2.2.2.2.1
theorem cR_p (hR : cR H V) : hI H 1 8 = vp V := hR.2.2.2.2.2.2.1
theorem cR_h (hR : cR H V) : hI H 1 9 = nI (vh V) := hR.2.2.2.2.2.2.2.1
theorem cR_t (hR : cR H V) : hI H 1 10 = vt V := hR.2.2.2.2.2.2.2.2.1
theorem cR_b (hR : cR H V) : hI H 1 11 = nI (vb V) := hR.2.2.2.2.2.2.2.2.2.1
theorem cR_B (hR : cR H V) {j : Nat} (hj : j < vb V) : hI H 11 j = vB V j := hR.2.2.2.2.2.2.2.2.2.2.1 j hj
theorem cR_K (hR : cR H V) {s : Nat} (hs : s < 32) (hn : 0 < vn V) : hI H 10 s = qK (vk V) (vn V) s := hR.2.2.2.2.2.2.2.2.2.2.2 hn s hs
theorem c_kindOf (hR : cR H V) (hV : vOK V) {j : Nat} (hj : j < vn V) : ev 3 0 [.ref 1, .int (nI j)] [] H = some (some (.int (nI (vk V j))), H) := by
  have := hV.2.1
  simp only [e3_0, e3_1, e3_4, e3_5, e3_8, c_at (show shp 6 = (1, 5) from rfl) (by decide), q_bs, q_tl, q_cn, pAt_in (show j < 5 by omega) (show 5 < 2147483648 by decide), cR_k hR hj]
theorem c_noseOf (hR : cR H V) (hV : vOK V) {j : Nat} (hj : j < vn V) : ev 5 0 [.ref 1, .int (nI j)] [] H = some (some (.int (nI (vo V j))), H) := by
  have := hV.2.1
  simp only [e5_0, e5_1, e5_4, e5_5, e5_8, c_at (show shp 7 = (1, 5) from rfl) (by decide), q_bs, q_tl, q_cn, pAt_in (show j < 5 by omega) (show 5 < 2147483648 by decide), cR_o hR hj]
theorem c_sayingOf (hR : cR H V) (hV : vOK V) {j : Nat} (hj : j < vn V) : ev 7 0 [.ref 1, .int (nI j)] [] H = some (some (.int (nI (vl V j))), H) := by
  have := hV.2.1
  simp only [e7_0, e7_1, e7_4, e7_5, e7_8, c_at (show shp 8 = (1, 5) from rfl) (by decide), q_bs, q_tl, q_cn, pAt_in (show j < 5 by omega) (show 5 < 2147483648 by decide), cR_l hR hj]
theorem c_reignsOf (hR : cR H V) (hV : vOK V) {j : Nat} (hj : j < vn V) : ev 9 0 [.ref 1, .int (nI j)] [] H = some (some (.int (vr V j)), H) := by
  have := hV.2.1
  simp only [e9_0, e9_1, e9_4, e9_5, e9_8, c_at (show shp 9 = (1, 5) from rfl) (by decide), q_bs, q_tl, q_cn, pAt_in (show j < 5 by omega) (show 5 < 2147483648 by decide), cR_r hR hj]
theorem c_isKind1 {j a : Nat} (hj : j < 5) (he : hI H 6 j = nI a) (ha : a < 5) : ev 4 0 [.ref 1, .int (nI j), .int 1] [] H = some (some (.int (if a = 1 then 1 else 0)), H) := by
  simp only [e4_0, e4_1_1, e4_1_2, e4_1_3, e4_1_4, e4_1_d, e4_32, e4_33, e4_36, e4_37, e4_40, e4_41, e4_44, e4_45, e4_48, e4_49, e4_50, e4_51, e4_54, e4_55, e4_58, e4_59, e4_62, e4_63, e4_66, e4_67, e4_70, e4_71, e4_74, e4_75, e4_78, e4_79, e4_80, e4_81, c_at (show shp 6 = (1, 5) from rfl) (by decide), q_bs, q_tl, q_cn, pAt_in hj (show 5 < 2147483648 by decide), he]
  simp only [q_lit, q_eq (show a < 2147483648 by omega) (show 1 < 2147483648 by decide)]
  by_cases h : a = 1 <;> simp [h, q_lit]
theorem c_isKind3 {j a : Nat} (hj : j < 5) (he : hI H 6 j = nI a) (ha : a < 5) : ev 4 0 [.ref 1, .int (nI j), .int 3] [] H = some (some (.int (if a = 3 then 1 else 0)), H) := by
  simp only [e4_0, e4_1_1, e4_1_2, e4_1_3, e4_1_4, e4_1_d, e4_32, e4_33, e4_36, e4_37, e4_40, e4_41, e4_44, e4_45, e4_48, e4_49, e4_50, e4_51, e4_54, e4_55, e4_58, e4_59, e4_62, e4_63, e4_66, e4_67, e4_70, e4_71, e4_74, e4_75, e4_78, e4_79, e4_80, e4_81, c_at (show shp 6 = (1, 5) from rfl) (by decide), q_bs, q_tl, q_cn, pAt_in hj (show 5 < 2147483648 by decide), he]
  simp only [q_lit, q_eq (show a < 2147483648 by omega) (show 3 < 2147483648 by decide)]
  by_cases h : a = 3 <;> simp [h, q_lit]
theorem c_isKind4 {j a : Nat} (hj : j < 5) (he : hI H 6 j = nI a) (ha : a < 5) : ev 4 0 [.ref 1, .int (nI j), .int 4] [] H = some (some (.int (if a = 4 then 1 else 0)), H) := by
  simp only [e4_0, e4_1_1, e4_1_2, e4_1_3, e4_1_4, e4_1_d, e4_32, e4_33, e4_36, e4_37, e4_40, e4_41, e4_44, e4_45, e4_48, e4_49, e4_50, e4_51, e4_54, e4_55, e4_58, e4_59, e4_62, e4_63, e4_66, e4_67, e4_70, e4_71, e4_74, e4_75, e4_78, e4_79, e4_80, e4_81, c_at (show shp 6 = (1, 5) from rfl) (by decide), q_bs, q_tl, q_cn, pAt_in hj (show 5 < 2147483648 by decide), he]
  simp only [q_lit, q_eq (show a < 2147483648 by omega) (show 4 < 2147483648 by decide)]
  by_cases h : a = 4 <;> simp [h, q_lit]
theorem c_isKind2 {j a : Nat} (hj : j < 5) (he : hI H 6 j = nI a) (ha : a < 5) : ev 4 0 [.ref 1, .int (nI j), .int 2] [] H = some (some (.int (if a = 2 ∨ a = 4 then 1 else 0)), H) := by
  simp only [e4_0, e4_1_1, e4_1_2, e4_1_3, e4_1_4, e4_1_d, e4_32, e4_33, e4_36, e4_37, e4_40, e4_41, e4_44, e4_45, e4_48, e4_49, e4_50, e4_51, e4_54, e4_55, e4_58, e4_59, e4_62, e4_63, e4_66, e4_67, e4_70, e4_71, e4_74, e4_75, e4_78, e4_79, e4_80, e4_81, c_at (show shp 6 = (1, 5) from rfl) (by decide), q_bs, q_tl, q_cn, pAt_in hj (show 5 < 2147483648 by decide), he]
  simp only [q_lit, q_eq (show a < 2147483648 by omega) (show 4 < 2147483648 by decide), q_eq (show a < 2147483648 by omega) (show 2 < 2147483648 by decide)]
  by_cases h : a = 2
  · simp [h, q_lit]
  · by_cases h4 : a = 4 <;> simp [h, h4, q_lit]
theorem c_isKind0 (j : Int32) : ev 4 0 [.ref 1, .int j, .int 0] [] H = some (some (.int 1), H) := by
  rw [e4_0, e4_1_d _ _ _ _ (Or.inl (by decide))]
  simp only [e4_0, e4_1_1, e4_1_2, e4_1_3, e4_1_4, e4_1_d, e4_32, e4_33, e4_36, e4_37, e4_40, e4_41, e4_44, e4_45, e4_48, e4_49, e4_50, e4_51, e4_54, e4_55, e4_58, e4_59, e4_62, e4_63, e4_66, e4_67, e4_70, e4_71, e4_74, e4_75, e4_78, e4_79, e4_80, e4_81]
  simp
theorem q_min9 {a : Nat} (h : a < 2147483648) : (if nI 9 < nI a then nI 9 else nI a) = nI (min 9 a) := by
  simp only [q_lt (show 9 < 2147483648 by decide) h]
  split
  · rw [Nat.min_eq_left (by omega)]
  · rw [Nat.min_eq_right (by omega)]
theorem c_tenthsIn (hR : cR H V) (hV : vOK V) {j h : Nat} (hj : j < vn V) (hh : h < 64) (num dr : Int32) : ev 19 0 [.ref 1, .int (nI j), .int num, .int (nI h), .int dr, .null, .null] [] H = some (some (.int (nI (qtn V j num h dr))), H) := by
  have h5 := hV.2.1
  obtain ⟨hk, ho, hl⟩ := hV.2.2.1 j hj
  have hp := hV.2.2.2.2.1
  simp only [e19_0, e19_1, e19_2, e19_3, e19_6, e19_8, e19_9, e19_10, e19_13, e19_16, e19_18, e19_21, e19_22, e19_23, e19_24, e19_27, e19_28, e19_31, e19_33, e19_34, e19_36, e19_39, e19_42, e19_43, e19_44, e19_45, e19_48, e19_49, e19_50, e19_51, e19_54, e19_57, e19_60, e19_61, e19_64, e19_67, e19_69, e19_72, e19_75, e19_77, e19_79, e19_82, c_isKind4 (show j < 5 by omega) (cR_k hR hj) hk, c_isKind2 (show j < 5 by omega) (cR_k hR hj) hk, c_isIn hh (show 3 < 6 by decide), show (3 : Int32) = nI 3 from rfl, c_at (show shp 7 = (1, 5) from rfl) (by decide), q_bs, q_tl, q_cn, pAt_in (show j < 5 by omega) (show 5 < 2147483648 by decide), cR_o hR hj, cR_p hR]
  unfold qtn qT qEvb
  have e2 : ¬ (2 : Int32) = 0 := by decide
  have e1 : ¬ (1 : Int32) = 0 := by decide
  have e3 : ¬ (0 : Int32) = 1 := by decide
  simp only [if_neg e2, decide_eq_true_eq]
  by_cases a1 : vk V j = 4 <;> by_cases a2 : h.testBit 3 = true <;> by_cases a3 : nI j = dr <;> by_cases a4 : num - num / 2 * 2 = 0 <;> by_cases a5 : vk V j = 2 <;> rcases hp with a6 | a6 <;>
    first
      | (exfalso; omega)
      | (simp only [a1, a2, a3, a4, a5, a6, e1, e2, e3, if_true, if_false, not_true_eq_false, not_false_eq_true, and_true, and_false, true_and, false_and, or_true, or_false, true_or, false_or, ne_eq, Nat.add_zero, ite_self, reduceCtorEq, Nat.reduceEqDiff]
         all_goals try simp only [q_lit, q_add, Nat.reduceAdd]
         all_goals first
           | rfl
           | (refine congrArg (fun z => some (some (Value.int z), H)) (q_min9 ?_); omega))
/-- the fold of findKing -/
theorem l_findKing {n s : Nat} {kd : Nat → Nat} (h6 : hI H 1 6 = nI n) (h5 : n ≤ 5) (hk : ∀ j, j < n → hI H 6 j = nI (kd j) ∧ kd j < 5) (hs : s < 64) : ∀ k j, j + k = n →
    ev 23 13 [.ref 1, .int (nI s), .int (nI (qF kd s j).1), .int (qF kd s j).2.1, .int (nI (qF kd s j).2.2.1), .int (qF kd s j).2.2.2, .int (nI j)] [] H = ev 23 60 [.ref 1, .int (nI s), .int (nI (qF kd s n).1), .int (qF kd s n).2.1, .int (nI (qF kd s n).2.2.1), .int (qF kd s n).2.2.2, .int (nI n)] [] H := by
  intro k
  induction k with
  | zero =>
    intro j hj
    have : j = n := by omega
    subst this
    rw [e23_13]
    simp only [e23_15, e23_16, e23_19, h6, Std.le_refl, if_true]
  | succ k ih =>
    intro j hj
    obtain ⟨e1, e2⟩ := hk j (by omega)
    refine Eq.trans ?_ (ih (j + 1) (by omega))
    rw [e23_13]
    have hle : ¬ n ≤ j := by omega
    cases hb : s.testBit j with
    | false =>
      simp only [e23_0, e23_1, e23_2, e23_3, e23_4, e23_5, e23_7, e23_8, e23_10, e23_11, e23_15, e23_16, e23_19, e23_22, e23_23, e23_25, e23_28, e23_31, e23_34, e23_36, e23_37, e23_38, e23_40, e23_41, e23_44, e23_47, e23_50, e23_52, e23_54, e23_57, e23_60, e23_61, e23_62, e23_65, e23_66, e23_67, e23_68, e23_71, e23_74, e23_75, e23_76, e23_79, e23_82, e23_83, e23_84, e23_86, e23_87, e23_90, e23_92, e23_95, e23_96, h6, q_le (show n < 2147483648 by omega) (show j < 2147483648 by omega), hle, if_false, c_isIn hs (show j < 6 by omega), hb, q_bs, q_tl, q_cn, reduceCtorEq, if_true, nI_1, qF]
    | true =>
      by_cases h3 : kd j = 3
      · simp only [e23_0, e23_1, e23_2, e23_3, e23_4, e23_5, e23_7, e23_8, e23_10, e23_11, e23_15, e23_16, e23_19, e23_22, e23_23, e23_25, e23_28, e23_31, e23_34, e23_36, e23_37, e23_38, e23_40, e23_41, e23_44, e23_47, e23_50, e23_52, e23_54, e23_57, e23_60, e23_61, e23_62, e23_65, e23_66, e23_67, e23_68, e23_71, e23_74, e23_75, e23_76, e23_79, e23_82, e23_83, e23_84, e23_86, e23_87, e23_90, e23_92, e23_95, e23_96, h6, q_le (show n < 2147483648 by omega) (show j < 2147483648 by omega), hle, if_false, c_isIn hs (show j < 6 by omega), hb, q_bs, q_tl, q_cn, if_true, c_isKind3 (show j < 5 by omega) e1 e2, h3, nI_1, qF, show ¬ (1 : Int32) = 0 by decide]
      · simp only [e23_0, e23_1, e23_2, e23_3, e23_4, e23_5, e23_7, e23_8, e23_10, e23_11, e23_15, e23_16, e23_19, e23_22, e23_23, e23_25, e23_28, e23_31, e23_34, e23_36, e23_37, e23_38, e23_40, e23_41, e23_44, e23_47, e23_50, e23_52, e23_54, e23_57, e23_60, e23_61, e23_62, e23_65, e23_66, e23_67, e23_68, e23_71, e23_74, e23_75, e23_76, e23_79, e23_82, e23_83, e23_84, e23_86, e23_87, e23_90, e23_92, e23_95, e23_96, h6, q_le (show n < 2147483648 by omega) (show j < 2147483648 by omega), hle, if_false, c_isIn hs (show j < 6 by omega), hb, q_bs, q_tl, q_cn, if_true, c_isKind3 (show j < 5 by omega) e1 e2, h3, nI_1, qF, show ¬ (1 : Int32) = 0 by decide]
theorem c_nextOf {n j : Nat} (h6 : hI H 1 6 = nI n) (h5 : n ≤ 5) (hj : j < n) : ev 24 0 [.ref 1, .int (nI j)] [] H = some (some (.int (if j + 1 < n then nI (j + 1) else nI 0)), H) := by
  simp only [e24_0, e24_1, e24_2, e24_3, e24_4, e24_7, e24_10, e24_11, e24_12, e24_13, e24_16, e24_17, h6, nI_1, q_le (show n < 2147483648 by omega) (show j + 1 < 2147483648 by omega)]
  by_cases h : n ≤ j + 1
  · simp [h, show ¬ j + 1 < n by omega, q_lit]
  · simp [h, show j + 1 < n by omega]
theorem c_findKing {n s : Nat} {kd : Nat → Nat} (h6 : hI H 1 6 = nI n) (h5 : n ≤ 5) (hk : ∀ j, j < n → hI H 6 j = nI (kd j) ∧ kd j < 5) (hs : s < 64) : ev 23 0 [.ref 1, .int (nI s), .null, .null, .null, .null, .null] [] H = some (some (.int (qK kd n s)), H) := by
  simp only [e23_0, e23_1, e23_2, e23_3, e23_4, e23_5, e23_7, e23_8, e23_10, e23_11]
  have h0 := l_findKing h6 h5 hk hs n 0 (by omega)
  simp only [qF] at h0
  rw [show (0 : Int32) = nI 0 from rfl, h0]
  obtain ⟨o1, o2, o3, o4⟩ := qF_one kd s n
  obtain ⟨b1, b2⟩ := qF_le kd s n
  unfold qK
  by_cases c1 : (qF kd s n).1 = 1
  · obtain ⟨c, hc, ec⟩ := o2 (by omega)
    obtain ⟨e1, e2⟩ := hk c hc
    by_cases k1 : kd c = 1
    · simp only [e23_60, e23_61, e23_62, e23_65, e23_66, e23_67, e23_68, e23_71, e23_74, e23_75, e23_76, e23_79, e23_82, e23_83, e23_84, e23_86, e23_87, e23_90, e23_92, e23_95, e23_96, c1, ec, q_cl (show c < 2147483648 by omega), k1, if_true, not_true_eq_false, if_false, c_isKind1 (show c < 5 by omega) e1 e2, show (nI 1 = (1 : Int32)) = True from eq_true rfl, show ((1 : Int32) = 0) = False from eq_false (by decide), q_bs, q_tl, q_cn, c_nextOf h6 h5 hc]
    · simp only [e23_60, e23_61, e23_62, e23_65, e23_66, e23_67, e23_68, e23_71, e23_74, e23_75, e23_76, e23_79, e23_82, e23_83, e23_84, e23_86, e23_87, e23_90, e23_92, e23_95, e23_96, c1, ec, q_cl (show c < 2147483648 by omega), k1, if_true, not_true_eq_false, if_false, c_isKind1 (show c < 5 by omega) e1 e2, show (nI 1 = (1 : Int32)) = True from eq_true rfl, q_bs, q_tl, q_cn]
  · simp only [e23_60, e23_61, e23_62, e23_65, e23_66, e23_67, e23_68, e23_71, e23_74, e23_75, e23_76, e23_79, e23_82, e23_83, e23_84, e23_86, e23_87, e23_90, e23_92, e23_95, e23_96, q_lit, q_eq (show (qF kd s n).1 < 2147483648 by omega) (show 1 < 2147483648 by decide), q_eq (show (qF kd s n).2.2.1 < 2147483648 by omega) (show 1 < 2147483648 by decide), c1, if_false, not_false_eq_true, if_true]
    by_cases c2 : (qF kd s n).2.2.1 = 1
    · simp [c2]
    · simp [c2]
end KCO
