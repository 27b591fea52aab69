/-! the class's small calls -/
theorem t10 : ((1 : Int32) = 0) = False := eq_false (by decide)
theorem n00 : (nI 0 = (0 : Int32)) = True := eq_true rfl
theorem t00 : ((0 : Int32) = 0) = True := eq_true rfl
theorem tm1 : ((-1 : Int32) = -1) = True := eq_true rfl
theorem q_1lt {j : Nat} (h : j < 2147483648) : (nI j < 1) = (j = 0) := by
  rw [show (1 : Int32) = nI 1 from rfl, q_lt h (by decide)]
  exact propext (by omega)
def fLetter (S : kS) (c : Int32) : Int32 := qSel 127 c (-102) (fun j => if j = 0 then -102 else if sn S = 20 then -104 else nI (sn S + 1))
def tLetter (S : kS) (c : Int32) : kS := qSel 127 c S (fun j => if j = 0 then S else if sn S = 20 then S else ssP S (sn S + 1) (fu (sg S) (sn S) j))
section KOA
variable {H : kH} {S : kS}
theorem c_padd (hp : pR H (sn S) (sg S)) (h20 : sn S ≠ 20) (j : Nat) : ev 27 0 [.ref 3, .int (nI j)] [] H = some (some (.int 1), uI (uI H 18 (sn S) (nI j)) 3 1 (nI (sn S + 1))) := by
  have := hp.2.1
  simp only [e27_0, e27_1, e27_4, e27_7, e27_8, e27_11, e27_12, e27_15, e27_16, e27_19, e27_20, e27_21, e27_22, e27_25, e27_26, e27_29, e27_30, e27_31, e27_32, e27_33, e27_36, e27_37, e27_38, e27_41, e27_42, hp.1, q_lt0 (show sn S < 2147483648 by omega), if_false, show (20 : Int32) = nI 20 from rfl, q_lt (show sn S < 2147483648 by omega) (show 20 < 2147483648 by decide), show sn S < 20 by omega, if_true, q_cl (show sn S < 2147483648 by omega), false_or, show ¬ 20 ≤ sn S by omega, hI_uI, show ¬ ((3 : Nat) = 18 ∧ 1 = sn S) by omega, nI_1, or_true]
theorem c_padd20 (hp : pR H (sn S) (sg S)) (h20 : sn S = 20) (x : Int32) : ev 27 0 [.ref 3, .int x] [] H = some (some (.int 0), H) := by
  simp only [e27_0, e27_1, e27_4, e27_7, e27_8, e27_11, e27_12, e27_15, e27_16, e27_19, e27_20, e27_21, e27_22, e27_25, e27_26, e27_29, e27_30, e27_31, e27_32, e27_33, e27_36, e27_37, e27_38, e27_41, e27_42, hp.1, h20, q_lt0 (show 20 < 2147483648 by decide), if_false, show (20 : Int32) = nI 20 from rfl, q_lt (show 20 < 2147483648 by decide) (show 20 < 2147483648 by decide), Nat.lt_irrefl, true_or, if_true]
theorem CR_page {n : Nat} {g : Nat → Nat} {H' : kH} (hq : CR H S) (hF : kFr (fun k j => k = 18 ∨ (k = 3 ∧ j = 1)) H H') (hp : pR H' n g) : CR H' (ssP S n g) := by
  have e : ∀ k j, ¬ (k = 18 ∨ (k = 3 ∧ j = 1)) → hI H' k j = hI H k j := fun k j z => (hF k j z).1
  have er : ∀ k j, ¬ (k = 18 ∨ (k = 3 ∧ j = 1)) → hR H' k j = hR H k j := fun k j z => (hF k j z).2.2
  obtain ⟨hc, a2, a3, a4, a5, a6⟩ := hq
  obtain ⟨c1, c2, c3, c4, c5, c6, c7, c8, c9, c10, c11, c12⟩ := hc
  refine ⟨⟨by rw [e _ _ (by omega)]; exact c1, fun j hj => by rw [e _ _ (by omega)]; exact c2 j hj, fun j hj => by rw [e _ _ (by omega)]; exact c3 j hj, fun j hj => by rw [e _ _ (by omega)]; exact c4 j hj, fun j hj => by rw [e _ _ (by omega)]; exact c5 j hj, by rw [e _ _ (by omega)]; exact c6, by rw [e _ _ (by omega)]; exact c7, by rw [e _ _ (by omega)]; exact c8, by rw [e _ _ (by omega)]; exact c9, by rw [e _ _ (by omega)]; exact c10, fun j hj => by rw [e _ _ (by omega)]; exact c11 j hj, fun h0 s hs => by rw [e _ _ (by omega)]; exact c12 h0 s hs⟩, hp, by rw [e _ _ (by omega)]; exact a3, by rw [e _ _ (by omega)]; exact a4, by unfold wR; rw [er _ _ (by omega), er _ _ (by omega)]; exact a5, fun hz => ?_⟩
  obtain ⟨b1, b2, b3, b4, b5, b6, b7, b8, b9⟩ := a6 hz
  exact ⟨fun j hj => by rw [e _ _ (by omega)]; exact b1 j hj, fun j hj => by rw [e _ _ (by omega)]; exact b2 j hj, fun j hj => by rw [e _ _ (by omega)]; exact b3 j hj, by rw [e _ _ (by omega)]; exact b4, by rw [e _ _ (by omega)]; exact b5, by rw [e _ _ (by omega)]; exact b6, by rw [e _ _ (by omega)]; exact b7, by rw [e _ _ (by omega)]; exact b8, fun j hj => by rw [e _ _ (by omega)]; exact b9 j hj⟩
theorem x_letter (hq : CR H S) (c : Int32) : ∃ H1, ev 46 0 [.ref 0, .int c] [] H = some (some (.int (fLetter S c)), H1) ∧ CR H1 (tLetter S c) ∧ kFr cC H H1 := by
  have hp := hq.2.1
  have h20 := hp.2.1
  rcases q_case c (show 127 < 2147483648 by decide) with hc | hc | ⟨j, hj, rfl⟩
  · refine ⟨H, ?_, by rw [tLetter, qSel_lo hc]; exact hq, kFr.rf⟩
    rw [fLetter, qSel_lo hc]
    have h1 : c < 1 := by
      have := q_toInt_lo hc
      rw [Int32.lt_iff_toInt_lt]
      have e : (1 : Int32).toInt = 1 := rfl
      omega
    simp only [e46_0, e46_1, e46_2, e46_5, e46_6, e46_8, e46_11, e46_13, e46_14, e46_15, e46_18, e46_19, e46_22, e46_25, e46_26, e46_29, e46_32, e46_35, e46_37, h1, if_true]
  · refine ⟨H, ?_, by rw [tLetter, qSel_hi hc]; exact hq, kFr.rf⟩
    rw [fLetter, qSel_hi hc]
    have h0 := q_toInt_hi (show 127 < 2147483648 by decide) hc
    have h1 : ¬ c < 1 := by
      rw [Int32.lt_iff_toInt_lt]
      have e : (1 : Int32).toInt = 1 := rfl
      omega
    have h2 : ¬ c ≤ 126 := by
      rw [Int32.le_iff_toInt_le]
      have e : (126 : Int32).toInt = 126 := rfl
      omega
    simp only [e46_0, e46_1, e46_2, e46_5, e46_6, e46_8, e46_11, e46_13, e46_14, e46_15, e46_18, e46_19, e46_22, e46_25, e46_26, e46_29, e46_32, e46_35, e46_37, h1, h2, if_false]
  · rw [fLetter, tLetter, qSel_in hj (by decide), qSel_in hj (by decide)]
    by_cases h0 : j = 0
    · refine ⟨H, ?_, by rw [if_pos h0]; exact hq, kFr.rf⟩
      subst h0
      simp only [e46_0, e46_1, e46_2, e46_5, e46_6, e46_8, e46_11, e46_13, e46_14, e46_15, e46_18, e46_19, e46_22, e46_25, e46_26, e46_29, e46_32, e46_35, e46_37, show (nI 0 < (1 : Int32)) = True from eq_true (by decide), if_true]
    · by_cases hf : sn S = 20
      · refine ⟨H, ?_, by rw [if_neg h0, if_pos hf]; exact hq, kFr.rf⟩
        simp only [e46_0, e46_1, e46_2, e46_5, e46_6, e46_8, e46_11, e46_13, e46_14, e46_15, e46_18, e46_19, e46_22, e46_25, e46_26, e46_29, e46_32, e46_35, e46_37, q_1lt (show j < 2147483648 by omega), h0, if_false, show (126 : Int32) = nI 126 from rfl, q_le (show j < 2147483648 by omega) (show 126 < 2147483648 by decide), show j ≤ 126 by omega, if_true, c_padd20 hp hf, q_bs, q_tl, q_cn, hf]
      · refine ⟨uI (uI H 18 (sn S) (nI j)) 3 1 (nI (sn S + 1)), ?_, ?_, (kFr_uI (by unfold cC; omega)).tr (kFr_uI (by unfold cC; omega))⟩
        · simp only [e46_0, e46_1, e46_2, e46_5, e46_6, e46_8, e46_11, e46_13, e46_14, e46_15, e46_18, e46_19, e46_22, e46_25, e46_26, e46_29, e46_32, e46_35, e46_37, q_1lt (show j < 2147483648 by omega), h0, if_false, show (126 : Int32) = nI 126 from rfl, q_le (show j < 2147483648 by omega) (show 126 < 2147483648 by decide), show j ≤ 126 by omega, if_true, c_padd hp hf, q_bs, q_tl, q_cn, hf, t10, e25_0, e25_1, e25_4, hI_uIs]
        · rw [if_neg h0, if_neg hf]
          refine CR_page hq ((kFr_uI (by omega)).tr (kFr_uI (by omega))) ⟨hI_uIs _ _ _ _, by omega, fun i hi => ?_⟩
          rw [hI_uIn (by omega)]
          by_cases e : i = sn S
          · subst e
            rw [hI_uIs, fu_s]
            exact ⟨rfl, by omega⟩
          · rw [hI_uIn (by omega), fu_n e]
            exact hp.2.2 i (by omega)
theorem c_pempty (hp : pR H (sn S) (sg S)) : ev 28 0 [.ref 3, .null] [] H = some (some (.int (nI (sn S))), uI H 3 1 0) := by
  simp only [e28_0, e28_1, e28_4, e28_5, e28_6, e28_7, e28_10, e28_11, hp.1]
theorem x_fault (hq : CR H S) : ev 47 0 [.ref 0] [] H = some (some (.int (nI (qW (sg S) (sn S) 0))), H) := by
  simp only [e47_0, e47_1, e47_4, e47_7, c_firstWrong hq.2.1, q_bs, q_tl, q_cn]
/-- what is told of a councillor -/
def fAbout (V : kV) (c w : Int32) : Int32 := qSel (vn V) c (-101) (fun i => qSel 5 w (-102) (fun k => if k = 0 then nI (vk V i) else if k = 1 then nI (vo V i) else if k = 2 then nI (vl V i) else if k = 3 then nI (qtn V i (vt V) (vh V) (vd V)) else vr V i))
theorem c_seated0 {V : kV} (hR : cR H V) {i : Int32} (h : i < 0 ∨ nI (vn V) ≤ i) : ev 2 0 [.ref 1, .int i] [] H = some (some (.int 0), H) := by
  rw [c_seated hR, if_pos h]
theorem x_about (hq : CR H S) (ho : sOK S) (c w : Int32) : ev 49 0 [.ref 0, .int c, .int w] [] H = some (some (.int (fAbout (sV S) c w)), H) := by
  have hR := hq.1
  have hV := ho.1
  have h5 := hV.2.1
  unfold fAbout
  rcases q_case c (show vn (sV S) < 2147483648 by omega) with hc | hc | ⟨i, hi, rfl⟩
  · rw [qSel_lo hc]
    simp only [e49_0, e49_1, e49_4, e49_5, e49_8, e49_11, e49_13, e49_14, e49_15_0, e49_15_1, e49_15_2, e49_15_3, e49_15_4, e49_15_d, e49_48, e49_49, e49_52, e49_53, e49_56, e49_57, e49_58, e49_61, e49_62, e49_65, e49_66, e49_67, e49_70, e49_71, e49_74, e49_75, e49_76, e49_79, e49_80, e49_83, e49_84, e49_85, e49_88, e49_89, e49_92, e49_93, e49_95, c_seated0 hR (Or.inl hc), q_bs, q_tl, q_cn, not_true_eq_false, if_false]
  · rw [qSel_hi hc]
    simp only [e49_0, e49_1, e49_4, e49_5, e49_8, e49_11, e49_13, e49_14, e49_15_0, e49_15_1, e49_15_2, e49_15_3, e49_15_4, e49_15_d, e49_48, e49_49, e49_52, e49_53, e49_56, e49_57, e49_58, e49_61, e49_62, e49_65, e49_66, e49_67, e49_70, e49_71, e49_74, e49_75, e49_76, e49_79, e49_80, e49_83, e49_84, e49_85, e49_88, e49_89, e49_92, e49_93, e49_95, c_seated0 hR (Or.inr hc), q_bs, q_tl, q_cn, not_true_eq_false, if_false]
  · rw [qSel_in hi (by omega)]
    rcases q_case w (show 5 < 2147483648 by decide) with hw | hw | ⟨k, hk, rfl⟩
    · rw [qSel_lo hw]
      simp only [e49_0, e49_1, e49_4, e49_5, e49_8, e49_11, e49_13, e49_14, c_seated_in hR hV hi, q_bs, q_tl, q_cn, t10, not_false_eq_true, if_true]
      rw [e49_15_d _ _ _ _ (Or.inl (q_toInt_lo hw))]
      simp only [e49_93, e49_95]
    · rw [qSel_hi hw]
      simp only [e49_0, e49_1, e49_4, e49_5, e49_8, e49_11, e49_13, e49_14, c_seated_in hR hV hi, q_bs, q_tl, q_cn, t10, not_false_eq_true, if_true]
      rw [e49_15_d _ _ _ _ (Or.inr (by have := q_toInt_hi (show 5 < 2147483648 by decide) hw; omega))]
      simp only [e49_93, e49_95]
    · rw [qSel_in hk (by decide)]
      rcases (show k = 0 ∨ k = 1 ∨ k = 2 ∨ k = 3 ∨ k = 4 by omega) with rfl | rfl | rfl | rfl | rfl
      · simp only [show nI 0 = (0 : Int32) from rfl, e49_0, e49_1, e49_4, e49_5, e49_8, e49_11, e49_13, e49_14, e49_15_0, e49_15_1, e49_15_2, e49_15_3, e49_15_4, e49_15_d, e49_48, e49_49, e49_52, e49_53, e49_56, e49_57, e49_58, e49_61, e49_62, e49_65, e49_66, e49_67, e49_70, e49_71, e49_74, e49_75, e49_76, e49_79, e49_80, e49_83, e49_84, e49_85, e49_88, e49_89, e49_92, e49_93, e49_95, c_seated_in hR hV hi, q_bs, q_tl, q_cn, t10, not_false_eq_true, if_true, c_kindOf hR hV hi]
      · simp only [show nI 1 = (1 : Int32) from rfl, e49_0, e49_1, e49_4, e49_5, e49_8, e49_11, e49_13, e49_14, e49_15_0, e49_15_1, e49_15_2, e49_15_3, e49_15_4, e49_15_d, e49_48, e49_49, e49_52, e49_53, e49_56, e49_57, e49_58, e49_61, e49_62, e49_65, e49_66, e49_67, e49_70, e49_71, e49_74, e49_75, e49_76, e49_79, e49_80, e49_83, e49_84, e49_85, e49_88, e49_89, e49_92, e49_93, e49_95, c_seated_in hR hV hi, q_bs, q_tl, q_cn, t10, not_false_eq_true, if_true, c_noseOf hR hV hi, Nat.one_ne_zero, if_false]
      · simp only [show nI 2 = (2 : Int32) from rfl, e49_0, e49_1, e49_4, e49_5, e49_8, e49_11, e49_13, e49_14, e49_15_0, e49_15_1, e49_15_2, e49_15_3, e49_15_4, e49_15_d, e49_48, e49_49, e49_52, e49_53, e49_56, e49_57, e49_58, e49_61, e49_62, e49_65, e49_66, e49_67, e49_70, e49_71, e49_74, e49_75, e49_76, e49_79, e49_80, e49_83, e49_84, e49_85, e49_88, e49_89, e49_92, e49_93, e49_95, c_seated_in hR hV hi, q_bs, q_tl, q_cn, t10, not_false_eq_true, if_true, c_sayingOf hR hV hi, show ¬ (2 : Nat) = 0 by decide, show ¬ (2 : Nat) = 1 by decide, if_false]
      · simp only [show nI 3 = (3 : Int32) from rfl, e49_0, e49_1, e49_4, e49_5, e49_8, e49_11, e49_13, e49_14, e49_15_0, e49_15_1, e49_15_2, e49_15_3, e49_15_4, e49_15_d, e49_48, e49_49, e49_52, e49_53, e49_56, e49_57, e49_58, e49_61, e49_62, e49_65, e49_66, e49_67, e49_70, e49_71, e49_74, e49_75, e49_76, e49_79, e49_80, e49_83, e49_84, e49_85, e49_88, e49_89, e49_92, e49_93, e49_95, c_seated_in hR hV hi, q_bs, q_tl, q_cn, t10, not_false_eq_true, if_true, c_tenthsNow hR hV hi, show ¬ (3 : Nat) = 0 by decide, show ¬ (3 : Nat) = 1 by decide, show ¬ (3 : Nat) = 2 by decide, if_false]
      · simp only [show nI 4 = (4 : Int32) from rfl, e49_0, e49_1, e49_4, e49_5, e49_8, e49_11, e49_13, e49_14, e49_15_0, e49_15_1, e49_15_2, e49_15_3, e49_15_4, e49_15_d, e49_48, e49_49, e49_52, e49_53, e49_56, e49_57, e49_58, e49_61, e49_62, e49_65, e49_66, e49_67, e49_70, e49_71, e49_74, e49_75, e49_76, e49_79, e49_80, e49_83, e49_84, e49_85, e49_88, e49_89, e49_92, e49_93, e49_95, c_seated_in hR hV hi, q_bs, q_tl, q_cn, t10, not_false_eq_true, if_true, c_reignsOf hR hV hi, show ¬ (4 : Nat) = 0 by decide, show ¬ (4 : Nat) = 1 by decide, show ¬ (4 : Nat) = 2 by decide, show ¬ (4 : Nat) = 3 by decide, if_false]
/-- a kind that he may be taken as -/
def qIs (a q : Nat) : Bool := decide (q = 0 ∨ a = q ∨ (q = 2 ∧ a = 4))
theorem c_isKind {i a k : Nat} (hi : i < 5) (he : hI H 6 i = nI a) (ha : a < 5) (hk : k < 5) : ev 4 0 [.ref 1, .int (nI i), .int (nI k)] [] H = some (some (.int (if qIs a k = true then 1 else 0)), H) := by
  unfold qIs
  rcases (show k = 0 ∨ k = 1 ∨ k = 2 ∨ k = 3 ∨ k = 4 by omega) with rfl | rfl | rfl | rfl | rfl
  · exact c_isKind0 _
  · refine (c_isKind1 hi he ha).trans ?_
    by_cases z : a = 1 <;> simp [z]
  · refine (c_isKind2 hi he ha).trans ?_
    by_cases z : a = 2 <;> by_cases z4 : a = 4 <;> simp [z, z4]
  · refine (c_isKind3 hi he ha).trans ?_
    by_cases z : a = 3 <;> simp [z]
  · refine (c_isKind4 hi he ha).trans ?_
    by_cases z : a = 4 <;> simp [z]
def fAs (V : kV) (c w : Int32) : Int32 := qSel (vn V) c (-101) (fun i => qSel 5 w (-102) (fun k => if qIs (vk V i) k = true then nI i else -1))
theorem x_as (hq : CR H S) (ho : sOK S) (c w : Int32) : ev 50 0 [.ref 0, .int c, .int w] [] H = some (some (.int (fAs (sV S) c w)), H) := by
  have hR := hq.1
  have hV := ho.1
  have h5 := hV.2.1
  unfold fAs
  rcases q_case c (show vn (sV S) < 2147483648 by omega) with hc | hc | ⟨i, hi, rfl⟩
  · rw [qSel_lo hc]
    simp only [e50_0, e50_1, e50_4, e50_5, e50_8, e50_11, e50_13, e50_14, e50_15, e50_18, e50_19, e50_20, e50_23, e50_25, e50_26, e50_27, e50_30, e50_31, e50_32, e50_35, e50_38, e50_39, e50_42, e50_43, c_seated0 hR (Or.inl hc), q_bs, q_tl, q_cn, not_true_eq_false, if_false]
  · rw [qSel_hi hc]
    simp only [e50_0, e50_1, e50_4, e50_5, e50_8, e50_11, e50_13, e50_14, e50_15, e50_18, e50_19, e50_20, e50_23, e50_25, e50_26, e50_27, e50_30, e50_31, e50_32, e50_35, e50_38, e50_39, e50_42, e50_43, c_seated0 hR (Or.inr hc), q_bs, q_tl, q_cn, not_true_eq_false, if_false]
  · rw [qSel_in hi (by omega)]
    have hk5 := (hV.2.2.1 i hi).1
    have hk := cR_k hR hi
    rcases q_case w (show 5 < 2147483648 by decide) with hw | hw | ⟨k, hk0, rfl⟩
    · rw [qSel_lo hw]
      simp only [e50_0, e50_1, e50_4, e50_5, e50_8, e50_11, e50_13, e50_14, e50_15, e50_18, e50_19, e50_20, e50_23, e50_25, e50_26, e50_27, e50_30, e50_31, e50_32, e50_35, e50_38, e50_39, e50_42, e50_43, c_seated_in hR hV hi, q_bs, q_tl, q_cn, t10, not_false_eq_true, if_true, hw]
    · rw [qSel_hi hw]
      have hw2 : ¬ w < 5 := by
        rw [Int32.not_lt]
        exact hw
      simp only [e50_0, e50_1, e50_4, e50_5, e50_8, e50_11, e50_13, e50_14, e50_15, e50_18, e50_19, e50_20, e50_23, e50_25, e50_26, e50_27, e50_30, e50_31, e50_32, e50_35, e50_38, e50_39, e50_42, e50_43, c_seated_in hR hV hi, q_bs, q_tl, q_cn, t10, not_false_eq_true, if_true, q_nlt (show 5 < 2147483648 by decide) hw, hw2, if_false]
    · rw [qSel_in hk0 (by decide)]
      simp only [e50_0, e50_1, e50_4, e50_5, e50_8, e50_11, e50_13, e50_14, e50_15, e50_18, e50_19, e50_20, e50_23, e50_25, e50_26, e50_27, e50_30, e50_31, e50_32, e50_35, e50_38, e50_39, e50_42, e50_43, c_seated_in hR hV hi, q_bs, q_tl, q_cn, t10, not_false_eq_true, if_true, q_lt0 (show k < 2147483648 by omega), if_false, show (5 : Int32) = nI 5 from rfl, q_lt (show k < 2147483648 by omega) (show 5 < 2147483648 by decide), hk0, c_isKind (show i < 5 by omega) hk hk5 hk0]
      cases qIs (vk (sV S) i) k
      · simp only [Bool.false_eq_true, if_false, if_true]
      · simp only [if_true, t10, if_false]
/-- a nose, a law -/
def fNose (V : kV) (c v : Int32) : Int32 := qSel (vn V) c (-101) (fun i => qSel 10 v (-102) (fun _ => nI (vo V i)))
def tNose (V : kV) (c v : Int32) : kV := qSel (vn V) c V (fun i => qSel 10 v V (fun k => vsO V i k))
def fBribe (V : kV) (c v : Int32) : Int32 := qSel (vn V) c (-101) (fun i => qSel 6 v (-102) (fun _ => nI (vl V i)))
def tBribe (V : kV) (c v : Int32) : kV := qSel (vn V) c V (fun i => qSel 6 v V (fun k => vsL V i k))
theorem CR_self (hq : CR H S) : CR H (ssV S (sV S)) := hq
theorem x_nose (hq : CR H S) (ho : sOK S) (c v : Int32) : ∃ H1, ev 51 0 [.ref 0, .int c, .int v] [] H = some (some (.int (fNose (sV S) c v)), H1) ∧ CR H1 (ssV S (tNose (sV S) c v)) ∧ kFr cC H H1 := by
  have hR := hq.1
  have hV := ho.1
  have h5 := hV.2.1
  unfold fNose tNose
  rcases q_case c (show vn (sV S) < 2147483648 by omega) with hc | hc | ⟨i, hi, rfl⟩
  · rw [qSel_lo hc, qSel_lo hc]
    refine ⟨H, ?_, CR_self hq, kFr.rf⟩
    simp only [e51_0, e51_1, e51_4, e51_5, e51_8, e51_11, e51_13, e51_14, e51_15, e51_18, e51_19, e51_21, e51_24, e51_26, e51_27, e51_28, e51_31, e51_32, e51_33, e51_36, c_seated0 hR (Or.inl hc), q_bs, q_tl, q_cn, not_true_eq_false, if_false]
  · rw [qSel_hi hc, qSel_hi hc]
    refine ⟨H, ?_, CR_self hq, kFr.rf⟩
    simp only [e51_0, e51_1, e51_4, e51_5, e51_8, e51_11, e51_13, e51_14, e51_15, e51_18, e51_19, e51_21, e51_24, e51_26, e51_27, e51_28, e51_31, e51_32, e51_33, e51_36, c_seated0 hR (Or.inr hc), q_bs, q_tl, q_cn, not_true_eq_false, if_false]
  · rw [qSel_in hi (by omega), qSel_in hi (by omega)]
    rcases q_case v (show 10 < 2147483648 by decide) with hw | hw | ⟨k, hk0, rfl⟩
    · rw [qSel_lo hw, qSel_lo hw]
      refine ⟨H, ?_, CR_self hq, kFr.rf⟩
      simp only [e51_0, e51_1, e51_4, e51_5, e51_8, e51_11, e51_13, e51_14, e51_15, e51_18, e51_19, e51_21, e51_24, e51_26, e51_27, e51_28, e51_31, e51_32, e51_33, e51_36, c_seated_in hR hV hi, q_bs, q_tl, q_cn, t10, not_false_eq_true, if_true, hw]
    · rw [qSel_hi hw, qSel_hi hw]
      refine ⟨H, ?_, CR_self hq, kFr.rf⟩
      have hw2 : ¬ v ≤ 9 := by
        have := q_toInt_hi (show 10 < 2147483648 by decide) hw
        rw [Int32.le_iff_toInt_le]
        have e : (9 : Int32).toInt = 9 := rfl
        omega
      simp only [e51_0, e51_1, e51_4, e51_5, e51_8, e51_11, e51_13, e51_14, e51_15, e51_18, e51_19, e51_21, e51_24, e51_26, e51_27, e51_28, e51_31, e51_32, e51_33, e51_36, c_seated_in hR hV hi, q_bs, q_tl, q_cn, t10, not_false_eq_true, if_true, q_nlt (show 10 < 2147483648 by decide) hw, hw2, if_false]
    · rw [qSel_in hk0 (by decide), qSel_in hk0 (by decide)]
      refine ⟨uI H 7 i (nI k), ?_, CR_now (kFr_uI (by unfold nC; omega)) hq (cR_no hR), kFr_uI (by unfold cC; omega)⟩
      simp only [e51_0, e51_1, e51_4, e51_5, e51_8, e51_11, e51_13, e51_14, e51_15, e51_18, e51_19, e51_21, e51_24, e51_26, e51_27, e51_28, e51_31, e51_32, e51_33, e51_36, c_seated_in hR hV hi, q_bs, q_tl, q_cn, t10, not_false_eq_true, if_true, q_lt0 (show k < 2147483648 by omega), if_false, show (9 : Int32) = nI 9 from rfl, q_le (show k < 2147483648 by omega) (show 9 < 2147483648 by decide), show k ≤ 9 by omega, e6_0, e6_1, e6_4, e6_5, e6_6, e6_9, c_exchange (show shp 7 = (1, 5) from rfl) (by decide) (show i < 5 by omega), cR_o hR hi]
theorem c_isLaw_in {l : Nat} (hl : l < 6) : ev 61 0 [.int (nI l)] [] H = some (some (.int 1), H) := by
  simp only [e61_0, e61_1, e61_4, e61_5, e61_7, e61_10, e61_11, e61_14, e61_15, q_lt0 (show l < 2147483648 by omega), if_false, show (6 : Int32) = nI 6 from rfl, q_le (show 6 < 2147483648 by decide) (show l < 2147483648 by omega), show ¬ 6 ≤ l by omega, or_true, if_true]
theorem c_isLaw_lo {x : Int32} (h : x < 0) : ev 61 0 [.int x] [] H = some (some (.int 0), H) := by
  simp only [e61_0, e61_1, e61_4, e61_5, e61_7, e61_10, e61_11, e61_14, e61_15, h, if_true, true_or]
theorem c_isLaw_hi {x : Int32} (h : nI 6 ≤ x) : ev 61 0 [.int x] [] H = some (some (.int 0), H) := by
  simp only [e61_0, e61_1, e61_4, e61_5, e61_7, e61_10, e61_11, e61_14, e61_15, q_nlt (show 6 < 2147483648 by decide) h, if_false, show (6 : Int32) = nI 6 from rfl, h, if_true, true_or]
theorem x_bribe (hq : CR H S) (ho : sOK S) (c v : Int32) : ∃ H1, ev 52 0 [.ref 0, .int c, .int v] [] H = some (some (.int (fBribe (sV S) c v)), H1) ∧ CR H1 (ssV S (tBribe (sV S) c v)) ∧ kFr cC H H1 := by
  have hR := hq.1
  have hV := ho.1
  have h5 := hV.2.1
  unfold fBribe tBribe
  rcases q_case c (show vn (sV S) < 2147483648 by omega) with hc | hc | ⟨i, hi, rfl⟩
  · rw [qSel_lo hc, qSel_lo hc]
    refine ⟨H, ?_, CR_self hq, kFr.rf⟩
    simp only [e52_0, e52_1, e52_4, e52_5, e52_8, e52_11, e52_13, e52_14, e52_15, e52_18, e52_21, e52_23, e52_24, e52_25, e52_28, e52_29, e52_30, e52_33, c_seated0 hR (Or.inl hc), q_bs, q_tl, q_cn, not_true_eq_false, if_false]
  · rw [qSel_hi hc, qSel_hi hc]
    refine ⟨H, ?_, CR_self hq, kFr.rf⟩
    simp only [e52_0, e52_1, e52_4, e52_5, e52_8, e52_11, e52_13, e52_14, e52_15, e52_18, e52_21, e52_23, e52_24, e52_25, e52_28, e52_29, e52_30, e52_33, c_seated0 hR (Or.inr hc), q_bs, q_tl, q_cn, not_true_eq_false, if_false]
  · rw [qSel_in hi (by omega), qSel_in hi (by omega)]
    rcases q_case v (show 6 < 2147483648 by decide) with hw | hw | ⟨k, hk0, rfl⟩
    · rw [qSel_lo hw, qSel_lo hw]
      refine ⟨H, ?_, CR_self hq, kFr.rf⟩
      simp only [e52_0, e52_1, e52_4, e52_5, e52_8, e52_11, e52_13, e52_14, e52_15, e52_18, e52_21, e52_23, e52_24, e52_25, e52_28, e52_29, e52_30, e52_33, c_seated_in hR hV hi, q_bs, q_tl, q_cn, t10, not_false_eq_true, if_true, c_isLaw_lo hw, not_true_eq_false, if_false]
    · rw [qSel_hi hw, qSel_hi hw]
      refine ⟨H, ?_, CR_self hq, kFr.rf⟩
      simp only [e52_0, e52_1, e52_4, e52_5, e52_8, e52_11, e52_13, e52_14, e52_15, e52_18, e52_21, e52_23, e52_24, e52_25, e52_28, e52_29, e52_30, e52_33, c_seated_in hR hV hi, q_bs, q_tl, q_cn, t10, not_false_eq_true, if_true, c_isLaw_hi hw, not_true_eq_false, if_false]
    · rw [qSel_in hk0 (by decide), qSel_in hk0 (by decide)]
      refine ⟨uI H 8 i (nI k), ?_, CR_now (kFr_uI (by unfold nC; omega)) hq (cR_la hR), kFr_uI (by unfold cC; omega)⟩
      simp only [e52_0, e52_1, e52_4, e52_5, e52_8, e52_11, e52_13, e52_14, e52_15, e52_18, e52_21, e52_23, e52_24, e52_25, e52_28, e52_29, e52_30, e52_33, c_seated_in hR hV hi, q_bs, q_tl, q_cn, t10, not_false_eq_true, if_true, c_isLaw_in hk0, e8_0, e8_1, e8_4, e8_5, e8_6, e8_9, c_exchange (show shp 8 = (1, 5) from rfl) (by decide) (show i < 5 by omega), cR_l hR hi]
/-- the draught, pepper -/
def fDraught (V : kV) (c : Int32) : Int32 := if c = -1 then (if vn V = 0 then -103 else vd V) else qSel (vn V) c (-101) (fun _ => vd V)
def tDraught (V : kV) (c : Int32) : kV := if c = -1 then (if vn V = 0 then V else vsD V c) else qSel (vn V) c V (fun _ => vsD V c)
theorem q_n0 {V : kV} (hV : vOK V) : (nI (vn V) = 0) = (vn V = 0) := by
  have := hV.2.1
  rw [show (0 : Int32) = nI 0 from rfl, q_eq (by omega) (by decide)]
theorem x_draught (hq : CR H S) (ho : sOK S) (c : Int32) : ∃ H1, ev 53 0 [.ref 0, .int c] [] H = some (some (.int (fDraught (sV S) c)), H1) ∧ CR H1 (ssV S (tDraught (sV S) c)) ∧ kFr cC H H1 := by
  have hR := hq.1
  have hV := ho.1
  have h5 := hV.2.1
  unfold fDraught tDraught
  by_cases hm : c = -1
  · rw [if_pos hm, if_pos hm]
    subst hm
    by_cases h0 : vn (sV S) = 0
    · rw [if_pos h0, if_pos h0]
      refine ⟨H, ?_, CR_self hq, kFr.rf⟩
      simp only [e53_0, e53_1, e53_2, e53_5, e53_6, e53_9, e53_10, e53_13, e53_16, e53_18, e53_19, e53_20, e53_23, e53_26, e53_29, e53_31, e53_32, e53_33, e53_36, e53_37, e53_40, tm1, if_true, c_seats hR, q_bs, q_tl, q_cn, q_n0 hV, h0, n00, not_true_eq_false, if_false]
    · rw [if_neg h0, if_neg h0]
      refine ⟨uI H 1 7 (-1), ?_, CR_now (kFr_uI (by unfold nC; omega)) hq (cR_dr hR), kFr_uI (by unfold cC; omega)⟩
      simp only [e53_0, e53_1, e53_2, e53_5, e53_6, e53_9, e53_10, e53_13, e53_16, e53_18, e53_19, e53_20, e53_23, e53_26, e53_29, e53_31, e53_32, e53_33, e53_36, e53_37, e53_40, tm1, if_true, c_seats hR, q_bs, q_tl, q_cn, q_n0 hV, h0, not_false_eq_true, e12_0, e12_1, e12_4, e12_5, e12_6, e12_7, e12_10, e12_11, cR_d hR]
  · rw [if_neg hm, if_neg hm]
    rcases q_case c (show vn (sV S) < 2147483648 by omega) with hc | hc | ⟨i, hi, rfl⟩
    · rw [qSel_lo hc, qSel_lo hc]
      refine ⟨H, ?_, CR_self hq, kFr.rf⟩
      simp only [e53_0, e53_1, e53_2, e53_5, e53_6, e53_9, e53_10, e53_13, e53_16, e53_18, e53_19, e53_20, e53_23, e53_26, e53_29, e53_31, e53_32, e53_33, e53_36, e53_37, e53_40, hm, c_seated0 hR (Or.inl hc), q_bs, q_tl, q_cn, not_true_eq_false, if_false]
    · rw [qSel_hi hc, qSel_hi hc]
      refine ⟨H, ?_, CR_self hq, kFr.rf⟩
      simp only [e53_0, e53_1, e53_2, e53_5, e53_6, e53_9, e53_10, e53_13, e53_16, e53_18, e53_19, e53_20, e53_23, e53_26, e53_29, e53_31, e53_32, e53_33, e53_36, e53_37, e53_40, hm, c_seated0 hR (Or.inr hc), q_bs, q_tl, q_cn, not_true_eq_false, if_false]
    · rw [qSel_in hi (by omega), qSel_in hi (by omega)]
      refine ⟨uI H 1 7 (nI i), ?_, CR_now (kFr_uI (by unfold nC; omega)) hq (cR_dr hR), kFr_uI (by unfold cC; omega)⟩
      simp only [e53_0, e53_1, e53_2, e53_5, e53_6, e53_9, e53_10, e53_13, e53_16, e53_18, e53_19, e53_20, e53_23, e53_26, e53_29, e53_31, e53_32, e53_33, e53_36, e53_37, e53_40, hm, if_false, c_seated_in hR hV hi, t10, not_false_eq_true, if_true, c_seats hR, q_bs, q_tl, q_cn, q_n0 hV, show ¬ vn (sV S) = 0 by omega, e12_0, e12_1, e12_4, e12_5, e12_6, e12_7, e12_10, e12_11, cR_d hR]
def fPepper (V : kV) : Int32 := if vn V = 0 then -103 else vp V
def tPepper (V : kV) (b : Int32) : kV := if vn V = 0 then V else vsP V b
theorem x_pepper (hq : CR H S) (ho : sOK S) {b : Int32} (hb : b = 0 ∨ b = 1) : ∃ H1, ev 54 0 [.ref 0, .int b] [] H = some (some (.int (fPepper (sV S))), H1) ∧ CR H1 (ssV S (tPepper (sV S) b)) ∧ kFr cC H H1 := by
  have hR := hq.1
  have hV := ho.1
  have h5 := hV.2.1
  have hp := hV.2.2.2.2.1
  unfold fPepper tPepper
  by_cases h0 : vn (sV S) = 0
  · rw [if_pos h0, if_pos h0]
    refine ⟨H, ?_, CR_self hq, kFr.rf⟩
    simp only [e54_0, e54_1, e54_4, e54_7, e54_10, e54_12, e54_13, e54_14, e54_17, e54_18, e54_21, e54_24, e54_25, e54_28, e54_29, c_seats hR, q_bs, q_tl, q_cn, q_n0 hV, h0, n00, not_true_eq_false, if_false]
  · rw [if_neg h0, if_neg h0]
    refine ⟨uI H 1 8 b, ?_, CR_now (kFr_uI (by unfold nC; omega)) hq (cR_pe hR), kFr_uI (by unfold cC; omega)⟩
    simp only [e54_0, e54_1, e54_4, e54_7, e54_10, e54_12, e54_13, e54_14, e54_17, e54_18, e54_21, e54_24, e54_25, e54_28, e54_29, c_seats hR, q_bs, q_tl, q_cn, q_n0 hV, h0, not_false_eq_true, if_true, e14_0, e14_1, e14_4, e14_5, e14_6, e14_7, e14_10, e14_11, cR_p hR, if_pos hb, if_pos hp]
    rcases hp with e | e
    · simp only [e, if_true]
    · simp only [e, t10, if_false]
theorem x_laws (hq : CR H S) : ev 56 0 [.ref 0] [] H = some (some (.int (nI (vh (sV S)))), H) := by
  simp only [e56_0, e56_1, e56_4, e56_7, c_held hq.1, q_bs, q_tl, q_cn]
end KOA
