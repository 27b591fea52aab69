/-! the model's small calls -/
section KM3
variable {H : kH} {S : kS}
theorem hI27 {H : kH} {k j b : Nat} {v : Int32} (h : k ≠ 27) : hI (uI H k j v) 27 b = hI H 27 b := hI_uIn (fun z => h z.1.symm)
theorem y_letter (hq : MR H S) (c : Int32) : ∃ H1, ev 98 0 [.ref 27, .int c] [] H = some (some (.int (fLetter S c)), H1) ∧ MR H1 (tLetter S c) ∧ kFr mC H H1 := by
  have hp := hq.2.1
  have h20 := hp.2.1
  rcases q_case c (show 127 < 2147483648 by decide) with hc | hc | ⟨j, hj, rfl⟩
  · refine ⟨H, ?_, by rw [tLetter, qSel_lo hc]; exact hq, kFr.rf⟩
    rw [fLetter, qSel_lo hc]
    simp only [e98_0, e98_1, e98_2, e98_3, e98_6, e98_9, e98_12, e98_14, show (1 : Int64) = lN 1 from rfl, show (126 : Int64) = lN 126 from rfl, m_lo hc (show 1 < 2147483648 by decide) (show 126 < 2147483648 by decide), q_bs, q_tl, q_cn, not_true_eq_false, if_false]
  · refine ⟨H, ?_, by rw [tLetter, qSel_hi hc]; exact hq, kFr.rf⟩
    rw [fLetter, qSel_hi hc]
    simp only [e98_0, e98_1, e98_2, e98_3, e98_6, e98_9, e98_12, e98_14, show (1 : Int64) = lN 1 from rfl, show (126 : Int64) = lN 126 from rfl, m_hi hc (show 127 < 2147483648 by decide) (show 126 < 127 by decide) (show 1 < 2147483648 by decide), q_bs, q_tl, q_cn, not_true_eq_false, if_false]
  · rw [fLetter, tLetter, qSel_in hj (by decide), qSel_in hj (by decide)]
    by_cases h0 : j = 0
    · refine ⟨H, ?_, by rw [if_pos h0]; exact hq, kFr.rf⟩
      subst h0
      simp only [e98_0, e98_1, e98_2, e98_3, e98_6, e98_9, e98_12, e98_14, show (1 : Int64) = lN 1 from rfl, show (126 : Int64) = lN 126 from rfl, m_no (show 0 < 1 by decide) (show 1 < 2147483648 by decide) (show 126 < 2147483648 by decide), q_bs, q_tl, q_cn, not_true_eq_false, if_false, if_true]
    · rw [if_neg h0, if_neg h0]
      have e15 : ev 98 0 [.ref 27, .int (nI j)] [] H = ev 98 15 [.ref 27, .int (nI j)] [] H := by
        simp only [e98_0, e98_1, e98_2, e98_3, e98_6, e98_9, show (1 : Int64) = lN 1 from rfl, show (126 : Int64) = lN 126 from rfl, m_ok (show 1 ≤ j by omega) (show j ≤ 126 by omega) (show 126 < 2147483648 by decide), q_bs, q_tl, q_cn, t10, not_false_eq_true, if_true]
      rw [e15]
      have e20 : (nI (sn S) = nI 20) = (sn S = 20) := q_eq (by omega) (by decide)
      by_cases hf : sn S = 20
      · rw [if_pos hf, if_pos hf]
        refine ⟨H, ?_, hq, kFr.rf⟩
        simp only [e98_15, e98_16, e98_19, e98_21, e98_24, e98_26, hp.1, show (20 : Int32) = nI 20 from rfl, e20, eq_true hf, not_true_eq_false, if_false]
      · rw [if_neg hf, if_neg hf]
        have f0 : kFr mG H (uI (uI H 28 (sn S) (nI j)) 27 1 (nI (sn S + 1))) := (kFr_uI (by unfold mG; omega)).tr (kFr_uI (by unfold mG; omega))
        refine ⟨uI (uI H 28 (sn S) (nI j)) 27 1 (nI (sn S + 1)), ?_, MR_page f0 hq ⟨hI_uIs _ _ _ _, by omega, fun i hi => ?_⟩, f0.mono (fun _ _ => mG_mC)⟩
        · simp only [e98_15, e98_16, e98_19, e98_21, e98_24, e98_26, e98_27, e98_28, e98_31, e98_32, e98_35, e98_36, e98_37, e98_38, e98_39, e98_42, e98_43, e98_44, e98_47, e98_48, e98_51, hp.1, show (20 : Int32) = nI 20 from rfl, e20, hf, not_false_eq_true, if_true, q_lt0 (show sn S < 2147483648 by omega), q_cl (show sn S < 2147483648 by omega), false_or, show ¬ 20 ≤ sn S by omega, if_false, hI27 (show (28 : Nat) ≠ 27 by decide), nI_1, hI_uIs]
        · rw [hI_uIn (by omega)]
          by_cases e : i = sn S
          · subst e
            rw [hI_uIs, fu_s]
            exact ⟨rfl, by omega⟩
          · rw [hI_uIn (by omega), fu_n e]
            exact hp.2.2 i (by omega)
theorem y_blank (hq : MR H S) : ∃ H1, ev 99 0 [.ref 27, .null] [] H = some (some (.int (nI (sn S))), H1) ∧ MR H1 (ssP S 0 (sg S)) ∧ kFr mC H H1 := by
  have f0 : kFr mG H (uI H 27 1 0) := kFr_uI (by unfold mG; omega)
  refine ⟨uI H 27 1 0, ?_, MR_page f0 hq ⟨hI_uIs _ _ _ _, by omega, fun i hi => absurd hi (by omega)⟩, f0.mono (fun _ _ => mG_mC)⟩
  simp only [e99_0, e99_1, e99_4, e99_5, e99_6, e99_7, e99_10, e99_11, hq.2.1.1]
theorem y_about (hq : MR H S) (ho : sOK S) (c w : Int32) : ev 110 0 [.ref 27, .int c, .int w] [] H = some (some (.int (fAbout (sV S) c w)), H) := by
  have hR := hq.1
  have hV := ho.1
  have h5 := hV.2.1
  unfold fAbout
  rcases q_case c (show vn (sV S) < 2147483648 by omega) with hc | hc | ⟨i, hi, rfl⟩
  · rw [qSel_lo hc]
    simp only [e110_0, e110_1, e110_2, e110_5, e110_8, e110_9, e110_10, e110_11, e110_14, e110_17, e110_19, m_isOne0 hR hV (Or.inl hc), q_bs, q_tl, q_cn, if_true]
  · rw [qSel_hi hc]
    simp only [e110_0, e110_1, e110_2, e110_5, e110_8, e110_9, e110_10, e110_11, e110_14, e110_17, e110_19, m_isOne0 hR hV (Or.inr hc), q_bs, q_tl, q_cn, if_true]
  · rw [qSel_in hi (by omega)]
    have e0 : ∀ r, ev 109 0 [.ref 27, .int (nI i), .int w] [] H = some (some r, H) → ev 110 0 [.ref 27, .int (nI i), .int w] [] H = ev 110 14 [.ref 27, .int (nI i), .int w] [r] H := by
      intro r hr
      simp only [e110_0, e110_1, e110_2, e110_5, e110_8, e110_9, e110_10, e110_11, m_isOne1 hR hV hi, q_bs, q_tl, q_cn, t10, if_false, hr]
    have e1 : ∀ r, ev 109 0 [.ref 27, .int (nI i), .int w] [] H = some (some (.int r), H) → ev 110 0 [.ref 27, .int (nI i), .int w] [] H = some (some (.int r), H) := by
      intro r hr
      rw [e0 _ hr]
      simp only [e110_14, e110_17, e110_19]
    have hq4 : ∀ a, a < 4 → (nI (4 * i + a) < 0) = False ∧ (¬ 20 ≤ 4 * i + a) ∧ (nI (4 * i + a)).toNatClampNeg = 4 * i + a := fun a ha => ⟨q_lt0 (by omega), by omega, q_cl (by omega)⟩
    apply e1
    rcases q_case w (show 5 < 2147483648 by decide) with hw | hw | ⟨k, hk, rfl⟩
    · rw [qSel_lo hw, e109_0, e109_1_d _ _ _ _ (Or.inl (q_toInt_lo hw))]
      simp only [e109_76, e109_78]
    · rw [qSel_hi hw, e109_0, e109_1_d _ _ _ _ (Or.inr (by have := q_toInt_hi (show 5 < 2147483648 by decide) hw; omega))]
      simp only [e109_76, e109_78]
    · rw [qSel_in hk (by decide)]
      rcases (show k = 0 ∨ k = 1 ∨ k = 2 ∨ k = 3 ∨ k = 4 by omega) with rfl | rfl | rfl | rfl | rfl
      · rw [e109_0]
        show ev 109 1 [.ref 27, .int (nI i), .int (nI 0)] [.int 0] H = _
        rw [e109_1_0]
        simp only [e109_36, e109_37, e109_40, e109_41, e109_42, e109_43, e109_44, e109_45, e109_46, show (4 : Int32) = nI 4 from rfl, q_mul, q_add, Nat.add_zero, q_lt0 (show 4 * i < 2147483648 by omega), q_cl (show 4 * i < 2147483648 by omega), show ¬ 20 ≤ 4 * i by omega, or_self, if_false, if_true, MV_k hR hi]
      · rw [e109_0]
        show ev 109 1 [.ref 27, .int (nI i), .int (nI 1)] [.int 1] H = _
        rw [e109_1_1]
        simp only [e109_36, e109_37, e109_40, e109_41, e109_42, e109_43, e109_44, e109_45, e109_46, show (4 : Int32) = nI 4 from rfl, q_mul, q_add, (hq4 1 (by decide)).1, (hq4 1 (by decide)).2.1, (hq4 1 (by decide)).2.2, or_self, if_false, if_true, MV_o hR hi, Nat.one_ne_zero]
      · rw [e109_0]
        show ev 109 1 [.ref 27, .int (nI i), .int (nI 2)] [.int 2] H = _
        rw [e109_1_2]
        simp only [e109_36, e109_37, e109_40, e109_41, e109_42, e109_43, e109_44, e109_45, e109_46, show (4 : Int32) = nI 4 from rfl, q_mul, q_add, (hq4 2 (by decide)).1, (hq4 2 (by decide)).2.1, (hq4 2 (by decide)).2.2, or_self, if_false, if_true, MV_l hR hi, show ¬ (2 : Nat) = 0 by decide, show ¬ (2 : Nat) = 1 by decide]
      · rw [e109_0]
        show ev 109 1 [.ref 27, .int (nI i), .int (nI 3)] [.int 3] H = _
        rw [e109_1_3]
        simp only [e109_47, e109_48, e109_49, e109_50, e109_53, e109_54, e109_57, e109_58, e109_61, e109_64, MV_h hR, MV_t hR, MV_d hR, m_tenths hR hV hi hV.2.2.2.2.2.1, q_bs, q_tl, q_cn, if_true, show ¬ (3 : Nat) = 0 by decide, show ¬ (3 : Nat) = 1 by decide, show ¬ (3 : Nat) = 2 by decide, if_false]
      · rw [e109_0]
        show ev 109 1 [.ref 27, .int (nI i), .int (nI 4)] [.int 4] H = _
        rw [e109_1_4]
        simp only [e109_65, e109_66, e109_69, e109_70, e109_71, e109_72, e109_73, e109_74, e109_75, show (4 : Int32) = nI 4 from rfl, show (3 : Int32) = nI 3 from rfl, q_mul, q_add, (hq4 3 (by decide)).1, (hq4 3 (by decide)).2.1, (hq4 3 (by decide)).2.2, or_self, if_false, MV_r hR hi, show ¬ (4 : Nat) = 0 by decide, show ¬ (4 : Nat) = 1 by decide, show ¬ (4 : Nat) = 2 by decide, show ¬ (4 : Nat) = 3 by decide]
theorem y_as (hq : MR H S) (ho : sOK S) (c w : Int32) : ev 111 0 [.ref 27, .int c, .int w, .null, .null] [] H = some (some (.int (fAs (sV S) c w)), H) := by
  have hR := hq.1
  have hV := ho.1
  have h5 := hV.2.1
  unfold fAs
  rcases q_case c (show vn (sV S) < 2147483648 by omega) with hc | hc | ⟨i, hi, rfl⟩
  · rw [qSel_lo hc]
    simp only [e111_0, e111_1, e111_2, e111_5, e111_8, e111_10, m_isOne0 hR hV (Or.inl hc), q_bs, q_tl, q_cn, not_true_eq_false, if_false]
  · rw [qSel_hi hc]
    simp only [e111_0, e111_1, e111_2, e111_5, e111_8, e111_10, m_isOne0 hR hV (Or.inr hc), q_bs, q_tl, q_cn, not_true_eq_false, if_false]
  · rw [qSel_in hi (by omega)]
    have hk5 := (hV.2.2.1 i hi).1
    have e11 : ev 111 0 [.ref 27, .int (nI i), .int w, .null, .null] [] H = ev 111 11 [.ref 27, .int (nI i), .int w, .null, .null] [] H := by
      simp only [e111_0, e111_1, e111_2, e111_5, m_isOne1 hR hV hi, q_bs, q_tl, q_cn, t10, not_false_eq_true, if_true]
    rw [e11]
    rcases q_case w (show 5 < 2147483648 by decide) with hw | hw | ⟨k, hk0, rfl⟩
    · rw [qSel_lo hw]
      simp only [e111_11, e111_12, e111_13, e111_14, e111_17, e111_20, e111_23, e111_25, show (0 : Int64) = lN 0 from rfl, show (4 : Int64) = lN 4 from rfl, m_lo hw (show 0 < 2147483648 by decide) (show 4 < 2147483648 by decide), q_bs, q_tl, q_cn, not_true_eq_false, if_false]
    · rw [qSel_hi hw]
      simp only [e111_11, e111_12, e111_13, e111_14, e111_17, e111_20, e111_23, e111_25, show (0 : Int64) = lN 0 from rfl, show (4 : Int64) = lN 4 from rfl, m_hi hw (show 5 < 2147483648 by decide) (show 4 < 5 by decide) (show 0 < 2147483648 by decide), q_bs, q_tl, q_cn, not_true_eq_false, if_false]
    · rw [qSel_in hk0 (by decide)]
      have e35 : ev 111 11 [.ref 27, .int (nI i), .int (nI k), .null, .null] [] H = ev 111 35 [.ref 27, .int (nI i), .int (nI k), .int (nI (vk (sV S) i)), .null] [] H := by
        simp only [e111_11, e111_12, e111_13, e111_14, e111_17, e111_20, e111_23, e111_25, e111_26, e111_27, e111_30, e111_31, e111_32, e111_33, e111_34, show (0 : Int64) = lN 0 from rfl, show (4 : Int64) = lN 4 from rfl, m_ok (show 0 ≤ k by omega) (show k ≤ 4 by omega) (show 4 < 2147483648 by decide), q_bs, q_tl, q_cn, t10, not_false_eq_true, if_true, show (4 : Int32) = nI 4 from rfl, q_mul, q_lt0 (show 4 * i < 2147483648 by omega), q_cl (show 4 * i < 2147483648 by omega), show ¬ 20 ≤ 4 * i by omega, or_self, if_false, MV_k hR hi]
      rw [e35]
      have ek0 : (nI k = 0) = (k = 0) := q_n0' (by omega)
      have ekk : (nI k = nI (vk (sV S) i)) = (k = vk (sV S) i) := q_eq (by omega) (by omega)
      have ek2 : (nI k = 2) = (k = 2) := q_eq (b := 2) (by omega) (by decide)
      have ev4 : (nI (vk (sV S) i) = 4) = (vk (sV S) i = 4) := q_eq (b := 4) (by omega) (by decide)
      unfold qIs
      by_cases a0 : k = 0
      · rw [if_pos (decide_eq_true (Or.inl a0))]
        simp only [e111_35, e111_36, e111_39, e111_40, e111_41, e111_44, e111_45, e111_46, e111_49, e111_50, e111_51, e111_54, e111_55, e111_58, e111_59, e111_61, e111_63, e111_66, e111_67, e111_70, e111_71, ek0, eq_true a0, if_true, t10, if_false]
      · by_cases a1 : k = vk (sV S) i
        · rw [if_pos (decide_eq_true (Or.inr (Or.inl a1.symm)))]
          simp only [e111_35, e111_36, e111_39, e111_40, e111_41, e111_44, e111_45, e111_46, e111_49, e111_50, e111_51, e111_54, e111_55, e111_58, e111_59, e111_61, e111_63, e111_66, e111_67, e111_70, e111_71, ek0, a0, ekk, eq_true a1, if_true, t10, if_false]
        · by_cases a2 : k = 2
          · by_cases a4 : vk (sV S) i = 4
            · rw [if_pos (decide_eq_true (Or.inr (Or.inr ⟨a2, a4⟩)))]
              simp only [e111_35, e111_36, e111_39, e111_40, e111_41, e111_44, e111_45, e111_46, e111_49, e111_50, e111_51, e111_54, e111_55, e111_58, e111_59, e111_61, e111_63, e111_66, e111_67, e111_70, e111_71, ek0, a0, ekk, a1, ek2, eq_true a2, ev4, eq_true a4, not_true_eq_false, if_true, t10, if_false]
            · rw [if_neg (fun z => (of_decide_eq_true z).elim a0 (fun y => y.elim (fun x => a1 x.symm) (fun x => a4 x.2)))]
              simp only [e111_35, e111_36, e111_39, e111_40, e111_41, e111_44, e111_45, e111_46, e111_49, e111_50, e111_51, e111_54, e111_55, e111_58, e111_59, e111_61, e111_63, e111_66, e111_67, e111_70, e111_71, ek0, a0, ekk, a1, ek2, eq_true a2, ev4, a4, not_true_eq_false, not_false_eq_true, if_true, if_false]
          · rw [if_neg (fun z => (of_decide_eq_true z).elim a0 (fun y => y.elim (fun x => a1 x.symm) (fun x => a2 x.1)))]
            simp only [e111_35, e111_36, e111_39, e111_40, e111_41, e111_44, e111_45, e111_46, e111_49, e111_50, e111_51, e111_54, e111_55, e111_58, e111_59, e111_61, e111_63, e111_66, e111_67, e111_70, e111_71, ek0, a0, ekk, a1, ek2, a2, not_true_eq_false, not_false_eq_true, if_true, if_false]
theorem MV_no {V : kV} (hv : MV H V) {c v : Nat} : MV (uI H 29 (4 * c + 1) (nI v)) (vsO V c v) := by
  obtain ⟨a1, a2, a3, a4, a5, a6, a7, a8⟩ := hv
  refine ⟨by rw [hI_uIn (by omega)]; exact a1, fun j hj => ?_, by rw [hI_uIn (by omega)]; exact a3, by rw [hI_uIn (by omega)]; exact a4, by rw [hI_uIn (by omega)]; exact a5, by rw [hI_uIn (by omega)]; exact a6, by rw [hI_uIn (by omega)]; exact a7, fun j hj => by rw [hI_uIn (by omega)]; exact a8 j hj⟩
  obtain ⟨b1, b2, b3, b4⟩ := a2 j hj
  refine ⟨by rw [hI_uIn (by omega)]; exact b1, ?_, by rw [hI_uIn (by omega)]; exact b3, by rw [hI_uIn (by omega)]; exact b4⟩
  show _ = nI (fu (vo V) c v j)
  by_cases e : j = c
  · subst e
    rw [hI_uIs, fu_s]
  · rw [hI_uIn (by omega), fu_n e]
    exact b2
theorem MV_la {V : kV} (hv : MV H V) {c v : Nat} : MV (uI H 29 (4 * c + 2) (nI v)) (vsL V c v) := by
  obtain ⟨a1, a2, a3, a4, a5, a6, a7, a8⟩ := hv
  refine ⟨by rw [hI_uIn (by omega)]; exact a1, fun j hj => ?_, by rw [hI_uIn (by omega)]; exact a3, by rw [hI_uIn (by omega)]; exact a4, by rw [hI_uIn (by omega)]; exact a5, by rw [hI_uIn (by omega)]; exact a6, by rw [hI_uIn (by omega)]; exact a7, fun j hj => by rw [hI_uIn (by omega)]; exact a8 j hj⟩
  obtain ⟨b1, b2, b3, b4⟩ := a2 j hj
  refine ⟨by rw [hI_uIn (by omega)]; exact b1, by rw [hI_uIn (by omega)]; exact b2, ?_, by rw [hI_uIn (by omega)]; exact b4⟩
  show _ = nI (fu (vl V) c v j)
  by_cases e : j = c
  · subst e
    rw [hI_uIs, fu_s]
  · rw [hI_uIn (by omega), fu_n e]
    exact b3
theorem MV_dr {V : kV} (hv : MV H V) {v : Int32} : MV (uI H 27 3 v) (vsD V v) := by
  obtain ⟨a1, a2, a3, a4, a5, a6, a7, a8⟩ := hv
  exact ⟨by rw [hI_uIn (by omega)]; exact a1, fun j hj => by rw [hI_uIn (by omega), hI_uIn (by omega), hI_uIn (by omega), hI_uIn (by omega)]; exact a2 j hj, hI_uIs _ _ _ _, by rw [hI_uIn (by omega)]; exact a4, by rw [hI_uIn (by omega)]; exact a5, by rw [hI_uIn (by omega)]; exact a6, by rw [hI_uIn (by omega)]; exact a7, fun j hj => by rw [hI_uIn (by omega)]; exact a8 j hj⟩
theorem MV_pe {V : kV} (hv : MV H V) {v : Int32} : MV (uI H 27 4 v) (vsP V v) := by
  obtain ⟨a1, a2, a3, a4, a5, a6, a7, a8⟩ := hv
  exact ⟨by rw [hI_uIn (by omega)]; exact a1, fun j hj => by rw [hI_uIn (by omega), hI_uIn (by omega), hI_uIn (by omega), hI_uIn (by omega)]; exact a2 j hj, by rw [hI_uIn (by omega)]; exact a3, hI_uIs _ _ _ _, by rw [hI_uIn (by omega)]; exact a5, by rw [hI_uIn (by omega)]; exact a6, by rw [hI_uIn (by omega)]; exact a7, fun j hj => by rw [hI_uIn (by omega)]; exact a8 j hj⟩
theorem MR_self (hq : MR H S) : MR H (ssV S (sV S)) := hq
theorem y_nose (hq : MR H S) (ho : sOK S) (c v : Int32) : ∃ H1, ev 112 0 [.ref 27, .int c, .int v, .null] [] H = some (some (.int (fNose (sV S) c v)), H1) ∧ MR H1 (ssV S (tNose (sV S) c v)) ∧ kFr mC H H1 := by
  have hR := hq.1
  have hV := ho.1
  have h5 := hV.2.1
  unfold fNose tNose
  rcases q_case c (show vn (sV S) < 2147483648 by omega) with hc | hc | ⟨i, hi, rfl⟩
  · rw [qSel_lo hc, qSel_lo hc]
    refine ⟨H, ?_, MR_self hq, kFr.rf⟩
    simp only [e112_0, e112_1, e112_2, e112_5, e112_8, e112_10, m_isOne0 hR hV (Or.inl hc), q_bs, q_tl, q_cn, not_true_eq_false, if_false]
  · rw [qSel_hi hc, qSel_hi hc]
    refine ⟨H, ?_, MR_self hq, kFr.rf⟩
    simp only [e112_0, e112_1, e112_2, e112_5, e112_8, e112_10, m_isOne0 hR hV (Or.inr hc), q_bs, q_tl, q_cn, not_true_eq_false, if_false]
  · rw [qSel_in hi (by omega), qSel_in hi (by omega)]
    have e11 : ev 112 0 [.ref 27, .int (nI i), .int v, .null] [] H = ev 112 11 [.ref 27, .int (nI i), .int v, .null] [] H := by
      simp only [e112_0, e112_1, e112_2, e112_5, m_isOne1 hR hV hi, q_bs, q_tl, q_cn, t10, not_false_eq_true, if_true]
    rw [e11]
    rcases q_case v (show 10 < 2147483648 by decide) with hw | hw | ⟨k, hk0, rfl⟩
    · rw [qSel_lo hw, qSel_lo hw]
      refine ⟨H, ?_, MR_self hq, kFr.rf⟩
      simp only [e112_11, e112_12, e112_13, e112_14, e112_17, e112_20, e112_23, e112_25, show (0 : Int64) = lN 0 from rfl, show (9 : Int64) = lN 9 from rfl, m_lo hw (show 0 < 2147483648 by decide) (show 9 < 2147483648 by decide), q_bs, q_tl, q_cn, not_true_eq_false, if_false]
    · rw [qSel_hi hw, qSel_hi hw]
      refine ⟨H, ?_, MR_self hq, kFr.rf⟩
      simp only [e112_11, e112_12, e112_13, e112_14, e112_17, e112_20, e112_23, e112_25, show (0 : Int64) = lN 0 from rfl, show (9 : Int64) = lN 9 from rfl, m_hi hw (show 10 < 2147483648 by decide) (show 9 < 10 by decide) (show 0 < 2147483648 by decide), q_bs, q_tl, q_cn, not_true_eq_false, if_false]
    · rw [qSel_in hk0 (by decide), qSel_in hk0 (by decide)]
      refine ⟨uI H 29 (4 * i + 1) (nI k), ?_, MR_now (kFr_uI (by unfold mN; omega)) hq (MV_no hR), kFr_uI (by unfold mC; omega)⟩
      simp only [e112_11, e112_12, e112_13, e112_14, e112_17, e112_20, e112_23, e112_25, e112_26, e112_27, e112_30, e112_31, e112_32, e112_33, e112_34, e112_35, e112_36, e112_37, e112_38, e112_41, e112_42, e112_43, e112_44, e112_45, e112_46, e112_47, e112_48, e112_49, show (0 : Int64) = lN 0 from rfl, show (9 : Int64) = lN 9 from rfl, m_ok (show 0 ≤ k by omega) (show k ≤ 9 by omega) (show 9 < 2147483648 by decide), q_bs, q_tl, q_cn, t10, not_false_eq_true, if_true, show (4 : Int32) = nI 4 from rfl, q_mul, nI_1, q_lt0 (show 4 * i + 1 < 2147483648 by omega), q_cl (show 4 * i + 1 < 2147483648 by omega), show ¬ 20 ≤ 4 * i + 1 by omega, or_self, if_false, MV_o hR hi]
theorem y_bribe (hq : MR H S) (ho : sOK S) (c v : Int32) : ∃ H1, ev 113 0 [.ref 27, .int c, .int v, .null] [] H = some (some (.int (fBribe (sV S) c v)), H1) ∧ MR H1 (ssV S (tBribe (sV S) c v)) ∧ kFr mC H H1 := by
  have hR := hq.1
  have hV := ho.1
  have h5 := hV.2.1
  unfold fBribe tBribe
  rcases q_case c (show vn (sV S) < 2147483648 by omega) with hc | hc | ⟨i, hi, rfl⟩
  · rw [qSel_lo hc, qSel_lo hc]
    refine ⟨H, ?_, MR_self hq, kFr.rf⟩
    simp only [e113_0, e113_1, e113_2, e113_5, e113_8, e113_10, m_isOne0 hR hV (Or.inl hc), q_bs, q_tl, q_cn, not_true_eq_false, if_false]
  · rw [qSel_hi hc, qSel_hi hc]
    refine ⟨H, ?_, MR_self hq, kFr.rf⟩
    simp only [e113_0, e113_1, e113_2, e113_5, e113_8, e113_10, m_isOne0 hR hV (Or.inr hc), q_bs, q_tl, q_cn, not_true_eq_false, if_false]
  · rw [qSel_in hi (by omega), qSel_in hi (by omega)]
    have e11 : ev 113 0 [.ref 27, .int (nI i), .int v, .null] [] H = ev 113 11 [.ref 27, .int (nI i), .int v, .null] [] H := by
      simp only [e113_0, e113_1, e113_2, e113_5, m_isOne1 hR hV hi, q_bs, q_tl, q_cn, t10, not_false_eq_true, if_true]
    rw [e11]
    rcases q_case v (show 6 < 2147483648 by decide) with hw | hw | ⟨k, hk0, rfl⟩
    · rw [qSel_lo hw, qSel_lo hw]
      refine ⟨H, ?_, MR_self hq, kFr.rf⟩
      simp only [e113_11, e113_12, e113_15, e113_18, e113_20, m_isLaw_lo hw, q_bs, q_tl, q_cn, not_true_eq_false, if_false]
    · rw [qSel_hi hw, qSel_hi hw]
      refine ⟨H, ?_, MR_self hq, kFr.rf⟩
      simp only [e113_11, e113_12, e113_15, e113_18, e113_20, m_isLaw_hi hw, q_bs, q_tl, q_cn, not_true_eq_false, if_false]
    · rw [qSel_in hk0 (by decide), qSel_in hk0 (by decide)]
      refine ⟨uI H 29 (4 * i + 2) (nI k), ?_, MR_now (kFr_uI (by unfold mN; omega)) hq (MV_la hR), kFr_uI (by unfold mC; omega)⟩
      simp only [e113_11, e113_12, e113_15, e113_18, e113_20, e113_21, e113_22, e113_25, e113_26, e113_27, e113_28, e113_29, e113_30, e113_31, e113_32, e113_33, e113_36, e113_37, e113_38, e113_39, e113_40, e113_41, e113_42, e113_43, e113_44, m_isLaw_in hk0, q_bs, q_tl, q_cn, t10, not_false_eq_true, if_true, show (4 : Int32) = nI 4 from rfl, show (2 : Int32) = nI 2 from rfl, q_mul, q_add, q_lt0 (show 4 * i + 2 < 2147483648 by omega), q_cl (show 4 * i + 2 < 2147483648 by omega), show ¬ 20 ≤ 4 * i + 2 by omega, or_self, if_false, MV_l hR hi]
theorem y_draught (hq : MR H S) (ho : sOK S) (c : Int32) : ∃ H1, ev 114 0 [.ref 27, .int c, .null] [] H = some (some (.int (fDraught (sV S) c)), H1) ∧ MR H1 (ssV S (tDraught (sV S) c)) ∧ kFr mC H H1 := by
  have hR := hq.1
  have hV := ho.1
  have h5 := hV.2.1
  unfold fDraught tDraught
  by_cases hm : c = -1
  · rw [if_pos hm, if_pos hm]
    subst hm
    by_cases h0 : vn (sV S) = 0
    · rw [if_pos h0, if_pos h0]
      refine ⟨H, ?_, MR_self hq, kFr.rf⟩
      simp only [e114_0, e114_1, e114_2, e114_5, e114_6, e114_7, e114_10, e114_13, e114_15, e114_16, e114_17, e114_20, e114_23, e114_25, e114_26, e114_27, e114_30, e114_31, e114_32, e114_33, e114_36, e114_37, tm1, if_true, m_lacks0 hR hV h0, q_bs, q_tl, q_cn, t10, if_false]
    · rw [if_neg h0, if_neg h0]
      refine ⟨uI H 27 3 (-1), ?_, MR_now (kFr_uI (by unfold mN; omega)) hq (MV_dr hR), kFr_uI (by unfold mC; omega)⟩
      simp only [e114_0, e114_1, e114_2, e114_5, e114_6, e114_7, e114_10, e114_13, e114_15, e114_16, e114_17, e114_20, e114_23, e114_25, e114_26, e114_27, e114_30, e114_31, e114_32, e114_33, e114_36, e114_37, tm1, if_true, m_lacks1 hR hV h0, q_bs, q_tl, q_cn, MV_d hR]
  · rw [if_neg hm, if_neg hm]
    rcases q_case c (show vn (sV S) < 2147483648 by omega) with hc | hc | ⟨i, hi, rfl⟩
    · rw [qSel_lo hc, qSel_lo hc]
      refine ⟨H, ?_, MR_self hq, kFr.rf⟩
      simp only [e114_0, e114_1, e114_2, e114_5, e114_6, e114_7, e114_10, e114_13, e114_15, e114_16, e114_17, e114_20, e114_23, e114_25, e114_26, e114_27, e114_30, e114_31, e114_32, e114_33, e114_36, e114_37, hm, m_isOne0 hR hV (Or.inl hc), q_bs, q_tl, q_cn, not_true_eq_false, if_false]
    · rw [qSel_hi hc, qSel_hi hc]
      refine ⟨H, ?_, MR_self hq, kFr.rf⟩
      simp only [e114_0, e114_1, e114_2, e114_5, e114_6, e114_7, e114_10, e114_13, e114_15, e114_16, e114_17, e114_20, e114_23, e114_25, e114_26, e114_27, e114_30, e114_31, e114_32, e114_33, e114_36, e114_37, hm, m_isOne0 hR hV (Or.inr hc), q_bs, q_tl, q_cn, not_true_eq_false, if_false]
    · rw [qSel_in hi (by omega), qSel_in hi (by omega)]
      refine ⟨uI H 27 3 (nI i), ?_, MR_now (kFr_uI (by unfold mN; omega)) hq (MV_dr hR), kFr_uI (by unfold mC; omega)⟩
      simp only [e114_0, e114_1, e114_2, e114_5, e114_6, e114_7, e114_10, e114_13, e114_15, e114_16, e114_17, e114_20, e114_23, e114_25, e114_26, e114_27, e114_30, e114_31, e114_32, e114_33, e114_36, e114_37, hm, if_false, m_isOne1 hR hV hi, t10, not_false_eq_true, if_true, m_lacks1 hR hV (show ¬ vn (sV S) = 0 by omega), q_bs, q_tl, q_cn, MV_d hR]
theorem y_pepper (hq : MR H S) (ho : sOK S) {b : Int32} (hb : b = 0 ∨ b = 1) : ∃ H1, ev 115 0 [.ref 27, .int b, .null] [] H = some (some (.int (fPepper (sV S))), H1) ∧ MR H1 (ssV S (tPepper (sV S) b)) ∧ kFr mC H H1 := by
  have hR := hq.1
  have hV := ho.1
  unfold fPepper tPepper
  by_cases h0 : vn (sV S) = 0
  · rw [if_pos h0, if_pos h0]
    refine ⟨H, ?_, MR_self hq, kFr.rf⟩
    simp only [e115_0, e115_1, e115_4, e115_7, e115_9, m_lacks0 hR hV h0, q_bs, q_tl, q_cn, t10, if_false]
  · rw [if_neg h0, if_neg h0]
    refine ⟨uI H 27 4 b, ?_, MR_now (kFr_uI (by unfold mN; omega)) hq (MV_pe hR), kFr_uI (by unfold mC; omega)⟩
    rcases hb with rfl | rfl
    · simp only [e115_0, e115_1, e115_4, e115_7, e115_9, e115_10, e115_11, e115_14, e115_15, e115_16, e115_17, e115_20, e115_21, e115_24, e115_25, e115_28, e115_29, m_lacks1 hR hV h0, q_bs, q_tl, q_cn, if_true, MV_p hR]
    · simp only [e115_0, e115_1, e115_4, e115_7, e115_9, e115_10, e115_11, e115_14, e115_15, e115_16, e115_17, e115_20, e115_21, e115_24, e115_25, e115_28, e115_29, m_lacks1 hR hV h0, q_bs, q_tl, q_cn, if_true, t10, if_false, MV_p hR]
theorem y_laws (hq : MR H S) : ev 121 0 [.ref 27] [] H = some (some (.int (nI (vh (sV S)))), H) := by
  simp only [e121_0, e121_1, e121_4, MV_h hq.1]
/-- the page read into the model's rows -/
theorem l_mread {n q : Nat} {g : Nat → Nat} (hq : qCS n g = q) (hq0 : q ≠ 0) : ∀ i j H, mP H n g → hI H 27 2 = nI q → j + i = q → ∃ H', ev 104 47 [.ref 27, .int (nI j)] [] H = ev 104 137 [.ref 27, .int (nI q)] [] H' ∧ kFr (fun k _ => k = 29) H H' ∧
    (∀ c, j ≤ c → c < q → hI H' 29 (4 * c) = nI (qKd (g (4 * c))) ∧ hI H' 29 (4 * c + 1) = nI (g (4 * c + 1) - 48) ∧ hI H' 29 (4 * c + 2) = nI (g (4 * c + 2) - 48) ∧ hI H' 29 (4 * c + 3) = 0) ∧ ∀ c, c < j → hI H' 29 (4 * c) = hI H 29 (4 * c) ∧ hI H' 29 (4 * c + 1) = hI H 29 (4 * c + 1) ∧ hI H' 29 (4 * c + 2) = hI H 29 (4 * c + 2) ∧ hI H' 29 (4 * c + 3) = hI H 29 (4 * c + 3) := by
  intro i
  induction i with
  | zero =>
    intro j H hP h6 hj
    have : j = q := by omega
    subst this
    refine ⟨H, ?_, kFr.rf, fun c h1 h2 => absurd h2 (by omega), fun _ _ => ⟨rfl, rfl, rfl, rfl⟩⟩
    rw [e104_47]
    simp only [e104_48, e104_49, e104_52, h6, Std.le_refl, if_true]
  | succ i ih =>
    intro j H hP h6 hj
    have h20 := hP.2.1
    obtain ⟨hn, h3, h5, hB⟩ := qCS_in h20 (by rw [hq]; exact hq0)
    rw [hq] at hn h3 h5
    have b0 := qB_0 (hB (4 * j) (by omega)) (by omega)
    have b1 := qB_1 (hB (4 * j + 1) (by omega)) (by omega)
    have b2 := qB_2 (hB (4 * j + 2) (by omega)) (by omega)
    have p0 := hP.2.2 (4 * j) (by omega)
    have p1 := hP.2.2 (4 * j + 1) (by omega)
    have p2 := hP.2.2 (4 * j + 2) (by omega)
    have F : kFr (fun k _ => k = 29) H (uI (uI (uI (uI H 29 (4 * j) (nI (qKd (g (4 * j))))) 29 (4 * j + 1) (nI (g (4 * j + 1) - 48))) 29 (4 * j + 2) (nI (g (4 * j + 2) - 48))) 29 (4 * j + 3) 0) := (((kFr_uI (P := fun k _ => k = 29) rfl).tr (kFr_uI (P := fun k _ => k = 29) rfl)).tr (kFr_uI (P := fun k _ => k = 29) rfl)).tr (kFr_uI (P := fun k _ => k = 29) rfl)
    obtain ⟨H', e1, f1, g1, k1⟩ := ih (j + 1) _ (mP_fr F (fun k j z => by unfold mG at z; omega) hP) (((F 27 2 (by omega)).1).trans h6) (by omega)
    have u28 : ∀ (H : kH) (a b : Nat) (v : Int32), hI (uI H 29 a v) 28 b = hI H 28 b := fun H a b v => hI_uIn (by omega)
    refine ⟨H', ?_, F.tr f1, fun c h1 h2 => ?_, fun c hc => ?_⟩
    · rw [← e1, e104_47]
      simp only [e104_48, e104_49, e104_52, e104_55, e104_56, e104_59, e104_60, e104_61, e104_62, e104_63, e104_66, e104_67, e104_68, e104_69, e104_70, e104_73, e104_74, e104_75, e104_78, e104_79, e104_80, e104_81, e104_82, e104_83, e104_84, e104_87, e104_88, e104_89, e104_90, e104_91, e104_92, e104_93, e104_95, e104_96, e104_97, e104_98, e104_101, e104_102, e104_103, e104_104, e104_105, e104_106, e104_107, e104_110, e104_111, e104_112, e104_113, e104_114, e104_115, e104_116, e104_118, e104_119, e104_120, e104_121, e104_124, e104_125, e104_126, e104_127, e104_128, e104_129, e104_130, e104_131, e104_134, h6, q_le (show q < 2147483648 by omega) (show j < 2147483648 by omega), show ¬ q ≤ j by omega, if_false, show (4 : Int32) = nI 4 from rfl, q_mul, nI_1, show (2 : Int32) = nI 2 from rfl, show (3 : Int32) = nI 3 from rfl, q_add, u28, q_lt0 (show 4 * j < 2147483648 by omega), q_cl (show 4 * j < 2147483648 by omega), show ¬ 20 ≤ 4 * j by omega, q_lt0 (show 4 * j + 1 < 2147483648 by omega), q_cl (show 4 * j + 1 < 2147483648 by omega), show ¬ 20 ≤ 4 * j + 1 by omega, q_lt0 (show 4 * j + 2 < 2147483648 by omega), q_cl (show 4 * j + 2 < 2147483648 by omega), show ¬ 20 ≤ 4 * j + 2 by omega, q_lt0 (show 4 * j + 3 < 2147483648 by omega), q_cl (show 4 * j + 3 < 2147483648 by omega), show ¬ 20 ≤ 4 * j + 3 by omega, or_self, if_false, p0.1, m_kindBy p0.2, b0, q_bs, q_tl, q_cn, p1.1, p2.1, show (48 : Int32) = nI 48 from rfl, q_sub b1.1, q_sub b2.1]
    · by_cases e : c = j
      · subst e
        obtain ⟨z1, z2, z3, z4⟩ := k1 c (by omega)
        refine ⟨?_, ?_, ?_, ?_⟩
        · rw [z1, hI_uIn (by omega), hI_uIn (by omega), hI_uIn (by omega), hI_uIs]
        · rw [z2, hI_uIn (by omega), hI_uIn (by omega), hI_uIs]
        · rw [z3, hI_uIn (by omega), hI_uIs]
        · rw [z4, hI_uIs]
      · exact g1 c (by omega) h2
    · obtain ⟨z1, z2, z3, z4⟩ := k1 c (by omega)
      refine ⟨?_, ?_, ?_, ?_⟩
      · rw [z1, hI_uIn (by omega), hI_uIn (by omega), hI_uIn (by omega), hI_uIn (by omega)]
      · rw [z2, hI_uIn (by omega), hI_uIn (by omega), hI_uIn (by omega), hI_uIn (by omega)]
      · rw [z3, hI_uIn (by omega), hI_uIn (by omega), hI_uIn (by omega), hI_uIn (by omega)]
      · rw [z4, hI_uIn (by omega), hI_uIn (by omega), hI_uIn (by omega), hI_uIn (by omega)]
theorem y_council (hq : MR H S) (ho : sOK S) : ∃ H1, ev 104 0 [.ref 27, .null] [] H = some (some (.int (fCouncil S)), H1) ∧ MR H1 (tCouncil S) ∧ kFr mC H H1 := by
  have hP := hq.2.1
  have h20 := hP.2.1
  obtain ⟨-, hw⟩ := qW_le (sg S) (sn S) 0
  have e1 := q_lt (show qW (sg S) (sn S) 0 < 2147483648 by omega) (show sn S < 2147483648 by omega)
  have z4 : ((4 : Int32) = 0) = False := eq_false (by decide)
  have e3 : (nI (sn S % 4) = nI 3) = (sn S % 4 = 3) := q_eq (by omega) (by decide)
  have e11 : (nI 11 ≤ nI (sn S)) = (11 ≤ sn S) := q_le (by decide) (by omega)
  unfold fCouncil tCouncil
  by_cases h0 : qCS (sn S) (sg S) = 0
  · rw [if_pos h0, if_pos h0]
    refine ⟨H, ?_, hq, kFr.rf⟩
    have h00 : ¬ (sn S % 4 = 3 ∧ qW (sg S) (sn S) 0 = sn S ∧ 11 ≤ sn S) := by
      intro z
      unfold qCS at h0
      rw [if_pos z] at h0
      omega
    by_cases a1 : qW (sg S) (sn S) 0 < sn S
    · simp only [e104_0, e104_1, e104_4, e104_5, e104_8, e104_11, e104_12, e104_15, e104_16, e104_17, e104_18, e104_21, e104_22, e104_25, e104_27, e104_30, e104_32, m_faultOf hP, hP.1, e1, a1, if_true, q_bs, q_tl, q_cn]
    · by_cases a2 : sn S % 4 = 3
      · have a3 : ¬ 11 ≤ sn S := fun z => h00 ⟨a2, by omega, z⟩
        simp only [e104_0, e104_1, e104_4, e104_5, e104_8, e104_11, e104_12, e104_15, e104_16, e104_17, e104_18, e104_21, e104_22, e104_25, e104_27, e104_30, e104_32, m_faultOf hP, hP.1, e1, a1, if_false, q_bs, q_tl, q_cn, z4, q_rem4 (show sn S < 2147483648 by omega), show (3 : Int32) = nI 3 from rfl, e3, eq_true a2, not_true_eq_false, show (11 : Int32) = nI 11 from rfl, e11, a3]
      · simp only [e104_0, e104_1, e104_4, e104_5, e104_8, e104_11, e104_12, e104_15, e104_16, e104_17, e104_18, e104_21, e104_22, e104_25, e104_27, e104_30, e104_32, m_faultOf hP, hP.1, e1, a1, if_false, q_bs, q_tl, q_cn, z4, q_rem4 (show sn S < 2147483648 by omega), show (3 : Int32) = nI 3 from rfl, e3, a2, not_false_eq_true, if_true]
  · rw [if_neg h0, if_neg h0]
    obtain ⟨hn, h3, h5, hB⟩ := qCS_in h20 h0
    have a4 : sn S % 4 = 3 ∧ qW (sg S) (sn S) 0 = sn S ∧ 11 ≤ sn S := by
      refine Classical.byContradiction (fun z => h0 ?_)
      unfold qCS
      rw [if_neg z]
    have hqs : sn S / 4 + 1 = qCS (sn S) (sg S) := by omega
    have hd : nI (sn S) / nI 4 = nI (sn S / 4) := pk_div (by omega) (by decide) (by decide)
    have f0 : kFr (fun k j => k = 27 ∧ j = 2) H (uI H 27 2 (nI (qCS (sn S) (sg S)))) := kFr_uI (P := fun k j => k = 27 ∧ j = 2) ⟨rfl, rfl⟩
    obtain ⟨H1, e2, f1, g1, -⟩ := l_mread rfl h0 (qCS (sn S) (sg S)) 0 _ (mP_fr f0 (fun k j z => by unfold mG at z; omega) hP) (hI_uIs _ _ _ _) (by omega)
    have n27 : ∀ {H : kH} {a b : Nat} {v : Int32}, a ≠ b → hI (uI H 27 b v) 27 a = hI H 27 a := fun {H a b v} z => hI_uIn (fun y => z y.2)
    have n29 : ∀ {H : kH} {a b : Nat} {v : Int32}, hI (uI H 27 b v) 29 a = hI H 29 a := fun {H a b v} => hI_uIn (by omega)
    have i2 : hI H1 27 2 = nI (qCS (sn S) (sg S)) := ((f1 27 2 (by omega)).1).trans (hI_uIs _ _ _ _)
    have i7 : hI H1 27 7 = nI (sr S) := by
      rw [(f1 27 7 (by omega)).1, hI_uIn (by omega)]
      exact hq.2.2.1
    have F : kFr (fun k j => (k = 27 ∧ (j < 8 ∨ j = 13)) ∨ k = 29) H (uI (uI (uI (uI (uI (uI (uI H1 27 3 (-1)) 27 4 0) 27 5 0) 27 6 0) 27 13 0) 27 7 (nI (sr S + 1))) 27 1 0) := ((((((((f0.mono (fun k j z => by omega)).tr (f1.mono (fun k j z => by omega))).tr (kFr_uI (by omega))).tr (kFr_uI (by omega))).tr (kFr_uI (by omega))).tr (kFr_uI (by omega))).tr (kFr_uI (by omega))).tr (kFr_uI (by omega))).tr (kFr_uI (by omega))
    refine ⟨uI (uI (uI (uI (uI (uI (uI H1 27 3 (-1)) 27 4 0) 27 5 0) 27 6 0) 27 13 0) 27 7 (nI (sr S + 1))) 27 1 0, ?_, ⟨⟨?_, fun j hj => ?_, ?_, ?_, ?_, ?_, ?_, fun j hj => absurd hj (Nat.not_lt_zero j)⟩, ⟨hI_uIs _ _ _ _, by show (0 : Nat) ≤ 20; decide, fun j hj => absurd hj (Nat.not_lt_zero j)⟩, ?_, fun z => absurd (show (0 : Nat) = 1 from z) (by decide), fun _ => ?_⟩, F.mono (fun k j z => by unfold mC; omega)⟩
    · have ea : ev 104 0 [.ref 27, .null] [] H = ev 104 47 [.ref 27, .int (nI 0)] [] (uI H 27 2 (nI (qCS (sn S) (sg S)))) := by
        simp only [e104_0, e104_1, e104_4, e104_5, e104_8, e104_11, e104_12, e104_15, e104_16, e104_17, e104_18, e104_21, e104_22, e104_25, e104_27, e104_30, e104_32, e104_33, e104_34, e104_35, e104_38, e104_39, e104_40, e104_41, e104_42, e104_45, e104_46, m_faultOf hP, hP.1, e1, show ¬ qW (sg S) (sn S) 0 < sn S by omega, if_false, q_bs, q_tl, q_cn, z4, show (4 : Int32) = nI 4 from rfl, show (nI 4 = 0) = False from eq_false (by decide), hd, nI_1, hqs, show (3 : Int32) = nI 3 from rfl, show nI (sn S) - nI (sn S / 4) * nI 4 = nI (sn S % 4) from by rw [← hd]; exact pk_rem (by omega) (by decide) (by decide), e3, eq_true a4.1, not_true_eq_false, show (11 : Int32) = nI 11 from rfl, e11, eq_true a4.2.2, if_true]
        rfl
      rw [ea, e2]
      simp only [e104_137, e104_138, e104_139, e104_142, e104_143, e104_144, e104_147, e104_148, e104_149, e104_152, e104_153, e104_154, e104_157, e104_158, e104_159, e104_162, e104_163, e104_164, e104_167, e104_168, e104_169, e104_172, e104_173, e104_174, e104_177, e104_178, e104_181, n27 (show (7 : Nat) ≠ 13 by decide), n27 (show (7 : Nat) ≠ 6 by decide), n27 (show (7 : Nat) ≠ 5 by decide), n27 (show (7 : Nat) ≠ 4 by decide), n27 (show (7 : Nat) ≠ 3 by decide), i7, nI_1, n27 (show (2 : Nat) ≠ 1 by decide), n27 (show (2 : Nat) ≠ 7 by decide), n27 (show (2 : Nat) ≠ 13 by decide), n27 (show (2 : Nat) ≠ 6 by decide), n27 (show (2 : Nat) ≠ 5 by decide), n27 (show (2 : Nat) ≠ 4 by decide), n27 (show (2 : Nat) ≠ 3 by decide), i2]
    · rw [n27 (by decide), n27 (by decide), n27 (by decide), n27 (by decide), n27 (by decide), n27 (by decide), n27 (by decide)]
      exact i2
    · rw [n29, n29, n29, n29, n29, n29, n29, n29, n29, n29, n29, n29, n29, n29, n29, n29, n29, n29, n29, n29, n29, n29, n29, n29, n29, n29, n29, n29]
      exact g1 j (by omega) hj
    · rw [n27 (by decide), n27 (by decide), n27 (by decide), n27 (by decide), n27 (by decide), n27 (by decide), hI_uIs]
      rfl
    · rw [n27 (by decide), n27 (by decide), n27 (by decide), n27 (by decide), n27 (by decide), hI_uIs]
      rfl
    · rw [n27 (by decide), n27 (by decide), n27 (by decide), n27 (by decide), hI_uIs]
      rfl
    · rw [n27 (by decide), n27 (by decide), n27 (by decide), hI_uIs]
      rfl
    · rw [n27 (by decide), n27 (by decide), hI_uIs]
      rfl
    · rw [n27 (by decide), hI_uIs]
      rfl
    · show hI _ 27 17 = -1 ∨ ∃ r, r < sr S + 1 ∧ hI _ 27 17 = nI r
      rw [(F 27 17 (by omega)).1]
      by_cases hz : sz S = 1
      · exact Or.inr ⟨sr S, by omega, (hq.2.2.2.1 hz).1⟩
      · rcases hq.2.2.2.2 (by have := ho.2.1; omega) with h | ⟨r, hr, h⟩
        · exact Or.inl h
        · exact Or.inr ⟨r, by omega, h⟩
end KM3
