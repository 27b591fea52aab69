/-! the model: holds, saying -/
theorem q_cmpm1 {a : Nat} (h : a < 2 ^ 63) : (lg_cmp (lN a) (-1) ≤ 0) = False := by
  refine eq_false (fun z => ?_)
  have h1 : (-1 : Int64) < lN a := by
    rw [Int64.lt_iff_toInt_lt, show lN a = Int64.ofNat a from rfl, Int64.toInt_ofNat_of_lt h]
    have e : (-1 : Int64).toInt = -1 := rfl
    omega
  have h2 : (0 : Int32) < lg_cmp (lN a) (-1) := by
    rw [q_cmpgt]
    exact h1
  rw [← Int32.not_lt] at z
  exact z h2
section KM9
variable {H : kH} {S : kS}
theorem l_msay {V : kV} (hV : vOK V) {l n : Nat} (hl : l < 6) (hn : n ≤ 3) : ∀ i j b m v7 H, j + i = 6 → m < 2 ^ 63 → MV H V → ∃ H', ev 133 10 [.ref 27, .int (nI l), .int (nI n), .int b, .long (lN m), .null, .int (nI j), v7, .null] [] H = some (some (.int (qAr (fun v => qLL V (qbit l) n (qS (vh V) v)) i j b m)), H') ∧ kFr hC H H' := by
  have hh := hV.2.2.2.2.2.1
  have hk := p15 hV.2.1 (show n ≤ 3 by omega)
  intro i
  induction i with
  | zero =>
    intro j b m v7 H hj hm hv
    have : j = 6 := by omega
    subst this
    refine ⟨H, ?_, kFr.rf⟩
    rw [e133_10]
    simp only [e133_12, e133_14, e133_72, e133_73, show (6 : Int32) = nI 6 from rfl, Std.le_refl, if_true, qAr]
  | succ i ih =>
    intro j b m v7 H hj hm hv
    have hS : qS (vh V) j < 64 := qS_lt _ hh _ (by omega)
    have hlt := Nat.lt_of_le_of_lt (qLL_bit hV l n (qS (vh V) j)) hk
    obtain ⟨H1, e1, f1⟩ := m_holdsFrom hV hv hS hl hn
    have v1 := MV_hC f1 hv
    have e0 : ev 133 10 [.ref 27, .int (nI l), .int (nI n), .int b, .long (lN m), .null, .int (nI j), v7, .null] [] H = ev 133 34 [.ref 27, .int (nI l), .int (nI n), .int b, .long (lN m), .null, .int (nI j), .long (lN (qLL V (qbit l) n (qS (vh V) j))), .null] [] H1 := by
      rw [e133_10]
      simp only [e133_12, e133_14, e133_17, e133_18, e133_19, e133_22, e133_24, e133_27, e133_28, e133_29, e133_32, show (6 : Int32) = nI 6 from rfl, q_le (show 6 < 2147483648 by decide) (show j < 2147483648 by omega), show ¬ 6 ≤ j by omega, if_false, MV_h hv, m_said hh (show j < 6 by omega), e1, q_bs, q_tl, q_cn]
    rw [e0]
    unfold qAr
    by_cases hb : m < qLL V (qbit l) n (qS (vh V) j)
    · obtain ⟨H', e2, f2⟩ := ih (j + 1) (nI j) _ (.long (lN (qLL V (qbit l) n (qS (vh V) j)))) H1 (by omega) hlt v1
      refine ⟨H', ?_, f1.tr f2⟩
      rw [if_pos hb, ← e2]
      simp only [e133_34, e133_36, e133_38, e133_39, e133_42, e133_44, e133_47, e133_48, e133_49, e133_51, e133_53, e133_54, e133_57, e133_59, e133_62, e133_64, e133_66, e133_69, q_cmple hlt hm, hb, not_true_eq_false, if_false, nI_1]
    · obtain ⟨H', e2, f2⟩ := ih (j + 1) b _ (.long (lN (qLL V (qbit l) n (qS (vh V) j)))) H1 (by omega) hm v1
      refine ⟨H', ?_, f1.tr f2⟩
      rw [if_neg hb, ← e2]
      simp only [e133_34, e133_36, e133_38, e133_39, e133_42, e133_44, e133_47, e133_48, e133_49, e133_51, e133_53, e133_54, e133_57, e133_59, e133_62, e133_64, e133_66, e133_69, q_cmple hlt hm, hb, not_false_eq_true, if_true, nI_1]
theorem m_sayingOf {V : kV} (hV : vOK V) (hv : MV H V) {l n : Nat} (hl : l < 6) (hn : n ≤ 3) : ∃ H', ev 133 0 [.ref 27, .int (nI l), .int (nI n), .null, .null, .null, .null, .null, .null] [] H = some (some (.int (qAr (fun v => qLL V (qbit l) n (qS (vh V) v)) 5 1 0 (qLL V (qbit l) n (qS (vh V) 0)))), H') ∧ kFr hC H H' := by
  have hh := hV.2.2.2.2.2.1
  have hk := p15 hV.2.1 (show n ≤ 3 by omega)
  have hS : qS (vh V) 0 < 64 := qS_lt _ hh _ (by omega)
  have hlt := Nat.lt_of_le_of_lt (qLL_bit hV l n (qS (vh V) 0)) hk
  obtain ⟨H1, e1, f1⟩ := m_holdsFrom hV hv hS hl hn
  obtain ⟨H2, e2, f2⟩ := l_msay hV hl hn 5 1 0 (qLL V (qbit l) n (qS (vh V) 0)) (.long (lN (qLL V (qbit l) n (qS (vh V) 0)))) H1 (by omega) hlt (MV_hC f1 hv)
  refine ⟨H2, ?_, f1.tr f2⟩
  rw [← e2]
  have ea : ev 133 0 [.ref 27, .int (nI l), .int (nI n), .null, .null, .null, .null, .null, .null] [] H = ev 133 10 [.ref 27, .int (nI l), .int (nI n), .int (-1), .long (-1), .null, .int (nI 0), .null, .null] [] H := by
    simp only [e133_0, e133_1, e133_2, e133_5, e133_7, e133_8]
    rfl
  rw [ea, e133_10]
  simp only [e133_12, e133_14, e133_17, e133_18, e133_19, e133_22, e133_24, e133_27, e133_28, e133_29, e133_32, e133_34, e133_36, e133_38, e133_39, e133_42, e133_44, e133_47, e133_48, e133_49, e133_51, e133_53, e133_54, e133_57, e133_59, e133_62, e133_64, e133_66, e133_69, show (6 : Int32) = nI 6 from rfl, q_le (show 6 < 2147483648 by decide) (show 0 < 2147483648 by decide), show ¬ 6 ≤ 0 by decide, if_false, MV_h hv, m_said hh (show 0 < 6 by decide), e1, q_bs, q_tl, q_cn, q_cmpm1 hlt, nI_1]
  rfl
theorem y_holds (hq : MR H S) (ho : sOK S) (l h p : Int32) : ∃ H1, ev 130 0 [.ref 27, .int l, .int h, .int p] [] H = some (some (.long (fHolds (sV S) l h p)), H1) ∧ MR H1 S ∧ kFr mC H H1 := by
  have hR := hq.1
  have hV := ho.1
  have h5 := hV.2.1
  have hh := hV.2.2.2.2.2.1
  unfold fHolds
  rcases q_case l (show 6 < 2147483648 by decide) with hl | hl | ⟨l, hl, rfl⟩
  · rw [qSel_lo hl]
    refine ⟨H, ?_, hq, kFr.rf⟩
    simp only [e130_0, e130_1, e130_4, e130_7, e130_8, e130_9, e130_10, e130_13, e130_16, e130_19, e130_20, e130_21, e130_22, e130_23, e130_26, e130_29, e130_32, m_isLaw_lo hl, q_bs, q_tl, q_cn, if_true]
  · rw [qSel_hi hl]
    refine ⟨H, ?_, hq, kFr.rf⟩
    simp only [e130_0, e130_1, e130_4, e130_7, e130_8, e130_9, e130_10, e130_13, e130_16, e130_19, e130_20, e130_21, e130_22, e130_23, e130_26, e130_29, e130_32, m_isLaw_hi hl, q_bs, q_tl, q_cn, if_true]
  · rw [qSel_in hl (by decide)]
    rcases q_case h (show 4 < 2147483648 by decide) with hm | hm | ⟨m, hm, rfl⟩
    · rw [qSel_lo hm]
      refine ⟨H, ?_, hq, kFr.rf⟩
      simp only [e130_0, e130_1, e130_4, e130_7, e130_8, e130_9, e130_10, e130_13, e130_16, e130_19, e130_20, e130_21, e130_22, e130_23, e130_26, e130_29, e130_32, m_isLaw_in hl, q_bs, q_tl, q_cn, t10, if_false, show (0 : Int64) = lN 0 from rfl, show (3 : Int64) = lN 3 from rfl, m_lo hm (show 0 < 2147483648 by decide) (show 3 < 2147483648 by decide), if_true]
    · rw [qSel_hi hm]
      refine ⟨H, ?_, hq, kFr.rf⟩
      simp only [e130_0, e130_1, e130_4, e130_7, e130_8, e130_9, e130_10, e130_13, e130_16, e130_19, e130_20, e130_21, e130_22, e130_23, e130_26, e130_29, e130_32, m_isLaw_in hl, q_bs, q_tl, q_cn, t10, if_false, show (0 : Int64) = lN 0 from rfl, show (3 : Int64) = lN 3 from rfl, m_hi hm (show 4 < 2147483648 by decide) (show 3 < 4 by decide) (show 0 < 2147483648 by decide), if_true]
    · rw [qSel_in hm (by decide)]
      have e19 : ev 130 0 [.ref 27, .int (nI l), .int (nI m), .int p] [] H = ev 130 19 [.ref 27, .int (nI l), .int (nI m), .int p] [] H := by
        simp only [e130_0, e130_1, e130_4, e130_7, e130_8, e130_9, e130_10, e130_13, e130_16, m_isLaw_in hl, q_bs, q_tl, q_cn, t10, if_false, show (0 : Int64) = lN 0 from rfl, show (3 : Int64) = lN 3 from rfl, m_ok (show 0 ≤ m by omega) (show m ≤ 3 by omega) (show 3 < 2147483648 by decide)]
      rw [e19]
      rcases q_case p (show 2 < 2147483648 by decide) with hp | hp | ⟨p, hp, rfl⟩
      · rw [qSel_lo hp]
        refine ⟨H, ?_, hq, kFr.rf⟩
        simp only [e130_19, e130_20, e130_21, e130_22, e130_23, e130_26, e130_29, e130_32, show (0 : Int64) = lN 0 from rfl, show (1 : Int64) = lN 1 from rfl, m_lo hp (show 0 < 2147483648 by decide) (show 1 < 2147483648 by decide), q_bs, q_tl, q_cn, not_true_eq_false, if_false]
      · rw [qSel_hi hp]
        refine ⟨H, ?_, hq, kFr.rf⟩
        simp only [e130_19, e130_20, e130_21, e130_22, e130_23, e130_26, e130_29, e130_32, show (0 : Int64) = lN 0 from rfl, show (1 : Int64) = lN 1 from rfl, m_hi hp (show 2 < 2147483648 by decide) (show 1 < 2 by decide) (show 0 < 2147483648 by decide), q_bs, q_tl, q_cn, not_true_eq_false, if_false]
      · rw [qSel_in hp (by decide)]
        have e33 : ev 130 19 [.ref 27, .int (nI l), .int (nI m), .int (nI p)] [] H = ev 130 33 [.ref 27, .int (nI l), .int (nI m), .int (nI p)] [] H := by
          simp only [e130_19, e130_20, e130_21, e130_22, e130_23, e130_26, show (0 : Int64) = lN 0 from rfl, show (1 : Int64) = lN 1 from rfl, m_ok (show 0 ≤ p by omega) (show p ≤ 1 by omega) (show 1 < 2147483648 by decide), q_bs, q_tl, q_cn, t10, not_false_eq_true, if_true]
        rw [e33]
        by_cases h0 : vn (sV S) = 0
        · rw [if_pos h0]
          refine ⟨H, ?_, hq, kFr.rf⟩
          simp only [e130_33, e130_34, e130_37, e130_40, e130_43, e130_46, e130_47, e130_48, e130_49, e130_50, e130_53, m_lacks0 hR hV h0, q_bs, q_tl, q_cn, t10, if_false]
        · rw [if_neg h0]
          obtain ⟨H1, e1, f1⟩ := m_holdsFrom hV hR hh hl (show m ≤ 3 by omega)
          have hk := p15 h5 (show m ≤ 3 by omega)
          have q1 := MR_fr (f1.mono (fun _ _ => hC_mS)) hq
          refine ⟨H1, ?_, q1, f1.mono (fun _ _ z => mS_mC (hC_mS z))⟩
          simp only [e130_33, e130_34, e130_37, e130_40, e130_43, e130_46, e130_47, e130_48, e130_49, e130_50, e130_53, m_lacks1 hR hV h0, q_bs, q_tl, q_cn, if_true, e129_0, e129_1, e129_2, e129_5, e129_6, e129_7, e129_10, e129_11, e129_12, e129_15, e129_16, e129_19, MV_h hR, e1, m_tens q1.1 hV (show m < 100 by omega), m_term (Nat.lt_of_le_of_lt (qLL_bit hV l m (vh (sV S))) hk) hk (Nat.pow_pos (by decide)) hp]
theorem y_saying (hq : MR H S) (ho : sOK S) (l h : Int32) : ∃ H1, ev 134 0 [.ref 27, .int l, .int h] [] H = some (some (.int (fSaying (sV S) l h)), H1) ∧ MR H1 S ∧ kFr mC H H1 := by
  have hR := hq.1
  have hV := ho.1
  have h5 := hV.2.1
  unfold fSaying
  rcases q_case l (show 6 < 2147483648 by decide) with hl | hl | ⟨l, hl, rfl⟩
  · rw [qSel_lo hl]
    refine ⟨H, ?_, hq, kFr.rf⟩
    simp only [e134_0, e134_1, e134_4, e134_7, e134_8, e134_9, e134_10, e134_13, e134_16, e134_19, e134_21, m_isLaw_lo hl, q_bs, q_tl, q_cn, if_true]
  · rw [qSel_hi hl]
    refine ⟨H, ?_, hq, kFr.rf⟩
    simp only [e134_0, e134_1, e134_4, e134_7, e134_8, e134_9, e134_10, e134_13, e134_16, e134_19, e134_21, m_isLaw_hi hl, q_bs, q_tl, q_cn, if_true]
  · rw [qSel_in hl (by decide)]
    rcases q_case h (show 3 < 2147483648 by decide) with hm | hm | ⟨m, hm, rfl⟩
    · rw [qSel_lo hm]
      refine ⟨H, ?_, hq, kFr.rf⟩
      simp only [e134_0, e134_1, e134_4, e134_7, e134_8, e134_9, e134_10, e134_13, e134_16, e134_19, e134_21, m_isLaw_in hl, q_bs, q_tl, q_cn, t10, if_false, show (0 : Int64) = lN 0 from rfl, show (2 : Int64) = lN 2 from rfl, m_lo hm (show 0 < 2147483648 by decide) (show 2 < 2147483648 by decide), not_true_eq_false]
    · rw [qSel_hi hm]
      refine ⟨H, ?_, hq, kFr.rf⟩
      simp only [e134_0, e134_1, e134_4, e134_7, e134_8, e134_9, e134_10, e134_13, e134_16, e134_19, e134_21, m_isLaw_in hl, q_bs, q_tl, q_cn, t10, if_false, show (0 : Int64) = lN 0 from rfl, show (2 : Int64) = lN 2 from rfl, m_hi hm (show 3 < 2147483648 by decide) (show 2 < 3 by decide) (show 0 < 2147483648 by decide), not_true_eq_false]
    · rw [qSel_in hm (by decide)]
      have e22 : ev 134 0 [.ref 27, .int (nI l), .int (nI m)] [] H = ev 134 22 [.ref 27, .int (nI l), .int (nI m)] [] H := by
        simp only [e134_0, e134_1, e134_4, e134_7, e134_8, e134_9, e134_10, e134_13, e134_16, m_isLaw_in hl, q_bs, q_tl, q_cn, t10, if_false, show (0 : Int64) = lN 0 from rfl, show (2 : Int64) = lN 2 from rfl, m_ok (show 0 ≤ m by omega) (show m ≤ 2 by omega) (show 2 < 2147483648 by decide), not_false_eq_true, if_true]
      rw [e22]
      by_cases h0 : vn (sV S) = 0
      · rw [if_pos h0]
        refine ⟨H, ?_, hq, kFr.rf⟩
        simp only [e134_22, e134_23, e134_26, e134_29, e134_31, e134_34, e134_35, e134_36, e134_37, e134_40, m_lacks0 hR hV h0, q_bs, q_tl, q_cn, t10, if_false]
      · rw [if_neg h0]
        obtain ⟨H1, e1, f1⟩ := m_sayingOf hV hR hl (show m ≤ 3 by omega)
        refine ⟨H1, ?_, MR_fr (f1.mono (fun _ _ => hC_mS)) hq, f1.mono (fun _ _ z => mS_mC (hC_mS z))⟩
        simp only [e134_22, e134_23, e134_26, e134_29, e134_31, e134_34, e134_35, e134_36, e134_37, e134_40, m_lacks1 hR hV h0, q_bs, q_tl, q_cn, if_true, e1]
end KM9
