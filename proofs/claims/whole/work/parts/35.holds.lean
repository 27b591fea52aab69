/-! what holds, what had best be said, what fits -/
def fHolds (V : kV) (l h p : Int32) : Int64 := qSel 6 l (-102) (fun l => qSel 4 h (-102) (fun m => qSel 2 p (-102) (fun p => if vn V = 0 then -103 else qTerm (qLL V (qbit l) m (vh V)) (10 ^ (vn V * m)) p)))
def fSaying (V : kV) (l h : Int32) : Int32 := qSel 6 l (-102) (fun l => qSel 3 h (-102) (fun m => if vn V = 0 then -103 else qAr (fun v => qLL V (qbit l) m (qS (vh V) v)) 5 1 0 (qLL V (qbit l) m (qS (vh V) 0))))
def fFits (V : kV) : Int64 := if vn V = 0 then -103 else lN (qLB V (-1) (-1) (fun _ => 1) (vb V) (vh V))
def fSneezed (V : kV) (c h : Int32) : Int64 := qSel (vn V) c (-101) (fun c => qSel (vb V) h (-101) (fun m => lN (qLB V (nI c) (nI m) (fun _ => 1) (vb V) (vh V))))
theorem q_hi_le {x : Int32} {n m : Nat} (hn : n < 2147483648) (h : nI n ≤ x) (hm : m < n) : (x ≤ nI m) = False := by
  have := q_toInt_hi hn h
  refine eq_false (fun z => ?_)
  rw [Int32.le_iff_toInt_le, nI_toInt (by omega)] at z
  omega
theorem q_lt_hi {x : Int32} {n m : Nat} (hn : n < 2147483648) (h : nI n ≤ x) (hm : m < n) : (nI m < x) = True := by
  have := q_toInt_hi hn h
  refine eq_true ?_
  rw [Int32.lt_iff_toInt_lt, nI_toInt (by omega)]
  omega
theorem pW_wR {H : kH} {w s : Nat} {W : Nat → Nat} (h : pW H w s W) : wR H := by
  obtain ⟨h1, h2, h3, -⟩ := h
  unfold wR
  rw [h2, h3]
  exact h1
theorem CR_look {H H' : kH} {S : kS} {w s : Nat} {W : Nat → Nat} (hq : CR H S) (hf : kFr lC H H') (hw : pW H' w s W) : CR H' S := CR_fr (hf.mono (fun _ _ => lC_sC)) (pW_wR hw) hq
theorem lC_cC {k j : Nat} (h : lC k j) : cC k j := by unfold lC at h; unfold cC; omega
section KHO
variable {H : kH} {S : kS}
theorem x_holds (hq : CR H S) (ho : sOK S) (l h p : Int32) : ∃ H1, ev 73 0 [.ref 0, .int l, .int h, .int p] [] H = some (some (.long (fHolds (sV S) l h p)), H1) ∧ CR H1 S ∧ kFr cC H H1 := by
  have hR := hq.1
  have hV := ho.1
  have h5 := hV.2.1
  have hh := hV.2.2.2.2.2.1
  unfold fHolds
  rcases q_case l (show 6 < 2147483648 by decide) with hl | hl | ⟨l, hl, rfl⟩
  · rw [qSel_lo hl]
    refine ⟨H, ?_, hq, kFr.rf⟩
    simp only [e73_0, e73_1, e73_4, e73_7, e73_8, e73_11, e73_12, e73_13, e73_16, e73_17, e73_20, e73_21, e73_22, e73_25, e73_28, c_isLaw_lo hl, q_bs, q_tl, q_cn, if_true]
  · rw [qSel_hi hl]
    refine ⟨H, ?_, hq, kFr.rf⟩
    simp only [e73_0, e73_1, e73_4, e73_7, e73_8, e73_11, e73_12, e73_13, e73_16, e73_17, e73_20, e73_21, e73_22, e73_25, e73_28, c_isLaw_hi hl, q_bs, q_tl, q_cn, if_true]
  · rw [qSel_in hl (by decide)]
    rcases q_case h (show 4 < 2147483648 by decide) with hm | hm | ⟨m, hm, rfl⟩
    · rw [qSel_lo hm]
      refine ⟨H, ?_, hq, kFr.rf⟩
      simp only [e73_0, e73_1, e73_4, e73_7, e73_8, e73_11, e73_12, e73_13, e73_16, e73_17, e73_20, e73_21, e73_22, e73_25, e73_28, c_isLaw_in hl, q_bs, q_tl, q_cn, t10, if_false, hm, if_true]
    · rw [qSel_hi hm]
      refine ⟨H, ?_, hq, kFr.rf⟩
      simp only [e73_0, e73_1, e73_4, e73_7, e73_8, e73_11, e73_12, e73_13, e73_16, e73_17, e73_20, e73_21, e73_22, e73_25, e73_28, c_isLaw_in hl, q_bs, q_tl, q_cn, t10, if_false, q_nlt (show 4 < 2147483648 by decide) hm, show (3 : Int32) = nI 3 from rfl, q_lt_hi (show 4 < 2147483648 by decide) hm (show 3 < 4 by decide), if_true]
    · rw [qSel_in hm (by decide)]
      have e16 : ev 73 0 [.ref 0, .int (nI l), .int (nI m), .int p] [] H = ev 73 16 [.ref 0, .int (nI l), .int (nI m), .int p] [] H := by
        simp only [e73_0, e73_1, e73_4, e73_7, e73_8, e73_11, e73_12, e73_13, c_isLaw_in hl, q_bs, q_tl, q_cn, t10, if_false, q_lt0 (show m < 2147483648 by omega), show (3 : Int32) = nI 3 from rfl, q_lt (show 3 < 2147483648 by decide) (show m < 2147483648 by omega), show ¬ 3 < m by omega]
      rw [e16]
      rcases q_case p (show 2 < 2147483648 by decide) with hp | hp | ⟨p, hp, rfl⟩
      · rw [qSel_lo hp]
        refine ⟨H, ?_, hq, kFr.rf⟩
        simp only [e73_16, e73_17, e73_20, e73_21, e73_22, e73_25, e73_28, hp, if_true]
      · rw [qSel_hi hp]
        refine ⟨H, ?_, hq, kFr.rf⟩
        simp only [e73_16, e73_17, e73_20, e73_21, e73_22, e73_25, e73_28, q_nlt (show 2 < 2147483648 by decide) hp, show (1 : Int32) = nI 1 from rfl, q_hi_le (show 2 < 2147483648 by decide) hp (show 1 < 2 by decide), if_false]
      · rw [qSel_in hp (by decide)]
        have e29 : ev 73 16 [.ref 0, .int (nI l), .int (nI m), .int (nI p)] [] H = ev 73 29 [.ref 0, .int (nI l), .int (nI m), .int (nI p)] [] H := by
          simp only [e73_16, e73_17, e73_20, e73_21, e73_22, q_lt0 (show p < 2147483648 by omega), if_false, show (1 : Int32) = nI 1 from rfl, q_le (show p < 2147483648 by omega) (show 1 < 2147483648 by decide), show p ≤ 1 by omega, if_true]
        rw [e29]
        by_cases h0 : vn (sV S) = 0
        · rw [if_pos h0]
          refine ⟨H, ?_, hq, kFr.rf⟩
          simp only [e73_29, e73_30, e73_33, e73_36, e73_39, e73_42, c_seats hR, q_bs, q_tl, q_cn, h0, n00, not_true_eq_false, if_false]
        · rw [if_neg h0]
          obtain ⟨H1, w, s, e1, f1, w1⟩ := c_lookLaw hV (by omega) hR hq.2.2.2.2.1 hl (show m ≤ 3 by omega)
          have hq1 := CR_look hq f1 w1
          have hk := p15 h5 (show m ≤ 3 by omega)
          refine ⟨H1, ?_, hq1, f1.mono (fun _ _ => lC_cC)⟩
          simp only [e73_29, e73_30, e73_33, e73_36, e73_39, e73_42, e73_43, e73_44, e73_47, e73_48, e73_49, e73_52, e73_53, e73_56, e73_57, e73_60, e73_63, e73_66, e73_67, e73_70, e73_73, e73_74, e73_75, e73_78, e73_79, e73_82, c_seats hR, q_bs, q_tl, q_tn, q_nn, q_cn, q_n0' (show vn (sV S) < 2147483648 by omega), h0, not_false_eq_true, if_true, e1, c_held hq1.1, c_worthFrom w1 hh, c_seats hq1.1, q_mul, c_tenTo (show vn (sV S) * m < 2147483648 from Nat.lt_of_le_of_lt (Nat.mul_le_mul h5 (show m ≤ 3 by omega)) (by decide)), c_lowest (Nat.lt_of_le_of_lt (qLL_bit hV l m (vh (sV S))) hk) hk (Nat.pow_pos (by decide)) hp]
theorem l_saying (ho : sOK S) {w s m : Nat} {W : Nat → Nat} (hW : ∀ h, W h < 2 ^ 63) (x1 x2 : Int32) (hq : CR H S) (hw : pW H w s W) : ∀ i j b v, j + i = 6 → m < 2 ^ 63 → ∀ m, m < 2 ^ 63 → ev 75 66 [.ref 0, .int x1, .int x2, .int b, .long (lN m), .null, .int (nI j), v, .null] [] H = some (some (.int (qAr (fun v => W (qS (vh (sV S)) v)) i j b m)), H) := by
  have hV := ho.1
  have hh := hV.2.2.2.2.2.1
  intro i
  induction i with
  | zero =>
    intro j b v hj _ m hm
    have : j = 6 := by omega
    subst this
    rw [e75_66]
    simp only [e75_68, e75_70, e75_115, e75_116, show (6 : Int32) = nI 6 from rfl, Std.le_refl, if_true, qAr]
  | succ i ih =>
    intro j b v hj hx m hm
    have hS : qS (vh (sV S)) j < 64 := qS_lt _ hh _ (by omega)
    rw [e75_66]
    unfold qAr
    by_cases hb : m < W (qS (vh (sV S)) j)
    · rw [if_pos hb, ← ih (j + 1) (nI j) (.long (lN (W (qS (vh (sV S)) j)))) (by omega) hx _ (hW _)]
      simp only [e75_68, e75_70, e75_73, e75_74, e75_77, e75_78, e75_81, e75_84, e75_86, e75_89, e75_92, e75_94, e75_96, e75_98, e75_99, e75_102, e75_104, e75_105, e75_107, e75_109, e75_112, show (6 : Int32) = nI 6 from rfl, q_le (show 6 < 2147483648 by decide) (show j < 2147483648 by omega), show ¬ 6 ≤ j by omega, if_false, c_held hq.1, c_said hh (show j < 6 by omega), c_worthFrom hw hS, q_bs, q_tl, q_cn, q_cmple (hW _) hm, hb, not_true_eq_false, nI_1]
    · rw [if_neg hb, ← ih (j + 1) b (.long (lN (W (qS (vh (sV S)) j)))) (by omega) hx _ hm]
      simp only [e75_68, e75_70, e75_73, e75_74, e75_77, e75_78, e75_81, e75_84, e75_86, e75_89, e75_92, e75_94, e75_96, e75_98, e75_99, e75_102, e75_104, e75_105, e75_107, e75_109, e75_112, show (6 : Int32) = nI 6 from rfl, q_le (show 6 < 2147483648 by decide) (show j < 2147483648 by omega), show ¬ 6 ≤ j by omega, if_false, c_held hq.1, c_said hh (show j < 6 by omega), c_worthFrom hw hS, q_bs, q_tl, q_cn, q_cmple (hW _) hm, hb, not_false_eq_true, if_true, nI_1]
theorem x_saying (hq : CR H S) (ho : sOK S) (l h : Int32) : ∃ H1, ev 75 0 [.ref 0, .int l, .int h, .null, .null, .null, .null, .null, .null] [] H = some (some (.int (fSaying (sV S) l h)), H1) ∧ CR H1 S ∧ kFr cC H H1 := by
  have hR := hq.1
  have hV := ho.1
  have h5 := hV.2.1
  have hh := hV.2.2.2.2.2.1
  unfold fSaying
  rcases q_case l (show 6 < 2147483648 by decide) with hl | hl | ⟨l, hl, rfl⟩
  · rw [qSel_lo hl]
    refine ⟨H, ?_, hq, kFr.rf⟩
    simp only [e75_0, e75_1, e75_4, e75_7, e75_8, e75_11, e75_12, e75_13, e75_16, e75_18, c_isLaw_lo hl, q_bs, q_tl, q_cn, if_true]
  · rw [qSel_hi hl]
    refine ⟨H, ?_, hq, kFr.rf⟩
    simp only [e75_0, e75_1, e75_4, e75_7, e75_8, e75_11, e75_12, e75_13, e75_16, e75_18, c_isLaw_hi hl, q_bs, q_tl, q_cn, if_true]
  · rw [qSel_in hl (by decide)]
    rcases q_case h (show 3 < 2147483648 by decide) with hm | hm | ⟨m, hm, rfl⟩
    · rw [qSel_lo hm]
      refine ⟨H, ?_, hq, kFr.rf⟩
      simp only [e75_0, e75_1, e75_4, e75_7, e75_8, e75_11, e75_12, e75_13, e75_16, e75_18, c_isLaw_in hl, q_bs, q_tl, q_cn, t10, if_false, hm, if_true]
    · rw [qSel_hi hm]
      refine ⟨H, ?_, hq, kFr.rf⟩
      simp only [e75_0, e75_1, e75_4, e75_7, e75_8, e75_11, e75_12, e75_13, e75_16, e75_18, c_isLaw_in hl, q_bs, q_tl, q_cn, t10, if_false, q_nlt (show 3 < 2147483648 by decide) hm, show (2 : Int32) = nI 2 from rfl, q_hi_le (show 3 < 2147483648 by decide) hm (show 2 < 3 by decide)]
    · rw [qSel_in hm (by decide)]
      have e19 : ev 75 0 [.ref 0, .int (nI l), .int (nI m), .null, .null, .null, .null, .null, .null] [] H = ev 75 19 [.ref 0, .int (nI l), .int (nI m), .null, .null, .null, .null, .null, .null] [] H := by
        simp only [e75_0, e75_1, e75_4, e75_7, e75_8, e75_11, e75_12, e75_13, c_isLaw_in hl, q_bs, q_tl, q_cn, t10, if_false, q_lt0 (show m < 2147483648 by omega), show (2 : Int32) = nI 2 from rfl, q_le (show m < 2147483648 by omega) (show 2 < 2147483648 by decide), show m ≤ 2 by omega, if_true]
      rw [e19]
      by_cases h0 : vn (sV S) = 0
      · rw [if_pos h0]
        refine ⟨H, ?_, hq, kFr.rf⟩
        simp only [e75_19, e75_20, e75_23, e75_26, e75_29, e75_31, c_seats hR, q_bs, q_tl, q_cn, h0, n00, not_true_eq_false, if_false]
      · rw [if_neg h0]
        obtain ⟨H1, w, s, e1, f1, w1⟩ := c_lookLaw hV (by omega) hR hq.2.2.2.2.1 hl (show m ≤ 3 by omega)
        have hq1 := CR_look hq f1 w1
        have hk := p15 h5 (show m ≤ 3 by omega)
        have hS : qS (vh (sV S)) 0 < 64 := qS_lt _ hh _ (by omega)
        refine ⟨H1, ?_, hq1, f1.mono (fun _ _ => lC_cC)⟩
        rw [← l_saying ho (m := 0) (fun h => Nat.lt_of_le_of_lt (qLL_bit hV l m h) hk) (nI l) (nI m) hq1 w1 5 1 0 .null (by omega) (by decide) _ (Nat.lt_of_le_of_lt (qLL_bit hV l m _) hk)]
        simp only [e75_19, e75_20, e75_23, e75_26, c_seats hR, q_bs, q_tl, q_cn, q_n0' (show vn (sV S) < 2147483648 by omega), h0, not_false_eq_true, if_true]
        simp only [e75_32, e75_33, e75_36, e75_37, e75_38, e75_41, e75_42, e75_43, e75_44, e75_47, e75_48, e75_51, e75_54, e75_55, e75_58, e75_61, e75_63, e75_64, q_bs, q_tl, q_tn, q_nn, q_cn, e1, c_held hq1.1, show (0 : Int32) = nI 0 from rfl, c_said hh (show 0 < 6 by decide), c_worthFrom w1 hS]
        rfl
theorem x_fits (hq : CR H S) (ho : sOK S) : ∃ H1, ev 79 0 [.ref 0] [] H = some (some (.long (fFits (sV S))), H1) ∧ CR H1 S ∧ kFr cC H H1 := by
  have hR := hq.1
  have hV := ho.1
  have h5 := hV.2.1
  have hh := hV.2.2.2.2.2.1
  unfold fFits
  by_cases h0 : vn (sV S) = 0
  · rw [if_pos h0]
    refine ⟨H, ?_, hq, kFr.rf⟩
    simp only [e79_0, e79_1, e79_4, e79_7, e79_10, e79_13, e79_14, e79_15, e79_18, e79_19, e79_20, e79_23, e79_24, e79_27, e79_28, e79_31, e79_34, e79_37, c_seats hR, q_bs, q_tl, q_cn, h0, n00, not_true_eq_false, if_false]
  · rw [if_neg h0]
    obtain ⟨H1, w, s, e1, f1, w1⟩ := c_lookBook hV (by omega) hR hq.2.2.2.2.1 (-1) (-1)
    have hq1 := CR_look hq f1 w1
    refine ⟨H1, ?_, hq1, f1.mono (fun _ _ => lC_cC)⟩
    simp only [e79_0, e79_1, e79_4, e79_7, e79_10, e79_13, e79_14, e79_15, e79_18, e79_19, e79_20, e79_23, e79_24, e79_27, e79_28, e79_31, e79_34, e79_37, c_seats hR, q_bs, q_tl, q_tn, q_nn, q_cn, q_n0' (show vn (sV S) < 2147483648 by omega), h0, not_false_eq_true, if_true, e1, c_held hq1.1, c_worthFrom w1 hh]
theorem x_sneezed (hq : CR H S) (ho : sOK S) (c h : Int32) : ∃ H1, ev 80 0 [.ref 0, .int c, .int h] [] H = some (some (.long (fSneezed (sV S) c h)), H1) ∧ CR H1 S ∧ kFr cC H H1 := by
  have hR := hq.1
  have hV := ho.1
  have h5 := hV.2.1
  have hh := hV.2.2.2.2.2.1
  have hb5 := hV.2.2.2.2.2.2.1
  unfold fSneezed
  rcases q_case c (show vn (sV S) < 2147483648 by omega) with hc | hc | ⟨c, hc, rfl⟩
  · rw [qSel_lo hc]
    refine ⟨H, ?_, hq, kFr.rf⟩
    simp only [e80_0, e80_1, e80_4, e80_5, e80_8, e80_11, e80_12, e80_15, e80_16, e80_17, e80_20, e80_23, e80_26, e80_29, e80_30, e80_31, e80_34, e80_35, e80_36, e80_39, e80_40, e80_43, e80_44, e80_47, e80_50, e80_53, c_seated0 hR (Or.inl hc), q_bs, q_tl, q_cn, if_true]
  · rw [qSel_hi hc]
    refine ⟨H, ?_, hq, kFr.rf⟩
    simp only [e80_0, e80_1, e80_4, e80_5, e80_8, e80_11, e80_12, e80_15, e80_16, e80_17, e80_20, e80_23, e80_26, e80_29, e80_30, e80_31, e80_34, e80_35, e80_36, e80_39, e80_40, e80_43, e80_44, e80_47, e80_50, e80_53, c_seated0 hR (Or.inr hc), q_bs, q_tl, q_cn, if_true]
  · rw [qSel_in hc (by omega)]
    rcases q_case h (show vb (sV S) < 2147483648 by omega) with hm | hm | ⟨m, hm, rfl⟩
    · rw [qSel_lo hm]
      refine ⟨H, ?_, hq, kFr.rf⟩
      simp only [e80_0, e80_1, e80_4, e80_5, e80_8, e80_11, e80_12, e80_15, e80_16, e80_17, e80_20, e80_23, e80_26, e80_29, e80_30, e80_31, e80_34, e80_35, e80_36, e80_39, e80_40, e80_43, e80_44, e80_47, e80_50, e80_53, c_seated_in hR hV hc, q_bs, q_tl, q_cn, t10, if_false, hm, if_true]
    · rw [qSel_hi hm]
      refine ⟨H, ?_, hq, kFr.rf⟩
      have : (h < nI (vb (sV S))) = False := eq_false (by rw [Int32.not_lt]; exact hm)
      simp only [e80_0, e80_1, e80_4, e80_5, e80_8, e80_11, e80_12, e80_15, e80_16, e80_17, e80_20, e80_23, e80_26, e80_29, e80_30, e80_31, e80_34, e80_35, e80_36, e80_39, e80_40, e80_43, e80_44, e80_47, e80_50, e80_53, c_seated_in hR hV hc, c_toldHours hR, q_bs, q_tl, q_cn, t10, if_false, q_nlt (show vb (sV S) < 2147483648 by omega) hm, this]
    · rw [qSel_in hm (by omega)]
      obtain ⟨H1, w, s, e1, f1, w1⟩ := c_lookBook hV (by omega) hR hq.2.2.2.2.1 (nI c) (nI m)
      have hq1 := CR_look hq f1 w1
      refine ⟨H1, ?_, hq1, f1.mono (fun _ _ => lC_cC)⟩
      simp only [e80_0, e80_1, e80_4, e80_5, e80_8, e80_11, e80_12, e80_15, e80_16, e80_17, e80_20, e80_23, e80_26, e80_29, e80_30, e80_31, e80_34, e80_35, e80_36, e80_39, e80_40, e80_43, e80_44, e80_47, e80_50, e80_53, c_seated_in hR hV hc, c_toldHours hR, q_bs, q_tl, q_tn, q_nn, q_cn, t10, if_false, q_lt0 (show m < 2147483648 by omega), q_lt (show m < 2147483648 by omega) (show vb (sV S) < 2147483648 by omega), hm, if_true, e1, c_held hq1.1, c_worthFrom w1 hh]
end KHO
