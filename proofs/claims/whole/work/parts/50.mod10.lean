/-! the model: years -/
section KME
variable {V : kV}
def oC (k j : Nat) : Prop := (k = 27 ∧ j = 15) ∨ k = 35
theorem oC_mS {k j : Nat} (h : oC k j) : mS k j := by unfold oC at h; unfold mS; omega
theorem MV_oC {H H' : kH} (h : kFr oC H H') (hv : MV H V) : MV H' V := MV_fr h (fun k j z => by unfold mN at z; unfold oC; omega) hv
theorem m_draw {H : kH} {s : Nat} (hs : s < 2147483648) (hh : hI H 27 15 = nI s) : ev 142 0 [.ref 27, .int 10] [] H = some (some (.int (nI (qDr s))), uI H 27 15 (nI (qSd s))) := by
  have hq := qSd_lt s
  have e0 : lN (1103515245 * s + 12345) &&& lN 2147483647 = lN (qSd s) := by
    rw [q_andL]
    unfold qSd
    rw [show (2147483647 : Nat) = 2 ^ 31 - 1 from rfl, Nat.and_two_pow_sub_one_eq_mod]
  have e2 : nI (qSd s) / 65536 = nI (qSd s / 65536) := pk_div (d := 65536) hq (by decide) (by decide)
  have e3 : nI (qSd s / 65536) - nI (qSd s / 65536) / 10 * 10 = nI (qSd s / 65536 % 10) := pk_rem (d := 10) (by omega) (by decide) (by decide)
  simp only [e142_0, e142_1, e142_4, e142_5, e142_8, e142_9, e142_10, e142_13, e142_14, e142_17, e142_18, e142_19, e142_22, e142_23, e142_26, e142_28, e142_29, e142_30, e142_31, hh, q_i2l hs, q_litL, q_mulL, q_addL, e0, lN_i, hI_uIs, e2, e3, show ((65536 : Int32) = 0) = False from eq_false (by decide), show ((10 : Int32) = 0) = False from eq_false (by decide), if_false]
  rfl
theorem l_mdraw (hV : vOK V) {h s : Nat} (hh : h < 64) (hs : s < 2147483648) (x1 x2 x3 x5 : Int32) (m : Nat) : ∀ i j H, MV H V → hI H 27 15 = nI (qDw V (vt V + nI m) h s j).1 → j + i = vn V → ∃ H', ev 143 107 [.ref 27, .int x1, .int x2, .int x3, .int (nI h), .int x5, .int (nI m), .int (nI (qDw V (vt V + nI m) h s j).2), .int (nI j)] [] H = ev 143 163 [.ref 27, .int x1, .int x2, .int x3, .int (nI h), .int x5, .int (nI m), .int (nI (qDw V (vt V + nI m) h s (vn V)).2), .int (nI (vn V))] [] H' ∧ kFr (fun k j => k = 27 ∧ j = 15) H H' ∧ hI H' 27 15 = nI (qDw V (vt V + nI m) h s (vn V)).1 := by
  have h5 := hV.2.1
  intro i
  induction i with
  | zero =>
    intro j H hv h3 hj
    have : j = vn V := by omega
    subst this
    refine ⟨H, ?_, kFr.rf, h3⟩
    rw [e143_107]
    simp only [e143_109, e143_110, e143_113, hv.1, Std.le_refl, if_true]
  | succ i ih =>
    intro j H hv h3 hj
    have f0 : kFr (fun k j => k = 27 ∧ j = 15) H (uI H 27 15 (nI (qSd (qDw V (vt V + nI m) h s j).1))) := kFr_uI (P := fun k j => k = 27 ∧ j = 15) ⟨rfl, rfl⟩
    have hv1 : MV (uI H 27 15 (nI (qSd (qDw V (vt V + nI m) h s j).1))) V := MV_oC (f0.mono (fun k j z => by unfold oC; omega)) hv
    obtain ⟨d1, d2⟩ := qDw_lt (V := V) (num := vt V + nI m) (h := h) hs j
    obtain ⟨H', e1, f1, g1⟩ := ih (j + 1) _ hv1 (hI_uIs _ _ _ _) (by omega)
    refine ⟨H', ?_, f0.tr f1, g1⟩
    rw [← e1, e143_107]
    have ht := qtn_le9 V j (vt V + nI m) h (vd V)
    have hd10 : qDr (qDw V (vt V + nI m) h s j).1 < 10 := Nat.mod_lt _ (by decide)
    have el := q_le (show qtn V j (vt V + nI m) h (vd V) < 2147483648 by omega) (show qDr (qDw V (vt V + nI m) h s j).1 < 2147483648 by omega)
    by_cases hb : qDr (qDw V (vt V + nI m) h s j).1 < qtn V j (vt V + nI m) h (vd V)
    · simp only [e143_109, e143_110, e143_113, e143_116, e143_118, e143_119, e143_121, e143_124, e143_125, e143_127, e143_129, e143_130, e143_133, e143_135, e143_136, e143_137, e143_140, e143_143, e143_146, e143_147, e143_149, e143_150, e143_153, e143_154, e143_155, e143_157, e143_160, hv.1, q_le (show vn V < 2147483648 by omega) (show j < 2147483648 by omega), show ¬ vn V ≤ j by omega, if_false, m_draw d1 h3, q_bs, q_tl, q_cn, MV_t hv1, MV_d hv1, m_tenths hv1 hV (show j < vn V by omega) hh, el, show ¬ qtn V j (vt V + nI m) h (vd V) ≤ qDr (qDw V (vt V + nI m) h s j).1 by omega, q_shl1 j (by omega), q_or, nI_1, qDw, hb, if_true]
    · simp only [e143_109, e143_110, e143_113, e143_116, e143_118, e143_119, e143_121, e143_124, e143_125, e143_127, e143_129, e143_130, e143_133, e143_135, e143_136, e143_137, e143_140, e143_143, e143_146, e143_147, e143_149, e143_150, e143_153, e143_154, e143_155, e143_157, e143_160, hv.1, q_le (show vn V < 2147483648 by omega) (show j < 2147483648 by omega), show ¬ vn V ≤ j by omega, if_false, m_draw d1 h3, q_bs, q_tl, q_cn, MV_t hv1, MV_d hv1, m_tenths hv1 hV (show j < vn V by omega) hh, el, show qtn V j (vt V + nI m) h (vd V) ≤ qDr (qDw V (vt V + nI m) h s j).1 by omega, if_true, show ∀ a : Int32, a ||| 0 = a from fun a => Int32.or_zero, nI_1, qDw, hb]
def zR (H : kH) (Y : kY) : Prop := hI H 27 15 = nI Y.2.1 ∧ ∀ j, j < 5 → hI H 35 j = nI (Y.2.2.1 j)
theorem m_hourY (hV : vOK V) (x1 x2 x3 : Int32) (m : Nat) {Y : kY} (hh : Y.1 < 64) (hs : Y.2.1 < 2147483648) {H : kH} (hv : MV H V) (hz : zR H Y) (v7 v8 : Value) : ∃ (H' : kH) (y7 y8 : Int32), ev 143 101 [.ref 27, .int x1, .int x2, .int x3, .int (nI Y.1), .int (nI Y.2.2.2), .int (nI m), v7, v8] [] H = ev 143 201 [.ref 27, .int x1, .int x2, .int x3, .int (nI (qLh V (vt V + nI m) Y).1), .int (nI (qLh V (vt V + nI m) Y).2.2.2), .int (nI m), .int y7, .int y8] [] H' ∧ kFr oC H H' ∧ zR H' (qLh V (vt V + nI m) Y) := by
  have h5 := hV.2.1
  obtain ⟨H1, e1, f1, g1⟩ := l_mdraw hV hh hs x1 x2 x3 (nI Y.2.2.2) m (vn V) 0 H hv hz.1 (by omega)
  have hv1 : MV H1 V := MV_oC (f1.mono (fun k j z => by unfold oC; omega)) hv
  obtain ⟨d1, d2⟩ := qDw_lt (V := V) (num := vt V + nI m) (h := Y.1) hs (vn V)
  have d3 : (qDw V (vt V + nI m) Y.1 Y.2.1 (vn V)).2 < 32 := Nat.lt_of_lt_of_le d2 (pow2_le h5)
  have ea : ev 143 101 [.ref 27, .int x1, .int x2, .int x3, .int (nI Y.1), .int (nI Y.2.2.2), .int (nI m), v7, v8] [] H = ev 143 181 [.ref 27, .int x1, .int x2, .int x3, .int (nI (qD V Y.1 (qDw V (vt V + nI m) Y.1 Y.2.1 (vn V)).2)), .int (nI Y.2.2.2), .int (nI m), .int (nI (qDw V (vt V + nI m) Y.1 Y.2.1 (vn V)).2), .int (qK (vk V) (vn V) (qDw V (vt V + nI m) Y.1 Y.2.1 (vn V)).2)] [] H1 := by
    have eb : ev 143 101 [.ref 27, .int x1, .int x2, .int x3, .int (nI Y.1), .int (nI Y.2.2.2), .int (nI m), v7, v8] [] H = ev 143 107 [.ref 27, .int x1, .int x2, .int x3, .int (nI Y.1), .int (nI Y.2.2.2), .int (nI m), .int (nI 0), .int (nI 0)] [] H := by
      simp only [e143_101, e143_102, e143_104, e143_105]
      rfl
    rw [eb]
    refine Eq.trans e1 ?_
    simp only [e143_163, e143_164, e143_166, e143_169, e143_171, e143_172, e143_174, e143_176, e143_179, m_king hv1 hV (show (qDw V (vt V + nI m) Y.1 Y.2.1 (vn V)).2 < 64 by omega), m_behind hv1 hV hh (show (qDw V (vt V + nI m) Y.1 Y.2.1 (vn V)).2 < 64 by omega), q_bs, q_tl, q_cn]
  rw [ea]
  unfold qLh qD
  rcases qK_in (vk V) (vn V) (qDw V (vt V + nI m) Y.1 Y.2.1 (vn V)).2 (by omega) with e | ⟨c, hc, e⟩
  · rw [if_pos e, if_pos e]
    refine ⟨H1, nI (qDw V (vt V + nI m) Y.1 Y.2.1 (vn V)).2, -1, ?_, f1.mono (fun k j z => by unfold oC; omega), g1, fun j hj => ((f1 35 j (by omega)).1).trans (hz.2 j hj)⟩
    rw [e]
    simp only [e143_181, e143_183, e143_184, tm1, if_true]
  · have hne : ¬ nI c = (-1 : Int32) := by rw [q_m1ne (by omega)]; exact id
    have i35 : hI H1 35 c = nI (Y.2.2.1 c) := ((f1 35 c (by omega)).1).trans (hz.2 c (by omega))
    rw [e, if_neg hne, if_neg hne, q_cl (by omega)]
    refine ⟨uI H1 35 c (nI (Y.2.2.1 c + 1)), nI (qDw V (vt V + nI m) Y.1 Y.2.1 (vn V)).2, nI c, ?_, (f1.mono (fun k j z => by unfold oC; omega)).tr (kFr_uI (by unfold oC; omega)), ?_, fun j hj => ?_⟩
    · simp only [e143_181, e143_183, e143_184, e143_187, e143_190, e143_191, e143_194, e143_196, e143_197, e143_198, e143_199, e143_200, hne, if_false, q_lt0 (show c < 2147483648 by omega), q_cl (show c < 2147483648 by omega), show ¬ 5 ≤ c by omega, or_self, i35, nI_1]
    · rw [hI_uIn (by omega)]
      exact g1
    · show hI _ 35 j = nI (fu _ c _ j)
      by_cases z : j = c
      · subst z
        rw [hI_uIs, fu_s]
      · rw [hI_uIn (by omega), fu_n z]
        exact ((f1 35 j (by omega)).1).trans (hz.2 j hj)
theorem l_mlive (hV : vOK V) {s n : Nat} (hs : s < 2147483648) (hn : n < 1000) (x2 x3 : Int32) : ∀ i m H v7 v8, m + i = n → MV H V → zR H (qLv V s m) → ∃ (H' : kH) (y7 y8 : Value), ev 143 95 [.ref 27, .int (nI n), .int x2, .int x3, .int (nI (qLv V s m).1), .int (nI (qLv V s m).2.2.2), .int (nI m), v7, v8] [] H = ev 143 207 [.ref 27, .int (nI n), .int x2, .int x3, .int (nI (qLv V s n).1), .int (nI (qLv V s n).2.2.2), .int (nI n), y7, y8] [] H' ∧ kFr oC H H' ∧ zR H' (qLv V s n) := by
  intro i
  induction i with
  | zero =>
    intro m H v7 v8 hm hv hz
    have : m = n := by omega
    subst this
    refine ⟨H, v7, v8, ?_, kFr.rf, hz⟩
    rw [e143_95]
    simp only [e143_97, e143_98, Std.le_refl, if_true]
  | succ i ih =>
    intro m H v7 v8 hm hv hz
    obtain ⟨k1, k2, -⟩ := qLv_ok hV hs m
    obtain ⟨H1, y7, y8, e1, f1, g1⟩ := m_hourY hV (nI n) x2 x3 m k1 k2 hv hz v7 v8
    obtain ⟨H2, z7, z8, e2, f2, g2⟩ := ih (m + 1) H1 (.int y7) (.int y8) (by omega) (MV_oC f1 hv) g1
    refine ⟨H2, z7, z8, ?_, f1.tr f2, g2⟩
    have ea : ev 143 95 [.ref 27, .int (nI n), .int x2, .int x3, .int (nI (qLv V s m).1), .int (nI (qLv V s m).2.2.2), .int (nI m), v7, v8] [] H = ev 143 101 [.ref 27, .int (nI n), .int x2, .int x3, .int (nI (qLv V s m).1), .int (nI (qLv V s m).2.2.2), .int (nI m), v7, v8] [] H := by
      rw [e143_95]
      simp only [e143_97, e143_98, q_le (show n < 2147483648 by omega) (show m < 2147483648 by omega), show ¬ n ≤ m by omega, if_false]
    rw [ea, e1, ← e2]
    simp only [e143_201, e143_204, nI_1]
    rfl
theorem l_moften (x1 x2 x3 : Int32) : ∀ i j H, j + i = 5 → (∀ q, q < j → hI H 35 q = 0) → ∃ H', ev 143 58 [.ref 27, .int x1, .int x2, .int x3, .int (nI j), .null, .null, .null, .null] [] H = ev 143 78 [.ref 27, .int x1, .int x2, .int x3, .int (nI 5), .null, .null, .null, .null] [] H' ∧ kFr oC H H' ∧ ∀ q, q < 5 → hI H' 35 q = 0 := by
  intro i
  induction i with
  | zero =>
    intro j H hj hq
    have : j = 5 := by omega
    subst this
    refine ⟨H, ?_, kFr.rf, hq⟩
    rw [e143_58]
    simp only [e143_60, e143_61, show (5 : Int32) = nI 5 from rfl, Std.le_refl, if_true]
  | succ i ih =>
    intro j H hj hq
    have f0 : kFr oC H (uI H 35 j 0) := kFr_uI (by unfold oC; omega)
    obtain ⟨H', e1, f1, g1⟩ := ih (j + 1) (uI H 35 j 0) (by omega) (fun q hq1 => by
      by_cases e : q = j
      · subst e
        rw [hI_uIs]
      · rw [hI_uIn (by omega)]
        exact hq q (by omega))
    refine ⟨H', ?_, f0.tr f1, g1⟩
    rw [← e1, e143_58]
    simp only [e143_60, e143_61, e143_64, e143_65, e143_68, e143_70, e143_71, e143_72, e143_75, show (5 : Int32) = nI 5 from rfl, q_le (show 5 < 2147483648 by decide) (show j < 2147483648 by omega), show ¬ 5 ≤ j by omega, if_false, q_lt0 (show j < 2147483648 by omega), q_cl (show j < 2147483648 by omega), or_self, nI_1]
end KME
section KMF
variable {H : kH} {S : kS}
theorem y_years (hq : MR H S) (ho : sOK S) (hours seed what : Int32) : ∃ H1, ev 143 0 [.ref 27, .int hours, .int seed, .int what, .null, .null, .null, .null, .null] [] H = some (some (.int (fYears (sV S) hours seed what)), H1) ∧ MR H1 S ∧ kFr mC H H1 := by
  have hR := hq.1
  have hV := ho.1
  have h5 := hV.2.1
  unfold fYears
  rcases q_case hours (show 61 < 2147483648 by decide) with hl | hl | ⟨m, hl, rfl⟩
  · rw [qSel_lo hl]
    refine ⟨H, ?_, hq, kFr.rf⟩
    simp only [e143_0, e143_1, e143_2, e143_3, e143_6, e143_9, e143_12, e143_13, e143_16, e143_17, e143_18, e143_19, e143_22, e143_25, e143_28, e143_29, e143_30, e143_33, e143_36, e143_39, e143_42, e143_44, show (1 : Int64) = lN 1 from rfl, show (60 : Int64) = lN 60 from rfl, m_lo hl (show 1 < 2147483648 by decide) (show 60 < 2147483648 by decide), q_bs, q_tl, q_cn, if_true]
  · rw [qSel_hi hl]
    refine ⟨H, ?_, hq, kFr.rf⟩
    simp only [e143_0, e143_1, e143_2, e143_3, e143_6, e143_9, e143_12, e143_13, e143_16, e143_17, e143_18, e143_19, e143_22, e143_25, e143_28, e143_29, e143_30, e143_33, e143_36, e143_39, e143_42, e143_44, show (1 : Int64) = lN 1 from rfl, show (60 : Int64) = lN 60 from rfl, m_hi hl (show 61 < 2147483648 by decide) (show 60 < 61 by decide) (show 1 < 2147483648 by decide), q_bs, q_tl, q_cn, if_true]
  · rw [qSel_in hl (by decide)]
    by_cases m0 : m = 0
    · rw [if_pos m0]
      refine ⟨H, ?_, hq, kFr.rf⟩
      subst m0
      simp only [e143_0, e143_1, e143_2, e143_3, e143_6, e143_9, e143_12, e143_13, e143_16, e143_17, e143_18, e143_19, e143_22, e143_25, e143_28, e143_29, e143_30, e143_33, e143_36, e143_39, e143_42, e143_44, show (1 : Int64) = lN 1 from rfl, show (60 : Int64) = lN 60 from rfl, m_no (show 0 < 1 by decide) (show 1 < 2147483648 by decide) (show 60 < 2147483648 by decide), q_bs, q_tl, q_cn, if_true]
    · rw [if_neg m0]
      have e12 : ev 143 0 [.ref 27, .int (nI m), .int seed, .int what, .null, .null, .null, .null, .null] [] H = ev 143 12 [.ref 27, .int (nI m), .int seed, .int what, .null, .null, .null, .null, .null] [] H := by
        simp only [e143_0, e143_1, e143_2, e143_3, e143_6, e143_9, show (1 : Int64) = lN 1 from rfl, show (60 : Int64) = lN 60 from rfl, m_ok (show 1 ≤ m by omega) (show m ≤ 60 by omega) (show 60 < 2147483648 by decide), q_bs, q_tl, q_cn, t10, if_false]
      rw [e12]
      by_cases hsd : seed < 0
      · rw [if_pos hsd]
        refine ⟨H, ?_, hq, kFr.rf⟩
        simp only [e143_12, e143_13, e143_16, e143_17, e143_18, e143_19, e143_22, e143_25, e143_28, e143_29, e143_30, e143_33, e143_36, e143_39, e143_42, e143_44, hsd, if_true]
      · rw [if_neg hsd]
        obtain ⟨s, hs, rfl⟩ := nI_of hsd
        rw [q_cl hs]
        rcases q_case what (show 15 < 2147483648 by decide) with hw | hw | ⟨w, hw, rfl⟩
        · rw [qSel_lo hw]
          refine ⟨H, ?_, hq, kFr.rf⟩
          simp only [e143_12, e143_13, e143_16, e143_17, e143_18, e143_19, e143_22, e143_25, e143_28, e143_29, e143_30, e143_33, e143_36, e143_39, e143_42, e143_44, hsd, if_false, show (0 : Int64) = lN 0 from rfl, show (2 : Int64) = lN 2 from rfl, show (10 : Int64) = lN 10 from rfl, show (14 : Int64) = lN 14 from rfl, m_lo hw (show 0 < 2147483648 by decide) (show 2 < 2147483648 by decide), m_lo hw (show 10 < 2147483648 by decide) (show 14 < 2147483648 by decide), q_bs, q_tl, q_cn, not_true_eq_false]
        · rw [qSel_hi hw]
          refine ⟨H, ?_, hq, kFr.rf⟩
          simp only [e143_12, e143_13, e143_16, e143_17, e143_18, e143_19, e143_22, e143_25, e143_28, e143_29, e143_30, e143_33, e143_36, e143_39, e143_42, e143_44, hsd, if_false, show (0 : Int64) = lN 0 from rfl, show (2 : Int64) = lN 2 from rfl, show (10 : Int64) = lN 10 from rfl, show (14 : Int64) = lN 14 from rfl, m_hi hw (show 15 < 2147483648 by decide) (show 2 < 15 by decide) (show 0 < 2147483648 by decide), m_hi hw (show 15 < 2147483648 by decide) (show 14 < 15 by decide) (show 10 < 2147483648 by decide), q_bs, q_tl, q_cn, not_true_eq_false]
        · rw [qSel_in hw (by decide)]
          by_cases h3 : 3 ≤ w ∧ w < 10
          · rw [if_pos h3]
            refine ⟨H, ?_, hq, kFr.rf⟩
            simp only [e143_12, e143_13, e143_16, e143_17, e143_18, e143_19, e143_22, e143_25, e143_28, e143_29, e143_30, e143_33, e143_36, e143_39, e143_42, e143_44, hsd, if_false, show (0 : Int64) = lN 0 from rfl, show (2 : Int64) = lN 2 from rfl, show (10 : Int64) = lN 10 from rfl, show (14 : Int64) = lN 14 from rfl, m_hi (show nI 3 ≤ nI w by rw [q_le (by decide) (by omega)]; omega) (show 3 < 2147483648 by decide) (show 2 < 3 by decide) (show 0 < 2147483648 by decide), m_no h3.2 (show 10 < 2147483648 by decide) (show 14 < 2147483648 by decide), q_bs, q_tl, q_cn, not_true_eq_false]
          · rw [if_neg h3]
            have e45 : ev 143 12 [.ref 27, .int (nI m), .int (nI s), .int (nI w), .null, .null, .null, .null, .null] [] H = ev 143 45 [.ref 27, .int (nI m), .int (nI s), .int (nI w), .null, .null, .null, .null, .null] [] H := by
              by_cases a : w ≤ 2
              · simp only [e143_12, e143_13, e143_16, e143_17, e143_18, e143_19, e143_22, e143_25, e143_28, e143_29, e143_30, e143_33, e143_36, e143_39, hsd, if_false, show (0 : Int64) = lN 0 from rfl, show (2 : Int64) = lN 2 from rfl, m_ok (show 0 ≤ w by omega) a (show 2 < 2147483648 by decide), q_bs, q_tl, q_cn, t10, not_false_eq_true, if_true]
              · simp only [e143_12, e143_13, e143_16, e143_17, e143_18, e143_19, e143_22, e143_25, e143_28, e143_29, e143_30, e143_33, e143_36, e143_39, hsd, if_false, show (0 : Int64) = lN 0 from rfl, show (2 : Int64) = lN 2 from rfl, show (10 : Int64) = lN 10 from rfl, show (14 : Int64) = lN 14 from rfl, m_hi (show nI 3 ≤ nI w by rw [q_le (by decide) (by omega)]; omega) (show 3 < 2147483648 by decide) (show 2 < 3 by decide) (show 0 < 2147483648 by decide), m_ok (show 10 ≤ w by omega) (show w ≤ 14 by omega) (show 14 < 2147483648 by decide), q_bs, q_tl, q_cn, not_true_eq_false, t10, not_false_eq_true, if_true]
            rw [e45]
            by_cases h0 : vn (sV S) = 0
            · rw [if_pos h0]
              refine ⟨H, ?_, hq, kFr.rf⟩
              simp only [e143_45, e143_46, e143_49, e143_52, e143_54, m_lacks0 hR hV h0, q_bs, q_tl, q_cn, t10, if_false]
            · rw [if_neg h0]
              obtain ⟨H1, e1, f1, g1⟩ := l_moften (nI m) (nI s) (nI w) 5 0 H (by omega) (fun q hq => absurd hq (by omega))
              have hv1 := MV_oC f1 hR
              have f2 : kFr oC H1 (uI H1 27 15 (nI s)) := kFr_uI (by unfold oC; omega)
              have hv2 := MV_oC f2 hv1
              obtain ⟨H2, y7, y8, e3, f3, g3⟩ := l_mlive hV hs (show m < 1000 by omega) (nI s) (nI w) m 0 (uI H1 27 15 (nI s)) .null .null (by omega) hv2 ⟨hI_uIs _ _ _ _, fun j hj => by rw [hI_uIn (by omega)]; exact g1 j hj⟩
              obtain ⟨k1, k2, k3⟩ := qLv_ok hV hs m
              have F : kFr oC H H2 := (f1.tr f2).tr f3
              refine ⟨H2, ?_, MR_fr (F.mono (fun _ _ => oC_mS)) hq, F.mono (fun _ _ z => mS_mC (oC_mS z))⟩
              have ea : ev 143 45 [.ref 27, .int (nI m), .int (nI s), .int (nI w), .null, .null, .null, .null, .null] [] H = ev 143 58 [.ref 27, .int (nI m), .int (nI s), .int (nI w), .int (nI 0), .null, .null, .null, .null] [] H := by
                simp only [e143_45, e143_46, e143_49, e143_52, e143_54, e143_55, e143_56, m_lacks1 hR hV h0, q_bs, q_tl, q_cn, if_true]
                rfl
              have eb : ev 143 78 [.ref 27, .int (nI m), .int (nI s), .int (nI w), .int (nI 5), .null, .null, .null, .null] [] H1 = ev 143 95 [.ref 27, .int (nI m), .int (nI s), .int (nI w), .int (nI (qLv (sV S) s 0).1), .int (nI (qLv (sV S) s 0).2.2.2), .int (nI 0), .null, .null] [] (uI H1 27 15 (nI s)) := by
                simp only [e143_78, e143_79, e143_80, e143_83, e143_84, e143_87, e143_89, e143_90, e143_92, e143_93, MV_h hv2]
                rfl
              rw [ea, e1, eb, e3]
              have ew0 : (nI w = 0) = (w = 0) := q_n0' (by omega)
              have ew1 : (nI w = 1) = (w = 1) := q_eq (b := 1) (by omega) (by decide)
              have ew2 : (nI w = 2) = (w = 2) := q_eq (b := 2) (by omega) (by decide)
              by_cases w0 : w = 0
              · rw [if_pos w0]
                simp only [e143_207, e143_208, e143_211, e143_213, e143_216, e143_217, e143_218, e143_221, e143_223, e143_226, e143_227, e143_228, e143_231, e143_232, e143_235, e143_238, e143_239, e143_242, e143_243, e143_245, e143_246, e143_247, ew0, eq_true w0, not_true_eq_false, if_false]
              · rw [if_neg w0]
                by_cases w1 : w = 1
                · rw [if_pos w1]
                  simp only [e143_207, e143_208, e143_211, e143_213, e143_216, e143_217, e143_218, e143_221, e143_223, e143_226, e143_227, e143_228, e143_231, e143_232, e143_235, e143_238, e143_239, e143_242, e143_243, e143_245, e143_246, e143_247, ew0, w0, not_false_eq_true, if_true, ew1, eq_true w1, not_true_eq_false, if_false]
                · rw [if_neg w1]
                  by_cases w2 : w = 2
                  · rw [if_pos w2]
                    simp only [e143_207, e143_208, e143_211, e143_213, e143_216, e143_217, e143_218, e143_221, e143_223, e143_226, e143_227, e143_228, e143_231, e143_232, e143_235, e143_238, e143_239, e143_242, e143_243, e143_245, e143_246, e143_247, ew0, w0, not_false_eq_true, if_true, ew1, w1, ew2, eq_true w2, not_true_eq_false, if_false, g3.1]
                  · rw [if_neg w2]
                    simp only [e143_207, e143_208, e143_211, e143_213, e143_216, e143_217, e143_218, e143_221, e143_223, e143_226, e143_227, e143_228, e143_231, e143_232, e143_235, e143_238, e143_239, e143_242, e143_243, e143_245, e143_246, e143_247, ew0, w0, not_false_eq_true, if_true, ew1, w1, ew2, w2, show (10 : Int32) = nI 10 from rfl, q_sub (show 10 ≤ w by omega), q_lt0 (show w - 10 < 2147483648 by omega), q_cl (show w - 10 < 2147483648 by omega), show ¬ 5 ≤ w - 10 by omega, or_self, if_false, g3.2 (w - 10) (by omega)]
end KMF
