/-! the model's king, laws, hour -/
section KM4
variable {H : kH} {V : kV}
theorem lm_king (hv : MV H V) (hV : vOK V) {s : Nat} (hs : s < 64) : ∀ i j, j + i = vn V →
    ev 116 13 [.ref 27, .int (nI s), .int (nI (qF (vk V) s j).1), .int (nI (qF (vk V) s j).2.2.1), .int (qF (vk V) s j).2.1, .int (qF (vk V) s j).2.2.2, .int (nI j)] [] H = ev 116 88 [.ref 27, .int (nI s), .int (nI (qF (vk V) s (vn V)).1), .int (nI (qF (vk V) s (vn V)).2.2.1), .int (qF (vk V) s (vn V)).2.1, .int (qF (vk V) s (vn V)).2.2.2, .int (nI (vn V))] [] H := by
  have h5 := hV.2.1
  intro i
  induction i with
  | zero =>
    intro j hj
    have : j = vn V := by omega
    subst this
    rw [e116_13]
    simp only [e116_15, e116_16, e116_19, hv.1, Std.le_refl, if_true]
  | succ i ih =>
    intro j hj
    have hk5 := (hV.2.2.1 j (by omega)).1
    have e3 : (nI (vk V j) = 3) = (vk V j = 3) := q_eq (b := 3) (by omega) (by decide)
    have eb := (q_bit s hs j (by omega)).2
    refine Eq.trans ?_ (ih (j + 1) (by omega))
    rw [e116_13]
    cases hb : s.testBit j with
    | false =>
      simp only [e116_15, e116_16, e116_19, e116_22, e116_23, e116_25, e116_26, e116_27, e116_28, e116_29, e116_32, e116_35, e116_37, e116_39, e116_40, e116_41, e116_44, e116_45, e116_47, e116_48, e116_49, e116_50, e116_53, e116_54, e116_57, e116_58, e116_59, e116_60, e116_61, e116_64, e116_65, e116_67, e116_68, e116_69, e116_70, e116_73, e116_75, e116_78, e116_80, e116_82, e116_85, hv.1, q_le (show vn V < 2147483648 by omega) (show j < 2147483648 by omega), show ¬ vn V ≤ j by omega, if_false, eb, hb, Bool.false_eq_true, not_false_eq_true, if_true, nI_1, qF]
    | true =>
      by_cases h3 : vk V j = 3
      · simp only [e116_15, e116_16, e116_19, e116_22, e116_23, e116_25, e116_26, e116_27, e116_28, e116_29, e116_32, e116_35, e116_37, e116_39, e116_40, e116_41, e116_44, e116_45, e116_47, e116_48, e116_49, e116_50, e116_53, e116_54, e116_57, e116_58, e116_59, e116_60, e116_61, e116_64, e116_65, e116_67, e116_68, e116_69, e116_70, e116_73, e116_75, e116_78, e116_80, e116_82, e116_85, hv.1, q_le (show vn V < 2147483648 by omega) (show j < 2147483648 by omega), show ¬ vn V ≤ j by omega, if_false, eb, hb, not_true_eq_false, show (4 : Int32) = nI 4 from rfl, q_mul, q_lt0 (show 4 * j < 2147483648 by omega), q_cl (show 4 * j < 2147483648 by omega), show ¬ 20 ≤ 4 * j by omega, or_self, MV_k hv (show j < vn V by omega), e3, eq_true h3, if_true, nI_1, qF]
      · simp only [e116_15, e116_16, e116_19, e116_22, e116_23, e116_25, e116_26, e116_27, e116_28, e116_29, e116_32, e116_35, e116_37, e116_39, e116_40, e116_41, e116_44, e116_45, e116_47, e116_48, e116_49, e116_50, e116_53, e116_54, e116_57, e116_58, e116_59, e116_60, e116_61, e116_64, e116_65, e116_67, e116_68, e116_69, e116_70, e116_73, e116_75, e116_78, e116_80, e116_82, e116_85, hv.1, q_le (show vn V < 2147483648 by omega) (show j < 2147483648 by omega), show ¬ vn V ≤ j by omega, if_false, eb, hb, not_true_eq_false, show (4 : Int32) = nI 4 from rfl, q_mul, q_lt0 (show 4 * j < 2147483648 by omega), q_cl (show 4 * j < 2147483648 by omega), show ¬ 20 ≤ 4 * j by omega, or_self, MV_k hv (show j < vn V by omega), e3, h3, not_false_eq_true, if_true, nI_1, Int32.add_zero, qF]
theorem m_king (hv : MV H V) (hV : vOK V) {s : Nat} (hs : s < 64) : ev 116 0 [.ref 27, .int (nI s), .null, .null, .null, .null, .null] [] H = some (some (.int (qK (vk V) (vn V) s)), H) := by
  have h5 := hV.2.1
  have h0 := lm_king hv hV hs (vn V) 0 (by omega)
  have ea : ev 116 0 [.ref 27, .int (nI s), .null, .null, .null, .null, .null] [] H = ev 116 13 [.ref 27, .int (nI s), .int (nI (qF (vk V) s 0).1), .int (nI (qF (vk V) s 0).2.2.1), .int (qF (vk V) s 0).2.1, .int (qF (vk V) s 0).2.2.2, .int (nI 0)] [] H := by
    simp only [e116_0, e116_1, e116_2, e116_3, e116_4, e116_5, e116_7, e116_8, e116_10, e116_11]
    rfl
  rw [ea, h0]
  obtain ⟨o1, o2, o3, o4⟩ := qF_one (vk V) s (vn V)
  obtain ⟨b1, b2⟩ := qF_le (vk V) s (vn V)
  have e1 : (nI (qF (vk V) s (vn V)).1 = 1) = ((qF (vk V) s (vn V)).1 = 1) := q_eq (b := 1) (by omega) (by decide)
  have e2 : (nI (qF (vk V) s (vn V)).2.2.1 = 1) = ((qF (vk V) s (vn V)).2.2.1 = 1) := q_eq (b := 1) (by omega) (by decide)
  have e3 : (nI (qF (vk V) s (vn V)).1 ≤ 1) = ((qF (vk V) s (vn V)).1 ≤ 1) := q_le (b := 1) (by omega) (by decide)
  unfold qK
  by_cases c1 : (qF (vk V) s (vn V)).1 = 1
  · obtain ⟨c, hc, ec⟩ := o2 (by omega)
    have hk5 := (hV.2.2.1 c hc).1
    have ek : (nI (vk V c) = 1) = (vk V c = 1) := q_eq (b := 1) (by omega) (by decide)
    have en : (nI (vn V) = 0) = False := by rw [q_n0' (by omega)]; exact eq_false (by omega)
    rw [if_pos c1, ec, q_cl (by omega)]
    by_cases k1 : vk V c = 1
    · rw [if_pos k1]
      have er : nI (c + 1) - nI (c + 1) / nI (vn V) * nI (vn V) = nI ((c + 1) % vn V) := pk_rem (by omega) (by omega) (by omega)
      simp only [e116_88, e116_89, e116_90, e116_93, e116_94, e116_97, e116_98, e116_100, e116_101, e116_102, e116_103, e116_106, e116_108, e116_109, e116_110, e116_111, e116_114, e116_115, e116_118, e116_120, e1, eq_true c1, not_true_eq_false, if_false, show (4 : Int32) = nI 4 from rfl, q_mul, q_lt0 (show 4 * c < 2147483648 by omega), q_cl (show 4 * c < 2147483648 by omega), show ¬ 20 ≤ 4 * c by omega, or_self, MV_k hv hc, ek, eq_true k1, hv.1, en, nI_1, er]
      refine congrArg (fun z => some (some (Value.int z), H)) ?_
      by_cases z : c + 1 < vn V
      · rw [if_pos z, Nat.mod_eq_of_lt z]
      · rw [if_neg z, show c + 1 = vn V by omega, Nat.mod_self]
    · rw [if_neg k1]
      simp only [e116_88, e116_89, e116_90, e116_93, e116_94, e116_97, e116_98, e116_100, e116_101, e116_102, e116_103, e116_106, e116_108, e116_109, e116_110, e116_111, e116_114, e116_115, e116_118, e116_120, e1, eq_true c1, not_true_eq_false, not_false_eq_true, if_false, if_true, show (4 : Int32) = nI 4 from rfl, q_mul, q_lt0 (show 4 * c < 2147483648 by omega), q_cl (show 4 * c < 2147483648 by omega), show ¬ 20 ≤ 4 * c by omega, or_self, MV_k hv hc, ek, k1]
  · rw [if_neg c1]
    by_cases c2 : (qF (vk V) s (vn V)).2.2.1 = 1
    · rw [if_pos c2]
      simp only [e116_88, e116_89, e116_90, e116_93, e116_94, e116_97, e116_98, e116_100, e116_101, e116_102, e116_103, e116_106, e116_108, e116_109, e116_110, e116_111, e116_114, e116_115, e116_118, e116_120, e116_121, e116_122, e116_123, e116_126, e116_127, e116_128, e116_131, e116_133, e116_136, e116_137, e1, c1, not_false_eq_true, if_true, e3, show ¬ (qF (vk V) s (vn V)).1 ≤ 1 by omega, if_false, e2, eq_true c2, not_true_eq_false]
    · rw [if_neg c2]
      by_cases c3 : (qF (vk V) s (vn V)).1 ≤ 1
      · simp only [e116_88, e116_89, e116_90, e116_93, e116_94, e116_97, e116_98, e116_100, e116_101, e116_102, e116_103, e116_106, e116_108, e116_109, e116_110, e116_111, e116_114, e116_115, e116_118, e116_120, e116_121, e116_122, e116_123, e116_126, e116_127, e116_128, e116_131, e116_133, e116_136, e116_137, e1, c1, not_false_eq_true, if_true, e3, c3]
      · simp only [e116_88, e116_89, e116_90, e116_93, e116_94, e116_97, e116_98, e116_100, e116_101, e116_102, e116_103, e116_106, e116_108, e116_109, e116_110, e116_111, e116_114, e116_115, e116_118, e116_120, e116_121, e116_122, e116_123, e116_126, e116_127, e116_128, e116_131, e116_133, e116_136, e116_137, e1, c1, not_false_eq_true, if_true, e3, c3, if_false, e2, c2]
theorem m_said {h l : Nat} (hh : h < 64) (hl : l < 6) : ev 117 0 [.int (nI h), .int (nI l)] [] H = some (some (.int (nI (qS h l))), H) := by
  obtain ⟨s0, s1, s2, s3, s4, s5⟩ := qS_ok h hh
  rcases (show l = 0 ∨ l = 1 ∨ l = 2 ∨ l = 3 ∨ l = 4 ∨ l = 5 by omega) with rfl | rfl | rfl | rfl | rfl | rfl
  · rw [e117_0, e117_1_d _ _ _ _ (Or.inl (by decide))]
    simp only [e117_68, e117_69, e117_70, e117_71, e117_72, e117_73, show (1 : Int32) <<< (nI 0 &&& 31) = 1 from by decide, s0]
  · simp only [show nI 1 = (1 : Int32) from rfl, e117_0, e117_1_1, e117_1_2, e117_1_3, e117_1_4, e117_1_5, e117_1_d, e117_36, e117_37, e117_39, e117_40, e117_41, e117_42, e117_43, e117_44, e117_45, e117_46, e117_49, e117_50, e117_53, e117_54, e117_55, e117_56, e117_57, e117_59, e117_60, e117_61, e117_63, e117_64, e117_66, e117_67, e117_68, e117_69, e117_70, e117_71, e117_72, e117_73, s1]
  · simp only [show nI 2 = (2 : Int32) from rfl, e117_0, e117_1_1, e117_1_2, e117_1_3, e117_1_4, e117_1_5, e117_1_d, e117_36, e117_37, e117_39, e117_40, e117_41, e117_42, e117_43, e117_44, e117_45, e117_46, e117_49, e117_50, e117_53, e117_54, e117_55, e117_56, e117_57, e117_59, e117_60, e117_61, e117_63, e117_64, e117_66, e117_67, e117_68, e117_69, e117_70, e117_71, e117_72, e117_73]
    rw [← s2]
    by_cases c : nI h &&& 3 = 0
    · simp only [c, not_true_eq_false, if_false, if_true]
    · simp only [c, not_false_eq_true, if_false, if_true]
  · simp only [show nI 3 = (3 : Int32) from rfl, e117_0, e117_1_1, e117_1_2, e117_1_3, e117_1_4, e117_1_5, e117_1_d, e117_36, e117_37, e117_39, e117_40, e117_41, e117_42, e117_43, e117_44, e117_45, e117_46, e117_49, e117_50, e117_53, e117_54, e117_55, e117_56, e117_57, e117_59, e117_60, e117_61, e117_63, e117_64, e117_66, e117_67, e117_68, e117_69, e117_70, e117_71, e117_72, e117_73, show (1 : Int32) <<< ((3 : Int32) &&& 31) = 8 from by decide, s3]
  · simp only [show nI 4 = (4 : Int32) from rfl, e117_0, e117_1_1, e117_1_2, e117_1_3, e117_1_4, e117_1_5, e117_1_d, e117_36, e117_37, e117_39, e117_40, e117_41, e117_42, e117_43, e117_44, e117_45, e117_46, e117_49, e117_50, e117_53, e117_54, e117_55, e117_56, e117_57, e117_59, e117_60, e117_61, e117_63, e117_64, e117_66, e117_67, e117_68, e117_69, e117_70, e117_71, e117_72, e117_73, s4]
  · simp only [show nI 5 = (5 : Int32) from rfl, e117_0, e117_1_1, e117_1_2, e117_1_3, e117_1_4, e117_1_5, e117_1_d, e117_36, e117_37, e117_39, e117_40, e117_41, e117_42, e117_43, e117_44, e117_45, e117_46, e117_49, e117_50, e117_53, e117_54, e117_55, e117_56, e117_57, e117_59, e117_60, e117_61, e117_63, e117_64, e117_66, e117_67, e117_68, e117_69, e117_70, e117_71, e117_72, e117_73, s5]
theorem qD_lt (hV : vOK V) {h : Nat} (hh : h < 64) (s : Nat) : qD V h s < 64 := by
  have h5 := hV.2.1
  unfold qD
  rcases qK_in (vk V) (vn V) s (by omega) with e | ⟨c, hc, e⟩
  · rw [if_pos e]
    exact hh
  · rw [e, if_neg (by rw [q_m1ne (by omega)]; exact id), q_cl (by omega)]
    exact qS_lt h hh _ (hV.2.2.1 c hc).2.2
theorem m_behind (hv : MV H V) (hV : vOK V) {h s : Nat} (hh : h < 64) (hs : s < 64) : ev 118 0 [.ref 27, .int (nI h), .int (nI s), .null] [] H = some (some (.int (nI (qD V h s))), H) := by
  have h5 := hV.2.1
  unfold qD
  rcases qK_in (vk V) (vn V) s (by omega) with e | ⟨c, hc, e⟩
  · rw [if_pos e]
    simp only [e118_0, e118_1, e118_2, e118_5, e118_6, e118_7, e118_8, e118_11, e118_12, e118_15, e118_16, e118_17, e118_20, e118_21, e118_22, e118_23, e118_24, e118_25, e118_26, e118_29, m_king hv hV hs, e, q_bs, q_tl, q_cn, tm1, not_true_eq_false, if_false]
  · rw [e, if_neg (by rw [q_m1ne (by omega)]; exact id), q_cl (by omega)]
    simp only [e118_0, e118_1, e118_2, e118_5, e118_6, e118_7, e118_8, e118_11, e118_12, e118_15, e118_16, e118_17, e118_20, e118_21, e118_22, e118_23, e118_24, e118_25, e118_26, e118_29, m_king hv hV hs, e, q_bs, q_tl, q_cn, q_m1ne (show c < 2147483648 by omega), not_false_eq_true, if_true, show (4 : Int32) = nI 4 from rfl, show (2 : Int32) = nI 2 from rfl, q_mul, q_add, q_lt0 (show 4 * c + 2 < 2147483648 by omega), q_cl (show 4 * c + 2 < 2147483648 by omega), show ¬ 20 ≤ 4 * c + 2 by omega, or_self, if_false, MV_l hv hc, m_said hh (hV.2.2.1 c hc).2.2]
/-- whether a set can sneeze -/
def qMy (V : kV) (num : Int32) (h s : Nat) : Nat → Bool
  | 0 => true
  | j + 1 => qMy V num h s j && (!(s.testBit j) || decide (0 < qtn V j num h (vd V)))
theorem qMy_iff (V : kV) (num : Int32) (h s : Nat) : ∀ n, qMy V num h s n = true ↔ ∀ j, j < n → s.testBit j = true → 0 < qtn V j num h (vd V)
  | 0 => ⟨fun _ j hj => absurd hj (Nat.not_lt_zero j), fun _ => rfl⟩
  | n + 1 => by
    unfold qMy
    rw [Bool.and_eq_true, qMy_iff V num h s n, Bool.or_eq_true, Bool.not_eq_true', decide_eq_true_eq]
    constructor
    · rintro ⟨h1, h2⟩ j hj hb
      by_cases e : j = n
      · subst e
        rcases h2 with h2 | h2
        · rw [hb] at h2
          exact absurd h2 (by decide)
        · exact h2
      · exact h1 j (by omega) hb
    · intro z
      refine ⟨fun j hj hb => z j (by omega) hb, ?_⟩
      cases hb : s.testBit n with
      | false => exact Or.inl rfl
      | true => exact Or.inr (z n (by omega) hb)
theorem lm_may (hv : MV H V) (hV : vOK V) {h s : Nat} (hh : h < 64) (hs : s < 64) (num : Int32) : ∀ i j, j + i = vn V → ev 119 6 [.ref 27, .int (nI s), .int (nI h), .int num, .int (if qMy V num h s j = true then 1 else 0), .int (nI j)] [] H = some (some (.int (if qMy V num h s (vn V) = true then 1 else 0)), H) := by
  have h5 := hV.2.1
  intro i
  induction i with
  | zero =>
    intro j hj
    have : j = vn V := by omega
    subst this
    rw [e119_6]
    simp only [e119_8, e119_9, e119_12, e119_57, e119_59, hv.1, Std.le_refl, if_true, z01]
  | succ i ih =>
    intro j hj
    have eb := (q_bit s hs j (by omega)).1
    have ht := qtn_le9 V j num h (vd V)
    refine Eq.trans ?_ (ih (j + 1) (by omega))
    rw [e119_6]
    cases hm : qMy V num h s j with
    | false =>
      simp only [e119_8, e119_9, e119_12, e119_15, e119_17, e119_20, e119_21, e119_23, e119_24, e119_25, e119_26, e119_29, e119_30, e119_32, e119_33, e119_34, e119_35, e119_38, e119_41, e119_44, e119_45, e119_48, e119_49, e119_51, e119_54, hv.1, q_le (show vn V < 2147483648 by omega) (show j < 2147483648 by omega), show ¬ vn V ≤ j by omega, if_false, Bool.false_eq_true, if_true, nI_1, qMy, hm, Bool.false_and]
    | true =>
      cases hb : s.testBit j with
      | false =>
        simp only [e119_8, e119_9, e119_12, e119_15, e119_17, e119_20, e119_21, e119_23, e119_24, e119_25, e119_26, e119_29, e119_30, e119_32, e119_33, e119_34, e119_35, e119_38, e119_41, e119_44, e119_45, e119_48, e119_49, e119_51, e119_54, hv.1, q_le (show vn V < 2147483648 by omega) (show j < 2147483648 by omega), show ¬ vn V ≤ j by omega, if_false, if_true, t10, eb, hb, nI_1, qMy, hm, Bool.true_and, Bool.not_false, Bool.true_or]
      | true =>
        by_cases h0 : qtn V j num h (vd V) = 0
        · have hz : (nI (qtn V j num h (vd V)) ≤ 0) = True := by rw [q_le0 (by omega)]; exact eq_true h0
          simp only [e119_8, e119_9, e119_12, e119_15, e119_17, e119_20, e119_21, e119_23, e119_24, e119_25, e119_26, e119_29, e119_30, e119_32, e119_33, e119_34, e119_35, e119_38, e119_41, e119_44, e119_45, e119_48, e119_49, e119_51, e119_54, hv.1, q_le (show vn V < 2147483648 by omega) (show j < 2147483648 by omega), show ¬ vn V ≤ j by omega, if_false, if_true, t10, eb, hb, Bool.true_eq_false, MV_d hv, m_tenths hv hV (show j < vn V by omega) hh, q_bs, q_tl, q_cn, hz, nI_1, qMy, hm, Bool.true_and, Bool.not_true, Bool.false_or, decide_eq_true_eq, show ¬ 0 < qtn V j num h (vd V) by omega]
        · have hz : (nI (qtn V j num h (vd V)) ≤ 0) = False := by rw [q_le0 (by omega)]; exact eq_false h0
          simp only [e119_8, e119_9, e119_12, e119_15, e119_17, e119_20, e119_21, e119_23, e119_24, e119_25, e119_26, e119_29, e119_30, e119_32, e119_33, e119_34, e119_35, e119_38, e119_41, e119_44, e119_45, e119_48, e119_49, e119_51, e119_54, hv.1, q_le (show vn V < 2147483648 by omega) (show j < 2147483648 by omega), show ¬ vn V ≤ j by omega, if_false, if_true, t10, eb, hb, Bool.true_eq_false, MV_d hv, m_tenths hv hV (show j < vn V by omega) hh, q_bs, q_tl, q_cn, hz, nI_1, qMy, hm, Bool.true_and, Bool.not_true, Bool.false_or, decide_eq_true_eq, show 0 < qtn V j num h (vd V) by omega]
theorem m_may (hv : MV H V) (hV : vOK V) {h s : Nat} (hh : h < 64) (hs : s < 64) (num : Int32) : ev 119 0 [.ref 27, .int (nI s), .int (nI h), .int num, .null, .null] [] H = some (some (.int (if qMy V num h s (vn V) = true then 1 else 0)), H) := by
  rw [← lm_may hv hV hh hs num (vn V) 0 (by omega)]
  simp only [e119_0, e119_1, e119_3, e119_4]
  rfl
theorem qA_my (V : kV) {s : Nat} : (s &&& qA V (vn V) = s) = (s < 2 ^ vn V ∧ qMy V (vt V) (vh V) s (vn V) = true) := by
  apply propext
  rw [qMy_iff]
  constructor
  · intro z
    have h1 := qA_lt V (vn V)
    have h2 : s &&& qA V (vn V) ≤ qA V (vn V) := Nat.and_le_right
    refine ⟨by omega, fun j hj hb => ?_⟩
    rw [← z, Nat.testBit_and, Bool.and_eq_true, qA_bit, Bool.and_eq_true] at hb
    exact of_decide_eq_true hb.2.2
  · rintro ⟨h1, h2⟩
    apply Nat.eq_of_testBit_eq
    intro j
    rw [Nat.testBit_and, qA_bit]
    cases hb : s.testBit j with
    | false => rfl
    | true =>
      by_cases hj : j < vn V
      · rw [decide_eq_true hj, decide_eq_true (h2 j hj hb)]
        rfl
      · have : s < 2 ^ j := Nat.lt_of_lt_of_le h1 (Nat.pow_le_pow_right (by decide) (by omega))
        rw [Nat.testBit_lt_two_pow this] at hb
        exact absurd hb (by decide)
theorem MV_ti (hv : MV H V) : MV (uI (uI H 27 5 (nI (vh V))) 27 6 (vt V + 1)) (vsT V) := by
  obtain ⟨a1, a2, a3, a4, a5, a6, a7, a8⟩ := hv
  exact ⟨by rw [hI_uIn (by omega), hI_uIn (by omega)]; exact a1, fun j hj => by rw [hI_uIn (by omega), hI_uIn (by omega), hI_uIn (by omega), hI_uIn (by omega), hI_uIn (by omega), hI_uIn (by omega), hI_uIn (by omega), hI_uIn (by omega)]; exact a2 j hj, by rw [hI_uIn (by omega), hI_uIn (by omega)]; exact a3, by rw [hI_uIn (by omega), hI_uIn (by omega)]; exact a4, by rw [hI_uIn (by omega), hI_uIs]; rfl, hI_uIs _ _ _ _, by rw [hI_uIn (by omega), hI_uIn (by omega)]; exact a7, fun j hj => by rw [hI_uIn (by omega), hI_uIn (by omega)]; exact a8 j hj⟩
theorem MV_ki (hv : MV H V) {c : Nat} : MV (uI (uI (uI H 27 5 (nI (qS (vh V) (vl V c)))) 29 (4 * c + 3) (vr V c + 1)) 27 6 (vt V + 1)) (vsK V c) := by
  obtain ⟨a1, a2, a3, a4, a5, a6, a7, a8⟩ := hv
  refine ⟨by rw [hI_uIn (by omega), hI_uIn (by omega), hI_uIn (by omega)]; exact a1, fun j hj => ?_, by rw [hI_uIn (by omega), hI_uIn (by omega), hI_uIn (by omega)]; exact a3, by rw [hI_uIn (by omega), hI_uIn (by omega), hI_uIn (by omega)]; exact a4, by rw [hI_uIn (by omega), hI_uIn (by omega), hI_uIs]; rfl, hI_uIs _ _ _ _, by rw [hI_uIn (by omega), hI_uIn (by omega), hI_uIn (by omega)]; exact a7, fun j hj => by rw [hI_uIn (by omega), hI_uIn (by omega), hI_uIn (by omega)]; exact a8 j hj⟩
  obtain ⟨b1, b2, b3, b4⟩ := a2 j hj
  refine ⟨by rw [hI_uIn (by omega), hI_uIn (by omega), hI_uIn (by omega)]; exact b1, by rw [hI_uIn (by omega), hI_uIn (by omega), hI_uIn (by omega)]; exact b2, by rw [hI_uIn (by omega), hI_uIn (by omega), hI_uIn (by omega)]; exact b3, ?_⟩
  rw [hI_uIn (by omega)]
  show _ = fu (vr V) c (vr V c + 1) j
  by_cases e : j = c
  · subst e
    rw [hI_uIs, fu_s]
  · rw [hI_uIn (by omega), hI_uIn (by omega), fu_n e]
    exact b4
end KM4
section KM5
variable {H : kH} {S : kS}
theorem y_hour (hq : MR H S) (ho : sOK S) (x : Int32) : ∃ H1, ev 120 0 [.ref 27, .int x, .null] [] H = some (some (.int (fHour (sV S) x)), H1) ∧ MR H1 (ssV S (tHour (sV S) x)) ∧ kFr mC H H1 := by
  have hR := hq.1
  have hV := ho.1
  have h5 := hV.2.1
  have hh := hV.2.2.2.2.2.1
  have h32 := pow2_le h5
  have hp := Nat.two_pow_pos (vn (sV S))
  have es : (1 : Int32) <<< (nI (vn (sV S)) &&& 31) = nI (2 ^ vn (sV S)) := by
    rw [q_shl1 _ (by omega), Nat.one_shiftLeft]
  have em : nI (2 ^ vn (sV S)) - 1 = nI (2 ^ vn (sV S) - 1) := pk_sub (b := 1) (by omega)
  unfold fHour tHour
  have hu : ∀ x : Int32, ev 120 0 [.ref 27, .int x, .null] [] H = (ev 97 0 [.long x.toInt64, .null, .long (lN 0), .null, .long (lN (2 ^ vn (sV S) - 1)), .null] [] H).bind (fun q => ev 120 15 [.ref 27, .int x, .null] (q.1.toList ++ []) q.2) := by
    intro x
    simp only [e120_0, e120_1, e120_2, e120_3, e120_4, e120_5, e120_8, e120_9, e120_10, e120_11, e120_12, hR.1, es, em, q_i2l (show 2 ^ vn (sV S) - 1 < 2147483648 by omega), show (0 : Int64) = lN 0 from rfl]
  rw [hu]
  rcases q_case x (show 32 < 2147483648 by decide) with hx | hx | ⟨s, hs, rfl⟩
  · rw [qSel_lo hx, qSel_lo hx]
    refine ⟨H, ?_, MR_self hq, kFr.rf⟩
    rw [m_lo hx (by decide) (by omega)]
    simp only [e120_15, e120_18, e120_19, e120_20, e120_21, e120_24, e120_25, e120_28, e120_31, e120_34, e120_36, q_bs, q_tl, q_cn, if_true]
  · rw [qSel_hi hx, qSel_hi hx]
    refine ⟨H, ?_, MR_self hq, kFr.rf⟩
    rw [m_hi hx (by decide) (by omega) (by decide)]
    simp only [e120_15, e120_18, e120_19, e120_20, e120_21, e120_24, e120_25, e120_28, e120_31, e120_34, e120_36, q_bs, q_tl, q_cn, if_true]
  · rw [qSel_in hs (by decide), qSel_in hs (by decide)]
    by_cases h1 : s < 2 ^ vn (sV S)
    · rw [m_ok (by omega) (by omega) (by omega)]
      by_cases h2 : qMy (sV S) (vt (sV S)) (vh (sV S)) s (vn (sV S)) = true
      · have hc : s &&& qA (sV S) (vn (sV S)) = s := by rw [qA_my]; exact ⟨h1, h2⟩
        rw [if_pos hc, if_pos hc]
        have e37 : (some (some (Value.int 1), H)).bind (fun q => ev 120 15 [.ref 27, .int (nI s), .null] (q.1.toList ++ []) q.2) = ev 120 37 [.ref 27, .int (nI s), .null] [] H := by
          simp only [e120_15, e120_18, e120_19, e120_20, e120_21, e120_24, e120_25, e120_28, e120_31, q_bs, q_tl, q_cn, t10, if_false, MV_h hR, MV_t hR, m_may hR hV hh (show s < 64 by omega), h2, if_true, not_false_eq_true]
        rw [e37]
        by_cases h0 : vn (sV S) = 0
        · rw [if_pos h0, if_pos h0]
          refine ⟨H, ?_, MR_self hq, kFr.rf⟩
          simp only [e120_37, e120_38, e120_41, e120_44, e120_46, m_lacks0 hR hV h0, q_bs, q_tl, q_cn, t10, if_false]
        · rw [if_neg h0, if_neg h0]
          have e66 : ev 120 37 [.ref 27, .int (nI s), .null] [] H = ev 120 66 [.ref 27, .int (nI s), .int (qK (vk (sV S)) (vn (sV S)) s)] [] (uI H 27 5 (nI (qD (sV S) (vh (sV S)) s))) := by
            simp only [e120_37, e120_38, e120_41, e120_44, e120_46, e120_47, e120_48, e120_49, e120_52, e120_53, e120_54, e120_55, e120_56, e120_59, e120_60, e120_63, m_lacks1 hR hV h0, q_bs, q_tl, q_cn, if_true, m_king hR hV (show s < 64 by omega), MV_h hR, m_behind hR hV hh (show s < 64 by omega)]
          rw [e66]
          rcases qK_in (vk (sV S)) (vn (sV S)) s (by omega) with e | ⟨c, hc, e⟩
          · have eD : qD (sV S) (vh (sV S)) s = vh (sV S) := by unfold qD; rw [if_pos e]
            rw [if_pos e, e, eD]
            refine ⟨uI (uI H 27 5 (nI (vh (sV S)))) 27 6 (vt (sV S) + 1), ?_, MR_now ((kFr_uI (by unfold mN; omega)).tr (kFr_uI (by unfold mN; omega))) hq (MV_ti hR), (kFr_uI (by unfold mC; omega)).tr (kFr_uI (by unfold mC; omega))⟩
            simp only [e120_66, e120_67, e120_68, e120_71, e120_72, e120_75, e120_76, e120_77, e120_78, e120_79, e120_80, e120_81, e120_82, e120_83, e120_84, e120_85, e120_86, e120_87, e120_90, e120_91, e120_92, e120_95, e120_96, tm1, if_true, hI_uIn (show ¬ ((27 : Nat) = 27 ∧ (6 : Nat) = 5) by decide), MV_t hR]
          · have hne : ¬ nI c = (-1 : Int32) := by rw [q_m1ne (by omega)]; exact id
            have eD : qD (sV S) (vh (sV S)) s = qS (vh (sV S)) (vl (sV S) c) := by unfold qD; rw [e, if_neg hne, q_cl (by omega)]
            rw [e, if_neg hne, q_cl (by omega), eD]
            refine ⟨uI (uI (uI H 27 5 (nI (qS (vh (sV S)) (vl (sV S) c)))) 29 (4 * c + 3) (vr (sV S) c + 1)) 27 6 (vt (sV S) + 1), ?_, MR_now (((kFr_uI (by unfold mN; omega)).tr (kFr_uI (by unfold mN; omega))).tr (kFr_uI (by unfold mN; omega))) hq (MV_ki hR), ((kFr_uI (by unfold mC; omega)).tr (kFr_uI (by unfold mC; omega))).tr (kFr_uI (by unfold mC; omega))⟩
            simp only [e120_66, e120_67, e120_68, e120_71, e120_72, e120_75, e120_76, e120_77, e120_78, e120_79, e120_80, e120_81, e120_82, e120_83, e120_84, e120_85, e120_86, e120_87, e120_90, e120_91, e120_92, e120_95, e120_96, hne, if_false, show (4 : Int32) = nI 4 from rfl, show (3 : Int32) = nI 3 from rfl, q_mul, q_add, q_lt0 (show 4 * c + 3 < 2147483648 by omega), q_cl (show 4 * c + 3 < 2147483648 by omega), show ¬ 20 ≤ 4 * c + 3 by omega, or_self, hI_uIn (show ¬ ((29 : Nat) = 27 ∧ 4 * c + 3 = 5) by omega), MV_r hR hc, hI_uIn (show ¬ ((27 : Nat) = 29 ∧ (6 : Nat) = 4 * c + 3) by omega), hI_uIn (show ¬ ((27 : Nat) = 27 ∧ (6 : Nat) = 5) by decide), MV_t hR]
      · have hc : ¬ s &&& qA (sV S) (vn (sV S)) = s := by rw [qA_my]; exact fun z => h2 z.2
        rw [if_neg hc, if_neg hc]
        refine ⟨H, ?_, MR_self hq, kFr.rf⟩
        simp only [e120_15, e120_18, e120_19, e120_20, e120_21, e120_24, e120_25, e120_28, e120_31, e120_34, e120_36, q_bs, q_tl, q_cn, t10, if_false, MV_h hR, MV_t hR, m_may hR hV hh (show s < 64 by omega), h2, Bool.false_eq_true, if_true, not_true_eq_false]
    · have hc : ¬ s &&& qA (sV S) (vn (sV S)) = s := by rw [qA_my]; exact fun z => h1 z.1
      rw [if_neg hc, if_neg hc]
      refine ⟨H, ?_, MR_self hq, kFr.rf⟩
      rw [m_hi (n := s) (show nI s ≤ nI s from Int32.le_refl _) (by omega) (by omega) (by decide)]
      simp only [e120_15, e120_18, e120_19, e120_20, e120_21, e120_24, e120_25, e120_28, e120_31, e120_34, e120_36, q_bs, q_tl, q_cn, if_true]
end KM5
