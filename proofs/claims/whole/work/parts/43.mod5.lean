/-! the model: how likely -/
section KM6
variable {H : kH} {V : kV}
theorem lm_term (l0 l2 : Int64) (p : Int32) : ∀ m x y v9, x ≤ m → x < 2 ^ 63 → y < 2 ^ 63 → ∃ v', ev 122 6 [.long l0, .null, .long l2, .null, .int p, .long (lN x), .null, .long (lN y), .null, v9, .null] [] H = ev 122 31 [.long l0, .null, .long l2, .null, .int p, .long (lN 0), .null, .long (lN (Nat.gcd x y)), .null, v', .null] [] H := by
  intro m
  induction m with
  | zero =>
    intro x y v9 hm hx hy
    have : x = 0 := by omega
    subst this
    refine ⟨v9, ?_⟩
    rw [e122_6, Nat.gcd_zero_left]
    simp only [e122_8, e122_9, e122_10, q_cmp0 (show 0 < 2 ^ 63 by decide), if_true]
  | succ m ih =>
    intro x y v9 hm hx hy
    by_cases h0 : x = 0
    · subst h0
      refine ⟨v9, ?_⟩
      rw [e122_6, Nat.gcd_zero_left]
      simp only [e122_8, e122_9, e122_10, q_cmp0 (show 0 < 2 ^ 63 by decide), if_true]
    · have hr : y % x < x := Nat.mod_lt _ (Nat.pos_of_ne_zero h0)
      obtain ⟨v', e⟩ := ih (y % x) x (.long (lN (y % x))) (by omega) (by omega) hx
      refine ⟨v', ?_⟩
      have hz : (lN x = 0) = False := by
        rw [show (0 : Int64) = lN 0 from rfl, q_eqL hx (by decide)]
        exact eq_false h0
      rw [Nat.gcd_rec x y, ← e, e122_6]
      simp only [e122_8, e122_9, e122_10, e122_13, e122_15, e122_17, e122_18, e122_20, e122_22, e122_24, e122_26, e122_28, q_cmp0 hx, h0, if_false, hz, pk_lRem hy (Nat.pos_of_ne_zero h0) hx]
theorem m_term {a b p : Nat} (ha : a < 2 ^ 63) (hb : b < 2 ^ 63) (h0 : 0 < b) (hp : p < 2) : ev 122 0 [.long (lN a), .null, .long (lN b), .null, .int (nI p), .null, .null, .null, .null, .null, .null] [] H = some (some (.long (qTerm a b p)), H) := by
  have hg : 0 < Nat.gcd a b := Nat.gcd_pos_of_pos_right a h0
  have hgl : Nat.gcd a b < 2 ^ 63 := Nat.lt_of_le_of_lt (Nat.gcd_le_right a h0) hb
  have hz : (lN (Nat.gcd a b) = 0) = False := by
    rw [show (0 : Int64) = lN 0 from rfl, q_eqL hgl (by decide)]
    exact eq_false (by omega)
  obtain ⟨v', e⟩ := lm_term (H := H) (lN a) (lN b) (nI p) a a b .null (Nat.le_refl _) ha hb
  have ea : ev 122 0 [.long (lN a), .null, .long (lN b), .null, .int (nI p), .null, .null, .null, .null, .null, .null] [] H = ev 122 31 [.long (lN a), .null, .long (lN b), .null, .int (nI p), .long (lN 0), .null, .long (lN (Nat.gcd a b)), .null, v', .null] [] H := by
    rw [← e]
    simp only [e122_0, e122_1, e122_3, e122_4]
  rw [ea]
  unfold qTerm
  rcases (show p = 0 ∨ p = 1 by omega) with rfl | rfl
  · simp only [e122_31, e122_33, e122_36, e122_37, e122_39, e122_40, e122_43, e122_44, e122_46, e122_47, n00, not_true_eq_false, if_false, if_true, hz, pk_lDiv ha hg hgl]
  · simp only [e122_31, e122_33, e122_36, e122_37, e122_39, e122_40, e122_43, e122_44, e122_46, e122_47, show (nI 1 = (0 : Int32)) = False from eq_false (by decide), not_false_eq_true, if_true, hz, if_false, pk_lDiv hb hg hgl, Nat.one_ne_zero]
theorem lm_odds (hv : MV H V) (hV : vOK V) {h s : Nat} (hh : h < 64) (hs : s < 64) (num dr : Int32) : ∀ i j v8, j + i = vn V → ev 123 6 [.ref 27, .int (nI s), .int (nI h), .int num, .int dr, .long (lN (qw (fun q => qtn V q num h dr) (fun q => 10 - qtn V q num h dr) j s)), .null, .int (nI j), v8] [] H = some (some (.long (lN (qo V num dr h s))), H) := by
  have h5 := hV.2.1
  intro i
  induction i with
  | zero =>
    intro j v8 hj
    have : j = vn V := by omega
    subst this
    rw [e123_6]
    simp only [e123_8, e123_9, e123_12, e123_60, e123_62, hv.1, Std.le_refl, if_true]
    rfl
  | succ i ih =>
    intro j v8 hj
    have eb := (q_bit s hs j (by omega)).2
    have ht := qtn_le9 V j num h dr
    rw [← ih (j + 1) (.int (nI (qtn V j num h dr))) (by omega), e123_6]
    cases hb : s.testBit j with
    | false =>
      simp only [e123_8, e123_9, e123_12, e123_15, e123_16, e123_18, e123_19, e123_20, e123_22, e123_25, e123_27, e123_29, e123_30, e123_32, e123_33, e123_34, e123_35, e123_36, e123_39, e123_41, e123_42, e123_45, e123_47, e123_49, e123_50, e123_51, e123_52, e123_54, e123_57, hv.1, q_le (show vn V < 2147483648 by omega) (show j < 2147483648 by omega), show ¬ vn V ≤ j by omega, if_false, m_tenths hv hV (show j < vn V by omega) hh, q_bs, q_tl, q_cn, eb, hb, Bool.false_eq_true, not_false_eq_true, if_true, show (10 : Int32) = nI 10 from rfl, q_sub (show qtn V j num h dr ≤ 10 by omega), q_i2lN (show 10 - qtn V j num h dr < 2147483648 by omega), lN_mul, nI_1, qw]
    | true =>
      simp only [e123_8, e123_9, e123_12, e123_15, e123_16, e123_18, e123_19, e123_20, e123_22, e123_25, e123_27, e123_29, e123_30, e123_32, e123_33, e123_34, e123_35, e123_36, e123_39, e123_41, e123_42, e123_45, e123_47, e123_49, e123_50, e123_51, e123_52, e123_54, e123_57, hv.1, q_le (show vn V < 2147483648 by omega) (show j < 2147483648 by omega), show ¬ vn V ≤ j by omega, if_false, m_tenths hv hV (show j < vn V by omega) hh, q_bs, q_tl, q_cn, eb, hb, not_true_eq_false, if_true, q_i2lN (show qtn V j num h dr < 2147483648 by omega), lN_mul, nI_1, qw]
theorem m_odds (hv : MV H V) (hV : vOK V) {h s : Nat} (hh : h < 64) (hs : s < 64) (num dr : Int32) : ev 123 0 [.ref 27, .int (nI s), .int (nI h), .int num, .int dr, .null, .null, .null, .null] [] H = some (some (.long (lN (qo V num dr h s))), H) := by
  rw [← lm_odds hv hV hh hs num dr (vn V) 0 .null (by omega)]
  simp only [e123_0, e123_1, e123_3, e123_4]
  rfl
/-- for one who is king (or nobody) -/
def qkb (V : kV) (c dr : Int32) (m : Nat) : Nat := nsum (fun s => if qK (vk V) (vn V) s = c then qo V (vt V) dr (vh V) s else 0) m
theorem kw_qkb (V : kV) (hV : vOK V) {c dr : Int32} (hc : c = -1 ∨ ∃ j, j < vn V ∧ c = nI j) : qkb V c dr (2 ^ vn V) = kw V c dr := by
  have h5 := hV.2.1
  unfold qkb kw rT qr
  refine nsum_cong (fun s _ => ?_)
  have e : (qK (vk V) (vn V) s = c) = (qPl (vk V) (vn V) s = (c + 1).toNatClampNeg) := by
    apply propext
    unfold qPl
    rcases hc with rfl | ⟨j, hj, rfl⟩
    · rcases qK_in (vk V) (vn V) s (by omega) with e | ⟨k, hk, e⟩
      · rw [e, if_pos rfl]
        exact ⟨fun _ => rfl, fun _ => rfl⟩
      · have hne : ¬ nI k = (-1 : Int32) := by rw [q_m1ne (by omega)]; exact id
        rw [e, if_neg hne]
        exact ⟨fun z => absurd z hne, fun z => absurd z (Nat.succ_ne_zero _)⟩
    · rw [q_clp1 (by omega)]
      rcases qK_in (vk V) (vn V) s (by omega) with e | ⟨k, hk, e⟩
      · rw [e, if_pos rfl]
        refine ⟨fun z => ?_, fun z => absurd z (by omega)⟩
        have : (nI j = (-1 : Int32)) := z.symm
        rw [q_m1ne (by omega)] at this
        exact absurd this id
      · have hne : ¬ nI k = (-1 : Int32) := by rw [q_m1ne (by omega)]; exact id
        rw [e, if_neg hne, q_cl (by omega), q_eq (by omega) (by omega)]
        omega
  simp only [e]
  rfl
theorem lm_kingBy (hv : MV H V) (hV : vOK V) (c dr : Int32) : ∀ i s, s + i = 2 ^ vn V → ev 124 5 [.ref 27, .int c, .int dr, .long (lN (qkb V c dr s)), .null, .int (nI s)] [] H = some (some (.long (lN (qkb V c dr (2 ^ vn V)))), H) := by
  have h5 := hV.2.1
  have hh := hV.2.2.2.2.2.1
  have h32 := pow2_le h5
  have es : (1 : Int32) <<< (nI (vn V) &&& 31) = nI (2 ^ vn V) := by
    rw [q_shl1 _ (by omega), Nat.one_shiftLeft]
  intro i
  induction i with
  | zero =>
    intro s hs
    have : s = 2 ^ vn V := by omega
    subst this
    rw [e124_5]
    simp only [e124_7, e124_8, e124_9, e124_12, e124_13, e124_54, e124_55, hv.1, es, Std.le_refl, if_true]
  | succ i ih =>
    intro s hs
    rw [← ih (s + 1) (by omega), e124_5]
    have eq : qkb V c dr (s + 1) = qkb V c dr s + (if qK (vk V) (vn V) s = c then qo V (vt V) dr (vh V) s else 0) := rfl
    rw [eq]
    by_cases a : qK (vk V) (vn V) s = c
    · rw [if_pos a]
      simp only [e124_7, e124_8, e124_9, e124_12, e124_13, e124_16, e124_17, e124_18, e124_20, e124_23, e124_24, e124_27, e124_28, e124_30, e124_31, e124_34, e124_35, e124_38, e124_39, e124_42, e124_45, e124_46, e124_47, e124_48, e124_51, hv.1, es, q_le (show 2 ^ vn V < 2147483648 by omega) (show s < 2147483648 by omega), show ¬ 2 ^ vn V ≤ s by omega, if_false, m_king hv hV (show s < 64 by omega), eq_true a, q_bs, q_tl, q_cn, not_true_eq_false, MV_h hv, MV_t hv, m_odds hv hV hh (show s < 64 by omega), lN_add, nI_1]
    · rw [if_neg a]
      simp only [e124_7, e124_8, e124_9, e124_12, e124_13, e124_16, e124_17, e124_18, e124_20, e124_23, e124_24, e124_27, e124_28, e124_30, e124_31, e124_34, e124_35, e124_38, e124_39, e124_42, e124_45, e124_46, e124_47, e124_48, e124_51, hv.1, es, q_le (show 2 ^ vn V < 2147483648 by omega) (show s < 2147483648 by omega), show ¬ 2 ^ vn V ≤ s by omega, if_false, m_king hv hV (show s < 64 by omega), a, q_bs, q_tl, q_cn, not_false_eq_true, if_true, Int64.add_zero, Nat.add_zero, nI_1]
theorem m_kingBy (hv : MV H V) (hV : vOK V) {c dr : Int32} (hc : c = -1 ∨ ∃ j, j < vn V ∧ c = nI j) : ev 124 0 [.ref 27, .int c, .int dr, .null, .null, .null] [] H = some (some (.long (lN (kw V c dr))), H) := by
  rw [← kw_qkb V hV hc, ← lm_kingBy hv hV c dr (2 ^ vn V) 0 (by omega)]
  simp only [e124_0, e124_1, e124_2, e124_3]
  rfl
theorem lm_tens (hv : MV H V) (hV : vOK V) {m : Nat} (hm : m < 100) : ∀ i j, j + i = m * vn V → ev 125 5 [.ref 27, .int (nI m), .long (lN (10 ^ j)), .null, .int (nI j)] [] H = some (some (.long (lN (10 ^ (m * vn V)))), H) := by
  have h5 := hV.2.1
  have hb : m * vn V ≤ 100 * 5 := Nat.mul_le_mul (by omega) h5
  intro i
  induction i with
  | zero =>
    intro j hj
    have : j = m * vn V := by omega
    subst this
    rw [e125_5]
    simp only [e125_7, e125_8, e125_9, e125_12, e125_13, e125_28, e125_29, hv.1, q_mul, Std.le_refl, if_true]
  | succ i ih =>
    intro j hj
    rw [← ih (j + 1) (by omega), e125_5]
    simp only [e125_7, e125_8, e125_9, e125_12, e125_13, e125_16, e125_17, e125_20, e125_21, e125_22, e125_25, hv.1, q_mul, q_le (show m * vn V < 2147483648 by omega) (show j < 2147483648 by omega), show ¬ m * vn V ≤ j by omega, if_false, show (10 : Int64) = lN 10 from rfl, lN_mul, nI_1, Nat.pow_succ]
theorem m_tens (hv : MV H V) (hV : vOK V) {m : Nat} (hm : m < 100) : ev 125 0 [.ref 27, .int (nI m), .null, .null, .null] [] H = some (some (.long (lN (10 ^ (vn V * m)))), H) := by
  rw [Nat.mul_comm, ← lm_tens hv hV hm (m * vn V) 0 (by omega)]
  simp only [e125_0, e125_1, e125_2, e125_3]
  rfl
theorem m_kingTerm (hv : MV H V) (hV : vOK V) {c : Int32} (hc : c = -1 ∨ ∃ j, j < vn V ∧ c = nI j) {p : Nat} (hp : p < 2) : ev 126 0 [.ref 27, .int c, .int (nI p)] [] H = some (some (.long (qTerm (kw V c (vd V)) (10 ^ vn V) p)), H) := by
  have h5 := hV.2.1
  have ht := m_tens hv hV (show 1 < 100 by decide)
  rw [Nat.mul_one] at ht
  simp only [e126_0, e126_1, e126_2, e126_3, e126_6, e126_9, e126_10, e126_11, e126_14, e126_15, e126_18, MV_d hv, m_kingBy hv hV hc, q_bs, q_tl, q_cn, show (1 : Int32) = nI 1 from rfl, ht, m_term (kw_lt hV c (vd V)) (show 10 ^ vn V < 2 ^ 63 from Nat.lt_of_le_of_lt (pow10_le h5) (by decide)) (Nat.pow_pos (by decide)) hp]
theorem lm_window (hv : MV H V) (hV : vOK V) {c : Nat} (hc : c < vn V) : ∀ i j b m v6, j + i = vn V → m < 2 ^ 63 → ev 131 12 [.ref 27, .int (nI c), .int b, .long (lN m), .null, .int (nI j), v6, .null] [] H = some (some (.int (qAr (fun d => kw V (nI c) (nI d)) i j b m)), H) := by
  have h5 := hV.2.1
  intro i
  induction i with
  | zero =>
    intro j b m v6 hj hm
    have : j = vn V := by omega
    subst this
    rw [e131_12]
    simp only [e131_14, e131_15, e131_18, e131_64, e131_65, hv.1, Std.le_refl, if_true, qAr]
  | succ i ih =>
    intro j b m v6 hj hm
    have hlt := kw_lt hV (nI c) (nI j)
    rw [e131_12]
    unfold qAr
    by_cases hb : m < kw V (nI c) (nI j)
    · rw [if_pos hb, ← ih (j + 1) (nI j) _ (.long (lN (kw V (nI c) (nI j)))) (by omega) hlt]
      simp only [e131_14, e131_15, e131_18, e131_21, e131_22, e131_23, e131_25, e131_28, e131_30, e131_32, e131_33, e131_34, e131_37, e131_39, e131_42, e131_43, e131_44, e131_46, e131_47, e131_48, e131_51, e131_53, e131_56, e131_57, e131_58, e131_61, hv.1, q_le (show vn V < 2147483648 by omega) (show j < 2147483648 by omega), show ¬ vn V ≤ j by omega, if_false, m_kingBy hv hV (c := nI c) (dr := nI j) (Or.inr ⟨c, hc, rfl⟩), q_bs, q_tl, q_cn, q_cmple hlt hm, hb, not_true_eq_false, nI_1]
    · rw [if_neg hb, ← ih (j + 1) b _ (.long (lN (kw V (nI c) (nI j)))) (by omega) hm]
      simp only [e131_14, e131_15, e131_18, e131_21, e131_22, e131_23, e131_25, e131_28, e131_30, e131_32, e131_33, e131_34, e131_37, e131_39, e131_42, e131_43, e131_44, e131_46, e131_47, e131_48, e131_51, e131_53, e131_56, e131_57, e131_58, e131_61, hv.1, q_le (show vn V < 2147483648 by omega) (show j < 2147483648 by omega), show ¬ vn V ≤ j by omega, if_false, m_kingBy hv hV (c := nI c) (dr := nI j) (Or.inr ⟨c, hc, rfl⟩), q_bs, q_tl, q_cn, q_cmple hlt hm, hb, not_false_eq_true, if_true, nI_1]
theorem m_windowOf (hv : MV H V) (hV : vOK V) {c : Nat} (hc : c < vn V) : ev 131 0 [.ref 27, .int (nI c), .null, .null, .null, .null, .null, .null] [] H = some (some (.int (fWindow V (nI c))), H) := by
  have h5 := hV.2.1
  unfold fWindow
  rw [qSel_in hc (by omega), ← lm_window hv hV hc (vn V) 0 (-1) _ .null (by omega) (kw_lt hV (nI c) (-1))]
  simp only [e131_0, e131_1, e131_2, e131_3, e131_4, e131_5, e131_8, e131_9, e131_10, m_kingBy hv hV (c := nI c) (dr := -1) (Or.inr ⟨c, hc, rfl⟩), q_bs, q_tl, q_cn]
  rfl
end KM6
section KM7
variable {H : kH} {S : kS}
theorem y_king (hq : MR H S) (ho : sOK S) (c p : Int32) : ev 127 0 [.ref 27, .int c, .int p] [] H = some (some (.long (fKing (sV S) c p)), H) := by
  have hR := hq.1
  have hV := ho.1
  have h5 := hV.2.1
  unfold fKing
  by_cases hc : c ≠ -1 ∧ (c < 0 ∨ nI (vn (sV S)) ≤ c)
  · rw [if_pos hc]
    simp only [e127_0, e127_1, e127_2, e127_5, e127_6, e127_7, e127_10, e127_13, e127_16, hc.1, if_false, m_isOne0 hR hV hc.2, q_bs, q_tl, q_cn, not_true_eq_false]
  · rw [if_neg hc]
    have hc2 : c = -1 ∨ ∃ j, j < vn (sV S) ∧ c = nI j := by
      by_cases e : c = -1
      · exact Or.inl e
      · rcases q_nseat (n := vn (sV S)) (c := c) (by omega) with h | h
        · exact absurd ⟨e, h⟩ hc
        · exact Or.inr h
    have e17 : ev 127 0 [.ref 27, .int c, .int p] [] H = ev 127 17 [.ref 27, .int c, .int p] [] H := by
      rcases hc2 with rfl | ⟨j, hj, rfl⟩
      · simp only [e127_0, e127_1, e127_2, if_true]
      · simp only [e127_0, e127_1, e127_2, e127_5, e127_6, e127_7, e127_10, e127_13, e127_16, q_m1ne (show j < 2147483648 by omega), if_false, m_isOne1 hR hV hj, q_bs, q_tl, q_cn, t10, not_false_eq_true, if_true]
    rw [e17]
    rcases q_case p (show 2 < 2147483648 by decide) with hp | hp | ⟨p, hp, rfl⟩
    · rw [qSel_lo hp]
      simp only [e127_17, e127_18, e127_19, e127_20, e127_21, e127_24, e127_27, e127_30, show (0 : Int64) = lN 0 from rfl, show (1 : Int64) = lN 1 from rfl, m_lo hp (show 0 < 2147483648 by decide) (show 1 < 2147483648 by decide), q_bs, q_tl, q_cn, not_true_eq_false, if_false]
    · rw [qSel_hi hp]
      simp only [e127_17, e127_18, e127_19, e127_20, e127_21, e127_24, e127_27, e127_30, show (0 : Int64) = lN 0 from rfl, show (1 : Int64) = lN 1 from rfl, m_hi hp (show 2 < 2147483648 by decide) (show 1 < 2 by decide) (show 0 < 2147483648 by decide), q_bs, q_tl, q_cn, not_true_eq_false, if_false]
    · rw [qSel_in hp (by decide)]
      have e31 : ev 127 17 [.ref 27, .int c, .int (nI p)] [] H = ev 127 31 [.ref 27, .int c, .int (nI p)] [] H := by
        simp only [e127_17, e127_18, e127_19, e127_20, e127_21, e127_24, show (0 : Int64) = lN 0 from rfl, show (1 : Int64) = lN 1 from rfl, m_ok (show 0 ≤ p by omega) (show p ≤ 1 by omega) (show 1 < 2147483648 by decide), q_bs, q_tl, q_cn, t10, not_false_eq_true, if_true]
      rw [e31]
      by_cases h0 : vn (sV S) = 0
      · rw [if_pos h0]
        simp only [e127_31, e127_32, e127_35, e127_38, e127_41, e127_44, e127_45, e127_46, e127_47, e127_50, m_lacks0 hR hV h0, q_bs, q_tl, q_cn, t10, if_false]
      · rw [if_neg h0]
        simp only [e127_31, e127_32, e127_35, e127_38, e127_41, e127_44, e127_45, e127_46, e127_47, e127_50, m_lacks1 hR hV h0, q_bs, q_tl, q_cn, if_true, m_kingTerm hR hV hc2 hp]
theorem y_window (hq : MR H S) (ho : sOK S) (c : Int32) : ev 132 0 [.ref 27, .int c] [] H = some (some (.int (fWindow (sV S) c)), H) := by
  have hR := hq.1
  have hV := ho.1
  have h5 := hV.2.1
  rcases q_case c (show vn (sV S) < 2147483648 by omega) with hc | hc | ⟨c, hc, rfl⟩
  · unfold fWindow
    rw [qSel_lo hc]
    simp only [e132_0, e132_1, e132_2, e132_5, e132_8, e132_9, e132_10, e132_13, e132_16, e132_18, m_isOne0 hR hV (Or.inl hc), q_bs, q_tl, q_cn, if_true]
  · unfold fWindow
    rw [qSel_hi hc]
    simp only [e132_0, e132_1, e132_2, e132_5, e132_8, e132_9, e132_10, e132_13, e132_16, e132_18, m_isOne0 hR hV (Or.inr hc), q_bs, q_tl, q_cn, if_true]
  · simp only [e132_0, e132_1, e132_2, e132_5, e132_8, e132_9, e132_10, e132_13, e132_16, e132_18, m_isOne1 hR hV hc, m_windowOf hR hV hc, q_bs, q_tl, q_cn, t10, if_false]
end KM7
