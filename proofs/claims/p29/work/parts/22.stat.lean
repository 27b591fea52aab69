/-! frames, static methods, methods of the JDK -/
def kFr (P : Nat → Nat → Prop) (H H' : kH) : Prop := ∀ k j, ¬ P k j → hI H' k j = hI H k j ∧ hL H' k j = hL H k j ∧ hR H' k j = hR H k j
theorem kFr.rf {P : Nat → Nat → Prop} {H : kH} : kFr P H H := fun _ _ _ => ⟨rfl, rfl, rfl⟩
theorem kFr.tr {P : Nat → Nat → Prop} {H H1 H2 : kH} (h1 : kFr P H H1) (h2 : kFr P H1 H2) : kFr P H H2 := fun k j h => ⟨(h2 k j h).1.trans (h1 k j h).1, (h2 k j h).2.1.trans (h1 k j h).2.1, (h2 k j h).2.2.trans (h1 k j h).2.2⟩
theorem kFr.mono {P Q : Nat → Nat → Prop} {H H' : kH} (h : kFr P H H') (hq : ∀ k j, P k j → Q k j) : kFr Q H H' := fun k j z => h k j (fun y => z (hq k j y))
theorem kFr_uI {P : Nat → Nat → Prop} {H : kH} {k j : Nat} {v : Int32} (h : P k j) : kFr P H (uI H k j v) := fun a b z => ⟨by rw [hI_uI, if_neg]; rintro ⟨rfl, rfl⟩; exact z h, rfl, rfl⟩
theorem kFr_uL {P : Nat → Nat → Prop} {H : kH} {k j : Nat} {v : Int64} (h : P k j) : kFr P H (uL H k j v) := fun a b z => ⟨rfl, by rw [hL_uL, if_neg]; rintro ⟨rfl, rfl⟩; exact z h, rfl⟩
theorem kFr_uR {P : Nat → Nat → Prop} {H : kH} {k j : Nat} {v : Nat} (h : P k j) : kFr P H (uR H k j v) := fun a b z => ⟨rfl, rfl, by rw [hR_uR, if_neg]; rintro ⟨rfl, rfl⟩; exact z h⟩
theorem kFr_uC {P : Nat → Nat → Prop} {H : kH} {k : Nat} {f : Nat → Int32} (h : ∀ j, P k j) : kFr P H (uC H k f) := fun a b z => ⟨by rw [hI_uC, if_neg]; rintro rfl; exact z (h b), rfl, rfl⟩
theorem hI_uIs (H : kH) (k j : Nat) (v : Int32) : hI (uI H k j v) k j = v := by rw [hI_uI, if_pos ⟨rfl, rfl⟩]
theorem hI_uIn {H : kH} {k j : Nat} {v : Int32} {a b : Nat} (h : ¬ (a = k ∧ b = j)) : hI (uI H k j v) a b = hI H a b := by rw [hI_uI, if_neg h]
theorem hL_uLs (H : kH) (k j : Nat) (v : Int64) : hL (uL H k j v) k j = v := by rw [hL_uL, if_pos ⟨rfl, rfl⟩]
theorem hL_uLn {H : kH} {k j : Nat} {v : Int64} {a b : Nat} (h : ¬ (a = k ∧ b = j)) : hL (uL H k j v) a b = hL H a b := by rw [hL_uL, if_neg h]
/-- exchange at a place that there is -/
theorem c_exchange {k n j : Nat} (hs : shp k = (1, n)) (hn : n < 2147483648) (hj : j < n) (v : Int32) (H : kH) : ev 65 0 [.ref k, .int (nI j), .int v, .null] [] H = some (some (.int (hI H k j)), uI H k j v) := by
  simp only [e65_0, e65_1, e65_4, e65_5, (e65_6 (hs := hs)), e65_7, e65_10, e65_11, e65_12, e65_13, (e65_14 (hs := hs)), e65_15, e65_16, e65_17, e65_18, (e65_19 (hs := hs)), e65_20, e65_21, q_lt0 (show j < 2147483648 by omega), q_of, q_lt (show j < 2147483648 by omega) hn, hj, if_true, if_false, q_cl (show j < 2147483648 by omega), show ¬ n ≤ j by omega, or_false, false_or]
theorem l_sumI {k n : Nat} (hs : shp k = (1, n)) (hn : n < 2147483648) (f : Nat → Int32) (H : kH) {len : Nat} (hlen : len ≤ n) (hf : ∀ j, j < len → hI H k j = f j) : ∀ i j, j + i = len → ev 66 4 [.ref k, .int (nI len), .int (bx_sum f j), .int (nI j)] [] H = some (some (.int (bx_sum f len)), H) := by
  intro i
  induction i with
  | zero =>
    intro j hj
    have : j = len := by omega
    subst this
    rw [e66_4]
    simp only [e66_0, e66_1, e66_2, e66_3, e66_5, e66_6, e66_9, e66_10, e66_11, e66_12, e66_15, e66_16, e66_17, e66_20, e66_23, e66_24, q_le (show j < 2147483648 by omega) (show j < 2147483648 by omega), Std.le_refl, if_true]
  | succ i ih =>
    intro j hj
    refine Eq.trans ?_ (ih (j + 1) (by omega))
    rw [e66_4]
    simp only [e66_0, e66_1, e66_2, e66_3, e66_5, e66_6, e66_9, e66_10, e66_11, e66_12, e66_15, e66_16, e66_17, e66_20, e66_23, e66_24, q_le (show len < 2147483648 by omega) (show j < 2147483648 by omega), show ¬ len ≤ j by omega, if_false, c_at hs hn, pAt_in (show j < n by omega) hn, hf j (by omega), q_bs, q_tl, q_cn, nI_1, bx_sum]
theorem c_sum {k n : Nat} (hs : shp k = (1, n)) (hn : n < 2147483648) (f : Nat → Int32) (H : kH) {len : Nat} (hlen : len ≤ n) (hf : ∀ j, j < len → hI H k j = f j) : ev 66 0 [.ref k, .int (nI len), .null, .null] [] H = some (some (.int (bx_sum f len)), H) := by
  simp only [e66_0, e66_1, e66_2, e66_3]
  exact l_sumI hs hn f H hlen hf len 0 (by omega)
theorem l_tenTo {n : Nat} (hn : n < 2147483648) (H : kH) : ∀ i j, j + i = n → ev 67 4 [.int (nI n), .long (lN (10 ^ j)), .null, .int (nI j)] [] H = some (some (.long (lN (10 ^ n))), H) := by
  intro i
  induction i with
  | zero =>
    intro j hj
    have : j = n := by omega
    subst this
    rw [e67_4]
    simp only [e67_0, e67_1, e67_2, e67_3, e67_5, e67_6, e67_9, e67_10, e67_13, e67_14, e67_15, e67_18, e67_21, e67_22, Std.le_refl, if_true]
  | succ i ih =>
    intro j hj
    refine Eq.trans ?_ (ih (j + 1) (by omega))
    rw [e67_4]
    simp only [e67_0, e67_1, e67_2, e67_3, e67_5, e67_6, e67_9, e67_10, e67_13, e67_14, e67_15, e67_18, e67_21, e67_22, q_le (show n < 2147483648 by omega) (show j < 2147483648 by omega), show ¬ n ≤ j by omega, if_false, nI_1, show (10 : Int64) = lN 10 from rfl, lN_mul, Nat.pow_succ]
theorem c_tenTo {n : Nat} (hn : n < 2147483648) (H : kH) : ev 67 0 [.int (nI n), .null, .null, .null] [] H = some (some (.long (lN (10 ^ n))), H) := by
  simp only [e67_0, e67_1, e67_2, e67_3]
  exact l_tenTo hn H n 0 (by omega)
/-- said -/
theorem qS_ok : ∀ h, h < 64 → nI h ||| 1 = nI (qS h 0) ∧ (nI h &&& (-2)) ||| 2 = nI (qS h 1) ∧ (if nI h &&& 3 = 0 then nI h else nI h ||| 4) = nI (qS h 2) ∧ nI h ||| 8 = nI (qS h 3) ∧ (16 : Int32) = nI (qS h 4) ∧ (nI h &&& (-9)) ||| 32 = nI (qS h 5) := by decide +kernel
theorem c_said {h l : Nat} (hh : h < 64) (hl : l < 6) (H : kH) : ev 39 0 [.int (nI h), .int (nI l)] [] H = some (some (.int (nI (qS h l))), H) := by
  obtain ⟨s0, s1, s2, s3, s4, s5⟩ := qS_ok h hh
  rcases (show l = 0 ∨ l = 1 ∨ l = 2 ∨ l = 3 ∨ l = 4 ∨ l = 5 by omega) with rfl | rfl | rfl | rfl | rfl | rfl
  · simp only [show nI 0 = (0 : Int32) from rfl, e39_0, e39_1_0, e39_1_1, e39_1_2, e39_1_3, e39_1_4, e39_1_5, e39_1_d, e39_40, e39_41, e39_42, e39_43, e39_44, e39_45, e39_47, e39_48, e39_49, e39_50, e39_51, e39_52, e39_53, e39_54, e39_57, e39_58, e39_59, e39_60, e39_63, e39_64, e39_65, e39_66, e39_68, e39_69, e39_70, e39_72, e39_73, e39_74, e39_76, e39_77, e39_79, e39_80, e39_81, e39_82, s0]
  · simp only [show nI 1 = (1 : Int32) from rfl, e39_0, e39_1_0, e39_1_1, e39_1_2, e39_1_3, e39_1_4, e39_1_5, e39_1_d, e39_40, e39_41, e39_42, e39_43, e39_44, e39_45, e39_47, e39_48, e39_49, e39_50, e39_51, e39_52, e39_53, e39_54, e39_57, e39_58, e39_59, e39_60, e39_63, e39_64, e39_65, e39_66, e39_68, e39_69, e39_70, e39_72, e39_73, e39_74, e39_76, e39_77, e39_79, e39_80, e39_81, e39_82, s1]
  · simp only [show nI 2 = (2 : Int32) from rfl, e39_0, e39_1_0, e39_1_1, e39_1_2, e39_1_3, e39_1_4, e39_1_5, e39_1_d, e39_40, e39_41, e39_42, e39_43, e39_44, e39_45, e39_47, e39_48, e39_49, e39_50, e39_51, e39_52, e39_53, e39_54, e39_57, e39_58, e39_59, e39_60, e39_63, e39_64, e39_65, e39_66, e39_68, e39_69, e39_70, e39_72, e39_73, e39_74, e39_76, e39_77, e39_79, e39_80, e39_81, e39_82]
    rw [← s2]
    by_cases c : nI h &&& 3 = 0
    · simp only [c, if_true]
    · simp only [c, if_false]
  · simp only [show nI 3 = (3 : Int32) from rfl, e39_0, e39_1_0, e39_1_1, e39_1_2, e39_1_3, e39_1_4, e39_1_5, e39_1_d, e39_40, e39_41, e39_42, e39_43, e39_44, e39_45, e39_47, e39_48, e39_49, e39_50, e39_51, e39_52, e39_53, e39_54, e39_57, e39_58, e39_59, e39_60, e39_63, e39_64, e39_65, e39_66, e39_68, e39_69, e39_70, e39_72, e39_73, e39_74, e39_76, e39_77, e39_79, e39_80, e39_81, e39_82, s3]
  · simp only [show nI 4 = (4 : Int32) from rfl, e39_0, e39_1_0, e39_1_1, e39_1_2, e39_1_3, e39_1_4, e39_1_5, e39_1_d, e39_40, e39_41, e39_42, e39_43, e39_44, e39_45, e39_47, e39_48, e39_49, e39_50, e39_51, e39_52, e39_53, e39_54, e39_57, e39_58, e39_59, e39_60, e39_63, e39_64, e39_65, e39_66, e39_68, e39_69, e39_70, e39_72, e39_73, e39_74, e39_76, e39_77, e39_79, e39_80, e39_81, e39_82, s4]
  · simp only [show nI 5 = (5 : Int32) from rfl, e39_0, e39_1_0, e39_1_1, e39_1_2, e39_1_3, e39_1_4, e39_1_5, e39_1_d, e39_40, e39_41, e39_42, e39_43, e39_44, e39_45, e39_47, e39_48, e39_49, e39_50, e39_51, e39_52, e39_53, e39_54, e39_57, e39_58, e39_59, e39_60, e39_63, e39_64, e39_65, e39_66, e39_68, e39_69, e39_70, e39_72, e39_73, e39_74, e39_76, e39_77, e39_79, e39_80, e39_81, e39_82, s5]
/-- fill -/
theorem l_fillI {k n : Nat} (hs : shp k = (1, n)) (hn : n < 2147483648) (v : Int32) : ∀ i j H, j + i = n → ∃ H', ev 99 5 [.ref k, .int v, .int (nI j), .int (nI n)] [] H = some (none, H') ∧ kFr (fun a _ => a = k) H H' ∧ (∀ q, j ≤ q → q < n → hI H' k q = v) ∧ ∀ q, (q < j ∨ n ≤ q) → hI H' k q = hI H k q := by
  intro i
  induction i with
  | zero =>
    intro j H hj
    have : j = n := by omega
    subst this
    refine ⟨H, ?_, kFr.rf, fun q h1 h2 => absurd h2 (by omega), fun _ _ => rfl⟩
    rw [e99_5]
    simp only [e99_0, e99_1, e99_2, e99_3, e99_4, e99_6, e99_7, e99_10, e99_11, e99_12, e99_13, e99_14, e99_17, e99_20, Std.le_refl, if_true]
  | succ i ih =>
    intro j H hj
    obtain ⟨H', h1, h2, h3, h4⟩ := ih (j + 1) (uI H k j v) (by omega)
    refine ⟨H', ?_, (kFr_uI (P := fun a _ => a = k) rfl).tr h2, fun q hq1 hq2 => ?_, fun q hq => ?_⟩
    · rw [← h1, e99_5]
      simp only [e99_0, e99_1, e99_2, (e99_3 (hs := hs)), e99_4, e99_6, e99_7, e99_10, e99_11, e99_12, (e99_13 (hs := hs)), e99_14, e99_17, e99_20, q_le (show n < 2147483648 by omega) (show j < 2147483648 by omega), show ¬ n ≤ j by omega, if_false, q_lt0 (show j < 2147483648 by omega), q_cl (show j < 2147483648 by omega), or_false, nI_1]
    · by_cases e : q = j
      · subst e
        rw [h4 q (by omega), hI_uIs]
      · exact h3 q (by omega) hq2
    · rw [h4 q (by omega), hI_uIn (by omega)]
theorem c_fillI {k n : Nat} (hs : shp k = (1, n)) (hn : n < 2147483648) (v : Int32) (H : kH) : ∃ H', ev 99 0 [.ref k, .int v, .null, .null] [] H = some (none, H') ∧ kFr (fun a _ => a = k) H H' ∧ ∀ q, q < n → hI H' k q = v := by
  obtain ⟨H', h1, h2, h3, -⟩ := l_fillI hs hn v n 0 H (by omega)
  refine ⟨H', ?_, h2, fun q hq => h3 q (by omega) hq⟩
  rw [← h1]
  simp only [e99_0, e99_1, e99_2, (e99_3 (hs := hs)), e99_4, q_of]
  rfl
theorem l_fillL {k n : Nat} (hs : shp k = (2, n)) (hn : n < 2147483648) (v : Int64) : ∀ i j H, j + i = n → ∃ H', ev 98 6 [.ref k, .long v, .null, .int (nI j), .int (nI n)] [] H = some (none, H') ∧ kFr (fun a _ => a = k) H H' ∧ (∀ q, j ≤ q → q < n → hL H' k q = v) ∧ ∀ q, (q < j ∨ n ≤ q) → hL H' k q = hL H k q := by
  intro i
  induction i with
  | zero =>
    intro j H hj
    have : j = n := by omega
    subst this
    refine ⟨H, ?_, kFr.rf, fun q h1 h2 => absurd h2 (by omega), fun _ _ => rfl⟩
    rw [e98_6]
    simp only [e98_0, e98_1, e98_2, e98_3, e98_4, e98_7, e98_9, e98_12, e98_13, e98_14, e98_15, e98_16, e98_19, e98_22, Std.le_refl, if_true]
  | succ i ih =>
    intro j H hj
    obtain ⟨H', h1, h2, h3, h4⟩ := ih (j + 1) (uL H k j v) (by omega)
    refine ⟨H', ?_, (kFr_uL (P := fun a _ => a = k) rfl).tr h2, fun q hq1 hq2 => ?_, fun q hq => ?_⟩
    · rw [← h1, e98_6]
      simp only [e98_0, e98_1, e98_2, (e98_3 (hs := hs)), e98_4, e98_7, e98_9, e98_12, e98_13, e98_14, (e98_15 (hs := hs)), e98_16, e98_19, e98_22, q_le (show n < 2147483648 by omega) (show j < 2147483648 by omega), show ¬ n ≤ j by omega, if_false, q_lt0 (show j < 2147483648 by omega), q_cl (show j < 2147483648 by omega), or_false, nI_1]
    · by_cases e : q = j
      · subst e
        rw [h4 q (by omega), hL_uLs]
      · exact h3 q (by omega) hq2
    · rw [h4 q (by omega), hL_uLn (by omega)]
theorem c_fillL {k n : Nat} (hs : shp k = (2, n)) (hn : n < 2147483648) (v : Int64) (H : kH) : ∃ H', ev 98 0 [.ref k, .long v, .null, .null, .null] [] H = some (none, H') ∧ kFr (fun a _ => a = k) H H' ∧ ∀ q, q < n → hL H' k q = v := by
  obtain ⟨H', h1, h2, h3, -⟩ := l_fillL hs hn v n 0 H (by omega)
  refine ⟨H', ?_, h2, fun q hq => h3 q (by omega) hq⟩
  rw [← h1]
  simp only [e98_0, e98_1, e98_2, (e98_3 (hs := hs)), e98_4, q_of]
  rfl
