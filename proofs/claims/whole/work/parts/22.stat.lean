/-! frames, static methods, methods of the JDK -/
def kFr (P : Nat → Nat → Prop) (H H' : kH) : Prop := ∀ k j, ¬ P k j → hI H' k j = hI H k j ∧ hL H' k j = hL H k j ∧ hR H' k j = hR H k j
theorem kFr.rf {P : Nat → Nat → Prop} {H : kH} : kFr P H H := fun _ _ _ => ⟨rfl, rfl, rfl⟩
theorem kFr.tr {P : Nat → Nat → Prop} {H H1 H2 : kH} (h1 : kFr P H H1) (h2 : kFr P H1 H2) : kFr P H H2 := fun k j h => ⟨(h2 k j h).1.trans (h1 k j h).1, (h2 k j h).2.1.trans (h1 k j h).2.1, (h2 k j h).2.2.trans (h1 k j h).2.2⟩
theorem kFr.mono {P Q : Nat → Nat → Prop} {H H' : kH} (h : kFr P H H') (hq : ∀ k j, P k j → Q k j) : kFr Q H H' := fun k j z => h k j (fun y => z (hq k j y))
theorem kFr_uI {P : Nat → Nat → Prop} {H : kH} {k j : Nat} {v : Int32} (h : P k j) : kFr P H (uI H k j v) := fun a b z => ⟨by rw [hI_uI, if_neg]; rintro ⟨rfl, rfl⟩; exact z h, rfl, rfl⟩
theorem kFr_uL {P : Nat → Nat → Prop} {H : kH} {k j : Nat} {v : Int64} (h : P k j) : kFr P H (uL H k j v) := fun a b z => ⟨rfl, by rw [hL_uL, if_neg]; rintro ⟨rfl, rfl⟩; exact z h, rfl⟩
theorem kFr_uR {P : Nat → Nat → Prop} {H : kH} {k j : Nat} {v : Nat} (h : P k j) : kFr P H (uR H k j v) := fun a b z => ⟨rfl, rfl, by rw [hR_uR, if_neg]; rintro ⟨rfl, rfl⟩; exact z h⟩
theorem kFr_uC {P : Nat → Nat → Prop} {H : kH} {k : Nat} {f : Nat → Int32} (h : ∀ j, P k j) : kFr P H (uC H k f) := fun a b z => ⟨by rw [hI_uC, if_neg]; rintro rfl; exact z (h b), rfl, rfl⟩
theorem hI_uIs (H : kH) (k j : Nat) (v : Int32) : hI (uI H k j v) k j = v := by rw [hI_uI, if_pos ⟨rfl, rfl⟩]
theorem hI_uIn {H : kH} {k j : Nat} {v : Int32} {a b : Nat} (h : ¬ (a = k ∧ b = j)) : hI (uI H k j v) a b = hI H a b := by rw [hI_uI, if_neg h]
theorem hL_uLs (H : kH) (k j : Nat) (v : Int64) : hL (uL H k j v) k j = v := by rw [hL_uL, if_pos ⟨rfl, rfl⟩]
theorem hL_uLn {H : kH} {k j : Nat} {v : Int64} {a b : Nat} (h : ¬ (a = k ∧ b = j)) : hL (uL H k j v) a b = hL H a b := by rw [hL_uL, if_neg h]
/-- exchange at a place that there is -/
theorem c_exchange {k n j : Nat} (hs : shp k = (1, n)) (hn : n < 2147483648) (hj : j < n) (v : Int32) (H : kH) : ev 91 0 [.ref k, .int (nI j), .int v, .null] [] H = some (some (.int (hI H k j)), uI H k j v) := by
  simp only [e91_0, e91_1, e91_4, e91_5, (e91_6 (hs := hs)), e91_7, e91_10, e91_11, e91_12, e91_13, (e91_14 (hs := hs)), e91_15, e91_16, e91_17, e91_18, (e91_19 (hs := hs)), e91_20, e91_21, q_lt0 (show j < 2147483648 by omega), q_of, q_lt (show j < 2147483648 by omega) hn, hj, if_true, if_false, q_cl (show j < 2147483648 by omega), show ¬ n ≤ j by omega, or_false, false_or]
theorem l_sumI {k n : Nat} (hs : shp k = (1, n)) (hn : n < 2147483648) (f : Nat → Int32) (H : kH) {len : Nat} (hlen : len ≤ n) (hf : ∀ j, j < len → hI H k j = f j) : ∀ i j, j + i = len → ev 93 4 [.ref k, .int (nI len), .int (bx_sum f j), .int (nI j)] [] H = some (some (.int (bx_sum f len)), H) := by
  intro i
  induction i with
  | zero =>
    intro j hj
    have : j = len := by omega
    subst this
    rw [e93_4]
    simp only [e93_0, e93_1, e93_2, e93_3, e93_5, e93_6, e93_9, e93_10, e93_11, e93_12, e93_15, e93_16, e93_17, e93_20, e93_23, e93_24, q_le (show j < 2147483648 by omega) (show j < 2147483648 by omega), Std.le_refl, if_true]
  | succ i ih =>
    intro j hj
    refine Eq.trans ?_ (ih (j + 1) (by omega))
    rw [e93_4]
    simp only [e93_0, e93_1, e93_2, e93_3, e93_5, e93_6, e93_9, e93_10, e93_11, e93_12, e93_15, e93_16, e93_17, e93_20, e93_23, e93_24, q_le (show len < 2147483648 by omega) (show j < 2147483648 by omega), show ¬ len ≤ j by omega, if_false, c_at hs hn, pAt_in (show j < n by omega) hn, hf j (by omega), q_bs, q_tl, q_cn, nI_1, bx_sum]
theorem c_sum {k n : Nat} (hs : shp k = (1, n)) (hn : n < 2147483648) (f : Nat → Int32) (H : kH) {len : Nat} (hlen : len ≤ n) (hf : ∀ j, j < len → hI H k j = f j) : ev 93 0 [.ref k, .int (nI len), .null, .null] [] H = some (some (.int (bx_sum f len)), H) := by
  simp only [e93_0, e93_1, e93_2, e93_3]
  exact l_sumI hs hn f H hlen hf len 0 (by omega)
theorem l_tenTo {n : Nat} (hn : n < 2147483648) (H : kH) : ∀ i j, j + i = n → ev 94 4 [.int (nI n), .long (lN (10 ^ j)), .null, .int (nI j)] [] H = some (some (.long (lN (10 ^ n))), H) := by
  intro i
  induction i with
  | zero =>
    intro j hj
    have : j = n := by omega
    subst this
    rw [e94_4]
    simp only [e94_0, e94_1, e94_2, e94_3, e94_5, e94_6, e94_9, e94_10, e94_13, e94_14, e94_15, e94_18, e94_21, e94_22, Std.le_refl, if_true]
  | succ i ih =>
    intro j hj
    refine Eq.trans ?_ (ih (j + 1) (by omega))
    rw [e94_4]
    simp only [e94_0, e94_1, e94_2, e94_3, e94_5, e94_6, e94_9, e94_10, e94_13, e94_14, e94_15, e94_18, e94_21, e94_22, q_le (show n < 2147483648 by omega) (show j < 2147483648 by omega), show ¬ n ≤ j by omega, if_false, nI_1, show (10 : Int64) = lN 10 from rfl, lN_mul, Nat.pow_succ]
theorem c_tenTo {n : Nat} (hn : n < 2147483648) (H : kH) : ev 94 0 [.int (nI n), .null, .null, .null] [] H = some (some (.long (lN (10 ^ n))), H) := by
  simp only [e94_0, e94_1, e94_2, e94_3]
  exact l_tenTo hn H n 0 (by omega)
/-- said -/
theorem qS_ok : ∀ h, h < 64 → nI h ||| 1 = nI (qS h 0) ∧ (nI h &&& (-2)) ||| 2 = nI (qS h 1) ∧ (if nI h &&& 3 = 0 then nI h else nI h ||| 4) = nI (qS h 2) ∧ nI h ||| 8 = nI (qS h 3) ∧ (16 : Int32) = nI (qS h 4) ∧ (nI h &&& (-9)) ||| 32 = nI (qS h 5) := by decide +kernel
theorem c_said {h l : Nat} (hh : h < 64) (hl : l < 6) (H : kH) : ev 50 0 [.int (nI h), .int (nI l)] [] H = some (some (.int (nI (qS h l))), H) := by
  obtain ⟨s0, s1, s2, s3, s4, s5⟩ := qS_ok h hh
  rcases (show l = 0 ∨ l = 1 ∨ l = 2 ∨ l = 3 ∨ l = 4 ∨ l = 5 by omega) with rfl | rfl | rfl | rfl | rfl | rfl
  · simp only [show nI 0 = (0 : Int32) from rfl, e50_0, e50_1_0, e50_1_1, e50_1_2, e50_1_3, e50_1_4, e50_1_5, e50_1_d, e50_40, e50_41, e50_42, e50_43, e50_44, e50_45, e50_47, e50_48, e50_49, e50_50, e50_51, e50_52, e50_53, e50_54, e50_57, e50_58, e50_59, e50_60, e50_63, e50_64, e50_65, e50_66, e50_68, e50_69, e50_70, e50_72, e50_73, e50_74, e50_76, e50_77, e50_79, e50_80, e50_81, e50_82, s0]
  · simp only [show nI 1 = (1 : Int32) from rfl, e50_0, e50_1_0, e50_1_1, e50_1_2, e50_1_3, e50_1_4, e50_1_5, e50_1_d, e50_40, e50_41, e50_42, e50_43, e50_44, e50_45, e50_47, e50_48, e50_49, e50_50, e50_51, e50_52, e50_53, e50_54, e50_57, e50_58, e50_59, e50_60, e50_63, e50_64, e50_65, e50_66, e50_68, e50_69, e50_70, e50_72, e50_73, e50_74, e50_76, e50_77, e50_79, e50_80, e50_81, e50_82, s1]
  · simp only [show nI 2 = (2 : Int32) from rfl, e50_0, e50_1_0, e50_1_1, e50_1_2, e50_1_3, e50_1_4, e50_1_5, e50_1_d, e50_40, e50_41, e50_42, e50_43, e50_44, e50_45, e50_47, e50_48, e50_49, e50_50, e50_51, e50_52, e50_53, e50_54, e50_57, e50_58, e50_59, e50_60, e50_63, e50_64, e50_65, e50_66, e50_68, e50_69, e50_70, e50_72, e50_73, e50_74, e50_76, e50_77, e50_79, e50_80, e50_81, e50_82]
    rw [← s2]
    by_cases c : nI h &&& 3 = 0
    · simp only [c, if_true]
    · simp only [c, if_false]
  · simp only [show nI 3 = (3 : Int32) from rfl, e50_0, e50_1_0, e50_1_1, e50_1_2, e50_1_3, e50_1_4, e50_1_5, e50_1_d, e50_40, e50_41, e50_42, e50_43, e50_44, e50_45, e50_47, e50_48, e50_49, e50_50, e50_51, e50_52, e50_53, e50_54, e50_57, e50_58, e50_59, e50_60, e50_63, e50_64, e50_65, e50_66, e50_68, e50_69, e50_70, e50_72, e50_73, e50_74, e50_76, e50_77, e50_79, e50_80, e50_81, e50_82, s3]
  · simp only [show nI 4 = (4 : Int32) from rfl, e50_0, e50_1_0, e50_1_1, e50_1_2, e50_1_3, e50_1_4, e50_1_5, e50_1_d, e50_40, e50_41, e50_42, e50_43, e50_44, e50_45, e50_47, e50_48, e50_49, e50_50, e50_51, e50_52, e50_53, e50_54, e50_57, e50_58, e50_59, e50_60, e50_63, e50_64, e50_65, e50_66, e50_68, e50_69, e50_70, e50_72, e50_73, e50_74, e50_76, e50_77, e50_79, e50_80, e50_81, e50_82, s4]
  · simp only [show nI 5 = (5 : Int32) from rfl, e50_0, e50_1_0, e50_1_1, e50_1_2, e50_1_3, e50_1_4, e50_1_5, e50_1_d, e50_40, e50_41, e50_42, e50_43, e50_44, e50_45, e50_47, e50_48, e50_49, e50_50, e50_51, e50_52, e50_53, e50_54, e50_57, e50_58, e50_59, e50_60, e50_63, e50_64, e50_65, e50_66, e50_68, e50_69, e50_70, e50_72, e50_73, e50_74, e50_76, e50_77, e50_79, e50_80, e50_81, e50_82, s5]
/-- fill -/
theorem l_fillI {k n : Nat} (hs : shp k = (1, n)) (hn : n < 2147483648) (v : Int32) : ∀ i j H, j + i = n → ∃ H', ev 162 5 [.ref k, .int v, .int (nI j), .int (nI n)] [] H = some (none, H') ∧ kFr (fun a _ => a = k) H H' ∧ (∀ q, j ≤ q → q < n → hI H' k q = v) ∧ ∀ q, (q < j ∨ n ≤ q) → hI H' k q = hI H k q := by
  intro i
  induction i with
  | zero =>
    intro j H hj
    have : j = n := by omega
    subst this
    refine ⟨H, ?_, kFr.rf, fun q h1 h2 => absurd h2 (by omega), fun _ _ => rfl⟩
    rw [e162_5]
    simp only [e162_0, e162_1, e162_2, e162_3, e162_4, e162_6, e162_7, e162_10, e162_11, e162_12, e162_13, e162_14, e162_17, e162_20, Std.le_refl, if_true]
  | succ i ih =>
    intro j H hj
    obtain ⟨H', h1, h2, h3, h4⟩ := ih (j + 1) (uI H k j v) (by omega)
    refine ⟨H', ?_, (kFr_uI (P := fun a _ => a = k) rfl).tr h2, fun q hq1 hq2 => ?_, fun q hq => ?_⟩
    · rw [← h1, e162_5]
      simp only [e162_0, e162_1, e162_2, (e162_3 (hs := hs)), e162_4, e162_6, e162_7, e162_10, e162_11, e162_12, (e162_13 (hs := hs)), e162_14, e162_17, e162_20, q_le (show n < 2147483648 by omega) (show j < 2147483648 by omega), show ¬ n ≤ j by omega, if_false, q_lt0 (show j < 2147483648 by omega), q_cl (show j < 2147483648 by omega), or_false, nI_1]
    · by_cases e : q = j
      · subst e
        rw [h4 q (by omega), hI_uIs]
      · exact h3 q (by omega) hq2
    · rw [h4 q (by omega), hI_uIn (by omega)]
theorem c_fillI {k n : Nat} (hs : shp k = (1, n)) (hn : n < 2147483648) (v : Int32) (H : kH) : ∃ H', ev 162 0 [.ref k, .int v, .null, .null] [] H = some (none, H') ∧ kFr (fun a _ => a = k) H H' ∧ ∀ q, q < n → hI H' k q = v := by
  obtain ⟨H', h1, h2, h3, -⟩ := l_fillI hs hn v n 0 H (by omega)
  refine ⟨H', ?_, h2, fun q hq => h3 q (by omega) hq⟩
  rw [← h1]
  simp only [e162_0, e162_1, e162_2, (e162_3 (hs := hs)), e162_4, q_of]
  rfl
theorem l_fillL {k n : Nat} (hs : shp k = (2, n)) (hn : n < 2147483648) (v : Int64) : ∀ i j H, j + i = n → ∃ H', ev 161 6 [.ref k, .long v, .null, .int (nI j), .int (nI n)] [] H = some (none, H') ∧ kFr (fun a _ => a = k) H H' ∧ (∀ q, j ≤ q → q < n → hL H' k q = v) ∧ ∀ q, (q < j ∨ n ≤ q) → hL H' k q = hL H k q := by
  intro i
  induction i with
  | zero =>
    intro j H hj
    have : j = n := by omega
    subst this
    refine ⟨H, ?_, kFr.rf, fun q h1 h2 => absurd h2 (by omega), fun _ _ => rfl⟩
    rw [e161_6]
    simp only [e161_0, e161_1, e161_2, e161_3, e161_4, e161_7, e161_9, e161_12, e161_13, e161_14, e161_15, e161_16, e161_19, e161_22, Std.le_refl, if_true]
  | succ i ih =>
    intro j H hj
    obtain ⟨H', h1, h2, h3, h4⟩ := ih (j + 1) (uL H k j v) (by omega)
    refine ⟨H', ?_, (kFr_uL (P := fun a _ => a = k) rfl).tr h2, fun q hq1 hq2 => ?_, fun q hq => ?_⟩
    · rw [← h1, e161_6]
      simp only [e161_0, e161_1, e161_2, (e161_3 (hs := hs)), e161_4, e161_7, e161_9, e161_12, e161_13, e161_14, (e161_15 (hs := hs)), e161_16, e161_19, e161_22, q_le (show n < 2147483648 by omega) (show j < 2147483648 by omega), show ¬ n ≤ j by omega, if_false, q_lt0 (show j < 2147483648 by omega), q_cl (show j < 2147483648 by omega), or_false, nI_1]
    · by_cases e : q = j
      · subst e
        rw [h4 q (by omega), hL_uLs]
      · exact h3 q (by omega) hq2
    · rw [h4 q (by omega), hL_uLn (by omega)]
theorem c_fillL {k n : Nat} (hs : shp k = (2, n)) (hn : n < 2147483648) (v : Int64) (H : kH) : ∃ H', ev 161 0 [.ref k, .long v, .null, .null, .null] [] H = some (none, H') ∧ kFr (fun a _ => a = k) H H' ∧ ∀ q, q < n → hL H' k q = v := by
  obtain ⟨H', h1, h2, h3, -⟩ := l_fillL hs hn v n 0 H (by omega)
  refine ⟨H', ?_, h2, fun q hq => h3 q (by omega) hq⟩
  rw [← h1]
  simp only [e161_0, e161_1, e161_2, (e161_3 (hs := hs)), e161_4, q_of]
  rfl
/-- copy of a row of ints over one as long -/
theorem c_copy {k1 k2 n : Nat} (hs1 : shp k1 = (1, n)) (hs2 : shp k2 = (1, n)) (hn : n < 2147483648) (hk : k2 ≠ k1) (H : kH) : ∃ H', ev 92 0 [.ref k1, .ref k2] [] H = some (none, H') ∧ kFr (fun a _ => a = k2) H H' ∧ (∀ q, q < n → hI H' k2 q = hI H k1 q) := by
  have e0 : kCp H k1 (nI 0) k2 (nI 0) (nI n) = some (uC H k2 (va_cpy (hI H k1) (hI H k2) 0 0 n)) := by
    unfold kCp
    rw [hs1, hs2]
    show (if _ then none else _) = _
    rw [if_neg]
    · rw [q_cl (by omega), q_cl hn]
    · simp only [q_lt0 hn, q_lt0 (show 0 < 2147483648 by decide), q_cl hn, q_cl (show 0 < 2147483648 by decide), false_or]
      omega
  refine ⟨uC H k2 (va_cpy (hI H k1) (hI H k2) 0 0 n), ?_, kFr_uC (fun _ => rfl), fun q hq => ?_⟩
  · simp only [e92_0, e92_1, e92_2, e92_3, e92_4, e92_5 (hs := hs1), e92_6, e92_7 (hs := hs2), e92_8, q_of, q_lt hn hn, Nat.lt_irrefl, if_false, show (0 : Int32) = nI 0 from rfl, e92_11 (hc := e0), e92_14]
  · rw [hI_uC, if_pos rfl]
    unfold va_cpy
    rw [if_pos (by omega)]
    congr 1
    omega
