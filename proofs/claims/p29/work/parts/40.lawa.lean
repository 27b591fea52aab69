/-! the law's own numbers: b (cell 27), d (cell 28, or the row 30) -/
def bR (H : kH) (V : kV) : Prop := hI H 27 5 = nI (vn V) ∧ ∀ j, j < vn V → hI H 27 j = nI (vk V j)
def dR (H : kH) (k : Nat) (V : kV) : Prop := (∀ j, j < vn V → hI H k j = nI (vo V j)) ∧ (∀ j, j < vn V → hI H k (5 + j) = nI (vl V j)) ∧ (∀ j, j < 5 → hI H k (10 + j) = vr V j) ∧ hI H k 15 = vd V ∧ hI H k 16 = vp V ∧ hI H k 17 = nI (vh V) ∧ hI H k 18 = vt V
theorem ix15 : ((15 : Int32) < 0 ∨ 19 ≤ (15 : Int32).toNatClampNeg) = False := eq_false (by decide)
theorem ix16 : ((16 : Int32) < 0 ∨ 19 ≤ (16 : Int32).toNatClampNeg) = False := eq_false (by decide)
theorem ix17 : ((17 : Int32) < 0 ∨ 19 ≤ (17 : Int32).toNatClampNeg) = False := eq_false (by decide)
theorem ix18 : ((18 : Int32) < 0 ∨ 19 ≤ (18 : Int32).toNatClampNeg) = False := eq_false (by decide)
theorem zb5 : ((5 : Int32) < 0) = False := eq_false (by decide)
theorem nb5 : (6 ≤ 5) = False := eq_false (by decide)
theorem ib5 : ((5 : Int32) < 0 ∨ 6 ≤ (5 : Int32).toNatClampNeg) = False := eq_false (by decide)
theorem cx15 : (15 : Int32).toNatClampNeg = 15 := rfl
theorem cx16 : (16 : Int32).toNatClampNeg = 16 := rfl
theorem cx17 : (17 : Int32).toNatClampNeg = 17 := rfl
theorem cx18 : (18 : Int32).toNatClampNeg = 18 := rfl
theorem cx5 : (5 : Int32).toNatClampNeg = 5 := rfl
theorem shq_uI (H : kH) (a j : Nat) (v : Int32) (k : Nat) : shq (uI H a j v) k = shq H k := rfl
theorem shq_28 (H : kH) : shq H 28 = (1, 19) := shq_of (show shp 28 = (1, 19) by decide +kernel) (by decide)
theorem q_cap9 {a : Nat} (h : a < 100) (H : kH) : (if nI a ≤ nI 9 then (some (some (Value.int (nI a)), H) : Option (Option Value × kH)) else some (some (Value.int (nI 9)), H)) = some (some (.int (nI (min 9 a))), H) := by
  simp only [q_le (show a < 2147483648 by omega) (show 9 < 2147483648 by decide)]
  split
  · rw [Nat.min_eq_right (by omega)]
  · rw [Nat.min_eq_left (by omega)]
theorem q_k {a b : Nat} (ha : a < 2147483648) (hb : b < 2147483648) : (nI a = nI b) = (a = b) := q_eq ha hb
section LWA
variable {H : kH} {V : kV}
theorem y_tenths {k : Nat} (hs : shq H k = (1, 19)) (hb : bR H V) (hd : dR H k V) (hV : vOK V) {j : Nat} (hj : j < vn V) : ev 74 0 [.ref 27, .ref k, .int (nI j), .null] [] H = some (some (.int (nI (qtn V j (vt V) (vh V) (vd V)))), H) := by
  have h5 := hV.2.1
  obtain ⟨hk, ho, hl⟩ := hV.2.2.1 j hj
  have hp := hV.2.2.2.2.1
  have hh := hV.2.2.2.2.2.1
  have bj := hb.2 j hj
  obtain ⟨d0, -, -, d15, d16, d17, d18⟩ := hd
  have dj := d0 j hj
  have k4 : (nI (vk V j) = (4 : Int32)) = (vk V j = 4) := q_k (b := 4) (by omega) (by decide)
  have k2 : (nI (vk V j) = (2 : Int32)) = (vk V j = 2) := q_k (b := 2) (by omega) (by decide)
  have b3 : ((nI (vh V) >>> ((3 : Int32) &&& 31)) &&& 1 = 1) = ((vh V).testBit 3 = true) := (q_bit _ hh 3 (by decide)).2
  have e2 : ((2 : Int32) = 0) = False := eq_false (by decide)
  have e01 : ((0 : Int32) = 1) = False := eq_false (by decide)
  have l6 : ¬ 6 ≤ j := by omega
  have l19 : ¬ 19 ≤ j := by omega
  have hvd : (vd V = nI j) = (nI j = vd V) := propext eq_comm
  simp only [e74_0, e74_1, e74_2, e74_3, e74_4, e74_7, e74_8, e74_10, e74_11, e74_12, e74_13, e74_14, e74_15, e74_16, e74_19, e74_20, e74_21, e74_22, e74_23, e74_24, e74_25, e74_26, e74_28, e74_29, e74_30, e74_33, e74_36, e74_37, e74_38, e74_39, e74_40, e74_43, e74_44, e74_45, e74_46, e74_47, e74_50, e74_51, e74_53, e74_54, e74_55, e74_56, e74_59, e74_62, e74_63, e74_64, e74_65, e74_66, e74_69, e74_70, e74_72, e74_73, e74_74, e74_77, e74_80, e74_81, e74_83, e74_86, e74_88, e74_91, e74_92, hs, q_lt0 (show j < 2147483648 by omega), q_cl (show j < 2147483648 by omega), l6, l19, or_self, if_false, bj, dj, ix15, ix16, ix17, ix18, cx15, cx16, cx17, cx18, d15, d16, d17, d18, k4, k2, b3, e2, hvd]
  unfold qtn qT qEvb
  simp only [decide_eq_true_eq]
  by_cases a1 : vk V j = 4 <;> by_cases a2 : (vh V).testBit 3 = true <;> by_cases a3 : nI j = vd V <;> by_cases a4 : vt V - vt V / 2 * 2 = 0 <;> by_cases a5 : vk V j = 2 <;> rcases hp with a6 | a6 <;>
    first
      | (exfalso; omega)
      | (simp only [a1, a2, a3, a4, a5, a6, e01, if_true, if_false, not_true_eq_false, not_false_eq_true, and_true, and_false, true_and, false_and, or_true, or_false, true_or, false_or, ne_eq, Nat.add_zero, ite_self, reduceCtorEq, Nat.reduceEqDiff]
         all_goals try simp only [q_lit, q_add, Nat.reduceAdd]
         all_goals first
           | rfl
           | (refine (q_cap9 (by omega) H).trans ?_; refine congrArg (fun z => some (some (Value.int (nI z)), H)) ?_; omega))
/-- the fold of king() -/
theorem l_kingL {n s : Nat} {kd : Nat → Nat} (hb5 : hI H 27 5 = nI n) (h5 : n ≤ 5) (hk : ∀ j, j < n → hI H 27 j = nI (kd j) ∧ kd j < 5) (hs : s < 64) : ∀ k j, j + k = n →
    ev 75 13 [.ref 27, .int (nI s), .int (nI (qF kd s j).1), .int (qF kd s j).2.1, .int (nI (qF kd s j).2.2.1), .int (qF kd s j).2.2.2, .int (nI j)] [] H = ev 75 63 [.ref 27, .int (nI s), .int (nI (qF kd s n).1), .int (qF kd s n).2.1, .int (nI (qF kd s n).2.2.1), .int (qF kd s n).2.2.2, .int (nI n)] [] H := by
  intro k
  induction k with
  | zero =>
    intro j hj
    have : j = n := by omega
    subst this
    rw [e75_13]
    simp only [e75_15, e75_16, e75_17, e75_18, zb5, nb5, cx5, hb5, or_self, Std.le_refl, if_true, if_false]
  | succ k ih =>
    intro j hj
    obtain ⟨e1, e2⟩ := hk j (by omega)
    refine Eq.trans ?_ (ih (j + 1) (by omega))
    rw [e75_13]
    have hle : ¬ n ≤ j := by omega
    have l6 : ¬ 6 ≤ j := by omega
    have k3 : (nI (kd j) = (3 : Int32)) = (kd j = 3) := q_k (b := 3) (by omega) (by decide)
    have hb0 := (q_bit s hs j (by omega)).1
    cases hb : s.testBit j with
    | false =>
      simp only [e75_15, e75_16, e75_17, e75_18, e75_21, e75_22, e75_24, e75_25, e75_26, e75_27, e75_30, e75_33, e75_36, e75_38, e75_39, e75_40, e75_42, e75_43, e75_44, e75_47, e75_50, e75_53, e75_55, e75_57, e75_60, zb5, nb5, cx5, hb5, q_le (show n < 2147483648 by omega) (show j < 2147483648 by omega), hle, or_self, if_false, if_true, hb0, hb, not_true_eq_false, nI_1, qF, Bool.false_eq_true]
    | true =>
      by_cases h3 : kd j = 3
      · simp only [e75_15, e75_16, e75_17, e75_18, e75_21, e75_22, e75_24, e75_25, e75_26, e75_27, e75_30, e75_33, e75_36, e75_38, e75_39, e75_40, e75_42, e75_43, e75_44, e75_47, e75_50, e75_53, e75_55, e75_57, e75_60, zb5, nb5, cx5, hb5, q_le (show n < 2147483648 by omega) (show j < 2147483648 by omega), hle, if_false, hb0, hb, Bool.true_eq_false, not_false_eq_true, if_true, q_lt0 (show j < 2147483648 by omega), q_cl (show j < 2147483648 by omega), l6, or_self, e1, k3, h3, show (nI 3 = (3 : Int32)) = True from eq_true rfl, nI_1, qF]
      · simp only [e75_15, e75_16, e75_17, e75_18, e75_21, e75_22, e75_24, e75_25, e75_26, e75_27, e75_30, e75_33, e75_36, e75_38, e75_39, e75_40, e75_42, e75_43, e75_44, e75_47, e75_50, e75_53, e75_55, e75_57, e75_60, zb5, nb5, cx5, hb5, q_le (show n < 2147483648 by omega) (show j < 2147483648 by omega), hle, if_false, hb0, hb, Bool.true_eq_false, not_false_eq_true, if_true, q_lt0 (show j < 2147483648 by omega), q_cl (show j < 2147483648 by omega), l6, or_self, e1, k3, h3, show (nI 3 = (3 : Int32)) = True from eq_true rfl, nI_1, qF]
theorem y_king (hb : bR H V) (hV : vOK V) {s : Nat} (hs : s < 64) : ev 75 0 [.ref 27, .int (nI s), .null, .null, .null, .null, .null] [] H = some (some (.int (qK (vk V) (vn V) s)), H) := by
  have h5 := hV.2.1
  have hk : ∀ j, j < vn V → hI H 27 j = nI (vk V j) ∧ vk V j < 5 := fun j hj => ⟨hb.2 j hj, (hV.2.2.1 j hj).1⟩
  have h0 := l_kingL hb.1 h5 hk hs (vn V) 0 (by omega)
  simp only [qF] at h0
  simp only [e75_0, e75_1, e75_2, e75_3, e75_4, e75_5, e75_7, e75_8, e75_10, e75_11]
  rw [show (0 : Int32) = nI 0 from rfl, h0]
  obtain ⟨o1, o2, o3, o4⟩ := qF_one (vk V) s (vn V)
  obtain ⟨b1, b2⟩ := qF_le (vk V) s (vn V)
  unfold qK
  by_cases c1 : (qF (vk V) s (vn V)).1 = 1
  · obtain ⟨c, hc, ec⟩ := o2 (by omega)
    obtain ⟨e1, e2⟩ := hk c hc
    have l6 : ¬ 6 ≤ c := by omega
    have k1 : (nI (vk V c) = (1 : Int32)) = (vk V c = 1) := q_k (b := 1) (by omega) (by decide)
    have kn : (nI (c + 1) = nI (vn V)) = (c + 1 = vn V) := q_k (by omega) (by omega)
    by_cases z1 : vk V c = 1
    · by_cases z2 : c + 1 < vn V
      · simp only [e75_63, e75_64, e75_65, e75_68, e75_69, e75_70, e75_71, e75_72, e75_75, e75_76, e75_77, e75_78, e75_79, e75_80, e75_81, e75_84, e75_85, e75_88, e75_89, e75_90, e75_91, e75_94, e75_95, c1, ec, q_cl (show c < 2147483648 by omega), q_lt0 (show c < 2147483648 by omega), l6, or_self, if_false, z1, if_true, not_true_eq_false, e1, k1, show (nI 1 = (1 : Int32)) = True from eq_true rfl, zb5, nb5, cx5, hb.1, or_self, kn, show ¬ c + 1 = vn V by omega, not_false_eq_true, z2, nI_1]
      · simp only [e75_63, e75_64, e75_65, e75_68, e75_69, e75_70, e75_71, e75_72, e75_75, e75_76, e75_77, e75_78, e75_79, e75_80, e75_81, e75_84, e75_85, e75_88, e75_89, e75_90, e75_91, e75_94, e75_95, c1, ec, q_cl (show c < 2147483648 by omega), q_lt0 (show c < 2147483648 by omega), l6, or_self, if_false, z1, if_true, not_true_eq_false, e1, k1, show (nI 1 = (1 : Int32)) = True from eq_true rfl, zb5, nb5, cx5, hb.1, nI_1, kn, show c + 1 = vn V by omega, not_true_eq_false, if_false, Nat.lt_irrefl]
        rfl
    · simp only [e75_63, e75_64, e75_65, e75_68, e75_69, e75_70, e75_71, e75_72, e75_75, e75_76, e75_77, e75_78, e75_79, e75_80, e75_81, e75_84, e75_85, e75_88, e75_89, e75_90, e75_91, e75_94, e75_95, c1, ec, q_cl (show c < 2147483648 by omega), q_lt0 (show c < 2147483648 by omega), l6, or_self, if_false, z1, if_true, not_true_eq_false, not_false_eq_true, e1, k1, show (nI 1 = (1 : Int32)) = True from eq_true rfl]
  · simp only [e75_63, e75_64, e75_65, e75_68, e75_69, e75_70, e75_71, e75_72, e75_75, e75_76, e75_77, e75_78, e75_79, e75_80, e75_81, e75_84, e75_85, e75_88, e75_89, e75_90, e75_91, e75_94, e75_95, e75_96, e75_98, e75_99, e75_102, e75_104, e75_107, e75_108, q_lit, q_eq (show (qF (vk V) s (vn V)).1 < 2147483648 by omega) (show 1 < 2147483648 by decide), q_eq (show (qF (vk V) s (vn V)).2.2.1 < 2147483648 by omega) (show 1 < 2147483648 by decide), c1, if_false, not_false_eq_true, if_true]
    by_cases c2 : (qF (vk V) s (vn V)).2.2.1 = 1
    · simp [c2]
    · simp [c2]
/-- say() -/
theorem qS_ok2 : ∀ h, h < 64 → nI h ||| ((1 : Int32) <<< (nI 0 &&& 31)) = nI (qS h 0) ∧ (if nI h &&& 1 = 1 then nI h + (-1) else nI h) ||| ((1 : Int32) <<< (nI 1 &&& 31)) = nI (qS h 1) ∧ (if nI h &&& 3 = 0 then nI h else nI h ||| ((1 : Int32) <<< (nI 2 &&& 31))) = nI (qS h 2) ∧ nI h ||| ((1 : Int32) <<< (nI 3 &&& 31)) = nI (qS h 3) ∧ (16 : Int32) = nI (qS h 4) ∧ (if nI h &&& 8 = 8 then nI h + (-8) else nI h) ||| ((1 : Int32) <<< (nI 5 &&& 31)) = nI (qS h 5) := by decide +kernel
theorem y_say {h l : Nat} (hh : h < 64) (hl : l < 6) : ev 76 0 [.int (nI h), .int (nI l), .null] [] H = some (some (.int (nI (qS h l))), H) := by
  obtain ⟨s0, s1, s2, s3, s4, s5⟩ := qS_ok2 h hh
  have e : ∀ a b : Nat, a < 6 → b < 6 → ((nI a : Int32) = nI b) = (a = b) := fun a b ha hb => q_eq (by omega) (by omega)
  have e1 : ∀ a, a < 6 → ((nI a : Int32) = 1) = (a = 1) := fun a ha => e a 1 ha (by decide)
  have e2 : ∀ a, a < 6 → ((nI a : Int32) = 2) = (a = 2) := fun a ha => e a 2 ha (by decide)
  have e4 : ∀ a, a < 6 → ((nI a : Int32) = 4) = (a = 4) := fun a ha => e a 4 ha (by decide)
  have e5 : ∀ a, a < 6 → ((nI a : Int32) = 5) = (a = 5) := fun a ha => e a 5 ha (by decide)
  rcases (show l = 0 ∨ l = 1 ∨ l = 2 ∨ l = 3 ∨ l = 4 ∨ l = 5 by omega) with rfl | rfl | rfl | rfl | rfl | rfl
  · rw [← s0]
    simp only [e76_0, e76_1, e76_2, e76_5, e76_7, e76_8, e76_9, e76_10, e76_11, e76_12, e76_15, e76_16, e76_17, e76_18, e76_19, e76_22, e76_25, e76_26, e76_27, e76_30, e76_31, e76_33, e76_34, e76_36, e76_39, e76_42, e76_43, e76_44, e76_47, e76_48, e76_49, e76_50, e76_53, e76_54, e76_55, e76_56, e76_57, e76_58, e76_59, e76_60, e1 0 (by decide), e2 0 (by decide), e4 0 (by decide), e5 0 (by decide), show ¬ (0 : Nat) = 1 by decide, show ¬ (0 : Nat) = 2 by decide, show ¬ (0 : Nat) = 4 by decide, show ¬ (0 : Nat) = 5 by decide, not_false_eq_true, if_true]
  · rw [← s1]
    by_cases c : nI h &&& 1 = 1
    · simp only [e76_0, e76_1, e76_2, e76_5, e76_7, e76_8, e76_9, e76_10, e76_11, e76_12, e76_15, e76_16, e76_17, e76_18, e76_19, e76_22, e76_25, e76_26, e76_27, e76_30, e76_31, e76_33, e76_34, e76_36, e76_39, e76_42, e76_43, e76_44, e76_47, e76_48, e76_49, e76_50, e76_53, e76_54, e76_55, e76_56, e76_57, e76_58, e76_59, e76_60, e1 1 (by decide), e2 1 (by decide), e4 1 (by decide), e5 1 (by decide), show ¬ (1 : Nat) = 2 by decide, show ¬ (1 : Nat) = 4 by decide, show ¬ (1 : Nat) = 5 by decide, not_false_eq_true, not_true_eq_false, if_true, if_false, c]
    · simp only [e76_0, e76_1, e76_2, e76_5, e76_7, e76_8, e76_9, e76_10, e76_11, e76_12, e76_15, e76_16, e76_17, e76_18, e76_19, e76_22, e76_25, e76_26, e76_27, e76_30, e76_31, e76_33, e76_34, e76_36, e76_39, e76_42, e76_43, e76_44, e76_47, e76_48, e76_49, e76_50, e76_53, e76_54, e76_55, e76_56, e76_57, e76_58, e76_59, e76_60, e1 1 (by decide), e2 1 (by decide), e4 1 (by decide), e5 1 (by decide), show ¬ (1 : Nat) = 2 by decide, show ¬ (1 : Nat) = 4 by decide, show ¬ (1 : Nat) = 5 by decide, not_false_eq_true, not_true_eq_false, if_true, if_false, c]
  · rw [← s2]
    by_cases c : nI h &&& 3 = 0
    · simp only [e76_0, e76_1, e76_2, e76_5, e76_7, e76_8, e76_9, e76_10, e76_11, e76_12, e76_15, e76_16, e76_17, e76_18, e76_19, e76_22, e76_25, e76_26, e76_27, e76_30, e76_31, e76_33, e76_34, e76_36, e76_39, e76_42, e76_43, e76_44, e76_47, e76_48, e76_49, e76_50, e76_53, e76_54, e76_55, e76_56, e76_57, e76_58, e76_59, e76_60, e1 2 (by decide), e2 2 (by decide), e4 2 (by decide), e5 2 (by decide), show ¬ (2 : Nat) = 1 by decide, show ¬ (2 : Nat) = 4 by decide, show ¬ (2 : Nat) = 5 by decide, not_false_eq_true, not_true_eq_false, if_true, if_false, c]
    · simp only [e76_0, e76_1, e76_2, e76_5, e76_7, e76_8, e76_9, e76_10, e76_11, e76_12, e76_15, e76_16, e76_17, e76_18, e76_19, e76_22, e76_25, e76_26, e76_27, e76_30, e76_31, e76_33, e76_34, e76_36, e76_39, e76_42, e76_43, e76_44, e76_47, e76_48, e76_49, e76_50, e76_53, e76_54, e76_55, e76_56, e76_57, e76_58, e76_59, e76_60, e1 2 (by decide), e2 2 (by decide), e4 2 (by decide), e5 2 (by decide), show ¬ (2 : Nat) = 1 by decide, show ¬ (2 : Nat) = 4 by decide, show ¬ (2 : Nat) = 5 by decide, not_false_eq_true, not_true_eq_false, if_true, if_false, c]
  · rw [← s3]
    simp only [e76_0, e76_1, e76_2, e76_5, e76_7, e76_8, e76_9, e76_10, e76_11, e76_12, e76_15, e76_16, e76_17, e76_18, e76_19, e76_22, e76_25, e76_26, e76_27, e76_30, e76_31, e76_33, e76_34, e76_36, e76_39, e76_42, e76_43, e76_44, e76_47, e76_48, e76_49, e76_50, e76_53, e76_54, e76_55, e76_56, e76_57, e76_58, e76_59, e76_60, e1 3 (by decide), e2 3 (by decide), e4 3 (by decide), e5 3 (by decide), show ¬ (3 : Nat) = 1 by decide, show ¬ (3 : Nat) = 2 by decide, show ¬ (3 : Nat) = 4 by decide, show ¬ (3 : Nat) = 5 by decide, not_false_eq_true, if_true]
  · rw [← s4]
    simp only [e76_0, e76_1, e76_2, e76_5, e76_7, e76_8, e76_9, e76_10, e76_11, e76_12, e76_15, e76_16, e76_17, e76_18, e76_19, e76_22, e76_25, e76_26, e76_27, e76_30, e76_31, e76_33, e76_34, e76_36, e76_39, e76_42, e76_43, e76_44, e76_47, e76_48, e76_49, e76_50, e76_53, e76_54, e76_55, e76_56, e76_57, e76_58, e76_59, e76_60, e4 4 (by decide), not_true_eq_false, if_false]
  · rw [← s5]
    by_cases c : nI h &&& 8 = 8
    · simp only [e76_0, e76_1, e76_2, e76_5, e76_7, e76_8, e76_9, e76_10, e76_11, e76_12, e76_15, e76_16, e76_17, e76_18, e76_19, e76_22, e76_25, e76_26, e76_27, e76_30, e76_31, e76_33, e76_34, e76_36, e76_39, e76_42, e76_43, e76_44, e76_47, e76_48, e76_49, e76_50, e76_53, e76_54, e76_55, e76_56, e76_57, e76_58, e76_59, e76_60, e1 5 (by decide), e2 5 (by decide), e4 5 (by decide), e5 5 (by decide), show ¬ (5 : Nat) = 1 by decide, show ¬ (5 : Nat) = 2 by decide, show ¬ (5 : Nat) = 4 by decide, not_false_eq_true, not_true_eq_false, if_true, if_false, c]
    · simp only [e76_0, e76_1, e76_2, e76_5, e76_7, e76_8, e76_9, e76_10, e76_11, e76_12, e76_15, e76_16, e76_17, e76_18, e76_19, e76_22, e76_25, e76_26, e76_27, e76_30, e76_31, e76_33, e76_34, e76_36, e76_39, e76_42, e76_43, e76_44, e76_47, e76_48, e76_49, e76_50, e76_53, e76_54, e76_55, e76_56, e76_57, e76_58, e76_59, e76_60, e1 5 (by decide), e2 5 (by decide), e4 5 (by decide), e5 5 (by decide), show ¬ (5 : Nat) = 1 by decide, show ¬ (5 : Nat) = 2 by decide, show ¬ (5 : Nat) = 4 by decide, not_false_eq_true, not_true_eq_false, if_true, if_false, c]
end LWA
