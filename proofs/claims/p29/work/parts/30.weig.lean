/-! weights -/
theorem q_le0 {a : Nat} (h : a < 2147483648) : (nI a ≤ 0) = (a = 0) := by
  rw [show (0 : Int32) = nI 0 from rfl, q_le h (by decide)]
  exact propext (by omega)
def nsum (f : Nat → Nat) : Nat → Nat
  | 0 => 0
  | n + 1 => nsum f n + f n
/-- the weight of a set of n -/
def qw (t u : Nat → Nat) : Nat → Nat → Nat
  | 0, _ => 1
  | j + 1, s => qw t u j s * (if s.testBit j = true then t j else u j)
theorem qw_cong {t u : Nat → Nat} : ∀ {n s s' : Nat}, (∀ i, i < n → s.testBit i = s'.testBit i) → qw t u n s = qw t u n s'
  | 0, _, _, _ => rfl
  | n + 1, s, s', h => by
    unfold qw
    rw [qw_cong (fun i hi => h i (by omega)), h n (by omega)]
/-- the king's place: nobody 0, then by number -/
def qPl (kd : Nat → Nat) (n s : Nat) : Nat := if qK kd n s = -1 then 0 else (qK kd n s).toNatClampNeg + 1
theorem qPl_le (kd : Nat → Nat) {n : Nat} (s : Nat) (hn : n < 2147483648) : qPl kd n s ≤ n := by
  unfold qPl
  rcases qK_in kd n s hn with h | ⟨c, hc, h⟩
  · rw [if_pos h]; omega
  · rw [h, q_cl (by omega)]
    split <;> omega
theorem qK_pl (kd : Nat → Nat) {n : Nat} (s : Nat) (hn : n < 1000) : qK kd n s + 1 = nI (qPl kd n s) := by
  unfold qPl
  rcases qK_in kd n s (by omega) with h | ⟨c, hc, h⟩
  · rw [if_pos h, h]; rfl
  · have hne : ¬ nI c = (-1 : Int32) := by
      intro z
      have := congrArg Int32.toInt z
      rw [nI_toInt (by omega)] at this
      have e : (-1 : Int32).toInt = -1 := rfl
      omega
    rw [h, if_neg hne, q_cl (by omega), nI_1]
def qr (t u : Nat → Nat) (kd : Nat → Nat) (n p : Nat) : Nat → Nat := nsum (fun s => if qPl kd n s = p then qw t u n s else 0)
theorem q_i2lN {a : Nat} (h : a < 2147483648) : (nI a).toInt64 = lN a := q_i2l h
section KWG
variable {V : kV}
theorem l_weighT (hV : vOK V) {h : Nat} (hh : h < 64) (num dr : Int32) : ∀ i j H v, cR H V → j + i = vn V → ∃ H', ev 36 3 [.ref 4, .int num, .int (nI h), .int dr, .int (nI j), v] [] H = some (none, H') ∧ kFr (fun k _ => k = 19 ∨ k = 20) H H' ∧
    (∀ q, j ≤ q → q < vn V → hL H' 19 q = lN (qtn V q num h dr) ∧ hL H' 20 q = lN (10 - qtn V q num h dr)) ∧ ∀ q, q < j → hL H' 19 q = hL H 19 q ∧ hL H' 20 q = hL H 20 q := by
  have h5 := hV.2.1
  intro i
  induction i with
  | zero =>
    intro j H v hR hj
    have : j = vn V := by omega
    subst this
    refine ⟨H, ?_, kFr.rf, fun q h1 h2 => absurd h2 (by omega), fun _ _ => ⟨rfl, rfl⟩⟩
    rw [e36_3]
    simp only [e36_0, e36_1, e36_5, e36_6, e36_9, e36_12, e36_15, e36_17, e36_18, e36_21, e36_22, e36_25, e36_27, e36_28, e36_29, e36_30, e36_33, e36_35, e36_36, e36_39, e36_41, e36_43, e36_44, e36_45, e36_46, e36_49, e36_51, e36_53, e36_55, e36_56, e36_57, e36_58, e36_61, e36_64, c_seats hR, q_bs, q_tl, q_cn, Std.le_refl, if_true]
  | succ i ih =>
    intro j H v hR hj
    have ht := qT_le (vk V j) (vo V j) (vp V) (nI j = dr) (qEvb num = true) (h.testBit 3 = true)
    have ht : qtn V j num h dr ≤ 9 := ht
    have hR1 : cR (uL (uL H 19 j (lN (qtn V j num h dr))) 20 j (lN (10 - qtn V j num h dr))) V := cR_fr ((kFr_uL (by unfold sC; omega)).tr (kFr_uL (by unfold sC; omega))) hR
    obtain ⟨H', e1, f1, g1, k1⟩ := ih (j + 1) _ (.int (nI (qtn V j num h dr))) hR1 (by omega)
    refine ⟨H', ?_, ((kFr_uL (by omega)).tr (kFr_uL (by omega))).tr f1, fun q h1 h2 => ?_, fun q hq => ?_⟩
    · rw [← e1, e36_3]
      simp only [e36_0, e36_1, e36_5, e36_6, e36_9, e36_12, e36_15, e36_17, e36_18, e36_21, e36_22, e36_25, e36_27, e36_28, e36_29, e36_30, e36_33, e36_35, e36_36, e36_39, e36_41, e36_43, e36_44, e36_45, e36_46, e36_49, e36_51, e36_53, e36_55, e36_56, e36_57, e36_58, e36_61, e36_64, c_seats hR, q_bs, q_tl, q_cn, q_le (show vn V < 2147483648 by omega) (show j < 2147483648 by omega), show ¬ vn V ≤ j by omega, if_false, show (5 : Int32) = nI 5 from rfl, q_le (show 5 < 2147483648 by decide) (show j < 2147483648 by omega), show ¬ 5 ≤ j by omega, c_tenthsIn hR hV (show j < vn V by omega) hh, q_i2lN (show qtn V j num h dr < 2147483648 by omega), q_lt0 (show j < 2147483648 by omega), q_cl (show j < 2147483648 by omega), or_false, show (10 : Int32) = nI 10 from rfl, q_sub (show qtn V j num h dr ≤ 10 by omega), q_i2lN (show 10 - qtn V j num h dr < 2147483648 by omega), nI_1]
    · by_cases e : q = j
      · subst e
        obtain ⟨z1, z2⟩ := k1 q (by omega)
        rw [z1, z2, hL_uLn (by omega), hL_uLs, hL_uLs]
        exact ⟨rfl, rfl⟩
      · exact g1 q (by omega) h2
    · obtain ⟨z1, z2⟩ := k1 q (by omega)
      rw [z1, z2, hL_uLn (by omega), hL_uLn (by omega), hL_uLn (by omega), hL_uLn (by omega)]
      exact ⟨rfl, rfl⟩
theorem c_weighT (hV : vOK V) {h : Nat} (hh : h < 64) (num dr : Int32) {H : kH} (hR : cR H V) : ∃ H', ev 36 0 [.ref 4, .int num, .int (nI h), .int dr, .null, .null] [] H = some (none, H') ∧ kFr (fun k _ => k = 19 ∨ k = 20) H H' ∧
    (∀ q, q < vn V → hL H' 19 q = lN (qtn V q num h dr) ∧ hL H' 20 q = lN (10 - qtn V q num h dr)) := by
  obtain ⟨H', e1, f1, g1, -⟩ := l_weighT hV hh num dr (vn V) 0 H .null hR (by omega)
  refine ⟨H', ?_, f1, fun q hq => g1 q (by omega) hq⟩
  rw [← e1]
  simp only [e36_0, e36_1]
  rfl
end KWG
/-! sets -/
section KSE
variable {V : kV} {t u : Nat → Nat}
/-- the inner loop: sets from a on get one more councillor -/
theorem l_setsIn {j : Nat} (hj : j < 5) (v : Nat → Nat) : ∀ i a H, a + i = 2 ^ j → hL H 19 j = lN (t j) → hL H 20 j = lN (u j) → (∀ s, a ≤ s → s < 2 ^ j → hL H 21 s = lN (v s)) → ∃ H', ev 38 29 [.ref 4, .int (nI (2 ^ j)), .int (nI j), .int (nI a)] [] H = ev 38 87 [.ref 4, .int (nI (2 ^ j)), .int (nI j), .int (nI (2 ^ j))] [] H' ∧ kFr (fun k _ => k = 21) H H' ∧
    (∀ s, a ≤ s → s < 2 ^ j → hL H' 21 s = lN (v s * u j) ∧ hL H' 21 (s + 2 ^ j) = lN (v s * t j)) ∧ (∀ s, (s < a ∨ (2 ^ j ≤ s ∧ s < a + 2 ^ j)) → hL H' 21 s = hL H 21 s) := by
  have h16 : 2 ^ j ≤ 16 := by
    have : 2 ^ j ≤ 2 ^ 4 := Nat.pow_le_pow_right (by decide) (by omega)
    omega
  intro i
  induction i with
  | zero =>
    intro a H ha h1 h2 hs
    have : a = 2 ^ j := by omega
    subst this
    refine ⟨H, ?_, kFr.rf, fun s h1 h2 => absurd h2 (by omega), fun _ _ => rfl⟩
    rw [e38_29]
    simp only [e38_30, e38_31, Std.le_refl, if_true]
  | succ i ih =>
    intro a H ha h1 h2 hs
    have ha16 : a < 2 ^ j := by omega
    have f0 : kFr (fun k _ => k = 21) H (uL (uL H 21 (a + 2 ^ j) (lN (v a * t j))) 21 a (lN (v a * u j))) := (kFr_uL (P := fun k _ => k = 21) rfl).tr (kFr_uL (P := fun k _ => k = 21) rfl)
    obtain ⟨H', e1, f1, g1, k1⟩ := ih (a + 1) _ (by omega) (((f0 19 j (by omega)).2.1).trans h1) (((f0 20 j (by omega)).2.1).trans h2) (fun s hs1 hs2 => by rw [hL_uLn (by omega), hL_uLn (by omega)]; exact hs s (by omega) hs2)
    refine ⟨H', ?_, f0.tr f1, fun s hs1 hs2 => ?_, fun s hs1 => ?_⟩
    · rw [← e1, e38_29]
      simp only [e38_30, e38_31, e38_34, e38_35, e38_36, e38_37, e38_38, e38_41, e38_42, e38_45, e38_46, e38_49, e38_50, e38_51, e38_52, e38_53, e38_56, e38_57, e38_58, e38_59, e38_62, e38_63, e38_64, e38_65, e38_66, e38_67, e38_70, e38_71, e38_72, e38_73, e38_74, e38_77, e38_78, e38_79, e38_80, e38_81, e38_84, q_le (show 2 ^ j < 2147483648 by omega) (show a < 2147483648 by omega), show ¬ 2 ^ j ≤ a by omega, if_false, q_add, show (32 : Int32) = nI 32 from rfl, q_le (show 32 < 2147483648 by decide) (show a + 2 ^ j < 2147483648 by omega), show ¬ 32 ≤ a + 2 ^ j by omega, q_lt0 (show a < 2147483648 by omega), q_cl (show a < 2147483648 by omega), q_lt0 (show a + 2 ^ j < 2147483648 by omega), q_cl (show a + 2 ^ j < 2147483648 by omega), false_or, show ¬ 32 ≤ a by omega, hs a (by omega) ha16, q_lt0 (show j < 2147483648 by omega), q_cl (show j < 2147483648 by omega), show ¬ 5 ≤ j by omega, h1, lN_mul, hL_uLn (show ¬ ((21 : Nat) = 21 ∧ a = a + 2 ^ j) by omega), hL_uLn (show ¬ ((20 : Nat) = 21 ∧ j = a + 2 ^ j) by omega), h2, nI_1]
    · by_cases e : s = a
      · subst e
        rw [k1 s (by omega), k1 (s + 2 ^ j) (by omega), hL_uLs, hL_uLn (by omega), hL_uLs]
        exact ⟨rfl, rfl⟩
      · exact g1 s (by omega) hs2
    · rw [k1 s (by omega), hL_uLn (by omega), hL_uLn (by omega)]
theorem qw_lo {j s : Nat} (hs : s < 2 ^ j) : qw t u (j + 1) s = qw t u j s * u j := by
  show qw t u j s * _ = _
  rw [Nat.testBit_lt_two_pow hs]
  rfl
theorem qw_hi {j s : Nat} (hs : s < 2 ^ j) : qw t u (j + 1) (s + 2 ^ j) = qw t u j s * t j := by
  show qw t u j (s + 2 ^ j) * _ = _
  rw [Nat.add_comm, Nat.testBit_two_pow_add_eq, Nat.testBit_lt_two_pow hs]
  rw [qw_cong (fun i hi => Nat.testBit_two_pow_add_gt hi s)]
  rfl
theorem l_setsOut (h5 : vn V ≤ 5) : ∀ i j H v, j + i = vn V → cR H V → (∀ q, q < vn V → hL H 19 q = lN (t q) ∧ hL H 20 q = lN (u q)) → (∀ s, s < 2 ^ j → hL H 21 s = lN (qw t u j s)) → ∃ H', ev 38 11 [.ref 4, .int (nI (2 ^ j)), .int (nI j), v] [] H = some (some (.int (nI (2 ^ vn V))), H') ∧ kFr (fun k _ => k = 21) H H' ∧ ∀ s, s < 2 ^ vn V → hL H' 21 s = lN (qw t u (vn V) s) := by
  intro i
  induction i with
  | zero =>
    intro j H v hj hR hr hs
    have : j = vn V := by omega
    subst this
    refine ⟨H, ?_, kFr.rf, hs⟩
    rw [e38_11]
    simp only [e38_12, e38_13, e38_16, e38_19, e38_97, e38_98, c_seats hR, q_bs, q_tl, q_cn, Std.le_refl, if_true]
  | succ i ih =>
    intro j H v hj hR hr hs
    obtain ⟨H1, e1, f1, g1, k1⟩ := l_setsIn (t := t) (u := u) (show j < 5 by omega) (qw t u j) (2 ^ j) 0 H (by omega) (hr j (by omega)).1 (hr j (by omega)).2 (fun s _ h => hs s h)
    obtain ⟨H', e2, f2, g2⟩ := ih (j + 1) H1 (.int (nI (2 ^ j))) (by omega) (cR_fr (f1.mono (fun k _ z => by unfold sC; omega)) hR) (fun q hq => by rw [(f1 19 q (by omega)).2.1, (f1 20 q (by omega)).2.1]; exact hr q hq) (fun s hs1 => by
      by_cases hc : s < 2 ^ j
      · rw [(g1 s (by omega) hc).1, qw_lo hc]
      · have hp : 2 ^ (j + 1) = 2 ^ j + 2 ^ j := by rw [Nat.pow_succ]; omega
        obtain ⟨s', rfl⟩ : ∃ s', s = s' + 2 ^ j := ⟨s - 2 ^ j, by omega⟩
        rw [(g1 s' (by omega) (by omega)).2, qw_hi (by omega)])
    refine ⟨H', ?_, f1.tr f2, g2⟩
    rw [← e2, e38_11]
    simp only [e38_12, e38_13, e38_16, e38_19, e38_22, e38_23, e38_24, e38_27, e38_28, c_seats hR, q_bs, q_tl, q_cn, q_le (show vn V < 2147483648 by omega) (show j < 2147483648 by omega), show ¬ vn V ≤ j by omega, if_false, show (5 : Int32) = nI 5 from rfl, q_le (show 5 < 2147483648 by decide) (show j < 2147483648 by omega), show ¬ 5 ≤ j by omega]
    rw [show (0 : Int32) = nI 0 from rfl, e1]
    simp only [e38_87, e38_88, e38_89, e38_90, e38_91, e38_94, show (2 : Int32) = nI 2 from rfl, q_mul, nI_1, Nat.pow_succ]
theorem c_weighSets (h5 : vn V ≤ 5) {H : kH} (hR : cR H V) (hr : ∀ q, q < vn V → hL H 19 q = lN (t q) ∧ hL H 20 q = lN (u q)) : ∃ H', ev 38 0 [.ref 4, .null, .null, .null] [] H = some (some (.int (nI (2 ^ vn V))), H') ∧ kFr (fun k _ => k = 21) H H' ∧ ∀ s, s < 2 ^ vn V → hL H' 21 s = lN (qw t u (vn V) s) := by
  have f0 : kFr (fun k _ => k = 21) H (uL H 21 0 1) := kFr_uL (P := fun k _ => k = 21) rfl
  obtain ⟨H', e1, f1, g1⟩ := l_setsOut (t := t) (u := u) h5 (vn V) 0 (uL H 21 0 1) .null (by omega) (cR_fr (f0.mono (fun k _ z => by unfold sC; omega)) hR) (fun q hq => by rw [(f0 19 q (by omega)).2.1, (f0 20 q (by omega)).2.1]; exact hr q hq) (fun s hs => by
    have : s = 0 := by omega
    subst this
    rw [hL_uLs]
    rfl)
  refine ⟨H', ?_, f0.tr f1, g1⟩
  rw [← e1]
  simp only [e38_0, e38_1, e38_4, e38_5, e38_6, e38_7, e38_8, e38_9, e38_10, show ((0 : Int32) < 0) = False from eq_false (by decide), show (0 : Int32).toNatClampNeg = 0 from rfl, false_or, show ¬ 32 ≤ 0 by decide, if_false]
  rfl
theorem l_crown {k : Nat} (hs : shp k = (2, 6)) (hk : k = 22 ∨ k = 23) (h5 : vn V ≤ 5) (h0 : 0 < vn V) {m : Nat} (hm : m ≤ 2 ^ vn V) : ∀ i a H v, a + i = m → cR H V → (∀ s, s < 2 ^ vn V → hL H 21 s = lN (qw t u (vn V) s)) → (∀ p, p < 6 → hL H k p = lN (qr t u (vk V) (vn V) p a)) → ∃ H', ev 37 12 [.ref 4, .ref k, .int (nI m), .int (nI a), v] [] H = some (none, H') ∧ kFr (fun q _ => q = k) H H' ∧ ∀ p, p < 6 → hL H' k p = lN (qr t u (vk V) (vn V) p m) := by
  have h32 : 2 ^ vn V ≤ 32 := by
    have : 2 ^ vn V ≤ 2 ^ 5 := Nat.pow_le_pow_right (by decide) h5
    omega
  intro i
  induction i with
  | zero =>
    intro a H v ha hR hb hr
    have : a = m := by omega
    subst this
    refine ⟨H, ?_, kFr.rf, hr⟩
    rw [e37_12]
    simp only [e37_0, e37_1, e37_4, e37_5, e37_6, e37_7, e37_10, e37_11, e37_13, e37_14, e37_17, e37_18, e37_19, e37_22, e37_23, e37_26, e37_27, e37_30, e37_31, e37_34, e37_35, e37_36, e37_38, e37_40, e37_43, e37_45, e37_46, e37_47, e37_50, e37_51, e37_53, e37_54, e37_55, e37_56, e37_59, e37_60, e37_61, e37_62, e37_63, e37_66, e37_69, Std.le_refl, if_true]
  | succ i ih =>
    intro a H v ha hR hb hr
    have hp := qPl_le (vk V) (n := vn V) a (by omega)
    have f0 : kFr (fun q _ => q = k) H (uL H k (qPl (vk V) (vn V) a) (lN (qr t u (vk V) (vn V) (qPl (vk V) (vn V) a) a + qw t u (vn V) a))) := kFr_uL (P := fun q _ => q = k) rfl
    obtain ⟨H', e1, f1, g1⟩ := ih (a + 1) _ (.int (nI (qPl (vk V) (vn V) a))) (by omega) (cR_fr (f0.mono (fun k _ z => by unfold sC; omega)) hR) (fun s hs => ((f0 21 s (by omega)).2.1).trans (hb s hs)) (fun p hp6 => by
      by_cases e : p = qPl (vk V) (vn V) a
      · subst e
        rw [hL_uLs]
        show _ = lN (nsum _ (a + 1))
        unfold nsum
        rw [if_pos rfl]
        rfl
      · rw [hL_uLn (by omega), hr p hp6]
        show _ = lN (nsum _ (a + 1))
        unfold nsum
        rw [if_neg (by omega), Nat.add_zero]
        rfl)
    refine ⟨H', ?_, f0.tr f1, g1⟩
    rw [← e1, e37_12]
    simp only [e37_0, e37_1, e37_4, e37_5, e37_6, e37_7, e37_10, e37_11, e37_13, e37_14, e37_17, e37_18, e37_19, e37_22, e37_23, e37_26, e37_27, e37_30, e37_31, e37_34, e37_35, e37_36, e37_38, e37_40, e37_43, e37_45, (e37_46 (hs := hs)), e37_47, e37_50, e37_51, e37_53, (e37_54 (hs := hs)), e37_55, e37_56, e37_59, e37_60, e37_61, (e37_62 (hs := hs)), e37_63, e37_66, e37_69, q_le (show m < 2147483648 by omega) (show a < 2147483648 by omega), show ¬ m ≤ a by omega, if_false, show (32 : Int32) = nI 32 from rfl, q_le (show 32 < 2147483648 by decide) (show a < 2147483648 by omega), show ¬ 32 ≤ a by omega, c_kingOf hR h0 (show a < 32 by omega), q_bs, q_tl, q_cn, qK_pl (vk V) (n := vn V) a (by omega), q_lt0 (show qPl (vk V) (vn V) a < 2147483648 by omega), q_of, q_le (show 6 < 2147483648 by decide) (show qPl (vk V) (vn V) a < 2147483648 by omega), show ¬ 6 ≤ qPl (vk V) (vn V) a by omega, q_cl (show qPl (vk V) (vn V) a < 2147483648 by omega), false_or, hr _ (show qPl (vk V) (vn V) a < 6 by omega), q_lt0 (show a < 2147483648 by omega), q_cl (show a < 2147483648 by omega), hb a (by omega), lN_add, nI_1]
theorem c_crown {k : Nat} (hs : shp k = (2, 6)) (hk : k = 22 ∨ k = 23) (h5 : vn V ≤ 5) (h0 : 0 < vn V) {H : kH} (hR : cR H V) (hr : ∀ q, q < vn V → hL H 19 q = lN (t q) ∧ hL H 20 q = lN (u q)) : ∃ H', ev 37 0 [.ref 4, .ref k, .null, .null, .null] [] H = some (none, H') ∧ kFr (fun q _ => q = k ∨ q = 21) H H' ∧ ∀ p, p < 6 → hL H' k p = lN (qr t u (vk V) (vn V) p (2 ^ vn V)) := by
  obtain ⟨H1, e1, f1, g1⟩ := c_weighSets h5 hR hr
  have hR1 := cR_fr (f1.mono (fun k _ z => by unfold sC; omega)) hR
  obtain ⟨H2, e2, f2, g2⟩ := c_fillL hs (by decide) 0 H1
  have hR2 := cR_fr (f2.mono (fun k _ z => by unfold sC; omega)) hR1
  obtain ⟨H3, e3, f3, g3⟩ := l_crown (t := t) (u := u) hs hk h5 h0 (Nat.le_refl _) (2 ^ vn V) 0 H2 .null (by omega) hR2 (fun s hs => ((f2 21 s (by omega)).2.1).trans (g1 s hs)) (fun p hp => by rw [g2 p hp]; rfl)
  refine ⟨H3, ?_, ((f1.mono (fun k _ z => by omega)).tr (f2.mono (fun k _ z => by omega))).tr (f3.mono (fun k _ z => by omega)), g3⟩
  rw [← e3]
  simp only [e37_0, e37_1, e37_4, e37_5, e37_6, e37_7, e37_10, e37_11, e1, e2, q_bs, q_tl, q_tn, q_cn, q_nn]
  rfl
end KSE
