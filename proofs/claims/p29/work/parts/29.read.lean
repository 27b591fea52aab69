/-! a page is read as a council -/
def qKd (c : Nat) : Nat := if c = 112 then 0 else if c = 115 then 1 else if c = 102 then 2 else if c = 100 then 3 else 4
theorem qKd_lt (c : Nat) : qKd c < 5 := by unfold qKd; split <;> (try split) <;> (try split) <;> (try split) <;> omega
/-- the council of a page -/
def tPage (S : kS) : kV := (qCS (sn S) (sg S), fun j => qKd (sg S (4 * j)), fun j => sg S (4 * j + 1) - 48, fun j => sg S (4 * j + 2) - 48, fun _ => 0, -1, 0, 0, 0, 0, vB (sV S))
def tCouncil (S : kS) : kS := if qCS (sn S) (sg S) = 0 then S else (tPage S, 0, sg S, sr S + 1, 0, sK S)
def fCouncil (S : kS) : Int32 := if qCS (sn S) (sg S) = 0 then -103 else nI (qCS (sn S) (sg S))
theorem qW_all {g : Nat → Nat} : ∀ i j, qW g i j = j + i → ∀ k, j ≤ k → k < j + i → qB k (g k) = true
  | 0, j, _, k, h1, h2 => absurd h2 (by omega)
  | i + 1, j, h, k, h1, h2 => by
    unfold qW at h
    split at h
    · rename_i hb
      by_cases e : k = j
      · subst e
        exact hb
      · exact qW_all i (j + 1) (by omega) k (by omega) (by omega)
    · omega
theorem qCS_in {n : Nat} {g : Nat → Nat} (h20 : n ≤ 20) (h : qCS n g ≠ 0) : n = 4 * qCS n g - 1 ∧ 3 ≤ qCS n g ∧ qCS n g ≤ 5 ∧ ∀ k, k < n → qB k (g k) = true := by
  unfold qCS at h ⊢
  split at h
  · rename_i hc
    obtain ⟨h1, h2, h3⟩ := hc
    rw [if_pos ⟨h1, h2, h3⟩]
    exact ⟨by omega, by omega, by omega, fun k hk => qW_all n 0 (by omega) k (by omega) (by omega)⟩
  · exact absurd rfl h
theorem qB_0 {k c : Nat} (h : qB k c = true) (hk : k % 4 = 0) : kIx c = nI (qKd c) := by
  unfold qB at h
  rw [if_pos hk] at h
  simp only [Bool.and_eq_true, decide_eq_true_eq] at h
  rcases h.2 with rfl | rfl | rfl | rfl | rfl <;> rfl
theorem qB_1 {k c : Nat} (h : qB k c = true) (hk : k % 4 = 1) : 48 ≤ c ∧ c ≤ 57 := by
  unfold qB at h
  rw [if_neg (by omega), if_pos hk] at h
  simp only [Bool.and_eq_true, decide_eq_true_eq] at h
  exact h.2
theorem qB_2 {k c : Nat} (h : qB k c = true) (hk : k % 4 = 2) : 48 ≤ c ∧ c < 54 := by
  unfold qB at h
  rw [if_neg (by omega), if_neg (by omega), if_pos hk] at h
  simp only [Bool.and_eq_true, decide_eq_true_eq] at h
  exact h.2
section KRD
variable {H : kH} {n : Nat} {g : Nat → Nat}
theorem c_kindAt (hP : pR H n g) {j : Nat} (hj : 4 * j < n) : ev 31 0 [.ref 3, .int (nI j)] [] H = some (some (.int (kIx (g (4 * j)))), H) := by
  have := hP.2.1
  simp only [e31_0, e31_2, e31_3, e31_4, e31_5, e31_6, e31_9, e31_10, e31_13, show (4 : Int32) = nI 4 from rfl, q_mul, show j * 4 = 4 * j by omega, c_codeAt hP hj, q_bs, q_tl, q_cn, (q_chr _ (hP.2.2 _ hj).2).1, c_indexOf (hP.2.2 _ hj).2]
theorem c_noseAt (hP : pR H n g) {j : Nat} (hj : 4 * j + 1 < n) (h48 : 48 ≤ g (4 * j + 1)) : ev 32 0 [.ref 3, .int (nI j)] [] H = some (some (.int (nI (g (4 * j + 1) - 48))), H) := by
  have := hP.2.1
  simp only [e32_0, e32_1, e32_2, e32_3, e32_4, e32_5, e32_6, e32_9, e32_11, e32_12, show (4 : Int32) = nI 4 from rfl, q_mul, show j * 4 = 4 * j by omega, nI_1, c_codeAt hP hj, q_bs, q_tl, q_cn, show (48 : Int32) = nI 48 from rfl, q_sub h48]
theorem c_sayingAt (hP : pR H n g) {j : Nat} (hj : 4 * j + 2 < n) (h48 : 48 ≤ g (4 * j + 2)) : ev 33 0 [.ref 3, .int (nI j)] [] H = some (some (.int (nI (g (4 * j + 2) - 48))), H) := by
  have := hP.2.1
  simp only [e33_0, e33_1, e33_2, e33_3, e33_4, e33_5, e33_6, e33_9, e33_11, e33_12, show (4 : Int32) = nI 4 from rfl, q_mul, show j * 4 = 4 * j by omega, show (2 : Int32) = nI 2 from rfl, q_add, c_codeAt hP hj, q_bs, q_tl, q_cn, show (48 : Int32) = nI 48 from rfl, q_sub h48]
def rC (k j : Nat) : Prop := k = 6 ∨ k = 7 ∨ k = 8
theorem l_read {q : Nat} (hq : qCS n g = q) (hq0 : q ≠ 0) : ∀ i j H, pR H n g → hI H 1 6 = nI q → j + i = q → ∃ H', ev 0 11 [.ref 1, .ref 3, .int (nI q), .int (nI j)] [] H = ev 0 67 [.ref 1, .ref 3, .int (nI q), .int (nI q)] [] H' ∧ kFr rC H H' ∧
    (∀ c, j ≤ c → c < q → hI H' 6 c = nI (qKd (g (4 * c))) ∧ hI H' 7 c = nI (g (4 * c + 1) - 48) ∧ hI H' 8 c = nI (g (4 * c + 2) - 48)) ∧ ∀ c, c < j → hI H' 6 c = hI H 6 c ∧ hI H' 7 c = hI H 7 c ∧ hI H' 8 c = hI H 8 c := by
  intro i
  induction i with
  | zero =>
    intro j H hP h6 hj
    have : j = q := by omega
    subst this
    refine ⟨H, ?_, kFr.rf, fun c h1 h2 => absurd h2 (by omega), fun _ _ => ⟨rfl, rfl, rfl⟩⟩
    rw [e0_11]
    simp only [e0_12, e0_13, e0_16, h6, Std.le_refl, if_true]
  | succ i ih =>
    intro j H hP h6 hj
    have h20 := hP.2.1
    obtain ⟨hn, h3, h5, hB⟩ := qCS_in h20 (by rw [hq]; exact hq0)
    rw [hq] at hn h3 h5
    have b0 := qB_0 (hB (4 * j) (by omega)) (by omega)
    have b1 := qB_1 (hB (4 * j + 1) (by omega)) (by omega)
    have b2 := qB_2 (hB (4 * j + 2) (by omega)) (by omega)
    have hP1 : pR (uI H 6 j (nI (qKd (g (4 * j))))) n g := ⟨by rw [hI_uIn (by omega)]; exact hP.1, hP.2.1, fun k hk => by rw [hI_uIn (by omega)]; exact hP.2.2 k hk⟩
    have hP2 : pR (uI (uI H 6 j (nI (qKd (g (4 * j))))) 7 j (nI (g (4 * j + 1) - 48))) n g := ⟨by rw [hI_uIn (by omega)]; exact hP1.1, hP.2.1, fun k hk => by rw [hI_uIn (by omega)]; exact hP1.2.2 k hk⟩
    have hP3 : pR (uI (uI (uI H 6 j (nI (qKd (g (4 * j))))) 7 j (nI (g (4 * j + 1) - 48))) 8 j (nI (g (4 * j + 2) - 48))) n g := ⟨by rw [hI_uIn (by omega)]; exact hP2.1, hP.2.1, fun k hk => by rw [hI_uIn (by omega)]; exact hP2.2.2 k hk⟩
    obtain ⟨H', e1, f1, g1, k1⟩ := ih (j + 1) _ hP3 (by rw [hI_uIn (by omega), hI_uIn (by omega), hI_uIn (by omega)]; exact h6) (by omega)
    refine ⟨H', ?_, (((kFr_uI (by unfold rC; omega)).tr (kFr_uI (by unfold rC; omega))).tr (kFr_uI (by unfold rC; omega))).tr f1, fun c h1 h2 => ?_, fun c hc => ?_⟩
    · rw [← e1, e0_11]
      simp only [e0_12, e0_13, e0_16, e0_19, e0_20, e0_23, e0_24, e0_25, e0_26, e0_29, e0_32, e0_33, e0_34, e0_37, e0_38, e0_39, e0_40, e0_43, e0_46, e0_47, e0_48, e0_51, e0_52, e0_53, e0_54, e0_57, e0_60, e0_61, e0_64, h6, q_le (show q < 2147483648 by omega) (show j < 2147483648 by omega), show ¬ q ≤ j by omega, if_false, c_kindAt hP (show 4 * j < n by omega), b0, c_exchange (show shp 6 = (1, 5) from rfl) (by decide) (show j < 5 by omega), q_bs, q_tl, q_cn, c_noseAt hP1 (show 4 * j + 1 < n by omega) b1.1, c_exchange (show shp 7 = (1, 5) from rfl) (by decide) (show j < 5 by omega), c_sayingAt hP2 (show 4 * j + 2 < n by omega) b2.1, c_exchange (show shp 8 = (1, 5) from rfl) (by decide) (show j < 5 by omega), nI_1]
    · by_cases e : c = j
      · subst e
        obtain ⟨z1, z2, z3⟩ := k1 c (by omega)
        refine ⟨?_, ?_, ?_⟩
        · rw [z1, hI_uIn (by omega), hI_uIn (by omega), hI_uIs]
        · rw [z2, hI_uIn (by omega), hI_uIs]
        · rw [z3, hI_uIs]
      · exact g1 c (by omega) h2
    · obtain ⟨z1, z2, z3⟩ := k1 c (by omega)
      refine ⟨?_, ?_, ?_⟩
      · rw [z1, hI_uIn (by omega), hI_uIn (by omega), hI_uIn (by omega)]
      · rw [z2, hI_uIn (by omega), hI_uIn (by omega), hI_uIn (by omega)]
      · rw [z3, hI_uIn (by omega), hI_uIn (by omega), hI_uIn (by omega)]
theorem l_kings {q : Nat} {kd : Nat → Nat} (h5 : q ≤ 5) (x2 : Int32) : ∀ i j H, hI H 1 6 = nI q → (∀ c, c < q → hI H 6 c = nI (kd c) ∧ kd c < 5) → j + i = 32 → ∃ H', ev 0 69 [.ref 1, .ref 3, .int x2, .int (nI j)] [] H = ev 0 95 [.ref 1, .ref 3, .int x2, .int (nI 32)] [] H' ∧ kFr (fun k _ => k = 10) H H' ∧
    (∀ s, j ≤ s → s < 32 → hI H' 10 s = qK kd q s) ∧ ∀ s, s < j → hI H' 10 s = hI H 10 s := by
  intro i
  induction i with
  | zero =>
    intro j H h6 hk hj
    have : j = 32 := by omega
    subst this
    refine ⟨H, ?_, kFr.rf, fun c h1 h2 => absurd h2 (by omega), fun _ _ => rfl⟩
    rw [e0_69]
    simp only [e0_70, e0_71, e0_74, e0_75, show (32 : Int32) = nI 32 from rfl, Std.le_refl, if_true]
  | succ i ih =>
    intro j H h6 hk hj
    obtain ⟨H', e1, f1, g1, k1⟩ := ih (j + 1) (uI H 10 j (qK kd q j)) (by rw [hI_uIn (by omega)]; exact h6) (fun c hc => by rw [hI_uIn (by omega)]; exact hk c hc) (by omega)
    refine ⟨H', ?_, (kFr_uI (P := fun k _ => k = 10) rfl).tr f1, fun s h1 h2 => ?_, fun s hs => ?_⟩
    · rw [← e1, e0_69]
      simp only [e0_70, e0_71, e0_74, e0_75, e0_78, e0_79, e0_82, e0_83, e0_84, e0_85, e0_88, e0_89, e0_92, show (32 : Int32) = nI 32 from rfl, q_le (show 32 < 2147483648 by decide) (show j < 2147483648 by omega), show ¬ 32 ≤ j by omega, if_false, c_findKing h6 h5 hk (show j < 64 by omega), q_bs, q_tl, q_cn, q_lt0 (show j < 2147483648 by omega), q_cl (show j < 2147483648 by omega), or_false, nI_1]
    · by_cases e : s = j
      · subst e
        rw [k1 s (by omega), hI_uIs]
      · exact g1 s (by omega) h2
    · rw [k1 s (by omega), hI_uIn (by omega)]
end KRD
section KRE
variable {H : kH} {S : kS}
theorem x_council (hq : CR H S) : ∃ H1, ev 48 0 [.ref 0, .null] [] H = some (some (.int (fCouncil S)), H1) ∧ CR H1 (tCouncil S) ∧ kFr cC H H1 := by
  have hP := hq.2.1
  have h20 := hP.2.1
  unfold fCouncil tCouncil
  by_cases h0 : qCS (sn S) (sg S) = 0
  · rw [if_pos h0, if_pos h0]
    refine ⟨H, ?_, hq, kFr.rf⟩
    simp only [e48_0, e48_1, e48_4, e48_7, e48_8, e48_9, e48_12, e48_14, e48_15, e48_16, e48_19, e48_20, e48_23, e48_24, e48_27, e48_28, e48_31, e48_34, e48_35, e48_36, e48_37, e48_40, e48_41, e48_42, e48_45, e48_46, e48_47, e48_50, e48_51, c_cSeats hP, h0, q_bs, q_tl, q_cn, n00, not_true_eq_false, if_false]
  · rw [if_neg h0, if_neg h0]
    obtain ⟨hn, h3, h5, hB⟩ := qCS_in h20 h0
    have hP1 : pR (uI H 1 6 (nI (qCS (sn S) (sg S)))) (sn S) (sg S) := ⟨by rw [hI_uIn (by omega)]; exact hP.1, hP.2.1, fun k hk => by rw [hI_uIn (by omega)]; exact hP.2.2 k hk⟩
    obtain ⟨H1, e1, f1, g1, -⟩ := l_read rfl h0 (qCS (sn S) (sg S)) 0 (uI H 1 6 (nI (qCS (sn S) (sg S)))) hP1 (hI_uIs _ _ _ _) (by omega)
    have i6 : hI H1 1 6 = nI (qCS (sn S) (sg S)) := ((f1 1 6 (by unfold rC; omega)).1).trans (hI_uIs _ _ _ _)
    obtain ⟨H2, e2, f2, g2, -⟩ := l_kings (kd := fun j => qKd (sg S (4 * j))) h5 (nI (qCS (sn S) (sg S))) 32 0 H1 i6 (fun c hc => ⟨(g1 c (by omega) hc).1, qKd_lt _⟩) (by omega)
    obtain ⟨H3, e3, f3, g3⟩ := c_fillI (show shp 9 = (1, 5) from rfl) (by decide) 0 H2
    have eR : ev 0 0 [.ref 1, .ref 3, .int (nI (qCS (sn S) (sg S))), .null] [] H = some (none, uI (uI (uI (uI (uI H3 1 7 (-1)) 1 8 0) 1 9 0) 1 10 0) 1 11 0) := by
      simp only [e0_0, e0_1, e0_2, e0_3, e0_6, e0_9, e0_10, show (5 : Int32) = nI 5 from rfl, q_lt (show 5 < 2147483648 by decide) (show qCS (sn S) (sg S) < 2147483648 by omega), show ¬ 5 < qCS (sn S) (sg S) by omega, if_false]
      rw [show (0 : Int32) = nI 0 from rfl, e1]
      simp only [e0_67, e0_68]
      rw [show (0 : Int32) = nI 0 from rfl, e2]
      simp only [e0_95, e0_96, e0_99, e0_100, e0_103, e0_104, e0_105, e0_108, e0_109, e0_110, e0_113, e0_114, e0_115, e0_118, e0_119, e0_120, e0_123, e0_124, e0_125, e0_128, show nI 0 = (0 : Int32) from rfl, e3, q_bs, q_tn, q_nn, true_or, if_true]
    have hE : ev 28 0 [.ref 3, .null] [] (uI (uI (uI (uI (uI H3 1 7 (-1)) 1 8 0) 1 9 0) 1 10 0) 1 11 0) = some (some (.int (nI (sn S))), uI (uI (uI (uI (uI (uI H3 1 7 (-1)) 1 8 0) 1 9 0) 1 10 0) 1 11 0) 3 1 0) := by
      have hs1 : hI (uI (uI (uI (uI (uI H3 1 7 (-1)) 1 8 0) 1 9 0) 1 10 0) 1 11 0) 3 1 = nI (sn S) := by
        rw [hI_uIn (by omega), hI_uIn (by omega), hI_uIn (by omega), hI_uIn (by omega), hI_uIn (by omega), (f3 _ _ (by omega)).1, (f2 _ _ (by omega)).1, (f1 _ _ (by unfold rC; omega)).1]
        exact hP1.1
      simp only [e28_0, e28_1, e28_4, e28_5, e28_6, e28_7, e28_10, e28_11, hs1]
    have F : kFr (fun k j => nC k j ∨ (k = 3 ∧ j = 1) ∨ (k = 0 ∧ 5 ≤ j)) H (uI (uI (uI (uI (uI (uI (uI (uI H3 1 7 (-1)) 1 8 0) 1 9 0) 1 10 0) 1 11 0) 3 1 0) 0 5 0) 0 6 (nI (sr S + 1))) := by
      unfold nC
      refine ((((((((((kFr_uI (by omega)).tr (f1.mono (fun k j z => by unfold rC at z; omega))).tr (f2.mono (fun k j z => by omega))).tr (f3.mono (fun k j z => by omega))).tr (kFr_uI (by omega))).tr (kFr_uI (by omega))).tr (kFr_uI (by omega))).tr (kFr_uI (by omega))).tr (kFr_uI (by omega))).tr (kFr_uI (by omega))).tr ((kFr_uI (by omega)).tr (kFr_uI (by omega)))
    have e : ∀ k j, ¬ (nC k j ∨ (k = 3 ∧ j = 1) ∨ (k = 0 ∧ 5 ≤ j)) → hI _ k j = hI H k j := fun k j z => (F k j z).1
    have er : ∀ k j, ¬ (nC k j ∨ (k = 3 ∧ j = 1) ∨ (k = 0 ∧ 5 ≤ j)) → hR _ k j = hR H k j := fun k j z => (F k j z).2.2
    unfold nC at e er
    have i06 : hI H3 0 6 = nI (sr S) := by
      rw [(f3 _ _ (by omega)).1, (f2 _ _ (by omega)).1, (f1 _ _ (by unfold rC; omega)).1, hI_uIn (by omega)]
      exact hq.2.2.1
    have up : ∀ {k j : Nat}, k ≠ 1 → k ≠ 3 → k ≠ 0 → hI (uI (uI (uI (uI (uI (uI (uI (uI H3 1 7 (-1)) 1 8 0) 1 9 0) 1 10 0) 1 11 0) 3 1 0) 0 5 0) 0 6 (nI (sr S + 1))) k j = hI H3 k j := by
      intro k j h1 h2 h3
      rw [hI_uIn (by omega), hI_uIn (by omega), hI_uIn (by omega), hI_uIn (by omega), hI_uIn (by omega), hI_uIn (by omega), hI_uIn (by omega), hI_uIn (by omega)]
    refine ⟨uI (uI (uI (uI (uI (uI (uI (uI H3 1 7 (-1)) 1 8 0) 1 9 0) 1 10 0) 1 11 0) 3 1 0) 0 5 0) 0 6 (nI (sr S + 1)), ?_, ⟨⟨?_, fun j hj => ?_, fun j hj => ?_, fun j hj => ?_, fun j hj => ?_, ?_, ?_, ?_, ?_, ?_, fun j hj => absurd hj (Nat.not_lt_zero j), fun _ s hs => ?_⟩, ⟨?_, Nat.zero_le _, fun j hj => absurd hj (Nat.not_lt_zero j)⟩, hI_uIs _ _ _ _, ?_, ?_, fun z => absurd (show (0 : Nat) = 1 from z) (by decide)⟩, F.mono (fun k j z => by unfold nC at z; unfold cC; omega)⟩
    · simp only [e48_0, e48_1, e48_4, e48_7, e48_8, e48_9, e48_12, e48_14, e48_15, e48_16, e48_19, e48_20, e48_23, e48_24, e48_27, e48_28, e48_31, e48_34, e48_35, e48_36, e48_37, e48_40, e48_41, e48_42, e48_45, e48_46, e48_47, e48_50, e48_51, c_cSeats hP, q_bs, q_tl, q_tn, q_cn, q_nn, eR, hE, true_or, if_true, show (nI (qCS (sn S) (sg S)) = 0) = False from eq_false (by rw [show (0 : Int32) = nI 0 from rfl, q_eq (by omega) (by decide)]; exact h0), not_false_eq_true, hI_uIn (show ¬ ((0 : Nat) = 0 ∧ (6 : Nat) = 5) by decide), hI_uIn (show ¬ ((0 : Nat) = 3 ∧ (6 : Nat) = 1) by decide), hI_uIn (show ¬ ((0 : Nat) = 1 ∧ (6 : Nat) = 7) by decide), hI_uIn (show ¬ ((0 : Nat) = 1 ∧ (6 : Nat) = 8) by decide), hI_uIn (show ¬ ((0 : Nat) = 1 ∧ (6 : Nat) = 9) by decide), hI_uIn (show ¬ ((0 : Nat) = 1 ∧ (6 : Nat) = 10) by decide), hI_uIn (show ¬ ((0 : Nat) = 1 ∧ (6 : Nat) = 11) by decide), i06, nI_1]
    · rw [hI_uIn (by omega), hI_uIn (by omega), hI_uIn (by omega), hI_uIn (by omega), hI_uIn (by omega), hI_uIn (by omega), hI_uIn (by omega), hI_uIn (by omega), (f3 _ _ (by omega)).1, (f2 _ _ (by omega)).1]
      exact i6
    · rw [up (by decide) (by decide) (by decide), (f3 _ _ (by omega)).1, (f2 _ _ (by omega)).1]
      exact (g1 j (by omega) hj).1
    · rw [up (by decide) (by decide) (by decide), (f3 _ _ (by omega)).1, (f2 _ _ (by omega)).1]
      exact (g1 j (by omega) hj).2.1
    · rw [up (by decide) (by decide) (by decide), (f3 _ _ (by omega)).1, (f2 _ _ (by omega)).1]
      exact (g1 j (by omega) hj).2.2
    · rw [up (by decide) (by decide) (by decide)]
      exact g3 j (Nat.lt_of_lt_of_le hj h5)
    · rw [hI_uIn (by omega), hI_uIn (by omega), hI_uIn (by omega), hI_uIn (by omega), hI_uIn (by omega), hI_uIn (by omega), hI_uIn (by omega), hI_uIs]
      rfl
    · rw [hI_uIn (by omega), hI_uIn (by omega), hI_uIn (by omega), hI_uIn (by omega), hI_uIn (by omega), hI_uIn (by omega), hI_uIs]
      rfl
    · rw [hI_uIn (by omega), hI_uIn (by omega), hI_uIn (by omega), hI_uIn (by omega), hI_uIn (by omega), hI_uIs]
      rfl
    · rw [hI_uIn (by omega), hI_uIn (by omega), hI_uIn (by omega), hI_uIn (by omega), hI_uIs]
      rfl
    · rw [hI_uIn (by omega), hI_uIn (by omega), hI_uIn (by omega), hI_uIs]
      rfl
    · rw [up (by decide) (by decide) (by decide), (f3 _ _ (by omega)).1]
      exact g2 s (by omega) hs
    · rw [hI_uIn (by omega), hI_uIn (by omega), hI_uIs]
      rfl
    · rw [hI_uIn (by omega), hI_uIs]
      rfl
    · unfold wR
      rw [er _ _ (by omega), er _ _ (by omega)]
      exact hq.2.2.2.2.1
end KRE
