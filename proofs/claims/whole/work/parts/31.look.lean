/-! how likely, what holds -/
def rT (V : kV) (num dr : Int32) (h p : Nat) : Nat := qr (fun q => qtn V q num h dr) (fun q => 10 - qtn V q num h dr) (vk V) (vn V) p (2 ^ vn V)
def rW (V : kV) (num x : Int32) (h p : Nat) : Nat := qr (qy V num h) (qz x) (vk V) (vn V) p (2 ^ vn V)
/-- one hour back -/
def qbk (rF rB : Nat → Nat) (V : kV) (W : Nat → Nat) (h : Nat) : Nat := (if h.testBit 3 = true then rB else rF) 0 * W h + nsum (fun j => (if h.testBit 3 = true then rB else rF) (j + 1) * W (qS h (vl V j))) (vn V)
def pW (H : kH) (w s : Nat) (W : Nat → Nat) : Prop := ((w = 24 ∧ s = 25) ∨ (w = 25 ∧ s = 24)) ∧ hR H 4 6 = w ∧ hR H 4 7 = s ∧ ∀ h, h < 64 → hL H w h = lN (W h)
theorem pW_fr {P : Nat → Nat → Prop} {H H' : kH} {w s : Nat} {W : Nat → Nat} (hF : kFr P H H') (hp : ∀ k j, k = 4 ∨ k = 24 ∨ k = 25 → ¬ P k j) (h : pW H w s W) : pW H' w s W := by
  obtain ⟨h1, h2, h3, h4⟩ := h
  refine ⟨h1, ?_, ?_, fun a ha => ?_⟩
  · rw [(hF 4 6 (hp _ _ (by omega))).2.2]; exact h2
  · rw [(hF 4 7 (hp _ _ (by omega))).2.2]; exact h3
  · rw [(hF w a (hp _ _ (by omega))).2.1]; exact h4 a ha
theorem pW_w {H : kH} {w s : Nat} {W : Nat → Nat} (h : pW H w s W) : shp w = (2, 64) ∧ shp s = (2, 64) ∧ w ≠ s ∧ w < 38 ∧ s < 38 := by
  rcases h.1 with ⟨rfl, rfl⟩ | ⟨rfl, rfl⟩
  · exact ⟨rfl, rfl, by decide, by decide, by decide⟩
  · exact ⟨rfl, rfl, by decide, by decide, by decide⟩
theorem e48_7L (x1 : Int32) (ks1 : Nat) (xs0 : Int32) (H : kH) {n : Nat} (hs : shp ks1 = (2, n)) : ev 48 7 [.ref 4, .int x1] [.ref ks1, .int xs0] H = ev 48 8 [.ref 4, .int x1] [.int (Int32.ofNat n), .int xs0] H := g_len (show decode (mbyt 48) 7 = .ok (.arraylength, 1) by decide +kernel) (alen_2 hs)
theorem e41_7L (x1 : Int32) (x2 : Int32) (x3 : Int32) (ks1 : Nat) (xs0 : Int32) (H : kH) {n : Nat} (hs : shp ks1 = (2, n)) : ev 41 7 [.ref 4, .int x1, .int x2, .int x3, .null] [.ref ks1, .int xs0] H = ev 41 8 [.ref 4, .int x1, .int x2, .int x3, .null] [.int (Int32.ofNat n), .int xs0] H := g_len (show decode (mbyt 41) 7 = .ok (.arraylength, 1) by decide +kernel) (alen_2 hs)
theorem e43_7L (x1 : Int32) (x2 : Int32) (ks1 : Nat) (xs0 : Int32) (H : kH) {n : Nat} (hs : shp ks1 = (2, n)) : ev 43 7 [.ref 4, .int x1, .int x2] [.ref ks1, .int xs0] H = ev 43 8 [.ref 4, .int x1, .int x2] [.int (Int32.ofNat n), .int xs0] H := g_len (show decode (mbyt 43) 7 = .ok (.arraylength, 1) by decide +kernel) (alen_2 hs)
section KLK
variable {V : kV}
theorem c_kingWeight (hV : vOK V) (h0 : 0 < vn V) {H : kH} (hq : cR H V) {c dr : Int32} {p : Nat} (hp : p < 6) (hc : c + 1 = nI p) : ∃ H', ev 39 0 [.ref 4, .int c, .int dr] [] H = some (some (.long (lN (rT V (vt V) dr (vh V) p))), H') ∧ kFr (fun k _ => 19 ≤ k ∧ k ≤ 22) H H' := by
  obtain ⟨H1, e1, f1, g1⟩ := c_weighT hV hV.2.2.2.2.2.1 (vt V) dr hq
  have hR1 := cR_fr (f1.mono (fun k _ z => by unfold sC; omega)) hq
  obtain ⟨H2, e2, f2, g2⟩ := c_crown (t := fun q => qtn V q (vt V) (vh V) dr) (u := fun q => 10 - qtn V q (vt V) (vh V) dr) (show shp 22 = (2, 6) from rfl) (Or.inl rfl) hV.2.1 h0 hR1 g1
  refine ⟨H2, ?_, (f1.mono (fun k _ z => by omega)).tr (f2.mono (fun k _ z => by omega))⟩
  simp only [e39_0, e39_1, e39_2, e39_5, e39_8, e39_9, e39_12, e39_15, e39_16, e39_19, e39_20, e39_21, e39_24, e39_27, e39_28, e39_31, e39_32, e39_33, e39_34, e39_37, c_hourNumber hq, c_held hq, e1, e2, q_bs, q_tl, q_tn, q_cn, q_nn, hc, c_atL (show shp 22 = (2, 6) from rfl) (by decide), pAtL_in hp (show 6 < 2147483648 by decide), g2 p hp]
  rfl
theorem c_worthFrom {H : kH} {w s : Nat} {W : Nat → Nat} (hw : pW H w s W) {h : Nat} (hh : h < 64) : ev 40 0 [.ref 4, .int (nI h)] [] H = some (some (.long (lN (W h))), H) := by
  simp only [e40_0, e40_1, e40_4, e40_5, e40_8, hw.2.1, c_atL (pW_w hw).1 (by decide), pAtL_in hh (show 64 < 2147483648 by decide), hw.2.2.2 h hh, q_bs, q_tl, q_cn]
theorem q_cmp0 {a : Nat} (h : a < 2 ^ 63) : (lg_cmp (lN a) 0 = 0) = (a = 0) := by
  unfold lg_cmp
  rw [show (0 : Int64) = lN 0 from rfl]
  simp only [gt_iff_lt, q_ltL (show 0 < 2 ^ 63 by decide) h, q_eqL h (show 0 < 2 ^ 63 by decide)]
  apply propext
  by_cases h0 : a = 0
  · subst h0; simp
  · simp [h0, show 0 < a by omega]
theorem l_worthAhead (hV : vOK V) {H : kH} (hq : cR H V) {w s : Nat} {W : Nat → Nat} (hw : pW H w s W) {h : Nat} (hh : h < 64) {k : Nat} (hk : shp k = (2, 6)) {r : Nat → Nat} (hr : ∀ p, p < 6 → hL H k p = lN (r p)) (hb : ∀ p, p < 6 → r p < 2 ^ 63) : ∀ i j v6, j + i = vn V → ev 49 38 [.ref 4, .int (nI h), .ref k, .long (lN (r 0 * W h + nsum (fun j => r (j + 1) * W (qS h (vl V j))) j)), .null, .int (nI j), v6, .null] [] H = some (some (.long (lN (r 0 * W h + nsum (fun j => r (j + 1) * W (qS h (vl V j))) (vn V)))), H) := by
  have h5 := hV.2.1
  intro i
  induction i with
  | zero =>
    intro j v6 hj
    have : j = vn V := by omega
    subst this
    rw [e49_38]
    simp only [e49_40, e49_41, e49_44, e49_47, e49_99, e49_100, c_seats hq, q_bs, q_tl, q_cn, Std.le_refl, if_true]
  | succ i ih =>
    intro j v6 hj
    refine Eq.trans ?_ (ih (j + 1) (.long (lN (r (j + 1)))) (by omega))
    have hl := (hV.2.2.1 j (by omega)).2.2
    have hS : qS h (vl V j) < 64 := qS_lt h hh _ hl
    rw [e49_38]
    by_cases hz : r (j + 1) = 0
    · simp only [e49_40, e49_41, e49_44, e49_47, e49_50, e49_51, e49_53, e49_54, e49_55, e49_58, e49_60, e49_62, e49_63, e49_64, e49_67, e49_68, e49_70, e49_71, e49_74, e49_75, e49_76, e49_79, e49_81, e49_84, e49_87, e49_90, e49_91, e49_92, e49_93, e49_96, c_seats hq, q_bs, q_tl, q_cn, q_le (show vn V < 2147483648 by omega) (show j < 2147483648 by omega), show ¬ vn V ≤ j by omega, if_false, nI_1, c_atL hk (by decide), pAtL_in (show j + 1 < 6 by omega) (show 6 < 2147483648 by decide), hr (j + 1) (by omega), hz, show lg_cmp (lN 0) 0 = 0 from by decide, if_true, nsum, Nat.zero_mul, Nat.add_zero]
    · simp only [e49_40, e49_41, e49_44, e49_47, e49_50, e49_51, e49_53, e49_54, e49_55, e49_58, e49_60, e49_62, e49_63, e49_64, e49_67, e49_68, e49_70, e49_71, e49_74, e49_75, e49_76, e49_79, e49_81, e49_84, e49_87, e49_90, e49_91, e49_92, e49_93, e49_96, c_seats hq, q_bs, q_tl, q_cn, q_le (show vn V < 2147483648 by omega) (show j < 2147483648 by omega), show ¬ vn V ≤ j by omega, if_false, nI_1, c_atL hk (by decide), pAtL_in (show j + 1 < 6 by omega) (show 6 < 2147483648 by decide), hr (j + 1) (by omega), q_cmp0 (hb (j + 1) (by omega)), hz, hw.2.1, c_sayingOf hq hV (show j < vn V by omega), c_said hh hl, c_atL (pW_w hw).1 (by decide), pAtL_in hS (show 64 < 2147483648 by decide), hw.2.2.2 _ hS, lN_mul, lN_add, nsum, Nat.add_assoc]
theorem c_worthAhead (hV : vOK V) {H : kH} (hq : cR H V) {w s : Nat} {W : Nat → Nat} (hw : pW H w s W) {h : Nat} (hh : h < 64) {rF rB : Nat → Nat} (hF : ∀ p, p < 6 → hL H 22 p = lN (rF p)) (hB : ∀ p, p < 6 → hL H 23 p = lN (rB p)) (bF : ∀ p, p < 6 → rF p < 2 ^ 63) (bB : ∀ p, p < 6 → rB p < 2 ^ 63) : ev 49 0 [.ref 4, .int (nI h), .null, .null, .null, .null, .null, .null] [] H = some (some (.long (lN (qbk rF rB V W h))), H) := by
  unfold qbk
  cases hb : h.testBit 3 with
  | true =>
    rw [if_pos rfl]
    have e := l_worthAhead hV hq hw hh (show shp 23 = (2, 6) from rfl) hB bB (vn V) 0 .null (by omega)
    rw [← e]
    simp only [e49_0, e49_1, e49_2, e49_5, e49_8, e49_9, e49_12, e49_15, e49_16, e49_19, e49_20, e49_21, e49_22, e49_25, e49_26, e49_29, e49_30, e49_33, e49_34, e49_35, e49_36, show (3 : Int32) = nI 3 from rfl, c_isIn hh (show 3 < 6 by decide), hb, q_bs, q_tl, q_cn, if_true, t10, if_false, show (0 : Int32) = nI 0 from rfl, c_atL (show shp 23 = (2, 6) from rfl) (by decide), pAtL_in (show 0 < 6 by decide) (show 6 < 2147483648 by decide), hB 0 (by decide), hw.2.1, c_atL (pW_w hw).1 (by decide), pAtL_in hh (show 64 < 2147483648 by decide), hw.2.2.2 h hh, lN_mul, nsum, Nat.add_zero, show ((1 : Int32) = nI 0) = False from eq_false (by decide)]
  | false =>
    rw [if_neg (by decide)]
    have e := l_worthAhead hV hq hw hh (show shp 22 = (2, 6) from rfl) hF bF (vn V) 0 .null (by omega)
    rw [← e]
    simp only [e49_0, e49_1, e49_2, e49_5, e49_8, e49_9, e49_12, e49_15, e49_16, e49_19, e49_20, e49_21, e49_22, e49_25, e49_26, e49_29, e49_30, e49_33, e49_34, e49_35, e49_36, show (3 : Int32) = nI 3 from rfl, c_isIn hh (show 3 < 6 by decide), hb, q_bs, q_tl, q_cn, if_true, Bool.false_eq_true, if_false, show (0 : Int32) = nI 0 from rfl, c_atL (show shp 22 = (2, 6) from rfl) (by decide), pAtL_in (show 0 < 6 by decide) (show 6 < 2147483648 by decide), hF 0 (by decide), hw.2.1, c_atL (pW_w hw).1 (by decide), pAtL_in hh (show 64 < 2147483648 by decide), hw.2.2.2 h hh, lN_mul, nsum, Nat.add_zero]
theorem l_stepBack (hV : vOK V) {w s : Nat} {W : Nat → Nat} {rF rB : Nat → Nat} (bF : ∀ p, p < 6 → rF p < 2 ^ 63) (bB : ∀ p, p < 6 → rB p < 2 ^ 63) : ∀ i j H, cR H V → pW H w s W → (∀ p, p < 6 → hL H 22 p = lN (rF p)) → (∀ p, p < 6 → hL H 23 p = lN (rB p)) → j + i = 64 → ∃ H', ev 48 2 [.ref 4, .int (nI j)] [] H = ev 48 28 [.ref 4, .int (nI 64)] [] H' ∧ kFr (fun k _ => k = s) H H' ∧ (∀ h, j ≤ h → h < 64 → hL H' s h = lN (qbk rF rB V W h)) ∧ ∀ h, h < j → hL H' s h = hL H s h := by
  intro i
  induction i with
  | zero =>
    intro j H hq hw hF hB hj
    have : j = 64 := by omega
    subst this
    refine ⟨H, ?_, kFr.rf, fun c h1 h2 => absurd h2 (by omega), fun _ _ => rfl⟩
    obtain ⟨s1, s2, s3, s4, s5⟩ := pW_w hw
    rw [e48_2]
    simp only [e48_3, e48_4, (e48_7L (hs := s2)), e48_8, hw.2.2.1, q_of, Std.le_refl, if_true]
  | succ i ih =>
    intro j H hq hw hF hB hj
    obtain ⟨s1, s2, s3, s4, s5⟩ := pW_w hw
    have hs24 : s = 24 ∨ s = 25 := by rcases hw.1 with ⟨-, h⟩ | ⟨-, h⟩ <;> omega
    have f0 : kFr (fun k _ => k = s) H (uL H s j (lN (qbk rF rB V W j))) := kFr_uL (P := fun k _ => k = s) rfl
    have hw1 : pW (uL H s j (lN (qbk rF rB V W j))) w s W := ⟨hw.1, hw.2.1, hw.2.2.1, fun a ha => by rw [hL_uLn (by omega)]; exact hw.2.2.2 a ha⟩
    obtain ⟨H', e1, f1, g1, k1⟩ := ih (j + 1) _ (cR_fr (f0.mono (fun k _ z => by unfold sC; omega)) hq) hw1 (fun p hp => by rw [hL_uLn (by omega)]; exact hF p hp) (fun p hp => by rw [hL_uLn (by omega)]; exact hB p hp) (by omega)
    refine ⟨H', ?_, f0.tr f1, fun h h1 h2 => ?_, fun h hh => ?_⟩
    · rw [← e1, e48_2]
      simp only [e48_3, e48_4, (e48_7L (hs := s2)), e48_8, e48_11, e48_12, e48_15, e48_16, e48_17, e48_18, (e48_21 (hs := s2)), e48_22, e48_25, hw.2.2.1, q_of, q_le (show 64 < 2147483648 by decide) (show j < 2147483648 by omega), show ¬ 64 ≤ j by omega, if_false, c_worthAhead hV hq hw (show j < 64 by omega) hF hB bF bB, q_bs, q_tl, q_cn, q_lt0 (show j < 2147483648 by omega), q_cl (show j < 2147483648 by omega), or_false, nI_1]
    · by_cases e : h = j
      · subst e
        rw [k1 h (by omega), hL_uLs]
      · exact g1 h (by omega) h2
    · rw [k1 h (by omega), hL_uLn (by omega)]
theorem c_stepBack (hV : vOK V) {H : kH} (hq : cR H V) {w s : Nat} {W : Nat → Nat} (hw : pW H w s W) {rF rB : Nat → Nat} (hF : ∀ p, p < 6 → hL H 22 p = lN (rF p)) (hB : ∀ p, p < 6 → hL H 23 p = lN (rB p)) (bF : ∀ p, p < 6 → rF p < 2 ^ 63) (bB : ∀ p, p < 6 → rB p < 2 ^ 63) : ∃ H', ev 48 0 [.ref 4, .null] [] H = some (none, H') ∧ kFr (fun k _ => k = 4 ∨ k = 24 ∨ k = 25) H H' ∧ pW H' s w (qbk rF rB V W) := by
  obtain ⟨s1, s2, s3, s4, s5⟩ := pW_w hw
  have hs24 : s = 24 ∨ s = 25 := by rcases hw.1 with ⟨-, h⟩ | ⟨-, h⟩ <;> omega
  obtain ⟨H1, e1, f1, g1, -⟩ := l_stepBack hV bF bB 64 0 H hq hw hF hB (by omega)
  have h6 : hR H1 4 6 = w := ((f1 4 6 (by omega)).2.2).trans hw.2.1
  have h7 : hR H1 4 7 = s := ((f1 4 7 (by omega)).2.2).trans hw.2.2.1
  refine ⟨uR (uR H1 4 7 w) 4 6 s, ?_, (f1.mono (fun k _ z => by omega)).tr ((kFr_uR (by omega)).tr (kFr_uR (by omega))), ⟨by rcases hw.1 with ⟨a, b⟩ | ⟨a, b⟩ <;> simp [a, b], ?_, ?_, fun h hh => g1 h (by omega) hh⟩⟩
  · simp only [e48_0, e48_1]
    rw [show (0 : Int32) = nI 0 from rfl, e1]
    simp only [e48_28, e48_29, e48_32, e48_33, e48_34, e48_35, (e48_38 (hr := s4)), (e48_38 (hr := s5)), e48_41, e48_42, (e48_43 (hr := s4)), (e48_43 (hr := s5)), e48_46, h6, h7]
  · rw [hR_uR, if_pos ⟨rfl, rfl⟩]
  · rw [hR_uR, if_neg (by omega), hR_uR, if_pos ⟨rfl, rfl⟩]
end KLK
