/-! years -/
def qSd (s : Nat) : Nat := (1103515245 * s + 12345) % 2147483648
def qDr (s : Nat) : Nat := qSd s / 65536 % 10
theorem qSd_lt (s : Nat) : qSd s < 2147483648 := Nat.mod_lt _ (by decide)
/-- seed and set behind so many draws -/
def qDw (V : kV) (num : Int32) (h s : Nat) : Nat → Nat × Nat
  | 0 => (s, 0)
  | j + 1 => (qSd (qDw V num h s j).1, if qDr (qDw V num h s j).1 < qtn V j num h (vd V) then (qDw V num h s j).2 ||| (1 <<< j) else (qDw V num h s j).2)
theorem qDw_lt {V : kV} {num : Int32} {h s : Nat} (hs : s < 2147483648) : ∀ j, (qDw V num h s j).1 < 2147483648 ∧ (qDw V num h s j).2 < 2 ^ j
  | 0 => ⟨hs, by show 0 < 2 ^ 0; decide⟩
  | j + 1 => by
    obtain ⟨h1, h2⟩ := qDw_lt (V := V) (num := num) (h := h) hs j
    refine ⟨qSd_lt _, ?_⟩
    have hp : 2 ^ (j + 1) = 2 ^ j + 2 ^ j := by rw [Nat.pow_succ]; omega
    show (if _ then _ else _) < _
    split
    · refine Nat.or_lt_two_pow (by omega) ?_
      rw [Nat.one_shiftLeft]
      omega
    · omega
/-- laws, seed, how often each was king, how often one was -/
abbrev kY : Type := Nat × Nat × (Nat → Nat) × Nat
def qLh (V : kV) (num : Int32) (Y : kY) : kY :=
  if qK (vk V) (vn V) (qDw V num Y.1 Y.2.1 (vn V)).2 = -1 then (Y.1, (qDw V num Y.1 Y.2.1 (vn V)).1, Y.2.2.1, Y.2.2.2)
  else (qS Y.1 (vl V (qK (vk V) (vn V) (qDw V num Y.1 Y.2.1 (vn V)).2).toNatClampNeg), (qDw V num Y.1 Y.2.1 (vn V)).1, fu Y.2.2.1 (qK (vk V) (vn V) (qDw V num Y.1 Y.2.1 (vn V)).2).toNatClampNeg (Y.2.2.1 (qK (vk V) (vn V) (qDw V num Y.1 Y.2.1 (vn V)).2).toNatClampNeg + 1), Y.2.2.2 + 1)
def qLv (V : kV) (s : Nat) : Nat → kY
  | 0 => (vh V, s, fun _ => 0, 0)
  | m + 1 => qLh V (vt V + nI m) (qLv V s m)
def fYears (V : kV) (hours seed what : Int32) : Int32 := qSel 61 hours (-102) (fun m => if m = 0 then -102 else if seed < 0 then -102 else qSel 15 what (-102) (fun w => if 3 ≤ w ∧ w < 10 then -102 else if vn V = 0 then -103 else if w = 0 then nI (qLv V seed.toNatClampNeg m).2.2.2 else if w = 1 then nI (qLv V seed.toNatClampNeg m).1 else if w = 2 then nI (qLv V seed.toNatClampNeg m).2.1 else nI ((qLv V seed.toNatClampNeg m).2.2.1 (w - 10))))
theorem nsum_fu (f : Nat → Nat) (c : Nat) : ∀ n, nsum (fu f c (f c + 1)) n = nsum f n + (if c < n then 1 else 0)
  | 0 => rfl
  | n + 1 => by
    show nsum (fu f c (f c + 1)) n + fu f c (f c + 1) n = (nsum f n + f n) + _
    rw [nsum_fu f c n]
    by_cases e : n = c
    · subst e
      rw [fu_s, if_neg (by omega), if_pos (by omega)]
      omega
    · rw [fu_n e]
      by_cases h : c < n
      · rw [if_pos h, if_pos (by omega)]
        omega
      · rw [if_neg h, if_neg (by omega)]
        omega
theorem qLv_ok {V : kV} (hV : vOK V) {s : Nat} (hs : s < 2147483648) : ∀ m, (qLv V s m).1 < 64 ∧ (qLv V s m).2.1 < 2147483648 ∧ nsum (qLv V s m).2.2.1 5 = (qLv V s m).2.2.2
  | 0 => ⟨hV.2.2.2.2.2.1, hs, nsum_zero 5⟩
  | m + 1 => by
    obtain ⟨h1, h2, h3⟩ := qLv_ok hV hs m
    have h5 := hV.2.1
    show (qLh V (vt V + nI m) (qLv V s m)).1 < 64 ∧ (qLh V (vt V + nI m) (qLv V s m)).2.1 < 2147483648 ∧ nsum (qLh V (vt V + nI m) (qLv V s m)).2.2.1 5 = (qLh V (vt V + nI m) (qLv V s m)).2.2.2
    have hd := (qDw_lt (V := V) (num := vt V + nI m) (h := (qLv V s m).1) h2 (vn V)).1
    unfold qLh
    rcases qK_in (vk V) (vn V) (qDw V (vt V + nI m) (qLv V s m).1 (qLv V s m).2.1 (vn V)).2 (by omega) with e | ⟨c, hc, e⟩
    · rw [if_pos e]
      exact ⟨h1, hd, h3⟩
    · rw [e, if_neg (by rw [q_m1ne (by omega)]; exact id), q_cl (by omega)]
      refine ⟨qS_lt _ h1 _ (hV.2.2.1 c hc).2.2, hd, ?_⟩
      show nsum (fu _ c _) 5 = _
      rw [nsum_fu, if_pos (by omega), h3]
def yR (H : kH) (Y : kY) : Prop := hI H 5 2 = nI Y.1 ∧ hL H 5 3 = lN Y.2.1 ∧ ∀ j, j < 5 → hI H 26 j = nI (Y.2.2.1 j)
section KYE
theorem c_draw {H : kH} {s : Nat} (hs : s < 2147483648) (hh : hL H 5 3 = lN s) : ev 45 0 [.ref 5] [] H = some (some (.int (nI (qDr s))), uL H 5 3 (lN (qSd s))) := by
  have hb : 1103515245 * s + 12345 < 2 ^ 63 := by omega
  have hq := qSd_lt s
  have e1 : lN (1103515245 * s + 12345) - lN (1103515245 * s + 12345) / lN 2147483648 * lN 2147483648 = lN (qSd s) := pk_lRem hb (by decide) (by decide)
  have e2 : lN (qSd s) / lN 65536 = lN (qSd s / 65536) := pk_lDiv (by omega) (by decide) (by decide)
  have e3 : lN (qSd s / 65536) - lN (qSd s / 65536) / lN 10 * lN 10 = lN (qSd s / 65536 % 10) := pk_lRem (by omega) (by decide) (by decide)
  simp only [e45_0, e45_1, e45_4, e45_5, e45_8, e45_9, e45_12, e45_13, e45_16, e45_17, e45_20, e45_21, e45_24, e45_27, e45_28, e45_31, e45_32, e45_33, hh, q_litL, q_mulL, q_addL, e1, e2, e3, hL_uLs, lN_i, show (lN 2147483648 = 0) = False from eq_false (by decide), show (lN 65536 = 0) = False from eq_false (by decide), show (lN 10 = 0) = False from eq_false (by decide), if_false]
  rfl
variable {V : kV}
def yC (k j : Nat) : Prop := k = 5 ∨ k = 26
theorem yC_sC {k j : Nat} (h : yC k j) : sC k j := by unfold yC at h; unfold sC; omega
theorem l_draw (hV : vOK V) {h s : Nat} (hh : h < 64) (hs : s < 2147483648) (num : Int32) : ∀ i j H, cR H V → hI H 5 2 = nI h → hL H 5 3 = lN (qDw V num h s j).1 → j + i = vn V → ∃ H', ev 44 4 [.ref 5, .int num, .int (nI (qDw V num h s j).2), .int (nI j)] [] H = some (some (.int (nI (qDw V num h s (vn V)).2)), H') ∧ kFr (fun k j => k = 5 ∧ j = 3) H H' ∧ hL H' 5 3 = lN (qDw V num h s (vn V)).1 := by
  have h5 := hV.2.1
  intro i
  induction i with
  | zero =>
    intro j H hq h2 h3 hj
    have : j = vn V := by omega
    subst this
    refine ⟨H, ?_, kFr.rf, h3⟩
    rw [e44_4]
    simp only [e44_5, e44_6, e44_9, e44_12, e44_54, e44_55, c_seats hq, q_bs, q_tl, q_cn, Std.le_refl, if_true]
  | succ i ih =>
    intro j H hq h2 h3 hj
    have f0 : kFr (fun k j => k = 5 ∧ j = 3) H (uL H 5 3 (lN (qSd (qDw V num h s j).1))) := kFr_uL (P := fun k j => k = 5 ∧ j = 3) ⟨rfl, rfl⟩
    have hq1 : cR (uL H 5 3 (lN (qSd (qDw V num h s j).1))) V := cR_fr (f0.mono (fun k j z => by unfold sC; omega)) hq
    obtain ⟨d1, d2⟩ := qDw_lt (V := V) (num := num) (h := h) hs j
    obtain ⟨H', e1, f1, g1⟩ := ih (j + 1) _ hq1 (((f0 5 2 (by omega)).1).trans h2) (hL_uLs _ _ _ _) (by omega)
    refine ⟨H', ?_, f0.tr f1, g1⟩
    rw [← e1, e44_4]
    have ht := qtn_le9 V j num h (vd V)
    have hd10 : qDr (qDw V num h s j).1 < 10 := Nat.mod_lt _ (by decide)
    have i2 : hI (uL H 5 3 (lN (qSd (qDw V num h s j).1))) 5 2 = nI h := ((f0 5 2 (by omega)).1).trans h2
    by_cases hb : qDr (qDw V num h s j).1 < qtn V j num h (vd V)
    · simp only [e44_5, e44_6, e44_9, e44_12, e44_15, e44_16, e44_19, e44_20, e44_23, e44_24, e44_25, e44_26, e44_29, e44_30, e44_33, e44_36, e44_39, e44_42, e44_43, e44_44, e44_45, e44_46, e44_47, e44_48, e44_51, c_seats hq, q_bs, q_tl, q_cn, q_le (show vn V < 2147483648 by omega) (show j < 2147483648 by omega), show ¬ vn V ≤ j by omega, if_false, c_draw d1 h3, i2, c_draughtAt hq1, c_tenthsIn hq1 hV (show j < vn V by omega) hh, q_le (show qtn V j num h (vd V) < 2147483648 by omega) (show qDr (qDw V num h s j).1 < 2147483648 by omega), show ¬ qtn V j num h (vd V) ≤ qDr (qDw V num h s j).1 by omega, q_shl1 j (by omega), q_or, nI_1, qDw, hb, if_true]
    · simp only [e44_5, e44_6, e44_9, e44_12, e44_15, e44_16, e44_19, e44_20, e44_23, e44_24, e44_25, e44_26, e44_29, e44_30, e44_33, e44_36, e44_39, e44_42, e44_43, e44_44, e44_45, e44_46, e44_47, e44_48, e44_51, c_seats hq, q_bs, q_tl, q_cn, q_le (show vn V < 2147483648 by omega) (show j < 2147483648 by omega), show ¬ vn V ≤ j by omega, if_false, c_draw d1 h3, i2, c_draughtAt hq1, c_tenthsIn hq1 hV (show j < vn V by omega) hh, q_le (show qtn V j num h (vd V) < 2147483648 by omega) (show qDr (qDw V num h s j).1 < 2147483648 by omega), show qtn V j num h (vd V) ≤ qDr (qDw V num h s j).1 by omega, if_true, nI_1, qDw, hb]
theorem c_drawSet (hV : vOK V) {h s : Nat} (hh : h < 64) (hs : s < 2147483648) (num : Int32) {H : kH} (hq : cR H V) (h2 : hI H 5 2 = nI h) (h3 : hL H 5 3 = lN s) : ∃ H', ev 44 0 [.ref 5, .int num, .null, .null] [] H = some (some (.int (nI (qDw V num h s (vn V)).2)), H') ∧ kFr (fun k j => k = 5 ∧ j = 3) H H' ∧ hL H' 5 3 = lN (qDw V num h s (vn V)).1 := by
  obtain ⟨H', e1, f1, g1⟩ := l_draw hV hh hs num (vn V) 0 H hq h2 h3 (by omega)
  refine ⟨H', ?_, f1, g1⟩
  rw [← e1]
  simp only [e44_0, e44_1, e44_2, e44_3]
  rfl
theorem c_liveHour (hV : vOK V) (h0 : 0 < vn V) {Y : kY} (hh : Y.1 < 64) (hs : Y.2.1 < 2147483648) (num : Int32) {H : kH} (hq : cR H V) (hy : yR H Y) : ∃ H', ev 43 0 [.ref 5, .int num, .null] [] H = some (none, H') ∧ kFr (fun k j => (k = 5 ∧ (j = 2 ∨ j = 3)) ∨ k = 26) H H' ∧ yR H' (qLh V num Y) := by
  have h5 := hV.2.1
  obtain ⟨H1, e1, f1, g1⟩ := c_drawSet hV hh hs num hq hy.1 hy.2.1
  obtain ⟨d1, d2⟩ := qDw_lt (V := V) (num := num) (h := Y.1) hs (vn V)
  have d3 : (qDw V num Y.1 Y.2.1 (vn V)).2 < 32 := Nat.lt_of_lt_of_le d2 (pow2_le h5)
  have hq1 : cR H1 V := cR_fr (f1.mono (fun k j z => by unfold sC; omega)) hq
  unfold qLh
  rcases qK_in (vk V) (vn V) (qDw V num Y.1 Y.2.1 (vn V)).2 (by omega) with e | ⟨c, hc, e⟩
  · rw [if_pos e]
    refine ⟨H1, ?_, f1.mono (fun k j z => by omega), ⟨((f1 5 2 (by omega)).1).trans hy.1, g1, fun j hj => ((f1 26 j (by omega)).1).trans (hy.2.2 j hj)⟩⟩
    simp only [e43_0, e43_1, e43_4, e43_5, e43_6, e43_9, e43_12, e43_13, e43_14, e43_17, e43_18, e43_21, e43_24, e43_25, e43_28, e43_29, e43_30, e43_33, e43_34, e43_37, e43_38, e43_39, e43_42, e43_43, e43_44, e43_45, e43_48, e43_49, e43_52, e43_53, e43_56, e43_59, e43_62, e1, q_bs, q_tl, q_cn, c_kingOf hq1 h0 d3, e, c_seated0 hq1 (Or.inl (show (-1 : Int32) < 0 by decide)), if_true]
  · have hl := (hV.2.2.1 c hc).2.2
    have i2 : hI H1 5 2 = nI Y.1 := ((f1 5 2 (by omega)).1).trans hy.1
    have i26 : hI H1 26 c = nI (Y.2.2.1 c) := ((f1 26 c (by omega)).1).trans (hy.2.2 c (by omega))
    have fa : kFr (fun k j => k = 26) H1 (uI H1 26 c (nI (Y.2.2.1 c + 1))) := kFr_uI (P := fun k j => k = 26) rfl
    have hq2 : cR (uI H1 26 c (nI (Y.2.2.1 c + 1))) V := cR_fr (fa.mono (fun k j z => by unfold sC; omega)) hq1
    rw [e, if_neg (by rw [q_m1ne (by omega)]; exact id), q_cl (by omega)]
    refine ⟨uI (uI H1 26 c (nI (Y.2.2.1 c + 1))) 5 2 (nI (qS Y.1 (vl V c))), ?_, ((f1.mono (fun k j z => by omega)).tr (fa.mono (fun k j z => by omega))).tr (kFr_uI (by omega)), ⟨hI_uIs _ _ _ _, g1, fun j hj => ?_⟩⟩
    · simp only [e43_0, e43_1, e43_4, e43_5, e43_6, e43_9, e43_12, e43_13, e43_14, e43_17, e43_18, e43_21, e43_24, e43_25, e43_28, e43_29, e43_30, e43_33, e43_34, e43_37, e43_38, e43_39, e43_42, e43_43, e43_44, e43_45, e43_48, e43_49, e43_52, e43_53, e43_56, e43_59, e43_62, e1, q_bs, q_tl, q_cn, c_kingOf hq1 h0 d3, e, c_seated_in hq1 hV hc, t10, if_false, c_at (show shp 26 = (1, 5) from rfl) (by decide), pAt_in (show c < 5 by omega) (show 5 < 2147483648 by decide), i26, nI_1, c_exchange (show shp 26 = (1, 5) from rfl) (by decide) (show c < 5 by omega), hI_uIn (show ¬ ((5 : Nat) = 26 ∧ 2 = c) by omega), i2, c_sayingOf hq2 hV hc, c_said hh hl]
    · rw [hI_uIn (by omega)]
      show _ = nI (fu _ c _ j)
      by_cases z : j = c
      · subst z
        rw [hI_uIs, fu_s]
      · rw [hI_uIn (by omega), fu_n z]
        exact ((f1 26 j (by omega)).1).trans (hy.2.2 j hj)
theorem l_live (hV : vOK V) (h0 : 0 < vn V) {s m : Nat} (hs : s < 2147483648) (hm : m < 1000) (x2 : Int32) : ∀ i j H, cR H V → yR H (qLv V s j) → j + i = m → ∃ H', ev 41 27 [.ref 5, .int (nI m), .int x2, .int (nI j)] [] H = some (none, H') ∧ kFr yC H H' ∧ yR H' (qLv V s m) := by
  intro i
  induction i with
  | zero =>
    intro j H hq hy hj
    have : j = m := by omega
    subst this
    refine ⟨H, ?_, kFr.rf, hy⟩
    rw [e41_27]
    simp only [e41_28, e41_29, e41_51, Std.le_refl, if_true]
  | succ i ih =>
    intro j H hq hy hj
    obtain ⟨k1, k2, -⟩ := qLv_ok hV hs j
    obtain ⟨H1, e1, f1, g1⟩ := c_liveHour hV h0 k1 k2 (vt V + nI j) hq hy
    have f2 : kFr yC H H1 := f1.mono (fun k j z => by unfold yC; omega)
    obtain ⟨H', e2, f3, g3⟩ := ih (j + 1) H1 (cR_fr (f2.mono (fun _ _ => yC_sC)) hq) g1 (by omega)
    refine ⟨H', ?_, f2.tr f3, g3⟩
    rw [← e2, e41_27]
    simp only [e41_28, e41_29, e41_32, e41_33, e41_34, e41_37, e41_40, e41_41, e41_42, e41_45, e41_48, q_le (show m < 2147483648 by omega) (show j < 2147483648 by omega), show ¬ m ≤ j by omega, if_false, c_hourNumber hq, q_bs, q_tl, q_tn, q_cn, q_nn, e1, nI_1]
theorem c_live (hV : vOK V) (h0 : 0 < vn V) {s m : Nat} (hs : s < 2147483648) (hm : m < 1000) {H : kH} (hq : cR H V) : ∃ H', ev 41 0 [.ref 5, .int (nI m), .int (nI s), .null] [] H = some (none, H') ∧ kFr yC H H' ∧ yR H' (qLv V s m) := by
  obtain ⟨H1, e1, f1, g1⟩ := c_fillI (show shp 26 = (1, 5) from rfl) (by decide) 0 H
  have f2 : kFr yC H (uL (uI H1 5 2 (nI (vh V))) 5 3 (lN s)) := ((f1.mono (fun k j z => by unfold yC; omega)).tr (kFr_uI (by unfold yC; omega))).tr (kFr_uL (by unfold yC; omega))
  have hq1 : cR H1 V := cR_fr (f1.mono (fun k j z => by unfold sC; omega)) hq
  obtain ⟨H', e3, f3, g3⟩ := l_live hV h0 hs hm (nI s) m 0 _ (cR_fr (f2.mono (fun _ _ => yC_sC)) hq) ⟨by show hI (uI H1 5 2 (nI (vh V))) 5 2 = _; exact hI_uIs _ _ _ _, hL_uLs _ _ _ _, fun j hj => by show hI (uI H1 5 2 (nI (vh V))) 26 j = _; rw [hI_uIn (by omega)]; exact g1 j hj⟩ (by omega)
  refine ⟨H', ?_, f2.tr f3, g3⟩
  rw [← e3]
  simp only [e41_0, e41_1, e41_4, e41_5, e41_8, e41_9, e41_10, e41_13, e41_16, e41_19, e41_20, e41_21, e41_22, e41_25, e41_26, e1, q_bs, q_tl, q_tn, q_cn, q_nn, c_held hq1, q_i2l hs]
  rfl
theorem q_sum5 {f : Nat → Nat} : ∀ n, bx_sum (fun j => nI (f j)) n = nI (nsum f n)
  | 0 => rfl
  | n + 1 => by
    show bx_sum _ n + _ = _
    rw [q_sum5 n, nI_add]
    rfl
end KYE
section KYF
variable {H : kH} {S : kS}
/-- what years tell -/
theorem c_tells {w : Nat} (hw : w < 15) : ev 40 0 [.int (nI w)] [] H = some (some (.int (if 3 ≤ w ∧ w < 10 then 0 else 1)), H) := by
  have h2 := q_le (show w < 2147483648 by omega) (show 2 < 2147483648 by decide)
  have h10 := q_lt (show w < 2147483648 by omega) (show 10 < 2147483648 by decide)
  have h15 := q_le (show 15 < 2147483648 by decide) (show w < 2147483648 by omega)
  by_cases a : w ≤ 2
  · simp only [e40_0, e40_1, e40_4, e40_5, e40_6, e40_9, e40_10, e40_12, e40_15, e40_16, e40_18, e40_21, e40_22, e40_25, e40_26, q_lt0 (show w < 2147483648 by omega), if_false, show (2 : Int32) = nI 2 from rfl, h2, a, if_true, show ¬ (3 ≤ w ∧ w < 10) by omega, or_true]
  · by_cases b : w < 10
    · simp only [e40_0, e40_1, e40_4, e40_5, e40_6, e40_9, e40_10, e40_12, e40_15, e40_16, e40_18, e40_21, e40_22, e40_25, e40_26, q_lt0 (show w < 2147483648 by omega), if_false, show (2 : Int32) = nI 2 from rfl, show (10 : Int32) = nI 10 from rfl, h2, h10, a, b, if_true, show 3 ≤ w ∧ w < 10 from ⟨by omega, b⟩, true_or]
      simp
    · simp only [e40_0, e40_1, e40_4, e40_5, e40_6, e40_9, e40_10, e40_12, e40_15, e40_16, e40_18, e40_21, e40_22, e40_25, e40_26, q_lt0 (show w < 2147483648 by omega), if_false, show (2 : Int32) = nI 2 from rfl, show (10 : Int32) = nI 10 from rfl, show (15 : Int32) = nI 15 from rfl, h2, h10, h15, a, b, show ¬ 15 ≤ w by omega, if_true, show ¬ (3 ≤ w ∧ w < 10) by omega, or_true]
      simp
theorem c_tells_lo {x : Int32} (h : x < 0) : ev 40 0 [.int x] [] H = some (some (.int 0), H) := by
  have h10 : x < 10 := by
    have := q_toInt_lo h
    rw [Int32.lt_iff_toInt_lt]
    have e : (10 : Int32).toInt = 10 := rfl
    omega
  simp only [e40_0, e40_1, e40_4, e40_5, e40_6, e40_9, e40_10, e40_12, e40_15, e40_16, e40_18, e40_21, e40_22, e40_25, e40_26, h, h10, if_true, true_or]
theorem c_tells_hi {x : Int32} (h : nI 15 ≤ x) : ev 40 0 [.int x] [] H = some (some (.int 0), H) := by
  have h10 : ¬ x < 10 := by
    have := q_toInt_hi (show 15 < 2147483648 by decide) h
    rw [Int32.lt_iff_toInt_lt]
    have e : (10 : Int32).toInt = 10 := rfl
    omega
  simp only [e40_0, e40_1, e40_4, e40_5, e40_6, e40_9, e40_10, e40_12, e40_15, e40_16, e40_18, e40_21, e40_22, e40_25, e40_26, q_nlt (show 15 < 2147483648 by decide) h, show (2 : Int32) = nI 2 from rfl, q_hi_le (show 15 < 2147483648 by decide) h (show 2 < 15 by decide), if_false, h10, show (15 : Int32) = nI 15 from rfl, h, if_true, true_or]
theorem c_answer {Y : kY} {m : Nat} (hy : yR H Y) (hs : Y.2.1 < 2147483648) (hk : nsum Y.2.2.1 5 = Y.2.2.2) {w : Nat} (hw : w < 15) (h3 : ¬ (3 ≤ w ∧ w < 10)) : ev 42 0 [.ref 5, .int (nI w)] [] H = some (some (.int (if w = 0 then nI Y.2.2.2 else if w = 1 then nI Y.1 else if w = 2 then nI Y.2.1 else nI (Y.2.2.1 (w - 10)))), H) := by
  by_cases a : w ≤ 2
  · rcases (show w = 0 ∨ w = 1 ∨ w = 2 by omega) with rfl | rfl | rfl
    · simp only [show nI 0 = (0 : Int32) from rfl, e42_0, e42_1_0, e42_1_1, e42_1_2, e42_1_d, e42_28, e42_29, e42_32, e42_33, e42_36, e42_37, e42_40, e42_41, e42_42, e42_45, e42_46, e42_47, e42_50, e42_51, e42_52, e42_53, e42_56, e42_57, e42_59, e42_60, e42_63, show (5 : Int32) = nI 5 from rfl, c_sum (show shp 26 = (1, 5) from rfl) (by decide) (fun j => nI (Y.2.2.1 j)) H (Nat.le_refl 5) (fun j hj => hy.2.2 j hj), q_bs, q_tl, q_cn, q_sum5, hk, if_true]
    · simp only [show nI 1 = (1 : Int32) from rfl, e42_0, e42_1_0, e42_1_1, e42_1_2, e42_1_d, e42_28, e42_29, e42_32, e42_33, e42_36, e42_37, e42_40, e42_41, e42_42, e42_45, e42_46, e42_47, e42_50, e42_51, e42_52, e42_53, e42_56, e42_57, e42_59, e42_60, e42_63, hy.1, if_true, Nat.one_ne_zero, if_false]
    · simp only [show nI 2 = (2 : Int32) from rfl, e42_0, e42_1_0, e42_1_1, e42_1_2, e42_1_d, e42_28, e42_29, e42_32, e42_33, e42_36, e42_37, e42_40, e42_41, e42_42, e42_45, e42_46, e42_47, e42_50, e42_51, e42_52, e42_53, e42_56, e42_57, e42_59, e42_60, e42_63, hy.2.1, lN_i, if_true, show ¬ (2 : Nat) = 0 by decide, show ¬ (2 : Nat) = 1 by decide, if_false]
  · rw [e42_0, e42_1_d _ _ _ (Or.inr (by rw [nI_toInt (by omega)]; omega))]
    rw [if_neg (by omega), if_neg (by omega), if_neg (by omega)]
    simp only [e42_52, e42_53, e42_56, e42_57, e42_59, e42_60, e42_63, show (10 : Int32) = nI 10 from rfl, q_sub (show 10 ≤ w by omega), c_at (show shp 26 = (1, 5) from rfl) (by decide), pAt_in (show w - 10 < 5 by omega) (show 5 < 2147483648 by decide), hy.2.2 (w - 10) (by omega), q_bs, q_tl, q_cn]
theorem x_years (hq : CR H S) (ho : sOK S) (hours seed what : Int32) : ∃ H1, ev 59 0 [.ref 0, .int hours, .int seed, .int what] [] H = some (some (.int (fYears (sV S) hours seed what)), H1) ∧ CR H1 S ∧ kFr cC H H1 := by
  have hR := hq.1
  have hV := ho.1
  have h5 := hV.2.1
  unfold fYears
  rcases q_case hours (show 61 < 2147483648 by decide) with hl | hl | ⟨m, hl, rfl⟩
  · rw [qSel_lo hl]
    refine ⟨H, ?_, hq, kFr.rf⟩
    have h1 : hours < 1 := by
      have := q_toInt_lo hl
      rw [Int32.lt_iff_toInt_lt]
      have e : (1 : Int32).toInt = 1 := rfl
      omega
    simp only [e59_0, e59_1, e59_2, e59_5, e59_6, e59_8, e59_11, e59_12, e59_15, e59_16, e59_19, e59_22, e59_24, h1, if_true]
  · rw [qSel_hi hl]
    refine ⟨H, ?_, hq, kFr.rf⟩
    have h1 : ¬ hours < 1 := by
      have := q_toInt_hi (show 61 < 2147483648 by decide) hl
      rw [Int32.lt_iff_toInt_lt]
      have e : (1 : Int32).toInt = 1 := rfl
      omega
    simp only [e59_0, e59_1, e59_2, e59_5, e59_6, e59_8, e59_11, e59_12, e59_15, e59_16, e59_19, e59_22, e59_24, h1, if_false, show (60 : Int32) = nI 60 from rfl, q_lt_hi (show 61 < 2147483648 by decide) hl (show 60 < 61 by decide), if_true]
  · rw [qSel_in hl (by decide)]
    by_cases m0 : m = 0
    · rw [if_pos m0]
      refine ⟨H, ?_, hq, kFr.rf⟩
      subst m0
      simp only [e59_0, e59_1, e59_2, e59_5, e59_6, e59_8, e59_11, e59_12, e59_15, e59_16, e59_19, e59_22, e59_24, show (nI 0 < (1 : Int32)) = True from eq_true (by decide), if_true]
    · rw [if_neg m0]
      have e11 : ev 59 0 [.ref 0, .int (nI m), .int seed, .int what] [] H = ev 59 11 [.ref 0, .int (nI m), .int seed, .int what] [] H := by
        simp only [e59_0, e59_1, e59_2, e59_5, e59_6, e59_8, q_1lt (show m < 2147483648 by omega), m0, if_false, show (60 : Int32) = nI 60 from rfl, q_lt (show 60 < 2147483648 by decide) (show m < 2147483648 by omega), show ¬ 60 < m by omega]
      rw [e11]
      by_cases hsd : seed < 0
      · rw [if_pos hsd]
        refine ⟨H, ?_, hq, kFr.rf⟩
        simp only [e59_11, e59_12, e59_15, e59_16, e59_19, e59_22, e59_24, hsd, if_true]
      · rw [if_neg hsd]
        obtain ⟨s, hs, rfl⟩ := nI_of hsd
        rw [q_cl hs]
        rcases q_case what (show 15 < 2147483648 by decide) with hw | hw | ⟨w, hw, rfl⟩
        · rw [qSel_lo hw]
          refine ⟨H, ?_, hq, kFr.rf⟩
          simp only [e59_11, e59_12, e59_15, e59_16, e59_19, e59_22, e59_24, hsd, if_false, c_tells_lo hw, q_bs, q_tl, q_cn, not_true_eq_false]
        · rw [qSel_hi hw]
          refine ⟨H, ?_, hq, kFr.rf⟩
          simp only [e59_11, e59_12, e59_15, e59_16, e59_19, e59_22, e59_24, hsd, if_false, c_tells_hi hw, q_bs, q_tl, q_cn, not_true_eq_false]
        · rw [qSel_in hw (by decide)]
          by_cases h3 : 3 ≤ w ∧ w < 10
          · rw [if_pos h3]
            refine ⟨H, ?_, hq, kFr.rf⟩
            simp only [e59_11, e59_12, e59_15, e59_16, e59_19, e59_22, e59_24, hsd, if_false, c_tells hw, if_pos h3, q_bs, q_tl, q_cn, not_true_eq_false]
          · rw [if_neg h3]
            have e25 : ev 59 11 [.ref 0, .int (nI m), .int (nI s), .int (nI w)] [] H = ev 59 25 [.ref 0, .int (nI m), .int (nI s), .int (nI w)] [] H := by
              simp only [e59_11, e59_12, e59_15, e59_16, e59_19, hsd, if_false, c_tells hw, if_neg h3, q_bs, q_tl, q_cn, t10, not_false_eq_true, if_true]
            rw [e25]
            by_cases h0 : vn (sV S) = 0
            · rw [if_pos h0]
              refine ⟨H, ?_, hq, kFr.rf⟩
              simp only [e59_25, e59_26, e59_29, e59_32, e59_35, e59_37, c_seats hR, q_bs, q_tl, q_cn, h0, n00, not_true_eq_false, if_false]
            · rw [if_neg h0]
              obtain ⟨H1, e1, f1, g1⟩ := c_live hV (by omega) hs (show m < 1000 by omega) hR
              obtain ⟨k1, k2, k3⟩ := qLv_ok hV hs m
              have hq1 : CR H1 S := CR_fr (f1.mono (fun _ _ => yC_sC)) (wR_fr f1 (fun j => by unfold yC; omega) hq.2.2.2.2.1) hq
              refine ⟨H1, ?_, hq1, f1.mono (fun k j z => sC_cC (yC_sC z))⟩
              simp only [e59_25, e59_26, e59_29, e59_32, e59_35, e59_37, e59_38, e59_39, e59_42, e59_43, e59_44, e59_47, e59_48, e59_51, e59_52, e59_55, c_seats hR, q_bs, q_tl, q_tn, q_cn, q_nn, q_n0' (show vn (sV S) < 2147483648 by omega), h0, not_false_eq_true, if_true, e1, c_answer (m := m) g1 k2 k3 hw h3]
end KYF
