/-! looking back over hours -/
theorem qw_le {t u : Nat → Nat} {M : Nat} (h : ∀ j, t j ≤ M ∧ u j ≤ M) : ∀ n s, qw t u n s ≤ M ^ n
  | 0, _ => Nat.le_refl _
  | n + 1, s => by
    unfold qw
    rw [Nat.pow_succ]
    refine Nat.mul_le_mul (qw_le h n s) ?_
    split
    · exact (h n).1
    · exact (h n).2
theorem nsum_le {f : Nat → Nat} {M : Nat} : ∀ {n : Nat}, (∀ j, j < n → f j ≤ M) → nsum f n ≤ n * M
  | 0, _ => by simp [nsum]
  | n + 1, h => by
    have h1 := nsum_le (n := n) (fun j hj => h j (by omega))
    have h2 := h n (by omega)
    unfold nsum
    rw [Nat.succ_mul]
    omega
theorem nsum_cong {f g : Nat → Nat} : ∀ {n : Nat}, (∀ j, j < n → f j = g j) → nsum f n = nsum g n
  | 0, _ => rfl
  | n + 1, h => by
    unfold nsum
    rw [nsum_cong (fun j hj => h j (by omega)), h n (by omega)]
theorem qr_le {t u kd : Nat → Nat} {n p M : Nat} (h : ∀ j, t j ≤ M ∧ u j ≤ M) : ∀ m, qr t u kd n p m ≤ m * M ^ n := by
  intro m
  refine nsum_le (fun s _ => ?_)
  split
  · exact qw_le h n s
  · exact Nat.zero_le _
theorem pow2_le {n : Nat} (h : n ≤ 5) : 2 ^ n ≤ 32 := by
  have : 2 ^ n ≤ 2 ^ 5 := Nat.pow_le_pow_right (by decide) h
  omega
theorem pow10_le {n : Nat} (h : n ≤ 5) : 10 ^ n ≤ 100000 := by
  have : 10 ^ n ≤ 10 ^ 5 := Nat.pow_le_pow_right (by decide) h
  omega
theorem rT_le {V : kV} (hV : vOK V) (num dr : Int32) (h p : Nat) : rT V num dr h p ≤ 3200000 := by
  have h5 := hV.2.1
  have h1 := qr_le (t := fun q => qtn V q num h dr) (u := fun q => 10 - qtn V q num h dr) (kd := vk V) (n := vn V) (p := p) (M := 10) (fun j => ⟨by
    have := qT_le (vk V j) (vo V j) (vp V) (nI j = dr) (qEvb num = true) (h.testBit 3 = true)
    have h2 : qtn V j num h dr ≤ 9 := this
    show qtn V j num h dr ≤ 10
    omega, Nat.sub_le _ _⟩) (2 ^ vn V)
  have h2 := Nat.mul_le_mul (pow2_le h5) (pow10_le h5)
  exact Nat.le_trans h1 h2
theorem rW_le {V : kV} (hV : vOK V) (num x : Int32) (h p : Nat) : rW V num x h p ≤ 32 := by
  have h5 := hV.2.1
  have h1 := qr_le (t := qy V num h) (u := qz x) (kd := vk V) (n := vn V) (p := p) (M := 1) (fun j => ⟨by unfold qy; split <;> omega, by unfold qz; split <;> omega⟩) (2 ^ vn V)
  rw [Nat.one_pow, Nat.mul_one] at h1
  exact Nat.le_trans h1 (pow2_le h5)
/-- behind an hour with a number -/
def qstep (V : kV) (num : Int32) (W : Nat → Nat) : Nat → Nat := qbk (rT V num (vd V) 0) (rT V num (vd V) 8) V W
def qbit (l h : Nat) : Nat := if h.testBit l = true then 1 else 0
/-- the hours m - 1 down to 0 -/
def qLL (V : kV) (W : Nat → Nat) : Nat → Nat → Nat
  | 0 => W
  | m + 1 => qLL V (qstep V (vt V + nI m) W) m
def qKeep (W : Nat → Nat) (x : Int32) (h : Nat) : Nat := if x = -1 then W h else if nI h = x then W h else 0
def qBx (sx px : Int32) (m : Nat) : Int32 := if nI m = px then sx else -1
def qstepB (V : kV) (sx px : Int32) (m : Nat) (W : Nat → Nat) : Nat → Nat := qbk (rW V (vt V + nI m) (qBx sx px m) 0) (rW V (vt V + nI m) (qBx sx px m) 8) V (qKeep W (vB V m))
def qLB (V : kV) (sx px : Int32) (W : Nat → Nat) : Nat → Nat → Nat
  | 0 => W
  | m + 1 => qLB V sx px (qstepB V sx px m W) m
theorem q_pm1 (m : Nat) : nI m - 1 = nI m + (-1) := Int32.sub_eq_add_neg _ _
section KLM
variable {V : kV}
/-- the frame of all that looks -/
def lC (k _ : Nat) : Prop := k = 4 ∨ (19 ≤ k ∧ k ≤ 25)
theorem lC_sC {k j : Nat} (h : lC k j) : sC k j := by unfold lC at h; unfold sC; omega
theorem c_stepLaw (hV : vOK V) (h0 : 0 < vn V) {H : kH} (hq : cR H V) {w s : Nat} {W : Nat → Nat} (hw : pW H w s W) (num : Int32) : ∃ H1 H2 H3 H4 H5, ev 44 0 [.ref 4, .int num, .int 0, .int (vd V), .null, .null] [] H = some (none, H1) ∧ ev 46 0 [.ref 4, .ref 22, .null, .null, .null] [] H1 = some (none, H2) ∧ ev 44 0 [.ref 4, .int num, .int 8, .int (vd V), .null, .null] [] H2 = some (none, H3) ∧ ev 46 0 [.ref 4, .ref 23, .null, .null, .null] [] H3 = some (none, H4) ∧ ev 48 0 [.ref 4, .null] [] H4 = some (none, H5) ∧ kFr sC H H1 ∧ kFr sC H H2 ∧ kFr sC H H5 ∧ pW H5 s w (qstep V num W) ∧ kFr lC H H5 := by
  obtain ⟨H1, e1, f1, g1⟩ := c_weighT hV (show 0 < 64 by decide) num (vd V) hq
  have F1 : kFr (fun k _ => 19 ≤ k ∧ k ≤ 23) H H1 := f1.mono (fun k _ z => by omega)
  have q1 := cR_fr (F1.mono (fun k _ z => by unfold sC; omega)) hq
  obtain ⟨H2, e2, f2, g2⟩ := c_crown (t := fun q => qtn V q num 0 (vd V)) (u := fun q => 10 - qtn V q num 0 (vd V)) (show shp 22 = (2, 6) from rfl) (Or.inl rfl) hV.2.1 h0 q1 g1
  have F2 : kFr (fun k _ => 19 ≤ k ∧ k ≤ 23) H H2 := F1.tr (f2.mono (fun k _ z => by omega))
  have q2 := cR_fr (F2.mono (fun k _ z => by unfold sC; omega)) hq
  obtain ⟨H3, e3, f3, g3⟩ := c_weighT hV (show 8 < 64 by decide) num (vd V) q2
  have F3 : kFr (fun k _ => 19 ≤ k ∧ k ≤ 23) H H3 := F2.tr (f3.mono (fun k _ z => by omega))
  have q3 := cR_fr (F3.mono (fun k _ z => by unfold sC; omega)) hq
  obtain ⟨H4, e4, f4, g4⟩ := c_crown (t := fun q => qtn V q num 8 (vd V)) (u := fun q => 10 - qtn V q num 8 (vd V)) (show shp 23 = (2, 6) from rfl) (Or.inr rfl) hV.2.1 h0 q3 g3
  have F4 : kFr (fun k _ => 19 ≤ k ∧ k ≤ 23) H H4 := F3.tr (f4.mono (fun k _ z => by omega))
  have q4 := cR_fr (F4.mono (fun k _ z => by unfold sC; omega)) hq
  have w4 := pW_fr F4 (fun k _ z => by omega) hw
  obtain ⟨H5, e5, f5, g5⟩ := c_stepBack hV q4 w4 (rF := rT V num (vd V) 0) (rB := rT V num (vd V) 8) (fun p hp => by rw [(f4 22 p (by omega)).2.1, (f3 22 p (by omega)).2.1]; exact g2 p hp) g4 (fun p _ => Nat.lt_of_le_of_lt (rT_le hV _ _ _ _) (by decide)) (fun p _ => Nat.lt_of_le_of_lt (rT_le hV _ _ _ _) (by decide))
  exact ⟨H1, H2, H3, H4, H5, e1, e2, e3, e4, e5, F1.mono (fun k _ z => by unfold sC; omega), F2.mono (fun k _ z => by unfold sC; omega), (F4.mono (fun k _ z => by unfold sC; omega)).tr (f5.mono (fun k _ z => by unfold sC; omega)), g5, (F4.mono (fun k _ z => by unfold lC; omega)).tr (f5.mono (fun k _ z => by unfold lC; omega))⟩
theorem l_law0 {l : Nat} (hl : l < 6) (x2 : Int32) : ∀ i j H w s, hR H 4 6 = w → ((w = 24 ∧ s = 25) ∨ (w = 25 ∧ s = 24)) → j + i = 64 → ∃ H', ev 41 2 [.ref 4, .int (nI l), .int x2, .int (nI j), .null] [] H = ev 41 36 [.ref 4, .int (nI l), .int x2, .int (nI 64), .null] [] H' ∧ kFr (fun k _ => k = w) H H' ∧ (∀ h, j ≤ h → h < 64 → hL H' w h = lN (qbit l h)) ∧ ∀ h, h < j → hL H' w h = hL H w h := by
  intro i
  induction i with
  | zero =>
    intro j H w s hw hws hj
    have : j = 64 := by omega
    subst this
    refine ⟨H, ?_, kFr.rf, fun c h1 h2 => absurd h2 (by omega), fun _ _ => rfl⟩
    have s1 : shp w = (2, 64) := by rcases hws with ⟨rfl, -⟩ | ⟨rfl, -⟩ <;> rfl
    rw [e41_2]
    simp only [e41_3, e41_4, (e41_7L (hs := s1)), e41_8, hw, q_of, Std.le_refl, if_true]
  | succ i ih =>
    intro j H w s hw hws hj
    have s1 : shp w = (2, 64) := by rcases hws with ⟨rfl, -⟩ | ⟨rfl, -⟩ <;> rfl
    have f0 : kFr (fun k _ => k = w) H (uL H w j (lN (qbit l j))) := kFr_uL (P := fun k _ => k = w) rfl
    obtain ⟨H', e1, f1, g1, k1⟩ := ih (j + 1) _ w s (((f0 4 6 (by omega)).2.2).trans hw) hws (by omega)
    refine ⟨H', ?_, f0.tr f1, fun h h1 h2 => ?_, fun h hh => ?_⟩
    · rw [← e1, e41_2]
      unfold qbit
      cases hb : j.testBit l
      · simp only [e41_3, e41_4, (e41_7L (hs := s1)), e41_8, e41_11, e41_12, e41_15, e41_16, e41_17, e41_18, e41_21, e41_24, e41_25, e41_28, (e41_29 (hs := s1)), e41_30, e41_33, hw, q_of, q_le (show 64 < 2147483648 by decide) (show j < 2147483648 by omega), show ¬ 64 ≤ j by omega, if_false, c_isIn (show j < 64 by omega) hl, hb, q_bs, q_tl, q_cn, Bool.false_eq_true, if_true, q_lt0 (show j < 2147483648 by omega), q_cl (show j < 2147483648 by omega), or_false, nI_1]
        rfl
      · simp only [e41_3, e41_4, (e41_7L (hs := s1)), e41_8, e41_11, e41_12, e41_15, e41_16, e41_17, e41_18, e41_21, e41_24, e41_25, e41_28, (e41_29 (hs := s1)), e41_30, e41_33, hw, q_of, q_le (show 64 < 2147483648 by decide) (show j < 2147483648 by omega), show ¬ 64 ≤ j by omega, if_false, c_isIn (show j < 64 by omega) hl, hb, q_bs, q_tl, q_cn, t10, if_true, q_lt0 (show j < 2147483648 by omega), q_cl (show j < 2147483648 by omega), or_false, nI_1]
        rfl
    · by_cases e : h = j
      · subst e
        rw [k1 h (by omega), hL_uLs]
      · exact g1 h (by omega) h2
    · rw [k1 h (by omega), hL_uLn (by omega)]
theorem l_law1 (hV : vOK V) (h0 : 0 < vn V) (x1 x2 : Int32) : ∀ m H w s W v, m ≤ 3 → cR H V → pW H w s W → ∃ H' w' s', ev 41 40 [.ref 4, .int x1, .int x2, .int (nI m + (-1)), v] [] H = some (none, H') ∧ kFr lC H H' ∧ pW H' w' s' (qLL V W m) := by
  intro m
  induction m with
  | zero =>
    intro H w s W v hm hq hw
    refine ⟨H, w, s, ?_, kFr.rf, hw⟩
    rw [e41_40]
    simp only [e41_41, e41_110, show (nI 0 + (-1) < (0 : Int32)) = True from eq_true (by decide), if_true]
  | succ m ih =>
    intro H w s W v hm hq hw
    obtain ⟨H1, H2, H3, H4, H5, e1, e2, e3, e4, e5, f1, f2, f3, g, f4⟩ := c_stepLaw hV h0 hq hw (vt V + nI m)
    obtain ⟨H', w', s', k1, k2, k3⟩ := ih H5 s w _ (.int (vt V + nI m)) (by omega) (cR_fr f3 hq) g
    refine ⟨H', w', s', ?_, f4.tr k2, k3⟩
    rw [← k1, e41_40]
    simp only [e41_41, e41_44, e41_45, e41_48, e41_51, e41_52, e41_53, e41_55, e41_56, e41_58, e41_59, e41_60, e41_63, e41_66, e41_69, e41_70, e41_71, e41_74, e41_77, e41_78, e41_80, e41_82, e41_83, e41_86, e41_89, e41_92, e41_93, e41_94, e41_97, e41_100, e41_101, e41_104, e41_107, pk_m1, q_lt0 (show m < 2147483648 by omega), if_false, c_hourNumber hq, c_draughtAt hq, c_draughtAt (cR_fr f2 hq), q_bs, q_tl, q_tn, q_cn, q_nn, e1, e2, e3, e4, e5]
theorem c_lookLaw (hV : vOK V) (h0 : 0 < vn V) {H : kH} (hq : cR H V) (hw : wR H) {l m : Nat} (hl : l < 6) (hm : m ≤ 3) : ∃ H' w s, ev 41 0 [.ref 4, .int (nI l), .int (nI m), .null, .null] [] H = some (none, H') ∧ kFr lC H H' ∧ pW H' w s (qLL V (qbit l) m) := by
  obtain ⟨w, s, hws, h6, h7⟩ : ∃ w s, ((w = 24 ∧ s = 25) ∨ (w = 25 ∧ s = 24)) ∧ hR H 4 6 = w ∧ hR H 4 7 = s := by
    rcases hw with ⟨a, b⟩ | ⟨a, b⟩
    · exact ⟨24, 25, Or.inl ⟨rfl, rfl⟩, a, b⟩
    · exact ⟨25, 24, Or.inr ⟨rfl, rfl⟩, a, b⟩
  obtain ⟨H1, e1, f1, g1, -⟩ := l_law0 hl (nI m) 64 0 H w s h6 hws (by omega)
  have hq1 : cR H1 V := cR_fr (f1.mono (fun k _ z => by unfold sC; omega)) hq
  have hw1 : pW H1 w s (qbit l) := ⟨hws, ((f1 4 6 (by omega)).2.2).trans h6, ((f1 4 7 (by omega)).2.2).trans h7, fun h hh => g1 h (by omega) hh⟩
  obtain ⟨H', w', s', e2, f2, g2⟩ := l_law1 hV h0 (nI l) (nI m) m H1 w s _ .null hm hq1 hw1
  refine ⟨H', w', s', ?_, (f1.mono (fun k _ z => by unfold lC; omega)).tr f2, g2⟩
  rw [← e2]
  simp only [e41_0, e41_1]
  rw [show (0 : Int32) = nI 0 from rfl, e1]
  simp only [e41_36, e41_37, e41_38, e41_39, q_pm1]
/-! the book -/
theorem l_keep {T : Nat} (hT : T < 64) {w s : Nat} {W : Nat → Nat} : ∀ i j H, hR H 4 6 = w → ((w = 24 ∧ s = 25) ∨ (w = 25 ∧ s = 24)) → (∀ h, j ≤ h → h < 64 → hL H w h = lN (W h)) → j + i = 64 → ∃ H', ev 43 2 [.ref 4, .int (nI T), .int (nI j)] [] H = some (none, H') ∧ kFr (fun k _ => k = w) H H' ∧ (∀ h, j ≤ h → h < 64 → hL H' w h = lN (if nI h = nI T then W h else 0)) ∧ ∀ h, h < j → hL H' w h = hL H w h := by
  intro i
  induction i with
  | zero =>
    intro j H hw hws hW hj
    have : j = 64 := by omega
    subst this
    refine ⟨H, ?_, kFr.rf, fun c h1 h2 => absurd h2 (by omega), fun _ _ => rfl⟩
    have s1 : shp w = (2, 64) := by rcases hws with ⟨rfl, -⟩ | ⟨rfl, -⟩ <;> rfl
    rw [e43_2]
    simp only [e43_3, e43_4, (e43_7L (hs := s1)), e43_8, e43_34, hw, q_of, Std.le_refl, if_true]
  | succ i ih =>
    intro j H hw hws hW hj
    have s1 : shp w = (2, 64) := by rcases hws with ⟨rfl, -⟩ | ⟨rfl, -⟩ <;> rfl
    have hne : ¬ nI T = (-1 : Int32) := by
      intro z
      have := congrArg Int32.toInt z
      rw [nI_toInt (by omega)] at this
      have e : (-1 : Int32).toInt = -1 := rfl
      omega
    by_cases e : j = T
    · subst e
      obtain ⟨H', e1, f1, g1, k1⟩ := ih (j + 1) H hw hws (fun h h1 h2 => hW h (by omega) h2) (by omega)
      refine ⟨H', ?_, f1, fun h h1 h2 => ?_, fun h hh => k1 h (by omega)⟩
      · rw [← e1, e43_2]
        simp only [e43_3, e43_4, (e43_7L (hs := s1)), e43_8, e43_11, e43_12, e43_13, e43_16, e43_17, e43_18, e43_21, e43_22, e43_25, e43_26, (e43_27 (hs := s1)), e43_28, e43_31, hw, q_of, q_le (show 64 < 2147483648 by decide) (show j < 2147483648 by omega), show ¬ 64 ≤ j by omega, if_false, hne, if_true, nI_1]
      · by_cases e : h = j
        · subst e
          rw [k1 h (by omega), if_pos rfl]
          exact hW h (by omega) h2
        · exact g1 h (by omega) h2
    · have hjT : ¬ nI j = nI T := by
        rw [q_eq (by omega) (by omega)]
        exact e
      have f0 : kFr (fun k _ => k = w) H (uL H w j 0) := kFr_uL (P := fun k _ => k = w) rfl
      obtain ⟨H', e1, f1, g1, k1⟩ := ih (j + 1) (uL H w j 0) (((f0 4 6 (by omega)).2.2).trans hw) hws (fun h h1 h2 => by rw [hL_uLn (by omega)]; exact hW h (by omega) h2) (by omega)
      refine ⟨H', ?_, f0.tr f1, fun h h1 h2 => ?_, fun h hh => ?_⟩
      · rw [← e1, e43_2]
        simp only [e43_3, e43_4, (e43_7L (hs := s1)), e43_8, e43_11, e43_12, e43_13, e43_16, e43_17, e43_18, e43_21, e43_22, e43_25, e43_26, (e43_27 (hs := s1)), e43_28, e43_31, hw, q_of, q_le (show 64 < 2147483648 by decide) (show j < 2147483648 by omega), show ¬ 64 ≤ j by omega, if_false, hne, hjT, q_lt0 (show j < 2147483648 by omega), q_cl (show j < 2147483648 by omega), or_false, nI_1]
      · by_cases e : h = j
        · subst e
          rw [k1 h (by omega), hL_uLs, if_neg hjT]
          rfl
        · exact g1 h (by omega) h2
      · rw [k1 h (by omega), hL_uLn (by omega)]
theorem c_keep {H : kH} {w s : Nat} {W : Nat → Nat} (hw : pW H w s W) {x : Int32} (hx : x = -1 ∨ ∃ t, t < 64 ∧ x = nI t) : ∃ H', ev 43 0 [.ref 4, .int x, .null] [] H = some (none, H') ∧ kFr (fun k _ => k = 24 ∨ k = 25) H H' ∧ pW H' w s (qKeep W x) := by
  obtain ⟨s1, -⟩ := pW_w hw
  rcases hx with rfl | ⟨T, hT, rfl⟩
  · refine ⟨H, ?_, kFr.rf, ⟨hw.1, hw.2.1, hw.2.2.1, fun h hh => ?_⟩⟩
    · simp only [e43_0, e43_1]
      rw [show (0 : Int32) = nI 0 from rfl, e43_2]
      simp only [e43_3, e43_4, (e43_7L (hs := s1)), e43_8, e43_11, e43_12, e43_13, e43_34, hw.2.1, q_of, q_le (show 64 < 2147483648 by decide) (show 0 < 2147483648 by decide), show ¬ 64 ≤ 0 by decide, if_false, tm1, if_true]
    · unfold qKeep
      rw [if_pos rfl]
      exact hw.2.2.2 h hh
  · have hne : ¬ nI T = (-1 : Int32) := by
      intro z
      have := congrArg Int32.toInt z
      rw [nI_toInt (by omega)] at this
      have e : (-1 : Int32).toInt = -1 := rfl
      omega
    obtain ⟨H', e1, f1, g1, -⟩ := l_keep (s := s) (W := W) hT 64 0 H hw.2.1 hw.1 (fun h _ hh => hw.2.2.2 h hh) (by omega)
    have hw24 : w = 24 ∨ w = 25 := by rcases hw.1 with ⟨h, -⟩ | ⟨h, -⟩ <;> omega
    refine ⟨H', ?_, f1.mono (fun k _ z => by omega), ⟨hw.1, ((f1 4 6 (by omega)).2.2).trans hw.2.1, ((f1 4 7 (by omega)).2.2).trans hw.2.2.1, fun h hh => ?_⟩⟩
    · rw [← e1]
      simp only [e43_0, e43_1]
      rfl
    · unfold qKeep
      rw [if_neg hne]
      exact g1 h (by omega) hh
theorem c_stepBook (hV : vOK V) (h0 : 0 < vn V) {H : kH} (hq : cR H V) {w s : Nat} {W : Nat → Nat} (hw : pW H w s W) (num x : Int32) {y : Int32} (hy : y = -1 ∨ ∃ t, t < 64 ∧ y = nI t) : ∃ H0 H1 H2 H3 H4 H5, ev 43 0 [.ref 4, .int y, .null] [] H = some (none, H0) ∧ ev 45 0 [.ref 4, .int num, .int 0, .int x, .null, .null] [] H0 = some (none, H1) ∧ ev 46 0 [.ref 4, .ref 22, .null, .null, .null] [] H1 = some (none, H2) ∧ ev 45 0 [.ref 4, .int num, .int 8, .int x, .null, .null] [] H2 = some (none, H3) ∧ ev 46 0 [.ref 4, .ref 23, .null, .null, .null] [] H3 = some (none, H4) ∧ ev 48 0 [.ref 4, .null] [] H4 = some (none, H5) ∧ pW H5 s w (qbk (rW V num x 0) (rW V num x 8) V (qKeep W y)) ∧ kFr lC H H5 := by
  obtain ⟨H0, e0, f0, w0⟩ := c_keep hw hy
  have q0 := cR_fr (f0.mono (fun k _ z => by unfold sC; omega)) hq
  obtain ⟨H1, e1, f1, g1⟩ := c_weighW hV (show 0 < 64 by decide) num x q0
  have F1 : kFr (fun k _ => 19 ≤ k ∧ k ≤ 23) H0 H1 := f1.mono (fun k _ z => by omega)
  have q1 := cR_fr (F1.mono (fun k _ z => by unfold sC; omega)) q0
  obtain ⟨H2, e2, f2, g2⟩ := c_crown (t := qy V num 0) (u := qz x) (show shp 22 = (2, 6) from rfl) (Or.inl rfl) hV.2.1 h0 q1 g1
  have F2 : kFr (fun k _ => 19 ≤ k ∧ k ≤ 23) H0 H2 := F1.tr (f2.mono (fun k _ z => by omega))
  have q2 := cR_fr (F2.mono (fun k _ z => by unfold sC; omega)) q0
  obtain ⟨H3, e3, f3, g3⟩ := c_weighW hV (show 8 < 64 by decide) num x q2
  have F3 : kFr (fun k _ => 19 ≤ k ∧ k ≤ 23) H0 H3 := F2.tr (f3.mono (fun k _ z => by omega))
  have q3 := cR_fr (F3.mono (fun k _ z => by unfold sC; omega)) q0
  obtain ⟨H4, e4, f4, g4⟩ := c_crown (t := qy V num 8) (u := qz x) (show shp 23 = (2, 6) from rfl) (Or.inr rfl) hV.2.1 h0 q3 g3
  have F4 : kFr (fun k _ => 19 ≤ k ∧ k ≤ 23) H0 H4 := F3.tr (f4.mono (fun k _ z => by omega))
  have q4 := cR_fr (F4.mono (fun k _ z => by unfold sC; omega)) q0
  have w4 := pW_fr F4 (fun k _ z => by omega) w0
  obtain ⟨H5, e5, f5, g5⟩ := c_stepBack hV q4 w4 (rF := rW V num x 0) (rB := rW V num x 8) (fun p hp => by rw [(f4 22 p (by omega)).2.1, (f3 22 p (by omega)).2.1]; exact g2 p hp) g4 (fun p _ => Nat.lt_of_le_of_lt (rW_le hV _ _ _ _) (by decide)) (fun p _ => Nat.lt_of_le_of_lt (rW_le hV _ _ _ _) (by decide))
  exact ⟨H0, H1, H2, H3, H4, H5, e0, e1, e2, e3, e4, e5, g5, ((f0.mono (fun k _ z => by unfold lC; omega)).tr (F4.mono (fun k _ z => by unfold lC; omega))).tr (f5.mono (fun k _ z => by unfold lC; omega))⟩
theorem l_book1 (hV : vOK V) (h0 : 0 < vn V) (sx px : Int32) : ∀ m H w s W v4 v5, m ≤ vb V → cR H V → pW H w s W → ∃ H' w' s', ev 42 18 [.ref 4, .int sx, .int px, .int (nI m + (-1)), v4, v5] [] H = some (none, H') ∧ kFr lC H H' ∧ pW H' w' s' (qLB V sx px W m) := by
  have hb5 := hV.2.2.2.2.2.2.1
  intro m
  induction m with
  | zero =>
    intro H w s W v4 v5 hm hq hw
    refine ⟨H, w, s, ?_, kFr.rf, hw⟩
    rw [e42_18]
    simp only [e42_19, e42_102, show (nI 0 + (-1) < (0 : Int32)) = True from eq_true (by decide), if_true]
  | succ m ih =>
    intro H w s W v4 v5 hm hq hw
    obtain ⟨H0, H1, H2, H3, H4, H5, e0, e1, e2, e3, e4, e5, g, f4⟩ := c_stepBook hV h0 hq hw (vt V + nI m) (qBx sx px m) (hV.2.2.2.2.2.2.2 m (by omega))
    obtain ⟨H', w', s', k1, k2, k3⟩ := ih H5 s w _ (.int (vt V + nI m)) (.int (qBx sx px m)) (by omega) (cR_fr (f4.mono (fun k j => lC_sC)) hq) g
    refine ⟨H', w', s', ?_, f4.tr k2, k3⟩
    rw [← k1, e42_18]
    unfold qBx at e1 e3 ⊢
    by_cases hp : nI m = px
    · subst hp
      simp only [if_true] at e1 e3 ⊢
      simp only [e42_19, e42_22, e42_23, e42_26, e42_29, e42_30, e42_31, e42_33, e42_34, e42_35, e42_38, e42_39, e42_42, e42_43, e42_45, e42_46, e42_47, e42_50, e42_51, e42_54, e42_57, e42_58, e42_60, e42_61, e42_63, e42_66, e42_67, e42_68, e42_71, e42_74, e42_75, e42_77, e42_79, e42_81, e42_84, e42_85, e42_86, e42_89, e42_92, e42_93, e42_96, e42_99, pk_m1, q_lt0 (show m < 2147483648 by omega), if_false, c_hourNumber hq, c_toldAt hq hV (show m < vb V by omega), q_bs, q_tl, q_tn, q_cn, q_nn, not_true_eq_false, e0, e1, e2, e3, e4, e5]
    · simp only [if_neg hp] at e1 e3 ⊢
      simp only [e42_19, e42_22, e42_23, e42_26, e42_29, e42_30, e42_31, e42_33, e42_34, e42_35, e42_38, e42_39, e42_42, e42_43, e42_45, e42_46, e42_47, e42_50, e42_51, e42_54, e42_57, e42_58, e42_60, e42_61, e42_63, e42_66, e42_67, e42_68, e42_71, e42_74, e42_75, e42_77, e42_79, e42_81, e42_84, e42_85, e42_86, e42_89, e42_92, e42_93, e42_96, e42_99, pk_m1, q_lt0 (show m < 2147483648 by omega), if_false, c_hourNumber hq, c_toldAt hq hV (show m < vb V by omega), q_bs, q_tl, q_tn, q_cn, q_nn, hp, not_false_eq_true, if_true, e0, e1, e2, e3, e4, e5]
theorem c_lookBook (hV : vOK V) (h0 : 0 < vn V) {H : kH} (hq : cR H V) (hw : wR H) (sx px : Int32) : ∃ H' w s, ev 42 0 [.ref 4, .int sx, .int px, .null, .null, .null] [] H = some (none, H') ∧ kFr lC H H' ∧ pW H' w s (qLB V sx px (fun _ => 1) (vb V)) := by
  obtain ⟨w, s, hws, h6, h7⟩ : ∃ w s, ((w = 24 ∧ s = 25) ∨ (w = 25 ∧ s = 24)) ∧ hR H 4 6 = w ∧ hR H 4 7 = s := by
    rcases hw with ⟨a, b⟩ | ⟨a, b⟩
    · exact ⟨24, 25, Or.inl ⟨rfl, rfl⟩, a, b⟩
    · exact ⟨25, 24, Or.inr ⟨rfl, rfl⟩, a, b⟩
  have s1 : shp w = (2, 64) := by rcases hws with ⟨rfl, -⟩ | ⟨rfl, -⟩ <;> rfl
  obtain ⟨H1, e1, f1, g1⟩ := c_fillL s1 (by decide) 1 H
  have hq1 : cR H1 V := cR_fr (f1.mono (fun k _ z => by unfold sC; omega)) hq
  have hw1 : pW H1 w s (fun _ => 1) := ⟨hws, ((f1 4 6 (by omega)).2.2).trans h6, ((f1 4 7 (by omega)).2.2).trans h7, fun h hh => (g1 h hh).trans rfl⟩
  obtain ⟨H', w', s', e2, f2, g2⟩ := l_book1 hV h0 sx px (vb V) H1 w s _ .null .null (Nat.le_refl _) hq1 hw1
  refine ⟨H', w', s', ?_, (f1.mono (fun k _ z => by unfold lC; omega)).tr f2, g2⟩
  rw [← e2]
  simp only [e42_0, e42_1, e42_4, e42_5, e42_8, e42_9, e42_12, e42_15, e42_16, e42_17, h6, e1, q_bs, q_tl, q_tn, q_cn, q_nn, c_toldHours hq1, q_pm1]
end KLM
