/-! the model: image, restore, count -/
section KMG
theorem l_mcopy {k1 k2 n : Nat} (hs1 : shp k1 = (1, n)) (hs2 : shp k2 = (1, n)) (hn : n < 2147483648) (hk : k2 ≠ k1) {f : Nat → Int32} : ∀ i j H, j + i = n → (∀ q, q < n → hI H k1 q = f q) → (∀ q, q < j → hI H k2 q = f q) → ∃ H', ev 144 2 [.ref k1, .ref k2, .int (nI j)] [] H = some (none, H') ∧ kFr (fun a _ => a = k2) H H' ∧ ∀ q, q < n → hI H' k2 q = f q := by
  intro i
  induction i with
  | zero =>
    intro j H hj h1 h2
    have : j = n := by omega
    subst this
    refine ⟨H, ?_, kFr.rf, h2⟩
    rw [e144_2]
    simp only [e144_3, e144_4 (hs := hs1), e144_5, e144_20, q_of, Std.le_refl, if_true]
  | succ i ih =>
    intro j H hj h1 h2
    have f0 : kFr (fun a _ => a = k2) H (uI H k2 j (f j)) := kFr_uI (P := fun a _ => a = k2) rfl
    obtain ⟨H', e1, f1, g1⟩ := ih (j + 1) (uI H k2 j (f j)) (by omega) (fun q hq => by rw [hI_uIn (fun z => hk z.1.symm)]; exact h1 q hq) (fun q hq => by
      by_cases e : q = j
      · subst e
        rw [hI_uIs]
      · rw [hI_uIn (by omega)]
        exact h2 q (by omega))
    refine ⟨H', ?_, f0.tr f1, g1⟩
    rw [← e1, e144_2]
    simp only [e144_3, e144_4 (hs := hs1), e144_5, e144_8, e144_9, e144_10, e144_11, e144_12 (hs := hs1), e144_13 (hs := hs2), e144_14, e144_17, q_of, q_le hn (show j < 2147483648 by omega), show ¬ n ≤ j by omega, if_false, q_lt0 (show j < 2147483648 by omega), q_cl (show j < 2147483648 by omega), or_self, h1 j (by omega), nI_1]
theorem m_copy {k1 k2 n : Nat} (hs1 : shp k1 = (1, n)) (hs2 : shp k2 = (1, n)) (hn : n < 2147483648) (hk : k2 ≠ k1) (H : kH) : ∃ H', ev 144 0 [.ref k1, .ref k2, .null] [] H = some (none, H') ∧ kFr (fun a _ => a = k2) H H' ∧ ∀ q, q < n → hI H' k2 q = hI H k1 q := by
  obtain ⟨H', e1, f1, g1⟩ := l_mcopy hs1 hs2 hn hk (f := hI H k1) n 0 H (by omega) (fun _ _ => rfl) (fun q hq => absurd hq (by omega))
  refine ⟨H', ?_, f1, g1⟩
  rw [← e1]
  simp only [e144_0, e144_1]
  rfl
variable {H : kH} {S : kS}
theorem y_image (hq : MR H S) (ho : sOK S) : ∃ H1, ev 145 0 [.ref 27] [] H = some (some (.int (fImage S)), H1) ∧ MR H1 (tImage S) ∧ kFr mC H H1 := by
  have hR := hq.1
  have hV := ho.1
  have h5 := hV.2.1
  have hb5 := hV.2.2.2.2.2.2.1
  unfold fImage tImage
  by_cases h0 : vn (sV S) = 0
  · rw [if_pos h0, if_pos h0]
    refine ⟨H, ?_, hq, kFr.rf⟩
    simp only [e145_0, e145_1, e145_4, e145_7, e145_9, m_lacks0 hR hV h0, q_bs, q_tl, q_cn, t10, if_false]
  · rw [if_neg h0, if_neg h0]
    obtain ⟨H1, e1, f1, g1⟩ := m_copy (show shp 29 = (1, 20) from rfl) (show shp 36 = (1, 20) from rfl) (by decide) (by decide) H
    obtain ⟨H2, e2, f2, g2⟩ := m_copy (show shp 34 = (1, 5) from rfl) (show shp 37 = (1, 5) from rfl) (by decide) (by decide) H1
    have F2 : kFr (fun k _ => k = 36 ∨ k = 37) H H2 := (f1.mono (fun k j z => by omega)).tr (f2.mono (fun k j z => by omega))
    have i3 : hI H2 27 3 = vd (sV S) := ((F2 27 3 (by omega)).1).trans (MV_d hR)
    have i4 : hI H2 27 4 = vp (sV S) := ((F2 27 4 (by omega)).1).trans (MV_p hR)
    have i5 : hI H2 27 5 = nI (vh (sV S)) := ((F2 27 5 (by omega)).1).trans (MV_h hR)
    have i6 : hI H2 27 6 = vt (sV S) := ((F2 27 6 (by omega)).1).trans (MV_t hR)
    have i13 : hI H2 27 13 = nI (vb (sV S)) := ((F2 27 13 (by omega)).1).trans (MV_b hR)
    have i7 : hI H2 27 7 = nI (sr S) := ((F2 27 7 (by omega)).1).trans hq.2.2.1
    have n27 : ∀ {H : kH} {a b : Nat} {v : Int32}, a ≠ b → hI (uI H 27 b v) 27 a = hI H 27 a := fun {H a b v} z => hI_uIn (fun y => z y.2)
    have F : kFr (fun k j => (k = 27 ∧ 17 ≤ j ∧ j ≤ 22) ∨ k = 36 ∨ k = 37) H (uI (uI (uI (uI (uI (uI H2 27 18 (vd (sV S))) 27 19 (vp (sV S))) 27 20 (nI (vh (sV S)))) 27 21 (vt (sV S))) 27 22 (nI (vb (sV S)))) 27 17 (nI (sr S))) := ((((((F2.mono (fun k j z => by omega)).tr (kFr_uI (by omega))).tr (kFr_uI (by omega))).tr (kFr_uI (by omega))).tr (kFr_uI (by omega))).tr (kFr_uI (by omega))).tr (kFr_uI (by omega))
    have up : ∀ {k j : Nat}, k ≠ 27 → hI (uI (uI (uI (uI (uI (uI H2 27 18 (vd (sV S))) 27 19 (vp (sV S))) 27 20 (nI (vh (sV S)))) 27 21 (vt (sV S))) 27 22 (nI (vb (sV S)))) 27 17 (nI (sr S))) k j = hI H2 k j := by
      intro k j z
      rw [hI_uIn (fun y => z y.1), hI_uIn (fun y => z y.1), hI_uIn (fun y => z y.1), hI_uIn (fun y => z y.1), hI_uIn (fun y => z y.1), hI_uIn (fun y => z y.1)]
    refine ⟨_, ?_, ⟨MV_fr F (fun k j z => by unfold mN at z; omega) hR, mP_fr F (fun k j z => by unfold mG at z; omega) hq.2.1, ?_, fun _ => ⟨hI_uIs _ _ _ _, fun j hj => ?_, ?_, ?_, ?_, ?_, ?_, fun j hj => ?_⟩, fun z => absurd (show (1 : Nat) = 0 from z) (by decide)⟩, F.mono (fun k j z => by unfold mC; omega)⟩
    · simp only [e145_0, e145_1, e145_4, e145_7, e145_9, e145_10, e145_11, e145_14, e145_15, e145_18, e145_21, e145_22, e145_25, e145_26, e145_29, e145_32, e145_33, e145_34, e145_37, e145_40, e145_41, e145_42, e145_45, e145_48, e145_49, e145_50, e145_53, e145_56, e145_57, e145_58, e145_61, e145_64, e145_65, e145_66, e145_69, e145_72, e145_73, e145_74, e145_77, e145_80, e145_81, e145_84, m_lacks1 hR hV h0, q_bs, q_tl, q_tn, q_cn, q_nn, if_true, e1, e2, i3, i4, i5, i6, i7, i13, n27 (show (4 : Nat) ≠ 18 by decide), n27 (show (5 : Nat) ≠ 18 by decide), n27 (show (5 : Nat) ≠ 19 by decide), n27 (show (6 : Nat) ≠ 18 by decide), n27 (show (6 : Nat) ≠ 19 by decide), n27 (show (6 : Nat) ≠ 20 by decide), n27 (show (13 : Nat) ≠ 18 by decide), n27 (show (13 : Nat) ≠ 19 by decide), n27 (show (13 : Nat) ≠ 20 by decide), n27 (show (13 : Nat) ≠ 21 by decide), n27 (show (7 : Nat) ≠ 18 by decide), n27 (show (7 : Nat) ≠ 19 by decide), n27 (show (7 : Nat) ≠ 20 by decide), n27 (show (7 : Nat) ≠ 21 by decide), n27 (show (7 : Nat) ≠ 22 by decide), n27 (show (6 : Nat) ≠ 21 by decide), n27 (show (6 : Nat) ≠ 22 by decide), n27 (show (6 : Nat) ≠ 17 by decide)]
    · rw [(F 27 7 (by omega)).1]
      exact hq.2.2.1
    · have hj : j < vn (sV S) := hj
      rw [up (by decide), up (by decide), up (by decide), up (by decide), (f2 _ _ (by omega)).1, (f2 _ _ (by omega)).1, (f2 _ _ (by omega)).1, (f2 _ _ (by omega)).1, g1 _ (by omega), g1 _ (by omega), g1 _ (by omega), g1 _ (by omega)]
      exact hR.2.1 j hj
    · rw [n27 (by decide), n27 (by decide), n27 (by decide), n27 (by decide), n27 (by decide), hI_uIs]
      rfl
    · rw [n27 (by decide), n27 (by decide), n27 (by decide), n27 (by decide), hI_uIs]
      rfl
    · rw [n27 (by decide), n27 (by decide), n27 (by decide), hI_uIs]
      rfl
    · rw [n27 (by decide), n27 (by decide), hI_uIs]
      rfl
    · rw [n27 (by decide), hI_uIs]
      rfl
    · have hj : j < vb (sV S) := hj
      rw [up (by decide), g2 _ (by omega), (f1 _ _ (by omega)).1]
      exact MV_B hR hj
theorem y_restore (hq : MR H S) (ho : sOK S) : ∃ H1, ev 146 0 [.ref 27] [] H = some (some (.int (fRestore S)), H1) ∧ MR H1 (tRestore S) ∧ kFr mC H H1 := by
  have hR := hq.1
  have hr := ho.2.2.2
  unfold fRestore tRestore
  by_cases h0 : sz S = 0
  · rw [if_pos h0, if_pos h0]
    refine ⟨H, ?_, hq, kFr.rf⟩
    have hne : (hI H 27 17 = nI (sr S)) = False := by
      rcases hq.2.2.2.2 h0 with e | ⟨r, hr2, e⟩
      · rw [e]
        refine eq_false (fun z => ?_)
        have := z.symm
        rw [q_m1ne (by omega)] at this
        exact this
      · rw [e, q_eq (by omega) (by omega)]
        exact eq_false (by omega)
    simp only [e146_0, e146_1, e146_4, e146_5, e146_8, e146_11, e146_13, hq.2.2.1, hne, if_false]
  · rw [if_neg h0, if_neg h0]
    have h1 : sz S = 1 := by have := ho.2.1; omega
    obtain ⟨k1, k2, k3, k4⟩ := ho.2.2.1 h1
    obtain ⟨b1, b2, b3, b4, b5, b6, b7, b8⟩ := hq.2.2.2.1 h1
    have h5 := k1.2.1
    have hb5 := k1.2.2.2.2.2.2.1
    obtain ⟨H1, e1, f1, g1⟩ := m_copy (show shp 36 = (1, 20) from rfl) (show shp 29 = (1, 20) from rfl) (by decide) (by decide) H
    obtain ⟨H2, e2, f2, g2⟩ := m_copy (show shp 37 = (1, 5) from rfl) (show shp 34 = (1, 5) from rfl) (by decide) (by decide) H1
    have F2 : kFr (fun k _ => k = 29 ∨ k = 34) H H2 := (f1.mono (fun k j z => by omega)).tr (f2.mono (fun k j z => by omega))
    have i18 : hI H2 27 18 = vd (sK S) := ((F2 27 18 (by omega)).1).trans b3
    have i19 : hI H2 27 19 = vp (sK S) := ((F2 27 19 (by omega)).1).trans b4
    have i20 : hI H2 27 20 = nI (vh (sK S)) := ((F2 27 20 (by omega)).1).trans b5
    have i21 : hI H2 27 21 = vt (sK S) := ((F2 27 21 (by omega)).1).trans b6
    have i22 : hI H2 27 22 = nI (vb (sK S)) := ((F2 27 22 (by omega)).1).trans b7
    have n27 : ∀ {H : kH} {a b : Nat} {v : Int32}, a ≠ b → hI (uI H 27 b v) 27 a = hI H 27 a := fun {H a b v} z => hI_uIn (fun y => z y.2)
    have F : kFr mN H (uI (uI (uI (uI (uI H2 27 3 (vd (sK S))) 27 4 (vp (sK S))) 27 5 (nI (vh (sK S)))) 27 6 (vt (sK S))) 27 13 (nI (vb (sK S)))) := (((((F2.mono (fun k j z => by unfold mN; omega)).tr (kFr_uI (by unfold mN; omega))).tr (kFr_uI (by unfold mN; omega))).tr (kFr_uI (by unfold mN; omega))).tr (kFr_uI (by unfold mN; omega))).tr (kFr_uI (by unfold mN; omega))
    have up : ∀ {k j : Nat}, k ≠ 27 → hI (uI (uI (uI (uI (uI H2 27 3 (vd (sK S))) 27 4 (vp (sK S))) 27 5 (nI (vh (sK S)))) 27 6 (vt (sK S))) 27 13 (nI (vb (sK S)))) k j = hI H2 k j := by
      intro k j z
      rw [hI_uIn (fun y => z y.1), hI_uIn (fun y => z y.1), hI_uIn (fun y => z y.1), hI_uIn (fun y => z y.1), hI_uIn (fun y => z y.1)]
    refine ⟨_, ?_, MR_now F hq ⟨?_, fun j hj => ?_, ?_, ?_, ?_, ?_, ?_, fun j hj => ?_⟩, F.mono (fun _ _ => mN_mC)⟩
    · simp only [e146_0, e146_1, e146_4, e146_5, e146_8, e146_11, e146_13, e146_14, e146_15, e146_18, e146_19, e146_22, e146_25, e146_26, e146_29, e146_30, e146_33, e146_36, e146_37, e146_38, e146_41, e146_44, e146_45, e146_46, e146_49, e146_52, e146_53, e146_54, e146_57, e146_60, e146_61, e146_62, e146_65, e146_68, e146_69, e146_70, e146_73, e146_76, e146_77, e146_80, hq.2.2.1, b1, if_true, e1, e2, q_bs, q_tl, q_tn, q_cn, q_nn, i18, i19, i20, i21, i22, n27 (show (19 : Nat) ≠ 3 by decide), n27 (show (20 : Nat) ≠ 3 by decide), n27 (show (20 : Nat) ≠ 4 by decide), n27 (show (21 : Nat) ≠ 3 by decide), n27 (show (21 : Nat) ≠ 4 by decide), n27 (show (21 : Nat) ≠ 5 by decide), n27 (show (22 : Nat) ≠ 3 by decide), n27 (show (22 : Nat) ≠ 4 by decide), n27 (show (22 : Nat) ≠ 5 by decide), n27 (show (22 : Nat) ≠ 6 by decide), n27 (show (6 : Nat) ≠ 13 by decide), hI_uIs]
    · rw [n27 (by decide), n27 (by decide), n27 (by decide), n27 (by decide), n27 (by decide), (F2 27 2 (by omega)).1, k2]
      exact hR.1
    · rw [up (by decide), up (by decide), up (by decide), up (by decide), (f2 _ _ (by omega)).1, (f2 _ _ (by omega)).1, (f2 _ _ (by omega)).1, (f2 _ _ (by omega)).1, g1 _ (by omega), g1 _ (by omega), g1 _ (by omega), g1 _ (by omega)]
      exact b2 j hj
    · rw [n27 (by decide), n27 (by decide), n27 (by decide), n27 (by decide), hI_uIs]
    · rw [n27 (by decide), n27 (by decide), n27 (by decide), hI_uIs]
    · rw [n27 (by decide), n27 (by decide), hI_uIs]
    · rw [n27 (by decide), hI_uIs]
    · rw [hI_uIs]
    · rw [up (by decide), g2 _ (by omega), (f1 _ _ (by omega)).1]
      exact b8 j hj
/-- what is counted -/
def qPc (h : Nat) : Nat → Nat
  | 0 => 0
  | l + 1 => qPc h l + h / 2 ^ l % 2
theorem qPc_6 : ∀ h, h < 64 → qPc h 6 = qP h := by decide +kernel
theorem q_bitN : ∀ h, h < 64 → ∀ l, l < 6 → (nI h >>> (nI l &&& 31)) &&& 1 = nI (h / 2 ^ l % 2) := by decide +kernel
theorem l_mkings {V : kV} (hv : MV H V) (hV : vOK V) (x1 : Int32) : ∀ i j, j + i = vn V → ev 147 4 [.ref 27, .int x1, .int (bx_sum (vr V) j), .int (nI j), .null] [] H = ev 147 31 [.ref 27, .int x1, .int (bx_sum (vr V) (vn V)), .int (nI (vn V)), .null] [] H := by
  have h5 := hV.2.1
  intro i
  induction i with
  | zero =>
    intro j hj
    have : j = vn V := by omega
    subst this
    rw [e147_4]
    simp only [e147_5, e147_6, e147_9, hv.1, Std.le_refl, if_true]
  | succ i ih =>
    intro j hj
    rw [← ih (j + 1) (by omega), e147_4]
    simp only [e147_5, e147_6, e147_9, e147_12, e147_13, e147_14, e147_17, e147_18, e147_19, e147_20, e147_21, e147_22, e147_23, e147_24, e147_25, e147_28, hv.1, q_le (show vn V < 2147483648 by omega) (show j < 2147483648 by omega), show ¬ vn V ≤ j by omega, if_false, show (4 : Int32) = nI 4 from rfl, show (3 : Int32) = nI 3 from rfl, q_mul, q_add, q_lt0 (show 4 * j + 3 < 2147483648 by omega), q_cl (show 4 * j + 3 < 2147483648 by omega), show ¬ 20 ≤ 4 * j + 3 by omega, or_self, MV_r hv (show j < vn V by omega), nI_1, bx_sum]
theorem l_mhold {V : kV} (hv : MV H V) (hV : vOK V) (x1 x2 : Int32) : ∀ i j, j + i = 6 → ev 147 36 [.ref 27, .int x1, .int x2, .int (nI (qPc (vh V) j)), .int (nI j)] [] H = ev 147 61 [.ref 27, .int x1, .int x2, .int (nI (qP (vh V))), .int (nI 6)] [] H := by
  have hh := hV.2.2.2.2.2.1
  intro i
  induction i with
  | zero =>
    intro j hj
    have : j = 6 := by omega
    subst this
    rw [e147_36, qPc_6 _ hh]
    simp only [e147_38, e147_40, show (6 : Int32) = nI 6 from rfl, Std.le_refl, if_true]
  | succ i ih =>
    intro j hj
    rw [← ih (j + 1) (by omega), e147_36]
    simp only [e147_38, e147_40, e147_43, e147_44, e147_45, e147_48, e147_50, e147_51, e147_52, e147_53, e147_54, e147_55, e147_58, show (6 : Int32) = nI 6 from rfl, q_le (show 6 < 2147483648 by decide) (show j < 2147483648 by omega), show ¬ 6 ≤ j by omega, if_false, MV_h hv, q_bitN _ hh j (show j < 6 by omega), q_add, nI_1, qPc]
theorem m_countOf (hq : MR H S) (ho : sOK S) (w : Int32) : ev 147 0 [.ref 27, .int w, .null, .null, .null] [] H = some (some (.int (fCount S w)), H) := by
  have hR := hq.1
  have hV := ho.1
  have e61 : ev 147 0 [.ref 27, .int w, .null, .null, .null] [] H = ev 147 61 [.ref 27, .int w, .int (bx_sum (vr (sV S)) (vn (sV S))), .int (nI (qP (vh (sV S)))), .int (nI 6)] [] H := by
    have ea : ev 147 0 [.ref 27, .int w, .null, .null, .null] [] H = ev 147 4 [.ref 27, .int w, .int (bx_sum (vr (sV S)) 0), .int (nI 0), .null] [] H := by
      simp only [e147_0, e147_1, e147_2, e147_3]
      rfl
    have eb : ev 147 31 [.ref 27, .int w, .int (bx_sum (vr (sV S)) (vn (sV S))), .int (nI (vn (sV S))), .null] [] H = ev 147 36 [.ref 27, .int w, .int (bx_sum (vr (sV S)) (vn (sV S))), .int (nI (qPc (vh (sV S)) 0)), .int (nI 0)] [] H := by
      simp only [e147_31, e147_32, e147_33, e147_34]
      rfl
    rw [ea, l_mkings hR hV w (vn (sV S)) 0 (by omega), eb, l_mhold hR hV w _ 6 0 (by omega)]
  rw [e61]
  unfold fCount
  rcases q_case w (show 9 < 2147483648 by decide) with hw | hw | ⟨k, hk, rfl⟩
  · rw [qSel_lo hw, e147_61, e147_62_d (h := Or.inl (q_toInt_lo hw))]
    simp only [e147_151, e147_153]
  · rw [qSel_hi hw, e147_61, e147_62_d (h := Or.inr (by have := q_toInt_hi (show 9 < 2147483648 by decide) hw; omega))]
    simp only [e147_151, e147_153]
  · rw [qSel_in hk (by decide)]
    rcases (show k = 0 ∨ k = 1 ∨ k = 2 ∨ k = 3 ∨ k = 4 ∨ k = 5 ∨ k = 6 ∨ k = 7 ∨ k = 8 by omega) with rfl | rfl | rfl | rfl | rfl | rfl | rfl | rfl | rfl
    · simp only [show nI 0 = (0 : Int32) from rfl, e147_61, e147_62_0, e147_62_1, e147_62_2, e147_62_3, e147_62_4, e147_62_5, e147_62_6, e147_62_7, e147_62_8, e147_62_d, e147_112, e147_113, e147_116, e147_117, e147_118, e147_121, e147_122, e147_123, e147_126, e147_127, e147_128, e147_129, e147_130, e147_133, e147_134, e147_135, e147_136, e147_137, e147_140, e147_141, e147_142, e147_145, e147_146, e147_147, e147_150, e147_151, e147_153, hR.1, if_true]
    · simp only [show nI 1 = (1 : Int32) from rfl, e147_61, e147_62_0, e147_62_1, e147_62_2, e147_62_3, e147_62_4, e147_62_5, e147_62_6, e147_62_7, e147_62_8, e147_62_d, e147_112, e147_113, e147_116, e147_117, e147_118, e147_121, e147_122, e147_123, e147_126, e147_127, e147_128, e147_129, e147_130, e147_133, e147_134, e147_135, e147_136, e147_137, e147_140, e147_141, e147_142, e147_145, e147_146, e147_147, e147_150, e147_151, e147_153, MV_d hR, if_true, Nat.one_ne_zero, if_false]
    · simp only [show nI 2 = (2 : Int32) from rfl, e147_61, e147_62_0, e147_62_1, e147_62_2, e147_62_3, e147_62_4, e147_62_5, e147_62_6, e147_62_7, e147_62_8, e147_62_d, e147_112, e147_113, e147_116, e147_117, e147_118, e147_121, e147_122, e147_123, e147_126, e147_127, e147_128, e147_129, e147_130, e147_133, e147_134, e147_135, e147_136, e147_137, e147_140, e147_141, e147_142, e147_145, e147_146, e147_147, e147_150, e147_151, e147_153, MV_p hR, if_true, show ¬ (2 : Nat) = 0 by decide, show ¬ (2 : Nat) = 1 by decide, if_false]
    · simp only [show nI 3 = (3 : Int32) from rfl, e147_61, e147_62_0, e147_62_1, e147_62_2, e147_62_3, e147_62_4, e147_62_5, e147_62_6, e147_62_7, e147_62_8, e147_62_d, e147_112, e147_113, e147_116, e147_117, e147_118, e147_121, e147_122, e147_123, e147_126, e147_127, e147_128, e147_129, e147_130, e147_133, e147_134, e147_135, e147_136, e147_137, e147_140, e147_141, e147_142, e147_145, e147_146, e147_147, e147_150, e147_151, e147_153, if_true, show ¬ (3 : Nat) = 0 by decide, show ¬ (3 : Nat) = 1 by decide, show ¬ (3 : Nat) = 2 by decide, if_false]
    · simp only [show nI 4 = (4 : Int32) from rfl, e147_61, e147_62_0, e147_62_1, e147_62_2, e147_62_3, e147_62_4, e147_62_5, e147_62_6, e147_62_7, e147_62_8, e147_62_d, e147_112, e147_113, e147_116, e147_117, e147_118, e147_121, e147_122, e147_123, e147_126, e147_127, e147_128, e147_129, e147_130, e147_133, e147_134, e147_135, e147_136, e147_137, e147_140, e147_141, e147_142, e147_145, e147_146, e147_147, e147_150, e147_151, e147_153, MV_t hR, if_true, show ¬ (4 : Nat) = 0 by decide, show ¬ (4 : Nat) = 1 by decide, show ¬ (4 : Nat) = 2 by decide, show ¬ (4 : Nat) = 3 by decide, if_false]
    · simp only [show nI 5 = (5 : Int32) from rfl, e147_61, e147_62_0, e147_62_1, e147_62_2, e147_62_3, e147_62_4, e147_62_5, e147_62_6, e147_62_7, e147_62_8, e147_62_d, e147_112, e147_113, e147_116, e147_117, e147_118, e147_121, e147_122, e147_123, e147_126, e147_127, e147_128, e147_129, e147_130, e147_133, e147_134, e147_135, e147_136, e147_137, e147_140, e147_141, e147_142, e147_145, e147_146, e147_147, e147_150, e147_151, e147_153, if_true, show ¬ (5 : Nat) = 0 by decide, show ¬ (5 : Nat) = 1 by decide, show ¬ (5 : Nat) = 2 by decide, show ¬ (5 : Nat) = 3 by decide, show ¬ (5 : Nat) = 4 by decide, if_false]
    · simp only [show nI 6 = (6 : Int32) from rfl, e147_61, e147_62_0, e147_62_1, e147_62_2, e147_62_3, e147_62_4, e147_62_5, e147_62_6, e147_62_7, e147_62_8, e147_62_d, e147_112, e147_113, e147_116, e147_117, e147_118, e147_121, e147_122, e147_123, e147_126, e147_127, e147_128, e147_129, e147_130, e147_133, e147_134, e147_135, e147_136, e147_137, e147_140, e147_141, e147_142, e147_145, e147_146, e147_147, e147_150, e147_151, e147_153, MV_b hR, if_true, show ¬ (6 : Nat) = 0 by decide, show ¬ (6 : Nat) = 1 by decide, show ¬ (6 : Nat) = 2 by decide, show ¬ (6 : Nat) = 3 by decide, show ¬ (6 : Nat) = 4 by decide, show ¬ (6 : Nat) = 5 by decide, if_false]
    · simp only [show nI 7 = (7 : Int32) from rfl, e147_61, e147_62_0, e147_62_1, e147_62_2, e147_62_3, e147_62_4, e147_62_5, e147_62_6, e147_62_7, e147_62_8, e147_62_d, e147_112, e147_113, e147_116, e147_117, e147_118, e147_121, e147_122, e147_123, e147_126, e147_127, e147_128, e147_129, e147_130, e147_133, e147_134, e147_135, e147_136, e147_137, e147_140, e147_141, e147_142, e147_145, e147_146, e147_147, e147_150, e147_151, e147_153, hq.2.1.1, if_true, show ¬ (7 : Nat) = 0 by decide, show ¬ (7 : Nat) = 1 by decide, show ¬ (7 : Nat) = 2 by decide, show ¬ (7 : Nat) = 3 by decide, show ¬ (7 : Nat) = 4 by decide, show ¬ (7 : Nat) = 5 by decide, show ¬ (7 : Nat) = 6 by decide, if_false]
    · simp only [show nI 8 = (8 : Int32) from rfl, e147_61, e147_62_0, e147_62_1, e147_62_2, e147_62_3, e147_62_4, e147_62_5, e147_62_6, e147_62_7, e147_62_8, e147_62_d, e147_112, e147_113, e147_116, e147_117, e147_118, e147_121, e147_122, e147_123, e147_126, e147_127, e147_128, e147_129, e147_130, e147_133, e147_134, e147_135, e147_136, e147_137, e147_140, e147_141, e147_142, e147_145, e147_146, e147_147, e147_150, e147_151, e147_153, hq.2.2.1, if_true, show ¬ (8 : Nat) = 0 by decide, show ¬ (8 : Nat) = 1 by decide, show ¬ (8 : Nat) = 2 by decide, show ¬ (8 : Nat) = 3 by decide, show ¬ (8 : Nat) = 4 by decide, show ¬ (8 : Nat) = 5 by decide, show ¬ (8 : Nat) = 6 by decide, show ¬ (8 : Nat) = 7 by decide, if_false]
theorem y_count (hq : MR H S) (ho : sOK S) (w : Int32) : ev 148 0 [.ref 27, .int w] [] H = some (some (.int (fCount S w)), H) := by
  simp only [e148_0, e148_1, e148_2, e148_5, m_countOf hq ho, q_bs, q_tl, q_cn]
end KMG
