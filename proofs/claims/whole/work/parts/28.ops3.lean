/-! image, restore, council -/
def tImage (S : kS) : kS := if vn (sV S) = 0 then S else (sV S, sn S, sg S, sr S, 1, sV S)
def fImage (S : kS) : Int32 := if vn (sV S) = 0 then -103 else vt (sV S)
def tRestore (S : kS) : kS := if sz S = 0 then S else ssV S (sK S)
def fRestore (S : kS) : Int32 := if sz S = 0 then -103 else vt (sK S)
theorem sh1 : shp 1 = (0, 0) := rfl
theorem sh2 : shp 2 = (0, 0) := rfl
theorem k38_1 : (1 : Nat) < 38 := by decide
theorem k38_2 : (2 : Nat) < 38 := by decide
theorem sr11 : sref 1 1 = 7 := by decide +kernel
theorem sr12 : sref 1 2 = 8 := by decide +kernel
theorem sr13 : sref 1 3 = 9 := by decide +kernel
theorem sr15 : sref 1 5 = 11 := by decide +kernel
theorem sr21 : sref 2 1 = 13 := by decide +kernel
theorem sr22 : sref 2 2 = 14 := by decide +kernel
theorem sr23 : sref 2 3 = 15 := by decide +kernel
theorem sr25 : sref 2 5 = 17 := by decide +kernel
theorem pz01 {x : Int32} (h : x = 0 ∨ x = 1) : (x = 0 ∨ x = 1) = True := eq_true h
section KOC
variable {H : kH} {S : kS}
/-- from the council now to the one kept -/
theorem c_take21 {V : kV} (hR : cR H V) (hV : vOK V) : ∃ H1, ev 1 0 [.ref 2, .ref 1] [] H = some (none, H1) ∧ cK H1 V ∧ kFr (fun k _ => k = 2 ∨ (13 ≤ k ∧ k ≤ 17)) H H1 := by
  have h5 := hV.2.1
  have hb5 := hV.2.2.2.2.2.2.1
  have hp := hV.2.2.2.2.1
  obtain ⟨H1, e1, f1, g1⟩ := c_copy (show shp 7 = (1, 5) from rfl) (show shp 13 = (1, 5) from rfl) (by decide) (by decide) H
  obtain ⟨H2, e2, f2, g2⟩ := c_copy (show shp 8 = (1, 5) from rfl) (show shp 14 = (1, 5) from rfl) (by decide) (by decide) H1
  obtain ⟨H3, e3, f3, g3⟩ := c_copy (show shp 9 = (1, 5) from rfl) (show shp 15 = (1, 5) from rfl) (by decide) (by decide) H2
  obtain ⟨H4, e4, f4, g4⟩ := c_copy (show shp 11 = (1, 5) from rfl) (show shp 17 = (1, 5) from rfl) (by decide) (by decide) H3
  have F : kFr (fun k _ => 13 ≤ k ∧ k ≤ 17) H H4 := (((f1.mono (fun k j z => by omega)).tr (f2.mono (fun k j z => by omega))).tr (f3.mono (fun k j z => by omega))).tr (f4.mono (fun k j z => by omega))
  have i7 : hI H4 1 7 = vd V := ((F 1 7 (by omega)).1).trans (cR_d hR)
  have i8 : hI H4 1 8 = vp V := ((F 1 8 (by omega)).1).trans (cR_p hR)
  have i9 : hI H4 1 9 = nI (vh V) := ((F 1 9 (by omega)).1).trans (cR_h hR)
  have i10 : hI H4 1 10 = vt V := ((F 1 10 (by omega)).1).trans (cR_t hR)
  have i11 : hI H4 1 11 = nI (vb V) := ((F 1 11 (by omega)).1).trans (cR_b hR)
  have n : ∀ {H : kH} {a : Nat} {v : Int32} {b : Nat}, hI (uI H 2 a v) 1 b = hI H 1 b := fun {H a v b} => hI_uIn (by omega)
  refine ⟨uI (uI (uI (uI (uI H4 2 7 (vd V)) 2 8 (vp V)) 2 9 (nI (vh V))) 2 10 (vt V)) 2 11 (nI (vb V)), ?_, ?_, ?_⟩
  · simp only [e1_0, (e1_1 (hs := sh1)), (e1_1 (hs := sh2)), e1_4, (e1_5 (hs := sh1)), (e1_5 (hs := sh2)), e1_8, e1_11, (e1_12 (hs := sh1)), (e1_12 (hs := sh2)), e1_15, (e1_16 (hs := sh1)), (e1_16 (hs := sh2)), e1_19, e1_22, (e1_23 (hs := sh1)), (e1_23 (hs := sh2)), e1_26, (e1_27 (hs := sh1)), (e1_27 (hs := sh2)), e1_30, e1_33, (e1_34 (hs := sh1)), (e1_34 (hs := sh2)), e1_37, (e1_38 (hs := sh1)), (e1_38 (hs := sh2)), e1_41, e1_44, e1_45, (e1_46 (hs := sh1)), (e1_46 (hs := sh2)), (e1_49 (hs := sh2) (hk := k38_2)), e1_52, e1_53, (e1_54 (hs := sh1)), (e1_54 (hs := sh2)), (e1_57 (hs := sh2) (hk := k38_2)), e1_60, e1_61, (e1_62 (hs := sh1)), (e1_62 (hs := sh2)), (e1_65 (hs := sh2) (hk := k38_2)), e1_68, e1_69, (e1_70 (hs := sh1)), (e1_70 (hs := sh2)), (e1_73 (hs := sh2) (hk := k38_2)), e1_76, e1_77, (e1_78 (hs := sh1)), (e1_78 (hs := sh2)), (e1_81 (hs := sh2) (hk := k38_2)), e1_84,  sr11, sr12, sr13, sr15, sr21, sr22, sr23, sr25, e1, e2, e3, e4, q_bs, q_tn, q_nn, i7, i8, i9, i10, i11, n, pz01 hp, if_true]
  · have nn : ∀ {H : kH} {k a : Nat} {v : Int32} {b : Nat}, k ≠ 2 → hI (uI H 2 a v) k b = hI H k b := fun {H k a v b} z => hI_uIn (by omega)
    refine ⟨fun j hj => ?_, fun j hj => ?_, fun j hj => ?_, ?_, ?_, ?_, ?_, ?_, fun j hj => ?_⟩
    · rw [nn (by decide), nn (by decide), nn (by decide), nn (by decide), nn (by decide), (f4 _ _ (by omega)).1, (f3 _ _ (by omega)).1, (f2 _ _ (by omega)).1, g1 j (by omega)]
      exact cR_o hR hj
    · rw [nn (by decide), nn (by decide), nn (by decide), nn (by decide), nn (by decide), (f4 _ _ (by omega)).1, (f3 _ _ (by omega)).1, g2 j (by omega), (f1 _ _ (by omega)).1]
      exact cR_l hR hj
    · rw [nn (by decide), nn (by decide), nn (by decide), nn (by decide), nn (by decide), (f4 _ _ (by omega)).1, g3 j (by omega), (f2 _ _ (by omega)).1, (f1 _ _ (by omega)).1]
      exact cR_r hR hj
    · rw [hI_uIn (by omega), hI_uIn (by omega), hI_uIn (by omega), hI_uIn (by omega), hI_uIs]
    · rw [hI_uIn (by omega), hI_uIn (by omega), hI_uIn (by omega), hI_uIs]
    · rw [hI_uIn (by omega), hI_uIn (by omega), hI_uIs]
    · rw [hI_uIn (by omega), hI_uIs]
    · rw [hI_uIs]
    · rw [nn (by decide), nn (by decide), nn (by decide), nn (by decide), nn (by decide), g4 j (by omega), (f3 _ _ (by omega)).1, (f2 _ _ (by omega)).1, (f1 _ _ (by omega)).1]
      exact cR_B hR hj
  · refine (((((F.mono (fun k j z => by omega)).tr (kFr_uI (by omega))).tr (kFr_uI (by omega))).tr (kFr_uI (by omega))).tr (kFr_uI (by omega))).tr (kFr_uI (by omega))
/-- and back -/
theorem c_take12 {V K : kV} (hR : cR H V) (hc : cK H K) (hV : vOK K) (hn : vn K = vn V) (hk : vk K = vk V) : ∃ H1, ev 1 0 [.ref 1, .ref 2] [] H = some (none, H1) ∧ cR H1 K ∧ kFr nC H H1 := by
  have h5 := hV.2.1
  have hb5 := hV.2.2.2.2.2.2.1
  have hp := hV.2.2.2.2.1
  obtain ⟨b1, b2, b3, b4, b5, b6, b7, b8, b9⟩ := hc
  obtain ⟨H1, e1, f1, g1⟩ := c_copy (show shp 13 = (1, 5) from rfl) (show shp 7 = (1, 5) from rfl) (by decide) (by decide) H
  obtain ⟨H2, e2, f2, g2⟩ := c_copy (show shp 14 = (1, 5) from rfl) (show shp 8 = (1, 5) from rfl) (by decide) (by decide) H1
  obtain ⟨H3, e3, f3, g3⟩ := c_copy (show shp 15 = (1, 5) from rfl) (show shp 9 = (1, 5) from rfl) (by decide) (by decide) H2
  obtain ⟨H4, e4, f4, g4⟩ := c_copy (show shp 17 = (1, 5) from rfl) (show shp 11 = (1, 5) from rfl) (by decide) (by decide) H3
  have F : kFr (fun k _ => k = 7 ∨ k = 8 ∨ k = 9 ∨ k = 11) H H4 := (((f1.mono (fun k j z => by omega)).tr (f2.mono (fun k j z => by omega))).tr (f3.mono (fun k j z => by omega))).tr (f4.mono (fun k j z => by omega))
  have i7 : hI H4 2 7 = vd K := ((F 2 7 (by omega)).1).trans b4
  have i8 : hI H4 2 8 = vp K := ((F 2 8 (by omega)).1).trans b5
  have i9 : hI H4 2 9 = nI (vh K) := ((F 2 9 (by omega)).1).trans b6
  have i10 : hI H4 2 10 = vt K := ((F 2 10 (by omega)).1).trans b7
  have i11 : hI H4 2 11 = nI (vb K) := ((F 2 11 (by omega)).1).trans b8
  have n : ∀ {H : kH} {a : Nat} {v : Int32} {b : Nat}, hI (uI H 1 a v) 2 b = hI H 2 b := fun {H a v b} => hI_uIn (by omega)
  refine ⟨uI (uI (uI (uI (uI H4 1 7 (vd K)) 1 8 (vp K)) 1 9 (nI (vh K))) 1 10 (vt K)) 1 11 (nI (vb K)), ?_, ?_, ?_⟩
  · simp only [e1_0, (e1_1 (hs := sh1)), (e1_1 (hs := sh2)), e1_4, (e1_5 (hs := sh1)), (e1_5 (hs := sh2)), e1_8, e1_11, (e1_12 (hs := sh1)), (e1_12 (hs := sh2)), e1_15, (e1_16 (hs := sh1)), (e1_16 (hs := sh2)), e1_19, e1_22, (e1_23 (hs := sh1)), (e1_23 (hs := sh2)), e1_26, (e1_27 (hs := sh1)), (e1_27 (hs := sh2)), e1_30, e1_33, (e1_34 (hs := sh1)), (e1_34 (hs := sh2)), e1_37, (e1_38 (hs := sh1)), (e1_38 (hs := sh2)), e1_41, e1_44, e1_45, (e1_46 (hs := sh1)), (e1_46 (hs := sh2)), (e1_49 (hs := sh1) (hk := k38_1)), e1_52, e1_53, (e1_54 (hs := sh1)), (e1_54 (hs := sh2)), (e1_57 (hs := sh1) (hk := k38_1)), e1_60, e1_61, (e1_62 (hs := sh1)), (e1_62 (hs := sh2)), (e1_65 (hs := sh1) (hk := k38_1)), e1_68, e1_69, (e1_70 (hs := sh1)), (e1_70 (hs := sh2)), (e1_73 (hs := sh1) (hk := k38_1)), e1_76, e1_77, (e1_78 (hs := sh1)), (e1_78 (hs := sh2)), (e1_81 (hs := sh1) (hk := k38_1)), e1_84,  sr11, sr12, sr13, sr15, sr21, sr22, sr23, sr25, e1, e2, e3, e4, q_bs, q_tn, q_nn, i7, i8, i9, i10, i11, n, pz01 hp, if_true]
  · have nn : ∀ {H : kH} {k a : Nat} {v : Int32} {b : Nat}, k ≠ 1 → hI (uI H 1 a v) k b = hI H k b := fun {H k a v b} z => hI_uIn (by omega)
    obtain ⟨a1, a2, a3, a4, a5, a6, a7, a8, a9, a10, a11, a12⟩ := hR
    refine ⟨?_, fun j hj => ?_, fun j hj => ?_, fun j hj => ?_, fun j hj => ?_, ?_, ?_, ?_, ?_, ?_, fun j hj => ?_, fun h0 s hs => ?_⟩
    · rw [hI_uIn (by omega), hI_uIn (by omega), hI_uIn (by omega), hI_uIn (by omega), hI_uIn (by omega), (F 1 6 (by omega)).1, hn]
      exact a1
    · rw [nn (by decide), nn (by decide), nn (by decide), nn (by decide), nn (by decide), (F _ _ (by omega)).1, hk]
      exact a2 j (by omega)
    · rw [nn (by decide), nn (by decide), nn (by decide), nn (by decide), nn (by decide), (f4 _ _ (by omega)).1, (f3 _ _ (by omega)).1, (f2 _ _ (by omega)).1, g1 j (by omega)]
      exact b1 j hj
    · rw [nn (by decide), nn (by decide), nn (by decide), nn (by decide), nn (by decide), (f4 _ _ (by omega)).1, (f3 _ _ (by omega)).1, g2 j (by omega), (f1 _ _ (by omega)).1]
      exact b2 j hj
    · rw [nn (by decide), nn (by decide), nn (by decide), nn (by decide), nn (by decide), (f4 _ _ (by omega)).1, g3 j (by omega), (f2 _ _ (by omega)).1, (f1 _ _ (by omega)).1]
      exact b3 j hj
    · rw [hI_uIn (by omega), hI_uIn (by omega), hI_uIn (by omega), hI_uIn (by omega), hI_uIs]
    · rw [hI_uIn (by omega), hI_uIn (by omega), hI_uIn (by omega), hI_uIs]
    · rw [hI_uIn (by omega), hI_uIn (by omega), hI_uIs]
    · rw [hI_uIn (by omega), hI_uIs]
    · rw [hI_uIs]
    · rw [nn (by decide), nn (by decide), nn (by decide), nn (by decide), nn (by decide), g4 j (by omega), (f3 _ _ (by omega)).1, (f2 _ _ (by omega)).1, (f1 _ _ (by omega)).1]
      exact b9 j hj
    · rw [nn (by decide), nn (by decide), nn (by decide), nn (by decide), nn (by decide), (F _ _ (by omega)).1, hk, hn]
      exact a12 (by omega) s hs
  · refine (((((F.mono (fun k j z => by unfold nC; omega)).tr (kFr_uI (by unfold nC; omega))).tr (kFr_uI (by unfold nC; omega))).tr (kFr_uI (by unfold nC; omega))).tr (kFr_uI (by unfold nC; omega))).tr (kFr_uI (by unfold nC; omega))
theorem x_image (hq : CR H S) (ho : sOK S) : ∃ H1, ev 82 0 [.ref 0] [] H = some (some (.int (fImage S)), H1) ∧ CR H1 (tImage S) ∧ kFr cC H H1 := by
  have hC := hq.1
  have hV := ho.1
  unfold fImage tImage
  by_cases h0 : vn (sV S) = 0
  · rw [if_pos h0, if_pos h0]
    refine ⟨H, ?_, hq, kFr.rf⟩
    simp only [e82_0, e82_1, e82_4, e82_7, e82_10, e82_12, e82_13, e82_14, e82_17, e82_18, e82_21, e82_24, e82_25, e82_26, e82_29, e82_30, e82_33, e82_36, c_seats hC, q_bs, q_tl, q_cn, q_n0 hV, h0, n00, not_true_eq_false, if_false]
  · rw [if_neg h0, if_neg h0]
    obtain ⟨H1, e1, k1, f1⟩ := c_take21 hC hV
    have F : kFr (fun k j => k = 2 ∨ (13 ≤ k ∧ k ≤ 17) ∨ (k = 0 ∧ j = 5)) H (uI H1 0 5 1) := (f1.mono (fun k j z => by omega)).tr (kFr_uI (by omega))
    have e : ∀ k j, ¬ (k = 2 ∨ (13 ≤ k ∧ k ≤ 17) ∨ (k = 0 ∧ j = 5)) → hI (uI H1 0 5 1) k j = hI H k j := fun k j z => (F k j z).1
    have er : ∀ k j, ¬ (k = 2 ∨ (13 ≤ k ∧ k ≤ 17) ∨ (k = 0 ∧ j = 5)) → hR (uI H1 0 5 1) k j = hR H k j := fun k j z => (F k j z).2.2
    obtain ⟨-, a2, a3, a4, a5, a6⟩ := hq
    have hC2 : cR (uI H1 0 5 1) (sV S) := by
      obtain ⟨c1, c2, c3, c4, c5, c6, c7, c8, c9, c10, c11, c12⟩ := hC
      exact ⟨by rw [e _ _ (by omega)]; exact c1, fun j hj => by rw [e _ _ (by omega)]; exact c2 j hj, fun j hj => by rw [e _ _ (by omega)]; exact c3 j hj, fun j hj => by rw [e _ _ (by omega)]; exact c4 j hj, fun j hj => by rw [e _ _ (by omega)]; exact c5 j hj, by rw [e _ _ (by omega)]; exact c6, by rw [e _ _ (by omega)]; exact c7, by rw [e _ _ (by omega)]; exact c8, by rw [e _ _ (by omega)]; exact c9, by rw [e _ _ (by omega)]; exact c10, fun j hj => by rw [e _ _ (by omega)]; exact c11 j hj, fun h0 s hs => by rw [e _ _ (by omega)]; exact c12 h0 s hs⟩
    refine ⟨uI H1 0 5 1, ?_, ⟨hC2, ⟨by rw [e _ _ (by omega)]; exact a2.1, a2.2.1, fun j hj => by rw [e _ _ (by omega)]; exact a2.2.2 j hj⟩, by rw [e _ _ (by omega)]; exact a3, hI_uIs _ _ _ _, by unfold wR; rw [er _ _ (by omega), er _ _ (by omega)]; exact a5, fun _ => ?_⟩, F.mono (fun k j z => by unfold cC; omega)⟩
    · simp only [e82_0, e82_1, e82_4, e82_7, e82_10, e82_12, e82_13, e82_14, e82_17, e82_18, e82_21, e82_24, e82_25, e82_26, e82_29, e82_30, e82_33, e82_36, c_seats hC, q_bs, q_tl, q_tn, q_nn, q_cn, q_n0 hV, h0, not_false_eq_true, if_true, e1, or_true, c_hourNumber hC2]
    · obtain ⟨b1, b2, b3, b4, b5, b6, b7, b8, b9⟩ := k1
      exact ⟨fun j hj => by rw [hI_uIn (by omega)]; exact b1 j hj, fun j hj => by rw [hI_uIn (by omega)]; exact b2 j hj, fun j hj => by rw [hI_uIn (by omega)]; exact b3 j hj, by rw [hI_uIn (by omega)]; exact b4, by rw [hI_uIn (by omega)]; exact b5, by rw [hI_uIn (by omega)]; exact b6, by rw [hI_uIn (by omega)]; exact b7, by rw [hI_uIn (by omega)]; exact b8, fun j hj => by rw [hI_uIn (by omega)]; exact b9 j hj⟩
theorem x_restore (hq : CR H S) (ho : sOK S) : ∃ H1, ev 83 0 [.ref 0] [] H = some (some (.int (fRestore S)), H1) ∧ CR H1 (tRestore S) ∧ kFr cC H H1 := by
  have hz := hq.2.2.2.1
  unfold fRestore tRestore
  by_cases h0 : sz S = 0
  · rw [if_pos h0, if_pos h0]
    refine ⟨H, ?_, hq, kFr.rf⟩
    simp only [e83_0, e83_1, e83_4, e83_7, e83_9, e83_10, e83_11, e83_14, e83_15, e83_18, e83_21, e83_22, e83_25, e83_28, hz, h0, n00, not_true_eq_false, if_false]
  · rw [if_neg h0, if_neg h0]
    have h1 : sz S = 1 := by have := ho.2.1; omega
    obtain ⟨k1, k2, k3, k4⟩ := ho.2.2.1 h1
    obtain ⟨H1, e1, r1, f1⟩ := c_take12 hq.1 (hq.2.2.2.2.2 h1) k1 k2 k3
    refine ⟨H1, ?_, CR_now f1 hq r1, f1.mono (fun k j => nC_cC)⟩
    simp only [e83_0, e83_1, e83_4, e83_7, e83_9, e83_10, e83_11, e83_14, e83_15, e83_18, e83_21, e83_22, e83_25, e83_28, hz, h1, show ((nI 1 : Int32) = 0) = False from eq_false (by decide), not_false_eq_true, if_true, e1, q_bs, q_tl, q_tn, q_nn, q_cn, c_hourNumber r1]
end KOC
