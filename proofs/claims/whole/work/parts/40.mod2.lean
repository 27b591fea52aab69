/-! the model holds S -/
def MV (H : kH) (V : kV) : Prop := hI H 27 2 = nI (vn V) ∧ (∀ j, j < vn V → hI H 29 (4 * j) = nI (vk V j) ∧ hI H 29 (4 * j + 1) = nI (vo V j) ∧ hI H 29 (4 * j + 2) = nI (vl V j) ∧ hI H 29 (4 * j + 3) = vr V j) ∧ hI H 27 3 = vd V ∧ hI H 27 4 = vp V ∧ hI H 27 5 = nI (vh V) ∧ hI H 27 6 = vt V ∧ hI H 27 13 = nI (vb V) ∧ ∀ j, j < vb V → hI H 34 j = vB V j
def MK (H : kH) (K : kV) (r : Nat) : Prop := hI H 27 17 = nI r ∧ (∀ j, j < vn K → hI H 36 (4 * j) = nI (vk K j) ∧ hI H 36 (4 * j + 1) = nI (vo K j) ∧ hI H 36 (4 * j + 2) = nI (vl K j) ∧ hI H 36 (4 * j + 3) = vr K j) ∧ hI H 27 18 = vd K ∧ hI H 27 19 = vp K ∧ hI H 27 20 = nI (vh K) ∧ hI H 27 21 = vt K ∧ hI H 27 22 = nI (vb K) ∧ ∀ j, j < vb K → hI H 37 j = vB K j
def MR (H : kH) (S : kS) : Prop := MV H (sV S) ∧ mP H (sn S) (sg S) ∧ hI H 27 7 = nI (sr S) ∧ (sz S = 1 → MK H (sK S) (sr S)) ∧ (sz S = 0 → hI H 27 17 = -1 ∨ ∃ r, r < sr S ∧ hI H 27 17 = nI r)
def mC (k _ : Nat) : Prop := 27 ≤ k ∧ k ≤ 37
/-- the model's council -/
def mN (k j : Nat) : Prop := (k = 27 ∧ (j = 2 ∨ j = 3 ∨ j = 4 ∨ j = 5 ∨ j = 6 ∨ j = 13)) ∨ k = 29 ∨ k = 34
/-- the model's page -/
def mG (k j : Nat) : Prop := (k = 27 ∧ j = 1) ∨ k = 28
/-- the model's scratch -/
def mS (k j : Nat) : Prop := (k = 27 ∧ (j = 15 ∨ j = 25)) ∨ (30 ≤ k ∧ k ≤ 33) ∨ k = 35
theorem mN_mC {k j : Nat} (h : mN k j) : mC k j := by unfold mN at h; unfold mC; omega
theorem mG_mC {k j : Nat} (h : mG k j) : mC k j := by unfold mG at h; unfold mC; omega
theorem mS_mC {k j : Nat} (h : mS k j) : mC k j := by unfold mS at h; unfold mC; omega
theorem MV_fr {P : Nat → Nat → Prop} {H H' : kH} {V : kV} (h : kFr P H H') (hp : ∀ k j, mN k j → ¬ P k j) (hv : MV H V) : MV H' V := by
  have e : ∀ k j, mN k j → hI H' k j = hI H k j := fun k j z => (h k j (hp k j z)).1
  unfold mN at e
  obtain ⟨a1, a2, a3, a4, a5, a6, a7, a8⟩ := hv
  refine ⟨by rw [e _ _ (by omega)]; exact a1, fun j hj => ?_, by rw [e _ _ (by omega)]; exact a3, by rw [e _ _ (by omega)]; exact a4, by rw [e _ _ (by omega)]; exact a5, by rw [e _ _ (by omega)]; exact a6, by rw [e _ _ (by omega)]; exact a7, fun j hj => by rw [e _ _ (by omega)]; exact a8 j hj⟩
  rw [e _ _ (by omega), e _ _ (by omega), e _ _ (by omega), e _ _ (by omega)]
  exact a2 j hj
theorem MK_fr {P : Nat → Nat → Prop} {H H' : kH} {K : kV} {r : Nat} (h : kFr P H H') (hp : ∀ k j, (k = 27 ∧ 17 ≤ j ∧ j ≤ 22) ∨ k = 36 ∨ k = 37 → ¬ P k j) (hv : MK H K r) : MK H' K r := by
  have e : ∀ k j, (k = 27 ∧ 17 ≤ j ∧ j ≤ 22) ∨ k = 36 ∨ k = 37 → hI H' k j = hI H k j := fun k j z => (h k j (hp k j z)).1
  obtain ⟨a1, a2, a3, a4, a5, a6, a7, a8⟩ := hv
  refine ⟨by rw [e _ _ (by omega)]; exact a1, fun j hj => ?_, by rw [e _ _ (by omega)]; exact a3, by rw [e _ _ (by omega)]; exact a4, by rw [e _ _ (by omega)]; exact a5, by rw [e _ _ (by omega)]; exact a6, by rw [e _ _ (by omega)]; exact a7, fun j hj => by rw [e _ _ (by omega)]; exact a8 j hj⟩
  rw [e _ _ (by omega), e _ _ (by omega), e _ _ (by omega), e _ _ (by omega)]
  exact a2 j hj
theorem mP_fr {P : Nat → Nat → Prop} {H H' : kH} {n : Nat} {g : Nat → Nat} (h : kFr P H H') (hp : ∀ k j, mG k j → ¬ P k j) (hv : mP H n g) : mP H' n g := by
  have e : ∀ k j, mG k j → hI H' k j = hI H k j := fun k j z => (h k j (hp k j z)).1
  unfold mG at e
  obtain ⟨a1, a2, a3⟩ := hv
  exact ⟨by rw [e _ _ (by omega)]; exact a1, a2, fun j hj => by rw [e _ _ (by omega)]; exact a3 j hj⟩
theorem MR_of {P : Nat → Nat → Prop} {H H' : kH} {S : kS} (h : kFr P H H') (hp : ∀ k j, (k = 27 ∧ (j = 7 ∨ (17 ≤ j ∧ j ≤ 22))) ∨ k = 36 ∨ k = 37 → ¬ P k j) (hq : MR H S) {V : kV} {n : Nat} {g : Nat → Nat} (hv : MV H' V) (hg : mP H' n g) : MR H' (V, n, g, sr S, sz S, sK S) := by
  have e : ∀ k j, (k = 27 ∧ (j = 7 ∨ (17 ≤ j ∧ j ≤ 22))) ∨ k = 36 ∨ k = 37 → hI H' k j = hI H k j := fun k j z => (h k j (hp k j z)).1
  obtain ⟨-, -, a3, a4, a5⟩ := hq
  refine ⟨hv, hg, by rw [e _ _ (by omega)]; exact a3, fun z => MK_fr h (fun k j y => hp k j (by omega)) (a4 z), fun z => ?_⟩
  rw [e _ _ (by omega)]
  exact a5 z
theorem MR_now {H H' : kH} {S : kS} {V : kV} (h : kFr mN H H') (hq : MR H S) (hv : MV H' V) : MR H' (ssV S V) := MR_of h (fun k j z => by unfold mN; omega) hq hv (mP_fr h (fun k j z => by unfold mG at z; unfold mN; omega) hq.2.1)
theorem MR_page {H H' : kH} {S : kS} {n : Nat} {g : Nat → Nat} (h : kFr mG H H') (hq : MR H S) (hg : mP H' n g) : MR H' (ssP S n g) := MR_of h (fun k j z => by unfold mG; omega) hq (MV_fr h (fun k j z => by unfold mN at z; unfold mG; omega) hq.1) hg
theorem MR_fr {H H' : kH} {S : kS} (h : kFr mS H H') (hq : MR H S) : MR H' S := MR_of h (fun k j z => by unfold mS; omega) hq (MV_fr h (fun k j z => by unfold mN at z; unfold mS; omega) hq.1) (mP_fr h (fun k j z => by unfold mG at z; unfold mS; omega) hq.2.1)
/-- one side leaves the other -/
theorem MR_c {H H' : kH} {S : kS} (h : kFr cC H H') (hq : MR H S) : MR H' S := MR_of h (fun k j z => by unfold cC; omega) hq (MV_fr h (fun k j z => by unfold mN at z; unfold cC; omega) hq.1) (mP_fr h (fun k j z => by unfold mG at z; unfold cC; omega) hq.2.1)
theorem CR_m {H H' : kH} {S : kS} (h : kFr mC H H') (hq : CR H S) : CR H' S := by
  have e : ∀ k j, ¬ mC k j → hI H' k j = hI H k j := fun k j z => (h k j z).1
  have er : ∀ k j, ¬ mC k j → hR H' k j = hR H k j := fun k j z => (h k j z).2.2
  unfold mC at e er
  obtain ⟨hc, a2, a3, a4, a5, a6⟩ := hq
  obtain ⟨c1, c2, c3, c4, c5, c6, c7, c8, c9, c10, c11, c12⟩ := hc
  refine ⟨⟨by rw [e _ _ (by omega)]; exact c1, fun j hj => by rw [e _ _ (by omega)]; exact c2 j hj, fun j hj => by rw [e _ _ (by omega)]; exact c3 j hj, fun j hj => by rw [e _ _ (by omega)]; exact c4 j hj, fun j hj => by rw [e _ _ (by omega)]; exact c5 j hj, by rw [e _ _ (by omega)]; exact c6, by rw [e _ _ (by omega)]; exact c7, by rw [e _ _ (by omega)]; exact c8, by rw [e _ _ (by omega)]; exact c9, by rw [e _ _ (by omega)]; exact c10, fun j hj => by rw [e _ _ (by omega)]; exact c11 j hj, fun h0 s hs => by rw [e _ _ (by omega)]; exact c12 h0 s hs⟩, ⟨by rw [e _ _ (by omega)]; exact a2.1, a2.2.1, fun j hj => by rw [e _ _ (by omega)]; exact a2.2.2 j hj⟩, by rw [e _ _ (by omega)]; exact a3, by rw [e _ _ (by omega)]; exact a4, by unfold wR; rw [er _ _ (by omega), er _ _ (by omega)]; exact a5, fun hz => ?_⟩
  obtain ⟨b1, b2, b3, b4, b5, b6, b7, b8, b9⟩ := a6 hz
  exact ⟨fun j hj => by rw [e _ _ (by omega)]; exact b1 j hj, fun j hj => by rw [e _ _ (by omega)]; exact b2 j hj, fun j hj => by rw [e _ _ (by omega)]; exact b3 j hj, by rw [e _ _ (by omega)]; exact b4, by rw [e _ _ (by omega)]; exact b5, by rw [e _ _ (by omega)]; exact b6, by rw [e _ _ (by omega)]; exact b7, by rw [e _ _ (by omega)]; exact b8, fun j hj => by rw [e _ _ (by omega)]; exact b9 j hj⟩
section KM2
variable {H : kH} {V : kV}
theorem MV_k (hv : MV H V) {j : Nat} (hj : j < vn V) : hI H 29 (4 * j) = nI (vk V j) := (hv.2.1 j hj).1
theorem MV_o (hv : MV H V) {j : Nat} (hj : j < vn V) : hI H 29 (4 * j + 1) = nI (vo V j) := (hv.2.1 j hj).2.1
theorem MV_l (hv : MV H V) {j : Nat} (hj : j < vn V) : hI H 29 (4 * j + 2) = nI (vl V j) := (hv.2.1 j hj).2.2.1
theorem MV_r (hv : MV H V) {j : Nat} (hj : j < vn V) : hI H 29 (4 * j + 3) = vr V j := (hv.2.1 j hj).2.2.2
theorem MV_d (hv : MV H V) : hI H 27 3 = vd V := hv.2.2.1
theorem MV_p (hv : MV H V) : hI H 27 4 = vp V := hv.2.2.2.1
theorem MV_h (hv : MV H V) : hI H 27 5 = nI (vh V) := hv.2.2.2.2.1
theorem MV_t (hv : MV H V) : hI H 27 6 = vt V := hv.2.2.2.2.2.1
theorem MV_b (hv : MV H V) : hI H 27 13 = nI (vb V) := hv.2.2.2.2.2.2.1
theorem MV_B (hv : MV H V) {j : Nat} (hj : j < vb V) : hI H 34 j = vB V j := hv.2.2.2.2.2.2.2 j hj
theorem m_lacks (hv : MV H V) (hV : vOK V) : ev 105 0 [.ref 27] [] H = some (some (.int (if vn V = 0 then 1 else 0)), H) := by
  have h5 := hV.2.1
  by_cases h : vn V = 0
  · simp only [e105_0, e105_1, e105_4, e105_7, e105_8, e105_11, e105_12, hv.1, h, n00, not_true_eq_false, if_false, or_true, if_true]
  · simp only [e105_0, e105_1, e105_4, e105_7, e105_8, e105_11, e105_12, hv.1, q_n0' (show vn V < 2147483648 by omega), h, not_false_eq_true, true_or, if_true, if_false]
theorem m_lacks0 (hv : MV H V) (hV : vOK V) (h : vn V = 0) : ev 105 0 [.ref 27] [] H = some (some (.int 1), H) := by rw [m_lacks hv hV, if_pos h]
theorem m_lacks1 (hv : MV H V) (hV : vOK V) (h : ¬ vn V = 0) : ev 105 0 [.ref 27] [] H = some (some (.int 0), H) := by rw [m_lacks hv hV, if_neg h]
theorem m_isOne (hv : MV H V) (hV : vOK V) (c : Int32) : ev 106 0 [.ref 27, .int c] [] H = some (some (.int (if c < 0 ∨ nI (vn V) ≤ c then 0 else 1)), H) := by
  have h5 := hV.2.1
  have e0 : (0 : Int64) = (nI 0).toInt64 := rfl
  have e1 : ∀ x y : Int64, (if x ≤ y then (1 : Int32) else 0) = (if x ≤ y then 1 else 0) := fun _ _ => rfl
  have hs : (nI (vn V) - 1).toInt = (vn V : Int) - 1 := pk_sub_toInt (a := vn V) (b := 1) (by omega) (by decide)
  rcases q_case c (show vn V < 2147483648 by omega) with hc | hc | ⟨i, hi, rfl⟩
  · rw [if_pos (Or.inl hc)]
    have h1 : ¬ nI 0 ≤ c := by
      have := q_toInt_lo hc
      rw [Int32.le_iff_toInt_le]
      have e : (nI 0).toInt = 0 := rfl
      omega
    simp only [e106_0, e106_1, e106_2, e106_3, e106_4, e106_7, e106_8, e106_9, e106_10, e106_13, hv.1, c_in, e0, q_ile, h1, false_and, if_false, q_bs, q_tl, q_cn, true_or, if_true]
  · rw [if_pos (Or.inr hc)]
    have h2 : ¬ c ≤ nI (vn V) - 1 := by
      have := q_toInt_hi (show vn V < 2147483648 by omega) hc
      rw [Int32.le_iff_toInt_le]
      omega
    simp only [e106_0, e106_1, e106_2, e106_3, e106_4, e106_7, e106_8, e106_9, e106_10, e106_13, hv.1, c_in, e0, q_ile, h2, and_false, if_false, q_bs, q_tl, q_cn, true_or, if_true]
  · rw [if_neg (q_in1 hi (by omega))]
    have h1 : nI 0 ≤ nI i := by rw [q_le (by decide) (by omega)]; omega
    have h2 : nI i ≤ nI (vn V) - 1 := by
      rw [Int32.le_iff_toInt_le, hs, nI_toInt (by omega)]
      omega
    simp only [e106_0, e106_1, e106_2, e106_3, e106_4, e106_7, e106_8, e106_9, e106_10, e106_13, hv.1, c_in, e0, q_ile, h1, h2, and_self, if_true, q_bs, q_tl, q_cn, or_true]
theorem m_isOne0 (hv : MV H V) (hV : vOK V) {c : Int32} (h : c < 0 ∨ nI (vn V) ≤ c) : ev 106 0 [.ref 27, .int c] [] H = some (some (.int 0), H) := by rw [m_isOne hv hV, if_pos h]
theorem m_isOne1 (hv : MV H V) (hV : vOK V) {j : Nat} (hj : j < vn V) : ev 106 0 [.ref 27, .int (nI j)] [] H = some (some (.int 1), H) := by
  have h5 := hV.2.1
  rw [m_isOne hv hV, if_neg (q_in1 hj (by omega))]
theorem m_isLaw_in {l : Nat} (hl : l < 6) : ev 107 0 [.int (nI l)] [] H = some (some (.int 1), H) := by
  simp only [e107_0, e107_1, e107_2, e107_3, e107_6, e107_9, show (0 : Int64) = lN 0 from rfl, show (5 : Int64) = lN 5 from rfl, m_ok (show 0 ≤ l by omega) (show l ≤ 5 by omega) (show 5 < 2147483648 by decide), q_bs, q_tl, q_cn, or_true, if_true]
theorem m_isLaw_lo {x : Int32} (h : x < 0) : ev 107 0 [.int x] [] H = some (some (.int 0), H) := by
  simp only [e107_0, e107_1, e107_2, e107_3, e107_6, e107_9, show (0 : Int64) = lN 0 from rfl, show (5 : Int64) = lN 5 from rfl, m_lo h (show 0 < 2147483648 by decide) (show 5 < 2147483648 by decide), q_bs, q_tl, q_cn, true_or, if_true]
theorem m_isLaw_hi {x : Int32} (h : nI 6 ≤ x) : ev 107 0 [.int x] [] H = some (some (.int 0), H) := by
  simp only [e107_0, e107_1, e107_2, e107_3, e107_6, e107_9, show (0 : Int64) = lN 0 from rfl, show (5 : Int64) = lN 5 from rfl, m_hi h (show 6 < 2147483648 by decide) (show 5 < 6 by decide) (show 0 < 2147483648 by decide), q_bs, q_tl, q_cn, true_or, if_true]
/-- tenths in the model -/
theorem m_t1 (hv : MV H V) {j : Nat} (hj : j < vn V) (h5 : vn V ≤ 5) (x2 x3 dr x5 : Int32) : ev 108 27 [.ref 27, .int (nI j), .int x2, .int x3, .int dr, .int x5, .null] [] H = ev 108 55 [.ref 27, .int (nI j), .int x2, .int x3, .int dr, .int x5, .int (nI (vo V j + if nI j = dr then 2 else 0))] [] H := by
  have e2 := q_cl (show 4 * j + 1 < 2147483648 by omega)
  by_cases a : nI j = dr
  · have a' : (dr = nI j) = True := eq_true a.symm
    rw [if_pos a]
    simp only [e108_27, e108_28, e108_31, e108_32, e108_33, e108_34, e108_35, e108_36, e108_37, e108_39, e108_41, e108_43, e108_44, e108_47, e108_48, e108_51, e108_52, e108_53, show (4 : Int32) = nI 4 from rfl, q_mul, nI_1, q_lt0 (show 4 * j + 1 < 2147483648 by omega), show ¬ 20 ≤ 4 * j + 1 by omega, or_self, if_false, e2, MV_o hv hj, a', not_true_eq_false, show (2 : Int32) = nI 2 from rfl, q_add]
  · have a' : (dr = nI j) = False := eq_false (fun z => a z.symm)
    rw [if_neg a]
    simp only [e108_27, e108_28, e108_31, e108_32, e108_33, e108_34, e108_35, e108_36, e108_37, e108_39, e108_41, e108_43, e108_44, e108_47, e108_48, e108_51, e108_52, e108_53, show (4 : Int32) = nI 4 from rfl, q_mul, nI_1, q_lt0 (show 4 * j + 1 < 2147483648 by omega), show ¬ 20 ≤ 4 * j + 1 by omega, or_self, if_false, e2, MV_o hv hj, a', not_false_eq_true, if_true, Int32.add_zero, Nat.add_zero]
theorem m_t2 {k : Nat} (hk : k < 5) (x1 x2 num x4 : Int32) (v : Nat) : ev 108 55 [.ref 27, .int x1, .int x2, .int num, .int x4, .int (nI k), .int (nI v)] [] H = ev 108 83 [.ref 27, .int x1, .int x2, .int num, .int x4, .int (nI k), .int (nI (v + if qEvb num = true ∧ (k = 2 ∨ k = 4) then 1 else 0))] [] H := by
  have e2 : (nI k = 2) = (k = 2) := q_eq (b := 2) (by omega) (by decide)
  have e4 : (nI k = 4) = (k = 4) := q_eq (b := 4) (by omega) (by decide)
  have z2 : ((2 : Int32) = 0) = False := eq_false (by decide)
  unfold qEvb
  by_cases a : num - num / 2 * 2 = 0
  · by_cases k2 : k = 2
    · rw [if_pos ⟨decide_eq_true a, Or.inl k2⟩]
      simp only [e108_55, e108_57, e108_59, e108_60, e108_63, e108_65, e108_66, e108_69, e108_70, e108_71, e108_72, e108_75, e108_76, e108_79, e108_80, e108_81, e2, eq_true k2, if_true, z2, if_false, a, not_true_eq_false, nI_1]
    · by_cases k4 : k = 4
      · rw [if_pos ⟨decide_eq_true a, Or.inr k4⟩]
        simp only [e108_55, e108_57, e108_59, e108_60, e108_63, e108_65, e108_66, e108_69, e108_70, e108_71, e108_72, e108_75, e108_76, e108_79, e108_80, e108_81, e2, k2, e4, eq_true k4, if_true, z2, if_false, a, not_true_eq_false, nI_1]
      · rw [if_neg (fun z => z.2.elim k2 k4)]
        simp only [e108_55, e108_57, e108_59, e108_60, e108_63, e108_65, e108_66, e108_69, e108_70, e108_71, e108_72, e108_75, e108_76, e108_79, e108_80, e108_81, e2, k2, e4, k4, if_true, if_false, not_false_eq_true, Int32.add_zero, Nat.add_zero]
  · rw [if_neg (fun z => a (of_decide_eq_true z.1))]
    by_cases k2 : k = 2
    · simp only [e108_55, e108_57, e108_59, e108_60, e108_63, e108_65, e108_66, e108_69, e108_70, e108_71, e108_72, e108_75, e108_76, e108_79, e108_80, e108_81, e2, eq_true k2, if_true, z2, if_false, a, not_false_eq_true, Int32.add_zero, Nat.add_zero]
    · by_cases k4 : k = 4
      · simp only [e108_55, e108_57, e108_59, e108_60, e108_63, e108_65, e108_66, e108_69, e108_70, e108_71, e108_72, e108_75, e108_76, e108_79, e108_80, e108_81, e2, k2, e4, eq_true k4, if_true, z2, if_false, a, not_true_eq_false, not_false_eq_true, Int32.add_zero, Nat.add_zero]
      · simp only [e108_55, e108_57, e108_59, e108_60, e108_63, e108_65, e108_66, e108_69, e108_70, e108_71, e108_72, e108_75, e108_76, e108_79, e108_80, e108_81, e2, k2, e4, k4, if_true, if_false, not_false_eq_true, Int32.add_zero, Nat.add_zero]
theorem m_t3 (hv : MV H V) {k : Nat} (hk : k < 5) (x1 x2 x3 x4 : Int32) (v : Nat) : ev 108 83 [.ref 27, .int x1, .int x2, .int x3, .int x4, .int (nI k), .int (nI v)] [] H = ev 108 107 [.ref 27, .int x1, .int x2, .int x3, .int x4, .int (nI k), .int (nI (v + if k = 4 ∧ vp V = 1 then 3 else 0))] [] H := by
  have e4 : (nI k = 4) = (k = 4) := q_eq (b := 4) (by omega) (by decide)
  by_cases k4 : k = 4
  · by_cases a : vp V = 1
    · rw [if_pos ⟨k4, a⟩]
      simp only [e108_83, e108_85, e108_87, e108_88, e108_91, e108_92, e108_95, e108_96, e108_99, e108_100, e108_103, e108_104, e108_105, e4, eq_true k4, MV_p hv, eq_true a, not_true_eq_false, if_false, show (3 : Int32) = nI 3 from rfl, q_add]
    · rw [if_neg (fun z => a z.2)]
      simp only [e108_83, e108_85, e108_87, e108_88, e108_91, e108_92, e108_95, e108_96, e108_99, e108_100, e108_103, e108_104, e108_105, e4, eq_true k4, MV_p hv, a, not_true_eq_false, not_false_eq_true, if_false, if_true, Int32.add_zero, Nat.add_zero]
  · rw [if_neg (fun z => k4 z.1)]
    simp only [e108_83, e108_85, e108_87, e108_88, e108_91, e108_92, e108_95, e108_96, e108_99, e108_100, e108_103, e108_104, e108_105, e4, k4, not_false_eq_true, if_true, Int32.add_zero, Nat.add_zero]
theorem m_t4 (x1 x2 x3 x4 x5 : Int32) {v : Nat} (hv : v < 1000) : ev 108 107 [.ref 27, .int x1, .int x2, .int x3, .int x4, .int x5, .int (nI v)] [] H = some (some (.int (nI (min 9 v))), H) := by
  have e9 : (nI v ≤ 9) = (v ≤ 9) := q_le (b := 9) (by omega) (by decide)
  by_cases a : v ≤ 9
  · simp only [e108_107, e108_109, e108_111, e108_114, e108_116, e108_119, e108_121, e9, a, if_true, Nat.min_eq_right a]
  · simp only [e108_107, e108_109, e108_111, e108_114, e108_116, e108_119, e108_121, e9, a, if_false, Nat.min_eq_left (show 9 ≤ v by omega)]
    rfl
theorem m_tenths (hv : MV H V) (hV : vOK V) {j h : Nat} (hj : j < vn V) (hh : h < 64) (num dr : Int32) : ev 108 0 [.ref 27, .int (nI j), .int (nI h), .int num, .int dr, .null, .null] [] H = some (some (.int (nI (qtn V j num h dr))), H) := by
  have h5 := hV.2.1
  obtain ⟨hk, ho, hl⟩ := hV.2.2.1 j hj
  have e1 := q_cl (show 4 * j < 2147483648 by omega)
  have e4 : (nI (vk V j) = nI 4) = (vk V j = 4) := q_eq (by omega) (by decide)
  have b3 : ((nI h >>> (3 &&& 31)) &&& 1 = 1) = (h.testBit 3 = true) := (q_bit h hh 3 (by decide)).2
  have e27 : ∀ x5, ev 108 27 [.ref 27, .int (nI j), .int (nI h), .int num, .int dr, .int (nI (vk V j)), .null] [] H = x5 → x5 = some (some (.int (nI (min 9 (vo V j + (if nI j = dr then 2 else 0) + (if qEvb num = true ∧ (vk V j = 2 ∨ vk V j = 4) then 1 else 0) + (if vk V j = 4 ∧ vp V = 1 then 3 else 0))))), H) := by
    intro x5 z
    rw [← z, m_t1 hv hj h5, m_t2 hk, m_t3 hv hk, m_t4]
    split <;> split <;> split <;> omega
  have e27 := e27 _ rfl
  unfold qtn qT
  have s0 : ev 108 0 [.ref 27, .int (nI j), .int (nI h), .int num, .int dr, .null, .null] [] H = ev 108 10 [.ref 27, .int (nI j), .int (nI h), .int num, .int dr, .int (nI (vk V j)), .null] [] H := by
    simp only [e108_0, e108_1, e108_4, e108_5, e108_6, e108_7, e108_8, show (4 : Int32) = nI 4 from rfl, q_mul, q_lt0 (show 4 * j < 2147483648 by omega), show ¬ 20 ≤ 4 * j by omega, or_self, if_false, e1, MV_k hv hj]
  rw [s0]
  by_cases a : vk V j = 4
  · rw [if_neg (fun z => z.2 a), ← e27]
    simp only [e108_10, e108_12, e108_13, show (4 : Int32) = nI 4 from rfl, e4, eq_true a, if_true]
  · by_cases b : h.testBit 3 = true
    · rw [if_pos ⟨b, a⟩]
      simp only [e108_10, e108_12, e108_13, e108_16, e108_17, e108_18, e108_19, e108_20, e108_21, e108_22, e108_25, e108_26, show (4 : Int32) = nI 4 from rfl, e4, a, if_false, b3, b, not_true_eq_false]
      rfl
    · rw [if_neg (fun z => b z.1), ← e27]
      simp only [e108_10, e108_12, e108_13, e108_16, e108_17, e108_18, e108_19, e108_20, e108_21, e108_22, e108_25, e108_26, show (4 : Int32) = nI 4 from rfl, e4, a, if_false, b3, b, not_false_eq_true, if_true, Bool.false_eq_true]
end KM2
