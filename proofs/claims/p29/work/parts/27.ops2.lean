/-! hour, book, image, count -/
theorem q_subE {x : Int32} {A : Nat} (hA : A < 32) : (x &&& (nI A ^^^ (-1)) = 0) = ∃ s, s < 32 ∧ x = nI s ∧ s &&& A = s := by
  apply propext
  constructor
  · intro h
    have h1 : x &&& nI A = x := by
      apply Int32.toBitVec_inj.1
      have h2 : x.toBitVec &&& (BitVec.ofNat 32 A ^^^ BitVec.allOnes 32) = 0#32 := congrArg Int32.toBitVec h
      show x.toBitVec &&& BitVec.ofNat 32 A = x.toBitVec
      apply BitVec.eq_of_getLsbD_eq
      intro i hi
      have h3 := congrArg (fun b => b.getLsbD i) h2
      simp only [BitVec.getLsbD_and, BitVec.getLsbD_xor, BitVec.getLsbD_allOnes, hi, decide_true, Bool.xor_true, BitVec.getLsbD_zero] at h3
      rw [BitVec.getLsbD_and]
      cases hx : x.toBitVec.getLsbD i with
      | false => rfl
      | true =>
        rw [hx] at h3
        simpa using h3
    have h4 : x = nI x.toBitVec.toNat := by
      apply Int32.toBitVec_inj.1
      show x.toBitVec = BitVec.ofNat 32 x.toBitVec.toNat
      simp
    have h5 : x.toBitVec.toNat &&& A = x.toBitVec.toNat := by
      have h6 := congrArg (fun z => z.toBitVec.toNat) h1
      have h7 : (x &&& nI A).toBitVec.toNat = x.toBitVec.toNat &&& A := by
        show (x.toBitVec &&& BitVec.ofNat 32 A).toNat = _
        rw [BitVec.toNat_and, BitVec.toNat_ofNat, Nat.mod_eq_of_lt (by omega)]
      exact h7.symm.trans h6
    refine ⟨x.toBitVec.toNat, ?_, h4, h5⟩
    have h8 : x.toBitVec.toNat &&& A ≤ A := Nat.and_le_right
    omega
  · rintro ⟨s, hs, rfl, h⟩
    have hf : ∀ s, s < 32 → ∀ A, A < 32 → s &&& A = s → nI s &&& (nI A ^^^ (-1)) = 0 := by decide +kernel
    exact hf s hs A hA h
def vsR (V : kV) (c : Nat) (v : Int32) : kV := (vn V, vk V, vo V, vl V, fu (vr V) c v, vd V, vp V, vh V, vt V, vb V, vB V)
def fHour (V : kV) (x : Int32) : Int32 := qSel 32 x (-102) (fun s => if s &&& qA V (vn V) = s then (if vn V = 0 then -103 else qK (vk V) (vn V) s) else -102)
def tHour (V : kV) (x : Int32) : kV := qSel 32 x V (fun s => if s &&& qA V (vn V) = s then (if vn V = 0 then V else if qK (vk V) (vn V) s = -1 then vsT V else vsK V (qK (vk V) (vn V) s).toNatClampNeg) else V)
theorem qA32 {V : kV} (hV : vOK V) : qA V (vn V) < 32 := Nat.lt_of_lt_of_le (qA_lt V (vn V)) (Nat.pow_le_pow_right (by decide) hV.2.1)
section KOB
variable {H : kH} {S : kS}
theorem cR_re {V : kV} (hR : cR H V) {c : Nat} {v : Int32} : cR (uI H 9 c v) (vsR V c v) := by
  obtain ⟨a1, a2, a3, a4, a5, a6, a7, a8, a9, a10, a11, a12⟩ := hR
  refine ⟨by rw [hI_uIn (by omega)]; exact a1, fun j hj => by rw [hI_uIn (by omega)]; exact a2 j hj, fun j hj => by rw [hI_uIn (by omega)]; exact a3 j hj, fun j hj => by rw [hI_uIn (by omega)]; exact a4 j hj, fun j hj => ?_, by rw [hI_uIn (by omega)]; exact a6, by rw [hI_uIn (by omega)]; exact a7, by rw [hI_uIn (by omega)]; exact a8, by rw [hI_uIn (by omega)]; exact a9, by rw [hI_uIn (by omega)]; exact a10, fun j hj => by rw [hI_uIn (by omega)]; exact a11 j hj, fun h0 s hs => by rw [hI_uIn (by omega)]; exact a12 h0 s hs⟩
  show _ = fu (vr V) c v j
  by_cases e : j = c
  · subst e
    rw [hI_uIs, fu_s]
  · rw [hI_uIn (by omega), fu_n e]
    exact a5 j hj
theorem c_passHour {V : kV} (hR : cR H V) (hV : vOK V) (h0 : 0 < vn V) {s : Nat} (hs : s < 32) : ∃ H1, ev 22 0 [.ref 1, .int (nI s), .null] [] H = some (some (.int (qK (vk V) (vn V) s)), H1) ∧ cR H1 (if qK (vk V) (vn V) s = -1 then vsT V else vsK V (qK (vk V) (vn V) s).toNatClampNeg) ∧ kFr nC H H1 := by
  have h5 := hV.2.1
  rcases qK_in (vk V) (vn V) s (by omega) with hk | ⟨c, hc, hk⟩
  · rw [if_pos hk]
    refine ⟨uI H 1 10 (vt V + 1), ?_, cR_ti hR, kFr_uI (by unfold nC; omega)⟩
    simp only [e22_0, e22_1, e22_2, e22_5, e22_6, e22_7, e22_8, e22_11, e22_14, e22_15, e22_18, e22_19, e22_20, e22_23, e22_24, e22_27, e22_28, e22_29, e22_32, e22_33, e22_34, e22_35, e22_38, e22_39, e22_40, e22_43, e22_46, e22_49, e22_50, e22_51, e22_54, e22_55, e22_56, e22_59, e22_60, c_kingOf hR h0 hs, hk, q_bs, q_tl, q_cn, c_seated0 hR (Or.inl (show (-1 : Int32) < 0 by decide)), t00, if_true, cR_t hR]
  · have hne : ¬ qK (vk V) (vn V) s = -1 := by
      rw [hk]
      intro z
      have := congrArg Int32.toInt z
      rw [nI_toInt (by omega)] at this
      have e : (-1 : Int32).toInt = -1 := rfl
      omega
    rw [if_neg hne, hk, q_cl (by omega)]
    refine ⟨_, ?_, cR_ki hR (c := c), ((kFr_uI (by unfold nC; omega)).tr (kFr_uI (by unfold nC; omega))).tr (kFr_uI (by unfold nC; omega))⟩
    have hR1 := cR_re hR (c := c) (v := vr V c + 1)
    have hl : (hV.2.2.1 c hc).2.2 = (hV.2.2.1 c hc).2.2 := rfl
    have hl6 := (hV.2.2.1 c hc).2.2
    have hs1 : ev 7 0 [.ref 1, .int (nI c)] [] (uI H 9 c (vr V c + 1)) = some (some (.int (nI (vl V c))), uI H 9 c (vr V c + 1)) := by
      simp only [e7_0, e7_1, e7_4, e7_5, e7_8, c_at (show shp 8 = (1, 5) from rfl) (by decide), q_bs, q_tl, q_cn, pAt_in (show c < 5 by omega) (show 5 < 2147483648 by decide), cR_l hR1 (j := c) hc]
      rfl
    simp only [e22_0, e22_1, e22_2, e22_5, e22_6, e22_7, e22_8, e22_11, e22_14, e22_15, e22_18, e22_19, e22_20, e22_23, e22_24, e22_27, e22_28, e22_29, e22_32, e22_33, e22_34, e22_35, e22_38, e22_39, e22_40, e22_43, e22_46, e22_49, e22_50, e22_51, e22_54, e22_55, e22_56, e22_59, e22_60, c_kingOf hR h0 hs, hk, q_bs, q_tl, q_cn, c_seated_in hR hV hc, t10, if_false, c_at (show shp 9 = (1, 5) from rfl) (by decide), pAt_in (show c < 5 by omega) (show 5 < 2147483648 by decide), cR_r hR hc, c_exchange (show shp 9 = (1, 5) from rfl) (by decide) (show c < 5 by omega), hs1, cR_h hR1, show vh (vsR V c (vr V c + 1)) = vh V from rfl, c_said hV.2.2.2.2.2.1 hl6, hI_uIn (show ¬ ((1 : Nat) = 1 ∧ (10 : Nat) = 9) by decide), hI_uIn (show ¬ ((1 : Nat) = 9 ∧ (10 : Nat) = c) by omega), cR_t hR]
theorem x_hour (hq : CR H S) (ho : sOK S) (x : Int32) : ∃ H1, ev 55 0 [.ref 0, .int x] [] H = some (some (.int (fHour (sV S) x)), H1) ∧ CR H1 (ssV S (tHour (sV S) x)) ∧ kFr cC H H1 := by
  have hR := hq.1
  have hV := ho.1
  have h5 := hV.2.1
  have hc := c_canSneeze hR hV x
  unfold fHour tHour
  by_cases hz : x &&& (nI (qA (sV S) (vn (sV S))) ^^^ (-1)) = 0
  · rw [if_pos hz] at hc
    rw [q_subE (qA32 hV)] at hz
    obtain ⟨s, hs, rfl, hA⟩ := hz
    rw [qSel_in hs (by decide), qSel_in hs (by decide), if_pos hA, if_pos hA]
    by_cases h0 : vn (sV S) = 0
    · rw [if_pos h0, if_pos h0]
      refine ⟨H, ?_, CR_self hq, kFr.rf⟩
      simp only [e55_0, e55_1, e55_4, e55_5, e55_8, e55_11, e55_13, e55_14, e55_15, e55_18, e55_21, e55_24, e55_26, e55_27, e55_28, e55_31, e55_32, e55_35, hc, c_seats hR, q_bs, q_tl, q_cn, t10, not_false_eq_true, if_true, q_n0 hV, h0, n00, not_true_eq_false, if_false]
    · rw [if_neg h0, if_neg h0]
      obtain ⟨H1, e1, e2, e3⟩ := c_passHour hR hV (by omega) hs
      refine ⟨H1, ?_, CR_now e3 hq e2, e3.mono (fun k j => nC_cC)⟩
      simp only [e55_0, e55_1, e55_4, e55_5, e55_8, e55_11, e55_13, e55_14, e55_15, e55_18, e55_21, e55_24, e55_26, e55_27, e55_28, e55_31, e55_32, e55_35, hc, c_seats hR, q_bs, q_tl, q_cn, t10, not_false_eq_true, if_true, q_n0 hV, h0, e1]
  · rw [if_neg hz] at hc
    have hno : qSel 32 x (-102) (fun s => if s &&& qA (sV S) (vn (sV S)) = s then (if vn (sV S) = 0 then (-103 : Int32) else qK (vk (sV S)) (vn (sV S)) s) else -102) = -102 ∧ qSel 32 x (sV S) (fun s => if s &&& qA (sV S) (vn (sV S)) = s then (if vn (sV S) = 0 then (sV S) else if qK (vk (sV S)) (vn (sV S)) s = -1 then vsT (sV S) else vsK (sV S) (qK (vk (sV S)) (vn (sV S)) s).toNatClampNeg) else sV S) = sV S := by
      rcases q_case x (show 32 < 2147483648 by decide) with h | h | ⟨s, hs, rfl⟩
      · exact ⟨qSel_lo h, qSel_lo h⟩
      · exact ⟨qSel_hi h, qSel_hi h⟩
      · rw [qSel_in hs (by decide), qSel_in hs (by decide)]
        have hA : ¬ s &&& qA (sV S) (vn (sV S)) = s := by
          intro z
          rw [q_subE (qA32 hV)] at hz
          exact hz ⟨s, hs, rfl, z⟩
        exact ⟨if_neg hA, if_neg hA⟩
    rw [hno.1, hno.2]
    refine ⟨H, ?_, CR_self hq, kFr.rf⟩
    simp only [e55_0, e55_1, e55_4, e55_5, e55_8, e55_11, e55_13, e55_14, e55_15, e55_18, e55_21, e55_24, e55_26, e55_27, e55_28, e55_31, e55_32, e55_35, hc, q_bs, q_tl, q_cn, not_true_eq_false, if_false]
/-- what is counted -/
def pBC (x : Int32) : Int32 :=
  let u (a b : Int32) : Int32 := (a.toUInt32 >>> (b.toUInt32 &&& Int32.toUInt32 31)).toInt32
  let a := x - (u x 1 &&& 1431655765)
  let b := (a &&& 858993459) + (u a 2 &&& 858993459)
  let c := (b + u b 4) &&& 252645135
  let d := c + u c 8
  let e := d + u d 16
  e &&& 63
def qP (h : Nat) : Nat := h % 2 + h / 2 % 2 + h / 4 % 2 + h / 8 % 2 + h / 16 % 2 + h / 32 % 2
theorem q_pop : ∀ h, h < 64 → pBC (nI h) = nI (qP h) := by decide +kernel
theorem c_bitCount {h : Nat} (hh : h < 64) : ev 89 0 [.int (nI h)] [] H = some (some (.int (nI (qP h))), H) := by
  simp only [e89_0, e89_1, e89_2, e89_3, e89_4, e89_7, e89_8, e89_9, e89_10, e89_11, e89_14, e89_15, e89_16, e89_17, e89_18, e89_21, e89_22, e89_23, e89_24, e89_25, e89_26, e89_27, e89_28, e89_29, e89_32, e89_33, e89_34, e89_35, e89_36, e89_38, e89_39, e89_40, e89_41, e89_42, e89_43, e89_45, e89_46, e89_47, e89_48, e89_49, e89_51, e89_52]
  exact congrArg (fun z => some (some (Value.int z), H)) (q_pop h hh)
def fCount (S : kS) (w : Int32) : Int32 := qSel 9 w (-102) (fun k => if k = 0 then nI (vn (sV S)) else if k = 1 then vd (sV S) else if k = 2 then vp (sV S) else if k = 3 then nI (qP (vh (sV S))) else if k = 4 then vt (sV S) else if k = 5 then bx_sum (vr (sV S)) (vn (sV S)) else if k = 6 then nI (vb (sV S)) else if k = 7 then nI (sn S) else nI (sr S))
theorem x_count (hq : CR H S) (ho : sOK S) (w : Int32) : ev 60 0 [.ref 0, .int w] [] H = some (some (.int (fCount S w)), H) := by
  have hR := hq.1
  have hV := ho.1
  have hp := hV.2.2.2.2.1
  unfold fCount
  rcases q_case w (show 9 < 2147483648 by decide) with hw | hw | ⟨k, hk, rfl⟩
  · rw [qSel_lo hw, e60_0, e60_1_d _ _ _ (Or.inl (q_toInt_lo hw))]
    simp only [e60_132, e60_134]
  · rw [qSel_hi hw, e60_0, e60_1_d _ _ _ (Or.inr (by have := q_toInt_hi (show 9 < 2147483648 by decide) hw; omega))]
    simp only [e60_132, e60_134]
  · rw [qSel_in hk (by decide)]
    rcases (show k = 0 ∨ k = 1 ∨ k = 2 ∨ k = 3 ∨ k = 4 ∨ k = 5 ∨ k = 6 ∨ k = 7 ∨ k = 8 by omega) with rfl | rfl | rfl | rfl | rfl | rfl | rfl | rfl | rfl
    · simp only [show nI 0 = (0 : Int32) from rfl, e60_0, e60_1_0, e60_1_1, e60_1_2, e60_1_3, e60_1_4, e60_1_5, e60_1_6, e60_1_7, e60_1_8, e60_1_d, e60_52, e60_53, e60_56, e60_59, e60_60, e60_61, e60_64, e60_67, e60_68, e60_69, e60_72, e60_75, e60_78, e60_79, e60_82, e60_83, e60_84, e60_85, e60_88, e60_91, e60_94, e60_95, e60_96, e60_99, e60_102, e60_103, e60_104, e60_107, e60_110, e60_111, e60_112, e60_115, e60_118, e60_119, e60_120, e60_123, e60_126, e60_127, e60_128, e60_131, e60_132, e60_134, c_seats hR, q_bs, q_tl, q_cn, if_true]
    · simp only [show nI 1 = (1 : Int32) from rfl, e60_0, e60_1_0, e60_1_1, e60_1_2, e60_1_3, e60_1_4, e60_1_5, e60_1_6, e60_1_7, e60_1_8, e60_1_d, e60_52, e60_53, e60_56, e60_59, e60_60, e60_61, e60_64, e60_67, e60_68, e60_69, e60_72, e60_75, e60_78, e60_79, e60_82, e60_83, e60_84, e60_85, e60_88, e60_91, e60_94, e60_95, e60_96, e60_99, e60_102, e60_103, e60_104, e60_107, e60_110, e60_111, e60_112, e60_115, e60_118, e60_119, e60_120, e60_123, e60_126, e60_127, e60_128, e60_131, e60_132, e60_134, c_draughtAt hR, q_bs, q_tl, q_cn, if_true, Nat.one_ne_zero, if_false]
    · simp only [show nI 2 = (2 : Int32) from rfl, e60_0, e60_1_0, e60_1_1, e60_1_2, e60_1_3, e60_1_4, e60_1_5, e60_1_6, e60_1_7, e60_1_8, e60_1_d, e60_52, e60_53, e60_56, e60_59, e60_60, e60_61, e60_64, e60_67, e60_68, e60_69, e60_72, e60_75, e60_78, e60_79, e60_82, e60_83, e60_84, e60_85, e60_88, e60_91, e60_94, e60_95, e60_96, e60_99, e60_102, e60_103, e60_104, e60_107, e60_110, e60_111, e60_112, e60_115, e60_118, e60_119, e60_120, e60_123, e60_126, e60_127, e60_128, e60_131, e60_132, e60_134, c_peppered hR hV, q_bs, q_tl, q_cn, if_true, show ¬ (2 : Nat) = 0 by decide, show ¬ (2 : Nat) = 1 by decide, if_false]
      rcases hp with e | e
      · simp only [e, if_true]
      · simp only [e, t10, if_false]
    · simp only [show nI 3 = (3 : Int32) from rfl, e60_0, e60_1_0, e60_1_1, e60_1_2, e60_1_3, e60_1_4, e60_1_5, e60_1_6, e60_1_7, e60_1_8, e60_1_d, e60_52, e60_53, e60_56, e60_59, e60_60, e60_61, e60_64, e60_67, e60_68, e60_69, e60_72, e60_75, e60_78, e60_79, e60_82, e60_83, e60_84, e60_85, e60_88, e60_91, e60_94, e60_95, e60_96, e60_99, e60_102, e60_103, e60_104, e60_107, e60_110, e60_111, e60_112, e60_115, e60_118, e60_119, e60_120, e60_123, e60_126, e60_127, e60_128, e60_131, e60_132, e60_134, c_held hR, c_bitCount hV.2.2.2.2.2.1, q_bs, q_tl, q_cn, if_true, show ¬ (3 : Nat) = 0 by decide, show ¬ (3 : Nat) = 1 by decide, show ¬ (3 : Nat) = 2 by decide, if_false]
    · simp only [show nI 4 = (4 : Int32) from rfl, e60_0, e60_1_0, e60_1_1, e60_1_2, e60_1_3, e60_1_4, e60_1_5, e60_1_6, e60_1_7, e60_1_8, e60_1_d, e60_52, e60_53, e60_56, e60_59, e60_60, e60_61, e60_64, e60_67, e60_68, e60_69, e60_72, e60_75, e60_78, e60_79, e60_82, e60_83, e60_84, e60_85, e60_88, e60_91, e60_94, e60_95, e60_96, e60_99, e60_102, e60_103, e60_104, e60_107, e60_110, e60_111, e60_112, e60_115, e60_118, e60_119, e60_120, e60_123, e60_126, e60_127, e60_128, e60_131, e60_132, e60_134, c_hourNumber hR, q_bs, q_tl, q_cn, if_true, show ¬ (4 : Nat) = 0 by decide, show ¬ (4 : Nat) = 1 by decide, show ¬ (4 : Nat) = 2 by decide, show ¬ (4 : Nat) = 3 by decide, if_false]
    · simp only [show nI 5 = (5 : Int32) from rfl, e60_0, e60_1_0, e60_1_1, e60_1_2, e60_1_3, e60_1_4, e60_1_5, e60_1_6, e60_1_7, e60_1_8, e60_1_d, e60_52, e60_53, e60_56, e60_59, e60_60, e60_61, e60_64, e60_67, e60_68, e60_69, e60_72, e60_75, e60_78, e60_79, e60_82, e60_83, e60_84, e60_85, e60_88, e60_91, e60_94, e60_95, e60_96, e60_99, e60_102, e60_103, e60_104, e60_107, e60_110, e60_111, e60_112, e60_115, e60_118, e60_119, e60_120, e60_123, e60_126, e60_127, e60_128, e60_131, e60_132, e60_134, c_reignsAll hR hV, q_bs, q_tl, q_cn, if_true, show ¬ (5 : Nat) = 0 by decide, show ¬ (5 : Nat) = 1 by decide, show ¬ (5 : Nat) = 2 by decide, show ¬ (5 : Nat) = 3 by decide, show ¬ (5 : Nat) = 4 by decide, if_false]
    · simp only [show nI 6 = (6 : Int32) from rfl, e60_0, e60_1_0, e60_1_1, e60_1_2, e60_1_3, e60_1_4, e60_1_5, e60_1_6, e60_1_7, e60_1_8, e60_1_d, e60_52, e60_53, e60_56, e60_59, e60_60, e60_61, e60_64, e60_67, e60_68, e60_69, e60_72, e60_75, e60_78, e60_79, e60_82, e60_83, e60_84, e60_85, e60_88, e60_91, e60_94, e60_95, e60_96, e60_99, e60_102, e60_103, e60_104, e60_107, e60_110, e60_111, e60_112, e60_115, e60_118, e60_119, e60_120, e60_123, e60_126, e60_127, e60_128, e60_131, e60_132, e60_134, c_toldHours hR, q_bs, q_tl, q_cn, if_true, show ¬ (6 : Nat) = 0 by decide, show ¬ (6 : Nat) = 1 by decide, show ¬ (6 : Nat) = 2 by decide, show ¬ (6 : Nat) = 3 by decide, show ¬ (6 : Nat) = 4 by decide, show ¬ (6 : Nat) = 5 by decide, if_false]
    · simp only [show nI 7 = (7 : Int32) from rfl, e60_0, e60_1_0, e60_1_1, e60_1_2, e60_1_3, e60_1_4, e60_1_5, e60_1_6, e60_1_7, e60_1_8, e60_1_d, e60_52, e60_53, e60_56, e60_59, e60_60, e60_61, e60_64, e60_67, e60_68, e60_69, e60_72, e60_75, e60_78, e60_79, e60_82, e60_83, e60_84, e60_85, e60_88, e60_91, e60_94, e60_95, e60_96, e60_99, e60_102, e60_103, e60_104, e60_107, e60_110, e60_111, e60_112, e60_115, e60_118, e60_119, e60_120, e60_123, e60_126, e60_127, e60_128, e60_131, e60_132, e60_134, e25_0, e25_1, e25_4, hq.2.1.1, q_bs, q_tl, q_cn, if_true, show ¬ (7 : Nat) = 0 by decide, show ¬ (7 : Nat) = 1 by decide, show ¬ (7 : Nat) = 2 by decide, show ¬ (7 : Nat) = 3 by decide, show ¬ (7 : Nat) = 4 by decide, show ¬ (7 : Nat) = 5 by decide, show ¬ (7 : Nat) = 6 by decide, if_false]
    · simp only [show nI 8 = (8 : Int32) from rfl, e60_0, e60_1_0, e60_1_1, e60_1_2, e60_1_3, e60_1_4, e60_1_5, e60_1_6, e60_1_7, e60_1_8, e60_1_d, e60_52, e60_53, e60_56, e60_59, e60_60, e60_61, e60_64, e60_67, e60_68, e60_69, e60_72, e60_75, e60_78, e60_79, e60_82, e60_83, e60_84, e60_85, e60_88, e60_91, e60_94, e60_95, e60_96, e60_99, e60_102, e60_103, e60_104, e60_107, e60_110, e60_111, e60_112, e60_115, e60_118, e60_119, e60_120, e60_123, e60_126, e60_127, e60_128, e60_131, e60_132, e60_134, hq.2.2.1, q_bs, q_tl, q_cn, if_true, show ¬ (8 : Nat) = 0 by decide, show ¬ (8 : Nat) = 1 by decide, show ¬ (8 : Nat) = 2 by decide, show ¬ (8 : Nat) = 3 by decide, show ¬ (8 : Nat) = 4 by decide, show ¬ (8 : Nat) = 5 by decide, show ¬ (8 : Nat) = 6 by decide, show ¬ (8 : Nat) = 7 by decide, if_false]
end KOB
