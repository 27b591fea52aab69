/-! hour, book, image, count -/
theorem q_subE {x : Int32} {A : Nat} (hA : A < 32) : (x &&& (nI A ^^^ (-1)) = 0) = ∃ s, s < 32 ∧ x = nI s ∧ s &&& A = s := by
  apply propext
  constructor
  · intro h
    have h1 : x &&& nI A = x := by
      apply Int32.toBitVec_inj.1
      have h2 : x.toBitVec &&& (BitVec.ofNat 32 A ^^^ BitVec.allOnes 32) = 0#32 := congrArg Int32.toBitVec h
      show x.toBitVec &&& BitVec.ofNat 32 A = x.toBitVec
      apply BitVec.eq_of_getLsbD_eq
      intro i hi
      have h3 := congrArg (fun b => b.getLsbD i) h2
      simp only [BitVec.getLsbD_and, BitVec.getLsbD_xor, BitVec.getLsbD_allOnes, hi, decide_true, Bool.xor_true, BitVec.getLsbD_zero] at h3
      rw [BitVec.getLsbD_and]
      cases hx : x.toBitVec.getLsbD i with
      | false => rfl
      | true =>
        rw [hx] at h3
        simpa using h3
    have h4 : x = nI x.toBitVec.toNat := by
      apply Int32.toBitVec_inj.1
      show x.toBitVec = BitVec.ofNat 32 x.toBitVec.toNat
      simp
    have h5 : x.toBitVec.toNat &&& A = x.toBitVec.toNat := by
      have h6 := congrArg (fun z => z.toBitVec.toNat) h1
      have h7 : (x &&& nI A).toBitVec.toNat = x.toBitVec.toNat &&& A := by
        show (x.toBitVec &&& BitVec.ofNat 32 A).toNat = _
        rw [BitVec.toNat_and, BitVec.toNat_ofNat, Nat.mod_eq_of_lt (by omega)]
      exact h7.symm.trans h6
    refine ⟨x.toBitVec.toNat, ?_, h4, h5⟩
    have h8 : x.toBitVec.toNat &&& A ≤ A := Nat.and_le_right
    omega
  · rintro ⟨s, hs, rfl, h⟩
    have hf : ∀ s, s < 32 → ∀ A, A < 32 → s &&& A = s → nI s &&& (nI A ^^^ (-1)) = 0 := by decide +kernel
    exact hf s hs A hA h
def vsR (V : kV) (c : Nat) (v : Int32) : kV := (vn V, vk V, vo V, vl V, fu (vr V) c v, vd V, vp V, vh V, vt V, vb V, vB V)
def fHour (V : kV) (x : Int32) : Int32 := qSel 32 x (-102) (fun s => if s &&& qA V (vn V) = s then (if vn V = 0 then -103 else qK (vk V) (vn V) s) else -102)
def tHour (V : kV) (x : Int32) : kV := qSel 32 x V (fun s => if s &&& qA V (vn V) = s then (if vn V = 0 then V else if qK (vk V) (vn V) s = -1 then vsT V else vsK V (qK (vk V) (vn V) s).toNatClampNeg) else V)
theorem qA32 {V : kV} (hV : vOK V) : qA V (vn V) < 32 := Nat.lt_of_lt_of_le (qA_lt V (vn V)) (Nat.pow_le_pow_right (by decide) hV.2.1)
section KOB
variable {H : kH} {S : kS}
theorem cR_re {V : kV} (hR : cR H V) {c : Nat} {v : Int32} : cR (uI H 9 c v) (vsR V c v) := by
  obtain ⟨a1, a2, a3, a4, a5, a6, a7, a8, a9, a10, a11, a12⟩ := hR
  refine ⟨by rw [hI_uIn (by omega)]; exact a1, fun j hj => by rw [hI_uIn (by omega)]; exact a2 j hj, fun j hj => by rw [hI_uIn (by omega)]; exact a3 j hj, fun j hj => by rw [hI_uIn (by omega)]; exact a4 j hj, fun j hj => ?_, by rw [hI_uIn (by omega)]; exact a6, by rw [hI_uIn (by omega)]; exact a7, by rw [hI_uIn (by omega)]; exact a8, by rw [hI_uIn (by omega)]; exact a9, by rw [hI_uIn (by omega)]; exact a10, fun j hj => by rw [hI_uIn (by omega)]; exact a11 j hj, fun h0 s hs => by rw [hI_uIn (by omega)]; exact a12 h0 s hs⟩
  show _ = fu (vr V) c v j
  by_cases e : j = c
  · subst e
    rw [hI_uIs, fu_s]
  · rw [hI_uIn (by omega), fu_n e]
    exact a5 j hj
theorem c_passHour {V : kV} (hR : cR H V) (hV : vOK V) (h0 : 0 < vn V) {s : Nat} (hs : s < 32) : ∃ H1, ev 26 0 [.ref 1, .int (nI s), .null] [] H = some (some (.int (qK (vk V) (vn V) s)), H1) ∧ cR H1 (if qK (vk V) (vn V) s = -1 then vsT V else vsK V (qK (vk V) (vn V) s).toNatClampNeg) ∧ kFr nC H H1 := by
  have h5 := hV.2.1
  rcases qK_in (vk V) (vn V) s (by omega) with hk | ⟨c, hc, hk⟩
  · rw [if_pos hk]
    refine ⟨uI H 1 10 (vt V + 1), ?_, cR_ti hR, kFr_uI (by unfold nC; omega)⟩
    simp only [e26_0, e26_1, e26_2, e26_5, e26_6, e26_7, e26_8, e26_11, e26_14, e26_15, e26_18, e26_19, e26_20, e26_23, e26_24, e26_27, e26_28, e26_29, e26_32, e26_33, e26_34, e26_35, e26_38, e26_39, e26_40, e26_43, e26_46, e26_49, e26_50, e26_51, e26_54, e26_55, e26_56, e26_59, e26_60, c_kingOf hR h0 hs, hk, q_bs, q_tl, q_cn, c_seated0 hR (Or.inl (show (-1 : Int32) < 0 by decide)), t00, if_true, cR_t hR]
  · have hne : ¬ qK (vk V) (vn V) s = -1 := by
      rw [hk]
      intro z
      have := congrArg Int32.toInt z
      rw [nI_toInt (by omega)] at this
      have e : (-1 : Int32).toInt = -1 := rfl
      omega
    rw [if_neg hne, hk, q_cl (by omega)]
    refine ⟨_, ?_, cR_ki hR (c := c), ((kFr_uI (by unfold nC; omega)).tr (kFr_uI (by unfold nC; omega))).tr (kFr_uI (by unfold nC; omega))⟩
    have hR1 := cR_re hR (c := c) (v := vr V c + 1)
    have hl : (hV.2.2.1 c hc).2.2 = (hV.2.2.1 c hc).2.2 := rfl
    have hl6 := (hV.2.2.1 c hc).2.2
    have hs1 : ev 8 0 [.ref 1, .int (nI c)] [] (uI H 9 c (vr V c + 1)) = some (some (.int (nI (vl V c))), uI H 9 c (vr V c + 1)) := by
      simp only [e8_0, e8_1, e8_4, e8_5, e8_8, c_at (show shp 8 = (1, 5) from rfl) (by decide), q_bs, q_tl, q_cn, pAt_in (show c < 5 by omega) (show 5 < 2147483648 by decide), cR_l hR1 (j := c) hc]
      rfl
    simp only [e26_0, e26_1, e26_2, e26_5, e26_6, e26_7, e26_8, e26_11, e26_14, e26_15, e26_18, e26_19, e26_20, e26_23, e26_24, e26_27, e26_28, e26_29, e26_32, e26_33, e26_34, e26_35, e26_38, e26_39, e26_40, e26_43, e26_46, e26_49, e26_50, e26_51, e26_54, e26_55, e26_56, e26_59, e26_60, c_kingOf hR h0 hs, hk, q_bs, q_tl, q_cn, c_seated_in hR hV hc, t10, if_false, c_at (show shp 9 = (1, 5) from rfl) (by decide), pAt_in (show c < 5 by omega) (show 5 < 2147483648 by decide), cR_r hR hc, c_exchange (show shp 9 = (1, 5) from rfl) (by decide) (show c < 5 by omega), hs1, cR_h hR1, show vh (vsR V c (vr V c + 1)) = vh V from rfl, c_said hV.2.2.2.2.2.1 hl6, hI_uIn (show ¬ ((1 : Nat) = 1 ∧ (10 : Nat) = 9) by decide), hI_uIn (show ¬ ((1 : Nat) = 9 ∧ (10 : Nat) = c) by omega), cR_t hR]
theorem x_hour (hq : CR H S) (ho : sOK S) (x : Int32) : ∃ H1, ev 70 0 [.ref 0, .int x] [] H = some (some (.int (fHour (sV S) x)), H1) ∧ CR H1 (ssV S (tHour (sV S) x)) ∧ kFr cC H H1 := by
  have hR := hq.1
  have hV := ho.1
  have h5 := hV.2.1
  have hc := c_canSneeze hR hV x
  unfold fHour tHour
  by_cases hz : x &&& (nI (qA (sV S) (vn (sV S))) ^^^ (-1)) = 0
  · rw [if_pos hz] at hc
    rw [q_subE (qA32 hV)] at hz
    obtain ⟨s, hs, rfl, hA⟩ := hz
    rw [qSel_in hs (by decide), qSel_in hs (by decide), if_pos hA, if_pos hA]
    by_cases h0 : vn (sV S) = 0
    · rw [if_pos h0, if_pos h0]
      refine ⟨H, ?_, CR_self hq, kFr.rf⟩
      simp only [e70_0, e70_1, e70_4, e70_5, e70_8, e70_11, e70_13, e70_14, e70_15, e70_18, e70_21, e70_24, e70_26, e70_27, e70_28, e70_31, e70_32, e70_35, hc, c_seats hR, q_bs, q_tl, q_cn, t10, not_false_eq_true, if_true, q_n0 hV, h0, n00, not_true_eq_false, if_false]
    · rw [if_neg h0, if_neg h0]
      obtain ⟨H1, e1, e2, e3⟩ := c_passHour hR hV (by omega) hs
      refine ⟨H1, ?_, CR_now e3 hq e2, e3.mono (fun k j => nC_cC)⟩
      simp only [e70_0, e70_1, e70_4, e70_5, e70_8, e70_11, e70_13, e70_14, e70_15, e70_18, e70_21, e70_24, e70_26, e70_27, e70_28, e70_31, e70_32, e70_35, hc, c_seats hR, q_bs, q_tl, q_cn, t10, not_false_eq_true, if_true, q_n0 hV, h0, e1]
  · rw [if_neg hz] at hc
    have hno : qSel 32 x (-102) (fun s => if s &&& qA (sV S) (vn (sV S)) = s then (if vn (sV S) = 0 then (-103 : Int32) else qK (vk (sV S)) (vn (sV S)) s) else -102) = -102 ∧ qSel 32 x (sV S) (fun s => if s &&& qA (sV S) (vn (sV S)) = s then (if vn (sV S) = 0 then (sV S) else if qK (vk (sV S)) (vn (sV S)) s = -1 then vsT (sV S) else vsK (sV S) (qK (vk (sV S)) (vn (sV S)) s).toNatClampNeg) else sV S) = sV S := by
      rcases q_case x (show 32 < 2147483648 by decide) with h | h | ⟨s, hs, rfl⟩
      · exact ⟨qSel_lo h, qSel_lo h⟩
      · exact ⟨qSel_hi h, qSel_hi h⟩
      · rw [qSel_in hs (by decide), qSel_in hs (by decide)]
        have hA : ¬ s &&& qA (sV S) (vn (sV S)) = s := by
          intro z
          rw [q_subE (qA32 hV)] at hz
          exact hz ⟨s, hs, rfl, z⟩
        exact ⟨if_neg hA, if_neg hA⟩
    rw [hno.1, hno.2]
    refine ⟨H, ?_, CR_self hq, kFr.rf⟩
    simp only [e70_0, e70_1, e70_4, e70_5, e70_8, e70_11, e70_13, e70_14, e70_15, e70_18, e70_21, e70_24, e70_26, e70_27, e70_28, e70_31, e70_32, e70_35, hc, q_bs, q_tl, q_cn, not_true_eq_false, if_false]
/-- the book -/
def fBook (V : kV) (x : Int32) : Int32 := if x = -1 then (if vb V = 5 then -104 else nI (vb V + 1)) else qSel 64 x (-102) (fun _ => if vb V = 5 then -104 else nI (vb V + 1))
def tBook (V : kV) (x : Int32) : kV := if x = -1 then (if vb V = 5 then V else vsB V (vb V + 1) (fu (vB V) (vb V) x)) else qSel 64 x V (fun _ => if vb V = 5 then V else vsB V (vb V + 1) (fu (vB V) (vb V) x))
theorem c_tell5 {V : kV} (hR : cR H V) (h : vb V = 5) (x : Int32) : ev 20 0 [.ref 1, .int x] [] H = some (some (.int 0), H) := by
  simp only [e20_0, e20_1, e20_4, e20_7, e20_8, e20_11, e20_12, e20_15, e20_16, e20_19, e20_20, e20_21, e20_22, e20_25, e20_26, e20_29, e20_30, e20_31, e20_32, e20_33, e20_36, e20_37, e20_38, e20_41, e20_42, cR_b hR, h, q_lt0 (show 5 < 2147483648 by decide), if_false, show (5 : Int32) = nI 5 from rfl, q_lt (show 5 < 2147483648 by decide) (show 5 < 2147483648 by decide), Nat.lt_irrefl, true_or, if_true]
theorem c_tell {V : kV} (hR : cR H V) (hV : vOK V) (h : ¬ vb V = 5) (x : Int32) : ∃ H1, ev 20 0 [.ref 1, .int x] [] H = some (some (.int 1), H1) ∧ cR H1 (vsB V (vb V + 1) (fu (vB V) (vb V) x)) ∧ kFr nC H H1 := by
  have h5 := hV.2.2.2.2.2.2.1
  refine ⟨uI (uI H 11 (vb V) x) 1 11 (nI (vb V + 1)), ?_, ?_, (kFr_uI (by unfold nC; omega)).tr (kFr_uI (by unfold nC; omega))⟩
  · simp only [e20_0, e20_1, e20_4, e20_7, e20_8, e20_11, e20_12, e20_15, e20_16, e20_19, e20_20, e20_21, e20_22, e20_25, e20_26, e20_29, e20_30, e20_31, e20_32, e20_33, e20_36, e20_37, e20_38, e20_41, e20_42, cR_b hR, q_lt0 (show vb V < 2147483648 by omega), if_false, show (5 : Int32) = nI 5 from rfl, q_lt (show vb V < 2147483648 by omega) (show 5 < 2147483648 by decide), show vb V < 5 by omega, if_true, q_cl (show vb V < 2147483648 by omega), false_or, show ¬ 5 ≤ vb V by omega, hI_uIn (show ¬ ((1 : Nat) = 11 ∧ 11 = vb V) by omega), nI_1, or_true]
  · refine cR_bk hR ((kFr_uI (by omega)).tr (kFr_uI (by omega))) (hI_uIs _ _ _ _) (fun j hj => ?_)
    rw [hI_uIn (by omega)]
    by_cases e : j = vb V
    · subst e
      rw [hI_uIs, fu_s]
    · rw [hI_uIn (by omega), fu_n e]
      exact cR_B hR (by omega)
theorem x_book (hq : CR H S) (ho : sOK S) (x : Int32) : ∃ H1, ev 77 0 [.ref 0, .int x] [] H = some (some (.int (fBook (sV S) x)), H1) ∧ CR H1 (ssV S (tBook (sV S) x)) ∧ kFr cC H H1 := by
  have hR := hq.1
  have hV := ho.1
  have h5 := hV.2.2.2.2.2.2.1
  have go : ∀ P : ev 77 0 [.ref 0, .int x] [] H = ev 77 15 [.ref 0, .int x] [] H, ∃ H1, ev 77 0 [.ref 0, .int x] [] H = some (some (.int (if vb (sV S) = 5 then -104 else nI (vb (sV S) + 1))), H1) ∧ CR H1 (ssV S (if vb (sV S) = 5 then sV S else vsB (sV S) (vb (sV S) + 1) (fu (vB (sV S)) (vb (sV S)) x))) ∧ kFr cC H H1 := by
    intro P
    by_cases hb : vb (sV S) = 5
    · rw [if_pos hb, if_pos hb]
      refine ⟨H, ?_, CR_self hq, kFr.rf⟩
      rw [P]
      simp only [e77_15, e77_16, e77_19, e77_20, e77_23, e77_26, e77_27, e77_30, e77_33, e77_36, e77_38, c_tell5 hR hb, q_bs, q_tl, q_cn, t00, if_true]
    · rw [if_neg hb, if_neg hb]
      obtain ⟨H1, e1, e2, e3⟩ := c_tell hR hV hb x
      refine ⟨H1, ?_, CR_now e3 hq e2, e3.mono (fun k j => nC_cC)⟩
      rw [P]
      simp only [e77_15, e77_16, e77_19, e77_20, e77_23, e77_26, e77_27, e77_30, e77_33, e77_36, e77_38, e1, q_bs, q_tl, q_cn, t10, if_false, c_toldHours e2]
      rfl
  unfold fBook tBook
  by_cases hm : x = -1
  · rw [if_pos hm, if_pos hm]
    refine go ?_
    subst hm
    simp only [e77_0, e77_1, e77_2, e77_5, e77_6, e77_9, e77_12, tm1, if_true]
  · rw [if_neg hm, if_neg hm]
    rcases q_case x (show 64 < 2147483648 by decide) with hc | hc | ⟨i, hi, rfl⟩
    · rw [qSel_lo hc, qSel_lo hc]
      refine ⟨H, ?_, CR_self hq, kFr.rf⟩
      simp only [e77_0, e77_1, e77_2, e77_5, e77_6, e77_9, e77_12, e77_14, e77_15, e77_16, e77_19, e77_20, e77_23, e77_26, e77_27, e77_30, e77_33, e77_36, e77_38, hm, if_false, c_isSet_lo hc, q_bs, q_tl, q_cn, not_true_eq_false]
    · rw [qSel_hi hc, qSel_hi hc]
      refine ⟨H, ?_, CR_self hq, kFr.rf⟩
      simp only [e77_0, e77_1, e77_2, e77_5, e77_6, e77_9, e77_12, e77_14, e77_15, e77_16, e77_19, e77_20, e77_23, e77_26, e77_27, e77_30, e77_33, e77_36, e77_38, hm, if_false, c_isSet_hi hc, q_bs, q_tl, q_cn, not_true_eq_false]
    · rw [qSel_in hi (by omega), qSel_in hi (by omega)]
      refine go ?_
      simp only [e77_0, e77_1, e77_2, e77_5, e77_6, e77_9, e77_12, hm, if_false, c_isSet_in hi, q_bs, q_tl, q_cn, t10, not_false_eq_true, if_true]
theorem x_forget (hq : CR H S) : ∃ H1, ev 78 0 [.ref 0] [] H = some (some (.int (nI (vb (sV S)))), H1) ∧ CR H1 (ssV S (vsB (sV S) 0 (vB (sV S)))) ∧ kFr cC H H1 := by
  refine ⟨uI H 1 11 0, ?_, CR_now (kFr_uI (by unfold nC; omega)) hq (cR_bk hq.1 (kFr_uI (by omega)) (hI_uIs _ _ _ _) (fun j hj => absurd hj (by omega))), kFr_uI (by unfold cC; omega)⟩
  simp only [e78_0, e78_1, e78_4, e78_7, e21_0, e21_1, e21_4, e21_5, e21_6, e21_7, e21_10, e21_11, cR_b hq.1, q_bs, q_tl, q_cn]
/-- what is counted -/
def pBC (x : Int32) : Int32 :=
  let u (a b : Int32) : Int32 := (a.toUInt32 >>> (b.toUInt32 &&& Int32.toUInt32 31)).toInt32
  let a := x - (u x 1 &&& 1431655765)
  let b := (a &&& 858993459) + (u a 2 &&& 858993459)
  let c := (b + u b 4) &&& 252645135
  let d := c + u c 8
  let e := d + u d 16
  e &&& 63
def qP (h : Nat) : Nat := h % 2 + h / 2 % 2 + h / 4 % 2 + h / 8 % 2 + h / 16 % 2 + h / 32 % 2
theorem q_pop : ∀ h, h < 64 → pBC (nI h) = nI (qP h) := by decide +kernel
theorem c_bitCount {h : Nat} (hh : h < 64) : ev 152 0 [.int (nI h)] [] H = some (some (.int (nI (qP h))), H) := by
  simp only [e152_0, e152_1, e152_2, e152_3, e152_4, e152_7, e152_8, e152_9, e152_10, e152_11, e152_14, e152_15, e152_16, e152_17, e152_18, e152_21, e152_22, e152_23, e152_24, e152_25, e152_26, e152_27, e152_28, e152_29, e152_32, e152_33, e152_34, e152_35, e152_36, e152_38, e152_39, e152_40, e152_41, e152_42, e152_43, e152_45, e152_46, e152_47, e152_48, e152_49, e152_51, e152_52]
  exact congrArg (fun z => some (some (Value.int z), H)) (q_pop h hh)
def fCount (S : kS) (w : Int32) : Int32 := qSel 9 w (-102) (fun k => if k = 0 then nI (vn (sV S)) else if k = 1 then vd (sV S) else if k = 2 then vp (sV S) else if k = 3 then nI (qP (vh (sV S))) else if k = 4 then vt (sV S) else if k = 5 then bx_sum (vr (sV S)) (vn (sV S)) else if k = 6 then nI (vb (sV S)) else if k = 7 then nI (sn S) else nI (sr S))
theorem x_count (hq : CR H S) (ho : sOK S) (w : Int32) : ev 84 0 [.ref 0, .int w] [] H = some (some (.int (fCount S w)), H) := by
  have hR := hq.1
  have hV := ho.1
  have hp := hV.2.2.2.2.1
  unfold fCount
  rcases q_case w (show 9 < 2147483648 by decide) with hw | hw | ⟨k, hk, rfl⟩
  · rw [qSel_lo hw, e84_0, e84_1_d _ _ _ (Or.inl (q_toInt_lo hw))]
    simp only [e84_132, e84_134]
  · rw [qSel_hi hw, e84_0, e84_1_d _ _ _ (Or.inr (by have := q_toInt_hi (show 9 < 2147483648 by decide) hw; omega))]
    simp only [e84_132, e84_134]
  · rw [qSel_in hk (by decide)]
    rcases (show k = 0 ∨ k = 1 ∨ k = 2 ∨ k = 3 ∨ k = 4 ∨ k = 5 ∨ k = 6 ∨ k = 7 ∨ k = 8 by omega) with rfl | rfl | rfl | rfl | rfl | rfl | rfl | rfl | rfl
    · simp only [show nI 0 = (0 : Int32) from rfl, e84_0, e84_1_0, e84_1_1, e84_1_2, e84_1_3, e84_1_4, e84_1_5, e84_1_6, e84_1_7, e84_1_8, e84_1_d, e84_52, e84_53, e84_56, e84_59, e84_60, e84_61, e84_64, e84_67, e84_68, e84_69, e84_72, e84_75, e84_78, e84_79, e84_82, e84_83, e84_84, e84_85, e84_88, e84_91, e84_94, e84_95, e84_96, e84_99, e84_102, e84_103, e84_104, e84_107, e84_110, e84_111, e84_112, e84_115, e84_118, e84_119, e84_120, e84_123, e84_126, e84_127, e84_128, e84_131, e84_132, e84_134, c_seats hR, q_bs, q_tl, q_cn, if_true]
    · simp only [show nI 1 = (1 : Int32) from rfl, e84_0, e84_1_0, e84_1_1, e84_1_2, e84_1_3, e84_1_4, e84_1_5, e84_1_6, e84_1_7, e84_1_8, e84_1_d, e84_52, e84_53, e84_56, e84_59, e84_60, e84_61, e84_64, e84_67, e84_68, e84_69, e84_72, e84_75, e84_78, e84_79, e84_82, e84_83, e84_84, e84_85, e84_88, e84_91, e84_94, e84_95, e84_96, e84_99, e84_102, e84_103, e84_104, e84_107, e84_110, e84_111, e84_112, e84_115, e84_118, e84_119, e84_120, e84_123, e84_126, e84_127, e84_128, e84_131, e84_132, e84_134, c_draughtAt hR, q_bs, q_tl, q_cn, if_true, Nat.one_ne_zero, if_false]
    · simp only [show nI 2 = (2 : Int32) from rfl, e84_0, e84_1_0, e84_1_1, e84_1_2, e84_1_3, e84_1_4, e84_1_5, e84_1_6, e84_1_7, e84_1_8, e84_1_d, e84_52, e84_53, e84_56, e84_59, e84_60, e84_61, e84_64, e84_67, e84_68, e84_69, e84_72, e84_75, e84_78, e84_79, e84_82, e84_83, e84_84, e84_85, e84_88, e84_91, e84_94, e84_95, e84_96, e84_99, e84_102, e84_103, e84_104, e84_107, e84_110, e84_111, e84_112, e84_115, e84_118, e84_119, e84_120, e84_123, e84_126, e84_127, e84_128, e84_131, e84_132, e84_134, c_peppered hR hV, q_bs, q_tl, q_cn, if_true, show ¬ (2 : Nat) = 0 by decide, show ¬ (2 : Nat) = 1 by decide, if_false]
      rcases hp with e | e
      · simp only [e, if_true]
      · simp only [e, t10, if_false]
    · simp only [show nI 3 = (3 : Int32) from rfl, e84_0, e84_1_0, e84_1_1, e84_1_2, e84_1_3, e84_1_4, e84_1_5, e84_1_6, e84_1_7, e84_1_8, e84_1_d, e84_52, e84_53, e84_56, e84_59, e84_60, e84_61, e84_64, e84_67, e84_68, e84_69, e84_72, e84_75, e84_78, e84_79, e84_82, e84_83, e84_84, e84_85, e84_88, e84_91, e84_94, e84_95, e84_96, e84_99, e84_102, e84_103, e84_104, e84_107, e84_110, e84_111, e84_112, e84_115, e84_118, e84_119, e84_120, e84_123, e84_126, e84_127, e84_128, e84_131, e84_132, e84_134, c_held hR, c_bitCount hV.2.2.2.2.2.1, q_bs, q_tl, q_cn, if_true, show ¬ (3 : Nat) = 0 by decide, show ¬ (3 : Nat) = 1 by decide, show ¬ (3 : Nat) = 2 by decide, if_false]
    · simp only [show nI 4 = (4 : Int32) from rfl, e84_0, e84_1_0, e84_1_1, e84_1_2, e84_1_3, e84_1_4, e84_1_5, e84_1_6, e84_1_7, e84_1_8, e84_1_d, e84_52, e84_53, e84_56, e84_59, e84_60, e84_61, e84_64, e84_67, e84_68, e84_69, e84_72, e84_75, e84_78, e84_79, e84_82, e84_83, e84_84, e84_85, e84_88, e84_91, e84_94, e84_95, e84_96, e84_99, e84_102, e84_103, e84_104, e84_107, e84_110, e84_111, e84_112, e84_115, e84_118, e84_119, e84_120, e84_123, e84_126, e84_127, e84_128, e84_131, e84_132, e84_134, c_hourNumber hR, q_bs, q_tl, q_cn, if_true, show ¬ (4 : Nat) = 0 by decide, show ¬ (4 : Nat) = 1 by decide, show ¬ (4 : Nat) = 2 by decide, show ¬ (4 : Nat) = 3 by decide, if_false]
    · simp only [show nI 5 = (5 : Int32) from rfl, e84_0, e84_1_0, e84_1_1, e84_1_2, e84_1_3, e84_1_4, e84_1_5, e84_1_6, e84_1_7, e84_1_8, e84_1_d, e84_52, e84_53, e84_56, e84_59, e84_60, e84_61, e84_64, e84_67, e84_68, e84_69, e84_72, e84_75, e84_78, e84_79, e84_82, e84_83, e84_84, e84_85, e84_88, e84_91, e84_94, e84_95, e84_96, e84_99, e84_102, e84_103, e84_104, e84_107, e84_110, e84_111, e84_112, e84_115, e84_118, e84_119, e84_120, e84_123, e84_126, e84_127, e84_128, e84_131, e84_132, e84_134, c_reignsAll hR hV, q_bs, q_tl, q_cn, if_true, show ¬ (5 : Nat) = 0 by decide, show ¬ (5 : Nat) = 1 by decide, show ¬ (5 : Nat) = 2 by decide, show ¬ (5 : Nat) = 3 by decide, show ¬ (5 : Nat) = 4 by decide, if_false]
    · simp only [show nI 6 = (6 : Int32) from rfl, e84_0, e84_1_0, e84_1_1, e84_1_2, e84_1_3, e84_1_4, e84_1_5, e84_1_6, e84_1_7, e84_1_8, e84_1_d, e84_52, e84_53, e84_56, e84_59, e84_60, e84_61, e84_64, e84_67, e84_68, e84_69, e84_72, e84_75, e84_78, e84_79, e84_82, e84_83, e84_84, e84_85, e84_88, e84_91, e84_94, e84_95, e84_96, e84_99, e84_102, e84_103, e84_104, e84_107, e84_110, e84_111, e84_112, e84_115, e84_118, e84_119, e84_120, e84_123, e84_126, e84_127, e84_128, e84_131, e84_132, e84_134, c_toldHours hR, q_bs, q_tl, q_cn, if_true, show ¬ (6 : Nat) = 0 by decide, show ¬ (6 : Nat) = 1 by decide, show ¬ (6 : Nat) = 2 by decide, show ¬ (6 : Nat) = 3 by decide, show ¬ (6 : Nat) = 4 by decide, show ¬ (6 : Nat) = 5 by decide, if_false]
    · simp only [show nI 7 = (7 : Int32) from rfl, e84_0, e84_1_0, e84_1_1, e84_1_2, e84_1_3, e84_1_4, e84_1_5, e84_1_6, e84_1_7, e84_1_8, e84_1_d, e84_52, e84_53, e84_56, e84_59, e84_60, e84_61, e84_64, e84_67, e84_68, e84_69, e84_72, e84_75, e84_78, e84_79, e84_82, e84_83, e84_84, e84_85, e84_88, e84_91, e84_94, e84_95, e84_96, e84_99, e84_102, e84_103, e84_104, e84_107, e84_110, e84_111, e84_112, e84_115, e84_118, e84_119, e84_120, e84_123, e84_126, e84_127, e84_128, e84_131, e84_132, e84_134, e29_0, e29_1, e29_4, hq.2.1.1, q_bs, q_tl, q_cn, if_true, show ¬ (7 : Nat) = 0 by decide, show ¬ (7 : Nat) = 1 by decide, show ¬ (7 : Nat) = 2 by decide, show ¬ (7 : Nat) = 3 by decide, show ¬ (7 : Nat) = 4 by decide, show ¬ (7 : Nat) = 5 by decide, show ¬ (7 : Nat) = 6 by decide, if_false]
    · simp only [show nI 8 = (8 : Int32) from rfl, e84_0, e84_1_0, e84_1_1, e84_1_2, e84_1_3, e84_1_4, e84_1_5, e84_1_6, e84_1_7, e84_1_8, e84_1_d, e84_52, e84_53, e84_56, e84_59, e84_60, e84_61, e84_64, e84_67, e84_68, e84_69, e84_72, e84_75, e84_78, e84_79, e84_82, e84_83, e84_84, e84_85, e84_88, e84_91, e84_94, e84_95, e84_96, e84_99, e84_102, e84_103, e84_104, e84_107, e84_110, e84_111, e84_112, e84_115, e84_118, e84_119, e84_120, e84_123, e84_126, e84_127, e84_128, e84_131, e84_132, e84_134, hq.2.2.1, q_bs, q_tl, q_cn, if_true, show ¬ (8 : Nat) = 0 by decide, show ¬ (8 : Nat) = 1 by decide, show ¬ (8 : Nat) = 2 by decide, show ¬ (8 : Nat) = 3 by decide, show ¬ (8 : Nat) = 4 by decide, show ¬ (8 : Nat) = 5 by decide, show ¬ (8 : Nat) = 6 by decide, show ¬ (8 : Nat) = 7 by decide, if_false]
end KOB
