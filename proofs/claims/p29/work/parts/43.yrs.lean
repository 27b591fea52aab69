/-! years() of the law -/
/-- the council behind so many hours of a seed -/
def vY (V : kV) (Y : kY) (m : Nat) : kV := (vn V, vk V, vo V, vl V, fun j => nI (Y.2.2.1 j), vd V, vp V, Y.1, vt V + nI m, vb V, vB V)
theorem vOK_vY {V : kV} (hV : vOK V) {Y : kY} (h : Y.1 < 64) (m : Nat) : vOK (vY V Y m) := by
  obtain ⟨h1, h2, h3, h4, h5, h6, h7, h8⟩ := hV
  exact ⟨h1, h2, h3, h4, h5, h, h7, h8⟩
theorem tGo_vY {V : kV} (hV : vOK V) (Y : kY) (m : Nat) : tGo (vY V Y m) (qDw V (vt V + nI m) Y.1 Y.2.1 (vn V)).2 = vY V (qLh V (vt V + nI m) Y) (m + 1) := by
  have h5 := hV.2.1
  have ht : vt V + nI m + 1 = vt V + nI (m + 1) := by rw [Int32.add_assoc, nI_1]
  unfold tGo qLh
  show (if qK (vk V) (vn V) (qDw V (vt V + nI m) Y.1 Y.2.1 (vn V)).2 = -1 then vsT (vY V Y m) else vsK (vY V Y m) (qK (vk V) (vn V) (qDw V (vt V + nI m) Y.1 Y.2.1 (vn V)).2).toNatClampNeg) = _
  split
  · show (_, _, _, _, _, _, _, _, vt V + nI m + 1, _, _) = _
    rw [ht]
    rfl
  · show (vn V, vk V, vo V, vl V, fu (fun j => nI (Y.2.2.1 j)) _ (nI (Y.2.2.1 _) + 1), vd V, vp V, _, vt V + nI m + 1, vb V, vB V) = _
    rw [ht, nI_1]
    unfold vY
    refine congrArg (fun f => (vn V, vk V, vo V, vl V, f, vd V, vp V, _, vt V + nI (m + 1), vb V, vB V)) (funext fun j => ?_)
    unfold fu
    dsimp only
    split <;> rfl
section LWY
variable {S : kS}
/-- the draws of an hour -/
theorem l_ydraw {V : kV} (hV : vOK V) {Y : kY} (hY : Y.1 < 64) {s : Nat} (hs : s < 2147483648) (m : Nat) (x3 x4 x8 x9 : Int32) {H : kH} (hsq : shq H 30 = (1, 19)) (hb : bR H V) (hd : dR H 30 (vY V Y m)) : ∀ i j, j + i = vn V → ev 87 59 [.ref 0, .ref 27, .ref 28, .int x3, .int x4, .ref 30, .long (lN (qDw V (vt V + nI m) Y.1 s j).1), .null, .int x8, .int x9, .int (nI (qDw V (vt V + nI m) Y.1 s j).2), .int (nI j)] [] H = ev 87 112 [.ref 0, .ref 27, .ref 28, .int x3, .int x4, .ref 30, .long (lN (qDw V (vt V + nI m) Y.1 s (vn V)).1), .null, .int x8, .int x9, .int (nI (qDw V (vt V + nI m) Y.1 s (vn V)).2), .int (nI (vn V))] [] H := by
  have h5 := hV.2.1
  have hV2 := vOK_vY hV hY m
  have hb2 : bR H (vY V Y m) := hb
  have hz1 : ((65536 : Int64) = 0) = False := eq_false (by decide)
  have hz2 : ((10 : Int64) = 0) = False := eq_false (by decide)
  intro i
  induction i with
  | zero =>
    intro j hj
    have : j = vn V := by omega
    subst this
    rw [e87_59]
    simp only [e87_61, e87_62, e87_63, e87_64, zb5, nb5, cx5, or_self, hb.1, Std.le_refl, if_true, if_false]
  | succ i ih =>
    intro j hj
    obtain ⟨d1, d2⟩ := qDw_lt (V := V) (num := vt V + nI m) (h := Y.1) hs j
    have d3 := qSd_lt (qDw V (vt V + nI m) Y.1 s j).1
    have ht : qtn V j (vt V + nI m) Y.1 (vd V) ≤ 9 := qtn_le9 V j _ _ _
    have et := y_tenths hsq hb2 hd hV2 (show j < vn (vY V Y m) from (by show j < vn V; omega))
    have et : ev 74 0 [.ref 27, .ref 30, .int (nI j), .null] [] H = some (some (.int (nI (qtn V j (vt V + nI m) Y.1 (vd V)))), H) := et
    have hq1 : (65536 : Int64) = lN 65536 := rfl
    have e1 : lN (qSd (qDw V (vt V + nI m) Y.1 s j).1) / 65536 = lN (qSd (qDw V (vt V + nI m) Y.1 s j).1 / 65536) := by rw [hq1, pk_lDiv (by omega) (by decide) (by decide)]
    have e2 : lN (qSd (qDw V (vt V + nI m) Y.1 s j).1 / 65536) - lN (qSd (qDw V (vt V + nI m) Y.1 s j).1 / 65536) / 10 * 10 = lN (qDr (qDw V (vt V + nI m) Y.1 s j).1) := by
      rw [show (10 : Int64) = lN 10 from rfl, pk_lRem (by omega) (by decide) (by decide)]
      rfl
    have hd10 : qDr (qDw V (vt V + nI m) Y.1 s j).1 < 10 := Nat.mod_lt _ (by decide)
    have hge : (0 ≤ lg_cmp (lN (qDr (qDw V (vt V + nI m) Y.1 s j).1)) (lN (qtn V j (vt V + nI m) Y.1 (vd V)))) = (qtn V j (vt V + nI m) Y.1 (vd V) ≤ qDr (qDw V (vt V + nI m) Y.1 s j).1) := by
      rw [propext (lg_cmp_ge _ _), q_leL (by omega) (by omega)]
    rw [← ih (j + 1) (by omega), e87_59]
    by_cases hlt : qDr (qDw V (vt V + nI m) Y.1 s j).1 < qtn V j (vt V + nI m) Y.1 (vd V)
    · simp only [e87_61, e87_62, e87_63, e87_64, e87_67, e87_69, e87_72, e87_74, e87_76, e87_79, e87_80, e87_83, e87_84, e87_85, e87_87, e87_89, e87_92, e87_93, e87_94, e87_97, e87_99, e87_100, e87_102, e87_103, e87_104, e87_106, e87_109, zb5, nb5, cx5, or_self, hb.1, q_le (show vn V < 2147483648 by omega) (show j < 2147483648 by omega), show ¬ vn V ≤ j by omega, if_false, y_after d1, q_bs, q_tl, q_cn, hz1, hz2, e1, e2, et, q_i2lN (show qtn V j (vt V + nI m) Y.1 (vd V) < 2147483648 by omega), hge, show ¬ qtn V j (vt V + nI m) Y.1 (vd V) ≤ qDr (qDw V (vt V + nI m) Y.1 s j).1 by omega, q_shl1 j (by omega), q_or, nI_1, qDw, hlt, if_true]
    · simp only [e87_61, e87_62, e87_63, e87_64, e87_67, e87_69, e87_72, e87_74, e87_76, e87_79, e87_80, e87_83, e87_84, e87_85, e87_87, e87_89, e87_92, e87_93, e87_94, e87_97, e87_99, e87_100, e87_102, e87_103, e87_104, e87_106, e87_109, zb5, nb5, cx5, or_self, hb.1, q_le (show vn V < 2147483648 by omega) (show j < 2147483648 by omega), show ¬ vn V ≤ j by omega, if_false, y_after d1, q_bs, q_tl, q_cn, hz1, hz2, e1, e2, et, q_i2lN (show qtn V j (vt V + nI m) Y.1 (vd V) < 2147483648 by omega), hge, show qtn V j (vt V + nI m) Y.1 (vd V) ≤ qDr (qDw V (vt V + nI m) Y.1 s j).1 by omega, nI_1, qDw, hlt, if_true]
/-- hours -/
theorem l_yhour (ho : sOK S) {s mm : Nat} (hs : s < 2147483648) (hmm : mm < 1000) (x4 : Int32) : ∀ i m v10 v11 H, m + i = mm → kI H S → dR H 30 (vY (sV S) (qLv (sV S) s m) m) → ∃ H1 w10 w11, ev 87 47 [.ref 0, .ref 27, .ref 28, .int (nI mm), .int x4, .ref 30, .long (lN (qLv (sV S) s m).2.1), .null, .int (nI (qLv (sV S) s m).2.2.2), .int (nI m), v10, v11] [] H = ev 87 139 [.ref 0, .ref 27, .ref 28, .int (nI mm), .int x4, .ref 30, .long (lN (qLv (sV S) s mm).2.1), .null, .int (nI (qLv (sV S) s mm).2.2.2), .int (nI mm), w10, w11] [] H1 ∧ kI H1 S ∧ kFr kC H H1 ∧ dR H1 30 (vY (sV S) (qLv (sV S) s mm) mm) := by
  have hV := ho.1
  have h5 := hV.2.1
  intro i
  induction i with
  | zero =>
    intro m v10 v11 H hm h hd
    have : m = mm := by omega
    subst this
    refine ⟨H, v10, v11, ?_, h, kFr.rf, hd⟩
    rw [e87_47]
    simp only [e87_49, e87_50, Std.le_refl, if_true]
  | succ i ih =>
    intro m v10 v11 H hm h hd
    obtain ⟨y1, y2, y3⟩ := qLv_ok hV hs m
    have y4 : (qLv (sV S) s m).2.2.2 < 2147483000 := by
      have : ∀ k, (qLv (sV S) s k).2.2.2 ≤ k := by
        intro k
        induction k with
        | zero => exact Nat.le_refl _
        | succ k ihk =>
          show (qLh (sV S) _ (qLv (sV S) s k)).2.2.2 ≤ k + 1
          unfold qLh
          split
          · show (qLv (sV S) s k).2.2.2 ≤ k + 1
            omega
          · show (qLv (sV S) s k).2.2.2 + 1 ≤ k + 1
            omega
      have := this m
      omega
    have dl := (qDw_lt (V := sV S) (num := vt (sV S) + nI m) (h := (qLv (sV S) s m).1) y2 (vn (sV S))).2
    have d32 := pow2_le h5
    have hV2 := vOK_vY hV y1 m
    have hb2 : bR H (vY (sV S) (qLv (sV S) s m) m) := h.2.1
    obtain ⟨H1, e1, d1, f1⟩ := y_go h.2.2.2 hb2 hd hV2 (s := (qDw (sV S) (vt (sV S) + nI m) (qLv (sV S) s m).1 (qLv (sV S) s m).2.1 (vn (sV S))).2) (by omega)
    rw [tGo_vY hV] at d1
    have e1 : ev 77 0 [.ref 27, .ref 30, .int (nI (qDw (sV S) (vt (sV S) + nI m) (qLv (sV S) s m).1 (qLv (sV S) s m).2.1 (vn (sV S))).2), .null] [] H = some (some (.int (qK (vk (sV S)) (vn (sV S)) (qDw (sV S) (vt (sV S) + nI m) (qLv (sV S) s m).1 (qLv (sV S) s m).2.1 (vn (sV S))).2)), H1) := e1
    have i1 := kI_30 f1 h
    have hdr := l_ydraw hV y1 y2 m (nI mm) x4 (nI (qLv (sV S) s m).2.2.2) (nI m) h.2.2.2 h.2.1 hd (vn (sV S)) 0 (by omega)
    obtain ⟨H2, w10, w11, e2, i2, f2, d2⟩ := ih (m + 1) (.int (nI (qDw (sV S) (vt (sV S) + nI m) (qLv (sV S) s m).1 (qLv (sV S) s m).2.1 (vn (sV S))).2)) (.int (nI (vn (sV S)))) H1 (by omega) i1 d1
    refine ⟨H2, w10, w11, ?_, i2, (f1.mono (fun k j z => Or.inr z)).tr f2, d2⟩
    rw [← e2, e87_47]
    simp only [e87_49, e87_50, e87_53, e87_54, e87_56, e87_57, q_le (show mm < 2147483648 by omega) (show m < 2147483648 by omega), show ¬ mm ≤ m by omega, if_false]
    have hdr0 : ev 87 59 [.ref 0, .ref 27, .ref 28, .int (nI mm), .int x4, .ref 30, .long (lN (qLv (sV S) s m).2.1), .null, .int (nI (qLv (sV S) s m).2.2.2), .int (nI m), .int (nI 0), .int (nI 0)] [] H = _ := hdr
    rw [show (.int 0 : Value) = .int (nI 0) from rfl]
    rw [hdr0]
    have eY : qLv (sV S) s (m + 1) = qLh (sV S) (vt (sV S) + nI m) (qLv (sV S) s m) := rfl
    rw [eY]
    unfold qLh
    rcases qK_in (vk (sV S)) (vn (sV S)) (qDw (sV S) (vt (sV S) + nI m) (qLv (sV S) s m).1 (qLv (sV S) s m).2.1 (vn (sV S))).2 (by omega) with e | ⟨c, hc, e⟩
    · rw [e] at e1
      rw [if_pos e]
      simp only [e87_112, e87_114, e87_115, e87_117, e87_119, e87_122, e87_125, e87_126, e87_129, e87_130, e87_131, e87_133, e87_136, e1, q_bs, q_tl, q_cn, show (nI 0 ≤ (-1 : Int32)) = False from eq_false (by decide), if_false, show (0 : Int32) = nI 0 from rfl, q_add, nI_1, Nat.add_zero]
    · rw [e] at e1
      rw [if_neg (by rw [e, q_m1ne (by omega)]; exact id)]
      simp only [e87_112, e87_114, e87_115, e87_117, e87_119, e87_122, e87_125, e87_126, e87_129, e87_130, e87_131, e87_133, e87_136, e1, q_bs, q_tl, q_cn, q_ge0 (show c < 2147483648 by omega), if_true, show (1 : Int32) = nI 1 from rfl, q_add]
/-- nobody was king yet -/
theorem l_yzero (x3 x4 x8 : Int32) (l6 : Int64) : ∀ i j H, j + i = 5 → shq H 30 = (1, 19) → ∃ H1, ev 87 23 [.ref 0, .ref 27, .ref 28, .int x3, .int x4, .ref 30, .long l6, .null, .int x8, .int (nI j), .null, .null] [] H = ev 87 44 [.ref 0, .ref 27, .ref 28, .int x3, .int x4, .ref 30, .long l6, .null, .int x8, .int (nI 5), .null, .null] [] H1 ∧ kFr (fun a _ => a = 30) H H1 ∧ (∀ q, j ≤ q → q < 5 → hI H1 30 (10 + q) = 0) ∧ ∀ q, (q < 10 + j ∨ 15 ≤ q) → hI H1 30 q = hI H 30 q := by
  intro i
  induction i with
  | zero =>
    intro j H hj hs
    have : j = 5 := by omega
    subst this
    refine ⟨H, ?_, kFr.rf, fun q h1 h2 => absurd h2 (by omega), fun _ _ => rfl⟩
    rw [e87_23]
    simp only [e87_25, e87_26, show (5 : Int32) = nI 5 from rfl, Std.le_refl, if_true]
  | succ i ih =>
    intro j H hj hs
    obtain ⟨H', h1, h2, h3, h4⟩ := ih (j + 1) (uI H 30 (10 + j) 0) (by omega) hs
    refine ⟨H', ?_, (kFr_uI (P := fun a _ => a = 30) rfl).tr h2, fun q hq1 hq2 => ?_, fun q hq => ?_⟩
    · rw [← h1, e87_23]
      simp only [e87_25, e87_26, e87_29, e87_31, e87_33, e87_35, e87_36, e87_37, e87_38, e87_41, show (5 : Int32) = nI 5 from rfl, show (10 : Int32) = nI 10 from rfl, q_add, q_le (show 5 < 2147483648 by decide) (show j < 2147483648 by omega), show ¬ 5 ≤ j by omega, if_false, q_lt0 (show 10 + j < 2147483648 by omega), q_cl (show 10 + j < 2147483648 by omega), show ¬ 19 ≤ 10 + j by omega, or_self, hs, nI_1]
    · by_cases e : q = j
      · subst e
        rw [h4 (10 + q) (by omega), hI_uIs]
      · exact h3 q (by omega) hq2
    · rw [h4 q (by omega), hI_uIn (by omega)]
theorem dR_zero {H H1 : kH} {V : kV} (hV : vOK V) (s : Nat) (g1 : ∀ q, q < 5 → hI H1 30 (10 + q) = 0) (g2 : ∀ q, (q < 10 ∨ 15 ≤ q) → hI H1 30 q = hI H 30 q) (hd : dR H 30 V) : dR H1 30 (vY V (qLv V s 0) 0) := by
  have h5 := hV.2.1
  obtain ⟨h1, h2, h3, h4, h6, h7, h8⟩ := hd
  refine ⟨fun j hj => ?_, fun j hj => ?_, fun j hj => g1 j hj, (g2 _ (by omega)).trans h4, (g2 _ (by omega)).trans h6, (g2 _ (by omega)).trans h7, ?_⟩
  · have hj : j < vn V := hj
    exact (g2 _ (by omega)).trans (h1 j hj)
  · have hj : j < vn V := hj
    exact (g2 _ (by omega)).trans (h2 j hj)
  · rw [g2 18 (by omega), h8]
    exact (Int32.add_zero _).symm
theorem fYears_in {V : kV} (h0 : 0 < vn V) {mm s w : Nat} (h1 : 1 ≤ mm) (h60 : mm ≤ 60) (hs : s < 2147483648) (hw : w < 15) (hn : ¬ (3 ≤ w ∧ w < 10)) : fYears V (nI mm) (nI s) (nI w) = if w = 0 then nI (qLv V s mm).2.2.2 else if w = 1 then nI (qLv V s mm).1 else if w = 2 then nI (qLv V s mm).2.1 else nI ((qLv V s mm).2.2.1 (w - 10)) := by
  unfold fYears
  rw [qSel_in (by omega) (by decide), if_neg (by omega), if_neg (by rw [q_lt0 hs]; exact id), qSel_in hw (by decide), if_neg hn, if_neg (by omega), q_cl hs]
/-- how often each was king -/
theorem l_yans (ho : sOK S) (h0 : 0 < vn (sV S)) {mm s : Nat} (h1 : 1 ≤ mm) (h60 : mm ≤ 60) (hs : s < 2147483648) (l6 : Int64) (x8 : Int32) (v10 v11 : Value) : ∀ i j H, j + i = 5 → kI H S → dR H 30 (vY (sV S) (qLv (sV S) s mm) mm) → ∃ H1, ev 87 142 [.ref 0, .ref 27, .ref 28, .int (nI mm), .int (nI s), .ref 30, .long l6, .null, .int x8, .int (nI j), v10, v11] [] H = ev 87 179 [.ref 0, .ref 27, .ref 28, .int (nI mm), .int (nI s), .ref 30, .long l6, .null, .int x8, .int (nI 5), v10, v11] [] H1 ∧ kI H1 S ∧ kFr kC H H1 ∧ dR H1 30 (vY (sV S) (qLv (sV S) s mm) mm) := by
  intro i
  induction i with
  | zero =>
    intro j H hj h hd
    have : j = 5 := by omega
    subst this
    refine ⟨H, ?_, h, kFr.rf, hd⟩
    rw [e87_142]
    simp only [e87_144, e87_145, show (5 : Int32) = nI 5 from rfl, Std.le_refl, if_true]
  | succ i ih =>
    intro j H hj h hd
    obtain ⟨H1, e1, c1, f1⟩ := x_years h.1 ho (nI mm) (nI s) (nI (10 + j))
    rw [fYears_in h0 h1 h60 hs (by omega) (by omega), if_neg (by omega), if_neg (by omega), if_neg (by omega), show 10 + j - 10 = j by omega] at e1
    have i1 := kI_c f1 c1 h
    have d1 := dR_fr f1 (fun j => by unfold cC; omega) hd
    obtain ⟨H2, e2, i2, f2, d2⟩ := ih (j + 1) H1 (by omega) i1 d1
    have g : hI H1 30 (10 + j) = nI ((qLv (sV S) s mm).2.2.1 j) := d1.2.2.1 j (by omega)
    have hs1 := i1.2.2.2
    refine ⟨H2, ?_, i2, (f1.mono (fun _ _ z => cC_kC z)).tr f2, d2⟩
    rw [← e2, e87_142]
    simp only [e87_144, e87_145, e87_148, e87_149, e87_150, e87_152, e87_154, e87_156, e87_157, e87_160, e87_162, e87_164, e87_166, e87_167, e87_168, e87_171, e87_172, e87_173, e87_176, show (5 : Int32) = nI 5 from rfl, show (10 : Int32) = nI 10 from rfl, q_add, q_le (show 5 < 2147483648 by decide) (show j < 2147483648 by omega), show ¬ 5 ≤ j by omega, if_false, e1, q_bs, q_tl, q_cn, q_lt0 (show 10 + j < 2147483648 by omega), q_cl (show 10 + j < 2147483648 by omega), show ¬ 19 ≤ 10 + j by omega, or_self, hs1, g, if_true, nI_1]
theorem y_years (ho : sOK S) (h0 : 0 < vn (sV S)) {mm s : Nat} (h1 : 1 ≤ mm) (h60 : mm ≤ 60) (hs : s < 2147483648) {H : kH} (h : kI H S) : ∃ H1, ev 87 6 [.ref 0, .ref 27, .ref 28, .int (nI mm), .int (nI s), .ref 30, .null, .null, .null, .null, .null, .null] [] H = some (some (.int 1), H1) ∧ kI H1 S ∧ kFr kC H H1 := by
  have hV := ho.1
  have h5 := hV.2.1
  obtain ⟨H1, e1, f1, d1⟩ := y_over h.2.2.2 h5 h.2.2.1
  have i1 := kI_30 f1 h
  obtain ⟨H2, e2, f2, g2, k2⟩ := l_yzero (nI mm) (nI s) 0 (lN s) 5 0 H1 (by omega) i1.2.2.2
  have i2 := kI_30 f2 i1
  have d2 := dR_zero hV s (fun q hq => g2 q (by omega) hq) (fun q hq => k2 q (by omega)) d1
  obtain ⟨H3, w10, w11, e3, i3, f3, d3⟩ := l_yhour ho hs (show mm < 1000 by omega) (nI s) mm 0 .null .null H2 (by omega) i2 d2
  obtain ⟨H4, e4, i4, f4, d4⟩ := l_yans ho h0 h1 h60 hs (lN (qLv (sV S) s mm).2.1) (nI (qLv (sV S) s mm).2.2.2) w10 w11 5 0 H3 (by omega) i3 d3
  obtain ⟨H5, e5, c5, f5⟩ := x_years i4.1 ho (nI mm) (nI s) (nI 0)
  have i5 := kI_c f5 c5 i4
  have d5 := dR_fr f5 (fun j => by unfold cC; omega) d4
  obtain ⟨H6, e6, c6, f6⟩ := x_years i5.1 ho (nI mm) (nI s) (nI 1)
  have i6 := kI_c f6 c6 i5
  have d6 := dR_fr f6 (fun j => by unfold cC; omega) d5
  obtain ⟨H7, e7, c7, f7⟩ := x_years i6.1 ho (nI mm) (nI s) (nI 2)
  have i7 := kI_c f7 c7 i6
  rw [fYears_in h0 h1 h60 hs (by decide) (by decide), if_pos rfl] at e5
  rw [fYears_in h0 h1 h60 hs (by decide) (by decide), if_neg (by decide), if_pos rfl] at e6
  rw [fYears_in h0 h1 h60 hs (by decide) (by decide), if_neg (by decide), if_neg (by decide), if_pos rfl] at e7
  have g17 : hI H6 30 17 = nI (qLv (sV S) s mm).1 := d6.2.2.2.2.2.1
  have hs6 := i6.2.2.2
  have y2 := (qLv_ok hV hs mm).2.1
  have e0 : ev 87 6 [.ref 0, .ref 27, .ref 28, .int (nI mm), .int (nI s), .ref 30, .null, .null, .null, .null, .null, .null] [] H = ev 87 179 [.ref 0, .ref 27, .ref 28, .int (nI mm), .int (nI s), .ref 30, .long (lN (qLv (sV S) s mm).2.1), .null, .int (nI (qLv (sV S) s mm).2.2.2), .int (nI 5), w10, w11] [] H4 := by
    rw [← e4]
    simp only [e87_6, e87_8, e87_9, e87_12, e87_14, e87_15, e87_17, e87_18, e87_20, e87_21, e1, q_bs, q_tn, q_nn, q_i2lN hs]
    rw [show ev 87 23 [.ref 0, .ref 27, .ref 28, .int (nI mm), .int (nI s), .ref 30, .long (lN s), .null, .int 0, .int 0, .null, .null] [] H1 = _ from e2]
    simp only [e87_44, e87_45]
    rw [show ev 87 47 [.ref 0, .ref 27, .ref 28, .int (nI mm), .int (nI s), .ref 30, .long (lN s), .null, .int 0, .int 0, .null, .null] [] H2 = _ from e3]
    simp only [e87_139, e87_140]
    rfl
  refine ⟨H7, ?_, i7, ((((((f1.mono (fun k j z => Or.inr z)).tr (f2.mono (fun k j z => Or.inr z))).tr f3).tr f4).tr (f5.mono (fun _ _ z => cC_kC z))).tr (f6.mono (fun _ _ z => cC_kC z))).tr (f7.mono (fun _ _ z => cC_kC z))⟩
  rw [e0]
  simp only [e87_179, e87_180, e87_181, e87_183, e87_184, e87_187, e87_189, e87_192, e87_193, e87_194, e87_196, e87_197, e87_200, e87_202, e87_204, e87_205, e87_208, e87_209, e87_210, e87_212, e87_213, e87_216, e87_217, e87_219, e87_220, e87_223, e87_224, e87_227, e87_228, show (0 : Int32) = nI 0 from rfl, show (1 : Int32) = nI 1 from rfl, show (2 : Int32) = nI 2 from rfl, e5, e6, e7, q_bs, q_tl, q_cn, not_true_eq_false, if_false, hs6, g17, cx17, show ((17 : Int32) < nI 0) = False from eq_false (by decide), show (19 ≤ 17) = False from eq_false (by decide), or_self, q_i2lN y2, q_cmpe]
  simp only [show nI 0 = (0 : Int32) from rfl, show nI 1 = (1 : Int32) from rfl, q_cmpe, not_true_eq_false, if_false, or_true, if_true]
end LWY
