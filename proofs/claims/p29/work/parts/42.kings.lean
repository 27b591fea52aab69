/-! kings(): how likely each is king, where the draught had best be -/
theorem q_cmpg (x y : Int64) : (0 < lg_cmp x y) = (y < x) := propext (lg_cmp_gt x y)
theorem q_shl2 : ∀ j, j < 6 → (1 : Int32) <<< (nI j &&& 31) = nI (2 ^ j) := by decide +kernel
/-- the sum over the sets that make him king -/
def qAl (V : kV) (c : Int32) (a : Nat) : Nat := nsum (fun s => if qK (vk V) (vn V) s = c then qo V (vt V) (vd V) (vh V) s else 0) a
theorem qAl_kw {V : kV} (hV : vOK V) {c : Int32} (hc : c = -1 ∨ ∃ j, j < vn V ∧ c = nI j) : qAl V c (2 ^ vn V) = kw V c (vd V) := by
  have h5 := hV.2.1
  unfold qAl kw rT qr
  refine nsum_cong (fun s _ => ?_)
  have e : (qK (vk V) (vn V) s = c) ↔ (qPl (vk V) (vn V) s = (c + 1).toNatClampNeg) := by
    unfold qPl
    rcases hc with rfl | ⟨j, hj, rfl⟩
    · rw [show ((-1 : Int32) + 1).toNatClampNeg = 0 from rfl]
      by_cases h : qK (vk V) (vn V) s = -1
      · simp [h]
      · simp [h]
    · have hj1 : ¬ nI j = (-1 : Int32) := fun z => (q_m1ne (j := j) (by omega)).mp z
      rw [q_clp1 (by omega)]
      rcases qK_in (vk V) (vn V) s (by omega) with h | ⟨b, hb, h⟩
      · rw [h, if_pos rfl]
        exact ⟨fun z => absurd z.symm hj1, fun z => by omega⟩
      · have hb1 : ¬ nI b = (-1 : Int32) := fun z => (q_m1ne (j := b) (by omega)).mp z
        rw [h, if_neg hb1, q_cl (by omega), q_k (by omega) (by omega)]
        omega
  by_cases h : qK (vk V) (vn V) s = c
  · rw [if_pos h, if_pos (e.mp h)]
    rfl
  · rw [if_neg h, if_neg (fun z => h (e.mpr z))]
theorem kw_vsD (V : kV) (c x dr : Int32) : kw (vsD V x) c dr = kw V c dr := rfl
theorem vOK_vsD {V : kV} (hV : vOK V) {x : Int32} (hx : x = -1 ∨ ∃ j, j < vn V ∧ x = nI j) : vOK (vsD V x) := by
  obtain ⟨h1, h2, h3, h4, h5, h6, h7, h8⟩ := hV
  exact ⟨h1, h2, h3, hx, h5, h6, h7, h8⟩
def kC (k _ : Nat) : Prop := k ≤ 26 ∨ k = 30
theorem cC_kC {k j : Nat} (h : cC k j) : kC k j := Or.inl h
theorem CR_fr' {H H' : kH} {S : kS} (e0 : ∀ k j, k ≠ 30 → hI H' k j = hI H k j ∧ hL H' k j = hL H k j ∧ hR H' k j = hR H k j) (h : CR H S) : CR H' S := by
  have e : ∀ k j, k ≠ 30 → hI H' k j = hI H k j := fun k j hk => (e0 k j hk).1
  obtain ⟨a1, a2, a3, a4, a5, a6⟩ := h
  obtain ⟨b1, b2, b3, b4, b5, b6, b7, b8, b9, b10, b11, b12⟩ := a1
  refine ⟨⟨(e _ _ (by decide)).trans b1, fun j hj => (e _ _ (by decide)).trans (b2 j hj), fun j hj => (e _ _ (by decide)).trans (b3 j hj), fun j hj => (e _ _ (by decide)).trans (b4 j hj), fun j hj => (e _ _ (by decide)).trans (b5 j hj), (e _ _ (by decide)).trans b6, (e _ _ (by decide)).trans b7, (e _ _ (by decide)).trans b8, (e _ _ (by decide)).trans b9, (e _ _ (by decide)).trans b10, fun j hj => (e _ _ (by decide)).trans (b11 j hj), fun h0 s hs => (e _ _ (by decide)).trans (b12 h0 s hs)⟩, ⟨(e _ _ (by decide)).trans a2.1, a2.2.1, fun j hj => ⟨(e _ _ (by decide)).trans (a2.2.2 j hj).1, (a2.2.2 j hj).2⟩⟩, (e _ _ (by decide)).trans a3, (e _ _ (by decide)).trans a4, ?_, fun hz => ?_⟩
  · unfold wR at a5 ⊢
    rw [(e0 4 6 (by decide)).2.2, (e0 4 7 (by decide)).2.2]
    exact a5
  · obtain ⟨c1, c2, c3, c4, c5, c6, c7, c8, c9⟩ := a6 hz
    exact ⟨fun j hj => (e _ _ (by decide)).trans (c1 j hj), fun j hj => (e _ _ (by decide)).trans (c2 j hj), fun j hj => (e _ _ (by decide)).trans (c3 j hj), (e _ _ (by decide)).trans c4, (e _ _ (by decide)).trans c5, (e _ _ (by decide)).trans c6, (e _ _ (by decide)).trans c7, (e _ _ (by decide)).trans c8, fun j hj => (e _ _ (by decide)).trans (c9 j hj)⟩
theorem CR_30 {H H' : kH} {S : kS} (hf : kFr (fun a _ => a = 30) H H') (h : CR H S) : CR H' S := by
  refine CR_fr' (fun k j hk => hf k j (by omega)) h
section LWK
variable {V : kV}
theorem l_ksets (hV : vOK V) (l4 : Int64) (x6 x7 : Int32) (l8 : Int64) (x10 : Int32) {H : kH} (hs : shq H 30 = (1, 19)) (hb : bR H V) (hd : dR H 30 V) : ∀ i a, a + i = 2 ^ vn V → ev 86 88 [.ref 0, .ref 27, .ref 28, .ref 30, .long l4, .null, .int x6, .int x7, .long l8, .null, .int x10, .long (lN (qAl V x6 a)), .null, .int (nI a)] [] H = ev 86 127 [.ref 0, .ref 27, .ref 28, .ref 30, .long l4, .null, .int x6, .int x7, .long l8, .null, .int x10, .long (lN (qAl V x6 (2 ^ vn V))), .null, .int (nI (2 ^ vn V))] [] H := by
  have h5 := hV.2.1
  have h32 := pow2_le h5
  intro i
  induction i with
  | zero =>
    intro a ha
    have : a = 2 ^ vn V := by omega
    subst this
    rw [e86_88]
    simp only [e86_90, e86_91, e86_92, e86_93, e86_94, e86_95, zb5, nb5, cx5, or_self, hb.1, q_shl2 _ (show vn V < 6 by omega), Std.le_refl, if_true, if_false]
  | succ i ih =>
    intro a ha
    have hle : ¬ 2 ^ vn V ≤ a := by omega
    rw [← ih (a + 1) (by omega), e86_88]
    have e : qAl V x6 (a + 1) = qAl V x6 a + (if qK (vk V) (vn V) a = x6 then qo V (vt V) (vd V) (vh V) a else 0) := rfl
    rw [e]
    by_cases h : qK (vk V) (vn V) a = x6
    · simp only [e86_90, e86_91, e86_92, e86_93, e86_94, e86_95, e86_98, e86_99, e86_101, e86_104, e86_106, e86_109, e86_111, e86_112, e86_113, e86_115, e86_118, e86_119, e86_121, e86_124, zb5, nb5, cx5, or_self, hb.1, q_shl2 _ (show vn V < 6 by omega), q_le (show 2 ^ vn V < 2147483648 by omega) (show a < 2147483648 by omega), hle, if_false, y_king hb hV (show a < 64 by omega), q_bs, q_tl, q_cn, h, not_true_eq_false, y_share hs hb hd hV (show a < 64 by omega), q_addL, nI_1, if_true]
    · simp only [e86_90, e86_91, e86_92, e86_93, e86_94, e86_95, e86_98, e86_99, e86_101, e86_104, e86_106, e86_109, e86_111, e86_112, e86_113, e86_115, e86_118, e86_119, e86_121, e86_124, zb5, nb5, cx5, or_self, hb.1, q_shl2 _ (show vn V < 6 by omega), q_le (show 2 ^ vn V < 2147483648 by omega) (show a < 2147483648 by omega), hle, if_false, y_king hb hV (show a < 64 by omega), q_bs, q_tl, q_cn, h, not_false_eq_true, nI_1, if_true, Nat.add_zero]
end LWK
section LWL
variable {S : kS}
/-- what stands inside kings() -/
def kI (H : kH) (S : kS) : Prop := CR H S ∧ bR H (sV S) ∧ dR H 28 (sV S) ∧ shq H 30 = (1, 19)
theorem kI_c {H H' : kH} (hf : kFr cC H H') (hc : CR H' S) (h : kI H S) : kI H' S := ⟨hc, bR_fr hf (fun j => by unfold cC; omega) h.2.1, dR_fr hf (fun j => by unfold cC; omega) h.2.2.1, (shq_fr hf (by unfold cC; omega) 30).trans h.2.2.2⟩
theorem kI_30 {H H' : kH} (hf : kFr (fun a _ => a = 30) H H') (h : kI H S) : kI H' S := ⟨CR_30 hf h.1, bR_fr hf (fun j => by omega) h.2.1, dR_fr hf (fun j => by omega) h.2.2.1, (shq_fr hf (by omega) 30).trans h.2.2.2⟩
theorem dR_15 {H : kH} {V : kV} (h5 : vn V ≤ 5) (x : Int32) (hd : dR H 30 V) : dR (uI H 30 15 x) 30 (vsD V x) := by
  obtain ⟨h1, h2, h3, h4, h6, h7, h8⟩ := hd
  refine ⟨fun j hj => ?_, fun j hj => ?_, fun j hj => ?_, hI_uIs _ _ _ _, ?_, ?_, ?_⟩
  · have hj : j < vn V := hj
    rw [hI_uIn (by omega)]
    exact h1 j hj
  · have hj : j < vn V := hj
    rw [hI_uIn (by omega)]
    exact h2 j hj
  · rw [hI_uIn (by omega)]
    exact h3 j hj
  · rw [hI_uIn (by omega)]
    exact h6
  · rw [hI_uIn (by omega)]
    exact h7
  · rw [hI_uIn (by omega)]
    exact h8
/-- the draught as it is: o.king() against the sums -/
theorem w_m2 (ho : sOK S) (h0 : 0 < vn (sV S)) {c : Int32} (hc : c = -1 ∨ ∃ j, j < vn (sV S) ∧ c = nI j) (x7 : Int32) (l8 : Int64) (v11 v13 : Value) {H : kH} (h : kI H S) : ∃ H1 w11 w13, ev 86 56 [.ref 0, .ref 27, .ref 28, .ref 30, .long (lN (10 ^ vn (sV S))), .null, .int c, .int x7, .long l8, .null, .int (-2), v11, .null, v13] [] H = ev 86 56 [.ref 0, .ref 27, .ref 28, .ref 30, .long (lN (10 ^ vn (sV S))), .null, .int c, .int x7, .long l8, .null, .int (-1), w11, .null, w13] [] H1 ∧ kI H1 S ∧ kFr kC H H1 := by
  have hV := ho.1
  have h5 := hV.2.1
  obtain ⟨H1, e1, f1, d1⟩ := y_over h.2.2.2 h5 h.2.2.1
  have i1 := kI_30 f1 h
  obtain ⟨H2, e2, c2, f2⟩ := x_king i1.1 ho c 0
  have i2 := kI_c f2 c2 i1
  obtain ⟨H3, e3, c3, f3⟩ := x_king i2.1 ho c 1
  have i3 := kI_c f3 c3 i2
  have hk := kw_lt hV c (vd (sV S))
  have h10 : 10 ^ vn (sV S) < 2 ^ 63 := Nat.lt_of_le_of_lt (pow10_le h5) (by decide)
  have hp : 0 < 10 ^ vn (sV S) := Nat.pow_pos (by decide)
  have hn : ¬ vn (sV S) = 0 := by omega
  have hcn : ¬ (c ≠ -1 ∧ (c < 0 ∨ nI (vn (sV S)) ≤ c)) := by
    rcases hc with rfl | ⟨j, hj, rfl⟩
    · exact fun z => z.1 rfl
    · exact fun z => q_in1 hj (by omega) z.2
  have g0 : fKing (sV S) c 0 = lN (kw (sV S) c (vd (sV S)) / Nat.gcd (kw (sV S) c (vd (sV S))) (10 ^ vn (sV S))) := by
    unfold fKing qTerm
    rw [if_neg hcn, show (0 : Int32) = nI 0 from rfl, qSel_in (by decide) (by decide), if_neg hn, if_pos rfl]
  have g1 : fKing (sV S) c 1 = lN (10 ^ vn (sV S) / Nat.gcd (kw (sV S) c (vd (sV S))) (10 ^ vn (sV S))) := by
    unfold fKing qTerm
    rw [if_neg hcn, show (1 : Int32) = nI 1 from rfl, qSel_in (by decide) (by decide), if_neg hn, if_neg (by decide)]
  rw [g0] at e2
  rw [g1] at e3
  have hs := l_ksets hV (lN (10 ^ vn (sV S))) c x7 l8 (-2) i1.2.2.2 i1.2.1 d1 (2 ^ vn (sV S)) 0 (by omega)
  rw [qAl_kw hV hc] at hs
  have hlt : (nI (vn (sV S)) ≤ (-2 : Int32)) = False := by
    refine eq_false (fun z => ?_)
    rw [Int32.le_iff_toInt_le, nI_toInt (by omega)] at z
    have e : (-2 : Int32).toInt = -2 := rfl
    omega
  refine ⟨H3, .long (lN (kw (sV S) c (vd (sV S)))), .int (nI (2 ^ vn (sV S))), ?_, i3, ((f1.mono (fun k j z => Or.inr z)).tr (f2.mono (fun _ _ z => cC_kC z))).tr (f3.mono (fun _ _ z => cC_kC z))⟩
  · rw [e86_56]
    simp only [e86_58, e86_59, e86_60, e86_61, e86_64, e86_65, e86_66, e86_69, e86_71, e86_73, e86_76, e86_77, e86_79, e86_81, e86_82, e86_83, e86_85, e86_86, zb5, nb5, cx5, or_self, h.2.1.1, hlt, if_false, e1, q_bs, q_tn, q_nn, show ((-2 : Int32) ≤ -2) = True from eq_true (by decide), if_true]
    rw [show (0 : Int64) = lN (qAl (sV S) c 0) from rfl, show (0 : Int32) = nI 0 from rfl, hs]
    simp only [e86_127, e86_129, e86_131, e86_134, e86_135, e86_137, e86_138, e86_141, e86_142, e86_144, e86_145, e86_148, e86_150, e86_152, e86_155, e86_158, e86_159, e86_160, e86_162, e86_164, e86_167, e86_169, e86_171, e86_172, e86_175, e86_178, e86_180, e86_182, e86_184, e86_186, e86_189, not_true_eq_false, if_false, show nI 0 = (0 : Int32) from rfl, e2, e3, q_bs, q_tl, q_cn, y_parts hk h10 hp, show ((1 : Int32) = 0) = False from eq_false (by decide), not_false_eq_true, if_true]
    rfl
/-- the draught somewhere else -/
theorem w_dr (ho : sOK S) {c dr : Int32} (hc : c = -1 ∨ ∃ j, j < vn (sV S) ∧ c = nI j) (hdr : dr = -1 ∨ ∃ j, j < vn (sV S) ∧ dr = nI j) (x7 : Int32) (l8 : Int64) (v11 v13 : Value) {H : kH} (h : kI H S) : ∃ H1 w11 w13, ev 86 56 [.ref 0, .ref 27, .ref 28, .ref 30, .long (lN (10 ^ vn (sV S))), .null, .int c, .int x7, .long l8, .null, .int dr, v11, .null, v13] [] H = (if l8 < lN (kw (sV S) c dr) then ev 86 56 [.ref 0, .ref 27, .ref 28, .ref 30, .long (lN (10 ^ vn (sV S))), .null, .int c, .int dr, .long (lN (kw (sV S) c dr)), .null, .int (dr + 1), w11, .null, w13] [] H1 else ev 86 56 [.ref 0, .ref 27, .ref 28, .ref 30, .long (lN (10 ^ vn (sV S))), .null, .int c, .int x7, .long l8, .null, .int (dr + 1), w11, .null, w13] [] H1) ∧ kI H1 S ∧ kFr kC H H1 := by
  have hV := ho.1
  have h5 := hV.2.1
  obtain ⟨H1, e1, f1, d1⟩ := y_over h.2.2.2 h5 h.2.2.1
  have i1 := kI_30 f1 h
  have f2 : kFr (fun a _ => a = 30) H1 (uI H1 30 15 dr) := kFr_uI (P := fun a _ => a = 30) rfl
  have i2 := kI_30 f2 i1
  have d2 := dR_15 h5 dr d1
  have hV2 := vOK_vsD hV hdr
  have hs := l_ksets hV2 (lN (10 ^ vn (sV S))) c x7 l8 dr i2.2.2.2 i2.2.1 d2 (2 ^ vn (sV S)) 0 (Nat.zero_add _)
  rw [qAl_kw hV2 hc] at hs
  have hlt : (nI (vn (sV S)) ≤ dr) = False ∧ (dr ≤ (-2 : Int32)) = False ∧ (dr = (-2 : Int32)) = False := by
    have e : (-2 : Int32).toInt = -2 := rfl
    rcases hdr with rfl | ⟨j, hj, rfl⟩
    · refine ⟨eq_false (fun z => ?_), eq_false (by decide), eq_false (by decide)⟩
      rw [Int32.le_iff_toInt_le, nI_toInt (by omega)] at z
      have e : (-1 : Int32).toInt = -1 := rfl
      omega
    · refine ⟨by rw [q_le (by omega) (by omega)]; exact eq_false (by omega), eq_false (fun z => ?_), eq_false (fun z => ?_)⟩
      · rw [Int32.le_iff_toInt_le, nI_toInt (by omega)] at z
        omega
      · have z := congrArg Int32.toInt z
        rw [nI_toInt (by omega)] at z
        omega
  refine ⟨uI H1 30 15 dr, .long (lN (kw (sV S) c dr)), .int (nI (2 ^ vn (sV S))), ?_, i2, (f1.mono (fun k j z => Or.inr z)).tr (f2.mono (fun k j z => Or.inr z))⟩
  · rw [e86_56]
    have hsh := i1.2.2.2
    simp only [e86_58, e86_59, e86_60, e86_61, e86_64, e86_65, e86_66, e86_69, e86_71, e86_73, e86_76, e86_77, e86_79, e86_81, e86_82, e86_83, e86_85, e86_86, zb5, nb5, cx5, or_self, h.2.1.1, hlt, if_false, e1, q_bs, q_tn, q_nn, hsh, ix15, cx15, show ((15 : Int32) < 0) = False from eq_false (by decide), show (19 ≤ 15) = False from eq_false (by decide)]
    rw [show (0 : Int64) = lN (qAl (vsD (sV S) dr) c 0) from rfl, show (0 : Int32) = nI 0 from rfl, hs]
    simp only [e86_127, e86_129, e86_131, e86_134, e86_135, e86_137, e86_138, e86_141, e86_142, e86_144, e86_145, e86_148, e86_150, e86_152, e86_155, e86_158, e86_159, e86_160, e86_162, e86_164, e86_167, e86_169, e86_171, e86_172, e86_175, e86_178, e86_180, e86_182, e86_184, e86_186, e86_189, hlt, not_false_eq_true, if_true, if_false, q_cmpg]
    rfl
theorem l_places (ho : sOK S) {c : Int32} (hc : c = -1 ∨ ∃ j, j < vn (sV S) ∧ c = nI j) : ∀ i j x7 m v11 v13 H, j + i = vn (sV S) → m < 2 ^ 63 → kI H S → ∃ H1 m' w11 w13, ev 86 56 [.ref 0, .ref 27, .ref 28, .ref 30, .long (lN (10 ^ vn (sV S))), .null, .int c, .int x7, .long (lN m), .null, .int (nI j), v11, .null, v13] [] H = ev 86 192 [.ref 0, .ref 27, .ref 28, .ref 30, .long (lN (10 ^ vn (sV S))), .null, .int c, .int (qAr (fun d => kw (sV S) c (nI d)) i j x7 m), .long m', .null, .int (nI (vn (sV S))), w11, .null, w13] [] H1 ∧ kI H1 S ∧ kFr kC H H1 := by
  have hV := ho.1
  have h5 := hV.2.1
  intro i
  induction i with
  | zero =>
    intro j x7 m v11 v13 H hj hm h
    have : j = vn (sV S) := by omega
    subst this
    refine ⟨H, lN m, v11, v13, ?_, h, kFr.rf⟩
    rw [e86_56]
    simp only [e86_58, e86_59, e86_60, e86_61, zb5, nb5, cx5, or_self, h.2.1.1, Std.le_refl, if_true, if_false, qAr]
  | succ i ih =>
    intro j x7 m v11 v13 H hj hm h
    obtain ⟨H1, w11, w13, e1, i1, f1⟩ := w_dr ho hc (dr := nI j) (Or.inr ⟨j, by omega, rfl⟩) x7 (lN m) v11 v13 h
    have hk := kw_lt hV c (nI j)
    have ql := q_ltL hm hk
    unfold qAr
    by_cases hlt : m < kw (sV S) c (nI j)
    · rw [if_pos hlt]
      rw [if_pos (ql.mpr hlt)] at e1
      obtain ⟨H2, m2, u11, u13, e2, i2, f2⟩ := ih (j + 1) (nI j) (kw (sV S) c (nI j)) w11 w13 H1 (by omega) hk i1
      exact ⟨H2, m2, u11, u13, by rw [e1, nI_1, e2], i2, f1.tr f2⟩
    · rw [if_neg hlt]
      rw [if_neg (fun z => hlt (ql.mp z))] at e1
      obtain ⟨H2, m2, u11, u13, e2, i2, f2⟩ := ih (j + 1) x7 m w11 w13 H1 (by omega) hm i1
      exact ⟨H2, m2, u11, u13, by rw [e1, nI_1, e2], i2, f1.tr f2⟩
theorem w_kone (ho : sOK S) (h0 : 0 < vn (sV S)) {c : Int32} (hc : c = -1 ∨ ∃ j, j < vn (sV S) ∧ c = nI j) (v7 v8 v10 v11 v13 : Value) {H : kH} (h : kI H S) : ∃ H1 w7 w8 w10 w11 w13, ev 86 36 [.ref 0, .ref 27, .ref 28, .ref 30, .long (lN (10 ^ vn (sV S))), .null, .int c, v7, v8, .null, v10, v11, .null, v13] [] H = ev 86 36 [.ref 0, .ref 27, .ref 28, .ref 30, .long (lN (10 ^ vn (sV S))), .null, .int (c + 1), w7, w8, .null, w10, w11, .null, w13] [] H1 ∧ kI H1 S ∧ kFr kC H H1 := by
  have hV := ho.1
  have h5 := hV.2.1
  have hlt : (nI (vn (sV S)) ≤ c) = False := by
    rcases hc with rfl | ⟨j, hj, rfl⟩
    · refine eq_false (fun z => ?_)
      rw [Int32.le_iff_toInt_le, nI_toInt (by omega)] at z
      have e : (-1 : Int32).toInt = -1 := rfl
      omega
    · rw [q_le (by omega) (by omega)]
      exact eq_false (by omega)
  obtain ⟨H1, a11, a13, e1, i1, f1⟩ := w_m2 ho h0 hc (-1) (-1) v11 v13 h
  obtain ⟨H2, b11, b13, e2, i2, f2⟩ := w_dr ho hc (dr := -1) (Or.inl rfl) (-1) (-1) a11 a13 i1
  have hk := kw_lt hV c (-1)
  have hm1 : (-1 : Int64) < lN (kw (sV S) c (-1)) := by
    rw [Int64.lt_iff_toInt_lt, show (lN (kw (sV S) c (-1))).toInt = kw (sV S) c (-1) from Int64.toInt_ofNat_of_lt hk]
    have e : (-1 : Int64).toInt = -1 := rfl
    omega
  rw [if_pos hm1] at e2
  obtain ⟨H3, m3, c11, c13, e3, i3, f3⟩ := l_places ho hc (vn (sV S)) 0 (-1) (kw (sV S) c (-1)) b11 b13 H2 (by omega) hk i2
  have e56 : ev 86 36 [.ref 0, .ref 27, .ref 28, .ref 30, .long (lN (10 ^ vn (sV S))), .null, .int c, v7, v8, .null, v10, v11, .null, v13] [] H = ev 86 192 [.ref 0, .ref 27, .ref 28, .ref 30, .long (lN (10 ^ vn (sV S))), .null, .int c, .int (qAr (fun d => kw (sV S) c (nI d)) (vn (sV S)) 0 (-1) (kw (sV S) c (-1))), .long m3, .null, .int (nI (vn (sV S))), c11, .null, c13] [] H3 := by
    rw [← e3, show nI 0 = (-1 : Int32) + 1 from rfl, ← e2, ← e1]
    simp only [e86_36, e86_38, e86_39, e86_40, e86_41, e86_44, e86_45, e86_47, e86_50, e86_52, e86_54, zb5, nb5, cx5, or_self, h.2.1.1, hlt, if_false]
  have f := (f1.tr f2).tr f3
  rcases hc with rfl | ⟨j, hj, rfl⟩
  · refine ⟨H3, .int (qAr (fun d => kw (sV S) (-1) (nI d)) (vn (sV S)) 0 (-1) (kw (sV S) (-1) (-1))), .long m3, .int (nI (vn (sV S))), c11, c13, ?_, i3, f⟩
    rw [e56]
    simp only [e86_192, e86_194, e86_210, e86_213, show ((-1 : Int32) < 0) = True from eq_true (by decide), if_true]
  · obtain ⟨H4, e4, c4, f4⟩ := x_window i3.1 ho (nI j)
    have hw : fWindow (sV S) (nI j) = qAr (fun d => kw (sV S) (nI j) (nI d)) (vn (sV S)) 0 (-1) (kw (sV S) (nI j) (-1)) := by
      unfold fWindow
      rw [qSel_in hj (by omega)]
    rw [hw] at e4
    refine ⟨H4, .int (qAr (fun d => kw (sV S) (nI j) (nI d)) (vn (sV S)) 0 (-1) (kw (sV S) (nI j) (-1))), .long m3, .int (nI (vn (sV S))), c11, c13, ?_, kI_c f4 c4 i3, f.tr (f4.mono (fun _ _ z => cC_kC z))⟩
    rw [e56]
    simp only [e86_192, e86_194, e86_197, e86_198, e86_200, e86_203, e86_205, e86_208, e86_209, e86_210, e86_213, q_lt0 (show j < 2147483648 by omega), if_false, e4, q_bs, q_tl, q_cn, if_true]
theorem l_kones (ho : sOK S) (h0 : 0 < vn (sV S)) : ∀ i j v7 v8 v10 v11 v13 H, j + i = vn (sV S) → kI H S → ∃ H1, ev 86 36 [.ref 0, .ref 27, .ref 28, .ref 30, .long (lN (10 ^ vn (sV S))), .null, .int (nI j), v7, v8, .null, v10, v11, .null, v13] [] H = some (some (.int 1), H1) ∧ kI H1 S ∧ kFr kC H H1 := by
  have hV := ho.1
  have h5 := hV.2.1
  intro i
  induction i with
  | zero =>
    intro j v7 v8 v10 v11 v13 H hj h
    have : j = vn (sV S) := by omega
    subst this
    refine ⟨H, ?_, h, kFr.rf⟩
    rw [e86_36]
    simp only [e86_38, e86_39, e86_40, e86_41, e86_216, e86_217, zb5, nb5, cx5, or_self, h.2.1.1, Std.le_refl, if_true, if_false, or_true]
  | succ i ih =>
    intro j v7 v8 v10 v11 v13 H hj h
    obtain ⟨H1, w7, w8, w10, w11, w13, e1, i1, f1⟩ := w_kone ho h0 (c := nI j) (Or.inr ⟨j, by omega, rfl⟩) v7 v8 v10 v11 v13 h
    obtain ⟨H2, e2, i2, f2⟩ := ih (j + 1) w7 w8 w10 w11 w13 H1 (by omega) i1
    exact ⟨H2, by rw [e1, nI_1, e2], i2, f1.tr f2⟩
theorem l_kten {H : kH} {V : kV} (hb : bR H V) (h5 : vn V ≤ 5) : ∀ i j, j + i = vn V → ev 86 11 [.ref 0, .ref 27, .ref 28, .ref 30, .long (lN (10 ^ j)), .null, .int (nI j), .null, .null, .null, .null, .null, .null, .null] [] H = ev 86 33 [.ref 0, .ref 27, .ref 28, .ref 30, .long (lN (10 ^ vn V)), .null, .int (nI (vn V)), .null, .null, .null, .null, .null, .null, .null] [] H := by
  intro i
  induction i with
  | zero =>
    intro j hj
    have : j = vn V := by omega
    subst this
    rw [e86_11]
    simp only [e86_13, e86_14, e86_15, e86_16, zb5, nb5, cx5, or_self, hb.1, Std.le_refl, if_true, if_false]
  | succ i ih =>
    intro j hj
    rw [← ih (j + 1) (by omega), e86_11]
    simp only [e86_13, e86_14, e86_15, e86_16, e86_19, e86_21, e86_24, e86_25, e86_27, e86_30, zb5, nb5, cx5, or_self, hb.1, q_le (show vn V < 2147483648 by omega) (show j < 2147483648 by omega), show ¬ vn V ≤ j by omega, if_false, show (10 : Int64) = lN 10 from rfl, q_mulL, nI_1, Nat.pow_succ]
theorem y_kings (ho : sOK S) (h0 : 0 < vn (sV S)) {H : kH} (h : kI H S) : ∃ H1, ev 86 5 [.ref 0, .ref 27, .ref 28, .ref 30, .null, .null, .null, .null, .null, .null, .null, .null, .null, .null] [] H = some (some (.int 1), H1) ∧ kI H1 S ∧ kFr kC H H1 := by
  have hV := ho.1
  have h5 := hV.2.1
  obtain ⟨H1, w7, w8, w10, w11, w13, e1, i1, f1⟩ := w_kone ho h0 (c := -1) (Or.inl rfl) .null .null .null .null .null h
  obtain ⟨H2, e2, i2, f2⟩ := l_kones ho h0 (vn (sV S)) 0 w7 w8 w10 w11 w13 H1 (by omega) i1
  refine ⟨H2, ?_, i2, f1.tr f2⟩
  rw [← e2, show nI 0 = (-1 : Int32) + 1 from rfl, ← e1]
  simp only [e86_5, e86_6, e86_8, e86_9]
  rw [show (1 : Int64) = lN (10 ^ 0) from rfl, show (0 : Int32) = nI 0 from rfl, l_kten h.2.1 h5 (vn (sV S)) 0 (by omega)]
  simp only [e86_33, e86_34]
end LWL
