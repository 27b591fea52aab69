/-! the model: digest -/
section KMH
variable {S : kS}
def DR (H : kH) (S : kS) (h : Int64) : Prop := MR H S ∧ hL H 27 25 = h
theorem m_say {H : kH} {h : Int64} (hd : DR H S h) (v : Int64) : ev 149 0 [.ref 27, .long v, .null] [] H = some (none, uL H 27 25 (31 * h + v)) ∧ DR (uL H 27 25 (31 * h + v)) S (31 * h + v) ∧ kFr mC H (uL H 27 25 (31 * h + v)) := by
  have f0 : kFr mS H (uL H 27 25 (31 * h + v)) := kFr_uL (by unfold mS; omega)
  refine ⟨?_, ⟨MR_fr f0 hd.1, hL_uLs _ _ _ _⟩, f0.mono (fun _ _ => mS_mC)⟩
  simp only [e149_0, e149_1, e149_4, e149_5, e149_8, e149_9, e149_10, e149_11, e149_14, hd.2]
theorem DR_hC {H H' : kH} {h : Int64} (hd : DR H S h) (hf : kFr hC H H') : DR H' S h := ⟨MR_fr (hf.mono (fun _ _ => hC_mS)) hd.1, ((hf 27 25 (by unfold hC; omega)).2.1).trans hd.2⟩
theorem m_tell {H : kH} (hq : MR H S) (ho : sOK S) {i k : Nat} (hi : i < vn (sV S)) (hk : k < 5) : ev 109 0 [.ref 27, .int (nI i), .int (nI k)] [] H = some (some (.int (fAbout (sV S) (nI i) (nI k))), H) := by
  have hR := hq.1
  have hV := ho.1
  have h5 := hV.2.1
  have hq4 : ∀ a, a < 4 → (nI (4 * i + a) < 0) = False ∧ (¬ 20 ≤ 4 * i + a) ∧ (nI (4 * i + a)).toNatClampNeg = 4 * i + a := fun a ha => ⟨q_lt0 (by omega), by omega, q_cl (by omega)⟩
  unfold fAbout
  rw [qSel_in hi (by omega), qSel_in hk (by decide)]
  rcases (show k = 0 ∨ k = 1 ∨ k = 2 ∨ k = 3 ∨ k = 4 by omega) with rfl | rfl | rfl | rfl | rfl
  · rw [e109_0]
    show ev 109 1 [.ref 27, .int (nI i), .int (nI 0)] [.int 0] H = _
    rw [e109_1_0]
    simp only [e109_36, e109_37, e109_40, e109_41, e109_42, e109_43, e109_44, e109_45, e109_46, show (4 : Int32) = nI 4 from rfl, q_mul, q_add, Nat.add_zero, q_lt0 (show 4 * i < 2147483648 by omega), q_cl (show 4 * i < 2147483648 by omega), show ¬ 20 ≤ 4 * i by omega, or_self, if_false, if_true, MV_k hR hi]
  · rw [e109_0]
    show ev 109 1 [.ref 27, .int (nI i), .int (nI 1)] [.int 1] H = _
    rw [e109_1_1]
    simp only [e109_36, e109_37, e109_40, e109_41, e109_42, e109_43, e109_44, e109_45, e109_46, show (4 : Int32) = nI 4 from rfl, q_mul, q_add, (hq4 1 (by decide)).1, (hq4 1 (by decide)).2.1, (hq4 1 (by decide)).2.2, or_self, if_false, if_true, MV_o hR hi, Nat.one_ne_zero]
  · rw [e109_0]
    show ev 109 1 [.ref 27, .int (nI i), .int (nI 2)] [.int 2] H = _
    rw [e109_1_2]
    simp only [e109_36, e109_37, e109_40, e109_41, e109_42, e109_43, e109_44, e109_45, e109_46, show (4 : Int32) = nI 4 from rfl, q_mul, q_add, (hq4 2 (by decide)).1, (hq4 2 (by decide)).2.1, (hq4 2 (by decide)).2.2, or_self, if_false, if_true, MV_l hR hi, show ¬ (2 : Nat) = 0 by decide, show ¬ (2 : Nat) = 1 by decide]
  · rw [e109_0]
    show ev 109 1 [.ref 27, .int (nI i), .int (nI 3)] [.int 3] H = _
    rw [e109_1_3]
    simp only [e109_47, e109_48, e109_49, e109_50, e109_53, e109_54, e109_57, e109_58, e109_61, e109_64, MV_h hR, MV_t hR, MV_d hR, m_tenths hR hV hi hV.2.2.2.2.2.1, q_bs, q_tl, q_cn, if_true, show ¬ (3 : Nat) = 0 by decide, show ¬ (3 : Nat) = 1 by decide, show ¬ (3 : Nat) = 2 by decide, if_false]
  · rw [e109_0]
    show ev 109 1 [.ref 27, .int (nI i), .int (nI 4)] [.int 4] H = _
    rw [e109_1_4]
    simp only [e109_65, e109_66, e109_69, e109_70, e109_71, e109_72, e109_73, e109_74, e109_75, show (4 : Int32) = nI 4 from rfl, show (3 : Int32) = nI 3 from rfl, q_mul, q_add, (hq4 3 (by decide)).1, (hq4 3 (by decide)).2.1, (hq4 3 (by decide)).2.2, or_self, if_false, MV_r hR hi, show ¬ (4 : Nat) = 0 by decide, show ¬ (4 : Nat) = 1 by decide, show ¬ (4 : Nat) = 2 by decide, show ¬ (4 : Nat) = 3 by decide]
theorem g_about (ho : sOK S) {c : Nat} (hc : c < vn (sV S)) : ∀ i j h H, j + i = 5 → DR H S h → ∃ H1, ev 150 19 [.ref 27, .int (nI c), .int (nI j)] [] H = ev 150 41 [.ref 27, .int (nI c), .int (nI 5)] [] H1 ∧ DR H1 S (dgf (fun w => (fAbout (sV S) (nI c) (nI w)).toInt64) i j h) ∧ kFr mC H H1 := by
  intro i
  induction i with
  | zero =>
    intro j h H hj hd
    have : j = 5 := by omega
    subst this
    refine ⟨H, ?_, hd, kFr.rf⟩
    rw [e150_19]
    simp only [e150_20, e150_21, show (5 : Int32) = nI 5 from rfl, Std.le_refl, if_true]
  | succ i ih =>
    intro j h H hj hd
    obtain ⟨s1, d1, f1⟩ := m_say hd (fAbout (sV S) (nI c) (nI j)).toInt64
    obtain ⟨H1, e1, d2, f2⟩ := ih (j + 1) _ _ (by omega) d1
    refine ⟨H1, ?_, d2, f1.tr f2⟩
    rw [← e1, e150_19]
    simp only [e150_20, e150_21, e150_24, e150_25, e150_26, e150_27, e150_28, e150_31, e150_32, e150_35, e150_38, show (5 : Int32) = nI 5 from rfl, q_le (show 5 < 2147483648 by decide) (show j < 2147483648 by omega), show ¬ 5 ≤ j by omega, if_false, m_tell hd.1 ho hc (show j < 5 by omega), q_bs, q_tl, q_tn, q_cn, q_nn, s1, nI_1]
theorem fKing_in {V : kV} {c p : Nat} (hc : c < vn V) (h5 : vn V ≤ 5) (hp : p < 2) : fKing V (nI c) (nI p) = qTerm (kw V (nI c) (vd V)) (10 ^ vn V) p := by
  unfold fKing
  rw [if_neg (fun z => q_in1 hc (by omega) z.2), qSel_in hp (by decide), if_neg (by omega)]
theorem g_c (ho : sOK S) {c : Nat} (hc : c < vn (sV S)) {H : kH} {h : Int64} (hd : DR H S h) (v : Value) : ∃ H1, ev 150 9 [.ref 27, .int (nI c), v] [] H = ev 150 9 [.ref 27, .int (nI (c + 1)), .int (nI 5)] [] H1 ∧ DR H1 S (dC (sV S) c h) ∧ kFr mC H H1 := by
  have hV := ho.1
  have h5 := hV.2.1
  obtain ⟨H1, e1, d1, f1⟩ := g_about ho hc 5 0 h H (by omega) hd
  have k0 := fKing_in (p := 0) hc h5 (by decide)
  have k1 := fKing_in (p := 1) hc h5 (by decide)
  obtain ⟨s2, d2, f2⟩ := m_say d1 (qTerm (kw (sV S) (nI c) (vd (sV S))) (10 ^ vn (sV S)) 0)
  obtain ⟨s3, d3, f3⟩ := m_say d2 (qTerm (kw (sV S) (nI c) (vd (sV S))) (10 ^ vn (sV S)) 1)
  obtain ⟨s4, d4, f4⟩ := m_say d3 (fWindow (sV S) (nI c)).toInt64
  refine ⟨_, ?_, ?_, ((f1.tr f2).tr f3).tr f4⟩
  · have ea : ev 150 9 [.ref 27, .int (nI c), v] [] H = ev 150 19 [.ref 27, .int (nI c), .int (nI 0)] [] H := by
      rw [e150_9]
      simp only [e150_10, e150_11, e150_14, e150_17, e150_18, hd.1.1.1, q_le (show vn (sV S) < 2147483648 by omega) (show c < 2147483648 by omega), show ¬ vn (sV S) ≤ c by omega, if_false]
      rfl
    have t0 := m_kingTerm d1.1.1 hV (c := nI c) (Or.inr ⟨c, hc, rfl⟩) (p := 0) (by decide)
    have t1 := m_kingTerm d2.1.1 hV (c := nI c) (Or.inr ⟨c, hc, rfl⟩) (p := 1) (by decide)
    have tw := m_windowOf d3.1.1 hV hc
    rw [ea, e1]
    simp only [e150_41, e150_42, e150_43, e150_44, e150_45, e150_48, e150_51, e150_52, e150_53, e150_54, e150_55, e150_58, e150_61, e150_62, e150_63, e150_64, e150_67, e150_68, e150_71, e150_74, show (0 : Int32) = nI 0 from rfl, show (1 : Int32) = nI 1 from rfl, t0, t1, tw, q_bs, q_tl, q_tn, q_cn, q_nn, s2, s3, s4, q_add]
  · have e : dC (sV S) c h = 31 * (31 * (31 * dgf (fun w => (fAbout (sV S) (nI c) (nI w)).toInt64) 5 0 h + qTerm (kw (sV S) (nI c) (vd (sV S))) (10 ^ vn (sV S)) 0) + qTerm (kw (sV S) (nI c) (vd (sV S))) (10 ^ vn (sV S)) 1) + (fWindow (sV S) (nI c)).toInt64 := by
      rw [← k0, ← k1]
      rfl
    rw [e]
    exact d4
theorem g_cs (ho : sOK S) : ∀ i j h v H, DR H S h → j + i = vn (sV S) → ∃ (H1 : kH) (v1 : Value), ev 150 9 [.ref 27, .int (nI j), v] [] H = ev 150 77 [.ref 27, .int (nI (vn (sV S))), v1] [] H1 ∧ DR H1 S (dCs (sV S) i j h) ∧ kFr mC H H1 := by
  intro i
  induction i with
  | zero =>
    intro j h v H hd hj
    have : j = vn (sV S) := by omega
    subst this
    refine ⟨H, v, ?_, hd, kFr.rf⟩
    rw [e150_9]
    simp only [e150_10, e150_11, e150_14, hd.1.1.1, Std.le_refl, if_true]
  | succ i ih =>
    intro j h v H hd hj
    obtain ⟨H1, e1, d1, f1⟩ := g_c ho (show j < vn (sV S) by omega) hd v
    obtain ⟨H2, v2, e2, d2, f2⟩ := ih (j + 1) _ _ H1 d1 (by omega)
    exact ⟨H2, v2, by rw [e1, e2], d2, f1.tr f2⟩
theorem m_holdsTerm {V : kV} (hV : vOK V) {H : kH} (hv : MV H V) {l n p : Nat} (hl : l < 6) (hn : n ≤ 3) (hp : p < 2) : ∃ H', ev 129 0 [.ref 27, .int (nI l), .int (nI n), .int (nI p)] [] H = some (some (.long (qTerm (qLL V (qbit l) n (vh V)) (10 ^ (vn V * n)) p)), H') ∧ kFr hC H H' := by
  have h5 := hV.2.1
  have hh := hV.2.2.2.2.2.1
  obtain ⟨H1, e1, f1⟩ := m_holdsFrom hV hv hh hl hn
  have hk := p15 h5 hn
  refine ⟨H1, ?_, f1⟩
  simp only [e129_0, e129_1, e129_2, e129_5, e129_6, e129_7, e129_10, e129_11, e129_12, e129_15, e129_16, e129_19, MV_h hv, e1, q_bs, q_tl, q_cn, m_tens (MV_hC f1 hv) hV (show n < 100 by omega), m_term (Nat.lt_of_le_of_lt (qLL_bit hV l n (vh V)) hk) hk (Nat.pow_pos (by decide)) hp]
theorem fHolds_in {V : kV} {l p : Nat} (hl : l < 6) (hp : p < 2) (h0 : ¬ vn V = 0) : fHolds V (nI l) 2 (nI p) = qTerm (qLL V (qbit l) 2 (vh V)) (10 ^ (vn V * 2)) p := by
  unfold fHolds
  rw [qSel_in hl (by decide), show (2 : Int32) = nI 2 from rfl, qSel_in (by decide) (by decide), qSel_in hp (by decide), if_neg h0]
theorem fSaying_in {V : kV} {l : Nat} (hl : l < 6) (h0 : ¬ vn V = 0) : fSaying V (nI l) 1 = qAr (fun v => qLL V (qbit l) 1 (qS (vh V) v)) 5 1 0 (qLL V (qbit l) 1 (qS (vh V) 0)) := by
  unfold fSaying
  rw [qSel_in hl (by decide), show (1 : Int32) = nI 1 from rfl, qSel_in (by decide) (by decide), if_neg h0]
theorem g_l (ho : sOK S) (h0 : ¬ vn (sV S) = 0) {l : Nat} (hl : l < 6) {H : kH} {h : Int64} (hd : DR H S h) (v : Value) : ∃ H1, ev 150 88 [.ref 27, .int (nI l), v] [] H = ev 150 88 [.ref 27, .int (nI (l + 1)), v] [] H1 ∧ DR H1 S (dL (sV S) l h) ∧ kFr mC H H1 := by
  have hV := ho.1
  have k0 := fHolds_in (V := sV S) (p := 0) hl (by decide) h0
  have k1 := fHolds_in (V := sV S) (p := 1) hl (by decide) h0
  have k2 := fSaying_in (V := sV S) hl h0
  obtain ⟨H1, e1, f1⟩ := m_holdsTerm hV hd.1.1 (p := 0) hl (show 2 ≤ 3 by decide) (by decide)
  obtain ⟨s1, d1, g1⟩ := m_say (DR_hC hd f1) (qTerm (qLL (sV S) (qbit l) 2 (vh (sV S))) (10 ^ (vn (sV S) * 2)) 0)
  obtain ⟨H2, e2, f2⟩ := m_holdsTerm hV d1.1.1 (p := 1) hl (show 2 ≤ 3 by decide) (by decide)
  obtain ⟨s2, d2, g2⟩ := m_say (DR_hC d1 f2) (qTerm (qLL (sV S) (qbit l) 2 (vh (sV S))) (10 ^ (vn (sV S) * 2)) 1)
  obtain ⟨H3, e3, f3⟩ := m_sayingOf hV d2.1.1 hl (show 1 ≤ 3 by decide)
  obtain ⟨s3, d3, g3⟩ := m_say (DR_hC d2 f3) (qAr (fun v => qLL (sV S) (qbit l) 1 (qS (vh (sV S)) v)) 5 1 0 (qLL (sV S) (qbit l) 1 (qS (vh (sV S)) 0))).toInt64
  have hm : ∀ {H H' : kH}, kFr hC H H' → kFr mC H H' := fun z => z.mono (fun _ _ y => mS_mC (hC_mS y))
  refine ⟨_, ?_, ?_, ((((hm f1).tr g1).tr ((hm f2).tr g2)).tr ((hm f3).tr g3))⟩
  · have e6 : ((6 : Int32) ≤ nI l) = False := by
      rw [show (6 : Int32) = nI 6 from rfl, q_le (by decide) (by omega)]
      exact eq_false (by omega)
    have ea : ev 150 88 [.ref 27, .int (nI l), v] [] H = ev 150 101 [.ref 27, .int (nI l), v] [] H := by
      rw [e150_88]
      simp only [e150_89, e150_91, e150_94, e150_95, e150_98, e6, if_false, m_lacks1 hd.1.1 hV h0, q_bs, q_tl, q_cn, not_true_eq_false]
    have z1 : ev 129 0 [.ref 27, .int (nI l), .int 2, .int 0] [] H = _ := e1
    have z2 : ev 129 0 [.ref 27, .int (nI l), .int 2, .int 1] [] _ = _ := e2
    have z3 : ev 133 0 [.ref 27, .int (nI l), .int 1, .null, .null, .null, .null, .null, .null] [] _ = _ := e3
    rw [ea]
    simp only [e150_101, e150_102, e150_103, e150_104, e150_105, e150_106, e150_109, e150_112, e150_113, e150_114, e150_115, e150_116, e150_117, e150_120, e150_123, e150_124, e150_125, e150_126, e150_127, e150_130, e150_131, e150_134, e150_137, z1, z2, z3, s1, s2, s3, q_bs, q_tl, q_tn, q_cn, q_nn, nI_1]
  · have e : dL (sV S) l h = 31 * (31 * (31 * h + qTerm (qLL (sV S) (qbit l) 2 (vh (sV S))) (10 ^ (vn (sV S) * 2)) 0) + qTerm (qLL (sV S) (qbit l) 2 (vh (sV S))) (10 ^ (vn (sV S) * 2)) 1) + (qAr (fun v => qLL (sV S) (qbit l) 1 (qS (vh (sV S)) v)) 5 1 0 (qLL (sV S) (qbit l) 1 (qS (vh (sV S)) 0))).toInt64 := by
      rw [← k0, ← k1, ← k2]
      rfl
    rw [e]
    exact d3
theorem g_ls (ho : sOK S) (h0 : ¬ vn (sV S) = 0) : ∀ i j h v H, DR H S h → j + i = 6 → ∃ (H1 : kH) (v1 : Value), ev 150 88 [.ref 27, .int (nI j), v] [] H = ev 150 140 [.ref 27, .int (nI 6), v1] [] H1 ∧ DR H1 S (dLs (sV S) i j h) ∧ kFr mC H H1 := by
  intro i
  induction i with
  | zero =>
    intro j h v H hd hj
    have : j = 6 := by omega
    subst this
    refine ⟨H, v, ?_, hd, kFr.rf⟩
    rw [e150_88]
    simp only [e150_89, e150_91, show (6 : Int32) = nI 6 from rfl, Std.le_refl, if_true]
  | succ i ih =>
    intro j h v H hd hj
    obtain ⟨H1, e1, d1, f1⟩ := g_l ho h0 (show j < 6 by omega) hd v
    obtain ⟨H2, v2, e2, d2, f2⟩ := ih (j + 1) _ _ H1 d1 (by omega)
    exact ⟨H2, v2, by rw [e1, e2], d2, f1.tr f2⟩
theorem g_page (ho : sOK S) : ∀ i j h v H, DR H S h → j + i = sn S → ∃ H1, ev 150 159 [.ref 27, .int (nI j), v] [] H = ev 150 184 [.ref 27, .int (nI (sn S)), v] [] H1 ∧ DR H1 S (dgf (fun k => (nI (sg S k)).toInt64) i j h) ∧ kFr mC H H1 := by
  intro i
  induction i with
  | zero =>
    intro j h v H hd hj
    have : j = sn S := by omega
    subst this
    refine ⟨H, ?_, hd, kFr.rf⟩
    rw [e150_159]
    simp only [e150_160, e150_161, e150_164, hd.1.2.1.1, Std.le_refl, if_true]
  | succ i ih =>
    intro j h v H hd hj
    have h20 := hd.1.2.1.2.1
    obtain ⟨s1, d1, f1⟩ := m_say hd (nI (sg S j)).toInt64
    obtain ⟨H1, e1, d2, f2⟩ := ih (j + 1) _ v _ d1 (by omega)
    refine ⟨H1, ?_, d2, f1.tr f2⟩
    rw [← e1, e150_159]
    simp only [e150_160, e150_161, e150_164, e150_167, e150_168, e150_169, e150_172, e150_173, e150_174, e150_175, e150_178, e150_181, hd.1.2.1.1, q_le (show sn S < 2147483648 by omega) (show j < 2147483648 by omega), show ¬ sn S ≤ j by omega, if_false, q_lt0 (show j < 2147483648 by omega), q_cl (show j < 2147483648 by omega), show ¬ 20 ≤ j by omega, or_self, (hd.1.2.1.2.2 j (by omega)).1, q_bs, q_tl, q_tn, q_cn, q_nn, s1, nI_1]
theorem g_count (ho : sOK S) : ∀ i j h v H, DR H S h → j + i = 9 → ∃ H1, ev 150 186 [.ref 27, .int (nI j), v] [] H = some (some (.long (dgf (fun w => (fCount S (nI w)).toInt64) i j h)), H1) ∧ MR H1 S ∧ kFr mC H H1 := by
  intro i
  induction i with
  | zero =>
    intro j h v H hd hj
    have : j = 9 := by omega
    subst this
    refine ⟨H, ?_, hd.1, kFr.rf⟩
    rw [e150_186]
    simp only [e150_187, e150_189, e150_208, e150_209, e150_212, show (9 : Int32) = nI 9 from rfl, Std.le_refl, if_true, hd.2, dgf]
  | succ i ih =>
    intro j h v H hd hj
    obtain ⟨s1, d1, f1⟩ := m_say hd (fCount S (nI j)).toInt64
    obtain ⟨H1, e1, d2, f2⟩ := ih (j + 1) _ v _ d1 (by omega)
    refine ⟨H1, ?_, d2, f1.tr f2⟩
    show _ = some (some (Value.long (dgf (fun w => (fCount S (nI w)).toInt64) i (j + 1) (31 * h + (fCount S (nI j)).toInt64))), H1)
    rw [← e1, e150_186]
    simp only [e150_187, e150_189, e150_192, e150_193, e150_194, e150_195, e150_198, e150_199, e150_202, e150_205, show (9 : Int32) = nI 9 from rfl, q_le (show 9 < 2147483648 by decide) (show j < 2147483648 by omega), show ¬ 9 ≤ j by omega, if_false, m_countOf hd.1 ho, q_bs, q_tl, q_tn, q_cn, q_nn, s1, nI_1]
theorem g_end (ho : sOK S) {H : kH} {h : Int64} (hd : DR H S h) (c : Int32) (v : Value) : ∃ H1, ev 150 157 [.ref 27, .int c, v] [] H = some (some (.long (dgf (fun w => (fCount S (nI w)).toInt64) 9 0 (dgf (fun k => (nI (sg S k)).toInt64) (sn S) 0 h))), H1) ∧ MR H1 S ∧ kFr mC H H1 := by
  obtain ⟨H1, e1, d1, f1⟩ := g_page ho (sn S) 0 h v H hd (by omega)
  obtain ⟨H2, e2, d2, f2⟩ := g_count ho 9 0 _ v H1 d1 (by omega)
  refine ⟨H2, ?_, d2, f1.tr f2⟩
  have ea : ev 150 157 [.ref 27, .int c, v] [] H = ev 150 159 [.ref 27, .int (nI 0), v] [] H := by
    simp only [e150_157, e150_158]
    rfl
  have eb : ev 150 184 [.ref 27, .int (nI (sn S)), v] [] H1 = ev 150 186 [.ref 27, .int (nI 0), v] [] H1 := by
    simp only [e150_184, e150_185]
    rfl
  rw [ea, e1, eb, e2]
theorem y_digest {H : kH} (hq : MR H S) (ho : sOK S) : ∃ H1, ev 150 0 [.ref 27, .null, .null] [] H = some (some (.long (fDigest S)), H1) ∧ MR H1 S ∧ kFr mC H H1 := by
  have hV := ho.1
  have h5 := hV.2.1
  have f0 : kFr mS H (uL H 27 25 809) := kFr_uL (by unfold mS; omega)
  have d0 : DR (uL H 27 25 809) S 809 := ⟨MR_fr f0 hq, hL_uLs _ _ _ _⟩
  obtain ⟨H1, v1, e1, d1, f1⟩ := g_cs ho (vn (sV S)) 0 809 .null _ d0 (by omega)
  obtain ⟨s2, d2, f2⟩ := m_say d1 (nI (vh (sV S))).toInt64
  have es : ev 150 0 [.ref 27, .null, .null] [] H = ev 150 88 [.ref 27, .int (nI 0), v1] [] (uL H1 27 25 (31 * dCs (sV S) (vn (sV S)) 0 809 + (nI (vh (sV S))).toInt64)) := by
    have ea : ev 150 0 [.ref 27, .null, .null] [] H = ev 150 9 [.ref 27, .int (nI 0), .null] [] (uL H 27 25 809) := by
      simp only [e150_0, e150_1, e150_4, e150_7, e150_8]
      rfl
    rw [ea, e1]
    simp only [e150_77, e150_78, e150_79, e150_82, e150_83, e150_86, e150_87, MV_h d1.1.1, s2, q_bs, q_tn, q_nn]
    rfl
  have F : kFr mC H (uL H1 27 25 (31 * dCs (sV S) (vn (sV S)) 0 809 + (nI (vh (sV S))).toInt64)) := ((f0.mono (fun _ _ => mS_mC)).tr f1).tr f2
  rw [es]
  unfold fDigest
  by_cases h0 : vn (sV S) = 0
  · rw [if_pos h0]
    obtain ⟨H2, e3, q3, f3⟩ := g_end ho d2 (nI 0) v1
    refine ⟨H2, ?_, q3, F.tr f3⟩
    rw [← e3, e150_88]
    simp only [e150_89, e150_91, e150_94, e150_95, e150_98, e150_140, e150_141, e150_144, show (6 : Int32) = nI 6 from rfl, q_le (show 6 < 2147483648 by decide) (show 0 < 2147483648 by decide), show ¬ 6 ≤ 0 by decide, if_false, m_lacks0 d2.1.1 hV h0, q_bs, q_tl, q_cn, t10, not_false_eq_true, if_true]
  · rw [if_neg h0]
    obtain ⟨H2, v2, e3, d3, f3⟩ := g_ls ho h0 6 0 _ v1 _ d2 (by omega)
    obtain ⟨H3, e4, f4⟩ := m_ways hV d3.1.1 (show 0 < vn (sV S) by omega) (-1)
    rw [qLB_none (nI 0) (vb (sV S)) _ hV.2.2.2.2.2.2.1] at e4
    obtain ⟨s5, d5, f5⟩ := m_say (DR_hC d3 f4) (lN (qLB (sV S) (-1) (-1) (fun _ => 1) (vb (sV S)) (vh (sV S))))
    obtain ⟨H4, e6, q6, f6⟩ := g_end ho d5 (nI 6) v2
    have hfit : fFits (sV S) = lN (qLB (sV S) (-1) (-1) (fun _ => 1) (vb (sV S)) (vh (sV S))) := by
      unfold fFits
      rw [if_neg h0]
    refine ⟨H4, ?_, q6, (((F.tr f3).tr (f4.mono (fun _ _ y => mS_mC (hC_mS y)))).tr f5).tr f6⟩
    rw [hfit, ← e6, e3]
    simp only [e150_140, e150_141, e150_144, e150_147, e150_148, e150_149, e150_150, e150_151, e150_154, m_lacks1 d3.1.1 hV h0, q_bs, q_tl, q_tn, q_cn, q_nn, not_true_eq_false, if_false]
    have z4 : ev 139 0 [.ref 27, .int 0, .int (-1), .null, .null, .null, .null, .null] [] H2 = _ := e4
    simp only [z4, s5, q_bs, q_tl, q_tn, q_cn, q_nn, e150_154]
end KMH
