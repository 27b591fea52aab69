/-! the model: ways -/
section KMA
variable {V : kV}
theorem b_init (x1 x2 : Int32) {f : Nat} (hf : f < 64) : ∀ i j H, j + i = 64 → hI H 27 5 = nI f → (∀ q, q < j → hL H 30 q = lN (if f = q then 1 else 0)) → ∃ H', ev 139 2 [.ref 27, .int x1, .int x2, .int (nI j), .null, .null, .null, .null] [] H = ev 139 33 [.ref 27, .int x1, .int x2, .int (nI 64), .null, .null, .null, .null] [] H' ∧ kFr hC H H' ∧ ∀ q, q < 64 → hL H' 30 q = lN (if f = q then 1 else 0) := by
  intro i
  induction i with
  | zero =>
    intro j H hj h5 hq
    have : j = 64 := by omega
    subst this
    refine ⟨H, ?_, kFr.rf, hq⟩
    rw [e139_2]
    simp only [e139_3, e139_5, show (64 : Int32) = nI 64 from rfl, Std.le_refl, if_true]
  | succ i ih =>
    intro j H hj h5 hq
    have f0 : kFr hC H (uL H 30 j (lN (if f = j then 1 else 0))) := kFr_uL (by unfold hC; omega)
    obtain ⟨H', e1, f1, g1⟩ := ih (j + 1) _ (by omega) (((f0 27 5 (by unfold hC; omega)).1).trans h5) (fun q hq1 => by
      by_cases e : q = j
      · subst e
        rw [hL_uLs]
      · rw [hL_uLn (by omega)]
        exact hq q (by omega))
    refine ⟨H', ?_, f0.tr f1, g1⟩
    rw [← e1, e139_2]
    have eq : (nI j = nI f) = (f = j) := by rw [q_eq (by omega) (by omega)]; exact propext eq_comm
    by_cases a : f = j
    · simp only [e139_3, e139_5, e139_8, e139_9, e139_12, e139_13, e139_14, e139_15, e139_18, e139_21, e139_22, e139_25, e139_26, e139_27, e139_30, show (64 : Int32) = nI 64 from rfl, q_le (show 64 < 2147483648 by decide) (show j < 2147483648 by omega), show ¬ 64 ≤ j by omega, if_false, h5, eq, eq_true a, not_true_eq_false, q_lt0 (show j < 2147483648 by omega), q_cl (show j < 2147483648 by omega), or_self, if_true, nI_1]
      rfl
    · simp only [e139_3, e139_5, e139_8, e139_9, e139_12, e139_13, e139_14, e139_15, e139_18, e139_21, e139_22, e139_25, e139_26, e139_27, e139_30, show (64 : Int32) = nI 64 from rfl, q_le (show 64 < 2147483648 by decide) (show j < 2147483648 by omega), show ¬ 64 ≤ j by omega, if_false, h5, eq, a, not_false_eq_true, if_true, q_lt0 (show j < 2147483648 by omega), q_cl (show j < 2147483648 by omega), or_self, nI_1]
      rfl
theorem b_zero (x1 x2 x3 : Int32) (v5 v6 v7 : Value) : ∀ i j H, j + i = 64 → (∀ q, q < j → hL H 31 q = lN 0) → ∃ H', ev 139 46 [.ref 27, .int x1, .int x2, .int x3, .int (nI j), v5, v6, v7] [] H = ev 139 67 [.ref 27, .int x1, .int x2, .int x3, .int (nI 64), v5, v6, v7] [] H' ∧ kFr (fun k _ => k = 31) H H' ∧ ∀ q, q < 64 → hL H' 31 q = lN 0 := by
  intro i
  induction i with
  | zero =>
    intro j H hj hq
    have : j = 64 := by omega
    subst this
    refine ⟨H, ?_, kFr.rf, hq⟩
    rw [e139_46]
    simp only [e139_48, e139_50, show (64 : Int32) = nI 64 from rfl, Std.le_refl, if_true]
  | succ i ih =>
    intro j H hj hq
    have f0 : kFr (fun k _ => k = 31) H (uL H 31 j 0) := kFr_uL (P := fun k _ => k = 31) rfl
    obtain ⟨H', e1, f1, g1⟩ := ih (j + 1) (uL H 31 j 0) (by omega) (fun q hq1 => by
      by_cases e : q = j
      · subst e
        rw [hL_uLs]
        rfl
      · rw [hL_uLn (by omega)]
        exact hq q (by omega))
    refine ⟨H', ?_, f0.tr f1, g1⟩
    rw [← e1, e139_46]
    simp only [e139_48, e139_50, e139_53, e139_54, e139_57, e139_59, e139_60, e139_61, e139_64, show (64 : Int32) = nI 64 from rfl, q_le (show 64 < 2147483648 by decide) (show j < 2147483648 by omega), show ¬ 64 ≤ j by omega, if_false, q_lt0 (show j < 2147483648 by omega), q_cl (show j < 2147483648 by omega), or_self, nI_1]
theorem b_copy (x1 x2 x3 : Int32) (v5 v6 v7 : Value) {G : Nat → Nat} : ∀ i j H, j + i = 64 → (∀ q, q < 64 → hL H 31 q = lN (G q)) → (∀ q, q < j → hL H 30 q = lN (G q)) → ∃ H', ev 139 214 [.ref 27, .int x1, .int x2, .int x3, .int (nI j), v5, v6, v7] [] H = ev 139 241 [.ref 27, .int x1, .int x2, .int x3, .int (nI 64), v5, v6, v7] [] H' ∧ kFr (fun k _ => k = 30) H H' ∧ ∀ q, q < 64 → hL H' 30 q = lN (G q) := by
  intro i
  induction i with
  | zero =>
    intro j H hj hg hq
    have : j = 64 := by omega
    subst this
    refine ⟨H, ?_, kFr.rf, hq⟩
    rw [e139_214]
    simp only [e139_216, e139_218, show (64 : Int32) = nI 64 from rfl, Std.le_refl, if_true]
  | succ i ih =>
    intro j H hj hg hq
    have f0 : kFr (fun k _ => k = 30) H (uL H 30 j (lN (G j))) := kFr_uL (P := fun k _ => k = 30) rfl
    obtain ⟨H', e1, f1, g1⟩ := ih (j + 1) (uL H 30 j (lN (G j))) (by omega) (fun q hq1 => by rw [hL_uLn (by omega)]; exact hg q hq1) (fun q hq1 => by
      by_cases e : q = j
      · subst e
        rw [hL_uLs]
      · rw [hL_uLn (by omega)]
        exact hq q (by omega))
    refine ⟨H', ?_, f0.tr f1, g1⟩
    rw [← e1, e139_214]
    simp only [e139_216, e139_218, e139_221, e139_222, e139_225, e139_227, e139_228, e139_231, e139_233, e139_234, e139_235, e139_238, show (64 : Int32) = nI 64 from rfl, q_le (show 64 < 2147483648 by decide) (show j < 2147483648 by omega), show ¬ 64 ≤ j by omega, if_false, q_lt0 (show j < 2147483648 by omega), q_cl (show j < 2147483648 by omega), or_self, hg j (by omega), nI_1]
theorem qBx_iff {c m s : Nat} {px : Int32} (hc : c < vn V) (h5 : vn V ≤ 5) : (∀ j, j < vn V → nI j = qBx (nI c) px m → s.testBit j = true) ↔ (nI m = px → s.testBit c = true) := by
  unfold qBx
  by_cases h : nI m = px
  · rw [if_pos h]
    refine ⟨fun z _ => z c hc rfl, fun z j hj e => ?_⟩
    rw [q_eq (by omega) (by omega)] at e
    subst e
    exact z h
  · rw [if_neg h]
    refine ⟨fun _ z => absurd z h, fun _ j hj e => ?_⟩
    rw [q_m1ne (by omega)] at e
    exact absurd e id
theorem b_is (hV : vOK V) {H : kH} (hv : MV H V) {c m k s : Nat} (hc : c < vn V) (hm : m < vb V) (hk : k < 64) (hs : s < 64) (px : Int32) (v7 : Value) : (qis V (vt V + nI m) (qBx (nI c) px m) (vB V m) k s → ev 139 113 [.ref 27, .int (nI c), .int px, .int (nI m), .int (nI k), .int (nI s), .int (nI (qD V k s)), v7] [] H = ev 139 173 [.ref 27, .int (nI c), .int px, .int (nI m), .int (nI k), .int (nI s), .int (nI (qD V k s)), .int 1] [] H) ∧ (¬ qis V (vt V + nI m) (qBx (nI c) px m) (vB V m) k s → ev 139 113 [.ref 27, .int (nI c), .int px, .int (nI m), .int (nI k), .int (nI s), .int (nI (qD V k s)), v7] [] H = ev 139 173 [.ref 27, .int (nI c), .int px, .int (nI m), .int (nI k), .int (nI s), .int (nI (qD V k s)), .int 0] [] H) := by
  have h5 := hV.2.1
  have hb5 := hV.2.2.2.2.2.2.1
  have eB : (hI H 34 m) = vB V m := MV_B hv hm
  have eb := (q_bit s hs c (by omega)).2
  have ed : (vB V m = nI (qD V k s)) = (nI (qD V k s) = vB V m) := propext eq_comm
  unfold qis
  rw [qBx_iff hc h5]
  have e127 : ∀ r, qMy V (vt V + nI m) k s (vn V) = r → ev 139 113 [.ref 27, .int (nI c), .int px, .int (nI m), .int (nI k), .int (nI s), .int (nI (qD V k s)), v7] [] H = ev 139 127 [.ref 27, .int (nI c), .int px, .int (nI m), .int (nI k), .int (nI s), .int (nI (qD V k s)), v7] [.int (if r = true then 1 else 0)] H := by
    intro r hr
    rw [← hr]
    simp only [e139_113, e139_114, e139_116, e139_118, e139_119, e139_122, e139_123, e139_124, MV_t hv, m_may hv hV hk hs, q_bs, q_tl, q_cn]
  have i34 : (nI m < 0) = False ∧ (nI m).toNatClampNeg = m := ⟨q_lt0 (by omega), q_cl (by omega)⟩
  cases hy : qMy V (vt V + nI m) k s (vn V) with
  | false =>
    rw [e127 false hy]
    refine ⟨fun z => absurd z.1 (by decide), fun _ => ?_⟩
    simp only [e139_127, e139_130, e139_131, e139_134, e139_135, e139_136, e139_137, e139_140, e139_141, e139_144, e139_145, e139_146, e139_148, e139_151, e139_152, e139_153, e139_156, e139_158, e139_159, e139_160, e139_161, e139_162, e139_163, e139_166, e139_167, e139_170, e139_171, Bool.false_eq_true, if_false, if_true]
  | true =>
    rw [e127 true hy]
    have e151 : (vB V m = -1 ∨ nI (qD V k s) = vB V m) → ev 139 127 [.ref 27, .int (nI c), .int px, .int (nI m), .int (nI k), .int (nI s), .int (nI (qD V k s)), v7] [.int (if true = true then 1 else 0)] H = ev 139 151 [.ref 27, .int (nI c), .int px, .int (nI m), .int (nI k), .int (nI s), .int (nI (qD V k s)), v7] [] H := by
      intro z
      by_cases a : vB V m = -1
      · simp only [e139_127, e139_130, e139_131, e139_134, e139_135, e139_136, e139_137, e139_140, e139_141, e139_144, e139_145, e139_146, e139_148, if_true, t10, if_false, i34.1, i34.2, show ¬ 5 ≤ m by omega, or_self, eB, eq_true a]
      · have b : nI (qD V k s) = vB V m := z.elim (fun y => absurd y a) id
        simp only [e139_127, e139_130, e139_131, e139_134, e139_135, e139_136, e139_137, e139_140, e139_141, e139_144, e139_145, e139_146, e139_148, if_true, t10, if_false, i34.1, i34.2, show ¬ 5 ≤ m by omega, or_self, eB, a, ed, eq_true b, not_true_eq_false]
    by_cases a : vB V m = -1 ∨ nI (qD V k s) = vB V m
    · rw [e151 a]
      by_cases hp : nI m = px
      · by_cases hbit : s.testBit c = true
        · refine ⟨fun _ => ?_, fun z => absurd ⟨rfl, a, fun _ => hbit⟩ z⟩
          simp only [e139_151, e139_152, e139_153, e139_156, e139_158, e139_159, e139_160, e139_161, e139_162, e139_163, e139_166, e139_167, e139_170, e139_171, eq_true hp, not_true_eq_false, if_false, eb, hbit]
        · refine ⟨fun z => absurd (z.2.2 hp) hbit, fun _ => ?_⟩
          simp only [e139_151, e139_152, e139_153, e139_156, e139_158, e139_159, e139_160, e139_161, e139_162, e139_163, e139_166, e139_167, e139_170, e139_171, eq_true hp, not_true_eq_false, if_false, eb, hbit, not_false_eq_true, if_true, Bool.false_eq_true]
      · refine ⟨fun _ => ?_, fun z => absurd ⟨rfl, a, fun y => absurd y hp⟩ z⟩
        simp only [e139_151, e139_152, e139_153, e139_156, e139_158, e139_159, e139_160, e139_161, e139_162, e139_163, e139_166, e139_167, e139_170, e139_171, hp, not_false_eq_true, if_true]
    · refine ⟨fun z => absurd z.2.1 a, fun _ => ?_⟩
      simp only [e139_127, e139_130, e139_131, e139_134, e139_135, e139_136, e139_137, e139_140, e139_141, e139_144, e139_145, e139_146, e139_148, e139_151, e139_152, e139_153, e139_156, e139_158, e139_159, e139_160, e139_161, e139_162, e139_163, e139_166, e139_167, e139_170, e139_171, if_true, t10, if_false, i34.1, i34.2, show ¬ 5 ≤ m by omega, or_self, eB, show ¬ vB V m = -1 from fun z => a (Or.inl z), ed, show ¬ nI (qD V k s) = vB V m from fun z => a (Or.inr z), not_false_eq_true]
theorem b_sets (hV : vOK V) {c m : Nat} (hc : c < vn V) (hm : m < vb V) (px : Int32) {F : Nat → Nat} {k : Nat} (hk : k < 64) (hF : F k < 2 ^ 63) : ∀ i s H v6 v7, s + i = 2 ^ vn V → MV H V → hL H 30 k = lN (F k) → (∀ q, q < 64 → hL H 31 q = lN (fwp (fun k s => qwy V (vt V + nI m) (qBx (nI c) px m) (vB V m) k s) (qD V) (2 ^ vn V) F k s q)) → ∃ (H' : kH) (y5 : Int32) (y6 y7 : Value), ev 139 80 [.ref 27, .int (nI c), .int px, .int (nI m), .int (nI k), .int (nI s), v6, v7] [] H = ev 139 205 [.ref 27, .int (nI c), .int px, .int (nI m), .int (nI k), .int y5, y6, y7] [] H' ∧ kFr (fun k _ => k = 31) H H' ∧ ∀ q, q < 64 → hL H' 31 q = lN (fwp (fun k s => qwy V (vt V + nI m) (qBx (nI c) px m) (vB V m) k s) (qD V) (2 ^ vn V) F (k + 1) 0 q) := by
  have h5 := hV.2.1
  have h32 := pow2_le h5
  have es : (1 : Int32) <<< (nI (vn V) &&& 31) = nI (2 ^ vn V) := by
    rw [q_shl1 _ (by omega), Nat.one_shiftLeft]
  intro i
  induction i with
  | zero =>
    intro s H v6 v7 hs hv hk30 hq
    have : s = 2 ^ vn V := by omega
    subst this
    refine ⟨H, nI (2 ^ vn V), v6, v7, ?_, kFr.rf, fun q hq1 => by rw [← fwp_N]; exact hq q hq1⟩
    rw [e139_80]
    simp only [e139_82, e139_83, e139_84, e139_87, e139_88, hv.1, es, Std.le_refl, if_true]
  | succ i ih =>
    intro s H v6 v7 hs hv hk30 hq
    by_cases hz : F k = 0
    · refine ⟨H, nI s, v6, v7, ?_, kFr.rf, fun q hq1 => by rw [← fwp_N, fwp_z hz, ← fwp_z hz s]; exact hq q hq1⟩
      have hz0 : (lg_cmp (lN 0) 0 ≤ 0) = True := eq_true (by decide)
      rw [e139_80]
      simp only [e139_82, e139_83, e139_84, e139_87, e139_88, e139_91, e139_92, e139_95, e139_97, e139_98, e139_99, e139_100, hv.1, es, q_le (show 2 ^ vn V < 2147483648 by omega) (show s < 2147483648 by omega), show ¬ 2 ^ vn V ≤ s by omega, if_false, q_lt0 (show k < 2147483648 by omega), q_cl (show k < 2147483648 by omega), show ¬ 64 ≤ k by omega, or_self, hk30, hz, hz0, if_true]
    · have hD := qD_lt hV hk s
      have f0 : kFr (fun k _ => k = 31) H (uL H 31 (qD V k s) (lN (fwp (fun k s => qwy V (vt V + nI m) (qBx (nI c) px m) (vB V m) k s) (qD V) (2 ^ vn V) F k s (qD V k s) + F k * qwy V (vt V + nI m) (qBx (nI c) px m) (vB V m) k s))) := kFr_uL (P := fun k _ => k = 31) rfl
      have e113 : ev 139 80 [.ref 27, .int (nI c), .int px, .int (nI m), .int (nI k), .int (nI s), v6, v7] [] H = ev 139 113 [.ref 27, .int (nI c), .int px, .int (nI m), .int (nI k), .int (nI s), .int (nI (qD V k s)), v7] [] H := by
        rw [e139_80]
        simp only [e139_82, e139_83, e139_84, e139_87, e139_88, e139_91, e139_92, e139_95, e139_97, e139_98, e139_99, e139_100, e139_103, e139_104, e139_106, e139_108, e139_111, hv.1, es, q_le (show 2 ^ vn V < 2147483648 by omega) (show s < 2147483648 by omega), show ¬ 2 ^ vn V ≤ s by omega, if_false, q_lt0 (show k < 2147483648 by omega), q_cl (show k < 2147483648 by omega), show ¬ 64 ≤ k by omega, or_self, hk30, q_cmple0 hF, hz, m_behind hv hV hk (show s < 64 by omega), q_bs, q_tl, q_cn]
      obtain ⟨bp, bn⟩ := b_is hV hv hc hm hk (show s < 64 by omega) px v7
      have hi := fun (H1 : kH) (v6 v7 : Value) (e : H1 = uL H 31 (qD V k s) (lN (fwp (fun k s => qwy V (vt V + nI m) (qBx (nI c) px m) (vB V m) k s) (qD V) (2 ^ vn V) F k s (qD V k s) + F k * qwy V (vt V + nI m) (qBx (nI c) px m) (vB V m) k s))) => ih (s + 1) H1 v6 v7 (by omega) (by rw [e]; exact MV_hC (f0.mono (fun k j z => by unfold hC; omega)) hv) (by rw [e, hL_uLn (by omega)]; exact hk30) (fun q hq1 => by
        rw [e, fwp_s]
        by_cases e : q = qD V k s
        · subst e
          rw [hL_uLs, if_pos rfl]
        · rw [hL_uLn (by omega), if_neg (fun z => e z.symm), Nat.add_zero]
          exact hq q hq1)
      by_cases hI : qis V (vt V + nI m) (qBx (nI c) px m) (vB V m) k s
      · obtain ⟨H', y5, y6, y7, e1, f1, g1⟩ := hi _ (.int (nI (qD V k s))) (.int 1) rfl
        refine ⟨H', y5, y6, y7, ?_, f0.tr f1, g1⟩
        rw [e113, bp hI, ← e1, qwy_pos hI, Nat.mul_one]
        simp only [e139_173, e139_174, e139_177, e139_179, e139_180, e139_181, e139_183, e139_186, e139_187, e139_190, e139_192, e139_193, e139_196, e139_197, e139_198, e139_199, e139_202, q_lt0 (show qD V k s < 2147483648 by omega), q_cl (show qD V k s < 2147483648 by omega), show ¬ 64 ≤ qD V k s by omega, or_self, if_false, t10, q_lt0 (show k < 2147483648 by omega), q_cl (show k < 2147483648 by omega), show ¬ 64 ≤ k by omega, hk30, hq (qD V k s) hD, lN_add, nI_1]
      · obtain ⟨H', y5, y6, y7, e1, f1, g1⟩ := hi _ (.int (nI (qD V k s))) (.int 0) rfl
        refine ⟨H', y5, y6, y7, ?_, f0.tr f1, g1⟩
        rw [e113, bn hI, ← e1, qwy_neg hI, Nat.mul_zero]
        simp only [e139_173, e139_174, e139_177, e139_179, e139_180, e139_181, e139_183, e139_186, e139_187, e139_190, e139_192, e139_193, e139_196, e139_197, e139_198, e139_199, e139_202, q_lt0 (show qD V k s < 2147483648 by omega), q_cl (show qD V k s < 2147483648 by omega), show ¬ 64 ≤ qD V k s by omega, or_self, if_false, if_true, hq (qD V k s) hD, Int64.add_zero, Nat.add_zero, nI_1]
theorem b_all (hV : vOK V) {c m : Nat} (hc : c < vn V) (hm : m < vb V) (px : Int32) {F : Nat → Nat} (hF : ∀ k, k < 64 → F k < 2 ^ 63) : ∀ i k H v5 v6 v7, k + i = 64 → MV H V → (∀ q, q < 64 → hL H 30 q = lN (F q)) → (∀ q, q < 64 → hL H 31 q = lN (fwp (fun k s => qwy V (vt V + nI m) (qBx (nI c) px m) (vB V m) k s) (qD V) (2 ^ vn V) F k 0 q)) → ∃ (H' : kH) (y5 y6 y7 : Value), ev 139 70 [.ref 27, .int (nI c), .int px, .int (nI m), .int (nI k), v5, v6, v7] [] H = ev 139 211 [.ref 27, .int (nI c), .int px, .int (nI m), .int (nI 64), y5, y6, y7] [] H' ∧ kFr (fun k _ => k = 31) H H' ∧ ∀ q, q < 64 → hL H' 31 q = lN (fw (fun k s => qwy V (vt V + nI m) (qBx (nI c) px m) (vB V m) k s) (qD V) (2 ^ vn V) F q) := by
  intro i
  induction i with
  | zero =>
    intro k H v5 v6 v7 hk hv h30 h31
    have : k = 64 := by omega
    subst this
    refine ⟨H, v5, v6, v7, ?_, kFr.rf, fun q hq => by rw [← fwp_64]; exact h31 q hq⟩
    rw [e139_70]
    simp only [e139_72, e139_74, show (64 : Int32) = nI 64 from rfl, Std.le_refl, if_true]
  | succ i ih =>
    intro k H v5 v6 v7 hk hv h30 h31
    obtain ⟨H1, y5, y6, y7, e1, f1, g1⟩ := b_sets hV hc hm px (show k < 64 by omega) (hF k (by omega)) (2 ^ vn V) 0 H v6 v7 (by omega) hv (h30 k (by omega)) h31
    obtain ⟨H2, z5, z6, z7, e2, f2, g2⟩ := ih (k + 1) H1 (.int y5) y6 y7 (by omega) (MV_hC (f1.mono (fun k j z => by unfold hC; omega)) hv) (fun q hq => by rw [(f1 30 q (by omega)).2.1]; exact h30 q hq) g1
    refine ⟨H2, z5, z6, z7, ?_, f1.tr f2, g2⟩
    have e7 : ev 139 70 [.ref 27, .int (nI c), .int px, .int (nI m), .int (nI k), v5, v6, v7] [] H = ev 139 80 [.ref 27, .int (nI c), .int px, .int (nI m), .int (nI k), .int (nI 0), v6, v7] [] H := by
      rw [e139_70]
      simp only [e139_72, e139_74, e139_77, e139_78, show (64 : Int32) = nI 64 from rfl, q_le (show 64 < 2147483648 by decide) (show k < 2147483648 by omega), show ¬ 64 ≤ k by omega, if_false]
      rfl
    rw [e7, e1, ← e2]
    simp only [e139_205, e139_208, nI_1]
theorem b_hours (hV : vOK V) {c f : Nat} (hc : c < vn V) (hf : f < 64) (px : Int32) : ∀ i m H v4 v5 v6 v7, m + i = vb V → MV H V → (∀ q, q < 64 → hL H 30 q = lN (qFB V (nI c) px f m q)) → ∃ (H' : kH) (y4 y5 y6 y7 : Value), ev 139 35 [.ref 27, .int (nI c), .int px, .int (nI m), v4, v5, v6, v7] [] H = ev 139 247 [.ref 27, .int (nI c), .int px, .int (nI (vb V)), y4, y5, y6, y7] [] H' ∧ kFr hC H H' ∧ ∀ q, q < 64 → hL H' 30 q = lN (qFB V (nI c) px f (vb V) q) := by
  have hb5 := hV.2.2.2.2.2.2.1
  intro i
  induction i with
  | zero =>
    intro m H v4 v5 v6 v7 hm hv h30
    have : m = vb V := by omega
    subst this
    refine ⟨H, v4, v5, v6, v7, ?_, kFr.rf, h30⟩
    rw [e139_35]
    simp only [e139_36, e139_37, e139_40, MV_b hv, Std.le_refl, if_true]
  | succ i ih =>
    intro m H v4 v5 v6 v7 hm hv h30
    obtain ⟨H1, e1, f1, g1⟩ := b_zero (nI c) px (nI m) v5 v6 v7 64 0 H (by omega) (fun q hq => absurd hq (by omega))
    have v1 : MV H1 V := MV_hC (f1.mono (fun k j z => by unfold hC; omega)) hv
    obtain ⟨H2, y5, y6, y7, e2, f2, g2⟩ := b_all hV hc (show m < vb V by omega) px (F := qFB V (nI c) px f m) (fun k hk => qFB_lt hV (nI c) px hf (show m ≤ 5 by omega) hk) 64 0 H1 v5 v6 v7 (by omega) v1 (fun q hq => by rw [(f1 30 q (by omega)).2.1]; exact h30 q hq) (fun q hq => by rw [fwp_0]; exact g1 q hq)
    have v2 : MV H2 V := MV_hC (f2.mono (fun k j z => by unfold hC; omega)) v1
    obtain ⟨H3, e3, f3, g3⟩ := b_copy (nI c) px (nI m) y5 y6 y7 64 0 H2 (by omega) g2 (fun q hq => absurd hq (by omega))
    have v3 : MV H3 V := MV_hC (f3.mono (fun k j z => by unfold hC; omega)) v2
    obtain ⟨H4, z4, z5, z6, z7, e4, f4, g4⟩ := ih (m + 1) H3 (.int (nI 64)) y5 y6 y7 (by omega) v3 g3
    refine ⟨H4, z4, z5, z6, z7, ?_, ((((f1.mono (fun k j z => by unfold hC; omega)).tr (f2.mono (fun k j z => by unfold hC; omega))).tr (f3.mono (fun k j z => by unfold hC; omega))).tr f4), g4⟩
    have ea : ev 139 35 [.ref 27, .int (nI c), .int px, .int (nI m), v4, v5, v6, v7] [] H = ev 139 46 [.ref 27, .int (nI c), .int px, .int (nI m), .int (nI 0), v5, v6, v7] [] H := by
      rw [e139_35]
      simp only [e139_36, e139_37, e139_40, e139_43, e139_44, MV_b hv, q_le (show vb V < 2147483648 by omega) (show m < 2147483648 by omega), show ¬ vb V ≤ m by omega, if_false]
      rfl
    have eb : ev 139 67 [.ref 27, .int (nI c), .int px, .int (nI m), .int (nI 64), v5, v6, v7] [] H1 = ev 139 70 [.ref 27, .int (nI c), .int px, .int (nI m), .int (nI 0), v5, v6, v7] [] H1 := by
      simp only [e139_67, e139_68]
      rfl
    have ec : ev 139 211 [.ref 27, .int (nI c), .int px, .int (nI m), .int (nI 64), y5, y6, y7] [] H2 = ev 139 214 [.ref 27, .int (nI c), .int px, .int (nI m), .int (nI 0), y5, y6, y7] [] H2 := by
      simp only [e139_211, e139_212]
      rfl
    rw [ea, e1, eb, e2, ec, e3, ← e4]
    simp only [e139_241, e139_244, nI_1]
theorem b_sum {F : Nat → Nat} (x1 x2 : Int32) (v6 v7 : Value) {H : kH} (h30 : ∀ q, q < 64 → hL H 30 q = lN (F q)) : ∀ i j, j + i = 64 → ev 139 252 [.ref 27, .int x1, .int x2, .long (lN (nsum F j)), .null, .int (nI j), v6, v7] [] H = some (some (.long (lN (nsum F 64))), H) := by
  intro i
  induction i with
  | zero =>
    intro j hj
    have : j = 64 := by omega
    subst this
    rw [e139_252]
    simp only [e139_254, e139_256, e139_275, e139_276, show (64 : Int32) = nI 64 from rfl, Std.le_refl, if_true]
  | succ i ih =>
    intro j hj
    rw [← ih (j + 1) (by omega), e139_252]
    have eq : nsum F (j + 1) = nsum F j + F j := rfl
    rw [eq]
    simp only [e139_254, e139_256, e139_259, e139_260, e139_261, e139_264, e139_266, e139_267, e139_268, e139_269, e139_272, show (64 : Int32) = nI 64 from rfl, q_le (show 64 < 2147483648 by decide) (show j < 2147483648 by omega), show ¬ 64 ≤ j by omega, if_false, q_lt0 (show j < 2147483648 by omega), q_cl (show j < 2147483648 by omega), or_self, h30 j (by omega), lN_add, nI_1]
theorem m_ways (hV : vOK V) {H : kH} (hv : MV H V) {c : Nat} (hc : c < vn V) (px : Int32) : ∃ H', ev 139 0 [.ref 27, .int (nI c), .int px, .null, .null, .null, .null, .null] [] H = some (some (.long (lN (qLB V (nI c) px (fun _ => 1) (vb V) (vh V)))), H') ∧ kFr hC H H' := by
  have hh := hV.2.2.2.2.2.1
  obtain ⟨H1, e1, f1, g1⟩ := b_init (nI c) px hh 64 0 H (by omega) (MV_h hv) (fun q hq => absurd hq (by omega))
  obtain ⟨H2, y4, y5, y6, y7, e2, f2, g2⟩ := b_hours hV hc hh px (vb V) 0 H1 .null .null .null .null (by omega) (MV_hC f1 hv) g1
  refine ⟨H2, ?_, f1.tr f2⟩
  have e3 := b_sum (nI c) px y6 y7 g2 64 0 (by omega)
  rw [qFB_all hV (nI c) px hh] at e3
  have ea : ev 139 0 [.ref 27, .int (nI c), .int px, .null, .null, .null, .null, .null] [] H = ev 139 2 [.ref 27, .int (nI c), .int px, .int (nI 0), .null, .null, .null, .null] [] H := by
    simp only [e139_0, e139_1]
    rfl
  have eb : ev 139 33 [.ref 27, .int (nI c), .int px, .int (nI 64), .null, .null, .null, .null] [] H1 = ev 139 35 [.ref 27, .int (nI c), .int px, .int (nI 0), .null, .null, .null, .null] [] H1 := by
    simp only [e139_33, e139_34]
    rfl
  rw [ea, e1, eb, e2, ← e3]
  simp only [e139_247, e139_248, e139_249, e139_250]
  rfl
theorem qLB_none (sx : Int32) : ∀ m W, m ≤ 5 → qLB V sx (-1) W m = qLB V (-1) (-1) W m
  | 0, W, _ => rfl
  | m + 1, W, hm => by
    have e : qstepB V sx (-1) m W = qstepB V (-1) (-1) m W := by
      unfold qstepB qBx
      rw [if_neg (by rw [q_m1ne (by omega)]; exact id), if_neg (by rw [q_m1ne (by omega)]; exact id)]
    show qLB V sx (-1) (qstepB V sx (-1) m W) m = qLB V (-1) (-1) (qstepB V (-1) (-1) m W) m
    rw [e, qLB_none sx m _ (by omega)]
end KMA
section KMB
variable {H : kH} {S : kS}
theorem y_fits (hq : MR H S) (ho : sOK S) : ∃ H1, ev 140 0 [.ref 27] [] H = some (some (.long (fFits (sV S))), H1) ∧ MR H1 S ∧ kFr mC H H1 := by
  have hR := hq.1
  have hV := ho.1
  unfold fFits
  by_cases h0 : vn (sV S) = 0
  · rw [if_pos h0]
    refine ⟨H, ?_, hq, kFr.rf⟩
    simp only [e140_0, e140_1, e140_4, e140_7, e140_10, e140_13, e140_14, e140_15, e140_16, e140_19, m_lacks0 hR hV h0, q_bs, q_tl, q_cn, t10, if_false]
  · rw [if_neg h0]
    obtain ⟨H1, e1, f1⟩ := m_ways hV hR (show 0 < vn (sV S) by omega) (-1)
    rw [qLB_none (nI 0) (vb (sV S)) _ hV.2.2.2.2.2.2.1] at e1
    refine ⟨H1, ?_, MR_fr (f1.mono (fun _ _ => hC_mS)) hq, f1.mono (fun _ _ z => mS_mC (hC_mS z))⟩
    simp only [e140_0, e140_1, e140_4, e140_7, e140_10, e140_13, e140_14, e140_15, e140_16, e140_19, m_lacks1 hR hV h0, q_bs, q_tl, q_cn, if_true, show (0 : Int32) = nI 0 from rfl, show (nI 0 = nI 0) = True from eq_true rfl, e1]
theorem m_inbook {n : Nat} (hn : n < 1000) (x : Int32) : ev 97 0 [.long x.toInt64, .null, .long 0, .null, .long (nI n - 1).toInt64, .null] [] H = some (some (.int (if x < 0 ∨ nI n ≤ x then 0 else 1)), H) := by
  have e0 : (0 : Int64) = (nI 0).toInt64 := rfl
  have hs : (nI n - 1).toInt = (n : Int) - 1 := pk_sub_toInt (a := n) (b := 1) (by omega) (by decide)
  rw [c_in, e0]
  simp only [q_ile]
  rcases q_case x (show n < 2147483648 by omega) with hc | hc | ⟨i, hi, rfl⟩
  · rw [if_pos (Or.inl hc), if_neg]
    have := q_toInt_lo hc
    rw [Int32.le_iff_toInt_le]
    have e : (nI 0).toInt = 0 := rfl
    omega
  · rw [if_pos (Or.inr hc), if_neg]
    have := q_toInt_hi (show n < 2147483648 by omega) hc
    intro z
    have z := z.2
    rw [Int32.le_iff_toInt_le] at z
    omega
  · rw [if_neg (q_in1 hi (by omega)), if_pos]
    refine ⟨by rw [q_le (by decide) (by omega)]; omega, ?_⟩
    rw [Int32.le_iff_toInt_le, hs, nI_toInt (by omega)]
    omega
theorem y_sneezed (hq : MR H S) (ho : sOK S) (c h : Int32) : ∃ H1, ev 141 0 [.ref 27, .int c, .int h] [] H = some (some (.long (fSneezed (sV S) c h)), H1) ∧ MR H1 S ∧ kFr mC H H1 := by
  have hR := hq.1
  have hV := ho.1
  have h5 := hV.2.1
  have hb5 := hV.2.2.2.2.2.2.1
  unfold fSneezed
  rcases q_case c (show vn (sV S) < 2147483648 by omega) with hc | hc | ⟨c, hc, rfl⟩
  · rw [qSel_lo hc]
    refine ⟨H, ?_, hq, kFr.rf⟩
    simp only [e141_0, e141_1, e141_2, e141_5, e141_8, e141_9, e141_10, e141_11, e141_12, e141_15, e141_16, e141_17, e141_18, e141_21, e141_24, e141_25, e141_26, e141_27, e141_30, e141_33, e141_36, m_isOne0 hR hV (Or.inl hc), q_bs, q_tl, q_cn, if_true]
  · rw [qSel_hi hc]
    refine ⟨H, ?_, hq, kFr.rf⟩
    simp only [e141_0, e141_1, e141_2, e141_5, e141_8, e141_9, e141_10, e141_11, e141_12, e141_15, e141_16, e141_17, e141_18, e141_21, e141_24, e141_25, e141_26, e141_27, e141_30, e141_33, e141_36, m_isOne0 hR hV (Or.inr hc), q_bs, q_tl, q_cn, if_true]
  · rw [qSel_in hc (by omega)]
    have hin := m_inbook (H := H) (n := vb (sV S)) (by omega) h
    rcases q_case h (show vb (sV S) < 2147483648 by omega) with hm | hm | ⟨m, hm, rfl⟩
    · rw [qSel_lo hm]
      rw [if_pos (Or.inl hm)] at hin
      refine ⟨H, ?_, hq, kFr.rf⟩
      simp only [e141_0, e141_1, e141_2, e141_5, e141_8, e141_9, e141_10, e141_11, e141_12, e141_15, e141_16, e141_17, e141_18, e141_21, e141_24, e141_25, e141_26, e141_27, e141_30, e141_33, e141_36, m_isOne1 hR hV hc, MV_b hR, hin, q_bs, q_tl, q_cn, t10, if_false, if_true]
    · rw [qSel_hi hm]
      rw [if_pos (Or.inr hm)] at hin
      refine ⟨H, ?_, hq, kFr.rf⟩
      simp only [e141_0, e141_1, e141_2, e141_5, e141_8, e141_9, e141_10, e141_11, e141_12, e141_15, e141_16, e141_17, e141_18, e141_21, e141_24, e141_25, e141_26, e141_27, e141_30, e141_33, e141_36, m_isOne1 hR hV hc, MV_b hR, hin, q_bs, q_tl, q_cn, t10, if_false, if_true]
    · rw [qSel_in hm (by omega)]
      rw [if_neg (q_in1 hm (by omega))] at hin
      obtain ⟨H1, e1, f1⟩ := m_ways hV hR hc (nI m)
      refine ⟨H1, ?_, MR_fr (f1.mono (fun _ _ => hC_mS)) hq, f1.mono (fun _ _ z => mS_mC (hC_mS z))⟩
      simp only [e141_0, e141_1, e141_2, e141_5, e141_8, e141_9, e141_10, e141_11, e141_12, e141_15, e141_16, e141_17, e141_18, e141_21, e141_24, e141_25, e141_26, e141_27, e141_30, e141_33, e141_36, m_isOne1 hR hV hc, MV_b hR, hin, q_bs, q_tl, q_cn, t10, if_false, e1]
theorem MV_bk {V : kV} {b : Nat} {f : Nat → Int32} {H' : kH} (hv : MV H V) (hF : kFr (fun k j => k = 34 ∨ (k = 27 ∧ j = 13)) H H') (hb : hI H' 27 13 = nI b) (hf : ∀ j, j < b → hI H' 34 j = f j) : MV H' (vsB V b f) := by
  have e : ∀ k j, ¬ (k = 34 ∨ (k = 27 ∧ j = 13)) → hI H' k j = hI H k j := fun k j z => (hF k j z).1
  obtain ⟨a1, a2, a3, a4, a5, a6, a7, a8⟩ := hv
  refine ⟨by rw [e _ _ (by omega)]; exact a1, fun j hj => ?_, by rw [e _ _ (by omega)]; exact a3, by rw [e _ _ (by omega)]; exact a4, by rw [e _ _ (by omega)]; exact a5, by rw [e _ _ (by omega)]; exact a6, hb, hf⟩
  rw [e _ _ (by omega), e _ _ (by omega), e _ _ (by omega), e _ _ (by omega)]
  exact a2 j hj
theorem y_book1 (hq : MR H S) (ho : sOK S) (x : Int32) : ∃ H1, ev 137 17 [.ref 27, .int x] [] H = some (some (.int (if vb (sV S) = 5 then -104 else nI (vb (sV S) + 1))), H1) ∧ MR H1 (ssV S (if vb (sV S) = 5 then sV S else vsB (sV S) (vb (sV S) + 1) (fu (vB (sV S)) (vb (sV S)) x))) ∧ kFr mC H H1 := by
  have hR := hq.1
  have hb5 := ho.1.2.2.2.2.2.2.1
  have e5 : (nI (vb (sV S)) = 5) = (vb (sV S) = 5) := q_eq (b := 5) (by omega) (by decide)
  by_cases h : vb (sV S) = 5
  · rw [if_pos h, if_pos h]
    refine ⟨H, ?_, MR_self hq, kFr.rf⟩
    simp only [e137_17, e137_18, e137_21, e137_22, e137_25, e137_27, MV_b hR, e5, eq_true h, not_true_eq_false, if_false]
  · rw [if_neg h, if_neg h]
    have F : kFr (fun k j => k = 34 ∨ (k = 27 ∧ j = 13)) H (uI (uI H 34 (vb (sV S)) x) 27 13 (nI (vb (sV S) + 1))) := (kFr_uI (by omega)).tr (kFr_uI (by omega))
    refine ⟨uI (uI H 34 (vb (sV S)) x) 27 13 (nI (vb (sV S) + 1)), ?_, MR_now (F.mono (fun k j z => by unfold mN; omega)) hq (MV_bk hR F (hI_uIs _ _ _ _) (fun j hj => ?_)), F.mono (fun k j z => by unfold mC; omega)⟩
    · simp only [e137_17, e137_18, e137_21, e137_22, e137_25, e137_27, e137_28, e137_29, e137_32, e137_33, e137_36, e137_37, e137_38, e137_39, e137_40, e137_43, e137_44, e137_45, e137_48, e137_49, e137_52, MV_b hR, e5, h, not_false_eq_true, if_true, q_lt0 (show vb (sV S) < 2147483648 by omega), q_cl (show vb (sV S) < 2147483648 by omega), show ¬ 5 ≤ vb (sV S) by omega, or_self, if_false, hI27 (show (34 : Nat) ≠ 27 by decide), nI_1, hI_uIs]
    · rw [hI_uIn (by omega)]
      by_cases e : j = vb (sV S)
      · subst e
        rw [hI_uIs, fu_s]
      · rw [hI_uIn (by omega), fu_n e]
        exact MV_B hR (by omega)
theorem q_m1le (x : Int32) : ((-1 : Int32) ≤ x) = (x = -1 ∨ ¬ x < 0) := by
  apply propext
  have e : (-1 : Int32).toInt = -1 := rfl
  have e0 : (0 : Int32).toInt = 0 := rfl
  rw [Int32.le_iff_toInt_le, Int32.lt_iff_toInt_lt, ← Int32.toInt_inj, e, e0]
  omega
theorem y_book (hq : MR H S) (ho : sOK S) (x : Int32) : ∃ H1, ev 137 0 [.ref 27, .int x] [] H = some (some (.int (fBook (sV S) x)), H1) ∧ MR H1 (ssV S (tBook (sV S) x)) ∧ kFr mC H H1 := by
  obtain ⟨H1, e1, q1, f1⟩ := y_book1 hq ho x
  have em : (-1 : Int64) = (-1 : Int32).toInt64 := by decide
  have e63 : (63 : Int64) = (nI 63).toInt64 := rfl
  have hu : ∀ r : Int32, (if (-1 : Int32) ≤ x ∧ x ≤ nI 63 then (1 : Int32) else 0) = r → ev 137 0 [.ref 27, .int x] [] H = ev 137 11 [.ref 27, .int x] [.int r] H := by
    intro r hr
    have hin : ev 97 0 [.long x.toInt64, .null, .long (-1), .null, .long 63, .null] [] H = some (some (.int r), H) := by
      rw [c_in, em, e63]
      simp only [q_ile]
      rw [hr]
    simp only [e137_0, e137_1, e137_2, e137_5, e137_8, hin, q_bs, q_tl, q_cn]
  have h17 : ∀ r : Int32, r = 1 → ev 137 11 [.ref 27, .int x] [.int r] H = ev 137 17 [.ref 27, .int x] [] H := by
    intro r hr
    subst hr
    simp only [e137_11, t10, not_false_eq_true, if_true]
  have h14 : ∀ r : Int32, r = 0 → ev 137 11 [.ref 27, .int x] [.int r] H = some (some (.int (-102)), H) := by
    intro r hr
    subst hr
    simp only [e137_11, e137_14, e137_16, not_true_eq_false, if_false]
  unfold fBook tBook
  by_cases hx : x = -1
  · rw [if_pos hx, if_pos hx]
    refine ⟨H1, ?_, q1, f1⟩
    rw [hu 1 (if_pos ⟨by rw [q_m1le]; exact Or.inl hx, by rw [hx]; decide⟩), h17 1 rfl]
    exact e1
  · rw [if_neg hx, if_neg hx]
    rcases q_case x (show 64 < 2147483648 by decide) with hc | hc | ⟨j, hj, rfl⟩
    · rw [qSel_lo hc, qSel_lo hc]
      refine ⟨H, ?_, MR_self hq, kFr.rf⟩
      rw [hu 0 (if_neg (fun z => by rw [q_m1le] at z; exact z.1.elim hx (fun y => y hc))), h14 0 rfl]
    · rw [qSel_hi hc, qSel_hi hc]
      refine ⟨H, ?_, MR_self hq, kFr.rf⟩
      rw [hu 0 (if_neg (fun z => by rw [q_hi_le (show 64 < 2147483648 by decide) hc (show 63 < 64 by decide)] at z; exact z.2)), h14 0 rfl]
    · rw [qSel_in hj (by decide), qSel_in hj (by decide)]
      refine ⟨H1, ?_, q1, f1⟩
      rw [hu 1 (if_pos ⟨by rw [q_m1le, q_lt0 (by omega)]; exact Or.inr id, by rw [q_le (by omega) (by decide)]; omega⟩), h17 1 rfl]
      exact e1
theorem y_forget (hq : MR H S) : ∃ H1, ev 138 0 [.ref 27, .null] [] H = some (some (.int (nI (vb (sV S)))), H1) ∧ MR H1 (ssV S (vsB (sV S) 0 (vB (sV S)))) ∧ kFr mC H H1 := by
  have F : kFr (fun k j => k = 34 ∨ (k = 27 ∧ j = 13)) H (uI H 27 13 0) := kFr_uI (by omega)
  refine ⟨uI H 27 13 0, ?_, MR_now (F.mono (fun k j z => by unfold mN; omega)) hq (MV_bk hq.1 F (hI_uIs _ _ _ _) (fun j hj => absurd hj (Nat.not_lt_zero j))), F.mono (fun k j z => by unfold mC; omega)⟩
  simp only [e138_0, e138_1, e138_4, e138_5, e138_6, e138_7, e138_10, e138_11, MV_b hq.1]
end KMB
