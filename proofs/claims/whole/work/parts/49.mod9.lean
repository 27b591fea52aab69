/-! the model: statutes -/
theorem hI_fu (H : kH) (k j : Nat) (v : Int32) : hI (uI H k j v) k = fu (hI H k) j v := funext (fun a => by
  by_cases e : a = j
  · subst e
    rw [hI_uIs, fu_s]
  · rw [hI_uIn (fun z => e z.2), fu_n e])
theorem hI_ot (H : kH) {k a : Nat} (j : Nat) (v : Int32) (h : a ≠ k) : hI (uI H k j v) a = hI H a := funext (fun b => hI_uIn (fun z => h z.1))
theorem fu_id (f : Nat → Int32) (c : Nat) : fu f c (f c) = f := funext (fun j => by
  by_cases e : j = c
  · subst e
    rw [fu_s]
  · rw [fu_n e])
section KMC
def fC (k _ : Nat) : Prop := k = 32 ∨ k = 33
theorem fC_mS {k j : Nat} (h : fC k j) : mS k j := by unfold fC at h; unfold mS; omega
theorem s_init (x1 x2 : Int32) : ∀ i j H, j + i = 64 → (∀ q, q < j → hI H 32 q = -1 ∧ hI H 33 q = -1) → ∃ H', ev 135 2 [.ref 27, .int x1, .int x2, .int (nI j), .null, .null, .null, .null, .null] [] H = ev 135 28 [.ref 27, .int x1, .int x2, .int (nI 64), .null, .null, .null, .null, .null] [] H' ∧ kFr fC H H' ∧ ∀ q, q < 64 → hI H' 32 q = -1 ∧ hI H' 33 q = -1 := by
  intro i
  induction i with
  | zero =>
    intro j H hj hq
    have : j = 64 := by omega
    subst this
    refine ⟨H, ?_, kFr.rf, hq⟩
    rw [e135_2]
    simp only [e135_3, e135_5, show (64 : Int32) = nI 64 from rfl, Std.le_refl, if_true]
  | succ i ih =>
    intro j H hj hq
    have f0 : kFr fC H (uI (uI H 32 j (-1)) 33 j (-1)) := (kFr_uI (by unfold fC; omega)).tr (kFr_uI (by unfold fC; omega))
    obtain ⟨H', e1, f1, g1⟩ := ih (j + 1) (uI (uI H 32 j (-1)) 33 j (-1)) (by omega) (fun q hq1 => by
      by_cases e : q = j
      · subst e
        rw [hI_uIs, hI_uIn (by omega), hI_uIs]
        exact ⟨rfl, rfl⟩
      · rw [hI_uIn (by omega), hI_uIn (by omega), hI_uIn (by omega), hI_uIn (by omega)]
        exact hq q (by omega))
    refine ⟨H', ?_, f0.tr f1, g1⟩
    rw [← e1, e135_2]
    simp only [e135_3, e135_5, e135_8, e135_9, e135_12, e135_13, e135_14, e135_15, e135_16, e135_19, e135_20, e135_21, e135_22, e135_25, show (64 : Int32) = nI 64 from rfl, q_le (show 64 < 2147483648 by decide) (show j < 2147483648 by omega), show ¬ 64 ≤ j by omega, if_false, q_lt0 (show j < 2147483648 by omega), q_cl (show j < 2147483648 by omega), or_self, nI_1]
theorem s_bet {H : kH} {to b0 t : Nat} (hto : to < 64) (ht : t < 1000) (x1 x2 x4 x5 : Int32) (v8 : Value) :
    (hI H 32 to = -1 ∨ hI H 32 to = nI (t + 1) ∧ nI b0 < hI H 33 to → ev 135 104 [.ref 27, .int x1, .int x2, .int (nI t), .int x4, .int x5, .int (nI to), .int (nI b0), v8] [] H = ev 135 147 [.ref 27, .int x1, .int x2, .int (nI t), .int x4, .int x5, .int (nI to), .int (nI b0), .int 1] [] H) ∧
    (¬ (hI H 32 to = -1 ∨ hI H 32 to = nI (t + 1) ∧ nI b0 < hI H 33 to) → ev 135 104 [.ref 27, .int x1, .int x2, .int (nI t), .int x4, .int x5, .int (nI to), .int (nI b0), v8] [] H = ev 135 147 [.ref 27, .int x1, .int x2, .int (nI t), .int x4, .int x5, .int (nI to), .int (nI b0), .int 0] [] H) := by
  have i1 : (nI to < 0) = False := q_lt0 (by omega)
  have i2 : (nI to).toNatClampNeg = to := q_cl (by omega)
  have i3 : ¬ 64 ≤ to := by omega
  by_cases a : hI H 32 to = -1
  · refine ⟨fun _ => ?_, fun z => absurd (Or.inl a) z⟩
    simp only [e135_104, e135_105, e135_108, e135_110, e135_111, e135_112, e135_115, e135_116, e135_119, e135_121, e135_122, e135_123, e135_124, e135_125, e135_128, e135_130, e135_131, e135_134, e135_136, e135_137, e135_140, e135_141, e135_144, e135_145, i1, i2, i3, or_self, if_false, eq_true a, if_true]
  · by_cases b : hI H 32 to = nI (t + 1)
    · by_cases c : nI b0 < hI H 33 to
      · have c' : ¬ hI H 33 to ≤ nI b0 := by rw [Int32.not_le]; exact c
        refine ⟨fun _ => ?_, fun z => absurd (Or.inr ⟨b, c⟩) z⟩
        simp only [e135_104, e135_105, e135_108, e135_110, e135_111, e135_112, e135_115, e135_116, e135_119, e135_121, e135_122, e135_123, e135_124, e135_125, e135_128, e135_130, e135_131, e135_134, e135_136, e135_137, e135_140, e135_141, e135_144, e135_145, i1, i2, i3, or_self, if_false, a, nI_1, eq_true b, not_true_eq_false, c']
      · have c' : hI H 33 to ≤ nI b0 := by rw [← Int32.not_lt]; exact c
        refine ⟨fun z => z.elim (fun y => absurd y a) (fun y => absurd y.2 c), fun _ => ?_⟩
        simp only [e135_104, e135_105, e135_108, e135_110, e135_111, e135_112, e135_115, e135_116, e135_119, e135_121, e135_122, e135_123, e135_124, e135_125, e135_128, e135_130, e135_131, e135_134, e135_136, e135_137, e135_140, e135_141, e135_144, e135_145, i1, i2, i3, or_self, if_false, a, nI_1, eq_true b, not_true_eq_false, eq_true c', if_true]
    · refine ⟨fun z => z.elim (fun y => absurd y a) (fun y => absurd y.1 b), fun _ => ?_⟩
      simp only [e135_104, e135_105, e135_108, e135_110, e135_111, e135_112, e135_115, e135_116, e135_119, e135_121, e135_122, e135_123, e135_124, e135_125, e135_128, e135_130, e135_131, e135_134, e135_136, e135_137, e135_140, e135_141, e135_144, e135_145, i1, i2, i3, or_self, if_false, a, nI_1, b, not_false_eq_true, if_true]
theorem s_v {f t k : Nat} (hf : f < 64) (ht : t < 1000) (hk : k < 64) (hD : dst f k t) (x1 x2 : Int32) : ∀ i v H v6 v7 v8, v + i = 6 → stI f t (6 * k + v) (hI H 32) (hI H 33) → ∃ (H' : kH) (y6 y7 y8 : Value), ev 135 59 [.ref 27, .int x1, .int x2, .int (nI t), .int (nI k), .int (nI v), v6, v7, v8] [] H = ev 135 202 [.ref 27, .int x1, .int x2, .int (nI t), .int (nI k), .int (nI 6), y6, y7, y8] [] H' ∧ kFr fC H H' ∧ stI f t (6 * (k + 1)) (hI H' 32) (hI H' 33) := by
  intro i
  induction i with
  | zero =>
    intro v H v6 v7 v8 hv hS
    have : v = 6 := by omega
    subst this
    refine ⟨H, v6, v7, v8, ?_, kFr.rf, hS⟩
    rw [e135_59]
    simp only [e135_61, e135_63, show (6 : Int32) = nI 6 from rfl, Std.le_refl, if_true]
  | succ i ih =>
    intro v H v6 v7 v8 hv hS
    have hto : qS k v < 64 := qS_lt k hk v (by omega)
    have hAk : hI H 32 k = nI t := by rw [stI_at hS ht hk]; exact hD
    obtain ⟨b0, hg, e104⟩ : ∃ b0, gv f t k v b0 ∧ ev 135 59 [.ref 27, .int x1, .int x2, .int (nI t), .int (nI k), .int (nI v), v6, v7, v8] [] H = ev 135 104 [.ref 27, .int x1, .int x2, .int (nI t), .int (nI k), .int (nI v), .int (nI (qS k v)), .int (nI b0), v8] [] H := by
      have e86 : ev 135 59 [.ref 27, .int x1, .int x2, .int (nI t), .int (nI k), .int (nI v), v6, v7, v8] [] H = ev 135 86 [.ref 27, .int x1, .int x2, .int (nI t), .int (nI k), .int (nI v), .int (nI (qS k v)), v7, v8] [] H := by
        rw [e135_59]
        simp only [e135_61, e135_63, e135_66, e135_67, e135_70, e135_72, e135_73, e135_74, e135_77, e135_79, e135_81, e135_84, show (6 : Int32) = nI 6 from rfl, q_le (show 6 < 2147483648 by decide) (show v < 2147483648 by omega), show ¬ 6 ≤ v by omega, if_false, q_lt0 (show k < 2147483648 by omega), q_cl (show k < 2147483648 by omega), show ¬ 64 ≤ k by omega, or_self, hAk, not_true_eq_false, m_said hk (show v < 6 by omega), q_bs, q_tl, q_cn]
      rw [e86]
      by_cases h0 : t = 0
      · refine ⟨v, Or.inl ⟨h0, rfl⟩, ?_⟩
        subst h0
        simp only [e135_86, e135_87, e135_90, e135_92, e135_95, e135_96, e135_99, e135_101, e135_102, n00, not_true_eq_false, if_false]
      · obtain ⟨b, hb, eb⟩ := ((hS k hk).1 t (Nat.le_refl _) hD).2.2 (by omega)
        refine ⟨b, Or.inr ⟨by omega, hb⟩, ?_⟩
        simp only [e135_86, e135_87, e135_90, e135_92, e135_95, e135_96, e135_99, e135_101, e135_102, q_n0' (show t < 2147483648 by omega), h0, not_false_eq_true, if_true, q_lt0 (show k < 2147483648 by omega), q_cl (show k < 2147483648 by omega), show ¬ 64 ≤ k by omega, or_self, if_false, eb]
    obtain ⟨sp, sn⟩ := stI_step hf ht hk (show v < 6 by omega) hS hD hg
    obtain ⟨bp, bn⟩ := s_bet (H := H) (b0 := b0) hto ht x1 x2 (nI k) (nI v) v8
    have i1 : (nI (qS k v) < 0) = False := q_lt0 (by omega)
    have i2 : (nI (qS k v)).toNatClampNeg = qS k v := q_cl (by omega)
    have i3 : ¬ 64 ≤ qS k v := by omega
    by_cases hP : hI H 32 (qS k v) = -1 ∨ hI H 32 (qS k v) = nI (t + 1) ∧ nI b0 < hI H 33 (qS k v)
    · have f0 : kFr fC H (uI (uI H 32 (qS k v) (nI (t + 1))) 33 (qS k v) (nI b0)) := (kFr_uI (by unfold fC; omega)).tr (kFr_uI (by unfold fC; omega))
      obtain ⟨H', y6, y7, y8, e1, f1, g1⟩ := ih (v + 1) (uI (uI H 32 (qS k v) (nI (t + 1))) 33 (qS k v) (nI b0)) (.int (nI (qS k v))) (.int (nI b0)) (.int 1) (by omega) (by
        rw [hI_fu, hI_ot _ _ _ (show (32 : Nat) ≠ 33 by decide), hI_fu, hI_ot _ _ _ (show (33 : Nat) ≠ 32 by decide)]
        exact sp hP)
      refine ⟨H', y6, y7, y8, ?_, f0.tr f1, g1⟩
      rw [e104, bp hP, ← e1]
      simp only [e135_147, e135_148, e135_151, e135_153, e135_155, e135_158, e135_159, e135_160, e135_161, e135_164, e135_165, e135_168, e135_170, e135_171, e135_172, e135_173, e135_176, e135_178, e135_180, e135_183, e135_185, e135_188, e135_189, e135_192, e135_194, e135_195, e135_196, e135_199, i1, i2, i3, or_self, if_false, t10, nI_1]
    · have f0 : kFr fC H (uI (uI H 32 (qS k v) (hI H 32 (qS k v))) 33 (qS k v) (hI H 33 (qS k v))) := (kFr_uI (by unfold fC; omega)).tr (kFr_uI (by unfold fC; omega))
      obtain ⟨H', y6, y7, y8, e1, f1, g1⟩ := ih (v + 1) (uI (uI H 32 (qS k v) (hI H 32 (qS k v))) 33 (qS k v) (hI H 33 (qS k v))) (.int (nI (qS k v))) (.int (nI b0)) (.int 0) (by omega) (by
        rw [hI_fu, hI_ot _ _ _ (show (32 : Nat) ≠ 33 by decide), hI_fu, hI_ot _ _ _ (show (33 : Nat) ≠ 32 by decide), fu_id, fu_id]
        exact sn hP)
      refine ⟨H', y6, y7, y8, ?_, f0.tr f1, g1⟩
      rw [e104, bn hP, ← e1]
      simp only [e135_147, e135_148, e135_151, e135_153, e135_155, e135_158, e135_159, e135_160, e135_161, e135_164, e135_165, e135_168, e135_170, e135_171, e135_172, e135_173, e135_176, e135_178, e135_180, e135_183, e135_185, e135_188, e135_189, e135_192, e135_194, e135_195, e135_196, e135_199, i1, i2, i3, or_self, if_false, if_true, hI_uIn (show ¬ ((33 : Nat) = 32 ∧ qS k v = qS k v) by omega), nI_1]
theorem s_k {f t : Nat} (hf : f < 64) (ht : t < 1000) (x1 x2 : Int32) : ∀ i k H v5 v6 v7 v8, k + i = 64 → stI f t (6 * k) (hI H 32) (hI H 33) → ∃ (H' : kH) (y5 y6 y7 y8 : Value), ev 135 49 [.ref 27, .int x1, .int x2, .int (nI t), .int (nI k), v5, v6, v7, v8] [] H = ev 135 208 [.ref 27, .int x1, .int x2, .int (nI t), .int (nI 64), y5, y6, y7, y8] [] H' ∧ kFr fC H H' ∧ stI f t 384 (hI H' 32) (hI H' 33) := by
  intro i
  induction i with
  | zero =>
    intro k H v5 v6 v7 v8 hk hS
    have : k = 64 := by omega
    subst this
    refine ⟨H, v5, v6, v7, v8, ?_, kFr.rf, hS⟩
    rw [e135_49]
    simp only [e135_51, e135_53, show (64 : Int32) = nI 64 from rfl, Std.le_refl, if_true]
  | succ i ih =>
    intro k H v5 v6 v7 v8 hk hS
    have e59 : ev 135 49 [.ref 27, .int x1, .int x2, .int (nI t), .int (nI k), v5, v6, v7, v8] [] H = ev 135 59 [.ref 27, .int x1, .int x2, .int (nI t), .int (nI k), .int (nI 0), v6, v7, v8] [] H := by
      rw [e135_49]
      simp only [e135_51, e135_53, e135_56, e135_57, show (64 : Int32) = nI 64 from rfl, q_le (show 64 < 2147483648 by decide) (show k < 2147483648 by omega), show ¬ 64 ≤ k by omega, if_false]
      rfl
    rw [e59]
    by_cases hD : dst f k t
    · obtain ⟨H1, y6, y7, y8, e1, f1, g1⟩ := s_v hf ht (show k < 64 by omega) hD x1 x2 6 0 H v6 v7 v8 (by omega) hS
      obtain ⟨H2, z5, z6, z7, z8, e2, f2, g2⟩ := ih (k + 1) H1 (.int (nI 6)) y6 y7 y8 (by omega) g1
      refine ⟨H2, z5, z6, z7, z8, ?_, f1.tr f2, g2⟩
      rw [e1, ← e2]
      simp only [e135_202, e135_205, nI_1]
    · have hAk : ¬ hI H 32 k = nI t := by rw [stI_at hS ht (show k < 64 by omega)]; exact hD
      obtain ⟨H2, z5, z6, z7, z8, e2, f2, g2⟩ := ih (k + 1) H (.int (nI 0)) v6 v7 v8 (by omega) (stI_skip hS hD)
      refine ⟨H2, z5, z6, z7, z8, ?_, f2, g2⟩
      rw [← e2, e135_59]
      simp only [e135_61, e135_63, e135_66, e135_67, e135_70, e135_72, e135_73, e135_74, e135_202, e135_205, show (6 : Int32) = nI 6 from rfl, q_le (show 6 < 2147483648 by decide) (show 0 < 2147483648 by decide), show ¬ 6 ≤ 0 by decide, if_false, q_lt0 (show k < 2147483648 by omega), q_cl (show k < 2147483648 by omega), show ¬ 64 ≤ k by omega, or_self, hAk, not_false_eq_true, if_true, nI_1]
theorem s_t {f : Nat} (hf : f < 64) (x1 x2 : Int32) : ∀ i t H v4 v5 v6 v7 v8, t + i = 6 → stI f t 0 (hI H 32) (hI H 33) → ∃ (H' : kH) (y4 y5 y6 y7 y8 : Value), ev 135 40 [.ref 27, .int x1, .int x2, .int (nI t), v4, v5, v6, v7, v8] [] H = ev 135 214 [.ref 27, .int x1, .int x2, .int (nI 6), y4, y5, y6, y7, y8] [] H' ∧ kFr fC H H' ∧ stI f 6 0 (hI H' 32) (hI H' 33) := by
  intro i
  induction i with
  | zero =>
    intro t H v4 v5 v6 v7 v8 ht hS
    have : t = 6 := by omega
    subst this
    refine ⟨H, v4, v5, v6, v7, v8, ?_, kFr.rf, hS⟩
    rw [e135_40]
    simp only [e135_41, e135_43, show (6 : Int32) = nI 6 from rfl, Std.le_refl, if_true]
  | succ i ih =>
    intro t H v4 v5 v6 v7 v8 ht hS
    obtain ⟨H1, y5, y6, y7, y8, e1, f1, g1⟩ := s_k hf (show t < 1000 by omega) x1 x2 64 0 H v5 v6 v7 v8 (by omega) hS
    obtain ⟨H2, z4, z5, z6, z7, z8, e2, f2, g2⟩ := ih (t + 1) H1 (.int (nI 64)) y5 y6 y7 y8 (by omega) (stI_next hf (by omega) g1)
    refine ⟨H2, z4, z5, z6, z7, z8, ?_, f1.tr f2, g2⟩
    have e49 : ev 135 40 [.ref 27, .int x1, .int x2, .int (nI t), v4, v5, v6, v7, v8] [] H = ev 135 49 [.ref 27, .int x1, .int x2, .int (nI t), .int (nI 0), v5, v6, v7, v8] [] H := by
      rw [e135_40]
      simp only [e135_41, e135_43, e135_46, e135_47, show (6 : Int32) = nI 6 from rfl, q_le (show 6 < 2147483648 by decide) (show t < 2147483648 by omega), show ¬ 6 ≤ t by omega, if_false]
      rfl
    rw [e49, e1, ← e2]
    simp only [e135_208, e135_211, nI_1]
theorem m_stat {V : kV} (hV : vOK V) {H : kH} (hv : MV H V) {w p : Nat} (hw : w < 64) (hp : p < 2) : ∃ H', ev 135 0 [.ref 27, .int (nI w), .int (nI p), .null, .null, .null, .null, .null, .null] [] H = some (some (.int (if p = 0 then qFw (vh V) w 7 0 else qFir (vh V) w (qFw (vh V) w 7 0))), H') ∧ kFr fC H H' := by
  have hh := hV.2.2.2.2.2.1
  obtain ⟨H1, e1, f1, g1⟩ := s_init (nI w) (nI p) 64 0 H (by omega) (fun q hq => absurd hq (by omega))
  have h5 : hI H1 27 5 = nI (vh V) := ((f1 27 5 (by unfold fC; omega)).1).trans (MV_h hv)
  have f2 : kFr fC H1 (uI H1 32 (vh V) 0) := kFr_uI (by unfold fC; omega)
  obtain ⟨H2, y4, y5, y6, y7, y8, e3, f3, g3⟩ := s_t hh (nI w) (nI p) 6 0 (uI H1 32 (vh V) 0) .null .null .null .null .null (by omega) (stI_0 (fun q hq => by
    rw [hI_ot _ _ _ (show (33 : Nat) ≠ 32 by decide)]
    refine ⟨?_, (g1 q hq).2⟩
    by_cases e : vh V = q
    · subst e
      rw [hI_uIs, if_pos rfl]
    · rw [hI_uIn (fun z => e z.2.symm), if_neg e]
      exact (g1 q hq).1))
  obtain ⟨r1, r2⟩ := stI_end hh hw g3
  refine ⟨H2, ?_, (f1.tr f2).tr f3⟩
  have ea : ev 135 0 [.ref 27, .int (nI w), .int (nI p), .null, .null, .null, .null, .null, .null] [] H = ev 135 2 [.ref 27, .int (nI w), .int (nI p), .int (nI 0), .null, .null, .null, .null, .null] [] H := by
    simp only [e135_0, e135_1]
    rfl
  have eb : ev 135 28 [.ref 27, .int (nI w), .int (nI p), .int (nI 64), .null, .null, .null, .null, .null] [] H1 = ev 135 40 [.ref 27, .int (nI w), .int (nI p), .int (nI 0), .null, .null, .null, .null, .null] [] (uI H1 32 (vh V) 0) := by
    simp only [e135_28, e135_29, e135_32, e135_33, e135_36, e135_37, e135_38, e135_39, h5, q_lt0 (show vh V < 2147483648 by omega), q_cl (show vh V < 2147483648 by omega), show ¬ 64 ≤ vh V by omega, or_self, if_false]
    rfl
  rw [ea, e1, eb, e3]
  rcases (show p = 0 ∨ p = 1 by omega) with rfl | rfl
  · simp only [e135_214, e135_215, e135_218, e135_219, e135_222, e135_223, e135_224, e135_227, e135_228, e135_231, e135_232, e135_233, n00, not_true_eq_false, if_false, if_true, q_lt0 (show w < 2147483648 by omega), q_cl (show w < 2147483648 by omega), show ¬ 64 ≤ w by omega, or_self, r1]
  · simp only [e135_214, e135_215, e135_218, e135_219, e135_222, e135_223, e135_224, e135_227, e135_228, e135_231, e135_232, e135_233, show (nI 1 = (0 : Int32)) = False from eq_false (by decide), not_false_eq_true, if_true, if_false, q_lt0 (show w < 2147483648 by omega), q_cl (show w < 2147483648 by omega), show ¬ 64 ≤ w by omega, or_self, r2, Nat.one_ne_zero]
end KMC
section KMD
variable {H : kH} {S : kS}
theorem y_statutes (hq : MR H S) (ho : sOK S) (w p : Int32) : ∃ H1, ev 136 0 [.ref 27, .int w, .int p] [] H = some (some (.int (fStat (sV S) w p)), H1) ∧ MR H1 S ∧ kFr mC H H1 := by
  have hR := hq.1
  have hV := ho.1
  unfold fStat
  rcases q_case w (show 64 < 2147483648 by decide) with hl | hl | ⟨w, hl, rfl⟩
  · rw [qSel_lo hl]
    refine ⟨H, ?_, hq, kFr.rf⟩
    simp only [e136_0, e136_1, e136_2, e136_3, e136_6, e136_9, e136_12, e136_13, e136_14, e136_15, e136_16, e136_19, e136_22, e136_24, show (0 : Int64) = lN 0 from rfl, show (63 : Int64) = lN 63 from rfl, m_lo hl (show 0 < 2147483648 by decide) (show 63 < 2147483648 by decide), q_bs, q_tl, q_cn, if_true]
  · rw [qSel_hi hl]
    refine ⟨H, ?_, hq, kFr.rf⟩
    simp only [e136_0, e136_1, e136_2, e136_3, e136_6, e136_9, e136_12, e136_13, e136_14, e136_15, e136_16, e136_19, e136_22, e136_24, show (0 : Int64) = lN 0 from rfl, show (63 : Int64) = lN 63 from rfl, m_hi hl (show 64 < 2147483648 by decide) (show 63 < 64 by decide) (show 0 < 2147483648 by decide), q_bs, q_tl, q_cn, if_true]
  · rw [qSel_in hl (by decide)]
    have e12 : ev 136 0 [.ref 27, .int (nI w), .int p] [] H = ev 136 12 [.ref 27, .int (nI w), .int p] [] H := by
      simp only [e136_0, e136_1, e136_2, e136_3, e136_6, e136_9, show (0 : Int64) = lN 0 from rfl, show (63 : Int64) = lN 63 from rfl, m_ok (show 0 ≤ w by omega) (show w ≤ 63 by omega) (show 63 < 2147483648 by decide), q_bs, q_tl, q_cn, t10, if_false]
    rw [e12]
    rcases q_case p (show 2 < 2147483648 by decide) with hp | hp | ⟨p, hp, rfl⟩
    · rw [qSel_lo hp]
      refine ⟨H, ?_, hq, kFr.rf⟩
      simp only [e136_12, e136_13, e136_14, e136_15, e136_16, e136_19, e136_22, e136_24, show (0 : Int64) = lN 0 from rfl, show (1 : Int64) = lN 1 from rfl, m_lo hp (show 0 < 2147483648 by decide) (show 1 < 2147483648 by decide), q_bs, q_tl, q_cn, not_true_eq_false, if_false]
    · rw [qSel_hi hp]
      refine ⟨H, ?_, hq, kFr.rf⟩
      simp only [e136_12, e136_13, e136_14, e136_15, e136_16, e136_19, e136_22, e136_24, show (0 : Int64) = lN 0 from rfl, show (1 : Int64) = lN 1 from rfl, m_hi hp (show 2 < 2147483648 by decide) (show 1 < 2 by decide) (show 0 < 2147483648 by decide), q_bs, q_tl, q_cn, not_true_eq_false, if_false]
    · rw [qSel_in hp (by decide)]
      have e25 : ev 136 12 [.ref 27, .int (nI w), .int (nI p)] [] H = ev 136 25 [.ref 27, .int (nI w), .int (nI p)] [] H := by
        simp only [e136_12, e136_13, e136_14, e136_15, e136_16, e136_19, show (0 : Int64) = lN 0 from rfl, show (1 : Int64) = lN 1 from rfl, m_ok (show 0 ≤ p by omega) (show p ≤ 1 by omega) (show 1 < 2147483648 by decide), q_bs, q_tl, q_cn, t10, not_false_eq_true, if_true]
      rw [e25]
      by_cases h0 : vn (sV S) = 0
      · rw [if_pos h0]
        refine ⟨H, ?_, hq, kFr.rf⟩
        simp only [e136_25, e136_26, e136_29, e136_32, e136_34, e136_37, e136_38, e136_39, e136_40, e136_43, m_lacks0 hR hV h0, q_bs, q_tl, q_cn, t10, if_false]
      · rw [if_neg h0]
        obtain ⟨H1, e1, f1⟩ := m_stat hV hR hl hp
        refine ⟨H1, ?_, MR_fr (f1.mono (fun _ _ => fC_mS)) hq, f1.mono (fun _ _ z => mS_mC (fC_mS z))⟩
        simp only [e136_25, e136_26, e136_29, e136_32, e136_34, e136_37, e136_38, e136_39, e136_40, e136_43, m_lacks1 hR hV h0, q_bs, q_tl, q_cn, if_true, e1]
end KMD
