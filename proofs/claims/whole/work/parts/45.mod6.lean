/-! the model: what holds -/
theorem q_cmple0 {a : Nat} (h : a < 2 ^ 63) : (lg_cmp (lN a) 0 ≤ 0) = (a = 0) := by
  rw [show (0 : Int64) = lN 0 from rfl, q_cmple h (by decide)]
  exact propext (by omega)
/-- in the middle of a step forward -/
def fwp (w D : Nat → Nat → Nat) (N : Nat) (F : Nat → Nat) (kk m : Nat) (q : Nat) : Nat := nsum (fun k => nsum (fun s => if D k s = q then F k * w k s else 0) N) kk + nsum (fun s => if D kk s = q then F kk * w kk s else 0) m
theorem fwp_0 (w D : Nat → Nat → Nat) (N : Nat) (F : Nat → Nat) (q : Nat) : fwp w D N F 0 0 q = 0 := rfl
theorem fwp_N (w D : Nat → Nat → Nat) (N : Nat) (F : Nat → Nat) (kk q : Nat) : fwp w D N F kk N q = fwp w D N F (kk + 1) 0 q := rfl
theorem fwp_z {w D : Nat → Nat → Nat} {N : Nat} {F : Nat → Nat} {kk : Nat} (h : F kk = 0) (m q : Nat) : fwp w D N F kk m q = fwp w D N F kk 0 q := by
  unfold fwp
  have e : (fun s => if D kk s = q then F kk * w kk s else 0) = fun _ => 0 := funext (fun s => by
    rw [h, Nat.zero_mul]
    split <;> rfl)
  rw [e, nsum_zero]
  rfl
theorem fwp_s (w D : Nat → Nat → Nat) (N : Nat) (F : Nat → Nat) (kk m q : Nat) : fwp w D N F kk (m + 1) q = fwp w D N F kk m q + (if D kk m = q then F kk * w kk m else 0) := by
  unfold fwp
  show _ + (nsum _ m + (if D kk m = q then F kk * w kk m else 0)) = _
  omega
theorem fwp_64 (w D : Nat → Nat → Nat) (N : Nat) (F : Nat → Nat) (q : Nat) : fwp w D N F 64 0 q = fw w D N F q := by
  unfold fwp fw
  exact Nat.add_zero _
section KM8
variable {V : kV}
def hC (k _ : Nat) : Prop := k = 30 ∨ k = 31
theorem hC_mS {k j : Nat} (h : hC k j) : mS k j := by unfold hC at h; unfold mS; omega
theorem MV_hC {H H' : kH} (h : kFr hC H H') (hv : MV H V) : MV H' V := MV_fr h (fun k j z => by unfold mN at z; unfold hC; omega) hv
theorem h_init (x2 x3 : Int32) {f : Nat} (hf : f < 64) : ∀ i j H, j + i = 64 → (∀ q, q < j → hL H 30 q = lN (if f = q then 1 else 0)) → ∃ H', ev 128 3 [.ref 27, .int (nI f), .int x2, .int x3, .int (nI j), .null, .null] [] H = ev 128 34 [.ref 27, .int (nI f), .int x2, .int x3, .int (nI 64), .null, .null] [] H' ∧ kFr hC H H' ∧ ∀ q, q < 64 → hL H' 30 q = lN (if f = q then 1 else 0) := by
  intro i
  induction i with
  | zero =>
    intro j H hj hq
    have : j = 64 := by omega
    subst this
    refine ⟨H, ?_, kFr.rf, hq⟩
    rw [e128_3]
    simp only [e128_5, e128_7, show (64 : Int32) = nI 64 from rfl, Std.le_refl, if_true]
  | succ i ih =>
    intro j H hj hq
    have f0 : kFr hC H (uL H 30 j (lN (if f = j then 1 else 0))) := kFr_uL (by unfold hC; omega)
    obtain ⟨H', e1, f1, g1⟩ := ih (j + 1) _ (by omega) (fun q hq1 => by
      by_cases e : q = j
      · subst e
        rw [hL_uLs]
      · rw [hL_uLn (by omega)]
        exact hq q (by omega))
    refine ⟨H', ?_, f0.tr f1, g1⟩
    rw [← e1, e128_3]
    have eq : (nI j = nI f) = (f = j) := by rw [q_eq (by omega) (by omega)]; exact propext eq_comm
    by_cases a : f = j
    · simp only [e128_5, e128_7, e128_10, e128_11, e128_14, e128_16, e128_18, e128_19, e128_22, e128_23, e128_26, e128_27, e128_28, e128_31, show (64 : Int32) = nI 64 from rfl, q_le (show 64 < 2147483648 by decide) (show j < 2147483648 by omega), show ¬ 64 ≤ j by omega, if_false, eq, eq_true a, not_true_eq_false, q_lt0 (show j < 2147483648 by omega), q_cl (show j < 2147483648 by omega), or_self, if_true, nI_1]
      rfl
    · simp only [e128_5, e128_7, e128_10, e128_11, e128_14, e128_16, e128_18, e128_19, e128_22, e128_23, e128_26, e128_27, e128_28, e128_31, show (64 : Int32) = nI 64 from rfl, q_le (show 64 < 2147483648 by decide) (show j < 2147483648 by omega), show ¬ 64 ≤ j by omega, if_false, eq, a, not_false_eq_true, if_true, q_lt0 (show j < 2147483648 by omega), q_cl (show j < 2147483648 by omega), or_self, nI_1]
      rfl
theorem h_zero (x1 x2 x3 x4 : Int32) (v6 : Value) : ∀ i j H, j + i = 64 → (∀ q, q < j → hL H 31 q = lN 0) → ∃ H', ev 128 46 [.ref 27, .int x1, .int x2, .int x3, .int x4, .int (nI j), v6] [] H = ev 128 67 [.ref 27, .int x1, .int x2, .int x3, .int x4, .int (nI 64), v6] [] H' ∧ kFr (fun k _ => k = 31) H H' ∧ ∀ q, q < 64 → hL H' 31 q = lN 0 := by
  intro i
  induction i with
  | zero =>
    intro j H hj hq
    have : j = 64 := by omega
    subst this
    refine ⟨H, ?_, kFr.rf, hq⟩
    rw [e128_46]
    simp only [e128_48, e128_50, show (64 : Int32) = nI 64 from rfl, Std.le_refl, if_true]
  | succ i ih =>
    intro j H hj hq
    have f0 : kFr (fun k _ => k = 31) H (uL H 31 j 0) := kFr_uL (P := fun k _ => k = 31) rfl
    obtain ⟨H', e1, f1, g1⟩ := ih (j + 1) (uL H 31 j 0) (by omega) (fun q hq1 => by
      by_cases e : q = j
      · subst e
        rw [hL_uLs]
        rfl
      · rw [hL_uLn (by omega)]
        exact hq q (by omega))
    refine ⟨H', ?_, f0.tr f1, g1⟩
    rw [← e1, e128_46]
    simp only [e128_48, e128_50, e128_53, e128_54, e128_57, e128_59, e128_60, e128_61, e128_64, show (64 : Int32) = nI 64 from rfl, q_le (show 64 < 2147483648 by decide) (show j < 2147483648 by omega), show ¬ 64 ≤ j by omega, if_false, q_lt0 (show j < 2147483648 by omega), q_cl (show j < 2147483648 by omega), or_self, nI_1]
theorem h_copy (x1 x2 x3 x4 : Int32) (v6 : Value) {G : Nat → Nat} : ∀ i j H, j + i = 64 → (∀ q, q < 64 → hL H 31 q = lN (G q)) → (∀ q, q < j → hL H 30 q = lN (G q)) → ∃ H', ev 128 161 [.ref 27, .int x1, .int x2, .int x3, .int x4, .int (nI j), v6] [] H = ev 128 188 [.ref 27, .int x1, .int x2, .int x3, .int x4, .int (nI 64), v6] [] H' ∧ kFr (fun k _ => k = 30) H H' ∧ ∀ q, q < 64 → hL H' 30 q = lN (G q) := by
  intro i
  induction i with
  | zero =>
    intro j H hj hg hq
    have : j = 64 := by omega
    subst this
    refine ⟨H, ?_, kFr.rf, hq⟩
    rw [e128_161]
    simp only [e128_163, e128_165, show (64 : Int32) = nI 64 from rfl, Std.le_refl, if_true]
  | succ i ih =>
    intro j H hj hg hq
    have f0 : kFr (fun k _ => k = 30) H (uL H 30 j (lN (G j))) := kFr_uL (P := fun k _ => k = 30) rfl
    obtain ⟨H', e1, f1, g1⟩ := ih (j + 1) (uL H 30 j (lN (G j))) (by omega) (fun q hq1 => by rw [hL_uLn (by omega)]; exact hg q hq1) (fun q hq1 => by
      by_cases e : q = j
      · subst e
        rw [hL_uLs]
      · rw [hL_uLn (by omega)]
        exact hq q (by omega))
    refine ⟨H', ?_, f0.tr f1, g1⟩
    rw [← e1, e128_161]
    simp only [e128_163, e128_165, e128_168, e128_169, e128_172, e128_174, e128_175, e128_178, e128_180, e128_181, e128_182, e128_185, show (64 : Int32) = nI 64 from rfl, q_le (show 64 < 2147483648 by decide) (show j < 2147483648 by omega), show ¬ 64 ≤ j by omega, if_false, q_lt0 (show j < 2147483648 by omega), q_cl (show j < 2147483648 by omega), or_self, hg j (by omega), nI_1]
theorem h_sets (hV : vOK V) (x1 x2 x3 : Int32) (m : Nat) {F : Nat → Nat} {k : Nat} (hk : k < 64) (hF : F k < 2 ^ 63) : ∀ i s H, s + i = 2 ^ vn V → MV H V → hL H 30 k = lN (F k) → (∀ q, q < 64 → hL H 31 q = lN (fwp (fun k s => qo V (vt V + nI m) (vd V) k s) (qD V) (2 ^ vn V) F k s q)) → ∃ H' v6, ev 128 80 [.ref 27, .int x1, .int x2, .int x3, .int (nI m), .int (nI k), .int (nI s)] [] H = ev 128 152 [.ref 27, .int x1, .int x2, .int x3, .int (nI m), .int (nI k), .int v6] [] H' ∧ kFr (fun k _ => k = 31) H H' ∧ ∀ q, q < 64 → hL H' 31 q = lN (fwp (fun k s => qo V (vt V + nI m) (vd V) k s) (qD V) (2 ^ vn V) F (k + 1) 0 q) := by
  have h5 := hV.2.1
  have h32 := pow2_le h5
  have es : (1 : Int32) <<< (nI (vn V) &&& 31) = nI (2 ^ vn V) := by
    rw [q_shl1 _ (by omega), Nat.one_shiftLeft]
  intro i
  induction i with
  | zero =>
    intro s H hs hv hk30 hq
    have : s = 2 ^ vn V := by omega
    subst this
    refine ⟨H, nI (2 ^ vn V), ?_, kFr.rf, fun q hq1 => by rw [← fwp_N]; exact hq q hq1⟩
    rw [e128_80]
    simp only [e128_82, e128_83, e128_84, e128_87, e128_88, hv.1, es, Std.le_refl, if_true]
  | succ i ih =>
    intro s H hs hv hk30 hq
    by_cases hz : F k = 0
    · refine ⟨H, nI s, ?_, kFr.rf, fun q hq1 => by rw [← fwp_N, fwp_z hz, ← fwp_z hz s]; exact hq q hq1⟩
      have hz0 : (lg_cmp (lN 0) 0 ≤ 0) = True := eq_true (by decide)
      rw [e128_80]
      simp only [e128_82, e128_83, e128_84, e128_87, e128_88, e128_91, e128_92, e128_95, e128_97, e128_98, e128_99, e128_100, hv.1, es, q_le (show 2 ^ vn V < 2147483648 by omega) (show s < 2147483648 by omega), show ¬ 2 ^ vn V ≤ s by omega, if_false, q_lt0 (show k < 2147483648 by omega), q_cl (show k < 2147483648 by omega), show ¬ 64 ≤ k by omega, or_self, hk30, hz, hz0, if_true]
    · have hD := qD_lt hV hk s
      have f0 : kFr (fun k _ => k = 31) H (uL H 31 (qD V k s) (lN (fwp (fun k s => qo V (vt V + nI m) (vd V) k s) (qD V) (2 ^ vn V) F k s (qD V k s) + F k * qo V (vt V + nI m) (vd V) k s))) := kFr_uL (P := fun k _ => k = 31) rfl
      obtain ⟨H', v6, e1, f1, g1⟩ := ih (s + 1) _ (by omega) (MV_hC (f0.mono (fun k j z => by unfold hC; omega)) hv) (by rw [hL_uLn (by omega)]; exact hk30) (fun q hq1 => by
        rw [fwp_s]
        by_cases e : q = qD V k s
        · subst e
          rw [hL_uLs, if_pos rfl]
        · rw [hL_uLn (by omega), if_neg (fun z => e z.symm), Nat.add_zero]
          exact hq q hq1)
      refine ⟨H', v6, ?_, f0.tr f1, g1⟩
      rw [← e1, e128_80]
      simp only [e128_82, e128_83, e128_84, e128_87, e128_88, e128_91, e128_92, e128_95, e128_97, e128_98, e128_99, e128_100, e128_103, e128_104, e128_107, e128_108, e128_110, e128_112, e128_115, e128_116, e128_117, e128_118, e128_121, e128_123, e128_124, e128_125, e128_127, e128_129, e128_130, e128_133, e128_135, e128_136, e128_137, e128_140, e128_143, e128_144, e128_145, e128_146, e128_149, hv.1, es, q_le (show 2 ^ vn V < 2147483648 by omega) (show s < 2147483648 by omega), show ¬ 2 ^ vn V ≤ s by omega, if_false, q_lt0 (show k < 2147483648 by omega), q_cl (show k < 2147483648 by omega), show ¬ 64 ≤ k by omega, or_self, hk30, q_cmple0 hF, hz, m_behind hv hV hk (show s < 64 by omega), q_bs, q_tl, q_cn, q_lt0 (show qD V k s < 2147483648 by omega), q_cl (show qD V k s < 2147483648 by omega), show ¬ 64 ≤ qD V k s by omega, hq (qD V k s) hD, MV_t hv, MV_d hv, m_odds hv hV hk (show s < 64 by omega), lN_mul, lN_add, nI_1]
theorem h_all (hV : vOK V) (x1 x2 x3 : Int32) (m : Nat) {F : Nat → Nat} (hF : ∀ k, k < 64 → F k < 2 ^ 63) : ∀ i k H v6, k + i = 64 → MV H V → (∀ q, q < 64 → hL H 30 q = lN (F q)) → (∀ q, q < 64 → hL H 31 q = lN (fwp (fun k s => qo V (vt V + nI m) (vd V) k s) (qD V) (2 ^ vn V) F k 0 q)) → ∃ H' v', ev 128 70 [.ref 27, .int x1, .int x2, .int x3, .int (nI m), .int (nI k), v6] [] H = ev 128 158 [.ref 27, .int x1, .int x2, .int x3, .int (nI m), .int (nI 64), v'] [] H' ∧ kFr (fun k _ => k = 31) H H' ∧ ∀ q, q < 64 → hL H' 31 q = lN (fw (fun k s => qo V (vt V + nI m) (vd V) k s) (qD V) (2 ^ vn V) F q) := by
  intro i
  induction i with
  | zero =>
    intro k H v6 hk hv h30 h31
    have : k = 64 := by omega
    subst this
    refine ⟨H, v6, ?_, kFr.rf, fun q hq => by rw [← fwp_64]; exact h31 q hq⟩
    rw [e128_70]
    simp only [e128_72, e128_74, show (64 : Int32) = nI 64 from rfl, Std.le_refl, if_true]
  | succ i ih =>
    intro k H v6 hk hv h30 h31
    obtain ⟨H1, y6, e1, f1, g1⟩ := h_sets hV x1 x2 x3 m (show k < 64 by omega) (hF k (by omega)) (2 ^ vn V) 0 H (by omega) hv (h30 k (by omega)) h31
    obtain ⟨H2, v', e2, f2, g2⟩ := ih (k + 1) H1 (.int y6) (by omega) (MV_hC (f1.mono (fun k j z => by unfold hC; omega)) hv) (fun q hq => by rw [(f1 30 q (by omega)).2.1]; exact h30 q hq) g1
    refine ⟨H2, v', ?_, f1.tr f2, g2⟩
    have e7 : ev 128 70 [.ref 27, .int x1, .int x2, .int x3, .int (nI m), .int (nI k), v6] [] H = ev 128 80 [.ref 27, .int x1, .int x2, .int x3, .int (nI m), .int (nI k), .int (nI 0)] [] H := by
      rw [e128_70]
      simp only [e128_72, e128_74, e128_77, e128_78, show (64 : Int32) = nI 64 from rfl, q_le (show 64 < 2147483648 by decide) (show k < 2147483648 by omega), show ¬ 64 ≤ k by omega, if_false]
      rfl
    rw [e7, e1, ← e2]
    simp only [e128_152, e128_155, nI_1]
theorem h_hours (hV : vOK V) {f n : Nat} (hf : f < 64) (hn : n ≤ 3) (x2 : Int32) : ∀ i m H v5 v6, m + i = n → MV H V → (∀ q, q < 64 → hL H 30 q = lN (qFH V f m q)) → ∃ (H' : kH) (y5 y6 : Value), ev 128 37 [.ref 27, .int (nI f), .int x2, .int (nI n), .int (nI m), v5, v6] [] H = ev 128 194 [.ref 27, .int (nI f), .int x2, .int (nI n), .int (nI n), y5, y6] [] H' ∧ kFr hC H H' ∧ ∀ q, q < 64 → hL H' 30 q = lN (qFH V f n q) := by
  intro i
  induction i with
  | zero =>
    intro m H v5 v6 hm hv h30
    have : m = n := by omega
    subst this
    refine ⟨H, v5, v6, ?_, kFr.rf, h30⟩
    rw [e128_37]
    simp only [e128_39, e128_40, Std.le_refl, if_true]
  | succ i ih =>
    intro m H v5 v6 hm hv h30
    obtain ⟨H1, e1, f1, g1⟩ := h_zero (nI f) x2 (nI n) (nI m) v6 64 0 H (by omega) (fun q hq => absurd hq (by omega))
    have v1 : MV H1 V := MV_hC (f1.mono (fun k j z => by unfold hC; omega)) hv
    obtain ⟨H2, y6, e2, f2, g2⟩ := h_all hV (nI f) x2 (nI n) m (F := qFH V f m) (fun k hk => qFH_lt hV hf (show m ≤ 3 by omega) hk) 64 0 H1 v6 (by omega) v1 (fun q hq => by rw [(f1 30 q (by omega)).2.1]; exact h30 q hq) (fun q hq => by rw [fwp_0]; exact g1 q hq)
    have v2 : MV H2 V := MV_hC (f2.mono (fun k j z => by unfold hC; omega)) v1
    obtain ⟨H3, e3, f3, g3⟩ := h_copy (nI f) x2 (nI n) (nI m) y6 64 0 H2 (by omega) g2 (fun q hq => absurd hq (by omega))
    have v3 : MV H3 V := MV_hC (f3.mono (fun k j z => by unfold hC; omega)) v2
    obtain ⟨H4, z5, z6, e4, f4, g4⟩ := ih (m + 1) H3 (.int (nI 64)) y6 (by omega) v3 g3
    refine ⟨H4, z5, z6, ?_, ((((f1.mono (fun k j z => by unfold hC; omega)).tr (f2.mono (fun k j z => by unfold hC; omega))).tr (f3.mono (fun k j z => by unfold hC; omega))).tr f4), g4⟩
    have ea : ev 128 37 [.ref 27, .int (nI f), .int x2, .int (nI n), .int (nI m), v5, v6] [] H = ev 128 46 [.ref 27, .int (nI f), .int x2, .int (nI n), .int (nI m), .int (nI 0), v6] [] H := by
      rw [e128_37]
      simp only [e128_39, e128_40, e128_43, e128_44, q_le (show n < 2147483648 by omega) (show m < 2147483648 by omega), show ¬ n ≤ m by omega, if_false]
      rfl
    have eb : ev 128 67 [.ref 27, .int (nI f), .int x2, .int (nI n), .int (nI m), .int (nI 64), v6] [] H1 = ev 128 70 [.ref 27, .int (nI f), .int x2, .int (nI n), .int (nI m), .int (nI 0), v6] [] H1 := by
      simp only [e128_67, e128_68]
      rfl
    have ec : ev 128 158 [.ref 27, .int (nI f), .int x2, .int (nI n), .int (nI m), .int (nI 64), y6] [] H2 = ev 128 161 [.ref 27, .int (nI f), .int x2, .int (nI n), .int (nI m), .int (nI 0), y6] [] H2 := by
      simp only [e128_158, e128_159]
      rfl
    rw [ea, e1, eb, e2, ec, e3, ← e4]
    simp only [e128_188, e128_191, nI_1]
def hsum (F : Nat → Nat) (l : Nat) : Nat → Nat := nsum (fun q => if q.testBit l = true then F q else 0)
theorem h_sum {F : Nat → Nat} {l : Nat} (hl : l < 6) (x1 x3 : Int32) {H : kH} (h30 : ∀ q, q < 64 → hL H 30 q = lN (F q)) : ∀ i j, j + i = 64 → ev 128 200 [.ref 27, .int x1, .int (nI l), .int x3, .long (lN (hsum F l j)), .null, .int (nI j)] [] H = some (some (.long (lN (hsum F l 64))), H) := by
  intro i
  induction i with
  | zero =>
    intro j hj
    have : j = 64 := by omega
    subst this
    rw [e128_200]
    simp only [e128_202, e128_204, e128_239, e128_241, show (64 : Int32) = nI 64 from rfl, Std.le_refl, if_true]
  | succ i ih =>
    intro j hj
    have eb := (q_bit j (by omega) l hl).2
    rw [← ih (j + 1) (by omega), e128_200]
    have eq : hsum F l (j + 1) = hsum F l j + (if j.testBit l = true then F j else 0) := rfl
    rw [eq]
    cases hb : j.testBit l with
    | true =>
      rw [if_pos rfl]
      simp only [e128_202, e128_204, e128_207, e128_209, e128_211, e128_212, e128_213, e128_214, e128_215, e128_216, e128_219, e128_220, e128_223, e128_225, e128_226, e128_229, e128_230, e128_231, e128_233, e128_236, show (64 : Int32) = nI 64 from rfl, q_le (show 64 < 2147483648 by decide) (show j < 2147483648 by omega), show ¬ 64 ≤ j by omega, if_false, eb, hb, not_true_eq_false, q_lt0 (show j < 2147483648 by omega), q_cl (show j < 2147483648 by omega), or_self, h30 j (by omega), lN_add, nI_1]
    | false =>
      rw [if_neg (by decide)]
      simp only [e128_202, e128_204, e128_207, e128_209, e128_211, e128_212, e128_213, e128_214, e128_215, e128_216, e128_219, e128_220, e128_223, e128_225, e128_226, e128_229, e128_230, e128_231, e128_233, e128_236, show (64 : Int32) = nI 64 from rfl, q_le (show 64 < 2147483648 by decide) (show j < 2147483648 by omega), show ¬ 64 ≤ j by omega, if_false, eb, hb, Bool.false_eq_true, not_false_eq_true, if_true, Int64.add_zero, Nat.add_zero, nI_1]
theorem m_holdsFrom (hV : vOK V) {H : kH} (hv : MV H V) {f l n : Nat} (hf : f < 64) (hl : l < 6) (hn : n ≤ 3) : ∃ H', ev 128 0 [.ref 27, .int (nI f), .int (nI l), .int (nI n), .null, .null, .null] [] H = some (some (.long (lN (qLL V (qbit l) n f))), H') ∧ kFr hC H H' := by
  obtain ⟨H1, e1, f1, g1⟩ := h_init (nI l) (nI n) hf 64 0 H (by omega) (fun q hq => absurd hq (by omega))
  obtain ⟨H2, y5, y6, e2, f2, g2⟩ := h_hours hV hf hn (nI l) n 0 H1 .null .null (by omega) (MV_hC f1 hv) g1
  refine ⟨H2, ?_, f1.tr f2⟩
  have e3 := h_sum hl (nI f) (nI n) g2 64 0 (by omega)
  have e4 : hsum (qFH V f n) l 64 = qLL V (qbit l) n f := qFH_bits hV hf l n
  rw [e4] at e3
  have ea : ev 128 0 [.ref 27, .int (nI f), .int (nI l), .int (nI n), .null, .null, .null] [] H = ev 128 3 [.ref 27, .int (nI f), .int (nI l), .int (nI n), .int (nI 0), .null, .null] [] H := by
    simp only [e128_0, e128_1]
    rfl
  have eb : ev 128 34 [.ref 27, .int (nI f), .int (nI l), .int (nI n), .int (nI 64), .null, .null] [] H1 = ev 128 37 [.ref 27, .int (nI f), .int (nI l), .int (nI n), .int (nI 0), .null, .null] [] H1 := by
    simp only [e128_34, e128_35]
    rfl
  rw [ea, e1, eb, e2, ← e3]
  simp only [e128_194, e128_195, e128_197, e128_198]
  rfl
end KM8
