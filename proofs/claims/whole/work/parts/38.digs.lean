/-! digest -/
/-- 31 times it and each, from j on -/
def dgf (f : Nat → Int64) : Nat → Nat → Int64 → Int64
  | 0, _, h => h
  | i + 1, j, h => dgf f i (j + 1) (31 * h + f j)
def dC (V : kV) (c : Nat) (h : Int64) : Int64 := 31 * (31 * (31 * dgf (fun w => (fAbout V (nI c) (nI w)).toInt64) 5 0 h + fKing V (nI c) 0) + fKing V (nI c) 1) + (fWindow V (nI c)).toInt64
def dCs (V : kV) : Nat → Nat → Int64 → Int64
  | 0, _, h => h
  | i + 1, j, h => dCs V i (j + 1) (dC V j h)
def dL (V : kV) (l : Nat) (h : Int64) : Int64 := 31 * (31 * (31 * h + fHolds V (nI l) 2 0) + fHolds V (nI l) 2 1) + (fSaying V (nI l) 1).toInt64
def dLs (V : kV) : Nat → Nat → Int64 → Int64
  | 0, _, h => h
  | i + 1, j, h => dLs V i (j + 1) (dL V j h)
def fDigest (S : kS) : Int64 :=
  dgf (fun w => (fCount S (nI w)).toInt64) 9 0 (dgf (fun k => (nI (sg S k)).toInt64) (sn S) 0
    (if vn (sV S) = 0 then 31 * dCs (sV S) (vn (sV S)) 0 809 + (nI (vh (sV S))).toInt64
     else 31 * dLs (sV S) 6 0 (31 * dCs (sV S) (vn (sV S)) 0 809 + (nI (vh (sV S))).toInt64) + fFits (sV S)))
section KDI
variable {S : kS}
theorem d_about (ho : sOK S) (c : Nat) {H : kH} (hq : CR H S) : ∀ i j h, j + i = 5 → ev 85 20 [.ref 0, .long h, .null, .int (nI c), .int (nI j)] [] H = ev 85 47 [.ref 0, .long (dgf (fun w => (fAbout (sV S) (nI c) (nI w)).toInt64) i j h), .null, .int (nI c), .int (nI 5)] [] H := by
  intro i
  induction i with
  | zero =>
    intro j h hj
    have : j = 5 := by omega
    subst this
    rw [e85_20]
    simp only [e85_22, e85_23, show (4 : Int32) = nI 4 from rfl, q_lt (show 4 < 2147483648 by decide) (show 5 < 2147483648 by decide), show (4 : Nat) < 5 by decide, if_true, dgf]
  | succ i ih =>
    intro j h hj
    refine Eq.trans ?_ (ih (j + 1) _ (by omega))
    rw [e85_20]
    simp only [e85_22, e85_23, e85_26, e85_29, e85_30, e85_31, e85_32, e85_33, e85_35, e85_38, e85_39, e85_40, e85_41, e85_44, show (4 : Int32) = nI 4 from rfl, q_lt (show 4 < 2147483648 by decide) (show j < 2147483648 by omega), show ¬ 4 < j by omega, if_false, x_about hq ho, q_bs, q_tl, q_cn, nI_1]
theorem d_c (ho : sOK S) {c : Nat} (hc : c < vn (sV S)) {H : kH} (hq : CR H S) (h : Int64) (v : Value) : ∃ H1, ev 85 6 [.ref 0, .long h, .null, .int (nI c), v] [] H = ev 85 6 [.ref 0, .long (dC (sV S) c h), .null, .int (nI (c + 1)), .int (nI 5)] [] H1 ∧ CR H1 S ∧ kFr cC H H1 := by
  have h5 := ho.1.2.1
  obtain ⟨H1, e1, q1, f1⟩ := x_king hq ho (nI c) 0
  obtain ⟨H2, e2, q2, f2⟩ := x_king q1 ho (nI c) 1
  obtain ⟨H3, e3, q3, f3⟩ := x_window q2 ho (nI c)
  refine ⟨H3, ?_, q3, (f1.tr f2).tr f3⟩
  rw [e85_6]
  simp only [e85_7, e85_8, e85_11, e85_14, e85_17, e85_18, c_seats hq.1, q_bs, q_tl, q_cn, q_le (show vn (sV S) < 2147483648 by omega) (show c < 2147483648 by omega), show ¬ vn (sV S) ≤ c by omega, if_false]
  rw [show (0 : Int32) = nI 0 from rfl, d_about ho c hq 5 0 h (by omega)]
  simp only [e85_47, e85_50, e85_51, e85_52, e85_53, e85_54, e85_55, e85_58, e85_59, e85_60, e85_63, e85_64, e85_65, e85_66, e85_67, e85_68, e85_71, e85_72, e85_73, e85_76, e85_77, e85_78, e85_79, e85_80, e85_83, e85_84, e85_85, e85_86, e85_89, e1, e2, e3, q_bs, q_tl, q_cn, nI_1]
  rfl
theorem d_cs (ho : sOK S) : ∀ i j h v H, CR H S → j + i = vn (sV S) → ∃ H1 v1, ev 85 6 [.ref 0, .long h, .null, .int (nI j), v] [] H = ev 85 92 [.ref 0, .long (dCs (sV S) i j h), .null, .int (nI (vn (sV S))), v1] [] H1 ∧ CR H1 S ∧ kFr cC H H1 := by
  have h5 := ho.1.2.1
  intro i
  induction i with
  | zero =>
    intro j h v H hq hj
    have : j = vn (sV S) := by omega
    subst this
    refine ⟨H, v, ?_, hq, kFr.rf⟩
    rw [e85_6]
    simp only [e85_7, e85_8, e85_11, e85_14, c_seats hq.1, q_bs, q_tl, q_cn, Std.le_refl, if_true, dCs]
  | succ i ih =>
    intro j h v H hq hj
    obtain ⟨H1, e1, q1, f1⟩ := d_c ho (show j < vn (sV S) by omega) hq h v
    obtain ⟨H2, v2, e2, q2, f2⟩ := ih (j + 1) _ _ H1 q1 (by omega)
    exact ⟨H2, v2, by rw [e1, e2]; rfl, q2, f1.tr f2⟩
theorem d_l (ho : sOK S) {l : Nat} (hl : l < 6) {H : kH} (hq : CR H S) (h : Int64) (v : Value) : ∃ H1, ev 85 116 [.ref 0, .long h, .null, .int (nI l), v] [] H = ev 85 116 [.ref 0, .long (dL (sV S) l h), .null, .int (nI (l + 1)), v] [] H1 ∧ CR H1 S ∧ kFr cC H H1 := by
  obtain ⟨H1, e1, q1, f1⟩ := x_holds hq ho (nI l) 2 0
  obtain ⟨H2, e2, q2, f2⟩ := x_holds q1 ho (nI l) 2 1
  obtain ⟨H3, e3, q3, f3⟩ := x_saying q2 ho (nI l) 1
  refine ⟨H3, ?_, q3, (f1.tr f2).tr f3⟩
  rw [e85_116]
  have e6 : ((6 : Int32) ≤ nI l) = False := by
    rw [show (6 : Int32) = nI 6 from rfl, q_le (by decide) (by omega)]
    exact eq_false (by omega)
  simp only [e85_117, e85_119, e85_122, e85_125, e85_126, e85_127, e85_128, e85_129, e85_130, e85_131, e85_134, e85_135, e85_136, e85_139, e85_140, e85_141, e85_142, e85_143, e85_144, e85_145, e85_148, e85_149, e85_150, e85_153, e85_154, e85_155, e85_156, e85_157, e85_158, e85_161, e85_162, e85_163, e85_164, e85_167, e6, if_false, e1, e2, e3, q_bs, q_tl, q_cn, nI_1]
  rfl
theorem d_ls (ho : sOK S) : ∀ i j h v H, CR H S → j + i = 6 → ∃ H1 v1, ev 85 116 [.ref 0, .long h, .null, .int (nI j), v] [] H = ev 85 170 [.ref 0, .long (dLs (sV S) i j h), .null, .int (nI 6), v1] [] H1 ∧ CR H1 S ∧ kFr cC H H1 := by
  intro i
  induction i with
  | zero =>
    intro j h v H hq hj
    have : j = 6 := by omega
    subst this
    refine ⟨H, v, ?_, hq, kFr.rf⟩
    rw [e85_116]
    simp only [e85_117, e85_119, show (6 : Int32) = nI 6 from rfl, Std.le_refl, if_true, dLs]
  | succ i ih =>
    intro j h v H hq hj
    obtain ⟨H1, e1, q1, f1⟩ := d_l ho (show j < 6 by omega) hq h v
    obtain ⟨H2, v2, e2, q2, f2⟩ := ih (j + 1) _ _ H1 q1 (by omega)
    exact ⟨H2, v2, by rw [e1, e2]; rfl, q2, f1.tr f2⟩
theorem d_page {H : kH} (hq : CR H S) (v : Value) : ∀ i j h, j + i = sn S → ev 85 183 [.ref 0, .long h, .null, .int (nI j), v] [] H = ev 85 216 [.ref 0, .long (dgf (fun k => (nI (sg S k)).toInt64) i j h), .null, .int (nI (sn S)), v] [] H := by
  have hP := hq.2.1
  have h20 := hP.2.1
  have e29 : ev 29 0 [.ref 3] [] H = some (some (.int (nI (sn S))), H) := by simp only [e29_0, e29_1, e29_4, hP.1]
  intro i
  induction i with
  | zero =>
    intro j h hj
    have : j = sn S := by omega
    subst this
    rw [e85_183]
    simp only [e85_184, e85_185, e85_188, e85_191, e29, q_bs, q_tl, q_cn, Std.le_refl, if_true, dgf]
  | succ i ih =>
    intro j h hj
    refine Eq.trans ?_ (ih (j + 1) _ (by omega))
    rw [e85_183]
    simp only [e85_184, e85_185, e85_188, e85_191, e85_194, e85_197, e85_198, e85_199, e85_200, e85_203, e85_204, e85_207, e85_208, e85_209, e85_210, e85_213, e29, c_codeAt hP (show j < sn S by omega), q_le (show sn S < 2147483648 by omega) (show j < 2147483648 by omega), show ¬ sn S ≤ j by omega, if_false, q_bs, q_tl, q_cn, nI_1]
theorem d_count (ho : sOK S) {H : kH} (hq : CR H S) (v : Value) : ∀ i j h, j + i = 9 → ev 85 218 [.ref 0, .long h, .null, .int (nI j), v] [] H = some (some (.long (dgf (fun w => (fCount S (nI w)).toInt64) i j h)), H) := by
  intro i
  induction i with
  | zero =>
    intro j h hj
    have : j = 9 := by omega
    subst this
    rw [e85_218]
    simp only [e85_219, e85_221, e85_243, e85_244, show (8 : Int32) = nI 8 from rfl, q_lt (show 8 < 2147483648 by decide) (show 9 < 2147483648 by decide), show (8 : Nat) < 9 by decide, if_true, dgf]
  | succ i ih =>
    intro j h hj
    refine Eq.trans ?_ (ih (j + 1) _ (by omega))
    rw [e85_218]
    simp only [e85_219, e85_221, e85_224, e85_227, e85_228, e85_229, e85_230, e85_231, e85_234, e85_235, e85_236, e85_237, e85_240, show (8 : Int32) = nI 8 from rfl, q_lt (show 8 < 2147483648 by decide) (show j < 2147483648 by omega), show ¬ 8 < j by omega, if_false, x_count hq ho, q_bs, q_tl, q_cn, nI_1]
theorem x_digest {H : kH} (hq : CR H S) (ho : sOK S) : ∃ H1, ev 85 0 [.ref 0, .null, .null, .null, .null] [] H = some (some (.long (fDigest S)), H1) ∧ CR H1 S ∧ kFr cC H H1 := by
  have h5 := ho.1.2.1
  obtain ⟨H1, v1, e1, q1, f1⟩ := d_cs ho (vn (sV S)) 0 809 .null H hq (by omega)
  unfold fDigest
  have hd : ∀ (H : kH) (h : Int64) (c : Int32) (v : Value), CR H S → ev 85 181 [.ref 0, .long h, .null, .int c, v] [] H = some (some (.long (dgf (fun w => (fCount S (nI w)).toInt64) 9 0 (dgf (fun k => (nI (sg S k)).toInt64) (sn S) 0 h))), H) := by
    intro H h c v hq
    simp only [e85_181, e85_182]
    rw [show (0 : Int32) = nI 0 from rfl, d_page hq v (sn S) 0 h (by omega)]
    simp only [e85_216, e85_217]
    rw [show (0 : Int32) = nI 0 from rfl, d_count ho hq v 9 0 _ (by omega)]
  have es : ev 85 0 [.ref 0, .null, .null, .null, .null] [] H = ev 85 92 [.ref 0, .long (dCs (sV S) (vn (sV S)) 0 809), .null, .int (nI (vn (sV S))), v1] [] H1 := by
    rw [← e1]
    simp only [e85_0, e85_3, e85_4, e85_5]
    rfl
  rw [es]
  by_cases h0 : vn (sV S) = 0
  · rw [if_pos h0]
    refine ⟨H1, ?_, q1, f1⟩
    simp only [e85_92, e85_95, e85_96, e85_97, e85_98, e85_101, e85_102, e85_103, e85_104, e85_105, e85_108, e85_111, x_laws q1, c_seats q1.1, q_bs, q_tl, q_cn, h0, show (nI 0 ≤ (0 : Int32)) = True from eq_true (by decide), if_true]
    exact hd H1 _ _ _ q1
  · rw [if_neg h0]
    obtain ⟨H2, v2, e2, q2, f2⟩ := d_ls ho 6 0 (31 * dCs (sV S) (vn (sV S)) 0 809 + (nI (vh (sV S))).toInt64) v1 H1 q1 (by omega)
    obtain ⟨H3, e3, q3, f3⟩ := x_fits q2 ho
    refine ⟨H3, ?_, q3, (f1.tr f2).tr f3⟩
    have ea : ev 85 92 [.ref 0, .long (dCs (sV S) (vn (sV S)) 0 809), .null, .int (nI (vn (sV S))), v1] [] H1 = ev 85 116 [.ref 0, .long (31 * dCs (sV S) (vn (sV S)) 0 809 + (nI (vh (sV S))).toInt64), .null, .int (nI 0), v1] [] H1 := by
      simp only [e85_92, e85_95, e85_96, e85_97, e85_98, e85_101, e85_102, e85_103, e85_104, e85_105, e85_108, e85_111, e85_114, e85_115, x_laws q1, c_seats q1.1, q_bs, q_tl, q_cn, q_le0 (show vn (sV S) < 2147483648 by omega), h0, if_false]
      rfl
    rw [ea, e2]
    simp only [e85_170, e85_173, e85_174, e85_175, e85_176, e85_179, e85_180, e3, q_bs, q_tl, q_cn]
    exact hd H3 _ _ _ q3
end KDI
