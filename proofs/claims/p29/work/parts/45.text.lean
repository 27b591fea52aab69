/-! a council's text: councilText(), write() -/
def kL (k : Nat) : Nat := if k = 0 then 112 else if k = 1 then 115 else if k = 2 then 102 else if k = 3 then 100 else 99
/-- the letters -/
def gT (kd no la : Nat → Nat) (q : Nat) : Nat := if q % 4 = 0 then kL (kd (q / 4)) else if q % 4 = 1 then 48 + no (q / 4) else if q % 4 = 2 then 48 + la (q / 4) else 44
def tc (H : kH) (j : Nat) : kH := if j = 0 then H else uI H 29 (4 * j - 1) 44
theorem hI_tc (H : kH) (j a b : Nat) : hI (tc H j) a b = if 0 < j ∧ a = 29 ∧ b = 4 * j - 1 then 44 else hI H a b := by
  unfold tc
  by_cases h : j = 0
  · rw [if_pos h, if_neg (by omega)]
  · rw [if_neg h, hI_uI]
    by_cases h2 : a = 29 ∧ b = 4 * j - 1
    · rw [if_pos h2, if_pos ⟨by omega, h2⟩]
    · rw [if_neg h2, if_neg (fun z => h2 z.2)]
theorem kFr_tc (H : kH) (j : Nat) : kFr (fun k _ => 27 ≤ k ∧ k ≤ 29) H (tc H j) := by
  unfold tc
  split
  · exact kFr.rf
  · exact kFr_uI (by omega)
section LWT
variable {L : Nat} {xs : Nat → Int32}
theorem kSc_lo {H H' : kH} (hf : kFr (fun k _ => 27 ≤ k ∧ k ≤ 29) H H') (h : kSc L xs H) : kSc L xs H' := ⟨fun j => ((hf 38 j (by omega)).1).trans (h.1 j), ((hf 41 0 (by omega)).1).trans h.2.1, h.2.2⟩
theorem t_A {H : kH} (hX : kSc L xs H) {n j : Nat} (hn : hI H 27 5 = nI n) (h5 : n ≤ 5) (hj : j < n) (x6 : Int32) (v8 : Value) : ∃ y v w, ev 72 50 [.ref 38, .int 0, .int 5, .ref 27, .ref 28, .ref 29, .int x6, .int (nI j), v8] [] H = ev 72 125 [.ref 38, .int 0, .int 5, .ref 27, .ref 28, .ref 29, .int x6, .int (nI j), .int y] [] (uI (uI H 27 j (nI v)) 28 j (nI w)) ∧ v < 5 ∧ w ≤ 9 := by
  have hidx : (0 : Int32) + 1 + (nI j - nI j / 3 * 3) = nI (1 + j % 3) := by
    rw [show (3 : Int32) = nI 3 from rfl, pk_rem (a := j) (d := 3) (by omega) (by decide) (by decide), show (0 : Int32) + 1 = nI 1 from rfl, q_add]
  obtain ⟨c, hc⟩ := y_cell hX (k := 1 + j % 3) (by omega)
  obtain ⟨y, ey⟩ : ∃ y, y = c >>> (12 * (nI j / 3) &&& 31) := ⟨_, rfl⟩
  obtain ⟨v, ev1⟩ : ∃ v, v = aT y 5 := ⟨_, rfl⟩
  have a5 : ev 71 0 [.int y, .int 5] [] H = some (some (.int (nI v)), H) := by rw [ev1]; exact y_at y (m := 5) (by decide) (by decide) H
  have hX1 : kSc L xs (uI H 27 j (nI v)) := kSc_uI hX (by decide)
  obtain ⟨c0, hc0⟩ := y_cell hX1 (k := 0) (by decide)
  have hc0 : ev 70 0 [.ref 38, .int 0] [] (uI H 27 j (nI v)) = some (some (.int c0), uI H 27 j (nI v)) := hc0
  obtain ⟨z, ez⟩ : ∃ z, z = aT (c0 >>> (3 + nI j &&& 31)) 2 := ⟨_, rfl⟩
  have a2 : ev 71 0 [.int (c0 >>> (3 + nI j &&& 31)), .int 2] [] (uI H 27 j (nI v)) = some (some (.int (nI z)), uI H 27 j (nI v)) := by rw [ez]; exact y_at _ (m := 2) (by decide) (by decide) _
  have hz2 : z < 2 := by rw [ez]; exact aT_lt _ (by decide)
  have h3 : ((3 : Int32) = 0) = False := eq_false (by decide)
  have hle : ¬ n ≤ j := by omega
  by_cases hz : z = 0
  · have a10 := y_at (y >>> (3 &&& 31)) (m := 10) (by decide) (by decide) (uI H 27 j (nI v))
    have a10 : ev 71 0 [.int (y >>> (3 &&& 31)), .int 10] [] (uI H 27 j (nI v)) = _ := a10
    refine ⟨y, v, aT (y >>> (3 &&& 31)) 10, ?_, by rw [ev1]; exact aT_lt _ (by decide), by have := aT_lt (y >>> (3 &&& 31)) (m := 10) (by decide); omega⟩
    rw [e72_50]
    simp only [e72_52, e72_53, e72_54, e72_55, e72_58, e72_59, e72_60, e72_61, e72_62, e72_64, e72_65, e72_66, e72_67, e72_70, e72_72, e72_74, e72_75, e72_76, e72_77, e72_78, e72_80, e72_81, e72_83, e72_85, e72_86, e72_89, e72_90, e72_92, e72_94, e72_96, e72_97, e72_98, e72_99, e72_100, e72_103, e72_104, e72_106, e72_107, e72_108, e72_109, e72_112, e72_115, e72_117, e72_120, e72_121, e72_124, zb5, nb5, cx5, or_self, if_false, hn, q_le (show n < 2147483648 by omega) (show j < 2147483648 by omega), hle, h3, hidx, hc, q_bs, q_tl, q_cn, ← ey, a5, q_lt0 (show j < 2147483648 by omega), q_cl (show j < 2147483648 by omega), show ¬ 6 ≤ j by omega, hc0, a2, (q_n0' (n := z) (by omega)).trans (eq_true hz), not_true_eq_false, a10, show ¬ 19 ≤ j by omega]
  · have a4 := y_at (y >>> (3 &&& 31)) (m := 4) (by decide) (by decide) (uI H 27 j (nI v))
    have a4 : ev 71 0 [.int (y >>> (3 &&& 31)), .int 4] [] (uI H 27 j (nI v)) = _ := a4
    refine ⟨y, v, aT (y >>> (3 &&& 31)) 4, ?_, by rw [ev1]; exact aT_lt _ (by decide), by have := aT_lt (y >>> (3 &&& 31)) (m := 4) (by decide); omega⟩
    rw [e72_50]
    simp only [e72_52, e72_53, e72_54, e72_55, e72_58, e72_59, e72_60, e72_61, e72_62, e72_64, e72_65, e72_66, e72_67, e72_70, e72_72, e72_74, e72_75, e72_76, e72_77, e72_78, e72_80, e72_81, e72_83, e72_85, e72_86, e72_89, e72_90, e72_92, e72_94, e72_96, e72_97, e72_98, e72_99, e72_100, e72_103, e72_104, e72_106, e72_107, e72_108, e72_109, e72_112, e72_115, e72_117, e72_120, e72_121, e72_124, zb5, nb5, cx5, or_self, if_false, hn, q_le (show n < 2147483648 by omega) (show j < 2147483648 by omega), hle, h3, hidx, hc, q_bs, q_tl, q_cn, ← ey, a5, q_lt0 (show j < 2147483648 by omega), q_cl (show j < 2147483648 by omega), show ¬ 6 ≤ j by omega, hc0, a2, (q_n0' (n := z) (by omega)).trans (eq_false hz), not_false_eq_true, if_true, a4, show ¬ 19 ≤ j by omega]
theorem t_B {H : kH} {j : Nat} (hj : j < 5) (x6 y : Int32) : ∃ u, ev 72 125 [.ref 38, .int 0, .int 5, .ref 27, .ref 28, .ref 29, .int x6, .int (nI j), .int y] [] H = ev 72 142 [.ref 38, .int 0, .int 5, .ref 27, .ref 28, .ref 29, .int x6, .int (nI j), .int y] [] (uI H 28 (5 + j) (nI u)) ∧ u < 6 := by
  have a6 := y_at (y >>> (7 &&& 31)) (m := 6) (by decide) (by decide) H
  have a6 : ev 71 0 [.int (y >>> (7 &&& 31)), .int 6] [] H = _ := a6
  refine ⟨aT (y >>> (7 &&& 31)) 6, ?_, aT_lt _ (by decide)⟩
  simp only [e72_125, e72_127, e72_128, e72_130, e72_131, e72_133, e72_135, e72_136, e72_138, e72_141, show (5 : Int32) + nI j = nI (5 + j) from q_add 5 j, a6, q_bs, q_tl, q_cn, q_lt0 (show 5 + j < 2147483648 by omega), q_cl (show 5 + j < 2147483648 by omega), show ¬ 19 ≤ 5 + j by omega, or_self, if_false]
theorem t_C {H : kH} {j : Nat} (hj : j < 5) (y : Int32) : ev 72 142 [.ref 38, .int 0, .int 5, .ref 27, .ref 28, .ref 29, .int (nI (4 * j - 1)), .int (nI j), .int y] [] H = ev 72 157 [.ref 38, .int 0, .int 5, .ref 27, .ref 28, .ref 29, .int (nI (4 * j)), .int (nI j), .int y] [] (tc H j) := by
  unfold tc
  by_cases h : j = 0
  · subst h
    simp only [e72_142, e72_144, show (nI 0 ≤ (0 : Int32)) = True from eq_true (by decide), if_true]
  · have hp : 4 * j - 1 + 1 = 4 * j := by omega
    simp only [e72_142, e72_144, e72_147, e72_149, e72_151, e72_154, e72_156, q_le0 (show j < 2147483648 by omega), h, if_false, q_lt0 (show 4 * j - 1 < 2147483648 by omega), q_cl (show 4 * j - 1 < 2147483648 by omega), show ¬ 20 ≤ 4 * j - 1 by omega, or_self, nI_1, hp]
theorem t_D {H : kH} {j p v : Nat} (hj : j < 5) (hv : v < 5) (hI27 : hI H 27 j = nI v) (hp : p < 20) (y : Int32) : ev 72 157 [.ref 38, .int 0, .int 5, .ref 27, .ref 28, .ref 29, .int (nI p), .int (nI j), .int y] [] H = ev 72 218 [.ref 38, .int 0, .int 5, .ref 27, .ref 28, .ref 29, .int (nI (p + 1)), .int (nI j), .int y] [] (uI H 29 p (nI (kL v))) := by
  have l6 : ¬ 6 ≤ j := by omega
  have l20 : ¬ 20 ≤ p := by omega
  rcases (show v = 0 ∨ v = 1 ∨ v = 2 ∨ v = 3 ∨ v = 4 by omega) with rfl | rfl | rfl | rfl | rfl
  · simp only [e72_157, e72_159, e72_161, e72_164, e72_165, e72_167, e72_168, e72_171, e72_173, e72_176, e72_177, e72_179, e72_180, e72_181, e72_184, e72_186, e72_189, e72_190, e72_192, e72_193, e72_194, e72_197, e72_199, e72_202, e72_203, e72_205, e72_206, e72_207, e72_210, e72_212, e72_215, e72_217, q_lt0 (show j < 2147483648 by omega), q_cl (show j < 2147483648 by omega), q_lt0 (show p < 2147483648 by omega), q_cl (show p < 2147483648 by omega), l6, l20, or_self, if_false, hI27, show (nI 0 = (0 : Int32)) = True from eq_true rfl, not_true_eq_false, nI_1]
    rfl
  · simp only [e72_157, e72_159, e72_161, e72_164, e72_165, e72_167, e72_168, e72_171, e72_173, e72_176, e72_177, e72_179, e72_180, e72_181, e72_184, e72_186, e72_189, e72_190, e72_192, e72_193, e72_194, e72_197, e72_199, e72_202, e72_203, e72_205, e72_206, e72_207, e72_210, e72_212, e72_215, e72_217, q_lt0 (show j < 2147483648 by omega), q_cl (show j < 2147483648 by omega), q_lt0 (show p < 2147483648 by omega), q_cl (show p < 2147483648 by omega), l6, l20, or_self, if_false, hI27, show (nI 1 = (0 : Int32)) = False from eq_false (by decide), show (nI 1 = (1 : Int32)) = True from eq_true rfl, not_true_eq_false, not_false_eq_true, if_true, nI_1]
    rfl
  · simp only [e72_157, e72_159, e72_161, e72_164, e72_165, e72_167, e72_168, e72_171, e72_173, e72_176, e72_177, e72_179, e72_180, e72_181, e72_184, e72_186, e72_189, e72_190, e72_192, e72_193, e72_194, e72_197, e72_199, e72_202, e72_203, e72_205, e72_206, e72_207, e72_210, e72_212, e72_215, e72_217, q_lt0 (show j < 2147483648 by omega), q_cl (show j < 2147483648 by omega), q_lt0 (show p < 2147483648 by omega), q_cl (show p < 2147483648 by omega), l6, l20, or_self, if_false, hI27, show (nI 2 = (0 : Int32)) = False from eq_false (by decide), show (nI 2 = (1 : Int32)) = False from eq_false (by decide), show (nI 2 = (2 : Int32)) = True from eq_true rfl, not_true_eq_false, not_false_eq_true, if_true, nI_1]
    rfl
  · simp only [e72_157, e72_159, e72_161, e72_164, e72_165, e72_167, e72_168, e72_171, e72_173, e72_176, e72_177, e72_179, e72_180, e72_181, e72_184, e72_186, e72_189, e72_190, e72_192, e72_193, e72_194, e72_197, e72_199, e72_202, e72_203, e72_205, e72_206, e72_207, e72_210, e72_212, e72_215, e72_217, q_lt0 (show j < 2147483648 by omega), q_cl (show j < 2147483648 by omega), q_lt0 (show p < 2147483648 by omega), q_cl (show p < 2147483648 by omega), l6, l20, or_self, if_false, hI27, show (nI 3 = (0 : Int32)) = False from eq_false (by decide), show (nI 3 = (1 : Int32)) = False from eq_false (by decide), show (nI 3 = (2 : Int32)) = False from eq_false (by decide), show (nI 3 = (3 : Int32)) = True from eq_true rfl, not_true_eq_false, not_false_eq_true, if_true, nI_1]
    rfl
  · simp only [e72_157, e72_159, e72_161, e72_164, e72_165, e72_167, e72_168, e72_171, e72_173, e72_176, e72_177, e72_179, e72_180, e72_181, e72_184, e72_186, e72_189, e72_190, e72_192, e72_193, e72_194, e72_197, e72_199, e72_202, e72_203, e72_205, e72_206, e72_207, e72_210, e72_212, e72_215, e72_217, q_lt0 (show j < 2147483648 by omega), q_cl (show j < 2147483648 by omega), q_lt0 (show p < 2147483648 by omega), q_cl (show p < 2147483648 by omega), l6, l20, or_self, if_false, hI27, show (nI 4 = (0 : Int32)) = False from eq_false (by decide), show (nI 4 = (1 : Int32)) = False from eq_false (by decide), show (nI 4 = (2 : Int32)) = False from eq_false (by decide), show (nI 4 = (3 : Int32)) = False from eq_false (by decide), not_false_eq_true, if_true, nI_1]
    rfl
theorem t_E {H : kH} {j p w u : Nat} (hj : j < 5) (hw : hI H 28 j = nI w) (hu : hI H 28 (5 + j) = nI u) (hp : p + 1 < 20) (y : Int32) : ev 72 218 [.ref 38, .int 0, .int 5, .ref 27, .ref 28, .ref 29, .int (nI p), .int (nI j), .int y] [] H = ev 72 50 [.ref 38, .int 0, .int 5, .ref 27, .ref 28, .ref 29, .int (nI (p + 2)), .int (nI (j + 1)), .int y] [] (uI (uI H 29 p (nI (48 + w))) 29 (p + 1) (nI (48 + u))) := by
  have e5 : (5 : Int32) + nI j = nI (5 + j) := q_add 5 j
  have e48 : ∀ a : Nat, (48 : Int32) + nI a = nI (48 + a) := fun a => q_add 48 a
  have g : ∀ x, hI (uI H 29 p x) 28 (5 + j) = nI u := fun x => by rw [hI_uIn (by omega)]; exact hu
  simp only [e72_218, e72_220, e72_222, e72_225, e72_227, e72_229, e72_231, e72_232, e72_233, e72_234, e72_236, e72_238, e72_241, e72_243, e72_245, e72_246, e72_248, e72_249, e72_250, e72_251, e72_252, e72_255, q_lt0 (show j < 2147483648 by omega), q_cl (show j < 2147483648 by omega), q_lt0 (show 5 + j < 2147483648 by omega), q_cl (show 5 + j < 2147483648 by omega), q_lt0 (show p < 2147483648 by omega), q_cl (show p < 2147483648 by omega), q_lt0 (show p + 1 < 2147483648 by omega), q_cl (show p + 1 < 2147483648 by omega), show ¬ 19 ≤ j by omega, show ¬ 19 ≤ 5 + j by omega, show ¬ 20 ≤ p by omega, show ¬ 20 ≤ p + 1 by omega, or_self, if_false, nI_1, e5, e48, hw, g]
/-- b, d and t behind j councillors -/
def tI (H : kH) (n j : Nat) (kd no la : Nat → Nat) : Prop := hI H 27 5 = nI n ∧ (∀ c, c < j → hI H 27 c = nI (kd c) ∧ kd c < 5) ∧ (∀ c, c < j → hI H 28 c = nI (no c) ∧ no c ≤ 9) ∧ (∀ c, c < j → hI H 28 (5 + c) = nI (la c) ∧ la c < 6) ∧ (∀ q, 10 ≤ q → q < 19 → hI H 28 q = if q = 15 then -1 else 0) ∧ ∀ q, q < 4 * j - 1 → hI H 29 q = nI (gT kd no la q)
theorem gT_cong {kd no la kd' no' la' : Nat → Nat} {q : Nat} (h1 : kd (q / 4) = kd' (q / 4)) (h2 : no (q / 4) = no' (q / 4)) (h3 : la (q / 4) = la' (q / 4)) : gT kd no la q = gT kd' no' la' q := by
  unfold gT
  rw [h1, h2, h3]
theorem t_step {H : kH} (hX : kSc L xs H) {n j : Nat} {kd no la : Nat → Nat} (h5 : n ≤ 5) (hj : j < n) (h : tI H n j kd no la) (v8 : Value) : ∃ H1 y kd1 no1 la1, ev 72 50 [.ref 38, .int 0, .int 5, .ref 27, .ref 28, .ref 29, .int (nI (4 * j - 1)), .int (nI j), v8] [] H = ev 72 50 [.ref 38, .int 0, .int 5, .ref 27, .ref 28, .ref 29, .int (nI (4 * (j + 1) - 1)), .int (nI (j + 1)), .int y] [] H1 ∧ tI H1 n (j + 1) kd1 no1 la1 ∧ kFr (fun k _ => 27 ≤ k ∧ k ≤ 29) H H1 := by
  obtain ⟨h1, h2, h3, h4, h6, h7⟩ := h
  obtain ⟨y, v, w, eA, hv, hw⟩ := t_A hX h1 h5 hj (nI (4 * j - 1)) v8
  obtain ⟨u, eB, hu⟩ := t_B (H := uI (uI H 27 j (nI v)) 28 j (nI w)) (j := j) (by omega) (nI (4 * j - 1)) y
  have eC := t_C (H := uI (uI (uI H 27 j (nI v)) 28 j (nI w)) 28 (5 + j) (nI u)) (j := j) (by omega) y
  obtain ⟨H3, eH3⟩ : ∃ H3, H3 = tc (uI (uI (uI H 27 j (nI v)) 28 j (nI w)) 28 (5 + j) (nI u)) j := ⟨_, rfl⟩
  rw [← eH3] at eC
  have g : ∀ a b, hI H3 a b = if 0 < j ∧ a = 29 ∧ b = 4 * j - 1 then 44 else if a = 28 ∧ b = 5 + j then nI u else if a = 28 ∧ b = j then nI w else if a = 27 ∧ b = j then nI v else hI H a b := fun a b => by
    rw [eH3, hI_tc, hI_uI, hI_uI, hI_uI]
  have g27 : hI H3 27 j = nI v := by rw [g, if_neg (by omega), if_neg (by omega), if_neg (by omega), if_pos ⟨rfl, rfl⟩]
  have g28 : hI H3 28 j = nI w := by rw [g, if_neg (by omega), if_neg (by omega), if_pos ⟨rfl, rfl⟩]
  have g28b : hI H3 28 (5 + j) = nI u := by rw [g, if_neg (by omega), if_pos ⟨rfl, rfl⟩]
  have eD := t_D (j := j) (p := 4 * j) (by omega) hv g27 (by omega) y
  have eE := t_E (H := uI H3 29 (4 * j) (nI (kL v))) (j := j) (p := 4 * j + 1) (w := w) (u := u) (by omega) (by rw [hI_uIn (by omega)]; exact g28) (by rw [hI_uIn (by omega)]; exact g28b) (by omega) y
  obtain ⟨H4, eH4⟩ : ∃ H4, H4 = uI (uI (uI H3 29 (4 * j) (nI (kL v))) 29 (4 * j + 1) (nI (48 + w))) 29 (4 * j + 1 + 1) (nI (48 + u)) := ⟨_, rfl⟩
  rw [← eH4] at eE
  have k : ∀ a b, hI H4 a b = if a = 29 ∧ b = 4 * j + 2 then nI (48 + u) else if a = 29 ∧ b = 4 * j + 1 then nI (48 + w) else if a = 29 ∧ b = 4 * j then nI (kL v) else hI H3 a b := fun a b => by
    rw [eH4, hI_uI, hI_uI, hI_uI]
  have f3 : kFr (fun k _ => 27 ≤ k ∧ k ≤ 29) H H3 := by
    rw [eH3]
    exact (((kFr_uI (by omega)).tr (kFr_uI (by omega))).tr (kFr_uI (by omega))).tr (kFr_tc _ _)
  have f4 : kFr (fun k _ => 27 ≤ k ∧ k ≤ 29) H H4 := by
    rw [eH4]
    exact ((f3.tr (kFr_uI (by omega))).tr (kFr_uI (by omega))).tr (kFr_uI (by omega))
  refine ⟨H4, y, fu kd j v, fu no j w, fu la j u, ?_, ⟨?_, fun c hc => ?_, fun c hc => ?_, fun c hc => ?_, fun q hq1 hq2 => ?_, fun q hq => ?_⟩, f4⟩
  · rw [eA, eB, eC, eD, eE, show 4 * j + 1 + 2 = 4 * (j + 1) - 1 by omega]
  · rw [k, if_neg (by omega), if_neg (by omega), if_neg (by omega), g, if_neg (by omega), if_neg (by omega), if_neg (by omega), if_neg (by omega)]
    exact h1
  · rw [k, if_neg (by omega), if_neg (by omega), if_neg (by omega)]
    by_cases e : c = j
    · subst e
      rw [g27, fu_s]
      exact ⟨rfl, hv⟩
    · rw [g, if_neg (by omega), if_neg (by omega), if_neg (by omega), if_neg (by omega), fu_n e]
      exact h2 c (by omega)
  · rw [k, if_neg (by omega), if_neg (by omega), if_neg (by omega)]
    by_cases e : c = j
    · subst e
      rw [g28, fu_s]
      exact ⟨rfl, hw⟩
    · rw [g, if_neg (by omega), if_neg (by omega), if_neg (by omega), if_neg (by omega), fu_n e]
      exact h3 c (by omega)
  · rw [k, if_neg (by omega), if_neg (by omega), if_neg (by omega)]
    by_cases e : c = j
    · subst e
      rw [g28b, fu_s]
      exact ⟨rfl, hu⟩
    · rw [g, if_neg (by omega), if_neg (by omega), if_neg (by omega), if_neg (by omega), fu_n e]
      exact h4 c (by omega)
  · rw [k, if_neg (by omega), if_neg (by omega), if_neg (by omega), g, if_neg (by omega), if_neg (by omega), if_neg (by omega), if_neg (by omega)]
    exact h6 q hq1 hq2
  · rw [k]
    by_cases q2 : q = 4 * j + 2
    · subst q2
      rw [if_pos ⟨rfl, rfl⟩]
      unfold gT
      rw [if_neg (by omega), if_neg (by omega), if_pos (by omega), show (4 * j + 2) / 4 = j by omega, fu_s]
    by_cases q1 : q = 4 * j + 1
    · subst q1
      rw [if_neg (by omega), if_pos ⟨rfl, rfl⟩]
      unfold gT
      rw [if_neg (by omega), if_pos (by omega), show (4 * j + 1) / 4 = j by omega, fu_s]
    by_cases q0 : q = 4 * j
    · subst q0
      rw [if_neg (by omega), if_neg (by omega), if_pos ⟨rfl, rfl⟩]
      unfold gT
      rw [if_pos (by omega), show (4 * j) / 4 = j by omega, fu_s]
    rw [if_neg (by omega), if_neg (by omega), if_neg (by omega), g]
    by_cases q3 : 0 < j ∧ q = 4 * j - 1
    · rw [if_pos ⟨q3.1, rfl, q3.2⟩]
      unfold gT
      rw [if_neg (by omega), if_neg (by omega), if_neg (by omega)]
      rfl
    · have hq4 : q < 4 * j - 1 := by omega
      have hd : q / 4 ≠ j := by omega
      rw [if_neg (by omega), if_neg (by omega), if_neg (by omega), if_neg (by omega), h7 q hq4]
      exact congrArg nI (gT_cong (fu_n hd).symm (fu_n hd).symm (fu_n hd).symm)
theorem l_text {n : Nat} (h5 : n ≤ 5) : ∀ i j v8 H kd no la, kSc L xs H → j + i = n → tI H n j kd no la → ∃ H1 w8 kd1 no1 la1, ev 72 50 [.ref 38, .int 0, .int 5, .ref 27, .ref 28, .ref 29, .int (nI (4 * j - 1)), .int (nI j), v8] [] H = ev 72 258 [.ref 38, .int 0, .int 5, .ref 27, .ref 28, .ref 29, .int (nI (4 * n - 1)), .int (nI n), w8] [] H1 ∧ tI H1 n n kd1 no1 la1 ∧ kFr (fun k _ => 27 ≤ k ∧ k ≤ 29) H H1 := by
  intro i
  induction i with
  | zero =>
    intro j v8 H kd no la hX hj h
    have : j = n := by omega
    subst this
    refine ⟨H, v8, kd, no, la, ?_, h, kFr.rf⟩
    rw [e72_50]
    simp only [e72_52, e72_53, e72_54, e72_55, zb5, nb5, cx5, or_self, h.1, Std.le_refl, if_true, if_false]
  | succ i ih =>
    intro j v8 H kd no la hX hj h
    obtain ⟨H1, y, kd1, no1, la1, e1, t1, f1⟩ := t_step hX h5 (show j < n by omega) h v8
    obtain ⟨H2, w8, kd2, no2, la2, e2, t2, f2⟩ := ih (j + 1) (.int y) H1 kd1 no1 la1 (kSc_lo f1 hX) (by omega) t1
    exact ⟨H2, w8, kd2, no2, la2, e1.trans e2, t2, f1.tr f2⟩
theorem l_tzero (x6 : Int32) : ∀ i j (H : kH), j + i = 19 → ∃ H1, ev 72 22 [.ref 38, .int 0, .int 5, .ref 27, .ref 28, .ref 29, .int x6, .int (nI j), .null] [] H = ev 72 41 [.ref 38, .int 0, .int 5, .ref 27, .ref 28, .ref 29, .int x6, .int (nI 19), .null] [] H1 ∧ kFr (fun a _ => a = 28) H H1 ∧ (∀ q, j ≤ q → q < 19 → hI H1 28 q = 0) ∧ ∀ q, q < j → hI H1 28 q = hI H 28 q := by
  intro i
  induction i with
  | zero =>
    intro j H hj
    have : j = 19 := by omega
    subst this
    refine ⟨H, ?_, kFr.rf, fun q h1 h2 => absurd h2 (by omega), fun _ _ => rfl⟩
    rw [e72_22]
    simp only [e72_24, e72_26, show (19 : Int32) = nI 19 from rfl, Std.le_refl, if_true]
  | succ i ih =>
    intro j H hj
    obtain ⟨H', h1, h2, h3, h4⟩ := ih (j + 1) (uI H 28 j 0) (by omega)
    refine ⟨H', ?_, (kFr_uI (P := fun a _ => a = 28) rfl).tr h2, fun q hq1 hq2 => ?_, fun q hq => ?_⟩
    · rw [← h1, e72_22]
      simp only [e72_24, e72_26, e72_29, e72_31, e72_33, e72_34, e72_35, e72_38, show (19 : Int32) = nI 19 from rfl, q_le (show 19 < 2147483648 by decide) (show j < 2147483648 by omega), show ¬ 19 ≤ j by omega, if_false, q_lt0 (show j < 2147483648 by omega), q_cl (show j < 2147483648 by omega), or_self, nI_1]
    · by_cases e : q = j
      · subst e
        rw [h4 q (by omega), hI_uIs]
      · exact h3 q (by omega) hq2
    · rw [h4 q (by omega), hI_uIn (by omega)]
theorem y_text {H : kH} (hX : kSc L xs H) : ∃ H1 n kd no la, ev 72 0 [.ref 38, .int 0, .int 5, .ref 27, .ref 28, .ref 29, .null, .null, .null] [] H = some (some (.int (nI (4 * n - 1))), H1) ∧ tI H1 n n kd no la ∧ 3 ≤ n ∧ n ≤ 5 ∧ kFr (fun k _ => 27 ≤ k ∧ k ≤ 29) H H1 := by
  obtain ⟨c, hc⟩ := y_cell hX (k := 0) (by decide)
  have hc : ev 70 0 [.ref 38, .int 0] [] H = _ := hc
  obtain ⟨r, er⟩ : ∃ r, r = aT c 3 := ⟨_, rfl⟩
  have hr : r < 3 := by rw [er]; exact aT_lt _ (by decide)
  have a3 : ev 71 0 [.int c, .int (5 - 2)] [] H = some (some (.int (nI r)), H) := by rw [er]; exact y_at c (m := 3) (by decide) (by decide) H
  obtain ⟨H1, e1, f1, g1, -⟩ := l_tzero 0 19 0 (uI H 27 5 (nI (3 + r))) (by omega)
  obtain ⟨H2, eH2⟩ : ∃ H2, H2 = uI H1 28 15 (-1) := ⟨_, rfl⟩
  have f2 : kFr (fun k _ => 27 ≤ k ∧ k ≤ 29) H H2 := by
    rw [eH2]
    exact ((kFr_uI (by omega)).tr (f1.mono (fun k j z => by omega))).tr (kFr_uI (by omega))
  have t2 : tI H2 (3 + r) 0 (fun _ => 0) (fun _ => 0) (fun _ => 0) := by
    refine ⟨?_, fun c hc => absurd hc (Nat.not_lt_zero c), fun c hc => absurd hc (Nat.not_lt_zero c), fun c hc => absurd hc (Nat.not_lt_zero c), fun q h1 h2 => ?_, fun q hq => absurd hq (by omega)⟩
    · rw [eH2, hI_uIn (by omega), (f1 27 5 (by omega)).1, hI_uIs]
    · rw [eH2, hI_uI]
      by_cases h15 : q = 15
      · rw [if_pos ⟨rfl, h15⟩, if_pos h15]
      · rw [if_neg (fun z => h15 z.2), if_neg h15]
        exact g1 q (by omega) h2
  obtain ⟨H3, w8, kd, no, la, e3, t3, f3⟩ := l_text (L := L) (xs := xs) (n := 3 + r) (by omega) (3 + r) 0 .null H2 _ _ _ (kSc_lo f2 hX) (by omega) t2
  refine ⟨H3, 3 + r, kd, no, la, ?_, t3, by omega, by omega, f2.tr f3⟩
  have e33 : (3 : Int32) + nI r = nI (3 + r) := q_add 3 r
  simp only [e72_0, e72_1, e72_3, e72_4, e72_5, e72_6, e72_7, e72_8, e72_11, e72_12, e72_13, e72_14, e72_17, e72_18, e72_19, e72_20, hc, q_bs, q_tl, q_cn, a3, e33, zb5, nb5, cx5, or_self, if_false]
  rw [show ev 72 22 [.ref 38, .int 0, .int 5, .ref 27, .ref 28, .ref 29, .int 0, .int 0, .null] [] (uI H 27 5 (nI (3 + r))) = _ from e1]
  simp only [e72_41, e72_43, e72_45, e72_46, e72_47, e72_48, show ((15 : Int32) < 0) = False from eq_false (by decide), cx15, show (19 ≤ 15) = False from eq_false (by decide), or_self, if_false]
  rw [← eH2]
  rw [show ev 72 50 [.ref 38, .int 0, .int 5, .ref 27, .ref 28, .ref 29, .int 0, .int 0, .null] [] H2 = _ from e3]
  simp only [e72_258, e72_260]
/-- the letters are told -/
theorem kL_lt (k : Nat) : 1 ≤ kL k ∧ kL k < 127 := by
  unfold kL
  split
  · omega
  · split
    · omega
    · split
      · omega
      · split <;> omega
theorem gT_lt {kd no la : Nat → Nat} {q : Nat} (h2 : no (q / 4) ≤ 9) (h3 : la (q / 4) < 6) : 1 ≤ gT kd no la q ∧ gT kd no la q < 127 := by
  unfold gT
  split
  · exact kL_lt _
  · split
    · omega
    · split <;> omega
theorem l_write {n : Nat} {g : Nat → Nat} (hn : n ≤ 20) (hg : ∀ q, q < n → 1 ≤ g q ∧ g q < 127) : ∀ i j H S, j + i = n → CR H S → sOK S → sn S = j → (∀ q, q < j → sg S q = g q) → (∀ q, q < n → hI H 29 q = nI (g q)) → ∃ H1 S1, ev 73 2 [.ref 0, .ref 29, .int (nI n), .int (nI j)] [] H = some (some (.int 1), H1) ∧ CR H1 S1 ∧ sOK S1 ∧ sn S1 = n ∧ (∀ q, q < n → sg S1 q = g q) ∧ sr S1 = sr S ∧ kFr cC H H1 := by
  intro i
  induction i with
  | zero =>
    intro j H S hj hq ho hs hgs ht
    have : j = n := by omega
    subst this
    refine ⟨H, S, ?_, hq, ho, hs, hgs, rfl, kFr.rf⟩
    rw [e73_2]
    simp only [e73_3, e73_4, e73_28, e73_29, Std.le_refl, if_true, or_true]
  | succ i ih =>
    intro j H S hj hq ho hs hgs ht
    obtain ⟨g1, g2⟩ := hg j (by omega)
    obtain ⟨H1, e1, c1, f1⟩ := x_letter hq (nI (g j))
    have a1 : fLetter S (nI (g j)) = nI (j + 1) := by
      unfold fLetter
      rw [qSel_in g2 (by decide), if_neg (by omega), if_neg (by omega), hs]
    have a2 : tLetter S (nI (g j)) = ssP S (sn S + 1) (fu (sg S) (sn S) (g j)) := by
      unfold tLetter
      rw [qSel_in g2 (by decide), if_neg (by omega), if_neg (by omega)]
    have ok1 := ok_letter ho (nI (g j))
    have sr1 := sr_letter S (nI (g j))
    rw [a1] at e1
    rw [a2] at c1 ok1 sr1
    obtain ⟨H2, S2, e2, c2, o2, n2, q2, r2, f2⟩ := ih (j + 1) H1 _ (by omega) c1 ok1 (by show sn S + 1 = j + 1; rw [hs]) (fun q hq => by
      show fu (sg S) (sn S) (g j) q = g q
      by_cases e : q = sn S
      · subst e
        rw [fu_s, hs]
      · rw [fu_n e]
        exact hgs q (by omega)) (fun q hq => by rw [(f1 29 q (by unfold cC; omega)).1]; exact ht q hq)
    refine ⟨H2, S2, ?_, c2, o2, n2, q2, r2.trans sr1, f1.tr f2⟩
    rw [← e2, e73_2]
    simp only [e73_3, e73_4, e73_7, e73_8, e73_9, e73_10, e73_11, e73_14, e73_15, e73_16, e73_17, e73_20, e73_21, e73_22, e73_25, q_le (show n < 2147483648 by omega) (show j < 2147483648 by omega), show ¬ n ≤ j by omega, if_false, q_lt0 (show j < 2147483648 by omega), q_cl (show j < 2147483648 by omega), show ¬ 20 ≤ j by omega, or_self, ht j (by omega), e1, q_bs, q_tl, q_cn, nI_1, if_true]
/-- the page is a council's -/
theorem gT_B {kd no la : Nat → Nat} {n q : Nat} (h5 : n ≤ 5) (hq : q < 4 * n - 1) (h2 : no (q / 4) ≤ 9) (h3 : la (q / 4) < 6) : qB q (gT kd no la q) = true := by
  unfold qB gT
  rw [decide_eq_true (show q < 19 by omega), Bool.true_and]
  rcases (show q % 4 = 0 ∨ q % 4 = 1 ∨ q % 4 = 2 ∨ q % 4 = 3 by omega) with h | h | h | h
  · rw [if_pos h, if_pos h]
    unfold kL
    refine decide_eq_true ?_
    split
    · omega
    · split
      · omega
      · split
        · omega
        · split <;> omega
  · rw [if_neg (by omega), if_pos h, if_neg (by omega), if_pos h]
    exact decide_eq_true (by omega)
  · rw [if_neg (by omega), if_neg (by omega), if_pos h, if_neg (by omega), if_neg (by omega), if_pos h]
    exact decide_eq_true (by omega)
  · rw [if_neg (by omega), if_neg (by omega), if_neg (by omega), if_neg (by omega), if_neg (by omega), if_neg (by omega)]
    rfl
theorem qW_ok {g : Nat → Nat} : ∀ i j, (∀ q, j ≤ q → q < j + i → qB q (g q) = true) → qW g i j = j + i
  | 0, j, _ => rfl
  | i + 1, j, h => by
    unfold qW
    rw [if_pos (h j (by omega) (by omega)), qW_ok i (j + 1) (fun q h1 h2 => h q (by omega) (by omega))]
    omega
theorem qKd_kL {k : Nat} (h : k < 5) : qKd (kL k) = k := by
  rcases (show k = 0 ∨ k = 1 ∨ k = 2 ∨ k = 3 ∨ k = 4 by omega) with rfl | rfl | rfl | rfl | rfl <;> rfl
end LWT
