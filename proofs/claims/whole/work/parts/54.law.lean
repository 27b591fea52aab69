/-! the law: one road each -/
def lwS (L : Nat) (xs : Nat → Int32) (H : kH) (S : kS) : Prop := CR H S ∧ MR H S ∧ sOK S ∧ kSc L xs H
theorem kSc_c {L : Nat} {xs : Nat → Int32} {H H1 H2 : kH} (f1 : kFr cC H H1) (f2 : kFr mC H1 H2) (h : kSc L xs H) : kSc L xs H2 := by
  obtain ⟨h1, h2, h3⟩ := h
  refine ⟨fun j => ?_, ?_, h3⟩
  · rw [(f2 38 j (by unfold mC; omega)).1, (f1 38 j (by unfold cC; omega)).1]
    exact h1 j
  · rw [(f2 41 0 (by unfold mC; omega)).1, (f1 41 0 (by unfold cC; omega)).1]
    exact h2
theorem kSc_1 {L : Nat} {xs : Nat → Int32} {H H1 : kH} (f1 : kFr cC H H1) (h : kSc L xs H) : kSc L xs H1 := kSc_c f1 kFr.rf h
section KLW
variable {L : Nat} {xs : Nat → Int32} {H : kH} {S : kS}
theorem w_0 (q : lwS L xs H S) (hr : sr S < 100000) {i : Nat} (hi : i + 4 ≤ L) : ∃ (H1 : kH) (S1 : kS), ev 151 152 [.ref 38, .ref 0, .ref 27, .int (nI i)] [] H = ev 151 801 [.ref 38, .ref 0, .ref 27, .int (nI i)] [] H1 ∧ lwS L xs H1 S1 ∧ sr S1 ≤ sr S + 1 := by
  obtain ⟨hx, hl, hL⟩ := q.2.2.2
  obtain ⟨a1, ha1⟩ : ∃ a, a = xs (i + 1) := ⟨_, rfl⟩
  have g1 : hI H 38 (i + 1) = a1 := (hx (i + 1)).trans ha1.symm
  obtain ⟨H1, e1, q1, f1⟩ := x_letter q.1 a1
  have mq := MR_c f1 q.2.1
  obtain ⟨hx1, hl1, -⟩ := kSc_1 f1 q.2.2.2
  have i1 : hI H1 38 (i + 1) = a1 := (hx1 (i + 1)).trans ha1.symm
  obtain ⟨H2, e2, q2, f2⟩ := y_letter mq a1
  refine ⟨H2, (tLetter S a1), ?_, ⟨CR_m f2 q1, q2, ok_letter q.2.2.1 a1, kSc_c f1 f2 q.2.2.2⟩, Nat.le_trans (Nat.le_of_eq (sr_letter S a1)) (Nat.le_succ _)⟩
  simp only [e151_152, e151_153, e151_154, e151_155, e151_156, e151_157, e151_158, e151_161, e151_162, e151_163, e151_164, e151_165, e151_166, e151_167, e151_170, hl, hl1, nI_1, q_lt0 (show i + 1 < 2147483648 by omega), q_cl (show i + 1 < 2147483648 by omega), show ¬ L ≤ i + 1 by omega, g1, i1, q_cl (show L < 2147483648 by omega), or_self, if_false, e1, e2, q_bs, q_tl, q_cn, q_nn, if_true]
theorem w_1 (q : lwS L xs H S) (hr : sr S < 100000) {i : Nat} (hi : i + 4 ≤ L) : ∃ (H1 : kH) (S1 : kS), ev 151 175 [.ref 38, .ref 0, .ref 27, .int (nI i)] [] H = ev 151 801 [.ref 38, .ref 0, .ref 27, .int (nI i)] [] H1 ∧ lwS L xs H1 S1 ∧ sr S1 ≤ sr S + 1 := by
  obtain ⟨hx, hl, hL⟩ := q.2.2.2
  obtain ⟨H1, e1, q1, f1⟩ := x_blank q.1
  have mq := MR_c f1 q.2.1
  obtain ⟨hx1, hl1, -⟩ := kSc_1 f1 q.2.2.2
  obtain ⟨H2, e2, q2, f2⟩ := y_blank mq
  refine ⟨H2, (ssP S 0 (sg S)), ?_, ⟨CR_m f2 q1, q2, q.2.2.1, kSc_c f1 f2 q.2.2.2⟩, Nat.le_trans (Nat.le_refl _) (Nat.le_succ _)⟩
  simp only [e151_175, e151_176, e151_179, e151_180, e151_183, e1, e2, q_bs, q_tl, q_cn, q_nn, if_true]
theorem w_2 (q : lwS L xs H S) (hr : sr S < 100000) {i : Nat} (hi : i + 4 ≤ L) : ∃ (H1 : kH) (S1 : kS), ev 151 188 [.ref 38, .ref 0, .ref 27, .int (nI i)] [] H = ev 151 801 [.ref 38, .ref 0, .ref 27, .int (nI i)] [] H1 ∧ lwS L xs H1 S1 ∧ sr S1 ≤ sr S + 1 := by
  obtain ⟨hx, hl, hL⟩ := q.2.2.2
  obtain ⟨H1, e1, q1, f1⟩ : ∃ H1, ev 62 0 [.ref 0] [] H = some (some (.int (nI (qW (sg S) (sn S) 0))), H1) ∧ CR H1 (S) ∧ kFr cC H H1 := ⟨H, x_fault q.1, q.1, kFr.rf⟩
  have mq := MR_c f1 q.2.1
  obtain ⟨hx1, hl1, -⟩ := kSc_1 f1 q.2.2.2
  obtain ⟨H2, e2, q2, f2⟩ : ∃ H2, ev 103 0 [.ref 27] [] H1 = some (some (.int (nI (qW (sg S) (sn S) 0))), H2) ∧ MR H2 (S) ∧ kFr mC H1 H2 := ⟨H1, m_fault mq.2.1, mq, kFr.rf⟩
  refine ⟨H2, S, ?_, ⟨CR_m f2 q1, q2, q.2.2.1, kSc_c f1 f2 q.2.2.2⟩, Nat.le_trans (Nat.le_refl _) (Nat.le_succ _)⟩
  simp only [e151_188, e151_189, e151_192, e151_193, e151_196, e1, e2, q_bs, q_tl, q_cn, q_nn, if_true]
theorem w_3 (q : lwS L xs H S) (hr : sr S < 100000) {i : Nat} (hi : i + 4 ≤ L) : ∃ (H1 : kH) (S1 : kS), ev 151 201 [.ref 38, .ref 0, .ref 27, .int (nI i)] [] H = ev 151 801 [.ref 38, .ref 0, .ref 27, .int (nI i)] [] H1 ∧ lwS L xs H1 S1 ∧ sr S1 ≤ sr S + 1 := by
  obtain ⟨hx, hl, hL⟩ := q.2.2.2
  obtain ⟨H1, e1, q1, f1⟩ := x_council q.1
  have mq := MR_c f1 q.2.1
  obtain ⟨hx1, hl1, -⟩ := kSc_1 f1 q.2.2.2
  obtain ⟨H2, e2, q2, f2⟩ := y_council mq q.2.2.1
  refine ⟨H2, (tCouncil S), ?_, ⟨CR_m f2 q1, q2, ok_council q.2.2.1 q.1.2.1.2.1 hr, kSc_c f1 f2 q.2.2.2⟩, sr_council S⟩
  simp only [e151_201, e151_202, e151_205, e151_206, e151_209, e1, e2, q_bs, q_tl, q_cn, q_nn, if_true]
theorem w_4 (q : lwS L xs H S) (hr : sr S < 100000) {i : Nat} (hi : i + 4 ≤ L) : ∃ (H1 : kH) (S1 : kS), ev 151 214 [.ref 38, .ref 0, .ref 27, .int (nI i)] [] H = ev 151 801 [.ref 38, .ref 0, .ref 27, .int (nI i)] [] H1 ∧ lwS L xs H1 S1 ∧ sr S1 ≤ sr S + 1 := by
  obtain ⟨hx, hl, hL⟩ := q.2.2.2
  obtain ⟨a1, ha1⟩ : ∃ a, a = xs (i + 1) := ⟨_, rfl⟩
  have g1 : hI H 38 (i + 1) = a1 := (hx (i + 1)).trans ha1.symm
  obtain ⟨a2, ha2⟩ : ∃ a, a = xs (i + 2) := ⟨_, rfl⟩
  have g2 : hI H 38 (i + 2) = a2 := (hx (i + 2)).trans ha2.symm
  obtain ⟨H1, e1, q1, f1⟩ : ∃ H1, ev 64 0 [.ref 0, .int a1, .int a2] [] H = some (some (.int (fAbout (sV S) a1 a2)), H1) ∧ CR H1 (S) ∧ kFr cC H H1 := ⟨H, x_about q.1 q.2.2.1 a1 a2, q.1, kFr.rf⟩
  have mq := MR_c f1 q.2.1
  obtain ⟨hx1, hl1, -⟩ := kSc_1 f1 q.2.2.2
  have i1 : hI H1 38 (i + 1) = a1 := (hx1 (i + 1)).trans ha1.symm
  have i2 : hI H1 38 (i + 2) = a2 := (hx1 (i + 2)).trans ha2.symm
  obtain ⟨H2, e2, q2, f2⟩ : ∃ H2, ev 110 0 [.ref 27, .int a1, .int a2] [] H1 = some (some (.int (fAbout (sV S) a1 a2)), H2) ∧ MR H2 (S) ∧ kFr mC H1 H2 := ⟨H1, y_about mq q.2.2.1 a1 a2, mq, kFr.rf⟩
  refine ⟨H2, S, ?_, ⟨CR_m f2 q1, q2, q.2.2.1, kSc_c f1 f2 q.2.2.2⟩, Nat.le_trans (Nat.le_refl _) (Nat.le_succ _)⟩
  simp only [e151_214, e151_215, e151_216, e151_217, e151_218, e151_219, e151_220, e151_221, e151_222, e151_223, e151_224, e151_225, e151_228, e151_229, e151_230, e151_231, e151_232, e151_233, e151_234, e151_235, e151_236, e151_237, e151_238, e151_239, e151_242, hl, hl1, nI_1, show (2 : Int32) = nI 2 from rfl, q_add, q_lt0 (show i + 1 < 2147483648 by omega), q_cl (show i + 1 < 2147483648 by omega), show ¬ L ≤ i + 1 by omega, g1, i1, q_lt0 (show i + 2 < 2147483648 by omega), q_cl (show i + 2 < 2147483648 by omega), show ¬ L ≤ i + 2 by omega, g2, i2, q_cl (show L < 2147483648 by omega), or_self, if_false, e1, e2, q_bs, q_tl, q_cn, q_nn, if_true]
theorem w_5 (q : lwS L xs H S) (hr : sr S < 100000) {i : Nat} (hi : i + 4 ≤ L) : ∃ (H1 : kH) (S1 : kS), ev 151 247 [.ref 38, .ref 0, .ref 27, .int (nI i)] [] H = ev 151 801 [.ref 38, .ref 0, .ref 27, .int (nI i)] [] H1 ∧ lwS L xs H1 S1 ∧ sr S1 ≤ sr S + 1 := by
  obtain ⟨hx, hl, hL⟩ := q.2.2.2
  obtain ⟨a1, ha1⟩ : ∃ a, a = xs (i + 1) := ⟨_, rfl⟩
  have g1 : hI H 38 (i + 1) = a1 := (hx (i + 1)).trans ha1.symm
  obtain ⟨a2, ha2⟩ : ∃ a, a = xs (i + 2) := ⟨_, rfl⟩
  have g2 : hI H 38 (i + 2) = a2 := (hx (i + 2)).trans ha2.symm
  obtain ⟨H1, e1, q1, f1⟩ : ∃ H1, ev 65 0 [.ref 0, .int a1, .int a2] [] H = some (some (.int (fAs (sV S) a1 a2)), H1) ∧ CR H1 (S) ∧ kFr cC H H1 := ⟨H, x_as q.1 q.2.2.1 a1 a2, q.1, kFr.rf⟩
  have mq := MR_c f1 q.2.1
  obtain ⟨hx1, hl1, -⟩ := kSc_1 f1 q.2.2.2
  have i1 : hI H1 38 (i + 1) = a1 := (hx1 (i + 1)).trans ha1.symm
  have i2 : hI H1 38 (i + 2) = a2 := (hx1 (i + 2)).trans ha2.symm
  obtain ⟨H2, e2, q2, f2⟩ : ∃ H2, ev 111 0 [.ref 27, .int a1, .int a2, .null, .null] [] H1 = some (some (.int (fAs (sV S) a1 a2)), H2) ∧ MR H2 (S) ∧ kFr mC H1 H2 := ⟨H1, y_as mq q.2.2.1 a1 a2, mq, kFr.rf⟩
  refine ⟨H2, S, ?_, ⟨CR_m f2 q1, q2, q.2.2.1, kSc_c f1 f2 q.2.2.2⟩, Nat.le_trans (Nat.le_refl _) (Nat.le_succ _)⟩
  simp only [e151_247, e151_248, e151_249, e151_250, e151_251, e151_252, e151_253, e151_254, e151_255, e151_256, e151_257, e151_258, e151_261, e151_262, e151_263, e151_264, e151_265, e151_266, e151_267, e151_268, e151_269, e151_270, e151_271, e151_272, e151_275, hl, hl1, nI_1, show (2 : Int32) = nI 2 from rfl, q_add, q_lt0 (show i + 1 < 2147483648 by omega), q_cl (show i + 1 < 2147483648 by omega), show ¬ L ≤ i + 1 by omega, g1, i1, q_lt0 (show i + 2 < 2147483648 by omega), q_cl (show i + 2 < 2147483648 by omega), show ¬ L ≤ i + 2 by omega, g2, i2, q_cl (show L < 2147483648 by omega), or_self, if_false, e1, e2, q_bs, q_tl, q_cn, q_nn, if_true]
theorem w_6 (q : lwS L xs H S) (hr : sr S < 100000) {i : Nat} (hi : i + 4 ≤ L) : ∃ (H1 : kH) (S1 : kS), ev 151 280 [.ref 38, .ref 0, .ref 27, .int (nI i)] [] H = ev 151 801 [.ref 38, .ref 0, .ref 27, .int (nI i)] [] H1 ∧ lwS L xs H1 S1 ∧ sr S1 ≤ sr S + 1 := by
  obtain ⟨hx, hl, hL⟩ := q.2.2.2
  obtain ⟨a1, ha1⟩ : ∃ a, a = xs (i + 1) := ⟨_, rfl⟩
  have g1 : hI H 38 (i + 1) = a1 := (hx (i + 1)).trans ha1.symm
  obtain ⟨a2, ha2⟩ : ∃ a, a = xs (i + 2) := ⟨_, rfl⟩
  have g2 : hI H 38 (i + 2) = a2 := (hx (i + 2)).trans ha2.symm
  obtain ⟨H1, e1, q1, f1⟩ := x_nose q.1 q.2.2.1 a1 a2
  have mq := MR_c f1 q.2.1
  obtain ⟨hx1, hl1, -⟩ := kSc_1 f1 q.2.2.2
  have i1 : hI H1 38 (i + 1) = a1 := (hx1 (i + 1)).trans ha1.symm
  have i2 : hI H1 38 (i + 2) = a2 := (hx1 (i + 2)).trans ha2.symm
  obtain ⟨H2, e2, q2, f2⟩ := y_nose mq q.2.2.1 a1 a2
  refine ⟨H2, (ssV S (tNose (sV S) a1 a2)), ?_, ⟨CR_m f2 q1, q2, ok_nose q.2.2.1 a1 a2, kSc_c f1 f2 q.2.2.2⟩, Nat.le_trans (Nat.le_refl _) (Nat.le_succ _)⟩
  simp only [e151_280, e151_281, e151_282, e151_283, e151_284, e151_285, e151_286, e151_287, e151_288, e151_289, e151_290, e151_291, e151_294, e151_295, e151_296, e151_297, e151_298, e151_299, e151_300, e151_301, e151_302, e151_303, e151_304, e151_305, e151_308, hl, hl1, nI_1, show (2 : Int32) = nI 2 from rfl, q_add, q_lt0 (show i + 1 < 2147483648 by omega), q_cl (show i + 1 < 2147483648 by omega), show ¬ L ≤ i + 1 by omega, g1, i1, q_lt0 (show i + 2 < 2147483648 by omega), q_cl (show i + 2 < 2147483648 by omega), show ¬ L ≤ i + 2 by omega, g2, i2, q_cl (show L < 2147483648 by omega), or_self, if_false, e1, e2, q_bs, q_tl, q_cn, q_nn, if_true]
theorem w_7 (q : lwS L xs H S) (hr : sr S < 100000) {i : Nat} (hi : i + 4 ≤ L) : ∃ (H1 : kH) (S1 : kS), ev 151 313 [.ref 38, .ref 0, .ref 27, .int (nI i)] [] H = ev 151 801 [.ref 38, .ref 0, .ref 27, .int (nI i)] [] H1 ∧ lwS L xs H1 S1 ∧ sr S1 ≤ sr S + 1 := by
  obtain ⟨hx, hl, hL⟩ := q.2.2.2
  obtain ⟨a1, ha1⟩ : ∃ a, a = xs (i + 1) := ⟨_, rfl⟩
  have g1 : hI H 38 (i + 1) = a1 := (hx (i + 1)).trans ha1.symm
  obtain ⟨a2, ha2⟩ : ∃ a, a = xs (i + 2) := ⟨_, rfl⟩
  have g2 : hI H 38 (i + 2) = a2 := (hx (i + 2)).trans ha2.symm
  obtain ⟨H1, e1, q1, f1⟩ := x_bribe q.1 q.2.2.1 a1 a2
  have mq := MR_c f1 q.2.1
  obtain ⟨hx1, hl1, -⟩ := kSc_1 f1 q.2.2.2
  have i1 : hI H1 38 (i + 1) = a1 := (hx1 (i + 1)).trans ha1.symm
  have i2 : hI H1 38 (i + 2) = a2 := (hx1 (i + 2)).trans ha2.symm
  obtain ⟨H2, e2, q2, f2⟩ := y_bribe mq q.2.2.1 a1 a2
  refine ⟨H2, (ssV S (tBribe (sV S) a1 a2)), ?_, ⟨CR_m f2 q1, q2, ok_bribe q.2.2.1 a1 a2, kSc_c f1 f2 q.2.2.2⟩, Nat.le_trans (Nat.le_refl _) (Nat.le_succ _)⟩
  simp only [e151_313, e151_314, e151_315, e151_316, e151_317, e151_318, e151_319, e151_320, e151_321, e151_322, e151_323, e151_324, e151_327, e151_328, e151_329, e151_330, e151_331, e151_332, e151_333, e151_334, e151_335, e151_336, e151_337, e151_338, e151_341, hl, hl1, nI_1, show (2 : Int32) = nI 2 from rfl, q_add, q_lt0 (show i + 1 < 2147483648 by omega), q_cl (show i + 1 < 2147483648 by omega), show ¬ L ≤ i + 1 by omega, g1, i1, q_lt0 (show i + 2 < 2147483648 by omega), q_cl (show i + 2 < 2147483648 by omega), show ¬ L ≤ i + 2 by omega, g2, i2, q_cl (show L < 2147483648 by omega), or_self, if_false, e1, e2, q_bs, q_tl, q_cn, q_nn, if_true]
theorem w_8 (q : lwS L xs H S) (hr : sr S < 100000) {i : Nat} (hi : i + 4 ≤ L) : ∃ (H1 : kH) (S1 : kS), ev 151 346 [.ref 38, .ref 0, .ref 27, .int (nI i)] [] H = ev 151 801 [.ref 38, .ref 0, .ref 27, .int (nI i)] [] H1 ∧ lwS L xs H1 S1 ∧ sr S1 ≤ sr S + 1 := by
  obtain ⟨hx, hl, hL⟩ := q.2.2.2
  obtain ⟨a1, ha1⟩ : ∃ a, a = xs (i + 1) := ⟨_, rfl⟩
  have g1 : hI H 38 (i + 1) = a1 := (hx (i + 1)).trans ha1.symm
  obtain ⟨H1, e1, q1, f1⟩ := x_draught q.1 q.2.2.1 a1
  have mq := MR_c f1 q.2.1
  obtain ⟨hx1, hl1, -⟩ := kSc_1 f1 q.2.2.2
  have i1 : hI H1 38 (i + 1) = a1 := (hx1 (i + 1)).trans ha1.symm
  obtain ⟨H2, e2, q2, f2⟩ := y_draught mq q.2.2.1 a1
  refine ⟨H2, (ssV S (tDraught (sV S) a1)), ?_, ⟨CR_m f2 q1, q2, ok_draught q.2.2.1 a1, kSc_c f1 f2 q.2.2.2⟩, Nat.le_trans (Nat.le_refl _) (Nat.le_succ _)⟩
  simp only [e151_346, e151_347, e151_348, e151_349, e151_350, e151_351, e151_352, e151_355, e151_356, e151_357, e151_358, e151_359, e151_360, e151_361, e151_364, hl, hl1, nI_1, q_lt0 (show i + 1 < 2147483648 by omega), q_cl (show i + 1 < 2147483648 by omega), show ¬ L ≤ i + 1 by omega, g1, i1, q_cl (show L < 2147483648 by omega), or_self, if_false, e1, e2, q_bs, q_tl, q_cn, q_nn, if_true]
theorem w_9 (q : lwS L xs H S) (hr : sr S < 100000) {i : Nat} (hi : i + 4 ≤ L) : ∃ (H1 : kH) (S1 : kS), ev 151 369 [.ref 38, .ref 0, .ref 27, .int (nI i)] [] H = ev 151 801 [.ref 38, .ref 0, .ref 27, .int (nI i)] [] H1 ∧ lwS L xs H1 S1 ∧ sr S1 ≤ sr S + 1 := by
  obtain ⟨hx, hl, hL⟩ := q.2.2.2
  obtain ⟨a1, ha1⟩ : ∃ a, a = xs (i + 1) := ⟨_, rfl⟩
  have g1 : hI H 38 (i + 1) = a1 := (hx (i + 1)).trans ha1.symm
  obtain ⟨b, hbe⟩ : ∃ b : Int32, b = if a1 = 0 then 0 else 1 := ⟨_, rfl⟩
  have hb : b = 0 ∨ b = 1 := by rw [hbe]; split; exact Or.inl rfl; exact Or.inr rfl
  obtain ⟨H1, e1, q1, f1⟩ := x_pepper q.1 q.2.2.1 hb
  have mq := MR_c f1 q.2.1
  obtain ⟨hx1, hl1, -⟩ := kSc_1 f1 q.2.2.2
  have i1 : hI H1 38 (i + 1) = a1 := (hx1 (i + 1)).trans ha1.symm
  obtain ⟨H2, e2, q2, f2⟩ := y_pepper mq q.2.2.1 hb
  refine ⟨H2, (ssV S (tPepper (sV S) b)), ?_, ⟨CR_m f2 q1, q2, ok_pepper q.2.2.1 hb, kSc_c f1 f2 q.2.2.2⟩, Nat.le_trans (Nat.le_refl _) (Nat.le_succ _)⟩
  by_cases hz : a1 = 0
  · rw [if_pos hz] at hbe
    rw [hbe] at e1 e2
    simp only [e151_369, e151_370, e151_371, e151_372, e151_373, e151_374, e151_375, e151_378, e151_379, e151_382, e151_383, e151_386, e151_387, e151_388, e151_389, e151_390, e151_391, e151_392, e151_395, e151_396, e151_399, e151_400, e151_403, hl, hl1, nI_1, q_lt0 (show i + 1 < 2147483648 by omega), q_cl (show i + 1 < 2147483648 by omega), show ¬ L ≤ i + 1 by omega, g1, i1, q_cl (show L < 2147483648 by omega), or_self, if_false, e1, e2, q_bs, q_tl, q_cn, q_nn, if_true, eq_true hz]
  · rw [if_neg hz] at hbe
    rw [hbe] at e1 e2
    simp only [e151_369, e151_370, e151_371, e151_372, e151_373, e151_374, e151_375, e151_378, e151_379, e151_382, e151_383, e151_386, e151_387, e151_388, e151_389, e151_390, e151_391, e151_392, e151_395, e151_396, e151_399, e151_400, e151_403, hl, hl1, nI_1, q_lt0 (show i + 1 < 2147483648 by omega), q_cl (show i + 1 < 2147483648 by omega), show ¬ L ≤ i + 1 by omega, g1, i1, q_cl (show L < 2147483648 by omega), or_self, if_false, e1, e2, q_bs, q_tl, q_cn, q_nn, if_true, hz]
theorem w_10 (q : lwS L xs H S) (hr : sr S < 100000) {i : Nat} (hi : i + 4 ≤ L) : ∃ (H1 : kH) (S1 : kS), ev 151 408 [.ref 38, .ref 0, .ref 27, .int (nI i)] [] H = ev 151 801 [.ref 38, .ref 0, .ref 27, .int (nI i)] [] H1 ∧ lwS L xs H1 S1 ∧ sr S1 ≤ sr S + 1 := by
  obtain ⟨hx, hl, hL⟩ := q.2.2.2
  obtain ⟨a1, ha1⟩ : ∃ a, a = xs (i + 1) := ⟨_, rfl⟩
  have g1 : hI H 38 (i + 1) = a1 := (hx (i + 1)).trans ha1.symm
  obtain ⟨H1, e1, q1, f1⟩ := x_hour q.1 q.2.2.1 a1
  have mq := MR_c f1 q.2.1
  obtain ⟨hx1, hl1, -⟩ := kSc_1 f1 q.2.2.2
  have i1 : hI H1 38 (i + 1) = a1 := (hx1 (i + 1)).trans ha1.symm
  obtain ⟨H2, e2, q2, f2⟩ := y_hour mq q.2.2.1 a1
  refine ⟨H2, (ssV S (tHour (sV S) a1)), ?_, ⟨CR_m f2 q1, q2, ok_hour q.2.2.1 a1, kSc_c f1 f2 q.2.2.2⟩, Nat.le_trans (Nat.le_refl _) (Nat.le_succ _)⟩
  simp only [e151_408, e151_409, e151_410, e151_411, e151_412, e151_413, e151_414, e151_417, e151_418, e151_419, e151_420, e151_421, e151_422, e151_423, e151_426, hl, hl1, nI_1, q_lt0 (show i + 1 < 2147483648 by omega), q_cl (show i + 1 < 2147483648 by omega), show ¬ L ≤ i + 1 by omega, g1, i1, q_cl (show L < 2147483648 by omega), or_self, if_false, e1, e2, q_bs, q_tl, q_cn, q_nn, if_true]
theorem w_11 (q : lwS L xs H S) (hr : sr S < 100000) {i : Nat} (hi : i + 4 ≤ L) : ∃ (H1 : kH) (S1 : kS), ev 151 431 [.ref 38, .ref 0, .ref 27, .int (nI i)] [] H = ev 151 801 [.ref 38, .ref 0, .ref 27, .int (nI i)] [] H1 ∧ lwS L xs H1 S1 ∧ sr S1 ≤ sr S + 1 := by
  obtain ⟨hx, hl, hL⟩ := q.2.2.2
  obtain ⟨H1, e1, q1, f1⟩ : ∃ H1, ev 71 0 [.ref 0] [] H = some (some (.int (nI (vh (sV S)))), H1) ∧ CR H1 (S) ∧ kFr cC H H1 := ⟨H, x_laws q.1, q.1, kFr.rf⟩
  have mq := MR_c f1 q.2.1
  obtain ⟨hx1, hl1, -⟩ := kSc_1 f1 q.2.2.2
  obtain ⟨H2, e2, q2, f2⟩ : ∃ H2, ev 121 0 [.ref 27] [] H1 = some (some (.int (nI (vh (sV S)))), H2) ∧ MR H2 (S) ∧ kFr mC H1 H2 := ⟨H1, y_laws mq, mq, kFr.rf⟩
  refine ⟨H2, S, ?_, ⟨CR_m f2 q1, q2, q.2.2.1, kSc_c f1 f2 q.2.2.2⟩, Nat.le_trans (Nat.le_refl _) (Nat.le_succ _)⟩
  simp only [e151_431, e151_432, e151_435, e151_436, e151_439, e1, e2, q_bs, q_tl, q_cn, q_nn, if_true]
theorem w_12 (q : lwS L xs H S) (hr : sr S < 100000) {i : Nat} (hi : i + 4 ≤ L) : ∃ (H1 : kH) (S1 : kS), ev 151 444 [.ref 38, .ref 0, .ref 27, .int (nI i)] [] H = ev 151 801 [.ref 38, .ref 0, .ref 27, .int (nI i)] [] H1 ∧ lwS L xs H1 S1 ∧ sr S1 ≤ sr S + 1 := by
  obtain ⟨hx, hl, hL⟩ := q.2.2.2
  obtain ⟨a1, ha1⟩ : ∃ a, a = xs (i + 1) := ⟨_, rfl⟩
  have g1 : hI H 38 (i + 1) = a1 := (hx (i + 1)).trans ha1.symm
  obtain ⟨a2, ha2⟩ : ∃ a, a = xs (i + 2) := ⟨_, rfl⟩
  have g2 : hI H 38 (i + 2) = a2 := (hx (i + 2)).trans ha2.symm
  obtain ⟨H1, e1, q1, f1⟩ := x_king q.1 q.2.2.1 a1 a2
  have mq := MR_c f1 q.2.1
  obtain ⟨hx1, hl1, -⟩ := kSc_1 f1 q.2.2.2
  have i1 : hI H1 38 (i + 1) = a1 := (hx1 (i + 1)).trans ha1.symm
  have i2 : hI H1 38 (i + 2) = a2 := (hx1 (i + 2)).trans ha2.symm
  obtain ⟨H2, e2, q2, f2⟩ : ∃ H2, ev 127 0 [.ref 27, .int a1, .int a2] [] H1 = some (some (.long (fKing (sV S) a1 a2)), H2) ∧ MR H2 (S) ∧ kFr mC H1 H2 := ⟨H1, y_king mq q.2.2.1 a1 a2, mq, kFr.rf⟩
  refine ⟨H2, S, ?_, ⟨CR_m f2 q1, q2, q.2.2.1, kSc_c f1 f2 q.2.2.2⟩, Nat.le_trans (Nat.le_refl _) (Nat.le_succ _)⟩
  simp only [e151_444, e151_445, e151_446, e151_447, e151_448, e151_449, e151_450, e151_451, e151_452, e151_453, e151_454, e151_455, e151_458, e151_459, e151_460, e151_461, e151_462, e151_463, e151_464, e151_465, e151_466, e151_467, e151_468, e151_469, e151_472, e151_473, hl, hl1, nI_1, show (2 : Int32) = nI 2 from rfl, q_add, q_lt0 (show i + 1 < 2147483648 by omega), q_cl (show i + 1 < 2147483648 by omega), show ¬ L ≤ i + 1 by omega, g1, i1, q_lt0 (show i + 2 < 2147483648 by omega), q_cl (show i + 2 < 2147483648 by omega), show ¬ L ≤ i + 2 by omega, g2, i2, q_cl (show L < 2147483648 by omega), or_self, if_false, e1, e2, q_bs, q_tl, q_cn, q_nn, q_cmpeq, if_true]
theorem w_13 (q : lwS L xs H S) (hr : sr S < 100000) {i : Nat} (hi : i + 4 ≤ L) : ∃ (H1 : kH) (S1 : kS), ev 151 478 [.ref 38, .ref 0, .ref 27, .int (nI i)] [] H = ev 151 801 [.ref 38, .ref 0, .ref 27, .int (nI i)] [] H1 ∧ lwS L xs H1 S1 ∧ sr S1 ≤ sr S + 1 := by
  obtain ⟨hx, hl, hL⟩ := q.2.2.2
  obtain ⟨a1, ha1⟩ : ∃ a, a = xs (i + 1) := ⟨_, rfl⟩
  have g1 : hI H 38 (i + 1) = a1 := (hx (i + 1)).trans ha1.symm
  obtain ⟨a2, ha2⟩ : ∃ a, a = xs (i + 2) := ⟨_, rfl⟩
  have g2 : hI H 38 (i + 2) = a2 := (hx (i + 2)).trans ha2.symm
  obtain ⟨a3, ha3⟩ : ∃ a, a = xs (i + 3) := ⟨_, rfl⟩
  have g3 : hI H 38 (i + 3) = a3 := (hx (i + 3)).trans ha3.symm
  obtain ⟨H1, e1, q1, f1⟩ := x_holds q.1 q.2.2.1 a1 a2 a3
  have mq := MR_c f1 q.2.1
  obtain ⟨hx1, hl1, -⟩ := kSc_1 f1 q.2.2.2
  have i1 : hI H1 38 (i + 1) = a1 := (hx1 (i + 1)).trans ha1.symm
  have i2 : hI H1 38 (i + 2) = a2 := (hx1 (i + 2)).trans ha2.symm
  have i3 : hI H1 38 (i + 3) = a3 := (hx1 (i + 3)).trans ha3.symm
  obtain ⟨H2, e2, q2, f2⟩ := y_holds mq q.2.2.1 a1 a2 a3
  refine ⟨H2, S, ?_, ⟨CR_m f2 q1, q2, q.2.2.1, kSc_c f1 f2 q.2.2.2⟩, Nat.le_trans (Nat.le_refl _) (Nat.le_succ _)⟩
  simp only [e151_478, e151_479, e151_480, e151_481, e151_482, e151_483, e151_484, e151_485, e151_486, e151_487, e151_488, e151_489, e151_490, e151_491, e151_492, e151_493, e151_494, e151_497, e151_498, e151_499, e151_500, e151_501, e151_502, e151_503, e151_504, e151_505, e151_506, e151_507, e151_508, e151_509, e151_510, e151_511, e151_512, e151_513, e151_516, e151_517, hl, hl1, nI_1, show (2 : Int32) = nI 2 from rfl, show (3 : Int32) = nI 3 from rfl, q_add, q_lt0 (show i + 1 < 2147483648 by omega), q_cl (show i + 1 < 2147483648 by omega), show ¬ L ≤ i + 1 by omega, g1, i1, q_lt0 (show i + 2 < 2147483648 by omega), q_cl (show i + 2 < 2147483648 by omega), show ¬ L ≤ i + 2 by omega, g2, i2, q_lt0 (show i + 3 < 2147483648 by omega), q_cl (show i + 3 < 2147483648 by omega), show ¬ L ≤ i + 3 by omega, g3, i3, q_cl (show L < 2147483648 by omega), or_self, if_false, e1, e2, q_bs, q_tl, q_cn, q_nn, q_cmpeq, if_true]
theorem w_14 (q : lwS L xs H S) (hr : sr S < 100000) {i : Nat} (hi : i + 4 ≤ L) : ∃ (H1 : kH) (S1 : kS), ev 151 522 [.ref 38, .ref 0, .ref 27, .int (nI i)] [] H = ev 151 801 [.ref 38, .ref 0, .ref 27, .int (nI i)] [] H1 ∧ lwS L xs H1 S1 ∧ sr S1 ≤ sr S + 1 := by
  obtain ⟨hx, hl, hL⟩ := q.2.2.2
  obtain ⟨a1, ha1⟩ : ∃ a, a = xs (i + 1) := ⟨_, rfl⟩
  have g1 : hI H 38 (i + 1) = a1 := (hx (i + 1)).trans ha1.symm
  obtain ⟨H1, e1, q1, f1⟩ := x_window q.1 q.2.2.1 a1
  have mq := MR_c f1 q.2.1
  obtain ⟨hx1, hl1, -⟩ := kSc_1 f1 q.2.2.2
  have i1 : hI H1 38 (i + 1) = a1 := (hx1 (i + 1)).trans ha1.symm
  obtain ⟨H2, e2, q2, f2⟩ : ∃ H2, ev 132 0 [.ref 27, .int a1] [] H1 = some (some (.int (fWindow (sV S) a1)), H2) ∧ MR H2 (S) ∧ kFr mC H1 H2 := ⟨H1, y_window mq q.2.2.1 a1, mq, kFr.rf⟩
  refine ⟨H2, S, ?_, ⟨CR_m f2 q1, q2, q.2.2.1, kSc_c f1 f2 q.2.2.2⟩, Nat.le_trans (Nat.le_refl _) (Nat.le_succ _)⟩
  simp only [e151_522, e151_523, e151_524, e151_525, e151_526, e151_527, e151_528, e151_531, e151_532, e151_533, e151_534, e151_535, e151_536, e151_537, e151_540, hl, hl1, nI_1, q_lt0 (show i + 1 < 2147483648 by omega), q_cl (show i + 1 < 2147483648 by omega), show ¬ L ≤ i + 1 by omega, g1, i1, q_cl (show L < 2147483648 by omega), or_self, if_false, e1, e2, q_bs, q_tl, q_cn, q_nn, if_true]
theorem w_15 (q : lwS L xs H S) (hr : sr S < 100000) {i : Nat} (hi : i + 4 ≤ L) : ∃ (H1 : kH) (S1 : kS), ev 151 545 [.ref 38, .ref 0, .ref 27, .int (nI i)] [] H = ev 151 801 [.ref 38, .ref 0, .ref 27, .int (nI i)] [] H1 ∧ lwS L xs H1 S1 ∧ sr S1 ≤ sr S + 1 := by
  obtain ⟨hx, hl, hL⟩ := q.2.2.2
  obtain ⟨a1, ha1⟩ : ∃ a, a = xs (i + 1) := ⟨_, rfl⟩
  have g1 : hI H 38 (i + 1) = a1 := (hx (i + 1)).trans ha1.symm
  obtain ⟨a2, ha2⟩ : ∃ a, a = xs (i + 2) := ⟨_, rfl⟩
  have g2 : hI H 38 (i + 2) = a2 := (hx (i + 2)).trans ha2.symm
  obtain ⟨H1, e1, q1, f1⟩ := x_saying q.1 q.2.2.1 a1 a2
  have mq := MR_c f1 q.2.1
  obtain ⟨hx1, hl1, -⟩ := kSc_1 f1 q.2.2.2
  have i1 : hI H1 38 (i + 1) = a1 := (hx1 (i + 1)).trans ha1.symm
  have i2 : hI H1 38 (i + 2) = a2 := (hx1 (i + 2)).trans ha2.symm
  obtain ⟨H2, e2, q2, f2⟩ := y_saying mq q.2.2.1 a1 a2
  refine ⟨H2, S, ?_, ⟨CR_m f2 q1, q2, q.2.2.1, kSc_c f1 f2 q.2.2.2⟩, Nat.le_trans (Nat.le_refl _) (Nat.le_succ _)⟩
  simp only [e151_545, e151_546, e151_547, e151_548, e151_549, e151_550, e151_551, e151_552, e151_553, e151_554, e151_555, e151_556, e151_559, e151_560, e151_561, e151_562, e151_563, e151_564, e151_565, e151_566, e151_567, e151_568, e151_569, e151_570, e151_573, hl, hl1, nI_1, show (2 : Int32) = nI 2 from rfl, q_add, q_lt0 (show i + 1 < 2147483648 by omega), q_cl (show i + 1 < 2147483648 by omega), show ¬ L ≤ i + 1 by omega, g1, i1, q_lt0 (show i + 2 < 2147483648 by omega), q_cl (show i + 2 < 2147483648 by omega), show ¬ L ≤ i + 2 by omega, g2, i2, q_cl (show L < 2147483648 by omega), or_self, if_false, e1, e2, q_bs, q_tl, q_cn, q_nn, if_true]
theorem w_16 (q : lwS L xs H S) (hr : sr S < 100000) {i : Nat} (hi : i + 4 ≤ L) : ∃ (H1 : kH) (S1 : kS), ev 151 578 [.ref 38, .ref 0, .ref 27, .int (nI i)] [] H = ev 151 801 [.ref 38, .ref 0, .ref 27, .int (nI i)] [] H1 ∧ lwS L xs H1 S1 ∧ sr S1 ≤ sr S + 1 := by
  obtain ⟨hx, hl, hL⟩ := q.2.2.2
  obtain ⟨a1, ha1⟩ : ∃ a, a = xs (i + 1) := ⟨_, rfl⟩
  have g1 : hI H 38 (i + 1) = a1 := (hx (i + 1)).trans ha1.symm
  obtain ⟨a2, ha2⟩ : ∃ a, a = xs (i + 2) := ⟨_, rfl⟩
  have g2 : hI H 38 (i + 2) = a2 := (hx (i + 2)).trans ha2.symm
  obtain ⟨H1, e1, q1, f1⟩ : ∃ H1, ev 76 0 [.ref 0, .int a1, .int a2, .null] [] H = some (some (.int (fStat (sV S) a1 a2)), H1) ∧ CR H1 (S) ∧ kFr cC H H1 := ⟨H, x_statutes q.1 q.2.2.1 a1 a2, q.1, kFr.rf⟩
  have mq := MR_c f1 q.2.1
  obtain ⟨hx1, hl1, -⟩ := kSc_1 f1 q.2.2.2
  have i1 : hI H1 38 (i + 1) = a1 := (hx1 (i + 1)).trans ha1.symm
  have i2 : hI H1 38 (i + 2) = a2 := (hx1 (i + 2)).trans ha2.symm
  obtain ⟨H2, e2, q2, f2⟩ := y_statutes mq q.2.2.1 a1 a2
  refine ⟨H2, S, ?_, ⟨CR_m f2 q1, q2, q.2.2.1, kSc_c f1 f2 q.2.2.2⟩, Nat.le_trans (Nat.le_refl _) (Nat.le_succ _)⟩
  simp only [e151_578, e151_579, e151_580, e151_581, e151_582, e151_583, e151_584, e151_585, e151_586, e151_587, e151_588, e151_589, e151_592, e151_593, e151_594, e151_595, e151_596, e151_597, e151_598, e151_599, e151_600, e151_601, e151_602, e151_603, e151_606, hl, hl1, nI_1, show (2 : Int32) = nI 2 from rfl, q_add, q_lt0 (show i + 1 < 2147483648 by omega), q_cl (show i + 1 < 2147483648 by omega), show ¬ L ≤ i + 1 by omega, g1, i1, q_lt0 (show i + 2 < 2147483648 by omega), q_cl (show i + 2 < 2147483648 by omega), show ¬ L ≤ i + 2 by omega, g2, i2, q_cl (show L < 2147483648 by omega), or_self, if_false, e1, e2, q_bs, q_tl, q_cn, q_nn, if_true]
theorem w_17 (q : lwS L xs H S) (hr : sr S < 100000) {i : Nat} (hi : i + 4 ≤ L) : ∃ (H1 : kH) (S1 : kS), ev 151 611 [.ref 38, .ref 0, .ref 27, .int (nI i)] [] H = ev 151 801 [.ref 38, .ref 0, .ref 27, .int (nI i)] [] H1 ∧ lwS L xs H1 S1 ∧ sr S1 ≤ sr S + 1 := by
  obtain ⟨hx, hl, hL⟩ := q.2.2.2
  obtain ⟨a1, ha1⟩ : ∃ a, a = xs (i + 1) := ⟨_, rfl⟩
  have g1 : hI H 38 (i + 1) = a1 := (hx (i + 1)).trans ha1.symm
  obtain ⟨H1, e1, q1, f1⟩ := x_book q.1 q.2.2.1 a1
  have mq := MR_c f1 q.2.1
  obtain ⟨hx1, hl1, -⟩ := kSc_1 f1 q.2.2.2
  have i1 : hI H1 38 (i + 1) = a1 := (hx1 (i + 1)).trans ha1.symm
  obtain ⟨H2, e2, q2, f2⟩ := y_book mq q.2.2.1 a1
  refine ⟨H2, (ssV S (tBook (sV S) a1)), ?_, ⟨CR_m f2 q1, q2, ok_book q.2.2.1 a1, kSc_c f1 f2 q.2.2.2⟩, Nat.le_trans (Nat.le_refl _) (Nat.le_succ _)⟩
  simp only [e151_611, e151_612, e151_613, e151_614, e151_615, e151_616, e151_617, e151_620, e151_621, e151_622, e151_623, e151_624, e151_625, e151_626, e151_629, hl, hl1, nI_1, q_lt0 (show i + 1 < 2147483648 by omega), q_cl (show i + 1 < 2147483648 by omega), show ¬ L ≤ i + 1 by omega, g1, i1, q_cl (show L < 2147483648 by omega), or_self, if_false, e1, e2, q_bs, q_tl, q_cn, q_nn, if_true]
theorem w_18 (q : lwS L xs H S) (hr : sr S < 100000) {i : Nat} (hi : i + 4 ≤ L) : ∃ (H1 : kH) (S1 : kS), ev 151 634 [.ref 38, .ref 0, .ref 27, .int (nI i)] [] H = ev 151 801 [.ref 38, .ref 0, .ref 27, .int (nI i)] [] H1 ∧ lwS L xs H1 S1 ∧ sr S1 ≤ sr S + 1 := by
  obtain ⟨hx, hl, hL⟩ := q.2.2.2
  obtain ⟨H1, e1, q1, f1⟩ := x_forget q.1
  have mq := MR_c f1 q.2.1
  obtain ⟨hx1, hl1, -⟩ := kSc_1 f1 q.2.2.2
  obtain ⟨H2, e2, q2, f2⟩ := y_forget mq
  refine ⟨H2, (ssV S (vsB (sV S) 0 (vB (sV S)))), ?_, ⟨CR_m f2 q1, q2, ok_forget q.2.2.1, kSc_c f1 f2 q.2.2.2⟩, Nat.le_trans (Nat.le_refl _) (Nat.le_succ _)⟩
  simp only [e151_634, e151_635, e151_638, e151_639, e151_642, e1, e2, q_bs, q_tl, q_cn, q_nn, if_true]
theorem w_19 (q : lwS L xs H S) (hr : sr S < 100000) {i : Nat} (hi : i + 4 ≤ L) : ∃ (H1 : kH) (S1 : kS), ev 151 647 [.ref 38, .ref 0, .ref 27, .int (nI i)] [] H = ev 151 801 [.ref 38, .ref 0, .ref 27, .int (nI i)] [] H1 ∧ lwS L xs H1 S1 ∧ sr S1 ≤ sr S + 1 := by
  obtain ⟨hx, hl, hL⟩ := q.2.2.2
  obtain ⟨H1, e1, q1, f1⟩ := x_fits q.1 q.2.2.1
  have mq := MR_c f1 q.2.1
  obtain ⟨hx1, hl1, -⟩ := kSc_1 f1 q.2.2.2
  obtain ⟨H2, e2, q2, f2⟩ := y_fits mq q.2.2.1
  refine ⟨H2, S, ?_, ⟨CR_m f2 q1, q2, q.2.2.1, kSc_c f1 f2 q.2.2.2⟩, Nat.le_trans (Nat.le_refl _) (Nat.le_succ _)⟩
  simp only [e151_647, e151_648, e151_651, e151_652, e151_655, e151_656, e1, e2, q_bs, q_tl, q_cn, q_nn, q_cmpeq, if_true]
theorem w_20 (q : lwS L xs H S) (hr : sr S < 100000) {i : Nat} (hi : i + 4 ≤ L) : ∃ (H1 : kH) (S1 : kS), ev 151 661 [.ref 38, .ref 0, .ref 27, .int (nI i)] [] H = ev 151 801 [.ref 38, .ref 0, .ref 27, .int (nI i)] [] H1 ∧ lwS L xs H1 S1 ∧ sr S1 ≤ sr S + 1 := by
  obtain ⟨hx, hl, hL⟩ := q.2.2.2
  obtain ⟨a1, ha1⟩ : ∃ a, a = xs (i + 1) := ⟨_, rfl⟩
  have g1 : hI H 38 (i + 1) = a1 := (hx (i + 1)).trans ha1.symm
  obtain ⟨a2, ha2⟩ : ∃ a, a = xs (i + 2) := ⟨_, rfl⟩
  have g2 : hI H 38 (i + 2) = a2 := (hx (i + 2)).trans ha2.symm
  obtain ⟨H1, e1, q1, f1⟩ := x_sneezed q.1 q.2.2.1 a1 a2
  have mq := MR_c f1 q.2.1
  obtain ⟨hx1, hl1, -⟩ := kSc_1 f1 q.2.2.2
  have i1 : hI H1 38 (i + 1) = a1 := (hx1 (i + 1)).trans ha1.symm
  have i2 : hI H1 38 (i + 2) = a2 := (hx1 (i + 2)).trans ha2.symm
  obtain ⟨H2, e2, q2, f2⟩ := y_sneezed mq q.2.2.1 a1 a2
  refine ⟨H2, S, ?_, ⟨CR_m f2 q1, q2, q.2.2.1, kSc_c f1 f2 q.2.2.2⟩, Nat.le_trans (Nat.le_refl _) (Nat.le_succ _)⟩
  simp only [e151_661, e151_662, e151_663, e151_664, e151_665, e151_666, e151_667, e151_668, e151_669, e151_670, e151_671, e151_672, e151_675, e151_676, e151_677, e151_678, e151_679, e151_680, e151_681, e151_682, e151_683, e151_684, e151_685, e151_686, e151_689, e151_690, hl, hl1, nI_1, show (2 : Int32) = nI 2 from rfl, q_add, q_lt0 (show i + 1 < 2147483648 by omega), q_cl (show i + 1 < 2147483648 by omega), show ¬ L ≤ i + 1 by omega, g1, i1, q_lt0 (show i + 2 < 2147483648 by omega), q_cl (show i + 2 < 2147483648 by omega), show ¬ L ≤ i + 2 by omega, g2, i2, q_cl (show L < 2147483648 by omega), or_self, if_false, e1, e2, q_bs, q_tl, q_cn, q_nn, q_cmpeq, if_true]
theorem w_21 (q : lwS L xs H S) (hr : sr S < 100000) {i : Nat} (hi : i + 4 ≤ L) : ∃ (H1 : kH) (S1 : kS), ev 151 695 [.ref 38, .ref 0, .ref 27, .int (nI i)] [] H = ev 151 801 [.ref 38, .ref 0, .ref 27, .int (nI i)] [] H1 ∧ lwS L xs H1 S1 ∧ sr S1 ≤ sr S + 1 := by
  obtain ⟨hx, hl, hL⟩ := q.2.2.2
  obtain ⟨a1, ha1⟩ : ∃ a, a = xs (i + 1) := ⟨_, rfl⟩
  have g1 : hI H 38 (i + 1) = a1 := (hx (i + 1)).trans ha1.symm
  obtain ⟨a2, ha2⟩ : ∃ a, a = xs (i + 2) := ⟨_, rfl⟩
  have g2 : hI H 38 (i + 2) = a2 := (hx (i + 2)).trans ha2.symm
  obtain ⟨a3, ha3⟩ : ∃ a, a = xs (i + 3) := ⟨_, rfl⟩
  have g3 : hI H 38 (i + 3) = a3 := (hx (i + 3)).trans ha3.symm
  obtain ⟨H1, e1, q1, f1⟩ := x_years q.1 q.2.2.1 a1 a2 a3
  have mq := MR_c f1 q.2.1
  obtain ⟨hx1, hl1, -⟩ := kSc_1 f1 q.2.2.2
  have i1 : hI H1 38 (i + 1) = a1 := (hx1 (i + 1)).trans ha1.symm
  have i2 : hI H1 38 (i + 2) = a2 := (hx1 (i + 2)).trans ha2.symm
  have i3 : hI H1 38 (i + 3) = a3 := (hx1 (i + 3)).trans ha3.symm
  obtain ⟨H2, e2, q2, f2⟩ := y_years mq q.2.2.1 a1 a2 a3
  refine ⟨H2, S, ?_, ⟨CR_m f2 q1, q2, q.2.2.1, kSc_c f1 f2 q.2.2.2⟩, Nat.le_trans (Nat.le_refl _) (Nat.le_succ _)⟩
  simp only [e151_695, e151_696, e151_697, e151_698, e151_699, e151_700, e151_701, e151_702, e151_703, e151_704, e151_705, e151_706, e151_707, e151_708, e151_709, e151_710, e151_711, e151_714, e151_715, e151_716, e151_717, e151_718, e151_719, e151_720, e151_721, e151_722, e151_723, e151_724, e151_725, e151_726, e151_727, e151_728, e151_729, e151_730, e151_733, hl, hl1, nI_1, show (2 : Int32) = nI 2 from rfl, show (3 : Int32) = nI 3 from rfl, q_add, q_lt0 (show i + 1 < 2147483648 by omega), q_cl (show i + 1 < 2147483648 by omega), show ¬ L ≤ i + 1 by omega, g1, i1, q_lt0 (show i + 2 < 2147483648 by omega), q_cl (show i + 2 < 2147483648 by omega), show ¬ L ≤ i + 2 by omega, g2, i2, q_lt0 (show i + 3 < 2147483648 by omega), q_cl (show i + 3 < 2147483648 by omega), show ¬ L ≤ i + 3 by omega, g3, i3, q_cl (show L < 2147483648 by omega), or_self, if_false, e1, e2, q_bs, q_tl, q_cn, q_nn, if_true]
theorem w_22 (q : lwS L xs H S) (hr : sr S < 100000) {i : Nat} (hi : i + 4 ≤ L) : ∃ (H1 : kH) (S1 : kS), ev 151 738 [.ref 38, .ref 0, .ref 27, .int (nI i)] [] H = ev 151 801 [.ref 38, .ref 0, .ref 27, .int (nI i)] [] H1 ∧ lwS L xs H1 S1 ∧ sr S1 ≤ sr S + 1 := by
  obtain ⟨hx, hl, hL⟩ := q.2.2.2
  obtain ⟨H1, e1, q1, f1⟩ := x_image q.1 q.2.2.1
  have mq := MR_c f1 q.2.1
  obtain ⟨hx1, hl1, -⟩ := kSc_1 f1 q.2.2.2
  obtain ⟨H2, e2, q2, f2⟩ := y_image mq q.2.2.1
  refine ⟨H2, (tImage S), ?_, ⟨CR_m f2 q1, q2, ok_image q.2.2.1, kSc_c f1 f2 q.2.2.2⟩, Nat.le_trans (Nat.le_of_eq (sr_image S)) (Nat.le_succ _)⟩
  simp only [e151_738, e151_739, e151_742, e151_743, e151_746, e1, e2, q_bs, q_tl, q_cn, q_nn, if_true]
theorem w_23 (q : lwS L xs H S) (hr : sr S < 100000) {i : Nat} (hi : i + 4 ≤ L) : ∃ (H1 : kH) (S1 : kS), ev 151 751 [.ref 38, .ref 0, .ref 27, .int (nI i)] [] H = ev 151 801 [.ref 38, .ref 0, .ref 27, .int (nI i)] [] H1 ∧ lwS L xs H1 S1 ∧ sr S1 ≤ sr S + 1 := by
  obtain ⟨hx, hl, hL⟩ := q.2.2.2
  obtain ⟨H1, e1, q1, f1⟩ := x_restore q.1 q.2.2.1
  have mq := MR_c f1 q.2.1
  obtain ⟨hx1, hl1, -⟩ := kSc_1 f1 q.2.2.2
  obtain ⟨H2, e2, q2, f2⟩ := y_restore mq q.2.2.1
  refine ⟨H2, (tRestore S), ?_, ⟨CR_m f2 q1, q2, ok_restore q.2.2.1, kSc_c f1 f2 q.2.2.2⟩, Nat.le_trans (Nat.le_of_eq (sr_restore S)) (Nat.le_succ _)⟩
  simp only [e151_751, e151_752, e151_755, e151_756, e151_759, e1, e2, q_bs, q_tl, q_cn, q_nn, if_true]
theorem w_24 (q : lwS L xs H S) (hr : sr S < 100000) {i : Nat} (hi : i + 4 ≤ L) : ∃ (H1 : kH) (S1 : kS), ev 151 764 [.ref 38, .ref 0, .ref 27, .int (nI i)] [] H = ev 151 801 [.ref 38, .ref 0, .ref 27, .int (nI i)] [] H1 ∧ lwS L xs H1 S1 ∧ sr S1 ≤ sr S + 1 := by
  obtain ⟨hx, hl, hL⟩ := q.2.2.2
  obtain ⟨a1, ha1⟩ : ∃ a, a = xs (i + 1) := ⟨_, rfl⟩
  have g1 : hI H 38 (i + 1) = a1 := (hx (i + 1)).trans ha1.symm
  obtain ⟨H1, e1, q1, f1⟩ : ∃ H1, ev 84 0 [.ref 0, .int a1] [] H = some (some (.int (fCount S a1)), H1) ∧ CR H1 (S) ∧ kFr cC H H1 := ⟨H, x_count q.1 q.2.2.1 a1, q.1, kFr.rf⟩
  have mq := MR_c f1 q.2.1
  obtain ⟨hx1, hl1, -⟩ := kSc_1 f1 q.2.2.2
  have i1 : hI H1 38 (i + 1) = a1 := (hx1 (i + 1)).trans ha1.symm
  obtain ⟨H2, e2, q2, f2⟩ : ∃ H2, ev 148 0 [.ref 27, .int a1] [] H1 = some (some (.int (fCount S a1)), H2) ∧ MR H2 (S) ∧ kFr mC H1 H2 := ⟨H1, y_count mq q.2.2.1 a1, mq, kFr.rf⟩
  refine ⟨H2, S, ?_, ⟨CR_m f2 q1, q2, q.2.2.1, kSc_c f1 f2 q.2.2.2⟩, Nat.le_trans (Nat.le_refl _) (Nat.le_succ _)⟩
  simp only [e151_764, e151_765, e151_766, e151_767, e151_768, e151_769, e151_770, e151_773, e151_774, e151_775, e151_776, e151_777, e151_778, e151_779, e151_782, hl, hl1, nI_1, q_lt0 (show i + 1 < 2147483648 by omega), q_cl (show i + 1 < 2147483648 by omega), show ¬ L ≤ i + 1 by omega, g1, i1, q_cl (show L < 2147483648 by omega), or_self, if_false, e1, e2, q_bs, q_tl, q_cn, q_nn, if_true]
theorem w_25 (q : lwS L xs H S) (hr : sr S < 100000) {i : Nat} (hi : i + 4 ≤ L) : ∃ (H1 : kH) (S1 : kS), ev 151 787 [.ref 38, .ref 0, .ref 27, .int (nI i)] [] H = ev 151 801 [.ref 38, .ref 0, .ref 27, .int (nI i)] [] H1 ∧ lwS L xs H1 S1 ∧ sr S1 ≤ sr S + 1 := by
  obtain ⟨hx, hl, hL⟩ := q.2.2.2
  obtain ⟨H1, e1, q1, f1⟩ := x_digest q.1 q.2.2.1
  have mq := MR_c f1 q.2.1
  obtain ⟨hx1, hl1, -⟩ := kSc_1 f1 q.2.2.2
  obtain ⟨H2, e2, q2, f2⟩ := y_digest mq q.2.2.1
  refine ⟨H2, S, ?_, ⟨CR_m f2 q1, q2, q.2.2.1, kSc_c f1 f2 q.2.2.2⟩, Nat.le_trans (Nat.le_refl _) (Nat.le_succ _)⟩
  simp only [e151_787, e151_788, e151_791, e151_792, e151_795, e151_796, e1, e2, q_bs, q_tl, q_cn, q_nn, q_cmpeq, if_true]
/-- one turn of the law's loop -/
theorem w_turn (q : lwS L xs H S) (hr : sr S < 100000) {i : Nat} (hi : i + 4 ≤ L) : ∃ (H1 : kH) (S1 : kS), ev 151 18 [.ref 38, .ref 0, .ref 27, .int (nI i)] [] H = ev 151 18 [.ref 38, .ref 0, .ref 27, .int (nI (i + 4))] [] H1 ∧ lwS L xs H1 S1 ∧ sr S1 ≤ sr S + 1 := by
  obtain ⟨hx, hl, hL⟩ := q.2.2.2
  have hsub : (nI L - 4).toInt = (L : Int) - 4 := pk_sub_toInt (a := L) (b := 4) (by omega) (by decide)
  have hc : (nI L - 4 < nI i) = False := by
    rw [Int32.lt_iff_toInt_lt, hsub, nI_toInt (by omega)]
    exact eq_false (by omega)
  have e801 : ∀ H1 : kH, ev 151 801 [.ref 38, .ref 0, .ref 27, .int (nI i)] [] H1 = ev 151 18 [.ref 38, .ref 0, .ref 27, .int (nI (i + 4))] [] H1 := fun H1 => by
    simp only [e151_801, e151_804, show (4 : Int32) = nI 4 from rfl, q_add]
  have e32 : ev 151 18 [.ref 38, .ref 0, .ref 27, .int (nI i)] [] H = ev 151 32 [.ref 38, .ref 0, .ref 27, .int (nI i)] [.int (xs i &&& 31)] H := by
    rw [e151_18]
    simp only [e151_19, e151_20, e151_21, e151_22, e151_23, e151_26, e151_27, e151_28, e151_29, e151_31, hl, hc, if_false, q_lt0 (show i < 2147483648 by omega), q_cl (show i < 2147483648 by omega), q_cl (show L < 2147483648 by omega), show ¬ L ≤ i by omega, or_self, hx i]
  rw [e32]
  obtain ⟨k, hk, ek⟩ := q_and31 (xs i)
  rw [ek]
  have go : ∀ pc, ev 151 32 [.ref 38, .ref 0, .ref 27, .int (nI i)] [.int (nI k)] H = ev 151 pc [.ref 38, .ref 0, .ref 27, .int (nI i)] [] H → (∃ (H1 : kH) (S1 : kS), ev 151 pc [.ref 38, .ref 0, .ref 27, .int (nI i)] [] H = ev 151 801 [.ref 38, .ref 0, .ref 27, .int (nI i)] [] H1 ∧ lwS L xs H1 S1 ∧ sr S1 ≤ sr S + 1) → ∃ (H1 : kH) (S1 : kS), ev 151 32 [.ref 38, .ref 0, .ref 27, .int (nI i)] [.int (nI k)] H = ev 151 18 [.ref 38, .ref 0, .ref 27, .int (nI (i + 4))] [] H1 ∧ lwS L xs H1 S1 ∧ sr S1 ≤ sr S + 1 := by
    rintro pc h1 ⟨H1, S1, h2, h3, h4⟩
    exact ⟨H1, S1, by rw [h1, h2, e801], h3, h4⟩
  by_cases h26 : 26 ≤ k
  · exact go 801 (e151_32_d _ _ _ (Or.inr (by rw [nI_toInt (by omega)]; omega))) ⟨H, S, rfl, q, Nat.le_succ _⟩
  rcases (show k = 0 ∨ k = 1 ∨ k = 2 ∨ k = 3 ∨ k = 4 ∨ k = 5 ∨ k = 6 ∨ k = 7 ∨ k = 8 ∨ k = 9 ∨ k = 10 ∨ k = 11 ∨ k = 12 ∨ k = 13 ∨ k = 14 ∨ k = 15 ∨ k = 16 ∨ k = 17 ∨ k = 18 ∨ k = 19 ∨ k = 20 ∨ k = 21 ∨ k = 22 ∨ k = 23 ∨ k = 24 ∨ k = 25 by omega) with rfl | rfl | rfl | rfl | rfl | rfl | rfl | rfl | rfl | rfl | rfl | rfl | rfl | rfl | rfl | rfl | rfl | rfl | rfl | rfl | rfl | rfl | rfl | rfl | rfl | rfl
  · exact go 152 (e151_32_0 _ _) (w_0 q hr hi)
  · exact go 175 (e151_32_1 _ _) (w_1 q hr hi)
  · exact go 188 (e151_32_2 _ _) (w_2 q hr hi)
  · exact go 201 (e151_32_3 _ _) (w_3 q hr hi)
  · exact go 214 (e151_32_4 _ _) (w_4 q hr hi)
  · exact go 247 (e151_32_5 _ _) (w_5 q hr hi)
  · exact go 280 (e151_32_6 _ _) (w_6 q hr hi)
  · exact go 313 (e151_32_7 _ _) (w_7 q hr hi)
  · exact go 346 (e151_32_8 _ _) (w_8 q hr hi)
  · exact go 369 (e151_32_9 _ _) (w_9 q hr hi)
  · exact go 408 (e151_32_10 _ _) (w_10 q hr hi)
  · exact go 431 (e151_32_11 _ _) (w_11 q hr hi)
  · exact go 444 (e151_32_12 _ _) (w_12 q hr hi)
  · exact go 478 (e151_32_13 _ _) (w_13 q hr hi)
  · exact go 522 (e151_32_14 _ _) (w_14 q hr hi)
  · exact go 545 (e151_32_15 _ _) (w_15 q hr hi)
  · exact go 578 (e151_32_16 _ _) (w_16 q hr hi)
  · exact go 611 (e151_32_17 _ _) (w_17 q hr hi)
  · exact go 634 (e151_32_18 _ _) (w_18 q hr hi)
  · exact go 647 (e151_32_19 _ _) (w_19 q hr hi)
  · exact go 661 (e151_32_20 _ _) (w_20 q hr hi)
  · exact go 695 (e151_32_21 _ _) (w_21 q hr hi)
  · exact go 738 (e151_32_22 _ _) (w_22 q hr hi)
  · exact go 751 (e151_32_23 _ _) (w_23 q hr hi)
  · exact go 764 (e151_32_24 _ _) (w_24 q hr hi)
  · exact go 787 (e151_32_25 _ _) (w_25 q hr hi)
theorem w_loop : ∀ n m H S, lwS L xs H S → sr S ≤ m → m + n = 600 → ∃ H1, ev 151 18 [.ref 38, .ref 0, .ref 27, .int (nI (4 * m))] [] H = some (some (.int 1), H1) ∧ kSc L xs H1 := by
  intro n
  have hend : ∀ m H S, lwS L xs H S → m ≤ 600 → L < 4 * m + 4 → ∃ H1, ev 151 18 [.ref 38, .ref 0, .ref 27, .int (nI (4 * m))] [] H = some (some (.int 1), H1) ∧ kSc L xs H1 := by
    intro m H S q hm hlt
    obtain ⟨hx, hl, hL⟩ := q.2.2.2
    have hsub : (nI L - 4).toInt = (L : Int) - 4 := pk_sub_toInt (a := L) (b := 4) (by omega) (by decide)
    have hc : (nI L - 4 < nI (4 * m)) = True := by
      rw [Int32.lt_iff_toInt_lt, hsub, nI_toInt (by omega)]
      exact eq_true (by omega)
    refine ⟨H, ?_, q.2.2.2⟩
    rw [e151_18]
    simp only [e151_19, e151_20, e151_21, e151_22, e151_23, e151_807, e151_808, hl, hc, if_true, or_true]
  induction n with
  | zero =>
    intro m H S q hs hm
    have hL := q.2.2.2.2.2
    exact hend m H S q (by omega) (by omega)
  | succ n ih =>
    intro m H S q hs hm
    by_cases hlt : L < 4 * m + 4
    · exact hend m H S q (by omega) hlt
    · obtain ⟨H1, S1, e1, q1, s1⟩ := w_turn q (by omega) (i := 4 * m) (by omega)
      obtain ⟨H2, e2, q2⟩ := ih (m + 1) H1 S1 q1 (by omega) (by omega)
      refine ⟨H2, ?_, q2⟩
      rw [e1, ← e2]
      rfl
end KLW
